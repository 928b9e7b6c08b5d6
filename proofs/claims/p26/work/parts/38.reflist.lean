/-! ===== the other class reads alarms and the list ===== -/
def TL (G : Mm) (A : Nat) (L : List Ar) : Prop := ∀ (j : Nat) (e : Ar), L[j]? = some e → G.1 (A + 6) (3 * j) = jI (e 0) ∧ G.1 (A + 6) (3 * j + 1) = jI (e 1) ∧ G.1 (A + 6) (3 * j + 2) = jI (e 2)
def YF (G G' : Mm) (A : Nat) : Prop := G'.2 = G.2 ∧ ∀ q k, q ≠ A + 6 → ¬ (q = A ∧ (k = 8 ∨ k = 10)) → G'.1 q k = G.1 q k
theorem YF.rf {G : Mm} {A : Nat} : YF G G A := ⟨rfl, fun _ _ _ _ => rfl⟩
theorem YF.tr {G G1 G2 : Mm} {A : Nat} (h : YF G G1 A) (h' : YF G1 G2 A) : YF G G2 A := ⟨h'.1.trans h.1, fun r k h1 h2 => (h'.2 r k h1 h2).trans (h.2 r k h1 h2)⟩
theorem YN.f {G G' : Mm} {A p : Nat} (h : YN G G' A p) : YF G G' A := ⟨h.1, fun q k h1 h2 => h.2.1 q k h1 (by omega)⟩
theorem YF.w10 {G : Mm} {A : Nat} {x : Int32} : YF G (wI G A 10 x) A := ⟨rfl, fun q k _ h => wI_n (by omega)⟩
theorem TR.yf {G G' : Mm} {A n : Nat} {t : Nat → Int} (h : TR G A t n) (hx : YF G G' A) : TR G' A t n := by
  obtain ⟨h1, h2, h3, h4⟩ := h
  refine ⟨by rw [hx.1]; exact h1, by rw [hx.2 A 7 (by omega) (by omega)]; exact h2, h3, fun i hi => ?_⟩
  rw [hx.2 (A + 5) i (by omega) (by omega)]
  exact h4 i hi
