/-! ===== the other class reads the list ===== -/
def TR (G : Mm) (A : Nat) (t : Nat → Int) (n : Nat) : Prop := (G.2 A 6 = A + 5 ∧ G.2 A 9 = A + 6) ∧ G.1 A 7 = jI (n : Int) ∧ n ≤ 60 ∧ ∀ i, i < n → G.1 (A + 5) i = jI (t i) ∧ 0 ≤ t i ∧ t i ≤ 65535
/-- only the place of reading and what is told have changed -/
def YN (G G' : Mm) (A p : Nat) : Prop := G'.2 = G.2 ∧ (∀ q k, q ≠ A + 6 → ¬ (q = A ∧ k = 8) → G'.1 q k = G.1 q k) ∧ G'.1 A 8 = jI (p : Int)
theorem YN.rf {G : Mm} {A p : Nat} (h : G.1 A 8 = jI (p : Int)) : YN G G A p := ⟨rfl, fun _ _ _ _ => rfl, h⟩
theorem YN.tr {G G1 G2 : Mm} {A p q : Nat} (h : YN G G1 A p) (h' : YN G1 G2 A q) : YN G G2 A q := ⟨h'.1.trans h.1, fun r k h1 h2 => (h'.2.1 r k h1 h2).trans (h.2.1 r k h1 h2), h'.2.2⟩
theorem YN.w8 {G : Mm} {A p : Nat} : YN G (wI G A 8 (jI (p : Int))) A p := ⟨rfl, fun q k _ h => wI_n h, wI_s _ _ _ _⟩
theorem YN.w6 {G : Mm} {A p k : Nat} {x : Int32} (h : G.1 A 8 = jI (p : Int)) : YN G (wI G (A + 6) k x) A p := ⟨rfl, fun q k h1 _ => wI_n (fun z => h1 z.1), by rw [wI_n (by omega)]; exact h⟩
theorem TR.yn {G G' : Mm} {A n p : Nat} {t : Nat → Int} (h : TR G A t n) (hx : YN G G' A p) : TR G' A t n := by
  obtain ⟨h1, h2, h3, h4⟩ := h
  refine ⟨by rw [hx.1]; exact h1, by rw [hx.2.1 A 7 (by omega) (by omega)]; exact h2, h3, fun i hi => ?_⟩
  rw [hx.2.1 (A + 5) i (by omega) (by omega)]
  exact h4 i hi
