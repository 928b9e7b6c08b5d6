/-! ===== the other class as a whole: its rows, its past ===== -/
theorem RepR.cpy {f w : Ar} {M : Ms} (h : RepR f M) (hl : M.2.1.length ≤ 20) (hl8 : M.2.2.2.length ≤ 8) (hw : ∀ k, k < 195 → w k = f k) : RepR w M := by
  obtain ⟨⟨s2, s0⟩, hA, hc, hl2, hlg⟩ := h
  refine ⟨⟨by rw [hw 2 (by omega)]; exact s2, fun m hm hm2 => by rw [hw m (by omega)]; exact s0 m hm hm2⟩, hA.eq (fun q h1 h2 => hw q (by omega)), fun c hc4 => by rw [hw _ (by omega), hw _ (by omega)]; exact hc c hc4, by rw [hw 194 (by omega)]; exact hl2, fun j e he q hq => ?_⟩
  have := log_lt he
  rw [hw _ (by omega)]
  exact hlg j e he q hq
theorem log_lt' {α : Type} {g : List α} {j : Nat} {e : α} (h : g[j]? = some e) : j < g.length := by
  rcases Nat.lt_or_ge j g.length with q | q
  · exact q
  · rw [List.getElem?_eq_none q] at h; cases h
/-- row a2 has, from x3 on, what row a0 has from x1 on -/
def LayP (G G' : Mm) (a0 x1 a2 x3 : Nat) : Prop := RO G G' a2 ∧ (∀ k, k < 195 → G'.1 a2 (x3 + k) = G.1 a0 (x1 + k)) ∧ ∀ q, q < x3 ∨ x3 + 195 ≤ q → G'.1 a2 q = G.1 a2 q
/-- a row that stands for a state -/
def KR (G : Mm) (a : Nat) (o : Option Ms) : Prop := ∀ M, o = some M → (∃ f, RV G a f ∧ RepR f M) ∧ M.2.1.length ≤ 20 ∧ M.2.2.2.length ≤ 8
theorem RV.row {G : Mm} {a : Nat} : RV G a (fun k => (G.1 a k).toInt) := fun k => (jI_of _).symm
theorem KR.fr {G G' : Mm} {a : Nat} {o : Option Ms} (h : KR G a o) (hf : G'.1 a = G.1 a) : KR G' a o := by
  intro M hM
  obtain ⟨⟨f, h1, h2⟩, h3⟩ := h M hM
  exact ⟨⟨f, fun k => by rw [hf]; exact h1 k, h2⟩, h3⟩
theorem KR.mk {G : Mm} {a : Nat} {f : Ar} {M : Ms} {T K : Int} (h1 : RV G a f) (h2 : RepR f M) (hB : BI M T K) : KR G a (some M) := fun N q => by rw [← Option.some.inj q]; exact ⟨⟨f, h1, h2⟩, hB.2.1, hB.l8⟩
/-- what is laid stands for the same -/
theorem KR.lay {G G' : Mm} {a0 a2 : Nat} {M : Ms} (h : KR G a0 (some M)) (hl : ∀ k, k < 195 → G'.1 a2 k = G.1 a0 k) : KR G' a2 (some M) := by
  intro N q
  have q := Option.some.inj q
  subst q
  obtain ⟨⟨f, h1, h2⟩, h3, h4⟩ := h M rfl
  refine ⟨⟨fun k => if k < 195 then f k else (G'.1 a2 k).toInt, fun k => ?_, h2.cpy h3 h4 (fun k hk => if_pos hk)⟩, h3, h4⟩
  show G'.1 a2 k = jI (if k < 195 then f k else (G'.1 a2 k).toInt)
  by_cases hk : k < 195
  · rw [if_pos hk, hl k hk, h1 k]
  · rw [if_neg hk, jI_of]
/-- the past: the oldest first -/
def HR (G : Mm) (A : Nat) (H : List Ms) : Prop := G.2 A 2 = A + 3 ∧ G.1 A 3 = jI (H.length : Int) ∧ H.length ≤ 4 ∧ ∀ (i : Nat) (N : Ms), H[i]? = some N → (∃ f : Ar, (∀ k, k < 195 → G.1 (A + 3) (195 * i + k) = jI (f k)) ∧ RepR f N) ∧ N.2.1.length ≤ 20 ∧ N.2.2.2.length ≤ 8
/-- only the past and its length have changed -/
def RZ (G G' : Mm) (A : Nat) : Prop := G'.2 = G.2 ∧ ∀ q k, q ≠ A + 3 → ¬ (q = A ∧ k = 3) → G'.1 q k = G.1 q k
theorem RZ.rf {G : Mm} {A : Nat} : RZ G G A := ⟨rfl, fun _ _ _ _ => rfl⟩
theorem RZ.tr {G G1 G2 : Mm} {A : Nat} (h : RZ G G1 A) (h' : RZ G1 G2 A) : RZ G G2 A := ⟨h'.1.trans h.1, fun q k h1 h2 => (h'.2 q k h1 h2).trans (h.2 q k h1 h2)⟩
theorem RO.z {G G' : Mm} {A : Nat} (h : RO G G' (A + 3)) : RZ G G' A := ⟨h.1, fun q k h1 _ => by rw [h.2 q h1]⟩
theorem RZ.w3 {G : Mm} {A : Nat} {x : Int32} : RZ G (wI G A 3 x) A := ⟨rfl, fun q k _ h2 => wI_n h2⟩
