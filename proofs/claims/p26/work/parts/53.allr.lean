/-! ===== setAll: the other ===== -/
theorem pLs_b {t : Nat → Int} {n : Nat} (hn : n ≤ 60) : ∀ (k p : Nat) (L : List Ar), k + L.length = 31 → 2 * L.length ≤ p → p ≤ n → (-1 ≤ (pLs t n k p L).1 ∧ (pLs t n k p L).1 ≤ 60) ∧ (pLs t n k p L).2.length ≤ 30
  | 0, p, L, h1, h2, h3 => by omega
  | k + 1, p, L, h1, h2, h3 => by
    have hb := pAl_b (t := t) h3
    rw [pLs_s]
    cases hf : (pAl t n p).2 with
    | none => exact ⟨⟨by show -1 ≤ ((pAl t n p).1 : Int); omega, by show ((pAl t n p).1 : Int) ≤ 60; omega⟩, by show L.length ≤ 30; omega⟩
    | some e =>
      dsimp only
      have hbe := (hb.2.2 e hf).1
      have hll : (L ++ [e]).length = L.length + 1 := by rw [List.length_append]; rfl
      split
      · next hsg => exact pLs_b hn k _ _ (by omega) (by omega) (by have := hsg.1; omega)
      · split
        · exact ⟨⟨by show -1 ≤ (-1 : Int); omega, by show (-1 : Int) ≤ 60; omega⟩, by show (L ++ [e]).length ≤ 30; omega⟩
        · exact ⟨⟨by show -1 ≤ ((pAl t n p).1 : Int); omega, by show ((pAl t n p).1 : Int) ≤ 60; omega⟩, by show (L ++ [e]).length ≤ 30; omega⟩
theorem SysR.yf {G G' : Mm} {A : Nat} {Z : Zst} (h : SysR G A Z) (hy : YF G G' A) : SysR G' A Z := by
  obtain ⟨h1, h2, h3, h4, ⟨p1, p2, p3, p4⟩, ht⟩ := h
  have hr : ∀ q, q ≠ A + 6 → q ≠ A → G'.1 q = G.1 q := fun q g1 g2 => by funext k; exact hy.2 q k g1 (by omega)
  refine ⟨by rw [hy.1]; exact h1, by rw [hy.2 A 5 (by omega) (by omega)]; exact h2, h3.fr (hr _ (by omega) (by omega)), h4.fr (hr _ (by omega) (by omega)), ⟨by rw [hy.1]; exact p1, by rw [hy.2 A 3 (by omega) (by omega)]; exact p2, p3, fun i M hi => ?_⟩, ht.yf hy⟩
  obtain ⟨⟨f, g1, g2⟩, g3⟩ := p4 i M hi
  exact ⟨⟨f, fun k hk => by rw [hr (A + 3) (by omega) (by omega)]; exact g1 k hk, g2⟩, g3⟩
theorem YF.FR {G G' : Mm} {A : Nat} (h : YF G G' A) : FR A 7 G G' := fun q hq => ⟨by funext k; exact h.2 q k (by omega) (by omega), by rw [h.1]⟩
