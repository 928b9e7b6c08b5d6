/-! ===== setAll: the other ===== -/
theorem pLs_b {t : Nat → Int} {n : Nat} (hn : n ≤ 60) : ∀ (k p : Nat) (L : List Ar), k + L.length = 31 → 2 * L.length ≤ p → p ≤ n → (-1 ≤ (pLs t n k p L).1 ∧ (pLs t n k p L).1 ≤ 60) ∧ (pLs t n k p L).2.length ≤ 30
  | 0, p, L, h1, h2, h3 => by omega
  | k + 1, p, L, h1, h2, h3 => by
    have hb := pAl_b (t := t) h3
    rw [pLs_s]
    cases hf : (pAl t n p).2 with
    | none => exact ⟨⟨by show -1 ≤ ((pAl t n p).1 : Int); omega, by show ((pAl t n p).1 : Int) ≤ 60; omega⟩, by show L.length ≤ 30; omega⟩
    | some e =>
      dsimp only
      have hbe := (hb.2.2 e hf).1
      have hll : (L ++ [e]).length = L.length + 1 := by rw [List.length_append]; rfl
      split
      · next hsg => exact pLs_b hn k _ _ (by omega) (by omega) (by have := hsg.1; omega)
      · split
        · exact ⟨⟨by show -1 ≤ (-1 : Int); omega, by show (-1 : Int) ≤ 60; omega⟩, by show (L ++ [e]).length ≤ 30; omega⟩
        · exact ⟨⟨by show -1 ≤ ((pAl t n p).1 : Int); omega, by show ((pAl t n p).1 : Int) ≤ 60; omega⟩, by show (L ++ [e]).length ≤ 30; omega⟩
theorem SysR.yf {G G' : Mm} {A : Nat} {Z : Zst} (h : SysR G A Z) (hy : YF G G' A) : SysR G' A Z := by
  obtain ⟨h1, h2, h3, h4, ⟨p1, p2, p3, p4⟩, ht⟩ := h
  have hr : ∀ q, q ≠ A + 6 → q ≠ A → G'.1 q = G.1 q := fun q g1 g2 => by funext k; exact hy.2 q k g1 (by omega)
  refine ⟨by rw [hy.1]; exact h1, by rw [hy.2 A 5 (by omega) (by omega)]; exact h2, h3.fr (hr _ (by omega) (by omega)), h4.fr (hr _ (by omega) (by omega)), ⟨by rw [hy.1]; exact p1, by rw [hy.2 A 3 (by omega) (by omega)]; exact p2, p3, fun i M hi => ?_⟩, ht.yf hy⟩
  obtain ⟨⟨f, g1, g2⟩, g3⟩ := p4 i M hi
  exact ⟨⟨f, fun k hk => by rw [hr (A + 3) (by omega) (by omega)]; exact g1 k hk, g2⟩, g3⟩
theorem YF.FR {G G' : Mm} {A : Nat} (h : YF G G' A) : FR A 7 G G' := fun q hq => ⟨by funext k; exact h.2 q k (by omega) (by omega), by rw [h.1]⟩
theorem sp_allR {G : Mm} {A : Nat} {Z : Zst} {T K : Int} {Q : dp_Ps} (h : SysR G A Z) (hz : ZI Z T K)
    (hq : ∀ G', SysR G' A (zAll Z).2 → FR A 7 G G' → Q (jI (zAll Z).1) G') : Sp 109 3 [vR 8 A] G Q := by
  have hm := hz.1.1
  have hs := hm.1
  have hl := hm.2.1
  have h99 := hz.1.2.2
  unfold SI at hs
  obtain ⟨f, hV, hR⟩ := h.2.2.1.get
  have e0 : f 0 = Z.1.1 0 := hR.1.2 0 (by decide) (by decide)
  have e3 : f 3 = Z.1.1 6 := hR.1.2 3 (by decide) (by decide)
  have hT := h.2.2.2.2.2
  have hok := pLs_ok (t := Z.2.2.2.1) (n := Z.2.2.2.2) 31 0 [] (by omega) (fun e he => by cases he)
  have hbd := pLs_b (t := Z.2.2.2.1) (n := Z.2.2.2.2) hT.2.2.1 31 0 [] rfl (by decide) (by omega)
  unfold zAll at hq
  apply vcX8_setAll
  refine sp_fault hT (fun G1 y1 y2 y3 => ?_)
  generalize pLs Z.2.2.2.1 Z.2.2.2.2 31 0 [] = R at *
  have s1 := h.yf y1
  have V1 : RV G1 (A + 1) f := fun k => by rw [y1.2 (A + 1) k (by omega) (by omega)]; exact hV k
  by_cases q : R.1 = -1
  · rw [if_pos q]
    refine ⟨fun _ => ?_, fun z => absurd rfl z⟩
    rw [if_neg (fun z => z q)] at hq
    have chk : ∀ j i : Nat, ∀ w1 : Option Vl, j = R.2.length - i → i ≤ R.2.length → (∀ r e, r < i → R.2[r]? = some e → Z.1.1 0 ≤ e 0) → Wp 109 20 [some (vR 8 A), w1, some (vI (jI (i : Int)))] [] G1 Q := by
      intro j
      induction j with
      | zero =>
        intro i w1 hj hi hall
        have hno : ¬ R.2.any (fun e => decide (e 0 < Z.1.1 0)) = true := by
          rw [List.any_eq_true]
          rintro ⟨e, he, hlt⟩
          have hlt : e 0 < Z.1.1 0 := of_decide_eq_true hlt
          obtain ⟨r, hr⟩ := List.mem_iff_getElem?.mp he
          have := hall r e (by have := log_lt' hr; omega) hr
          omega
        rw [if_neg hno] at hq
        apply vcX8_setAll_20
        rw [y2, s1.1.1, V1 2, V1 3, hR.1.1, e3, jI_le (inR_n (by omega)) (inR_n (by omega)), jI_add, jI_add, jI_lt (inR_s (by omega) (by omega)) ⟨by omega, by omega⟩, jI_le ⟨by omega, by omega⟩ (inR_s (by omega) (by omega))]
        refine ⟨fun _ => ⟨fun q2 => ?_, fun q2 => ⟨fun q3 => ?_, fun q3 => ?_⟩⟩, fun z => by omega⟩
        · rw [if_pos (by omega)] at hq
          exact hq G1 s1 y1.FR
        · rw [if_neg (by omega)] at hq
          refine sp_recR s1 (fun G2 k1 k2 => ?_)
          have loop : ∀ j i : Nat, ∀ (G3 : Mm) (w : Ar) (M : Ms), j = R.2.length - i → i ≤ R.2.length → RV G3 (A + 1) w → RO G2 G3 (A + 1) → RepR w M → GI M T K → M.2.1.length + (R.2.length - i) ≤ 20 → M.1 6 + ((R.2.length - i : Nat) : Int) ≤ 500 → adds (R.2.drop i) M = adds R.2 Z.1 → Wp 109 98 [some (vR 8 A), w1, some (vI (jI (i : Int)))] [] G3 Q := by
            intro j
            induction j with
            | zero =>
              intro i G3 w M hj hi hV3 hO3 hR3 hg h20 h500 he
              have k3 := k1.main hO3 (KR.mk hV3 hR3 hg.1.B)
              have hd : R.2.drop i = [] := List.drop_eq_nil_of_le (by omega)
              rw [hd] at he
              have he : M = adds R.2 Z.1 := he
              have e10 : G3.1 A 10 = jI (R.2.length : Int) := by rw [hO3.2 A (by omega), k2.2 A 10 (by omega) (by omega)]; exact y2
              apply vcX8_setAll_98
              rw [e10, jI_le (inR_n (by omega)) (inR_n (by omega)), k3.1.1, hV3 2, hR3.1.1]
              refine ⟨fun _ => ?_, fun z => by omega⟩
              rw [he] at k3 ⊢
              exact hq G3 k3 (y1.FR.tr (k2.FR.tr (hO3.FR (by omega))))
            | succ j ih =>
              intro i G3 w M hj hi hV3 hO3 hR3 hg h20 h500 he
              have hi1 : i < R.2.length := by omega
              have k3 := k1.main hO3 (KR.mk hV3 hR3 hg.1.B)
              have e10 : G3.1 A 10 = jI (R.2.length : Int) := by rw [hO3.2 A (by omega), k2.2 A 10 (by omega) (by omega)]; exact y2
              have e6 : G3.1 (A + 6) = G1.1 (A + 6) := by rw [hO3.2 _ (by omega)]; funext r; exact k2.2 (A + 6) r (by omega) (by omega)
              obtain ⟨t1, t2, t3⟩ := y3 i _ (List.getElem?_eq_getElem hi1)
              obtain ⟨a1, a2, a3⟩ := hok _ (List.getElem_mem hi1)
              have c0 : (jI ((3 : Int) * (i : Int))).toNatClampNeg = 3 * i := by rw [jI_cl (by omega) (by omega)]; omega
              have c1 : (jI ((3 : Int) * (i : Int) + 1)).toNatClampNeg = 3 * i + 1 := by rw [jI_cl (by omega) (by omega)]; omega
              have c2 : (jI ((3 : Int) * (i : Int) + 2)).toNatClampNeg = 3 * i + 2 := by rw [jI_cl (by omega) (by omega)]; omega
              apply vcX8_setAll_98
              rw [e10, jI_le (inR_n (by omega)) (inR_n (by omega))]
              simp only [jI_mul, jI_add]
              rw [c0, c1, c2, k3.2.2.2.2.2.1.2, e6, t1, t2, t3, k3.1.1, show ((i : Int) + 1) = ((i + 1 : Nat) : Int) by omega]
              refine ⟨fun z => by omega, fun _ => ⟨jI_in (by omega) (by omega) (by omega), jI_in (by omega) (by omega) (by omega), jI_in (by omega) (by omega) (by omega), ?_⟩⟩
              have hg2 := mAdd_GI (t := R.2[i] 0) (p := R.2[i] 1) (r := R.2[i] 2) hg (by omega) (by omega) (by omega) a2 a3
              have hl2 := mAdd_len (t := R.2[i] 0) (p := R.2[i] 1) (r := R.2[i] 2) hg (by omega) (by omega) (by omega) a2 a3
              refine sp_rsets hV3 hR3 hg.1 (by omega) (by omega) (by omega) a2 a3 (fun G4 w4 k4 k5 k6 k7 k8 => ?_)
              rw [List.drop_eq_getElem_cons hi1] at he
              exact ih (i + 1) G4 w4 _ (by omega) hi1 k4 (hO3.tr k5) k6 hg2 (by omega) (by omega) he
          exact loop R.2.length 0 G2 f Z.1 (by omega) (by omega) (k2.row V1) RO.rf hR hz.1 (by omega) (by omega) rfl
        · rw [if_pos (by omega)] at hq
          exact hq G1 s1 y1.FR
      | succ j ih =>
        intro i w1 hj hi hall
        have hi1 : i < R.2.length := by omega
        obtain ⟨t1, t2, t3⟩ := y3 i _ (List.getElem?_eq_getElem hi1)
        obtain ⟨a1, a2, a3⟩ := hok _ (List.getElem_mem hi1)
        have c0 : (jI ((3 : Int) * (i : Int))).toNatClampNeg = 3 * i := by rw [jI_cl (by omega) (by omega)]; omega
        apply vcX8_setAll_20
        rw [y2, jI_le (inR_n (by omega)) (inR_n (by omega))]
        simp only [jI_mul, jI_add]
        rw [c0, s1.2.2.2.2.2.1.2, t1, s1.1.1, V1 0, e0, jI_le ⟨by omega, by omega⟩ ⟨by omega, by omega⟩, show ((i : Int) + 1) = ((i + 1 : Nat) : Int) by omega]
        refine ⟨fun z => by omega, fun _ => ⟨jI_in (by omega) (by omega) (by omega), fun q2 => ih (i + 1) w1 (by omega) hi1 (fun r e hr he => ?_), fun q2 => ?_⟩⟩
        · by_cases hri : r = i
          · subst hri
            rw [List.getElem?_eq_getElem hi1] at he
            rw [← Option.some.inj he]; exact q2
          · exact hall r e (by omega) he
        · have hyes : R.2.any (fun e => decide (e 0 < Z.1.1 0)) = true := List.any_eq_true.mpr ⟨_, List.getElem_mem hi1, decide_eq_true (by omega)⟩
          rw [if_pos hyes] at hq
          exact hq G1 s1 y1.FR
    exact chk R.2.length 0 _ (by omega) (by omega) (fun r e hr => by omega)
  · rw [if_neg q]
    rw [if_pos q] at hq
    rw [jI_inj ⟨by omega, by omega⟩ (inR_s (by omega) (by omega)), jI_sub]
    exact ⟨fun z => by omega, fun _ => hq G1 s1 y1.FR⟩
