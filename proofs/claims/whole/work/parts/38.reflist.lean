/-! ===== the other class reads alarms and the list ===== -/
def TL (G : Mm) (A : Nat) (L : List Ar) : Prop := ∀ (j : Nat) (e : Ar), L[j]? = some e → G.1 (A + 6) (3 * j) = jI (e 0) ∧ G.1 (A + 6) (3 * j + 1) = jI (e 1) ∧ G.1 (A + 6) (3 * j + 2) = jI (e 2)
theorem sp_told {G : Mm} {A n p cnt : Nat} {t : Nat → Int} {Q : dp_Ps} (hT : TR G A t n) (hp : G.1 A 8 = jI (p : Int)) (hpn : p ≤ n) (hc : G.1 A 10 = jI (cnt : Int)) (hc31 : cnt ≤ 31)
    (h1 : ∀ e, (pAl t n p).2 = some e → ∀ G', YN G G' A (pAl t n p).1 → (∀ k, k < 3 * cnt → G'.1 (A + 6) k = G.1 (A + 6) k) → G'.1 (A + 6) (3 * cnt) = jI (e 0) ∧ G'.1 (A + 6) (3 * cnt + 1) = jI (e 1) ∧ G'.1 (A + 6) (3 * cnt + 2) = jI (e 2) → Q (jI 1) G')
    (h0 : (pAl t n p).2 = none → ∀ G', YN G G' A (pAl t n p).1 → (∀ k, k < 3 * cnt → G'.1 (A + 6) k = G.1 (A + 6) k) → Q (jI 0) G') : Sp 125 1 [vR 8 A] G Q := by
  have ten : ∀ (G1 : Mm) (p1 : Nat), YN G G1 A p1 → G1.1 A 10 = jI (cnt : Int) := fun G1 p1 hy => by rw [hy.2.1 A 10 (by omega) (by omega)]; exact hc
  have rank : ∀ (G8 : Mm) (p2 : Nat) (tm pr : Int), YN G G8 A p2 → p2 ≤ n → (∀ k, k < 3 * cnt → G8.1 (A + 6) k = G.1 (A + 6) k) → G8.1 (A + 6) (3 * cnt) = jI tm → G8.1 (A + 6) (3 * cnt + 1) = jI pr → G8.1 (A + 6) (3 * cnt + 2) = jI 0 → (pAl t n p = if (pRnk t n p2).2 = -1 then ((pRnk t n p2).1, none) else ((pRnk t n p2).1, some (tr3 tm pr (pRnk t n p2).2))) →
      Sp 123 3 [vR 8 A, vI (jI 33)] G8 (fun y11 G12 => (y11 = jI 0 → Q (jI 1) G12) ∧ (¬ y11 = jI 0 → Sp 124 5 [vR 8 A, vI (jI 2), vI (jI 1), vI (jI 3)] G12 (fun y15 G16 => (y15 = jI 0 → Q (jI 0) G16) ∧ (¬ y15 = jI 0 → Q (jI 1) G16)))) := by
    intro G8 p2 tm pr hy hp2 hlo ht0 ht1 ht2 he
    unfold pRnk at he
    refine sp_takes (hT.yn hy) hy.2.2 hp2 (inR_s (by omega) (by omega)) (fun hsg G2 k1 k2 => ⟨fun z => absurd z (by decide), fun _ => ?_⟩) (fun hsg G2 k1 k2 => ⟨fun _ => ?_, fun z => absurd rfl z⟩)
    · rw [if_pos hsg] at he
      have hy2 := hy.tr k1
      refine sp_isNum (i := 2) (hT.yn hy2) hy2.2.2 (by have := hsg.1; omega) (ten _ _ hy2) hc31 (by omega) (by omega) (by omega) (fun g0 g1 => ⟨fun _ => ?_, fun z => absurd rfl z⟩) (fun g1 G3 k3 k4 k5 => ⟨fun z => absurd z (by decide), fun _ => ?_⟩)
      · rw [if_pos g0] at he
        rw [he] at h0
        refine h0 rfl G2 (by rw [g1]; exact hy2) (fun k hk => by rw [k2]; exact hlo k hk)
      · rw [if_neg g1] at he
        rw [he] at h1
        refine h1 _ rfl G3 (hy2.tr k3) (fun k hk => by rw [k4 k (by omega), k2]; exact hlo k hk) ⟨?_, ?_, k5⟩
        · rw [k4 _ (by omega), k2]; exact ht0
        · rw [k4 _ (by omega), k2]; exact ht1
    · rw [if_neg hsg, if_neg (by show ¬ (0 : Int) = -1; omega)] at he
      rw [he] at h1
      refine h1 _ rfl G2 (hy.tr k1) (fun k hk => by rw [k2]; exact hlo k hk) ⟨?_, ?_, ?_⟩
      · rw [k2]; exact ht0
      · rw [k2]; exact ht1
      · rw [k2]; exact ht2
  have c1 : (jI ((3 : Int) * (cnt : Int) + 1)).toNatClampNeg = 3 * cnt + 1 := by rw [jI_cl (by omega) (by omega)]; omega
  have c2 : (jI ((3 : Int) * (cnt : Int) + 2)).toNatClampNeg = 3 * cnt + 2 := by rw [jI_cl (by omega) (by omega)]; omega
  have hb := pNum_b (t := t) (n := n) (lo := 0) (hi := 99999) hpn
  have hA : pAl t n p = pAl t n p := rfl
  conv at hA => rhs; unfold pAl
  apply vcX8_isAlarmTold
  rw [hc, hT.1.2]
  simp only [jI_mul, jI_add]
  refine ⟨jI_in (by omega) (by omega) (by omega), ?_⟩
  rintro _ rfl
  rw [c1]
  have y1 : YN G (wI G (A + 6) (3 * cnt + 1) (jI 0)) A p := YN.w6 hp
  rw [ten _ _ y1, y1.1, hT.1.2]
  simp only [jI_mul, jI_add]
  refine ⟨jI_in (by omega) (by omega) (by omega), ?_⟩
  rintro _ rfl
  rw [c2]
  have y2 : YN G (wI (wI G (A + 6) (3 * cnt + 1) (jI 0)) (A + 6) (3 * cnt + 2) (jI 0)) A p := y1.tr (YN.w6 y1.2.2)
  refine sp_isNum (i := 0) (hT.yn y2) y2.2.2 hpn (ten _ _ y2) hc31 (by omega) (by omega) (by omega) (fun g0 g1 => ⟨fun _ => ?_, fun z => absurd rfl z⟩) (fun g1 G3 k3 k4 k5 => ⟨fun z => absurd z (by decide), fun _ => ?_⟩)
  · rw [if_pos g0] at hA
    rw [hA] at h0
    exact h0 rfl _ (by rw [g1]; exact y2) (fun k hk => by rw [wI_n (by omega), wI_n (by omega)])
  · rw [if_neg g1] at hA
    have y3 := y2.tr k3
    have lo3 : ∀ k, k < 3 * cnt → G3.1 (A + 6) k = G.1 (A + 6) k := fun k hk => by rw [k4 k (by omega), wI_n (by omega), wI_n (by omega)]
    have t1 : G3.1 (A + 6) (3 * cnt + 1) = jI 0 := by rw [k4 _ (by omega), wI_n (by omega), wI_s]
    have t2 : G3.1 (A + 6) (3 * cnt + 2) = jI 0 := by rw [k4 _ (by omega), wI_s]
    unfold pPer at hA
    refine sp_takes (hT.yn y3) y3.2.2 (by omega) (inR_s (by omega) (by omega)) (fun hsg G4 k6 k7 => ⟨fun z => absurd z (by decide), fun _ => ?_⟩) (fun hsg G4 k6 k7 => ⟨fun _ => ?_, fun z => absurd rfl z⟩)
    · rw [if_pos hsg] at hA
      have y4 := y3.tr k6
      have hb2 := pNum_b (t := t) (n := n) (lo := 1) (hi := 9999) (p := (pNum t n 0 99999 p).1 + 1) (by have := hsg.1; omega)
      refine sp_isNum (i := 1) (hT.yn y4) y4.2.2 (by have := hsg.1; omega) (ten _ _ y4) hc31 (by omega) (by omega) (by omega) (fun q0 q1 => ⟨fun _ => ?_, fun z => absurd rfl z⟩) (fun q1 G5 k8 k9 k10 => ⟨fun z => absurd z (by decide), fun _ => ?_⟩)
      · rw [if_pos q0] at hA
        rw [hA] at h0
        exact h0 rfl G4 (by rw [q1]; exact y4) (fun k hk => by rw [k7]; exact lo3 k hk)
      · rw [if_neg q1] at hA
        refine rank G5 _ _ _ (y4.tr k8) (by omega) (fun k hk => by rw [k9 k (by omega), k7]; exact lo3 k hk) ?_ k10 ?_ hA
        · rw [k9 _ (by omega), k7]; exact k5
        · rw [k9 _ (by omega), k7]; exact t2
    · rw [if_neg hsg, if_neg (by show ¬ (0 : Int) = -1; omega)] at hA
      refine rank G4 _ _ _ (y3.tr k6) (by omega) (fun k hk => by rw [k7]; exact lo3 k hk) ?_ ?_ ?_ hA
      · rw [k7]; exact k5
      · rw [k7]; exact t1
      · rw [k7]; exact t2
def YF (G G' : Mm) (A : Nat) : Prop := G'.2 = G.2 ∧ ∀ q k, q ≠ A + 6 → ¬ (q = A ∧ (k = 8 ∨ k = 10)) → G'.1 q k = G.1 q k
theorem YF.rf {G : Mm} {A : Nat} : YF G G A := ⟨rfl, fun _ _ _ _ => rfl⟩
theorem YF.tr {G G1 G2 : Mm} {A : Nat} (h : YF G G1 A) (h' : YF G1 G2 A) : YF G G2 A := ⟨h'.1.trans h.1, fun r k h1 h2 => (h'.2 r k h1 h2).trans (h.2 r k h1 h2)⟩
theorem YN.f {G G' : Mm} {A p : Nat} (h : YN G G' A p) : YF G G' A := ⟨h.1, fun q k h1 h2 => h.2.1 q k h1 (by omega)⟩
theorem YF.w10 {G : Mm} {A : Nat} {x : Int32} : YF G (wI G A 10 x) A := ⟨rfl, fun q k _ h => wI_n (by omega)⟩
theorem TR.yf {G G' : Mm} {A n : Nat} {t : Nat → Int} (h : TR G A t n) (hx : YF G G' A) : TR G' A t n := by
  obtain ⟨h1, h2, h3, h4⟩ := h
  refine ⟨by rw [hx.1]; exact h1, by rw [hx.2 A 7 (by omega) (by omega)]; exact h2, h3, fun i hi => ?_⟩
  rw [hx.2 (A + 5) i (by omega) (by omega)]
  exact h4 i hi
theorem sp_fault {G : Mm} {A n : Nat} {t : Nat → Int} {Q : dp_Ps} (hT : TR G A t n)
    (h : ∀ G', YF G G' A → G'.1 A 10 = jI ((pLs t n 31 0 []).2.length : Int) → TL G' A (pLs t n 31 0 []).2 → Q (jI (if (pLs t n 31 0 []).1 = -1 then -1005 else (pLs t n 31 0 []).1)) G') : Sp 126 2 [vR 8 A] G Q := by
  have hn60 := hT.2.2.1
  apply vcX8_fault
  rintro _ rfl _ rfl
  have loop : ∀ k : Nat, ∀ (p : Nat) (L : List Ar) (G1 : Mm), k + L.length = 31 → 2 * L.length ≤ p → p ≤ n → YF G G1 A → G1.1 A 8 = jI (p : Int) → G1.1 A 10 = jI (L.length : Int) → TL G1 A L → pLs t n k p L = pLs t n 31 0 [] →
      Wp 126 12 [some (vR 8 A), some (vI (jI 1))] [] G1 Q := by
    intro k
    induction k with
    | zero => intro p L G1 hk hp2; omega
    | succ k ih =>
      intro p L G1 hk hp2 hpn hy h8 h10 hL he
      have hT1 := hT.yf hy
      have hb := pAl_b (t := t) hpn
      apply vcX8_fault_12
      refine ⟨fun z => absurd z (by decide), fun _ => ?_⟩
      rw [pLs_s] at he
      refine sp_told hT1 h8 hpn h10 (by omega) (fun e q G2 k1 k2 k3 => ⟨fun z => absurd z (by decide), fun _ => ?_⟩) (fun q G2 k1 k2 => ⟨fun _ => ?_, fun z => absurd rfl z⟩)
      · have hbe := hb.2.2 e q
        rw [q] at he
        dsimp only at he
        have e10 : G2.1 A 10 = jI (L.length : Int) := by rw [k1.2.1 A 10 (by omega) (by omega)]; exact h10
        rintro _ rfl
        rw [e10, jI_add]
        have hy3 : YF G (wI G2 A 10 (jI ((L.length : Int) + 1))) A := hy.tr (k1.f.tr YF.w10)
        have hL3 : TL (wI G2 A 10 (jI ((L.length : Int) + 1))) A (L ++ [e]) := by
          intro j x hj
          by_cases hjl : j = L.length
          · subst hjl
            rw [List.getElem?_append_right (Nat.le_refl _), Nat.sub_self] at hj
            have hj : e = x := Option.some.inj hj
            rw [← hj, wI_n (by omega), wI_n (by omega), wI_n (by omega)]
            exact k3
          · have hj2 := log_lt' hj
            rw [List.length_append] at hj2
            have hj2 : j < L.length + 1 := hj2
            rw [List.getElem?_append_left (by omega)] at hj
            rw [wI_n (by omega), wI_n (by omega), wI_n (by omega), k2 _ (by omega), k2 _ (by omega), k2 _ (by omega)]
            exact hL j x hj
        have h8' : (wI G2 A 10 (jI ((L.length : Int) + 1))).1 A 8 = jI ((pAl t n p).1 : Int) := by rw [wI_n (by omega)]; exact k1.2.2
        refine sp_takes (hT.yf hy3) h8' hb.2.1 (inR_s (by omega) (by omega)) (fun hsg G4 k4 k5 => ?_) (fun hsg G4 k4 k5 => ?_)
        · rw [if_pos hsg] at he
          refine ih _ (L ++ [e]) G4 (by rw [List.length_append]; show k + (L.length + 1) = 31; omega) (by rw [List.length_append]; show 2 * (L.length + 1) ≤ _; omega) (by have := hsg.1; omega) (hy3.tr k4.f) k4.2.2 ?_ (fun j x hj => by rw [k5]; exact hL3 j x hj) he
          rw [k4.2.1 A 10 (by omega) (by omega), wI_s, List.length_append]; rfl
        · rw [if_neg hsg] at he
          have e10' : G4.1 A 10 = jI ((L ++ [e]).length : Int) := by rw [k4.2.1 A 10 (by omega) (by omega), wI_s, List.length_append]; rfl
          have hL4 : TL G4 A (L ++ [e]) := fun j x hj => by rw [k5]; exact hL3 j x hj
          rw [← he] at h
          apply vcX8_fault_12
          refine ⟨fun _ => ?_, fun z => absurd rfl z⟩
          rw [k4.2.2, (hT.yf (hy3.tr k4.f)).2.1, jI_inj (inR_n (by omega)) (inR_n (by omega))]
          refine ⟨fun z => ?_, fun z => ?_⟩
          · rw [if_pos (by omega)] at h
            exact h G4 (hy3.tr k4.f) e10' hL4
          · rw [if_neg (by omega)] at h
            have := h G4 (hy3.tr k4.f) e10' hL4
            rw [if_neg (by show ¬ ((pAl t n p).1 : Int) = -1; omega)] at this
            exact this
      · rw [q] at he
        dsimp only at he
        rw [← he] at h
        have := h G2 (hy.tr k1.f) (by rw [k1.2.1 A 10 (by omega) (by omega)]; exact h10) (fun j x hj => by
          have hj2 := log_lt' hj
          have hj2 : j < L.length := hj2
          rw [k2 _ (by omega), k2 _ (by omega), k2 _ (by omega)]
          exact hL j x hj)
        rw [if_neg (by show ¬ ((pAl t n p).1 : Int) = -1; omega)] at this
        rw [k1.2.2]
        exact this
  refine loop 31 0 [] _ rfl (by decide) (by omega) ⟨rfl, fun q k g1 g2 => ?_⟩ ?_ ?_ (fun j e hj => by cases hj) rfl
  · rw [wI_n (by omega), wI_n (by omega)]
  · rw [wI_n (by omega), wI_s]; rfl
  · rw [wI_s]; rfl
