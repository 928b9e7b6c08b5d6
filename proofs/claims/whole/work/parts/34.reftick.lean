/-! ===== the other class: a tick ===== -/
theorem sp_ringsAll {G : Mm} {a c : Nat} {f : Ar} {M : Ms} {T K : Int} {Q : dp_Ps} (hV : RV G a f) (hR : RepR f M) (hS : MS M T K) (hc4 : c < 4) (hdue : M.2.2.1 c 0 ≤ M.1 0)
    (h : ∀ G' f', RV G' a f' → RO G G' a → RepR f' (mRA M c) → MS (mRA M c) T K → (mRA M c).1 0 = M.1 0 → (mRA M c).1 7 = M.1 7 → Q (jI ((mRA M c).1 8 - M.1 8)) G') : Sp 104 4 [vR 16 a, vI (jI (c : Int))] G Q := by
  have i5 : inR (-1005) := inR_s (by omega) (by omega)
  apply vcX8_ringsAll
  have key : ∀ m : Nat, ∀ (G1 : Mm) (f1 : Ar) (M1 : Ms) (x2 : Int), cnc M1.2.1 < m → RV G1 a f1 → RO G G1 a → RepR f1 M1 → MJ M1 T K c → (∀ M', rgd c M1 M' → rgd c M M') → M1.1 0 = M.1 0 → M1.1 7 = M.1 7 → x2 = M1.1 8 - M.1 8 →
      Sp 87 4 [vR 16 a, vI (jI (c : Int))] G1 (fun y1 G2 => Wp 104 8 [some (vR 16 a), some (vI (jI (c : Int))), some (vI (jI x2)), some (vI y1)] [] G2 Q) := by
    intro m
    induction m with
    | zero => intro G1 f1 M1 x2 hm; omega
    | succ m ih =>
      intro G1 f1 M1 x2 hm hV1 hO hR1 hJ hrg e0 e7 hx
      have hl := hJ.2.1
      refine sp_first hV1 hR1.1.1 hR1.2.1 hJ.B (inR_n (by omega)) (fun hno => ?_) (fun i hi hf => ?_)
      · apply vcX8_ringsAll_8
        refine ⟨fun _ => ?_, fun q => absurd rfl q⟩
        refine sp_frees hV1 hR1 hJ.B hc4 (fun G2 f2 k1 k2 k3 _ => ?_)
        have eA : mRA M c = mFr M1 c := by unfold mRA; rw [mRg_eq (hrg M1 ⟨0, rfl, hno⟩)]
        rw [hx]
        have e8 : M1.1 8 = (mRA M c).1 8 := by rw [eA]; rfl
        rw [e8]
        exact h G2 f2 k1 (hO.tr k2) (by rw [eA]; exact k3) (by rw [eA]; exact hJ.fr hno) (by rw [eA]; exact e0) (by rw [eA]; exact e7)
      · apply vcX8_ringsAll_8
        rw [jI_inj (inR_n (by omega)) i5]
        refine ⟨fun q => by omega, fun _ => ?_⟩
        refine sp_rings hV1 hR1 hJ hi hf.2.1 (fun G2 f2 k1 k2 k3 => ?_)
        rw [jI_add]
        have h4 : rA f1 i 4 ≠ -1005 := by have := hf.2.1; omega
        have hcn := mR1_cnc hJ.2.2.1 hf.1 h4
        refine ih G2 f2 _ (x2 + 1) (by omega) k1 (hO.tr k2) k3 (mR1_MJ hJ hf) (fun M' g => hrg M' (rgd_s hf g)) (by rw [mR1_1 (by decide)]; exact e0) (by rw [mR1_1 (by decide)]; exact e7) ?_
        have e8 : (mR1 M1 (rA f1 i)).1 8 = M1.1 8 + 1 := mSc_8 (sl := M1.1 0 - rA f1 i 1) (ms := if rA f1 i 2 = 0 then 0 else (M1.1 0 - rA f1 i 1) / rA f1 i 2)
        rw [e8, hx]; omega
  exact key (cnc M.2.1 + 1) G f M 0 (by omega) hV RO.rf hR (hS.J hc4 hdue) (fun _ g => g) rfl rfl (by omega)
theorem turn_k {M M' : Ms} (t : turn M M') {k : Nat} (h : k ≠ 12) (h' : k ≠ 13) : M'.1 k = M.1 k := by
  obtain ⟨a, -, t⟩ := t
  rcases t with ⟨c, -, -, -, rfl⟩ | ⟨c, -, -, -, -, rfl⟩ | ⟨c, -, -, -, -, -, -, rfl⟩
  · rfl
  · exact aU_n h
  · show aU (aU M.1 12 (M.1 12 + 1)) 13 (M.1 13 + 1) k = _
    rw [aU_n h', aU_n h]
theorem shr_k {M M' : Ms} (t : shr M M') {k : Nat} (h : k ≠ 12) (h' : k ≠ 13) : M'.1 k = M.1 k := by
  obtain ⟨n, t, -⟩ := t
  induction n generalizing M with
  | zero => have t : M = M' := t; rw [t]
  | succ n ih =>
    obtain ⟨N, t1, t2⟩ := t
    rw [ih t2, turn_k t1 h h']
theorem RepR.c2 {f : Ar} {M : Ms} {c : Nat} {y : Int} (h : RepR f M) (hc4 : c < 4) (hl : M.2.1.length ≤ 20) (hl8 : M.2.2.2.length ≤ 8) : RepR (aU f (154 + 2 * c + 1) y) (M.1, M.2.1, cU M.2.2.1 c (M.2.2.1 c 0) y, M.2.2.2) := by
  have h2 := h.cm (c := c) (x := M.2.2.1 c 0) (y := y) hc4 hl hl8
  rw [← (h.2.2.1 c hc4).1, aU_id, (h.2.2.1 c hc4).1] at h2
  exact h2
theorem mLds_k : ∀ (k j : Nat) (M : Ms), (mLds k j M).1 = M.1
  | 0, _, _ => rfl
  | k + 1, j, M => mLds_k k (j + 1) (mLd M j)
theorem sp_rtick {G : Mm} {a : Nat} {f : Ar} {M : Ms} {T K : Int} {Q : dp_Ps} (hV : RV G a f) (hR : RepR f M) (hm : MI M T K) (hT : T + 2 ≤ 100000000) (hK : K + 1 ≤ 10000000)
    (h : ∀ G' f', RV G' a f' → RO G G' a → RepR f' (mTick M) → MI (mTick M) (T + 2) (K + 1) → stk (mTick M) → Q (jI ((mTick M).1 8 - M.1 8)) G') : Sp 105 6 [vR 16 a] G Q := by
  have hs := hm.1
  unfold SI at hs
  have hS1 := mT1_MS hm hT hK
  have ev0 : f 0 = M.1 0 := hR.1.2 0 (by decide) (by decide)
  have ev1 : f 1 = M.1 1 := hR.1.2 1 (by decide) (by decide)
  have ev2 : f 13 = M.1 2 := hR.1.2 13 (by decide) (by decide)
  generalize hMT : mRo (M.1 7).toNat 0 (mLds (M.1 7).toNat 0 (mT1 M)) = MT at *
  have eT : mTick M = mSh MT := by unfold mTick; rw [hMT]
  rw [eT] at h
  have rounds : ∀ k j : Nat, ∀ (G1 : Mm) (f1 : Ar) (M1 : Ms) (w1 w2 w5 : Option Vl) (x3 : Int), k = (M.1 7).toNat - j → j ≤ 4 → RV G1 a f1 → RO G G1 a → RepR f1 M1 → MS M1 (T + 2) (K + 1) → M1.1 7 = M.1 7 → mRo k j M1 = MT → x3 = M1.1 8 - M.1 8 →
      Wp 105 111 [some (vR 16 a), w1, w2, some (vI (jI x3)), some (vI (jI (j : Int))), w5] [] G1 Q := by
    intro k
    induction k with
    | zero =>
      intro j G1 f1 M1 w1 w2 w5 x3 hk hj4 hV1 hO hR1 hS e7 hMo hx
      have h7 : f1 10 = M.1 7 := by rw [hR1.1.2 10 (by decide) (by decide)]; exact e7
      have hMo : M1 = MT := hMo
      subst hMo
      apply vcX8_tick_111
      rw [hV1, h7, jI_le (inR_s (by omega) (by omega)) (inR_s (by omega) (by omega))]
      refine ⟨fun _ => ?_, fun q => by omega⟩
      refine sp_shares hV1 hR1 hS.1 (fun G2 f2 M2 k1 k2 k3 k4 k5 => ?_)
      have e := mSh_eq k3
      rw [e] at h
      rw [hx, ← shr_k (k := 8) k3 (by decide) (by decide)]
      exact h G2 f2 k1 (hO.tr k2) k4 k5 (by obtain ⟨_, -, hs⟩ := k3; exact hs)
    | succ k ih =>
      intro j G1 f1 M1 w1 w2 w5 x3 hk hj4 hV1 hO hR1 hS e7 hMo hx
      have h7 : f1 10 = M.1 7 := by rw [hR1.1.2 10 (by decide) (by decide)]; exact e7
      have h0 : f1 0 = M1.1 0 := hR1.1.2 0 (by decide) (by decide)
      have hs1 := hS.1.1
      unfold SI at hs1
      have hj : j < 4 := by omega
      have hcb := hS.1.cb hj
      obtain ⟨g0, g1⟩ := hR1.2.2.1 j hj
      have hMo : mRo k (j + 1) (cIf (due M1 j) (mRA M1 j) M1) = MT := hMo
      apply vcX8_tick_111
      rw [hV1, h7, jI_le (inR_s (by omega) (by omega)) (inR_s (by omega) (by omega))]
      refine ⟨fun q => by omega, fun _ => ?_⟩
      simp only [jI_mul, jI_add, Int.add_zero]
      rw [show ((j : Int) + 1) = ((j + 1 : Nat) : Int) by omega]
      have skip : ∀ w5', ¬ due M1 j → Wp 105 111 [some (vR 16 a), w1, w2, some (vI (jI x3)), some (vI (jI ((j + 1 : Nat) : Int))), w5'] [] G1 Q := by
        intro w5' hnd
        rw [cIf_f hnd] at hMo
        exact ih (j + 1) G1 f1 M1 w1 w2 w5' x3 (by omega) (by omega) hV1 hO hR1 hS e7 hMo hx
      refine sp_cnt hV1 hj ?_
      rw [g0, jI_inj ⟨by omega, by omega⟩ (inR_s (by omega) (by omega))]
      refine ⟨fun q => skip _ (fun z => z.1 q), fun q => ⟨jI_in (by omega) (by omega) (by omega), ?_⟩⟩
      have c1 : (jI ((154 : Int) + 2 * (j : Int) + 1)).toNatClampNeg = 154 + 2 * j + 1 := by rw [jI_cl (by omega) (by omega)]; omega
      rw [c1, hV1, g1, jI_inj ⟨by omega, by omega⟩ (inR_s (by omega) (by omega))]
      refine ⟨fun q1 => ?_, fun q1 => skip _ (fun z => q1 z.2.1)⟩
      refine sp_cnt hV1 hj ?_
      rw [g0, hV1, h0, jI_lt ⟨by omega, by omega⟩ ⟨by omega, by omega⟩]
      refine ⟨fun q2 => skip _ (fun z => by have := z.2.2; omega), fun q2 => ?_⟩
      have hd : due M1 j := ⟨q, q1, by omega⟩
      rw [cIf_t hd] at hMo
      refine sp_ringsAll hV1 hR1 hS hj hd.2.2 (fun G2 f2 k1 k2 k3 k4 k5 k6 => ?_)
      rw [jI_add]
      exact ih (j + 1) G2 f2 _ w1 w2 _ _ (by omega) (by omega) k1 (hO.tr k2) k3 k4 (by rw [k6, e7]) hMo (by omega)
  have loads : ∀ k j : Nat, ∀ (G1 : Mm) (f1 : Ar) (M1 : Ms) (w1 w2 w5 : Option Vl) (x3 : Int), k = (M.1 7).toNat - j → j ≤ 4 → RV G1 a f1 → RO G G1 a → RepR f1 M1 → MS M1 (T + 2) (K + 1) → M1.1 7 = M.1 7 → mRo (M.1 7).toNat 0 (mLds k j M1) = MT → x3 = M1.1 8 - M.1 8 →
      Wp 105 58 [some (vR 16 a), w1, w2, some (vI (jI x3)), some (vI (jI (j : Int))), w5] [] G1 Q := by
    intro k
    induction k with
    | zero =>
      intro j G1 f1 M1 w1 w2 w5 x3 hk hj4 hV1 hO hR1 hS e7 hMo hx
      have h7 : f1 10 = M.1 7 := by rw [hR1.1.2 10 (by decide) (by decide)]; exact e7
      apply vcX8_tick_58
      rw [hV1, h7, jI_le (inR_s (by omega) (by omega)) (inR_s (by omega) (by omega))]
      exact ⟨fun _ => rounds (M.1 7).toNat 0 G1 f1 M1 w1 w2 w5 x3 rfl (by omega) hV1 hO hR1 hS e7 hMo hx, fun q => by omega⟩
    | succ k ih =>
      intro j G1 f1 M1 w1 w2 w5 x3 hk hj4 hV1 hO hR1 hS e7 hMo hx
      have h7 : f1 10 = M.1 7 := by rw [hR1.1.2 10 (by decide) (by decide)]; exact e7
      have hj : j < 4 := by omega
      have hcb := hS.1.cb hj
      obtain ⟨g0, g1⟩ := hR1.2.2.1 j hj
      have hR2 := hR1.c2 (c := j) (y := if 0 < M1.2.2.1 j 1 then M1.2.2.1 j 1 - 1 else M1.2.2.1 j 1) hj hS.1.2.1 hS.1.B.l8
      apply vcX8_tick_58
      rw [hV1, h7, jI_le (inR_s (by omega) (by omega)) (inR_s (by omega) (by omega))]
      refine ⟨fun q => by omega, fun _ => ?_⟩
      simp only [jI_mul, jI_add]
      rw [show ((j : Int) + 1) = ((j + 1 : Nat) : Int) by omega]
      have c1 : (jI ((154 : Int) + 2 * (j : Int) + 1)).toNatClampNeg = 154 + 2 * j + 1 := by rw [jI_cl (by omega) (by omega)]; omega
      refine ⟨jI_in (by omega) (by omega) (by omega), jI_in (by omega) (by omega) (by omega), ?_⟩
      rw [c1, hV1, g1, jI_le ⟨by omega, by omega⟩ (inR_s (by omega) (by omega))]
      refine ⟨fun q => ⟨jI_in (by omega) (by omega) (by omega), ?_⟩, fun q => ⟨jI_in (by omega) (by omega) (by omega), ?_⟩⟩
      · rintro _ rfl
        rw [jI_sub, show M1.2.2.1 j 1 - 0 = (if 0 < M1.2.2.1 j 1 then M1.2.2.1 j 1 - 1 else M1.2.2.1 j 1) by rw [if_neg (by omega)]; omega]
        exact ih (j + 1) _ _ (mLd M1 j) w1 w2 w5 x3 (by omega) (by omega) (hV1.wr _ _) (hO.tr RO.wr) hR2 (mLd_MS hS) e7 hMo hx
      · rintro _ rfl
        rw [jI_sub, show M1.2.2.1 j 1 - 1 = (if 0 < M1.2.2.1 j 1 then M1.2.2.1 j 1 - 1 else M1.2.2.1 j 1) by rw [if_pos (by omega)]]
        exact ih (j + 1) _ _ (mLd M1 j) w1 w2 w5 x3 (by omega) (by omega) (hV1.wr _ _) (hO.tr RO.wr) hR2 (mLd_MS hS) e7 hMo hx
  have e : ∀ k, 1 < k → (mT1 M).1 k = M.1 k := fun k hk => by show aU (aU M.1 1 (M.1 1 + 1)) 0 (M.1 0 + gro (M.1 1 + 1) (M.1 2)) k = _; rw [aU_n (by omega), aU_n (by omega)]
  have hgo : ∀ (g : Int) (w1 w2 : Option Vl), g = gro (M.1 1 + 1) (M.1 2) → ∀ G4 : Mm, G4 = wI (wI G a 1 (jI (M.1 1 + 1))) a 0 (jI (M.1 0 + g)) → Wp 105 58 [some (vR 16 a), w1, w2, some (vI (jI 0)), some (vI (jI 0)), none] [] G4 Q := by
    rintro g w1 w2 rfl _ rfl
    have hR1 := (hR.hd (k := 1) (x := M.1 1 + 1) (by decide) (by decide)).hd (k := 0) (x := M.1 0 + gro (M.1 1 + 1) (M.1 2)) (by decide) (by decide)
    exact loads (M.1 7).toNat 0 _ _ (mT1 M) w1 w2 none 0 rfl (by omega) ((hV.wr 1 _).wr 0 _) (RO.wr.tr RO.wr) hR1 hS1 (e 7 (by decide)) hMT (by rw [e 8 (by decide)]; omega)
  have i0 : inR 0 := inR_s (by omega) (by omega)
  have i13 : inR (M.1 2) := ⟨by omega, by omega⟩
  apply vcX8_tick
  rintro _ rfl
  rw [hV 1, ev1, jI_add]
  have k1 := hV.wr 1 (M.1 1 + 1)
  rw [k1 13, k1 0, k1 1, aU_n (show 13 ≠ 1 by decide), aU_n (show 0 ≠ 1 by decide), aU_s, ev2, ev0, jI_inj i13 i0, jI_le i13 i0]
  simp only [jI_add]
  refine ⟨fun q => hgo 1 _ _ (by unfold gro; rw [if_pos q]), fun q => ⟨q, fun q1 => ⟨fun q2 => hgo 0 _ _ (by unfold gro; rw [if_neg q, if_pos q1, if_pos q2]), fun q2 => hgo 2 _ _ (by unfold gro; rw [if_neg q, if_pos q1, if_neg q2])⟩, fun q1 => hgo 1 _ _ (by unfold gro; rw [if_neg q, if_neg q1])⟩⟩
