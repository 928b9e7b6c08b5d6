/-! ===== a tick: the class against the state ===== -/
def mT1 (M : Ms) : Ms := (aU (aU M.1 1 (M.1 1 + 1)) 0 (M.1 0 + gro (M.1 1 + 1) (M.1 2)), M.2.1, M.2.2.1, M.2.2.2)
def mLd (M : Ms) (c : Nat) : Ms := (M.1, M.2.1, cU M.2.2.1 c (M.2.2.1 c 0) (if 0 < M.2.2.1 c 1 then M.2.2.1 c 1 - 1 else M.2.2.1 c 1), M.2.2.2)
def mLds : Nat → Nat → Ms → Ms
  | 0, _, M => M
  | k + 1, j, M => mLds k (j + 1) (mLd M j)
/-- comparer c has alarms, has loaded, and its count is reached -/
def due (M : Ms) (c : Nat) : Prop := M.2.2.1 c 0 ≠ -1005 ∧ M.2.2.1 c 1 = 0 ∧ M.2.2.1 c 0 ≤ M.1 0
noncomputable def mRo : Nat → Nat → Ms → Ms
  | 0, _, M => M
  | k + 1, j, M => mRo k (j + 1) (cIf (due M j) (mRA M j) M)
noncomputable def mTick (M : Ms) : Ms := mSh (mRo (M.1 7).toNat 0 (mLds (M.1 7).toNat 0 (mT1 M)))
theorem gro_b (t d : Int) : 0 ≤ gro t d ∧ gro t d ≤ 2 := by
  unfold gro
  split
  · omega
  · split
    · split <;> omega
    · omega
theorem mT1_MS {M : Ms} {T K : Int} (h : MI M T K) (hT : T + 2 ≤ 100000000) (hK : K + 1 ≤ 10000000) : MS (mT1 M) (T + 2) (K + 1) := by
  obtain ⟨hs, hl, hn, hA, hC⟩ := h
  have hg := gro_b (M.1 1 + 1) (M.1 2)
  have e0 : (mT1 M).1 0 = M.1 0 + gro (M.1 1 + 1) (M.1 2) := aU_s (aU M.1 1 (M.1 1 + 1)) 0 _
  have e1 : (mT1 M).1 1 = M.1 1 + 1 := by show aU (aU M.1 1 (M.1 1 + 1)) 0 (M.1 0 + gro (M.1 1 + 1) (M.1 2)) 1 = _; rw [aU_n (by decide), aU_s]
  have e : ∀ k, 1 < k → (mT1 M).1 k = M.1 k := fun k hk => by show aU (aU M.1 1 (M.1 1 + 1)) 0 (M.1 0 + gro (M.1 1 + 1) (M.1 2)) k = _; rw [aU_n (by omega), aU_n (by omega)]
  have hcn : cnc M.2.1 ≤ M.2.1.length := List.countP_le_length
  unfold SI at hs
  refine ⟨⟨?_, hl, hn, fun a ha => ?_, fun c hc => hC c hc⟩, fun a ha _ => ?_, ?_⟩
  · unfold SI
    rw [e0, e1, e 2 (by decide), e 3 (by decide), e 4 (by decide), e 6 (by decide), e 7 (by decide), e 10 (by decide), e 14 (by decide)]
    show _ ∧ _ ∧ _ ∧ _ ∧ _ ∧ _ ∧ _ ∧ _ ∧ _ ∧ (M.2.2.2.length : Int) = _ ∧ _ ∧ _
    omega
  · obtain ⟨a0, a1, a2, a3, a4, a5, a6, a7⟩ := hA a ha
    exact ⟨by rw [e 6 (by decide)]; exact a0, by omega, a2, a3, by rw [e 7 (by decide)]; exact a4, by omega, by omega, a7⟩
  · have := (hA a ha).2.2.2.2.2.1
    omega
  · rw [e 14 (by decide)]
    show M.1 14 + (cnc M.2.1 : Int) ≤ _
    omega
theorem mLd_0 {M : Ms} {c d : Nat} : (mLd M c).2.2.1 d 0 = M.2.2.1 d 0 := by
  show cU _ c _ _ d 0 = _
  by_cases h : d = c
  · rw [h, cU_s0]
  · rw [cU_n h]
theorem mLd_MS {M : Ms} {T K : Int} {c : Nat} (h : MS M T K) : MS (mLd M c) T K := by
  obtain ⟨⟨hs, hl, hn, hA, hC⟩, h5, h14⟩ := h
  refine ⟨⟨hs, hl, hn, hA, fun d hd => ?_⟩, h5, h14⟩
  by_cases hdc : d = c
  · subst hdc
    have h1 : (mLd M d).2.2.1 d 1 = if 0 < M.2.2.1 d 1 then M.2.2.1 d 1 - 1 else M.2.2.1 d 1 := cU_s1
    unfold CI
    rw [mLd_0, h1]
    refine ⟨fun q => ?_, fun q => ?_⟩
    · obtain ⟨g1, g2, g3, g4⟩ := (hC d hd).1 q
      refine ⟨g1, g2, ?_, ?_⟩ <;> split <;> omega
    · obtain ⟨g1, g2⟩ := (hC d hd).2 q
      refine ⟨g1, ?_⟩
      rw [g2]; rfl
  · exact CI_same (hC d hd) (cU_n hdc) (fun x => Iff.rfl)
theorem stk_same {M M' : Ms} (hL : M'.2.1 = M.2.1) (h3 : M'.1 3 = M.1 3) (h7 : M'.1 7 = M.1 7) (hC : ∀ j, M'.2.2.1 j 0 = M.2.2.1 j 0) (h : stk M) : stk M' := by
  unfold stk jnb frC at h ⊢
  simp only [hL, h3, h7, hC]
  exact h
theorem rep_sc {v : Nat → Nat → Int} {M : Ms} {k : Nat} {x : Int} (h : RepC v M) (hl : M.2.1.length ≤ 20) (hk : k < 8) (hk5 : k ≠ 5) : RepC (v2 v 0 k x) (aU M.1 k x, M.2) := by
  obtain ⟨hsc, hpm, hsr, hcm, hlg⟩ := h
  refine ⟨⟨by rw [v2_n (by omega)]; exact hsc.1, fun q hq hq5 => ?_, fun q hq => ?_, ?_⟩, hpm.eq (fun i hi => v2_r (by omega)), hsr.eq (fun i hi q hq => v2_n (by omega)), fun c hc4 => cmp_row (hcm c hc4) (v2_r (by omega)), hlg.eq (v2_r (by omega)) (v2_r (by omega))⟩
  · show _ = aU M.1 k x q
    by_cases hkq : q = k
    · rw [hkq, v2_s, aU_s]
    · rw [v2_n (by omega), aU_n hkq]; exact hsc.2.1 q hq hq5
  · show _ = aU M.1 k x (8 + q)
    rw [v2_n (by omega), aU_n (by omega)]; exact hsc.2.2.1 q hq
  · show _ = aU M.1 k x 14
    rw [v2_n (by omega), aU_n (by omega)]; exact hsc.2.2.2
theorem rep_ld {v w : Nat → Nat → Int} {M : Ms} {c : Nat} (h : RepC v M) (hl : M.2.1.length ≤ 20) (hc : c < 4) (hC : CI M c) (ho : ∀ j, j ≠ 23 + c → w j = v j) (h3 : ∀ k, k ≠ 3 → w (23 + c) k = v (23 + c) k) (hw : w (23 + c) 3 = if 0 < v (23 + c) 3 then v (23 + c) 3 - 1 else v (23 + c) 3) : RepC w (mLd M c) := by
  obtain ⟨hsc, hpm, hsr, hcm, hlg⟩ := h
  refine ⟨hsc.eq (ho 0 (by omega)) (ho 27 (by omega)) (ho 28 (by omega)) rfl rfl, hpm.eq (fun i hi => ho _ (by have : i < M.2.1.length := hi; omega)), hsr.eq (fun i hi k _ => by rw [ho _ (by have : i < M.2.1.length := hi; omega)]), fun d hd => ?_, hlg.eq (ho 28 (by omega)) (ho 29 (by omega))⟩
  by_cases hdc : d = c
  · subst hdc
    have h1 : (mLd M d).2.2.1 d 1 = if 0 < M.2.2.1 d 1 then M.2.2.1 d 1 - 1 else M.2.2.1 d 1 := cU_s1
    unfold cmp
    rw [mLd_0, h1, hw, h3 0 (by decide), h3 1 (by decide), h3 2 (by decide)]
    refine ⟨fun q => ?_, fun q k hk => ?_⟩
    · obtain ⟨g0, g2, g3, g4, g5⟩ := (hcm d hd).1 q
      refine ⟨g0, g2, by rw [g3], g4, g5⟩
    · have hz := (hcm d hd).2 q
      by_cases hk3 : k = 3
      · rw [hk3, hw, hz 3 (by decide)]; rfl
      · rw [h3 k hk3]; exact hz k hk
  · exact cmp_o (hcm d hd) (ho _ (by omega)) (cU_n hdc) (fun x => Iff.rfl) rfl
theorem due_iff {v : Nat → Nat → Int} {M : Ms} {T K : Int} {c : Nat} (hc : c < 4) (h : cmp v M.2.1 M.2.2.1 c) (hm : MI M T K) : (0 < v (23 + c) 0 ∧ v (23 + c) 3 = 0 ∧ v (23 + c) 2 ≤ M.1 0) ↔ due M c := by
  have hp := cmp_pos h
  have hz := cmp_z hc h hm
  unfold due
  unfold frC at hz
  constructor
  · rintro ⟨q1, q2, q3⟩
    obtain ⟨g0, g2, g3, -⟩ := h.1 (hp.mp q1)
    exact ⟨fun q => by have := hz.mpr q; omega, by omega, by omega⟩
  · rintro ⟨q1, q2, q3⟩
    have he := CI_has (hm.2.2.2.2 c hc) q1
    obtain ⟨g0, g2, g3, -⟩ := h.1 he
    exact ⟨hp.mpr he, by omega, by omega⟩
theorem sp_tick {G : Mm} {b : Nat} {v : Nat → Nat → Int} {M : Ms} {T K : Int} {Q : dp_Ps} (hc : CV G b v) (hR : RepC v M) (hm : MI M T K) (hst : stk M) (hT : T + 2 ≤ 100000000) (hK : K + 1 ≤ 10000000)
    (h : ∀ G' v', CV G' b v' → FR b 30 G G' → RepC v' (mTick M) → MI (mTick M) (T + 2) (K + 1) → stk (mTick M) → Q (jI 0) G') : Sp 22 3 [vR 2 b] G Q := by
  have hs := hm.1
  unfold SI at hs
  have hS1 := mT1_MS hm hT hK
  have ev0 : v 0 0 = M.1 0 := hR.1.2.1 0 (by decide) (by decide)
  have ev1 : v 0 1 = M.1 1 := hR.1.2.1 1 (by decide) (by decide)
  have ev2 : v 0 2 = M.1 2 := hR.1.2.1 2 (by decide) (by decide)
  generalize hMT : mRo (M.1 7).toNat 0 (mLds (M.1 7).toNat 0 (mT1 M)) = MT at *
  have eT : mTick M = mSh MT := by unfold mTick; rw [hMT]
  rw [eT] at h
  -- the rounds
  have rounds : ∀ k j : Nat, ∀ (G1 : Mm) (v1 : Nat → Nat → Int) (M1 : Ms) (x1 : Int), k = (M.1 7).toNat - j → j ≤ 4 → CV G1 b v1 → FR b 30 G G1 → RepC v1 M1 → MS M1 (T + 2) (K + 1) → M1.1 7 = M.1 7 → mRo k j M1 = MT → (x1 = 0 ∨ x1 = 1) → (x1 = 0 → stk M1) →
      Wp 22 52 [some (vR 2 b), some (vI (jI x1)), some (vI (jI (j : Int)))] [] G1 Q := by
    intro k
    induction k with
    | zero =>
      intro j G1 v1 M1 x1 hk hj4 hc1 hf1 hR1 hS e7 hMo hx hxs
      have h7 : v1 0 7 = M.1 7 := by rw [hR1.1.2.1 7 (by decide) (by decide), e7]
      have hMo : M1 = MT := hMo
      subst hMo
      apply vcX2_tick_52
      rw [hc1.f, h7, jI_le (inR_s (by omega) (by omega)) (inR_s (by omega) (by omega)), jI_inj (inR_s (by omega) (by omega)) (inR_s (by omega) (by omega))]
      refine ⟨fun _ => ⟨fun q => ?_, fun q => ?_⟩, fun q => by omega⟩
      · have e := mSh_stk (hxs q)
        rw [e] at h
        exact h G1 v1 hc1 hf1 hR1 hS.1 (hxs q)
      · refine sp_share hc1 hR1 hS.1 (fun G3 v3 M' k9 k10 k11 k12 k13 => ?_)
        have e := mSh_eq k11
        rw [e] at h
        exact h G3 v3 k9 (hf1.tr k10) k12 k13 (by obtain ⟨_, -, hs⟩ := k11; exact hs)
    | succ k ih =>
      intro j G1 v1 M1 x1 hk hj4 hc1 hf1 hR1 hS e7 hMo hx hxs
      have h7 : v1 0 7 = M.1 7 := by rw [hR1.1.2.1 7 (by decide) (by decide), e7]
      have h0 : v1 0 0 = M1.1 0 := hR1.1.2.1 0 (by decide) (by decide)
      have hs1 := hS.1.1
      unfold SI at hs1
      have hj : j < 4 := by omega
      have hcm := hR1.2.2.2.1 j hj
      have hle := cmp_le hj hcm hS.1
      have hdue := due_iff hj hcm hS.1
      have hMo : mRo k (j + 1) (cIf (due M1 j) (mRA M1 j) M1) = MT := hMo
      apply vcX2_tick_52
      rw [hc1.f, h7, jI_le (inR_s (by omega) (by omega)) (inR_s (by omega) (by omega))]
      refine ⟨fun q => by omega, fun _ => ⟨jI_in (by omega) (by omega) (by omega), ?_⟩⟩
      rw [hc1.r9, jI_cln (by omega), hc1.rc hj, hc1.f, h0, jI_add, show ((j : Int) + 1) = ((j + 1 : Nat) : Int) by omega]
      refine sp_isDue (fun k => hc1.co hj k) ⟨by omega, by omega⟩ ⟨by omega, by omega⟩ ⟨by omega, by omega⟩ ⟨by omega, by omega⟩ (fun hd => ⟨fun q => absurd q (by decide), fun _ => ?_⟩) (fun hd => ⟨fun _ => ?_, fun q => absurd rfl q⟩)
      · have hd := hdue.mp hd
        rw [cIf_t hd] at hMo
        refine sp_ringC hc1 hR1 hS hj hd.2.2 (fun G2 v2' k1 k2 k3 k4 k5 k6 => ?_)
        exact ih (j + 1) G2 v2' _ 1 (by omega) (by omega) k1 (hf1.tr k2) k3 k4 (by rw [k6, e7]) hMo (Or.inr rfl) (fun q => by omega)
      · rw [cIf_f (fun q => hd (hdue.mpr q))] at hMo
        exact ih (j + 1) G1 v1 M1 x1 (by omega) (by omega) hc1 hf1 hR1 hS e7 hMo hx hxs
  -- the loading
  have loads : ∀ k j : Nat, ∀ (G1 : Mm) (v1 : Nat → Nat → Int) (M1 : Ms) (w2 : Option Vl), k = (M.1 7).toNat - j → j ≤ 4 → CV G1 b v1 → FR b 30 G G1 → RepC v1 M1 → MS M1 (T + 2) (K + 1) → M1.1 7 = M.1 7 → mRo (M.1 7).toNat 0 (mLds k j M1) = MT → stk M1 →
      Wp 22 25 [some (vR 2 b), some (vI (jI (j : Int))), w2] [] G1 Q := by
    intro k
    induction k with
    | zero =>
      intro j G1 v1 M1 w2 hk hj4 hc1 hf1 hR1 hS e7 hMo hs1
      have h7 : v1 0 7 = M.1 7 := by rw [hR1.1.2.1 7 (by decide) (by decide), e7]
      apply vcX2_tick_25
      rw [hc1.f, h7, jI_le (inR_s (by omega) (by omega)) (inR_s (by omega) (by omega))]
      exact ⟨fun _ => rounds (M.1 7).toNat 0 G1 v1 M1 0 rfl (by omega) hc1 hf1 hR1 hS e7 hMo (Or.inl rfl) (fun _ => hs1), fun q => by omega⟩
    | succ k ih =>
      intro j G1 v1 M1 w2 hk hj4 hc1 hf1 hR1 hS e7 hMo hs1
      have h7 : v1 0 7 = M.1 7 := by rw [hR1.1.2.1 7 (by decide) (by decide), e7]
      have hj : j < 4 := by omega
      have hle := cmp_le hj (hR1.2.2.2.1 j hj) hS.1
      have hl20 := hS.1.2.1
      apply vcX2_tick_25
      rw [hc1.f, h7, jI_le (inR_s (by omega) (by omega)) (inR_s (by omega) (by omega))]
      refine ⟨fun q => by omega, fun _ => ⟨jI_in (by omega) (by omega) (by omega), ?_⟩⟩
      rw [hc1.r9, jI_cln (by omega), hc1.rc hj, jI_add, show ((j : Int) + 1) = ((j + 1 : Nat) : Int) by omega]
      have hst2 : stk (mLd M1 j) := stk_same (M := M1) rfl rfl rfl (fun d => mLd_0) hs1
      refine sp_loadOn hc1 hj ⟨by omega, by omega⟩ (fun hp G2 k1 k2 k3 => ?_) (fun hp => ?_)
      · exact ih (j + 1) G2 _ (mLd M1 j) w2 (by omega) (by omega) k1 (hf1.tr k2) (rep_ld hR1 hl20 hj (hS.1.2.2.2.2 j hj) (fun q hq => v2_r hq) (fun q hq => v2_n (by omega)) (by rw [v2_s, if_pos hp])) (mLd_MS hS) e7 hMo hst2
      · exact ih (j + 1) G1 v1 (mLd M1 j) w2 (by omega) (by omega) hc1 hf1 (rep_ld hR1 hl20 hj (hS.1.2.2.2.2 j hj) (fun q hq => rfl) (fun q hq => rfl) (by rw [if_neg (by omega)])) (mLd_MS hS) e7 hMo hst2
  apply vcX2_tick
  rintro _ rfl
  rw [hc.f, jI_add]
  have k1 := hc.wf 1 (v 0 1 + 1)
  refine sp_growth k1 (by rw [v2_n (by omega), ev2]; exact ⟨by omega, by omega⟩) ?_
  rintro _ rfl
  rw [k1.f, jI_add, v2_s, v2_n (by omega), v2_n (by omega)]
  have k2 := k1.wf 0 (v 0 0 + gro (v 0 1 + 1) (v 0 2))
  have hr1 := rep_sc (k := 0) (x := v 0 0 + gro (v 0 1 + 1) (v 0 2)) (rep_sc (k := 1) (x := v 0 1 + 1) hR hm.2.1 (by decide) (by decide)) hm.2.1 (by decide) (by decide)
  have eM : ((aU (aU M.1 1 (v 0 1 + 1)) 0 (v 0 0 + gro (v 0 1 + 1) (v 0 2)), M.2) : Ms) = mT1 M := by rw [ev0, ev1, ev2]; rfl
  have hr1 : RepC _ ((aU (aU M.1 1 (v 0 1 + 1)) 0 (v 0 0 + gro (v 0 1 + 1) (v 0 2)), M.2) : Ms) := hr1
  rw [eM] at hr1
  have e : ∀ k, 1 < k → (mT1 M).1 k = M.1 k := fun k hk => by show aU (aU M.1 1 (M.1 1 + 1)) 0 (M.1 0 + gro (M.1 1 + 1) (M.1 2)) k = _; rw [aU_n (by omega), aU_n (by omega)]
  exact loads (M.1 7).toNat 0 _ _ (mT1 M) none rfl (by omega) k2 ((FR.wI (by omega)).tr (FR.wI (by omega))) hr1 hS1 (e 7 (by decide)) hMT (stk_same rfl (e 3 (by decide)) (e 7 (by decide)) (fun _ => rfl) hst)

