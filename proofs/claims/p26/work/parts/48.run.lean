/-! ===== run: both ===== -/
theorem itg_k {c k : Nat} (hk : k < 8) : ∀ (n : Nat) (M N : Ms), itg n c M N → N.1 k = M.1 k
  | 0, M, N, t => by have t : M = N := t; rw [t]
  | n + 1, M, N, t => by
    obtain ⟨a, -, t2⟩ := t
    rw [itg_k hk n _ N t2, mR1_1 hk]
theorem mRA_k {M : Ms} {T K : Int} {c k : Nat} (hk : k < 8) (hJ : MJ M T K c) : (mRA M c).1 k = M.1 k := by
  obtain ⟨n, t, -⟩ := mRg_sp hJ
  have := itg_k hk n M (mRg c M) t
  exact this
theorem mRo_k {T K : Int} {q : Nat} (hq : q < 8) : ∀ (k j : Nat) (M : Ms), j + k ≤ 4 → MS M T K → (mRo k j M).1 q = M.1 q
  | 0, _, _, _, _ => rfl
  | k + 1, j, M, hj, hS => by
    show (mRo k (j + 1) (cIf (due M j) (mRA M j) M)).1 q = _
    by_cases h : due M j
    · have hJ := hS.J (c := j) (by omega) h.2.2
      rw [cIf_t h, mRo_k hq k (j + 1) _ (by omega) (hS.qmRA hJ), mRA_k hq hJ]
    · rw [cIf_f h, mRo_k hq k (j + 1) _ (by omega) hS]
theorem mTick_0 {M : Ms} {T K : Int} (hm : MI M T K) (hT : T + 2 ≤ 100000000) (hK : K + 1 ≤ 10000000) : (mTick M).1 0 ≤ M.1 0 + 2 := by
  have hs := hm.1
  unfold SI at hs
  have h1 := mLds_gr (M.1 7).toNat 0 _ (mT1_MS hm hT hK)
  have h2 := mRo_gr (M.1 7).toNat 0 _ (by omega) h1.2
  have e : (mTick M).1 0 = (mT1 M).1 0 := by
    unfold mTick
    rw [mSh_k h2.2.1 (by decide) (by decide), mRo_k (by decide) _ _ _ (by omega) h1.2, mLds_k]
  have e2 : (mT1 M).1 0 = M.1 0 + gro (M.1 1 + 1) (M.1 2) := aU_s (aU M.1 1 (M.1 1 + 1)) 0 _
  have := gro_b (M.1 1 + 1) (M.1 2)
  rw [e, e2]; omega
theorem mTks_0 {T K : Int} : ∀ (n : Nat) (M : Ms), MI M T K → T + 2 * n ≤ 100000000 → K + n ≤ 10000000 → (mTks n M).1 0 ≤ M.1 0 + 2 * n
  | 0, M, _, _, _ => by show M.1 0 ≤ _; omega
  | n + 1, M, hm, hT, hK => by
    have h0 := mTick_0 hm (by omega) (by omega)
    have := mTks_0 n (mTick M) (mTick_all hm (by omega) (by omega)).2.1 (by omega) (by omega)
    show (mTks n (mTick M)).1 0 ≤ _
    omega
noncomputable def zRun (Z : Zst) (k : Int) : Int × Zst := if ¬ (1 ≤ k ∧ k ≤ 1000) then (-1002, Z) else if 99999 < Z.1.1 0 + 2 * k then (-1003, Z) else ((mTks k.toNat Z.1).1 8 - Z.1.1 8, mTks k.toNat Z.1, Z.2.1, push Z.2.2.1 Z.1, Z.2.2.2)
theorem GI.mono {M : Ms} {T K T' K' : Int} (h : GI M T K) (h1 : T ≤ T') (h2 : K ≤ K') (hT : T' ≤ 100000000) (hK : K' ≤ 10000000) : GI M T' K' := ⟨h.1.mono h1 h2 hT hK, h.2⟩
theorem ZI.mono {Z : Zst} {T K T' K' : Int} (h : ZI Z T K) (h1 : T ≤ T') (h2 : K ≤ K') (hT : T' ≤ 100000000) (hK : K' ≤ 10000000) : ZI Z T' K' := ⟨h.1.mono h1 h2 hT hK, fun M hM => (h.2.1 M hM).mono h1 h2 hT hK, fun M hM => (h.2.2 M hM).mono h1 h2 hT hK⟩
theorem zRun_ZI {Z : Zst} {T K k : Int} (h : ZI Z T K) (hT : T + 2000 ≤ 100000000) (hK : K + 1000 ≤ 10000000) : ZI (zRun Z k).2 (T + 2000) (K + 1000) := by
  have hM := h.mono (T' := T + 2000) (K' := K + 1000) (by omega) (by omega) hT hK
  unfold zRun
  split
  · exact hM
  · split
    · exact hM
    · have h1 := mTks_all k.toNat Z.1 h.1.1 h.1.2.1 (by omega) (by omega)
      have h2 := mTks_0 k.toNat Z.1 h.1.1 (by omega) (by omega)
      exact hM.rec ⟨h1.2.1.mono (by omega) (by omega) hT hK, h1.2.2, by omega⟩
theorem mTks_s {n : Nat} {M : Ms} : mTks n (mTick M) = mTks (n + 1) M := rfl
theorem sp_runC {G : Mm} {B : Nat} {Z : Zst} {T K k : Int} {Q : dp_Ps} (h : SysC G B Z) (hz : ZI Z T K) (hT : T + 2000 ≤ 100000000) (hK : K + 1000 ≤ 10000000) (ik : inR k)
    (hq : ∀ G', SysC G' B (zRun Z k).2 → FR B 218 G G' → Q (jI (zRun Z k).1) G') : Sp 64 4 [vR 7 B, vI (jI k)] G Q := by
  have hm := hz.1.1
  have hs := hm.1
  unfold SI at hs
  obtain ⟨v, hc, hR⟩ := h.2.2.1.get
  have e0 : v 0 0 = Z.1.1 0 := hR.1.2.1 0 (by decide) (by decide)
  have e8 : v 27 0 = Z.1.1 8 := hR.1.2.2.1 0 (by decide)
  unfold zRun at hq
  apply vcX7_run
  refine sp_within ik (inR_s (by omega) (by omega)) (inR_s (by omega) (by omega)) (fun t0 t1 => ⟨fun z => absurd z (by decide), fun _ => ?_⟩) (fun z => ⟨fun _ => ?_, fun z => absurd rfl z⟩)
  · rw [if_neg (by omega)] at hq
    rw [h.1.1, hc.f, e0]
    simp only [jI_mul, jI_add]
    rw [jI_le ⟨by omega, by omega⟩ ⟨by omega, by omega⟩]
    refine ⟨fun q => ?_, fun q => ?_⟩
    · rw [if_neg (by omega)] at hq
      rw [h.1.2.2.2.1]
      refine sp_recC h (fun G1 k1 k2 => ?_)
      have hc1 : CV G1 (B + 1) v := hc.off k2 (by omega)
      rw [k1.1.1, hc1.r10, hc1.to, e8]
      obtain ⟨n, hn⟩ : ∃ n : Nat, k = (n : Int) := ⟨k.toNat, by omega⟩
      subst hn
      rw [show ((n : Int)).toNat = n by omega] at hq
      have loop : ∀ m i : Nat, ∀ (G2 : Mm) (w : Nat → Nat → Int) (M : Ms), m = n - i → i ≤ n → CV G2 (B + 1) w → FR (B + 1) 30 G1 G2 → RepC w M → MI M (T + 2 * i) (K + i) → stk M → mTks m M = mTks n Z.1 → Wp 64 59 [some (vR 7 B), some (vI (jI (n : Int))), some (vI (jI (Z.1.1 8))), some (vI (jI (i : Int)))] [] G2 Q := by
        intro m
        induction m with
        | zero =>
          intro i G2 w M hmi hi hc2 hf2 hR2 hI hst he
          have he : M = mTks n Z.1 := he
          have k3 := k1.main hf2 (KC.mk hc2 hR2 hI.2.1)
          apply vcX7_run_59
          rw [jI_le (inR_n (by omega)) (inR_n (by omega)), k3.1.1, hc2.r10, hc2.to, hR2.1.2.2.1 0 (by decide), jI_sub]
          refine ⟨fun _ => ?_, fun q => by omega⟩
          rw [he] at k3 ⊢
          exact hq G2 k3 ((k2.sub (by omega) (by omega)).tr (hf2.sub (by omega) (by omega)))
        | succ m ih =>
          intro i G2 w M hmi hi hc2 hf2 hR2 hI hst he
          have k3 := k1.main hf2 (KC.mk hc2 hR2 hI.2.1)
          apply vcX7_run_59
          rw [jI_le (inR_n (by omega)) (inR_n (by omega)), k3.1.1, jI_add, show ((i : Int) + 1) = ((i + 1 : Nat) : Int) by omega]
          refine ⟨fun q => by omega, fun _ => ?_⟩
          refine sp_tick hc2 hR2 hI hst (by omega) (by omega) (fun G3 w3 k4 k5 k6 k7 k8 => ?_)
          refine ih (i + 1) G3 w3 (mTick M) (by omega) (by omega) k4 (hf2.tr k5) k6 ?_ k8 he
          rw [show T + 2 * ((i + 1 : Nat) : Int) = T + 2 * (i : Int) + 2 by omega, show K + ((i + 1 : Nat) : Int) = K + (i : Int) + 1 by omega]
          exact k7
      refine loop n 0 G1 v Z.1 (by omega) (by omega) hc1 FR.rf hR ?_ hz.1.2.1 rfl
      rw [show T + 2 * ((0 : Nat) : Int) = T by omega, show K + ((0 : Nat) : Int) = K by omega]
      exact hm
    · rw [if_pos (by omega)] at hq; exact hq G h FR.rf
  · rw [if_pos z] at hq; exact hq G h FR.rf
