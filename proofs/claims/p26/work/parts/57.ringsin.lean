/-! ===== how often it rang is logged; ringsIn: both ===== -/
theorem mR1_14 {M : Ms} {a : Ar} : (mR1 M a).1 14 = M.1 14 + 1 := mSc_14 (sl := M.1 0 - a 1) (ms := if a 2 = 0 then 0 else (M.1 0 - a 1) / a 2)
theorem itg_d {c : Nat} : ∀ (n : Nat) (M N : Ms), itg n c M N → N.1 8 - N.1 14 = M.1 8 - M.1 14
  | 0, M, N, t => by have t : M = N := t; rw [t]
  | n + 1, M, N, t => by
    obtain ⟨a, -, t2⟩ := t
    rw [itg_d n _ N t2, mR1_8, mR1_14]; omega
theorem mRA_d {M : Ms} {T K : Int} {c : Nat} (hJ : MJ M T K c) : (mRA M c).1 8 - (mRA M c).1 14 = M.1 8 - M.1 14 := by
  obtain ⟨n, t, -⟩ := mRg_sp hJ
  exact itg_d n M (mRg c M) t
theorem mRo_d {T K : Int} : ∀ (k j : Nat) (M : Ms), j + k ≤ 4 → MS M T K → (mRo k j M).1 8 - (mRo k j M).1 14 = M.1 8 - M.1 14
  | 0, _, _, _, _ => rfl
  | k + 1, j, M, hj, hS => by
    show (mRo k (j + 1) (cIf (due M j) (mRA M j) M)).1 8 - (mRo k (j + 1) (cIf (due M j) (mRA M j) M)).1 14 = _
    by_cases h : due M j
    · have hJ := hS.J (c := j) (by omega) h.2.2
      rw [cIf_t h, mRo_d k (j + 1) _ (by omega) (hS.qmRA hJ), mRA_d hJ]
    · rw [cIf_f h, mRo_d k (j + 1) _ (by omega) hS]
theorem mT1_14 {M : Ms} : (mT1 M).1 14 = M.1 14 := by
  show aU (aU M.1 1 (M.1 1 + 1)) 0 (M.1 0 + gro (M.1 1 + 1) (M.1 2)) 14 = _
  rw [aU_n (by decide), aU_n (by decide)]
theorem mTick_d {M : Ms} {T K : Int} (hm : MI M T K) (hT : T + 2 ≤ 100000000) (hK : K + 1 ≤ 10000000) : (mTick M).1 8 - (mTick M).1 14 = M.1 8 - M.1 14 := by
  have hs := hm.1
  unfold SI at hs
  have h1 := mLds_gr (M.1 7).toNat 0 _ (mT1_MS hm hT hK)
  have h2 := mRo_gr (M.1 7).toNat 0 _ (by omega) h1.2
  unfold mTick
  rw [mSh_k (k := 8) h2.2.1 (by decide) (by decide), mSh_k (k := 14) h2.2.1 (by decide) (by decide), mRo_d _ _ _ (by omega) h1.2, mLds_k, mT1_8, mT1_14]
theorem mTks_d {T K : Int} : ∀ (n : Nat) (M : Ms), MI M T K → stk M → T + 2 * n ≤ 100000000 → K + n ≤ 10000000 → (mTks n M).1 8 - (mTks n M).1 14 = M.1 8 - M.1 14
  | 0, _, _, _, _, _ => rfl
  | n + 1, M, hm, hst, hT, hK => by
    obtain ⟨h1, h2, h3⟩ := mTick_all hm (by omega) (by omega)
    show (mTks n (mTick M)).1 8 - (mTks n (mTick M)).1 14 = _
    rw [mTks_d n (mTick M) h2 h3 (by omega) (by omega), mTick_d hm (by omega) (by omega)]
-- ringsIn
noncomputable def rgN (x y : Int) : Nat → Nat → Ms → Int
  | 0, _, _ => -1005
  | k + 1, n, M => cIf (∀ b, b ∈ (mTick M).2.1 → b 0 = x → y < b 5) (n : Int) (rgN x y k (n + 1) (mTick M))
noncomputable def zRin (Z : Zst) (x : Int) : Int := match lkp Z.1.2.1 x with
  | none => -1001
  | some a => rgN x (a 5) 1000 1 Z.1
theorem sp_rinC {G : Mm} {B : Nat} {Z : Zst} {T K x : Int} {Q : dp_Ps} (h : SysC G B Z) (hz : ZI Z T K) (hT : T + 2000 ≤ 100000000) (hK : K + 1000 ≤ 10000000) (ix : inR x)
    (hq : ∀ G', SysC G' B Z → FR B 218 G G' → Q (jI (zRin Z x)) G') : Sp 73 5 [vR 7 B, vI (jI x)] G Q := by
  have hm := hz.1.1
  have hl := hm.2.1
  obtain ⟨v, hc, hR⟩ := h.2.2.1.get
  obtain ⟨u, hu, -⟩ := id h.2.2.2.1
  unfold zRin at hq
  apply vcX7_ringsIn
  rw [h.1.1]
  refine sp_placeOf hc hR.1.1 hl ix (fun i hi => (hR.2.1.BR hm i hi).1) (fun hno => ⟨fun _ => ?_, fun z => absurd rfl z⟩) (fun p hp hp0 _ => ?_)
  · rw [lkp_n (fun b hb => by
      obtain ⟨j, hj, rfl⟩ := hR.2.1.mem.mp hb
      rw [rc7_k (by decide)]
      exact hno j hj)] at hq
    exact hq G h FR.rf
  · rw [jI_inj (inR_n (by omega)) (inR_s (by omega) (by omega))]
    refine ⟨fun z => by omega, fun _ => ⟨jI_in (by omega) (by omega) (by omega), ?_⟩⟩
    rw [lkp_s hm.2.2.1 (hR.2.1.at hp) (by rw [rc7_k (by decide)]; exact hp0)] at hq
    dsimp only at hq
    rw [rc7_k (by decide)] at hq
    have hav := AI_v (hR.2.1.AI hm.2.2.2.1 hp)
    have hs := hm.1
    unfold SI at hs
    have i5 : inR (v (2 + p) 5) := ⟨by omega, by omega⟩
    rw [h.1.1, h.1.2.1, hc.r8, jI_cln (by omega), hc.al (by omega)]
    refine sp_copyM hu hc (by omega) hR hl (fun G1 v1 k1 k2 k3 => ?_)
    have loop : ∀ k n : Nat, ∀ (G2 : Mm) (w : Nat → Nat → Int) (N : Ms) (w2 : Option Vl), k + n = 1001 → 1 ≤ n → CV G2 (B + 31) w → FR (B + 31) 30 G G2 → RepC w N → MI N (T + 2 * (n - 1)) (K + (n - 1)) → stk N → rgN x (v (2 + p) 5) k n N = rgN x (v (2 + p) 5) 1000 1 Z.1 → Wp 73 45 [some (vR 7 B), some (vI (jI x)), w2, some (vI (jI (v (2 + p) 5))), some (vI (jI (n : Int)))] [] G2 Q := by
      intro k
      induction k with
      | zero =>
        intro n G2 w N w2 hkn hn1 hc2 hf2 hR2 hI hst he
        apply vcX7_ringsIn_45
        rw [jI_lt (inR_s (by omega) (by omega)) (inR_n (by omega))]
        refine ⟨fun _ => ?_, fun z => by omega⟩
        have he : (-1005 : Int) = rgN x (v (2 + p) 5) 1000 1 Z.1 := he
        rw [← he] at hq
        exact hq G2 (h.trial hf2 (KC.mk hc2 hR2 hI.2.1).no) (hf2.sub (by omega) (by omega))
      | succ k ih =>
        intro n G2 w N w2 hkn hn1 hc2 hf2 hR2 hI hst he
        have s2 := h.trial hf2 (KC.mk hc2 hR2 hI.2.1).no
        apply vcX7_ringsIn_45
        rw [jI_lt (inR_s (by omega) (by omega)) (inR_n (by omega)), s2.1.2.1]
        refine ⟨fun z => by omega, fun _ => ?_⟩
        refine sp_tick hc2 hR2 hI hst (by omega) (by omega) (fun G3 w3 k4 k5 k6 k7 k8 => ?_)
        have f3 := hf2.tr k5
        have s3 := h.trial f3 (KC.mk k4 k6 k7.2.1).no
        rw [s3.1.2.1]
        have he : cIf (∀ b, b ∈ (mTick N).2.1 → b 0 = x → v (2 + p) 5 < b 5) (n : Int) (rgN x (v (2 + p) 5) k (n + 1) (mTick N)) = rgN x (v (2 + p) 5) 1000 1 Z.1 := he
        refine sp_rungSince k4 k6 k7 ix i5 (fun hy => ⟨fun z => absurd z (by decide), fun _ => ?_⟩) (fun hn => ⟨fun _ => ?_, fun z => absurd rfl z⟩)
        · rw [cIf_t hy] at he
          rw [← he] at hq
          exact hq G3 s3 (f3.sub (by omega) (by omega))
        · rw [cIf_f (fun hy => by
            obtain ⟨b, hb, hb0, hb5⟩ := hn
            have := hy b hb hb0
            omega)] at he
          rw [jI_s]
          refine ih (n + 1) G3 w3 (mTick N) w2 (by omega) (by omega) k4 f3 k6 ?_ k8 he
          rw [show T + 2 * (((n + 1 : Nat) : Int) - 1) = T + 2 * ((n : Int) - 1) + 2 by omega, show K + (((n + 1 : Nat) : Int) - 1) = K + ((n : Int) - 1) + 1 by omega]
          exact k7
    refine loop 1000 1 G1 v1 Z.1 _ (by omega) (by omega) k1 k2 k3 ?_ hz.1.2.1 rfl
    rw [show T + 2 * (((1 : Nat) : Int) - 1) = T by omega, show K + (((1 : Nat) : Int) - 1) = K by omega]
    exact hm
