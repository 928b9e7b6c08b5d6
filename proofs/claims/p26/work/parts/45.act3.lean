/-! ===== move, and the numbers that are set: both ===== -/
noncomputable def zMov (Z : Zst) (x t : Int) : Int × Zst := match lkp Z.1.2.1 x with
  | none => (-1001, Z)
  | some a => if ¬ (0 ≤ t ∧ t ≤ 99999) then (-1002, Z) else if t < Z.1.1 0 then (-1004, Z) else if a 1 = t then (-1005, Z) else (a 1, mMov Z.1 a t, Z.2.1, push Z.2.2.1 Z.1, Z.2.2.2)
theorem mMov_MI {M : Ms} {T K t : Int} {a : Ar} (h : MI M T K) (ha : a ∈ M.2.1) (ht : 0 ≤ t ∧ t ≤ T + 100000) : MI (mTim (mOff M a) a t) T K := mTim_MI (mOff_MI h ha) ht (mOff_n4 h ha)
theorem mMov_GI {M : Ms} {T K t : Int} {a : Ar} (h : GI M T K) (ha : a ∈ M.2.1) (ht : 0 ≤ t ∧ t ≤ T + 100000) : GI (mMov M a t) T K := by
  have hI := mMov_MI h.1 ha ht
  refine ⟨mSh_MI hI, mSh_st hI, ?_⟩
  have e : (mMov M a t).1 0 = (mTim (mOff M a) a t).1 0 := mSh_k hI (by decide) (by decide)
  have e2 : (mTim (mOff M a) a t).1 0 = M.1 0 := by show (mOff M a).1 0 = _; rw [mOff_k]
  rw [e, e2]; exact h.2.2
theorem zMov_ZI {Z : Zst} {T K x t : Int} (h : ZI Z T K) : ZI (zMov Z x t).2 T K := by
  have hs := h.1.1.1
  unfold SI at hs
  unfold zMov
  cases hf : lkp Z.1.2.1 x with
  | none => exact h
  | some a =>
    dsimp only
    split
    · exact h
    · split
      · exact h
      · split
        · exact h
        · exact h.rec (mMov_GI h.1 (lkp_i hf).1 (by omega))
theorem sp_moveC {G : Mm} {B : Nat} {Z : Zst} {T K x t : Int} {Q : dp_Ps} (h : SysC G B Z) (hz : ZI Z T K) (ix : inR x) (it : inR t)
    (hq : ∀ G', SysC G' B (zMov Z x t).2 → FR B 218 G G' → Q (jI (zMov Z x t).1) G') : Sp 58 5 [vR 7 B, vI (jI x), vI (jI t)] G Q := by
  have hm := hz.1.1
  have hl := hm.2.1
  have hs := hm.1
  unfold SI at hs
  obtain ⟨v, hc, hR⟩ := h.2.2.1.get
  have e0 : v 0 0 = Z.1.1 0 := hR.1.2.1 0 (by decide) (by decide)
  unfold zMov at hq
  apply vcX7_move
  rw [h.1.1]
  refine sp_placeOf hc hR.1.1 hl ix (fun i hi => (hR.2.1.BR hm i hi).1) (fun hno => ⟨fun _ => ?_, fun z => absurd rfl z⟩) (fun p hp hp0 _ => ?_)
  · rw [lkp_n (fun b hb => by
      obtain ⟨j, hj, rfl⟩ := hR.2.1.mem.mp hb
      rw [rc7_k (by decide)]
      exact hno j hj)] at hq
    exact hq G h FR.rf
  · rw [jI_inj (inR_n (by omega)) (inR_s (by omega) (by omega))]
    refine ⟨fun z => by omega, fun _ => ?_⟩
    have haL := hR.2.1.at hp
    have hav := AI_v (hR.2.1.AI hm.2.2.2.1 hp)
    rw [lkp_s hm.2.2.1 haL (by rw [rc7_k (by decide)]; exact hp0)] at hq
    dsimp only at hq
    refine sp_within it (inR_s (by omega) (by omega)) ⟨by omega, by omega⟩ (fun t0 t1 => ⟨fun z => absurd z (by decide), fun _ => ?_⟩) (fun z => ⟨fun _ => ?_, fun z => absurd rfl z⟩)
    · rw [if_neg (by omega)] at hq
      rw [h.1.1, hc.f, e0, jI_le ⟨by omega, by omega⟩ it, hc.r8, jI_cln (by omega), hc.al (by omega), jI_inj ⟨by omega, by omega⟩ it]
      refine ⟨fun q => ⟨jI_in (by omega) (by omega) (by omega), fun q2 => ?_, fun q2 => ?_⟩, fun q => ?_⟩
      · rw [if_neg (by omega), if_pos (by rw [rc7_k (by decide)]; exact q2)] at hq
        exact hq G h FR.rf
      · rw [if_neg (by omega), if_neg (by rw [rc7_k (by decide)]; exact q2)] at hq
        rw [h.1.2.2.2.1]
        refine sp_recC h (fun G1 k1 k2 => ?_)
        rw [k1.1.1]
        refine sp_moveA (hc.off k2 (by omega)) hR hm hp (by omega) (fun G2 v2' k3 k4 k5 k6 k7 => ?_)
        have := hq G2 (k1.main k4 (KC.mk k3 k5 k6.2.1)) ((k2.sub (by omega) (by omega)).tr (k4.sub (by omega) (by omega)))
        rw [rc7_k (by decide)] at this
        exact this
      · rw [if_pos (by omega)] at hq
        exact hq G h FR.rf
    · rw [if_pos z] at hq
      exact hq G h FR.rf
