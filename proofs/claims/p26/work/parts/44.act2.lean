/-! ===== cancel, move: both ===== -/
def lkp (L : List Ar) (x : Int) : Option Ar := L.find? (fun b => decide (b 0 = x))
theorem lkp_s {L : List Ar} (hn : NI L) {a : Ar} {x : Int} (ha : a ∈ L) (h0 : a 0 = x) : lkp L x = some a := by
  unfold lkp
  cases hf : L.find? (fun b => decide (b 0 = x)) with
  | none =>
    have := List.find?_eq_none.mp hf a ha
    simp [h0] at this
  | some b =>
    have h1 := List.mem_of_find?_eq_some hf
    have h2 := List.find?_some hf
    have h2 : b 0 = x := by simpa using h2
    rw [hn.inj h1 ha (by rw [h2, h0])]
theorem lkp_n {L : List Ar} {x : Int} (h : ∀ b, b ∈ L → b 0 ≠ x) : lkp L x = none := by
  unfold lkp
  exact List.find?_eq_none.mpr (fun b hb => by simp [h b hb])
theorem lkp_i {L : List Ar} {x : Int} {a : Ar} (h : lkp L x = some a) : a ∈ L ∧ a 0 = x := by
  unfold lkp at h
  exact ⟨List.mem_of_find?_eq_some h, by simpa using List.find?_some h⟩
noncomputable def zCan (Z : Zst) (x : Int) : Int × Zst := match lkp Z.1.2.1 x with
  | none => (-1001, Z)
  | some a => (((mCan Z.1 a).2.1.length : Int), mCan Z.1 a, Z.2.1, push Z.2.2.1 Z.1, Z.2.2.2)
theorem mOff_k {M : Ms} {a : Ar} : (mOff M a).1 = M.1 := by
  unfold mOff
  by_cases h : a 4 = -1005
  · rw [cIf_t h]
  · rw [cIf_f h]
theorem mCan_MI {M : Ms} {T K : Int} {a : Ar} (h : MI M T K) (ha : a ∈ M.2.1) : MI (mRem (mOff M a) a) T K := mRem_MI (mOff_MI h ha) (mOff_n4 h ha)
theorem mCan_GI {M : Ms} {T K : Int} {a : Ar} (h : GI M T K) (ha : a ∈ M.2.1) : GI (mCan M a) T K := by
  have hI := mCan_MI h.1 ha
  refine ⟨mSh_MI hI, mSh_st hI, ?_⟩
  have e : (mCan M a).1 0 = (mRem (mOff M a) a).1 0 := mSh_k hI (by decide) (by decide)
  have e2 : (mRem (mOff M a) a).1 0 = M.1 0 := by show (mOff M a).1 0 = _; rw [mOff_k]
  rw [e, e2]; exact h.2.2
theorem zCan_ZI {Z : Zst} {T K x : Int} (h : ZI Z T K) : ZI (zCan Z x).2 T K := by
  unfold zCan
  cases hf : lkp Z.1.2.1 x with
  | none => exact h
  | some a => exact h.rec (mCan_GI h.1 (lkp_i hf).1)
theorem sp_cancelC {G : Mm} {B : Nat} {Z : Zst} {T K x : Int} {Q : dp_Ps} (h : SysC G B Z) (hz : ZI Z T K) (ix : inR x)
    (hq : ∀ G', SysC G' B (zCan Z x).2 → FR B 218 G G' → Q (jI (zCan Z x).1) G') : Sp 57 3 [vR 7 B, vI (jI x)] G Q := by
  have hm := hz.1.1
  have hl := hm.2.1
  obtain ⟨v, hc, hR⟩ := h.2.2.1.get
  unfold zCan at hq
  apply vcX7_cancel
  rw [h.1.1]
  refine sp_placeOf hc hR.1.1 hl ix (fun i hi => (hR.2.1.BR hm i hi).1) (fun hno => ⟨fun _ => ?_, fun z => absurd rfl z⟩) (fun p hp hp0 _ => ?_)
  · rw [lkp_n (fun b hb => by
      obtain ⟨j, hj, rfl⟩ := hR.2.1.mem.mp hb
      rw [rc7_k (by decide)]
      exact hno j hj)] at hq
    exact hq G h FR.rf
  · rw [jI_inj (inR_n (by omega)) (inR_s (by omega) (by omega))]
    refine ⟨fun z => by omega, fun _ => ?_⟩
    have haL := hR.2.1.at hp
    rw [lkp_s hm.2.2.1 haL (by rw [rc7_k (by decide)]; exact hp0)] at hq
    dsimp only at hq
    rw [h.1.2.2.2.1, h.1.1]
    refine sp_recC h (fun G1 k1 k2 => ?_)
    rw [k1.1.1]
    refine sp_cancelA (hc.off k2 (by omega)) hR hm hp (fun G2 v2' k3 k4 k5 k6 k7 => ?_)
    have k8 := k1.main k4 (KC.mk k3 k5 k6.2.1)
    rw [k8.1.1, k3.f, k5.1.1]
    exact hq G2 k8 ((k2.sub (by omega) (by omega)).tr (k4.sub (by omega) (by omega)))
theorem RZ.row {G G' : Mm} {A : Nat} {f : Ar} (h : RZ G G' A) (hV : RV G (A + 1) f) : RV G' (A + 1) f := fun k => by rw [h.2 (A + 1) k (by omega) (by omega)]; exact hV k
