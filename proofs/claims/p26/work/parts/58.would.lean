/-! ===== what other numbers of comparers would bring: both ===== -/
def zB (M : Ms) : Ms := (aU (aU (aU M.1 9 0) 10 0) 11 0, M.2)
def zD (M : Ms) : Ms := (aU (aU (aU (aU (aU (aU M.1 8 0) 9 0) 10 0) 11 0) 12 0) 13 0, M.2)
theorem zB_k {M : Ms} {k : Nat} (h1 : k ≠ 9) (h2 : k ≠ 10) (h3 : k ≠ 11) : (zB M).1 k = M.1 k := by
  show aU (aU (aU M.1 9 0) 10 0) 11 0 k = _
  rw [aU_n h3, aU_n h2, aU_n h1]
theorem zB_10 {M : Ms} : (zB M).1 10 = 0 := by
  show aU (aU (aU M.1 9 0) 10 0) 11 0 10 = _
  rw [aU_n (by decide), aU_s]
theorem zD_k {M : Ms} {k : Nat} (h1 : k < 8 ∨ 13 < k) : (zD M).1 k = M.1 k := by
  show aU (aU (aU (aU (aU (aU M.1 8 0) 9 0) 10 0) 11 0) 12 0) 13 0 k = _
  rw [aU_n (by omega), aU_n (by omega), aU_n (by omega), aU_n (by omega), aU_n (by omega), aU_n (by omega)]
theorem zD_z {M : Ms} {k : Nat} (h : k < 6) : (zD M).1 (8 + k) = 0 := by
  show aU (aU (aU (aU (aU (aU M.1 8 0) 9 0) 10 0) 11 0) 12 0) 13 0 (8 + k) = 0
  rcases (show k = 0 ∨ k = 1 ∨ k = 2 ∨ k = 3 ∨ k = 4 ∨ k = 5 by omega) with rfl | rfl | rfl | rfl | rfl | rfl <;> simp [aU]
theorem zBD {M : Ms} : dq (-(M.1 8)) (zB M) (zD M) := by
  refine ⟨rfl, fun k h8 h12 h13 => ?_, ?_⟩
  · by_cases q : k < 8 ∨ 13 < k
    · rw [zD_k q, zB_k (by omega) (by omega) (by omega)]
    · rcases (show k = 9 ∨ k = 10 ∨ k = 11 by omega) with rfl | rfl | rfl
      · rw [zD_z (k := 1) (by decide)]; simp [zB, aU]
      · rw [zD_z (k := 2) (by decide)]; simp [zB, aU]
      · rw [zD_z (k := 3) (by decide)]; simp [zB, aU]
  · rw [zD_z (k := 0) (by decide), zB_k (by decide) (by decide) (by decide)]; omega
theorem zB_MI {M : Ms} {T K : Int} (h : MI M T K) : MI (zB M) T K := by
  obtain ⟨hs, hl, hn, hA, hC⟩ := h
  have e : ∀ k, k ≠ 9 → k ≠ 10 → k ≠ 11 → (zB M).1 k = M.1 k := fun k h1 h2 h3 => zB_k h1 h2 h3
  refine ⟨?_, hl, hn, fun a ha => ?_, fun c hc => hC c hc⟩
  · unfold SI at hs ⊢
    rw [e 0 (by decide) (by decide) (by decide), e 1 (by decide) (by decide) (by decide), e 2 (by decide) (by decide) (by decide), e 3 (by decide) (by decide) (by decide), e 4 (by decide) (by decide) (by decide), e 6 (by decide) (by decide) (by decide), e 7 (by decide) (by decide) (by decide), e 14 (by decide) (by decide) (by decide), zB_10]
    show _ ∧ _ ∧ _ ∧ _ ∧ _ ∧ _ ∧ _ ∧ _ ∧ _ ∧ (M.2.2.2.length : Int) = _ ∧ _ ∧ _
    omega
  · obtain ⟨a0, a1, a2, a3, a4, a5, a6, a7⟩ := hA a ha
    exact ⟨by rw [e 6 (by decide) (by decide) (by decide)]; exact a0, a1, a2, a3, by rw [e 7 (by decide) (by decide) (by decide)]; exact a4, a5, a6, a7⟩
theorem zB_stk {M : Ms} (h : stk M) : stk (zB M) := stk_same (M := M) rfl (zB_k (by decide) (by decide) (by decide)) (zB_k (by decide) (by decide) (by decide)) (fun _ => rfl) h
/-- as many comparers as there are: nothing changes -/
theorem mCh_same {M : Ms} {T K : Int} (h : GI M T K) : mCh M (M.1 7).toNat = M := by
  have hs := h.1.1
  unfold SI at hs
  unfold mCh
  rw [show (M.1 7).toNat - (M.1 7).toNat = 0 by omega]
  have e : mSet7 (mFrs 0 (M.1 7).toNat M) ((M.1 7).toNat : Int) = M := by
    show (aU M.1 7 ((M.1 7).toNat : Int), M.2.1, M.2.2.1, M.2.2.2) = M
    rw [show ((M.1 7).toNat : Int) = M.1 7 by omega, aU_id]
  rw [e]
  exact mSh_stk h.2.1
noncomputable def wld (M : Ms) (m t : Nat) : Ms := mTks t (zB (mCh M m))
theorem wld_C {M : Ms} {T K : Int} {m t : Nat} (h : GI M T K) (h1 : 1 ≤ m) (h4 : m ≤ 4) (ht : t ≤ 500) (hT : T + 2000 ≤ 100000000) (hK : K + 1000 ≤ 10000000) : dq (-((mCh M m).1 8)) (wld M m t) (mTks t (zD (mCh M m))) := by
  have hg := mCh_GI (many := m) h h1 h4
  exact dq.qmTks t _ _ zBD (zB_MI hg.1) (zB_stk hg.2.1) (by omega) (by omega)
theorem wld_rg {M : Ms} {T K : Int} {m t : Nat} (h : GI M T K) (h1 : 1 ≤ m) (h4 : m ≤ 4) (ht : t ≤ 500) (hT : T + 2000 ≤ 100000000) (hK : K + 1000 ≤ 10000000) : 0 ≤ (wld M m t).1 8 - (mCh M m).1 8 ∧ inR ((wld M m t).1 8 - (mCh M m).1 8) := by
  have hg := mCh_GI (many := m) h h1 h4
  have hB := zB_MI hg.1
  have hd := mTks_d t _ hB (zB_stk hg.2.1) (by omega) (by omega)
  have ha := mTks_all t _ hB (zB_stk hg.2.1) (by omega) (by omega)
  have e8 : (zB (mCh M m)).1 8 = (mCh M m).1 8 := zB_k (by decide) (by decide) (by decide)
  have s1 := hB.1
  have s2 := ha.2.1.1
  have s3 := ha.1.2.1
  unfold SI at s1 s2
  rw [e8] at hd s3
  show 0 ≤ (mTks t (zB (mCh M m))).1 8 - _ ∧ inR ((mTks t (zB (mCh M m))).1 8 - _)
  exact ⟨by omega, by omega, by omega⟩
theorem RepC.clr {v : Nat → Nat → Int} {M : Ms} (h : RepC v M) (hl : M.2.1.length ≤ 20) : RepC (v2 (v2 (v2 (v2 (v2 (v2 v 27 0 0) 27 1 0) 27 2 0) 27 3 0) 27 4 0) 27 5 0) (zD M) := by
  have er : ∀ j, j ≠ 27 → v2 (v2 (v2 (v2 (v2 (v2 v 27 0 0) 27 1 0) 27 2 0) 27 3 0) 27 4 0) 27 5 0 j = v j := fun j hj => by
    rw [v2_r hj, v2_r hj, v2_r hj, v2_r hj, v2_r hj, v2_r hj]
  obtain ⟨⟨s1, s2, s3, s4⟩, hpm, hsr, hcm, hlg⟩ := h
  refine ⟨⟨?_, fun k hk hk5 => ?_, fun k hk => ?_, ?_⟩, hpm.eq (fun i hi => er _ (by omega)), ?_, fun c hc => ?_, hlg.eq (er 28 (by decide)) (er 29 (by decide))⟩
  · rw [er 0 (by decide)]; exact s1
  · rw [er 0 (by decide), zD_k (by omega)]; exact s2 k hk hk5
  · rw [zD_z hk]
    rcases (show k = 0 ∨ k = 1 ∨ k = 2 ∨ k = 3 ∨ k = 4 ∨ k = 5 by omega) with rfl | rfl | rfl | rfl | rfl | rfl <;> simp [v2]
  · rw [er 28 (by decide), zD_k (by omega)]; exact s4
  · exact hsr.eq (fun i hi k _ => by rw [er _ (by have : i < M.2.1.length := hi; omega)])
  · exact cmp_o (L' := (zD M).2.1) (C' := (zD M).2.2.1) (hcm c hc) (er _ (by omega)) rfl (fun x => Iff.rfl) rfl
/-- the class tries it -/
theorem sp_tryC {G : Mm} {B m t : Nat} {Z : Zst} {T K : Int} {Q : dp_Ps} (h : SysC G B Z) (hz : ZI Z T K) (h1 : 1 ≤ m) (h4 : m ≤ 4) (ht : t ≤ 500) (hT : T + 2000 ≤ 100000000) (hK : K + 1000 ≤ 10000000)
    (hq : ∀ G' v', SysC G' B Z → FR (B + 31) 30 G G' → CV G' (B + 31) v' → RepC v' (mTks t (zD (mCh Z.1 m))) → Q (jI 0) G') : Sp 79 4 [vR 7 B, vI (jI (m : Int)), vI (jI (t : Int))] G Q := by
  have hm := hz.1.1
  have hl := hm.2.1
  obtain ⟨v, hc, hR⟩ := h.2.2.1.get
  obtain ⟨u, hu, -⟩ := id h.2.2.2.1
  have hg := mCh_GI (many := m) hz.1 h1 h4
  apply vcX7_tryComparers
  rw [h.1.1, h.1.2.1]
  refine sp_copyM hu hc (by omega) hR hl (fun G1 v1 k1 k2 k3 => ?_)
  have s1 := h.trial k2 (KC.mk k1 k3 hl).no
  rw [s1.1.2.1]
  refine sp_change k1 k3 hm h1 h4 (fun G2 v2' j1 j2 j3 j4 j5 => ?_)
  have f2 := k2.tr j2
  have s2 := h.trial f2 (KC.mk j1 j3 j4.2.1).no
  rw [s2.1.2.1, j1.r10]
  refine sp_tclear j1 (fun G3 i1 i2 i3 => ?_)
  have f3 := f2.tr i2
  have c3 := j3.clr j4.2.1
  have hD : MI (zD (mCh Z.1 m)) T K := dq.qMI zBD (zB_MI hg.1)
  have hS : stk (zD (mCh Z.1 m)) := dq.qstk zBD (zB_stk hg.2.1)
  have loop : ∀ k n : Nat, ∀ (G4 : Mm) (w : Nat → Nat → Int) (N : Ms) (w1 : Option Vl), k + n = t → CV G4 (B + 31) w → FR (B + 31) 30 G G4 → RepC w N → MI N (T + 2 * n) (K + n) → stk N → mTks k N = mTks t (zD (mCh Z.1 m)) → Wp 79 31 [some (vR 7 B), w1, some (vI (jI (t : Int))), some (vI (jI (n : Int)))] [] G4 Q := by
    intro k
    induction k with
    | zero =>
      intro n G4 w N w1 hkn hc4 hf4 hR4 hI hst he
      have he : N = mTks t (zD (mCh Z.1 m)) := he
      apply vcX7_tryComparers_31
      rw [jI_le (inR_n (by omega)) (inR_n (by omega))]
      refine ⟨fun _ => ?_, fun z => by omega⟩
      exact hq G4 w (h.trial hf4 (KC.mk hc4 hR4 hI.2.1).no) hf4 hc4 (by rw [← he]; exact hR4)
    | succ k ih =>
      intro n G4 w N w1 hkn hc4 hf4 hR4 hI hst he
      have s4 := h.trial hf4 (KC.mk hc4 hR4 hI.2.1).no
      apply vcX7_tryComparers_31
      rw [jI_le (inR_n (by omega)) (inR_n (by omega)), s4.1.2.1, jI_s]
      refine ⟨fun z => by omega, fun _ => ?_⟩
      refine sp_tick hc4 hR4 hI hst (by omega) (by omega) (fun G5 w5 k4 k5 k6 k7 k8 => ?_)
      refine ih (n + 1) G5 w5 (mTick N) w1 (by omega) k4 (hf4.tr k5) k6 ?_ k8 he
      rw [show T + 2 * ((n + 1 : Nat) : Int) = T + 2 * (n : Int) + 2 by omega, show K + ((n + 1 : Nat) : Int) = K + (n : Int) + 1 by omega]
      exact k7
  refine loop t 0 G3 _ _ _ (by omega) i1 f3 c3 ?_ hS rfl
  rw [show T + 2 * ((0 : Nat) : Int) = T by omega, show K + ((0 : Nat) : Int) = K by omega]
  exact hD
theorem zB_RepR {f : Ar} {M : Ms} (h : RepR f M) : RepR (aU (aU (aU f 5 0) 6 0) 7 0) (zB M) := ((h.hd (k := 5) (x := 0) (by decide) (by decide)).hd (k := 6) (x := 0) (by decide) (by decide)).hd (k := 7) (x := 0) (by decide) (by decide)
-- ifComparers
noncomputable def zIfq (M : Ms) (m t : Nat) (y : Int) : Int := if y = 0 then (wld M m t).1 8 - (mCh M m).1 8 else if y = 1 then (wld M m t).1 9 else if y = 2 then (wld M m t).1 10 else (wld M m t).1 11
noncomputable def zIfc (Z : Zst) (m t y : Int) : Int := if ¬ (1 ≤ m ∧ m ≤ 4) ∨ ¬ (1 ≤ t ∧ t ≤ 500) ∨ ¬ (0 ≤ y ∧ y ≤ 3) then -1002 else zIfq Z.1 m.toNat t.toNat y
theorem sp_ifcC {G : Mm} {B : Nat} {Z : Zst} {T K m t y : Int} {Q : dp_Ps} (h : SysC G B Z) (hz : ZI Z T K) (hT : T + 2000 ≤ 100000000) (hK : K + 1000 ≤ 10000000) (im : inR m) (it : inR t) (iy : inR y)
    (hq : ∀ G', SysC G' B Z → FR B 218 G G' → Q (jI (zIfc Z m t y)) G') : Sp 74 4 [vR 7 B, vI (jI m), vI (jI t), vI (jI y)] G Q := by
  unfold zIfc at hq
  have bad : (¬ (1 ≤ m ∧ m ≤ 4) ∨ ¬ (1 ≤ t ∧ t ≤ 500) ∨ ¬ (0 ≤ y ∧ y ≤ 3)) → Q (jI (-1002)) G := by
    intro z
    rw [if_pos z] at hq
    exact hq G h FR.rf
  apply vcX7_ifComparers
  refine sp_within im (inR_s (by omega) (by omega)) (inR_s (by omega) (by omega)) (fun t0 t1 => ⟨fun z => absurd z (by decide), fun _ => ?_⟩) (fun z => ⟨fun _ => bad (Or.inl z), fun z => absurd rfl z⟩)
  refine sp_within it (inR_s (by omega) (by omega)) (inR_s (by omega) (by omega)) (fun t2 t3 => ⟨fun z => absurd z (by decide), fun _ => ?_⟩) (fun z => ⟨fun _ => bad (Or.inr (Or.inl z)), fun z => absurd rfl z⟩)
  refine sp_within iy (inR_s (by omega) (by omega)) (inR_s (by omega) (by omega)) (fun t4 t5 => ⟨fun z => absurd z (by decide), fun _ => ?_⟩) (fun z => ⟨fun _ => bad (Or.inr (Or.inr z)), fun z => absurd rfl z⟩)
  rw [if_neg (by omega)] at hq
  obtain ⟨m, rfl⟩ := Int.eq_ofNat_of_zero_le (show 0 ≤ m by omega)
  obtain ⟨t, rfl⟩ := Int.eq_ofNat_of_zero_le (show 0 ≤ t by omega)
  rw [show ((m : Int)).toNat = m by omega, show ((t : Int)).toNat = t by omega] at hq
  have hw := wld_C (m := m) (t := t) hz.1 (by omega) (by omega) (by omega) hT hK
  refine sp_tryC h hz (by omega) (by omega) (by omega) hT hK (fun G1 v1 k1 k2 k3 k4 => ?_)
  have hq := hq G1 k1 (k2.sub (by omega) (by omega))
  have hr : ∀ k, k < 6 → v1 27 k = (mTks t (zD (mCh Z.1 m))).1 (8 + k) := k4.1.2.2.1
  rw [jI_toInt iy, k1.1.2.1, k3.r10, k3.to, k3.to, k3.to, k3.to, hr 0 (by decide), hr 1 (by decide), hr 2 (by decide), hr 3 (by decide)]
  refine ⟨fun q => ?_, fun n0 => ⟨fun q => ?_, fun n1 => ⟨fun q => ?_, fun n2 => ?_⟩⟩⟩
  · rw [q] at hq
    have hq : Q (jI ((wld Z.1 m t).1 8 - (mCh Z.1 m).1 8)) G1 := hq
    show Q (jI ((mTks t (zD (mCh Z.1 m))).1 8)) G1
    rw [hw.2.2, show (wld Z.1 m t).1 8 + -((mCh Z.1 m).1 8) = (wld Z.1 m t).1 8 - (mCh Z.1 m).1 8 by omega]
    exact hq
  · rw [q] at hq
    show Q (jI ((mTks t (zD (mCh Z.1 m))).1 9)) G1
    rw [hw.2.1 9 (by decide) (by decide) (by decide)]
    exact hq
  · rw [q] at hq
    show Q (jI ((mTks t (zD (mCh Z.1 m))).1 10)) G1
    rw [hw.2.1 10 (by decide) (by decide) (by decide)]
    exact hq
  · unfold zIfq at hq
    rw [if_neg n0, if_neg n1, if_neg n2] at hq
    show Q (jI ((mTks t (zD (mCh Z.1 m))).1 11)) G1
    rw [hw.2.1 11 (by decide) (by decide) (by decide)]
    exact hq
