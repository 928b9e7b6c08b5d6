/-! ===== comparers, window, loading, drift, correction: both ===== -/
def mNum (M : Ms) (k : Nat) (x : Int) : Ms := (aU M.1 k x, M.2)
theorem mNum_MI {M : Ms} {T K x : Int} {k : Nat} (h : MI M T K) (hk : (k = 0 ∧ 0 ≤ x ∧ x ≤ T) ∨ (k = 2 ∧ -999 ≤ x ∧ x ≤ 999) ∨ (k = 3 ∧ 0 ≤ x ∧ x ≤ 20) ∨ (k = 4 ∧ 0 ≤ x ∧ x ≤ 9)) : MI (mNum M k x) T K := by
  obtain ⟨hs, hl, hn, hA, hC⟩ := h
  have e : ∀ j, j ≠ k → (mNum M k x).1 j = M.1 j := fun j hj => aU_n hj
  have ek : (mNum M k x).1 k = x := aU_s _ _ _
  refine ⟨?_, hl, hn, fun a ha => ?_, fun c hc => hC c hc⟩
  · unfold SI at hs ⊢
    rw [e 1 (by omega), e 6 (by omega), e 7 (by omega), e 10 (by omega), e 14 (by omega)]
    show _ ∧ _ ∧ _ ∧ _ ∧ _ ∧ _ ∧ _ ∧ _ ∧ _ ∧ (M.2.2.2.length : Int) = _ ∧ _ ∧ _
    rcases hk with ⟨rfl, h1, h2⟩ | ⟨rfl, h1, h2⟩ | ⟨rfl, h1, h2⟩ | ⟨rfl, h1, h2⟩
    · rw [ek, e 2 (by omega), e 3 (by omega), e 4 (by omega)]; omega
    · rw [ek, e 0 (by omega), e 3 (by omega), e 4 (by omega)]; omega
    · rw [ek, e 0 (by omega), e 2 (by omega), e 4 (by omega)]; omega
    · rw [ek, e 0 (by omega), e 2 (by omega), e 3 (by omega)]; omega
  · obtain ⟨a0, a1, a2, a3, a4, a5, a6, a7⟩ := hA a ha
    exact ⟨by rw [e 6 (by omega)]; exact a0, a1, a2, a3, by rw [e 7 (by omega)]; exact a4, a5, a6, a7⟩
theorem mNumS_GI {M : Ms} {T K x : Int} {k : Nat} (h : GI M T K) (hT : 99999 ≤ T) (hk : (k = 0 ∧ 0 ≤ x ∧ x ≤ 99999) ∨ (k = 3 ∧ 0 ≤ x ∧ x ≤ 20)) : GI (mSh (mNum M k x)) T K := by
  have hI := mNum_MI (k := k) (x := x) h.1 (by omega)
  refine ⟨mSh_MI hI, mSh_st hI, ?_⟩
  have e : (mSh (mNum M k x)).1 0 = (mNum M k x).1 0 := mSh_k hI (by decide) (by decide)
  rw [e]
  rcases hk with ⟨rfl, h1, h2⟩ | ⟨rfl, h1, h2⟩
  · show aU M.1 0 x 0 ≤ _; rw [aU_s]; exact h2
  · show aU M.1 3 x 0 ≤ _; rw [aU_n (by decide)]; exact h.2.2
theorem mNum_GI {M : Ms} {T K x : Int} {k : Nat} (h : GI M T K) (hk : (k = 2 ∧ -999 ≤ x ∧ x ≤ 999) ∨ (k = 4 ∧ 0 ≤ x ∧ x ≤ 9)) : GI (mNum M k x) T K := by
  refine ⟨mNum_MI h.1 (by omega), stk_same (M := M) rfl (aU_n (by omega)) (aU_n (by omega)) (fun _ => rfl) h.2.1, ?_⟩
  show aU M.1 k x 0 ≤ _
  rw [aU_n (by omega)]; exact h.2.2
theorem mCh_GI {M : Ms} {T K : Int} {many : Nat} (h : GI M T K) (h1 : 1 ≤ many) (h4 : many ≤ 4) : GI (mCh M many) T K := by
  have hI := mSet7_MI (many := many) h.1 h1 h4
  refine ⟨mSh_MI hI, mSh_st hI, ?_⟩
  have e : (mCh M many).1 0 = (mSet7 (mFrs ((M.1 7).toNat - many) many M) many).1 0 := mSh_k hI (by decide) (by decide)
  have e2 : (mSet7 (mFrs ((M.1 7).toNat - many) many M) many).1 0 = M.1 0 := by
    show aU (mFrs ((M.1 7).toNat - many) many M).1 7 (many : Int) 0 = _
    rw [aU_n (by decide), mFrs_0]
  rw [e, e2]; exact h.2.2
noncomputable def zCmp (Z : Zst) (k : Int) : Int × Zst := if ¬ (1 ≤ k ∧ k ≤ 4) then (-1002, Z) else if Z.1.1 7 = k then (-1005, Z) else (Z.1.1 7, mCh Z.1 k.toNat, Z.2.1, push Z.2.2.1 Z.1, Z.2.2.2)
noncomputable def zWin (Z : Zst) (k : Int) : Int × Zst := if ¬ (0 ≤ k ∧ k ≤ 20) then (-1002, Z) else if Z.1.1 3 = k then (-1005, Z) else (Z.1.1 3, mSh (mNum Z.1 3 k), Z.2.1, push Z.2.2.1 Z.1, Z.2.2.2)
noncomputable def zLoa (Z : Zst) (k : Int) : Int × Zst := if ¬ (0 ≤ k ∧ k ≤ 9) then (-1002, Z) else if Z.1.1 4 = k then (-1005, Z) else (Z.1.1 4, mNum Z.1 4 k, Z.2.1, push Z.2.2.1 Z.1, Z.2.2.2)
noncomputable def zDri (Z : Zst) (k : Int) : Int × Zst := if ¬ (-999 ≤ k ∧ k ≤ 999) ∨ k = 1 ∨ k = -1 then (-1002, Z) else if Z.1.1 2 = k then (-1005, Z) else (Z.1.1 2, mNum Z.1 2 k, Z.2.1, push Z.2.2.1 Z.1, Z.2.2.2)
noncomputable def zCor (Z : Zst) (k : Int) : Int × Zst := if ¬ (-999 ≤ k ∧ k ≤ 999) then (-1002, Z) else if ¬ (0 ≤ Z.1.1 0 + k ∧ Z.1.1 0 + k ≤ 99999) then (-1004, Z) else if k = 0 then (-1005, Z) else (Z.1.1 0 + k, mSh (mNum Z.1 0 (Z.1.1 0 + k)), Z.2.1, push Z.2.2.1 Z.1, Z.2.2.2)
theorem zCmp_ZI {Z : Zst} {T K k : Int} (h : ZI Z T K) : ZI (zCmp Z k).2 T K := by
  unfold zCmp
  split
  · exact h
  · split
    · exact h
    · exact h.rec (mCh_GI h.1 (by omega) (by omega))
theorem zWin_ZI {Z : Zst} {T K k : Int} (h : ZI Z T K) (hT : 99999 ≤ T) : ZI (zWin Z k).2 T K := by
  unfold zWin
  split
  · exact h
  · split
    · exact h
    · exact h.rec (mNumS_GI h.1 hT (by omega))
theorem zLoa_ZI {Z : Zst} {T K k : Int} (h : ZI Z T K) : ZI (zLoa Z k).2 T K := by
  unfold zLoa
  split
  · exact h
  · split
    · exact h
    · exact h.rec (mNum_GI h.1 (by omega))
theorem zDri_ZI {Z : Zst} {T K k : Int} (h : ZI Z T K) : ZI (zDri Z k).2 T K := by
  unfold zDri
  split
  · exact h
  · split
    · exact h
    · exact h.rec (mNum_GI h.1 (by omega))
theorem zCor_ZI {Z : Zst} {T K k : Int} (h : ZI Z T K) (hT : 99999 ≤ T) : ZI (zCor Z k).2 T K := by
  unfold zCor
  split
  · exact h
  · split
    · exact h
    · split
      · exact h
      · exact h.rec (mNumS_GI h.1 hT (by omega))
theorem sp_cmpC {G : Mm} {B : Nat} {Z : Zst} {T K k : Int} {Q : dp_Ps} (h : SysC G B Z) (hz : ZI Z T K) (ik : inR k)
    (hq : ∀ G', SysC G' B (zCmp Z k).2 → FR B 218 G G' → Q (jI (zCmp Z k).1) G') : Sp 59 3 [vR 7 B, vI (jI k)] G Q := by
  have hm := hz.1.1
  have hs := hm.1
  unfold SI at hs
  obtain ⟨v, hc, hR⟩ := h.2.2.1.get
  have e7 : v 0 7 = Z.1.1 7 := hR.1.2.1 7 (by decide) (by decide)
  unfold zCmp at hq
  apply vcX7_setComparers
  refine sp_within ik (inR_s (by omega) (by omega)) (inR_s (by omega) (by omega)) (fun t0 t1 => ⟨fun z => absurd z (by decide), fun _ => ?_⟩) (fun z => ⟨fun _ => ?_, fun z => absurd rfl z⟩)
  · rw [if_neg (by omega)] at hq
    rw [h.1.1, hc.f, e7, jI_inj ⟨by omega, by omega⟩ ik]
    refine ⟨fun q => ?_, fun q => ?_⟩
    · rw [if_pos q] at hq; exact hq G h FR.rf
    · rw [if_neg q] at hq
      rw [h.1.2.2.2.1]
      refine sp_recC h (fun G1 k1 k2 => ?_)
      rw [k1.1.1, show k = ((k.toNat : Nat) : Int) by omega]
      refine sp_change (hc.off k2 (by omega)) hR hm (by omega) (by omega) (fun G2 v2' k3 k4 k5 k6 k7 => ?_)
      exact hq G2 (k1.main k4 (KC.mk k3 k5 k6.2.1)) ((k2.sub (by omega) (by omega)).tr (k4.sub (by omega) (by omega)))
  · rw [if_pos z] at hq; exact hq G h FR.rf
theorem sp_winC {G : Mm} {B : Nat} {Z : Zst} {T K k : Int} {Q : dp_Ps} (h : SysC G B Z) (hz : ZI Z T K) (ik : inR k)
    (hq : ∀ G', SysC G' B (zWin Z k).2 → FR B 218 G G' → Q (jI (zWin Z k).1) G') : Sp 60 3 [vR 7 B, vI (jI k)] G Q := by
  have hm := hz.1.1
  have hs := hm.1
  unfold SI at hs
  obtain ⟨v, hc, hR⟩ := h.2.2.1.get
  have e7 : v 0 3 = Z.1.1 3 := hR.1.2.1 3 (by decide) (by decide)
  unfold zWin at hq
  apply vcX7_setWindow
  refine sp_within ik (inR_s (by omega) (by omega)) (inR_s (by omega) (by omega)) (fun t0 t1 => ⟨fun z => absurd z (by decide), fun _ => ?_⟩) (fun z => ⟨fun _ => ?_, fun z => absurd rfl z⟩)
  · rw [if_neg (by omega)] at hq
    rw [h.1.1, hc.f, e7, jI_inj ⟨by omega, by omega⟩ ik]
    refine ⟨fun q => ?_, fun q => ?_⟩
    · rw [if_pos q] at hq; exact hq G h FR.rf
    · rw [if_neg q] at hq
      rw [h.1.2.2.2.1]
      refine sp_recC h (fun G1 k1 k2 => ?_)
      rw [k1.1.1]
      rintro _ rfl
      rw [wI_2, k1.1.1]
      have hI := mNum_MI (k := 3) (x := k) hm (by omega)
      refine sp_share ((hc.off k2 (by omega)).wf 3 k) (rep_sc hR hm.2.1 (by decide) (by decide)) hI (fun G2 v2' M2 k3 k4 k5 k6 k7 => ?_)
      have e : mSh (mNum Z.1 3 k) = M2 := mSh_eq k5
      rw [e] at hq
      have kf : FR (B + 1) 30 G1 G2 := (FR.wI (by omega)).tr k4
      exact hq G2 (k1.main kf (KC.mk k3 k6 k7.2.1)) ((k2.sub (by omega) (by omega)).tr (kf.sub (by omega) (by omega)))
  · rw [if_pos z] at hq; exact hq G h FR.rf

