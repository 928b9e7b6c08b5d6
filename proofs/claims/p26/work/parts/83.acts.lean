/-! ===== an act answers below 0 and leaves the state, or records it ===== -/
def actOK (Z : Zst) (a : Int) (Z1 : Zst) : Prop := inR a ∧ ((a < 0 ∧ Z1 = Z) ∨ (0 ≤ a ∧ Z1.2.1 = Z.2.1 ∧ Z1.2.2.1 = push Z.2.2.1 Z.1 ∧ 0 ≤ Z1.1.1 2))
/-- no drift below 0 -/
def drO (Z : Zst) : Prop := 0 ≤ Z.1.1 2 ∧ ∀ M, Z.2.1 = some M → 0 ≤ M.1 2
theorem actOK.no {Z : Zst} {v : Int} (h : -2000 ≤ v ∧ v < 0) : actOK Z v Z := ⟨⟨by omega, by omega⟩, Or.inl ⟨h.2, rfl⟩⟩
theorem actOK.m1 {Z : Zst} : actOK Z (-1001) Z := actOK.no (by decide)
theorem actOK.m2 {Z : Zst} : actOK Z (-1002) Z := actOK.no (by decide)
theorem actOK.m3 {Z : Zst} : actOK Z (-1003) Z := actOK.no (by decide)
theorem actOK.m4 {Z : Zst} : actOK Z (-1004) Z := actOK.no (by decide)
theorem actOK.m5 {Z : Zst} : actOK Z (-1005) Z := actOK.no (by decide)
theorem actOK.yes {Z : Zst} {v : Int} {N : Ms} (h : 0 ≤ v ∧ v < 2147483648) (h2 : 0 ≤ N.1 2) : actOK Z v (N, Z.2.1, push Z.2.2.1 Z.1, Z.2.2.2) := ⟨⟨by omega, by omega⟩, Or.inr ⟨h.1, rfl, rfl, h2⟩⟩
theorem a_set {Z : Zst} {j : Nat} {t p r : Int} (hz : ZJ Z j) (hd : drO Z) : actOK Z (zSet Z t p r).1 (zSet Z t p r).2 := by
  have hs := hz.1.1.1.1
  unfold SI at hs
  unfold zSet
  split
  · first | exact actOK.m2 | exact actOK.m1 | exact actOK.m3 | exact actOK.m4 | exact actOK.m5
  · split
    · first | exact actOK.m2 | exact actOK.m1 | exact actOK.m3 | exact actOK.m4 | exact actOK.m5
    · split
      · first | exact actOK.m2 | exact actOK.m1 | exact actOK.m3 | exact actOK.m4 | exact actOK.m5
      · next c1 c2 c3 =>
        refine actOK.yes (by omega) ?_
        have hI := mIns_MI (t := t) (p := p) (r := r) hz.1.1.1 (by omega) (by omega) (by omega) (by omega) (by omega)
        have e : (mAdd Z.1 t p r).1 2 = (mIns Z.1 t p r).1 2 := mSh_k hI (by decide) (by decide)
        have e2 : (mIns Z.1 t p r).1 2 = Z.1.1 2 := aU_n (a := Z.1.1) (k := 6) (x := Z.1.1 6 + 1) (j := 2) (by decide)
        rw [e, e2]; exact hd.1
theorem a_can {Z : Zst} {j : Nat} {x : Int} (hz : ZJ Z j) (hd : drO Z) : actOK Z (zCan Z x).1 (zCan Z x).2 := by
  unfold zCan
  cases hf : lkp Z.1.2.1 x with
  | none => first | exact actOK.m2 | exact actOK.m1 | exact actOK.m3 | exact actOK.m4 | exact actOK.m5
  | some a =>
    have ha := (lkp_i hf).1
    have hI := mCan_MI hz.1.1.1 ha
    have hg := mCan_GI hz.1.1 ha
    have hl := hg.1.2.1
    refine actOK.yes (v := ((mCan Z.1 a).2.1.length : Int)) ⟨by omega, by omega⟩ ?_
    have e : (mCan Z.1 a).1 2 = (mRem (mOff Z.1 a) a).1 2 := mSh_k hI (by decide) (by decide)
    have e2 : (mRem (mOff Z.1 a) a).1 2 = Z.1.1 2 := by show (mOff Z.1 a).1 2 = _; rw [mOff_k]
    rw [e, e2]; exact hd.1
theorem a_mov {Z : Zst} {j : Nat} {x t : Int} (hz : ZJ Z j) (hd : drO Z) : actOK Z (zMov Z x t).1 (zMov Z x t).2 := by
  have hs := hz.1.1.1.1
  unfold SI at hs
  unfold zMov
  cases hf : lkp Z.1.2.1 x with
  | none => first | exact actOK.m2 | exact actOK.m1 | exact actOK.m3 | exact actOK.m4 | exact actOK.m5
  | some a =>
    have ha := (lkp_i hf).1
    have hA := (hz.1.1.1.2.2.2.1 a ha).2.1
    dsimp only
    split
    · first | exact actOK.m2 | exact actOK.m1 | exact actOK.m3 | exact actOK.m4 | exact actOK.m5
    · split
      · first | exact actOK.m2 | exact actOK.m1 | exact actOK.m3 | exact actOK.m4 | exact actOK.m5
      · split
        · first | exact actOK.m2 | exact actOK.m1 | exact actOK.m3 | exact actOK.m4 | exact actOK.m5
        · next c1 c2 c3 =>
          refine actOK.yes (by omega) ?_
          have hI := mMov_MI (t := t) hz.1.1.1 ha (by omega)
          have e : (mMov Z.1 a t).1 2 = (mTim (mOff Z.1 a) a t).1 2 := mSh_k hI (by decide) (by decide)
          have e2 : (mTim (mOff Z.1 a) a t).1 2 = Z.1.1 2 := by show (mOff Z.1 a).1 2 = _; rw [mOff_k]
          rw [e, e2]; exact hd.1
theorem a_cmp {Z : Zst} {j : Nat} {k : Int} (hz : ZJ Z j) (hd : drO Z) : actOK Z (zCmp Z k).1 (zCmp Z k).2 := by
  have hs := hz.1.1.1.1
  unfold SI at hs
  unfold zCmp
  split
  · first | exact actOK.m2 | exact actOK.m1 | exact actOK.m3 | exact actOK.m4 | exact actOK.m5
  · split
    · first | exact actOK.m2 | exact actOK.m1 | exact actOK.m3 | exact actOK.m4 | exact actOK.m5
    · next c1 c2 =>
      refine actOK.yes (by omega) ?_
      have hI := mSet7_MI (many := k.toNat) hz.1.1.1 (by omega) (by omega)
      have e : (mCh Z.1 k.toNat).1 2 = (mSet7 (mFrs ((Z.1.1 7).toNat - k.toNat) k.toNat Z.1) k.toNat).1 2 := mSh_k hI (by decide) (by decide)
      have e2 : (mSet7 (mFrs ((Z.1.1 7).toNat - k.toNat) k.toNat Z.1) k.toNat).1 2 = Z.1.1 2 := by
        show aU (mFrs ((Z.1.1 7).toNat - k.toNat) k.toNat Z.1).1 7 (k.toNat : Int) 2 = _
        rw [aU_n (by decide), mFrs_0]
      rw [e, e2]; exact hd.1
theorem a_win {Z : Zst} {j : Nat} {k : Int} (hz : ZJ Z j) (hd : drO Z) : actOK Z (zWin Z k).1 (zWin Z k).2 := by
  have hs := hz.1.1.1.1
  unfold SI at hs
  unfold zWin
  split
  · first | exact actOK.m2 | exact actOK.m1 | exact actOK.m3 | exact actOK.m4 | exact actOK.m5
  · split
    · first | exact actOK.m2 | exact actOK.m1 | exact actOK.m3 | exact actOK.m4 | exact actOK.m5
    · next c1 c2 =>
      refine actOK.yes (by omega) ?_
      have hI := mNum_MI (k := 3) (x := k) hz.1.1.1 (by omega)
      have e : (mSh (mNum Z.1 3 k)).1 2 = (mNum Z.1 3 k).1 2 := mSh_k hI (by decide) (by decide)
      have e2 : (mNum Z.1 3 k).1 2 = Z.1.1 2 := aU_n (a := Z.1.1) (k := 3) (x := k) (j := 2) (by decide)
      rw [e, e2]; exact hd.1
theorem a_loa {Z : Zst} {j : Nat} {k : Int} (hz : ZJ Z j) (hd : drO Z) : actOK Z (zLoa Z k).1 (zLoa Z k).2 := by
  have hs := hz.1.1.1.1
  unfold SI at hs
  unfold zLoa
  split
  · first | exact actOK.m2 | exact actOK.m1 | exact actOK.m3 | exact actOK.m4 | exact actOK.m5
  · split
    · first | exact actOK.m2 | exact actOK.m1 | exact actOK.m3 | exact actOK.m4 | exact actOK.m5
    · refine actOK.yes (by omega) ?_
      have e2 : (mNum Z.1 4 k).1 2 = Z.1.1 2 := aU_n (a := Z.1.1) (k := 4) (x := k) (j := 2) (by decide)
      rw [e2]; exact hd.1
theorem a_dri {Z : Zst} {j : Nat} {k : Int} (hk : 0 ≤ k) (hz : ZJ Z j) (hd : drO Z) : actOK Z (zDri Z k).1 (zDri Z k).2 := by
  have hs := hz.1.1.1.1
  unfold SI at hs
  have h0 := hd.1
  unfold zDri
  split
  · first | exact actOK.m2 | exact actOK.m1 | exact actOK.m3 | exact actOK.m4 | exact actOK.m5
  · split
    · first | exact actOK.m2 | exact actOK.m1 | exact actOK.m3 | exact actOK.m4 | exact actOK.m5
    · refine actOK.yes (by omega) ?_
      have e2 : (mNum Z.1 2 k).1 2 = k := aU_s Z.1.1 2 k
      rw [e2]; exact hk
theorem a_cor {Z : Zst} {j : Nat} {k : Int} (hz : ZJ Z j) (hd : drO Z) : actOK Z (zCor Z k).1 (zCor Z k).2 := by
  have hT := hz.T
  unfold zCor
  split
  · first | exact actOK.m2 | exact actOK.m1 | exact actOK.m3 | exact actOK.m4 | exact actOK.m5
  · split
    · first | exact actOK.m2 | exact actOK.m1 | exact actOK.m3 | exact actOK.m4 | exact actOK.m5
    · split
      · first | exact actOK.m2 | exact actOK.m1 | exact actOK.m3 | exact actOK.m4 | exact actOK.m5
      · next c1 c2 c3 =>
        refine actOK.yes (by omega) ?_
        have hI := mNum_MI (k := 0) (x := Z.1.1 0 + k) hz.1.1.1 (by omega)
        have e : (mSh (mNum Z.1 0 (Z.1.1 0 + k))).1 2 = (mNum Z.1 0 (Z.1.1 0 + k)).1 2 := mSh_k hI (by decide) (by decide)
        have e2 : (mNum Z.1 0 (Z.1.1 0 + k)).1 2 = Z.1.1 2 := aU_n (a := Z.1.1) (k := 0) (x := Z.1.1 0 + k) (j := 2) (by decide)
        rw [e, e2]; exact hd.1
theorem mTick_2 {M : Ms} {T K : Int} (hm : MI M T K) (hT : T + 2 ≤ 100000000) (hK : K + 1 ≤ 10000000) : (mTick M).1 2 = M.1 2 := by
  have hs := hm.1
  unfold SI at hs
  have h1 := mLds_gr (M.1 7).toNat 0 _ (mT1_MS hm hT hK)
  have h2 := mRo_gr (M.1 7).toNat 0 _ (by omega) h1.2
  have e : (mTick M).1 2 = (mT1 M).1 2 := by
    unfold mTick
    rw [mSh_k h2.2.1 (by decide) (by decide), mRo_k (by decide) _ _ _ (by omega) h1.2, mLds_k]
  have e2 : (mT1 M).1 2 = M.1 2 := by
    show aU (aU M.1 1 (M.1 1 + 1)) 0 (M.1 0 + gro (M.1 1 + 1) (M.1 2)) 2 = _
    rw [aU_n (by decide), aU_n (by decide)]
  rw [e, e2]
theorem mTks_2 {T K : Int} : ∀ (n : Nat) (M : Ms), MI M T K → T + 2 * n ≤ 100000000 → K + n ≤ 10000000 → (mTks n M).1 2 = M.1 2
  | 0, _, _, _, _ => rfl
  | n + 1, M, hm, hT, hK => by
    show (mTks n (mTick M)).1 2 = _
    rw [mTks_2 n (mTick M) (mTick_all hm (by omega) (by omega)).2.1 (by omega) (by omega), mTick_2 hm (by omega) (by omega)]
theorem a_run {Z : Zst} {j : Nat} {k : Int} (hz : ZJ Z j) (hd : drO Z) : actOK Z (zRun Z k).1 (zRun Z k).2 := by
  obtain ⟨hT0, hT, hK⟩ := hz.T
  have hj := hz.2
  have hs := hz.1.1.1.1
  unfold SI at hs
  unfold zRun
  split
  · first | exact actOK.m2 | exact actOK.m1 | exact actOK.m3 | exact actOK.m4 | exact actOK.m5
  · split
    · first | exact actOK.m2 | exact actOK.m1 | exact actOK.m3 | exact actOK.m4 | exact actOK.m5
    · have ha := mTks_all k.toNat Z.1 hz.1.1.1 hz.1.1.2.1 (by omega) (by omega)
      have hd2 := mTks_d k.toNat Z.1 hz.1.1.1 hz.1.1.2.1 (by omega) (by omega)
      have h8 := ha.1.2.1
      have hs2 := ha.2.1.1
      unfold SI at hs2
      refine actOK.yes (by omega) ?_
      rw [mTks_2 k.toNat Z.1 hz.1.1.1 (by omega) (by omega)]
      exact hd.1
theorem a_res {Z : Zst} {j : Nat} (hz : ZJ Z j) (hd : drO Z) : actOK Z (zRes Z).1 (zRes Z).2 := by
  unfold zRes
  cases hf : Z.2.1 with
  | none => first | exact actOK.m2 | exact actOK.m1 | exact actOK.m3 | exact actOK.m4 | exact actOK.m5
  | some M =>
    have hg := hz.1.2.1 M hf
    have hs := hg.1.1
    unfold SI at hs
    have h9 := hg.2.2
    have := actOK.yes (Z := Z) (v := M.1 0) (N := M) (by omega) (hd.2 M hf)
    rw [hf] at this
    exact this
-- the past: the last h states ahead of the n-th
def win (Q : Nat → Ms) : Nat → Nat → List Ms
  | _, 0 => []
  | n, h + 1 => win Q (n - 1) h ++ [Q (n - 1)]
theorem win_len {Q : Nat → Ms} : ∀ (n h : Nat), (win Q n h).length = h
  | _, 0 => rfl
  | n, h + 1 => by
    show (win Q (n - 1) h ++ [Q (n - 1)]).length = _
    rw [List.length_append, win_len (n - 1) h]
    rfl
theorem win_push {Q : Nat → Ms} {n : Nat} : push (win Q n (min 4 n)) (Q n) = win Q (n + 1) (min 4 (n + 1)) := by
  unfold push
  rw [win_len]
  by_cases h : 4 ≤ n
  · rw [show min 4 n = 4 by omega, show min 4 (n + 1) = 4 by omega, if_pos rfl]
    rfl
  · rw [if_neg (by omega), show min 4 n = n by omega, show min 4 (n + 1) = n + 1 by omega]
    rfl
theorem win_c {Q Q' : Nat → Ms} : ∀ (n h : Nat), h ≤ n → (∀ i, i < n → Q i = Q' i) → win Q n h = win Q' n h
  | _, 0, _, _ => rfl
  | n, h + 1, hn, he => by
    show win Q (n - 1) h ++ [Q (n - 1)] = win Q' (n - 1) h ++ [Q' (n - 1)]
    rw [win_c (n - 1) h (by omega) (fun i hi => he i (by omega)), he (n - 1) (by omega)]
theorem zUnd_w {Z : Zst} {Q : Nat → Ms} {n h : Nat} (hh : Z.2.2.1 = win Q n (h + 1)) : zUnd Z = ((h : Int), Q (n - 1), Z.2.1, win Q (n - 1) h, Z.2.2.2) := by
  have e : Z.2.2.1 = win Q (n - 1) h ++ [Q (n - 1)] := hh
  have e1 : Z.2.2.1.getLast? = some (Q (n - 1)) := by rw [e, List.getLast?_concat]
  have e2 : Z.2.2.1.dropLast = win Q (n - 1) h := by rw [e, List.dropLast_concat]
  unfold zUnd
  rw [e1, e2]
  show (((win Q (n - 1) h).length : Int), _) = _
  rw [win_len]
theorem zUnd_0 {Z : Zst} (h : Z.2.2.1 = []) : zUnd Z = (-1005, Z) := by
  unfold zUnd
  rw [h]
  rfl
theorem zUnd_c {Z : Zst} (h : Z.2.2.1 ≠ []) : ∃ N, zUnd Z = ((Z.2.2.1.dropLast.length : Int), N, Z.2.1, Z.2.2.1.dropLast, Z.2.2.2) := by
  unfold zUnd
  cases hf : Z.2.2.1.getLast? with
  | none => exact absurd (List.getLast?_eq_none_iff.mp hf) h
  | some N => exact ⟨N, rfl⟩
