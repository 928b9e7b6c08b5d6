/-! ===== numbers 8, 12 and 13 are only counted ===== -/
def dq (d : Int) (M M' : Ms) : Prop := M'.2 = M.2 ∧ (∀ k, k ≠ 8 → k ≠ 12 → k ≠ 13 → M'.1 k = M.1 k) ∧ M'.1 8 = M.1 8 + d
theorem dq.qMI {d : Int} {M M' : Ms} {T K : Int} (h : dq d M M') (hm : MI M T K) : MI M' T K := by
  obtain ⟨e2, ek, -⟩ := h
  obtain ⟨hs, hl, hn, hA, hC⟩ := hm
  unfold SI at hs
  have e0 := ek 0 (by decide) (by decide) (by decide)
  have e1 := ek 1 (by decide) (by decide) (by decide)
  have e22 := ek 2 (by decide) (by decide) (by decide)
  have e3 := ek 3 (by decide) (by decide) (by decide)
  have e4 := ek 4 (by decide) (by decide) (by decide)
  have e6 := ek 6 (by decide) (by decide) (by decide)
  have e7 := ek 7 (by decide) (by decide) (by decide)
  have e10 := ek 10 (by decide) (by decide) (by decide)
  have e14 := ek 14 (by decide) (by decide) (by decide)
  refine ⟨?_, by rw [e2]; exact hl, by rw [e2]; exact hn, fun a ha => ?_, fun c hc => ?_⟩
  · unfold SI
    rw [e0, e1, e22, e3, e4, e6, e7, e10, e14, e2]
    exact hs
  · rw [e2] at ha
    obtain ⟨a0, a1, a2, a3, a4, a5, a6, a7⟩ := hA a ha
    exact ⟨by rw [e6]; exact a0, a1, a2, a3, by rw [e7]; exact a4, a5, a6, a7⟩
  · have := hC c hc
    unfold CI at this ⊢
    rw [e2]
    exact this
theorem dq.qMS {d : Int} {M M' : Ms} {T K : Int} (h : dq d M M') (hm : MS M T K) : MS M' T K := by
  obtain ⟨h1, h2, h3⟩ := hm
  refine ⟨h.qMI h1, by rw [h.1]; exact h2, ?_⟩
  rw [h.1, h.2.1 14 (by decide) (by decide) (by decide)]
  exact h3
theorem dq.qjnb {d : Int} {M M' : Ms} (h : dq d M M') (x : Int) (c : Nat) : jnb M' x c ↔ jnb M x c := by
  unfold jnb
  rw [h.1, h.2.1 3 (by decide) (by decide) (by decide)]
theorem dq.qfrC {d : Int} {M M' : Ms} (h : dq d M M') (c : Nat) : frC M' c ↔ frC M c := by
  unfold frC
  rw [h.1]
theorem dq.qstk {d : Int} {M M' : Ms} (h : dq d M M') (hs : stk M) : stk M' := stk_same (by rw [h.1]) (h.2.1 3 (by decide) (by decide) (by decide)) (h.2.1 7 (by decide) (by decide) (by decide)) (fun j => by rw [h.1]) hs
theorem dq.qturn {d : Int} {M M' N : Ms} (h : dq d M M') (t : turn M N) : ∃ N', turn M' N' ∧ dq d N N' := by
  have e7 := h.2.1 7 (by decide) (by decide) (by decide)
  have e4 := h.2.1 4 (by decide) (by decide) (by decide)
  obtain ⟨a, hf, t⟩ := t
  have hf' : fstA M'.2.1 (-1005) a := by rw [h.1]; exact hf
  rcases t with ⟨c, c1, c2, c3, rfl⟩ | ⟨c, c1, c2, c3, c4, rfl⟩ | ⟨c, c1, c2, c3, c4, c5, c6, rfl⟩
  · refine ⟨_, ⟨a, hf', Or.inl ⟨c, by rw [e7]; exact c1, (h.qjnb _ c).mpr c2, fun j hj z => c3 j hj ((h.qjnb _ j).mp z), rfl⟩⟩, ?_, h.2.1, h.2.2⟩
    show (asg M'.2.1 a c, cU M'.2.2.1 c (max (M'.2.2.1 c 0) (a 1)) (M'.2.2.1 c 1), M'.2.2.2) = _
    rw [h.1]
  · refine ⟨_, ⟨a, hf', Or.inr (Or.inl ⟨c, by rw [e7]; exact c1, fun j hj z => c2 j (by rw [← e7]; exact hj) ((h.qjnb _ j).mp z), (h.qfrC c).mpr c3, fun j hj z => c4 j hj ((h.qfrC j).mp z), rfl⟩)⟩, ?_, fun k k1 k2 k3 => ?_, ?_⟩
    · show (asg M'.2.1 a c, cU M'.2.2.1 c (a 1) (M'.1 4), M'.2.2.2) = _
      rw [h.1, e4]
    · show aU M'.1 12 (M'.1 12 + 1) k = aU M.1 12 (M.1 12 + 1) k
      rw [aU_n k2, aU_n k2]; exact h.2.1 k k1 k2 k3
    · show aU M'.1 12 (M'.1 12 + 1) 8 = aU M.1 12 (M.1 12 + 1) 8 + d
      rw [aU_n (by decide), aU_n (by decide)]; exact h.2.2
  · refine ⟨_, ⟨a, hf', Or.inr (Or.inr ⟨c, by rw [e7]; exact c1, fun j hj z => c2 j (by rw [← e7]; exact hj) ((h.qjnb _ j).mp z), fun j hj z => c3 j (by rw [← e7]; exact hj) ((h.qfrC j).mp z), fun j hj => by rw [h.1]; exact c4 j (by rw [← e7]; exact hj), fun j hj => by rw [h.1]; exact c5 j hj, by rw [h.1]; exact c6, rfl⟩)⟩, ?_, fun k k1 k2 k3 => ?_, ?_⟩
    · show (asg (uns M'.2.1 c) a c, cU M'.2.2.1 c (a 1) (M'.1 4), M'.2.2.2) = _
      rw [h.1, e4]
    · show aU (aU M'.1 12 (M'.1 12 + 1)) 13 (M'.1 13 + 1) k = aU (aU M.1 12 (M.1 12 + 1)) 13 (M.1 13 + 1) k
      rw [aU_n k3, aU_n k2, aU_n k3, aU_n k2]; exact h.2.1 k k1 k2 k3
    · show aU (aU M'.1 12 (M'.1 12 + 1)) 13 (M'.1 13 + 1) 8 = aU (aU M.1 12 (M.1 12 + 1)) 13 (M.1 13 + 1) 8 + d
      rw [aU_n (by decide), aU_n (by decide), aU_n (by decide), aU_n (by decide)]; exact h.2.2
theorem dq.qshr {d : Int} {M M' N : Ms} (h : dq d M M') (t : shr M N) : ∃ N', shr M' N' ∧ dq d N N' := by
  obtain ⟨n, t, hs⟩ := t
  induction n generalizing M M' with
  | zero =>
    have t : M = N := t
    subst t
    exact ⟨M', ⟨0, rfl, h.qstk hs⟩, h⟩
  | succ n ih =>
    obtain ⟨R, t1, t2⟩ := t
    obtain ⟨R', r1, r2⟩ := h.qturn t1
    obtain ⟨N', n1, n2⟩ := ih r2 t2
    exact ⟨N', shr_turn r1 n1, n2⟩
theorem dq.qmSh {d : Int} {M M' : Ms} {T K : Int} (h : dq d M M') (hm : MI M T K) : dq d (mSh M) (mSh M') := by
  obtain ⟨N', n1, n2⟩ := h.qshr (mSh_sp hm)
  rw [mSh_eq n1]; exact n2
theorem dq.qmR1 {d : Int} {M M' : Ms} (h : dq d M M') (a : Ar) : dq d (mR1 M a) (mR1 M' a) := by
  have e0 := h.2.1 0 (by decide) (by decide) (by decide)
  have hs : ∀ k, k ≠ 8 → k ≠ 12 → k ≠ 13 → ∀ s m : Int, mSc M'.1 s m k = mSc M.1 s m k := by
    intro k h8 h12 h13 s m
    have e9 := h.2.1 9 (by decide) (by decide) (by decide)
    have e10 := h.2.1 10 (by decide) (by decide) (by decide)
    have e11 := h.2.1 11 (by decide) (by decide) (by decide)
    have e14 := h.2.1 14 (by decide) (by decide) (by decide)
    by_cases q9 : k = 9
    · rw [q9, mSc_9, mSc_9, e9]
    · by_cases q10 : k = 10
      · rw [q10, mSc_10, mSc_10, e10]
      · by_cases q11 : k = 11
        · rw [q11, mSc_11, mSc_11, e11]
        · by_cases q14 : k = 14
          · rw [q14, mSc_14, mSc_14, e14]
          · rw [mSc_n h8 q9 q10 q11 q14, mSc_n h8 q9 q10 q11 q14]
            exact h.2.1 k h8 h12 h13
  refine ⟨?_, fun k h8 h12 h13 => ?_, ?_⟩
  · unfold mR1
    rw [h.1, e0]
  · show mSc M'.1 (M'.1 0 - a 1) (if a 2 = 0 then 0 else (M'.1 0 - a 1) / a 2) k = mSc M.1 (M.1 0 - a 1) (if a 2 = 0 then 0 else (M.1 0 - a 1) / a 2) k
    rw [e0]
    exact hs k h8 h12 h13 _ _
  · show mSc M'.1 (M'.1 0 - a 1) (if a 2 = 0 then 0 else (M'.1 0 - a 1) / a 2) 8 = mSc M.1 (M.1 0 - a 1) (if a 2 = 0 then 0 else (M.1 0 - a 1) / a 2) 8 + d
    rw [mSc_8, mSc_8, h.2.2]; omega
theorem dq.qrgd {d : Int} {M M' N : Ms} {c : Nat} (h : dq d M M') (t : rgd c M N) : ∃ N', rgd c M' N' ∧ dq d N N' := by
  obtain ⟨n, t, hs⟩ := t
  induction n generalizing M M' with
  | zero =>
    have t : M = N := t
    subst t
    exact ⟨M', ⟨0, rfl, by rw [h.1]; exact hs⟩, h⟩
  | succ n ih =>
    obtain ⟨a, ha, t2⟩ := t
    obtain ⟨N', n1, n2⟩ := ih (h.qmR1 a) t2
    exact ⟨N', rgd_s (by rw [h.1]; exact ha) n1, n2⟩
theorem dq.qmRA {d : Int} {M M' : Ms} {T K : Int} {c : Nat} (h : dq d M M') (hJ : MJ M T K c) : dq d (mRA M c) (mRA M' c) := by
  obtain ⟨N', n1, n2⟩ := h.qrgd (mRg_sp hJ)
  unfold mRA
  rw [mRg_eq n1]
  refine ⟨?_, n2.2.1, n2.2.2⟩
  unfold mFr
  rw [n2.1]
theorem MS.qmRA {M : Ms} {T K : Int} {c : Nat} (hS : MS M T K) (hJ : MJ M T K c) : MS (mRA M c) T K := by
  have key : ∀ (n : Nat) (M N : Ms), MJ M T K c → itg n c M N → MJ N T K c := by
    intro n
    induction n with
    | zero => intro M N h t; have t : M = N := t; rw [← t]; exact h
    | succ n ih =>
      intro M N h t
      obtain ⟨a, ha, t2⟩ := t
      exact ih _ _ (mR1_MJ h ha) t2
  obtain ⟨n, t, hs⟩ := mRg_sp hJ
  exact (key n M _ hJ t).fr hs
theorem dq.qmRo {d : Int} {T K : Int} : ∀ (k j : Nat) (M M' : Ms), j + k ≤ 4 → dq d M M' → MS M T K → dq d (mRo k j M) (mRo k j M') ∧ MS (mRo k j M) T K
  | 0, _, _, _, _, h, hS => ⟨h, hS⟩
  | k + 1, j, M, M', hj, h, hS => by
    show dq d (mRo k (j + 1) (cIf (due M j) (mRA M j) M)) (mRo k (j + 1) (cIf (due M' j) (mRA M' j) M')) ∧ _
    have hd : due M' j ↔ due M j := by
      unfold due
      rw [h.1, h.2.1 0 (by decide) (by decide) (by decide)]
    by_cases q : due M j
    · have hJ := hS.J (c := j) (by omega) q.2.2
      rw [cIf_t q, cIf_t (hd.mpr q)]
      have := dq.qmRo k (j + 1) _ _ (by omega) (h.qmRA hJ) (hS.qmRA hJ)
      refine ⟨this.1, ?_⟩
      show MS (mRo k (j + 1) (cIf (due M j) (mRA M j) M)) T K
      rw [cIf_t q]; exact this.2
    · rw [cIf_f q, cIf_f (fun z => q (hd.mp z))]
      have := dq.qmRo k (j + 1) _ _ (by omega) h hS
      refine ⟨this.1, ?_⟩
      show MS (mRo k (j + 1) (cIf (due M j) (mRA M j) M)) T K
      rw [cIf_f q]; exact this.2
theorem dq.qmLds {d : Int} {T K : Int} : ∀ (k j : Nat) (M M' : Ms), dq d M M' → MS M T K → dq d (mLds k j M) (mLds k j M') ∧ MS (mLds k j M) T K
  | 0, _, _, _, h, hS => ⟨h, hS⟩
  | k + 1, j, M, M', h, hS => by
    refine dq.qmLds k (j + 1) (mLd M j) (mLd M' j) ⟨?_, h.2.1, h.2.2⟩ (mLd_MS hS)
    unfold mLd
    rw [h.1]
theorem dq.qmT1 {d : Int} {M M' : Ms} (h : dq d M M') : dq d (mT1 M) (mT1 M') := by
  have e0 := h.2.1 0 (by decide) (by decide) (by decide)
  have e1 := h.2.1 1 (by decide) (by decide) (by decide)
  have e2 := h.2.1 2 (by decide) (by decide) (by decide)
  refine ⟨h.1, fun k h8 h12 h13 => ?_, ?_⟩
  · show aU (aU M'.1 1 (M'.1 1 + 1)) 0 (M'.1 0 + gro (M'.1 1 + 1) (M'.1 2)) k = aU (aU M.1 1 (M.1 1 + 1)) 0 (M.1 0 + gro (M.1 1 + 1) (M.1 2)) k
    rw [e0, e1, e2]
    by_cases q0 : k = 0
    · rw [q0, aU_s, aU_s]
    · rw [aU_n q0, aU_n q0]
      by_cases q1 : k = 1
      · rw [q1, aU_s, aU_s]
      · rw [aU_n q1, aU_n q1]; exact h.2.1 k h8 h12 h13
  · show aU (aU M'.1 1 (M'.1 1 + 1)) 0 (M'.1 0 + gro (M'.1 1 + 1) (M'.1 2)) 8 = aU (aU M.1 1 (M.1 1 + 1)) 0 (M.1 0 + gro (M.1 1 + 1) (M.1 2)) 8 + d
    rw [aU_n (by decide), aU_n (by decide), aU_n (by decide), aU_n (by decide)]; exact h.2.2
theorem dq.qmTick {d : Int} {M M' : Ms} {T K : Int} (h : dq d M M') (hm : MI M T K) (hT : T + 2 ≤ 100000000) (hK : K + 1 ≤ 10000000) : dq d (mTick M) (mTick M') := by
  have hs := hm.1
  unfold SI at hs
  have e7 := h.2.1 7 (by decide) (by decide) (by decide)
  have h1 := dq.qmLds (M.1 7).toNat 0 _ _ h.qmT1 (mT1_MS hm hT hK)
  have h2 := dq.qmRo (M.1 7).toNat 0 _ _ (by omega) h1.1 h1.2
  unfold mTick
  rw [e7]
  exact h2.1.qmSh h2.2.1

