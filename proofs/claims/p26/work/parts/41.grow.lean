/-! ===== rings only grow ===== -/
def gr (M M' : Ms) : Prop := (∀ b, b ∈ M'.2.1 → ∃ a, a ∈ M.2.1 ∧ a 0 = b 0 ∧ a 5 ≤ b 5) ∧ M.1 8 ≤ M'.1 8 ∧ (M'.1 8 = M.1 8 → ∀ a, a ∈ M.2.1 → ∃ b, b ∈ M'.2.1 ∧ b 0 = a 0 ∧ b 5 = a 5)
theorem gr.rf {M : Ms} : gr M M := ⟨fun b hb => ⟨b, hb, rfl, Int.le_refl _⟩, Int.le_refl _, fun _ a ha => ⟨a, ha, rfl, rfl⟩⟩
theorem gr.tr {M N R : Ms} (h : gr M N) (h' : gr N R) : gr M R := by
  refine ⟨fun c hc => ?_, Int.le_trans h.2.1 h'.2.1, fun e a ha => ?_⟩
  · obtain ⟨b, hb, b0, b5⟩ := h'.1 c hc
    obtain ⟨a, ha, a0, a5⟩ := h.1 b hb
    exact ⟨a, ha, a0.trans b0, Int.le_trans a5 b5⟩
  · have h1 := h.2.1
    have h2 := h'.2.1
    obtain ⟨b, hb, b0, b5⟩ := h.2.2 (by omega) a ha
    obtain ⟨c, hc, c0, c5⟩ := h'.2.2 (by omega) b hb
    exact ⟨c, hc, c0.trans b0, c5.trans b5⟩
theorem gr.map {M M' : Ms} {g : Ar → Ar} (hL : M'.2.1 = M.2.1.map g) (h0 : ∀ b, g b 0 = b 0) (h5 : ∀ b, g b 5 = b 5) (h8 : M'.1 8 = M.1 8) : gr M M' := by
  refine ⟨fun b hb => ?_, by omega, fun _ a ha => ⟨g a, by rw [hL]; exact List.mem_map.mpr ⟨a, ha, rfl⟩, h0 a, h5 a⟩⟩
  rw [hL] at hb
  obtain ⟨a, ha, rfl⟩ := List.mem_map.mp hb
  exact ⟨a, ha, (h0 a).symm, by rw [h5]; exact Int.le_refl _⟩
theorem gr.same {M M' : Ms} (hL : M'.2.1 = M.2.1) (h8 : M'.1 8 = M.1 8) : gr M M' := gr.map (g := fun b => b) (by rw [hL]; exact (List.map_id' _).symm) (fun _ => rfl) (fun _ => rfl) h8
theorem turn_gr {M M' : Ms} (t : turn M M') : gr M M' := by
  have h8 := turn_k t (k := 8) (by decide) (by decide)
  obtain ⟨a, -, t⟩ := t
  rcases t with ⟨c, -, -, -, rfl⟩ | ⟨c, -, -, -, -, rfl⟩ | ⟨c, -, -, -, -, -, -, rfl⟩
  · exact gr.map rfl (fun b => asg0 b 0 (by decide)) (fun b => asg0 b 5 (by decide)) h8
  · exact gr.map rfl (fun b => asg0 b 0 (by decide)) (fun b => asg0 b 5 (by decide)) h8
  · refine gr.map (g := fun b => if (if b 4 = (c : Int) then aU b 4 (-1005) else b) 0 = a 0 then aU (if b 4 = (c : Int) then aU b 4 (-1005) else b) 4 c else (if b 4 = (c : Int) then aU b 4 (-1005) else b)) ?_ (fun b => ?_) (fun b => ?_) h8
    · show asg (uns M.2.1 c) a c = _
      unfold asg uns
      rw [List.map_map]
      rfl
    · rw [asg0 _ 0 (by decide), uns0 _ 0 (by decide)]
    · rw [asg0 _ 5 (by decide), uns0 _ 5 (by decide)]
theorem shr_gr {M M' : Ms} (t : shr M M') : gr M M' := by
  obtain ⟨n, t, -⟩ := t
  induction n generalizing M with
  | zero => have t : M = M' := t; rw [t]; exact gr.rf
  | succ n ih =>
    obtain ⟨N, t1, t2⟩ := t
    exact (turn_gr t1).tr (ih t2)
theorem mR1_8 {M : Ms} {a : Ar} : (mR1 M a).1 8 = M.1 8 + 1 := mSc_8 (sl := M.1 0 - a 1) (ms := if a 2 = 0 then 0 else (M.1 0 - a 1) / a 2)
theorem mR1_gr {M : Ms} {a : Ar} : gr M (mR1 M a) := by
  refine ⟨fun b hb => ?_, by rw [mR1_8]; omega, fun q => by rw [mR1_8] at q; omega⟩
  obtain ⟨d, hd, g⟩ := mR1_in hb
  rcases g with ⟨g0, -, g⟩ | ⟨-, g⟩
  · refine ⟨d, hd, ?_, ?_⟩
    · rw [g, rung_k (by decide) (by decide) (by decide) (by decide)]
    · rw [g, rung_5]; omega
  · rw [g]; exact ⟨d, hd, rfl, Int.le_refl _⟩
theorem itg_gr {c : Nat} : ∀ (n : Nat) (M N : Ms), itg n c M N → gr M N
  | 0, M, N, t => by have t : M = N := t; rw [t]; exact gr.rf
  | n + 1, M, N, t => by
    obtain ⟨a, -, t2⟩ := t
    exact mR1_gr.tr (itg_gr n _ N t2)
theorem mRA_gr {M : Ms} {T K : Int} {c : Nat} (hJ : MJ M T K c) : gr M (mRA M c) := by
  obtain ⟨n, t, -⟩ := mRg_sp hJ
  refine (itg_gr n M _ t).tr ?_
  exact gr.map rfl (fun b => uns0 b 0 (by decide)) (fun b => uns0 b 5 (by decide)) rfl
theorem mRo_gr {T K : Int} : ∀ (k j : Nat) (M : Ms), j + k ≤ 4 → MS M T K → gr M (mRo k j M) ∧ MS (mRo k j M) T K
  | 0, _, _, _, hS => ⟨gr.rf, hS⟩
  | k + 1, j, M, hj, hS => by
    show gr M (mRo k (j + 1) (cIf (due M j) (mRA M j) M)) ∧ MS (mRo k (j + 1) (cIf (due M j) (mRA M j) M)) T K
    by_cases q : due M j
    · have hJ := hS.J (c := j) (by omega) q.2.2
      rw [cIf_t q]
      have := mRo_gr k (j + 1) _ (by omega) (hS.qmRA hJ)
      exact ⟨(mRA_gr hJ).tr this.1, this.2⟩
    · rw [cIf_f q]
      exact mRo_gr k (j + 1) _ (by omega) hS
theorem mLds_gr {T K : Int} : ∀ (k j : Nat) (M : Ms), MS M T K → gr M (mLds k j M) ∧ MS (mLds k j M) T K
  | 0, _, _, hS => ⟨gr.rf, hS⟩
  | k + 1, j, M, hS => by
    have := mLds_gr k (j + 1) (mLd M j) (mLd_MS hS)
    exact ⟨(gr.same (M' := mLd M j) rfl rfl).tr this.1, this.2⟩
theorem mT1_8 {M : Ms} : (mT1 M).1 8 = M.1 8 := by
  show aU (aU M.1 1 (M.1 1 + 1)) 0 (M.1 0 + gro (M.1 1 + 1) (M.1 2)) 8 = _
  rw [aU_n (by decide), aU_n (by decide)]
theorem mTick_all {M : Ms} {T K : Int} (hm : MI M T K) (hT : T + 2 ≤ 100000000) (hK : K + 1 ≤ 10000000) : gr M (mTick M) ∧ MI (mTick M) (T + 2) (K + 1) ∧ stk (mTick M) := by
  have hs := hm.1
  unfold SI at hs
  have h1 := mLds_gr (M.1 7).toNat 0 _ (mT1_MS hm hT hK)
  have h2 := mRo_gr (M.1 7).toNat 0 _ (by omega) h1.2
  have h3 := mSh_sp h2.2.1
  refine ⟨((gr.same (M' := mT1 M) rfl mT1_8).tr (h1.1.tr h2.1)).tr (shr_gr h3), shr_MI h2.2.1 h3, ?_⟩
  obtain ⟨_, -, h4⟩ := h3
  exact h4
noncomputable def mTks : Nat → Ms → Ms
  | 0, M => M
  | n + 1, M => mTks n (mTick M)
theorem mTks_all {T K : Int} : ∀ (n : Nat) (M : Ms), MI M T K → stk M → T + 2 * n ≤ 100000000 → K + n ≤ 10000000 → gr M (mTks n M) ∧ MI (mTks n M) (T + 2 * n) (K + n) ∧ stk (mTks n M)
  | 0, M, hm, hst, _, _ => ⟨gr.rf, by show MI M (T + 2 * ((0 : Nat) : Int)) (K + ((0 : Nat) : Int)); rw [show T + 2 * ((0 : Nat) : Int) = T by omega, show K + ((0 : Nat) : Int) = K by omega]; exact hm, hst⟩
  | n + 1, M, hm, hst, hT, hK => by
    obtain ⟨h1, h2, h3⟩ := mTick_all hm (by omega) (by omega)
    have := mTks_all n (mTick M) h2 h3 (by omega) (by omega)
    refine ⟨h1.tr this.1, ?_, this.2.2⟩
    have h4 := this.2.1
    rw [show T + 2 + 2 * (n : Int) = T + 2 * ((n + 1 : Nat) : Int) by omega, show K + 1 + (n : Int) = K + ((n + 1 : Nat) : Int) by omega] at h4
    exact h4
theorem dq.qmTks {d : Int} {T K : Int} : ∀ (n : Nat) (M M' : Ms), dq d M M' → MI M T K → stk M → T + 2 * n ≤ 100000000 → K + n ≤ 10000000 → dq d (mTks n M) (mTks n M')
  | 0, _, _, h, _, _, _, _ => h
  | n + 1, M, M', h, hm, hst, hT, hK => by
    obtain ⟨h1, h2, h3⟩ := mTick_all hm (by omega) (by omega)
    exact dq.qmTks n _ _ (h.qmTick hm (by omega) (by omega)) h2 h3 (by omega) (by omega)
/-- ticks on a chip: a loop whose body is the tick -/
theorem MI.mono {M : Ms} {T K T' K' : Int} (h : MI M T K) (h1 : T ≤ T') (h2 : K ≤ K') (hT : T' ≤ 100000000) (hK : K' ≤ 10000000) : MI M T' K' := by
  obtain ⟨hs, hl, hn, hA, hC⟩ := h
  unfold SI at hs
  refine ⟨?_, hl, hn, fun a ha => ?_, hC⟩
  · unfold SI
    omega
  · obtain ⟨a0, a1, a2, a3, a4, a5, a6, a7⟩ := hA a ha
    exact ⟨a0, by omega, a2, a3, a4, by omega, by omega, a7⟩

