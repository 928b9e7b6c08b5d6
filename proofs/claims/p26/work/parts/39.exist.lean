/-! ===== what rings and what is shared out exists; numbers 8, 12, 13 are only counted ===== -/
theorem least_ex {p : Nat → Prop} : ∀ n, p n → ∃ c, c ≤ n ∧ p c ∧ ∀ j, j < c → ¬ p j := by
  intro n
  induction n using Nat.strongRecOn with
  | _ n ih =>
    intro h
    by_cases q : ∃ j, j < n ∧ p j
    · obtain ⟨j, hj, hp⟩ := q
      obtain ⟨c, c1, c2⟩ := ih j hj hp
      exact ⟨c, by omega, c2⟩
    · exact ⟨n, Nat.le_refl _, h, fun j hj hp => q ⟨j, hj, hp⟩⟩
theorem fst_ex {x : Int} : ∀ {L : List Ar}, NI L → (∃ a, a ∈ L ∧ a 4 = x) → ∃ a, fstA L x a
  | [], _, ⟨a, ha, _⟩ => by cases ha
  | y :: L, hn, he => by
    have hn' := List.pairwise_cons.mp hn
    by_cases q : ∃ a, a ∈ L ∧ a 4 = x
    · obtain ⟨a, ha, ha4, hf⟩ := fst_ex hn'.2 q
      by_cases hy : y 4 = x
      · rcases bef_or (a := a) (b := y) (fun z => hn'.1 a ha z.symm) with g | g
        · refine ⟨a, List.mem_cons_of_mem _ ha, ha4, fun b hb hb4 => ?_⟩
          rcases List.mem_cons.mp hb with z | z
          · rw [z]; exact Or.inr g
          · exact hf b z hb4
        · refine ⟨y, List.mem_cons_self, hy, fun b hb hb4 => ?_⟩
          rcases List.mem_cons.mp hb with z | z
          · exact Or.inl z
          · rcases hf b z hb4 with w | w
            · rw [w]; exact Or.inr g
            · exact Or.inr (bef_tr g w)
      · refine ⟨a, List.mem_cons_of_mem _ ha, ha4, fun b hb hb4 => ?_⟩
        rcases List.mem_cons.mp hb with z | z
        · rw [z] at hb4; exact absurd hb4 hy
        · exact hf b z hb4
    · obtain ⟨a, ha, ha4⟩ := he
      rcases List.mem_cons.mp ha with z | z
      · subst z
        refine ⟨a, List.mem_cons_self, ha4, fun b hb hb4 => ?_⟩
        rcases List.mem_cons.mp hb with w | w
        · exact Or.inl w
        · exact absurd ⟨b, w, hb4⟩ q
      · exact absurd ⟨a, z, ha4⟩ q
theorem rgd_ex {T K : Int} {c : Nat} : ∀ (m : Nat) (M : Ms), cnc M.2.1 < m → MJ M T K c → ∃ M', rgd c M M' := by
  intro m
  induction m with
  | zero => intro M h; omega
  | succ m ih =>
    intro M h hJ
    by_cases q : ∃ a, a ∈ M.2.1 ∧ a 4 = (c : Int)
    · obtain ⟨a, ha⟩ := fst_ex hJ.2.2.1 q
      have hcn := mR1_cnc hJ.2.2.1 ha.1 (by have := ha.2.1; omega)
      obtain ⟨M', h'⟩ := ih (mR1 M a) (by omega) (mR1_MJ hJ ha)
      exact ⟨M', rgd_s ha h'⟩
    · exact ⟨M, 0, rfl, fun a ha h4 => q ⟨a, ha, h4⟩⟩
theorem mRg_sp {M : Ms} {T K : Int} {c : Nat} (h : MJ M T K c) : rgd c M (mRg c M) := by
  obtain ⟨M', h'⟩ := rgd_ex _ M (Nat.lt_succ_self _) h
  rw [mRg_eq h']; exact h'
theorem max_ex (g : Nat → Int) : ∀ n, 0 < n → ∃ c, c < n ∧ (∀ j, j < n → g j ≤ g c) ∧ ∀ j, j < c → g j < g c := by
  intro n
  induction n with
  | zero => intro h; omega
  | succ n ih =>
    intro _
    by_cases hn : n = 0
    · subst hn
      exact ⟨0, by omega, fun j hj => by rw [show j = 0 by omega]; exact Int.le_refl _, fun j hj => by omega⟩
    · obtain ⟨c, c1, c2, c3⟩ := ih (by omega)
      by_cases hg : g n ≤ g c
      · refine ⟨c, by omega, fun j hj => ?_, c3⟩
        rcases (show j < n ∨ j = n by omega) with z | z
        · exact c2 j z
        · rw [z]; exact hg
      · refine ⟨n, by omega, fun j hj => ?_, fun j hj => by have := c2 j hj; omega⟩
        rcases (show j < n ∨ j = n by omega) with z | z
        · have := c2 j z; omega
        · rw [z]; exact Int.le_refl _
theorem turn_ex {M : Ms} {T K : Int} (h : MI M T K) : stk M ∨ ∃ M', turn M M' := by
  have hs := h.1
  unfold SI at hs
  by_cases q : ∃ a, a ∈ M.2.1 ∧ a 4 = (-1005 : Int)
  · obtain ⟨a, ha⟩ := fst_ex h.2.2.1 q
    by_cases q1 : ∃ c : Nat, (c : Int) < M.1 7 ∧ jnb M (a 1) c
    · obtain ⟨d, d1, d2⟩ := q1
      obtain ⟨c, c1, c2, c3⟩ := least_ex (p := fun j => jnb M (a 1) j) d d2
      exact Or.inr ⟨_, a, ha, Or.inl ⟨c, by omega, c2, c3, rfl⟩⟩
    · have n1 : ∀ j : Nat, (j : Int) < M.1 7 → ¬ jnb M (a 1) j := fun j hj z => q1 ⟨j, hj, z⟩
      by_cases q2 : ∃ c : Nat, (c : Int) < M.1 7 ∧ frC M c
      · obtain ⟨d, d1, d2⟩ := q2
        obtain ⟨c, c1, c2, c3⟩ := least_ex (p := fun j => frC M j) d d2
        exact Or.inr ⟨_, a, ha, Or.inr (Or.inl ⟨c, by omega, n1, c2, c3, rfl⟩)⟩
      · have n2 : ∀ j : Nat, (j : Int) < M.1 7 → ¬ frC M j := fun j hj z => q2 ⟨j, hj, z⟩
        obtain ⟨c, c1, c2, c3⟩ := max_ex (fun j => M.2.2.1 j 0) (M.1 7).toNat (by omega)
        by_cases q3 : a 1 < M.2.2.1 c 0
        · exact Or.inr ⟨_, a, ha, Or.inr (Or.inr ⟨c, by omega, n1, n2, fun j hj => c2 j (by omega), c3, q3, rfl⟩)⟩
        · exact Or.inl (Or.inr ⟨a, ha, n1, n2, fun j hj => by have := c2 j (by omega); have : M.2.2.1 j 0 ≤ M.2.2.1 c 0 := this; omega⟩)
  · exact Or.inl (Or.inl (fun a ha h4 => q ⟨a, ha, h4⟩))
theorem shr_ex {T K : Int} : ∀ (m : Nat) (M : Ms), mu M < m → MI M T K → ∃ M', shr M M' := by
  intro m
  induction m with
  | zero => intro M h; omega
  | succ m ih =>
    intro M h hm
    rcases turn_ex hm with q | ⟨N, q⟩
    · exact ⟨M, 0, rfl, q⟩
    · obtain ⟨M', h'⟩ := ih N (by have := turn_mu hm q; omega) (turn_MI hm q)
      exact ⟨M', shr_turn q h'⟩
theorem mSh_sp {M : Ms} {T K : Int} (h : MI M T K) : shr M (mSh M) := by
  obtain ⟨M', h'⟩ := shr_ex _ M (Nat.lt_succ_self _) h
  rw [mSh_eq h']; exact h'
theorem shr_MI {M M' : Ms} {T K : Int} (h : MI M T K) (t : shr M M') : MI M' T K := by
  obtain ⟨n, t, -⟩ := t
  induction n generalizing M with
  | zero => have t : M = M' := t; rw [← t]; exact h
  | succ n ih =>
    obtain ⟨N, t1, t2⟩ := t
    exact ih (turn_MI h t1) t2

