/-! ===== the other class: a tick ===== -/
theorem turn_k {M M' : Ms} (t : turn M M') {k : Nat} (h : k ≠ 12) (h' : k ≠ 13) : M'.1 k = M.1 k := by
  obtain ⟨a, -, t⟩ := t
  rcases t with ⟨c, -, -, -, rfl⟩ | ⟨c, -, -, -, -, rfl⟩ | ⟨c, -, -, -, -, -, -, rfl⟩
  · rfl
  · exact aU_n h
  · show aU (aU M.1 12 (M.1 12 + 1)) 13 (M.1 13 + 1) k = _
    rw [aU_n h', aU_n h]
theorem shr_k {M M' : Ms} (t : shr M M') {k : Nat} (h : k ≠ 12) (h' : k ≠ 13) : M'.1 k = M.1 k := by
  obtain ⟨n, t, -⟩ := t
  induction n generalizing M with
  | zero => have t : M = M' := t; rw [t]
  | succ n ih =>
    obtain ⟨N, t1, t2⟩ := t
    rw [ih t2, turn_k t1 h h']
theorem RepR.c2 {f : Ar} {M : Ms} {c : Nat} {y : Int} (h : RepR f M) (hc4 : c < 4) (hl : M.2.1.length ≤ 20) (hl8 : M.2.2.2.length ≤ 8) : RepR (aU f (154 + 2 * c + 1) y) (M.1, M.2.1, cU M.2.2.1 c (M.2.2.1 c 0) y, M.2.2.2) := by
  have h2 := h.cm (c := c) (x := M.2.2.1 c 0) (y := y) hc4 hl hl8
  rw [← (h.2.2.1 c hc4).1, aU_id, (h.2.2.1 c hc4).1] at h2
  exact h2
theorem mLds_k : ∀ (k j : Nat) (M : Ms), (mLds k j M).1 = M.1
  | 0, _, _ => rfl
  | k + 1, j, M => mLds_k k (j + 1) (mLd M j)
