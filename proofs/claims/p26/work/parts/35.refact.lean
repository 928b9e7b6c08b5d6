/-! ===== the other class: alarms set, comparers set ===== -/
theorem RA.app {f w : Ar} {L : List Ar} {x : Ar} (h : RA f L) (hf : ∀ i, i < L.length → ∀ k, k < 7 → w (14 + 7 * i + k) = f (14 + 7 * i + k)) (hx : rA w L.length = x) (ho : ∀ a, a ∈ L → a 0 < x 0) : RA w (L ++ [x]) := by
  refine ⟨?_, fun i j hij hj => ?_⟩
  · rw [List.length_append, List.length_singleton, List.range_succ, List.map_append, List.map_singleton, hx]
    refine List.Perm.append_right _ ?_
    have e : (List.range L.length).map (rA w) = (List.range L.length).map (rA f) := by
      apply List.map_congr_left
      intro i hi
      exact rA_eq (hf i (List.mem_range.mp hi))
    rw [e]
    exact h.1
  · rw [List.length_append, List.length_singleton] at hj
    have wi : w (14 + 7 * i) = f (14 + 7 * i) := hf i (by omega) 0 (by decide)
    by_cases hjn : j = L.length
    · have e1 : rA w j 0 = w (14 + 7 * j) := rA_k (k := 0) (by decide)
      have e2 : rA f i 0 = f (14 + 7 * i) := rA_k (k := 0) (by decide)
      have := ho _ (h.at (i := i) (by omega))
      rw [wi, ← e1, hjn, hx]
      omega
    · have wj : w (14 + 7 * j) = f (14 + 7 * j) := hf j (by omega) 0 (by decide)
      rw [wi, wj]
      exact h.2 i j hij (by omega)
