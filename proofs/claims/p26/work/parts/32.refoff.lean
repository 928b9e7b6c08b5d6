/-! ===== the other class: an alarm taken off, removed ===== -/
theorem RepR.c1 {f : Ar} {M : Ms} {c : Nat} {x : Int} (h : RepR f M) (hc4 : c < 4) (hl : M.2.1.length ≤ 20) (hl8 : M.2.2.2.length ≤ 8) : RepR (aU f (154 + 2 * c) x) (M.1, M.2.1, cU M.2.2.1 c x (M.2.2.1 c 1), M.2.2.2) := by
  have h2 := h.cm (c := c) (x := x) (y := M.2.2.1 c 1) hc4 hl hl8
  have e2 : aU (aU f (154 + 2 * c) x) (154 + 2 * c + 1) (M.2.2.1 c 1) = aU f (154 + 2 * c) x := by
    rw [← (h.2.2.1 c hc4).2]
    have e3 : f (154 + 2 * c + 1) = aU f (154 + 2 * c) x (154 + 2 * c + 1) := by rw [aU_n (by omega)]
    rw [e3, aU_id]
  rw [e2] at h2
  exact h2
theorem RA.rem {f w : Ar} {L : List Ar} {p : Nat} (h : RA f L) (hn : NI L) (hp : p < L.length) (hw : ∀ i, i < L.length - 1 → ∀ k, k < 7 → w (14 + 7 * i + k) = if i < p then f (14 + 7 * i + k) else f (14 + 7 * (i + 1) + k)) : RA w (L.filter (fun b => decide (b 0 ≠ rA f p 0))) := by
  have haL := h.at hp
  have hlen := flt_len hn haL
  have hl1 : (L.filter (fun b => decide (b 0 ≠ rA f p 0))).length = L.length - 1 := by omega
  have hwr : ∀ i, i < L.length - 1 → rA w i = if i < p then rA f i else rA f (i + 1) := by
    intro i hi
    have h1 := hw i hi
    by_cases hip : i < p
    · rw [if_pos hip]; exact rA_eq (fun k hk => by rw [h1 k hk, if_pos hip])
    · rw [if_neg hip]
      funext k
      unfold rA rc7
      by_cases hk : k < 7
      · rw [if_pos hk, if_pos hk]; show w (14 + 7 * i + k) = f (14 + 7 * (i + 1) + k); rw [h1 k hk, if_neg hip]
      · rw [if_neg hk, if_neg hk]
  have e2 : ∀ (g : Ar) (m : Nat), FL (fun j => rA g (j - 2)) m = (List.range m).map (rA g) := by
    intro g m
    unfold FL
    apply List.map_congr_left
    intro j _
    show rA g (2 + j - 2) = _
    rw [Nat.add_sub_cancel_left]
  have hf := FL_rem (v := fun j => rA f (j - 2)) (w := fun j => rA w (j - 2)) hp (fun i hi => by
    simp only [Nat.add_sub_cancel_left]
    exact hwr i hi)
  rw [e2, e2] at hf
  have hf : ((List.range L.length).map (rA f)).Perm (rA f (2 + p - 2) :: (List.range (L.length - 1)).map (rA w)) := hf
  rw [Nat.add_sub_cancel_left] at hf
  refine ⟨?_, fun i j hij hj => ?_⟩
  · rw [hl1]
    have h1 := (hf.symm.trans h.1).filter (fun b => decide (b 0 ≠ rA f p 0))
    rw [List.filter_cons_of_neg (by simp)] at h1
    have e : ((List.range (L.length - 1)).map (rA w)).filter (fun b => decide (b 0 ≠ rA f p 0)) = (List.range (L.length - 1)).map (rA w) := by
      refine List.filter_eq_self.mpr (fun b hb => ?_)
      obtain ⟨i, hi, rfl⟩ := List.mem_map.mp hb
      have hi := List.mem_range.mp hi
      have : rA w i 0 ≠ rA f p 0 := by
        rw [hwr i hi]
        intro q
        split at q
        · have := h.inj (i := i) (by omega) hp q; omega
        · have := h.inj (i := i + 1) (by omega) hp q; omega
      simp only [decide_eq_true_eq]
      exact this
    rw [e] at h1
    exact h1
  · rw [hl1] at hj
    have w0 : ∀ i, i < L.length - 1 → w (14 + 7 * i) = if i < p then f (14 + 7 * i) else f (14 + 7 * (i + 1)) := fun i hi => hw i hi 0 (by decide)
    rw [w0 i (by omega), w0 j hj]
    split
    · split
      · exact h.2 i j hij (by omega)
      · exact h.2 i (j + 1) (by omega) (by omega)
    · split
      · omega
      · exact h.2 (i + 1) (j + 1) (by omega) (by omega)
