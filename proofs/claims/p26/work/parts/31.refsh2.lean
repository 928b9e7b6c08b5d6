/-! ===== the other class: sharing out, on ===== -/
theorem MI.cb {M : Ms} {T K : Int} {c : Nat} (hm : MI M T K) (hc : c < 4) : (-1005 ≤ M.2.2.1 c 0 ∧ M.2.2.1 c 0 ≤ 100100000) ∧ (0 ≤ M.2.2.1 c 1 ∧ M.2.2.1 c 1 ≤ 9) := by
  have hs := hm.1
  unfold SI at hs
  by_cases hx : ∃ a, a ∈ M.2.1 ∧ a 4 = c
  · obtain ⟨-, ⟨b, hb, -, hb1⟩, h3, h4⟩ := (hm.2.2.2.2 c hc).1 hx
    have := (hm.2.2.2.1 b hb).2.1
    omega
  · have := (hm.2.2.2.2 c hc).2 (fun a ha h4 => hx ⟨a, ha, h4⟩)
    omega
theorem RepR.asg {f : Ar} {M : Ms} {i : Nat} {c : Int} (h : RepR f M) (hl : M.2.1.length ≤ 20) (hi : i < M.2.1.length) : RepR (aU f (14 + 7 * i + 4) c) (M.1, asg M.2.1 (rA f i) c, M.2.2.1, M.2.2.2) :=
  h.al (fun k hk => aU_n (by omega)) (h.2.1.set hi (by decide) (by decide)) asg_len
theorem aU_aU {a : Ar} {j k : Nat} {x y : Int} (h : j ≠ k) : aU (aU a j x) k y = aU (aU a k y) j x := by
  funext m
  by_cases h1 : m = k
  · rw [h1, aU_s, aU_n (fun q => h q.symm), aU_s]
  · by_cases h2 : m = j
    · rw [h2, aU_n h, aU_s, aU_s]
    · rw [aU_n h1, aU_n h2, aU_n h2, aU_n h1]
theorem cU_cU {C : Nat → Nat → Int} {c : Nat} {x y z w : Int} : cU (cU C c x y) c z w = cU C c z w := by
  funext j
  by_cases h : j = c
  · rw [h]; funext k; unfold cU; rw [if_pos rfl, if_pos rfl]
  · rw [cU_n h, cU_n h, cU_n h]
