/-! ===== sharing out on a chip is sharing out of the state ===== -/
theorem v2_r {v : Nat → Nat → Int} {j k : Nat} {x : Int} {m : Nat} (h : m ≠ j) : v2 v j k x m = v m := by
  funext i
  exact v2_n (fun q => h q.1)
theorem Rsc.eq {v w : Nat → Nat → Int} {M M' : Ms} (h : Rsc v M) (h0 : w 0 = v 0) (h27 : w 27 = v 27) (h28 : w 28 = v 28) (hl : M'.2.1.length = M.2.1.length) (hs : M'.1 = M.1) : Rsc w M' := by
  unfold Rsc
  rw [h0, h27, h28, hl, hs]
  exact h
theorem Rlg.eq {v w : Nat → Nat → Int} {g : List Ar} (h : Rlg v g) (h28 : w 28 = v 28) (h29 : w 29 = v 29) : Rlg w g := by
  unfold Rlg
  rw [h28, h29]
  exact h
theorem cmp_o {v w : Nat → Nat → Int} {L L' : List Ar} {C C' : Nat → Nat → Int} {d : Nat} (h : cmp v L C d) (hr : w (23 + d) = v (23 + d)) (hC : C' d = C d) (hk : ∀ x : Ar, (x ∈ L' ∧ x 4 = d) ↔ (x ∈ L ∧ x 4 = d)) (hn : L'.countP (fun b => decide (b 4 = (d : Int))) = L.countP (fun b => decide (b 4 = (d : Int)))) : cmp w L' C' d := by
  unfold cmp
  rw [hr, hC, hn]
  refine ⟨fun q => ?_, fun q => h.2 (fun a ha h4 => q a ((hk a).mpr ⟨ha, h4⟩).1 h4)⟩
  obtain ⟨x, hx⟩ := q
  obtain ⟨g0, g2, g3, g4, ⟨a, ha, ha4, ha1⟩⟩ := h.1 ⟨x, (hk x).mp hx⟩
  exact ⟨g0, g2, g3, fun y hy hy4 => g4 y ((hk y).mp ⟨hy, hy4⟩).1 hy4, ⟨a, ((hk a).mpr ⟨ha, ha4⟩).1, ha4, ha1⟩⟩
theorem asg_at {L : List Ar} {a : Ar} {c d : Int} (hn : NI L) (ha : a ∈ L) (h4 : a 4 ≠ d) (hd : d ≠ c) (x : Ar) : (x ∈ asg L a c ∧ x 4 = d) ↔ (x ∈ L ∧ x 4 = d) := by
  constructor
  · rintro ⟨hx, hx4⟩
    obtain ⟨e, he, hk, g⟩ := asg_in hx
    rcases g with ⟨-, g⟩ | ⟨-, g⟩
    · rw [g, aU_s] at hx4; exact absurd hx4.symm hd
    · rw [g] at hx4 ⊢; exact ⟨he, hx4⟩
  · rintro ⟨hx, hx4⟩
    exact ⟨asg_o hx (fun q => h4 (by rw [← hn.inj hx ha q]; exact hx4)), hx4⟩
theorem uns_at {L : List Ar} {c d : Int} (hd : d ≠ c) (h5 : d ≠ -1005) (x : Ar) : (x ∈ uns L c ∧ x 4 = d) ↔ (x ∈ L ∧ x 4 = d) := by
  constructor
  · rintro ⟨hx, hx4⟩
    obtain ⟨e, he, hk, g⟩ := uns_in hx
    rcases g with ⟨-, g⟩ | ⟨-, g⟩
    · rw [g, aU_s] at hx4; exact absurd hx4.symm h5
    · rw [g] at hx4 ⊢; exact ⟨he, hx4⟩
  · rintro ⟨hx, hx4⟩
    exact ⟨uns_o hx (by rw [hx4]; exact hd), hx4⟩
/-- the comparer that got its first alarm -/
theorem cmp_new {w : Nat → Nat → Int} {L : List Ar} {a : Ar} {C : Nat → Nat → Int} {c : Nat} {t : Int} (hn : NI L) (ha : a ∈ L) (hno : ∀ x, x ∈ L → x 4 ≠ c) (w0 : w (23 + c) 0 = 1) (w1 : w (23 + c) 1 = a 1) (w2 : w (23 + c) 2 = a 1) (w3 : w (23 + c) 3 = t) : cmp w (asg L a c) (cU C c (a 1) t) c := by
  have only : ∀ x, x ∈ asg L a c → x 4 = c → x 1 = a 1 := by
    intro x hx hx4
    obtain ⟨e, he, hk, g⟩ := asg_in hx
    rcases g with ⟨g0, -⟩ | ⟨-, g⟩
    · rw [hk 1 (by decide), hn.inj he ha g0]
    · rw [g] at hx4; exact absurd hx4 (hno e he)
  refine ⟨fun _ => ⟨?_, by rw [cU_s0]; exact w2, by rw [cU_s1]; exact w3, fun x hx hx4 => by rw [w1, only x hx hx4]; exact Int.le_refl _, ⟨_, asg_self ha, aU_s _ _ _, by rw [w1, aU_n (by decide)]⟩⟩, fun q => absurd (aU_s a 4 (c : Int)) (q _ (asg_self ha))⟩
  rw [w0, cnt_asg hn ha (hno a ha)]
  have : L.countP (fun b => decide (b 4 = (c : Int))) = 0 := List.countP_eq_zero.mpr (fun x hx => by simp [hno x hx])
  omega
def vJoin (v : Nat → Nat → Int) (i c : Nat) : Nat → Nat → Int := v2 (v2 (v2 (v2 v (23 + c) 1 (if v (23 + c) 0 = 0 then v (2 + i) 1 else min (v (23 + c) 1) (v (2 + i) 1))) (23 + c) 2 (if v (23 + c) 0 = 0 then v (2 + i) 1 else max (v (23 + c) 2) (v (2 + i) 1))) (23 + c) 0 (v (23 + c) 0 + 1)) (2 + i) 4 c
theorem vJoin_r {v : Nat → Nat → Int} {i c j : Nat} (h1 : j ≠ 23 + c) (h2 : j ≠ 2 + i) : vJoin v i c j = v j := by
  unfold vJoin
  rw [v2_r h2, v2_r h1, v2_r h1, v2_r h1]
theorem vLoad_r {v : Nat → Nat → Int} {i c j : Nat} (h1 : j ≠ 23 + c) (h2 : j ≠ 2 + i) (h3 : j ≠ 27) : vLoad v i c j = v j := by
  unfold vLoad
  rw [v2_r h3, v2_r h2, v2_r h1, v2_r h1, v2_r h1, v2_r h1]
theorem row_aU {v : Nat → Nat → Int} {j k : Nat} {x : Int} : v2 v j k x j = aU (v j) k x := by
  funext m
  unfold v2 aU
  by_cases h : m = k
  · rw [if_pos ⟨rfl, h⟩, if_pos h]
  · rw [if_neg (fun q => h q.2), if_neg h]
theorem rep_join {v : Nat → Nat → Int} {M : Ms} {T K : Int} (h : RepC v M) (hm : MI M T K) {i c : Nat} (hi : i < M.2.1.length) (h4 : v (2 + i) 4 = -1005) (hc : c < 4) (hj : jnb M (v (2 + i) 1) c) :
    RepC (vJoin v i c) (M.1, asg M.2.1 (rc7 (v (2 + i))) c, cU M.2.2.1 c (max (M.2.2.1 c 0) (rc7 (v (2 + i)) 1)) (M.2.2.1 c 1), M.2.2.2) := by
  obtain ⟨hsc, hpm, hsr, hcm, hlg⟩ := h
  have hl20 := hm.2.1
  have hn := hm.2.2.1
  have haL := hpm.at hi
  have ha4 : (rc7 (v (2 + i))) 4 = -1005 := by rw [rc7_k (by decide)]; exact h4
  have hr : ∀ j, j < M.2.1.length → j ≠ i → vJoin v i c (2 + j) = v (2 + j) := fun j hj hji => vJoin_r (by omega) (by omega)
  have hri : vJoin v i c (2 + i) = aU (v (2 + i)) 4 c := by
    unfold vJoin
    rw [row_aU, v2_r (by omega), v2_r (by omega), v2_r (by omega)]
  refine ⟨hsc.eq (vJoin_r (by omega) (by omega)) (vJoin_r (by omega) (by omega)) (vJoin_r (by omega) (by omega)) asg_len rfl, hpm.asg hn hi hri hr, ?_, fun d hd => ?_, hlg.eq (vJoin_r (by omega) (by omega)) (vJoin_r (by omega) (by omega))⟩
  · show SRT _ (asg _ _ _).length
    rw [asg_len]
    refine hsr.eq (fun j hj k hk => ?_)
    by_cases hji : j = i
    · rw [hji, hri, aU_n hk]
    · rw [hr j hj hji]
  · by_cases hdc : d = c
    · subst hdc
      have hex := CI_has (hm.2.2.2.2 d hd) hj.1
      obtain ⟨g0, g2, g3, g4, ⟨a, ha, hb4, hb1⟩⟩ := (hcm d hd).1 hex
      have hp := cnt_pos hex
      have hz : ¬ v (23 + d) 0 = 0 := by omega
      have w0 : vJoin v i d (23 + d) 0 = v (23 + d) 0 + 1 := by unfold vJoin; rw [v2_n (by omega), v2_s]
      have w1 : vJoin v i d (23 + d) 1 = min (v (23 + d) 1) (v (2 + i) 1) := by unfold vJoin; rw [v2_n (by omega), v2_n (by omega), v2_n (by omega), v2_s, if_neg hz]
      have w2 : vJoin v i d (23 + d) 2 = max (v (23 + d) 2) (v (2 + i) 1) := by unfold vJoin; rw [v2_n (by omega), v2_n (by omega), v2_s, if_neg hz]
      have w3 : vJoin v i d (23 + d) 3 = v (23 + d) 3 := by unfold vJoin; rw [v2_n (by omega), v2_n (by omega), v2_n (by omega), v2_n (by omega)]
      refine ⟨fun _ => ⟨?_, ?_, ?_, fun x hx hx4 => ?_, ?_⟩, fun q => absurd (aU_s (rc7 (v (2 + i))) 4 (d : Int)) (q _ (asg_self haL))⟩
      · show vJoin v i d (23 + d) 0 = (((asg M.2.1 (rc7 (v (2 + i))) d).countP _ : Nat) : Int)
        rw [w0, cnt_asg hn haL (by omega)]
        omega
      · show _ = cU _ d _ _ d 0
        rw [cU_s0, w2, rc7_k (by decide), g2]
      · show _ = cU _ d _ _ d 1
        rw [cU_s1, w3, g3]
      · rw [w1]
        obtain ⟨e, he, hk, g⟩ := asg_in hx
        rw [hk 1 (by decide)]
        rcases g with ⟨k0, -⟩ | ⟨-, g⟩
        · rw [hn.inj he haL k0, rc7_k (by decide)]; omega
        · rw [g] at hx4
          have := g4 e he hx4
          omega
      · rw [w1]
        by_cases hmn : v (2 + i) 1 ≤ v (23 + d) 1
        · exact ⟨_, asg_self haL, aU_s _ _ _, by rw [aU_n (by decide), rc7_k (by decide)]; omega⟩
        · exact ⟨a, asg_o ha (fun q => by have := hn.inj ha haL q; rw [this, ha4] at hb4; omega), hb4, by omega⟩
    · exact cmp_o (hcm d hd) (vJoin_r (by omega) (by omega)) (cU_n hdc) (fun x => asg_at hn haL (by omega) (by omega) x) (cnt_asg_o (by omega) hn haL (by omega))
theorem rep_load {v : Nat → Nat → Int} {M : Ms} {T K : Int} (h : RepC v M) (hm : MI M T K) {i c : Nat} (hi : i < M.2.1.length) (h4 : v (2 + i) 4 = -1005) (hc : c < 4) (hf : frC M c) :
    RepC (vLoad v i c) (aU M.1 12 (M.1 12 + 1), asg M.2.1 (rc7 (v (2 + i))) c, cU M.2.2.1 c (rc7 (v (2 + i)) 1) (M.1 4), M.2.2.2) := by
  obtain ⟨hsc, hpm, hsr, hcm, hlg⟩ := h
  have hl20 := hm.2.1
  have hn := hm.2.2.1
  have haL := hpm.at hi
  have ha4 : (rc7 (v (2 + i))) 4 = -1005 := by rw [rc7_k (by decide)]; exact h4
  have hr : ∀ j, j < M.2.1.length → j ≠ i → vLoad v i c (2 + j) = v (2 + j) := fun j hj hji => vLoad_r (by omega) (by omega) (by omega)
  have hri : vLoad v i c (2 + i) = aU (v (2 + i)) 4 c := by
    unfold vLoad
    rw [v2_r (by omega), row_aU, v2_r (by omega), v2_r (by omega), v2_r (by omega), v2_r (by omega)]
  have e0 : vLoad v i c 0 = v 0 := vLoad_r (by omega) (by omega) (by omega)
  refine ⟨⟨by rw [e0]; exact hsc.1.trans (by rw [asg_len]), fun k hk hk5 => ?_, fun k hk => ?_, ?_⟩, hpm.asg hn hi hri hr, ?_, fun d hd => ?_, hlg.eq (vLoad_r (by omega) (by omega) (by omega)) (vLoad_r (by omega) (by omega) (by omega))⟩
  · show _ = aU _ 12 _ k
    rw [e0, aU_n (by omega)]
    exact hsc.2.1 k hk hk5
  · show _ = aU _ 12 _ (8 + k)
    have e27 : v2 (v2 (v2 (v2 (v2 v (23 + c) 0 1) (23 + c) 1 (v (2 + i) 1)) (23 + c) 2 (v (2 + i) 1)) (23 + c) 3 (v 0 4)) (2 + i) 4 (c : Int) 27 = v 27 := by
      rw [v2_r (by omega), v2_r (by omega), v2_r (by omega), v2_r (by omega), v2_r (by omega)]
    unfold vLoad
    by_cases hk4 : k = 4
    · rw [hk4, v2_s, aU_s, hsc.2.2.1 4 (by decide)]
    · rw [v2_n (by omega), e27, aU_n (by omega)]
      exact hsc.2.2.1 k hk
  · show _ = aU M.1 12 (M.1 12 + 1) 14
    rw [vLoad_r (by omega) (by omega) (by omega), aU_n (by omega)]
    exact hsc.2.2.2
  · show SRT _ (asg _ _ _).length
    rw [asg_len]
    refine hsr.eq (fun j hj k hk => ?_)
    by_cases hji : j = i
    · rw [hji, hri, aU_n hk]
    · rw [hr j hj hji]
  · by_cases hdc : d = c
    · subst hdc
      have hno := fun x hx => CI_none (hm.2.2.2.2 d hd) hm.2.2.2.1 hf x hx
      refine cmp_new hn haL hno ?_ ?_ ?_ ?_
      · unfold vLoad; rw [v2_n (by omega), v2_n (by omega), v2_n (by omega), v2_n (by omega), v2_n (by omega), v2_s]
      · unfold vLoad; rw [v2_n (by omega), v2_n (by omega), v2_n (by omega), v2_n (by omega), v2_s, rc7_k (by decide)]
      · unfold vLoad; rw [v2_n (by omega), v2_n (by omega), v2_n (by omega), v2_s, rc7_k (by decide)]
      · unfold vLoad; rw [v2_n (by omega), v2_n (by omega), v2_s]; exact hsc.2.1 4 (by decide) (by decide)
    · exact cmp_o (hcm d hd) (vLoad_r (by omega) (by omega) (by omega)) (cU_n hdc) (fun x => asg_at hn haL (by omega) (by omega) x) (cnt_asg_o (by omega) hn haL (by omega))
/-- the comparer's alarms are sent off, and that is counted -/
def vOff (v : Nat → Nat → Int) (n c : Nat) : Nat → Nat → Int := v2 (vRel (vSend v n c) c) 27 5 (v 27 5 + 1)
theorem vRel_r {v : Nat → Nat → Int} {c j : Nat} (h : j ≠ 23 + c) : vRel v c j = v j := by
  unfold vRel
  rw [v2_r h, v2_r h, v2_r h, v2_r h]
theorem vSend_r {v : Nat → Nat → Int} {n : Nat} {c : Int} {j : Nat} (h : ¬ (2 ≤ j ∧ j < 2 + n)) : vSend v n c j = v j := by
  funext k
  unfold vSend
  rw [if_neg (fun q => h ⟨q.1, q.2.1⟩)]
theorem vSend_a {v : Nat → Nat → Int} {n : Nat} {c : Int} {j : Nat} (h : j < n) : vSend v n c (2 + j) = if v (2 + j) 4 = c then aU (v (2 + j)) 4 (-1005) else v (2 + j) := by
  funext k
  unfold vSend
  by_cases h4 : v (2 + j) 4 = c
  · rw [if_pos h4]
    unfold aU
    by_cases hk : k = 4
    · rw [if_pos ⟨by omega, by omega, hk, h4⟩, if_pos hk]
    · rw [if_neg (fun q => hk q.2.2.1), if_neg hk]
  · rw [if_neg h4, if_neg (fun q => h4 q.2.2.2)]
theorem vOff_r {v : Nat → Nat → Int} {n c j : Nat} (h1 : j ≠ 23 + c) (h2 : ¬ (2 ≤ j ∧ j < 2 + n)) (h3 : j ≠ 27) : vOff v n c j = v j := by
  unfold vOff
  rw [v2_r h3, vRel_r h1, vSend_r h2]
theorem rep_over {v : Nat → Nat → Int} {M : Ms} {T K : Int} (h : RepC v M) (hm : MI M T K) {i c : Nat} (hi : i < M.2.1.length) (h4 : v (2 + i) 4 = -1005) (hc : c < 4) :
    RepC (vLoad (vOff v M.2.1.length c) i c) (aU (aU M.1 12 (M.1 12 + 1)) 13 (M.1 13 + 1), asg (uns M.2.1 c) (rc7 (v (2 + i))) c, cU M.2.2.1 c (rc7 (v (2 + i)) 1) (M.1 4), M.2.2.2) := by
  obtain ⟨hsc, hpm, hsr, hcm, hlg⟩ := h
  have hl20 := hm.2.1
  have hn := hm.2.2.1
  have ha4 : (rc7 (v (2 + i))) 4 = -1005 := by rw [rc7_k (by decide)]; exact h4
  have haL : rc7 (v (2 + i)) ∈ uns M.2.1 c := uns_o (hpm.at hi) (by omega)
  have hnU := uns_NI (c := (c : Int)) hn
  -- the numbers between
  have hu : Rpm (vOff v M.2.1.length c) (uns M.2.1 c) := hpm.uns (fun j hj => by
    unfold vOff
    rw [v2_r (by omega), vRel_r (by omega), vSend_a hj])
  have hui : vOff v M.2.1.length c (2 + i) = v (2 + i) := by
    unfold vOff
    rw [v2_r (by omega), vRel_r (by omega), vSend_a hi, if_neg (by omega)]
  have hr : ∀ j, j < M.2.1.length → j ≠ i → vLoad (vOff v M.2.1.length c) i c (2 + j) = vOff v M.2.1.length c (2 + j) := fun j hj hji => vLoad_r (by omega) (by omega) (by omega)
  have hri : vLoad (vOff v M.2.1.length c) i c (2 + i) = aU (vOff v M.2.1.length c (2 + i)) 4 c := by
    unfold vLoad
    rw [v2_r (by omega), row_aU, v2_r (by omega), v2_r (by omega), v2_r (by omega), v2_r (by omega)]
  have e0 : vLoad (vOff v M.2.1.length c) i c 0 = v 0 := by rw [vLoad_r (by omega) (by omega) (by omega), vOff_r (by omega) (by omega) (by omega)]
  have e28 : vLoad (vOff v M.2.1.length c) i c 28 = v 28 := by rw [vLoad_r (by omega) (by omega) (by omega), vOff_r (by omega) (by omega) (by omega)]
  have e29 : vLoad (vOff v M.2.1.length c) i c 29 = v 29 := by rw [vLoad_r (by omega) (by omega) (by omega), vOff_r (by omega) (by omega) (by omega)]
  have o27 : ∀ k, vOff v M.2.1.length c 27 k = if k = 5 then v 27 5 + 1 else v 27 k := by
    intro k
    unfold vOff
    by_cases hk : k = 5
    · rw [hk, v2_s, if_pos rfl]
    · rw [v2_n (by omega), if_neg hk, vRel_r (by omega), vSend_r (by omega)]
  have hpm' : Rpm (vLoad (vOff v M.2.1.length c) i c) (asg (uns M.2.1 c) (rc7 (v (2 + i))) c) := by
    rw [← hui]
    exact hu.asg hnU (by rw [uns_len]; exact hi) hri (fun j hj hji => hr j (by rw [uns_len] at hj; exact hj) hji)
  refine ⟨⟨by rw [e0]; exact hsc.1.trans (by rw [asg_len, uns_len]), fun k hk hk5 => ?_, fun k hk => ?_, ?_⟩, hpm', ?_, fun d hd => ?_, hlg.eq e28 e29⟩
  · show _ = aU (aU _ 12 _) 13 _ k
    rw [e0, aU_n (by omega), aU_n (by omega)]
    exact hsc.2.1 k hk hk5
  · show _ = aU (aU _ 12 _) 13 _ (8 + k)
    have e27 : v2 (v2 (v2 (v2 (v2 (vOff v M.2.1.length c) (23 + c) 0 1) (23 + c) 1 (vOff v M.2.1.length c (2 + i) 1)) (23 + c) 2 (vOff v M.2.1.length c (2 + i) 1)) (23 + c) 3 (vOff v M.2.1.length c 0 4)) (2 + i) 4 (c : Int) 27 = vOff v M.2.1.length c 27 := by
      rw [v2_r (by omega), v2_r (by omega), v2_r (by omega), v2_r (by omega), v2_r (by omega)]
    unfold vLoad
    by_cases hk4 : k = 4
    · rw [hk4, v2_s, aU_n (by omega), aU_s, o27, if_neg (by decide), hsc.2.2.1 4 (by decide)]
    · rw [v2_n (by omega), e27, o27]
      by_cases hk5 : k = 5
      · rw [if_pos hk5, hk5, aU_s, hsc.2.2.1 5 (by decide)]
      · rw [if_neg hk5, aU_n (by omega), aU_n (by omega)]
        exact hsc.2.2.1 k hk
  · show _ = aU (aU M.1 12 (M.1 12 + 1)) 13 (M.1 13 + 1) 14
    rw [e28, aU_n (by omega), aU_n (by omega)]
    exact hsc.2.2.2
  · show SRT _ (asg _ _ _).length
    rw [asg_len, uns_len]
    refine hsr.eq (fun j hj k hk => ?_)
    have hoj : vOff v M.2.1.length c (2 + j) k = v (2 + j) k := by
      unfold vOff
      rw [v2_r (by omega), vRel_r (by omega), vSend_a hj]
      split
      · exact aU_n hk
      · rfl
    by_cases hji : j = i
    · rw [hji] at hoj ⊢
      rw [hri, aU_n hk, hoj]
    · rw [hr j hj hji, hoj]
  · by_cases hdc : d = c
    · subst hdc
      have hno : ∀ x, x ∈ uns M.2.1 d → x 4 ≠ d := by
        intro x hx hx4
        obtain ⟨e, he, hk, g⟩ := uns_in hx
        rcases g with ⟨-, g⟩ | ⟨g0, g⟩
        · rw [g, aU_s] at hx4; omega
        · rw [g] at hx4; exact g0 hx4
      refine cmp_new hnU haL hno ?_ ?_ ?_ ?_
      · unfold vLoad; rw [v2_n (by omega), v2_n (by omega), v2_n (by omega), v2_n (by omega), v2_n (by omega), v2_s]
      · unfold vLoad; rw [v2_n (by omega), v2_n (by omega), v2_n (by omega), v2_n (by omega), v2_s, rc7_k (by decide), hui]
      · unfold vLoad; rw [v2_n (by omega), v2_n (by omega), v2_n (by omega), v2_s, rc7_k (by decide), hui]
      · unfold vLoad; rw [v2_n (by omega), v2_n (by omega), v2_s, vOff_r (by omega) (by omega) (by omega)]; exact hsc.2.1 4 (by decide) (by decide)
    · exact cmp_o (hcm d hd) (by rw [vLoad_r (by omega) (by omega) (by omega), vOff_r (by omega) (by omega) (by omega)]) (cU_n hdc) (fun x => (asg_at hnU haL (by omega) (by omega) x).trans (uns_at (by omega) (by omega) x)) ((cnt_asg_o (by omega) hnU haL (by omega)).trans (cnt_uns_o (by omega) (by omega)))
theorem sp_find {G : Mm} {b i : Nat} {v : Nat → Nat → Int} {M : Ms} {T K : Int} {Q : dp_Ps} (hc : CV G b v) (hR : RepC v M) (hm : MI M T K) (hi : i < M.2.1.length) (h4 : v (2 + i) 4 = -1005) (hfirst : ∀ j, j < i → v (2 + j) 4 ≠ -1005)
    (ht : ∀ G' v' M', CV G' b v' → FR b 30 G G' → turn M M' → RepC v' M' → Q (jI 1) G') (hf : stk M → Q (jI 0) G) : Sp 33 5 [vR 2 b, vR 0 (G.2 (b + 1) i)] G Q := by
  have hs := hm.1
  unfold SI at hs
  have hl20 := hm.2.1
  have hfst := hR.fst hi h4 hfirst
  have hav := AI_v (hR.2.1.AI hm.2.2.2.1 hi)
  have e1 : rc7 (v (2 + i)) 1 = v (2 + i) 1 := rc7_k (by decide)
  have h7 : v 0 7 = M.1 7 := hR.1.2.1 7 (by decide) (by decide)
  have h3 : v 0 3 = M.1 3 := hR.1.2.1 3 (by decide) (by decide)
  have hu : v 0 7 = ((M.1 7).toNat : Int) := by omega
  have hrg : ∀ c, c < (M.1 7).toNat → inR (v (23 + c) 0) ∧ (0 ≤ v (23 + c) 1 ∧ v (23 + c) 1 < 1000000000) ∧ (0 ≤ v (23 + c) 2 ∧ v (23 + c) 2 < 1000000000) := by
    intro c hcu
    have := cmp_le (by omega) (hR.2.2.2.1 c (by omega)) hm
    exact ⟨⟨by omega, by omega⟩, by omega, by omega⟩
  apply vcX2_findComparerFor
  rw [hc.al (by omega)]
  refine sp_firstTake hc hu (by omega) (by omega) ⟨by omega, by omega⟩ hrg (fun hno => ⟨fun _ => ?_, fun q => absurd rfl q⟩) (fun c hcu hct hcf => ⟨fun q => ?_, fun _ => ⟨jI_in (by omega) (by omega) (by omega), ?_⟩⟩)
  · have hnoj : ∀ j : Nat, (j : Int) < M.1 7 → ¬ jnb M (rc7 (v (2 + i)) 1) j := fun j hj q => hno j (by omega) ((ctk_jnb (by omega) hR hm).mpr (by rw [e1] at q; exact q))
    refine sp_firstFree hc hu (by omega) (fun c hcu => (hrg c hcu).1) (fun hnf => ⟨fun _ => ?_, fun q => absurd rfl q⟩) (fun c hcu hcz hcf => ⟨fun q => ?_, fun _ => ?_⟩)
    · have hnof : ∀ j : Nat, (j : Int) < M.1 7 → ¬ frC M j := fun j hj q => hnf j (by omega) ((cmp_z (by omega) (hR.2.2.2.1 j (by omega)) hm).mpr q)
      have hct : ∀ j : Nat, (j : Int) < M.1 7 → v (23 + j) 2 = M.2.2.1 j 0 := fun j hj => ((hR.2.2.2.1 j (by omega)).1 (CI_has (hm.2.2.2.2 j (by omega)) (hnof j hj))).2.1
      refine sp_greatest hc hu (by omega) (by omega) (fun c hcu => ⟨by have := (hrg c hcu).2.2; omega, by have := (hrg c hcu).2.2; omega⟩) (fun c hcu hge hlt => ⟨jI_in (by omega) (by omega) (by omega), ?_⟩)
      have hb2 := (hrg c hcu).2.2
      rw [hc.al (by omega), hc.r9, jI_cln (by omega), hc.rc (by omega), hc.co (by omega), jI_lt ⟨by omega, by omega⟩ ⟨by omega, by omega⟩]
      have hge' : ∀ j : Nat, (j : Int) < M.1 7 → M.2.2.1 j 0 ≤ M.2.2.1 c 0 := fun j hj => by rw [← hct j hj, ← hct c (by omega)]; exact hge j (by omega)
      have hlt' : ∀ j : Nat, j < c → M.2.2.1 j 0 < M.2.2.1 c 0 := fun j hj => by rw [← hct j (by omega), ← hct c (by omega)]; exact hlt j hj
      refine ⟨fun q => ?_, fun q => hf (Or.inr ⟨_, hfst, hnoj, hnof, fun j hj => ?_⟩)⟩
      · refine sp_sendOff hc hR.1.1 hl20 (by omega) (hR.2.1.r4 hm) (fun G1 k1 k2 k3 => ?_)
        rintro _ rfl
        have e27 : vRel (vSend v M.2.1.length c) c 27 5 = v 27 5 := by rw [vRel_r (by omega), vSend_r (by omega)]
        rw [k1.r10, k1.to, e27, jI_add]
        have k4 := k1.wto 5 (v 27 5 + 1)
        have ea : (wI G1 (b + 27) 5 (jI (v 27 5 + 1))).2 (b + 1) i = G.2 (b + 1) i := by rw [wI_2, k3]
        rw [← ea]
        refine sp_loadFor k4 (by omega) (by omega) (fun G2 k5 k6 k7 => ?_)
        refine ht G2 _ _ k5 (k2.tr ((FR.wI (by omega)).tr k6)) ⟨_, hfst, Or.inr (Or.inr ⟨c, by omega, hnoj, hnof, hge', hlt', by rw [e1, ← hct c (by omega)]; exact q, rfl⟩)⟩ (rep_over hR hm hi h4 (by omega))
      · rw [e1]
        have := hge' j hj
        have := hct c (by omega)
        omega
    · exact absurd ((jI_inj (inR_n (by omega)) (inR_s (by omega) (by omega))).mp q) (by omega)
    · refine sp_loadFor hc (by omega) (by omega) (fun G2 k5 k6 k7 => ?_)
      have hfc := (cmp_z (by omega) (hR.2.2.2.1 c (by omega)) hm).mp hcz
      exact ht G2 _ _ k5 k6 ⟨_, hfst, Or.inr (Or.inl ⟨c, by omega, hnoj, hfc, fun j hj q => hcf j hj ((cmp_z (by omega) (hR.2.2.2.1 j (by omega)) hm).mpr q), rfl⟩)⟩ (rep_load hR hm hi h4 (by omega) hfc)
  · exact absurd ((jI_inj (inR_n (by omega)) (inR_s (by omega) (by omega))).mp q) (by omega)
  · have hb2 := hrg c hcu
    have hj := (ctk_jnb (by omega) hR hm).mp hct
    rw [hc.r9, jI_cln (by omega), hc.rc (by omega), hc.al (by omega)]
    refine sp_join hc (by omega) hb2.1 ⟨by omega, by omega⟩ ⟨by omega, by omega⟩ ⟨by omega, by omega⟩ (fun G1 k1 k2 k3 => ?_)
    rintro _ rfl
    have hra := hc.ra (show i < 20 by omega)
    have k4 := k1.wal (show i < 20 by omega) 4 (c : Int)
    rw [k3] at k4
    exact ht _ _ _ k4 (k2.tr (FR.wI (by omega))) ⟨_, hfst, Or.inl ⟨c, by omega, by rw [e1]; exact hj, fun j hjc q => hcf j hjc ((ctk_jnb (by omega) hR hm).mpr (by rw [e1] at q; exact q)), rfl⟩⟩ (rep_join hR hm hi h4 (by omega) hj)
theorem sp_share {G : Mm} {b : Nat} {v : Nat → Nat → Int} {M : Ms} {T K : Int} {Q : dp_Ps} (hc : CV G b v) (hR : RepC v M) (hm : MI M T K)
    (h : ∀ G' v' M', CV G' b v' → FR b 30 G G' → shr M M' → RepC v' M' → MI M' T K → Q (jI 0) G') : Sp 31 3 [vR 2 b] G Q := by
  apply vcX2_shareOut
  have key : ∀ m t : Nat, ∀ (G1 : Mm) (v1 : Nat → Nat → Int) (M1 : Ms) (w2 : Option Vl), mu M1 < m → mu M1 + t ≤ 104 → CV G1 b v1 → FR b 30 G G1 → RepC v1 M1 → MI M1 T K → (∀ M', shr M1 M' → shr M M') → Wp 31 2 [some (vR 2 b), some (vI (jI (t : Int))), w2] [] G1 Q := by
    intro m
    induction m with
    | zero => intro t G1 v1 M1 w2 hmu; omega
    | succ m ih =>
      intro t G1 v1 M1 w2 hmu hmt hc1 hf1 hR1 hm1 hsh
      have hl20 := hm1.2.1
      apply vcX2_shareOut_2
      rw [jI_le ⟨by omega, by omega⟩ (inR_n (by omega))]
      refine ⟨fun q => by omega, fun _ => ?_⟩
      refine sp_firstWithout hc1 hR1.1.1 hl20 (hR1.2.1.r4 hm1) (fun hno => ⟨fun _ => ?_, fun q => absurd rfl q⟩) (fun i hi hi4 hfi => ⟨fun q => absurd ((jI_inj (inR_n (by omega)) (inR_s (by omega) (by omega))).mp q) (by omega), fun _ => ⟨jI_in (by omega) (by omega) (by omega), ?_⟩⟩)
      · have hs1 : stk M1 := Or.inl (fun a ha h4 => by
          obtain ⟨i, hi, rfl⟩ := hR1.2.1.mem.mp ha
          rw [rc7_k (by decide)] at h4
          exact hno i hi h4)
        exact h G1 v1 M1 hc1 hf1 (hsh M1 ⟨0, rfl, hs1⟩) hR1 hm1
      · rw [hc1.r8, jI_cln (by omega)]
        refine sp_find hc1 hR1 hm1 hi hi4 hfi (fun G2 v2' M2 k1 k2 k3 k4 => ⟨fun q => absurd q (by decide), fun _ => ?_⟩) (fun hs => ⟨fun _ => h G1 v1 M1 hc1 hf1 (hsh M1 ⟨0, rfl, hs⟩) hR1 hm1, fun q => absurd rfl q⟩)
        have hlt := turn_mu hm1 k3
        rw [jI_s]
        exact ih (t + 1) G2 v2' M2 _ (by omega) (by omega) k1 (hf1.tr k2) k4 (turn_MI hm1 k3) (fun M' hM' => hsh M' (shr_turn k3 hM'))
  exact key (mu M + 1) 0 G v M none (by omega) (by have := mu_le M hm.2.1; omega) hc FR.rf hR hm (fun _ h => h)

