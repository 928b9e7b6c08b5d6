/-! ===== what a chip's numbers have to do with the mathematical state; sharing out ===== -/
def Rsc (v : Nat → Nat → Int) (M : Ms) : Prop := v 0 5 = (M.2.1.length : Int) ∧ (∀ k, k < 8 → k ≠ 5 → v 0 k = M.1 k) ∧ (∀ k, k < 6 → v 27 k = M.1 (8 + k)) ∧ v 28 1 = M.1 14
/-- the alarms by their places are those of the list, in some order -/
def Rpm (v : Nat → Nat → Int) (L : List Ar) : Prop := ((FL v L.length).map rc7).Perm L ∧ (∀ i, i < L.length → v (2 + i) 7 = 0)
def cmp (v : Nat → Nat → Int) (L : List Ar) (C : Nat → Nat → Int) (c : Nat) : Prop :=
  ((∃ a, a ∈ L ∧ a 4 = c) → v (23 + c) 0 = ((L.countP (fun a => decide (a 4 = (c : Int))) : Nat) : Int) ∧ v (23 + c) 2 = C c 0 ∧ v (23 + c) 3 = C c 1 ∧ (∀ a, a ∈ L → a 4 = c → v (23 + c) 1 ≤ a 1) ∧ (∃ a, a ∈ L ∧ a 4 = c ∧ a 1 = v (23 + c) 1)) ∧
  ((∀ a, a ∈ L → a 4 ≠ c) → ∀ k, k < 4 → v (23 + c) k = 0)
def Rlg (v : Nat → Nat → Int) (g : List Ar) : Prop := ∀ (j : Nat) (e : Ar), g[j]? = some e → ∀ q, q < 4 → v 29 (4 * ((v 28 1 - 1 - j) % 8).toNat + q) = e q
def RepC (v : Nat → Nat → Int) (M : Ms) : Prop := Rsc v M ∧ Rpm v M.2.1 ∧ SRT v M.2.1.length ∧ (∀ c, c < 4 → cmp v M.2.1 M.2.2.1 c) ∧ Rlg v M.2.2.2
theorem bef_rc {a b : Nat → Int} : bef (rc7 a) (rc7 b) ↔ bef a b := by
  unfold bef
  rw [rc7_k (by decide), rc7_k (by decide), rc7_k (by decide), rc7_k (by decide), rc7_k (by decide), rc7_k (by decide)]
theorem Rpm.mem {v : Nat → Nat → Int} {L : List Ar} (h : Rpm v L) {a : Ar} : a ∈ L ↔ ∃ i, i < L.length ∧ rc7 (v (2 + i)) = a := by
  rw [← h.1.mem_iff]
  constructor
  · intro q
    obtain ⟨x, hx, rfl⟩ := List.mem_map.mp q
    obtain ⟨i, hi, rfl⟩ := FL_mem.mp hx
    exact ⟨i, hi, rfl⟩
  · rintro ⟨i, hi, rfl⟩
    exact List.mem_map.mpr ⟨_, FL_at hi, rfl⟩
theorem Rpm.at {v : Nat → Nat → Int} {L : List Ar} (h : Rpm v L) {i : Nat} (hi : i < L.length) : rc7 (v (2 + i)) ∈ L := h.mem.mpr ⟨i, hi, rfl⟩
theorem Rpm.NA {v : Nat → Nat → Int} {L : List Ar} (h : Rpm v L) (hn : NI L) : NA v L.length := by
  have h1 : ((FL v L.length).map rc7).Pairwise (fun a b => a 0 ≠ b 0) := List.Perm.pairwise h.1.symm hn (fun hab => Ne.symm hab)
  have h2 := List.pairwise_iff_getElem.mp h1
  have key : ∀ i j, i < j → j < L.length → v (2 + i) 0 ≠ v (2 + j) 0 := by
    intro i j hij hj
    have e1 : ∀ q (hq : q < ((FL v L.length).map rc7).length), ((FL v L.length).map rc7)[q] = rc7 (v (2 + q)) := by
      intro q hq
      rw [List.getElem_map]
      unfold FL
      rw [List.getElem_map, List.getElem_range]
    have := h2 i j (by simp [FL]; omega) (by simp [FL]; omega) hij
    rw [e1, e1, rc7_k (by decide), rc7_k (by decide)] at this
    exact this
  intro i j hi hj he
  rcases (show i < j ∨ i = j ∨ j < i by omega) with q | q | q
  · exact absurd he (key i j q hj)
  · exact q
  · exact absurd he.symm (key j i q hi)
theorem Rpm.AI {v : Nat → Nat → Int} {M : Ms} {T K : Int} (h : Rpm v M.2.1) (hA : ∀ a, a ∈ M.2.1 → AI M T K a) {i : Nat} (hi : i < M.2.1.length) : AI M T K (rc7 (v (2 + i))) := hA _ (h.at hi)
theorem AI_v {M : Ms} {T K : Int} {a : Nat → Int} (h : AI M T K (rc7 a)) : (0 ≤ a 0 ∧ a 0 < M.1 6) ∧ (0 ≤ a 1 ∧ a 1 ≤ T + 100000) ∧ (0 ≤ a 2 ∧ a 2 ≤ 9999) ∧ (0 ≤ a 3 ∧ a 3 ≤ 3) ∧ (a 4 = -1005 ∨ (0 ≤ a 4 ∧ a 4 < M.1 7)) ∧ (0 ≤ a 5 ∧ a 5 ≤ K) ∧ (-1005 ≤ a 6 ∧ a 6 ≤ T) := by
  obtain ⟨a0, a1, a2, a3, a4, a5, a6, -⟩ := h
  exact ⟨a0, a1, a2, a3, a4, a5, a6⟩
theorem Rpm.BR {v : Nat → Nat → Int} {M : Ms} {T K : Int} (h : Rpm v M.2.1) (hm : MI M T K) : BR v M.2.1.length := by
  intro i hi
  have hs := hm.1
  have h1 := AI_v (h.AI hm.2.2.2.1 hi)
  unfold SI at hs
  exact ⟨⟨by omega, by omega⟩, ⟨by omega, by omega⟩, ⟨by omega, by omega⟩⟩
theorem Rpm.r4 {v : Nat → Nat → Int} {M : Ms} {T K : Int} (h : Rpm v M.2.1) (hm : MI M T K) : ∀ i, i < M.2.1.length → inR (v (2 + i) 4) := by
  intro i hi
  have hs := hm.1
  have h1 := AI_v (h.AI hm.2.2.2.1 hi)
  unfold SI at hs
  exact ⟨by omega, by omega⟩
theorem Rpm.of {v w : Nat → Nat → Int} {L : List Ar} {f : Ar → Ar} (h : Rpm v L) (hf : ∀ i, i < L.length → rc7 (w (2 + i)) = f (rc7 (v (2 + i)))) (h7 : ∀ i, i < L.length → w (2 + i) 7 = 0) : Rpm w (L.map f) := by
  refine ⟨?_, by rw [List.length_map]; exact h7⟩
  have e : (FL w (L.map f).length).map rc7 = ((FL v L.length).map rc7).map f := by
    unfold FL
    rw [List.length_map, List.map_map, List.map_map, List.map_map]
    apply List.map_congr_left
    intro i hi
    exact hf i (List.mem_range.mp hi)
  rw [e]
  exact h.1.map f
theorem Rpm.eq {v w : Nat → Nat → Int} {L : List Ar} (h : Rpm v L) (hf : ∀ i, i < L.length → w (2 + i) = v (2 + i)) : Rpm w L := by
  refine ⟨?_, fun i hi => by rw [hf i hi]; exact h.2 i hi⟩
  rw [FL_eq hf]
  exact h.1
/-- the alarm at place i gets comparer c -/
theorem Rpm.asg {v w : Nat → Nat → Int} {L : List Ar} {c : Int} (h : Rpm v L) (hn : NI L) {i : Nat} (hi : i < L.length) (hw : w (2 + i) = aU (v (2 + i)) 4 c) (ho : ∀ j, j < L.length → j ≠ i → w (2 + j) = v (2 + j)) : Rpm w (asg L (rc7 (v (2 + i))) c) := by
  have hna := h.NA hn
  refine h.of (fun j hj => ?_) (fun j hj => ?_)
  · by_cases hji : j = i
    · subst hji
      rw [if_pos rfl, hw]
      funext k
      unfold rc7 aU
      by_cases hk : k = 4
      · rw [if_pos (by omega), if_pos hk, if_pos hk]
      · rw [if_neg hk, if_neg hk]
    · rw [if_neg (fun q => hji (hna j i hj hi (by rw [rc7_k (by decide), rc7_k (by decide)] at q; exact q))), ho j hj hji]
  · by_cases hji : j = i
    · subst hji
      rw [hw, aU_n (by decide)]
      exact h.2 j hj
    · rw [ho j hj hji]
      exact h.2 j hj
theorem Rpm.uns {v w : Nat → Nat → Int} {L : List Ar} {c : Int} (h : Rpm v L) (hw : ∀ j, j < L.length → w (2 + j) = if v (2 + j) 4 = c then aU (v (2 + j)) 4 (-1005) else v (2 + j)) : Rpm w (uns L c) := by
  refine h.of (fun j hj => ?_) (fun j hj => ?_)
  · rw [hw j hj, rc7_k (a := v (2 + j)) (k := 4) (by decide)]
    by_cases hk : v (2 + j) 4 = c
    · rw [if_pos hk, if_pos hk]
      funext k
      unfold rc7 aU
      by_cases hk : k = 4
      · rw [if_pos (by omega), if_pos hk, if_pos hk]
      · rw [if_neg hk, if_neg hk]
    · rw [if_neg hk, if_neg hk]
  · rw [hw j hj]
    split
    · rw [aU_n (by decide)]; exact h.2 j hj
    · exact h.2 j hj
theorem SRT.eq {v w : Nat → Nat → Int} {n : Nat} (h : SRT v n) (hw : ∀ i, i < n → ∀ k, k ≠ 4 → w (2 + i) k = v (2 + i) k) : SRT w n := by
  intro i j hij hj
  have := h i j hij hj
  unfold bef at this ⊢
  rw [hw i (by omega) 1 (by decide), hw j hj 1 (by decide), hw i (by omega) 3 (by decide), hw j hj 3 (by decide), hw i (by omega) 0 (by decide), hw j hj 0 (by decide)]
  exact this
-- counting
theorem cnt_asg : ∀ {L : List Ar} {a : Ar} {c : Int}, NI L → a ∈ L → a 4 ≠ c → (asg L a c).countP (fun b => decide (b 4 = c)) = L.countP (fun b => decide (b 4 = c)) + 1
  | [], _, _, _, h, _ => by cases h
  | x :: L, a, c, hn, h, h4 => by
    have hn' := List.pairwise_cons.mp hn
    show ((if x 0 = a 0 then aU x 4 c else x) :: asg L a c).countP _ = _
    rw [List.countP_cons, List.countP_cons]
    by_cases hx : x 0 = a 0
    · have hxa : x = a := hn.inj List.mem_cons_self h hx
      subst hxa
      have e : asg L x c = L := by
        unfold asg
        have : ∀ b ∈ L, (if b 0 = x 0 then aU b 4 c else b) = b := fun b hb => if_neg (fun q => hn'.1 b hb q.symm)
        exact (List.map_congr_left this).trans (List.map_id' L)
      rw [if_pos rfl, e, aU_s]
      simp [h4]
    · have ha : a ∈ L := by
        rcases List.mem_cons.mp h with q | q
        · rw [q] at hx; exact absurd rfl hx
        · exact q
      rw [if_neg hx, cnt_asg hn'.2 ha h4]
      omega
theorem cnt_asg_o {L : List Ar} {a : Ar} {c d : Int} (hd : d ≠ c) (hn : NI L) (ha : a ∈ L) (h4 : a 4 ≠ d) : (asg L a c).countP (fun b => decide (b 4 = d)) = L.countP (fun b => decide (b 4 = d)) := by
  unfold asg
  rw [List.countP_map]
  apply List.countP_congr
  intro x hx
  show decide ((if x 0 = a 0 then aU x 4 c else x) 4 = d) = true ↔ decide (x 4 = d) = true
  by_cases hx0 : x 0 = a 0
  · have := hn.inj hx ha hx0
    subst this
    rw [if_pos rfl, aU_s]
    simp [h4, Ne.symm hd]
  · rw [if_neg hx0]
theorem cnt_uns_o {L : List Ar} {c d : Int} (hd : d ≠ c) (h5 : d ≠ -1005) : (uns L c).countP (fun b => decide (b 4 = d)) = L.countP (fun b => decide (b 4 = d)) := by
  unfold uns
  rw [List.countP_map]
  apply List.countP_congr
  intro x hx
  show decide ((if x 4 = c then aU x 4 (-1005) else x) 4 = d) = true ↔ decide (x 4 = d) = true
  by_cases hx0 : x 4 = c
  · rw [if_pos hx0, aU_s, hx0]
    simp [Ne.symm hd, Ne.symm h5]
  · rw [if_neg hx0]
theorem cnt_pos {L : List Ar} {c : Int} (h : ∃ a, a ∈ L ∧ a 4 = c) : 0 < L.countP (fun a => decide (a 4 = c)) := by
  obtain ⟨a, h1, h2⟩ := h
  exact List.countP_pos_iff.mpr ⟨a, h1, by simp [h2]⟩
theorem cmp_pos {v : Nat → Nat → Int} {L : List Ar} {C : Nat → Nat → Int} {c : Nat} (h : cmp v L C c) : 0 < v (23 + c) 0 ↔ ∃ a, a ∈ L ∧ a 4 = c := by
  constructor
  · intro q
    refine Classical.byContradiction (fun q2 => ?_)
    have := h.2 (fun a ha h4 => q2 ⟨a, ha, h4⟩) 0 (by decide)
    omega
  · intro q
    have h1 := (h.1 q).1
    have h2 := cnt_pos q
    omega
theorem cmp_le {v : Nat → Nat → Int} {M : Ms} {T K : Int} {c : Nat} (hc : c < 4) (h : cmp v M.2.1 M.2.2.1 c) (hm : MI M T K) : (0 ≤ v (23 + c) 0 ∧ v (23 + c) 0 ≤ 20) ∧ (0 ≤ v (23 + c) 1 ∧ v (23 + c) 1 ≤ T + 100000) ∧ (0 ≤ v (23 + c) 2 ∧ v (23 + c) 2 ≤ T + 100000) ∧ (0 ≤ v (23 + c) 3 ∧ v (23 + c) 3 ≤ 9) := by
  have hs := hm.1
  unfold SI at hs
  by_cases q : ∃ a, a ∈ M.2.1 ∧ a 4 = c
  · obtain ⟨h0, h2, h3, h4, ⟨a, ha, ha4, ha1⟩⟩ := h.1 q
    obtain ⟨g1, ⟨b, hb, hb4, hb1⟩, g3, g4⟩ := (hm.2.2.2.2 c hc).1 q
    have ka := (hm.2.2.2.1 a ha).2.1
    have kb := (hm.2.2.2.1 b hb).2.1
    have hl : M.2.1.countP (fun a => decide (a 4 = (c : Int))) ≤ 20 := Nat.le_trans List.countP_le_length hm.2.1
    omega
  · have hz := h.2 (fun a ha h4 => q ⟨a, ha, h4⟩)
    have := hz 0 (by decide)
    have := hz 1 (by decide)
    have := hz 2 (by decide)
    have := hz 3 (by decide)
    omega
theorem cmp_z {v : Nat → Nat → Int} {M : Ms} {T K : Int} {c : Nat} (hc : c < 4) (h : cmp v M.2.1 M.2.2.1 c) (hm : MI M T K) : v (23 + c) 0 = 0 ↔ frC M c := by
  have h1 := cmp_pos h
  have h2 := (cmp_le hc h hm).1
  constructor
  · intro q
    exact ((hm.2.2.2.2 c hc).2 (fun a ha h4 => by have := h1.mpr ⟨a, ha, h4⟩; omega)).1
  · intro q
    have hno := CI_none (hm.2.2.2.2 c hc) hm.2.2.2.1 q
    refine Classical.byContradiction (fun q2 => ?_)
    obtain ⟨a, ha, h4⟩ := h1.mp (by omega)
    exact hno a ha h4
/-- whether a comparer can take an alarm, by the numbers and by the state -/
theorem ctk_jnb {v : Nat → Nat → Int} {M : Ms} {T K : Int} {c : Nat} {x : Int} (hc : c < 4) (h : RepC v M) (hm : MI M T K) : ctk v c x ↔ jnb M x c := by
  have hcm := h.2.2.2.1 c hc
  have h3 : v 0 3 = M.1 3 := h.1.2.1 3 (by decide) (by decide)
  have hp := cmp_pos hcm
  unfold ctk jnb
  rw [h3]
  constructor
  · rintro ⟨q1, q2, q3, q4⟩
    have he := hp.mp q1
    obtain ⟨-, g2, -, g4, -⟩ := hcm.1 he
    refine ⟨fun q => ?_, fun a ha h4 => ?_, by omega⟩
    · have := (cmp_z hc hcm hm).mpr q; omega
    · have := g4 a ha h4; omega
  · rintro ⟨q1, q2, q3⟩
    have he := CI_has (hm.2.2.2.2 c hc) q1
    obtain ⟨-, g2, -, g4, ⟨a, ha, ha4, ha1⟩⟩ := hcm.1 he
    have := q2 a ha ha4
    exact ⟨hp.mpr he, by omega, by omega, by omega⟩
theorem RepC.fst {v : Nat → Nat → Int} {M : Ms} (h : RepC v M) {i : Nat} {x : Int} (hi : i < M.2.1.length) (h4 : v (2 + i) 4 = x) (hf : ∀ j, j < i → v (2 + j) 4 ≠ x) : fstA M.2.1 x (rc7 (v (2 + i))) := by
  refine ⟨h.2.1.at hi, by rw [rc7_k (by decide)]; exact h4, fun b hb hb4 => ?_⟩
  obtain ⟨j, hj, rfl⟩ := h.2.1.mem.mp hb
  rw [rc7_k (by decide)] at hb4
  rcases (show j < i ∨ j = i ∨ i < j by omega) with q | q | q
  · exact absurd hb4 (hf j q)
  · rw [q]; exact Or.inl rfl
  · exact Or.inr (bef_rc.mpr (h.2.2.1 i j q hj))

