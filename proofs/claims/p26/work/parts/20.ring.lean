/-! ===== alarms ring: the state's side ===== -/
def rung (b : Ar) (s : Int) : Ar := aU (aU (aU (aU b 5 (b 5 + 1)) 6 (max (b 6) s)) 4 (-1005)) 1 (b 1 + (s / b 2 + 1) * b 2)
def lgE (a : Ar) (c s : Int) : Ar := fun k => if k = 0 then a 0 else if k = 1 then c else if k = 2 then s else a 4
def mSc (s : Nat → Int) (sl ms : Int) : Nat → Int := aU (aU (aU (aU (aU s 8 (s 8 + 1)) 9 (s 9 + sl)) 10 (max (s 10) sl)) 11 (s 11 + ms)) 14 (s 14 + 1)
/-- alarm a rings -/
def mR1 (M : Ms) (a : Ar) : Ms :=
  (mSc M.1 (M.1 0 - a 1) (if a 2 = 0 then 0 else (M.1 0 - a 1) / a 2),
   if a 2 = 0 then M.2.1.filter (fun b => decide (b 0 ≠ a 0)) else M.2.1.map (fun b => if b 0 = a 0 then rung b (M.1 0 - a 1) else b),
   M.2.2.1, (lgE a (M.1 0) (M.1 0 - a 1) :: M.2.2.2).take 8)
def itg : Nat → Nat → Ms → Ms → Prop
  | 0, _, M, M' => M = M'
  | k + 1, c, M, M' => ∃ a, fstA M.2.1 (c : Int) a ∧ itg k c (mR1 M a) M'
def rgd (c : Nat) (M M' : Ms) : Prop := ∃ k, itg k c M M' ∧ ∀ a, a ∈ M'.2.1 → a 4 ≠ c
theorem rgd_u {c : Nat} {M M1 M2 : Ms} (h1 : rgd c M M1) (h2 : rgd c M M2) : M1 = M2 := by
  obtain ⟨k, h1, s1⟩ := h1
  obtain ⟨q, h2, s2⟩ := h2
  induction k generalizing M q with
  | zero =>
    have h1 : M = M1 := h1
    cases q with
    | zero => have h2 : M = M2 := h2; rw [← h1, h2]
    | succ q =>
      obtain ⟨a, ha, -⟩ := h2
      rw [h1] at ha
      exact absurd ha.2.1 (s1 a ha.1)
  | succ k ih =>
    obtain ⟨a, ha, h1⟩ := h1
    cases q with
    | zero =>
      have h2 : M = M2 := h2
      rw [h2] at ha
      exact absurd ha.2.1 (s2 a ha.1)
    | succ q =>
      obtain ⟨b, hb, h2⟩ := h2
      have := fstA_u ha hb
      subst this
      exact ih h1 q h2
noncomputable def mRg (c : Nat) (M : Ms) : Ms := Classical.epsilon (rgd c M)
theorem mRg_eq {c : Nat} {M M' : Ms} (h : rgd c M M') : mRg c M = M' := rgd_u (Classical.epsilon_spec (p := rgd c M) ⟨M', h⟩) h
theorem rgd_s {c : Nat} {M M' : Ms} {a : Ar} (ha : fstA M.2.1 (c : Int) a) (h : rgd c (mR1 M a) M') : rgd c M M' := by
  obtain ⟨k, h1, h2⟩ := h
  exact ⟨k + 1, ⟨a, ha, h1⟩, h2⟩
theorem mSc_n {s : Nat → Int} {sl ms : Int} {k : Nat} (h8 : k ≠ 8) (h9 : k ≠ 9) (h10 : k ≠ 10) (h11 : k ≠ 11) (h14 : k ≠ 14) : mSc s sl ms k = s k := by
  unfold mSc
  rw [aU_n h14, aU_n h11, aU_n h10, aU_n h9, aU_n h8]
theorem mSc_8 {s : Nat → Int} {sl ms : Int} : mSc s sl ms 8 = s 8 + 1 := by unfold mSc; rw [aU_n (by decide), aU_n (by decide), aU_n (by decide), aU_n (by decide), aU_s]
theorem mSc_9 {s : Nat → Int} {sl ms : Int} : mSc s sl ms 9 = s 9 + sl := by unfold mSc; rw [aU_n (by decide), aU_n (by decide), aU_n (by decide), aU_s]
theorem mSc_10 {s : Nat → Int} {sl ms : Int} : mSc s sl ms 10 = max (s 10) sl := by unfold mSc; rw [aU_n (by decide), aU_n (by decide), aU_s]
theorem mSc_11 {s : Nat → Int} {sl ms : Int} : mSc s sl ms 11 = s 11 + ms := by unfold mSc; rw [aU_n (by decide), aU_s]
theorem mSc_14 {s : Nat → Int} {sl ms : Int} : mSc s sl ms 14 = s 14 + 1 := by unfold mSc; rw [aU_s]
theorem rung_k {b : Ar} {s : Int} {k : Nat} (h1 : k ≠ 1) (h4 : k ≠ 4) (h5 : k ≠ 5) (h6 : k ≠ 6) : rung b s k = b k := by
  unfold rung
  rw [aU_n h1, aU_n h4, aU_n h6, aU_n h5]
theorem rung_1 {b : Ar} {s : Int} : rung b s 1 = b 1 + (s / b 2 + 1) * b 2 := by unfold rung; rw [aU_s]
theorem rung_4 {b : Ar} {s : Int} : rung b s 4 = -1005 := by unfold rung; rw [aU_n (by decide), aU_s]
theorem rung_5 {b : Ar} {s : Int} : rung b s 5 = b 5 + 1 := by unfold rung; rw [aU_n (by decide), aU_n (by decide), aU_n (by decide), aU_s]
theorem rung_6 {b : Ar} {s : Int} : rung b s 6 = max (b 6) s := by unfold rung; rw [aU_n (by decide), aU_n (by decide), aU_s]
theorem rung0 {a : Ar} {s : Int} (b : Ar) : (if b 0 = a 0 then rung b s else b) 0 = b 0 := by
  split
  · exact rung_k (by decide) (by decide) (by decide) (by decide)
  · rfl
/-- the alarms that have a comparer -/
def cnc (L : List Ar) : Nat := L.countP (fun b => decide (b 4 ≠ -1005))
/-- while the alarms of c ring -/
def MJ (M : Ms) (T K : Int) (c : Nat) : Prop := SI M T K ∧ M.2.1.length ≤ 20 ∧ NI M.2.1 ∧ (∀ a, a ∈ M.2.1 → AI M T K a) ∧ (∀ d : Nat, d < 4 → d ≠ c → CI M d) ∧ (∀ a, a ∈ M.2.1 → a 4 ≠ -1005 → a 5 + 1 ≤ K) ∧ M.1 14 + cnc M.2.1 ≤ 80 * K ∧ ∀ a, a ∈ M.2.1 → a 4 = c → a 1 ≤ M.1 0
theorem cnc_rem : ∀ {L : List Ar} {a : Ar}, NI L → a ∈ L → a 4 ≠ -1005 → cnc (L.filter (fun b => decide (b 0 ≠ a 0))) + 1 = cnc L
  | [], _, _, h, _ => by cases h
  | x :: L, a, hn, h, h4 => by
    have hn' := List.pairwise_cons.mp hn
    by_cases hx : x 0 = a 0
    · have hxa : x = a := hn.inj List.mem_cons_self h hx
      subst hxa
      have e : L.filter (fun b => decide (b 0 ≠ x 0)) = L := List.filter_eq_self.mpr (fun b hb => by simp [Ne.symm (hn'.1 b hb)])
      rw [List.filter_cons_of_neg (by simp), e]
      unfold cnc
      rw [List.countP_cons_of_pos (by simp [h4])]
    · have ha : a ∈ L := by
        rcases List.mem_cons.mp h with q | q
        · rw [q] at hx; exact absurd rfl hx
        · exact q
      have ih := cnc_rem hn'.2 ha h4
      rw [List.filter_cons_of_pos (by simp [hx])]
      unfold cnc at ih ⊢
      rw [List.countP_cons, List.countP_cons]
      omega
theorem cnc_map : ∀ {L : List Ar} {a : Ar} {s : Int}, NI L → a ∈ L → a 4 ≠ -1005 → cnc (L.map (fun b => if b 0 = a 0 then rung b s else b)) + 1 = cnc L
  | [], _, _, _, h, _ => by cases h
  | x :: L, a, s, hn, h, h4 => by
    have hn' := List.pairwise_cons.mp hn
    by_cases hx : x 0 = a 0
    · have hxa : x = a := hn.inj List.mem_cons_self h hx
      subst hxa
      have e : L.map (fun b => if b 0 = x 0 then rung b s else b) = L := by
        have : ∀ b ∈ L, (if b 0 = x 0 then rung b s else b) = b := fun b hb => if_neg (fun q => hn'.1 b hb q.symm)
        exact (List.map_congr_left this).trans (List.map_id' L)
      rw [List.map_cons, e, if_pos rfl]
      unfold cnc
      rw [List.countP_cons_of_neg (by simp [rung_4]), List.countP_cons_of_pos (by simp [h4])]
    · have ha : a ∈ L := by
        rcases List.mem_cons.mp h with q | q
        · rw [q] at hx; exact absurd rfl hx
        · exact q
      have ih := cnc_map (s := s) hn'.2 ha h4
      rw [List.map_cons, if_neg hx]
      unfold cnc at ih ⊢
      rw [List.countP_cons, List.countP_cons]
      omega
theorem tdiv_b {s p : Int} (h0 : 0 ≤ s) (hp : 0 < p) : 0 ≤ s / p ∧ 0 ≤ s / p * p ∧ s / p * p ≤ s ∧ s < (s / p + 1) * p := by
  have h1 := Int.ediv_nonneg h0 (Int.le_of_lt hp)
  have h2 := Int.ediv_mul_le s (Int.ne_of_gt hp)
  have h3 := Int.lt_ediv_add_one_mul_self s hp
  have h4 := Int.mul_nonneg h1 (Int.le_of_lt hp)
  exact ⟨h1, h4, h2, h3⟩
theorem mR1_in {M : Ms} {a b : Ar} (h : b ∈ (mR1 M a).2.1) : ∃ d, d ∈ M.2.1 ∧ ((d 0 = a 0 ∧ a 2 ≠ 0 ∧ b = rung d (M.1 0 - a 1)) ∨ (d 0 ≠ a 0 ∧ b = d)) := by
  by_cases h2 : a 2 = 0
  · have h : b ∈ (if a 2 = 0 then M.2.1.filter (fun b => decide (b 0 ≠ a 0)) else M.2.1.map (fun b => if b 0 = a 0 then rung b (M.1 0 - a 1) else b)) := h
    rw [if_pos h2] at h
    obtain ⟨h3, h4⟩ := List.mem_filter.mp h
    exact ⟨b, h3, Or.inr ⟨by simpa using h4, rfl⟩⟩
  · have h : b ∈ (if a 2 = 0 then M.2.1.filter (fun b => decide (b 0 ≠ a 0)) else M.2.1.map (fun b => if b 0 = a 0 then rung b (M.1 0 - a 1) else b)) := h
    rw [if_neg h2] at h
    obtain ⟨d, hd, rfl⟩ := List.mem_map.mp h
    refine ⟨d, hd, ?_⟩
    by_cases he : d 0 = a 0
    · rw [if_pos he]; exact Or.inl ⟨he, h2, rfl⟩
    · rw [if_neg he]; exact Or.inr ⟨he, rfl⟩
theorem mR1_o {M : Ms} {a d : Ar} (h : d ∈ M.2.1) (hn : d 0 ≠ a 0) : d ∈ (mR1 M a).2.1 := by
  show d ∈ (if a 2 = 0 then M.2.1.filter (fun b => decide (b 0 ≠ a 0)) else M.2.1.map (fun b => if b 0 = a 0 then rung b (M.1 0 - a 1) else b))
  by_cases h2 : a 2 = 0
  · rw [if_pos h2]
    exact List.mem_filter.mpr ⟨h, by simp [hn]⟩
  · rw [if_neg h2]
    exact List.mem_map.mpr ⟨d, h, if_neg hn⟩
theorem mR1_at {M : Ms} {a : Ar} {d : Int} (hn : NI M.2.1) (ha : a ∈ M.2.1) (h4 : a 4 ≠ d) (hd : d ≠ -1005) (x : Ar) : (x ∈ (mR1 M a).2.1 ∧ x 4 = d) ↔ (x ∈ M.2.1 ∧ x 4 = d) := by
  constructor
  · rintro ⟨hx, hx4⟩
    obtain ⟨e, he, g⟩ := mR1_in hx
    rcases g with ⟨-, -, g⟩ | ⟨-, g⟩
    · rw [g, rung_4] at hx4; exact absurd hx4.symm hd
    · rw [g] at hx4 ⊢; exact ⟨he, hx4⟩
  · rintro ⟨hx, hx4⟩
    exact ⟨mR1_o hx (fun q => h4 (by rw [← hn.inj hx ha q]; exact hx4)), hx4⟩
theorem mR1_cnt {M : Ms} {a : Ar} {d : Int} (hn : NI M.2.1) (ha : a ∈ M.2.1) (h4 : a 4 ≠ d) (hd : d ≠ -1005) : (mR1 M a).2.1.countP (fun b => decide (b 4 = d)) = M.2.1.countP (fun b => decide (b 4 = d)) := by
  show (if a 2 = 0 then M.2.1.filter (fun b => decide (b 0 ≠ a 0)) else M.2.1.map (fun b => if b 0 = a 0 then rung b (M.1 0 - a 1) else b)).countP _ = _
  by_cases h2 : a 2 = 0
  · rw [if_pos h2, List.countP_filter]
    apply List.countP_congr
    intro x hx
    simp only [Bool.and_eq_true, decide_eq_true_eq]
    exact ⟨fun q => q.1, fun q => ⟨q, fun e => h4 (by rw [← hn.inj hx ha e]; exact q)⟩⟩
  · rw [if_neg h2, List.countP_map]
    apply List.countP_congr
    intro x hx
    show decide ((if x 0 = a 0 then rung x _ else x) 4 = d) = true ↔ decide (x 4 = d) = true
    by_cases he : x 0 = a 0
    · have := hn.inj hx ha he
      subst this
      rw [if_pos rfl, rung_4]
      simp [h4, Ne.symm hd]
    · rw [if_neg he]
theorem mR1_len {M : Ms} {a : Ar} : (mR1 M a).2.1.length ≤ M.2.1.length := by
  show (if a 2 = 0 then M.2.1.filter (fun b => decide (b 0 ≠ a 0)) else M.2.1.map (fun b => if b 0 = a 0 then rung b (M.1 0 - a 1) else b)).length ≤ _
  split
  · exact List.length_filter_le _ _
  · rw [List.length_map]; exact Nat.le_refl _
theorem mR1_MJ {M : Ms} {T K : Int} {c : Nat} {a : Ar} (h : MJ M T K c) (ha : fstA M.2.1 (c : Int) a) : MJ (mR1 M a) T K c := by
  obtain ⟨hs, hl, hn, hA, hC, h5, h14, h1⟩ := h
  have haL := ha.1
  have ha4 := ha.2.1
  have haI := hA a haL
  have hsl : 0 ≤ M.1 0 - a 1 := by have := h1 a haL ha4; omega
  have ha5 := h5 a haL (by omega)
  have hcn : cnc (mR1 M a).2.1 + 1 = cnc M.2.1 := by
    show cnc (if a 2 = 0 then M.2.1.filter (fun b => decide (b 0 ≠ a 0)) else M.2.1.map (fun b => if b 0 = a 0 then rung b (M.1 0 - a 1) else b)) + 1 = _
    split
    · exact cnc_rem hn haL (by omega)
    · exact cnc_map hn haL (by omega)
  have e : ∀ k, k ≠ 8 → k ≠ 9 → k ≠ 10 → k ≠ 11 → k ≠ 14 → (mR1 M a).1 k = M.1 k := fun k g1 g2 g3 g4 g5 => mSc_n g1 g2 g3 g4 g5
  have e10 : (mR1 M a).1 10 = max (M.1 10) (M.1 0 - a 1) := mSc_10 (ms := if a 2 = 0 then 0 else (M.1 0 - a 1) / a 2)
  have e14 : (mR1 M a).1 14 = M.1 14 + 1 := mSc_14 (sl := M.1 0 - a 1) (ms := if a 2 = 0 then 0 else (M.1 0 - a 1) / a 2)
  have elg : ((mR1 M a).2.2.2.length : Int) = min 8 ((M.2.2.2.length : Int) + 1) := by
    show (((lgE a (M.1 0) (M.1 0 - a 1) :: M.2.2.2).take 8).length : Int) = _
    rw [List.length_take, List.length_cons]
    omega
  refine ⟨?_, Nat.le_trans mR1_len hl, ?_, fun b hb => ?_, fun d hd hdc => CI_same (hC d hd hdc) rfl (mR1_at hn haL (by omega) (by omega)), fun b hb hb4 => ?_, ?_, fun b hb hb4 => ?_⟩
  · unfold SI at hs ⊢
    rw [e 0 (by decide) (by decide) (by decide) (by decide) (by decide), e 1 (by decide) (by decide) (by decide) (by decide) (by decide), e 2 (by decide) (by decide) (by decide) (by decide) (by decide), e 3 (by decide) (by decide) (by decide) (by decide) (by decide), e 4 (by decide) (by decide) (by decide) (by decide) (by decide), e 6 (by decide) (by decide) (by decide) (by decide) (by decide), e 7 (by decide) (by decide) (by decide) (by decide) (by decide), e10, e14, elg]
    have := haI.2.1
    omega
  · show NI (if a 2 = 0 then M.2.1.filter (fun b => decide (b 0 ≠ a 0)) else M.2.1.map (fun b => if b 0 = a 0 then rung b (M.1 0 - a 1) else b))
    split
    · exact List.Pairwise.filter _ hn
    · exact hn.map (fun b => rung0 b)
  · obtain ⟨d, hd, g⟩ := mR1_in hb
    rcases g with ⟨g0, g2, g⟩ | ⟨-, g⟩
    · have hda : d = a := hn.inj hd haL g0
      subst hda
      obtain ⟨a0, a1, a2, a3, a4, a5, a6, a7⟩ := haI
      have hp : 0 < d 2 := by omega
      obtain ⟨t1, t2, t3, t4⟩ := tdiv_b hsl hp
      unfold SI at hs
      have ht : (( M.1 0 - d 1) / d 2 + 1) * d 2 = (M.1 0 - d 1) / d 2 * d 2 + d 2 := by rw [Int.add_mul, Int.one_mul]
      rw [g]
      refine ⟨?_, ?_, ?_, ?_, Or.inl rung_4, ?_, ?_, fun k hk => ?_⟩
      · rw [rung_k (by decide) (by decide) (by decide) (by decide), e 6 (by decide) (by decide) (by decide) (by decide) (by decide)]; exact a0
      · rw [rung_1, ht]; omega
      · rw [rung_k (by decide) (by decide) (by decide) (by decide)]; exact a2
      · rw [rung_k (by decide) (by decide) (by decide) (by decide)]; exact a3
      · rw [rung_5]; omega
      · rw [rung_6]; omega
      · rw [rung_k (by omega) (by omega) (by omega) (by omega)]; exact a7 k hk
    · obtain ⟨a0, a1, a2, a3, a4, a5, a6, a7⟩ := hA d hd
      rw [g]
      exact ⟨by rw [e 6 (by decide) (by decide) (by decide) (by decide) (by decide)]; exact a0, a1, a2, a3, by rw [e 7 (by decide) (by decide) (by decide) (by decide) (by decide)]; exact a4, a5, a6, a7⟩
  · obtain ⟨d, hd, g⟩ := mR1_in hb
    rcases g with ⟨-, -, g⟩ | ⟨-, g⟩
    · rw [g, rung_4] at hb4; omega
    · rw [g] at hb4 ⊢; exact h5 d hd hb4
  · rw [e14]; omega
  · rw [e 0 (by decide) (by decide) (by decide) (by decide) (by decide)]
    obtain ⟨d, hd, g⟩ := mR1_in hb
    rcases g with ⟨-, -, g⟩ | ⟨-, g⟩
    · rw [g, rung_4] at hb4; omega
    · rw [g] at hb4 ⊢; exact h1 d hd hb4

