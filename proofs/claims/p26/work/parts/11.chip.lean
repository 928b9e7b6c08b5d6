/-! ===== a chip's methods that look, and the small ones that write ===== -/
theorem jI_s (i : Nat) : jI (i : Int) + jI 1 = jI ((i + 1 : Nat) : Int) := by rw [jI_add]; rfl
theorem inR_n {i : Nat} (h : i < 2147483648) : inR (i : Int) := ⟨by omega, by omega⟩
theorem inR_s {a : Int} (h1 : -2000 ≤ a) (h2 : a ≤ 2000) : inR a := ⟨by omega, by omega⟩
theorem sp_placeOf {G : Mm} {b n : Nat} {v : Nat → Nat → Int} {x : Int} {Q : dp_Ps} (hc : CV G b v) (hn : v 0 5 = (n : Int)) (hn20 : n ≤ 20) (hx : inR x) (hr : ∀ i, i < n → inR (v (2 + i) 0))
    (h1 : (∀ i, i < n → v (2 + i) 0 ≠ x) → Q (jI (-1)) G) (h2 : ∀ i : Nat, i < n → v (2 + i) 0 = x → (∀ j, j < i → v (2 + j) 0 ≠ x) → Q (jI (i : Int)) G) : Sp 14 3 [vR 2 b, vI (jI x)] G Q := by
  apply vcX2_placeOf
  have key : ∀ m i : Nat, n - i < m → i ≤ n → (∀ j, j < i → v (2 + j) 0 ≠ x) → Wp 14 2 [some (vR 2 b), some (vI (jI x)), some (vI (jI (i : Int)))] [] G Q := by
    intro m
    induction m with
    | zero => intro i hm; omega
    | succ m ih =>
      intro i hm hi hp
      apply vcX2_placeOf_2
      rw [hc.f, hn, jI_le (inR_n (by omega)) (inR_n (by omega))]
      refine ⟨fun q => h1 (fun j hj => hp j (by omega)), fun q => ⟨jI_in (by omega) (by omega) (by omega), ?_⟩⟩
      rw [hc.r8, jI_cln (by omega), hc.al (by omega), jI_inj (hr i (by omega)) hx, jI_s]
      exact ⟨fun q2 => h2 i (by omega) q2 hp, fun q2 => ih (i + 1) (by omega) (by omega) (fun j hj => by rcases (show j < i ∨ j = i by omega) with h | rfl; exact hp j h; exact q2)⟩
  exact key (n + 1) 0 (by omega) (by omega) (fun j hj => by omega)
theorem sp_hasRoom {G : Mm} {b n : Nat} {v : Nat → Nat → Int} {x : Int} {Q : dp_Ps} (hc : CV G b v) (hn : v 0 5 = (n : Int)) (hn20 : n ≤ 20) (hx : 0 ≤ x ∧ x < 1000) (he : 0 ≤ v 0 6 ∧ v 0 6 ≤ 1000)
    (ht : n + x ≤ 20 ∧ v 0 6 + x ≤ 500 → Q (jI 1) G) (hf : ¬ (n + x ≤ 20 ∧ v 0 6 + x ≤ 500) → Q (jI 0) G) : Sp 13 2 [vR 2 b, vI (jI x)] G Q := by
  apply vcX2_hasRoomFor
  rw [hc.f, hc.f, hn, jI_add, jI_add, jI_lt (inR_s (by omega) (by omega)) (inR_s (by omega) (by omega)), jI_lt (inR_s (by omega) (by omega)) (inR_s (by omega) (by omega))]
  exact ⟨fun q => hf (by omega), fun q => ⟨fun q2 => hf (by omega), fun q2 => ht (by omega)⟩⟩
theorem sp_without {G : Mm} {b n : Nat} {v : Nat → Nat → Int} {Q : dp_Ps} (hc : CV G b v) (hn : v 0 5 = (n : Int)) (hn20 : n ≤ 20) (hr : ∀ i, i < n → inR (v (2 + i) 4))
    (h : Q (jI (((List.range n).countP (fun i => decide (v (2 + i) 4 = -1005)) : Nat) : Int)) G) : Sp 21 3 [vR 2 b] G Q := by
  apply vcX2_alarmsWithoutComparer
  have key : ∀ m i : Nat, n - i < m → i ≤ n → Wp 21 4 [some (vR 2 b), some (vI (jI (((List.range i).countP (fun i => decide (v (2 + i) 4 = -1005)) : Nat) : Int))), some (vI (jI (i : Int)))] [] G Q := by
    intro m
    induction m with
    | zero => intro i hm; omega
    | succ m ih =>
      intro i hm hi
      apply vcX2_alarmsWithoutComparer_4
      rw [hc.f, hn, jI_le (inR_n (by omega)) (inR_n (by omega))]
      refine ⟨fun q => ?_, fun q => ⟨jI_in (by omega) (by omega) (by omega), ?_⟩⟩
      · rw [show i = n by omega]; exact h
      · have ih := ih (i + 1) (by omega) (by omega)
        rw [List.range_succ, List.countP_append] at ih
        rw [hc.r8, jI_cln (by omega), hc.al (by omega), jI_inj (hr i (by omega)) (inR_s (by omega) (by omega)), jI_s, jI_s]
        refine ⟨fun q2 => ?_, fun q2 => ?_⟩
        · simp only [List.countP_singleton, q2, decide_true, if_true] at ih
          exact ih
        · simp only [List.countP_singleton, q2, decide_false, if_false, Bool.false_eq_true, Nat.add_zero] at ih
          exact ih
  exact key (n + 1) 0 (by omega) (by omega)
theorem sp_freeCs {G : Mm} {b u : Nat} {v : Nat → Nat → Int} {Q : dp_Ps} (hc : CV G b v) (hu : v 0 7 = (u : Int)) (hu4 : u ≤ 4) (hr : ∀ c, c < u → inR (v (23 + c) 0))
    (h : Q (jI (((List.range u).countP (fun c => decide (v (23 + c) 0 = 0)) : Nat) : Int)) G) : Sp 29 3 [vR 2 b] G Q := by
  apply vcX2_freeComparers
  have key : ∀ m i : Nat, u - i < m → i ≤ u → Wp 29 4 [some (vR 2 b), some (vI (jI (((List.range i).countP (fun c => decide (v (23 + c) 0 = 0)) : Nat) : Int))), some (vI (jI (i : Int)))] [] G Q := by
    intro m
    induction m with
    | zero => intro i hm; omega
    | succ m ih =>
      intro i hm hi
      apply vcX2_freeComparers_4
      rw [hc.f, hu, jI_le (inR_n (by omega)) (inR_n (by omega))]
      refine ⟨fun q => ?_, fun q => ⟨jI_in (by omega) (by omega) (by omega), ?_⟩⟩
      · rw [show i = u by omega]; exact h
      · have ih := ih (i + 1) (by omega) (by omega)
        rw [List.range_succ, List.countP_append] at ih
        rw [hc.r9, jI_cln (by omega), hc.rc (by omega), jI_s, jI_s]
        refine sp_isFree (fun k => hc.co (by omega) k) (hr i (by omega)) (fun q2 => ?_) (fun q2 => ?_)
        · refine ⟨fun q3 => absurd q3 (by decide), fun _ => ?_⟩
          simp only [List.countP_singleton, q2, decide_true, if_true] at ih
          exact ih
        · refine ⟨fun _ => ?_, fun q3 => absurd rfl q3⟩
          simp only [List.countP_singleton, q2, decide_false, if_false, Bool.false_eq_true, Nat.add_zero] at ih
          exact ih
  exact key (u + 1) 0 (by omega) (by omega)
theorem sp_firstSharer {G : Mm} {b n : Nat} {v : Nat → Nat → Int} {x : Int} {Q : dp_Ps} (hc : CV G b v) (hn : v 0 5 = (n : Int)) (hn20 : n ≤ 20) (hx : inR x) (hr : ∀ i, i < n → inR (v (2 + i) 4))
    (h1 : (∀ i, i < n → v (2 + i) 4 ≠ x) → Q (jI (-1005)) G) (h2 : ∀ i : Nat, i < n → v (2 + i) 4 = x → (∀ j, j < i → v (2 + j) 4 ≠ x) → Q (jI (v (2 + i) 0)) G) : Sp 30 3 [vR 2 b, vI (jI x)] G Q := by
  apply vcX2_firstSharerOf
  have key : ∀ m i : Nat, n - i < m → i ≤ n → (∀ j, j < i → v (2 + j) 4 ≠ x) → Wp 30 2 [some (vR 2 b), some (vI (jI x)), some (vI (jI (i : Int)))] [] G Q := by
    intro m
    induction m with
    | zero => intro i hm; omega
    | succ m ih =>
      intro i hm hi hp
      apply vcX2_firstSharerOf_2
      rw [hc.f, hn, jI_le (inR_n (by omega)) (inR_n (by omega))]
      refine ⟨fun q => h1 (fun j hj => hp j (by omega)), fun q => ⟨jI_in (by omega) (by omega) (by omega), ?_⟩⟩
      rw [hc.r8, jI_cln (by omega), hc.al (by omega), hc.al (by omega), jI_inj (hr i (by omega)) hx, jI_s]
      exact ⟨fun q2 => ⟨jI_in (by omega) (by omega) (by omega), h2 i (by omega) q2 hp⟩, fun q2 => ih (i + 1) (by omega) (by omega) (fun j hj => by rcases (show j < i ∨ j = i by omega) with h | rfl; exact hp j h; exact q2)⟩
  exact key (n + 1) 0 (by omega) (by omega) (fun j hj => by omega)
theorem sp_firstWithout {G : Mm} {b n : Nat} {v : Nat → Nat → Int} {Q : dp_Ps} (hc : CV G b v) (hn : v 0 5 = (n : Int)) (hn20 : n ≤ 20) (hr : ∀ i, i < n → inR (v (2 + i) 4))
    (h1 : (∀ i, i < n → v (2 + i) 4 ≠ -1005) → Q (jI (-1)) G) (h2 : ∀ i : Nat, i < n → v (2 + i) 4 = -1005 → (∀ j, j < i → v (2 + j) 4 ≠ -1005) → Q (jI (i : Int)) G) : Sp 32 2 [vR 2 b] G Q := by
  apply vcX2_firstWithoutComparer
  have key : ∀ m i : Nat, n - i < m → i ≤ n → (∀ j, j < i → v (2 + j) 4 ≠ -1005) → Wp 32 2 [some (vR 2 b), some (vI (jI (i : Int)))] [] G Q := by
    intro m
    induction m with
    | zero => intro i hm; omega
    | succ m ih =>
      intro i hm hi hp
      apply vcX2_firstWithoutComparer_2
      rw [hc.f, hn, jI_le (inR_n (by omega)) (inR_n (by omega))]
      refine ⟨fun q => h1 (fun j hj => hp j (by omega)), fun q => ⟨jI_in (by omega) (by omega) (by omega), ?_⟩⟩
      rw [hc.r8, jI_cln (by omega), hc.al (by omega), jI_inj (hr i (by omega)) (inR_s (by omega) (by omega)), jI_s]
      exact ⟨fun q2 => h2 i (by omega) q2 hp, fun q2 => ih (i + 1) (by omega) (by omega) (fun j hj => by rcases (show j < i ∨ j = i by omega) with h | rfl; exact hp j h; exact q2)⟩
  exact key (n + 1) 0 (by omega) (by omega) (fun j hj => by omega)
/-- whether comparer c can take an alarm with time x -/
def ctk (v : Nat → Nat → Int) (c : Nat) (x : Int) : Prop := 0 < v (23 + c) 0 ∧ v (23 + c) 2 - v (23 + c) 1 ≤ v 0 3 ∧ v (23 + c) 2 - x ≤ v 0 3 ∧ x - v (23 + c) 1 ≤ v 0 3
theorem sp_firstTake {G : Mm} {b u : Nat} {v : Nat → Nat → Int} {x : Int} {Q : dp_Ps} (hc : CV G b v) (hu : v 0 7 = (u : Int)) (hu4 : u ≤ 4) (hx : 0 ≤ x ∧ x < 1000000000) (hw : inR (v 0 3))
    (hr : ∀ c, c < u → inR (v (23 + c) 0) ∧ (0 ≤ v (23 + c) 1 ∧ v (23 + c) 1 < 1000000000) ∧ (0 ≤ v (23 + c) 2 ∧ v (23 + c) 2 < 1000000000))
    (h1 : (∀ c, c < u → ¬ ctk v c x) → Q (jI (-1)) G) (h2 : ∀ c : Nat, c < u → ctk v c x → (∀ j, j < c → ¬ ctk v j x) → Q (jI (c : Int)) G) : Sp 34 3 [vR 2 b, vI (jI x)] G Q := by
  apply vcX2_firstThatCanTake
  have key : ∀ m i : Nat, u - i < m → i ≤ u → (∀ j, j < i → ¬ ctk v j x) → Wp 34 2 [some (vR 2 b), some (vI (jI x)), some (vI (jI (i : Int)))] [] G Q := by
    intro m
    induction m with
    | zero => intro i hm; omega
    | succ m ih =>
      intro i hm hi hp
      apply vcX2_firstThatCanTake_2
      rw [hc.f, hu, jI_le (inR_n (by omega)) (inR_n (by omega))]
      refine ⟨fun q => h1 (fun j hj => hp j (by omega)), fun q => ⟨jI_in (by omega) (by omega) (by omega), ?_⟩⟩
      rw [hc.r9, jI_cln (by omega), hc.rc (by omega), jI_s, hc.f]
      have hi2 := hr i (by omega)
      refine sp_canTake (fun k => hc.co (by omega) k) hi2.1 hi2.2.1 hi2.2.2 hx hw (fun q2 => ⟨fun q3 => absurd q3 (by decide), fun _ => h2 i (by omega) q2 hp⟩) (fun q2 => ⟨fun _ => ?_, fun q3 => absurd rfl q3⟩)
      exact ih (i + 1) (by omega) (by omega) (fun j hj => by rcases (show j < i ∨ j = i by omega) with h | rfl; exact hp j h; exact q2)
  exact key (u + 1) 0 (by omega) (by omega) (fun j hj => by omega)
theorem sp_firstFree {G : Mm} {b u : Nat} {v : Nat → Nat → Int} {Q : dp_Ps} (hc : CV G b v) (hu : v 0 7 = (u : Int)) (hu4 : u ≤ 4) (hr : ∀ c, c < u → inR (v (23 + c) 0))
    (h1 : (∀ c, c < u → ¬ v (23 + c) 0 = 0) → Q (jI (-1)) G) (h2 : ∀ c : Nat, c < u → v (23 + c) 0 = 0 → (∀ j, j < c → ¬ v (23 + j) 0 = 0) → Q (jI (c : Int)) G) : Sp 35 2 [vR 2 b] G Q := by
  apply vcX2_firstFree
  have key : ∀ m i : Nat, u - i < m → i ≤ u → (∀ j, j < i → ¬ v (23 + j) 0 = 0) → Wp 35 2 [some (vR 2 b), some (vI (jI (i : Int)))] [] G Q := by
    intro m
    induction m with
    | zero => intro i hm; omega
    | succ m ih =>
      intro i hm hi hp
      apply vcX2_firstFree_2
      rw [hc.f, hu, jI_le (inR_n (by omega)) (inR_n (by omega))]
      refine ⟨fun q => h1 (fun j hj => hp j (by omega)), fun q => ⟨jI_in (by omega) (by omega) (by omega), ?_⟩⟩
      rw [hc.r9, jI_cln (by omega), hc.rc (by omega), jI_s]
      refine sp_isFree (fun k => hc.co (by omega) k) (hr i (by omega)) (fun q2 => ⟨fun q3 => absurd q3 (by decide), fun _ => h2 i (by omega) q2 hp⟩) (fun q2 => ⟨fun _ => ?_, fun q3 => absurd rfl q3⟩)
      exact ih (i + 1) (by omega) (by omega) (fun j hj => by rcases (show j < i ∨ j = i by omega) with h | rfl; exact hp j h; exact q2)
  exact key (u + 1) 0 (by omega) (by omega) (fun j hj => by omega)
theorem sp_greatest {G : Mm} {b u : Nat} {v : Nat → Nat → Int} {Q : dp_Ps} (hc : CV G b v) (hu : v 0 7 = (u : Int)) (hu1 : 1 ≤ u) (hu4 : u ≤ 4) (hr : ∀ c, c < u → inR (v (23 + c) 2))
    (h2 : ∀ c : Nat, c < u → (∀ j, j < u → v (23 + j) 2 ≤ v (23 + c) 2) → (∀ j, j < c → v (23 + j) 2 < v (23 + c) 2) → Q (jI (c : Int)) G) : Sp 36 3 [vR 2 b] G Q := by
  apply vcX2_firstOfGreatestCount
  have key : ∀ m i c : Nat, u - i < m → i ≤ u → c < i → (∀ j, j < i → v (23 + j) 2 ≤ v (23 + c) 2) → (∀ j, j < c → v (23 + j) 2 < v (23 + c) 2) → Wp 36 4 [some (vR 2 b), some (vI (jI (c : Int))), some (vI (jI (i : Int)))] [] G Q := by
    intro m
    induction m with
    | zero => intro i c hm; omega
    | succ m ih =>
      intro i c hm hi hci hp1 hp2
      apply vcX2_firstOfGreatestCount_4
      rw [hc.f, hu, jI_le (inR_n (by omega)) (inR_n (by omega))]
      refine ⟨fun q => h2 c (by omega) (fun j hj => hp1 j (by omega)) hp2, fun q => ⟨jI_in (by omega) (by omega) (by omega), jI_in (by omega) (by omega) (by omega), ?_⟩⟩
      rw [hc.r9, jI_cln (by omega), jI_cln (by omega), hc.rc (by omega), hc.rc (by omega), hc.co (by omega), hc.co (by omega), jI_le (hr i (by omega)) (hr c (by omega)), jI_s]
      refine ⟨fun q2 => ih (i + 1) c (by omega) (by omega) (by omega) (fun j hj => ?_) hp2, fun q2 => ih (i + 1) i (by omega) (by omega) (by omega) (fun j hj => ?_) (fun j hj => ?_)⟩
      · rcases (show j < i ∨ j = i by omega) with h | rfl
        · exact hp1 j h
        · exact q2
      · rcases (show j < i ∨ j = i by omega) with h | rfl
        · have := hp1 j h; omega
        · exact Int.le_refl _
      · have := hp1 j hj; omega
  exact key (u + 1) 1 0 (by omega) (by omega) (by omega) (fun j hj => by rw [show j = 0 by omega]; exact Int.le_refl _) (fun j hj => by omega)
/-- by how much the counter grows in a tick -/
def gro (t d : Int) : Int := if d = 0 then 1 else if jI t - jI t / jI d * jI d = jI 0 then (if d ≤ 0 then 0 else 2) else 1
theorem sp_growth {G : Mm} {b : Nat} {v : Nat → Nat → Int} {Q : dp_Ps} (hc : CV G b v) (hd : inR (v 0 2)) (h : Q (jI (gro (v 0 1) (v 0 2))) G) : Sp 23 1 [vR 2 b] G Q := by
  have i0 : inR 0 := inR_s (by omega) (by omega)
  apply vcX2_growth
  unfold gro at h
  rw [hc.f, hc.f, jI_inj hd i0, jI_le hd i0]
  refine ⟨fun q => ?_, fun q => ⟨q, fun q2 => ⟨fun q3 => ?_, fun q3 => ?_⟩, fun q2 => ?_⟩⟩
  · rw [if_pos q] at h; exact h
  · rw [if_neg q, if_pos q2, if_pos q3] at h; exact h
  · rw [if_neg q, if_pos q2, if_neg q3] at h; exact h
  · rw [if_neg q, if_neg q2] at h; exact h
/-- the alarms of comparer c have none any more; it is free -/
def vSend (v : Nat → Nat → Int) (n : Nat) (c : Int) : Nat → Nat → Int := fun j k => if 2 ≤ j ∧ j < 2 + n ∧ k = 4 ∧ v j 4 = c then -1005 else v j k
def vRel (v : Nat → Nat → Int) (c : Nat) : Nat → Nat → Int := v2 (v2 (v2 (v2 v (23 + c) 0 0) (23 + c) 1 0) (23 + c) 2 0) (23 + c) 3 0
theorem sp_sendOff {G : Mm} {b n c : Nat} {v : Nat → Nat → Int} {Q : dp_Ps} (hc : CV G b v) (hn : v 0 5 = (n : Int)) (hn20 : n ≤ 20) (hc4 : c < 4) (hr : ∀ i, i < n → inR (v (2 + i) 4))
    (h : ∀ G', CV G' b (vRel (vSend v n c) c) → FR b 30 G G' → G'.2 = G.2 → Q (jI 0) G') : Sp 27 3 [vR 2 b, vI (jI (c : Int))] G Q := by
  apply vcX2_sendOffSharers
  have key : ∀ m i : Nat, ∀ G1, n - i < m → i ≤ n → CV G1 b (vSend v i c) → FR b 30 G G1 → G1.2 = G.2 → Wp 27 2 [some (vR 2 b), some (vI (jI (c : Int))), some (vI (jI (i : Int)))] [] G1 Q := by
    intro m
    induction m with
    | zero => intro i G1 hm; omega
    | succ m ih =>
      intro i G1 hm hi hc1 hf hg
      have e5 : vSend v i c 0 5 = (n : Int) := by unfold vSend; rw [if_neg (by omega)]; exact hn
      have ei : vSend v i c (2 + i) 4 = v (2 + i) 4 := by unfold vSend; rw [if_neg (by omega)]
      apply vcX2_sendOffSharers_2
      rw [hc1.f, e5, jI_le (inR_n (by omega)) (inR_n (by omega)), hc1.r9, hc1.r8, jI_cln (by omega), jI_cln (by omega), hc1.rc hc4]
      refine ⟨fun q => ⟨jI_in (by omega) (by omega) (by omega), ?_⟩, fun q => ⟨jI_in (by omega) (by omega) (by omega), ?_⟩⟩
      · rw [show i = n by omega] at hc1
        exact sp_release hc1 hc4 (fun G' h1 h2 h3 => h G' h1 (hf.tr h2) (h3.trans hg))
      · rw [hc1.al (by omega), ei, jI_inj (hr i (by omega)) (inR_n (by omega)), jI_s]
        refine ⟨fun q2 => ⟨jI_in (by omega) (by omega) (by omega), ?_⟩, fun q2 => ih (i + 1) G1 (by omega) (by omega) (hc1.to_eq (fun j hj k => ?_)) hf hg⟩
        · rintro _ rfl
          have hra := hc1.ra (show i < 20 by omega)
          refine ih (i + 1) _ (by omega) (by omega) ((hc1.wal (by omega) 4 (-1005)).to_eq (fun j hj k => ?_)) (hf.tr (FR.wI (by omega))) hg
          unfold v2 vSend
          by_cases hjk : j = 2 + i ∧ k = 4
          · rw [if_pos hjk, if_pos ⟨by omega, by omega, hjk.2, by rw [hjk.1]; exact q2⟩]
          · rw [if_neg hjk]
            by_cases hh : 2 ≤ j ∧ j < 2 + i ∧ k = 4 ∧ v j 4 = c
            · rw [if_pos hh, if_pos ⟨hh.1, by omega, hh.2.2⟩]
            · rw [if_neg hh, if_neg (by omega)]
        · unfold vSend
          by_cases hh : 2 ≤ j ∧ j < 2 + i ∧ k = 4 ∧ v j 4 = c
          · rw [if_pos hh, if_pos ⟨hh.1, by omega, hh.2.2⟩]
          · rw [if_neg hh, if_neg (fun q3 => hh ⟨q3.1, by
              rcases (show j < 2 + i ∨ j = 2 + i by omega) with h | h
              · exact h
              · exfalso; rw [h] at q3; exact q2 q3.2.2.2, q3.2.2⟩)]
  refine key (n + 1) 0 G (by omega) (by omega) (hc.to_eq (fun j hj k => ?_)) FR.rf rfl
  unfold vSend
  rw [if_neg (by omega)]
/-- comparer c is loaded for the alarm at place i -/
def vLoad (v : Nat → Nat → Int) (i c : Nat) : Nat → Nat → Int := v2 (v2 (v2 (v2 (v2 (v2 v (23 + c) 0 1) (23 + c) 1 (v (2 + i) 1)) (23 + c) 2 (v (2 + i) 1)) (23 + c) 3 (v 0 4)) (2 + i) 4 c) 27 4 (v 27 4 + 1)
theorem sp_loadFor {G : Mm} {b i c : Nat} {v : Nat → Nat → Int} {Q : dp_Ps} (hc : CV G b v) (hi : i < 20) (hc4 : c < 4) (h : ∀ G', CV G' b (vLoad v i c) → FR b 30 G G' → G'.2 = G.2 → Q (jI 0) G') : Sp 37 3 [vR 2 b, vR 0 (G.2 (b + 1) i), vI (jI (c : Int))] G Q := by
  have hra := hc.ra hi
  apply vcX2_loadFor
  refine ⟨jI_in (by omega) (by omega) (by omega), ?_⟩
  rw [hc.r9, jI_cln (by omega), hc.rc hc4, hc.al hi, hc.f]
  refine sp_load hc hc4 (fun G1 h1 h2 h3 => ?_)
  rintro _ rfl _ rfl
  have hw := h1.wal hi 4 (c : Int)
  rw [h3] at hw
  have ht := hw.wto 4 (v 27 4 + 1)
  have e10 : (wI G1 (G.2 (b + 1) i) 4 (jI (c : Int))).2 b 10 = b + 27 := hw.r10
  have e4 : (wI G1 (G.2 (b + 1) i) 4 (jI (c : Int))).1 (b + 27) 4 = jI (v 27 4) := by
    rw [hw.to, v2_n (by omega), v2_n (by omega), v2_n (by omega), v2_n (by omega), v2_n (by omega)]
  rw [e10, e4, jI_add]
  exact h _ ht (h2.tr ((FR.wI (by omega)).tr (FR.wI (by omega)))) h3

