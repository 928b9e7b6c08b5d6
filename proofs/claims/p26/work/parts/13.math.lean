/-! ===== the mathematical state: numbers, alarms, comparers, log; sharing out ===== -/
abbrev Ar : Type := Nat → Int
/-- numbers (0 counter, 1 ticks, 2 drift, 3 window, 4 loading, 6 ever, 7 comparers, 8 rings, 9 slips, 10 greatest, 11 missed, 12 loaded, 13 taken over, 14 logged), alarms, comparers (0 count, 1 loading still), log -/
abbrev Ms : Type := (Nat → Int) × List Ar × (Nat → Nat → Int) × List Ar
def aU (a : Ar) (k : Nat) (x : Int) : Ar := fun j => if j = k then x else a j
theorem aU_s (a : Ar) (k : Nat) (x : Int) : aU a k x k = x := by simp [aU]
theorem aU_n {a : Ar} {k : Nat} {x : Int} {j : Nat} (h : j ≠ k) : aU a k x j = a j := by simp [aU, h]
theorem aU_id {a : Ar} {k : Nat} : aU a k (a k) = a := by
  funext j
  unfold aU
  split
  · next h => rw [h]
  · rfl
def rc7 (a : Nat → Int) : Ar := fun k => if k < 7 then a k else 0
theorem rc7_k {a : Nat → Int} {k : Nat} (h : k < 7) : rc7 a k = a k := by simp [rc7, h]
def cU (C : Nat → Nat → Int) (c : Nat) (x y : Int) : Nat → Nat → Int := fun j => if j = c then (fun k => if k = 0 then x else y) else C j
theorem cU_s0 {C : Nat → Nat → Int} {c : Nat} {x y : Int} : cU C c x y c 0 = x := by simp [cU]
theorem cU_s1 {C : Nat → Nat → Int} {c : Nat} {x y : Int} : cU C c x y c 1 = y := by simp [cU]
theorem cU_n {C : Nat → Nat → Int} {c : Nat} {x y : Int} {j : Nat} (h : j ≠ c) : cU C c x y j = C j := by simp [cU, h]
noncomputable def pB (p : Prop) : Bool := @decide p (Classical.propDecidable p)
theorem pB_t {p : Prop} : pB p = true ↔ p := by unfold pB; exact @decide_eq_true_iff p (Classical.propDecidable p)
/-- the first of the alarms of x (-1005: of those without a comparer) -/
def fstA (L : List Ar) (x : Int) (a : Ar) : Prop := a ∈ L ∧ a 4 = x ∧ ∀ b, b ∈ L → b 4 = x → b = a ∨ bef a b
def jnb (M : Ms) (t : Int) (c : Nat) : Prop := M.2.2.1 c 0 ≠ -1005 ∧ (∀ a, a ∈ M.2.1 → a 4 = c → M.2.2.1 c 0 - a 1 ≤ M.1 3 ∧ t - a 1 ≤ M.1 3) ∧ M.2.2.1 c 0 - t ≤ M.1 3
def frC (M : Ms) (c : Nat) : Prop := M.2.2.1 c 0 = -1005
def asg (L : List Ar) (a : Ar) (c : Int) : List Ar := L.map (fun b => if b 0 = a 0 then aU b 4 c else b)
def uns (L : List Ar) (c : Int) : List Ar := L.map (fun b => if b 4 = c then aU b 4 (-1005) else b)
def turn (M M' : Ms) : Prop := ∃ a, fstA M.2.1 (-1005) a ∧
  ((∃ c : Nat, (c : Int) < M.1 7 ∧ jnb M (a 1) c ∧ (∀ j : Nat, j < c → ¬ jnb M (a 1) j) ∧ M' = (M.1, asg M.2.1 a c, cU M.2.2.1 c (max (M.2.2.1 c 0) (a 1)) (M.2.2.1 c 1), M.2.2.2)) ∨
   (∃ c : Nat, (c : Int) < M.1 7 ∧ (∀ j : Nat, (j : Int) < M.1 7 → ¬ jnb M (a 1) j) ∧ frC M c ∧ (∀ j : Nat, j < c → ¬ frC M j) ∧ M' = (aU M.1 12 (M.1 12 + 1), asg M.2.1 a c, cU M.2.2.1 c (a 1) (M.1 4), M.2.2.2)) ∨
   (∃ c : Nat, (c : Int) < M.1 7 ∧ (∀ j : Nat, (j : Int) < M.1 7 → ¬ jnb M (a 1) j) ∧ (∀ j : Nat, (j : Int) < M.1 7 → ¬ frC M j) ∧ (∀ j : Nat, (j : Int) < M.1 7 → M.2.2.1 j 0 ≤ M.2.2.1 c 0) ∧ (∀ j : Nat, j < c → M.2.2.1 j 0 < M.2.2.1 c 0) ∧ a 1 < M.2.2.1 c 0 ∧
      M' = (aU (aU M.1 12 (M.1 12 + 1)) 13 (M.1 13 + 1), asg (uns M.2.1 c) a c, cU M.2.2.1 c (a 1) (M.1 4), M.2.2.2)))
def stk (M : Ms) : Prop := (∀ a, a ∈ M.2.1 → a 4 ≠ -1005) ∨ ∃ a, fstA M.2.1 (-1005) a ∧ (∀ j : Nat, (j : Int) < M.1 7 → ¬ jnb M (a 1) j) ∧ (∀ j : Nat, (j : Int) < M.1 7 → ¬ frC M j) ∧ (∀ j : Nat, (j : Int) < M.1 7 → M.2.2.1 j 0 ≤ a 1)
def itr : Nat → Ms → Ms → Prop
  | 0, M, M' => M = M'
  | k + 1, M, M' => ∃ N, turn M N ∧ itr k N M'
def shr (M M' : Ms) : Prop := ∃ k, itr k M M' ∧ stk M'
theorem fstA_u {L : List Ar} {x : Int} {a b : Ar} (ha : fstA L x a) (hb : fstA L x b) : a = b := by
  rcases ha.2.2 b hb.1 hb.2.1 with h | h
  · exact h.symm
  · rcases hb.2.2 a ha.1 ha.2.1 with h' | h'
    · exact h'
    · exact (bef_as h h').elim
theorem lt_u {p : Nat → Prop} {c d : Nat} (h1 : p c) (h2 : ∀ j, j < c → ¬ p j) (h3 : p d) (h4 : ∀ j, j < d → ¬ p j) : c = d := by
  rcases (show c < d ∨ c = d ∨ d < c by omega) with h | h | h
  · exact absurd h1 (h4 c h)
  · exact h
  · exact absurd h3 (h2 d h)
theorem turn_u {M M1 M2 : Ms} (h1 : turn M M1) (h2 : turn M M2) : M1 = M2 := by
  obtain ⟨a, ha, h1⟩ := h1
  obtain ⟨b, hb, h2⟩ := h2
  have hab := fstA_u ha hb
  subst hab
  rcases h1 with ⟨c, c1, c2, c3, rfl⟩ | ⟨c, c1, c2, c3, c4, rfl⟩ | ⟨c, c1, c2, c3, c4, c5, c6, rfl⟩
  · rcases h2 with ⟨d, d1, d2, d3, rfl⟩ | ⟨d, d1, d2, d3, d4, rfl⟩ | ⟨d, d1, d2, d3, d4, d5, d6, rfl⟩
    · have := lt_u (p := fun j => jnb M (a 1) j) c2 c3 d2 d3
      subst this; rfl
    · exact absurd c2 (d2 c c1)
    · exact absurd c2 (d2 c c1)
  · rcases h2 with ⟨d, d1, d2, d3, rfl⟩ | ⟨d, d1, d2, d3, d4, rfl⟩ | ⟨d, d1, d2, d3, d4, d5, d6, rfl⟩
    · exact absurd d2 (c2 d d1)
    · have := lt_u (p := fun j => frC M j) c3 c4 d3 d4
      subst this; rfl
    · exact absurd c3 (d3 c c1)
  · rcases h2 with ⟨d, d1, d2, d3, rfl⟩ | ⟨d, d1, d2, d3, d4, rfl⟩ | ⟨d, d1, d2, d3, d4, d5, d6, rfl⟩
    · exact absurd d2 (c2 d d1)
    · exact absurd d3 (c3 d d1)
    · have : c = d := by
        rcases (show c < d ∨ c = d ∨ d < c by omega) with h | h | h
        · have := d5 c h; have := c4 d d1; omega
        · exact h
        · have := c5 d h; have := d4 c c1; omega
      subst this; rfl
theorem turn_stk {M M1 : Ms} (h1 : turn M M1) (h2 : stk M) : False := by
  obtain ⟨a, ha, h1⟩ := h1
  rcases h2 with h2 | ⟨b, hb, g1, g2, g3⟩
  · exact h2 a ha.1 ha.2.1
  · have hab := fstA_u ha hb
    subst hab
    rcases h1 with ⟨c, c1, c2, c3, rfl⟩ | ⟨c, c1, c2, c3, c4, rfl⟩ | ⟨c, c1, c2, c3, c4, c5, c6, rfl⟩
    · exact g1 c c1 c2
    · exact g2 c c1 c3
    · have := g3 c c1; omega
theorem shr_u {M M1 M2 : Ms} (h1 : shr M M1) (h2 : shr M M2) : M1 = M2 := by
  obtain ⟨k, h1, s1⟩ := h1
  obtain ⟨q, h2, s2⟩ := h2
  induction k generalizing M q with
  | zero =>
    have h1 : M = M1 := h1
    cases q with
    | zero => have h2 : M = M2 := h2; rw [← h1, h2]
    | succ q =>
      obtain ⟨N, t, -⟩ := h2
      rw [h1] at t
      exact (turn_stk t s1).elim
  | succ k ih =>
    obtain ⟨N, t, h1⟩ := h1
    cases q with
    | zero =>
      have h2 : M = M2 := h2
      rw [h2] at t
      exact (turn_stk t s2).elim
    | succ q =>
      obtain ⟨N', t', h2⟩ := h2
      have := turn_u t t'
      subst this
      exact ih h1 q h2
/-- all that can be shared out is -/
noncomputable def mSh (M : Ms) : Ms := Classical.epsilon (shr M)
theorem mSh_eq {M M' : Ms} (h : shr M M') : mSh M = M' := shr_u (Classical.epsilon_spec (p := shr M) ⟨M', h⟩) h
theorem mSh_stk {M : Ms} (h : stk M) : mSh M = M := mSh_eq ⟨0, rfl, h⟩
theorem shr_turn {M N M' : Ms} (h : turn M N) (h' : shr N M') : shr M M' := by
  obtain ⟨k, h1, h2⟩ := h'
  exact ⟨k + 1, ⟨N, h, h1⟩, h2⟩
-- what stays true of a state; T bounds the counter, K the ticks
def AI (M : Ms) (T K : Int) (a : Ar) : Prop := (0 ≤ a 0 ∧ a 0 < M.1 6) ∧ (0 ≤ a 1 ∧ a 1 ≤ T + 100000) ∧ (0 ≤ a 2 ∧ a 2 ≤ 9999) ∧ (0 ≤ a 3 ∧ a 3 ≤ 3) ∧ (a 4 = -1005 ∨ (0 ≤ a 4 ∧ a 4 < M.1 7)) ∧ (0 ≤ a 5 ∧ a 5 ≤ K) ∧ (-1005 ≤ a 6 ∧ a 6 ≤ T) ∧ ∀ k, 7 ≤ k → a k = 0
def CI (M : Ms) (c : Nat) : Prop := ((∃ a, a ∈ M.2.1 ∧ a 4 = c) → (∀ a, a ∈ M.2.1 → a 4 = c → a 1 ≤ M.2.2.1 c 0) ∧ (∃ a, a ∈ M.2.1 ∧ a 4 = c ∧ a 1 = M.2.2.1 c 0) ∧ 0 ≤ M.2.2.1 c 1 ∧ M.2.2.1 c 1 ≤ 9) ∧ ((∀ a, a ∈ M.2.1 → a 4 ≠ c) → M.2.2.1 c 0 = -1005 ∧ M.2.2.1 c 1 = 0)
def SI (M : Ms) (T K : Int) : Prop := (0 ≤ M.1 0 ∧ M.1 0 ≤ T) ∧ (0 ≤ M.1 1 ∧ M.1 1 ≤ K) ∧ (-999 ≤ M.1 2 ∧ M.1 2 ≤ 999) ∧ (0 ≤ M.1 3 ∧ M.1 3 ≤ 20) ∧ (0 ≤ M.1 4 ∧ M.1 4 ≤ 9) ∧ (0 ≤ M.1 6 ∧ M.1 6 ≤ 500) ∧ (1 ≤ M.1 7 ∧ M.1 7 ≤ 4) ∧ (0 ≤ M.1 10 ∧ M.1 10 ≤ T) ∧ (0 ≤ M.1 14 ∧ M.1 14 ≤ 80 * K) ∧ (M.2.2.2.length : Int) = min 8 (M.1 14) ∧ T ≤ 100000000 ∧ K ≤ 10000000
def NI (L : List Ar) : Prop := L.Pairwise (fun a b => a 0 ≠ b 0)
def MI (M : Ms) (T K : Int) : Prop := SI M T K ∧ M.2.1.length ≤ 20 ∧ NI M.2.1 ∧ (∀ a, a ∈ M.2.1 → AI M T K a) ∧ ∀ c : Nat, c < 4 → CI M c
theorem NI.inj {L : List Ar} (h : NI L) {a b : Ar} (ha : a ∈ L) (hb : b ∈ L) (he : a 0 = b 0) : a = b := by
  induction L with
  | nil => cases ha
  | cons x L ih =>
    have h1 := List.pairwise_cons.mp h
    rcases List.mem_cons.mp ha with ha2 | ha2
    · rcases List.mem_cons.mp hb with hb2 | hb2
      · rw [ha2, hb2]
      · rw [ha2] at he; exact absurd he (h1.1 b hb2)
    · rcases List.mem_cons.mp hb with hb2 | hb2
      · rw [hb2] at he; exact absurd he.symm (h1.1 a ha2)
      · exact ih h1.2 ha2 hb2
theorem NI.map {L : List Ar} (h : NI L) {f : Ar → Ar} (hf : ∀ a, f a 0 = a 0) : NI (L.map f) := by
  refine List.pairwise_map.mpr (List.Pairwise.imp ?_ h)
  intro a b hab
  rw [hf, hf]; exact hab
theorem asg0 {a : Ar} {c : Int} (b : Ar) (k : Nat) (hk : k ≠ 4) : (if b 0 = a 0 then aU b 4 c else b) k = b k := by
  split
  · exact aU_n hk
  · rfl
theorem uns0 {c : Int} (b : Ar) (k : Nat) (hk : k ≠ 4) : (if b 4 = c then aU b 4 (-1005) else b) k = b k := by
  split
  · exact aU_n hk
  · rfl
theorem asg_in {L : List Ar} {a b : Ar} {c : Int} (h : b ∈ asg L a c) : ∃ d, d ∈ L ∧ (∀ k, k ≠ 4 → b k = d k) ∧ ((d 0 = a 0 ∧ b = aU d 4 c) ∨ (d 0 ≠ a 0 ∧ b = d)) := by
  obtain ⟨d, hd, rfl⟩ := List.mem_map.mp h
  refine ⟨d, hd, fun k hk => asg0 d k hk, ?_⟩
  by_cases he : d 0 = a 0
  · rw [if_pos he]; exact Or.inl ⟨he, rfl⟩
  · rw [if_neg he]; exact Or.inr ⟨he, rfl⟩
theorem asg_self {L : List Ar} {a : Ar} {c : Int} (h : a ∈ L) : aU a 4 c ∈ asg L a c := List.mem_map.mpr ⟨a, h, by rw [if_pos rfl]⟩
theorem asg_o {L : List Ar} {a d : Ar} {c : Int} (h : d ∈ L) (hn : d 0 ≠ a 0) : d ∈ asg L a c := List.mem_map.mpr ⟨d, h, by rw [if_neg hn]⟩
theorem uns_in {L : List Ar} {b : Ar} {c : Int} (h : b ∈ uns L c) : ∃ d, d ∈ L ∧ (∀ k, k ≠ 4 → b k = d k) ∧ ((d 4 = c ∧ b = aU d 4 (-1005)) ∨ (d 4 ≠ c ∧ b = d)) := by
  obtain ⟨d, hd, rfl⟩ := List.mem_map.mp h
  refine ⟨d, hd, fun k hk => uns0 d k hk, ?_⟩
  by_cases he : d 4 = c
  · rw [if_pos he]; exact Or.inl ⟨he, rfl⟩
  · rw [if_neg he]; exact Or.inr ⟨he, rfl⟩
theorem uns_o {L : List Ar} {d : Ar} {c : Int} (h : d ∈ L) (hn : d 4 ≠ c) : d ∈ uns L c := List.mem_map.mpr ⟨d, h, by rw [if_neg hn]⟩
theorem asg_NI {L : List Ar} {a : Ar} {c : Int} (h : NI L) : NI (asg L a c) := h.map (fun b => asg0 b 0 (by decide))
theorem uns_NI {L : List Ar} {c : Int} (h : NI L) : NI (uns L c) := h.map (fun b => uns0 b 0 (by decide))
theorem asg_len {L : List Ar} {a : Ar} {c : Int} : (asg L a c).length = L.length := by simp [asg]
theorem uns_len {L : List Ar} {c : Int} : (uns L c).length = L.length := by simp [uns]
/-- the alarms' part of the invariant behind an assignment -/
theorem AI_asg {M M' : Ms} {T K : Int} {L : List Ar} {a : Ar} {c : Nat} (h6 : M'.1 6 = M.1 6) (h7 : M'.1 7 = M.1 7) (hc : (c : Int) < M.1 7) (h : ∀ a, a ∈ L → AI M T K a) : ∀ b, b ∈ asg L a c → AI M' T K b := by
  intro b hb
  obtain ⟨d, hd, hk, h4⟩ := asg_in hb
  obtain ⟨a0, a1, a2, a3, a4, a5, a6, a7⟩ := h d hd
  refine ⟨by rw [hk 0 (by decide), h6]; exact a0, by rw [hk 1 (by decide)]; exact a1, by rw [hk 2 (by decide)]; exact a2, by rw [hk 3 (by decide)]; exact a3, ?_, by rw [hk 5 (by decide)]; exact a5, by rw [hk 6 (by decide)]; exact a6, fun k hk7 => by rw [hk k (by omega)]; exact a7 k hk7⟩
  rcases h4 with ⟨-, h4⟩ | ⟨-, h4⟩
  · rw [h4, aU_s, h7]; exact Or.inr ⟨by omega, hc⟩
  · rw [h4, h7]; exact a4
theorem AI_uns {M : Ms} {T K : Int} {L : List Ar} {c : Int} (h : ∀ a, a ∈ L → AI M T K a) : ∀ b, b ∈ uns L c → AI M T K b := by
  intro b hb
  obtain ⟨d, hd, hk, h4⟩ := uns_in hb
  obtain ⟨a0, a1, a2, a3, a4, a5, a6, a7⟩ := h d hd
  refine ⟨by rw [hk 0 (by decide)]; exact a0, by rw [hk 1 (by decide)]; exact a1, by rw [hk 2 (by decide)]; exact a2, by rw [hk 3 (by decide)]; exact a3, ?_, by rw [hk 5 (by decide)]; exact a5, by rw [hk 6 (by decide)]; exact a6, fun k hk7 => by rw [hk k (by omega)]; exact a7 k hk7⟩
  rcases h4 with ⟨-, h4⟩ | ⟨-, h4⟩
  · rw [h4, aU_s]; exact Or.inl rfl
  · rw [h4]; exact a4
theorem CI_has {M : Ms} {c : Nat} (h : CI M c) (hn : M.2.2.1 c 0 ≠ -1005) : ∃ a, a ∈ M.2.1 ∧ a 4 = c := by
  by_cases he : ∃ a, a ∈ M.2.1 ∧ a 4 = c
  · exact he
  · exact absurd (h.2 (fun a ha hc => he ⟨a, ha, hc⟩)).1 hn
theorem CI_none {M : Ms} {T K : Int} {c : Nat} (h : CI M c) (hA : ∀ a, a ∈ M.2.1 → AI M T K a) (hn : M.2.2.1 c 0 = -1005) : ∀ a, a ∈ M.2.1 → a 4 ≠ c := by
  intro a ha hc
  obtain ⟨-, ⟨b, hb, -, h1⟩, -⟩ := h.1 ⟨a, ha, hc⟩
  have := (hA b hb).2.1
  omega
theorem turn_MI {M M' : Ms} {T K : Int} (h : MI M T K) (t : turn M M') : MI M' T K := by
  obtain ⟨hs, hl, hn, hA, hC⟩ := h
  obtain ⟨a, ⟨haL, ha4, hfst⟩, t⟩ := t
  have haI := hA a haL
  rcases t with ⟨c, c1, c2, c3, rfl⟩ | ⟨c, c1, c2, c3, c4, rfl⟩ | ⟨c, c1, c2, c3, c4, c5, c6, rfl⟩
  · -- it joins
    refine ⟨hs, by rw [asg_len]; exact hl, asg_NI hn, AI_asg (M := M) rfl rfl c1 hA, fun d hd => ?_⟩
    by_cases hdc : d = c
    · subst hdc
      obtain ⟨g1, ⟨b, hb, hb4, hb1⟩, g3, g4⟩ := (hC d hd).1 (CI_has (hC d hd) c2.1)
      refine ⟨fun _ => ⟨fun x hx hx4 => ?_, ?_, ?_⟩, fun q => absurd (aU_s a 4 d) (q _ (asg_self haL))⟩
      · show x 1 ≤ cU _ d _ _ d 0
        rw [cU_s0]
        obtain ⟨e, he, hk, h4⟩ := asg_in hx
        rw [hk 1 (by decide)]
        rcases h4 with ⟨h0, -⟩ | ⟨-, h4⟩
        · rw [hn.inj he haL h0]; omega
        · rw [h4] at hx4
          have := g1 e he hx4
          omega
      · show ∃ x, x ∈ asg _ a d ∧ x 4 = d ∧ x 1 = cU _ d _ _ d 0
        rw [cU_s0]
        by_cases hm : M.2.2.1 d 0 ≤ a 1
        · exact ⟨_, asg_self haL, aU_s _ _ _, by rw [aU_n (by decide)]; omega⟩
        · have hba : b 0 ≠ a 0 := fun q => by have := hn.inj hb haL q; rw [this, ha4] at hb4; omega
          exact ⟨b, asg_o hb hba, hb4, by omega⟩
      · show 0 ≤ cU _ d _ _ d 1 ∧ cU _ d _ _ d 1 ≤ 9
        rw [cU_s1]; exact ⟨g3, g4⟩
    · have e : cU M.2.2.1 c (max (M.2.2.1 c 0) (a 1)) (M.2.2.1 c 1) d = M.2.2.1 d := cU_n hdc
      have key : ∀ x : Ar, (x ∈ asg M.2.1 a c ∧ x 4 = d) ↔ (x ∈ M.2.1 ∧ x 4 = d) := by
        intro x
        constructor
        · rintro ⟨hx, hx4⟩
          obtain ⟨e, he, hk, h4⟩ := asg_in hx
          rcases h4 with ⟨-, h4⟩ | ⟨-, h4⟩
          · rw [h4, aU_s] at hx4; omega
          · rw [h4] at hx4 ⊢; exact ⟨he, hx4⟩
        · rintro ⟨hx, hx4⟩
          exact ⟨asg_o hx (fun q => by have := hn.inj hx haL q; rw [this, ha4] at hx4; omega), hx4⟩
      refine ⟨fun q => ?_, fun q => ?_⟩
      · obtain ⟨x, hx⟩ := q
        obtain ⟨g1, ⟨b, hb, hb4, hb1⟩, g3⟩ := (hC d hd).1 ⟨x, (key x).mp hx⟩
        show (∀ y, y ∈ asg M.2.1 a c → y 4 = d → y 1 ≤ cU _ c _ _ d 0) ∧ (∃ y, y ∈ asg M.2.1 a c ∧ y 4 = d ∧ y 1 = cU _ c _ _ d 0) ∧ 0 ≤ cU _ c _ _ d 1 ∧ cU _ c _ _ d 1 ≤ 9
        rw [e]
        exact ⟨fun y hy hy4 => by have := (key y).mp ⟨hy, hy4⟩; exact g1 y this.1 this.2, ⟨b, ((key b).mpr ⟨hb, hb4⟩).1, hb4, hb1⟩, g3⟩
      · show cU _ c _ _ d 0 = _ ∧ cU _ c _ _ d 1 = _
        rw [e]
        exact (hC d hd).2 (fun x hx hx4 => q x ((key x).mpr ⟨hx, hx4⟩).1 hx4)
  · -- a free one
    refine ⟨?_, by rw [asg_len]; exact hl, asg_NI hn, AI_asg (M := M) (show aU M.1 12 (M.1 12 + 1) 6 = M.1 6 from aU_n (by decide)) (show aU M.1 12 (M.1 12 + 1) 7 = M.1 7 from aU_n (by decide)) c1 hA, fun d hd => ?_⟩
    · unfold SI at hs ⊢
      simp only [aU_n (a := M.1) (k := 12) (x := M.1 12 + 1) (show 0 ≠ 12 by decide), aU_n (a := M.1) (k := 12) (x := M.1 12 + 1) (show 1 ≠ 12 by decide), aU_n (a := M.1) (k := 12) (x := M.1 12 + 1) (show 2 ≠ 12 by decide), aU_n (a := M.1) (k := 12) (x := M.1 12 + 1) (show 3 ≠ 12 by decide), aU_n (a := M.1) (k := 12) (x := M.1 12 + 1) (show 4 ≠ 12 by decide), aU_n (a := M.1) (k := 12) (x := M.1 12 + 1) (show 6 ≠ 12 by decide), aU_n (a := M.1) (k := 12) (x := M.1 12 + 1) (show 7 ≠ 12 by decide), aU_n (a := M.1) (k := 12) (x := M.1 12 + 1) (show 10 ≠ 12 by decide), aU_n (a := M.1) (k := 12) (x := M.1 12 + 1) (show 14 ≠ 12 by decide)]
      exact hs
    · by_cases hdc : d = c
      · subst hdc
        have hno := CI_none (hC d hd) hA c3
        refine ⟨fun _ => ⟨fun x hx hx4 => ?_, ?_, ?_⟩, fun q => absurd (aU_s a 4 d) (q _ (asg_self haL))⟩
        · show x 1 ≤ cU _ d _ _ d 0
          rw [cU_s0]
          obtain ⟨e, he, hk, h4⟩ := asg_in hx
          rw [hk 1 (by decide)]
          rcases h4 with ⟨h0, -⟩ | ⟨-, h4⟩
          · rw [hn.inj he haL h0]; omega
          · rw [h4] at hx4
            exact absurd hx4 (hno e he)
        · show ∃ x, x ∈ asg _ a d ∧ x 4 = d ∧ x 1 = cU _ d _ _ d 0
          rw [cU_s0]
          exact ⟨_, asg_self haL, aU_s _ _ _, by rw [aU_n (by decide)]⟩
        · show 0 ≤ cU _ d _ _ d 1 ∧ cU _ d _ _ d 1 ≤ 9
          rw [cU_s1]; exact hs.2.2.2.2.1
      · have e : cU M.2.2.1 c (a 1) (M.1 4) d = M.2.2.1 d := cU_n hdc
        have key : ∀ x : Ar, (x ∈ asg M.2.1 a c ∧ x 4 = d) ↔ (x ∈ M.2.1 ∧ x 4 = d) := by
          intro x
          constructor
          · rintro ⟨hx, hx4⟩
            obtain ⟨e, he, hk, h4⟩ := asg_in hx
            rcases h4 with ⟨-, h4⟩ | ⟨-, h4⟩
            · rw [h4, aU_s] at hx4; omega
            · rw [h4] at hx4 ⊢; exact ⟨he, hx4⟩
          · rintro ⟨hx, hx4⟩
            exact ⟨asg_o hx (fun q => by have := hn.inj hx haL q; rw [this, ha4] at hx4; omega), hx4⟩
        refine ⟨fun q => ?_, fun q => ?_⟩
        · obtain ⟨x, hx⟩ := q
          obtain ⟨g1, ⟨b, hb, hb4, hb1⟩, g3⟩ := (hC d hd).1 ⟨x, (key x).mp hx⟩
          show (∀ y, y ∈ asg M.2.1 a c → y 4 = d → y 1 ≤ cU _ c _ _ d 0) ∧ (∃ y, y ∈ asg M.2.1 a c ∧ y 4 = d ∧ y 1 = cU _ c _ _ d 0) ∧ 0 ≤ cU _ c _ _ d 1 ∧ cU _ c _ _ d 1 ≤ 9
          rw [e]
          exact ⟨fun y hy hy4 => by have := (key y).mp ⟨hy, hy4⟩; exact g1 y this.1 this.2, ⟨b, ((key b).mpr ⟨hb, hb4⟩).1, hb4, hb1⟩, g3⟩
        · show cU _ c _ _ d 0 = _ ∧ cU _ c _ _ d 1 = _
          rw [e]
          exact (hC d hd).2 (fun x hx hx4 => q x ((key x).mpr ⟨hx, hx4⟩).1 hx4)
  · -- one is taken over
    have haU : a ∈ uns M.2.1 c := uns_o haL (by rw [ha4]; omega)
    refine ⟨?_, by rw [asg_len, uns_len]; exact hl, asg_NI (uns_NI hn), AI_asg (M := M) (show aU (aU M.1 12 (M.1 12 + 1)) 13 (M.1 13 + 1) 6 = M.1 6 from (aU_n (by decide)).trans (aU_n (by decide))) (show aU (aU M.1 12 (M.1 12 + 1)) 13 (M.1 13 + 1) 7 = M.1 7 from (aU_n (by decide)).trans (aU_n (by decide))) c1 (AI_uns hA), fun d hd => ?_⟩
    · unfold SI at hs ⊢
      have e : ∀ k, k ≠ 12 → k ≠ 13 → aU (aU M.1 12 (M.1 12 + 1)) 13 (M.1 13 + 1) k = M.1 k := fun k h1 h2 => by rw [aU_n h2, aU_n h1]
      simp only [e 0 (by decide) (by decide), e 1 (by decide) (by decide), e 2 (by decide) (by decide), e 3 (by decide) (by decide), e 4 (by decide) (by decide), e 6 (by decide) (by decide), e 7 (by decide) (by decide), e 10 (by decide) (by decide), e 14 (by decide) (by decide)]
      exact hs
    · by_cases hdc : d = c
      · subst hdc
        refine ⟨fun _ => ⟨fun x hx hx4 => ?_, ?_, ?_⟩, fun q => absurd (aU_s a 4 d) (q _ (asg_self haU))⟩
        · show x 1 ≤ cU _ d _ _ d 0
          rw [cU_s0]
          obtain ⟨e, he, hk, h4⟩ := asg_in hx
          rw [hk 1 (by decide)]
          rcases h4 with ⟨h0, -⟩ | ⟨-, h4⟩
          · rw [(uns_NI hn).inj he haU h0]; omega
          · rw [h4] at hx4
            obtain ⟨f, hf, hkf, h4f⟩ := uns_in he
            rcases h4f with ⟨-, h4f⟩ | ⟨h4f, h5⟩
            · rw [h4f, aU_s] at hx4; omega
            · rw [h5] at hx4; exact absurd hx4 h4f
        · show ∃ x, x ∈ asg _ a d ∧ x 4 = d ∧ x 1 = cU _ d _ _ d 0
          rw [cU_s0]
          exact ⟨_, asg_self haU, aU_s _ _ _, by rw [aU_n (by decide)]⟩
        · show 0 ≤ cU _ d _ _ d 1 ∧ cU _ d _ _ d 1 ≤ 9
          rw [cU_s1]; exact hs.2.2.2.2.1
      · have e : cU M.2.2.1 c (a 1) (M.1 4) d = M.2.2.1 d := cU_n hdc
        have key : ∀ x : Ar, (x ∈ asg (uns M.2.1 c) a c ∧ x 4 = d) ↔ (x ∈ M.2.1 ∧ x 4 = d) := by
          intro x
          constructor
          · rintro ⟨hx, hx4⟩
            obtain ⟨e, he, hk, h4⟩ := asg_in hx
            rcases h4 with ⟨-, h4⟩ | ⟨-, h4⟩
            · rw [h4, aU_s] at hx4; omega
            · rw [h4] at hx4 ⊢
              obtain ⟨f, hf, hkf, h4f⟩ := uns_in he
              rcases h4f with ⟨-, h4f⟩ | ⟨-, h5⟩
              · rw [h4f, aU_s] at hx4; omega
              · rw [h5] at hx4 ⊢; exact ⟨hf, hx4⟩
          · rintro ⟨hx, hx4⟩
            exact ⟨asg_o (uns_o hx (by omega)) (fun q => by have := hn.inj hx haL q; rw [this, ha4] at hx4; omega), hx4⟩
        refine ⟨fun q => ?_, fun q => ?_⟩
        · obtain ⟨x, hx⟩ := q
          obtain ⟨g1, ⟨b, hb, hb4, hb1⟩, g3⟩ := (hC d hd).1 ⟨x, (key x).mp hx⟩
          show (∀ y, y ∈ asg (uns M.2.1 c) a c → y 4 = d → y 1 ≤ cU _ c _ _ d 0) ∧ (∃ y, y ∈ asg (uns M.2.1 c) a c ∧ y 4 = d ∧ y 1 = cU _ c _ _ d 0) ∧ 0 ≤ cU _ c _ _ d 1 ∧ cU _ c _ _ d 1 ≤ 9
          rw [e]
          exact ⟨fun y hy hy4 => by have := (key y).mp ⟨hy, hy4⟩; exact g1 y this.1 this.2, ⟨b, ((key b).mpr ⟨hb, hb4⟩).1, hb4, hb1⟩, g3⟩
        · show cU _ c _ _ d 0 = _ ∧ cU _ c _ _ d 1 = _
          rw [e]
          exact (hC d hd).2 (fun x hx hx4 => q x ((key x).mpr ⟨hx, hx4⟩).1 hx4)

