/-! ===== states that can be counted out: lists in place of functions ===== -/
def kg : List Int → Nat → Int
  | [], _ => 0
  | x :: _, 0 => x
  | _ :: l, k + 1 => kg l k
def ks : Nat → Int → List Int → List Int
  | 0, x, [] => [x]
  | 0, x, _ :: l => x :: l
  | k + 1, x, [] => 0 :: ks k x []
  | k + 1, x, y :: l => y :: ks k x l
theorem kg_ks (k : Nat) (x : Int) : ∀ (l : List Int) (j : Nat), kg (ks k x l) j = if j = k then x else kg l j := by
  induction k with
  | zero => intro l j; cases l <;> cases j <;> simp [ks, kg]
  | succ k ih => intro l j; cases l <;> cases j <;> simp [ks, kg, ih]
theorem kU {l : List Int} {k : Nat} {x : Int} : aU (kg l) k x = kg (ks k x l) := by
  funext j
  rw [kg_ks]
  rfl
abbrev kCo : Type := List (Int × Int)
def cg : kCo → Nat → Int × Int
  | [], _ => (-1005, 0)
  | x :: _, 0 => x
  | _ :: l, k + 1 => cg l k
def cs : Nat → Int × Int → kCo → kCo
  | 0, x, [] => [x]
  | 0, x, _ :: l => x :: l
  | k + 1, x, [] => (-1005, 0) :: cs k x []
  | k + 1, x, y :: l => y :: cs k x l
theorem cg_cs (k : Nat) (x : Int × Int) : ∀ (l : kCo) (j : Nat), cg (cs k x l) j = if j = k then x else cg l j := by
  induction k with
  | zero => intro l j; cases l <;> cases j <;> simp [cs, cg]
  | succ k ih => intro l j; cases l <;> cases j <;> simp [cs, cg, ih]
def cf (C : kCo) : Nat → Nat → Int := fun j k => if k = 0 then (cg C j).1 else (cg C j).2
theorem cf_0 {C : kCo} {c : Nat} : cf C c 0 = (cg C c).1 := rfl
theorem cf_1 {C : kCo} {c : Nat} : cf C c 1 = (cg C c).2 := rfl
theorem cfU {C : kCo} {c : Nat} {x y : Int} : cU (cf C) c x y = cf (cs c (x, y) C) := by
  funext j k
  unfold cU cf
  rw [cg_cs]
  by_cases h : j = c
  · rw [if_pos h, if_pos h]
  · rw [if_neg h, if_neg h]
def gf (e : List Int) : Ar := fun k => if k = 0 then kg e 0 else if k = 1 then kg e 1 else if k = 2 then kg e 2 else kg e 3
abbrev kM : Type := List Int × List (List Int) × kCo × List (List Int)
abbrev kZ : Type := kM × Option kM × List kM × List Int × Nat
def eM (m : kM) : Ms := (kg m.1, m.2.1.map kg, cf m.2.2.1, m.2.2.2.map gf)
def eZ (z : kZ) : Zst := (eM z.1, z.2.1.map eM, z.2.2.1.map eM, kg z.2.2.2.1, z.2.2.2.2)
theorem eM_1 {m : kM} {k : Nat} : (eM m).1 k = kg m.1 k := rfl
theorem eM_2 {m : kM} : (eM m).2.1 = m.2.1.map kg := rfl
theorem eM_3 {m : kM} : (eM m).2.2.1 = cf m.2.2.1 := rfl
-- order
def kbef (a c : List Int) : Bool := decide (kg a 1 < kg c 1) || (decide (kg a 1 = kg c 1) && (decide (kg c 3 < kg a 3) || (decide (kg a 3 = kg c 3) && decide (kg a 0 < kg c 0))))
theorem kbef_t {a c : List Int} : kbef a c = true ↔ bef (kg a) (kg c) := by
  unfold kbef bef
  simp only [Bool.or_eq_true, Bool.and_eq_true, decide_eq_true_eq]
def kmin : List (List Int) → Int → Option (List Int)
  | [], _ => none
  | a :: L, x => if kg a 4 = x then (match kmin L x with
    | none => some a
    | some b => if kbef b a = true then some b else some a) else kmin L x
def kfok (L : List (List Int)) (x : Int) (a : List Int) : Bool := decide (kg a 4 = x) && (L.any (fun b => decide (b = a)) && L.all (fun b => !decide (kg b 4 = x) || (decide (b = a) || kbef a b)))
def kfst (L : List (List Int)) (x : Int) : Option (List Int) := match kmin L x with
  | none => none
  | some a => if kfok L x a = true then some a else none
theorem kfst_s {L : List (List Int)} {x : Int} {a : List Int} (h : kfst L x = some a) : fstA (L.map kg) x (kg a) := by
  unfold kfst at h
  cases hm : kmin L x with
  | none => rw [hm] at h; cases h
  | some b =>
    rw [hm] at h
    by_cases hk : kfok L x b = true
    · have h : (if kfok L x b = true then some b else none) = some a := h
      rw [if_pos hk] at h
      cases h
      unfold kfok at hk
      simp only [Bool.and_eq_true, decide_eq_true_eq, List.any_eq_true, List.all_eq_true, Bool.or_eq_true, Bool.not_eq_true', decide_eq_false_iff_not] at hk
      obtain ⟨h1, ⟨y, hy, rfl⟩, h3⟩ := hk
      refine ⟨List.mem_map.mpr ⟨_, hy, rfl⟩, h1, fun c hc h4 => ?_⟩
      obtain ⟨d, hd, rfl⟩ := List.mem_map.mp hc
      rcases h3 d hd with q | q | q
      · exact absurd h4 q
      · rw [q]; exact Or.inl rfl
      · exact Or.inr (kbef_t.mp q)
    · have h : (if kfok L x b = true then some b else none) = some a := h
      rw [if_neg hk] at h
      cases h
def kno (L : List (List Int)) (x : Int) : Bool := L.all (fun a => !decide (kg a 4 = x))
theorem kno_t {L : List (List Int)} {x : Int} (h : kno L x = true) : ∀ a, a ∈ L.map kg → a 4 ≠ x := by
  intro a ha
  obtain ⟨b, hb, rfl⟩ := List.mem_map.mp ha
  have := List.all_eq_true.mp h b hb
  simpa using this
def kfi (p : Nat → Bool) : Nat → Nat → Option Nat
  | 0, _ => none
  | k + 1, j => if p j = true then some j else kfi p k (j + 1)
theorem kfi_s {p : Nat → Bool} : ∀ {k j c : Nat}, kfi p k j = some c → (j ≤ c ∧ c < j + k) ∧ p c = true ∧ ∀ i, j ≤ i → i < c → p i = false
  | 0, _, _, h => by cases h
  | k + 1, j, c, h => by
    unfold kfi at h
    by_cases hp : p j = true
    · rw [if_pos hp] at h
      cases h
      exact ⟨by omega, hp, fun i h1 h2 => by omega⟩
    · rw [if_neg hp] at h
      obtain ⟨h1, h2, h3⟩ := kfi_s h
      refine ⟨by omega, h2, fun i g1 g2 => ?_⟩
      by_cases hi : i = j
      · rw [hi]; simpa using hp
      · exact h3 i (by omega) g2
theorem kfi_n {p : Nat → Bool} : ∀ {k j : Nat}, kfi p k j = none → ∀ i, j ≤ i → i < j + k → p i = false
  | 0, _, _, i, h1, h2 => by omega
  | k + 1, j, h, i, h1, h2 => by
    unfold kfi at h
    by_cases hp : p j = true
    · rw [if_pos hp] at h; cases h
    · rw [if_neg hp] at h
      by_cases hi : i = j
      · rw [hi]; simpa using hp
      · exact kfi_n h i (by omega) (by omega)
def kjn (m : kM) (t : Int) (c : Nat) : Bool := !decide ((cg m.2.2.1 c).1 = -1005) && (m.2.1.all (fun a => !decide (kg a 4 = (c : Int)) || (decide ((cg m.2.2.1 c).1 - kg a 1 ≤ kg m.1 3) && decide (t - kg a 1 ≤ kg m.1 3))) && decide ((cg m.2.2.1 c).1 - t ≤ kg m.1 3))
theorem kjn_t {m : kM} {t : Int} {c : Nat} : kjn m t c = true ↔ jnb (eM m) t c := by
  unfold kjn jnb
  rw [eM_1, eM_2, eM_3, cf_0]
  simp only [Bool.and_eq_true, Bool.or_eq_true, Bool.not_eq_true', decide_eq_false_iff_not, decide_eq_true_eq, List.all_eq_true]
  constructor
  · rintro ⟨h1, h2, h3⟩
    refine ⟨h1, fun a ha h4 => ?_, h3⟩
    obtain ⟨b, hb, rfl⟩ := List.mem_map.mp ha
    rcases h2 b hb with q | q
    · exact absurd h4 q
    · exact q
  · rintro ⟨h1, h2, h3⟩
    refine ⟨h1, fun b hb => ?_, h3⟩
    by_cases h4 : kg b 4 = (c : Int)
    · exact Or.inr (h2 (kg b) (List.mem_map.mpr ⟨b, hb, rfl⟩) h4)
    · exact Or.inl h4
theorem kjn_f {m : kM} {t : Int} {c : Nat} (h : kjn m t c = false) : ¬ jnb (eM m) t c := fun q => by rw [kjn_t.mpr q] at h; cases h
def kfr (m : kM) (c : Nat) : Bool := decide ((cg m.2.2.1 c).1 = -1005)
theorem kfr_t {m : kM} {c : Nat} : kfr m c = true ↔ frC (eM m) c := by
  unfold kfr frC
  rw [eM_3, cf_0]
  exact decide_eq_true_iff
theorem kfr_f {m : kM} {c : Nat} (h : kfr m c = false) : ¬ frC (eM m) c := fun q => by rw [kfr_t.mpr q] at h; cases h
def kal (p : Nat → Bool) : Nat → Nat → Bool
  | 0, _ => true
  | k + 1, j => p j && kal p k (j + 1)
theorem kal_s {p : Nat → Bool} : ∀ {k j : Nat}, kal p k j = true → ∀ i, j ≤ i → i < j + k → p i = true
  | 0, _, _, i, h1, h2 => by omega
  | k + 1, j, h, i, h1, h2 => by
    unfold kal at h
    rw [Bool.and_eq_true] at h
    by_cases hi : i = j
    · rw [hi]; exact h.1
    · exact kal_s h.2 i (by omega) (by omega)
theorem kal_f {p : Nat → Bool} : ∀ {k j : Nat}, kal p k j = false → ∃ i, j ≤ i ∧ i < j + k ∧ p i = false
  | 0, _, h => by cases h
  | k + 1, j, h => by
    unfold kal at h
    rw [Bool.and_eq_false_iff] at h
    rcases h with h | h
    · exact ⟨j, by omega, by omega, h⟩
    · obtain ⟨i, h1, h2, h3⟩ := kal_f h
      exact ⟨i, by omega, by omega, h3⟩
/-- comparer c has the greatest count -/
def kmx (m : kM) (c : Nat) : Bool := kal (fun j => decide ((cg m.2.2.1 j).1 ≤ (cg m.2.2.1 c).1)) (kg m.1 7).toNat 0
def kasg (L : List (List Int)) (a : List Int) (c : Int) : List (List Int) := L.map (fun b => if kg b 0 = kg a 0 then ks 4 c b else b)
def kuns (L : List (List Int)) (c : Int) : List (List Int) := L.map (fun b => if kg b 4 = c then ks 4 (-1005) b else b)
theorem kasg_e {L : List (List Int)} {a : List Int} {c : Int} : (kasg L a c).map kg = asg (L.map kg) (kg a) c := by
  unfold kasg asg
  rw [List.map_map, List.map_map]
  apply List.map_congr_left
  intro b _
  show kg (if kg b 0 = kg a 0 then ks 4 c b else b) = if kg b 0 = kg a 0 then aU (kg b) 4 c else kg b
  split
  · exact kU.symm
  · rfl
theorem kuns_e {L : List (List Int)} {c : Int} : (kuns L c).map kg = uns (L.map kg) c := by
  unfold kuns uns
  rw [List.map_map, List.map_map]
  apply List.map_congr_left
  intro b _
  show kg (if kg b 4 = c then ks 4 (-1005) b else b) = if kg b 4 = c then aU (kg b) 4 (-1005) else kg b
  split
  · exact kU.symm
  · rfl
def kTurn (m : kM) : Option kM := match kfst m.2.1 (-1005) with
  | none => none
  | some a => match kfi (kjn m (kg a 1)) (kg m.1 7).toNat 0 with
    | some c => some (m.1, kasg m.2.1 a c, cs c (max (cg m.2.2.1 c).1 (kg a 1), (cg m.2.2.1 c).2) m.2.2.1, m.2.2.2)
    | none => match kfi (kfr m) (kg m.1 7).toNat 0 with
      | some c => some (ks 12 (kg m.1 12 + 1) m.1, kasg m.2.1 a c, cs c (kg a 1, kg m.1 4) m.2.2.1, m.2.2.2)
      | none => match kfi (kmx m) (kg m.1 7).toNat 0 with
        | none => none
        | some c => if kg a 1 < (cg m.2.2.1 c).1 then some (ks 13 (kg m.1 13 + 1) (ks 12 (kg m.1 12 + 1) m.1), kasg (kuns m.2.1 c) a c, cs c (kg a 1, kg m.1 4) m.2.2.1, m.2.2.2) else none
theorem kTurn_s {m m' : kM} (h : kTurn m = some m') : turn (eM m) (eM m') := by
  unfold kTurn at h
  cases h1 : kfst m.2.1 (-1005) with
  | none => rw [h1] at h; cases h
  | some a =>
    rw [h1] at h
    dsimp only at h
    refine ⟨kg a, kfst_s h1, ?_⟩
    cases h2 : kfi (kjn m (kg a 1)) (kg m.1 7).toNat 0 with
    | some c =>
      rw [h2] at h
      cases h
      obtain ⟨g1, g2, g3⟩ := kfi_s h2
      refine Or.inl ⟨c, by show (c : Int) < kg m.1 7; omega, kjn_t.mp g2, fun j hj => kjn_f (g3 j (by omega) hj), ?_⟩
      show (kg m.1, (kasg m.2.1 a c).map kg, cf (cs c _ m.2.2.1), _) = _
      rw [kasg_e, ← cfU]
      rfl
    | none =>
      rw [h2] at h
      dsimp only at h
      have hj : ∀ j : Nat, (j : Int) < (eM m).1 7 → ¬ jnb (eM m) (kg a 1) j := fun j hj => kjn_f (kfi_n h2 j (by omega) (by have hj : (j : Int) < kg m.1 7 := hj; omega))
      cases h3 : kfi (kfr m) (kg m.1 7).toNat 0 with
      | some c =>
        rw [h3] at h
        cases h
        obtain ⟨g1, g2, g3⟩ := kfi_s h3
        refine Or.inr (Or.inl ⟨c, by show (c : Int) < kg m.1 7; omega, hj, kfr_t.mp g2, fun j hj => kfr_f (g3 j (by omega) hj), ?_⟩)
        show (kg (ks 12 _ m.1), (kasg m.2.1 a c).map kg, cf (cs c _ m.2.2.1), _) = _
        rw [kasg_e, ← cfU, ← kU]
        rfl
      | none =>
        rw [h3] at h
        dsimp only at h
        have hf : ∀ j : Nat, (j : Int) < (eM m).1 7 → ¬ frC (eM m) j := fun j hj => kfr_f (kfi_n h3 j (by omega) (by have hj : (j : Int) < kg m.1 7 := hj; omega))
        cases h4 : kfi (kmx m) (kg m.1 7).toNat 0 with
        | none => rw [h4] at h; cases h
        | some c =>
          rw [h4] at h
          dsimp only at h
          by_cases h5 : kg a 1 < (cg m.2.2.1 c).1
          · rw [if_pos h5] at h
            cases h
            obtain ⟨g1, g2, g3⟩ := kfi_s h4
            have hle : ∀ j : Nat, (j : Int) < kg m.1 7 → (cg m.2.2.1 j).1 ≤ (cg m.2.2.1 c).1 := fun j hj => by simpa using kal_s g2 j (by omega) (by omega)
            refine Or.inr (Or.inr ⟨c, by show (c : Int) < kg m.1 7; omega, hj, hf, hle, fun j hj => ?_, h5, ?_⟩)
            · show (cg m.2.2.1 j).1 < (cg m.2.2.1 c).1
              obtain ⟨i, i1, i2, i3⟩ := kal_f (g3 j (by omega) hj)
              have i3 : ¬ (cg m.2.2.1 i).1 ≤ (cg m.2.2.1 j).1 := by simpa using i3
              have := hle i (by omega)
              omega
            · show (kg (ks 13 _ (ks 12 _ m.1)), (kasg (kuns m.2.1 c) a c).map kg, cf (cs c _ m.2.2.1), _) = _
              rw [kasg_e, kuns_e, ← cfU, ← kU, ← kU]
              rfl
          · rw [if_neg h5] at h; cases h
def kStk (m : kM) : Bool := kno m.2.1 (-1005) || (match kfst m.2.1 (-1005) with
  | none => false
  | some a => kal (fun j => !kjn m (kg a 1) j && (!kfr m j && decide ((cg m.2.2.1 j).1 ≤ kg a 1))) (kg m.1 7).toNat 0)
theorem kStk_s {m : kM} (h : kStk m = true) : stk (eM m) := by
  unfold kStk at h
  rw [Bool.or_eq_true] at h
  rcases h with h | h
  · exact Or.inl (kno_t h)
  · cases h1 : kfst m.2.1 (-1005) with
    | none => rw [h1] at h; cases h
    | some a =>
      rw [h1] at h
      have h2 : ∀ j : Nat, (j : Int) < (eM m).1 7 → kjn m (kg a 1) j = false ∧ kfr m j = false ∧ (cg m.2.2.1 j).1 ≤ kg a 1 := fun j hj => by
        have hj : (j : Int) < kg m.1 7 := hj
        have := kal_s h j (by omega) (by omega)
        simpa only [Bool.and_eq_true, Bool.not_eq_true', decide_eq_true_eq] using this
      exact Or.inr ⟨kg a, kfst_s h1, fun j hj => kjn_f (h2 j hj).1, fun j hj => kfr_f (h2 j hj).2.1, fun j hj => (h2 j hj).2.2⟩
def kSh : Nat → kM → Option kM
  | 0, _ => none
  | f + 1, m => if kStk m = true then some m else match kTurn m with
    | none => none
    | some m' => kSh f m'
theorem kSh_r : ∀ {f : Nat} {m m' : kM}, kSh f m = some m' → shr (eM m) (eM m')
  | 0, _, _, h => by cases h
  | f + 1, m, m', h => by
    unfold kSh at h
    by_cases hs : kStk m = true
    · rw [if_pos hs] at h
      cases h
      exact ⟨0, rfl, kStk_s hs⟩
    · rw [if_neg hs] at h
      cases h1 : kTurn m with
      | none => rw [h1] at h; cases h
      | some n =>
        rw [h1] at h
        exact shr_turn (kTurn_s h1) (kSh_r h)
theorem kSh_s {f : Nat} {m m' : kM} (h : kSh f m = some m') : mSh (eM m) = eM m' := mSh_eq (kSh_r h)
