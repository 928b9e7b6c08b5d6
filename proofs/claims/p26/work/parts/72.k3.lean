/-! ===== states that can be counted out: each call ===== -/
def kpush (H : List kM) (N : kM) : List kM := if H.length = 4 then H.tail ++ [N] else H ++ [N]
theorem kpush_e {H : List kM} {N : kM} : push (H.map eM) (eM N) = (kpush H N).map eM := by
  unfold push kpush
  rw [List.length_map]
  by_cases h : H.length = 4
  · rw [if_pos h, if_pos h, List.map_append]
    cases H <;> rfl
  · rw [if_neg h, if_neg h, List.map_append]
    rfl
/-- a new state, the one before recorded -/
def kNew (z : kZ) (x : Int) (o : Option kM) : Option (Int × kZ) := match o with
  | none => none
  | some m => some (x, m, z.2.1, kpush z.2.2.1 z.1, z.2.2.2)
theorem kNew_s {z z' : kZ} {x y : Int} {o : Option kM} (h : kNew z x o = some (y, z')) : ∃ m, o = some m ∧ y = x ∧ (eM m, (eZ z).2.1, push (eZ z).2.2.1 (eZ z).1, (eZ z).2.2.2) = eZ z' := by
  cases o with
  | none => cases h
  | some m =>
    have h : some (x, m, z.2.1, kpush z.2.2.1 z.1, z.2.2.2) = some (y, z') := h
    cases h
    refine ⟨m, rfl, rfl, ?_⟩
    show (eM m, _, push (z.2.2.1.map eM) (eM z.1), _) = (eM m, _, (kpush z.2.2.1 z.1).map eM, _)
    rw [kpush_e]
    rfl
def klk : List (List Int) → Int → Option (List Int)
  | [], _ => none
  | a :: L, x => if kg a 0 = x then some a else klk L x
theorem klk_e : ∀ {L : List (List Int)} {x : Int}, lkp (L.map kg) x = (klk L x).map kg
  | [], _ => rfl
  | a :: L, x => by
    unfold lkp klk
    rw [List.map_cons, List.find?_cons]
    by_cases h : kg a 0 = x
    · rw [if_pos h, decide_eq_true h]; rfl
    · rw [if_neg h, decide_eq_false h]; exact klk_e
def kSet (z : kZ) (t p r : Int) : Option (Int × kZ) :=
  if ¬ (0 ≤ t ∧ t ≤ 99999) ∨ ¬ (0 ≤ p ∧ p ≤ 9999) ∨ ¬ (0 ≤ r ∧ r ≤ 3) then some (-1002, z)
  else if t < kg z.1.1 0 then some (-1004, z)
  else if ¬ (z.1.2.1.length + 1 ≤ 20 ∧ kg z.1.1 6 + 1 ≤ 500) then some (-1003, z)
  else kNew z (kg z.1.1 6) (kAdd z.1 t p r)
theorem kSet_s {z z' : kZ} {t p r x : Int} (h : kSet z t p r = some (x, z')) : zSet (eZ z) t p r = (x, eZ z') := by
  unfold kSet at h
  unfold zSet
  have e1 : (eZ z).1.1 0 = kg z.1.1 0 := rfl
  have e6 : (eZ z).1.1 6 = kg z.1.1 6 := rfl
  have el : (eZ z).1.2.1.length = z.1.2.1.length := List.length_map _
  rw [e1, e6, el]
  split at h
  · next c => rw [if_pos c]; cases h; rfl
  · next c =>
    rw [if_neg c]
    split at h
    · next c => rw [if_pos c]; cases h; rfl
    · next c =>
      rw [if_neg c]
      split at h
      · next c => rw [if_pos c]; cases h; rfl
      · next c =>
        rw [if_neg c]
        obtain ⟨m, h1, rfl, h2⟩ := kNew_s h
        have h5 : mAdd (eZ z).1 t p r = eM m := kAdd_s h1
        rw [h5, ← h2]
def kCanZ (z : kZ) (x : Int) : Option (Int × kZ) := match klk z.1.2.1 x with
  | none => some (-1001, z)
  | some a => match kCan z.1 a with
    | none => none
    | some m => kNew z (m.2.1.length : Int) (some m)
theorem kCanZ_s {z z' : kZ} {x y : Int} (h : kCanZ z x = some (y, z')) : zCan (eZ z) x = (y, eZ z') := by
  unfold kCanZ at h
  unfold zCan
  have e : lkp (eZ z).1.2.1 x = (klk z.1.2.1 x).map kg := klk_e
  rw [e]
  cases h1 : klk z.1.2.1 x with
  | none => rw [h1] at h; cases h; rfl
  | some a =>
    rw [h1] at h
    dsimp only at h
    cases h2 : kCan z.1 a with
    | none => rw [h2] at h; cases h
    | some m =>
      rw [h2] at h
      obtain ⟨m2, h3, rfl, h4⟩ := kNew_s h
      cases h3
      have h5 : mCan (eZ z).1 (kg a) = eM m := kCan_s h2
      show ((((mCan (eZ z).1 (kg a)).2.1.length : Nat) : Int), mCan (eZ z).1 (kg a), (eZ z).2.1, push (eZ z).2.2.1 (eZ z).1, (eZ z).2.2.2) = _
      rw [h5, ← h4]
      show (((m.2.1.map kg).length : Int), _) = _
      rw [List.length_map]
def kMovZ (z : kZ) (x t : Int) : Option (Int × kZ) := match klk z.1.2.1 x with
  | none => some (-1001, z)
  | some a => if ¬ (0 ≤ t ∧ t ≤ 99999) then some (-1002, z) else if t < kg z.1.1 0 then some (-1004, z) else if kg a 1 = t then some (-1005, z) else kNew z (kg a 1) (kMov z.1 a t)
theorem kMovZ_s {z z' : kZ} {x t y : Int} (h : kMovZ z x t = some (y, z')) : zMov (eZ z) x t = (y, eZ z') := by
  unfold kMovZ at h
  unfold zMov
  have e : lkp (eZ z).1.2.1 x = (klk z.1.2.1 x).map kg := klk_e
  have e1 : (eZ z).1.1 0 = kg z.1.1 0 := rfl
  rw [e, e1]
  cases h1 : klk z.1.2.1 x with
  | none => rw [h1] at h; cases h; rfl
  | some a =>
    rw [h1] at h
    dsimp only [Option.map] at h ⊢
    split at h
    · next c => rw [if_pos c]; cases h; rfl
    · next c =>
      rw [if_neg c]
      split at h
      · next c => rw [if_pos c]; cases h; rfl
      · next c =>
        rw [if_neg c]
        split at h
        · next c => rw [if_pos c]; cases h; rfl
        · next c =>
          rw [if_neg c]
          obtain ⟨m, h3, rfl, h4⟩ := kNew_s h
          have h5 : mMov (eZ z).1 (kg a) t = eM m := kMov_s h3
          rw [h5, ← h4]
def kCmpZ (z : kZ) (k : Int) : Option (Int × kZ) := if ¬ (1 ≤ k ∧ k ≤ 4) then some (-1002, z) else if kg z.1.1 7 = k then some (-1005, z) else kNew z (kg z.1.1 7) (kCh z.1 k.toNat)
theorem kCmpZ_s {z z' : kZ} {k y : Int} (h : kCmpZ z k = some (y, z')) : zCmp (eZ z) k = (y, eZ z') := by
  unfold kCmpZ at h
  unfold zCmp
  have e1 : (eZ z).1.1 7 = kg z.1.1 7 := rfl
  rw [e1]
  split at h
  · next c => rw [if_pos c]; cases h; rfl
  · next c =>
    rw [if_neg c]
    split at h
    · next c => rw [if_pos c]; cases h; rfl
    · next c =>
      rw [if_neg c]
      obtain ⟨m, h3, rfl, h4⟩ := kNew_s h
      have h5 : mCh (eZ z).1 k.toNat = eM m := kCh_s h3
      rw [h5, ← h4]
def kWinZ (z : kZ) (k : Int) : Option (Int × kZ) := if ¬ (0 ≤ k ∧ k ≤ 20) then some (-1002, z) else if kg z.1.1 3 = k then some (-1005, z) else kNew z (kg z.1.1 3) (kSh 60 (kSt 3 k z.1))
theorem kWinZ_s {z z' : kZ} {k y : Int} (h : kWinZ z k = some (y, z')) : zWin (eZ z) k = (y, eZ z') := by
  unfold kWinZ at h
  unfold zWin
  have e1 : (eZ z).1.1 3 = kg z.1.1 3 := rfl
  rw [e1]
  split at h
  · next c => rw [if_pos c]; cases h; rfl
  · next c =>
    rw [if_neg c]
    split at h
    · next c => rw [if_pos c]; cases h; rfl
    · next c =>
      rw [if_neg c]
      obtain ⟨m, h3, rfl, h4⟩ := kNew_s h
      have h5 : mSh (mNum (eZ z).1 3 k) = eM m := by
        have e : mNum (eZ z).1 3 k = eM (kSt 3 k z.1) := kNum_e
        rw [e]
        exact kSh_s h3
      rw [h5, ← h4]
def kLoaZ (z : kZ) (k : Int) : Option (Int × kZ) := if ¬ (0 ≤ k ∧ k ≤ 9) then some (-1002, z) else if kg z.1.1 4 = k then some (-1005, z) else kNew z (kg z.1.1 4) (some (kSt 4 k z.1))
theorem kLoaZ_s {z z' : kZ} {k y : Int} (h : kLoaZ z k = some (y, z')) : zLoa (eZ z) k = (y, eZ z') := by
  unfold kLoaZ at h
  unfold zLoa
  have e1 : (eZ z).1.1 4 = kg z.1.1 4 := rfl
  rw [e1]
  split at h
  · next c => rw [if_pos c]; cases h; rfl
  · next c =>
    rw [if_neg c]
    split at h
    · next c => rw [if_pos c]; cases h; rfl
    · next c =>
      rw [if_neg c]
      obtain ⟨m, h3, rfl, h4⟩ := kNew_s h
      cases h3
      have h5 : mNum (eZ z).1 4 k = eM (kSt 4 k z.1) := kNum_e
      rw [h5, ← h4]
def kDriZ (z : kZ) (k : Int) : Option (Int × kZ) := if ¬ (-999 ≤ k ∧ k ≤ 999) ∨ k = 1 ∨ k = -1 then some (-1002, z) else if kg z.1.1 2 = k then some (-1005, z) else kNew z (kg z.1.1 2) (some (kSt 2 k z.1))
theorem kDriZ_s {z z' : kZ} {k y : Int} (h : kDriZ z k = some (y, z')) : zDri (eZ z) k = (y, eZ z') := by
  unfold kDriZ at h
  unfold zDri
  have e1 : (eZ z).1.1 2 = kg z.1.1 2 := rfl
  rw [e1]
  split at h
  · next c => rw [if_pos c]; cases h; rfl
  · next c =>
    rw [if_neg c]
    split at h
    · next c => rw [if_pos c]; cases h; rfl
    · next c =>
      rw [if_neg c]
      obtain ⟨m, h3, rfl, h4⟩ := kNew_s h
      cases h3
      have h5 : mNum (eZ z).1 2 k = eM (kSt 2 k z.1) := kNum_e
      rw [h5, ← h4]
def kCorZ (z : kZ) (k : Int) : Option (Int × kZ) := if ¬ (-999 ≤ k ∧ k ≤ 999) then some (-1002, z) else if ¬ (0 ≤ kg z.1.1 0 + k ∧ kg z.1.1 0 + k ≤ 99999) then some (-1004, z) else if k = 0 then some (-1005, z) else kNew z (kg z.1.1 0 + k) (kSh 60 (kSt 0 (kg z.1.1 0 + k) z.1))
theorem kCorZ_s {z z' : kZ} {k y : Int} (h : kCorZ z k = some (y, z')) : zCor (eZ z) k = (y, eZ z') := by
  unfold kCorZ at h
  unfold zCor
  have e1 : (eZ z).1.1 0 = kg z.1.1 0 := rfl
  rw [e1]
  split at h
  · next c => rw [if_pos c]; cases h; rfl
  · next c =>
    rw [if_neg c]
    split at h
    · next c => rw [if_pos c]; cases h; rfl
    · next c =>
      rw [if_neg c]
      split at h
      · next c => rw [if_pos c]; cases h; rfl
      · next c =>
        rw [if_neg c]
        obtain ⟨m, h3, rfl, h4⟩ := kNew_s h
        have h5 : mSh (mNum (eZ z).1 0 (kg z.1.1 0 + k)) = eM m := by
          have e : mNum (eZ z).1 0 (kg z.1.1 0 + k) = eM (kSt 0 (kg z.1.1 0 + k) z.1) := kNum_e
          rw [e]
          exact kSh_s h3
        rw [h5, ← h4]
def kRunZ (z : kZ) (k : Int) : Option (Int × kZ) := if ¬ (1 ≤ k ∧ k ≤ 1000) then some (-1002, z) else if 99999 < kg z.1.1 0 + 2 * k then some (-1003, z) else match kTks k.toNat z.1 with
  | none => none
  | some m => kNew z (kg m.1 8 - kg z.1.1 8) (some m)
theorem kRunZ_s {z z' : kZ} {k y : Int} (h : kRunZ z k = some (y, z')) : zRun (eZ z) k = (y, eZ z') := by
  unfold kRunZ at h
  unfold zRun
  have e1 : (eZ z).1.1 0 = kg z.1.1 0 := rfl
  have e8 : (eZ z).1.1 8 = kg z.1.1 8 := rfl
  rw [e1, e8]
  split at h
  · next c => rw [if_pos c]; cases h; rfl
  · next c =>
    rw [if_neg c]
    split at h
    · next c => rw [if_pos c]; cases h; rfl
    · next c =>
      rw [if_neg c]
      cases h2 : kTks k.toNat z.1 with
      | none => rw [h2] at h; cases h
      | some m =>
        rw [h2] at h
        obtain ⟨m2, h3, rfl, h4⟩ := kNew_s h
        cases h3
        have h5 : mTks k.toNat (eZ z).1 = eM m := kTks_s h2
        rw [h5, ← h4]
        rfl
def kKeeZ (z : kZ) : Int × kZ := (kg z.1.1 0, z.1, some z.1, z.2.2)
theorem kKeeZ_s {z z' : kZ} {y : Int} (h : kKeeZ z = (y, z')) : zKee (eZ z) = (y, eZ z') := by
  unfold kKeeZ at h
  cases h
  rfl
def kResZ (z : kZ) : Int × kZ := match z.2.1 with
  | none => (-1005, z)
  | some m => (kg m.1 0, m, z.2.1, kpush z.2.2.1 z.1, z.2.2.2)
theorem kResZ_s {z z' : kZ} {y : Int} (h : kResZ z = (y, z')) : zRes (eZ z) = (y, eZ z') := by
  unfold kResZ at h
  unfold zRes
  have e : (eZ z).2.1 = z.2.1.map eM := rfl
  rw [e]
  cases h1 : z.2.1 with
  | none => rw [h1] at h; cases h; rfl
  | some m =>
    rw [h1] at h
    cases h
    show (kg m.1 0, eM m, _, push (z.2.2.1.map eM) (eM z.1), _) = (kg m.1 0, eM m, _, (kpush z.2.2.1 z.1).map eM, _)
    rw [kpush_e]
    rfl
def kUndZ (z : kZ) : Int × kZ := match z.2.2.1.getLast? with
  | none => (-1005, z)
  | some m => ((z.2.2.1.dropLast.length : Int), m, z.2.1, z.2.2.1.dropLast, z.2.2.2)
theorem kUndZ_s {z z' : kZ} {y : Int} (h : kUndZ z = (y, z')) : zUnd (eZ z) = (y, eZ z') := by
  unfold kUndZ at h
  unfold zUnd
  have e : (eZ z).2.2.1 = z.2.2.1.map eM := rfl
  rw [e, List.getLast?_map]
  cases h1 : z.2.2.1.getLast? with
  | none => rw [h1] at h; cases h; rfl
  | some m =>
    rw [h1] at h
    cases h
    show (((z.2.2.1.map eM).dropLast.length : Int), eM m, _, (z.2.2.1.map eM).dropLast, _) = (_, eM m, _, z.2.2.1.dropLast.map eM, _)
    rw [← List.map_dropLast, List.length_map]
    rfl
def kTypZ (z : kZ) (c : Int) : Int × kZ := if z.2.2.2.2 = 60 then (-1003, z) else (((z.2.2.2.2 + 1 : Nat) : Int), z.1, z.2.1, z.2.2.1, ks z.2.2.2.2 c z.2.2.2.1, z.2.2.2.2 + 1)
theorem kTypZ_s {z z' : kZ} {c y : Int} (h : kTypZ z c = (y, z')) : zTyp (eZ z) c = (y, eZ z') := by
  unfold kTypZ at h
  unfold zTyp
  have e : (eZ z).2.2.2.2 = z.2.2.2.2 := rfl
  rw [e]
  split at h
  · next q => rw [if_pos q]; cases h; rfl
  · next q =>
    rw [if_neg q]
    cases h
    have e2 : (fun k => if k = z.2.2.2.2 then c else (eZ z).2.2.2.1 k) = kg (ks z.2.2.2.2 c z.2.2.2.1) := kU
    rw [e2]
    rfl
def kClrZ (z : kZ) : Int × kZ := ((z.2.2.2.2 : Int), z.1, z.2.1, z.2.2.1, z.2.2.2.1, 0)
theorem kClrZ_s {z z' : kZ} {y : Int} (h : kClrZ z = (y, z')) : zClr (eZ z) = (y, eZ z') := by
  unfold kClrZ at h
  cases h
  rfl
def kadds : List Ar → kM → Option kM
  | [], m => some m
  | e :: L, m => match kAdd m (e 0) (e 1) (e 2) with
    | none => none
    | some m' => kadds L m'
theorem kadds_s : ∀ {L : List Ar} {m m' : kM}, kadds L m = some m' → adds L (eM m) = eM m'
  | [], _, _, h => by cases h; rfl
  | e :: L, m, m', h => by
    unfold kadds at h
    show adds L (mAdd (eM m) (e 0) (e 1) (e 2)) = _
    cases h1 : kAdd m (e 0) (e 1) (e 2) with
    | none => rw [h1] at h; cases h
    | some n =>
      rw [h1] at h
      rw [kAdd_s h1]
      exact kadds_s h
def kAllR (z : kZ) (R : Int × List Ar) : Option (Int × kZ) :=
  if R.1 ≠ -1 then some (-1100 - R.1, z)
  else if R.2.any (fun e => decide (e 0 < kg z.1.1 0)) = true then some (-1004, z)
  else if ¬ (z.1.2.1.length + R.2.length ≤ 20 ∧ kg z.1.1 6 + R.2.length ≤ 500) then some (-1003, z)
  else match kadds R.2 z.1 with
    | none => none
    | some m => kNew z (m.2.1.length : Int) (some m)
def kAllZ (z : kZ) : Option (Int × kZ) := kAllR z (pLs (kg z.2.2.2.1) z.2.2.2.2 31 0 [])
theorem kAllZ_s {z z' : kZ} {y : Int} (h : kAllZ z = some (y, z')) : zAll (eZ z) = (y, eZ z') := by
  unfold kAllZ at h
  unfold zAll
  have e : pLs (eZ z).2.2.2.1 (eZ z).2.2.2.2 31 0 [] = pLs (kg z.2.2.2.1) z.2.2.2.2 31 0 [] := rfl
  have e1 : (eZ z).1.1 0 = kg z.1.1 0 := rfl
  have e6 : (eZ z).1.1 6 = kg z.1.1 6 := rfl
  have el : (eZ z).1.2.1.length = z.1.2.1.length := List.length_map _
  rw [e, e1, e6, el]
  generalize pLs (kg z.2.2.2.1) z.2.2.2.2 31 0 [] = R at h ⊢
  unfold kAllR at h
  split at h
  · next c => rw [if_pos c]; cases h; rfl
  · next c =>
    rw [if_neg c]
    split at h
    · next c => rw [if_pos c]; cases h; rfl
    · next c =>
      rw [if_neg c]
      split at h
      · next c => rw [if_pos c]; cases h; rfl
      · next c =>
        rw [if_neg c]
        cases h2 : kadds R.2 z.1 with
        | none => rw [h2] at h; cases h
        | some m =>
          rw [h2] at h
          obtain ⟨m2, h3, rfl, h4⟩ := kNew_s h
          cases h3
          have h5 : adds R.2 (eZ z).1 = eM m := kadds_s h2
          rw [h5, ← h4]
          show (((m.2.1.map kg).length : Int), _) = _
          rw [List.length_map]
-- what is told
def kbefN (L : List (List Int)) (a : List Int) : Nat := L.countP (fun b => kbef b a)
theorem kbefN_e {L : List (List Int)} {a : List Int} : befN (L.map kg) (kg a) = kbefN L a := by
  unfold befN kbefN
  rw [List.countP_map]
  apply List.countP_congr
  intro b _
  show pB (bef (kg b) (kg a)) = true ↔ kbef b a = true
  rw [pB_t, kbef_t]
def kAlZ (z : kZ) (x y : Int) : Int := match klk z.1.2.1 x with
  | none => -1001
  | some a => if y = 0 then kg a 1 else if y = 1 then kg a 2 else if y = 2 then kg a 3 else if y = 3 then kg a 4 else if y = 4 then (kbefN z.1.2.1 a : Int) else if y = 5 then kg a 5 else if y = 6 then kg a 6 else -1002
theorem kAlZ_e {z : kZ} {x y : Int} : zAla (eZ z) x y = kAlZ z x y := by
  unfold zAla kAlZ
  have e : lkp (eZ z).1.2.1 x = (klk z.1.2.1 x).map kg := klk_e
  rw [e]
  cases h1 : klk z.1.2.1 x with
  | none => rfl
  | some a =>
    show zAl (z.1.2.1.map kg) (kg a) y = _
    unfold zAl
    rw [kbefN_e]
def kfa (L0 : List (List Int)) : List (List Int) → Int → Int
  | [], _ => -1005
  | a :: L, x => if (kbefN L0 a : Int) = x then kg a 0 else kfa L0 L x
theorem kfa_e {L0 : List (List Int)} {x : Int} : ∀ {L : List (List Int)}, (match (L.map kg).find? (fun a => decide ((befN (L0.map kg) a : Int) = x)) with
  | none => -1005
  | some a => a 0) = kfa L0 L x
  | [] => rfl
  | a :: L => by
    unfold kfa
    rw [List.map_cons, List.find?_cons, kbefN_e]
    by_cases h : (kbefN L0 a : Int) = x
    · rw [if_pos h, decide_eq_true h]
    · rw [if_neg h, decide_eq_false h]; exact kfa_e
def kAtZ (z : kZ) (x : Int) : Int := if x < 0 then -1002 else kfa z.1.2.1 z.1.2.1 x
theorem kAtZ_e {z : kZ} {x : Int} : zAt (eZ z) x = kAtZ z x := by
  unfold zAt kAtZ
  split
  · rfl
  · exact kfa_e
def kfsN (L : List (List Int)) (x : Int) : Option Int := if kno L x = true then some (-1005) else match kfst L x with
  | none => none
  | some a => some (kg a 0)
theorem kfsN_s {L : List (List Int)} {x y : Int} (h : kfsN L x = some y) : fsN (L.map kg) x = y := by
  unfold kfsN at h
  by_cases hs : kno L x = true
  · rw [if_pos hs] at h
    cases h
    exact fsN_n (kno_t hs)
  · rw [if_neg hs] at h
    cases h1 : kfst L x with
    | none => rw [h1] at h; cases h
    | some a =>
      rw [h1] at h
      cases h
      exact fsN_s (kfst_s h1)
def kCprZ (z : kZ) (x y : Int) : Option Int := if ¬ (0 ≤ x ∧ x ≤ kg z.1.1 7 - 1) then some (-1001) else if y = 0 then some (cg z.1.2.2.1 x.toNat).1 else if y = 1 then some ((z.1.2.1.countP (fun b => decide (kg b 4 = (x.toNat : Int))) : Nat) : Int) else if y = 2 then some (cg z.1.2.2.1 x.toNat).2 else if y = 3 then kfsN z.1.2.1 (x.toNat : Int) else some (-1002)
theorem kCprZ_s {z : kZ} {x y v : Int} (h : kCprZ z x y = some v) : zCpr (eZ z) x y = v := by
  unfold kCprZ at h
  unfold zCpr zCq
  have e7 : (eZ z).1.1 7 = kg z.1.1 7 := rfl
  have e2 : (eZ z).1.2.1 = z.1.2.1.map kg := rfl
  have e3 : (eZ z).1.2.2.1 = cf z.1.2.2.1 := rfl
  rw [e7, e2, e3, cf_0, cf_1]
  split at h
  · next c => rw [if_pos c]; cases h; rfl
  · next c =>
    rw [if_neg c]
    split at h
    · next c => rw [if_pos c]; cases h; rfl
    · next c =>
      rw [if_neg c]
      split at h
      · next c =>
        rw [if_pos c, List.countP_map]
        cases h
        rfl
      · next c =>
        rw [if_neg c]
        split at h
        · next c => rw [if_pos c]; cases h; rfl
        · next c =>
          rw [if_neg c]
          split at h
          · next c => rw [if_pos c]; exact kfsN_s h
          · next c => rw [if_neg c]; cases h; rfl
def kRngZ (z : kZ) (x y : Int) : Int := if x < 0 ∨ ¬ (0 ≤ y ∧ y ≤ 3) then -1002 else match z.1.2.2.2[x.toNat]? with
  | none => -1005
  | some e => gf e y.toNat
theorem kRngZ_e {z : kZ} {x y : Int} : zRng (eZ z) x y = kRngZ z x y := by
  unfold zRng kRngZ
  split
  · rfl
  · have e : (eZ z).1.2.2.2[x.toNat]? = (z.1.2.2.2[x.toNat]?).map gf := List.getElem?_map
    rw [e]
    cases z.1.2.2.2[x.toNat]? <;> rfl
def kfrN (m : kM) : Nat := (List.range (kg m.1 7).toNat).countP (fun c => decide ((cg m.2.2.1 c).1 = -1005))
def kCntZ (z : kZ) (y : Int) : Int := if y = 0 then kg z.1.1 0 else if y = 1 then kg z.1.1 1 else if y = 2 then (z.1.2.1.length : Int) else if y = 3 then kg z.1.1 6 else if y = 4 then ((z.1.2.1.countP (fun b => decide (kg b 4 = -1005)) : Nat) : Int) else if y = 5 then (kfrN z.1 : Int) else if y = 6 then kg z.1.1 8 else if y = 7 then kg z.1.1 9 else if y = 8 then kg z.1.1 10 else if y = 9 then kg z.1.1 11 else if y = 10 then kg z.1.1 12 else if y = 11 then kg z.1.1 13 else if y = 12 then kg z.1.1 7 else if y = 13 then kg z.1.1 3 else if y = 14 then kg z.1.1 4 else if y = 15 then kg z.1.1 2 else if y = 16 then (z.2.2.1.length : Int) else if y = 17 then (z.2.2.2.2 : Int) else -1002
theorem kCntZ_e {z : kZ} {y : Int} : zCnt (eZ z) y = kCntZ z y := by
  unfold zCnt kCntZ
  have e2 : (eZ z).1.2.1.length = z.1.2.1.length := List.length_map _
  have e4 : (eZ z).1.2.1.countP (fun b => decide (b 4 = -1005)) = z.1.2.1.countP (fun b => decide (kg b 4 = -1005)) := List.countP_map
  have e16 : (eZ z).2.2.1.length = z.2.2.1.length := List.length_map _
  rw [e2, e4, e16]
  rfl
def krgN (x y : Int) : Nat → Nat → kM → Option Int
  | 0, _, _ => some (-1005)
  | k + 1, n, m => match kTick m with
    | none => none
    | some m' => if m'.2.1.all (fun b => !decide (kg b 0 = x) || decide (y < kg b 5)) = true then some (n : Int) else krgN x y k (n + 1) m'
theorem krgN_s {x y : Int} : ∀ {k n : Nat} {m : kM} {v : Int}, krgN x y k n m = some v → rgN x y k n (eM m) = v
  | 0, _, _, _, h => by cases h; rfl
  | k + 1, n, m, v, h => by
    unfold krgN at h
    show cIf (∀ b, b ∈ (mTick (eM m)).2.1 → b 0 = x → y < b 5) (n : Int) (rgN x y k (n + 1) (mTick (eM m))) = v
    cases h1 : kTick m with
    | none => rw [h1] at h; cases h
    | some m' =>
      rw [h1] at h
      dsimp only at h
      rw [kTick_s h1]
      by_cases hc : m'.2.1.all (fun b => !decide (kg b 0 = x) || decide (y < kg b 5)) = true
      · rw [if_pos hc] at h
        cases h
        refine cIf_t (fun b hb h0 => ?_)
        obtain ⟨d, hd, rfl⟩ := List.mem_map.mp hb
        have := List.all_eq_true.mp hc d hd
        simp only [Bool.or_eq_true, Bool.not_eq_true', decide_eq_false_iff_not, decide_eq_true_eq] at this
        rcases this with q | q
        · exact absurd h0 q
        · exact q
      · rw [if_neg hc] at h
        rw [cIf_f (fun q => hc (List.all_eq_true.mpr (fun d hd => by
          simp only [Bool.or_eq_true, Bool.not_eq_true', decide_eq_false_iff_not, decide_eq_true_eq]
          by_cases h0 : kg d 0 = x
          · exact Or.inr (q (kg d) (List.mem_map.mpr ⟨d, hd, rfl⟩) h0)
          · exact Or.inl h0)))]
        exact krgN_s h
def kRinZ (z : kZ) (x : Int) : Option Int := match klk z.1.2.1 x with
  | none => some (-1001)
  | some a => krgN x (kg a 5) 1000 1 z.1
theorem kRinZ_s {z : kZ} {x v : Int} (h : kRinZ z x = some v) : zRin (eZ z) x = v := by
  unfold kRinZ at h
  unfold zRin
  have e : lkp (eZ z).1.2.1 x = (klk z.1.2.1 x).map kg := klk_e
  rw [e]
  cases h1 : klk z.1.2.1 x with
  | none => rw [h1] at h; cases h; rfl
  | some a =>
    rw [h1] at h
    exact krgN_s h
def kB (m : kM) : kM := (ks 11 0 (ks 10 0 (ks 9 0 m.1)), m.2)
theorem kB_e {m : kM} : zB (eM m) = eM (kB m) := by
  show (aU (aU (aU (kg m.1) 9 0) 10 0) 11 0, _) = (kg (ks 11 0 (ks 10 0 (ks 9 0 m.1))), _)
  rw [kU, kU, kU]
  rfl
/-- what so many comparers bring: the state as they change, and the one in the end -/
def kwld (m : kM) (k t : Nat) : Option (kM × kM) := match kCh m k with
  | none => none
  | some n => match kTks t (kB n) with
    | none => none
    | some w => some (n, w)
theorem kwld_s {m n w : kM} {k t : Nat} (h : kwld m k t = some (n, w)) : mCh (eM m) k = eM n ∧ wld (eM m) k t = eM w := by
  unfold kwld at h
  cases h1 : kCh m k with
  | none => rw [h1] at h; cases h
  | some n' =>
    rw [h1] at h
    dsimp only at h
    cases h2 : kTks t (kB n') with
    | none => rw [h2] at h; cases h
    | some w' =>
      rw [h2] at h
      cases h
      have e := kCh_s h1
      refine ⟨e, ?_⟩
      unfold wld
      rw [e, kB_e]
      exact kTks_s h2
def kIfcZ (z : kZ) (m t y : Int) : Option Int := if ¬ (1 ≤ m ∧ m ≤ 4) ∨ ¬ (1 ≤ t ∧ t ≤ 500) ∨ ¬ (0 ≤ y ∧ y ≤ 3) then some (-1002) else match kwld z.1 m.toNat t.toNat with
  | none => none
  | some (n, w) => some (if y = 0 then kg w.1 8 - kg n.1 8 else if y = 1 then kg w.1 9 else if y = 2 then kg w.1 10 else kg w.1 11)
theorem kIfcZ_s {z : kZ} {m t y v : Int} (h : kIfcZ z m t y = some v) : zIfc (eZ z) m t y = v := by
  unfold kIfcZ at h
  unfold zIfc
  split at h
  · next c => rw [if_pos c]; cases h; rfl
  · next c =>
    rw [if_neg c]
    unfold zIfq
    cases h1 : kwld z.1 m.toNat t.toNat with
    | none => rw [h1] at h; cases h
    | some q =>
      obtain ⟨n, w⟩ := q
      rw [h1] at h
      cases h
      obtain ⟨g1, g2⟩ := kwld_s h1
      have g1 : mCh (eZ z).1 m.toNat = eM n := g1
      have g2 : wld (eZ z).1 m.toNat t.toNat = eM w := g2
      rw [g1, g2]
      rfl
def kFs (m : kM) (t : Nat) : Nat → Nat → Int → Int → Option Int
  | 0, _, b, _ => some b
  | k + 1, j, b, x => match kwld m j t with
    | none => none
    | some (_, w) => if b = 0 ∨ ¬ (jI x ≤ jI (kg w.1 9)) then kFs m t k (j + 1) (j : Int) (kg w.1 9) else kFs m t k (j + 1) b x
theorem kFs_s {m : kM} {t : Nat} : ∀ {k j : Nat} {b x v : Int}, kFs m t k j b x = some v → zFs (eM m) t k j b x = v
  | 0, _, _, _, _, h => by cases h; rfl
  | k + 1, j, b, x, v, h => by
    unfold kFs at h
    show (if b = 0 ∨ ¬ (jI x ≤ jI ((wld (eM m) j t).1 9)) then zFs (eM m) t k (j + 1) (j : Int) ((wld (eM m) j t).1 9) else zFs (eM m) t k (j + 1) b x) = v
    cases h1 : kwld m j t with
    | none => rw [h1] at h; cases h
    | some q =>
      obtain ⟨n, w⟩ := q
      rw [h1] at h
      dsimp only at h
      rw [(kwld_s h1).2, eM_1]
      split at h
      · next c => rw [if_pos c]; exact kFs_s h
      · next c => rw [if_neg c]; exact kFs_s h
def kFewZ (z : kZ) (t : Int) : Option Int := if ¬ (1 ≤ t ∧ t ≤ 500) then some (-1002) else kFs z.1 t.toNat 4 1 0 0
theorem kFewZ_s {z : kZ} {t v : Int} (h : kFewZ z t = some v) : zFew (eZ z) t = v := by
  unfold kFewZ at h
  unfold zFew
  split at h
  · next c => rw [if_pos c]; cases h; rfl
  · next c => rw [if_neg c]; exact kFs_s h
