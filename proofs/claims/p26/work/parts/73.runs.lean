/-! ===== closed runs of calls, counted out; a row for each call of such a run ===== -/
def kq (z : kZ) (x : Option Int) : Option (Int × kZ) := match x with
  | none => none
  | some v => some (v, z)
def kCall (op : Nat) (a b c : Int) (z : kZ) : Option (Int × kZ) := match op with
  | 0 => kSet z a b c
  | 1 => kAllZ z
  | 2 => kCanZ z a
  | 3 => kMovZ z a b
  | 4 => kCmpZ z a
  | 5 => kWinZ z a
  | 6 => kLoaZ z a
  | 7 => kDriZ z a
  | 8 => kCorZ z a
  | 9 => kRunZ z a
  | 10 => some (kTypZ z a)
  | 11 => some (kClrZ z)
  | 12 => some (kUndZ z)
  | 13 => some (kKeeZ z)
  | 14 => some (kResZ z)
  | 15 => some (kAlZ z a b, z)
  | 16 => kq z (kCprZ z a b)
  | 17 => some (kAtZ z a, z)
  | 18 => kq z (kRinZ z a)
  | 19 => kq z (kIfcZ z a b c)
  | 20 => kq z (kFewZ z a)
  | 21 => some (kRngZ z a b, z)
  | 22 => some (kCntZ z a, z)
  | _ => none
abbrev kTr : Type := List (Nat × Int × Int × Int × Int)
/-- each call of the run answers as it is written behind it -/
def kRun : kTr → kZ → Bool
  | [], _ => true
  | (o, a, b, c, x) :: l, z => match kCall o a b c z with
    | none => false
    | some (y, z') => decide (y = x) && kRun l z'
theorem kRun_s {o : Nat} {a b c x : Int} {l : kTr} {z : kZ} (h : kRun ((o, a, b, c, x) :: l) z = true) : ∃ z', kCall o a b c z = some (x, z') ∧ kRun l z' = true := by
  unfold kRun at h
  cases h1 : kCall o a b c z with
  | none => rw [h1] at h; cases h
  | some q =>
    obtain ⟨y, z'⟩ := q
    rw [h1] at h
    have h : (decide (y = x) && kRun l z') = true := h
    rw [Bool.and_eq_true, decide_eq_true_eq] at h
    exact ⟨z', by rw [h.1], h.2⟩
theorem kq_s {z z' : kZ} {x : Option Int} {v : Int} (h : kq z x = some (v, z')) : x = some v ∧ z' = z := by
  cases x with
  | none => cases h
  | some y =>
    have h : some (y, z) = some (v, z') := h
    cases h
    exact ⟨rfl, rfl⟩
section LRR
variable {p : Program} {l : Launch} {e : Env} {R : Room} {s : State} {m : MethodId} {args : Array Value} {below : List Frame} {meth : Method} {c : Code} {H : Heap} {locs : List Loc} {cells slots : Nat} {Qw : State → Prop} {cc : ByteArray} {nL : Nat} {rt : Option FieldType} {pc : Nat} {ls : Array Slot} {rest : List Value} {D : va_G} {aC : Nat → Nat} {B : Nat} {z : kZ} {v : Int} {tr : kTr} {j : Nat} {A0 : Nat → Prop} {E : Heap → Prop} {H0 : Heap}
theorem lr_set (C_ : lk_C D aC cc nL rt p s m args meth c) (hf : 8 ≤ R.frames ∧ 304 ≤ R.locals) (hcs : cells ≤ R.cells ∧ slots ≤ R.slots) {x y w : Int} (hr : kRun ((0, x, y, w, v) :: tr) z = true) (hI : oI D aC B A0 E H0 H locs (eZ z) j) (ix : inR x) (iy : inR y) (iw : inR w) (hls : ls.size = nL) (hrm : (rest.map fun v => v.category).sum ≤ 8) (hd : decode cc pc = .ok (.invokevirtual 33, 3))
    (kk : ∀ (z1 : kZ) (H1 : Heap) (locs1 : List Loc), kRun tr z1 = true → oI D aC B A0 E H0 H1 locs1 (eZ z1) j → W p l e R s m args below meth c H1 locs1 cells slots Qw (F0 m (pc + 3) ls (.int (jI v) :: rest))) : W p l e R s m args below meth c H locs cells slots Qw (F0 m pc ls (.int (jI w) :: .int (jI y) :: .int (jI x) :: .ref B :: rest)) := by
  obtain ⟨z1, h1, h2⟩ := kRun_s hr
  have e : zSet (eZ z) x y w = (v, eZ z1) := kSet_s h1
  refine lk_set C_ hf hcs hI ix iy iw hls hrm hd (fun H1 locs1 hI1 => ?_)
  rw [e] at hI1 ⊢
  skip
  exact kk z1 H1 locs1 h2 hI1
theorem lr_setAll (C_ : lk_C D aC cc nL rt p s m args meth c) (hf : 8 ≤ R.frames ∧ 304 ≤ R.locals) (hcs : cells ≤ R.cells ∧ slots ≤ R.slots) (hr : kRun ((1, 0, 0, 0, v) :: tr) z = true) (hI : oI D aC B A0 E H0 H locs (eZ z) j) (hls : ls.size = nL) (hrm : (rest.map fun v => v.category).sum ≤ 8) (hd : decode cc pc = .ok (.invokevirtual 108, 3))
    (kk : ∀ (z1 : kZ) (H1 : Heap) (locs1 : List Loc), kRun tr z1 = true → oI D aC B A0 E H0 H1 locs1 (eZ z1) j → W p l e R s m args below meth c H1 locs1 cells slots Qw (F0 m (pc + 3) ls (.int (jI v) :: rest))) : W p l e R s m args below meth c H locs cells slots Qw (F0 m pc ls (.ref B :: rest)) := by
  obtain ⟨z1, h1, h2⟩ := kRun_s hr
  have e : zAll (eZ z) = (v, eZ z1) := kAllZ_s h1
  refine lk_setAll C_ hf hcs hI hls hrm hd (fun H1 locs1 hI1 => ?_)
  rw [e] at hI1 ⊢
  skip
  exact kk z1 H1 locs1 h2 hI1
theorem lr_cancel (C_ : lk_C D aC cc nL rt p s m args meth c) (hf : 8 ≤ R.frames ∧ 304 ≤ R.locals) (hcs : cells ≤ R.cells ∧ slots ≤ R.slots) {x : Int} (hr : kRun ((2, x, 0, 0, v) :: tr) z = true) (hI : oI D aC B A0 E H0 H locs (eZ z) j) (ix : inR x) (hls : ls.size = nL) (hrm : (rest.map fun v => v.category).sum ≤ 8) (hd : decode cc pc = .ok (.invokevirtual 40, 3))
    (kk : ∀ (z1 : kZ) (H1 : Heap) (locs1 : List Loc), kRun tr z1 = true → oI D aC B A0 E H0 H1 locs1 (eZ z1) j → W p l e R s m args below meth c H1 locs1 cells slots Qw (F0 m (pc + 3) ls (.int (jI v) :: rest))) : W p l e R s m args below meth c H locs cells slots Qw (F0 m pc ls (.int (jI x) :: .ref B :: rest)) := by
  obtain ⟨z1, h1, h2⟩ := kRun_s hr
  have e : zCan (eZ z) x = (v, eZ z1) := kCanZ_s h1
  refine lk_cancel C_ hf hcs hI ix hls hrm hd (fun H1 locs1 hI1 => ?_)
  rw [e] at hI1 ⊢
  skip
  exact kk z1 H1 locs1 h2 hI1
theorem lr_move (C_ : lk_C D aC cc nL rt p s m args meth c) (hf : 8 ≤ R.frames ∧ 304 ≤ R.locals) (hcs : cells ≤ R.cells ∧ slots ≤ R.slots) {x t : Int} (hr : kRun ((3, x, t, 0, v) :: tr) z = true) (hI : oI D aC B A0 E H0 H locs (eZ z) j) (ix : inR x) (it : inR t) (hls : ls.size = nL) (hrm : (rest.map fun v => v.category).sum ≤ 8) (hd : decode cc pc = .ok (.invokevirtual 43, 3))
    (kk : ∀ (z1 : kZ) (H1 : Heap) (locs1 : List Loc), kRun tr z1 = true → oI D aC B A0 E H0 H1 locs1 (eZ z1) j → W p l e R s m args below meth c H1 locs1 cells slots Qw (F0 m (pc + 3) ls (.int (jI v) :: rest))) : W p l e R s m args below meth c H locs cells slots Qw (F0 m pc ls (.int (jI t) :: .int (jI x) :: .ref B :: rest)) := by
  obtain ⟨z1, h1, h2⟩ := kRun_s hr
  have e : zMov (eZ z) x t = (v, eZ z1) := kMovZ_s h1
  refine lk_move C_ hf hcs hI ix it hls hrm hd (fun H1 locs1 hI1 => ?_)
  rw [e] at hI1 ⊢
  skip
  exact kk z1 H1 locs1 h2 hI1
theorem lr_setComparers (C_ : lk_C D aC cc nL rt p s m args meth c) (hf : 8 ≤ R.frames ∧ 304 ≤ R.locals) (hcs : cells ≤ R.cells ∧ slots ≤ R.slots) {k : Int} (hr : kRun ((4, k, 0, 0, v) :: tr) z = true) (hI : oI D aC B A0 E H0 H locs (eZ z) j) (ik : inR k) (hls : ls.size = nL) (hrm : (rest.map fun v => v.category).sum ≤ 8) (hd : decode cc pc = .ok (.invokevirtual 46, 3))
    (kk : ∀ (z1 : kZ) (H1 : Heap) (locs1 : List Loc), kRun tr z1 = true → oI D aC B A0 E H0 H1 locs1 (eZ z1) j → W p l e R s m args below meth c H1 locs1 cells slots Qw (F0 m (pc + 3) ls (.int (jI v) :: rest))) : W p l e R s m args below meth c H locs cells slots Qw (F0 m pc ls (.int (jI k) :: .ref B :: rest)) := by
  obtain ⟨z1, h1, h2⟩ := kRun_s hr
  have e : zCmp (eZ z) k = (v, eZ z1) := kCmpZ_s h1
  refine lk_setComparers C_ hf hcs hI ik hls hrm hd (fun H1 locs1 hI1 => ?_)
  rw [e] at hI1 ⊢
  skip
  exact kk z1 H1 locs1 h2 hI1
theorem lr_setWindow (C_ : lk_C D aC cc nL rt p s m args meth c) (hf : 8 ≤ R.frames ∧ 304 ≤ R.locals) (hcs : cells ≤ R.cells ∧ slots ≤ R.slots) {k : Int} (hr : kRun ((5, k, 0, 0, v) :: tr) z = true) (hI : oI D aC B A0 E H0 H locs (eZ z) j) (ik : inR k) (hls : ls.size = nL) (hrm : (rest.map fun v => v.category).sum ≤ 8) (hd : decode cc pc = .ok (.invokevirtual 49, 3))
    (kk : ∀ (z1 : kZ) (H1 : Heap) (locs1 : List Loc), kRun tr z1 = true → oI D aC B A0 E H0 H1 locs1 (eZ z1) j → W p l e R s m args below meth c H1 locs1 cells slots Qw (F0 m (pc + 3) ls (.int (jI v) :: rest))) : W p l e R s m args below meth c H locs cells slots Qw (F0 m pc ls (.int (jI k) :: .ref B :: rest)) := by
  obtain ⟨z1, h1, h2⟩ := kRun_s hr
  have e : zWin (eZ z) k = (v, eZ z1) := kWinZ_s h1
  refine lk_setWindow C_ hf hcs hI ik hls hrm hd (fun H1 locs1 hI1 => ?_)
  rw [e] at hI1 ⊢
  skip
  exact kk z1 H1 locs1 h2 hI1
theorem lr_setLoading (C_ : lk_C D aC cc nL rt p s m args meth c) (hf : 8 ≤ R.frames ∧ 304 ≤ R.locals) (hcs : cells ≤ R.cells ∧ slots ≤ R.slots) {k : Int} (hr : kRun ((6, k, 0, 0, v) :: tr) z = true) (hI : oI D aC B A0 E H0 H locs (eZ z) j) (ik : inR k) (hls : ls.size = nL) (hrm : (rest.map fun v => v.category).sum ≤ 8) (hd : decode cc pc = .ok (.invokevirtual 52, 3))
    (kk : ∀ (z1 : kZ) (H1 : Heap) (locs1 : List Loc), kRun tr z1 = true → oI D aC B A0 E H0 H1 locs1 (eZ z1) j → W p l e R s m args below meth c H1 locs1 cells slots Qw (F0 m (pc + 3) ls (.int (jI v) :: rest))) : W p l e R s m args below meth c H locs cells slots Qw (F0 m pc ls (.int (jI k) :: .ref B :: rest)) := by
  obtain ⟨z1, h1, h2⟩ := kRun_s hr
  have e : zLoa (eZ z) k = (v, eZ z1) := kLoaZ_s h1
  refine lk_setLoading C_ hf hcs hI ik hls hrm hd (fun H1 locs1 hI1 => ?_)
  rw [e] at hI1 ⊢
  skip
  exact kk z1 H1 locs1 h2 hI1
theorem lr_setDrift (C_ : lk_C D aC cc nL rt p s m args meth c) (hf : 8 ≤ R.frames ∧ 304 ≤ R.locals) (hcs : cells ≤ R.cells ∧ slots ≤ R.slots) {k : Int} (hr : kRun ((7, k, 0, 0, v) :: tr) z = true) (hI : oI D aC B A0 E H0 H locs (eZ z) j) (ik : inR k) (hls : ls.size = nL) (hrm : (rest.map fun v => v.category).sum ≤ 8) (hd : decode cc pc = .ok (.invokevirtual 55, 3))
    (kk : ∀ (z1 : kZ) (H1 : Heap) (locs1 : List Loc), kRun tr z1 = true → oI D aC B A0 E H0 H1 locs1 (eZ z1) j → W p l e R s m args below meth c H1 locs1 cells slots Qw (F0 m (pc + 3) ls (.int (jI v) :: rest))) : W p l e R s m args below meth c H locs cells slots Qw (F0 m pc ls (.int (jI k) :: .ref B :: rest)) := by
  obtain ⟨z1, h1, h2⟩ := kRun_s hr
  have e : zDri (eZ z) k = (v, eZ z1) := kDriZ_s h1
  refine lk_setDrift C_ hf hcs hI ik hls hrm hd (fun H1 locs1 hI1 => ?_)
  rw [e] at hI1 ⊢
  skip
  exact kk z1 H1 locs1 h2 hI1
theorem lr_correct (C_ : lk_C D aC cc nL rt p s m args meth c) (hf : 8 ≤ R.frames ∧ 304 ≤ R.locals) (hcs : cells ≤ R.cells ∧ slots ≤ R.slots) {k : Int} (hr : kRun ((8, k, 0, 0, v) :: tr) z = true) (hI : oI D aC B A0 E H0 H locs (eZ z) j) (ik : inR k) (hls : ls.size = nL) (hrm : (rest.map fun v => v.category).sum ≤ 8) (hd : decode cc pc = .ok (.invokevirtual 58, 3))
    (kk : ∀ (z1 : kZ) (H1 : Heap) (locs1 : List Loc), kRun tr z1 = true → oI D aC B A0 E H0 H1 locs1 (eZ z1) j → W p l e R s m args below meth c H1 locs1 cells slots Qw (F0 m (pc + 3) ls (.int (jI v) :: rest))) : W p l e R s m args below meth c H locs cells slots Qw (F0 m pc ls (.int (jI k) :: .ref B :: rest)) := by
  obtain ⟨z1, h1, h2⟩ := kRun_s hr
  have e : zCor (eZ z) k = (v, eZ z1) := kCorZ_s h1
  refine lk_correct C_ hf hcs hI ik hls hrm hd (fun H1 locs1 hI1 => ?_)
  rw [e] at hI1 ⊢
  skip
  exact kk z1 H1 locs1 h2 hI1
theorem lr_run (C_ : lk_C D aC cc nL rt p s m args meth c) (hf : 8 ≤ R.frames ∧ 304 ≤ R.locals) (hcs : cells ≤ R.cells ∧ slots ≤ R.slots) (hj : j + 1 ≤ 9000) {k : Int} (hr : kRun ((9, k, 0, 0, v) :: tr) z = true) (hI : oI D aC B A0 E H0 H locs (eZ z) j) (ik : inR k) (hls : ls.size = nL) (hrm : (rest.map fun v => v.category).sum ≤ 8) (hd : decode cc pc = .ok (.invokevirtual 61, 3))
    (kk : ∀ (z1 : kZ) (H1 : Heap) (locs1 : List Loc), kRun tr z1 = true → oI D aC B A0 E H0 H1 locs1 (eZ z1) (j + 1) → W p l e R s m args below meth c H1 locs1 cells slots Qw (F0 m (pc + 3) ls (.int (jI v) :: rest))) : W p l e R s m args below meth c H locs cells slots Qw (F0 m pc ls (.int (jI k) :: .ref B :: rest)) := by
  obtain ⟨z1, h1, h2⟩ := kRun_s hr
  have e : zRun (eZ z) k = (v, eZ z1) := kRunZ_s h1
  refine lk_run C_ hf hcs hI hj ik hls hrm hd (fun H1 locs1 hI1 => ?_)
  rw [e] at hI1 ⊢
  skip
  exact kk z1 H1 locs1 h2 hI1
theorem lr_type (C_ : lk_C D aC cc nL rt p s m args meth c) (hf : 8 ≤ R.frames ∧ 304 ≤ R.locals) (hcs : cells ≤ R.cells ∧ slots ≤ R.slots) {x : Int} (hr : kRun ((10, x, 0, 0, v) :: tr) z = true) (hI : oI D aC B A0 E H0 H locs (eZ z) j) (hc : 0 ≤ x ∧ x ≤ 65535) (hls : ls.size = nL) (hrm : (rest.map fun v => v.category).sum ≤ 8) (hd : decode cc pc = .ok (.invokevirtual 100, 3))
    (kk : ∀ (z1 : kZ) (H1 : Heap) (locs1 : List Loc), kRun tr z1 = true → oI D aC B A0 E H0 H1 locs1 (eZ z1) j → W p l e R s m args below meth c H1 locs1 cells slots Qw (F0 m (pc + 3) ls (.int (jI v) :: rest))) : W p l e R s m args below meth c H locs cells slots Qw (F0 m pc ls (.int (jI x) :: .ref B :: rest)) := by
  obtain ⟨z1, h1, h2⟩ := kRun_s hr
  have e : zTyp (eZ z) x = (v, eZ z1) := kTypZ_s (Option.some.inj h1)
  refine lk_type C_ hf hcs hI hc hls hrm hd (fun H1 locs1 hI1 => ?_)
  rw [e] at hI1 ⊢
  skip
  exact kk z1 H1 locs1 h2 hI1
theorem lr_clearText (C_ : lk_C D aC cc nL rt p s m args meth c) (hf : 8 ≤ R.frames ∧ 304 ≤ R.locals) (hcs : cells ≤ R.cells ∧ slots ≤ R.slots) (hr : kRun ((11, 0, 0, 0, v) :: tr) z = true) (hI : oI D aC B A0 E H0 H locs (eZ z) j) (hls : ls.size = nL) (hrm : (rest.map fun v => v.category).sum ≤ 8) (hd : decode cc pc = .ok (.invokevirtual 149, 3))
    (kk : ∀ (z1 : kZ) (H1 : Heap) (locs1 : List Loc), kRun tr z1 = true → oI D aC B A0 E H0 H1 locs1 (eZ z1) j → W p l e R s m args below meth c H1 locs1 cells slots Qw (F0 m (pc + 3) ls (.int (jI v) :: rest))) : W p l e R s m args below meth c H locs cells slots Qw (F0 m pc ls (.ref B :: rest)) := by
  obtain ⟨z1, h1, h2⟩ := kRun_s hr
  have e : zClr (eZ z) = (v, eZ z1) := kClrZ_s (Option.some.inj h1)
  refine lk_clearText C_ hf hcs hI hls hrm hd (fun H1 locs1 hI1 => ?_)
  rw [e] at hI1 ⊢
  skip
  exact kk z1 H1 locs1 h2 hI1
theorem lr_undo (C_ : lk_C D aC cc nL rt p s m args meth c) (hf : 8 ≤ R.frames ∧ 304 ≤ R.locals) (hcs : cells ≤ R.cells ∧ slots ≤ R.slots) (hr : kRun ((12, 0, 0, 0, v) :: tr) z = true) (hI : oI D aC B A0 E H0 H locs (eZ z) j) (hls : ls.size = nL) (hrm : (rest.map fun v => v.category).sum ≤ 8) (hd : decode cc pc = .ok (.invokevirtual 82, 3))
    (kk : ∀ (z1 : kZ) (H1 : Heap) (locs1 : List Loc), kRun tr z1 = true → oI D aC B A0 E H0 H1 locs1 (eZ z1) j → W p l e R s m args below meth c H1 locs1 cells slots Qw (F0 m (pc + 3) ls (.int (jI v) :: rest))) : W p l e R s m args below meth c H locs cells slots Qw (F0 m pc ls (.ref B :: rest)) := by
  obtain ⟨z1, h1, h2⟩ := kRun_s hr
  have e : zUnd (eZ z) = (v, eZ z1) := kUndZ_s (Option.some.inj h1)
  refine lk_undo C_ hf hcs hI hls hrm hd (fun H1 locs1 hI1 => ?_)
  rw [e] at hI1 ⊢
  skip
  exact kk z1 H1 locs1 h2 hI1
theorem lr_keep (C_ : lk_C D aC cc nL rt p s m args meth c) (hf : 8 ≤ R.frames ∧ 304 ≤ R.locals) (hcs : cells ≤ R.cells ∧ slots ≤ R.slots) (hr : kRun ((13, 0, 0, 0, v) :: tr) z = true) (hI : oI D aC B A0 E H0 H locs (eZ z) j) (hls : ls.size = nL) (hrm : (rest.map fun v => v.category).sum ≤ 8) (hd : decode cc pc = .ok (.invokevirtual 93, 3))
    (kk : ∀ (z1 : kZ) (H1 : Heap) (locs1 : List Loc), kRun tr z1 = true → oI D aC B A0 E H0 H1 locs1 (eZ z1) j → W p l e R s m args below meth c H1 locs1 cells slots Qw (F0 m (pc + 3) ls (.int (jI v) :: rest))) : W p l e R s m args below meth c H locs cells slots Qw (F0 m pc ls (.ref B :: rest)) := by
  obtain ⟨z1, h1, h2⟩ := kRun_s hr
  have e : zKee (eZ z) = (v, eZ z1) := kKeeZ_s (Option.some.inj h1)
  refine lk_keep C_ hf hcs hI hls hrm hd (fun H1 locs1 hI1 => ?_)
  rw [e] at hI1 ⊢
  skip
  exact kk z1 H1 locs1 h2 hI1
theorem lr_restore (C_ : lk_C D aC cc nL rt p s m args meth c) (hf : 8 ≤ R.frames ∧ 304 ≤ R.locals) (hcs : cells ≤ R.cells ∧ slots ≤ R.slots) (hr : kRun ((14, 0, 0, 0, v) :: tr) z = true) (hI : oI D aC B A0 E H0 H locs (eZ z) j) (hls : ls.size = nL) (hrm : (rest.map fun v => v.category).sum ≤ 8) (hd : decode cc pc = .ok (.invokevirtual 86, 3))
    (kk : ∀ (z1 : kZ) (H1 : Heap) (locs1 : List Loc), kRun tr z1 = true → oI D aC B A0 E H0 H1 locs1 (eZ z1) j → W p l e R s m args below meth c H1 locs1 cells slots Qw (F0 m (pc + 3) ls (.int (jI v) :: rest))) : W p l e R s m args below meth c H locs cells slots Qw (F0 m pc ls (.ref B :: rest)) := by
  obtain ⟨z1, h1, h2⟩ := kRun_s hr
  have e : zRes (eZ z) = (v, eZ z1) := kResZ_s (Option.some.inj h1)
  refine lk_restore C_ hf hcs hI hls hrm hd (fun H1 locs1 hI1 => ?_)
  rw [e] at hI1 ⊢
  skip
  exact kk z1 H1 locs1 h2 hI1
theorem lr_alarm (C_ : lk_C D aC cc nL rt p s m args meth c) (hf : 8 ≤ R.frames ∧ 304 ≤ R.locals) (hcs : cells ≤ R.cells ∧ slots ≤ R.slots) {x y : Int} (hr : kRun ((15, x, y, 0, v) :: tr) z = true) (hI : oI D aC B A0 E H0 H locs (eZ z) j) (ix : inR x) (iy : inR y) (hls : ls.size = nL) (hrm : (rest.map fun v => v.category).sum ≤ 8) (hd : decode cc pc = .ok (.invokevirtual 22, 3))
    (kk : ∀ (z1 : kZ) (H1 : Heap) (locs1 : List Loc), kRun tr z1 = true → oI D aC B A0 E H0 H1 locs1 (eZ z1) j → W p l e R s m args below meth c H1 locs1 cells slots Qw (F0 m (pc + 3) ls (.int (jI v) :: rest))) : W p l e R s m args below meth c H locs cells slots Qw (F0 m pc ls (.int (jI y) :: .int (jI x) :: .ref B :: rest)) := by
  obtain ⟨z1, h1, h2⟩ := kRun_s hr
  have h3 := Option.some.inj h1
  have e : zAla (eZ z) x y = v := kAlZ_e.trans (congrArg Prod.fst h3)
  have e2 : z1 = z := (congrArg Prod.snd h3).symm
  refine lk_alarm C_ hf hcs hI ix iy hls hrm hd (fun H1 locs1 hI1 => ?_)
  rw [e]
  rw [← e2] at hI1
  exact kk z1 H1 locs1 h2 hI1
theorem lr_comparer (C_ : lk_C D aC cc nL rt p s m args meth c) (hf : 8 ≤ R.frames ∧ 304 ≤ R.locals) (hcs : cells ≤ R.cells ∧ slots ≤ R.slots) {x y : Int} (hr : kRun ((16, x, y, 0, v) :: tr) z = true) (hI : oI D aC B A0 E H0 H locs (eZ z) j) (ix : inR x) (iy : inR y) (hls : ls.size = nL) (hrm : (rest.map fun v => v.category).sum ≤ 8) (hd : decode cc pc = .ok (.invokevirtual 26, 3))
    (kk : ∀ (z1 : kZ) (H1 : Heap) (locs1 : List Loc), kRun tr z1 = true → oI D aC B A0 E H0 H1 locs1 (eZ z1) j → W p l e R s m args below meth c H1 locs1 cells slots Qw (F0 m (pc + 3) ls (.int (jI v) :: rest))) : W p l e R s m args below meth c H locs cells slots Qw (F0 m pc ls (.int (jI y) :: .int (jI x) :: .ref B :: rest)) := by
  obtain ⟨z1, h1, h2⟩ := kRun_s hr
  obtain ⟨h3, e2⟩ := kq_s h1
  have e : zCpr (eZ z) x y = v := kCprZ_s h3
  refine lk_comparer C_ hf hcs hI ix iy hls hrm hd (fun H1 locs1 hI1 => ?_)
  rw [e]
  rw [← e2] at hI1
  exact kk z1 H1 locs1 h2 hI1
theorem lr_at (C_ : lk_C D aC cc nL rt p s m args meth c) (hf : 8 ≤ R.frames ∧ 304 ≤ R.locals) (hcs : cells ≤ R.cells ∧ slots ≤ R.slots) {x : Int} (hr : kRun ((17, x, 0, 0, v) :: tr) z = true) (hI : oI D aC B A0 E H0 H locs (eZ z) j) (ix : inR x) (hls : ls.size = nL) (hrm : (rest.map fun v => v.category).sum ≤ 8) (hd : decode cc pc = .ok (.invokevirtual 19, 3))
    (kk : ∀ (z1 : kZ) (H1 : Heap) (locs1 : List Loc), kRun tr z1 = true → oI D aC B A0 E H0 H1 locs1 (eZ z1) j → W p l e R s m args below meth c H1 locs1 cells slots Qw (F0 m (pc + 3) ls (.int (jI v) :: rest))) : W p l e R s m args below meth c H locs cells slots Qw (F0 m pc ls (.int (jI x) :: .ref B :: rest)) := by
  obtain ⟨z1, h1, h2⟩ := kRun_s hr
  have h3 := Option.some.inj h1
  have e : zAt (eZ z) x = v := kAtZ_e.trans (congrArg Prod.fst h3)
  have e2 : z1 = z := (congrArg Prod.snd h3).symm
  refine lk_at C_ hf hcs hI ix hls hrm hd (fun H1 locs1 hI1 => ?_)
  rw [e]
  rw [← e2] at hI1
  exact kk z1 H1 locs1 h2 hI1
theorem lr_ringsIn (C_ : lk_C D aC cc nL rt p s m args meth c) (hf : 8 ≤ R.frames ∧ 304 ≤ R.locals) (hcs : cells ≤ R.cells ∧ slots ≤ R.slots) {x : Int} (hr : kRun ((18, x, 0, 0, v) :: tr) z = true) (hI : oI D aC B A0 E H0 H locs (eZ z) j) (ix : inR x) (hls : ls.size = nL) (hrm : (rest.map fun v => v.category).sum ≤ 8) (hd : decode cc pc = .ok (.invokevirtual 64, 3))
    (kk : ∀ (z1 : kZ) (H1 : Heap) (locs1 : List Loc), kRun tr z1 = true → oI D aC B A0 E H0 H1 locs1 (eZ z1) j → W p l e R s m args below meth c H1 locs1 cells slots Qw (F0 m (pc + 3) ls (.int (jI v) :: rest))) : W p l e R s m args below meth c H locs cells slots Qw (F0 m pc ls (.int (jI x) :: .ref B :: rest)) := by
  obtain ⟨z1, h1, h2⟩ := kRun_s hr
  obtain ⟨h3, e2⟩ := kq_s h1
  have e : zRin (eZ z) x = v := kRinZ_s h3
  refine lk_ringsIn C_ hf hcs hI ix hls hrm hd (fun H1 locs1 hI1 => ?_)
  rw [e]
  rw [← e2] at hI1
  exact kk z1 H1 locs1 h2 hI1
theorem lr_ifComparers (C_ : lk_C D aC cc nL rt p s m args meth c) (hf : 8 ≤ R.frames ∧ 304 ≤ R.locals) (hcs : cells ≤ R.cells ∧ slots ≤ R.slots) {x t y : Int} (hr : kRun ((19, x, t, y, v) :: tr) z = true) (hI : oI D aC B A0 E H0 H locs (eZ z) j) (ix : inR x) (it : inR t) (iy : inR y) (hls : ls.size = nL) (hrm : (rest.map fun v => v.category).sum ≤ 8) (hd : decode cc pc = .ok (.invokevirtual 67, 3))
    (kk : ∀ (z1 : kZ) (H1 : Heap) (locs1 : List Loc), kRun tr z1 = true → oI D aC B A0 E H0 H1 locs1 (eZ z1) j → W p l e R s m args below meth c H1 locs1 cells slots Qw (F0 m (pc + 3) ls (.int (jI v) :: rest))) : W p l e R s m args below meth c H locs cells slots Qw (F0 m pc ls (.int (jI y) :: .int (jI t) :: .int (jI x) :: .ref B :: rest)) := by
  obtain ⟨z1, h1, h2⟩ := kRun_s hr
  obtain ⟨h3, e2⟩ := kq_s h1
  have e : zIfc (eZ z) x t y = v := kIfcZ_s h3
  refine lk_ifComparers C_ hf hcs hI ix it iy hls hrm hd (fun H1 locs1 hI1 => ?_)
  rw [e]
  rw [← e2] at hI1
  exact kk z1 H1 locs1 h2 hI1
theorem lr_fewest (C_ : lk_C D aC cc nL rt p s m args meth c) (hf : 8 ≤ R.frames ∧ 304 ≤ R.locals) (hcs : cells ≤ R.cells ∧ slots ≤ R.slots) {t : Int} (hr : kRun ((20, t, 0, 0, v) :: tr) z = true) (hI : oI D aC B A0 E H0 H locs (eZ z) j) (it : inR t) (hls : ls.size = nL) (hrm : (rest.map fun v => v.category).sum ≤ 8) (hd : decode cc pc = .ok (.invokevirtual 70, 3))
    (kk : ∀ (z1 : kZ) (H1 : Heap) (locs1 : List Loc), kRun tr z1 = true → oI D aC B A0 E H0 H1 locs1 (eZ z1) j → W p l e R s m args below meth c H1 locs1 cells slots Qw (F0 m (pc + 3) ls (.int (jI v) :: rest))) : W p l e R s m args below meth c H locs cells slots Qw (F0 m pc ls (.int (jI t) :: .ref B :: rest)) := by
  obtain ⟨z1, h1, h2⟩ := kRun_s hr
  obtain ⟨h3, e2⟩ := kq_s h1
  have e : zFew (eZ z) t = v := kFewZ_s h3
  refine lk_fewest C_ hf hcs hI it hls hrm hd (fun H1 locs1 hI1 => ?_)
  rw [e]
  rw [← e2] at hI1
  exact kk z1 H1 locs1 h2 hI1
theorem lr_ring (C_ : lk_C D aC cc nL rt p s m args meth c) (hf : 8 ≤ R.frames ∧ 304 ≤ R.locals) (hcs : cells ≤ R.cells ∧ slots ≤ R.slots) {x y : Int} (hr : kRun ((21, x, y, 0, v) :: tr) z = true) (hI : oI D aC B A0 E H0 H locs (eZ z) j) (ix : inR x) (iy : inR y) (hls : ls.size = nL) (hrm : (rest.map fun v => v.category).sum ≤ 8) (hd : decode cc pc = .ok (.invokevirtual 29, 3))
    (kk : ∀ (z1 : kZ) (H1 : Heap) (locs1 : List Loc), kRun tr z1 = true → oI D aC B A0 E H0 H1 locs1 (eZ z1) j → W p l e R s m args below meth c H1 locs1 cells slots Qw (F0 m (pc + 3) ls (.int (jI v) :: rest))) : W p l e R s m args below meth c H locs cells slots Qw (F0 m pc ls (.int (jI y) :: .int (jI x) :: .ref B :: rest)) := by
  obtain ⟨z1, h1, h2⟩ := kRun_s hr
  have h3 := Option.some.inj h1
  have e : zRng (eZ z) x y = v := kRngZ_e.trans (congrArg Prod.fst h3)
  have e2 : z1 = z := (congrArg Prod.snd h3).symm
  refine lk_ring C_ hf hcs hI ix iy hls hrm hd (fun H1 locs1 hI1 => ?_)
  rw [e]
  rw [← e2] at hI1
  exact kk z1 H1 locs1 h2 hI1
theorem lr_count (C_ : lk_C D aC cc nL rt p s m args meth c) (hf : 8 ≤ R.frames ∧ 304 ≤ R.locals) (hcs : cells ≤ R.cells ∧ slots ≤ R.slots) {y : Int} (hr : kRun ((22, y, 0, 0, v) :: tr) z = true) (hI : oI D aC B A0 E H0 H locs (eZ z) j) (iy : inR y) (hls : ls.size = nL) (hrm : (rest.map fun v => v.category).sum ≤ 8) (hd : decode cc pc = .ok (.invokevirtual 13, 3))
    (kk : ∀ (z1 : kZ) (H1 : Heap) (locs1 : List Loc), kRun tr z1 = true → oI D aC B A0 E H0 H1 locs1 (eZ z1) j → W p l e R s m args below meth c H1 locs1 cells slots Qw (F0 m (pc + 3) ls (.int (jI v) :: rest))) : W p l e R s m args below meth c H locs cells slots Qw (F0 m pc ls (.int (jI y) :: .ref B :: rest)) := by
  obtain ⟨z1, h1, h2⟩ := kRun_s hr
  have h3 := Option.some.inj h1
  have e : zCnt (eZ z) y = v := kCntZ_e.trans (congrArg Prod.fst h3)
  have e2 : z1 = z := (congrArg Prod.snd h3).symm
  refine lk_count C_ hf hcs hI iy hls hrm hd (fun H1 locs1 hI1 => ?_)
  rw [e]
  rw [← e2] at hI1
  exact kk z1 H1 locs1 h2 hI1
end LRR
