/-! ===== calls whose answers are known; what is refused at every state; refusesAny ===== -/
section LQR
variable {p : Program} {l : Launch} {e : Env} {R : Room} {s : State} {m : MethodId} {args : Array Value} {below : List Frame} {meth : Method} {c : Code} {H : Heap} {locs : List Loc} {cells slots : Nat} {Qw : State → Prop} {cc : ByteArray} {nL : Nat} {rt : Option FieldType} {pc : Nat} {ls : Array Slot} {rest : List Value} {D : va_G} {aC : Nat → Nat} {B : Nat} {Z : Zst} {v : Int} {j : Nat} {A0 : Nat → Prop} {E : Heap → Prop} {H0 : Heap}
theorem lq_set (C_ : lk_C D aC cc nL rt p s m args meth c) (hf : 8 ≤ R.frames ∧ 304 ≤ R.locals) (hcs : cells ≤ R.cells ∧ slots ≤ R.slots) {x y w : Int} {Z1 : Zst} (hq : zSet Z x y w = (v, Z1)) (hI : oI D aC B A0 E H0 H locs Z j) (ix : inR x) (iy : inR y) (iw : inR w) (hls : ls.size = nL) (hrm : (rest.map fun v => v.category).sum ≤ 8) (hd : decode cc pc = .ok (.invokevirtual 33, 3))
    (kk : ∀ (H1 : Heap) (locs1 : List Loc), oI D aC B A0 E H0 H1 locs1 Z1 j → W p l e R s m args below meth c H1 locs1 cells slots Qw (F0 m (pc + 3) ls (.int (jI v) :: rest))) : W p l e R s m args below meth c H locs cells slots Qw (F0 m pc ls (.int (jI w) :: .int (jI y) :: .int (jI x) :: .ref B :: rest)) := by
  refine lk_set C_ hf hcs hI ix iy iw hls hrm hd (fun H1 locs1 hI1 => ?_)
  rw [hq] at hI1 ⊢
  exact kk H1 locs1 hI1
theorem lq_setAll (C_ : lk_C D aC cc nL rt p s m args meth c) (hf : 8 ≤ R.frames ∧ 304 ≤ R.locals) (hcs : cells ≤ R.cells ∧ slots ≤ R.slots) {Z1 : Zst} (hq : zAll Z = (v, Z1)) (hI : oI D aC B A0 E H0 H locs Z j) (hls : ls.size = nL) (hrm : (rest.map fun v => v.category).sum ≤ 8) (hd : decode cc pc = .ok (.invokevirtual 108, 3))
    (kk : ∀ (H1 : Heap) (locs1 : List Loc), oI D aC B A0 E H0 H1 locs1 Z1 j → W p l e R s m args below meth c H1 locs1 cells slots Qw (F0 m (pc + 3) ls (.int (jI v) :: rest))) : W p l e R s m args below meth c H locs cells slots Qw (F0 m pc ls (.ref B :: rest)) := by
  refine lk_setAll C_ hf hcs hI hls hrm hd (fun H1 locs1 hI1 => ?_)
  rw [hq] at hI1 ⊢
  exact kk H1 locs1 hI1
theorem lq_cancel (C_ : lk_C D aC cc nL rt p s m args meth c) (hf : 8 ≤ R.frames ∧ 304 ≤ R.locals) (hcs : cells ≤ R.cells ∧ slots ≤ R.slots) {x : Int} {Z1 : Zst} (hq : zCan Z x = (v, Z1)) (hI : oI D aC B A0 E H0 H locs Z j) (ix : inR x) (hls : ls.size = nL) (hrm : (rest.map fun v => v.category).sum ≤ 8) (hd : decode cc pc = .ok (.invokevirtual 40, 3))
    (kk : ∀ (H1 : Heap) (locs1 : List Loc), oI D aC B A0 E H0 H1 locs1 Z1 j → W p l e R s m args below meth c H1 locs1 cells slots Qw (F0 m (pc + 3) ls (.int (jI v) :: rest))) : W p l e R s m args below meth c H locs cells slots Qw (F0 m pc ls (.int (jI x) :: .ref B :: rest)) := by
  refine lk_cancel C_ hf hcs hI ix hls hrm hd (fun H1 locs1 hI1 => ?_)
  rw [hq] at hI1 ⊢
  exact kk H1 locs1 hI1
theorem lq_move (C_ : lk_C D aC cc nL rt p s m args meth c) (hf : 8 ≤ R.frames ∧ 304 ≤ R.locals) (hcs : cells ≤ R.cells ∧ slots ≤ R.slots) {x t : Int} {Z1 : Zst} (hq : zMov Z x t = (v, Z1)) (hI : oI D aC B A0 E H0 H locs Z j) (ix : inR x) (it : inR t) (hls : ls.size = nL) (hrm : (rest.map fun v => v.category).sum ≤ 8) (hd : decode cc pc = .ok (.invokevirtual 43, 3))
    (kk : ∀ (H1 : Heap) (locs1 : List Loc), oI D aC B A0 E H0 H1 locs1 Z1 j → W p l e R s m args below meth c H1 locs1 cells slots Qw (F0 m (pc + 3) ls (.int (jI v) :: rest))) : W p l e R s m args below meth c H locs cells slots Qw (F0 m pc ls (.int (jI t) :: .int (jI x) :: .ref B :: rest)) := by
  refine lk_move C_ hf hcs hI ix it hls hrm hd (fun H1 locs1 hI1 => ?_)
  rw [hq] at hI1 ⊢
  exact kk H1 locs1 hI1
theorem lq_setComparers (C_ : lk_C D aC cc nL rt p s m args meth c) (hf : 8 ≤ R.frames ∧ 304 ≤ R.locals) (hcs : cells ≤ R.cells ∧ slots ≤ R.slots) {k : Int} {Z1 : Zst} (hq : zCmp Z k = (v, Z1)) (hI : oI D aC B A0 E H0 H locs Z j) (ik : inR k) (hls : ls.size = nL) (hrm : (rest.map fun v => v.category).sum ≤ 8) (hd : decode cc pc = .ok (.invokevirtual 46, 3))
    (kk : ∀ (H1 : Heap) (locs1 : List Loc), oI D aC B A0 E H0 H1 locs1 Z1 j → W p l e R s m args below meth c H1 locs1 cells slots Qw (F0 m (pc + 3) ls (.int (jI v) :: rest))) : W p l e R s m args below meth c H locs cells slots Qw (F0 m pc ls (.int (jI k) :: .ref B :: rest)) := by
  refine lk_setComparers C_ hf hcs hI ik hls hrm hd (fun H1 locs1 hI1 => ?_)
  rw [hq] at hI1 ⊢
  exact kk H1 locs1 hI1
theorem lq_setWindow (C_ : lk_C D aC cc nL rt p s m args meth c) (hf : 8 ≤ R.frames ∧ 304 ≤ R.locals) (hcs : cells ≤ R.cells ∧ slots ≤ R.slots) {k : Int} {Z1 : Zst} (hq : zWin Z k = (v, Z1)) (hI : oI D aC B A0 E H0 H locs Z j) (ik : inR k) (hls : ls.size = nL) (hrm : (rest.map fun v => v.category).sum ≤ 8) (hd : decode cc pc = .ok (.invokevirtual 49, 3))
    (kk : ∀ (H1 : Heap) (locs1 : List Loc), oI D aC B A0 E H0 H1 locs1 Z1 j → W p l e R s m args below meth c H1 locs1 cells slots Qw (F0 m (pc + 3) ls (.int (jI v) :: rest))) : W p l e R s m args below meth c H locs cells slots Qw (F0 m pc ls (.int (jI k) :: .ref B :: rest)) := by
  refine lk_setWindow C_ hf hcs hI ik hls hrm hd (fun H1 locs1 hI1 => ?_)
  rw [hq] at hI1 ⊢
  exact kk H1 locs1 hI1
theorem lq_setLoading (C_ : lk_C D aC cc nL rt p s m args meth c) (hf : 8 ≤ R.frames ∧ 304 ≤ R.locals) (hcs : cells ≤ R.cells ∧ slots ≤ R.slots) {k : Int} {Z1 : Zst} (hq : zLoa Z k = (v, Z1)) (hI : oI D aC B A0 E H0 H locs Z j) (ik : inR k) (hls : ls.size = nL) (hrm : (rest.map fun v => v.category).sum ≤ 8) (hd : decode cc pc = .ok (.invokevirtual 52, 3))
    (kk : ∀ (H1 : Heap) (locs1 : List Loc), oI D aC B A0 E H0 H1 locs1 Z1 j → W p l e R s m args below meth c H1 locs1 cells slots Qw (F0 m (pc + 3) ls (.int (jI v) :: rest))) : W p l e R s m args below meth c H locs cells slots Qw (F0 m pc ls (.int (jI k) :: .ref B :: rest)) := by
  refine lk_setLoading C_ hf hcs hI ik hls hrm hd (fun H1 locs1 hI1 => ?_)
  rw [hq] at hI1 ⊢
  exact kk H1 locs1 hI1
theorem lq_setDrift (C_ : lk_C D aC cc nL rt p s m args meth c) (hf : 8 ≤ R.frames ∧ 304 ≤ R.locals) (hcs : cells ≤ R.cells ∧ slots ≤ R.slots) {k : Int} {Z1 : Zst} (hq : zDri Z k = (v, Z1)) (hI : oI D aC B A0 E H0 H locs Z j) (ik : inR k) (hls : ls.size = nL) (hrm : (rest.map fun v => v.category).sum ≤ 8) (hd : decode cc pc = .ok (.invokevirtual 55, 3))
    (kk : ∀ (H1 : Heap) (locs1 : List Loc), oI D aC B A0 E H0 H1 locs1 Z1 j → W p l e R s m args below meth c H1 locs1 cells slots Qw (F0 m (pc + 3) ls (.int (jI v) :: rest))) : W p l e R s m args below meth c H locs cells slots Qw (F0 m pc ls (.int (jI k) :: .ref B :: rest)) := by
  refine lk_setDrift C_ hf hcs hI ik hls hrm hd (fun H1 locs1 hI1 => ?_)
  rw [hq] at hI1 ⊢
  exact kk H1 locs1 hI1
theorem lq_correct (C_ : lk_C D aC cc nL rt p s m args meth c) (hf : 8 ≤ R.frames ∧ 304 ≤ R.locals) (hcs : cells ≤ R.cells ∧ slots ≤ R.slots) {k : Int} {Z1 : Zst} (hq : zCor Z k = (v, Z1)) (hI : oI D aC B A0 E H0 H locs Z j) (ik : inR k) (hls : ls.size = nL) (hrm : (rest.map fun v => v.category).sum ≤ 8) (hd : decode cc pc = .ok (.invokevirtual 58, 3))
    (kk : ∀ (H1 : Heap) (locs1 : List Loc), oI D aC B A0 E H0 H1 locs1 Z1 j → W p l e R s m args below meth c H1 locs1 cells slots Qw (F0 m (pc + 3) ls (.int (jI v) :: rest))) : W p l e R s m args below meth c H locs cells slots Qw (F0 m pc ls (.int (jI k) :: .ref B :: rest)) := by
  refine lk_correct C_ hf hcs hI ik hls hrm hd (fun H1 locs1 hI1 => ?_)
  rw [hq] at hI1 ⊢
  exact kk H1 locs1 hI1
theorem lq_run (C_ : lk_C D aC cc nL rt p s m args meth c) (hf : 8 ≤ R.frames ∧ 304 ≤ R.locals) (hcs : cells ≤ R.cells ∧ slots ≤ R.slots) (hj : j + 1 ≤ 9000) {k : Int} {Z1 : Zst} (hq : zRun Z k = (v, Z1)) (hI : oI D aC B A0 E H0 H locs Z j) (ik : inR k) (hls : ls.size = nL) (hrm : (rest.map fun v => v.category).sum ≤ 8) (hd : decode cc pc = .ok (.invokevirtual 61, 3))
    (kk : ∀ (H1 : Heap) (locs1 : List Loc), oI D aC B A0 E H0 H1 locs1 Z1 (j + 1) → W p l e R s m args below meth c H1 locs1 cells slots Qw (F0 m (pc + 3) ls (.int (jI v) :: rest))) : W p l e R s m args below meth c H locs cells slots Qw (F0 m pc ls (.int (jI k) :: .ref B :: rest)) := by
  refine lk_run C_ hf hcs hI hj ik hls hrm hd (fun H1 locs1 hI1 => ?_)
  rw [hq] at hI1 ⊢
  exact kk H1 locs1 hI1
theorem lq_type (C_ : lk_C D aC cc nL rt p s m args meth c) (hf : 8 ≤ R.frames ∧ 304 ≤ R.locals) (hcs : cells ≤ R.cells ∧ slots ≤ R.slots) {x : Int} {Z1 : Zst} (hq : zTyp Z x = (v, Z1)) (hI : oI D aC B A0 E H0 H locs Z j) (hc : 0 ≤ x ∧ x ≤ 65535) (hls : ls.size = nL) (hrm : (rest.map fun v => v.category).sum ≤ 8) (hd : decode cc pc = .ok (.invokevirtual 100, 3))
    (kk : ∀ (H1 : Heap) (locs1 : List Loc), oI D aC B A0 E H0 H1 locs1 Z1 j → W p l e R s m args below meth c H1 locs1 cells slots Qw (F0 m (pc + 3) ls (.int (jI v) :: rest))) : W p l e R s m args below meth c H locs cells slots Qw (F0 m pc ls (.int (jI x) :: .ref B :: rest)) := by
  refine lk_type C_ hf hcs hI hc hls hrm hd (fun H1 locs1 hI1 => ?_)
  rw [hq] at hI1 ⊢
  exact kk H1 locs1 hI1
theorem lq_clearText (C_ : lk_C D aC cc nL rt p s m args meth c) (hf : 8 ≤ R.frames ∧ 304 ≤ R.locals) (hcs : cells ≤ R.cells ∧ slots ≤ R.slots) {Z1 : Zst} (hq : zClr Z = (v, Z1)) (hI : oI D aC B A0 E H0 H locs Z j) (hls : ls.size = nL) (hrm : (rest.map fun v => v.category).sum ≤ 8) (hd : decode cc pc = .ok (.invokevirtual 149, 3))
    (kk : ∀ (H1 : Heap) (locs1 : List Loc), oI D aC B A0 E H0 H1 locs1 Z1 j → W p l e R s m args below meth c H1 locs1 cells slots Qw (F0 m (pc + 3) ls (.int (jI v) :: rest))) : W p l e R s m args below meth c H locs cells slots Qw (F0 m pc ls (.ref B :: rest)) := by
  refine lk_clearText C_ hf hcs hI hls hrm hd (fun H1 locs1 hI1 => ?_)
  rw [hq] at hI1 ⊢
  exact kk H1 locs1 hI1
theorem lq_undo (C_ : lk_C D aC cc nL rt p s m args meth c) (hf : 8 ≤ R.frames ∧ 304 ≤ R.locals) (hcs : cells ≤ R.cells ∧ slots ≤ R.slots) {Z1 : Zst} (hq : zUnd Z = (v, Z1)) (hI : oI D aC B A0 E H0 H locs Z j) (hls : ls.size = nL) (hrm : (rest.map fun v => v.category).sum ≤ 8) (hd : decode cc pc = .ok (.invokevirtual 82, 3))
    (kk : ∀ (H1 : Heap) (locs1 : List Loc), oI D aC B A0 E H0 H1 locs1 Z1 j → W p l e R s m args below meth c H1 locs1 cells slots Qw (F0 m (pc + 3) ls (.int (jI v) :: rest))) : W p l e R s m args below meth c H locs cells slots Qw (F0 m pc ls (.ref B :: rest)) := by
  refine lk_undo C_ hf hcs hI hls hrm hd (fun H1 locs1 hI1 => ?_)
  rw [hq] at hI1 ⊢
  exact kk H1 locs1 hI1
theorem lq_keep (C_ : lk_C D aC cc nL rt p s m args meth c) (hf : 8 ≤ R.frames ∧ 304 ≤ R.locals) (hcs : cells ≤ R.cells ∧ slots ≤ R.slots) {Z1 : Zst} (hq : zKee Z = (v, Z1)) (hI : oI D aC B A0 E H0 H locs Z j) (hls : ls.size = nL) (hrm : (rest.map fun v => v.category).sum ≤ 8) (hd : decode cc pc = .ok (.invokevirtual 93, 3))
    (kk : ∀ (H1 : Heap) (locs1 : List Loc), oI D aC B A0 E H0 H1 locs1 Z1 j → W p l e R s m args below meth c H1 locs1 cells slots Qw (F0 m (pc + 3) ls (.int (jI v) :: rest))) : W p l e R s m args below meth c H locs cells slots Qw (F0 m pc ls (.ref B :: rest)) := by
  refine lk_keep C_ hf hcs hI hls hrm hd (fun H1 locs1 hI1 => ?_)
  rw [hq] at hI1 ⊢
  exact kk H1 locs1 hI1
theorem lq_restore (C_ : lk_C D aC cc nL rt p s m args meth c) (hf : 8 ≤ R.frames ∧ 304 ≤ R.locals) (hcs : cells ≤ R.cells ∧ slots ≤ R.slots) {Z1 : Zst} (hq : zRes Z = (v, Z1)) (hI : oI D aC B A0 E H0 H locs Z j) (hls : ls.size = nL) (hrm : (rest.map fun v => v.category).sum ≤ 8) (hd : decode cc pc = .ok (.invokevirtual 86, 3))
    (kk : ∀ (H1 : Heap) (locs1 : List Loc), oI D aC B A0 E H0 H1 locs1 Z1 j → W p l e R s m args below meth c H1 locs1 cells slots Qw (F0 m (pc + 3) ls (.int (jI v) :: rest))) : W p l e R s m args below meth c H locs cells slots Qw (F0 m pc ls (.ref B :: rest)) := by
  refine lk_restore C_ hf hcs hI hls hrm hd (fun H1 locs1 hI1 => ?_)
  rw [hq] at hI1 ⊢
  exact kk H1 locs1 hI1
theorem lq_alarm (C_ : lk_C D aC cc nL rt p s m args meth c) (hf : 8 ≤ R.frames ∧ 304 ≤ R.locals) (hcs : cells ≤ R.cells ∧ slots ≤ R.slots) {x y : Int} (hq : zAla Z x y = v) (hI : oI D aC B A0 E H0 H locs Z j) (ix : inR x) (iy : inR y) (hls : ls.size = nL) (hrm : (rest.map fun v => v.category).sum ≤ 8) (hd : decode cc pc = .ok (.invokevirtual 22, 3))
    (kk : ∀ (H1 : Heap) (locs1 : List Loc), oI D aC B A0 E H0 H1 locs1 Z j → W p l e R s m args below meth c H1 locs1 cells slots Qw (F0 m (pc + 3) ls (.int (jI v) :: rest))) : W p l e R s m args below meth c H locs cells slots Qw (F0 m pc ls (.int (jI y) :: .int (jI x) :: .ref B :: rest)) := by
  refine lk_alarm C_ hf hcs hI ix iy hls hrm hd (fun H1 locs1 hI1 => ?_)
  rw [hq]
  exact kk H1 locs1 hI1
theorem lq_comparer (C_ : lk_C D aC cc nL rt p s m args meth c) (hf : 8 ≤ R.frames ∧ 304 ≤ R.locals) (hcs : cells ≤ R.cells ∧ slots ≤ R.slots) {x y : Int} (hq : zCpr Z x y = v) (hI : oI D aC B A0 E H0 H locs Z j) (ix : inR x) (iy : inR y) (hls : ls.size = nL) (hrm : (rest.map fun v => v.category).sum ≤ 8) (hd : decode cc pc = .ok (.invokevirtual 26, 3))
    (kk : ∀ (H1 : Heap) (locs1 : List Loc), oI D aC B A0 E H0 H1 locs1 Z j → W p l e R s m args below meth c H1 locs1 cells slots Qw (F0 m (pc + 3) ls (.int (jI v) :: rest))) : W p l e R s m args below meth c H locs cells slots Qw (F0 m pc ls (.int (jI y) :: .int (jI x) :: .ref B :: rest)) := by
  refine lk_comparer C_ hf hcs hI ix iy hls hrm hd (fun H1 locs1 hI1 => ?_)
  rw [hq]
  exact kk H1 locs1 hI1
theorem lq_at (C_ : lk_C D aC cc nL rt p s m args meth c) (hf : 8 ≤ R.frames ∧ 304 ≤ R.locals) (hcs : cells ≤ R.cells ∧ slots ≤ R.slots) {x : Int} (hq : zAt Z x = v) (hI : oI D aC B A0 E H0 H locs Z j) (ix : inR x) (hls : ls.size = nL) (hrm : (rest.map fun v => v.category).sum ≤ 8) (hd : decode cc pc = .ok (.invokevirtual 19, 3))
    (kk : ∀ (H1 : Heap) (locs1 : List Loc), oI D aC B A0 E H0 H1 locs1 Z j → W p l e R s m args below meth c H1 locs1 cells slots Qw (F0 m (pc + 3) ls (.int (jI v) :: rest))) : W p l e R s m args below meth c H locs cells slots Qw (F0 m pc ls (.int (jI x) :: .ref B :: rest)) := by
  refine lk_at C_ hf hcs hI ix hls hrm hd (fun H1 locs1 hI1 => ?_)
  rw [hq]
  exact kk H1 locs1 hI1
theorem lq_ringsIn (C_ : lk_C D aC cc nL rt p s m args meth c) (hf : 8 ≤ R.frames ∧ 304 ≤ R.locals) (hcs : cells ≤ R.cells ∧ slots ≤ R.slots) {x : Int} (hq : zRin Z x = v) (hI : oI D aC B A0 E H0 H locs Z j) (ix : inR x) (hls : ls.size = nL) (hrm : (rest.map fun v => v.category).sum ≤ 8) (hd : decode cc pc = .ok (.invokevirtual 64, 3))
    (kk : ∀ (H1 : Heap) (locs1 : List Loc), oI D aC B A0 E H0 H1 locs1 Z j → W p l e R s m args below meth c H1 locs1 cells slots Qw (F0 m (pc + 3) ls (.int (jI v) :: rest))) : W p l e R s m args below meth c H locs cells slots Qw (F0 m pc ls (.int (jI x) :: .ref B :: rest)) := by
  refine lk_ringsIn C_ hf hcs hI ix hls hrm hd (fun H1 locs1 hI1 => ?_)
  rw [hq]
  exact kk H1 locs1 hI1
theorem lq_ifComparers (C_ : lk_C D aC cc nL rt p s m args meth c) (hf : 8 ≤ R.frames ∧ 304 ≤ R.locals) (hcs : cells ≤ R.cells ∧ slots ≤ R.slots) {x t y : Int} (hq : zIfc Z x t y = v) (hI : oI D aC B A0 E H0 H locs Z j) (ix : inR x) (it : inR t) (iy : inR y) (hls : ls.size = nL) (hrm : (rest.map fun v => v.category).sum ≤ 8) (hd : decode cc pc = .ok (.invokevirtual 67, 3))
    (kk : ∀ (H1 : Heap) (locs1 : List Loc), oI D aC B A0 E H0 H1 locs1 Z j → W p l e R s m args below meth c H1 locs1 cells slots Qw (F0 m (pc + 3) ls (.int (jI v) :: rest))) : W p l e R s m args below meth c H locs cells slots Qw (F0 m pc ls (.int (jI y) :: .int (jI t) :: .int (jI x) :: .ref B :: rest)) := by
  refine lk_ifComparers C_ hf hcs hI ix it iy hls hrm hd (fun H1 locs1 hI1 => ?_)
  rw [hq]
  exact kk H1 locs1 hI1
theorem lq_fewest (C_ : lk_C D aC cc nL rt p s m args meth c) (hf : 8 ≤ R.frames ∧ 304 ≤ R.locals) (hcs : cells ≤ R.cells ∧ slots ≤ R.slots) {t : Int} (hq : zFew Z t = v) (hI : oI D aC B A0 E H0 H locs Z j) (it : inR t) (hls : ls.size = nL) (hrm : (rest.map fun v => v.category).sum ≤ 8) (hd : decode cc pc = .ok (.invokevirtual 70, 3))
    (kk : ∀ (H1 : Heap) (locs1 : List Loc), oI D aC B A0 E H0 H1 locs1 Z j → W p l e R s m args below meth c H1 locs1 cells slots Qw (F0 m (pc + 3) ls (.int (jI v) :: rest))) : W p l e R s m args below meth c H locs cells slots Qw (F0 m pc ls (.int (jI t) :: .ref B :: rest)) := by
  refine lk_fewest C_ hf hcs hI it hls hrm hd (fun H1 locs1 hI1 => ?_)
  rw [hq]
  exact kk H1 locs1 hI1
theorem lq_ring (C_ : lk_C D aC cc nL rt p s m args meth c) (hf : 8 ≤ R.frames ∧ 304 ≤ R.locals) (hcs : cells ≤ R.cells ∧ slots ≤ R.slots) {x y : Int} (hq : zRng Z x y = v) (hI : oI D aC B A0 E H0 H locs Z j) (ix : inR x) (iy : inR y) (hls : ls.size = nL) (hrm : (rest.map fun v => v.category).sum ≤ 8) (hd : decode cc pc = .ok (.invokevirtual 29, 3))
    (kk : ∀ (H1 : Heap) (locs1 : List Loc), oI D aC B A0 E H0 H1 locs1 Z j → W p l e R s m args below meth c H1 locs1 cells slots Qw (F0 m (pc + 3) ls (.int (jI v) :: rest))) : W p l e R s m args below meth c H locs cells slots Qw (F0 m pc ls (.int (jI y) :: .int (jI x) :: .ref B :: rest)) := by
  refine lk_ring C_ hf hcs hI ix iy hls hrm hd (fun H1 locs1 hI1 => ?_)
  rw [hq]
  exact kk H1 locs1 hI1
theorem lq_count (C_ : lk_C D aC cc nL rt p s m args meth c) (hf : 8 ≤ R.frames ∧ 304 ≤ R.locals) (hcs : cells ≤ R.cells ∧ slots ≤ R.slots) {y : Int} (hq : zCnt Z y = v) (hI : oI D aC B A0 E H0 H locs Z j) (iy : inR y) (hls : ls.size = nL) (hrm : (rest.map fun v => v.category).sum ≤ 8) (hd : decode cc pc = .ok (.invokevirtual 13, 3))
    (kk : ∀ (H1 : Heap) (locs1 : List Loc), oI D aC B A0 E H0 H1 locs1 Z j → W p l e R s m args below meth c H1 locs1 cells slots Qw (F0 m (pc + 3) ls (.int (jI v) :: rest))) : W p l e R s m args below meth c H locs cells slots Qw (F0 m pc ls (.int (jI y) :: .ref B :: rest)) := by
  refine lk_count C_ hf hcs hI iy hls hrm hd (fun H1 locs1 hI1 => ?_)
  rw [hq]
  exact kk H1 locs1 hI1
theorem lk_zend {rmm : Room} {P : Heap → Prop} (C_ : lk_C D aC cc nL (some .boolean) p s m args meth c) (hS : va_S A0 s.heap H locs) (hP : P H) (hd : decode cc pc = .ok (.ireturn, 1)) : W p l e rmm s m args below meth c H locs cells slots (MQ below (qI (fun x => x = jI 1) P A0) args s cells slots A0) (F0 m pc ls [.int (jI 1)]) := by
  have hlocks := C_.2.2.2.2.2.2.1
  exact W.zret C_.1 C_.2.1 C_.2.2.1 rfl (fun t ht hW => ⟨⟨_, (), rfl, rfl, by show P t.heap; rw [ht]; exact hP⟩, hS.F ht⟩) hS.2.2 hd
end LQR
theorem zSet_no {Z : Zst} {t p r : Int} (h : ¬ (0 ≤ t ∧ t ≤ 99999) ∨ ¬ (0 ≤ p ∧ p ≤ 9999) ∨ ¬ (0 ≤ r ∧ r ≤ 3)) : zSet Z t p r = (-1002, Z) := if_pos h
theorem zCan_no {Z : Zst} {x : Int} (h : lkp Z.1.2.1 x = none) : zCan Z x = (-1001, Z) := by unfold zCan; rw [h]
theorem zMov_no {Z : Zst} {x t : Int} (h : lkp Z.1.2.1 x = none) : zMov Z x t = (-1001, Z) := by unfold zMov; rw [h]
theorem zMov_b {Z : Zst} {x t : Int} {a : Ar} (h : lkp Z.1.2.1 x = some a) (ht : ¬ (0 ≤ t ∧ t ≤ 99999)) : zMov Z x t = (-1002, Z) := by unfold zMov; rw [h]; exact if_pos ht
theorem zCmp_no {Z : Zst} {k : Int} (h : ¬ (1 ≤ k ∧ k ≤ 4)) : zCmp Z k = (-1002, Z) := if_pos h
theorem zWin_no {Z : Zst} {k : Int} (h : ¬ (0 ≤ k ∧ k ≤ 20)) : zWin Z k = (-1002, Z) := if_pos h
theorem zLoa_no {Z : Zst} {k : Int} (h : ¬ (0 ≤ k ∧ k ≤ 9)) : zLoa Z k = (-1002, Z) := if_pos h
theorem zDri_no {Z : Zst} {k : Int} (h : ¬ (-999 ≤ k ∧ k ≤ 999) ∨ k = 1 ∨ k = -1) : zDri Z k = (-1002, Z) := if_pos h
theorem zCor_no {Z : Zst} {k : Int} (h : ¬ (-999 ≤ k ∧ k ≤ 999)) : zCor Z k = (-1002, Z) := if_pos h
theorem zRun_no {Z : Zst} {k : Int} (h : ¬ (1 ≤ k ∧ k ≤ 1000)) : zRun Z k = (-1002, Z) := if_pos h
theorem zAla_no {Z : Zst} {x y : Int} (h : lkp Z.1.2.1 x = none) : zAla Z x y = -1001 := by unfold zAla; rw [h]
theorem zAla_b {Z : Zst} {x y : Int} {a : Ar} (h : lkp Z.1.2.1 x = some a) (hy : ¬ (0 ≤ y ∧ y ≤ 6)) : zAla Z x y = -1002 := by
  unfold zAla
  rw [h]
  exact zAl_d (by omega) (by omega) (by omega) (by omega) (by omega) (by omega) (by omega)
theorem zCpr_no {Z : Zst} {x y : Int} (h : ¬ (0 ≤ x ∧ x ≤ Z.1.1 7 - 1)) : zCpr Z x y = -1001 := if_pos h
theorem zCpr_b {Z : Zst} {x y : Int} (h : 0 ≤ x ∧ x ≤ Z.1.1 7 - 1) (hy : ¬ (0 ≤ y ∧ y ≤ 3)) : zCpr Z x y = -1002 := by
  unfold zCpr
  rw [if_neg (fun q => q h)]
  exact zCq_d (by omega) (by omega) (by omega) (by omega)
theorem zAt_no {Z : Zst} {x : Int} (h : x < 0) : zAt Z x = -1002 := if_pos h
theorem zRin_no {Z : Zst} {x : Int} (h : lkp Z.1.2.1 x = none) : zRin Z x = -1001 := by unfold zRin; rw [h]
theorem zIfc_no {Z : Zst} {m t y : Int} (h : ¬ (1 ≤ m ∧ m ≤ 4) ∨ ¬ (1 ≤ t ∧ t ≤ 500) ∨ ¬ (0 ≤ y ∧ y ≤ 3)) : zIfc Z m t y = -1002 := if_pos h
theorem zFew_no {Z : Zst} {t : Int} (h : ¬ (1 ≤ t ∧ t ≤ 500)) : zFew Z t = -1002 := if_pos h
theorem zRng_no {Z : Zst} {x y : Int} (h : x < 0 ∨ ¬ (0 ≤ y ∧ y ≤ 3)) : zRng Z x y = -1002 := if_pos h
theorem zCnt_no {Z : Zst} {y : Int} (h : ¬ (0 ≤ y ∧ y ≤ 17)) : zCnt Z y = -1002 := zCnt_d (by omega) (by omega) (by omega) (by omega) (by omega) (by omega) (by omega) (by omega) (by omega) (by omega) (by omega) (by omega) (by omega) (by omega) (by omega) (by omega) (by omega) (by omega)
theorem lkp_neg {Z : Zst} {T K : Int} (h : ZI Z T K) : lkp Z.1.2.1 (-1) = none := lkp_n (fun b hb q => by have := (h.1.1.2.2.2.1 b hb).1; omega)
theorem lkp_ever {Z : Zst} {T K : Int} (h : ZI Z T K) : lkp Z.1.2.1 (Z.1.1 6) = none := lkp_n (fun b hb q => by have := (h.1.1.2.2.2.1 b hb).1; omega)
set_option maxHeartbeats 4000000 in
theorem met_refA0 {l : Launch} {D : va_G} {aC : Nat → Nat} {B : Nat} {Z : Zst} {j : Nat} (hz : ZJ Z j) (hj : j + 1 ≤ 9000) : Met l yL_refusesAny (lWs yL_refusesAny cL_refusesAny 4 (some .boolean)) (rmL 8 0 0) (va_Pc [.ref B, .int (jI 0)] (fun U => oB D aC B Z U.heap ∧ cx_V D aC U)) (qI (fun x => x = jI 1) (oB D aC B Z) (fun q => q ∈ LA B)) 0 0 (fun q => q ∈ LA B) := by
  refine lk_met (P := oB D aC B Z) (by decide +kernel) rfl (Nat.le_of_ble_eq_true rfl) (fun p e s m args below meth c ls C_ hl hO => ?_)
  have hl : lv_has ls 4 [(0, .ref B), (1, .int (jI 0))] := hl
  have hf : 8 ≤ (rmL 8 0 0).frames ∧ 304 ≤ (rmL 8 0 0).locals := ⟨by decide, by decide⟩
  have hcs : 0 ≤ (rmL 8 0 0).cells ∧ 0 ≤ (rmL 8 0 0).slots := ⟨by decide, by decide⟩
  have hI : oI D aC B (fun q => q ∈ LA B) (fun _ => True) s.heap s.heap [] Z j := ⟨hO, va_S.rf, hz, trivial, stab_t, fun q h => h⟩
  have hs := hz.1.1.1.1
  unfold SI at hs
  refine lv_iload_n C_.1 C_.2.1 dL_refusesAny_0 rfl (lv_at hl 1 rfl) ?_
  refine lj_if_ne (tgt := 8) C_.1 C_.2.1 ⟨by decide, by decide⟩ dL_refusesAny_1 (by decide) (fun q => by omega) (fun _ => ?_)
  refine lv_iconst (v := jI (-1)) C_.1 C_.2.1 dL_refusesAny_4 rfl ?_
  refine lv_goto (tgt := 13) C_.1 C_.2.1 dL_refusesAny_5 (by decide) ?_
  refine lv_istore_n (lv' := [(2, .int (jI (-1))), (0, .ref B), (1, .int (jI 0))]) C_.1 C_.2.1 dL_refusesAny_13 rfl hl (by decide) rfl (fun ls hl => ?_)
  refine lv_iload_n C_.1 C_.2.1 dL_refusesAny_14 rfl (lv_at hl 2 rfl) ?_
  refine lj_if_ne (tgt := 22) C_.1 C_.2.1 ⟨by decide, by decide⟩ dL_refusesAny_15 (by decide) (fun q => by omega) (fun _ => ?_)
  refine lv_iconst (v := jI (-1)) C_.1 C_.2.1 dL_refusesAny_18 rfl ?_
  refine lv_goto (tgt := 24) C_.1 C_.2.1 dL_refusesAny_19 (by decide) ?_
  refine lv_istore_n (lv' := [(3, .int (jI (-1))), (2, .int (jI (-1))), (0, .ref B), (1, .int (jI 0))]) C_.1 C_.2.1 dL_refusesAny_24 rfl hl (by decide) rfl (fun ls hl => ?_)
  refine lv_aload_n C_.1 C_.2.1 dL_refusesAny_25 rfl (lv_at hl 2 rfl) ?_
  refine lv_iload_n C_.1 C_.2.1 dL_refusesAny_26 rfl (lv_at hl 0 rfl) ?_
  refine lv_iconst (v := jI 0) C_.1 C_.2.1 dL_refusesAny_27 rfl ?_
  refine lv_iconst (v := jI 0) C_.1 C_.2.1 dL_refusesAny_28 rfl ?_
  refine lq_set C_ hf hcs (zSet_no (by omega)) hI ⟨by decide, by decide⟩ ⟨by decide, by decide⟩ ⟨by decide, by decide⟩ hl.1 (Nat.le_of_ble_eq_true rfl) dL_refusesAny_29 (fun H locs hI => ?_)
  refine lv_sipush (v := jI (-1002)) C_.1 C_.2.1 dL_refusesAny_32 (by decide) ?_
  refine lj_ne (tgt := 252) C_.1 C_.2.1 ⟨by decide, by decide⟩ ⟨by decide, by decide⟩ dL_refusesAny_35 (by decide) (fun q => by omega) (fun _ => ?_)
  refine lv_aload_n C_.1 C_.2.1 dL_refusesAny_38 rfl (lv_at hl 2 rfl) ?_
  refine lv_ldc (own := R_law) (v := jI 99999) C_.1 C_.2.1 C_.2.2.2.2.1 (C_.2.2.2.2.2.1 _ wk_39) dL_refusesAny_39 ?_
  refine lv_iload_n C_.1 C_.2.1 dL_refusesAny_41 rfl (lv_at hl 3 rfl) ?_
  refine lj_if_ne (tgt := 49) C_.1 C_.2.1 ⟨by decide, by decide⟩ dL_refusesAny_42 (by decide) (fun q => by omega) (fun _ => ?_)
  refine lv_iconst (v := jI (-1)) C_.1 C_.2.1 dL_refusesAny_45 rfl ?_
  refine lv_goto (tgt := 52) C_.1 C_.2.1 dL_refusesAny_46 (by decide) ?_
  refine lv_iconst (v := jI 0) C_.1 C_.2.1 dL_refusesAny_52 rfl ?_
  refine lq_set C_ hf hcs (zSet_no (by omega)) hI ⟨by decide, by decide⟩ ⟨by decide, by decide⟩ ⟨by decide, by decide⟩ hl.1 (Nat.le_of_ble_eq_true rfl) dL_refusesAny_53 (fun H locs hI => ?_)
  refine lv_sipush (v := jI (-1002)) C_.1 C_.2.1 dL_refusesAny_56 (by decide) ?_
  refine lj_ne (tgt := 252) C_.1 C_.2.1 ⟨by decide, by decide⟩ ⟨by decide, by decide⟩ dL_refusesAny_59 (by decide) (fun q => by omega) (fun _ => ?_)
  refine lv_aload_n C_.1 C_.2.1 dL_refusesAny_62 rfl (lv_at hl 2 rfl) ?_
  refine lv_ldc (own := R_law) (v := jI 99999) C_.1 C_.2.1 C_.2.2.2.2.1 (C_.2.2.2.2.2.1 _ wk_39) dL_refusesAny_63 ?_
  refine lv_iconst (v := jI 0) C_.1 C_.2.1 dL_refusesAny_65 rfl ?_
  refine lv_iload_n C_.1 C_.2.1 dL_refusesAny_66 rfl (lv_at hl 3 rfl) ?_
  refine lj_if_ne (tgt := 74) C_.1 C_.2.1 ⟨by decide, by decide⟩ dL_refusesAny_67 (by decide) (fun q => by omega) (fun _ => ?_)
  refine lv_iconst (v := jI (-1)) C_.1 C_.2.1 dL_refusesAny_70 rfl ?_
  refine lv_goto (tgt := 75) C_.1 C_.2.1 dL_refusesAny_71 (by decide) ?_
  refine lq_set C_ hf hcs (zSet_no (by omega)) hI ⟨by decide, by decide⟩ ⟨by decide, by decide⟩ ⟨by decide, by decide⟩ hl.1 (Nat.le_of_ble_eq_true rfl) dL_refusesAny_75 (fun H locs hI => ?_)
  refine lv_sipush (v := jI (-1002)) C_.1 C_.2.1 dL_refusesAny_78 (by decide) ?_
  refine lj_ne (tgt := 252) C_.1 C_.2.1 ⟨by decide, by decide⟩ ⟨by decide, by decide⟩ dL_refusesAny_81 (by decide) (fun q => by omega) (fun _ => ?_)
  refine lv_aload_n C_.1 C_.2.1 dL_refusesAny_84 rfl (lv_at hl 2 rfl) ?_
  refine lv_iload_n C_.1 C_.2.1 dL_refusesAny_85 rfl (lv_at hl 1 rfl) ?_
  refine lq_cancel C_ hf hcs (zCan_no (lkp_neg hz.1)) hI ⟨by decide, by decide⟩ hl.1 (Nat.le_of_ble_eq_true rfl) dL_refusesAny_86 (fun H locs hI => ?_)
  refine lv_sipush (v := jI (-1001)) C_.1 C_.2.1 dL_refusesAny_89 (by decide) ?_
  refine lj_ne (tgt := 252) C_.1 C_.2.1 ⟨by decide, by decide⟩ ⟨by decide, by decide⟩ dL_refusesAny_92 (by decide) (fun q => by omega) (fun _ => ?_)
  refine lv_aload_n C_.1 C_.2.1 dL_refusesAny_95 rfl (lv_at hl 2 rfl) ?_
  refine lv_iload_n C_.1 C_.2.1 dL_refusesAny_96 rfl (lv_at hl 1 rfl) ?_
  refine lv_iload_n C_.1 C_.2.1 dL_refusesAny_97 rfl (lv_at hl 0 rfl) ?_
  refine lq_move C_ hf hcs (zMov_no (lkp_neg hz.1)) hI ⟨by decide, by decide⟩ ⟨by decide, by decide⟩ hl.1 (Nat.le_of_ble_eq_true rfl) dL_refusesAny_98 (fun H locs hI => ?_)
  refine lv_sipush (v := jI (-1001)) C_.1 C_.2.1 dL_refusesAny_101 (by decide) ?_
  refine lj_ne (tgt := 252) C_.1 C_.2.1 ⟨by decide, by decide⟩ ⟨by decide, by decide⟩ dL_refusesAny_104 (by decide) (fun q => by omega) (fun _ => ?_)
  refine lv_aload_n C_.1 C_.2.1 dL_refusesAny_107 rfl (lv_at hl 2 rfl) ?_
  refine lv_iload_n C_.1 C_.2.1 dL_refusesAny_108 rfl (lv_at hl 3 rfl) ?_
  refine lj_if_ne (tgt := 116) C_.1 C_.2.1 ⟨by decide, by decide⟩ dL_refusesAny_109 (by decide) (fun q => by omega) (fun _ => ?_)
  refine lv_iconst (v := jI 0) C_.1 C_.2.1 dL_refusesAny_112 rfl ?_
  refine lv_goto (tgt := 117) C_.1 C_.2.1 dL_refusesAny_113 (by decide) ?_
  refine lq_setComparers C_ hf hcs (zCmp_no (by omega)) hI ⟨by decide, by decide⟩ hl.1 (Nat.le_of_ble_eq_true rfl) dL_refusesAny_117 (fun H locs hI => ?_)
  refine lv_sipush (v := jI (-1002)) C_.1 C_.2.1 dL_refusesAny_120 (by decide) ?_
  refine lj_ne (tgt := 252) C_.1 C_.2.1 ⟨by decide, by decide⟩ ⟨by decide, by decide⟩ dL_refusesAny_123 (by decide) (fun q => by omega) (fun _ => ?_)
  refine lv_aload_n C_.1 C_.2.1 dL_refusesAny_126 rfl (lv_at hl 2 rfl) ?_
  refine lv_iload_n C_.1 C_.2.1 dL_refusesAny_127 rfl (lv_at hl 3 rfl) ?_
  refine lj_if_ne (tgt := 135) C_.1 C_.2.1 ⟨by decide, by decide⟩ dL_refusesAny_128 (by decide) (fun q => by omega) (fun _ => ?_)
  refine lv_iconst (v := jI (-1)) C_.1 C_.2.1 dL_refusesAny_131 rfl ?_
  refine lv_goto (tgt := 137) C_.1 C_.2.1 dL_refusesAny_132 (by decide) ?_
  refine lq_setWindow C_ hf hcs (zWin_no (by omega)) hI ⟨by decide, by decide⟩ hl.1 (Nat.le_of_ble_eq_true rfl) dL_refusesAny_137 (fun H locs hI => ?_)
  refine lv_sipush (v := jI (-1002)) C_.1 C_.2.1 dL_refusesAny_140 (by decide) ?_
  refine lj_ne (tgt := 252) C_.1 C_.2.1 ⟨by decide, by decide⟩ ⟨by decide, by decide⟩ dL_refusesAny_143 (by decide) (fun q => by omega) (fun _ => ?_)
  refine lv_aload_n C_.1 C_.2.1 dL_refusesAny_146 rfl (lv_at hl 2 rfl) ?_
  refine lv_iload_n C_.1 C_.2.1 dL_refusesAny_147 rfl (lv_at hl 3 rfl) ?_
  refine lj_if_ne (tgt := 155) C_.1 C_.2.1 ⟨by decide, by decide⟩ dL_refusesAny_148 (by decide) (fun q => by omega) (fun _ => ?_)
  refine lv_iconst (v := jI (-1)) C_.1 C_.2.1 dL_refusesAny_151 rfl ?_
  refine lv_goto (tgt := 157) C_.1 C_.2.1 dL_refusesAny_152 (by decide) ?_
  refine lq_setLoading C_ hf hcs (zLoa_no (by omega)) hI ⟨by decide, by decide⟩ hl.1 (Nat.le_of_ble_eq_true rfl) dL_refusesAny_157 (fun H locs hI => ?_)
  refine lv_sipush (v := jI (-1002)) C_.1 C_.2.1 dL_refusesAny_160 (by decide) ?_
  refine lj_ne (tgt := 252) C_.1 C_.2.1 ⟨by decide, by decide⟩ ⟨by decide, by decide⟩ dL_refusesAny_163 (by decide) (fun q => by omega) (fun _ => ?_)
  refine lv_aload_n C_.1 C_.2.1 dL_refusesAny_166 rfl (lv_at hl 2 rfl) ?_
  refine lv_iload_n C_.1 C_.2.1 dL_refusesAny_167 rfl (lv_at hl 3 rfl) ?_
  refine lj_if_ne (tgt := 175) C_.1 C_.2.1 ⟨by decide, by decide⟩ dL_refusesAny_168 (by decide) (fun q => by omega) (fun _ => ?_)
  refine lv_iconst (v := jI (-1)) C_.1 C_.2.1 dL_refusesAny_171 rfl ?_
  refine lv_goto (tgt := 176) C_.1 C_.2.1 dL_refusesAny_172 (by decide) ?_
  refine lq_setDrift C_ hf hcs (zDri_no (by omega)) hI ⟨by decide, by decide⟩ hl.1 (Nat.le_of_ble_eq_true rfl) dL_refusesAny_176 (fun H locs hI => ?_)
  refine lv_sipush (v := jI (-1002)) C_.1 C_.2.1 dL_refusesAny_179 (by decide) ?_
  refine lj_ne (tgt := 252) C_.1 C_.2.1 ⟨by decide, by decide⟩ ⟨by decide, by decide⟩ dL_refusesAny_182 (by decide) (fun q => by omega) (fun _ => ?_)
  refine lv_aload_n C_.1 C_.2.1 dL_refusesAny_185 rfl (lv_at hl 2 rfl) ?_
  refine lv_iload_n C_.1 C_.2.1 dL_refusesAny_186 rfl (lv_at hl 3 rfl) ?_
  refine lj_if_ne (tgt := 196) C_.1 C_.2.1 ⟨by decide, by decide⟩ dL_refusesAny_187 (by decide) (fun q => by omega) (fun _ => ?_)
  refine lv_sipush (v := jI (-1000)) C_.1 C_.2.1 dL_refusesAny_190 (by decide) ?_
  refine lv_goto (tgt := 199) C_.1 C_.2.1 dL_refusesAny_193 (by decide) ?_
  refine lq_setDrift C_ hf hcs (zDri_no (by omega)) hI ⟨by decide, by decide⟩ hl.1 (Nat.le_of_ble_eq_true rfl) dL_refusesAny_199 (fun H locs hI => ?_)
  refine lv_sipush (v := jI (-1002)) C_.1 C_.2.1 dL_refusesAny_202 (by decide) ?_
  refine lj_ne (tgt := 252) C_.1 C_.2.1 ⟨by decide, by decide⟩ ⟨by decide, by decide⟩ dL_refusesAny_205 (by decide) (fun q => by omega) (fun _ => ?_)
  refine lv_aload_n C_.1 C_.2.1 dL_refusesAny_208 rfl (lv_at hl 2 rfl) ?_
  refine lv_iload_n C_.1 C_.2.1 dL_refusesAny_209 rfl (lv_at hl 3 rfl) ?_
  refine lj_if_ne (tgt := 219) C_.1 C_.2.1 ⟨by decide, by decide⟩ dL_refusesAny_210 (by decide) (fun q => by omega) (fun _ => ?_)
  refine lv_sipush (v := jI (-1000)) C_.1 C_.2.1 dL_refusesAny_213 (by decide) ?_
  refine lv_goto (tgt := 222) C_.1 C_.2.1 dL_refusesAny_216 (by decide) ?_
  refine lq_correct C_ hf hcs (zCor_no (by omega)) hI ⟨by decide, by decide⟩ hl.1 (Nat.le_of_ble_eq_true rfl) dL_refusesAny_222 (fun H locs hI => ?_)
  refine lv_sipush (v := jI (-1002)) C_.1 C_.2.1 dL_refusesAny_225 (by decide) ?_
  refine lj_ne (tgt := 252) C_.1 C_.2.1 ⟨by decide, by decide⟩ ⟨by decide, by decide⟩ dL_refusesAny_228 (by decide) (fun q => by omega) (fun _ => ?_)
  refine lv_aload_n C_.1 C_.2.1 dL_refusesAny_231 rfl (lv_at hl 2 rfl) ?_
  refine lv_iload_n C_.1 C_.2.1 dL_refusesAny_232 rfl (lv_at hl 3 rfl) ?_
  refine lj_if_ne (tgt := 240) C_.1 C_.2.1 ⟨by decide, by decide⟩ dL_refusesAny_233 (by decide) (fun q => by omega) (fun _ => ?_)
  refine lv_iconst (v := jI 0) C_.1 C_.2.1 dL_refusesAny_236 rfl ?_
  refine lv_goto (tgt := 243) C_.1 C_.2.1 dL_refusesAny_237 (by decide) ?_
  refine lq_run C_ hf hcs hj (zRun_no (by omega)) hI ⟨by decide, by decide⟩ hl.1 (Nat.le_of_ble_eq_true rfl) dL_refusesAny_243 (fun H locs hI => ?_)
  refine lv_sipush (v := jI (-1002)) C_.1 C_.2.1 dL_refusesAny_246 (by decide) ?_
  refine lj_eq (tgt := 254) C_.1 C_.2.1 ⟨by decide, by decide⟩ ⟨by decide, by decide⟩ dL_refusesAny_249 (by decide) (fun _ => ?_) (fun q => by omega)
  refine lv_aload_n C_.1 C_.2.1 dL_refusesAny_254 rfl (lv_at hl 2 rfl) ?_
  refine lv_iload_n C_.1 C_.2.1 dL_refusesAny_255 rfl (lv_at hl 1 rfl) ?_
  refine lv_bipush (v := jI 9) C_.1 C_.2.1 dL_refusesAny_256 (by decide) ?_
  refine lq_alarm C_ hf hcs (zAla_no (lkp_neg hz.1)) hI ⟨by decide, by decide⟩ ⟨by decide, by decide⟩ hl.1 (Nat.le_of_ble_eq_true rfl) dL_refusesAny_258 (fun H locs hI => ?_)
  refine lv_sipush (v := jI (-1001)) C_.1 C_.2.1 dL_refusesAny_261 (by decide) ?_
  refine lj_ne (tgt := 481) C_.1 C_.2.1 ⟨by decide, by decide⟩ ⟨by decide, by decide⟩ dL_refusesAny_264 (by decide) (fun q => by omega) (fun _ => ?_)
  refine lv_aload_n C_.1 C_.2.1 dL_refusesAny_267 rfl (lv_at hl 2 rfl) ?_
  refine lv_iload_n C_.1 C_.2.1 dL_refusesAny_268 rfl (lv_at hl 3 rfl) ?_
  refine lj_if_ne (tgt := 276) C_.1 C_.2.1 ⟨by decide, by decide⟩ dL_refusesAny_269 (by decide) (fun q => by omega) (fun _ => ?_)
  refine lv_iconst (v := jI (-1)) C_.1 C_.2.1 dL_refusesAny_272 rfl ?_
  refine lv_goto (tgt := 282) C_.1 C_.2.1 dL_refusesAny_273 (by decide) ?_
  refine lv_bipush (v := jI 9) C_.1 C_.2.1 dL_refusesAny_282 (by decide) ?_
  refine lq_comparer C_ hf hcs (zCpr_no (by omega)) hI ⟨by decide, by decide⟩ ⟨by decide, by decide⟩ hl.1 (Nat.le_of_ble_eq_true rfl) dL_refusesAny_284 (fun H locs hI => ?_)
  refine lv_sipush (v := jI (-1001)) C_.1 C_.2.1 dL_refusesAny_287 (by decide) ?_
  refine lj_ne (tgt := 481) C_.1 C_.2.1 ⟨by decide, by decide⟩ ⟨by decide, by decide⟩ dL_refusesAny_290 (by decide) (fun q => by omega) (fun _ => ?_)
  refine lv_aload_n C_.1 C_.2.1 dL_refusesAny_293 rfl (lv_at hl 2 rfl) ?_
  refine lv_iconst (v := jI 0) C_.1 C_.2.1 dL_refusesAny_294 rfl ?_
  refine lv_iload_n C_.1 C_.2.1 dL_refusesAny_295 rfl (lv_at hl 3 rfl) ?_
  refine lj_if_ne (tgt := 303) C_.1 C_.2.1 ⟨by decide, by decide⟩ dL_refusesAny_296 (by decide) (fun q => by omega) (fun _ => ?_)
  refine lv_iconst (v := jI (-1)) C_.1 C_.2.1 dL_refusesAny_299 rfl ?_
  refine lv_goto (tgt := 304) C_.1 C_.2.1 dL_refusesAny_300 (by decide) ?_
  refine lq_comparer C_ hf hcs (zCpr_b (by omega) (by omega)) hI ⟨by decide, by decide⟩ ⟨by decide, by decide⟩ hl.1 (Nat.le_of_ble_eq_true rfl) dL_refusesAny_304 (fun H locs hI => ?_)
  refine lv_sipush (v := jI (-1002)) C_.1 C_.2.1 dL_refusesAny_307 (by decide) ?_
  refine lj_ne (tgt := 481) C_.1 C_.2.1 ⟨by decide, by decide⟩ ⟨by decide, by decide⟩ dL_refusesAny_310 (by decide) (fun q => by omega) (fun _ => ?_)
  refine lv_aload_n C_.1 C_.2.1 dL_refusesAny_313 rfl (lv_at hl 2 rfl) ?_
  refine lv_iconst (v := jI (-1)) C_.1 C_.2.1 dL_refusesAny_314 rfl ?_
  refine lv_iload_n C_.1 C_.2.1 dL_refusesAny_315 rfl (lv_at hl 3 rfl) ?_
  refine lj_sub (v := (-1)) C_.1 C_.2.1 (by decide) dL_refusesAny_316 ?_
  refine lq_at C_ hf hcs (zAt_no (by omega)) hI ⟨by decide, by decide⟩ hl.1 (Nat.le_of_ble_eq_true rfl) dL_refusesAny_317 (fun H locs hI => ?_)
  refine lv_sipush (v := jI (-1002)) C_.1 C_.2.1 dL_refusesAny_320 (by decide) ?_
  refine lj_ne (tgt := 481) C_.1 C_.2.1 ⟨by decide, by decide⟩ ⟨by decide, by decide⟩ dL_refusesAny_323 (by decide) (fun q => by omega) (fun _ => ?_)
  refine lv_aload_n C_.1 C_.2.1 dL_refusesAny_326 rfl (lv_at hl 2 rfl) ?_
  refine lv_iload_n C_.1 C_.2.1 dL_refusesAny_327 rfl (lv_at hl 1 rfl) ?_
  refine lq_ringsIn C_ hf hcs (zRin_no (lkp_neg hz.1)) hI ⟨by decide, by decide⟩ hl.1 (Nat.le_of_ble_eq_true rfl) dL_refusesAny_328 (fun H locs hI => ?_)
  refine lv_sipush (v := jI (-1001)) C_.1 C_.2.1 dL_refusesAny_331 (by decide) ?_
  refine lj_ne (tgt := 481) C_.1 C_.2.1 ⟨by decide, by decide⟩ ⟨by decide, by decide⟩ dL_refusesAny_334 (by decide) (fun q => by omega) (fun _ => ?_)
  refine lv_aload_n C_.1 C_.2.1 dL_refusesAny_337 rfl (lv_at hl 2 rfl) ?_
  refine lv_iload_n C_.1 C_.2.1 dL_refusesAny_338 rfl (lv_at hl 3 rfl) ?_
  refine lj_if_ne (tgt := 346) C_.1 C_.2.1 ⟨by decide, by decide⟩ dL_refusesAny_339 (by decide) (fun q => by omega) (fun _ => ?_)
  refine lv_iconst (v := jI 0) C_.1 C_.2.1 dL_refusesAny_342 rfl ?_
  refine lv_goto (tgt := 347) C_.1 C_.2.1 dL_refusesAny_343 (by decide) ?_
  refine lv_iconst (v := jI 1) C_.1 C_.2.1 dL_refusesAny_347 rfl ?_
  refine lv_iconst (v := jI 0) C_.1 C_.2.1 dL_refusesAny_348 rfl ?_
  refine lq_ifComparers C_ hf hcs (zIfc_no (by omega)) hI ⟨by decide, by decide⟩ ⟨by decide, by decide⟩ ⟨by decide, by decide⟩ hl.1 (Nat.le_of_ble_eq_true rfl) dL_refusesAny_349 (fun H locs hI => ?_)
  refine lv_sipush (v := jI (-1002)) C_.1 C_.2.1 dL_refusesAny_352 (by decide) ?_
  refine lj_ne (tgt := 481) C_.1 C_.2.1 ⟨by decide, by decide⟩ ⟨by decide, by decide⟩ dL_refusesAny_355 (by decide) (fun q => by omega) (fun _ => ?_)
  refine lv_aload_n C_.1 C_.2.1 dL_refusesAny_358 rfl (lv_at hl 2 rfl) ?_
  refine lv_iconst (v := jI 1) C_.1 C_.2.1 dL_refusesAny_359 rfl ?_
  refine lv_iload_n C_.1 C_.2.1 dL_refusesAny_360 rfl (lv_at hl 3 rfl) ?_
  refine lj_if_ne (tgt := 368) C_.1 C_.2.1 ⟨by decide, by decide⟩ dL_refusesAny_361 (by decide) (fun q => by omega) (fun _ => ?_)
  refine lv_iconst (v := jI 0) C_.1 C_.2.1 dL_refusesAny_364 rfl ?_
  refine lv_goto (tgt := 371) C_.1 C_.2.1 dL_refusesAny_365 (by decide) ?_
  refine lv_iconst (v := jI 0) C_.1 C_.2.1 dL_refusesAny_371 rfl ?_
  refine lq_ifComparers C_ hf hcs (zIfc_no (by omega)) hI ⟨by decide, by decide⟩ ⟨by decide, by decide⟩ ⟨by decide, by decide⟩ hl.1 (Nat.le_of_ble_eq_true rfl) dL_refusesAny_372 (fun H locs hI => ?_)
  refine lv_sipush (v := jI (-1002)) C_.1 C_.2.1 dL_refusesAny_375 (by decide) ?_
  refine lj_ne (tgt := 481) C_.1 C_.2.1 ⟨by decide, by decide⟩ ⟨by decide, by decide⟩ dL_refusesAny_378 (by decide) (fun q => by omega) (fun _ => ?_)
  refine lv_aload_n C_.1 C_.2.1 dL_refusesAny_381 rfl (lv_at hl 2 rfl) ?_
  refine lv_iconst (v := jI 1) C_.1 C_.2.1 dL_refusesAny_382 rfl ?_
  refine lv_iconst (v := jI 1) C_.1 C_.2.1 dL_refusesAny_383 rfl ?_
  refine lv_iload_n C_.1 C_.2.1 dL_refusesAny_384 rfl (lv_at hl 3 rfl) ?_
  refine lj_if_ne (tgt := 392) C_.1 C_.2.1 ⟨by decide, by decide⟩ dL_refusesAny_385 (by decide) (fun q => by omega) (fun _ => ?_)
  refine lv_iconst (v := jI (-1)) C_.1 C_.2.1 dL_refusesAny_388 rfl ?_
  refine lv_goto (tgt := 393) C_.1 C_.2.1 dL_refusesAny_389 (by decide) ?_
  refine lq_ifComparers C_ hf hcs (zIfc_no (by omega)) hI ⟨by decide, by decide⟩ ⟨by decide, by decide⟩ ⟨by decide, by decide⟩ hl.1 (Nat.le_of_ble_eq_true rfl) dL_refusesAny_393 (fun H locs hI => ?_)
  refine lv_sipush (v := jI (-1002)) C_.1 C_.2.1 dL_refusesAny_396 (by decide) ?_
  refine lj_ne (tgt := 481) C_.1 C_.2.1 ⟨by decide, by decide⟩ ⟨by decide, by decide⟩ dL_refusesAny_399 (by decide) (fun q => by omega) (fun _ => ?_)
  refine lv_aload_n C_.1 C_.2.1 dL_refusesAny_402 rfl (lv_at hl 2 rfl) ?_
  refine lv_iload_n C_.1 C_.2.1 dL_refusesAny_403 rfl (lv_at hl 3 rfl) ?_
  refine lj_if_ne (tgt := 411) C_.1 C_.2.1 ⟨by decide, by decide⟩ dL_refusesAny_404 (by decide) (fun q => by omega) (fun _ => ?_)
  refine lv_iconst (v := jI 0) C_.1 C_.2.1 dL_refusesAny_407 rfl ?_
  refine lv_goto (tgt := 414) C_.1 C_.2.1 dL_refusesAny_408 (by decide) ?_
  refine lq_fewest C_ hf hcs (zFew_no (by omega)) hI ⟨by decide, by decide⟩ hl.1 (Nat.le_of_ble_eq_true rfl) dL_refusesAny_414 (fun H locs hI => ?_)
  refine lv_sipush (v := jI (-1002)) C_.1 C_.2.1 dL_refusesAny_417 (by decide) ?_
  refine lj_ne (tgt := 481) C_.1 C_.2.1 ⟨by decide, by decide⟩ ⟨by decide, by decide⟩ dL_refusesAny_420 (by decide) (fun q => by omega) (fun _ => ?_)
  refine lv_aload_n C_.1 C_.2.1 dL_refusesAny_423 rfl (lv_at hl 2 rfl) ?_
  refine lv_iconst (v := jI (-1)) C_.1 C_.2.1 dL_refusesAny_424 rfl ?_
  refine lv_iload_n C_.1 C_.2.1 dL_refusesAny_425 rfl (lv_at hl 3 rfl) ?_
  refine lj_sub (v := (-1)) C_.1 C_.2.1 (by decide) dL_refusesAny_426 ?_
  refine lv_iconst (v := jI 0) C_.1 C_.2.1 dL_refusesAny_427 rfl ?_
  refine lq_ring C_ hf hcs (zRng_no (by omega)) hI ⟨by decide, by decide⟩ ⟨by decide, by decide⟩ hl.1 (Nat.le_of_ble_eq_true rfl) dL_refusesAny_428 (fun H locs hI => ?_)
  refine lv_sipush (v := jI (-1002)) C_.1 C_.2.1 dL_refusesAny_431 (by decide) ?_
  refine lj_ne (tgt := 481) C_.1 C_.2.1 ⟨by decide, by decide⟩ ⟨by decide, by decide⟩ dL_refusesAny_434 (by decide) (fun q => by omega) (fun _ => ?_)
  refine lv_aload_n C_.1 C_.2.1 dL_refusesAny_437 rfl (lv_at hl 2 rfl) ?_
  refine lv_iconst (v := jI 0) C_.1 C_.2.1 dL_refusesAny_438 rfl ?_
  refine lv_iload_n C_.1 C_.2.1 dL_refusesAny_439 rfl (lv_at hl 3 rfl) ?_
  refine lj_if_ne (tgt := 447) C_.1 C_.2.1 ⟨by decide, by decide⟩ dL_refusesAny_440 (by decide) (fun q => by omega) (fun _ => ?_)
  refine lv_iconst (v := jI (-1)) C_.1 C_.2.1 dL_refusesAny_443 rfl ?_
  refine lv_goto (tgt := 448) C_.1 C_.2.1 dL_refusesAny_444 (by decide) ?_
  refine lq_ring C_ hf hcs (zRng_no (by omega)) hI ⟨by decide, by decide⟩ ⟨by decide, by decide⟩ hl.1 (Nat.le_of_ble_eq_true rfl) dL_refusesAny_448 (fun H locs hI => ?_)
  refine lv_sipush (v := jI (-1002)) C_.1 C_.2.1 dL_refusesAny_451 (by decide) ?_
  refine lj_ne (tgt := 481) C_.1 C_.2.1 ⟨by decide, by decide⟩ ⟨by decide, by decide⟩ dL_refusesAny_454 (by decide) (fun q => by omega) (fun _ => ?_)
  refine lv_aload_n C_.1 C_.2.1 dL_refusesAny_457 rfl (lv_at hl 2 rfl) ?_
  refine lv_iload_n C_.1 C_.2.1 dL_refusesAny_458 rfl (lv_at hl 3 rfl) ?_
  refine lj_if_ne (tgt := 466) C_.1 C_.2.1 ⟨by decide, by decide⟩ dL_refusesAny_459 (by decide) (fun q => by omega) (fun _ => ?_)
  refine lv_iconst (v := jI (-1)) C_.1 C_.2.1 dL_refusesAny_462 rfl ?_
  refine lv_goto (tgt := 468) C_.1 C_.2.1 dL_refusesAny_463 (by decide) ?_
  refine lq_count C_ hf hcs (zCnt_no (by omega)) hI ⟨by decide, by decide⟩ hl.1 (Nat.le_of_ble_eq_true rfl) dL_refusesAny_468 (fun H locs hI => ?_)
  refine lv_sipush (v := jI (-1002)) C_.1 C_.2.1 dL_refusesAny_471 (by decide) ?_
  refine lj_ne (tgt := 481) C_.1 C_.2.1 ⟨by decide, by decide⟩ ⟨by decide, by decide⟩ dL_refusesAny_474 (by decide) (fun q => by omega) (fun _ => ?_)
  refine lv_iconst (v := jI 1) C_.1 C_.2.1 dL_refusesAny_477 rfl ?_
  refine lv_goto (tgt := 482) C_.1 C_.2.1 dL_refusesAny_478 (by decide) ?_
  exact lk_zend C_ hI.2.1 hI.1 dL_refusesAny_482
set_option maxHeartbeats 4000000 in
theorem met_refA1 {l : Launch} {D : va_G} {aC : Nat → Nat} {B : Nat} {Z : Zst} {j : Nat} (hz : ZJ Z j) (hj : j + 1 ≤ 9000) : Met l yL_refusesAny (lWs yL_refusesAny cL_refusesAny 4 (some .boolean)) (rmL 8 0 0) (va_Pc [.ref B, .int (jI 1)] (fun U => oB D aC B Z U.heap ∧ cx_V D aC U)) (qI (fun x => x = jI 1) (oB D aC B Z) (fun q => q ∈ LA B)) 0 0 (fun q => q ∈ LA B) := by
  refine lk_met (P := oB D aC B Z) (by decide +kernel) rfl (Nat.le_of_ble_eq_true rfl) (fun p e s m args below meth c ls C_ hl hO => ?_)
  have hl : lv_has ls 4 [(0, .ref B), (1, .int (jI 1))] := hl
  have hf : 8 ≤ (rmL 8 0 0).frames ∧ 304 ≤ (rmL 8 0 0).locals := ⟨by decide, by decide⟩
  have hcs : 0 ≤ (rmL 8 0 0).cells ∧ 0 ≤ (rmL 8 0 0).slots := ⟨by decide, by decide⟩
  have hI : oI D aC B (fun q => q ∈ LA B) (fun _ => True) s.heap s.heap [] Z j := ⟨hO, va_S.rf, hz, trivial, stab_t, fun q h => h⟩
  have hs := hz.1.1.1.1
  unfold SI at hs
  refine lv_iload_n C_.1 C_.2.1 dL_refusesAny_0 rfl (lv_at hl 1 rfl) ?_
  refine lj_if_ne (tgt := 8) C_.1 C_.2.1 ⟨by decide, by decide⟩ dL_refusesAny_1 (by decide) (fun _ => ?_) (fun q => by omega)
  refine lv_aload_n C_.1 C_.2.1 dL_refusesAny_8 rfl (lv_at hl 0 rfl) ?_
  refine lv_iconst (v := jI 3) C_.1 C_.2.1 dL_refusesAny_9 rfl ?_
  refine lk_count C_ hf hcs hI ⟨by decide, by decide⟩ hl.1 (Nat.le_of_ble_eq_true rfl) dL_refusesAny_10 (fun H locs hI => ?_)
  rw [zCnt_3]
  refine lv_istore_n (lv' := [(2, .int (jI (Z.1.1 6))), (0, .ref B), (1, .int (jI 1))]) C_.1 C_.2.1 dL_refusesAny_13 rfl hl (by decide) rfl (fun ls hl => ?_)
  refine lv_iload_n C_.1 C_.2.1 dL_refusesAny_14 rfl (lv_at hl 2 rfl) ?_
  refine lj_if_ne (tgt := 22) C_.1 C_.2.1 ⟨by decide, by decide⟩ dL_refusesAny_15 (by decide) (fun _ => ?_) (fun q => by omega)
  refine lv_ldc (own := R_law) (v := jI 100000) C_.1 C_.2.1 C_.2.2.2.2.1 (C_.2.2.2.2.2.1 _ wk_32) dL_refusesAny_22 ?_
  refine lv_istore_n (lv' := [(3, .int (jI 100000)), (2, .int (jI (Z.1.1 6))), (0, .ref B), (1, .int (jI 1))]) C_.1 C_.2.1 dL_refusesAny_24 rfl hl (by decide) rfl (fun ls hl => ?_)
  refine lv_aload_n C_.1 C_.2.1 dL_refusesAny_25 rfl (lv_at hl 2 rfl) ?_
  refine lv_iload_n C_.1 C_.2.1 dL_refusesAny_26 rfl (lv_at hl 0 rfl) ?_
  refine lv_iconst (v := jI 0) C_.1 C_.2.1 dL_refusesAny_27 rfl ?_
  refine lv_iconst (v := jI 0) C_.1 C_.2.1 dL_refusesAny_28 rfl ?_
  refine lq_set C_ hf hcs (zSet_no (by omega)) hI ⟨by decide, by decide⟩ ⟨by decide, by decide⟩ ⟨by decide, by decide⟩ hl.1 (Nat.le_of_ble_eq_true rfl) dL_refusesAny_29 (fun H locs hI => ?_)
  refine lv_sipush (v := jI (-1002)) C_.1 C_.2.1 dL_refusesAny_32 (by decide) ?_
  refine lj_ne (tgt := 252) C_.1 C_.2.1 ⟨by decide, by decide⟩ ⟨by decide, by decide⟩ dL_refusesAny_35 (by decide) (fun q => by omega) (fun _ => ?_)
  refine lv_aload_n C_.1 C_.2.1 dL_refusesAny_38 rfl (lv_at hl 2 rfl) ?_
  refine lv_ldc (own := R_law) (v := jI 99999) C_.1 C_.2.1 C_.2.2.2.2.1 (C_.2.2.2.2.2.1 _ wk_39) dL_refusesAny_39 ?_
  refine lv_iload_n C_.1 C_.2.1 dL_refusesAny_41 rfl (lv_at hl 3 rfl) ?_
  refine lj_if_ne (tgt := 49) C_.1 C_.2.1 ⟨by decide, by decide⟩ dL_refusesAny_42 (by decide) (fun _ => ?_) (fun q => by omega)
  refine lv_sipush (v := jI 10000) C_.1 C_.2.1 dL_refusesAny_49 (by decide) ?_
  refine lv_iconst (v := jI 0) C_.1 C_.2.1 dL_refusesAny_52 rfl ?_
  refine lq_set C_ hf hcs (zSet_no (by omega)) hI ⟨by decide, by decide⟩ ⟨by decide, by decide⟩ ⟨by decide, by decide⟩ hl.1 (Nat.le_of_ble_eq_true rfl) dL_refusesAny_53 (fun H locs hI => ?_)
  refine lv_sipush (v := jI (-1002)) C_.1 C_.2.1 dL_refusesAny_56 (by decide) ?_
  refine lj_ne (tgt := 252) C_.1 C_.2.1 ⟨by decide, by decide⟩ ⟨by decide, by decide⟩ dL_refusesAny_59 (by decide) (fun q => by omega) (fun _ => ?_)
  refine lv_aload_n C_.1 C_.2.1 dL_refusesAny_62 rfl (lv_at hl 2 rfl) ?_
  refine lv_ldc (own := R_law) (v := jI 99999) C_.1 C_.2.1 C_.2.2.2.2.1 (C_.2.2.2.2.2.1 _ wk_39) dL_refusesAny_63 ?_
  refine lv_iconst (v := jI 0) C_.1 C_.2.1 dL_refusesAny_65 rfl ?_
  refine lv_iload_n C_.1 C_.2.1 dL_refusesAny_66 rfl (lv_at hl 3 rfl) ?_
  refine lj_if_ne (tgt := 74) C_.1 C_.2.1 ⟨by decide, by decide⟩ dL_refusesAny_67 (by decide) (fun _ => ?_) (fun q => by omega)
  refine lv_iconst (v := jI 4) C_.1 C_.2.1 dL_refusesAny_74 rfl ?_
  refine lq_set C_ hf hcs (zSet_no (by omega)) hI ⟨by decide, by decide⟩ ⟨by decide, by decide⟩ ⟨by decide, by decide⟩ hl.1 (Nat.le_of_ble_eq_true rfl) dL_refusesAny_75 (fun H locs hI => ?_)
  refine lv_sipush (v := jI (-1002)) C_.1 C_.2.1 dL_refusesAny_78 (by decide) ?_
  refine lj_ne (tgt := 252) C_.1 C_.2.1 ⟨by decide, by decide⟩ ⟨by decide, by decide⟩ dL_refusesAny_81 (by decide) (fun q => by omega) (fun _ => ?_)
  refine lv_aload_n C_.1 C_.2.1 dL_refusesAny_84 rfl (lv_at hl 2 rfl) ?_
  refine lv_iload_n C_.1 C_.2.1 dL_refusesAny_85 rfl (lv_at hl 1 rfl) ?_
  refine lq_cancel C_ hf hcs (zCan_no (lkp_ever hz.1)) hI ⟨by omega, by omega⟩ hl.1 (Nat.le_of_ble_eq_true rfl) dL_refusesAny_86 (fun H locs hI => ?_)
  refine lv_sipush (v := jI (-1001)) C_.1 C_.2.1 dL_refusesAny_89 (by decide) ?_
  refine lj_ne (tgt := 252) C_.1 C_.2.1 ⟨by decide, by decide⟩ ⟨by decide, by decide⟩ dL_refusesAny_92 (by decide) (fun q => by omega) (fun _ => ?_)
  refine lv_aload_n C_.1 C_.2.1 dL_refusesAny_95 rfl (lv_at hl 2 rfl) ?_
  refine lv_iload_n C_.1 C_.2.1 dL_refusesAny_96 rfl (lv_at hl 1 rfl) ?_
  refine lv_iload_n C_.1 C_.2.1 dL_refusesAny_97 rfl (lv_at hl 0 rfl) ?_
  refine lq_move C_ hf hcs (zMov_no (lkp_ever hz.1)) hI ⟨by omega, by omega⟩ ⟨by decide, by decide⟩ hl.1 (Nat.le_of_ble_eq_true rfl) dL_refusesAny_98 (fun H locs hI => ?_)
  refine lv_sipush (v := jI (-1001)) C_.1 C_.2.1 dL_refusesAny_101 (by decide) ?_
  refine lj_ne (tgt := 252) C_.1 C_.2.1 ⟨by decide, by decide⟩ ⟨by decide, by decide⟩ dL_refusesAny_104 (by decide) (fun q => by omega) (fun _ => ?_)
  refine lv_aload_n C_.1 C_.2.1 dL_refusesAny_107 rfl (lv_at hl 2 rfl) ?_
  refine lv_iload_n C_.1 C_.2.1 dL_refusesAny_108 rfl (lv_at hl 3 rfl) ?_
  refine lj_if_ne (tgt := 116) C_.1 C_.2.1 ⟨by decide, by decide⟩ dL_refusesAny_109 (by decide) (fun _ => ?_) (fun q => by omega)
  refine lv_iconst (v := jI 5) C_.1 C_.2.1 dL_refusesAny_116 rfl ?_
  refine lq_setComparers C_ hf hcs (zCmp_no (by omega)) hI ⟨by decide, by decide⟩ hl.1 (Nat.le_of_ble_eq_true rfl) dL_refusesAny_117 (fun H locs hI => ?_)
  refine lv_sipush (v := jI (-1002)) C_.1 C_.2.1 dL_refusesAny_120 (by decide) ?_
  refine lj_ne (tgt := 252) C_.1 C_.2.1 ⟨by decide, by decide⟩ ⟨by decide, by decide⟩ dL_refusesAny_123 (by decide) (fun q => by omega) (fun _ => ?_)
  refine lv_aload_n C_.1 C_.2.1 dL_refusesAny_126 rfl (lv_at hl 2 rfl) ?_
  refine lv_iload_n C_.1 C_.2.1 dL_refusesAny_127 rfl (lv_at hl 3 rfl) ?_
  refine lj_if_ne (tgt := 135) C_.1 C_.2.1 ⟨by decide, by decide⟩ dL_refusesAny_128 (by decide) (fun _ => ?_) (fun q => by omega)
  refine lv_bipush (v := jI 21) C_.1 C_.2.1 dL_refusesAny_135 (by decide) ?_
  refine lq_setWindow C_ hf hcs (zWin_no (by omega)) hI ⟨by decide, by decide⟩ hl.1 (Nat.le_of_ble_eq_true rfl) dL_refusesAny_137 (fun H locs hI => ?_)
  refine lv_sipush (v := jI (-1002)) C_.1 C_.2.1 dL_refusesAny_140 (by decide) ?_
  refine lj_ne (tgt := 252) C_.1 C_.2.1 ⟨by decide, by decide⟩ ⟨by decide, by decide⟩ dL_refusesAny_143 (by decide) (fun q => by omega) (fun _ => ?_)
  refine lv_aload_n C_.1 C_.2.1 dL_refusesAny_146 rfl (lv_at hl 2 rfl) ?_
  refine lv_iload_n C_.1 C_.2.1 dL_refusesAny_147 rfl (lv_at hl 3 rfl) ?_
  refine lj_if_ne (tgt := 155) C_.1 C_.2.1 ⟨by decide, by decide⟩ dL_refusesAny_148 (by decide) (fun _ => ?_) (fun q => by omega)
  refine lv_bipush (v := jI 10) C_.1 C_.2.1 dL_refusesAny_155 (by decide) ?_
  refine lq_setLoading C_ hf hcs (zLoa_no (by omega)) hI ⟨by decide, by decide⟩ hl.1 (Nat.le_of_ble_eq_true rfl) dL_refusesAny_157 (fun H locs hI => ?_)
  refine lv_sipush (v := jI (-1002)) C_.1 C_.2.1 dL_refusesAny_160 (by decide) ?_
  refine lj_ne (tgt := 252) C_.1 C_.2.1 ⟨by decide, by decide⟩ ⟨by decide, by decide⟩ dL_refusesAny_163 (by decide) (fun q => by omega) (fun _ => ?_)
  refine lv_aload_n C_.1 C_.2.1 dL_refusesAny_166 rfl (lv_at hl 2 rfl) ?_
  refine lv_iload_n C_.1 C_.2.1 dL_refusesAny_167 rfl (lv_at hl 3 rfl) ?_
  refine lj_if_ne (tgt := 175) C_.1 C_.2.1 ⟨by decide, by decide⟩ dL_refusesAny_168 (by decide) (fun _ => ?_) (fun q => by omega)
  refine lv_iconst (v := jI 1) C_.1 C_.2.1 dL_refusesAny_175 rfl ?_
  refine lq_setDrift C_ hf hcs (zDri_no (by omega)) hI ⟨by decide, by decide⟩ hl.1 (Nat.le_of_ble_eq_true rfl) dL_refusesAny_176 (fun H locs hI => ?_)
  refine lv_sipush (v := jI (-1002)) C_.1 C_.2.1 dL_refusesAny_179 (by decide) ?_
  refine lj_ne (tgt := 252) C_.1 C_.2.1 ⟨by decide, by decide⟩ ⟨by decide, by decide⟩ dL_refusesAny_182 (by decide) (fun q => by omega) (fun _ => ?_)
  refine lv_aload_n C_.1 C_.2.1 dL_refusesAny_185 rfl (lv_at hl 2 rfl) ?_
  refine lv_iload_n C_.1 C_.2.1 dL_refusesAny_186 rfl (lv_at hl 3 rfl) ?_
  refine lj_if_ne (tgt := 196) C_.1 C_.2.1 ⟨by decide, by decide⟩ dL_refusesAny_187 (by decide) (fun _ => ?_) (fun q => by omega)
  refine lv_sipush (v := jI 1000) C_.1 C_.2.1 dL_refusesAny_196 (by decide) ?_
  refine lq_setDrift C_ hf hcs (zDri_no (by omega)) hI ⟨by decide, by decide⟩ hl.1 (Nat.le_of_ble_eq_true rfl) dL_refusesAny_199 (fun H locs hI => ?_)
  refine lv_sipush (v := jI (-1002)) C_.1 C_.2.1 dL_refusesAny_202 (by decide) ?_
  refine lj_ne (tgt := 252) C_.1 C_.2.1 ⟨by decide, by decide⟩ ⟨by decide, by decide⟩ dL_refusesAny_205 (by decide) (fun q => by omega) (fun _ => ?_)
  refine lv_aload_n C_.1 C_.2.1 dL_refusesAny_208 rfl (lv_at hl 2 rfl) ?_
  refine lv_iload_n C_.1 C_.2.1 dL_refusesAny_209 rfl (lv_at hl 3 rfl) ?_
  refine lj_if_ne (tgt := 219) C_.1 C_.2.1 ⟨by decide, by decide⟩ dL_refusesAny_210 (by decide) (fun _ => ?_) (fun q => by omega)
  refine lv_sipush (v := jI 1000) C_.1 C_.2.1 dL_refusesAny_219 (by decide) ?_
  refine lq_correct C_ hf hcs (zCor_no (by omega)) hI ⟨by decide, by decide⟩ hl.1 (Nat.le_of_ble_eq_true rfl) dL_refusesAny_222 (fun H locs hI => ?_)
  refine lv_sipush (v := jI (-1002)) C_.1 C_.2.1 dL_refusesAny_225 (by decide) ?_
  refine lj_ne (tgt := 252) C_.1 C_.2.1 ⟨by decide, by decide⟩ ⟨by decide, by decide⟩ dL_refusesAny_228 (by decide) (fun q => by omega) (fun _ => ?_)
  refine lv_aload_n C_.1 C_.2.1 dL_refusesAny_231 rfl (lv_at hl 2 rfl) ?_
  refine lv_iload_n C_.1 C_.2.1 dL_refusesAny_232 rfl (lv_at hl 3 rfl) ?_
  refine lj_if_ne (tgt := 240) C_.1 C_.2.1 ⟨by decide, by decide⟩ dL_refusesAny_233 (by decide) (fun _ => ?_) (fun q => by omega)
  refine lv_sipush (v := jI 1001) C_.1 C_.2.1 dL_refusesAny_240 (by decide) ?_
  refine lq_run C_ hf hcs hj (zRun_no (by omega)) hI ⟨by decide, by decide⟩ hl.1 (Nat.le_of_ble_eq_true rfl) dL_refusesAny_243 (fun H locs hI => ?_)
  refine lv_sipush (v := jI (-1002)) C_.1 C_.2.1 dL_refusesAny_246 (by decide) ?_
  refine lj_eq (tgt := 254) C_.1 C_.2.1 ⟨by decide, by decide⟩ ⟨by decide, by decide⟩ dL_refusesAny_249 (by decide) (fun _ => ?_) (fun q => by omega)
  refine lv_aload_n C_.1 C_.2.1 dL_refusesAny_254 rfl (lv_at hl 2 rfl) ?_
  refine lv_iload_n C_.1 C_.2.1 dL_refusesAny_255 rfl (lv_at hl 1 rfl) ?_
  refine lv_bipush (v := jI 9) C_.1 C_.2.1 dL_refusesAny_256 (by decide) ?_
  refine lq_alarm C_ hf hcs (zAla_no (lkp_ever hz.1)) hI ⟨by omega, by omega⟩ ⟨by decide, by decide⟩ hl.1 (Nat.le_of_ble_eq_true rfl) dL_refusesAny_258 (fun H locs hI => ?_)
  refine lv_sipush (v := jI (-1001)) C_.1 C_.2.1 dL_refusesAny_261 (by decide) ?_
  refine lj_ne (tgt := 481) C_.1 C_.2.1 ⟨by decide, by decide⟩ ⟨by decide, by decide⟩ dL_refusesAny_264 (by decide) (fun q => by omega) (fun _ => ?_)
  refine lv_aload_n C_.1 C_.2.1 dL_refusesAny_267 rfl (lv_at hl 2 rfl) ?_
  refine lv_iload_n C_.1 C_.2.1 dL_refusesAny_268 rfl (lv_at hl 3 rfl) ?_
  refine lj_if_ne (tgt := 276) C_.1 C_.2.1 ⟨by decide, by decide⟩ dL_refusesAny_269 (by decide) (fun _ => ?_) (fun q => by omega)
  refine lv_aload_n C_.1 C_.2.1 dL_refusesAny_276 rfl (lv_at hl 2 rfl) ?_
  refine lv_bipush (v := jI 12) C_.1 C_.2.1 dL_refusesAny_277 (by decide) ?_
  refine lk_count C_ hf hcs hI ⟨by decide, by decide⟩ hl.1 (Nat.le_of_ble_eq_true rfl) dL_refusesAny_279 (fun H locs hI => ?_)
  rw [zCnt_12]
  refine lv_bipush (v := jI 9) C_.1 C_.2.1 dL_refusesAny_282 (by decide) ?_
  refine lq_comparer C_ hf hcs (zCpr_no (by omega)) hI ⟨by omega, by omega⟩ ⟨by decide, by decide⟩ hl.1 (Nat.le_of_ble_eq_true rfl) dL_refusesAny_284 (fun H locs hI => ?_)
  refine lv_sipush (v := jI (-1001)) C_.1 C_.2.1 dL_refusesAny_287 (by decide) ?_
  refine lj_ne (tgt := 481) C_.1 C_.2.1 ⟨by decide, by decide⟩ ⟨by decide, by decide⟩ dL_refusesAny_290 (by decide) (fun q => by omega) (fun _ => ?_)
  refine lv_aload_n C_.1 C_.2.1 dL_refusesAny_293 rfl (lv_at hl 2 rfl) ?_
  refine lv_iconst (v := jI 0) C_.1 C_.2.1 dL_refusesAny_294 rfl ?_
  refine lv_iload_n C_.1 C_.2.1 dL_refusesAny_295 rfl (lv_at hl 3 rfl) ?_
  refine lj_if_ne (tgt := 303) C_.1 C_.2.1 ⟨by decide, by decide⟩ dL_refusesAny_296 (by decide) (fun _ => ?_) (fun q => by omega)
  refine lv_iconst (v := jI 4) C_.1 C_.2.1 dL_refusesAny_303 rfl ?_
  refine lq_comparer C_ hf hcs (zCpr_b (by omega) (by omega)) hI ⟨by decide, by decide⟩ ⟨by decide, by decide⟩ hl.1 (Nat.le_of_ble_eq_true rfl) dL_refusesAny_304 (fun H locs hI => ?_)
  refine lv_sipush (v := jI (-1002)) C_.1 C_.2.1 dL_refusesAny_307 (by decide) ?_
  refine lj_ne (tgt := 481) C_.1 C_.2.1 ⟨by decide, by decide⟩ ⟨by decide, by decide⟩ dL_refusesAny_310 (by decide) (fun q => by omega) (fun _ => ?_)
  refine lv_aload_n C_.1 C_.2.1 dL_refusesAny_313 rfl (lv_at hl 2 rfl) ?_
  refine lv_iconst (v := jI (-1)) C_.1 C_.2.1 dL_refusesAny_314 rfl ?_
  refine lv_iload_n C_.1 C_.2.1 dL_refusesAny_315 rfl (lv_at hl 3 rfl) ?_
  refine lj_sub (v := (-2)) C_.1 C_.2.1 (by decide) dL_refusesAny_316 ?_
  refine lq_at C_ hf hcs (zAt_no (by omega)) hI ⟨by decide, by decide⟩ hl.1 (Nat.le_of_ble_eq_true rfl) dL_refusesAny_317 (fun H locs hI => ?_)
  refine lv_sipush (v := jI (-1002)) C_.1 C_.2.1 dL_refusesAny_320 (by decide) ?_
  refine lj_ne (tgt := 481) C_.1 C_.2.1 ⟨by decide, by decide⟩ ⟨by decide, by decide⟩ dL_refusesAny_323 (by decide) (fun q => by omega) (fun _ => ?_)
  refine lv_aload_n C_.1 C_.2.1 dL_refusesAny_326 rfl (lv_at hl 2 rfl) ?_
  refine lv_iload_n C_.1 C_.2.1 dL_refusesAny_327 rfl (lv_at hl 1 rfl) ?_
  refine lq_ringsIn C_ hf hcs (zRin_no (lkp_ever hz.1)) hI ⟨by omega, by omega⟩ hl.1 (Nat.le_of_ble_eq_true rfl) dL_refusesAny_328 (fun H locs hI => ?_)
  refine lv_sipush (v := jI (-1001)) C_.1 C_.2.1 dL_refusesAny_331 (by decide) ?_
  refine lj_ne (tgt := 481) C_.1 C_.2.1 ⟨by decide, by decide⟩ ⟨by decide, by decide⟩ dL_refusesAny_334 (by decide) (fun q => by omega) (fun _ => ?_)
  refine lv_aload_n C_.1 C_.2.1 dL_refusesAny_337 rfl (lv_at hl 2 rfl) ?_
  refine lv_iload_n C_.1 C_.2.1 dL_refusesAny_338 rfl (lv_at hl 3 rfl) ?_
  refine lj_if_ne (tgt := 346) C_.1 C_.2.1 ⟨by decide, by decide⟩ dL_refusesAny_339 (by decide) (fun _ => ?_) (fun q => by omega)
  refine lv_iconst (v := jI 5) C_.1 C_.2.1 dL_refusesAny_346 rfl ?_
  refine lv_iconst (v := jI 1) C_.1 C_.2.1 dL_refusesAny_347 rfl ?_
  refine lv_iconst (v := jI 0) C_.1 C_.2.1 dL_refusesAny_348 rfl ?_
  refine lq_ifComparers C_ hf hcs (zIfc_no (by omega)) hI ⟨by decide, by decide⟩ ⟨by decide, by decide⟩ ⟨by decide, by decide⟩ hl.1 (Nat.le_of_ble_eq_true rfl) dL_refusesAny_349 (fun H locs hI => ?_)
  refine lv_sipush (v := jI (-1002)) C_.1 C_.2.1 dL_refusesAny_352 (by decide) ?_
  refine lj_ne (tgt := 481) C_.1 C_.2.1 ⟨by decide, by decide⟩ ⟨by decide, by decide⟩ dL_refusesAny_355 (by decide) (fun q => by omega) (fun _ => ?_)
  refine lv_aload_n C_.1 C_.2.1 dL_refusesAny_358 rfl (lv_at hl 2 rfl) ?_
  refine lv_iconst (v := jI 1) C_.1 C_.2.1 dL_refusesAny_359 rfl ?_
  refine lv_iload_n C_.1 C_.2.1 dL_refusesAny_360 rfl (lv_at hl 3 rfl) ?_
  refine lj_if_ne (tgt := 368) C_.1 C_.2.1 ⟨by decide, by decide⟩ dL_refusesAny_361 (by decide) (fun _ => ?_) (fun q => by omega)
  refine lv_sipush (v := jI 501) C_.1 C_.2.1 dL_refusesAny_368 (by decide) ?_
  refine lv_iconst (v := jI 0) C_.1 C_.2.1 dL_refusesAny_371 rfl ?_
  refine lq_ifComparers C_ hf hcs (zIfc_no (by omega)) hI ⟨by decide, by decide⟩ ⟨by decide, by decide⟩ ⟨by decide, by decide⟩ hl.1 (Nat.le_of_ble_eq_true rfl) dL_refusesAny_372 (fun H locs hI => ?_)
  refine lv_sipush (v := jI (-1002)) C_.1 C_.2.1 dL_refusesAny_375 (by decide) ?_
  refine lj_ne (tgt := 481) C_.1 C_.2.1 ⟨by decide, by decide⟩ ⟨by decide, by decide⟩ dL_refusesAny_378 (by decide) (fun q => by omega) (fun _ => ?_)
  refine lv_aload_n C_.1 C_.2.1 dL_refusesAny_381 rfl (lv_at hl 2 rfl) ?_
  refine lv_iconst (v := jI 1) C_.1 C_.2.1 dL_refusesAny_382 rfl ?_
  refine lv_iconst (v := jI 1) C_.1 C_.2.1 dL_refusesAny_383 rfl ?_
  refine lv_iload_n C_.1 C_.2.1 dL_refusesAny_384 rfl (lv_at hl 3 rfl) ?_
  refine lj_if_ne (tgt := 392) C_.1 C_.2.1 ⟨by decide, by decide⟩ dL_refusesAny_385 (by decide) (fun _ => ?_) (fun q => by omega)
  refine lv_iconst (v := jI 4) C_.1 C_.2.1 dL_refusesAny_392 rfl ?_
  refine lq_ifComparers C_ hf hcs (zIfc_no (by omega)) hI ⟨by decide, by decide⟩ ⟨by decide, by decide⟩ ⟨by decide, by decide⟩ hl.1 (Nat.le_of_ble_eq_true rfl) dL_refusesAny_393 (fun H locs hI => ?_)
  refine lv_sipush (v := jI (-1002)) C_.1 C_.2.1 dL_refusesAny_396 (by decide) ?_
  refine lj_ne (tgt := 481) C_.1 C_.2.1 ⟨by decide, by decide⟩ ⟨by decide, by decide⟩ dL_refusesAny_399 (by decide) (fun q => by omega) (fun _ => ?_)
  refine lv_aload_n C_.1 C_.2.1 dL_refusesAny_402 rfl (lv_at hl 2 rfl) ?_
  refine lv_iload_n C_.1 C_.2.1 dL_refusesAny_403 rfl (lv_at hl 3 rfl) ?_
  refine lj_if_ne (tgt := 411) C_.1 C_.2.1 ⟨by decide, by decide⟩ dL_refusesAny_404 (by decide) (fun _ => ?_) (fun q => by omega)
  refine lv_sipush (v := jI 501) C_.1 C_.2.1 dL_refusesAny_411 (by decide) ?_
  refine lq_fewest C_ hf hcs (zFew_no (by omega)) hI ⟨by decide, by decide⟩ hl.1 (Nat.le_of_ble_eq_true rfl) dL_refusesAny_414 (fun H locs hI => ?_)
  refine lv_sipush (v := jI (-1002)) C_.1 C_.2.1 dL_refusesAny_417 (by decide) ?_
  refine lj_ne (tgt := 481) C_.1 C_.2.1 ⟨by decide, by decide⟩ ⟨by decide, by decide⟩ dL_refusesAny_420 (by decide) (fun q => by omega) (fun _ => ?_)
  refine lv_aload_n C_.1 C_.2.1 dL_refusesAny_423 rfl (lv_at hl 2 rfl) ?_
  refine lv_iconst (v := jI (-1)) C_.1 C_.2.1 dL_refusesAny_424 rfl ?_
  refine lv_iload_n C_.1 C_.2.1 dL_refusesAny_425 rfl (lv_at hl 3 rfl) ?_
  refine lj_sub (v := (-2)) C_.1 C_.2.1 (by decide) dL_refusesAny_426 ?_
  refine lv_iconst (v := jI 0) C_.1 C_.2.1 dL_refusesAny_427 rfl ?_
  refine lq_ring C_ hf hcs (zRng_no (by omega)) hI ⟨by decide, by decide⟩ ⟨by decide, by decide⟩ hl.1 (Nat.le_of_ble_eq_true rfl) dL_refusesAny_428 (fun H locs hI => ?_)
  refine lv_sipush (v := jI (-1002)) C_.1 C_.2.1 dL_refusesAny_431 (by decide) ?_
  refine lj_ne (tgt := 481) C_.1 C_.2.1 ⟨by decide, by decide⟩ ⟨by decide, by decide⟩ dL_refusesAny_434 (by decide) (fun q => by omega) (fun _ => ?_)
  refine lv_aload_n C_.1 C_.2.1 dL_refusesAny_437 rfl (lv_at hl 2 rfl) ?_
  refine lv_iconst (v := jI 0) C_.1 C_.2.1 dL_refusesAny_438 rfl ?_
  refine lv_iload_n C_.1 C_.2.1 dL_refusesAny_439 rfl (lv_at hl 3 rfl) ?_
  refine lj_if_ne (tgt := 447) C_.1 C_.2.1 ⟨by decide, by decide⟩ dL_refusesAny_440 (by decide) (fun _ => ?_) (fun q => by omega)
  refine lv_iconst (v := jI 4) C_.1 C_.2.1 dL_refusesAny_447 rfl ?_
  refine lq_ring C_ hf hcs (zRng_no (by omega)) hI ⟨by decide, by decide⟩ ⟨by decide, by decide⟩ hl.1 (Nat.le_of_ble_eq_true rfl) dL_refusesAny_448 (fun H locs hI => ?_)
  refine lv_sipush (v := jI (-1002)) C_.1 C_.2.1 dL_refusesAny_451 (by decide) ?_
  refine lj_ne (tgt := 481) C_.1 C_.2.1 ⟨by decide, by decide⟩ ⟨by decide, by decide⟩ dL_refusesAny_454 (by decide) (fun q => by omega) (fun _ => ?_)
  refine lv_aload_n C_.1 C_.2.1 dL_refusesAny_457 rfl (lv_at hl 2 rfl) ?_
  refine lv_iload_n C_.1 C_.2.1 dL_refusesAny_458 rfl (lv_at hl 3 rfl) ?_
  refine lj_if_ne (tgt := 466) C_.1 C_.2.1 ⟨by decide, by decide⟩ dL_refusesAny_459 (by decide) (fun _ => ?_) (fun q => by omega)
  refine lv_bipush (v := jI 18) C_.1 C_.2.1 dL_refusesAny_466 (by decide) ?_
  refine lq_count C_ hf hcs (zCnt_no (by omega)) hI ⟨by decide, by decide⟩ hl.1 (Nat.le_of_ble_eq_true rfl) dL_refusesAny_468 (fun H locs hI => ?_)
  refine lv_sipush (v := jI (-1002)) C_.1 C_.2.1 dL_refusesAny_471 (by decide) ?_
  refine lj_ne (tgt := 481) C_.1 C_.2.1 ⟨by decide, by decide⟩ ⟨by decide, by decide⟩ dL_refusesAny_474 (by decide) (fun q => by omega) (fun _ => ?_)
  refine lv_iconst (v := jI 1) C_.1 C_.2.1 dL_refusesAny_477 rfl ?_
  refine lv_goto (tgt := 482) C_.1 C_.2.1 dL_refusesAny_478 (by decide) ?_
  exact lk_zend C_ hI.2.1 hI.1 dL_refusesAny_482
