/-! ===== the first memory; constructors' contracts ===== -/
def roff (t k : Nat) : Nat := match t with
  | 7 => (match k with | 0 => 1 | 1 => 31 | 2 => 61 | 3 => 91 | 4 => 213 | _ => 0)
  | 2 => (match k with | 8 => 1 | 9 => 22 | 10 => 27 | 11 => 28 | _ => 0)
  | 5 => (match k with | 0 => 1 | _ => 0)
  | 4 => (match k with | 0 => 1 | _ => 0)
  | 1 => (match k with | 0 => 1 | 2 => 2 | 3 => 3 | 4 => 4 | _ => 0)
  | 13 => 1 + k
  | 14 => 1 + k
  | 15 => 1 + 30 * k
  | 8 => (match k with | 0 => 1 | 1 => 2 | 2 => 3 | 4 => 4 | 6 => 5 | 9 => 6 | _ => 0)
  | _ => 0
def nwv (k : Nat) : Int32 := if k = 10 then 2 else if k = 154 ∨ k = 156 ∨ k = 158 ∨ k = 160 then -1005 else 0
def ini (kd : Nat → Nat) (nw : Nat) : Mm := (fun a k => if a = nw then nwv k else if kd a = 2 ∧ k = 7 then 2 else 0, fun a k => a + roff (kd a) k)
abbrev fin0 (aC kd : Nat → Nat) (nw : Nat) : Nat → va_E := dp_ce aC kd (ini kd nw)
theorem ini_1 {kd : Nat → Nat} {nw a t : Nat} (h : kd a = t) (hn : a ≠ nw) (k : Nat) : (ini kd nw).1 a k = if t = 2 ∧ k = 7 then 2 else 0 := by
  show (if a = nw then nwv k else if kd a = 2 ∧ k = 7 then (2 : Int32) else 0) = _
  rw [if_neg hn, h]
theorem ini_2 {kd : Nat → Nat} {nw a t : Nat} (h : kd a = t) (k : Nat) : (ini kd nw).2 a k = a + roff t k := by
  show a + roff (kd a) k = _
  rw [h]
theorem fin0_o {aC kd : Nat → Nat} {nw a t : Nat} (h : kd a = t) (ht : t < 9) (hn : a ≠ nw) : fin0 aC kd nw a = .inr (t, (List.range (dp_nf t)).map (fun j => dp_fv t j (if t = 2 ∧ j = 7 then 2 else 0) (a + roff t j))) := by
  have e := dp_ce_obj (aC := aC) (G := ini kd nw) h ht
  have e1 : (fun j => dp_fv t j ((ini kd nw).1 a j) ((ini kd nw).2 a j)) = fun j => dp_fv t j (if t = 2 ∧ j = 7 then 2 else 0) (a + roff t j) := by
    funext j
    rw [ini_1 h hn, ini_2 h]
  rw [e1] at e
  exact e
theorem fin0_i {aC kd : Nat → Nat} {nw a t : Nat} (h : kd a = t) (ht : 9 ≤ t) (hk : dp_ak t < 2) (hn : a ≠ nw) : fin0 aC kd nw a = .inl (aC (dp_ak t), dp_al t, .inl (fun _ => 0)) := by
  have e := dp_ce_int (aC := aC) (G := ini kd nw) h (by omega) hk
  have e1 : (ini kd nw).1 a = fun _ => 0 := by
    funext j
    rw [ini_1 h hn, if_neg (by omega)]
  rw [e1] at e
  exact e
theorem fin0_nw {aC kd : Nat → Nat} {nw : Nat} (h : kd nw = 16) : fin0 aC kd nw nw = .inl (aC 0, 195, .inl nwv) := by
  have e := dp_ce_int (aC := aC) (G := ini kd nw) h (by decide) (by decide)
  have e1 : (ini kd nw).1 nw = nwv := by
    funext j
    show (if nw = nw then nwv j else _) = _
    rw [if_pos rfl]
  rw [e1] at e
  exact e
theorem fin0_r {aC kd : Nat → Nat} {nw a t : Nat} (h : kd a = t) (ht : 9 ≤ t) (hk : ¬ dp_ak t < 2) : fin0 aC kd nw a = .inl (aC (dp_ak t), dp_al t, .inr (.inr (.inr (.inr (fun i => some (a + roff t i)))))) := by
  have e := dp_ce_ref (aC := aC) (G := ini kd nw) h (by omega) hk
  have e1 : (fun i => some ((ini kd nw).2 a i)) = fun i => some (a + roff t i) := by
    funext j
    rw [ini_2 h]
  rw [e1] at e
  exact e
-- one's own cell, one array that is being filled, all else as it will be
def cxE (fin : Nat → va_E) (B : Nat) (X : va_E) (r : Nat) (Y : va_E) : Nat → va_E := fun a => if a = B then X else if a = r then Y else fin a
theorem cxE_B {fin : Nat → va_E} {B r : Nat} {X Y : va_E} : cxE fin B X r Y B = X := if_pos rfl
theorem cxE_rr {fin : Nat → va_E} {B r : Nat} {X Y : va_E} (h : r ≠ B) : cxE fin B X r Y r = Y := by unfold cxE; rw [if_neg h, if_pos rfl]
theorem cxE_o {fin : Nat → va_E} {B r q : Nat} {X Y : va_E} (h : q ≠ B) (h2 : q ≠ r) : cxE fin B X r Y q = fin q := by unfold cxE; rw [if_neg h, if_neg h2]
theorem cxE_X {fin : Nat → va_E} {B r : Nat} {X Y X' : va_E} : va_up (cxE fin B X r Y) B X' = cxE fin B X' r Y := by
  funext a
  unfold va_up cxE
  by_cases h : a = B
  · rw [if_pos h, if_pos h]
  · rw [if_neg h, if_neg h, if_neg h]
theorem cxE_Y {fin : Nat → va_E} {B r : Nat} {X Y Y' : va_E} (hr : r ≠ B) : va_up (cxE fin B X r Y) r Y' = cxE fin B X r Y' := by
  funext a
  unfold va_up cxE
  by_cases h : a = r
  · rw [if_pos h, if_neg (by omega), if_pos h]
  · rw [if_neg h, if_neg h, if_neg h]
theorem cxE_n {fin : Nat → va_E} {B r q : Nat} {X Y x : va_E} (h1 : q ≠ B) (h2 : q ≠ r) (hx : x = fin q) : va_up (cxE fin B X r Y) q x = cxE fin B X r Y := by
  funext a
  unfold va_up cxE
  by_cases h : a = q
  · rw [if_pos h, if_neg (by omega), if_neg (by omega), hx, h]
  · rw [if_neg h]
theorem cxE_r {fin : Nat → va_E} {B r q : Nat} {X Y Y' : va_E} (h1 : q ≠ B) (hr : r = B ∨ Y = fin r) : va_up (cxE fin B X r Y) q Y' = cxE fin B X q Y' := by
  funext a
  unfold va_up cxE
  by_cases h : a = q
  · rw [if_pos h, if_neg (by omega), if_pos h]
  · rw [if_neg h, if_neg h]
    by_cases hB : a = B
    · rw [if_pos hB, if_pos hB]
    · rw [if_neg hB, if_neg hB]
      by_cases ha : a = r
      · rw [if_pos ha]
        rcases hr with g | g
        · exact absurd (ha.trans g) hB
        · rw [g, ha]
      · rw [if_neg ha]
theorem cx_start {D : va_G} {B : Nat} {X : va_E} {fin : Nat → va_E} {H : Heap} (h : cx_W D B 1 (fun _ => X) H) : cx_W D B 1 (cxE fin B X B X) H := h.congr (fun a h1 h2 => by rw [show a = B by omega, cxE_B])
theorem cx_done {D : va_G} {B n r : Nat} {X Y : va_E} {fin : Nat → va_E} {H : Heap} (h : cx_W D B n (cxE fin B X r Y) H) (hX : X = fin B) (hr : r = B ∨ Y = fin r) : cx_W D B n fin H := h.congr (fun a h1 h2 => by
  by_cases ha : a = B
  · rw [ha, cxE_B, hX]
  · by_cases har : a = r
    · rcases hr with g | g
      · exact absurd (har.trans g) ha
      · rw [har, cxE_rr (by omega), g]
    · rw [cxE_o ha har])
def fR (a t i : Nat) : Nat → Option Nat := fun j => if j < i then some (a + roff t j) else none
theorem fR_s {a t i : Nat} : va_up (fR a t i) i (some (a + roff t i)) = fR a t (i + 1) := by
  funext j
  unfold va_up fR
  by_cases h : j = i
  · rw [if_pos h, if_pos (by omega), h]
  · rw [if_neg h]
    by_cases h2 : j < i
    · rw [if_pos h2, if_pos (by omega)]
    · rw [if_neg h2, if_neg (by omega)]
/-- an array of references is what its places say -/
theorem cx_W.arr {D : va_G} {B n a cA N : Nat} {z : Nat → va_E} {H : Heap} {f g : Nat → Option Nat} (h : cx_W D B n z H) (h1 : B ≤ a) (h2 : a < B + n) (he : z a = .inl (cA, N, .inr (.inr (.inr (.inr f))))) (hf : ∀ j, j < N → f j = g j) : cx_W D B n (va_up z a (.inl (cA, N, .inr (.inr (.inr (.inr g)))))) H := by
  have hA := h.2 a h1 h2
  rw [he] at hA
  have hA : H[a]? = some (vp_cell cA (N, .inr (.inr (.inr (.inr f))))) := hA
  refine h.put ?_ rfl (fun q _ => rfl)
  show H[a]? = some (vp_cell cA (N, .inr (.inr (.inr (.inr g)))))
  rw [hA, vp_cell_q, vp_cell_q]
  unfold arrV
  congr 2
  congr 1
  funext j
  show va_rf (f j.val) = va_rf (g j.val)
  rw [hf j.val j.isLt]
theorem cx_W.arn {D : va_G} {B n a cA N : Nat} {z : Nat → va_E} {H : Heap} {f g : Nat → Int32} (h : cx_W D B n z H) (h1 : B ≤ a) (h2 : a < B + n) (he : z a = .inl (cA, N, .inl f)) (hf : ∀ j, j < N → f j = g j) : cx_W D B n (va_up z a (.inl (cA, N, .inl g))) H := by
  have hA := h.2 a h1 h2
  rw [he] at hA
  have hA : H[a]? = some (vp_cell cA (N, .inl f)) := hA
  refine h.put ?_ rfl (fun q _ => rfl)
  show H[a]? = some (vp_cell cA (N, .inl g))
  rw [hA, vp_cell_i, vp_cell_i]
  unfold arrV
  congr 2
  congr 1
  funext j
  show Value.int (f j.val) = Value.int (g j.val)
  rw [hf j.val j.isLt]
theorem fR_0 {a t : Nat} : (fun _ => none) = fR a t 0 := by
  funext j
  unfold fR
  rw [if_neg (Nat.not_lt_zero j)]
theorem cxE_f {fin : Nat → va_E} {B r : Nat} {X Y Y0 : va_E} (hY : Y = fin r) : cxE fin B X r Y = cxE fin B X B Y0 := by
  funext a
  unfold cxE
  by_cases h : a = B
  · rw [if_pos h, if_pos h]
  · rw [if_neg h, if_neg h, if_neg h]
    by_cases h2 : a = r
    · rw [if_pos h2, hY, h2]
    · rw [if_neg h2]
/-- the kinds of a chip's cells, and of all that belongs to an object of the class -/
def ckd (i : Nat) : Nat := if i = 0 then 2 else if i = 1 then 13 else if i < 22 then 0 else if i = 22 then 14 else if i < 27 then 3 else if i = 27 then 6 else if i = 28 then 5 else 10
def skd (i : Nat) : Nat := if i = 0 then 7 else if i < 91 then ckd ((i - 1) % 30) else if i = 91 then 4 else if i = 92 then 15 else if i < 213 then ckd ((i - 93) % 30) else if i = 213 then 1 else if i = 214 then 12 else 11
/-- the row of the present, i of its comparers free already -/
def nwf (i : Nat) : Nat → Int32 := fun k => if k = 10 then 2 else if 154 ≤ k ∧ k < 154 + 2 * i ∧ k % 2 = 0 then -1005 else 0
theorem nwf_0 : upd (fun _ => 0) 10 2 = nwf 0 := by
  funext k
  unfold upd nwf
  by_cases h : k = 10
  · rw [if_pos h, if_pos h]
  · rw [if_neg h, if_neg h, if_neg (by omega)]
theorem nwf_s {i : Nat} : upd (nwf i) (154 + 2 * i) (-1005) = nwf (i + 1) := by
  funext k
  unfold upd nwf
  by_cases h : k = 154 + 2 * i
  · rw [if_pos h, if_neg (by omega), if_pos (by omega)]
  · rw [if_neg h]
    by_cases h2 : k = 10
    · rw [if_pos h2, if_pos h2]
    · rw [if_neg h2, if_neg h2]
      by_cases h3 : 154 ≤ k ∧ k < 154 + 2 * i ∧ k % 2 = 0
      · rw [if_pos h3, if_pos (by omega)]
      · rw [if_neg h3, if_neg (by omega)]
theorem nwf_4 : nwf 4 = nwv := by
  funext k
  unfold nwf nwv
  by_cases h : k = 10
  · rw [if_pos h, if_pos h]
  · rw [if_neg h, if_neg h]
    by_cases h2 : k = 154 ∨ k = 156 ∨ k = 158 ∨ k = 160
    · rw [if_pos h2, if_pos (by omega)]
    · rw [if_neg h2, if_neg (by omega)]
def rmC (f mc ms : Nat) : Room := { frames := f, cells := mc, slots := ms, locals := 40 * f }
def cWs (y : MethodName) (bytes : ByteArray) (nL : Nat) : List Cond := .code y bytes nL none :: lw_tb2
theorem cWs_good {y : MethodName} {bytes : ByteArray} {nL : Nat} (h : Cond.code y bytes nL none ∈ lw_tb2) (hg : goodWord (Cond.code y bytes nL none) = true) : GoodIn lw_tb2 (cWs y bytes nL) := by
  intro w hw
  rcases List.mem_cons.mp hw with rfl | hw
  · exact ⟨h, good_of_word hg⟩
  · exact dp_good w hw
/-- a constructor's contract: from its own cell, fresh, to all that it makes -/
abbrev cMet (l : Launch) (D : va_G) (aC : Nat → Nat) (fin : Nat → va_E) (ci : Nat) (fs : List Value) (h0 : Nat) (y : MethodName) (bytes : ByteArray) (nL f kc mc ms : Nat) : Prop :=
  Met l y (cWs y bytes nL) (rmC f mc ms) (va_Pc [.ref h0] (fun U => cx_W D h0 1 (fun _ => .inr (ci, fs)) U.heap ∧ cx_V D aC U)) (va_Qv (fun _ : Unit => True) (fun _ t => cx_W D h0 kc fin t.heap) (fun q => h0 ≤ q)) mc ms (fun q => h0 ≤ q)
theorem cx_met {l : Launch} {D : va_G} {aC : Nat → Nat} {fin : Nat → va_E} {ci : Nat} {fs : List Value} {h0 : Nat} {y : MethodName} {bytes : ByteArray} {nL f kc mc ms : Nat} (hp : plainName y.cls = true) (hy : y.name = "<init>") (hn : 1 ≤ nL)
    (h : ∀ (p : Program) (e : Env) (s : State) (m : MethodId) (args : Array Value) (below : List Frame) (meth : Method) (c : Code) (ls : Array Slot), cx_C D aC bytes nL y.cls p s m args meth c → lv_has ls nL [(0, .ref h0)] → cx_W D h0 1 (cxE fin h0 (.inr (ci, fs)) h0 (.inr (ci, fs))) s.heap →
      W p l e (rmC f mc ms) s m args below meth c s.heap [] 0 0 (MQ below (va_Qv (fun _ : Unit => True) (fun _ t => cx_W D h0 kc fin t.heap) (fun q => h0 ≤ q)) args s mc ms (fun q => h0 ≤ q)) (F0 m 0 ls [])) : cMet l D aC fin ci fs h0 y bytes nL f kc mc ms := by
  refine Met.ofW (cc := bytes) (maxL := nL) (ret := none) hp rfl ?_
  intro p e s m args' below meth c s₁ B hml hv
  obtain ⟨rfl, hW, hV⟩ := hv
  have hts := atoms_spec (ws := cWs y bytes nL) B.pre
  have hl := lv_entry [Value.ref h0] (n := nL) (by simpa [lg_sl, Value.category] using hn)
  rw [lg_entry_eq]
  exact h p e s m _ below meth c _ ⟨B.exec, B.bytes, B.returns, hml, findClass_of_methodNamed B.named, fun w hw => hts w (List.mem_cons_of_mem _ hw), B.notSynchronized, hV, by rw [← hy]; exact (name_of_methodNamed B.named B.method).1⟩ hl (cx_start hW)
theorem cx_end {p : Program} {l : Launch} {e : Env} {R : Room} {s : State} {m : MethodId} {args : Array Value} {below : List Frame} {meth : Method} {c : Code} {H : Heap} {locs : List Loc} {cells slots : Nat} {cc : ByteArray} {pc nL : Nat} {ls : Array Slot} {own : String} {D : va_G} {aC : Nat → Nat} {B kc : Nat} {fin : Nat → va_E} (C_ : cx_C D aC cc nL own p s m args meth c) (hW : cx_W D B kc fin H) (hS : va_S (fun q => B ≤ q) s.heap H locs) (hdg : decode cc pc = .ok (.return_, 1)) :
    W p l e R s m args below meth c H locs cells slots (MQ below (va_Qv (fun _ : Unit => True) (fun _ t => cx_W D B kc fin t.heap) (fun q => B ≤ q)) args s cells slots (fun q => B ≤ q)) (F0 m pc ls []) := by
  have hlocks := C_.2.2.2.2.2.2.1
  exact W.vret C_.1 C_.2.1 C_.2.2.1 (fun t ht hWm => ⟨⟨(), rfl, trivial, show cx_W D B kc fin t.heap by rw [ht]; exact hW⟩, hS.F ht⟩) hS.2.2 hdg
theorem we_58 : (Jvm.Cond.initialized "SharedComparers$Chip") ∈ lw_tb2 := dp_w2 (List.mem_of_getElem? (i := 58) (by decide +kernel)) rfl
theorem we_59 : (Jvm.Cond.initialized "SharedComparers$Alarm") ∈ lw_tb2 := dp_w2 (List.mem_of_getElem? (i := 59) (by decide +kernel)) rfl
theorem we_60 : (Jvm.Cond.initialized "SharedComparers$Comparer") ∈ lw_tb2 := dp_w2 (List.mem_of_getElem? (i := 60) (by decide +kernel)) rfl
theorem we_61 : (Jvm.Cond.initialized "SharedComparers$Totals") ∈ lw_tb2 := dp_w2 (List.mem_of_getElem? (i := 61) (by decide +kernel)) rfl
theorem we_62 : (Jvm.Cond.initialized "SharedComparers$RingLog") ∈ lw_tb2 := dp_w2 (List.mem_of_getElem? (i := 62) (by decide +kernel)) rfl
theorem we_63 : (Jvm.Cond.initialized "SharedComparers$History") ∈ lw_tb2 := dp_w2 (List.mem_of_getElem? (i := 63) (by decide +kernel)) rfl
theorem we_64 : (Jvm.Cond.initialized "SharedComparers$AlarmText") ∈ lw_tb2 := dp_w2 (List.mem_of_getElem? (i := 64) (by decide +kernel)) rfl
theorem we_72 : (Jvm.Cond.methodLink "SharedComparers" (1 : Nat) ({ cls := "java/lang/Object", name := "<init>", desc := "()V" } : Jvm.MethodName)) ∈ lw_tb2 := dp_w2 (List.mem_of_getElem? (i := 72) (by decide +kernel)) rfl
theorem we_73 : (Jvm.Cond.instanceMethod ({ cls := "java/lang/Object", name := "<init>", desc := "()V" } : Jvm.MethodName)) ∈ lw_tb2 := dp_w2 (List.mem_of_getElem? (i := 73) (by decide +kernel)) rfl
theorem we_74 : (Jvm.Cond.code ({ cls := "java/lang/Object", name := "<init>", desc := "()V" } : Jvm.MethodName) object_method_1_code (1 : Nat) (Option.none : Option Jvm.ClassFile.FieldType)) ∈ lw_tb2 := dp_w2 (List.mem_of_getElem? (i := 74) (by decide +kernel)) rfl
theorem we_75 : (Jvm.Cond.classLink "SharedComparers" (7 : Nat) "SharedComparers$Chip") ∈ lw_tb2 := dp_w2 (List.mem_of_getElem? (i := 75) (by decide +kernel)) rfl
theorem we_76 : (Jvm.Cond.instantiable "SharedComparers$Chip" (12 : Nat)) ∈ lw_tb2 := dp_w2 (List.mem_of_getElem? (i := 76) (by decide +kernel)) rfl
theorem we_77 : (Jvm.Cond.methodLinkNest "SharedComparers" (9 : Nat) ({ cls := "SharedComparers$Chip", name := "<init>", desc := "()V" } : Jvm.MethodName) "SharedComparers") ∈ lw_nw := dp_wn (List.mem_of_getElem? (i := 77) (by decide +kernel)) rfl
theorem we_78 : (Jvm.Cond.instanceMethod ({ cls := "SharedComparers$Chip", name := "<init>", desc := "()V" } : Jvm.MethodName)) ∈ lw_tb2 := dp_w2 (List.mem_of_getElem? (i := 78) (by decide +kernel)) rfl
theorem we_79 : (Jvm.Cond.code ({ cls := "SharedComparers$Chip", name := "<init>", desc := "()V" } : Jvm.MethodName) prog_4_method_1_code (2 : Nat) (Option.none : Option Jvm.ClassFile.FieldType)) ∈ lw_tb2 := dp_w2 (List.mem_of_getElem? (i := 79) (by decide +kernel)) rfl
theorem we_80 : (Jvm.Cond.methodLink "SharedComparers$Chip" (3 : Nat) ({ cls := "java/lang/Object", name := "<init>", desc := "()V" } : Jvm.MethodName)) ∈ lw_tb2 := dp_w2 (List.mem_of_getElem? (i := 80) (by decide +kernel)) rfl
theorem we_81 : (Jvm.Cond.classLink "SharedComparers$Chip" (15 : Nat) "SharedComparers$Alarm") ∈ lw_tb2 := dp_w2 (List.mem_of_getElem? (i := 81) (by decide +kernel)) rfl
theorem we_83 : (Jvm.Cond.instantiable "SharedComparers$Alarm" (8 : Nat)) ∈ lw_tb2 := dp_w2 (List.mem_of_getElem? (i := 83) (by decide +kernel)) rfl
theorem we_84 : (Jvm.Cond.methodLinkNest "SharedComparers$Chip" (21 : Nat) ({ cls := "SharedComparers$Alarm", name := "<init>", desc := "()V" } : Jvm.MethodName) "SharedComparers") ∈ lw_nw := dp_wn (List.mem_of_getElem? (i := 84) (by decide +kernel)) rfl
theorem we_85 : (Jvm.Cond.instanceMethod ({ cls := "SharedComparers$Alarm", name := "<init>", desc := "()V" } : Jvm.MethodName)) ∈ lw_tb2 := dp_w2 (List.mem_of_getElem? (i := 85) (by decide +kernel)) rfl
theorem we_86 : (Jvm.Cond.code ({ cls := "SharedComparers$Alarm", name := "<init>", desc := "()V" } : Jvm.MethodName) prog_2_method_1_code (1 : Nat) (Option.none : Option Jvm.ClassFile.FieldType)) ∈ lw_tb2 := dp_w2 (List.mem_of_getElem? (i := 86) (by decide +kernel)) rfl
theorem we_87 : (Jvm.Cond.methodLink "SharedComparers$Alarm" (3 : Nat) ({ cls := "java/lang/Object", name := "<init>", desc := "()V" } : Jvm.MethodName)) ∈ lw_tb2 := dp_w2 (List.mem_of_getElem? (i := 87) (by decide +kernel)) rfl
theorem we_125 : (Jvm.Cond.classLink "SharedComparers$Chip" (22 : Nat) "SharedComparers$Comparer") ∈ lw_tb2 := dp_w2 (List.mem_of_getElem? (i := 125) (by decide +kernel)) rfl
theorem we_127 : (Jvm.Cond.instantiable "SharedComparers$Comparer" (4 : Nat)) ∈ lw_tb2 := dp_w2 (List.mem_of_getElem? (i := 127) (by decide +kernel)) rfl
theorem we_128 : (Jvm.Cond.methodLinkNest "SharedComparers$Chip" (28 : Nat) ({ cls := "SharedComparers$Comparer", name := "<init>", desc := "()V" } : Jvm.MethodName) "SharedComparers") ∈ lw_nw := dp_wn (List.mem_of_getElem? (i := 128) (by decide +kernel)) rfl
theorem we_129 : (Jvm.Cond.instanceMethod ({ cls := "SharedComparers$Comparer", name := "<init>", desc := "()V" } : Jvm.MethodName)) ∈ lw_tb2 := dp_w2 (List.mem_of_getElem? (i := 129) (by decide +kernel)) rfl
theorem we_130 : (Jvm.Cond.code ({ cls := "SharedComparers$Comparer", name := "<init>", desc := "()V" } : Jvm.MethodName) prog_5_method_1_code (1 : Nat) (Option.none : Option Jvm.ClassFile.FieldType)) ∈ lw_tb2 := dp_w2 (List.mem_of_getElem? (i := 130) (by decide +kernel)) rfl
theorem we_131 : (Jvm.Cond.methodLink "SharedComparers$Comparer" (1 : Nat) ({ cls := "java/lang/Object", name := "<init>", desc := "()V" } : Jvm.MethodName)) ∈ lw_tb2 := dp_w2 (List.mem_of_getElem? (i := 131) (by decide +kernel)) rfl
theorem we_150 : (Jvm.Cond.classLink "SharedComparers$Chip" (29 : Nat) "SharedComparers$Totals") ∈ lw_tb2 := dp_w2 (List.mem_of_getElem? (i := 150) (by decide +kernel)) rfl
theorem we_151 : (Jvm.Cond.instantiable "SharedComparers$Totals" (6 : Nat)) ∈ lw_tb2 := dp_w2 (List.mem_of_getElem? (i := 151) (by decide +kernel)) rfl
theorem we_152 : (Jvm.Cond.methodLinkNest "SharedComparers$Chip" (31 : Nat) ({ cls := "SharedComparers$Totals", name := "<init>", desc := "()V" } : Jvm.MethodName) "SharedComparers") ∈ lw_nw := dp_wn (List.mem_of_getElem? (i := 152) (by decide +kernel)) rfl
theorem we_153 : (Jvm.Cond.instanceMethod ({ cls := "SharedComparers$Totals", name := "<init>", desc := "()V" } : Jvm.MethodName)) ∈ lw_tb2 := dp_w2 (List.mem_of_getElem? (i := 153) (by decide +kernel)) rfl
theorem we_154 : (Jvm.Cond.code ({ cls := "SharedComparers$Totals", name := "<init>", desc := "()V" } : Jvm.MethodName) prog_8_method_1_code (1 : Nat) (Option.none : Option Jvm.ClassFile.FieldType)) ∈ lw_tb2 := dp_w2 (List.mem_of_getElem? (i := 154) (by decide +kernel)) rfl
theorem we_155 : (Jvm.Cond.methodLink "SharedComparers$Totals" (1 : Nat) ({ cls := "java/lang/Object", name := "<init>", desc := "()V" } : Jvm.MethodName)) ∈ lw_tb2 := dp_w2 (List.mem_of_getElem? (i := 155) (by decide +kernel)) rfl
theorem we_184 : (Jvm.Cond.classLink "SharedComparers$Chip" (36 : Nat) "SharedComparers$RingLog") ∈ lw_tb2 := dp_w2 (List.mem_of_getElem? (i := 184) (by decide +kernel)) rfl
theorem we_185 : (Jvm.Cond.instantiable "SharedComparers$RingLog" (2 : Nat)) ∈ lw_tb2 := dp_w2 (List.mem_of_getElem? (i := 185) (by decide +kernel)) rfl
theorem we_186 : (Jvm.Cond.methodLinkNest "SharedComparers$Chip" (38 : Nat) ({ cls := "SharedComparers$RingLog", name := "<init>", desc := "()V" } : Jvm.MethodName) "SharedComparers") ∈ lw_nw := dp_wn (List.mem_of_getElem? (i := 186) (by decide +kernel)) rfl
theorem we_187 : (Jvm.Cond.instanceMethod ({ cls := "SharedComparers$RingLog", name := "<init>", desc := "()V" } : Jvm.MethodName)) ∈ lw_tb2 := dp_w2 (List.mem_of_getElem? (i := 187) (by decide +kernel)) rfl
theorem we_188 : (Jvm.Cond.code ({ cls := "SharedComparers$RingLog", name := "<init>", desc := "()V" } : Jvm.MethodName) prog_7_method_1_code (1 : Nat) (Option.none : Option Jvm.ClassFile.FieldType)) ∈ lw_tb2 := dp_w2 (List.mem_of_getElem? (i := 188) (by decide +kernel)) rfl
theorem we_189 : (Jvm.Cond.methodLink "SharedComparers$RingLog" (3 : Nat) ({ cls := "java/lang/Object", name := "<init>", desc := "()V" } : Jvm.MethodName)) ∈ lw_tb2 := dp_w2 (List.mem_of_getElem? (i := 189) (by decide +kernel)) rfl
theorem we_190 : (Jvm.Cond.fieldLink "SharedComparers$RingLog" (9 : Nat) "SharedComparers$RingLog" "facts" "[I") ∈ lw_tb2 := dp_w2 (List.mem_of_getElem? (i := 190) (by decide +kernel)) rfl
theorem we_197 : (Jvm.Cond.arrayClass Jvm.ClassFile.FieldType.int) ∈ lw_tb2 := dp_w2 (List.mem_of_getElem? (i := 197) (by decide +kernel)) rfl
theorem we_212 : (Jvm.Cond.fieldLink "SharedComparers$Chip" (9 : Nat) "SharedComparers$Chip" "comparersInUse" "I") ∈ lw_tb2 := dp_w2 (List.mem_of_getElem? (i := 212) (by decide +kernel)) rfl
theorem we_214 : (Jvm.Cond.fieldLink "SharedComparers$Chip" (17 : Nat) "SharedComparers$Chip" "alarms" "[LSharedComparers$Alarm;") ∈ lw_tb2 := dp_w2 (List.mem_of_getElem? (i := 214) (by decide +kernel)) rfl
theorem we_216 : (Jvm.Cond.fieldLink "SharedComparers$Chip" (24 : Nat) "SharedComparers$Chip" "comparers" "[LSharedComparers$Comparer;") ∈ lw_tb2 := dp_w2 (List.mem_of_getElem? (i := 216) (by decide +kernel)) rfl
theorem we_218 : (Jvm.Cond.fieldLink "SharedComparers$Chip" (32 : Nat) "SharedComparers$Chip" "totals" "LSharedComparers$Totals;") ∈ lw_tb2 := dp_w2 (List.mem_of_getElem? (i := 218) (by decide +kernel)) rfl
theorem we_220 : (Jvm.Cond.fieldLink "SharedComparers$Chip" (39 : Nat) "SharedComparers$Chip" "log" "LSharedComparers$RingLog;") ∈ lw_tb2 := dp_w2 (List.mem_of_getElem? (i := 220) (by decide +kernel)) rfl
theorem we_247 : (Jvm.Cond.classLink "SharedComparers" (22 : Nat) "SharedComparers$History") ∈ lw_tb2 := dp_w2 (List.mem_of_getElem? (i := 247) (by decide +kernel)) rfl
theorem we_248 : (Jvm.Cond.instantiable "SharedComparers$History" (2 : Nat)) ∈ lw_tb2 := dp_w2 (List.mem_of_getElem? (i := 248) (by decide +kernel)) rfl
theorem we_249 : (Jvm.Cond.methodLinkNest "SharedComparers" (24 : Nat) ({ cls := "SharedComparers$History", name := "<init>", desc := "()V" } : Jvm.MethodName) "SharedComparers") ∈ lw_nw := dp_wn (List.mem_of_getElem? (i := 249) (by decide +kernel)) rfl
theorem we_250 : (Jvm.Cond.instanceMethod ({ cls := "SharedComparers$History", name := "<init>", desc := "()V" } : Jvm.MethodName)) ∈ lw_tb2 := dp_w2 (List.mem_of_getElem? (i := 250) (by decide +kernel)) rfl
theorem we_251 : (Jvm.Cond.code ({ cls := "SharedComparers$History", name := "<init>", desc := "()V" } : Jvm.MethodName) prog_6_method_1_code (2 : Nat) (Option.none : Option Jvm.ClassFile.FieldType)) ∈ lw_tb2 := dp_w2 (List.mem_of_getElem? (i := 251) (by decide +kernel)) rfl
theorem we_252 : (Jvm.Cond.methodLink "SharedComparers$History" (3 : Nat) ({ cls := "java/lang/Object", name := "<init>", desc := "()V" } : Jvm.MethodName)) ∈ lw_tb2 := dp_w2 (List.mem_of_getElem? (i := 252) (by decide +kernel)) rfl
theorem we_253 : (Jvm.Cond.classLink "SharedComparers$History" (9 : Nat) "SharedComparers$Chip") ∈ lw_tb2 := dp_w2 (List.mem_of_getElem? (i := 253) (by decide +kernel)) rfl
theorem we_255 : (Jvm.Cond.methodLinkNest "SharedComparers$History" (17 : Nat) ({ cls := "SharedComparers$Chip", name := "<init>", desc := "()V" } : Jvm.MethodName) "SharedComparers") ∈ lw_nw := dp_wn (List.mem_of_getElem? (i := 255) (by decide +kernel)) rfl
theorem we_256 : (Jvm.Cond.fieldLink "SharedComparers$History" (11 : Nat) "SharedComparers$History" "kept" "[LSharedComparers$Chip;") ∈ lw_tb2 := dp_w2 (List.mem_of_getElem? (i := 256) (by decide +kernel)) rfl
theorem we_264 : (Jvm.Cond.classLink "SharedComparers" (29 : Nat) "SharedComparers$AlarmText") ∈ lw_tb2 := dp_w2 (List.mem_of_getElem? (i := 264) (by decide +kernel)) rfl
theorem we_265 : (Jvm.Cond.instantiable "SharedComparers$AlarmText" (7 : Nat)) ∈ lw_tb2 := dp_w2 (List.mem_of_getElem? (i := 265) (by decide +kernel)) rfl
theorem we_266 : (Jvm.Cond.methodLinkNest "SharedComparers" (31 : Nat) ({ cls := "SharedComparers$AlarmText", name := "<init>", desc := "()V" } : Jvm.MethodName) "SharedComparers") ∈ lw_nw := dp_wn (List.mem_of_getElem? (i := 266) (by decide +kernel)) rfl
theorem we_267 : (Jvm.Cond.instanceMethod ({ cls := "SharedComparers$AlarmText", name := "<init>", desc := "()V" } : Jvm.MethodName)) ∈ lw_tb2 := dp_w2 (List.mem_of_getElem? (i := 267) (by decide +kernel)) rfl
theorem we_268 : (Jvm.Cond.code ({ cls := "SharedComparers$AlarmText", name := "<init>", desc := "()V" } : Jvm.MethodName) prog_3_method_1_code (1 : Nat) (Option.none : Option Jvm.ClassFile.FieldType)) ∈ lw_tb2 := dp_w2 (List.mem_of_getElem? (i := 268) (by decide +kernel)) rfl
theorem we_269 : (Jvm.Cond.methodLink "SharedComparers$AlarmText" (3 : Nat) ({ cls := "java/lang/Object", name := "<init>", desc := "()V" } : Jvm.MethodName)) ∈ lw_tb2 := dp_w2 (List.mem_of_getElem? (i := 269) (by decide +kernel)) rfl
theorem we_270 : (Jvm.Cond.fieldLink "SharedComparers$AlarmText" (9 : Nat) "SharedComparers$AlarmText" "characters" "[C") ∈ lw_tb2 := dp_w2 (List.mem_of_getElem? (i := 270) (by decide +kernel)) rfl
theorem we_273 : (Jvm.Cond.fieldLink "SharedComparers$AlarmText" (15 : Nat) "SharedComparers$AlarmText" "times" "[I") ∈ lw_tb2 := dp_w2 (List.mem_of_getElem? (i := 273) (by decide +kernel)) rfl
theorem we_275 : (Jvm.Cond.fieldLink "SharedComparers$AlarmText" (19 : Nat) "SharedComparers$AlarmText" "periods" "[I") ∈ lw_tb2 := dp_w2 (List.mem_of_getElem? (i := 275) (by decide +kernel)) rfl
theorem we_277 : (Jvm.Cond.fieldLink "SharedComparers$AlarmText" (22 : Nat) "SharedComparers$AlarmText" "ranks" "[I") ∈ lw_tb2 := dp_w2 (List.mem_of_getElem? (i := 277) (by decide +kernel)) rfl
theorem we_297 : (Jvm.Cond.arrayClass Jvm.ClassFile.FieldType.char) ∈ lw_tb2 := dp_w2 (List.mem_of_getElem? (i := 297) (by decide +kernel)) rfl
theorem we_298 : (Jvm.Cond.fieldLink "SharedComparers" (10 : Nat) "SharedComparers" "chip" "LSharedComparers$Chip;") ∈ lw_tb2 := dp_w2 (List.mem_of_getElem? (i := 298) (by decide +kernel)) rfl
theorem we_299 : (Jvm.Cond.fieldLink "SharedComparers" (16 : Nat) "SharedComparers" "trial" "LSharedComparers$Chip;") ∈ lw_tb2 := dp_w2 (List.mem_of_getElem? (i := 299) (by decide +kernel)) rfl
theorem we_300 : (Jvm.Cond.fieldLink "SharedComparers" (19 : Nat) "SharedComparers" "snapshot" "LSharedComparers$Chip;") ∈ lw_tb2 := dp_w2 (List.mem_of_getElem? (i := 300) (by decide +kernel)) rfl
theorem we_301 : (Jvm.Cond.fieldLink "SharedComparers" (25 : Nat) "SharedComparers" "history" "LSharedComparers$History;") ∈ lw_tb2 := dp_w2 (List.mem_of_getElem? (i := 301) (by decide +kernel)) rfl
theorem we_302 : (Jvm.Cond.fieldLink "SharedComparers" (32 : Nat) "SharedComparers" "text" "LSharedComparers$AlarmText;") ∈ lw_tb2 := dp_w2 (List.mem_of_getElem? (i := 302) (by decide +kernel)) rfl
theorem we_303 : (Jvm.Cond.fieldLink "SharedComparers" (36 : Nat) "SharedComparers" "isKept" "Z") ∈ lw_tb2 := dp_w2 (List.mem_of_getElem? (i := 303) (by decide +kernel)) rfl
