/-! ===== objects are made: cells from B on, one behind another ===== -/
/-- the heap ends with n cells from B on, and they are what z says -/
def cx_W (D : va_G) (B n : Nat) (z : Nat → va_E) (H : Heap) : Prop := H.size = B + n ∧ ∀ a, B ≤ a → a < B + n → va_at D vwCl (a, z a) H
def cx_V (D : va_G) (aC : Nat → Nat) (U : State) : Prop := va_K D vwCl (dp_tys aC) U ∧ dp_N U ∧ va_AO RX0 U ∧ va_AO RX3 U ∧ va_AO RX2 U
theorem cx_V_warm {D : va_G} {aC : Nat → Nat} {s U : State} (hW : s.WarmedH U.vm) (h : cx_V D aC s) : cx_V D aC U := ⟨va_K.moved hW.alike h.1, dp_N_warm hW h.2.1, va_AO.moved hW.alike h.2.2.1, va_AO.moved hW.alike h.2.2.2.1, va_AO.moved hW.alike h.2.2.2.2⟩
theorem cx_at {D : va_G} {q : Nat × va_E} {H H1 : Heap} (h : va_at D vwCl q H) (he : H1[q.1]? = H[q.1]?) : va_at D vwCl q H1 := by
  obtain ⟨a, x⟩ := q
  cases x with
  | inl x =>
    show H1[a]? = some (vp_cell x.1 x.2)
    rw [show H1[a]? = H[a]? from he]
    exact h
  | inr o =>
    obtain ⟨r, h1, h2⟩ := h
    exact ⟨r, h1, h2.kept he⟩
theorem cx_W.congr {D : va_G} {B n : Nat} {z z' : Nat → va_E} {H : Heap} (h : cx_W D B n z H) (he : ∀ a, B ≤ a → a < B + n → z a = z' a) : cx_W D B n z' H := ⟨h.1, fun a h1 h2 => by rw [← he a h1 h2]; exact h.2 a h1 h2⟩
theorem cx_W.put {D : va_G} {B n a : Nat} {z : Nat → va_E} {H H1 : Heap} {x : va_E} (h : cx_W D B n z H) (hx : va_at D vwCl (a, x) H1) (hz : H1.size = H.size) (ho : ∀ q : Nat, q ≠ a → H1[q]? = H[q]?) : cx_W D B n (va_up z a x) H1 := by
  refine ⟨by rw [hz]; exact h.1, fun q h1 h2 => ?_⟩
  by_cases hq : q = a
  · subst hq
    rw [show va_up z q x q = x from if_pos rfl]; exact hx
  · rw [show va_up z a x q = z q from if_neg hq]; exact cx_at (h.2 q h1 h2) (ho q hq)
theorem cx_W.push {D : va_G} {B n : Nat} {z : Nat → va_E} {H H1 : Heap} {x : va_E} (h : cx_W D B n z H) (hx : va_at D vwCl (B + n, x) H1) (hz : H1.size = H.size + 1) (ho : ∀ q : Nat, q < H.size → H1[q]? = H[q]?) : cx_W D B (n + 1) (va_up z (B + n) x) H1 := by
  refine ⟨by rw [hz, h.1]; omega, fun q h1 h2 => ?_⟩
  by_cases hq : q = B + n
  · subst hq
    rw [show va_up z (B + n) x (B + n) = x from if_pos rfl]; exact hx
  · rw [show va_up z (B + n) x q = z q from if_neg hq]
    exact cx_at (h.2 q h1 (by omega)) (ho q (by rw [h.1]; show q < B + n; omega))
theorem cx_W.one {D : va_G} {B n a : Nat} {z : Nat → va_E} {H : Heap} (h : cx_W D B n z H) (h1 : B ≤ a) (h2 : a < B + n) : va_P D vwCl [(a, z a)] H := by
  intro k q hk
  cases k with
  | zero => cases hk; exact h.2 a h1 h2
  | succ k => cases hk
theorem cx_S {B n : Nat} {H0 H H1 : Heap} {locs : List Loc} (h : va_S (fun q => B ≤ q) H0 H locs) (hz : H1.size = H.size + 1) (ho : ∀ q : Nat, q < H.size → H1[q]? = H[q]?) : va_S (fun q => B ≤ q) H0 H1 locs := ⟨Nat.le_trans h.1 (by omega), fun x h1 h2 => (ho x (Nat.lt_of_lt_of_le h1 h.1)).trans (h.2.1 x h1 h2), h.2.2⟩
/-- what a constructor stands on -/
abbrev cx_C (D : va_G) (aC : Nat → Nat) (cc : ByteArray) (nL : Nat) (own : String) (p : Program) (s : State) (m : MethodId) (args : Array Value) (meth : Method) (c : Code) : Prop :=
  p.tables.exec = Jvm.exec ∧ c.code = cc ∧ meth.sig.returnType = none ∧ c.maxLocals = nL ∧ s.vm.findClass own = some m.cls ∧ (∀ w ∈ lw_tb2, w.before args s = true) ∧ meth.locks = false ∧ cx_V D aC s ∧ meth.name = "<init>"
section CXR
variable {p : Program} {l : Launch} {e : Env} {R : Room} {s : State} {m : MethodId} {args : Array Value} {below : List Frame} {meth : Method} {c : Code} {H : Heap} {locs : List Loc} {cells slots : Nat} {Q : State → Prop} {cc : ByteArray} {pc nL : Nat} {ls : Array Slot} {rest : List Value} {own : String} {D : va_G} {aC : Nat → Nat} {B n : Nat} {z : Nat → va_E} {H0 : Heap}
theorem cx_put (C_ : cx_C D aC cc nL own p s m args meth c) (hW : cx_W D B n z H) (hS : va_S (fun q => B ≤ q) H0 H locs) {C : String} {T : u_T} {N ci index a : Nat} (hin : ∀ w ∈ u_ws C T N, w ∈ lw_tb2) (ty0 : Nat → FieldType) (hty : ∀ k, k < N → parseFieldDescriptor (T k).2.2.1 = some (ty0 k)) (hnm : ∀ a, a < N → ∀ b, b < N → a ≠ b → (T a).2.1 ≠ (T b).2.1)
    (h1 : B ≤ a) (h2 : a < B + n) {fs : List Value} (he : z a = .inr (ci, fs)) (hc : vwCl[ci]? = some (C, T, N)) (k : Nat) (hk : k < N) (hlink : Cond.fieldLink own index (T k).1 (T k).2.1 (T k).2.2.1 ∈ lw_tb2) (hdecl : (T k).1 = own) {ty : FieldType} {v : Value} (hd : parseFieldDescriptor (T k).2.2.1 = some ty) (hn : narrow ty v = v) (hfit : fits ty v = true) (hl : k < fs.length)
    (hdg : decode cc pc = .ok (.putfield index, 3)) (kk : ∀ (H1 : Heap) (locs1 : List Loc), cx_W D B n (va_up z a (.inr (ci, fs.set k v))) H1 → va_S (fun q => B ≤ q) H0 H1 locs1 → W p l e R s m args below meth c H1 locs1 cells slots Q (F0 m (pc + 3) ls rest)) : W p l e R s m args below meth c H locs cells slots Q (F0 m pc ls (v :: .ref a :: rest)) := by
  obtain ⟨hexec, hb, -, -, hown, hts, -, hV, hinit⟩ := C_
  have hK := hV.1
  have hlk := hts _ hlink
  have hap := va_apart (own := own) hts hin ty0 hty hnm hK hc
  have hat := hW.2 a h1 h2
  rw [he] at hat
  obtain ⟨r, hr, cell, q1, q2, q3, q4⟩ := hat
  have hr2 : r = (C, T, N) := Option.some.inj (hr.symm.trans hc)
  subst hr2
  obtain ⟨hSl, hfc, kC, hkC, hkind⟩ := hK.1 ci _ hc
  obtain ⟨cf, kf, fi, f, hi, hsl⟩ := hSl k hk
  have hlay := hts _ (hin _ (u_in_lay hk))
  have hst := (u_facts hfc hkC (u_lays hts hin hk) hi).1
  have fin : ∀ H' : Heap, H'[a]? = some (cell.setSlot f.slot v) → H'.size = H.size → (∀ q : Nat, q ≠ a → H'[q]? = H[q]?) → W p l e R s m args below meth c H' (locs ++ [⟨a, f.slot⟩]) cells slots Q (F0 m (pc + 3) ls rest) := by
    intro H' e1 e2 e3
    rw [hsl] at e1 ⊢
    exact kk H' _ (hW.put ⟨_, hc, t_OB.to (V := updV (vp_V fs) k v) ⟨_, e1, q2, q3, t_set q4 hap hk v⟩ (fun j _ => vp_updV_set hl v j)⟩ e2 e3) (hS.put e2 e3 h1)
  unfold u_lay at hlay
  cases hfin : (T k).2.2.2
  · rw [if_neg (by rw [hfin]; decide)] at hlay
    exact W.putK hexec hb (f := f) ⟨hown, hlk, ⟨_, _, _, hi⟩, hst⟩ (by rw [q2]; exact u_store hfc hkC hkind hlay hi hd hn hfit) q1 q3 (by rw [hsl]; exact k2_hasslot (q4 k hk)) rfl rfl hdg fin
  · rw [if_pos hfin] at hlay
    have hcf : m.cls = cf := by
      obtain ⟨_, _, c', _, _, _, -, -, hf', -, -, -, hown2, -⟩ := Cond.laysFinal_spec hlay
      have e1 : c' = cf := by have := hi.symm.trans hf'; simp at this; exact this.1.symm
      rw [hdecl] at hown2
      rw [← e1]; exact Option.some.inj (hown.symm.trans hown2)
    exact W.putFinK hexec hb hown hlk hi hst hcf hinit (by rw [q2]; exact u_fits hfc hkC hkind (Or.inr hlay) hi hd hn hfit) q1 q3 (by rw [hsl]; exact k2_hasslot (q4 k hk)) rfl rfl hdg fin
theorem cx_get (C_ : cx_C D aC cc nL own p s m args meth c) (hW : cx_W D B n z H) {C : String} {T : u_T} {N ci index a : Nat} (hin : ∀ w ∈ u_ws C T N, w ∈ lw_tb2) (h1 : B ≤ a) (h2 : a < B + n) {fs : List Value} (he : z a = .inr (ci, fs)) (hc : vwCl[ci]? = some (C, T, N)) (k : Nat) (hk : k < N) (hlink : Cond.fieldLink own index (T k).1 (T k).2.1 (T k).2.2.1 ∈ lw_tb2) {v : Value} (hv : fs[k]? = some v)
    (hdg : decode cc pc = .ok (.getfield index, 3)) (kk : W p l e R s m args below meth c H locs cells slots Q (F0 m (pc + 3) ls (v :: rest))) : W p l e R s m args below meth c H locs cells slots Q (F0 m pc ls (.ref a :: rest)) := by
  have hP := hW.one h1 h2
  rw [he] at hP
  exact va_get (D := D) (ci := ci) (v := v) (C := C) (T := T) (N := N) C_.1 C_.2.1 C_.2.2.2.2.2.1 hin C_.2.2.2.2.1 C_.2.2.2.2.2.2.2.1.1 hP 0 rfl hc k hk (C_.2.2.2.2.2.1 _ hlink) (fun _ h => h) hv hdg kk
/-- a new array of whole numbers or characters -/
theorem cx_newa (C_ : cx_C D aC cc nL own p s m args meth c) (hW : cx_W D B n z H) (hS : va_S (fun q => B ≤ q) H0 H locs) {atype : ArrayType} {t : Nat} {ty : FieldType} (hty : newarray.typeOf atype = ty) (ht : (dp_tys aC)[t]? = some (aC t, ty)) (ht2 : t < 2) (hd : defaultValue ty = .int 0) (harr : Cond.arrayClass ty ∈ lw_tb2)
    {k : Int32} {N : Nat} (hn : ¬ k < 0) (hN : k.toNatClampNeg = N) (hbytes : N * componentBytes ty ≤ 536870912) (hcells : cells + 1 ≤ R.cells) (hslots : slots + N ≤ R.slots) (hdg : decode cc pc = .ok (.newarray atype, 2))
    (kk : ∀ H1 : Heap, cx_W D B (n + 1) (va_up z (B + n) (.inl (aC t, N, .inl (fun _ => 0)))) H1 → va_S (fun q => B ≤ q) H0 H1 locs → W p l e R s m args below meth c H1 locs (cells + 1) (slots + N) Q (F0 m (pc + 2) ls (.ref (B + n) :: rest))) : W p l e R s m args below meth c H locs cells slots Q (F0 m pc ls (.int k :: rest)) := by
  obtain ⟨hexec, hb, -, -, hown, hts, -, hV, hinit⟩ := C_
  subst hty
  refine va_newaK hexec hb (hts _ harr) rfl hdg rfl hn hN hbytes hcells hslots hW.1 fun H1 cA e1 z1 o1 hAr hNm => ?_
  have hcA : cA = aC t := by
    have h1 := (hV.1.2 t _ ht).2
    have h2 : s.vm.findClass ("[" ++ (newarray.typeOf atype).toString) = some (aC t) := by
      revert h1
      cases atype <;> exact fun h => h
    exact Option.some.inj (hNm.symm.trans h2)
  subst hcA
  have hz : H1.size = H.size + 1 := by rw [z1, hW.1]
  have ho : ∀ q : Nat, q < H.size → H1[q]? = H[q]? := fun q hq => o1 q (by rw [← hW.1]; exact hq)
  refine kk H1 (hW.push ?_ hz ho) (cx_S (n := n) hS hz ho)
  show H1[B + n]? = some (vp_cell (aC t) (N, .inl (fun _ => 0)))
  rw [vp_cell_i, e1, hd]
/-- a new array of references -/
theorem cx_newq (C_ : cx_C D aC cc nL own p s m args meth c) (hW : cx_W D B n z H) (hS : va_S (fun q => B ≤ q) H0 H locs) {C : String} {index t : Nat} (ht : (dp_tys aC)[t]? = some (aC t, .object C)) (hcl : Cond.classLink own index C ∈ lw_tb2) (hover : va_AO C s)
    {k : Int32} {N : Nat} (hn : ¬ k < 0) (hN : k.toNatClampNeg = N) (hbytes : N * 4 ≤ 536870912) (hcells : cells + 1 ≤ R.cells) (hslots : slots + N ≤ R.slots) (hdg : decode cc pc = .ok (.anewarray index, 3))
    (kk : ∀ H1 : Heap, cx_W D B (n + 1) (va_up z (B + n) (.inl (aC t, N, .inr (.inr (.inr (.inr (fun _ => none))))))) H1 → va_S (fun q => B ≤ q) H0 H1 locs → W p l e R s m args below meth c H1 locs (cells + 1) (slots + N) Q (F0 m (pc + 3) ls (.ref (B + n) :: rest))) : W p l e R s m args below meth c H locs cells slots Q (F0 m pc ls (.int k :: rest)) := by
  obtain ⟨hexec, hb, -, -, hown, hts, -, hV, hinit⟩ := C_
  subst hN
  refine W.anew hexec hb hown (hts _ hcl) (va_AO.use hover) rfl hdg rfl hn hbytes hcells hslots fun cA kA comp f1 f2 f3 f4 => ?_
  have hcA : cA = aC t := by
    obtain ⟨kA', comp', g1, g2, g3, g4⟩ := (hV.1.2 t _ ht).2
    exact Option.some.inj (f1.symm.trans g4)
  subst hcA
  rw [hW.1]
  generalize hH1 : H.push ({ cls := aC t, slots := Array.replicate k.toNatClampNeg .null, vm := .none } : Cell) = H1
  have hz : H1.size = H.size + 1 := by rw [← hH1, Array.size_push]
  have ho : ∀ q : Nat, q < H.size → H1[q]? = H[q]? := fun q hq => by rw [← hH1, Array.getElem?_push, if_neg (Nat.ne_of_lt hq)]
  refine kk H1 (hW.push ?_ hz ho) (cx_S (n := n) hS hz ho)
  show H1[B + n]? = some (vp_cell (aC t) (k.toNatClampNeg, .inr (.inr (.inr (.inr (fun _ => none))))))
  rw [vp_cell_q, ← hH1, ← hW.1, Array.getElem?_push_size, arrV_new]
  rfl
/-- a reference into an array -/
theorem cx_ast (C_ : cx_C D aC cc nL own p s m args meth c) (hW : cx_W D B n z H) (hS : va_S (fun q => B ≤ q) H0 H locs) {a v t ci N : Nat} {r : vw_C} {vs : List Value} {f : Nat → Option Nat} (h1 : B ≤ a) (h2 : a < B + n) (h3 : B ≤ v) (h4 : v < B + n) (he : z a = .inl (aC t, N, .inr (.inr (.inr (.inr f))))) (ht : (dp_tys aC)[t]? = some (aC t, .object r.1)) (hv : z v = .inr (ci, vs)) (hc : vwCl[ci]? = some r) {i : Int32} (hin : vp_in i N) (hdg : decode cc pc = .ok (.aastore, 1))
    (kk : ∀ (H1 : Heap) (locs1 : List Loc), cx_W D B n (va_up z a (.inl (aC t, N, .inr (.inr (.inr (.inr (va_up f i.toNatClampNeg (some v)))))))) H1 → va_S (fun q => B ≤ q) H0 H1 locs1 → W p l e R s m args below meth c H1 locs1 cells slots Q (F0 m (pc + 1) ls rest)) : W p l e R s m args below meth c H locs cells slots Q (F0 m pc ls (.ref v :: .int i :: .ref a :: rest)) := by
  obtain ⟨hexec, hb, -, -, hown, hts, -, hV, hinit⟩ := C_
  have hK := hV.1
  have hlt : i.toNatClampNeg < N := Nat.not_le.mp fun q => hin (Or.inr q)
  have h0 : ¬ i < 0 := fun q => hin (Or.inl q)
  have hA := hW.2 a h1 h2
  rw [he] at hA
  have hA : H[a]? = some (vp_cell (aC t) (N, .inr (.inr (.inr (.inr f))))) := hA
  have hB := hW.2 v h3 h4
  rw [hv] at hB
  obtain ⟨r', hr', cellV, g1, g2, g3, -⟩ := hB
  have hcls := (hK.1 ci r hc).2
  obtain ⟨kA, comp, k1, k2, k3, -⟩ := (hK.2 t _ ht).2
  have hcomp : comp = D.1 ci := Option.some.inj (k3.symm.trans hcls.1)
  subst hcomp
  obtain ⟨kC, hkC, -⟩ := hcls.2
  refine W.aast hexec hb hA (fun q h => by cases h) (fun h => by cases h) k1 k2 rfl hkC ⟨h0, by show _ < (arrV _ _ _).slots.size; rw [arrV_size]; exact hlt⟩ g1 (fun q h => by rw [g3] at h; cases h) (by rw [g2]; exact hkC) (by rw [g2]; exact va_assign hcls) rfl rfl hdg fun H1 e1 z1 oq => ?_
  refine kk H1 _ (hW.put ?_ z1 oq) (hS.put z1 oq h1)
  show H1[a]? = some (vp_cell _ _)
  rw [e1, vp_cell_q, vp_cell_q, arrV_store]
  congr 2
  funext q
  by_cases hq : q = i.toNatClampNeg
  · subst hq
    simp [updV, va_up, va_rf]
  · simp [updV, va_up, hq]
/-- a number into an array -/
theorem cx_iast (C_ : cx_C D aC cc nL own p s m args meth c) (hW : cx_W D B n z H) (hS : va_S (fun q => B ≤ q) H0 H locs) {a N : Nat} {f : Nat → Int32} (h1 : B ≤ a) (h2 : a < B + n) (he : z a = .inl (aC 0, N, .inl f)) {i x : Int32} (hin : vp_in i N) (hdg : decode cc pc = .ok (.iastore, 1))
    (kk : ∀ (H1 : Heap) (locs1 : List Loc), cx_W D B n (va_up z a (.inl (aC 0, N, .inl (upd f i.toNatClampNeg x)))) H1 → va_S (fun q => B ≤ q) H0 H1 locs1 → W p l e R s m args below meth c H1 locs1 cells slots Q (F0 m (pc + 1) ls rest)) : W p l e R s m args below meth c H locs cells slots Q (F0 m pc ls (.int x :: .int i :: .ref a :: rest)) := by
  obtain ⟨hexec, hb, -, -, hown, hts, -, hV, hinit⟩ := C_
  have hA := hW.2 a h1 h2
  rw [he] at hA
  have hA : H[a]? = some (vp_cell (aC 0) (N, .inl f)) := hA
  refine W.iast hexec hb hA ((hV.1.2 0 _ rfl).1 N (fun j => .int (f j))) (fun q => by cases q) (by show ¬ (i < 0 ∨ (arrV _ _ _).slots.size ≤ _); rw [arrV_size]; exact hin) rfl rfl hdg fun H1 e1 z1 oq => ?_
  refine kk H1 _ (hW.put ?_ z1 oq) (hS.put z1 oq h1)
  show H1[a]? = some (vp_cell _ _)
  rw [e1, vp_cell_i, vp_cell_i, arrV_store]
  congr 2
  funext q
  by_cases hq : q = i.toNatClampNeg
  · subst hq
    simp [updV, upd]
  · simp [updV, upd, hq]
/-- Object's own constructor -/
theorem cx_obj (C_ : cx_C D aC cc nL own p s m args meth c) {idx a : Nat} (hlink : Cond.methodLink own idx Lib.objectInit ∈ lw_tb2) (h2 : Cond.instanceMethod Lib.objectInit ∈ lw_tb2) (h3 : Cond.code Lib.objectInit ⟨#[0xb1]⟩ 1 none ∈ lw_tb2) (hsz : ls.size = nL) (hd : decode cc pc = .ok (.invokespecial idx, 3)) (hf : 1 ≤ R.frames) (hlo : 12 ≤ R.locals)
    (kk : W p l e R s m args below meth c H locs cells slots Q (F0 m (pc + 3) ls [])) : W p l e R s m args below meth c H locs cells slots Q (F0 m pc ls [.ref a]) := by
  obtain ⟨hexec, hb, -, hml, hown, hts, -, hV, hinit⟩ := C_
  refine W.objInit hexec hb hown (hts _ hlink) (hts _ h2) (hts _ h3) rfl (by rw [hml]; exact hsz) rfl hd hf (Nat.le_trans (Nat.le_of_eq ?_) hlo) ?_
  · simp [JFrame.monitorRoom]
  · exact W.eq (g2 := F0 m (pc + 3) ls []) rfl kk
/-- new, and its constructor -/
theorem cx_make (C_ : cx_C D aC cc nL own p s m args meth c) (hW : cx_W D B n z H) (hS : va_S (fun q => B ≤ q) H0 H locs) {C host : String} {T : u_T} {N ci index idx : Nat} (hin : ∀ w ∈ u_ws C T N, w ∈ lw_tb2) (ty0 : Nat → FieldType) (hty : ∀ k, k < N → parseFieldDescriptor (T k).2.2.1 = some (ty0 k)) (hc : vwCl[ci]? = some (C, T, N)) {fs : List Value} (hfs : ∀ j, j < N → defaultValue (ty0 j) = vp_V fs j)
    {y : MethodName} {ws ws' : List Cond} {rmm : Room} {mc ms kc maxL : Nat} {bytes : ByteArray} {fin : Nat → va_E}
    (hM : Met l y ws rmm (va_Pc [.ref (B + n)] (fun U => cx_W D (B + n) 1 (fun _ => .inr (ci, fs)) U.heap ∧ cx_V D aC U)) (va_Qv (fun _ : Unit => True) (fun _ t => cx_W D (B + n) kc fin t.heap) (fun q => B + n ≤ q)) mc ms (fun q => B + n ≤ q))
    (hcl : Cond.classLink own index C ∈ lw_tb2) (hinst : Cond.instantiable C N ∈ lw_tb2) (hini : Cond.initialized C ∈ lw_tb2) (hlk : Cond.methodLinkNest own idx y host ∈ lw_nw) (him : Cond.instanceMethod y ∈ lw_tb2) (hG : GoodIn lw_tb2 ws) (hw : ws = Cond.code y bytes maxL none :: ws') (hrc : rmm.cells = mc) (hrs : rmm.slots = ms) (hyc : y.cls = C) (hyn : y.name = "<init>")
    (hd : y.cls ≠ "java/lang/invoke/MethodHandle" ∧ y.cls ≠ "java/lang/invoke/VarHandle" ∧ (parseMethodDescriptor y.desc).map (fun d => d.parameters.length) = some 0) (hR : rmm.frames + 1 ≤ R.frames ∧ 8 + (maxL + 11) + rmm.locals ≤ R.locals)
    (hcells : cells + 1 + mc ≤ R.cells) (hslots : slots + N + ms ≤ R.slots) (hsz : ls.size = nL) (hrm : ((Value.ref (B + n) :: rest).map fun v => v.category).sum ≤ 8) (hdg : decode cc pc = .ok (.new index, 3)) (hdg2 : decode cc (pc + 3) = .ok (.dup, 1)) (hdg3 : decode cc (pc + 4) = .ok (.invokespecial idx, 3))
    (hz : ∀ a, B + n ≤ a → a < B + n + kc → z a = fin a) (hk1 : 1 ≤ kc)
    (kk : ∀ (H1 : Heap) (locs1 : List Loc), cx_W D B (n + kc) z H1 → va_S (fun q => B ≤ q) H0 H1 locs1 → W p l e R s m args below meth c H1 locs1 (cells + 1 + mc) (slots + N + ms) Q (F0 m (pc + 7) ls (.ref (B + n) :: rest))) : W p l e R s m args below meth c H locs cells slots Q (F0 m pc ls rest) := by
  have C2 := C_
  obtain ⟨hexec, hb, -, hml, hown, hts, -, hV, hinit⟩ := C_
  have hKn := hV.1.1 ci _ hc
  refine W.newcK hexec hb hown (hts _ hcl) (hts _ hinst) (hts _ hini) rfl hdg (by omega) (by omega) hKn.2.1 hW.1 fun H1 kC hkC e1 z1 o1 => ?_
  have hz1 : H1.size = H.size + 1 := by rw [z1, hW.1]
  have ho : ∀ q : Nat, q < H.size → H1[q]? = H[q]? := fun q hq => o1 q (by rw [← hW.1]; exact hq)
  have hx : va_at D vwCl (B + n, .inr (ci, fs)) H1 := ⟨_, hc, (u_born ty0 hts hin hKn hkC e1 hty).to hfs⟩
  have hS1 := cx_S (n := n) hS hz1 ho
  have hW1 : cx_W D (B + n) 1 (fun _ => .inr (ci, fs)) H1 := ⟨by rw [z1], fun a h1 h2 => by rw [show a = B + n by omega]; exact hx⟩
  refine lv_dup hexec hb hdg2 rfl ?_
  refine va_callv (A1 := fun q => B + n ≤ q) (va_runIN (As := []) (rest := .ref (B + n) :: rest) ⟨hexec, hb, hml, hown, hts⟩ hM ⟨va_cnB 0 hts hG hw hrc hrs (hV.2.1 _ hlk) (by rw [hyc]; exact hts _ hini) hd hR, hyn, hts _ him⟩ ⟨fun a U g mk q => ⟨q.1, q.2.1, va_K.moved (u := U) (U := U.calling g mk a) (Vm.Alike.refl U.vm) q.2.2.1, dp_N_same (s := U) (U := U.calling g mk a) rfl q.2.2.2.1, va_AO.moved (u := U) (U := U.calling g mk a) (Vm.Alike.refl U.vm) q.2.2.2.2.1, va_AO.moved (u := U) (U := U.calling g mk a) (Vm.Alike.refl U.vm) q.2.2.2.2.2.1, va_AO.moved (u := U) (U := U.calling g mk a) (Vm.Alike.refl U.vm) q.2.2.2.2.2.2⟩, fun U hU hWm => ⟨rfl, by rw [hU]; exact hW1, cx_V_warm hWm hV⟩⟩ rfl rfl hsz rfl (lv_room hrm) hdg3 ⟨by omega, by omega⟩) hS1 (fun q _ (h : B + n ≤ q) => (show B ≤ q by omega)) (fun q (h : B + n ≤ q) => (show B ≤ q by omega)) (fun u t H2 locs2 ht hvm hw2 hB hz2 hk2 hS2 => ?_)
  have hB : cx_W D (B + n) kc fin t.heap := hB
  rw [ht] at hB
  refine kk H2 locs2 ⟨by rw [hB.1]; omega, fun a h1 h2 => ?_⟩ hS2
  by_cases ha : B + n ≤ a
  · rw [hz a ha (by omega)]; exact hB.2 a ha (by omega)
  · have e2 : H2[a]? = H[a]? := by
      rw [hk2 a (by omega) ha]
      exact ho a (by rw [hW.1]; omega)
    exact cx_at (hW.2 a h1 (by omega)) e2
end CXR
