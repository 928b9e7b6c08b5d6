/-! ===== objects are made: cells from B on, one behind another ===== -/
/-- the heap ends with n cells from B on, and they are what z says -/
def cx_W (D : va_G) (B n : Nat) (z : Nat → va_E) (H : Heap) : Prop := H.size = B + n ∧ ∀ a, B ≤ a → a < B + n → va_at D vwCl (a, z a) H
def cx_V (D : va_G) (aC : Nat → Nat) (U : State) : Prop := va_K D vwCl (dp_tys aC) U ∧ dp_N U ∧ va_AO RX0 U ∧ va_AO RX3 U ∧ va_AO RX2 U
theorem cx_V_warm {D : va_G} {aC : Nat → Nat} {s U : State} (hW : s.WarmedH U.vm) (h : cx_V D aC s) : cx_V D aC U := ⟨va_K.moved hW.alike h.1, dp_N_warm hW h.2.1, va_AO.moved hW.alike h.2.2.1, va_AO.moved hW.alike h.2.2.2.1, va_AO.moved hW.alike h.2.2.2.2⟩
theorem cx_at {D : va_G} {q : Nat × va_E} {H H1 : Heap} (h : va_at D vwCl q H) (he : H1[q.1]? = H[q.1]?) : va_at D vwCl q H1 := by
  obtain ⟨a, x⟩ := q
  cases x with
  | inl x =>
    show H1[a]? = some (vp_cell x.1 x.2)
    rw [show H1[a]? = H[a]? from he]
    exact h
  | inr o =>
    obtain ⟨r, h1, h2⟩ := h
    exact ⟨r, h1, h2.kept he⟩
theorem cx_W.congr {D : va_G} {B n : Nat} {z z' : Nat → va_E} {H : Heap} (h : cx_W D B n z H) (he : ∀ a, B ≤ a → a < B + n → z a = z' a) : cx_W D B n z' H := ⟨h.1, fun a h1 h2 => by rw [← he a h1 h2]; exact h.2 a h1 h2⟩
theorem cx_W.put {D : va_G} {B n a : Nat} {z : Nat → va_E} {H H1 : Heap} {x : va_E} (h : cx_W D B n z H) (hx : va_at D vwCl (a, x) H1) (hz : H1.size = H.size) (ho : ∀ q : Nat, q ≠ a → H1[q]? = H[q]?) : cx_W D B n (va_up z a x) H1 := by
  refine ⟨by rw [hz]; exact h.1, fun q h1 h2 => ?_⟩
  by_cases hq : q = a
  · subst hq
    rw [show va_up z q x q = x from if_pos rfl]; exact hx
  · rw [show va_up z a x q = z q from if_neg hq]; exact cx_at (h.2 q h1 h2) (ho q hq)
theorem cx_W.push {D : va_G} {B n : Nat} {z : Nat → va_E} {H H1 : Heap} {x : va_E} (h : cx_W D B n z H) (hx : va_at D vwCl (B + n, x) H1) (hz : H1.size = H.size + 1) (ho : ∀ q : Nat, q < H.size → H1[q]? = H[q]?) : cx_W D B (n + 1) (va_up z (B + n) x) H1 := by
  refine ⟨by rw [hz, h.1]; omega, fun q h1 h2 => ?_⟩
  by_cases hq : q = B + n
  · subst hq
    rw [show va_up z (B + n) x (B + n) = x from if_pos rfl]; exact hx
  · rw [show va_up z (B + n) x q = z q from if_neg hq]
    exact cx_at (h.2 q h1 (by omega)) (ho q (by rw [h.1]; show q < B + n; omega))
theorem cx_W.one {D : va_G} {B n a : Nat} {z : Nat → va_E} {H : Heap} (h : cx_W D B n z H) (h1 : B ≤ a) (h2 : a < B + n) : va_P D vwCl [(a, z a)] H := by
  intro k q hk
  cases k with
  | zero => cases hk; exact h.2 a h1 h2
  | succ k => cases hk
theorem cx_S {B n : Nat} {H0 H H1 : Heap} {locs : List Loc} (h : va_S (fun q => B ≤ q) H0 H locs) (hz : H1.size = H.size + 1) (ho : ∀ q : Nat, q < H.size → H1[q]? = H[q]?) : va_S (fun q => B ≤ q) H0 H1 locs := ⟨Nat.le_trans h.1 (by omega), fun x h1 h2 => (ho x (Nat.lt_of_lt_of_le h1 h.1)).trans (h.2.1 x h1 h2), h.2.2⟩
/-- what a constructor stands on -/
abbrev cx_C (D : va_G) (aC : Nat → Nat) (cc : ByteArray) (nL : Nat) (own : String) (p : Program) (s : State) (m : MethodId) (args : Array Value) (meth : Method) (c : Code) : Prop :=
  p.tables.exec = Jvm.exec ∧ c.code = cc ∧ meth.sig.returnType = none ∧ c.maxLocals = nL ∧ s.vm.findClass own = some m.cls ∧ (∀ w ∈ lw_tb2, w.before args s = true) ∧ meth.locks = false ∧ cx_V D aC s ∧ meth.name = "<init>"
/-- what a cell of an array is behind a store -/
theorem cx_sq {cA N i v : Nat} {f : Nat → Option Nat} : (vp_cell cA (N, .inr (.inr (.inr (.inr f))))).setSlot i (.ref v) = vp_cell cA (N, .inr (.inr (.inr (.inr (va_up f i (some v)))))) := by
  rw [vp_cell_q, vp_cell_q, arrV_store]
  refine congrArg (arrV cA N) (funext fun q => ?_)
  show (if q = i then Value.ref v else va_rf (f q)) = va_rf (if q = i then some v else f q)
  split <;> rfl
theorem cx_si {cA N i : Nat} {f : Nat → Int32} {x : Int32} : (vp_cell cA (N, .inl f)).setSlot i (.int x) = vp_cell cA (N, .inl (upd f i x)) := by
  rw [vp_cell_i, vp_cell_i, arrV_store]
  refine congrArg (arrV cA N) (funext fun q => ?_)
  show (if q = i then Value.int x else Value.int (f q)) = Value.int (if q = i then x else f q)
  split <;> rfl
/-- an array's cell is known and has room for N -/
theorem cx_ra {D : va_G} {B n a cA : Nat} {z : Nat → va_E} {H : Heap} {x : vp_A} (hW : cx_W D B n z H) (h1 : B ≤ a) (h2 : a < B + n) (he : z a = .inl (cA, x)) : H[a]? = some (vp_cell cA x) := by
  have h := hW.2 a h1 h2
  rw [he] at h
  exact h
theorem cx_rz {cA N : Nat} {f : Nat → Option Nat} : (vp_cell cA (N, .inr (.inr (.inr (.inr f))))).slots.size = N := arrV_size _ _ _
theorem cx_iz {cA N : Nat} {f : Nat → Int32} : (vp_cell cA (N, .inl f)).slots.size = N := arrV_size _ _ _
/-- a field of an object's cell: where it lies, that the value fits, and what the cell is behind the store -/
theorem cx_fld {s : State} {m : MethodId} {args : Array Value} {H : Heap} {D : va_G} {aC : Nat → Nat} {B n : Nat} {z : Nat → va_E} {own C : String} {T : u_T} {N ci a : Nat} {fs : List Value} {ty : FieldType} {v : Value} (hts : ∀ w ∈ lw_tb2, w.before args s = true) (hown : s.vm.findClass own = some m.cls) (hK : va_K D vwCl (dp_tys aC) s) (hW : cx_W D B n z H) (hin : ∀ w ∈ u_ws C T N, w ∈ lw_tb2) (ty0 : Nat → FieldType) (hty : ∀ k, k < N → parseFieldDescriptor (T k).2.2.1 = some (ty0 k)) (hnm : ∀ a, a < N → ∀ b, b < N → a ≠ b → (T a).2.1 ≠ (T b).2.1)
    (h1 : B ≤ a) (h2 : a < B + n) (he : z a = .inr (ci, fs)) (hc : vwCl[ci]? = some (C, T, N)) (k : Nat) (hk : k < N) (hdecl : (T k).1 = own) (hd : parseFieldDescriptor (T k).2.2.1 = some ty) (hn : narrow ty v = v) (hfit : fits ty v = true) (hl : k < fs.length) :
    ∃ (cell : Cell) (cf : ClassId) (kf : Class) (fi : Nat) (f : Field), H[a]? = some cell ∧ cell.vm = .none ∧ f.slot < cell.slots.size ∧ s.fieldFound? (T k).1 (T k).2.1 (T k).2.2.1 = some (cf, kf, fi, f) ∧ f.isStatic = false ∧ (narrow f.type v = v ∧ s.fitsSlot cell.cls .none f.slot v = true) ∧ (hasFlag f.accessFlags Acc.final = false ∨ m.cls = cf) ∧
      ∀ H1 : Heap, H1[a]? = some (cell.setSlot f.slot v) → va_at D vwCl (a, .inr (ci, fs.set k v)) H1 := by
  have hat := hW.2 a h1 h2
  rw [he] at hat
  obtain ⟨r, hr, cell, c1, c2, c3, c4⟩ := hat
  cases hr.symm.trans hc
  have hkn := hK.1 ci _ hc
  obtain ⟨kC, hkC, hkind⟩ := hkn.2.2
  obtain ⟨cf, kf, fi, f, hi, hsl⟩ := hkn.1 k hk
  have hl0 := u_lays hts hin hk
  have hfits := u_fits hkn.2.1 hkC hkind hl0 hi hd hn hfit
  refine ⟨cell, cf, kf, fi, f, c1, c3, ?_, hi, (u_facts hkn.2.1 hkC hl0 hi).1, by rw [c2]; exact hfits, ?_, fun H1 hH => ⟨_, hc, ?_⟩⟩
  · rw [hsl]; exact (Array.getElem?_eq_some_iff.mp (c4 k hk)).1
  · rcases hl0 with hy | hy
    · exact Or.inl (u_store hkn.2.1 hkC hkind hy hi hd hn hfit).1
    · have L := Cond.laysFinal_spec hy
      obtain ⟨k1, k2, k3, k4, k5, k6, L⟩ := L
      have e : k3 = cf := congrArg Prod.fst (Option.some.inj (L.2.2.1.symm.trans hi))
      have o := L.2.2.2.2.2.2.1
      rw [hdecl, hown] at o
      exact Or.inr ((Option.some.inj o).trans e)
  · rw [hsl] at hH
    exact t_OB.to ⟨_, hH, c2, c3, t_set c4 (va_apart (own := own) hts hin ty0 hty hnm hK hc) hk v⟩ (fun j _ => vp_updV_set hl v j)
section CXR
variable {p : Program} {l : Launch} {e : Env} {R : Room} {s : State} {m : MethodId} {args : Array Value} {below : List Frame} {meth : Method} {c : Code} {H : Heap} {locs : List Loc} {cells slots : Nat} {Q : State → Prop} {cc : ByteArray} {pc nL : Nat} {ls : Array Slot} {rest : List Value} {own : String} {D : va_G} {aC : Nat → Nat} {B n : Nat} {z : Nat → va_E} {H0 : Heap}
theorem cx_put (C_ : cx_C D aC cc nL own p s m args meth c) (hW : cx_W D B n z H) (hS : va_S (fun q => B ≤ q) H0 H locs) {C : String} {T : u_T} {N ci index a : Nat} (hin : ∀ w ∈ u_ws C T N, w ∈ lw_tb2) (ty0 : Nat → FieldType) (hty : ∀ k, k < N → parseFieldDescriptor (T k).2.2.1 = some (ty0 k)) (hnm : ∀ a, a < N → ∀ b, b < N → a ≠ b → (T a).2.1 ≠ (T b).2.1)
    (h1 : B ≤ a) (h2 : a < B + n) {fs : List Value} (he : z a = .inr (ci, fs)) (hc : vwCl[ci]? = some (C, T, N)) (k : Nat) (hk : k < N) (hlink : Cond.fieldLink own index (T k).1 (T k).2.1 (T k).2.2.1 ∈ lw_tb2) (hdecl : (T k).1 = own) {ty : FieldType} {v : Value} (hd : parseFieldDescriptor (T k).2.2.1 = some ty) (hn : narrow ty v = v) (hfit : fits ty v = true) (hl : k < fs.length)
    (hdg : decode cc pc = .ok (.putfield index, 3)) (kk : ∀ (H1 : Heap) (locs1 : List Loc), cx_W D B n (va_up z a (.inr (ci, fs.set k v))) H1 → va_S (fun q => B ≤ q) H0 H1 locs1 → W p l e R s m args below meth c H1 locs1 cells slots Q (F0 m (pc + 3) ls rest)) : W p l e R s m args below meth c H locs cells slots Q (F0 m pc ls (v :: .ref a :: rest)) := by
  obtain ⟨hexec, hb, -, -, hown, hts, -, hV, hinit⟩ := C_
  obtain ⟨cell, cf, kf, fi, f, g1, g2, g3, g4, g5, g6, g7, g8⟩ := cx_fld hts hown hV.1 hW hin ty0 hty hnm h1 h2 he hc k hk hdecl hd hn hfit hl
  have go : ∀ H1 : Heap, H1[a]? = some (cell.setSlot f.slot v) → H1.size = H.size → (∀ q : Nat, q ≠ a → H1[q]? = H[q]?) → W p l e R s m args below meth c H1 (locs ++ [⟨a, f.slot⟩]) cells slots Q (F0 m (pc + 3) ls rest) :=
    fun H1 e1 e2 e3 => kk H1 _ (hW.put (g8 H1 e1) e2 e3) (hS.put e2 e3 h1)
  rcases g7 with hf | hf
  · exact W.putK hexec hb (f := f) ⟨hown, hts _ hlink, ⟨cf, kf, fi, g4⟩, g5⟩ ⟨hf, g6.1, g6.2⟩ g1 g2 g3 rfl rfl hdg go
  · exact W.putFinK hexec hb hown (hts _ hlink) g4 g5 hf hinit g6 g1 g2 g3 rfl rfl hdg go
theorem cx_get (C_ : cx_C D aC cc nL own p s m args meth c) (hW : cx_W D B n z H) {C : String} {T : u_T} {N ci index a : Nat} (hin : ∀ w ∈ u_ws C T N, w ∈ lw_tb2) (h1 : B ≤ a) (h2 : a < B + n) {fs : List Value} (he : z a = .inr (ci, fs)) (hc : vwCl[ci]? = some (C, T, N)) (k : Nat) (hk : k < N) (hlink : Cond.fieldLink own index (T k).1 (T k).2.1 (T k).2.2.1 ∈ lw_tb2) {v : Value} (hv : fs[k]? = some v)
    (hdg : decode cc pc = .ok (.getfield index, 3)) (kk : W p l e R s m args below meth c H locs cells slots Q (F0 m (pc + 3) ls (v :: rest))) : W p l e R s m args below meth c H locs cells slots Q (F0 m pc ls (.ref a :: rest)) := by
  have hP := hW.one h1 h2
  rw [he] at hP
  exact va_get (D := D) (ci := ci) (v := v) (C := C) (T := T) (N := N) C_.1 C_.2.1 C_.2.2.2.2.2.1 hin C_.2.2.2.2.1 C_.2.2.2.2.2.2.2.1.1 hP 0 rfl hc k hk (C_.2.2.2.2.2.1 _ hlink) (fun _ h => h) hv hdg kk
/-- a new array of whole numbers or characters -/
theorem cx_newa (C_ : cx_C D aC cc nL own p s m args meth c) (hW : cx_W D B n z H) (hS : va_S (fun q => B ≤ q) H0 H locs) {atype : ArrayType} {t : Nat} {ty : FieldType} (hty : newarray.typeOf atype = ty) (ht : (dp_tys aC)[t]? = some (aC t, ty)) (ht2 : t < 2) (hd : defaultValue ty = .int 0) (harr : Cond.arrayClass ty ∈ lw_tb2)
    {k : Int32} {N : Nat} (hn : ¬ k < 0) (hN : k.toNatClampNeg = N) (hbytes : N * componentBytes ty ≤ 536870912) (hcells : cells + 1 ≤ R.cells) (hslots : slots + N ≤ R.slots) (hdg : decode cc pc = .ok (.newarray atype, 2))
    (kk : ∀ H1 : Heap, cx_W D B (n + 1) (va_up z (B + n) (.inl (aC t, N, .inl (fun _ => 0)))) H1 → va_S (fun q => B ≤ q) H0 H1 locs → W p l e R s m args below meth c H1 locs (cells + 1) (slots + N) Q (F0 m (pc + 2) ls (.ref (B + n) :: rest))) : W p l e R s m args below meth c H locs cells slots Q (F0 m pc ls (.int k :: rest)) := by
  obtain ⟨hexec, hb, -, -, hown, hts, -, hV, hinit⟩ := C_
  subst hty
  refine va_newaK hexec hb (hts _ harr) rfl hdg rfl hn hN hbytes hcells hslots hW.1 fun H1 cA e1 z1 o1 hAr hNm => ?_
  have hcA : cA = aC t := by
    have h1 := (hV.1.2 t _ ht).2
    have h2 : s.vm.findClass ("[" ++ (newarray.typeOf atype).toString) = some (aC t) := by
      revert h1
      cases atype <;> exact fun h => h
    exact Option.some.inj (hNm.symm.trans h2)
  subst hcA
  have hz : H1.size = H.size + 1 := by rw [z1, hW.1]
  have ho : ∀ q : Nat, q < H.size → H1[q]? = H[q]? := fun q hq => o1 q (by rw [← hW.1]; exact hq)
  refine kk H1 (hW.push ?_ hz ho) (cx_S (n := n) hS hz ho)
  show H1[B + n]? = some (vp_cell (aC t) (N, .inl (fun _ => 0)))
  rw [vp_cell_i, e1, hd]
/-- a new array of references -/
theorem cx_newq (C_ : cx_C D aC cc nL own p s m args meth c) (hW : cx_W D B n z H) (hS : va_S (fun q => B ≤ q) H0 H locs) {C : String} {index t : Nat} (ht : (dp_tys aC)[t]? = some (aC t, .object C)) (hcl : Cond.classLink own index C ∈ lw_tb2) (hover : va_AO C s)
    {k : Int32} {N : Nat} (hn : ¬ k < 0) (hN : k.toNatClampNeg = N) (hbytes : N * 4 ≤ 536870912) (hcells : cells + 1 ≤ R.cells) (hslots : slots + N ≤ R.slots) (hdg : decode cc pc = .ok (.anewarray index, 3))
    (kk : ∀ H1 : Heap, cx_W D B (n + 1) (va_up z (B + n) (.inl (aC t, N, .inr (.inr (.inr (.inr (fun _ => none))))))) H1 → va_S (fun q => B ≤ q) H0 H1 locs → W p l e R s m args below meth c H1 locs (cells + 1) (slots + N) Q (F0 m (pc + 3) ls (.ref (B + n) :: rest))) : W p l e R s m args below meth c H locs cells slots Q (F0 m pc ls (.int k :: rest)) := by
  obtain ⟨hexec, hb, -, -, hown, hts, -, hV, hinit⟩ := C_
  cases hN
  refine W.anew hexec hb hown (hts _ hcl) (va_AO.use hover) rfl hdg rfl hn hbytes hcells hslots fun cA _ _ hname _ _ _ => ?_
  obtain ⟨_, _, _, _, _, hname2⟩ := (hV.1.2 t _ ht).2
  cases Option.some.inj (hname.symm.trans hname2)
  have hB := hW.1
  rw [hB]
  have hsz : ∀ x : Cell, (H.push x).size = H.size + 1 := fun x => Array.size_push x
  have hold : ∀ (x : Cell) (q : Nat), q < H.size → (H.push x)[q]? = H[q]? := fun x q hq => Array.getElem?_push_lt hq ▸ (Array.getElem?_eq_getElem hq).symm
  refine kk _ (hW.push ?_ (hsz _) (hold _)) (cx_S (n := n) hS (hsz _) (hold _))
  show (H.push _)[B + n]? = some _
  rw [← hB, Array.getElem?_push_size, vp_cell_q, arrV_new]
  rfl
/-- a reference into an array -/
theorem cx_ast (C_ : cx_C D aC cc nL own p s m args meth c) (hW : cx_W D B n z H) (hS : va_S (fun q => B ≤ q) H0 H locs) {a v t ci N : Nat} {r : vw_C} {vs : List Value} {f : Nat → Option Nat} (h1 : B ≤ a) (h2 : a < B + n) (h3 : B ≤ v) (h4 : v < B + n) (he : z a = .inl (aC t, N, .inr (.inr (.inr (.inr f))))) (ht : (dp_tys aC)[t]? = some (aC t, .object r.1)) (hv : z v = .inr (ci, vs)) (hc : vwCl[ci]? = some r) {i : Int32} (hin : vp_in i N) (hdg : decode cc pc = .ok (.aastore, 1))
    (kk : ∀ (H1 : Heap) (locs1 : List Loc), cx_W D B n (va_up z a (.inl (aC t, N, .inr (.inr (.inr (.inr (va_up f i.toNatClampNeg (some v)))))))) H1 → va_S (fun q => B ≤ q) H0 H1 locs1 → W p l e R s m args below meth c H1 locs1 cells slots Q (F0 m (pc + 1) ls rest)) : W p l e R s m args below meth c H locs cells slots Q (F0 m pc ls (.ref v :: .int i :: .ref a :: rest)) := by
  obtain ⟨hexec, hb, -, -, hown, hts, -, hV, hinit⟩ := C_
  have hin2 : ¬ i < 0 ∧ i.toNatClampNeg < N := ⟨fun q => hin (Or.inl q), Nat.lt_of_not_le fun q => hin (Or.inr q)⟩
  have hB := hW.2 v h3 h4
  rw [hv] at hB
  obtain ⟨_, _, cv, g1, g2, g3, _⟩ := hB
  obtain ⟨kA, comp, k1, k2, k3, _⟩ := (hV.1.2 t _ ht).2
  have hcl := (hV.1.1 ci r hc).2
  obtain ⟨kC, hkC, _⟩ := hcl.2
  cases Option.some.inj (k3.symm.trans hcl.1)
  refine W.aast hexec hb (cx_ra hW h1 h2 he) (fun _ q => nomatch q) (fun q => nomatch q) k1 k2 rfl hkC ⟨hin2.1, by rw [cx_rz]; exact hin2.2⟩ g1 (fun _ q => by rw [g3] at q; exact nomatch q) (by rw [g2]; exact hkC) (by rw [g2]; exact va_assign hcl) rfl rfl hdg fun H1 e1 e2 e3 => ?_
  rw [cx_sq] at e1
  exact kk H1 _ (hW.put e1 e2 e3) (hS.put e2 e3 h1)
/-- a number into an array -/
theorem cx_iast (C_ : cx_C D aC cc nL own p s m args meth c) (hW : cx_W D B n z H) (hS : va_S (fun q => B ≤ q) H0 H locs) {a N : Nat} {f : Nat → Int32} (h1 : B ≤ a) (h2 : a < B + n) (he : z a = .inl (aC 0, N, .inl f)) {i x : Int32} (hin : vp_in i N) (hdg : decode cc pc = .ok (.iastore, 1))
    (kk : ∀ (H1 : Heap) (locs1 : List Loc), cx_W D B n (va_up z a (.inl (aC 0, N, .inl (upd f i.toNatClampNeg x)))) H1 → va_S (fun q => B ≤ q) H0 H1 locs1 → W p l e R s m args below meth c H1 locs1 cells slots Q (F0 m (pc + 1) ls rest)) : W p l e R s m args below meth c H locs cells slots Q (F0 m pc ls (.int x :: .int i :: .ref a :: rest)) := by
  obtain ⟨hexec, hb, -, -, hown, hts, -, hV, hinit⟩ := C_
  refine W.iast hexec hb (cx_ra hW h1 h2 he) ((hV.1.2 0 _ rfl).1 N (fun j => .int (f j))) (fun q => nomatch q) (by rw [cx_iz]; exact hin) rfl rfl hdg fun H1 e1 e2 e3 => ?_
  rw [cx_si] at e1
  exact kk H1 _ (hW.put e1 e2 e3) (hS.put e2 e3 h1)
/-- Object's own constructor -/
theorem cx_obj (C_ : cx_C D aC cc nL own p s m args meth c) {idx a : Nat} (hlink : Cond.methodLink own idx Lib.objectInit ∈ lw_tb2) (h2 : Cond.instanceMethod Lib.objectInit ∈ lw_tb2) (h3 : Cond.code Lib.objectInit ⟨#[0xb1]⟩ 1 none ∈ lw_tb2) (hsz : ls.size = nL) (hd : decode cc pc = .ok (.invokespecial idx, 3)) (hf : 1 ≤ R.frames) (hlo : 12 ≤ R.locals)
    (kk : W p l e R s m args below meth c H locs cells slots Q (F0 m (pc + 3) ls [])) : W p l e R s m args below meth c H locs cells slots Q (F0 m pc ls [.ref a]) := by
  obtain ⟨hexec, hb, -, hml, hown, hts, -, hV, hinit⟩ := C_
  refine W.objInit hexec hb hown (hts _ hlink) (hts _ h2) (hts _ h3) rfl (by rw [hml]; exact hsz) rfl hd hf (Nat.le_trans (Nat.le_of_eq ?_) hlo) ?_
  · simp [JFrame.monitorRoom]
  · exact W.eq (g2 := F0 m (pc + 3) ls []) rfl kk
/-- new, and its constructor -/
theorem cx_make (C_ : cx_C D aC cc nL own p s m args meth c) (hW : cx_W D B n z H) (hS : va_S (fun q => B ≤ q) H0 H locs) {C host : String} {T : u_T} {N ci index idx : Nat} (hin : ∀ w ∈ u_ws C T N, w ∈ lw_tb2) (ty0 : Nat → FieldType) (hty : ∀ k, k < N → parseFieldDescriptor (T k).2.2.1 = some (ty0 k)) (hc : vwCl[ci]? = some (C, T, N)) {fs : List Value} (hfs : ∀ j, j < N → defaultValue (ty0 j) = vp_V fs j)
    {y : MethodName} {ws ws' : List Cond} {rmm : Room} {mc ms kc maxL : Nat} {bytes : ByteArray} {fin : Nat → va_E}
    (hM : Met l y ws rmm (va_Pc [.ref (B + n)] (fun U => cx_W D (B + n) 1 (fun _ => .inr (ci, fs)) U.heap ∧ cx_V D aC U)) (va_Qv (fun _ : Unit => True) (fun _ t => cx_W D (B + n) kc fin t.heap) (fun q => B + n ≤ q)) mc ms (fun q => B + n ≤ q))
    (hcl : Cond.classLink own index C ∈ lw_tb2) (hinst : Cond.instantiable C N ∈ lw_tb2) (hini : Cond.initialized C ∈ lw_tb2) (hlk : Cond.methodLinkNest own idx y host ∈ lw_nw) (him : Cond.instanceMethod y ∈ lw_tb2) (hG : GoodIn lw_tb2 ws) (hw : ws = Cond.code y bytes maxL none :: ws') (hrc : rmm.cells = mc) (hrs : rmm.slots = ms) (hyc : y.cls = C) (hyn : y.name = "<init>")
    (hd : y.cls ≠ "java/lang/invoke/MethodHandle" ∧ y.cls ≠ "java/lang/invoke/VarHandle" ∧ (parseMethodDescriptor y.desc).map (fun d => d.parameters.length) = some 0) (hR : rmm.frames + 1 ≤ R.frames ∧ 8 + (maxL + 11) + rmm.locals ≤ R.locals)
    (hcells : cells + 1 + mc ≤ R.cells) (hslots : slots + N + ms ≤ R.slots) (hsz : ls.size = nL) (hrm : ((Value.ref (B + n) :: rest).map fun v => v.category).sum ≤ 8) (hdg : decode cc pc = .ok (.new index, 3)) (hdg2 : decode cc (pc + 3) = .ok (.dup, 1)) (hdg3 : decode cc (pc + 4) = .ok (.invokespecial idx, 3))
    (hz : ∀ a, B + n ≤ a → a < B + n + kc → z a = fin a) (hk1 : 1 ≤ kc)
    (kk : ∀ (H1 : Heap) (locs1 : List Loc), cx_W D B (n + kc) z H1 → va_S (fun q => B ≤ q) H0 H1 locs1 → W p l e R s m args below meth c H1 locs1 (cells + 1 + mc) (slots + N + ms) Q (F0 m (pc + 7) ls (.ref (B + n) :: rest))) : W p l e R s m args below meth c H locs cells slots Q (F0 m pc ls rest) := by
  have C2 := C_
  obtain ⟨hexec, hb, -, hml, hown, hts, -, hV, hinit⟩ := C_
  have hKn := hV.1.1 ci _ hc
  refine W.newcK hexec hb hown (hts _ hcl) (hts _ hinst) (hts _ hini) rfl hdg (by omega) (by omega) hKn.2.1 hW.1 fun H1 kC hkC e1 z1 o1 => ?_
  have hz1 : H1.size = H.size + 1 := by rw [z1, hW.1]
  have ho : ∀ q : Nat, q < H.size → H1[q]? = H[q]? := fun q hq => o1 q (by rw [← hW.1]; exact hq)
  have hx : va_at D vwCl (B + n, .inr (ci, fs)) H1 := ⟨_, hc, (u_born ty0 hts hin hKn hkC e1 hty).to hfs⟩
  have hS1 := cx_S (n := n) hS hz1 ho
  have hW1 : cx_W D (B + n) 1 (fun _ => .inr (ci, fs)) H1 := ⟨by rw [z1], fun a h1 h2 => by rw [show a = B + n by omega]; exact hx⟩
  refine lv_dup hexec hb hdg2 rfl ?_
  refine va_callv (A1 := fun q => B + n ≤ q) (va_runIN (As := []) (rest := .ref (B + n) :: rest) ⟨hexec, hb, hml, hown, hts⟩ hM ⟨va_cnB 0 hts hG hw hrc hrs (hV.2.1 _ hlk) (by rw [hyc]; exact hts _ hini) hd hR, hyn, hts _ him⟩ ⟨fun a U g mk q => ⟨q.1, q.2.1, va_K.moved (u := U) (U := U.calling g mk a) (Vm.Alike.refl U.vm) q.2.2.1, dp_N_same (s := U) (U := U.calling g mk a) rfl q.2.2.2.1, va_AO.moved (u := U) (U := U.calling g mk a) (Vm.Alike.refl U.vm) q.2.2.2.2.1, va_AO.moved (u := U) (U := U.calling g mk a) (Vm.Alike.refl U.vm) q.2.2.2.2.2.1, va_AO.moved (u := U) (U := U.calling g mk a) (Vm.Alike.refl U.vm) q.2.2.2.2.2.2⟩, fun U hU hWm => ⟨rfl, by rw [hU]; exact hW1, cx_V_warm hWm hV⟩⟩ rfl rfl hsz rfl (lv_room hrm) hdg3 ⟨by omega, by omega⟩) hS1 (fun q _ (h : B + n ≤ q) => (show B ≤ q by omega)) (fun q (h : B + n ≤ q) => (show B ≤ q by omega)) (fun u t H2 locs2 ht hvm hw2 hB hz2 hk2 hS2 => ?_)
  have hB : cx_W D (B + n) kc fin t.heap := hB
  rw [ht] at hB
  refine kk H2 locs2 ⟨by rw [hB.1]; omega, fun a h1 h2 => ?_⟩ hS2
  by_cases ha : B + n ≤ a
  · rw [hz a ha (by omega)]; exact hB.2 a ha (by omega)
  · have e2 : H2[a]? = H[a]? := by
      rw [hk2 a (by omega) ha]
      exact ho a (by rw [hW.1]; omega)
    exact cx_at (hW.2 a h1 (by omega)) e2
end CXR

