-- ===== end of PART A; then your names; then what follows =====
/-! THE CLAIM OUT OF ONE WALK OF THE LAW'S BODY. Your part is whole_start (and what it stands on); all else here is the same for every law, but numbers. -/
def R_law : String := "SharedComparersLaw"
def lw_P (b : Addr) (xs : List Int32) (args : Array Value) (s : State) : Prop := args = #[.ref b] ∧ s.IntsAt b xs ∧ xs.length ≤ 2048 ∧ (Jvm.Cond.and given_1 narrow_1).before args s = true
def lw_Q (_ : Array Value) (s : State) (o : Outcome) (t : State) : Prop := o = .returned (some (.int 1)) ∧ Framed s o t [] 600000 7302249
def lw_Z (below : List Frame) (a : Array Value) (s : State) : State → Prop := fun t => ∃ o, t.status = .running ∧ Ended t below o ∧ lw_Q a s o t
/-- the law's own end, with 1 on the stack, nothing written that was there before, its room as the claim has it -/
theorem lw_ret {p : Program} {l : Launch} {e : Env} {s : State} {m : MethodId} {below : List Frame} {meth : Method} {c : Code} {b : Nat} (hx : p.tables.exec = Jvm.exec) (hb : c.code = code) (hr : meth.sig.returnType = ret) (hlocks : meth.locks = false) {pc : Nat} {H : Heap} {ls : Array Slot} (hdg : decode code pc = .ok (.ireturn, 1)) : W p l e room_1 s m #[Value.ref b] below meth c H [] 600000 7302249 (lw_Z below #[Value.ref b] s) (F0 m pc ls [.int 1]) := by
  intro T hT X
  obtain ⟨fs, hret, hrun, hended, hW, hframe⟩ := X.leave (v := some (.int 1)) (hlocks := hlocks) (fun h => by rw [hr] at h; cases h)
  have hmeth' : T.vm.method? m = some meth := X.method'
  refine ⟨T.setFrames fs, ?_, .returned (some (.int 1)), hrun, hended, rfl, ⟨_, rfl⟩, hW, hframe⟩
  jvm_step X.here [X.here.top, hx, hb, hdg, hmeth', hr, ret, narrow_b1]
  (try refine ⟨rfl, ?_⟩); (try refine ⟨rfl, ?_⟩)
  first | (intro acts; rw [hret _ acts rfl rfl rfl]) | rw [hret _ _ rfl rfl rfl]
  exact Steps.refl _
/-- what holds at the law's entry: the machine, the code, the tables' words (any of lw_tbl by 'hts w (by decide +kernel)'), the script of L ints xs at the cell b, what the Statement gives of the start (any of its parts by flat_of_before) -/
def lw_At (p : Program) (s : State) (m : MethodId) (meth : Method) (c : Code) (b L : Nat) (xs : Nat → Int32) : Prop :=
  p.tables.exec = Jvm.exec ∧ c.code = code ∧ meth.sig.returnType = ret ∧ c.maxLocals = 4 ∧ s.vm.findClass R_law = some m.cls ∧ (∀ w ∈ lw_tbl, w.before #[Value.ref b] s = true) ∧ va_X b L xs s s.heap ∧ b < s.heap.size ∧ meth.locks = false ∧ (Jvm.Cond.and given_1 narrow_1).before #[Value.ref b] s = true
/-! ===== the law: its calls, what it reads ===== -/
abbrev lx_K (D : va_G) (aC : Nat → Nat) (p : Program) (s : State) (m : MethodId) (meth : Method) (c : Code) (b L B : Nat) (xs : Nat → Int32) : Prop :=
  p.tables.exec = Jvm.exec ∧ c.code = code ∧ meth.sig.returnType = ret ∧ c.maxLocals = 4 ∧ s.vm.findClass R_law = some m.cls ∧ (∀ w ∈ lw_tb2, w.before #[Value.ref b] s = true) ∧ va_X b L xs s s.heap ∧ b < s.heap.size ∧ meth.locks = false ∧ va_K D vwCl (dp_tys aC) s ∧ dp_N s ∧ s.heap.size = B ∧ L ≤ 2048
def lxL (b B i : Nat) : List (Nat × Value) := [(3, .int (jI (i : Int))), (2, .ref (B + 218)), (1, .ref B), (0, .ref b)]
/-- both objects stand for Z, at memory G -/
def lx_I (D : va_G) (aC : Nat → Nat) (B : Nat) (H0 H : Heap) (locs : List Loc) (Z : Zst) (T K : Int) (G : Mm) : Prop :=
  va_P D vwCl (va_pl (LL B) (dp_ce aC (kdl B) G)) H ∧ dp_WT (LL B) (kdl B) G ∧ va_S (fun q => B ≤ q) H0 H locs ∧ SysC G B Z ∧ SysR G (B + 218) Z ∧ ZI Z T K
section LXR
variable {p : Program} {l : Launch} {e : Env} {s : State} {m : MethodId} {below : List Frame} {meth : Method} {c : Code} {H : Heap} {locs : List Loc} {cells slots : Nat} {Qw : State → Prop} {pc : Nat} {ls : Array Slot} {rest : List Value} {D : va_G} {aC : Nat → Nat} {b L B i : Nat} {xs : Nat → Int32}
theorem lx_rd (C_ : lx_K D aC p s m meth c b L B xs) (hS : va_S (fun q => B ≤ q) s.heap H locs) (hl : lv_has ls 4 (lxL b B i)) {k : Nat} (hk : i + k < L) {kz : Int} (hkz : kz = (k : Int)) (d0 : decode code pc = .ok (.aload_n 0, 1)) (d1 : decode code (pc + 1) = .ok (.iload_n 3, 1)) (d2 : decode code (pc + 2) = .ok (.iconst kz, 1)) (d3 : decode code (pc + 3) = .ok (.iadd, 1)) (d4 : decode code (pc + 4) = .ok (.iaload, 1))
    (kk : W p l e room_1 s m #[Value.ref b] below meth c H locs cells slots Qw (F0 m (pc + 5) ls (.int (jI (xs (i + k)).toInt) :: rest))) : W p l e room_1 s m #[Value.ref b] below meth c H locs cells slots Qw (F0 m pc ls rest) := by
  obtain ⟨hx, hb, -, -, -, -, hX, hbl, -, -, -, hB, hL⟩ := C_
  have hbA : ¬ (fun q => B ≤ q) b := by show ¬ B ≤ b; omega
  refine lv_aload_n hx hb d0 rfl (lv_at hl 3 rfl) ?_
  refine lv_iload_n hx hb d1 rfl (lv_at hl 0 rfl) ?_
  refine lv_iconst (v := jI (k : Int)) hx hb d2 (by rw [hkz]; rfl) ?_
  refine lv_iadd hx hb d3 ?_
  rw [jI_add, show (i : Int) + (k : Int) = ((i + k : Nat) : Int) by omega]
  refine va_sld hx hb hX hbl hbA hS (jI_in (by omega) (by omega) (by omega)) d4 ?_
  rw [jI_cln (by omega)]
  rw [jI_of] at kk
  exact kk
/-- a call of one of the two -/
theorem lx_call (C_ : lx_K D aC p s m meth c b L B xs) {kd : Nat → Nat} {LA : List Nat} {A0 : Nat → Prop} {H0 : Heap} {G : Mm} (hP : va_P D vwCl (va_pl LA (dp_ce aC kd G)) H) (hD : ∀ f : Nat → va_E, va_D (fun q => q ∈ LA) (va_pl LA f)) (hw : dp_WT LA kd G) (hS : va_S A0 H0 H locs) (hLA : ∀ q, q ∈ LA → A0 q)
    {C : String} {T : u_T} {N t r k' idx n mLl : Nat} {As : List Int32} {Q : dp_Ps} (hcl : vwCl[t]? = some (C, T, N)) (hcc : (mY k').cls = C) (ht : t < 9) (hr : r ∈ LA) (hkr : kd r = t)
    (h1 : Cond.methodLink R_law idx (mY k') ∈ lw_tb2) (h2 : Cond.instanceMethod (mY k') ∈ lw_tb2) (h3 : Cond.selects C (mY k') (mY k') ∈ lw_tb2) (h4 : Cond.initialized (mY k').cls ∈ lw_tb2) (h5 : Cond.code (mY k') (mB k') (mL k') (mT k') ∈ lw_tb2) (hpn : plainName (mY k').cls = true) (hml : n + 1 ≤ mL k')
    (hd0 : (mY k').cls ≠ "java/lang/invoke/MethodHandle" ∧ (mY k').cls ≠ "java/lang/invoke/VarHandle" ∧ (parseMethodDescriptor (mY k').desc).map (fun d => d.parameters.length) = some n) (hR : (rm k').frames + 1 ≤ 12 ∧ 8 + (mL k' + 11) + (rm k').locals ≤ 464) {ty : FieldType} (hT : mT k' = some ty) (hmm : mL k' = mLl) (hd : decode code pc = .ok (.invokevirtual idx, 3))
    (hcs : cells + 0 ≤ room_1.cells ∧ slots + 0 ≤ room_1.slots) (hn : As.length = n) (hls : ls.size = 4) (hrm : (rest.map fun v => v.category).sum ≤ 8) (hsp : Sp k' mLl (vR t r :: As.map vI) G Q)
    (kk : ∀ (x : Int32) (G' : Mm) (H1 : Heap) (locs1 : List Loc), Q x G' → dp_WT LA kd G' → va_P D vwCl (va_pl LA (dp_ce aC kd G')) H1 → va_S A0 H0 H1 locs1 → W p l e room_1 s m #[Value.ref b] below meth c H1 locs1 cells slots Qw (F0 m (pc + 3) ls (.int x :: rest))) :
    W p l e room_1 s m #[Value.ref b] below meth c H locs cells slots Qw (F0 m pc ls ((As.map Value.int).reverse ++ .ref r :: rest)) := by
  subst hmm
  obtain ⟨hx, hb, -, hml4, hown, hts, -, -, -, hK, hN, -, -⟩ := C_
  obtain ⟨q0, hq0⟩ := va_pl_get (X := []) (f := dp_ce aC kd G) hr
  rw [List.nil_append, dp_ce_obj hkr ht] at hq0
  have hmap : (As.map vI).map dp_tv = As.map Value.int := by
    rw [List.map_map]; rfl
  have hM := dp_met (l := l) (D := D) (L := LA) (kd := kd) (aC := aC) (k := k') (args := vR t r :: As.map vI) hpn (by rw [List.length_cons, List.length_map, hn]; exact hml) (dp_sound hsp) hw (by
    intro v hv
    rcases List.mem_cons.mp hv with rfl | hv
    · exact ⟨hr, hkr⟩
    · obtain ⟨x, -, rfl⟩ := List.mem_map.mp hv
      exact trivial)
  have hx1 : dp_Q D LA kd aC k' Q = va_Qi (fun (x : Int32) (G' : Mm) => Q x G' ∧ dp_WT LA kd G') (fun G' t => dp_B D LA kd aC G' t) (fun q => q ∈ LA) := by unfold dp_Q; rw [hT]
  rw [hx1] at hM
  rw [show (vR t r :: As.map vI).map dp_tv = .ref r :: As.map Value.int by rw [List.map_cons, hmap]; rfl] at hM
  refine va_calli (va_runV (C := C) (As := As.map Value.int) (rest := rest) ⟨hx, hb, hml4, hown, hts⟩ hM (cwV n hts ?_ rfl rfl rfl ⟨hcc, hd0⟩ hR) ⟨dp_FB, va_recv hK hP hcl hq0, fun U hU hW => ⟨rfl, by rw [hU]; exact hP, va_K.moved hW.alike hK, hD _, dp_N_warm hW hN⟩⟩ rfl (by rw [List.length_map]; exact hn) hls rfl (lv_room hrm) hd hcs) hS (fun q _ h => hLA q h) (fun q h => hLA q h) (fun x u t H1 locs1 ht hvm hw1 hB1 hz1 hk1 hS1 => ?_)
  · refine dp_wsIn ?_ (dp_mWc k' h5 rfl)
    intro w hw
    simp only [List.mem_cons, List.mem_nil_iff, or_false] at hw
    rcases hw with rfl | rfl | rfl | rfl
    · exact dp_good _ h1
    · exact dp_good _ h2
    · exact dp_good _ h3
    · rw [← hcc]; exact dp_good _ h4
  · obtain ⟨hP1, -, -, -⟩ := hB1
    rw [ht] at hP1
    exact kk x u H1 locs1 hw1.1 hw1.2 hP1 hS1
end LXR
