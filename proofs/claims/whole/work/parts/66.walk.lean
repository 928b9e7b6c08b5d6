/-! ===== the law: its loop, and its start ===== -/
theorem wm_66 : (Jvm.Cond.initialized "SharedComparers") ∈ lw_tb2 := dp_w2 (List.mem_of_getElem? (i := 66) (by decide +kernel)) rfl
theorem wm_74 : (Jvm.Cond.initialized "SharedComparersModel") ∈ lw_tb2 := dp_w2 (List.mem_of_getElem? (i := 74) (by decide +kernel)) rfl
theorem wm_77 : (Jvm.Cond.classLink "SharedComparersLaw" (7 : Nat) "SharedComparers") ∈ lw_tb2 := dp_w2 (List.mem_of_getElem? (i := 77) (by decide +kernel)) rfl
theorem wm_78 : (Jvm.Cond.instantiable "SharedComparers" (6 : Nat)) ∈ lw_tb2 := dp_w2 (List.mem_of_getElem? (i := 78) (by decide +kernel)) rfl
theorem wm_79 : (Jvm.Cond.methodLink "SharedComparersLaw" (9 : Nat) ({ cls := "SharedComparers", name := "<init>", desc := "()V" } : Jvm.MethodName)) ∈ lw_tb2 := dp_w2 (List.mem_of_getElem? (i := 79) (by decide +kernel)) rfl
theorem wm_80 : (Jvm.Cond.instanceMethod ({ cls := "SharedComparers", name := "<init>", desc := "()V" } : Jvm.MethodName)) ∈ lw_tb2 := dp_w2 (List.mem_of_getElem? (i := 80) (by decide +kernel)) rfl
theorem wm_81 : (Jvm.Cond.code ({ cls := "SharedComparers", name := "<init>", desc := "()V" } : Jvm.MethodName) prog_1_method_1_code (1 : Nat) (Option.none : Option Jvm.ClassFile.FieldType)) ∈ lw_tb2 := dp_w2 (List.mem_of_getElem? (i := 81) (by decide +kernel)) rfl
theorem wm_86 : (Jvm.Cond.instantiable "SharedComparers$Chip" (12 : Nat)) ∈ lw_tb2 := dp_w2 (List.mem_of_getElem? (i := 86) (by decide +kernel)) rfl
theorem wm_93 : (Jvm.Cond.instantiable "SharedComparers$Alarm" (8 : Nat)) ∈ lw_tb2 := dp_w2 (List.mem_of_getElem? (i := 93) (by decide +kernel)) rfl
theorem wm_137 : (Jvm.Cond.instantiable "SharedComparers$Comparer" (4 : Nat)) ∈ lw_tb2 := dp_w2 (List.mem_of_getElem? (i := 137) (by decide +kernel)) rfl
theorem wm_161 : (Jvm.Cond.instantiable "SharedComparers$Totals" (6 : Nat)) ∈ lw_tb2 := dp_w2 (List.mem_of_getElem? (i := 161) (by decide +kernel)) rfl
theorem wm_195 : (Jvm.Cond.instantiable "SharedComparers$RingLog" (2 : Nat)) ∈ lw_tb2 := dp_w2 (List.mem_of_getElem? (i := 195) (by decide +kernel)) rfl
theorem wm_207 : (Jvm.Cond.arrayClass Jvm.ClassFile.FieldType.int) ∈ lw_tb2 := dp_w2 (List.mem_of_getElem? (i := 207) (by decide +kernel)) rfl
theorem wm_258 : (Jvm.Cond.instantiable "SharedComparers$History" (2 : Nat)) ∈ lw_tb2 := dp_w2 (List.mem_of_getElem? (i := 258) (by decide +kernel)) rfl
theorem wm_275 : (Jvm.Cond.instantiable "SharedComparers$AlarmText" (7 : Nat)) ∈ lw_tb2 := dp_w2 (List.mem_of_getElem? (i := 275) (by decide +kernel)) rfl
theorem wm_307 : (Jvm.Cond.arrayClass Jvm.ClassFile.FieldType.char) ∈ lw_tb2 := dp_w2 (List.mem_of_getElem? (i := 307) (by decide +kernel)) rfl
theorem wm_666 : (Jvm.Cond.classLink "SharedComparersLaw" (10 : Nat) "SharedComparersModel") ∈ lw_tb2 := dp_w2 (List.mem_of_getElem? (i := 666) (by decide +kernel)) rfl
theorem wm_667 : (Jvm.Cond.instantiable "SharedComparersModel" (11 : Nat)) ∈ lw_tb2 := dp_w2 (List.mem_of_getElem? (i := 667) (by decide +kernel)) rfl
theorem wm_668 : (Jvm.Cond.methodLink "SharedComparersLaw" (12 : Nat) ({ cls := "SharedComparersModel", name := "<init>", desc := "()V" } : Jvm.MethodName)) ∈ lw_tb2 := dp_w2 (List.mem_of_getElem? (i := 668) (by decide +kernel)) rfl
theorem wm_669 : (Jvm.Cond.instanceMethod ({ cls := "SharedComparersModel", name := "<init>", desc := "()V" } : Jvm.MethodName)) ∈ lw_tb2 := dp_w2 (List.mem_of_getElem? (i := 669) (by decide +kernel)) rfl
theorem wm_670 : (Jvm.Cond.code ({ cls := "SharedComparersModel", name := "<init>", desc := "()V" } : Jvm.MethodName) prog_10_method_1_code (2 : Nat) (Option.none : Option Jvm.ClassFile.FieldType)) ∈ lw_tb2 := dp_w2 (List.mem_of_getElem? (i := 670) (by decide +kernel)) rfl
/-- new, and its constructor, in the law -/
theorem lx_make {p : Program} {l : Launch} {e : Env} {s : State} {m : MethodId} {below : List Frame} {meth : Method} {c : Code} {H : Heap} {locs : List Loc} {cells slots : Nat} {Qw : State → Prop} {pc : Nat} {ls : Array Slot} {rest : List Value} {D : va_G} {aC : Nat → Nat} {b B n : Nat} {z : Nat → va_E} {H0 : Heap} (hexec : p.tables.exec = Jvm.exec) (hb : c.code = code) (hml : c.maxLocals = 4) (hown : s.vm.findClass R_law = some m.cls) (hts : ∀ w ∈ lw_tb2, w.before #[Value.ref b] s = true) (hV : cx_V D aC s)
    (hW : cx_W D B n z H) (hS : va_S (fun q => B ≤ q) H0 H locs) {C : String} {T : u_T} {N ci index idx : Nat} (hin : ∀ w ∈ u_ws C T N, w ∈ lw_tb2) (ty0 : Nat → FieldType) (hty : ∀ k, k < N → parseFieldDescriptor (T k).2.2.1 = some (ty0 k)) (hc : vwCl[ci]? = some (C, T, N)) {fs : List Value} (hfs : ∀ j, j < N → defaultValue (ty0 j) = vp_V fs j)
    {y : MethodName} {ws ws' : List Cond} {rmm : Room} {mc ms kc maxL : Nat} {bytes : ByteArray} {fin : Nat → va_E}
    (hM : Met l y ws rmm (va_Pc [.ref (B + n)] (fun U => cx_W D (B + n) 1 (fun _ => .inr (ci, fs)) U.heap ∧ cx_V D aC U)) (va_Qv (fun _ : Unit => True) (fun _ t => cx_W D (B + n) kc fin t.heap) (fun q => B + n ≤ q)) mc ms (fun q => B + n ≤ q))
    (hcl : Cond.classLink R_law index C ∈ lw_tb2) (hinst : Cond.instantiable C N ∈ lw_tb2) (hini : Cond.initialized C ∈ lw_tb2) (hlk : Cond.methodLink R_law idx y ∈ lw_tb2) (him : Cond.instanceMethod y ∈ lw_tb2) (hG : GoodIn lw_tb2 ws) (hw : ws = Cond.code y bytes maxL none :: ws') (hrc : rmm.cells = mc) (hrs : rmm.slots = ms) (hyc : y.cls = C) (hyn : y.name = "<init>")
    (hd : y.cls ≠ "java/lang/invoke/MethodHandle" ∧ y.cls ≠ "java/lang/invoke/VarHandle" ∧ (parseMethodDescriptor y.desc).map (fun d => d.parameters.length) = some 0) (hR : rmm.frames + 1 ≤ 12 ∧ 8 + (maxL + 11) + rmm.locals ≤ 464)
    (hcells : cells + 1 + mc ≤ 600000) (hslots : slots + N + ms ≤ 7302249) (hsz : ls.size = 4) (hrm : ((Value.ref (B + n) :: rest).map fun v => v.category).sum ≤ 8) (hdg : decode code pc = .ok (.new index, 3)) (hdg2 : decode code (pc + 3) = .ok (.dup, 1)) (hdg3 : decode code (pc + 4) = .ok (.invokespecial idx, 3))
    (hz : ∀ a, B + n ≤ a → a < B + n + kc → z a = fin a) (hk1 : 1 ≤ kc)
    (kk : ∀ (H1 : Heap) (locs1 : List Loc), cx_W D B (n + kc) z H1 → va_S (fun q => B ≤ q) H0 H1 locs1 → W p l e room_1 s m #[Value.ref b] below meth c H1 locs1 (cells + 1 + mc) (slots + N + ms) Qw (F0 m (pc + 7) ls (.ref (B + n) :: rest))) : W p l e room_1 s m #[Value.ref b] below meth c H locs cells slots Qw (F0 m pc ls rest) := by
  have hKn := hV.1.1 ci _ hc
  refine W.newcK hexec hb hown (hts _ hcl) (hts _ hinst) (hts _ hini) rfl hdg (show cells + 1 ≤ 600000 by omega) (show slots + N ≤ 7302249 by omega) hKn.2.1 hW.1 fun H1 kC hkC e1 z1 o1 => ?_
  have hz1 : H1.size = H.size + 1 := by rw [z1, hW.1]
  have ho : ∀ q : Nat, q < H.size → H1[q]? = H[q]? := fun q hq => o1 q (by rw [← hW.1]; exact hq)
  have hx : va_at D vwCl (B + n, .inr (ci, fs)) H1 := ⟨_, hc, (u_born ty0 hts hin hKn hkC e1 hty).to hfs⟩
  have hS1 := cx_S (n := n) hS hz1 ho
  have hW1 : cx_W D (B + n) 1 (fun _ => .inr (ci, fs)) H1 := ⟨by rw [z1], fun a h1 h2 => by rw [show a = B + n by omega]; exact hx⟩
  refine lv_dup hexec hb hdg2 rfl ?_
  refine va_callv (A1 := fun q => B + n ≤ q) (va_runI (As := []) (rest := .ref (B + n) :: rest) ⟨hexec, hb, hml, hown, hts⟩ hM (cwI 0 hts hG hw hrc hrs (by rw [hyc]; exact hts _ hini) (hts _ hlk) (hts _ him) hyn hd hR) ⟨fun a U g mk q => ⟨q.1, q.2.1, va_K.moved (u := U) (U := U.calling g mk a) (Vm.Alike.refl U.vm) q.2.2.1, dp_N_same (s := U) (U := U.calling g mk a) rfl q.2.2.2.1, va_AO.moved (u := U) (U := U.calling g mk a) (Vm.Alike.refl U.vm) q.2.2.2.2.1, va_AO.moved (u := U) (U := U.calling g mk a) (Vm.Alike.refl U.vm) q.2.2.2.2.2.1, va_AO.moved (u := U) (U := U.calling g mk a) (Vm.Alike.refl U.vm) q.2.2.2.2.2.2⟩, fun U hU hWm => ⟨rfl, by rw [hU]; exact hW1, cx_V_warm hWm hV⟩⟩ rfl rfl hsz rfl (lv_room hrm) hdg3 ⟨show cells + 1 + mc ≤ 600000 by omega, show slots + N + ms ≤ 7302249 by omega⟩) hS1 (fun q _ (h : B + n ≤ q) => (show B ≤ q by omega)) (fun q (h : B + n ≤ q) => (show B ≤ q by omega)) (fun u t H2 locs2 ht hvm hw2 hB hz2 hk2 hS2 => ?_)
  have hB : cx_W D (B + n) kc fin t.heap := hB
  rw [ht] at hB
  refine kk H2 locs2 ⟨by rw [hB.1]; omega, fun a h1 h2 => ?_⟩ hS2
  by_cases ha : B + n ≤ a
  · rw [hz a ha (by omega)]; exact hB.2 a ha (by omega)
  · have e2 : H2[a]? = H[a]? := by
      rw [hk2 a (by omega) ha]
      exact ho a (by rw [hW.1]; omega)
    exact cx_at (hW.2 a h1 (by omega)) e2
/-- the law's loop -/
theorem lx_loop {p : Program} {l : Launch} {e : Env} {s : State} {m : MethodId} {below : List Frame} {meth : Method} {c : Code} {D : va_G} {aC : Nat → Nat} {b L B : Nat} {xs : Nat → Int32} (C_ : lx_K D aC p s m meth c b L B xs) :
    ∀ (n i : Nat) (H : Heap) (locs : List Loc) (ls : Array Slot) (Z : Zst) (T K : Int) (G : Mm), L ≤ i + 4 * n → i ≤ L + 4 → lx_I D aC B s.heap H locs Z T K G → 99999 ≤ T → T + 2000 * n ≤ 100000000 → K + 1000 * n ≤ 10000000 → lv_has ls 4 (lxL b B i) →
      W p l e room_1 s m #[Value.ref b] below meth c H locs 600000 7302249 (lw_Z below #[Value.ref b] s) (F0 m 18 ls []) := by
  obtain ⟨hx, hb, hr, hml, hown, hts, hX, hbl, hlocks, hK_, hN, hB, hL⟩ := id C_
  have hbA : ¬ (fun q => B ≤ q) b := by show ¬ B ≤ b; omega
  intro n
  induction n with
  | zero =>
    intro i H locs ls Z T K G hLi hiL hI hT0 hT hK hl
    have hS := hI.2.2.1
    refine lv_iload_n hx hb dL_law_18 rfl (lv_at hl 0 rfl) ?_
    refine lv_aload_n hx hb dL_law_19 rfl (lv_at hl 3 rfl) ?_
    refine va_slen hx hb hX hbl hbA hS dL_law_20 ?_
    refine lv_iconst (v := jI 4) hx hb dL_law_21 (by decide) ?_
    refine lv_isub hx hb dL_law_22 ?_
    rw [show Int32.ofNat L = jI (L : Int) from (Int32.ofInt_eq_ofNat).symm, jI_sub]
    refine lv_icmp_gt (tgt := 707) hx hb dL_law_23 (by decide) (fun _ => ?_) (fun q => ?_)
    · refine lv_iconst (v := 1) hx hb dL_law_707 (by decide) ?_
      refine va_forget (fun q hq => by rw [hB]; exact hS.2.2 q hq) ?_
      exact lw_ret hx hb hr hlocks dL_law_708
    · rw [jI_lt ⟨by omega, by omega⟩ (inR_n (by omega))] at q; omega
  | succ n ih =>
    intro i H locs ls Z T K G hLi hiL hI hT0 hT hK hl
    have hS := hI.2.2.1
    refine lv_iload_n hx hb dL_law_18 rfl (lv_at hl 0 rfl) ?_
    refine lv_aload_n hx hb dL_law_19 rfl (lv_at hl 3 rfl) ?_
    refine va_slen hx hb hX hbl hbA hS dL_law_20 ?_
    refine lv_iconst (v := jI 4) hx hb dL_law_21 (by decide) ?_
    refine lv_isub hx hb dL_law_22 ?_
    rw [show Int32.ofNat L = jI (L : Int) from (Int32.ofInt_eq_ofNat).symm, jI_sub]
    refine lv_icmp_gt (tgt := 707) hx hb dL_law_23 (by decide) (fun _ => ?_) (fun q => ?_)
    · refine lv_iconst (v := 1) hx hb dL_law_707 (by decide) ?_
      refine va_forget (fun q hq => by rw [hB]; exact hS.2.2 q hq) ?_
      exact lw_ret hx hb hr hlocks dL_law_708
    rw [jI_lt ⟨by omega, by omega⟩ (inR_n (by omega))] at q
    have hi : i + 4 ≤ L := by omega
    have step : ∀ (H1 : Heap) (locs1 : List Loc) (Z1 : Zst) (G1 : Mm), lx_I D aC B s.heap H1 locs1 Z1 (T + 2000) (K + 1000) G1 → W p l e room_1 s m #[Value.ref b] below meth c H1 locs1 600000 7302249 (lw_Z below #[Value.ref b] s) (F0 m 701 ls []) := by
      intro H1 locs1 Z1 G1 hI1
      refine lv_iinc (v := jI ((i + 4 : Nat) : Int)) (lv' := lxL b B (i + 4)) hx hb dL_law_701 hl (k := 0) rfl (by show jI (i : Int) + jI 4 = _; rw [jI_add]; rfl) (by decide) rfl (fun ls hl => ?_)
      refine lv_goto (tgt := 18) hx hb dL_law_704 (by decide) ?_
      exact ih (i + 4) H1 locs1 ls Z1 (T + 2000) (K + 1000) G1 (by omega) (by omega) hI1 (by omega) (by omega) (by omega) hl
    refine lv_aload_n hx hb dL_law_26 rfl (lv_at hl 3 rfl) ?_
    refine lv_iload_n hx hb dL_law_27 rfl (lv_at hl 0 rfl) ?_
    refine va_sld hx hb hX hbl hbA hS (jI_in (by omega) (by omega) (by omega)) dL_law_28 ?_
    refine lv_bipush (v := 31) hx hb dL_law_29 (by decide) ?_
    refine lv_iand hx hb dL_law_31 ?_
    generalize hsel : xs (jI (i : Int)).toNatClampNeg &&& 31 = x
    by_cases hr2 : 0 ≤ x.toInt ∧ x.toInt ≤ 22
    · rcases (show x.toInt = 0 ∨ x.toInt = 1 ∨ x.toInt = 2 ∨ x.toInt = 3 ∨ x.toInt = 4 ∨ x.toInt = 5 ∨ x.toInt = 6 ∨ x.toInt = 7 ∨ x.toInt = 8 ∨ x.toInt = 9 ∨ x.toInt = 10 ∨ x.toInt = 11 ∨ x.toInt = 12 ∨ x.toInt = 13 ∨ x.toInt = 14 ∨ x.toInt = 15 ∨ x.toInt = 16 ∨ x.toInt = 17 ∨ x.toInt = 18 ∨ x.toInt = 19 ∨ x.toInt = 20 ∨ x.toInt = 21 ∨ x.toInt = 22 by omega) with q | q | q | q | q | q | q | q | q | q | q | q | q | q | q | q | q | q | q | q | q | q | q
      · exact lv_tableIn (tgt := 140) hx hb dL_law_32 (by omega) (by omega) (by rw [q]; rfl) (by decide) (lc_0 C_ hI hT0 (by omega) (by omega) hl hi step)
      · exact lv_tableIn (tgt := 183) hx hb dL_law_32 (by omega) (by omega) (by rw [q]; rfl) (by decide) (lc_1 C_ hI hT0 (by omega) (by omega) hl hi step)
      · exact lv_tableIn (tgt := 196) hx hb dL_law_32 (by omega) (by omega) (by rw [q]; rfl) (by decide) (lc_2 C_ hI hT0 (by omega) (by omega) hl hi step)
      · exact lv_tableIn (tgt := 219) hx hb dL_law_32 (by omega) (by omega) (by rw [q]; rfl) (by decide) (lc_3 C_ hI hT0 (by omega) (by omega) hl hi step)
      · exact lv_tableIn (tgt := 252) hx hb dL_law_32 (by omega) (by omega) (by rw [q]; rfl) (by decide) (lc_4 C_ hI hT0 (by omega) (by omega) hl hi step)
      · exact lv_tableIn (tgt := 275) hx hb dL_law_32 (by omega) (by omega) (by rw [q]; rfl) (by decide) (lc_5 C_ hI hT0 (by omega) (by omega) hl hi step)
      · exact lv_tableIn (tgt := 298) hx hb dL_law_32 (by omega) (by omega) (by rw [q]; rfl) (by decide) (lc_6 C_ hI hT0 (by omega) (by omega) hl hi step)
      · exact lv_tableIn (tgt := 321) hx hb dL_law_32 (by omega) (by omega) (by rw [q]; rfl) (by decide) (lc_7 C_ hI hT0 (by omega) (by omega) hl hi step)
      · exact lv_tableIn (tgt := 344) hx hb dL_law_32 (by omega) (by omega) (by rw [q]; rfl) (by decide) (lc_8 C_ hI hT0 (by omega) (by omega) hl hi step)
      · exact lv_tableIn (tgt := 367) hx hb dL_law_32 (by omega) (by omega) (by rw [q]; rfl) (by decide) (lc_9 C_ hI hT0 (by omega) (by omega) hl hi step)
      · exact lv_tableIn (tgt := 390) hx hb dL_law_32 (by omega) (by omega) (by rw [q]; rfl) (by decide) (lc_10 C_ hI hT0 (by omega) (by omega) hl hi step)
      · exact lv_tableIn (tgt := 415) hx hb dL_law_32 (by omega) (by omega) (by rw [q]; rfl) (by decide) (lc_11 C_ hI hT0 (by omega) (by omega) hl hi step)
      · exact lv_tableIn (tgt := 428) hx hb dL_law_32 (by omega) (by omega) (by rw [q]; rfl) (by decide) (lc_12 C_ hI hT0 (by omega) (by omega) hl hi step)
      · exact lv_tableIn (tgt := 441) hx hb dL_law_32 (by omega) (by omega) (by rw [q]; rfl) (by decide) (lc_13 C_ hI hT0 (by omega) (by omega) hl hi step)
      · exact lv_tableIn (tgt := 454) hx hb dL_law_32 (by omega) (by omega) (by rw [q]; rfl) (by decide) (lc_14 C_ hI hT0 (by omega) (by omega) hl hi step)
      · exact lv_tableIn (tgt := 467) hx hb dL_law_32 (by omega) (by omega) (by rw [q]; rfl) (by decide) (lc_15 C_ hI hT0 (by omega) (by omega) hl hi step)
      · exact lv_tableIn (tgt := 500) hx hb dL_law_32 (by omega) (by omega) (by rw [q]; rfl) (by decide) (lc_16 C_ hI hT0 (by omega) (by omega) hl hi step)
      · exact lv_tableIn (tgt := 533) hx hb dL_law_32 (by omega) (by omega) (by rw [q]; rfl) (by decide) (lc_17 C_ hI hT0 (by omega) (by omega) hl hi step)
      · exact lv_tableIn (tgt := 556) hx hb dL_law_32 (by omega) (by omega) (by rw [q]; rfl) (by decide) (lc_18 C_ hI hT0 (by omega) (by omega) hl hi step)
      · exact lv_tableIn (tgt := 579) hx hb dL_law_32 (by omega) (by omega) (by rw [q]; rfl) (by decide) (lc_19 C_ hI hT0 (by omega) (by omega) hl hi step)
      · exact lv_tableIn (tgt := 622) hx hb dL_law_32 (by omega) (by omega) (by rw [q]; rfl) (by decide) (lc_20 C_ hI hT0 (by omega) (by omega) hl hi step)
      · exact lv_tableIn (tgt := 645) hx hb dL_law_32 (by omega) (by omega) (by rw [q]; rfl) (by decide) (lc_21 C_ hI hT0 (by omega) (by omega) hl hi step)
      · exact lv_tableIn (tgt := 678) hx hb dL_law_32 (by omega) (by omega) (by rw [q]; rfl) (by decide) (lc_22 C_ hI hT0 (by omega) (by omega) hl hi step)
    · refine lv_tableOut (tgt := 701) hx hb dL_law_32 (by omega) (by decide) ?_
      obtain ⟨hP, hw, hS, hC, hR, hz⟩ := hI
      exact step H locs Z G ⟨hP, hw, hS, hC, hR, hz.mono (by omega) (by omega) (by omega) (by omega)⟩
theorem lx_N {s : State} {b : Nat} (hts : ∀ w ∈ lw_tbl, w.before #[Value.ref b] s = true) : dp_N s := by
  intro w hw
  have hn := (List.mem_filter.mp hw).2
  have h1 := hts w (List.mem_filter.mp hw).1
  revert hn h1
  cases w <;> intro hn h1 <;> first | exact va_Nw.of rfl h1 | exact Bool.noConfusion (show false = true from hn)
theorem lx_A {s : State} {b : Nat} {ty : FieldType} (h : (Cond.arrayClass ty).before #[Value.ref b] s = true) (hp : ∀ cA : ClassId, s.vm.findClass ("[" ++ ty.toString) = some cA → va_RA s cA ty) : ∃ cA : ClassId, ArrOfT s cA ty ∧ va_RA s cA ty := by
  obtain ⟨cA, kA, comp, h1, h2, h3⟩ := Cond.arrayClass_spec h
  exact ⟨cA, fun n z => ⟨fun k h => (by cases h), kA, h2, comp, h3⟩, hp cA h1⟩
theorem lx_O {s : State} {C : String} (h : va_AO C s) : ∃ cA : ClassId, ArrOfT s cA (.object C) ∧ va_RA s cA (.object C) := by
  obtain ⟨comp, cA, kA, h1, -, h3, h4, h5⟩ := Cond.arrayOver_spec h
  exact ⟨cA, fun n z => ⟨fun k h => (by cases h), kA, h3, comp, h4⟩, kA, comp, h3, h4, h1, h5⟩
theorem lx_V {s : State} {b : Nat} (hts : ∀ w ∈ lw_tbl, w.before #[Value.ref b] s = true) : ∃ (D : va_G) (aC : Nat → Nat), cx_V D aC s := by
  have hts2 : ∀ w ∈ lw_tb2, w.before #[Value.ref b] s = true := fun w hw => hts w (List.mem_filter.mp hw).1
  obtain ⟨c0, j0, g0⟩ := u_known (C := RX0) (T := TX0) (N := 8) (n := 8) hts2 dp_in0 (hts2 _ wm_93)
  obtain ⟨c1, j1, g1⟩ := u_known (C := RX1) (T := TX1) (N := 7) (n := 7) hts2 dp_in1 (hts2 _ wm_275)
  obtain ⟨c2, j2, g2⟩ := u_known (C := RX2) (T := TX2) (N := 12) (n := 12) hts2 dp_in2 (hts2 _ wm_86)
  obtain ⟨c3, j3, g3⟩ := u_known (C := RX3) (T := TX3) (N := 4) (n := 4) hts2 dp_in3 (hts2 _ wm_137)
  obtain ⟨c4, j4, g4⟩ := u_known (C := RX4) (T := TX4) (N := 2) (n := 2) hts2 dp_in4 (hts2 _ wm_258)
  obtain ⟨c5, j5, g5⟩ := u_known (C := RX5) (T := TX5) (N := 2) (n := 2) hts2 dp_in5 (hts2 _ wm_195)
  obtain ⟨c6, j6, g6⟩ := u_known (C := RX6) (T := TX6) (N := 6) (n := 6) hts2 dp_in6 (hts2 _ wm_161)
  obtain ⟨c7, j7, g7⟩ := u_known (C := RX7) (T := TX7) (N := 6) (n := 6) hts2 dp_in7 (hts2 _ wm_78)
  obtain ⟨c8, j8, g8⟩ := u_known (C := RX8) (T := TX8) (N := 11) (n := 11) hts2 dp_in8 (hts2 _ wm_667)
  have o0 : va_AO RX0 s := va_AO.of (hts _ (List.mem_of_getElem? (i := 92) (by decide +kernel)))
  have o3 : va_AO RX3 s := va_AO.of (hts _ (List.mem_of_getElem? (i := 136) (by decide +kernel)))
  have o2 : va_AO RX2 s := va_AO.of (hts _ (List.mem_of_getElem? (i := 264) (by decide +kernel)))
  obtain ⟨a0, p0⟩ := lx_A (ty := .int) (hts2 _ wm_207) (fun cA h => h)
  obtain ⟨a1, p1⟩ := lx_A (ty := .char) (hts2 _ wm_307) (fun cA h => h)
  obtain ⟨a2, p2⟩ := lx_O o0
  obtain ⟨a3, p3⟩ := lx_O o3
  obtain ⟨a4, p4⟩ := lx_O o2
  refine ⟨(fun k => if k = 0 then c0 else if k = 1 then c1 else if k = 2 then c2 else if k = 3 then c3 else if k = 4 then c4 else if k = 5 then c5 else if k = 6 then c6 else if k = 7 then c7 else c8, fun k => if k = 0 then j0 else if k = 1 then j1 else if k = 2 then j2 else if k = 3 then j3 else if k = 4 then j4 else if k = 5 then j5 else if k = 6 then j6 else if k = 7 then j7 else j8), fun k => if k = 0 then a0 else if k = 1 then a1 else if k = 2 then a2 else if k = 3 then a3 else a4, ⟨fun k q hq => ?_, fun k q hq => ?_⟩, lx_N hts, o0, o3, o2⟩
  · match k, hq with
    | 0, hq => cases hq; exact g0
    | 1, hq => cases hq; exact g1
    | 2, hq => cases hq; exact g2
    | 3, hq => cases hq; exact g3
    | 4, hq => cases hq; exact g4
    | 5, hq => cases hq; exact g5
    | 6, hq => cases hq; exact g6
    | 7, hq => cases hq; exact g7
    | 8, hq => cases hq; exact g8
    | k + 9, hq => simp at hq
  · match k, hq with
    | 0, hq => cases hq; exact p0
    | 1, hq => cases hq; exact p1
    | 2, hq => cases hq; exact p2
    | 3, hq => cases hq; exact p3
    | 4, hq => cases hq; exact p4
    | k + 5, hq => simp [dp_tys] at hq
/-- YOUR PART: from the entry, for every script of at most 2048 ints, the law comes to its end with true -/
theorem whole_start {p : Program} {e : Env} {s : State} {m : MethodId} {below : List Frame} {meth : Method} {c : Code} (l : Launch) (hflags : l.flags = flags0) {b L : Nat} {xs : Nat → Int32} (hL : L ≤ 2048) (C0 : lw_At p s m meth c b L xs) : W p l e room_1 s m #[Value.ref b] below meth c s.heap [] 0 0 (lw_Z below #[Value.ref b] s) (entryFrame m ([Value.ref b] : List Value).toArray 4) := by
  obtain ⟨hx, hb, hr, hml, hown, hts, hX, hbl, hlocks, hgv⟩ := id C0
  have hts2 : ∀ w ∈ lw_tb2, w.before #[Value.ref b] s = true := fun w hw => hts w (List.mem_filter.mp hw).1
  obtain ⟨D, aC, hV⟩ := lx_V hts
  obtain ⟨B, hB⟩ : ∃ B, s.heap.size = B := ⟨_, rfl⟩
  have C_ : lx_K D aC p s m meth c b L B xs := ⟨hx, hb, hr, hml, hown, hts2, hX, hbl, hlocks, hV.1, hV.2.1, hB, hL⟩
  have hS : va_S (fun q => B ≤ q) s.heap s.heap [] := va_S.rf
  have hW : cx_W D B 0 (fin0 aC (kdl B) (B + 219)) s.heap := ⟨hB, fun a h1 h2 => by omega⟩
  have hl := lv_entry ([.ref b]) (n := 4) (Nat.le_of_ble_eq_true rfl)
  rw [lg_entry_eq]
  generalize (lg_sl ([.ref b]) ++ List.replicate (4 - (lg_sl ([.ref b])).length) Slot.unset).toArray = ls at hl ⊢
  have hl : lv_has ls 4 [(0, .ref b)] := hl
  refine lx_make (n := 0) (C := RX7) (T := TX7) (N := 6) (ci := 7) (index := 7) (idx := 9) (kc := 218) (fs := [.null, .null, .null, .null, .null, .int 0]) hx hb hml hown hts2 hV hW hS dp_in7 tyX7 tyX7_ok rfl (fun j hj => by rcases (show j = 0 ∨ j = 1 ∨ j = 2 ∨ j = 3 ∨ j = 4 ∨ j = 5 by omega) with rfl | rfl | rfl | rfl | rfl | rfl <;> rfl) (ct_X7 (h0 := B + 0) (nw := B + 219) (kd := kdl B) (fun i hi => by rw [Nat.add_zero, kdl_at, lkd_s hi]) (by omega)) wm_77 wm_78 wm_66 wm_79 wm_80 (cWs_good wm_81 rfl) rfl rfl rfl rfl rfl ⟨by decide, by decide, by decide +kernel⟩ ⟨by decide, by decide⟩ (Nat.le_of_ble_eq_true rfl) (Nat.le_of_ble_eq_true rfl) hl.1 (Nat.le_of_ble_eq_true rfl) dL_law_0 dL_law_3 dL_law_4 (fun a h1 h2 => rfl) (by decide) (fun H locs hW hS => ?_)
  refine lv_astore_n (lv' := [(1, .ref (B + 0)), (0, .ref b)]) hx hb dL_law_7 rfl hl (by decide) rfl (fun ls hl => ?_)
  refine lx_make (n := 218) (C := RX8) (T := TX8) (N := 11) (ci := 8) (index := 10) (idx := 12) (kc := 7) (fs := [.null, .null, .null, .int 0, .null, .int 0, .null, .int 0, .int 0, .null, .int 0]) hx hb hml hown hts2 hV hW hS dp_in8 tyX8 tyX8_ok rfl (fun j hj => by rcases (show j = 0 ∨ j = 1 ∨ j = 2 ∨ j = 3 ∨ j = 4 ∨ j = 5 ∨ j = 6 ∨ j = 7 ∨ j = 8 ∨ j = 9 ∨ j = 10 by omega) with rfl | rfl | rfl | rfl | rfl | rfl | rfl | rfl | rfl | rfl | rfl <;> rfl) (ct_X8 (h0 := B + 218) (kd := kdl B) (kdl_at B 218) (kdl_at B 219) (kdl_at B 220) (kdl_at B 221) (kdl_at B 222) (kdl_at B 223) (kdl_at B 224)) wm_666 wm_667 wm_74 wm_668 wm_669 (cWs_good wm_670 rfl) rfl rfl rfl rfl rfl ⟨by decide, by decide, by decide +kernel⟩ ⟨by decide, by decide⟩ (Nat.le_of_ble_eq_true rfl) (Nat.le_of_ble_eq_true rfl) hl.1 (Nat.le_of_ble_eq_true rfl) dL_law_8 dL_law_11 dL_law_12 (fun a h1 h2 => rfl) (by decide) (fun H locs hW hS => ?_)
  refine lv_astore_n (lv' := [(2, .ref (B + 218)), (1, .ref (B + 0)), (0, .ref b)]) hx hb dL_law_15 rfl hl (by decide) rfl (fun ls hl => ?_)
  refine lv_iconst (v := jI 0) hx hb dL_law_16 (by decide) ?_
  refine lv_istore_n (lv' := lxL b B 0) hx hb dL_law_17 rfl hl (by decide) rfl (fun ls hl => ?_)
  refine W.widen (k := 600000) (n := 7302249) (Nat.le_of_ble_eq_true rfl) (Nat.le_of_ble_eq_true rfl) ?_
  exact lx_loop C_ 512 0 H locs ls Z0 99999 0 (ini (kdl B) (B + 219)) (by omega) (by omega) ⟨LL_P hW, ini_WT B, hS, ini_SysC B, ini_SysR B, Z0_ZI (by omega) (by omega)⟩ (by omega) (by omega) (by omega) hl
