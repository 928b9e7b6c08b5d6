/-! ===== the law's walk from its entry ===== -/
theorem wn_68 : (Jvm.Cond.instantiable "SharedComparers" (6 : Nat)) ∈ lw_tb2 := dp_w2 (List.mem_of_getElem? (i := 68) (by decide +kernel)) rfl
theorem wn_76 : (Jvm.Cond.instantiable "SharedComparers$Chip" (12 : Nat)) ∈ lw_tb2 := dp_w2 (List.mem_of_getElem? (i := 76) (by decide +kernel)) rfl
theorem wn_83 : (Jvm.Cond.instantiable "SharedComparers$Alarm" (8 : Nat)) ∈ lw_tb2 := dp_w2 (List.mem_of_getElem? (i := 83) (by decide +kernel)) rfl
theorem wn_127 : (Jvm.Cond.instantiable "SharedComparers$Comparer" (4 : Nat)) ∈ lw_tb2 := dp_w2 (List.mem_of_getElem? (i := 127) (by decide +kernel)) rfl
theorem wn_151 : (Jvm.Cond.instantiable "SharedComparers$Totals" (6 : Nat)) ∈ lw_tb2 := dp_w2 (List.mem_of_getElem? (i := 151) (by decide +kernel)) rfl
theorem wn_185 : (Jvm.Cond.instantiable "SharedComparers$RingLog" (2 : Nat)) ∈ lw_tb2 := dp_w2 (List.mem_of_getElem? (i := 185) (by decide +kernel)) rfl
theorem wn_197 : (Jvm.Cond.arrayClass Jvm.ClassFile.FieldType.int) ∈ lw_tb2 := dp_w2 (List.mem_of_getElem? (i := 197) (by decide +kernel)) rfl
theorem wn_248 : (Jvm.Cond.instantiable "SharedComparers$History" (2 : Nat)) ∈ lw_tb2 := dp_w2 (List.mem_of_getElem? (i := 248) (by decide +kernel)) rfl
theorem wn_265 : (Jvm.Cond.instantiable "SharedComparers$AlarmText" (7 : Nat)) ∈ lw_tb2 := dp_w2 (List.mem_of_getElem? (i := 265) (by decide +kernel)) rfl
theorem wn_297 : (Jvm.Cond.arrayClass Jvm.ClassFile.FieldType.char) ∈ lw_tb2 := dp_w2 (List.mem_of_getElem? (i := 297) (by decide +kernel)) rfl
theorem wn_715 : (Jvm.Cond.arrayClass Jvm.ClassFile.FieldType.long) ∈ lw_tb2 := dp_w2 (List.mem_of_getElem? (i := 715) (by decide +kernel)) rfl
theorem lx_N {s : State} {b : Nat} (hts : ∀ w ∈ lw_tbl, w.before #[Value.ref b] s = true) : dp_N s := by
  intro w hw
  have hn := (List.mem_filter.mp hw).2
  have h1 := hts w (List.mem_filter.mp hw).1
  revert hn h1
  cases w <;> intro hn h1 <;> first | exact va_Nw.of rfl h1 | exact Bool.noConfusion (show false = true from hn)
theorem lx_A {s : State} {b : Nat} {ty : FieldType} (h : (Cond.arrayClass ty).before #[Value.ref b] s = true) (hp : ∀ cA : ClassId, s.vm.findClass ("[" ++ ty.toString) = some cA → va_RA s cA ty) : ∃ cA : ClassId, ArrOfT s cA ty ∧ va_RA s cA ty := by
  obtain ⟨cA, kA, comp, h1, h2, h3⟩ := Cond.arrayClass_spec h
  exact ⟨cA, fun n z => ⟨fun k h => (by cases h), kA, h2, comp, h3⟩, hp cA h1⟩
theorem lx_O {s : State} {C : String} (h : va_AO C s) : ∃ cA : ClassId, ArrOfT s cA (.object C) ∧ va_RA s cA (.object C) := by
  obtain ⟨comp, cA, kA, h1, -, h3, h4, h5⟩ := Cond.arrayOver_spec h
  exact ⟨cA, fun n z => ⟨fun k h => (by cases h), kA, h3, comp, h4⟩, kA, comp, h3, h4, h1, h5⟩
theorem lx_V {s : State} {b : Nat} (hts : ∀ w ∈ lw_tbl, w.before #[Value.ref b] s = true) : ∃ (D : va_G) (aC : Nat → Nat), cx_V D aC s := by
  have hts2 : ∀ w ∈ lw_tb2, w.before #[Value.ref b] s = true := fun w hw => hts w (List.mem_filter.mp hw).1
  obtain ⟨c0, j0, g0⟩ := u_known (C := RX0) (T := TX0) (N := 8) (n := 8) hts2 dp_in0 (hts2 _ wn_83)
  obtain ⟨c1, j1, g1⟩ := u_known (C := RX1) (T := TX1) (N := 7) (n := 7) hts2 dp_in1 (hts2 _ wn_265)
  obtain ⟨c2, j2, g2⟩ := u_known (C := RX2) (T := TX2) (N := 12) (n := 12) hts2 dp_in2 (hts2 _ wn_76)
  obtain ⟨c3, j3, g3⟩ := u_known (C := RX3) (T := TX3) (N := 4) (n := 4) hts2 dp_in3 (hts2 _ wn_127)
  obtain ⟨c4, j4, g4⟩ := u_known (C := RX4) (T := TX4) (N := 2) (n := 2) hts2 dp_in4 (hts2 _ wn_248)
  obtain ⟨c5, j5, g5⟩ := u_known (C := RX5) (T := TX5) (N := 2) (n := 2) hts2 dp_in5 (hts2 _ wn_185)
  obtain ⟨c6, j6, g6⟩ := u_known (C := RX6) (T := TX6) (N := 6) (n := 6) hts2 dp_in6 (hts2 _ wn_151)
  obtain ⟨c7, j7, g7⟩ := u_known (C := RX7) (T := TX7) (N := 6) (n := 6) hts2 dp_in7 (hts2 _ wn_68)
  have o0 : va_AO RX0 s := va_AO.of (hts _ (List.mem_of_getElem? (i := 82) (by decide +kernel)))
  have o3 : va_AO RX3 s := va_AO.of (hts _ (List.mem_of_getElem? (i := 126) (by decide +kernel)))
  have o2 : va_AO RX2 s := va_AO.of (hts _ (List.mem_of_getElem? (i := 254) (by decide +kernel)))
  obtain ⟨a0, p0⟩ := lx_A (ty := .int) (hts2 _ wn_197) (fun cA h => h)
  obtain ⟨a1, p1⟩ := lx_A (ty := .char) (hts2 _ wn_297) (fun cA h => h)
  obtain ⟨a2, p2⟩ := lx_O o0
  obtain ⟨a3, p3⟩ := lx_O o3
  obtain ⟨a4, p4⟩ := lx_O o2
  refine ⟨(fun k => if k = 0 then c0 else if k = 1 then c1 else if k = 2 then c2 else if k = 3 then c3 else if k = 4 then c4 else if k = 5 then c5 else if k = 6 then c6 else c7, fun k => if k = 0 then j0 else if k = 1 then j1 else if k = 2 then j2 else if k = 3 then j3 else if k = 4 then j4 else if k = 5 then j5 else if k = 6 then j6 else j7), fun k => if k = 0 then a0 else if k = 1 then a1 else if k = 2 then a2 else if k = 3 then a3 else a4, ⟨fun k q hq => ?_, fun k q hq => ?_⟩, lx_N hts, o0, o3, o2⟩
  · match k, hq with
    | 0, hq => cases hq; exact g0
    | 1, hq => cases hq; exact g1
    | 2, hq => cases hq; exact g2
    | 3, hq => cases hq; exact g3
    | 4, hq => cases hq; exact g4
    | 5, hq => cases hq; exact g5
    | 6, hq => cases hq; exact g6
    | 7, hq => cases hq; exact g7
    | k + 8, hq => simp at hq
  · match k, hq with
    | 0, hq => cases hq; exact p0
    | 1, hq => cases hq; exact p1
    | 2, hq => cases hq; exact p2
    | 3, hq => cases hq; exact p3
    | 4, hq => cases hq; exact p4
    | k + 5, hq => simp [dp_tys] at hq
def kMa : kM := ([0, 0, 0, 0, 0, 0, 1, 2, 0, 0, 0, 0, 1], [[0, 6, 4, 1, 0, 0, -1005]], [(6, 0)], [])
def kZa : kZ := (kMa, none, [kM0], [], 0)
def kZb : kZ := (kMa, some kMa, [kM0], [], 0)
set_option maxRecDepth 100000 in
theorem kZa_ok : kSet kZ0 6 4 1 = some (0, kZa) := rfl
theorem kZb_ok : kKeeZ kZa = (0, kZb) := rfl
section LNL
variable {p : Program} {l : Launch} {e : Env} {R : Room} {s : State} {m : MethodId} {args : Array Value} {below : List Frame} {meth : Method} {c : Code} {H : Heap} {locs : List Loc} {cells slots : Nat} {Qw : State → Prop} {cc : ByteArray} {nL : Nat} {rt : Option FieldType} {pc : Nat} {ls : Array Slot} {rest : List Value} {D : va_G} {aC : Nat → Nat} {B : Nat} {Z : Zst} {j : Nat} {A0 : Nat → Prop} {E : Heap → Prop} {H0 : Heap}
/-- a new array of longs, behind the object -/
theorem lk_newl (C_ : lk_C D aC cc nL rt p s m args meth c) (hO : oB D aC B Z H) (hsz : H.size = B + 218) (hS : va_S A0 H0 H locs) (hA : ∀ q, H.size ≤ q → A0 q) (hz : ZJ Z j) (hLA : ∀ q, q ∈ LA B → A0 q) (hcells : cells + 1 ≤ R.cells) (hslots : slots + 64 ≤ R.slots) (hd : decode cc pc = .ok (.newarray .long, 2))
    (kk : ∀ (cA : ClassId) (H1 : Heap), ArrOfT s cA .long → oI D aC B A0 (wasE cA (B + 218) 64 (fun _ => 0)) H0 H1 locs Z j → W p l e R s m args below meth c H1 locs (cells + 1) (slots + 64) Qw (F0 m (pc + 2) ls (.ref (B + 218) :: rest))) : W p l e R s m args below meth c H locs cells slots Qw (F0 m pc ls (.int (jI 64) :: rest)) := by
  refine va_newaK (atype := .long) (N := 64) C_.1 C_.2.1 (C_.2.2.2.2.2.1 _ wn_715) rfl hd rfl (by decide) (by decide) (by decide) hcells hslots hsz fun H1 cA e1 z1 o1 hAr hNm => ?_
  have ha : B + 218 ∉ LA B := fun h => by have := (LA_ge h).2; omega
  refine kk cA H1 hAr ⟨hO.kept (fun q hq => o1 q (LA_ge hq).2), ⟨Nat.le_trans hS.1 (by omega), fun q h1 h2 => (o1 q (by have := hS.1; omega)).trans (hS.2.1 q h1 h2), hS.2.2⟩, hz, ?_, wasE_stab ha, hLA⟩
  show H1[B + 218]? = some (vp_cell cA (64, .inr (.inl (fun _ => 0))))
  rw [vp_cell_l, e1]
  rfl
end LNL
/-- YOUR PART: from the entry, for every script of at most 260 ints, the law comes to its end with true -/
theorem whole_start {p : Program} {e : Env} {s : State} {m : MethodId} {below : List Frame} {meth : Method} {c : Code} (l : Launch) (hflags : l.flags = flags0) {b L : Nat} {xs : Nat → Int32} (hL : L ≤ 260) (C0 : lw_At p s m meth c b L xs) : W p l e room_1 s m #[Value.ref b] below meth c s.heap [] 0 0 (lw_Z below #[Value.ref b] s) (entryFrame m ([Value.ref b] : List Value).toArray 12) := by
  obtain ⟨hx, hb, hr, hml, hown, hts, hX, hbl, hlocks, hgv⟩ := id C0
  have hts2 : ∀ w ∈ lw_tb2, w.before #[Value.ref b] s = true := fun w hw => hts w (List.mem_filter.mp hw).1
  obtain ⟨D, aC, hV⟩ := lx_V hts
  have C_ : lk_C D aC cL_law 12 (some .boolean) p s m #[Value.ref b] meth c := ⟨hx, hb, hr, hml, hown, hts2, hlocks, hV⟩
  have hf5 : 5 ≤ room_1.frames ∧ 304 ≤ room_1.locals := ⟨by decide, by decide⟩
  have hf : 8 ≤ room_1.frames ∧ 304 ≤ room_1.locals := ⟨by decide, by decide⟩
  have hf9 : 9 ≤ room_1.frames ∧ 343 ≤ room_1.locals := ⟨by decide, by decide⟩
  have hfp : 2 ≤ room_1.frames ∧ 61 ≤ room_1.locals := ⟨by decide, by decide⟩
  have hcs : 600000 ≤ room_1.cells ∧ 7302250 ≤ room_1.slots := ⟨Nat.le_refl _, Nat.le_refl _⟩
  have hS : va_S (fun q => s.heap.size ≤ q) s.heap s.heap [] := va_S.rf
  have hl := lv_entry ([.ref b]) (n := 12) (Nat.le_of_ble_eq_true rfl)
  rw [lg_entry_eq]
  generalize (lg_sl ([.ref b]) ++ List.replicate (12 - (lg_sl ([.ref b])).length) Slot.unset).toArray = ls at hl ⊢
  have hl : lv_has ls 12 [(0, .ref b)] := hl
  refine lk_run0 (idx := 152) C_ (fun B => met_three (B := B)) wl_635 wl_636 wl_637 rfl ⟨rfl, by decide, by decide, by decide +kernel⟩ ⟨Nat.le_of_ble_eq_true rfl, Nat.le_of_ble_eq_true rfl⟩ hS (fun q hq => Nat.le_trans hS.1 hq) ⟨Nat.le_of_ble_eq_true rfl, Nat.le_of_ble_eq_true rfl⟩ hl.1 (Nat.le_of_ble_eq_true rfl) dL_law_0 (fun H locs hz1 hS => ?_)
  refine lj_if_eq (tgt := 24) C_.1 C_.2.1 ⟨by decide, by decide⟩ dL_law_3 (by decide) (fun q => by omega) (fun _ => ?_)
  refine lk_run0 (idx := 156) C_ (fun B => met_shared (B := B)) wl_638 wl_639 wl_640 rfl ⟨rfl, by decide, by decide, by decide +kernel⟩ ⟨Nat.le_of_ble_eq_true rfl, Nat.le_of_ble_eq_true rfl⟩ hS (fun q hq => Nat.le_trans hS.1 hq) ⟨Nat.le_of_ble_eq_true rfl, Nat.le_of_ble_eq_true rfl⟩ hl.1 (Nat.le_of_ble_eq_true rfl) dL_law_6 (fun H locs hz1 hS => ?_)
  refine lj_if_eq (tgt := 24) C_.1 C_.2.1 ⟨by decide, by decide⟩ dL_law_9 (by decide) (fun q => by omega) (fun _ => ?_)
  refine lk_run0 (idx := 159) C_ (fun B => met_limits (B := B)) wl_641 wl_642 wl_643 rfl ⟨rfl, by decide, by decide, by decide +kernel⟩ ⟨Nat.le_of_ble_eq_true rfl, Nat.le_of_ble_eq_true rfl⟩ hS (fun q hq => Nat.le_trans hS.1 hq) ⟨Nat.le_of_ble_eq_true rfl, Nat.le_of_ble_eq_true rfl⟩ hl.1 (Nat.le_of_ble_eq_true rfl) dL_law_12 (fun H locs hz1 hS => ?_)
  refine lj_if_eq (tgt := 24) C_.1 C_.2.1 ⟨by decide, by decide⟩ dL_law_15 (by decide) (fun q => by omega) (fun _ => ?_)
  refine lk_run0 (idx := 162) C_ (fun B => met_texts (B := B)) wl_646 wl_647 wl_648 rfl ⟨rfl, by decide, by decide, by decide +kernel⟩ ⟨Nat.le_of_ble_eq_true rfl, Nat.le_of_ble_eq_true rfl⟩ hS (fun q hq => Nat.le_trans hS.1 hq) ⟨Nat.le_of_ble_eq_true rfl, Nat.le_of_ble_eq_true rfl⟩ hl.1 (Nat.le_of_ble_eq_true rfl) dL_law_18 (fun H locs hz1 hS => ?_)
  refine lj_if_ne (tgt := 26) C_.1 C_.2.1 ⟨by decide, by decide⟩ dL_law_21 (by decide) (fun _ => ?_) (fun q => by omega)
  obtain ⟨B, hB⟩ : ∃ B, H.size = B := ⟨_, rfl⟩
  have hz0 : s.heap.size ≤ B := by rw [← hB]; exact hS.1
  refine lk_new C_ hf5 hB hS (fun q h => Nat.le_trans hz0 h) (Nat.le_of_ble_eq_true rfl) (Nat.le_of_ble_eq_true rfl) hl.1 (Nat.le_of_ble_eq_true rfl) dL_law_26 dL_law_29 dL_law_30 (fun H locs hO hsz hold hS => ?_)
  rw [← kZ0_e] at hO
  have hz : ZJ (eZ kZ0) 0 := ⟨by rw [kZ0_e]; exact Z0_ZI ⟨by decide, by decide⟩ ⟨by decide, by decide⟩, by decide⟩
  refine lv_astore_n (lv' := [(1, .ref B), (0, .ref b)]) C_.1 C_.2.1 dL_law_33 rfl hl (by decide) rfl (fun ls hl => ?_)
  refine lv_bipush (v := jI 64) C_.1 C_.2.1 dL_law_34 (by decide) ?_
  refine lk_newl C_ hO hsz hS (fun q h => Nat.le_trans hz0 (by omega)) hz (fun q h => Nat.le_trans hz0 (LA_ge h).1) (Nat.le_of_ble_eq_true rfl) (Nat.le_of_ble_eq_true rfl) dL_law_36 (fun cA H hArr hI => ?_)
  refine W.widen (k := 600000) (n := 7302250) (Nat.le_of_ble_eq_true rfl) (Nat.le_of_ble_eq_true rfl) ?_
  refine lv_astore_n (lv' := [(2, .ref (B + 218)), (1, .ref B), (0, .ref b)]) C_.1 C_.2.1 dL_law_38 rfl hl (by decide) rfl (fun ls hl => ?_)
  refine lv_iconst (v := jI 0) C_.1 C_.2.1 dL_law_39 rfl ?_
  refine lv_istore_n (lv' := [(3, .int (jI 0)), (2, .ref (B + 218)), (1, .ref B), (0, .ref b)]) C_.1 C_.2.1 dL_law_40 rfl hl (by decide) rfl (fun ls hl => ?_)
  refine lv_aload_n C_.1 C_.2.1 dL_law_41 rfl (lv_at hl 2 rfl) ?_
  refine lv_bipush (v := jI 6) C_.1 C_.2.1 dL_law_42 (by decide) ?_
  refine lv_iconst (v := jI 4) C_.1 C_.2.1 dL_law_44 rfl ?_
  refine lv_iconst (v := jI 1) C_.1 C_.2.1 dL_law_45 rfl ?_
  refine lq_set C_ hf hcs (kSet_s kZa_ok) hI ⟨by decide, by decide⟩ ⟨by decide, by decide⟩ ⟨by decide, by decide⟩ hl.1 (Nat.le_of_ble_eq_true rfl) dL_law_46 (fun H locs hI => ?_)
  refine lj_if_ne (tgt := 59) C_.1 C_.2.1 ⟨by decide, by decide⟩ dL_law_49 (by decide) (fun q => by omega) (fun _ => ?_)
  refine lv_aload_n C_.1 C_.2.1 dL_law_52 rfl (lv_at hl 2 rfl) ?_
  refine lq_keep C_ hf hcs (kKeeZ_s kZb_ok) hI hl.1 (Nat.le_of_ble_eq_true rfl) dL_law_53 (fun H locs hI => ?_)
  refine lj_if_eq (tgt := 61) C_.1 C_.2.1 ⟨by decide, by decide⟩ dL_law_56 (by decide) (fun _ => ?_) (fun q => by omega)
  refine lv_aload_n C_.1 C_.2.1 dL_law_61 rfl (lv_at hl 2 rfl) ?_
  refine lk_seen C_ hf9 hcs hI hl.1 (Nat.le_of_ble_eq_true rfl) dL_law_62 (fun H locs hI => ?_)
  rw [show sn (eZ kZb) = snM (eM kMa) from sn_M]
  refine lv_lstore (lv' := [(4, .long (snM (eM kMa))), (3, .int (jI 0)), (2, .ref (B + 218)), (1, .ref B), (0, .ref b)]) C_.1 C_.2.1 dL_law_65 hl (by decide) rfl (fun ls hl => ?_)
  refine lv_iconst (v := jI 0) C_.1 C_.2.1 dL_law_67 rfl ?_
  refine lv_istore (lv' := [(6, .int (jI 0)), (4, .long (snM (eM kMa))), (3, .int (jI 0)), (2, .ref (B + 218)), (1, .ref B), (0, .ref b)]) C_.1 C_.2.1 dL_law_68 hl (by decide) rfl (fun ls hl => ?_)
  have hLI : LInv (eM kMa) (eZ kZb) (fun i => if i = 0 then eM kM0 else eM kMa) (fun _ => 0) 0 := ⟨rfl, rfl, rfl, rfl, ⟨by decide, fun M hM => by cases hM; decide⟩, fun i hi => by omega⟩
  exact law_acts C_ hr (by decide) hArr hX hbl hL (fun h => by have := (LA_ge h).2; omega) (by omega) 28 0 rfl 0 (Nat.le_refl 0) (eZ kZb) _ _ hLI H locs ls hI (lv_sub hl [0, 1, 2, 3, 4, 5] rfl)
