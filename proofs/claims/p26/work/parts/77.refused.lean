/-! ===== calls of seen and refusesAny; refused ===== -/
section LSR
variable {p : Program} {l : Launch} {e : Env} {R : Room} {s : State} {m : MethodId} {args : Array Value} {below : List Frame} {meth : Method} {c : Code} {H : Heap} {locs : List Loc} {cells slots : Nat} {Qw : State → Prop} {cc : ByteArray} {nL : Nat} {rt : Option FieldType} {pc : Nat} {ls : Array Slot} {rest : List Value} {D : va_G} {aC : Nat → Nat} {B : Nat} {Z : Zst} {j : Nat} {A0 : Nat → Prop} {E : Heap → Prop} {H0 : Heap}
theorem lk_seen (C_ : lk_C D aC cc nL rt p s m args meth c) (hf : 9 ≤ R.frames ∧ 343 ≤ R.locals) (hcs : cells ≤ R.cells ∧ slots ≤ R.slots) (hI : oI D aC B A0 E H0 H locs Z j) (hls : ls.size = nL) (hrm : (rest.map fun v => v.category).sum ≤ 8) (hd : decode cc pc = .ok (.invokestatic 73, 3))
    (kk : ∀ (H1 : Heap) (locs1 : List Loc), oI D aC B A0 E H0 H1 locs1 Z j → W p l e R s m args below meth c H1 locs1 cells slots Qw (F0 m (pc + 3) ls (.long (sn Z) :: rest))) : W p l e R s m args below meth c H locs cells slots Qw (F0 m pc ls (.ref B :: rest)) := by
  obtain ⟨hO, hS, hz, hE, hEs, hLA⟩ := hI
  refine va_calll (lk_stat (n := 1) (As := [.ref B]) (rest := rest) (P := oB D aC B Z) C_ (met_seen hz) hO wl_572 wl_573 wl_574 rfl rfl rfl ⟨rfl, by decide, by decide, by decide +kernel⟩ ⟨Nat.le_trans (Nat.le_of_ble_eq_true rfl) hf.1, Nat.le_trans (Nat.le_of_ble_eq_true rfl) hf.2⟩ rfl hls hrm hd hcs) hS (fun q _ h => hLA q h) (fun q h => hLA q h) (fun r u t H1 locs1 ht hvm hp hB hz1 hk1 hS1 => ?_)
  have hp : r = sn Z := hp
  have hB : oB D aC B Z t.heap := hB
  subst hp
  rw [ht] at hB
  exact kk H1 locs1 ⟨hB, hS1, hz, hEs H H1 hE hz1 hk1, hEs, hLA⟩
/-- a call of one of the law's own on the object, that answers 1 and leaves the state -/
theorem lk_one (C_ : lk_C D aC cc nL rt p s m args meth c) {y : MethodName} {bytes : ByteArray} {maxL idx n : Nat} {rmm : Room} {As : List Value} (hM : Met l y (lWs y bytes maxL (some .boolean)) rmm (va_Pc As (fun U => oB D aC B Z U.heap ∧ cx_V D aC U)) (qI (fun x => x = jI 1) (oB D aC B Z) (fun q => q ∈ LA B)) 0 0 (fun q => q ∈ LA B))
    (h1 : Cond.methodLink R_law idx y ∈ lw_tb2) (h2 : Cond.static y ∈ lw_tb2) (h5 : Cond.code y bytes maxL (some .boolean) ∈ lw_tb2) (hg : goodWord (Cond.code y bytes maxL (some .boolean)) = true) (hrc : rmm.cells = 0) (hrs : rmm.slots = 0)
    (hd0 : y.cls = R_law ∧ y.cls ≠ "java/lang/invoke/MethodHandle" ∧ y.cls ≠ "java/lang/invoke/VarHandle" ∧ (parseMethodDescriptor y.desc).map (fun d => d.parameters.length) = some n) (hR : rmm.frames + 1 ≤ R.frames ∧ 8 + (maxL + 11) + rmm.locals ≤ R.locals) (hn : As.length = n)
    (hcs : cells ≤ R.cells ∧ slots ≤ R.slots) (hI : oI D aC B A0 E H0 H locs Z j) (hls : ls.size = nL) (hrm : (rest.map fun v => v.category).sum ≤ 8) (hd : decode cc pc = .ok (.invokestatic idx, 3))
    (kk : ∀ (H1 : Heap) (locs1 : List Loc), oI D aC B A0 E H0 H1 locs1 Z j → W p l e R s m args below meth c H1 locs1 cells slots Qw (F0 m (pc + 3) ls (.int (jI 1) :: rest))) : W p l e R s m args below meth c H locs cells slots Qw (F0 m pc ls (As.reverse ++ rest)) := by
  obtain ⟨hO, hS, hz, hE, hEs, hLA⟩ := hI
  refine va_calli (lk_stat (As := As) (rest := rest) (P := oB D aC B Z) C_ hM hO h1 h2 h5 hg hrc hrs hd0 hR hn hls hrm hd hcs) hS (fun q _ h => hLA q h) (fun q h => hLA q h) (fun r u t H1 locs1 ht hvm hp hB hz1 hk1 hS1 => ?_)
  have hp : r = jI 1 := hp
  have hB : oB D aC B Z t.heap := hB
  subst hp
  rw [ht] at hB
  exact kk H1 locs1 ⟨hB, hS1, hz, hEs H H1 hE hz1 hk1, hEs, hLA⟩
end LSR
theorem zAt_0 {Z : Zst} {T K : Int} (h : ZI Z T K) : zAt Z 0 = -1005 ∨ ∃ a, lkp Z.1.2.1 (zAt Z 0) = some a := by
  unfold zAt
  rw [if_neg (by decide)]
  cases hf : Z.1.2.1.find? (fun a => decide ((befN Z.1.2.1 a : Int) = 0)) with
  | none => exact Or.inl rfl
  | some a => exact Or.inr ⟨a, lkp_s h.1.1.2.2.1 (List.mem_of_find?_eq_some hf) rfl⟩
theorem lg_cmp_s (x : Int64) : lg_cmp x x = jI 0 := (lg_cmp_eq x x).mpr rfl
/-- what is refused is refused, and nothing changes -/
theorem met_refused {l : Launch} {D : va_G} {aC : Nat → Nat} {B : Nat} {Z : Zst} {j : Nat} (hz : ZJ Z j) (hj : j + 1 ≤ 9000) : Met l yL_refused (lWs yL_refused cL_refused 6 (some .boolean)) (rmL 9 0 0) (va_Pc [.ref B] (fun U => oB D aC B Z U.heap ∧ cx_V D aC U)) (qI (fun x => x = jI 1) (oB D aC B Z) (fun q => q ∈ LA B)) 0 0 (fun q => q ∈ LA B) := by
  refine lk_met (P := oB D aC B Z) (by decide +kernel) rfl (Nat.le_of_ble_eq_true rfl) (fun p e s m args below meth c ls C_ hl hO => ?_)
  have hl : lv_has ls 6 [(0, .ref B)] := hl
  have hf : 9 ≤ (rmL 9 0 0).frames ∧ 343 ≤ (rmL 9 0 0).locals := ⟨by decide, by decide⟩
  have hf8 : 8 ≤ (rmL 9 0 0).frames ∧ 304 ≤ (rmL 9 0 0).locals := ⟨by decide, by decide⟩
  have hcs : 0 ≤ (rmL 9 0 0).cells ∧ 0 ≤ (rmL 9 0 0).slots := ⟨by decide, by decide⟩
  have hI : oI D aC B (fun q => q ∈ LA B) (fun _ => True) s.heap s.heap [] Z j := ⟨hO, va_S.rf, hz, trivial, stab_t, fun q h => h⟩
  have p81 : ∀ (H : Heap) (locs : List Loc) (ls : Array Slot), oI D aC B (fun q => q ∈ LA B) (fun _ => True) s.heap H locs Z j → lv_has ls 6 [(4, .int (jI (zAt Z 0))), (3, .int (jI (zCnt Z 16))), (1, .long (sn Z)), (0, .ref B)] → W p l e (rmL 9 0 0) s m args below meth c H locs 0 0 (MQ below (qI (fun x => x = jI 1) (oB D aC B Z) (fun q => q ∈ LA B)) args s 0 0 (fun q => q ∈ LA B)) (F0 m 81 ls []) := by
    intro H locs ls hI hl
    refine lv_iconst (v := jI 1) C_.1 C_.2.1 dL_refused_81 rfl ?_
    refine lv_goto (tgt := 86) C_.1 C_.2.1 dL_refused_82 (by decide) ?_
    refine lv_istore (lv' := [(5, .int (jI 1)), (4, .int (jI (zAt Z 0))), (3, .int (jI (zCnt Z 16))), (1, .long (sn Z)), (0, .ref B)]) C_.1 C_.2.1 dL_refused_86 hl (by decide) rfl (fun ls hl => ?_)
    refine lv_iload C_.1 C_.2.1 dL_refused_88 (lv_at hl 0 rfl) ?_
    refine lj_if_eq (tgt := 132) C_.1 C_.2.1 ⟨by decide, by decide⟩ dL_refused_90 (by decide) (fun q => by omega) (fun _ => ?_)
    refine lv_aload_n C_.1 C_.2.1 dL_refused_93 rfl (lv_at hl 4 rfl) ?_
    refine lv_iconst (v := jI 0) C_.1 C_.2.1 dL_refused_94 rfl ?_
    refine lk_one (idx := 77) (n := 2) (As := [.ref B, .int (jI 0)]) C_ (met_refA0 hz hj) wl_606 wl_607 wl_608 rfl rfl rfl ⟨rfl, by decide, by decide, by decide +kernel⟩ ⟨Nat.le_of_ble_eq_true rfl, Nat.le_of_ble_eq_true rfl⟩ rfl hcs hI hl.1 (Nat.le_of_ble_eq_true rfl) dL_refused_95 (fun H locs hI => ?_)
    refine lj_if_eq (tgt := 132) C_.1 C_.2.1 ⟨by decide, by decide⟩ dL_refused_98 (by decide) (fun q => by omega) (fun _ => ?_)
    refine lv_aload_n C_.1 C_.2.1 dL_refused_101 rfl (lv_at hl 4 rfl) ?_
    refine lv_iconst (v := jI 1) C_.1 C_.2.1 dL_refused_102 rfl ?_
    refine lk_one (idx := 77) (n := 2) (As := [.ref B, .int (jI 1)]) C_ (met_refA1 hz hj) wl_606 wl_607 wl_608 rfl rfl rfl ⟨rfl, by decide, by decide, by decide +kernel⟩ ⟨Nat.le_of_ble_eq_true rfl, Nat.le_of_ble_eq_true rfl⟩ rfl hcs hI hl.1 (Nat.le_of_ble_eq_true rfl) dL_refused_103 (fun H locs hI => ?_)
    refine lj_if_eq (tgt := 132) C_.1 C_.2.1 ⟨by decide, by decide⟩ dL_refused_106 (by decide) (fun q => by omega) (fun _ => ?_)
    refine lv_aload_n C_.1 C_.2.1 dL_refused_109 rfl (lv_at hl 4 rfl) ?_
    refine lk_seen C_ hf hcs hI hl.1 (Nat.le_of_ble_eq_true rfl) dL_refused_110 (fun H locs hI => ?_)
    refine lv_lload_n C_.1 C_.2.1 dL_refused_113 rfl (lv_at hl 3 rfl) ?_
    refine W.lcmp C_.1 C_.2.1 dL_refused_114 ?_
    rw [lg_cmp_s]
    refine lj_if_ne (tgt := 132) C_.1 C_.2.1 ⟨by decide, by decide⟩ dL_refused_115 (by decide) (fun q => by omega) (fun _ => ?_)
    refine lv_aload_n C_.1 C_.2.1 dL_refused_118 rfl (lv_at hl 4 rfl) ?_
    refine lv_bipush (v := jI 16) C_.1 C_.2.1 dL_refused_119 (by decide) ?_
    refine lk_count C_ hf8 hcs hI ⟨by decide, by decide⟩ hl.1 (Nat.le_of_ble_eq_true rfl) dL_refused_121 (fun H locs hI => ?_)
    refine lv_iload_n C_.1 C_.2.1 dL_refused_124 rfl (lv_at hl 2 rfl) ?_
    refine lv_icmp_ne (tgt := 132) C_.1 C_.2.1 dL_refused_125 (by decide) (fun q => absurd rfl q) (fun _ => ?_)
    refine lv_iconst (v := jI 1) C_.1 C_.2.1 dL_refused_128 rfl ?_
    refine lv_goto (tgt := 133) C_.1 C_.2.1 dL_refused_129 (by decide) ?_
    exact lk_zend C_ hI.2.1 hI.1 dL_refused_133
  refine lv_aload_n C_.1 C_.2.1 dL_refused_0 rfl (lv_at hl 0 rfl) ?_
  refine lk_seen C_ hf hcs hI hl.1 (Nat.le_of_ble_eq_true rfl) dL_refused_1 (fun H locs hI => ?_)
  refine lv_lstore_n (lv' := [(1, .long (sn Z)), (0, .ref B)]) C_.1 C_.2.1 dL_refused_4 rfl hl (by decide) rfl (fun ls hl => ?_)
  refine lv_aload_n C_.1 C_.2.1 dL_refused_5 rfl (lv_at hl 1 rfl) ?_
  refine lv_bipush (v := jI 16) C_.1 C_.2.1 dL_refused_6 (by decide) ?_
  refine lk_count C_ hf8 hcs hI ⟨by decide, by decide⟩ hl.1 (Nat.le_of_ble_eq_true rfl) dL_refused_8 (fun H locs hI => ?_)
  refine lv_istore_n (lv' := [(3, .int (jI (zCnt Z 16))), (1, .long (sn Z)), (0, .ref B)]) C_.1 C_.2.1 dL_refused_11 rfl hl (by decide) rfl (fun ls hl => ?_)
  refine lv_aload_n C_.1 C_.2.1 dL_refused_12 rfl (lv_at hl 2 rfl) ?_
  refine lv_iconst (v := jI 0) C_.1 C_.2.1 dL_refused_13 rfl ?_
  refine lk_at C_ hf8 hcs hI ⟨by decide, by decide⟩ hl.1 (Nat.le_of_ble_eq_true rfl) dL_refused_14 (fun H locs hI => ?_)
  refine lv_istore (lv' := [(4, .int (jI (zAt Z 0))), (3, .int (jI (zCnt Z 16))), (1, .long (sn Z)), (0, .ref B)]) C_.1 C_.2.1 dL_refused_17 hl (by decide) rfl (fun ls hl => ?_)
  refine lv_iload C_.1 C_.2.1 dL_refused_19 (lv_at hl 0 rfl) ?_
  refine lv_sipush (v := jI (-1005)) C_.1 C_.2.1 dL_refused_21 (by decide) ?_
  refine lj_eq (tgt := 81) C_.1 C_.2.1 (zAt_in hz.1 _) ⟨by decide, by decide⟩ dL_refused_24 (by decide) (fun _ => p81 H locs ls hI hl) (fun q => ?_)
  rcases zAt_0 hz.1 with q0 | ⟨a, ha⟩
  · exact absurd q0 q
  refine lv_aload_n C_.1 C_.2.1 dL_refused_27 rfl (lv_at hl 3 rfl) ?_
  refine lv_iload C_.1 C_.2.1 dL_refused_28 (lv_at hl 0 rfl) ?_
  refine lv_iconst (v := jI (-1)) C_.1 C_.2.1 dL_refused_30 rfl ?_
  refine lq_alarm C_ hf8 hcs (zAla_b ha (by omega)) hI (zAt_in hz.1 _) ⟨by decide, by decide⟩ hl.1 (Nat.le_of_ble_eq_true rfl) dL_refused_31 (fun H locs hI => ?_)
  refine lv_sipush (v := jI (-1002)) C_.1 C_.2.1 dL_refused_34 (by decide) ?_
  refine lj_ne (tgt := 85) C_.1 C_.2.1 ⟨by decide, by decide⟩ ⟨by decide, by decide⟩ dL_refused_37 (by decide) (fun q => by omega) (fun _ => ?_)
  refine lv_aload_n C_.1 C_.2.1 dL_refused_40 rfl (lv_at hl 3 rfl) ?_
  refine lv_iload C_.1 C_.2.1 dL_refused_41 (lv_at hl 0 rfl) ?_
  refine lv_bipush (v := jI 7) C_.1 C_.2.1 dL_refused_43 (by decide) ?_
  refine lq_alarm C_ hf8 hcs (zAla_b ha (by omega)) hI (zAt_in hz.1 _) ⟨by decide, by decide⟩ hl.1 (Nat.le_of_ble_eq_true rfl) dL_refused_45 (fun H locs hI => ?_)
  refine lv_sipush (v := jI (-1002)) C_.1 C_.2.1 dL_refused_48 (by decide) ?_
  refine lj_ne (tgt := 85) C_.1 C_.2.1 ⟨by decide, by decide⟩ ⟨by decide, by decide⟩ dL_refused_51 (by decide) (fun q => by omega) (fun _ => ?_)
  refine lv_aload_n C_.1 C_.2.1 dL_refused_54 rfl (lv_at hl 3 rfl) ?_
  refine lv_iload C_.1 C_.2.1 dL_refused_55 (lv_at hl 0 rfl) ?_
  refine lv_iconst (v := jI (-1)) C_.1 C_.2.1 dL_refused_57 rfl ?_
  refine lq_move C_ hf8 hcs (zMov_b ha (by omega)) hI (zAt_in hz.1 _) ⟨by decide, by decide⟩ hl.1 (Nat.le_of_ble_eq_true rfl) dL_refused_58 (fun H locs hI => ?_)
  refine lv_sipush (v := jI (-1002)) C_.1 C_.2.1 dL_refused_61 (by decide) ?_
  refine lj_ne (tgt := 85) C_.1 C_.2.1 ⟨by decide, by decide⟩ ⟨by decide, by decide⟩ dL_refused_64 (by decide) (fun q => by omega) (fun _ => ?_)
  refine lv_aload_n C_.1 C_.2.1 dL_refused_67 rfl (lv_at hl 3 rfl) ?_
  refine lv_iload C_.1 C_.2.1 dL_refused_68 (lv_at hl 0 rfl) ?_
  refine lv_ldc (own := R_law) (v := jI 100000) C_.1 C_.2.1 C_.2.2.2.2.1 (C_.2.2.2.2.2.1 _ wk_32) dL_refused_70 ?_
  refine lq_move C_ hf8 hcs (zMov_b ha (by omega)) hI (zAt_in hz.1 _) ⟨by decide, by decide⟩ hl.1 (Nat.le_of_ble_eq_true rfl) dL_refused_72 (fun H locs hI => ?_)
  refine lv_sipush (v := jI (-1002)) C_.1 C_.2.1 dL_refused_75 (by decide) ?_
  refine lj_ne (tgt := 85) C_.1 C_.2.1 ⟨by decide, by decide⟩ ⟨by decide, by decide⟩ dL_refused_78 (by decide) (fun q => by omega) (fun _ => ?_)
  exact p81 H locs ls hI hl
