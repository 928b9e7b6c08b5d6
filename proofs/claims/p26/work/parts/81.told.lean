/-! ===== types, told ===== -/
theorem chr_ok : (List.range 256).all (fun n => decide (((jI (n : Int)).toUInt32 % 65536).toInt32 = jI (n : Int))) = true := by decide +kernel
theorem chr_e {c : Int} (h : 0 ≤ c ∧ c ≤ 255) : ((jI c).toUInt32 % 65536).toInt32 = jI c := by
  obtain ⟨n, rfl⟩ := Int.eq_ofNat_of_zero_le h.1
  exact of_decide_eq_true (List.all_eq_true.mp chr_ok n (List.mem_range.mpr (by omega)))
/-- the bytes of a word that are characters -/
def tyl (b : Nat → Int) : Nat → Nat → List Int
  | 0, _ => []
  | n + 1, i => if b i = 0 then tyl b n (i + 1) else b i :: tyl b n (i + 1)
def byt (w : Int64) (b : Nat → Int) : Prop := ∀ i : Nat, i < 8 → ((w >>> ((jI (56 - 8 * (i : Int))).toInt64 &&& 63)) &&& 255).toInt32 = jI (b i) ∧ 0 ≤ b i ∧ b i ≤ 255
abbrev qT (rest : kTr) (D : va_G) (aC : Nat → Nat) (B j : Nat) : Array Value → State → Outcome → State → Prop := va_Qi (fun (x : Int32) (z : kZ) => x = jI 1 ∧ kRun rest z = true ∧ ZJ (eZ z) j) (fun z t => oB D aC B (eZ z) t.heap) (fun q => q ∈ LA B)
set_option maxHeartbeats 4000000 in
theorem met_types {l : Launch} {D : va_G} {aC : Nat → Nat} {B : Nat} {z : kZ} {j : Nat} {w : Int64} {b : Nat → Int} {n0 : Nat} {rest : kTr} (hb : byt w b) (hn0 : n0 ≤ 900) (hr : kRun (ttr (tyl b 8 0) n0 rest) z = true) (hz : ZJ (eZ z) j) : Met l yL_types (lWs yL_types cL_types 6 (some .boolean)) (rmL 8 0 0) (va_Pc [.ref B, .long w] (fun U => oB D aC B (eZ z) U.heap ∧ cx_V D aC U)) (qT rest D aC B j) 0 0 (fun q => q ∈ LA B) := by
  refine lk_met (P := oB D aC B (eZ z)) (by decide +kernel) rfl (Nat.le_of_ble_eq_true rfl) (fun p e s m args below meth c ls C_ hl hO => ?_)
  have hl : lv_has ls 6 [(0, .ref B), (1, .long w)] := hl
  have hlocks := C_.2.2.2.2.2.2.1
  have hf : 8 ≤ (rmL 8 0 0).frames ∧ 304 ≤ (rmL 8 0 0).locals := ⟨by decide, by decide⟩
  have hcs : 0 ≤ (rmL 8 0 0).cells ∧ 0 ≤ (rmL 8 0 0).slots := ⟨by decide, by decide⟩
  have hI : oI D aC B (fun q => q ∈ LA B) (fun _ => True) s.heap s.heap [] (eZ z) j := ⟨hO, va_S.rf, hz, trivial, stab_t, fun q h => h⟩
  have lp : ∀ (n i : Nat), i + n = 8 → ∀ (n0 : Nat), n0 + n ≤ 1000 → ∀ (H : Heap) (locs : List Loc) (ls : Array Slot) (z : kZ), kRun (ttr (tyl b n i) n0 rest) z = true → oI D aC B (fun q => q ∈ LA B) (fun _ => True) s.heap H locs (eZ z) j → lv_has ls 6 [(4, .int (jI (56 - 8 * (i : Int)))), (3, .int (jI 1)), (0, .ref B), (1, .long w)] → W p l e (rmL 8 0 0) s m args below meth c H locs 0 0 (MQ below (qT rest D aC B j) args s 0 0 (fun q => q ∈ LA B)) (F0 m 6 ls []) := by
    intro n
    induction n with
    | zero =>
      intro i hi n0 hn H locs ls z hr hI hl
      refine lv_iload C_.1 C_.2.1 dL_types_6 (lv_at hl 0 rfl) ?_
      refine lj_if_lt (tgt := 53) C_.1 C_.2.1 ⟨by omega, by omega⟩ dL_types_8 (by decide) (fun _ => ?_) (fun q => by omega)
      refine lv_iload_n C_.1 C_.2.1 dL_types_53 rfl (lv_at hl 1 rfl) ?_
      exact W.zret C_.1 C_.2.1 C_.2.2.1 rfl (fun t ht hW => ⟨⟨_, z, rfl, ⟨rfl, hr, hI.2.2.1⟩, by show oB D aC B (eZ z) t.heap; rw [ht]; exact hI.1⟩, hI.2.1.F ht⟩) hI.2.1.2.2 dL_types_54
    | succ n ih =>
      intro i hi n0 hn H locs ls z hr hI hl
      obtain ⟨hb1, hb2, hb3⟩ := hb i (by omega)
      have p41 : ∀ (n0 : Nat), n0 + n ≤ 1000 → ∀ (H : Heap) (locs : List Loc) (ls : Array Slot) (z : kZ), kRun (ttr (tyl b n (i + 1)) n0 rest) z = true → oI D aC B (fun q => q ∈ LA B) (fun _ => True) s.heap H locs (eZ z) j → lv_has ls 6 [(5, .int (jI (b i))), (4, .int (jI (56 - 8 * (i : Int)))), (3, .int (jI 1)), (0, .ref B), (1, .long w)] → W p l e (rmL 8 0 0) s m args below meth c H locs 0 0 (MQ below (qT rest D aC B j) args s 0 0 (fun q => q ∈ LA B)) (F0 m 41 ls []) := by
        intro n0 hn H locs ls z hr hI hl
        refine lv_iconst (v := jI 1) C_.1 C_.2.1 dL_types_41 rfl ?_
        refine lv_goto (tgt := 46) C_.1 C_.2.1 dL_types_42 (by decide) ?_
        refine lv_istore_n (lv' := [(3, .int (jI 1)), (5, .int (jI (b i))), (4, .int (jI (56 - 8 * (i : Int)))), (0, .ref B), (1, .long w)]) C_.1 C_.2.1 dL_types_46 rfl hl (by decide) rfl (fun ls hl => ?_)
        refine lv_iinc (v := jI (56 - 8 * ((i + 1 : Nat) : Int))) (lv' := [(4, .int (jI (56 - 8 * ((i + 1 : Nat) : Int)))), (3, .int (jI 1)), (5, .int (jI (b i))), (0, .ref B), (1, .long w)]) C_.1 C_.2.1 dL_types_47 hl (k := 2) rfl (by show jI (56 - 8 * (i : Int)) + jI (-8) = _; rw [jI_add]; congr 1; omega) (by decide) rfl (fun ls hl => ?_)
        refine lv_goto (tgt := 6) C_.1 C_.2.1 dL_types_50 (by decide) ?_
        exact ih (i + 1) (by omega) n0 hn H locs ls z hr hI (lv_sub hl [0, 1, 3, 4] rfl)
      refine lv_iload C_.1 C_.2.1 dL_types_6 (lv_at hl 0 rfl) ?_
      refine lj_if_lt (tgt := 53) C_.1 C_.2.1 ⟨by omega, by omega⟩ dL_types_8 (by decide) (fun q => by omega) (fun _ => ?_)
      refine lv_lload_n C_.1 C_.2.1 dL_types_11 rfl (lv_at hl 3 rfl) ?_
      refine lv_iload C_.1 C_.2.1 dL_types_12 (lv_at hl 0 rfl) ?_
      refine lv_lshr (v := (w >>> ((jI (56 - 8 * (i : Int))).toInt64 &&& 63))) C_.1 C_.2.1 dL_types_14 rfl ?_
      refine lv_ldc2 (own := R_law) (v := 255) C_.1 C_.2.1 C_.2.2.2.2.1 (C_.2.2.2.2.2.1 _ wl_656) dL_types_15 ?_
      refine lv_land C_.1 C_.2.1 dL_types_18 ?_
      refine lv_l2i (v := jI (b i)) C_.1 C_.2.1 dL_types_19 hb1 ?_
      refine lv_istore (lv' := [(5, .int (jI (b i))), (4, .int (jI (56 - 8 * (i : Int)))), (3, .int (jI 1)), (0, .ref B), (1, .long w)]) C_.1 C_.2.1 dL_types_20 hl (by decide) rfl (fun ls hl => ?_)
      refine lv_iload_n C_.1 C_.2.1 dL_types_22 rfl (lv_at hl 2 rfl) ?_
      refine lj_if_eq (tgt := 45) C_.1 C_.2.1 ⟨by decide, by decide⟩ dL_types_23 (by decide) (fun q => by omega) (fun _ => ?_)
      by_cases hc : b i = 0
      · have hr : kRun (ttr (tyl b n (i + 1)) n0 rest) z = true := by
          have e : tyl b (n + 1) i = tyl b n (i + 1) := if_pos hc
          rw [e] at hr; exact hr
        refine lv_iload C_.1 C_.2.1 dL_types_26 (lv_at hl 0 rfl) ?_
        refine lj_if_eq (tgt := 41) C_.1 C_.2.1 ⟨by omega, by omega⟩ dL_types_28 (by decide) (fun _ => ?_) (fun q => by omega)
        exact p41 n0 (by omega) H locs ls z hr hI hl
      · have hr : kRun ((10, b i, 0, 0, ((n0 + 1 : Nat) : Int)) :: ttr (tyl b n (i + 1)) (n0 + 1) rest) z = true := by
          have e : tyl b (n + 1) i = b i :: tyl b n (i + 1) := if_neg hc
          rw [e] at hr; exact hr
        refine lv_iload C_.1 C_.2.1 dL_types_26 (lv_at hl 0 rfl) ?_
        refine lj_if_eq (tgt := 41) C_.1 C_.2.1 ⟨by omega, by omega⟩ dL_types_28 (by decide) (fun q => by omega) (fun _ => ?_)
        refine lv_aload_n C_.1 C_.2.1 dL_types_31 rfl (lv_at hl 3 rfl) ?_
        refine lv_iload C_.1 C_.2.1 dL_types_32 (lv_at hl 0 rfl) ?_
        refine lv_i2c (v := jI (b i)) C_.1 C_.2.1 dL_types_34 (chr_e ⟨hb2, hb3⟩) ?_
        refine lr_type C_ hf hcs hr hI ⟨hb2, by omega⟩ hl.1 (Nat.le_of_ble_eq_true rfl) dL_types_35 (fun z H locs hr hI => ?_)
        refine lj_if_le (tgt := 45) C_.1 C_.2.1 ⟨by omega, by omega⟩ dL_types_38 (by decide) (fun q => by omega) (fun _ => ?_)
        exact p41 (n0 + 1) (by omega) H locs ls z hr hI hl
  refine lv_iconst (v := jI 1) C_.1 C_.2.1 dL_types_0 rfl ?_
  refine lv_istore_n (lv' := [(3, .int (jI 1)), (0, .ref B), (1, .long w)]) C_.1 C_.2.1 dL_types_1 rfl hl (by decide) rfl (fun ls hl => ?_)
  refine lv_bipush (v := jI 56) C_.1 C_.2.1 dL_types_2 (by decide) ?_
  refine lv_istore (lv' := [(4, .int (jI 56)), (3, .int (jI 1)), (0, .ref B), (1, .long w)]) C_.1 C_.2.1 dL_types_4 hl (by decide) rfl (fun ls hl => ?_)
  exact lp 8 0 rfl n0 (by omega) s.heap [] ls z hr hI hl
section LTY
variable {p : Program} {l : Launch} {e : Env} {R : Room} {s : State} {m : MethodId} {args : Array Value} {below : List Frame} {meth : Method} {c : Code} {H : Heap} {locs : List Loc} {cells slots : Nat} {Qw : State → Prop} {cc : ByteArray} {nL : Nat} {rt : Option FieldType} {pc : Nat} {ls : Array Slot} {rest : List Value} {D : va_G} {aC : Nat → Nat} {B : Nat} {j : Nat} {A0 : Nat → Prop} {E : Heap → Prop} {H0 : Heap}
theorem lk_types (C_ : lk_C D aC cc nL rt p s m args meth c) (hf : 9 ≤ R.frames ∧ 345 ≤ R.locals) (hcs : cells ≤ R.cells ∧ slots ≤ R.slots) {z : kZ} {w : Int64} {b : Nat → Int} {n0 : Nat} {tr : kTr} (hb : byt w b) (hn0 : n0 ≤ 900) (hr : kRun (ttr (tyl b 8 0) n0 tr) z = true) (hI : oI D aC B A0 E H0 H locs (eZ z) j) (hls : ls.size = nL) (hrm : (rest.map fun v => v.category).sum ≤ 8) (hd : decode cc pc = .ok (.invokestatic 104, 3))
    (kk : ∀ (z1 : kZ) (H1 : Heap) (locs1 : List Loc), kRun tr z1 = true → oI D aC B A0 E H0 H1 locs1 (eZ z1) j → W p l e R s m args below meth c H1 locs1 cells slots Qw (F0 m (pc + 3) ls (.int (jI 1) :: rest))) : W p l e R s m args below meth c H locs cells slots Qw (F0 m pc ls (.long w :: .ref B :: rest)) := by
  obtain ⟨hO, hS, hz, hE, hEs, hLA⟩ := hI
  refine va_calli (lk_stat (n := 2) (As := [.ref B, .long w]) (rest := rest) (P := oB D aC B (eZ z)) C_ (met_types hb hn0 hr hz) hO wl_653 wl_654 wl_655 rfl rfl rfl ⟨rfl, by decide, by decide, by decide +kernel⟩ ⟨Nat.le_trans (Nat.le_of_ble_eq_true rfl) hf.1, Nat.le_trans (Nat.le_of_ble_eq_true rfl) hf.2⟩ rfl hls hrm hd hcs) hS (fun q _ h => hLA q h) (fun q h => hLA q h) (fun r u t H1 locs1 ht hvm hp hB hz1 hk1 hS1 => ?_)
  obtain ⟨hp, hr1, hz2⟩ := hp
  have hB : oB D aC B (eZ u) t.heap := hB
  subst hp
  rw [ht] at hB
  exact kk u H1 locs1 hr1 ⟨hB, hS1, hz2, hEs H H1 hE hz1 hk1, hEs, hLA⟩
end LTY
set_option maxHeartbeats 4000000 in
theorem met_told {l : Launch} {D : va_G} {aC : Nat → Nat} {B : Nat} {a b2 : Int64} {ba bb : Nat → Int} {n1 : Nat} {x : Int} (ha : byt a ba) (hb : byt b2 bb) (hx : -2000 ≤ x ∧ x ≤ 2000) (hn1 : n1 ≤ 900) (hr : kRun (ttr (tyl ba 8 0) 0 (ttr (tyl bb 8 0) n1 [(1, 0, 0, 0, x), (22, 16, 0, 0, if 0 < x then 1 else 0), (22, 2, 0, 0, if 0 < x then x else 0)])) kZ0 = true) : Met l yL_told (lWs yL_told cL_told 6 (some .int)) (rmL 9 218 1933) (va_Pc [.long a, .long b2] (fun U => U.heap.size = B ∧ cx_V D aC U)) (qI (fun r => r = jI x) (fun _ => True) (fun q => B ≤ q)) 218 1933 (fun q => B ≤ q) := by
  refine lk_met (P := fun H => H.size = B) (by decide +kernel) rfl (Nat.le_of_ble_eq_true rfl) (fun p e s m args below meth c ls C_ hl hB => ?_)
  have hl : lv_has ls 6 [(0, .long a), (2, .long b2)] := hl
  have hlocks := C_.2.2.2.2.2.2.1
  have hf : 8 ≤ (rmL 9 218 1933).frames ∧ 304 ≤ (rmL 9 218 1933).locals := ⟨by decide, by decide⟩
  have hf5 : 5 ≤ (rmL 9 218 1933).frames ∧ 304 ≤ (rmL 9 218 1933).locals := ⟨by decide, by decide⟩
  have hf9 : 9 ≤ (rmL 9 218 1933).frames ∧ 345 ≤ (rmL 9 218 1933).locals := ⟨by decide, by decide⟩
  have hcs : 218 ≤ (rmL 9 218 1933).cells ∧ 1933 ≤ (rmL 9 218 1933).slots := ⟨Nat.le_refl _, Nat.le_refl _⟩
  refine lk_new C_ hf5 hB va_S.rf (fun q h => h) (Nat.le_of_ble_eq_true rfl) (Nat.le_of_ble_eq_true rfl) hl.1 (Nat.le_of_ble_eq_true rfl) dL_told_0 dL_told_3 dL_told_4 (fun H locs hO hsz hold hS => ?_)
  have hI : oI D aC B (fun q => B ≤ q) (fun _ => True) s.heap H locs (eZ kZ0) 0 := ⟨by rw [kZ0_e]; exact hO, hS, ⟨by rw [kZ0_e]; exact Z0_ZI ⟨by decide, by decide⟩ ⟨by decide, by decide⟩, by decide⟩, trivial, stab_t, fun q h => (LA_ge h).1⟩
  refine lv_astore (lv' := [(4, .ref B), (0, .long a), (2, .long b2)]) C_.1 C_.2.1 dL_told_7 hl (by decide) rfl (fun ls hl => ?_)
  refine lv_aload C_.1 C_.2.1 dL_told_9 (lv_at hl 0 rfl) ?_
  refine lv_lload_n C_.1 C_.2.1 dL_told_11 rfl (lv_at hl 1 rfl) ?_
  refine lk_types C_ hf9 hcs ha (by omega) hr hI hl.1 (Nat.le_of_ble_eq_true rfl) dL_told_12 (fun z H locs hr hI => ?_)
  refine lj_if_eq (tgt := 35) C_.1 C_.2.1 ⟨by decide, by decide⟩ dL_told_15 (by decide) (fun q => by omega) (fun _ => ?_)
  refine lv_aload C_.1 C_.2.1 dL_told_18 (lv_at hl 0 rfl) ?_
  refine lv_lload_n C_.1 C_.2.1 dL_told_20 rfl (lv_at hl 2 rfl) ?_
  refine lk_types C_ hf9 hcs hb (by omega) hr hI hl.1 (Nat.le_of_ble_eq_true rfl) dL_told_21 (fun z H locs hr hI => ?_)
  refine lj_if_eq (tgt := 35) C_.1 C_.2.1 ⟨by decide, by decide⟩ dL_told_24 (by decide) (fun q => by omega) (fun _ => ?_)
  refine lv_aload C_.1 C_.2.1 dL_told_27 (lv_at hl 0 rfl) ?_
  refine lr_setAll C_ hf hcs hr hI hl.1 (Nat.le_of_ble_eq_true rfl) dL_told_29 (fun z H locs hr hI => ?_)
  refine lv_goto (tgt := 37) C_.1 C_.2.1 dL_told_32 (by decide) ?_
  refine lv_istore (lv' := [(5, .int (jI x)), (4, .ref B), (0, .long a), (2, .long b2)]) C_.1 C_.2.1 dL_told_37 hl (by decide) rfl (fun ls hl => ?_)
  by_cases hc : 0 < x
  · rw [if_pos hc, if_pos hc] at hr
    refine lv_aload C_.1 C_.2.1 dL_told_39 (lv_at hl 1 rfl) ?_
    refine lv_bipush (v := jI 16) C_.1 C_.2.1 dL_told_41 (by decide) ?_
    refine lr_count C_ hf hcs hr hI ⟨by decide, by decide⟩ hl.1 (Nat.le_of_ble_eq_true rfl) dL_told_43 (fun z H locs hr hI => ?_)
    refine lv_iload C_.1 C_.2.1 dL_told_46 (lv_at hl 0 rfl) ?_
    refine lj_if_le (tgt := 55) C_.1 C_.2.1 ⟨by omega, by omega⟩ dL_told_48 (by decide) (fun q => by omega) (fun _ => ?_)
    refine lv_iconst (v := jI 1) C_.1 C_.2.1 dL_told_51 rfl ?_
    refine lv_goto (tgt := 56) C_.1 C_.2.1 dL_told_52 (by decide) ?_
    refine lj_ne (tgt := 84) C_.1 C_.2.1 ⟨by decide, by decide⟩ ⟨by decide, by decide⟩ dL_told_56 (by decide) (fun q => by omega) (fun _ => ?_)
    refine lv_aload C_.1 C_.2.1 dL_told_59 (lv_at hl 1 rfl) ?_
    refine lv_iconst (v := jI 2) C_.1 C_.2.1 dL_told_61 rfl ?_
    refine lr_count C_ hf hcs hr hI ⟨by decide, by decide⟩ hl.1 (Nat.le_of_ble_eq_true rfl) dL_told_62 (fun z H locs hr hI => ?_)
    refine lv_iload C_.1 C_.2.1 dL_told_65 (lv_at hl 0 rfl) ?_
    refine lj_if_le (tgt := 75) C_.1 C_.2.1 ⟨by omega, by omega⟩ dL_told_67 (by decide) (fun q => by omega) (fun _ => ?_)
    refine lv_iload C_.1 C_.2.1 dL_told_70 (lv_at hl 0 rfl) ?_
    refine lv_goto (tgt := 76) C_.1 C_.2.1 dL_told_72 (by decide) ?_
    refine lj_ne (tgt := 84) C_.1 C_.2.1 ⟨by omega, by omega⟩ ⟨by omega, by omega⟩ dL_told_76 (by decide) (fun q => by omega) (fun _ => ?_)
    refine lv_iload C_.1 C_.2.1 dL_told_79 (lv_at hl 0 rfl) ?_
    refine lv_goto (tgt := 86) C_.1 C_.2.1 dL_told_81 (by decide) ?_
    exact W.iret C_.1 C_.2.1 C_.2.2.1 (fun t ht hW => ⟨⟨_, (), rfl, rfl, trivial⟩, hI.2.1.F ht⟩) hI.2.1.2.2 dL_told_86
  · rw [if_neg hc, if_neg hc] at hr
    refine lv_aload C_.1 C_.2.1 dL_told_39 (lv_at hl 1 rfl) ?_
    refine lv_bipush (v := jI 16) C_.1 C_.2.1 dL_told_41 (by decide) ?_
    refine lr_count C_ hf hcs hr hI ⟨by decide, by decide⟩ hl.1 (Nat.le_of_ble_eq_true rfl) dL_told_43 (fun z H locs hr hI => ?_)
    refine lv_iload C_.1 C_.2.1 dL_told_46 (lv_at hl 0 rfl) ?_
    refine lj_if_le (tgt := 55) C_.1 C_.2.1 ⟨by omega, by omega⟩ dL_told_48 (by decide) (fun _ => ?_) (fun q => by omega)
    refine lv_iconst (v := jI 0) C_.1 C_.2.1 dL_told_55 rfl ?_
    refine lj_ne (tgt := 84) C_.1 C_.2.1 ⟨by decide, by decide⟩ ⟨by decide, by decide⟩ dL_told_56 (by decide) (fun q => by omega) (fun _ => ?_)
    refine lv_aload C_.1 C_.2.1 dL_told_59 (lv_at hl 1 rfl) ?_
    refine lv_iconst (v := jI 2) C_.1 C_.2.1 dL_told_61 rfl ?_
    refine lr_count C_ hf hcs hr hI ⟨by decide, by decide⟩ hl.1 (Nat.le_of_ble_eq_true rfl) dL_told_62 (fun z H locs hr hI => ?_)
    refine lv_iload C_.1 C_.2.1 dL_told_65 (lv_at hl 0 rfl) ?_
    refine lj_if_le (tgt := 75) C_.1 C_.2.1 ⟨by omega, by omega⟩ dL_told_67 (by decide) (fun _ => ?_) (fun q => by omega)
    refine lv_iconst (v := jI 0) C_.1 C_.2.1 dL_told_75 rfl ?_
    refine lj_ne (tgt := 84) C_.1 C_.2.1 ⟨by decide, by decide⟩ ⟨by decide, by decide⟩ dL_told_76 (by decide) (fun q => by omega) (fun _ => ?_)
    refine lv_iload C_.1 C_.2.1 dL_told_79 (lv_at hl 0 rfl) ?_
    refine lv_goto (tgt := 86) C_.1 C_.2.1 dL_told_81 (by decide) ?_
    exact W.iret C_.1 C_.2.1 C_.2.2.1 (fun t ht hW => ⟨⟨_, (), rfl, rfl, trivial⟩, hI.2.1.F ht⟩) hI.2.1.2.2 dL_told_86
