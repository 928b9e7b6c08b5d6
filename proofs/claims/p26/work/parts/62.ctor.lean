/-! ===== the constructors: printed by a program but for their loops ===== -/
theorem ct_X0 {l : Launch} {D : va_G} {aC kd : Nat → Nat} {nw h0 : Nat} (hk : kd h0 = 0) (hn : h0 ≠ nw) : cMet l D aC (fin0 aC kd nw) 0 [.int 0, .int 0, .int 0, .int 0, .int 0, .int 0, .int 0, .int 0] h0 yX0_init cX0_init 1 1 1 0 0 := by
  refine cx_met (by decide) rfl (by decide) (fun p e s m args below meth c ls C_ hl hW => ?_)
  have hS : va_S (fun q => h0 ≤ q) s.heap s.heap [] := va_S.rf
  refine lv_aload_n C_.1 C_.2.1 dX0_init_0 rfl (lv_at hl 0 rfl) ?_
  refine cx_obj (idx := 3) C_ we_87 we_73 we_74 hl.1 dX0_init_1 (by decide) (by decide) ?_
  exact cx_end C_ (cx_done hW (by rw [fin0_o hk (by decide) hn]; rfl) (Or.inl rfl)) hS dX0_init_4
theorem ct_X3 {l : Launch} {D : va_G} {aC kd : Nat → Nat} {nw h0 : Nat} (hk : kd h0 = 3) (hn : h0 ≠ nw) : cMet l D aC (fin0 aC kd nw) 3 [.int 0, .int 0, .int 0, .int 0] h0 yX3_init cX3_init 1 1 1 0 0 := by
  refine cx_met (by decide) rfl (by decide) (fun p e s m args below meth c ls C_ hl hW => ?_)
  have hS : va_S (fun q => h0 ≤ q) s.heap s.heap [] := va_S.rf
  refine lv_aload_n C_.1 C_.2.1 dX3_init_0 rfl (lv_at hl 0 rfl) ?_
  refine cx_obj (idx := 1) C_ we_131 we_73 we_74 hl.1 dX3_init_1 (by decide) (by decide) ?_
  exact cx_end C_ (cx_done hW (by rw [fin0_o hk (by decide) hn]; rfl) (Or.inl rfl)) hS dX3_init_4
theorem ct_X6 {l : Launch} {D : va_G} {aC kd : Nat → Nat} {nw h0 : Nat} (hk : kd h0 = 6) (hn : h0 ≠ nw) : cMet l D aC (fin0 aC kd nw) 6 [.int 0, .int 0, .int 0, .int 0, .int 0, .int 0] h0 yX6_init cX6_init 1 1 1 0 0 := by
  refine cx_met (by decide) rfl (by decide) (fun p e s m args below meth c ls C_ hl hW => ?_)
  have hS : va_S (fun q => h0 ≤ q) s.heap s.heap [] := va_S.rf
  refine lv_aload_n C_.1 C_.2.1 dX6_init_0 rfl (lv_at hl 0 rfl) ?_
  refine cx_obj (idx := 1) C_ we_155 we_73 we_74 hl.1 dX6_init_1 (by decide) (by decide) ?_
  exact cx_end C_ (cx_done hW (by rw [fin0_o hk (by decide) hn]; rfl) (Or.inl rfl)) hS dX6_init_4
theorem ct_X5 {l : Launch} {D : va_G} {aC kd : Nat → Nat} {nw h0 : Nat} (hk : kd h0 = 5) (hk1 : kd (h0 + 1) = 10) (hn : h0 ≠ nw ∧ h0 + 1 ≠ nw) : cMet l D aC (fin0 aC kd nw) 5 [.null, .int 0] h0 yX5_init cX5_init 1 1 2 1 32 := by
  refine cx_met (by decide) rfl (by decide) (fun p e s m args below meth c ls C_ hl hW => ?_)
  have hS : va_S (fun q => h0 ≤ q) s.heap s.heap [] := va_S.rf
  refine lv_aload_n C_.1 C_.2.1 dX5_init_0 rfl (lv_at hl 0 rfl) ?_
  refine cx_obj (idx := 3) C_ we_189 we_73 we_74 hl.1 dX5_init_1 (by decide) (by decide) ?_
  refine lv_aload_n C_.1 C_.2.1 dX5_init_4 rfl (lv_at hl 0 rfl) ?_
  refine lv_bipush (v := jI 32) C_.1 C_.2.1 dX5_init_5 (by decide) ?_
  refine cx_newa (t := 0) (ty := .int) (N := 32) (atype := .int) C_ hW hS rfl rfl (by decide) rfl we_197 (by decide) (by decide) (by decide) (by decide) (by decide) dX5_init_7 (fun H hW hS => ?_)
  rw [cxE_n (by omega) (by omega) (by rw [fin0_i hk1 (by decide) (by decide) (by omega)]; rfl)] at hW
  refine cx_put (n := 2) (index := 9) (ty := tyX5 0) C_ hW hS dp_in5 tyX5 tyX5_ok nmX5 (Nat.le_refl _) (by omega) cxE_B rfl 0 (by decide) we_190 rfl (by decide +kernel) rfl rfl (Nat.le_of_ble_eq_true rfl) dX5_init_9 (fun H locs hW hS => ?_)
  rw [cxE_X] at hW
  refine W.widen (k := 1) (n := 32) (by decide) (by decide) ?_
  exact cx_end C_ (cx_done hW (by rw [fin0_o hk (by decide) hn.1]; rfl) (Or.inl rfl)) hS dX5_init_12
theorem ct_X1 {l : Launch} {D : va_G} {aC kd : Nat → Nat} {nw h0 : Nat} (hk : kd h0 = 1) (hk1 : kd (h0 + 1) = 12) (hk2 : kd (h0 + 2) = 11) (hk3 : kd (h0 + 3) = 11) (hk4 : kd (h0 + 4) = 11) (hn : nw < h0 ∨ h0 + 5 ≤ nw) : cMet l D aC (fin0 aC kd nw) 1 [.null, .int 0, .null, .null, .null, .int 0, .int 0] h0 yX1_init cX1_init 1 1 5 4 150 := by
  refine cx_met (by decide) rfl (by decide) (fun p e s m args below meth c ls C_ hl hW => ?_)
  have hS : va_S (fun q => h0 ≤ q) s.heap s.heap [] := va_S.rf
  refine lv_aload_n C_.1 C_.2.1 dX1_init_0 rfl (lv_at hl 0 rfl) ?_
  refine cx_obj (idx := 3) C_ we_269 we_73 we_74 hl.1 dX1_init_1 (by decide) (by decide) ?_
  refine lv_aload_n C_.1 C_.2.1 dX1_init_4 rfl (lv_at hl 0 rfl) ?_
  refine lv_bipush (v := jI 60) C_.1 C_.2.1 dX1_init_5 (by decide) ?_
  refine cx_newa (t := 1) (ty := .char) (N := 60) (atype := .char) C_ hW hS rfl rfl (by decide) rfl we_297 (by decide) (by decide) (by decide) (by decide) (by decide) dX1_init_7 (fun H hW hS => ?_)
  rw [cxE_n (by omega) (by omega) (by rw [fin0_i hk1 (by decide) (by decide) (by omega)]; rfl)] at hW
  refine cx_put (n := 2) (index := 9) (ty := tyX1 0) C_ hW hS dp_in1 tyX1 tyX1_ok nmX1 (Nat.le_refl _) (by omega) cxE_B rfl 0 (by decide) we_270 rfl (by decide +kernel) rfl rfl (Nat.le_of_ble_eq_true rfl) dX1_init_9 (fun H locs hW hS => ?_)
  rw [cxE_X] at hW
  refine lv_aload_n C_.1 C_.2.1 dX1_init_12 rfl (lv_at hl 0 rfl) ?_
  refine lv_bipush (v := jI 30) C_.1 C_.2.1 dX1_init_13 (by decide) ?_
  refine cx_newa (t := 0) (ty := .int) (N := 30) (atype := .int) C_ hW hS rfl rfl (by decide) rfl we_197 (by decide) (by decide) (by decide) (by decide) (by decide) dX1_init_15 (fun H hW hS => ?_)
  rw [cxE_n (by omega) (by omega) (by rw [fin0_i hk2 (by decide) (by decide) (by omega)]; rfl)] at hW
  refine cx_put (n := 3) (index := 15) (ty := tyX1 2) C_ hW hS dp_in1 tyX1 tyX1_ok nmX1 (Nat.le_refl _) (by omega) cxE_B rfl 2 (by decide) we_273 rfl (by decide +kernel) rfl rfl (Nat.le_of_ble_eq_true rfl) dX1_init_17 (fun H locs hW hS => ?_)
  rw [cxE_X] at hW
  refine lv_aload_n C_.1 C_.2.1 dX1_init_20 rfl (lv_at hl 0 rfl) ?_
  refine lv_bipush (v := jI 30) C_.1 C_.2.1 dX1_init_21 (by decide) ?_
  refine cx_newa (t := 0) (ty := .int) (N := 30) (atype := .int) C_ hW hS rfl rfl (by decide) rfl we_197 (by decide) (by decide) (by decide) (by decide) (by decide) dX1_init_23 (fun H hW hS => ?_)
  rw [cxE_n (by omega) (by omega) (by rw [fin0_i hk3 (by decide) (by decide) (by omega)]; rfl)] at hW
  refine cx_put (n := 4) (index := 19) (ty := tyX1 3) C_ hW hS dp_in1 tyX1 tyX1_ok nmX1 (Nat.le_refl _) (by omega) cxE_B rfl 3 (by decide) we_275 rfl (by decide +kernel) rfl rfl (Nat.le_of_ble_eq_true rfl) dX1_init_25 (fun H locs hW hS => ?_)
  rw [cxE_X] at hW
  refine lv_aload_n C_.1 C_.2.1 dX1_init_28 rfl (lv_at hl 0 rfl) ?_
  refine lv_bipush (v := jI 30) C_.1 C_.2.1 dX1_init_29 (by decide) ?_
  refine cx_newa (t := 0) (ty := .int) (N := 30) (atype := .int) C_ hW hS rfl rfl (by decide) rfl we_197 (by decide) (by decide) (by decide) (by decide) (by decide) dX1_init_31 (fun H hW hS => ?_)
  rw [cxE_n (by omega) (by omega) (by rw [fin0_i hk4 (by decide) (by decide) (by omega)]; rfl)] at hW
  refine cx_put (n := 5) (index := 22) (ty := tyX1 4) C_ hW hS dp_in1 tyX1 tyX1_ok nmX1 (Nat.le_refl _) (by omega) cxE_B rfl 4 (by decide) we_277 rfl (by decide +kernel) rfl rfl (Nat.le_of_ble_eq_true rfl) dX1_init_33 (fun H locs hW hS => ?_)
  rw [cxE_X] at hW
  refine W.widen (k := 4) (n := 150) (by decide) (by decide) ?_
  exact cx_end C_ (cx_done hW (by rw [fin0_o hk (by decide) (by omega)]; rfl) (Or.inl rfl)) hS dX1_init_36
theorem ct_X2 {l : Launch} {D : va_G} {aC kd : Nat → Nat} {nw h0 : Nat} (hk : ∀ i, i < 30 → kd (h0 + i) = ckd i) (hn : nw < h0 ∨ h0 + 30 ≤ nw) : cMet l D aC (fin0 aC kd nw) 2 [.int 0, .int 0, .int 0, .int 0, .int 0, .int 0, .int 0, .int 0, .null, .null, .null, .null] h0 yX2_init cX2_init 2 2 30 29 240 := by
  have k0 : kd h0 = 2 := hk 0 (by decide)
  have k1 : kd (h0 + 1) = 13 := hk 1 (by decide)
  have kO0 : ∀ i, i < 20 → kd (h0 + (2 + 1 * i)) = 0 := fun i hi => by rw [hk (2 + 1 * i) (by omega)]; unfold ckd; rw [if_neg (by omega), if_neg (by omega), if_pos (by omega)]
  have k22 : kd (h0 + 22) = 14 := hk 22 (by decide)
  have kO3 : ∀ i, i < 4 → kd (h0 + (23 + 1 * i)) = 3 := fun i hi => by rw [hk (23 + 1 * i) (by omega)]; unfold ckd; rw [if_neg (by omega), if_neg (by omega), if_neg (by omega), if_neg (by omega), if_pos (by omega)]
  have k27 : kd (h0 + 27) = 6 := hk 27 (by decide)
  have k28 : kd (h0 + 28) = 5 := hk 28 (by decide)
  have k29 : kd (h0 + 28 + 1) = 10 := hk 29 (by decide)
  refine cx_met (by decide) rfl (by decide) (fun p e s m args below meth c ls C_ hl hW => ?_)
  have hS : va_S (fun q => h0 ≤ q) s.heap s.heap [] := va_S.rf
  have p79 : ∀ (H : Heap) (locs : List Loc) (ls : Array Slot) (Y : va_E), lv_has ls 2 [(0, .ref h0)] → cx_W D h0 27 (cxE (fin0 aC kd nw) h0 (.inr (2, [.int 0, .int 0, .int 0, .int 0, .int 0, .int 0, .int 0, .int 2, .ref (h0 + 1), .ref (h0 + 22), .null, .null])) h0 Y) H → va_S (fun q => h0 ≤ q) s.heap H locs → W p l e (rmC 2 29 240) s m args below meth c H locs (26) (200) (MQ below (va_Qv (fun _ : Unit => True) (fun _ t => cx_W D h0 30 (fin0 aC kd nw) t.heap) (fun q => h0 ≤ q)) args s 29 240 (fun q => h0 ≤ q)) (F0 m 79 ls []) := by
    intro H locs ls Y hl hW hS
    refine lv_aload_n C_.1 C_.2.1 dX2_init_79 rfl (lv_at hl 0 rfl) ?_
    refine cx_make (n := 27) (C := RX6) (host := "SharedComparers") (T := TX6) (N := 6) (ci := 6) (index := 29) (idx := 31) (kc := 1) (fs := [.int 0, .int 0, .int 0, .int 0, .int 0, .int 0]) C_ hW hS dp_in6 tyX6 tyX6_ok rfl (fun j hj => by rcases (show j = 0 ∨ j = 1 ∨ j = 2 ∨ j = 3 ∨ j = 4 ∨ j = 5 by omega) with rfl | rfl | rfl | rfl | rfl | rfl <;> rfl) (ct_X6 k27 (by omega)) we_150 we_151 we_61 we_152 we_153 (cWs_good we_154 rfl) rfl rfl rfl rfl rfl ⟨by decide, by decide, by decide +kernel⟩ ⟨by decide, by decide⟩ (by decide) (by decide) hl.1 (Nat.le_of_ble_eq_true rfl) dX2_init_80 dX2_init_83 dX2_init_84 (fun a h1 h2 => cxE_o (by omega) (by omega)) (by decide) (fun H locs hW hS => ?_)
    refine cx_put (n := 28) (index := 32) (ty := tyX2 10) C_ hW hS dp_in2 tyX2 tyX2_ok nmX2 (Nat.le_refl _) (by omega) cxE_B rfl 10 (by decide) we_218 rfl (by decide +kernel) rfl rfl (Nat.le_of_ble_eq_true rfl) dX2_init_87 (fun H locs hW hS => ?_)
    rw [cxE_X] at hW
    refine lv_aload_n C_.1 C_.2.1 dX2_init_90 rfl (lv_at hl 0 rfl) ?_
    refine cx_make (n := 28) (C := RX5) (host := "SharedComparers") (T := TX5) (N := 2) (ci := 5) (index := 36) (idx := 38) (kc := 2) (fs := [.null, .int 0]) C_ hW hS dp_in5 tyX5 tyX5_ok rfl (fun j hj => by rcases (show j = 0 ∨ j = 1 by omega) with rfl | rfl <;> rfl) (ct_X5 k28 k29 ⟨by omega, by omega⟩) we_184 we_185 we_62 we_186 we_187 (cWs_good we_188 rfl) rfl rfl rfl rfl rfl ⟨by decide, by decide, by decide +kernel⟩ ⟨by decide, by decide⟩ (by decide) (by decide) hl.1 (Nat.le_of_ble_eq_true rfl) dX2_init_91 dX2_init_94 dX2_init_95 (fun a h1 h2 => cxE_o (by omega) (by omega)) (by decide) (fun H locs hW hS => ?_)
    refine cx_put (n := 30) (index := 39) (ty := tyX2 11) C_ hW hS dp_in2 tyX2 tyX2_ok nmX2 (Nat.le_refl _) (by omega) cxE_B rfl 11 (by decide) we_220 rfl (by decide +kernel) rfl rfl (Nat.le_of_ble_eq_true rfl) dX2_init_98 (fun H locs hW hS => ?_)
    rw [cxE_X] at hW
    refine W.widen (k := 29) (n := 240) (by decide) (by decide) ?_
    exact cx_end C_ (cx_done hW (by rw [fin0_o k0 (by decide) (by omega)]; rfl) (Or.inl rfl)) hS dX2_init_101
  have l55 : ∀ j i : Nat, ∀ (H : Heap) (locs : List Loc) (ls : Array Slot), j + i = 4 → lv_has ls 2 [(1, .int (jI (i : Int))), (0, .ref h0)] → cx_W D h0 (23 + 1 * i) (cxE (fin0 aC kd nw) h0 (.inr (2, [.int 0, .int 0, .int 0, .int 0, .int 0, .int 0, .int 0, .int 2, .ref (h0 + 1), .ref (h0 + 22), .null, .null])) (h0 + 22) (.inl (aC 3, 4, .inr (.inr (.inr (.inr (fR (h0 + 22) 14 i))))))) H → va_S (fun q => h0 ≤ q) s.heap H locs → W p l e (rmC 2 29 240) s m args below meth c H locs (22 + 1 * i) (184 + 4 * i) (MQ below (va_Qv (fun _ : Unit => True) (fun _ t => cx_W D h0 30 (fin0 aC kd nw) t.heap) (fun q => h0 ≤ q)) args s 29 240 (fun q => h0 ≤ q)) (F0 m 55 ls []) := by
    intro j
    induction j with
    | zero =>
      intro i H locs ls hji hl hW hS
      have hi : i = 4 := by omega
      subst hi
      refine lv_iload_n C_.1 C_.2.1 dX2_init_55 rfl (lv_at hl 0 rfl) ?_
      refine lv_iconst (v := jI 4) C_.1 C_.2.1 dX2_init_56 (by decide) ?_
      refine lv_icmp_ge (tgt := 79) C_.1 C_.2.1 dX2_init_57 (by decide) (fun _ => ?_) (fun q => absurd (Int32.le_refl _) q)
      have hW := hW.arr (a := h0 + 22) (g := fun q => some (h0 + 22 + roff 14 q)) (by omega) (by omega) (cxE_rr (by omega)) (fun j hj => if_pos hj)
      rw [cxE_Y (by omega), cxE_f (Y0 := .inr (2, [])) (by rw [fin0_r k22 (by decide) (by decide)]; rfl)] at hW
      exact p79 H locs ls _ (lv_sub hl [1] rfl) hW hS
    | succ j ih =>
      intro i H locs ls hji hl hW hS
      have hi : i < 4 := by omega
      refine lv_iload_n C_.1 C_.2.1 dX2_init_55 rfl (lv_at hl 0 rfl) ?_
      refine lv_iconst (v := jI 4) C_.1 C_.2.1 dX2_init_56 (by decide) ?_
      refine lv_icmp_ge (tgt := 79) C_.1 C_.2.1 dX2_init_57 (by decide) (fun q => ?_) (fun _ => ?_)
      · rw [jI_le (inR_s (by omega) (by omega)) (inR_n (by omega))] at q; omega
      refine lv_aload_n C_.1 C_.2.1 dX2_init_60 rfl (lv_at hl 1 rfl) ?_
      refine cx_get (n := 23 + 1 * i) (index := 24) (v := .ref (h0 + 22)) C_ hW dp_in2 (Nat.le_refl _) (by omega) cxE_B rfl 9 (by decide) we_216 rfl dX2_init_61 ?_
      refine lv_iload_n C_.1 C_.2.1 dX2_init_64 rfl (lv_at hl 0 rfl) ?_
      refine cx_make (n := 23 + 1 * i) (C := RX3) (host := "SharedComparers") (T := TX3) (N := 4) (ci := 3) (index := 22) (idx := 28) (kc := 1) (fs := [.int 0, .int 0, .int 0, .int 0]) C_ hW hS dp_in3 tyX3 tyX3_ok rfl (fun j hj => by rcases (show j = 0 ∨ j = 1 ∨ j = 2 ∨ j = 3 by omega) with rfl | rfl | rfl | rfl <;> rfl) (ct_X3 (kO3 i hi) (by omega)) we_125 we_127 we_60 we_128 we_129 (cWs_good we_130 rfl) rfl rfl rfl rfl rfl ⟨by decide, by decide, by decide +kernel⟩ ⟨by decide, by decide⟩ (by show _ ≤ 29; omega) (by show _ ≤ 240; omega) hl.1 (Nat.le_of_ble_eq_true rfl) dX2_init_65 dX2_init_68 dX2_init_69 (fun a h1 h2 => cxE_o (by omega) (by omega)) (by decide) (fun H locs hW hS => ?_)
      refine cx_ast (n := 23 + 1 * i + 1) (a := h0 + 22) (v := (h0 + (23 + 1 * i))) (t := 3) (ci := 3) (r := (RX3, TX3, 4)) (vs := [.int 0, .int 0, .int 0, .int 0]) C_ hW hS (by omega) (by omega) (by omega) (by omega) (cxE_rr (by omega)) rfl ?_ rfl (jI_in (by omega) (by omega) (by omega)) dX2_init_72 (fun H locs hW hS => ?_)
      · rw [cxE_o (by omega) (by omega), fin0_o (kO3 i hi) (by decide) (by omega)]; rfl
      rw [cxE_Y (by omega), jI_cln (by omega), show (h0 + (23 + 1 * i)) = h0 + 22 + roff 14 i by show _ = h0 + 22 + (1 + i); omega, fR_s, show 23 + 1 * i + 1 = 23 + 1 * (i + 1) by omega] at hW
      refine lv_iinc (v := jI ((i + 1 : Nat) : Int)) (lv' := [(1, .int (jI ((i + 1 : Nat) : Int))), (0, .ref h0)]) C_.1 C_.2.1 dX2_init_73 hl (k := 0) rfl (jI_s i) (by decide) rfl (fun ls hl => ?_)
      refine lv_goto (tgt := 55) C_.1 C_.2.1 dX2_init_76 (by decide) ?_
      refine W.widen (k := 22 + 1 * (i + 1)) (n := 184 + 4 * (i + 1)) (by omega) (by omega) ?_
      exact ih (i + 1) H locs ls (by omega) hl hW hS
  have p45 : ∀ (H : Heap) (locs : List Loc) (ls : Array Slot) (Y : va_E), lv_has ls 2 [(0, .ref h0)] → cx_W D h0 22 (cxE (fin0 aC kd nw) h0 (.inr (2, [.int 0, .int 0, .int 0, .int 0, .int 0, .int 0, .int 0, .int 2, .ref (h0 + 1), .null, .null, .null])) h0 Y) H → va_S (fun q => h0 ≤ q) s.heap H locs → W p l e (rmC 2 29 240) s m args below meth c H locs (21) (180) (MQ below (va_Qv (fun _ : Unit => True) (fun _ t => cx_W D h0 30 (fin0 aC kd nw) t.heap) (fun q => h0 ≤ q)) args s 29 240 (fun q => h0 ≤ q)) (F0 m 45 ls []) := by
    intro H locs ls Y hl hW hS
    refine lv_aload_n C_.1 C_.2.1 dX2_init_45 rfl (lv_at hl 0 rfl) ?_
    refine lv_iconst (v := jI 4) C_.1 C_.2.1 dX2_init_46 (by decide) ?_
    refine cx_newq (n := 22) (C := RX3) (t := 3) (N := 4) C_ hW hS rfl we_125 C_.2.2.2.2.2.2.2.1.2.2.2.1 (by decide) (by decide) (by decide) (by decide) (by decide) dX2_init_47 (fun H hW hS => ?_)
    rw [cxE_r (by omega) (Or.inl rfl), fR_0 (a := h0 + 22) (t := 14)] at hW
    refine cx_put (n := 23) (index := 24) (ty := tyX2 9) C_ hW hS dp_in2 tyX2 tyX2_ok nmX2 (Nat.le_refl _) (by omega) cxE_B rfl 9 (by decide) we_216 rfl (by decide +kernel) rfl rfl (Nat.le_of_ble_eq_true rfl) dX2_init_50 (fun H locs hW hS => ?_)
    rw [cxE_X] at hW
    refine lv_iconst (v := jI 0) C_.1 C_.2.1 dX2_init_53 (by decide) ?_
    refine lv_istore_n (lv' := [(1, .int (jI 0)), (0, .ref h0)]) C_.1 C_.2.1 dX2_init_54 rfl hl (by decide) rfl (fun ls hl => ?_)
    exact l55 4 0 H locs ls rfl hl hW hS
  have l20 : ∀ j i : Nat, ∀ (H : Heap) (locs : List Loc) (ls : Array Slot), j + i = 20 → lv_has ls 2 [(1, .int (jI (i : Int))), (0, .ref h0)] → cx_W D h0 (2 + 1 * i) (cxE (fin0 aC kd nw) h0 (.inr (2, [.int 0, .int 0, .int 0, .int 0, .int 0, .int 0, .int 0, .int 2, .ref (h0 + 1), .null, .null, .null])) (h0 + 1) (.inl (aC 2, 20, .inr (.inr (.inr (.inr (fR (h0 + 1) 13 i))))))) H → va_S (fun q => h0 ≤ q) s.heap H locs → W p l e (rmC 2 29 240) s m args below meth c H locs (1 + 1 * i) (20 + 8 * i) (MQ below (va_Qv (fun _ : Unit => True) (fun _ t => cx_W D h0 30 (fin0 aC kd nw) t.heap) (fun q => h0 ≤ q)) args s 29 240 (fun q => h0 ≤ q)) (F0 m 20 ls []) := by
    intro j
    induction j with
    | zero =>
      intro i H locs ls hji hl hW hS
      have hi : i = 20 := by omega
      subst hi
      refine lv_iload_n C_.1 C_.2.1 dX2_init_20 rfl (lv_at hl 0 rfl) ?_
      refine lv_bipush (v := jI 20) C_.1 C_.2.1 dX2_init_21 (by decide) ?_
      refine lv_icmp_ge (tgt := 45) C_.1 C_.2.1 dX2_init_23 (by decide) (fun _ => ?_) (fun q => absurd (Int32.le_refl _) q)
      have hW := hW.arr (a := h0 + 1) (g := fun q => some (h0 + 1 + roff 13 q)) (by omega) (by omega) (cxE_rr (by omega)) (fun j hj => if_pos hj)
      rw [cxE_Y (by omega), cxE_f (Y0 := .inr (2, [])) (by rw [fin0_r k1 (by decide) (by decide)]; rfl)] at hW
      exact p45 H locs ls _ (lv_sub hl [1] rfl) hW hS
    | succ j ih =>
      intro i H locs ls hji hl hW hS
      have hi : i < 20 := by omega
      refine lv_iload_n C_.1 C_.2.1 dX2_init_20 rfl (lv_at hl 0 rfl) ?_
      refine lv_bipush (v := jI 20) C_.1 C_.2.1 dX2_init_21 (by decide) ?_
      refine lv_icmp_ge (tgt := 45) C_.1 C_.2.1 dX2_init_23 (by decide) (fun q => ?_) (fun _ => ?_)
      · rw [jI_le (inR_s (by omega) (by omega)) (inR_n (by omega))] at q; omega
      refine lv_aload_n C_.1 C_.2.1 dX2_init_26 rfl (lv_at hl 1 rfl) ?_
      refine cx_get (n := 2 + 1 * i) (index := 17) (v := .ref (h0 + 1)) C_ hW dp_in2 (Nat.le_refl _) (by omega) cxE_B rfl 8 (by decide) we_214 rfl dX2_init_27 ?_
      refine lv_iload_n C_.1 C_.2.1 dX2_init_30 rfl (lv_at hl 0 rfl) ?_
      refine cx_make (n := 2 + 1 * i) (C := RX0) (host := "SharedComparers") (T := TX0) (N := 8) (ci := 0) (index := 15) (idx := 21) (kc := 1) (fs := [.int 0, .int 0, .int 0, .int 0, .int 0, .int 0, .int 0, .int 0]) C_ hW hS dp_in0 tyX0 tyX0_ok rfl (fun j hj => by rcases (show j = 0 ∨ j = 1 ∨ j = 2 ∨ j = 3 ∨ j = 4 ∨ j = 5 ∨ j = 6 ∨ j = 7 by omega) with rfl | rfl | rfl | rfl | rfl | rfl | rfl | rfl <;> rfl) (ct_X0 (kO0 i hi) (by omega)) we_81 we_83 we_59 we_84 we_85 (cWs_good we_86 rfl) rfl rfl rfl rfl rfl ⟨by decide, by decide, by decide +kernel⟩ ⟨by decide, by decide⟩ (by show _ ≤ 29; omega) (by show _ ≤ 240; omega) hl.1 (Nat.le_of_ble_eq_true rfl) dX2_init_31 dX2_init_34 dX2_init_35 (fun a h1 h2 => cxE_o (by omega) (by omega)) (by decide) (fun H locs hW hS => ?_)
      refine cx_ast (n := 2 + 1 * i + 1) (a := h0 + 1) (v := (h0 + (2 + 1 * i))) (t := 2) (ci := 0) (r := (RX0, TX0, 8)) (vs := [.int 0, .int 0, .int 0, .int 0, .int 0, .int 0, .int 0, .int 0]) C_ hW hS (by omega) (by omega) (by omega) (by omega) (cxE_rr (by omega)) rfl ?_ rfl (jI_in (by omega) (by omega) (by omega)) dX2_init_38 (fun H locs hW hS => ?_)
      · rw [cxE_o (by omega) (by omega), fin0_o (kO0 i hi) (by decide) (by omega)]; rfl
      rw [cxE_Y (by omega), jI_cln (by omega), show (h0 + (2 + 1 * i)) = h0 + 1 + roff 13 i by show _ = h0 + 1 + (1 + i); omega, fR_s, show 2 + 1 * i + 1 = 2 + 1 * (i + 1) by omega] at hW
      refine lv_iinc (v := jI ((i + 1 : Nat) : Int)) (lv' := [(1, .int (jI ((i + 1 : Nat) : Int))), (0, .ref h0)]) C_.1 C_.2.1 dX2_init_39 hl (k := 0) rfl (jI_s i) (by decide) rfl (fun ls hl => ?_)
      refine lv_goto (tgt := 20) C_.1 C_.2.1 dX2_init_42 (by decide) ?_
      refine W.widen (k := 1 + 1 * (i + 1)) (n := 20 + 8 * (i + 1)) (by omega) (by omega) ?_
      exact ih (i + 1) H locs ls (by omega) hl hW hS
  refine lv_aload_n C_.1 C_.2.1 dX2_init_0 rfl (lv_at hl 0 rfl) ?_
  refine cx_obj (idx := 3) C_ we_80 we_73 we_74 hl.1 dX2_init_1 (by decide) (by decide) ?_
  refine lv_aload_n C_.1 C_.2.1 dX2_init_4 rfl (lv_at hl 0 rfl) ?_
  refine lv_iconst (v := 2) C_.1 C_.2.1 dX2_init_5 (by decide) ?_
  refine cx_put (n := 1) (index := 9) (ty := tyX2 7) C_ hW hS dp_in2 tyX2 tyX2_ok nmX2 (Nat.le_refl _) (by omega) cxE_B rfl 7 (by decide) we_212 rfl (by decide +kernel) rfl rfl (Nat.le_of_ble_eq_true rfl) dX2_init_6 (fun H locs hW hS => ?_)
  rw [cxE_X] at hW
  refine lv_aload_n C_.1 C_.2.1 dX2_init_9 rfl (lv_at hl 0 rfl) ?_
  refine lv_bipush (v := jI 20) C_.1 C_.2.1 dX2_init_10 (by decide) ?_
  refine cx_newq (n := 1) (C := RX0) (t := 2) (N := 20) C_ hW hS rfl we_81 C_.2.2.2.2.2.2.2.1.2.2.1 (by decide) (by decide) (by decide) (by decide) (by decide) dX2_init_12 (fun H hW hS => ?_)
  rw [cxE_r (by omega) (Or.inl rfl), fR_0 (a := h0 + 1) (t := 13)] at hW
  refine cx_put (n := 2) (index := 17) (ty := tyX2 8) C_ hW hS dp_in2 tyX2 tyX2_ok nmX2 (Nat.le_refl _) (by omega) cxE_B rfl 8 (by decide) we_214 rfl (by decide +kernel) rfl rfl (Nat.le_of_ble_eq_true rfl) dX2_init_15 (fun H locs hW hS => ?_)
  rw [cxE_X] at hW
  refine lv_iconst (v := jI 0) C_.1 C_.2.1 dX2_init_18 (by decide) ?_
  refine lv_istore_n (lv' := [(1, .int (jI 0)), (0, .ref h0)]) C_.1 C_.2.1 dX2_init_19 rfl hl (by decide) rfl (fun ls hl => ?_)
  exact l20 20 0 H locs ls rfl hl hW hS
theorem ct_X4 {l : Launch} {D : va_G} {aC kd : Nat → Nat} {nw h0 : Nat} (hk0 : kd h0 = 4) (k1 : kd (h0 + 1) = 15) (hk : ∀ j, j < 4 → ∀ i, i < 30 → kd (h0 + (2 + 30 * j) + i) = ckd i) (hn : nw < h0 ∨ h0 + 122 ≤ nw) : cMet l D aC (fin0 aC kd nw) 4 [.null, .int 0] h0 yX4_init cX4_init 2 3 122 121 1012 := by
  have kO : ∀ i, i < 4 → kd (h0 + (2 + 30 * i)) = 2 := fun i hi => hk i hi 0 (by decide)
  refine cx_met (by decide) rfl (by decide) (fun p e s m args below meth c ls C_ hl hW => ?_)
  have hS : va_S (fun q => h0 ≤ q) s.heap s.heap [] := va_S.rf
  have p38 : ∀ (H : Heap) (locs : List Loc) (ls : Array Slot) (Y : va_E), lv_has ls 2 [(0, .ref h0)] → cx_W D h0 122 (cxE (fin0 aC kd nw) h0 (.inr (4, [.ref (h0 + 1), .int 0])) h0 Y) H → va_S (fun q => h0 ≤ q) s.heap H locs → W p l e (rmC 3 121 1012) s m args below meth c H locs (121) (1012) (MQ below (va_Qv (fun _ : Unit => True) (fun _ t => cx_W D h0 122 (fin0 aC kd nw) t.heap) (fun q => h0 ≤ q)) args s 121 1012 (fun q => h0 ≤ q)) (F0 m 38 ls []) := by
    intro H locs ls Y hl hW hS
    exact cx_end C_ (cx_done hW (by rw [fin0_o hk0 (by decide) (by omega)]; rfl) (Or.inl rfl)) hS dX4_init_38
  have l14 : ∀ j i : Nat, ∀ (H : Heap) (locs : List Loc) (ls : Array Slot), j + i = 4 → lv_has ls 2 [(1, .int (jI (i : Int))), (0, .ref h0)] → cx_W D h0 (2 + 30 * i) (cxE (fin0 aC kd nw) h0 (.inr (4, [.ref (h0 + 1), .int 0])) (h0 + 1) (.inl (aC 4, 4, .inr (.inr (.inr (.inr (fR (h0 + 1) 15 i))))))) H → va_S (fun q => h0 ≤ q) s.heap H locs → W p l e (rmC 3 121 1012) s m args below meth c H locs (1 + 30 * i) (4 + 252 * i) (MQ below (va_Qv (fun _ : Unit => True) (fun _ t => cx_W D h0 122 (fin0 aC kd nw) t.heap) (fun q => h0 ≤ q)) args s 121 1012 (fun q => h0 ≤ q)) (F0 m 14 ls []) := by
    intro j
    induction j with
    | zero =>
      intro i H locs ls hji hl hW hS
      have hi : i = 4 := by omega
      subst hi
      refine lv_iload_n C_.1 C_.2.1 dX4_init_14 rfl (lv_at hl 0 rfl) ?_
      refine lv_iconst (v := jI 4) C_.1 C_.2.1 dX4_init_15 (by decide) ?_
      refine lv_icmp_ge (tgt := 38) C_.1 C_.2.1 dX4_init_16 (by decide) (fun _ => ?_) (fun q => absurd (Int32.le_refl _) q)
      have hW := hW.arr (a := h0 + 1) (g := fun q => some (h0 + 1 + roff 15 q)) (by omega) (by omega) (cxE_rr (by omega)) (fun j hj => if_pos hj)
      rw [cxE_Y (by omega), cxE_f (Y0 := .inr (4, [])) (by rw [fin0_r k1 (by decide) (by decide)]; rfl)] at hW
      exact p38 H locs ls _ (lv_sub hl [1] rfl) hW hS
    | succ j ih =>
      intro i H locs ls hji hl hW hS
      have hi : i < 4 := by omega
      refine lv_iload_n C_.1 C_.2.1 dX4_init_14 rfl (lv_at hl 0 rfl) ?_
      refine lv_iconst (v := jI 4) C_.1 C_.2.1 dX4_init_15 (by decide) ?_
      refine lv_icmp_ge (tgt := 38) C_.1 C_.2.1 dX4_init_16 (by decide) (fun q => ?_) (fun _ => ?_)
      · rw [jI_le (inR_s (by omega) (by omega)) (inR_n (by omega))] at q; omega
      refine lv_aload_n C_.1 C_.2.1 dX4_init_19 rfl (lv_at hl 1 rfl) ?_
      refine cx_get (n := 2 + 30 * i) (index := 11) (v := .ref (h0 + 1)) C_ hW dp_in4 (Nat.le_refl _) (by omega) cxE_B rfl 0 (by decide) we_256 rfl dX4_init_20 ?_
      refine lv_iload_n C_.1 C_.2.1 dX4_init_23 rfl (lv_at hl 0 rfl) ?_
      refine cx_make (n := 2 + 30 * i) (C := RX2) (host := "SharedComparers") (T := TX2) (N := 12) (ci := 2) (index := 9) (idx := 17) (kc := 30) (fs := [.int 0, .int 0, .int 0, .int 0, .int 0, .int 0, .int 0, .int 0, .null, .null, .null, .null]) C_ hW hS dp_in2 tyX2 tyX2_ok rfl (fun j hj => by rcases (show j = 0 ∨ j = 1 ∨ j = 2 ∨ j = 3 ∨ j = 4 ∨ j = 5 ∨ j = 6 ∨ j = 7 ∨ j = 8 ∨ j = 9 ∨ j = 10 ∨ j = 11 by omega) with rfl | rfl | rfl | rfl | rfl | rfl | rfl | rfl | rfl | rfl | rfl | rfl <;> rfl) (ct_X2 (hk i hi) (by omega)) we_253 we_76 we_58 we_255 we_78 (cWs_good we_79 rfl) rfl rfl rfl rfl rfl ⟨by decide, by decide, by decide +kernel⟩ ⟨by decide, by decide⟩ (by show _ ≤ 121; omega) (by show _ ≤ 1012; omega) hl.1 (Nat.le_of_ble_eq_true rfl) dX4_init_24 dX4_init_27 dX4_init_28 (fun a h1 h2 => cxE_o (by omega) (by omega)) (by decide) (fun H locs hW hS => ?_)
      refine cx_ast (n := 2 + 30 * i + 30) (a := h0 + 1) (v := (h0 + (2 + 30 * i))) (t := 4) (ci := 2) (r := (RX2, TX2, 12)) (vs := [.int 0, .int 0, .int 0, .int 0, .int 0, .int 0, .int 0, .int 2, .ref ((h0 + (2 + 30 * i)) + 1), .ref ((h0 + (2 + 30 * i)) + 22), .ref ((h0 + (2 + 30 * i)) + 27), .ref ((h0 + (2 + 30 * i)) + 28)]) C_ hW hS (by omega) (by omega) (by omega) (by omega) (cxE_rr (by omega)) rfl ?_ rfl (jI_in (by omega) (by omega) (by omega)) dX4_init_31 (fun H locs hW hS => ?_)
      · rw [cxE_o (by omega) (by omega), fin0_o (kO i hi) (by decide) (by omega)]; rfl
      rw [cxE_Y (by omega), jI_cln (by omega), show (h0 + (2 + 30 * i)) = h0 + 1 + roff 15 i by show _ = h0 + 1 + (1 + 30 * i); omega, fR_s, show 2 + 30 * i + 30 = 2 + 30 * (i + 1) by omega] at hW
      refine lv_iinc (v := jI ((i + 1 : Nat) : Int)) (lv' := [(1, .int (jI ((i + 1 : Nat) : Int))), (0, .ref h0)]) C_.1 C_.2.1 dX4_init_32 hl (k := 0) rfl (jI_s i) (by decide) rfl (fun ls hl => ?_)
      refine lv_goto (tgt := 14) C_.1 C_.2.1 dX4_init_35 (by decide) ?_
      refine W.widen (k := 1 + 30 * (i + 1)) (n := 4 + 252 * (i + 1)) (by omega) (by omega) ?_
      exact ih (i + 1) H locs ls (by omega) hl hW hS
  refine lv_aload_n C_.1 C_.2.1 dX4_init_0 rfl (lv_at hl 0 rfl) ?_
  refine cx_obj (idx := 3) C_ we_252 we_73 we_74 hl.1 dX4_init_1 (by decide) (by decide) ?_
  refine lv_aload_n C_.1 C_.2.1 dX4_init_4 rfl (lv_at hl 0 rfl) ?_
  refine lv_iconst (v := jI 4) C_.1 C_.2.1 dX4_init_5 (by decide) ?_
  refine cx_newq (n := 1) (C := RX2) (t := 4) (N := 4) C_ hW hS rfl we_253 C_.2.2.2.2.2.2.2.1.2.2.2.2 (by decide) (by decide) (by decide) (by decide) (by decide) dX4_init_6 (fun H hW hS => ?_)
  rw [cxE_r (by omega) (Or.inl rfl), fR_0 (a := h0 + 1) (t := 15)] at hW
  refine cx_put (n := 2) (index := 11) (ty := tyX4 0) C_ hW hS dp_in4 tyX4 tyX4_ok nmX4 (Nat.le_refl _) (by omega) cxE_B rfl 0 (by decide) we_256 rfl (by decide +kernel) rfl rfl (Nat.le_of_ble_eq_true rfl) dX4_init_9 (fun H locs hW hS => ?_)
  rw [cxE_X] at hW
  refine lv_iconst (v := jI 0) C_.1 C_.2.1 dX4_init_12 (by decide) ?_
  refine lv_istore_n (lv' := [(1, .int (jI 0)), (0, .ref h0)]) C_.1 C_.2.1 dX4_init_13 rfl hl (by decide) rfl (fun ls hl => ?_)
  exact l14 4 0 H locs ls rfl hl hW hS
theorem ct_X7 {l : Launch} {D : va_G} {aC kd : Nat → Nat} {nw h0 : Nat} (hk : ∀ i, i < 218 → kd (h0 + i) = skd i) (hn : nw < h0 ∨ h0 + 218 ≤ nw) : cMet l D aC (fin0 aC kd nw) 7 [.null, .null, .null, .null, .null, .int 0] h0 yX7_init cX7_init 1 4 218 217 1927 := by
  have k0 : kd h0 = 7 := hk 0 (by decide)
  have c1 : ∀ i, i < 30 → kd (h0 + 1 + i) = ckd i := fun i hi => by rw [Nat.add_assoc, hk (1 + i) (by omega)]; unfold skd; rw [if_neg (by omega), if_pos (by omega), show (1 + i - 1) % 30 = i by omega]
  have c31 : ∀ i, i < 30 → kd (h0 + 31 + i) = ckd i := fun i hi => by rw [Nat.add_assoc, hk (31 + i) (by omega)]; unfold skd; rw [if_neg (by omega), if_pos (by omega), show (31 + i - 1) % 30 = i by omega]
  have c61 : ∀ i, i < 30 → kd (h0 + 61 + i) = ckd i := fun i hi => by rw [Nat.add_assoc, hk (61 + i) (by omega)]; unfold skd; rw [if_neg (by omega), if_pos (by omega), show (61 + i - 1) % 30 = i by omega]
  have k91 : kd (h0 + 91) = 4 := hk 91 (by decide)
  have k92 : kd (h0 + 91 + 1) = 15 := hk 92 (by decide)
  have cH : ∀ j, j < 4 → ∀ i, i < 30 → kd (h0 + 91 + (2 + 30 * j) + i) = ckd i := fun j hj i hi => by rw [show h0 + 91 + (2 + 30 * j) + i = h0 + (93 + 30 * j + i) by omega, hk (93 + 30 * j + i) (by omega)]; unfold skd; rw [if_neg (by omega), if_neg (by omega), if_neg (by omega), if_neg (by omega), if_pos (by omega), show (93 + 30 * j + i - 93) % 30 = i by omega]
  have k213 : kd (h0 + 213) = 1 := hk 213 (by decide)
  have k214 : kd (h0 + 213 + 1) = 12 := hk 214 (by decide)
  have k215 : kd (h0 + 213 + 2) = 11 := hk 215 (by decide)
  have k216 : kd (h0 + 213 + 3) = 11 := hk 216 (by decide)
  have k217 : kd (h0 + 213 + 4) = 11 := hk 217 (by decide)
  refine cx_met (by decide) rfl (by decide) (fun p e s m args below meth c ls C_ hl hW => ?_)
  have hS : va_S (fun q => h0 ≤ q) s.heap s.heap [] := va_S.rf
  refine lv_aload_n C_.1 C_.2.1 dX7_init_0 rfl (lv_at hl 0 rfl) ?_
  refine cx_obj (idx := 1) C_ we_72 we_73 we_74 hl.1 dX7_init_1 (by decide) (by decide) ?_
  refine lv_aload_n C_.1 C_.2.1 dX7_init_4 rfl (lv_at hl 0 rfl) ?_
  refine cx_make (n := 1) (C := RX2) (host := "SharedComparers") (T := TX2) (N := 12) (ci := 2) (index := 7) (idx := 9) (kc := 30) (fs := [.int 0, .int 0, .int 0, .int 0, .int 0, .int 0, .int 0, .int 0, .null, .null, .null, .null]) C_ hW hS dp_in2 tyX2 tyX2_ok rfl (fun j hj => by rcases (show j = 0 ∨ j = 1 ∨ j = 2 ∨ j = 3 ∨ j = 4 ∨ j = 5 ∨ j = 6 ∨ j = 7 ∨ j = 8 ∨ j = 9 ∨ j = 10 ∨ j = 11 by omega) with rfl | rfl | rfl | rfl | rfl | rfl | rfl | rfl | rfl | rfl | rfl | rfl <;> rfl) (ct_X2 c1 (by omega)) we_75 we_76 we_58 we_77 we_78 (cWs_good we_79 rfl) rfl rfl rfl rfl rfl ⟨by decide, by decide, by decide +kernel⟩ ⟨by decide, by decide⟩ (by decide) (by decide) hl.1 (Nat.le_of_ble_eq_true rfl) dX7_init_5 dX7_init_8 dX7_init_9 (fun a h1 h2 => cxE_o (by omega) (by omega)) (by decide) (fun H locs hW hS => ?_)
  refine cx_put (n := 31) (index := 10) (ty := tyX7 0) C_ hW hS dp_in7 tyX7 tyX7_ok nmX7 (Nat.le_refl _) (by omega) cxE_B rfl 0 (by decide) we_298 rfl (by decide +kernel) rfl rfl (Nat.le_of_ble_eq_true rfl) dX7_init_12 (fun H locs hW hS => ?_)
  rw [cxE_X] at hW
  refine lv_aload_n C_.1 C_.2.1 dX7_init_15 rfl (lv_at hl 0 rfl) ?_
  refine cx_make (n := 31) (C := RX2) (host := "SharedComparers") (T := TX2) (N := 12) (ci := 2) (index := 7) (idx := 9) (kc := 30) (fs := [.int 0, .int 0, .int 0, .int 0, .int 0, .int 0, .int 0, .int 0, .null, .null, .null, .null]) C_ hW hS dp_in2 tyX2 tyX2_ok rfl (fun j hj => by rcases (show j = 0 ∨ j = 1 ∨ j = 2 ∨ j = 3 ∨ j = 4 ∨ j = 5 ∨ j = 6 ∨ j = 7 ∨ j = 8 ∨ j = 9 ∨ j = 10 ∨ j = 11 by omega) with rfl | rfl | rfl | rfl | rfl | rfl | rfl | rfl | rfl | rfl | rfl | rfl <;> rfl) (ct_X2 c31 (by omega)) we_75 we_76 we_58 we_77 we_78 (cWs_good we_79 rfl) rfl rfl rfl rfl rfl ⟨by decide, by decide, by decide +kernel⟩ ⟨by decide, by decide⟩ (by decide) (by decide) hl.1 (Nat.le_of_ble_eq_true rfl) dX7_init_16 dX7_init_19 dX7_init_20 (fun a h1 h2 => cxE_o (by omega) (by omega)) (by decide) (fun H locs hW hS => ?_)
  refine cx_put (n := 61) (index := 16) (ty := tyX7 1) C_ hW hS dp_in7 tyX7 tyX7_ok nmX7 (Nat.le_refl _) (by omega) cxE_B rfl 1 (by decide) we_299 rfl (by decide +kernel) rfl rfl (Nat.le_of_ble_eq_true rfl) dX7_init_23 (fun H locs hW hS => ?_)
  rw [cxE_X] at hW
  refine lv_aload_n C_.1 C_.2.1 dX7_init_26 rfl (lv_at hl 0 rfl) ?_
  refine cx_make (n := 61) (C := RX2) (host := "SharedComparers") (T := TX2) (N := 12) (ci := 2) (index := 7) (idx := 9) (kc := 30) (fs := [.int 0, .int 0, .int 0, .int 0, .int 0, .int 0, .int 0, .int 0, .null, .null, .null, .null]) C_ hW hS dp_in2 tyX2 tyX2_ok rfl (fun j hj => by rcases (show j = 0 ∨ j = 1 ∨ j = 2 ∨ j = 3 ∨ j = 4 ∨ j = 5 ∨ j = 6 ∨ j = 7 ∨ j = 8 ∨ j = 9 ∨ j = 10 ∨ j = 11 by omega) with rfl | rfl | rfl | rfl | rfl | rfl | rfl | rfl | rfl | rfl | rfl | rfl <;> rfl) (ct_X2 c61 (by omega)) we_75 we_76 we_58 we_77 we_78 (cWs_good we_79 rfl) rfl rfl rfl rfl rfl ⟨by decide, by decide, by decide +kernel⟩ ⟨by decide, by decide⟩ (by decide) (by decide) hl.1 (Nat.le_of_ble_eq_true rfl) dX7_init_27 dX7_init_30 dX7_init_31 (fun a h1 h2 => cxE_o (by omega) (by omega)) (by decide) (fun H locs hW hS => ?_)
  refine cx_put (n := 91) (index := 19) (ty := tyX7 2) C_ hW hS dp_in7 tyX7 tyX7_ok nmX7 (Nat.le_refl _) (by omega) cxE_B rfl 2 (by decide) we_300 rfl (by decide +kernel) rfl rfl (Nat.le_of_ble_eq_true rfl) dX7_init_34 (fun H locs hW hS => ?_)
  rw [cxE_X] at hW
  refine lv_aload_n C_.1 C_.2.1 dX7_init_37 rfl (lv_at hl 0 rfl) ?_
  refine cx_make (n := 91) (C := RX4) (host := "SharedComparers") (T := TX4) (N := 2) (ci := 4) (index := 22) (idx := 24) (kc := 122) (fs := [.null, .int 0]) C_ hW hS dp_in4 tyX4 tyX4_ok rfl (fun j hj => by rcases (show j = 0 ∨ j = 1 by omega) with rfl | rfl <;> rfl) (ct_X4 k91 k92 cH (by omega)) we_247 we_248 we_63 we_249 we_250 (cWs_good we_251 rfl) rfl rfl rfl rfl rfl ⟨by decide, by decide, by decide +kernel⟩ ⟨by decide, by decide⟩ (by decide) (by decide) hl.1 (Nat.le_of_ble_eq_true rfl) dX7_init_38 dX7_init_41 dX7_init_42 (fun a h1 h2 => cxE_o (by omega) (by omega)) (by decide) (fun H locs hW hS => ?_)
  refine cx_put (n := 213) (index := 25) (ty := tyX7 3) C_ hW hS dp_in7 tyX7 tyX7_ok nmX7 (Nat.le_refl _) (by omega) cxE_B rfl 3 (by decide) we_301 rfl (by decide +kernel) rfl rfl (Nat.le_of_ble_eq_true rfl) dX7_init_45 (fun H locs hW hS => ?_)
  rw [cxE_X] at hW
  refine lv_aload_n C_.1 C_.2.1 dX7_init_48 rfl (lv_at hl 0 rfl) ?_
  refine cx_make (n := 213) (C := RX1) (host := "SharedComparers") (T := TX1) (N := 7) (ci := 1) (index := 29) (idx := 31) (kc := 5) (fs := [.null, .int 0, .null, .null, .null, .int 0, .int 0]) C_ hW hS dp_in1 tyX1 tyX1_ok rfl (fun j hj => by rcases (show j = 0 ∨ j = 1 ∨ j = 2 ∨ j = 3 ∨ j = 4 ∨ j = 5 ∨ j = 6 by omega) with rfl | rfl | rfl | rfl | rfl | rfl | rfl <;> rfl) (ct_X1 k213 k214 k215 k216 k217 (by omega)) we_264 we_265 we_64 we_266 we_267 (cWs_good we_268 rfl) rfl rfl rfl rfl rfl ⟨by decide, by decide, by decide +kernel⟩ ⟨by decide, by decide⟩ (by decide) (by decide) hl.1 (Nat.le_of_ble_eq_true rfl) dX7_init_49 dX7_init_52 dX7_init_53 (fun a h1 h2 => cxE_o (by omega) (by omega)) (by decide) (fun H locs hW hS => ?_)
  refine cx_put (n := 218) (index := 32) (ty := tyX7 4) C_ hW hS dp_in7 tyX7 tyX7_ok nmX7 (Nat.le_refl _) (by omega) cxE_B rfl 4 (by decide) we_302 rfl (by decide +kernel) rfl rfl (Nat.le_of_ble_eq_true rfl) dX7_init_56 (fun H locs hW hS => ?_)
  rw [cxE_X] at hW
  refine lv_aload_n C_.1 C_.2.1 dX7_init_59 rfl (lv_at hl 0 rfl) ?_
  refine lv_iconst (v := 0) C_.1 C_.2.1 dX7_init_60 (by decide) ?_
  refine cx_put (n := 218) (index := 36) (ty := tyX7 5) C_ hW hS dp_in7 tyX7 tyX7_ok nmX7 (Nat.le_refl _) (by omega) cxE_B rfl 5 (by decide) we_303 rfl (by decide +kernel) rfl rfl (Nat.le_of_ble_eq_true rfl) dX7_init_61 (fun H locs hW hS => ?_)
  rw [cxE_X] at hW
  refine W.widen (k := 217) (n := 1927) (by decide) (by decide) ?_
  exact cx_end C_ (cx_done hW (by rw [fin0_o k0 (by decide) (by omega)]; rfl) (Or.inl rfl)) hS dX7_init_64
