/-! ===== limits ===== -/
set_option maxRecDepth 100000 in
set_option maxHeartbeats 20000000 in
theorem met_limits {l : Launch} {D : va_G} {aC : Nat → Nat} {B : Nat} : Met l yL_limits (lWs yL_limits cL_limits 2 (some .boolean)) (rmL 10 218 1933) (va_Pc [] (fun U => U.heap.size = B ∧ cx_V D aC U)) (qI (fun x => x = jI 1) (fun _ => True) (fun q => B ≤ q)) 218 1933 (fun q => B ≤ q) := by
  refine lk_met (P := fun H => H.size = B) (by decide +kernel) rfl (Nat.le_of_ble_eq_true rfl) (fun p e s m args below meth c ls C_ hl hB => ?_)
  have hl : lv_has ls 2 [] := hl
  have hf : 8 ≤ (rmL 10 218 1933).frames ∧ 304 ≤ (rmL 10 218 1933).locals := ⟨by decide, by decide⟩
  have hf5 : 5 ≤ (rmL 10 218 1933).frames ∧ 304 ≤ (rmL 10 218 1933).locals := ⟨by decide, by decide⟩
  have hcs : 218 ≤ (rmL 10 218 1933).cells ∧ 1933 ≤ (rmL 10 218 1933).slots := ⟨Nat.le_refl _, Nat.le_refl _⟩
  have q284 : ∀ (H : Heap) (locs : List Loc) (ls : Array Slot) (z : kZ), kRun (tr_lim3 []) z = true → oI D aC B (fun q => B ≤ q) (fun _ => True) s.heap H locs (eZ z) 0 → lv_has ls 2 [(0, .ref B)] → W p l e (rmL 10 218 1933) s m args below meth c H locs 218 1933 (MQ below (qI (fun x => x = jI 1) (fun _ => True) (fun q => B ≤ q)) args s 218 1933 (fun q => B ≤ q)) (F0 m 284 ls []) := by
    intro H locs ls z hr hI hl
    refine lv_aload_n C_.1 C_.2.1 dL_limits_284 rfl (lv_at hl 0 rfl) ?_
    refine lv_bipush (v := jI 100) C_.1 C_.2.1 dL_limits_285 (by decide) ?_
    refine lr_correct C_ hf hcs hr hI ⟨by decide, by decide⟩ hl.1 (Nat.le_of_ble_eq_true rfl) dL_limits_287 (fun z H locs hr hI => ?_)
    refine lv_sipush (v := jI (-1004)) C_.1 C_.2.1 dL_limits_290 (by decide) ?_
    refine lj_ne (tgt := 383) C_.1 C_.2.1 ⟨by decide, by decide⟩ ⟨by decide, by decide⟩ dL_limits_293 (by decide) (fun q => by omega) (fun _ => ?_)
    refine lv_aload_n C_.1 C_.2.1 dL_limits_296 rfl (lv_at hl 0 rfl) ?_
    refine lv_bipush (v := jI 99) C_.1 C_.2.1 dL_limits_297 (by decide) ?_
    refine lr_correct C_ hf hcs hr hI ⟨by decide, by decide⟩ hl.1 (Nat.le_of_ble_eq_true rfl) dL_limits_299 (fun z H locs hr hI => ?_)
    refine lv_ldc (own := R_law) (v := jI 99999) C_.1 C_.2.1 C_.2.2.2.2.1 (C_.2.2.2.2.2.1 _ wk_39) dL_limits_302 ?_
    refine lj_ne (tgt := 383) C_.1 C_.2.1 ⟨by decide, by decide⟩ ⟨by decide, by decide⟩ dL_limits_304 (by decide) (fun q => by omega) (fun _ => ?_)
    refine lv_aload_n C_.1 C_.2.1 dL_limits_307 rfl (lv_at hl 0 rfl) ?_
    refine lv_iconst (v := jI 1) C_.1 C_.2.1 dL_limits_308 rfl ?_
    refine lr_run C_ hf hcs (by omega) hr hI ⟨by decide, by decide⟩ hl.1 (Nat.le_of_ble_eq_true rfl) dL_limits_309 (fun z H locs hr hI => ?_)
    refine lv_sipush (v := jI (-1003)) C_.1 C_.2.1 dL_limits_312 (by decide) ?_
    refine lj_ne (tgt := 383) C_.1 C_.2.1 ⟨by decide, by decide⟩ ⟨by decide, by decide⟩ dL_limits_315 (by decide) (fun q => by omega) (fun _ => ?_)
    refine lv_aload_n C_.1 C_.2.1 dL_limits_318 rfl (lv_at hl 0 rfl) ?_
    refine lv_iconst (v := jI 0) C_.1 C_.2.1 dL_limits_319 rfl ?_
    refine lr_run C_ hf hcs (by omega) hr hI ⟨by decide, by decide⟩ hl.1 (Nat.le_of_ble_eq_true rfl) dL_limits_320 (fun z H locs hr hI => ?_)
    refine lv_sipush (v := jI (-1002)) C_.1 C_.2.1 dL_limits_323 (by decide) ?_
    refine lj_ne (tgt := 383) C_.1 C_.2.1 ⟨by decide, by decide⟩ ⟨by decide, by decide⟩ dL_limits_326 (by decide) (fun q => by omega) (fun _ => ?_)
    refine lv_aload_n C_.1 C_.2.1 dL_limits_329 rfl (lv_at hl 0 rfl) ?_
    refine lv_bipush (v := jI (-3)) C_.1 C_.2.1 dL_limits_330 (by decide) ?_
    refine lr_correct C_ hf hcs hr hI ⟨by decide, by decide⟩ hl.1 (Nat.le_of_ble_eq_true rfl) dL_limits_332 (fun z H locs hr hI => ?_)
    refine lv_ldc (own := R_law) (v := jI 99996) C_.1 C_.2.1 C_.2.2.2.2.1 (C_.2.2.2.2.2.1 _ wk_96) dL_limits_335 ?_
    refine lj_ne (tgt := 383) C_.1 C_.2.1 ⟨by decide, by decide⟩ ⟨by decide, by decide⟩ dL_limits_337 (by decide) (fun q => by omega) (fun _ => ?_)
    refine lv_aload_n C_.1 C_.2.1 dL_limits_340 rfl (lv_at hl 0 rfl) ?_
    refine lv_iconst (v := jI 1) C_.1 C_.2.1 dL_limits_341 rfl ?_
    refine lr_run C_ hf hcs (by omega) hr hI ⟨by decide, by decide⟩ hl.1 (Nat.le_of_ble_eq_true rfl) dL_limits_342 (fun z H locs hr hI => ?_)
    refine lv_iconst (v := jI 1) C_.1 C_.2.1 dL_limits_345 rfl ?_
    refine lj_ne (tgt := 383) C_.1 C_.2.1 ⟨by decide, by decide⟩ ⟨by decide, by decide⟩ dL_limits_346 (by decide) (fun q => by omega) (fun _ => ?_)
    refine lv_aload_n C_.1 C_.2.1 dL_limits_349 rfl (lv_at hl 0 rfl) ?_
    refine lv_bipush (v := jI 7) C_.1 C_.2.1 dL_limits_350 (by decide) ?_
    refine lr_count C_ hf hcs hr hI ⟨by decide, by decide⟩ hl.1 (Nat.le_of_ble_eq_true rfl) dL_limits_352 (fun z H locs hr hI => ?_)
    refine lv_ldc (own := R_law) (v := jI 99990) C_.1 C_.2.1 C_.2.2.2.2.1 (C_.2.2.2.2.2.1 _ wk_97) dL_limits_355 ?_
    refine lj_ne (tgt := 383) C_.1 C_.2.1 ⟨by decide, by decide⟩ ⟨by decide, by decide⟩ dL_limits_357 (by decide) (fun q => by omega) (fun _ => ?_)
    refine lv_aload_n C_.1 C_.2.1 dL_limits_360 rfl (lv_at hl 0 rfl) ?_
    refine lv_iconst (v := jI 1) C_.1 C_.2.1 dL_limits_361 rfl ?_
    refine lr_run C_ hf hcs (by omega) hr hI ⟨by decide, by decide⟩ hl.1 (Nat.le_of_ble_eq_true rfl) dL_limits_362 (fun z H locs hr hI => ?_)
    refine lj_if_ne (tgt := 383) C_.1 C_.2.1 ⟨by decide, by decide⟩ dL_limits_365 (by decide) (fun q => by omega) (fun _ => ?_)
    refine lv_aload_n C_.1 C_.2.1 dL_limits_368 rfl (lv_at hl 0 rfl) ?_
    refine lv_iconst (v := jI 1) C_.1 C_.2.1 dL_limits_369 rfl ?_
    refine lr_run C_ hf hcs (by omega) hr hI ⟨by decide, by decide⟩ hl.1 (Nat.le_of_ble_eq_true rfl) dL_limits_370 (fun z H locs hr hI => ?_)
    refine lv_sipush (v := jI (-1003)) C_.1 C_.2.1 dL_limits_373 (by decide) ?_
    refine lj_ne (tgt := 383) C_.1 C_.2.1 ⟨by decide, by decide⟩ ⟨by decide, by decide⟩ dL_limits_376 (by decide) (fun q => by omega) (fun _ => ?_)
    refine lv_iconst (v := jI 1) C_.1 C_.2.1 dL_limits_379 rfl ?_
    refine lv_goto (tgt := 384) C_.1 C_.2.1 dL_limits_380 (by decide) ?_
    exact lk_zend C_ hI.2.1 trivial dL_limits_384
  have lD : ∀ (n k : Nat), k + n = 100 → ∀ (H : Heap) (locs : List Loc) (ls : Array Slot) (z : kZ), kRun (lpD n k (tr_lim3 [])) z = true → oI D aC B (fun q => B ≤ q) (fun _ => True) s.heap H locs (eZ z) 0 → lv_has ls 2 [(1, .int (jI (k : Int))), (0, .ref B)] → W p l e (rmL 10 218 1933) s m args below meth c H locs 218 1933 (MQ below (qI (fun x => x = jI 1) (fun _ => True) (fun q => B ≤ q)) args s 218 1933 (fun q => B ≤ q)) (F0 m 253 ls []) := by
    intro n
    induction n with
    | zero =>
      intro k hk H locs ls z hr hI hl
      refine lv_iload_n C_.1 C_.2.1 dL_limits_253 rfl (lv_at hl 0 rfl) ?_
      refine lv_bipush (v := jI 100) C_.1 C_.2.1 dL_limits_254 (by decide) ?_
      refine lj_ge (tgt := 284) C_.1 C_.2.1 ⟨by omega, by omega⟩ ⟨by decide, by decide⟩ dL_limits_256 (by decide) (fun _ => ?_) (fun q => by omega)
      exact q284 H locs ls z hr hI (lv_sub hl [1] rfl)
    | succ n ih =>
      intro k hk H locs ls z hr hI hl
      have hr : kRun ((8, 999, 0, 0, 999 * ((k : Int) + 1)) :: lpD n (k + 1) (tr_lim3 [])) z = true := hr
      refine lv_iload_n C_.1 C_.2.1 dL_limits_253 rfl (lv_at hl 0 rfl) ?_
      refine lv_bipush (v := jI 100) C_.1 C_.2.1 dL_limits_254 (by decide) ?_
      refine lj_ge (tgt := 284) C_.1 C_.2.1 ⟨by omega, by omega⟩ ⟨by decide, by decide⟩ dL_limits_256 (by decide) (fun q => by omega) (fun _ => ?_)
      refine lv_aload_n C_.1 C_.2.1 dL_limits_259 rfl (lv_at hl 1 rfl) ?_
      refine lv_sipush (v := jI 999) C_.1 C_.2.1 dL_limits_260 (by decide) ?_
      refine lr_correct C_ hf hcs hr hI ⟨by decide, by decide⟩ hl.1 (Nat.le_of_ble_eq_true rfl) dL_limits_263 (fun z H locs hr hI => ?_)
      refine lv_sipush (v := jI 999) C_.1 C_.2.1 dL_limits_266 (by decide) ?_
      refine lv_iload_n C_.1 C_.2.1 dL_limits_269 rfl (lv_at hl 0 rfl) ?_
      refine lv_iconst (v := jI 1) C_.1 C_.2.1 dL_limits_270 rfl ?_
      refine lj_add (v := ((k : Int) + 1)) C_.1 C_.2.1 rfl dL_limits_271 ?_
      refine lj_mul (v := (999 * ((k : Int) + 1))) C_.1 C_.2.1 rfl dL_limits_272 ?_
      refine lj_eq (tgt := 278) C_.1 C_.2.1 ⟨by omega, by omega⟩ ⟨by omega, by omega⟩ dL_limits_273 (by decide) (fun _ => ?_) (fun q => by omega)
      refine lv_iinc (v := jI ((k + 1 : Nat) : Int)) (lv' := [(1, .int (jI ((k + 1 : Nat) : Int))), (0, .ref B)]) C_.1 C_.2.1 dL_limits_278 hl (k := 0) rfl (jI_s k) (by decide) rfl (fun ls hl => ?_)
      refine lv_goto (tgt := 253) C_.1 C_.2.1 dL_limits_281 (by decide) ?_
      exact ih (k + 1) (by omega) H locs ls z hr hI hl
  have q194 : ∀ (H : Heap) (locs : List Loc) (ls : Array Slot) (z : kZ), kRun (tr_lim2 (lpD 100 0 (tr_lim3 []))) z = true → oI D aC B (fun q => B ≤ q) (fun _ => True) s.heap H locs (eZ z) 0 → lv_has ls 2 [(0, .ref B)] → W p l e (rmL 10 218 1933) s m args below meth c H locs 218 1933 (MQ below (qI (fun x => x = jI 1) (fun _ => True) (fun q => B ≤ q)) args s 218 1933 (fun q => B ≤ q)) (F0 m 194 ls []) := by
    intro H locs ls z hr hI hl
    refine lv_aload_n C_.1 C_.2.1 dL_limits_194 rfl (lv_at hl 0 rfl) ?_
    refine lv_bipush (v := jI 7) C_.1 C_.2.1 dL_limits_195 (by decide) ?_
    refine lv_iconst (v := jI 0) C_.1 C_.2.1 dL_limits_197 rfl ?_
    refine lv_iconst (v := jI 0) C_.1 C_.2.1 dL_limits_198 rfl ?_
    refine lr_set C_ hf hcs hr hI ⟨by decide, by decide⟩ ⟨by decide, by decide⟩ ⟨by decide, by decide⟩ hl.1 (Nat.le_of_ble_eq_true rfl) dL_limits_199 (fun z H locs hr hI => ?_)
    refine lv_sipush (v := jI (-1003)) C_.1 C_.2.1 dL_limits_202 (by decide) ?_
    refine lj_ne (tgt := 249) C_.1 C_.2.1 ⟨by decide, by decide⟩ ⟨by decide, by decide⟩ dL_limits_205 (by decide) (fun q => by omega) (fun _ => ?_)
    refine lv_aload_n C_.1 C_.2.1 dL_limits_208 rfl (lv_at hl 0 rfl) ?_
    refine lv_iconst (v := jI 3) C_.1 C_.2.1 dL_limits_209 rfl ?_
    refine lr_count C_ hf hcs hr hI ⟨by decide, by decide⟩ hl.1 (Nat.le_of_ble_eq_true rfl) dL_limits_210 (fun z H locs hr hI => ?_)
    refine lv_sipush (v := jI 500) C_.1 C_.2.1 dL_limits_213 (by decide) ?_
    refine lj_ne (tgt := 249) C_.1 C_.2.1 ⟨by decide, by decide⟩ ⟨by decide, by decide⟩ dL_limits_216 (by decide) (fun q => by omega) (fun _ => ?_)
    refine lv_aload_n C_.1 C_.2.1 dL_limits_219 rfl (lv_at hl 0 rfl) ?_
    refine lr_undo C_ hf hcs hr hI hl.1 (Nat.le_of_ble_eq_true rfl) dL_limits_220 (fun z H locs hr hI => ?_)
    refine lv_iconst (v := jI 3) C_.1 C_.2.1 dL_limits_223 rfl ?_
    refine lj_ne (tgt := 249) C_.1 C_.2.1 ⟨by decide, by decide⟩ ⟨by decide, by decide⟩ dL_limits_224 (by decide) (fun q => by omega) (fun _ => ?_)
    refine lv_aload_n C_.1 C_.2.1 dL_limits_227 rfl (lv_at hl 0 rfl) ?_
    refine lv_iconst (v := jI 2) C_.1 C_.2.1 dL_limits_228 rfl ?_
    refine lr_count C_ hf hcs hr hI ⟨by decide, by decide⟩ hl.1 (Nat.le_of_ble_eq_true rfl) dL_limits_229 (fun z H locs hr hI => ?_)
    refine lv_iconst (v := jI 1) C_.1 C_.2.1 dL_limits_232 rfl ?_
    refine lj_ne (tgt := 249) C_.1 C_.2.1 ⟨by decide, by decide⟩ ⟨by decide, by decide⟩ dL_limits_233 (by decide) (fun q => by omega) (fun _ => ?_)
    refine lv_aload_n C_.1 C_.2.1 dL_limits_236 rfl (lv_at hl 0 rfl) ?_
    refine lv_sipush (v := jI 499) C_.1 C_.2.1 dL_limits_237 (by decide) ?_
    refine lv_iconst (v := jI 0) C_.1 C_.2.1 dL_limits_240 rfl ?_
    refine lr_alarm C_ hf hcs hr hI ⟨by decide, by decide⟩ ⟨by decide, by decide⟩ hl.1 (Nat.le_of_ble_eq_true rfl) dL_limits_241 (fun z H locs hr hI => ?_)
    refine lv_bipush (v := jI 7) C_.1 C_.2.1 dL_limits_244 (by decide) ?_
    refine lj_eq (tgt := 251) C_.1 C_.2.1 ⟨by decide, by decide⟩ ⟨by decide, by decide⟩ dL_limits_246 (by decide) (fun _ => ?_) (fun q => by omega)
    refine lv_iconst (v := jI 0) C_.1 C_.2.1 dL_limits_251 rfl ?_
    refine lv_istore_n (lv' := [(1, .int (jI 0)), (0, .ref B)]) C_.1 C_.2.1 dL_limits_252 rfl hl (by decide) rfl (fun ls hl => ?_)
    exact lD 100 0 rfl H locs ls z hr hI hl
  have lC : ∀ (n k : Nat), k + n = 500 → ∀ (H : Heap) (locs : List Loc) (ls : Array Slot) (z : kZ), kRun (lpC n k (tr_lim2 (lpD 100 0 (tr_lim3 [])))) z = true → oI D aC B (fun q => B ≤ q) (fun _ => True) s.heap H locs (eZ z) 0 → lv_has ls 2 [(1, .int (jI (k : Int))), (0, .ref B)] → W p l e (rmL 10 218 1933) s m args below meth c H locs 218 1933 (MQ below (qI (fun x => x = jI 1) (fun _ => True) (fun q => B ≤ q)) args s 218 1933 (fun q => B ≤ q)) (F0 m 159 ls []) := by
    intro n
    induction n with
    | zero =>
      intro k hk H locs ls z hr hI hl
      refine lv_iload_n C_.1 C_.2.1 dL_limits_159 rfl (lv_at hl 0 rfl) ?_
      refine lv_sipush (v := jI 500) C_.1 C_.2.1 dL_limits_160 (by decide) ?_
      refine lj_ge (tgt := 194) C_.1 C_.2.1 ⟨by omega, by omega⟩ ⟨by decide, by decide⟩ dL_limits_163 (by decide) (fun _ => ?_) (fun q => by omega)
      exact q194 H locs ls z hr hI (lv_sub hl [1] rfl)
    | succ n ih =>
      intro k hk H locs ls z hr hI hl
      have hr : kRun ((0, 7, 0, 0, (k : Int)) :: (2, (k : Int), 0, 0, 0) :: lpC n (k + 1) (tr_lim2 (lpD 100 0 (tr_lim3 [])))) z = true := hr
      refine lv_iload_n C_.1 C_.2.1 dL_limits_159 rfl (lv_at hl 0 rfl) ?_
      refine lv_sipush (v := jI 500) C_.1 C_.2.1 dL_limits_160 (by decide) ?_
      refine lj_ge (tgt := 194) C_.1 C_.2.1 ⟨by omega, by omega⟩ ⟨by decide, by decide⟩ dL_limits_163 (by decide) (fun q => by omega) (fun _ => ?_)
      refine lv_aload_n C_.1 C_.2.1 dL_limits_166 rfl (lv_at hl 1 rfl) ?_
      refine lv_bipush (v := jI 7) C_.1 C_.2.1 dL_limits_167 (by decide) ?_
      refine lv_iconst (v := jI 0) C_.1 C_.2.1 dL_limits_169 rfl ?_
      refine lv_iconst (v := jI 0) C_.1 C_.2.1 dL_limits_170 rfl ?_
      refine lr_set C_ hf hcs hr hI ⟨by decide, by decide⟩ ⟨by decide, by decide⟩ ⟨by decide, by decide⟩ hl.1 (Nat.le_of_ble_eq_true rfl) dL_limits_171 (fun z H locs hr hI => ?_)
      refine lv_iload_n C_.1 C_.2.1 dL_limits_174 rfl (lv_at hl 0 rfl) ?_
      refine lj_ne (tgt := 186) C_.1 C_.2.1 ⟨by omega, by omega⟩ ⟨by omega, by omega⟩ dL_limits_175 (by decide) (fun q => by omega) (fun _ => ?_)
      refine lv_aload_n C_.1 C_.2.1 dL_limits_178 rfl (lv_at hl 1 rfl) ?_
      refine lv_iload_n C_.1 C_.2.1 dL_limits_179 rfl (lv_at hl 0 rfl) ?_
      refine lr_cancel C_ hf hcs hr hI ⟨by omega, by omega⟩ hl.1 (Nat.le_of_ble_eq_true rfl) dL_limits_180 (fun z H locs hr hI => ?_)
      refine lj_if_eq (tgt := 188) C_.1 C_.2.1 ⟨by decide, by decide⟩ dL_limits_183 (by decide) (fun _ => ?_) (fun q => by omega)
      refine lv_iinc (v := jI ((k + 1 : Nat) : Int)) (lv' := [(1, .int (jI ((k + 1 : Nat) : Int))), (0, .ref B)]) C_.1 C_.2.1 dL_limits_188 hl (k := 0) rfl (jI_s k) (by decide) rfl (fun ls hl => ?_)
      refine lv_goto (tgt := 159) C_.1 C_.2.1 dL_limits_191 (by decide) ?_
      exact ih (k + 1) (by omega) H locs ls z hr hI hl
  have q156 : ∀ (H : Heap) (locs : List Loc) (ls : Array Slot) (z : kZ), kRun (lpC 480 20 (tr_lim2 (lpD 100 0 (tr_lim3 [])))) z = true → oI D aC B (fun q => B ≤ q) (fun _ => True) s.heap H locs (eZ z) 0 → lv_has ls 2 [(0, .ref B)] → W p l e (rmL 10 218 1933) s m args below meth c H locs 218 1933 (MQ below (qI (fun x => x = jI 1) (fun _ => True) (fun q => B ≤ q)) args s 218 1933 (fun q => B ≤ q)) (F0 m 156 ls []) := by
    intro H locs ls z hr hI hl
    refine lv_bipush (v := jI 20) C_.1 C_.2.1 dL_limits_156 (by decide) ?_
    refine lv_istore_n (lv' := [(1, .int (jI 20)), (0, .ref B)]) C_.1 C_.2.1 dL_limits_158 rfl hl (by decide) rfl (fun ls hl => ?_)
    exact lC 480 20 rfl H locs ls z hr hI hl
  have lB : ∀ (n k : Nat), k + n = 20 → ∀ (H : Heap) (locs : List Loc) (ls : Array Slot) (z : kZ), kRun (lpB n k (lpC 480 20 (tr_lim2 (lpD 100 0 (tr_lim3 []))))) z = true → oI D aC B (fun q => B ≤ q) (fun _ => True) s.heap H locs (eZ z) 0 → lv_has ls 2 [(1, .int (jI (k : Int))), (0, .ref B)] → W p l e (rmL 10 218 1933) s m args below meth c H locs 218 1933 (MQ below (qI (fun x => x = jI 1) (fun _ => True) (fun q => B ≤ q)) args s 218 1933 (fun q => B ≤ q)) (F0 m 130 ls []) := by
    intro n
    induction n with
    | zero =>
      intro k hk H locs ls z hr hI hl
      refine lv_iload_n C_.1 C_.2.1 dL_limits_130 rfl (lv_at hl 0 rfl) ?_
      refine lv_bipush (v := jI 20) C_.1 C_.2.1 dL_limits_131 (by decide) ?_
      refine lj_ge (tgt := 156) C_.1 C_.2.1 ⟨by omega, by omega⟩ ⟨by decide, by decide⟩ dL_limits_133 (by decide) (fun _ => ?_) (fun q => by omega)
      exact q156 H locs ls z hr hI (lv_sub hl [1] rfl)
    | succ n ih =>
      intro k hk H locs ls z hr hI hl
      have hr : kRun ((2, (k : Int), 0, 0, 19 - (k : Int)) :: lpB n (k + 1) (lpC 480 20 (tr_lim2 (lpD 100 0 (tr_lim3 []))))) z = true := hr
      refine lv_iload_n C_.1 C_.2.1 dL_limits_130 rfl (lv_at hl 0 rfl) ?_
      refine lv_bipush (v := jI 20) C_.1 C_.2.1 dL_limits_131 (by decide) ?_
      refine lj_ge (tgt := 156) C_.1 C_.2.1 ⟨by omega, by omega⟩ ⟨by decide, by decide⟩ dL_limits_133 (by decide) (fun q => by omega) (fun _ => ?_)
      refine lv_aload_n C_.1 C_.2.1 dL_limits_136 rfl (lv_at hl 1 rfl) ?_
      refine lv_iload_n C_.1 C_.2.1 dL_limits_137 rfl (lv_at hl 0 rfl) ?_
      refine lr_cancel C_ hf hcs hr hI ⟨by omega, by omega⟩ hl.1 (Nat.le_of_ble_eq_true rfl) dL_limits_138 (fun z H locs hr hI => ?_)
      refine lv_bipush (v := jI 19) C_.1 C_.2.1 dL_limits_141 (by decide) ?_
      refine lv_iload_n C_.1 C_.2.1 dL_limits_143 rfl (lv_at hl 0 rfl) ?_
      refine lj_sub (v := (19 - (k : Int))) C_.1 C_.2.1 rfl dL_limits_144 ?_
      refine lj_eq (tgt := 150) C_.1 C_.2.1 ⟨by omega, by omega⟩ ⟨by omega, by omega⟩ dL_limits_145 (by decide) (fun _ => ?_) (fun q => by omega)
      refine lv_iinc (v := jI ((k + 1 : Nat) : Int)) (lv' := [(1, .int (jI ((k + 1 : Nat) : Int))), (0, .ref B)]) C_.1 C_.2.1 dL_limits_150 hl (k := 0) rfl (jI_s k) (by decide) rfl (fun ls hl => ?_)
      refine lv_goto (tgt := 130) C_.1 C_.2.1 dL_limits_153 (by decide) ?_
      exact ih (k + 1) (by omega) H locs ls z hr hI hl
  have q40 : ∀ (H : Heap) (locs : List Loc) (ls : Array Slot) (z : kZ), kRun (tr_lim1 (lpB 20 0 (lpC 480 20 (tr_lim2 (lpD 100 0 (tr_lim3 [])))))) z = true → oI D aC B (fun q => B ≤ q) (fun _ => True) s.heap H locs (eZ z) 0 → lv_has ls 2 [(0, .ref B)] → W p l e (rmL 10 218 1933) s m args below meth c H locs 218 1933 (MQ below (qI (fun x => x = jI 1) (fun _ => True) (fun q => B ≤ q)) args s 218 1933 (fun q => B ≤ q)) (F0 m 40 ls []) := by
    intro H locs ls z hr hI hl
    refine lv_aload_n C_.1 C_.2.1 dL_limits_40 rfl (lv_at hl 0 rfl) ?_
    refine lv_bipush (v := jI 100) C_.1 C_.2.1 dL_limits_41 (by decide) ?_
    refine lv_iconst (v := jI 0) C_.1 C_.2.1 dL_limits_43 rfl ?_
    refine lv_iconst (v := jI 0) C_.1 C_.2.1 dL_limits_44 rfl ?_
    refine lr_set C_ hf hcs hr hI ⟨by decide, by decide⟩ ⟨by decide, by decide⟩ ⟨by decide, by decide⟩ hl.1 (Nat.le_of_ble_eq_true rfl) dL_limits_45 (fun z H locs hr hI => ?_)
    refine lv_sipush (v := jI (-1003)) C_.1 C_.2.1 dL_limits_48 (by decide) ?_
    refine lj_ne (tgt := 126) C_.1 C_.2.1 ⟨by decide, by decide⟩ ⟨by decide, by decide⟩ dL_limits_51 (by decide) (fun q => by omega) (fun _ => ?_)
    refine lv_aload_n C_.1 C_.2.1 dL_limits_54 rfl (lv_at hl 0 rfl) ?_
    refine lv_bipush (v := jI 100) C_.1 C_.2.1 dL_limits_55 (by decide) ?_
    refine lv_iconst (v := jI 0) C_.1 C_.2.1 dL_limits_57 rfl ?_
    refine lv_iconst (v := jI 4) C_.1 C_.2.1 dL_limits_58 rfl ?_
    refine lr_set C_ hf hcs hr hI ⟨by decide, by decide⟩ ⟨by decide, by decide⟩ ⟨by decide, by decide⟩ hl.1 (Nat.le_of_ble_eq_true rfl) dL_limits_59 (fun z H locs hr hI => ?_)
    refine lv_sipush (v := jI (-1002)) C_.1 C_.2.1 dL_limits_62 (by decide) ?_
    refine lj_ne (tgt := 126) C_.1 C_.2.1 ⟨by decide, by decide⟩ ⟨by decide, by decide⟩ dL_limits_65 (by decide) (fun q => by omega) (fun _ => ?_)
    refine lv_aload_n C_.1 C_.2.1 dL_limits_68 rfl (lv_at hl 0 rfl) ?_
    refine lv_iconst (v := jI 4) C_.1 C_.2.1 dL_limits_69 rfl ?_
    refine lr_count C_ hf hcs hr hI ⟨by decide, by decide⟩ hl.1 (Nat.le_of_ble_eq_true rfl) dL_limits_70 (fun z H locs hr hI => ?_)
    refine lv_bipush (v := jI 18) C_.1 C_.2.1 dL_limits_73 (by decide) ?_
    refine lj_ne (tgt := 126) C_.1 C_.2.1 ⟨by decide, by decide⟩ ⟨by decide, by decide⟩ dL_limits_75 (by decide) (fun q => by omega) (fun _ => ?_)
    refine lv_aload_n C_.1 C_.2.1 dL_limits_78 rfl (lv_at hl 0 rfl) ?_
    refine lv_bipush (v := jI 11) C_.1 C_.2.1 dL_limits_79 (by decide) ?_
    refine lr_count C_ hf hcs hr hI ⟨by decide, by decide⟩ hl.1 (Nat.le_of_ble_eq_true rfl) dL_limits_81 (fun z H locs hr hI => ?_)
    refine lv_bipush (v := jI 18) C_.1 C_.2.1 dL_limits_84 (by decide) ?_
    refine lj_ne (tgt := 126) C_.1 C_.2.1 ⟨by decide, by decide⟩ ⟨by decide, by decide⟩ dL_limits_86 (by decide) (fun q => by omega) (fun _ => ?_)
    refine lv_aload_n C_.1 C_.2.1 dL_limits_89 rfl (lv_at hl 0 rfl) ?_
    refine lv_iconst (v := jI 0) C_.1 C_.2.1 dL_limits_90 rfl ?_
    refine lv_iconst (v := jI 0) C_.1 C_.2.1 dL_limits_91 rfl ?_
    refine lr_comparer C_ hf hcs hr hI ⟨by decide, by decide⟩ ⟨by decide, by decide⟩ hl.1 (Nat.le_of_ble_eq_true rfl) dL_limits_92 (fun z H locs hr hI => ?_)
    refine lv_bipush (v := jI 82) C_.1 C_.2.1 dL_limits_95 (by decide) ?_
    refine lj_gt (tgt := 126) C_.1 C_.2.1 ⟨by decide, by decide⟩ ⟨by decide, by decide⟩ dL_limits_97 (by decide) (fun q => by omega) (fun _ => ?_)
    refine lv_aload_n C_.1 C_.2.1 dL_limits_100 rfl (lv_at hl 0 rfl) ?_
    refine lv_iconst (v := jI 0) C_.1 C_.2.1 dL_limits_101 rfl ?_
    refine lr_at C_ hf hcs hr hI ⟨by decide, by decide⟩ hl.1 (Nat.le_of_ble_eq_true rfl) dL_limits_102 (fun z H locs hr hI => ?_)
    refine lv_bipush (v := jI 19) C_.1 C_.2.1 dL_limits_105 (by decide) ?_
    refine lj_ne (tgt := 126) C_.1 C_.2.1 ⟨by decide, by decide⟩ ⟨by decide, by decide⟩ dL_limits_107 (by decide) (fun q => by omega) (fun _ => ?_)
    refine lv_aload_n C_.1 C_.2.1 dL_limits_110 rfl (lv_at hl 0 rfl) ?_
    refine lv_bipush (v := jI 19) C_.1 C_.2.1 dL_limits_111 (by decide) ?_
    refine lr_at C_ hf hcs hr hI ⟨by decide, by decide⟩ hl.1 (Nat.le_of_ble_eq_true rfl) dL_limits_113 (fun z H locs hr hI => ?_)
    refine lj_if_ne (tgt := 126) C_.1 C_.2.1 ⟨by decide, by decide⟩ dL_limits_116 (by decide) (fun q => by omega) (fun _ => ?_)
    refine lv_aload_n C_.1 C_.2.1 dL_limits_119 rfl (lv_at hl 0 rfl) ?_
    refine lk_one (idx := 89) (n := 1) (As := [.ref B]) C_ (met_refused hI.2.2.1 (by omega)) wl_602 wl_603 wl_604 rfl rfl rfl ⟨rfl, by decide, by decide, by decide +kernel⟩ ⟨Nat.le_of_ble_eq_true rfl, Nat.le_of_ble_eq_true rfl⟩ rfl hcs hI hl.1 (Nat.le_of_ble_eq_true rfl) dL_limits_120 (fun H locs hI => ?_)
    refine lj_if_ne (tgt := 128) C_.1 C_.2.1 ⟨by decide, by decide⟩ dL_limits_123 (by decide) (fun _ => ?_) (fun q => by omega)
    refine lv_iconst (v := jI 0) C_.1 C_.2.1 dL_limits_128 rfl ?_
    refine lv_istore_n (lv' := [(1, .int (jI 0)), (0, .ref B)]) C_.1 C_.2.1 dL_limits_129 rfl hl (by decide) rfl (fun ls hl => ?_)
    exact lB 20 0 rfl H locs ls z hr hI hl
  have lA : ∀ (n k : Nat), k + n = 20 → ∀ (H : Heap) (locs : List Loc) (ls : Array Slot) (z : kZ), kRun (lpA n k (tr_lim1 (lpB 20 0 (lpC 480 20 (tr_lim2 (lpD 100 0 (tr_lim3 []))))))) z = true → oI D aC B (fun q => B ≤ q) (fun _ => True) s.heap H locs (eZ z) 0 → lv_has ls 2 [(1, .int (jI (k : Int))), (0, .ref B)] → W p l e (rmL 10 218 1933) s m args below meth c H locs 218 1933 (MQ below (qI (fun x => x = jI 1) (fun _ => True) (fun q => B ≤ q)) args s 218 1933 (fun q => B ≤ q)) (F0 m 10 ls []) := by
    intro n
    induction n with
    | zero =>
      intro k hk H locs ls z hr hI hl
      refine lv_iload_n C_.1 C_.2.1 dL_limits_10 rfl (lv_at hl 0 rfl) ?_
      refine lv_bipush (v := jI 20) C_.1 C_.2.1 dL_limits_11 (by decide) ?_
      refine lj_ge (tgt := 40) C_.1 C_.2.1 ⟨by omega, by omega⟩ ⟨by decide, by decide⟩ dL_limits_13 (by decide) (fun _ => ?_) (fun q => by omega)
      exact q40 H locs ls z hr hI (lv_sub hl [1] rfl)
    | succ n ih =>
      intro k hk H locs ls z hr hI hl
      have hr : kRun ((0, 100 - (k : Int), 0, (k : Int) % 4, (k : Int)) :: lpA n (k + 1) (tr_lim1 (lpB 20 0 (lpC 480 20 (tr_lim2 (lpD 100 0 (tr_lim3 []))))))) z = true := hr
      refine lv_iload_n C_.1 C_.2.1 dL_limits_10 rfl (lv_at hl 0 rfl) ?_
      refine lv_bipush (v := jI 20) C_.1 C_.2.1 dL_limits_11 (by decide) ?_
      refine lj_ge (tgt := 40) C_.1 C_.2.1 ⟨by omega, by omega⟩ ⟨by decide, by decide⟩ dL_limits_13 (by decide) (fun q => by omega) (fun _ => ?_)
      refine lv_aload_n C_.1 C_.2.1 dL_limits_16 rfl (lv_at hl 1 rfl) ?_
      refine lv_bipush (v := jI 100) C_.1 C_.2.1 dL_limits_17 (by decide) ?_
      refine lv_iload_n C_.1 C_.2.1 dL_limits_19 rfl (lv_at hl 0 rfl) ?_
      refine lj_sub (v := (100 - (k : Int))) C_.1 C_.2.1 rfl dL_limits_20 ?_
      refine lv_iconst (v := jI 0) C_.1 C_.2.1 dL_limits_21 rfl ?_
      refine lv_iload_n C_.1 C_.2.1 dL_limits_22 rfl (lv_at hl 0 rfl) ?_
      refine lv_iconst (v := jI 4) C_.1 C_.2.1 dL_limits_23 rfl ?_
      refine lj_rem (v := ((k : Int) % 4)) C_.1 C_.2.1 (by omega) (by omega) (by omega) (by omega) rfl dL_limits_24 ?_
      refine lr_set C_ hf hcs hr hI ⟨by omega, by omega⟩ ⟨by decide, by decide⟩ ⟨by omega, by omega⟩ hl.1 (Nat.le_of_ble_eq_true rfl) dL_limits_25 (fun z H locs hr hI => ?_)
      refine lv_iload_n C_.1 C_.2.1 dL_limits_28 rfl (lv_at hl 0 rfl) ?_
      refine lj_eq (tgt := 34) C_.1 C_.2.1 ⟨by omega, by omega⟩ ⟨by omega, by omega⟩ dL_limits_29 (by decide) (fun _ => ?_) (fun q => by omega)
      refine lv_iinc (v := jI ((k + 1 : Nat) : Int)) (lv' := [(1, .int (jI ((k + 1 : Nat) : Int))), (0, .ref B)]) C_.1 C_.2.1 dL_limits_34 hl (k := 0) rfl (jI_s k) (by decide) rfl (fun ls hl => ?_)
      refine lv_goto (tgt := 10) C_.1 C_.2.1 dL_limits_37 (by decide) ?_
      exact ih (k + 1) (by omega) H locs ls z hr hI hl
  have hr : kRun tr_limits kZ0 = true := tr_limits_ok
  refine lk_new C_ hf5 hB va_S.rf (fun q h => h) (Nat.le_of_ble_eq_true rfl) (Nat.le_of_ble_eq_true rfl) hl.1 (Nat.le_of_ble_eq_true rfl) dL_limits_0 dL_limits_3 dL_limits_4 (fun H locs hO hsz hold hS => ?_)
  have hI : oI D aC B (fun q => B ≤ q) (fun _ => True) s.heap H locs (eZ kZ0) 0 := ⟨by rw [kZ0_e]; exact hO, hS, ⟨by rw [kZ0_e]; exact Z0_ZI ⟨by decide, by decide⟩ ⟨by decide, by decide⟩, by decide⟩, trivial, stab_t, fun q h => (LA_ge h).1⟩
  refine lv_astore_n (lv' := [(0, .ref B)]) C_.1 C_.2.1 dL_limits_7 rfl hl (by decide) rfl (fun ls hl => ?_)
  refine lv_iconst (v := jI 0) C_.1 C_.2.1 dL_limits_8 rfl ?_
  refine lv_istore_n (lv' := [(1, .int (jI 0)), (0, .ref B)]) C_.1 C_.2.1 dL_limits_9 rfl hl (by decide) rfl (fun ls hl => ?_)
  exact lA 20 0 rfl H locs ls kZ0 hr hI hl
