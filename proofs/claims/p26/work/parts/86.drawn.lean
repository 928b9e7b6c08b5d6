/-! ===== the law: the drawn acts ===== -/
section LAWW
variable {p : Program} {l : Launch} {e : Env} {s : State} {m : MethodId} {below : List Frame} {meth : Method} {c : Code} {D : va_G} {aC : Nat → Nat} {b L B a : Nat} {xs : Nat → Int32} {cA : ClassId} {M1 : Ms}
set_option maxHeartbeats 8000000 in
theorem law_acts (C_ : lk_C D aC cL_law 12 (some .boolean) p s m #[Value.ref b] meth c) (hr : meth.sig.returnType = ret) (hM0 : M1.1 0 = 0) (hArr : ArrOfT s cA .long) (hX : va_X b L xs s s.heap) (hbl : b < s.heap.size) (hL : L ≤ 260) (ha : a ∉ LA B) (hA : s.heap.size ≤ a) : ∀ (n k : Nat), k + n = 28 → ∀ (acts : Nat), acts ≤ k → ∀ (Z : Zst) (Q : Nat → Ms) (f : Nat → Int64), LInv M1 Z Q f acts → ∀ (H : Heap) (locs : List Loc) (ls : Array Slot), oI D aC B (fun q => s.heap.size ≤ q) (wasE cA a 64 f) s.heap H locs Z k → lv_has ls 12 [(6, .int (jI (k : Int))), (4, .long (snM M1)), (3, .int (jI (acts : Int))), (2, .ref a), (1, .ref B), (0, .ref b)] → W p l e room_1 s m #[Value.ref b] below meth c H locs 600000 7302250 (lw_Z below #[Value.ref b] s) (F0 m 70 ls []) := by
  have hf : 8 ≤ room_1.frames ∧ 304 ≤ room_1.locals := ⟨by decide, by decide⟩
  have hf9 : 9 ≤ room_1.frames ∧ 343 ≤ room_1.locals := ⟨by decide, by decide⟩
  have hfp : 2 ≤ room_1.frames ∧ 61 ≤ room_1.locals := ⟨by decide, by decide⟩
  have hcs : 600000 ≤ room_1.cells ∧ 7302250 ≤ room_1.slots := ⟨Nat.le_refl _, Nat.le_refl _⟩
  intro n
  induction n with
  | zero =>
    intro k hk acts hak Z Q f hLI H locs ls hI hl
    refine lv_iload C_.1 C_.2.1 dL_law_70 (lv_at hl 0 rfl) ?_
    refine lv_bipush (v := jI 28) C_.1 C_.2.1 dL_law_72 (by decide) ?_
    refine lj_ge (tgt := 403) C_.1 C_.2.1 ⟨by omega, by omega⟩ ⟨by decide, by decide⟩ dL_law_74 (by decide) (fun _ => ?_) (fun q => by omega)
    refine lv_aload_n C_.1 C_.2.1 dL_law_403 rfl (lv_at hl 3 rfl) ?_
    refine lv_iload_n C_.1 C_.2.1 dL_law_404 rfl (lv_at hl 2 rfl) ?_
    refine lv_aload_n C_.1 C_.2.1 dL_law_405 rfl (lv_at hl 4 rfl) ?_
    refine lk_seen C_ hf9 hcs hI hl.1 (Nat.le_of_ble_eq_true rfl) dL_law_406 (fun H locs hI => ?_)
    refine lk_wst C_ (by decide) hArr ha hA hI (i := acts) (by omega) dL_law_409 (fun H locs hI => ?_)
    refine lv_aload_n C_.1 C_.2.1 dL_law_410 rfl (lv_at hl 4 rfl) ?_
    refine lk_one (idx := 89) (n := 1) (As := [.ref B]) C_ (met_refused hI.2.2.1 (by omega)) wl_602 wl_603 wl_604 rfl rfl rfl ⟨rfl, by decide, by decide, by decide +kernel⟩ ⟨Nat.le_of_ble_eq_true rfl, Nat.le_of_ble_eq_true rfl⟩ rfl hcs hI hl.1 (Nat.le_of_ble_eq_true rfl) dL_law_411 (fun H locs hI => ?_)
    refine lj_if_ne (tgt := 419) C_.1 C_.2.1 ⟨by decide, by decide⟩ dL_law_414 (by decide) (fun _ => ?_) (fun q => by omega)
    refine lv_iconst (v := jI 0) C_.1 C_.2.1 dL_law_419 rfl ?_
    refine lv_istore (lv' := [(6, .int (jI 0)), (4, .long (snM M1)), (3, .int (jI (acts : Int))), (2, .ref a), (1, .ref B), (0, .ref b)]) C_.1 C_.2.1 dL_law_420 hl (by decide) rfl (fun ls hl => ?_)
    have hfs := hLI.seen
    exact law_undo C_ hr hM0 hArr (by omega) hfs (min 4 (acts + 1)) 0 (by omega) Z hLI.1 hLI.2.1 hLI.2.2.2.1 H locs ls hI (lv_sub hl [0, 1, 2, 3, 4] rfl)
  | succ n ih =>
    intro k hk acts hak Z Q f hLI H locs ls hI hl
    have hz := hI.2.2.1
    have hd := hLI.2.2.2.2.1
    have p353 : ∀ (v : Int) (Z1 : Zst) (H : Heap) (locs : List Loc) (ls : Array Slot), actOK Z v Z1 → oI D aC B (fun q => s.heap.size ≤ q) (wasE cA a 64 (vp_updL f acts (sn Z))) s.heap H locs Z1 (k + 1) → lv_has ls 12 [(9, .int (jI (zCnt Z 16))), (6, .int (jI (k : Int))), (4, .long (snM M1)), (3, .int (jI (acts : Int))), (2, .ref a), (1, .ref B), (0, .ref b)] → W p l e room_1 s m #[Value.ref b] below meth c H locs 600000 7302250 (lw_Z below #[Value.ref b] s) (F0 m 353 ls [.int (jI v)]) := by
      intro v Z1 H locs ls hok hI hl
      have hv := hok.1
      rcases hok.2 with ⟨h0, hZ⟩ | ⟨h0, -⟩
      · rw [hZ] at hI
        refine lv_istore (lv' := [(11, .int (jI v)), (9, .int (jI (zCnt Z 16))), (6, .int (jI (k : Int))), (4, .long (snM M1)), (3, .int (jI (acts : Int))), (2, .ref a), (1, .ref B), (0, .ref b)]) C_.1 C_.2.1 dL_law_353 hl (by decide) rfl (fun ls hl => ?_)
        refine lv_iload C_.1 C_.2.1 dL_law_355 (lv_at hl 0 rfl) ?_
        refine lj_if_ge (tgt := 384) C_.1 C_.2.1 hv dL_law_357 (by decide) (fun q => by omega) (fun _ => ?_)
        refine lv_aload_n C_.1 C_.2.1 dL_law_360 rfl (lv_at hl 6 rfl) ?_
        refine lv_bipush (v := jI 16) C_.1 C_.2.1 dL_law_361 (by decide) ?_
        refine lk_count C_ hf hcs hI ⟨by decide, by decide⟩ hl.1 (Nat.le_of_ble_eq_true rfl) dL_law_363 (fun H locs hI => ?_)
        refine lv_iload C_.1 C_.2.1 dL_law_366 (lv_at hl 1 rfl) ?_
        refine lv_icmp_ne (tgt := 382) C_.1 C_.2.1 dL_law_368 (by decide) (fun q => absurd rfl q) (fun _ => ?_)
        refine lv_aload_n C_.1 C_.2.1 dL_law_371 rfl (lv_at hl 6 rfl) ?_
        refine lk_seen C_ hf9 hcs hI hl.1 (Nat.le_of_ble_eq_true rfl) dL_law_372 (fun H locs hI => ?_)
        refine lv_aload_n C_.1 C_.2.1 dL_law_375 rfl (lv_at hl 5 rfl) ?_
        refine lv_iload_n C_.1 C_.2.1 dL_law_376 rfl (lv_at hl 4 rfl) ?_
        refine lk_wld C_ (by decide) hArr hI (i := acts) (by omega) dL_law_377 ?_
        rw [show vp_updL f acts (sn Z) acts = sn Z from if_pos rfl]
        refine W.lcmp C_.1 C_.2.1 dL_law_378 ?_
        rw [lg_cmp_s]
        refine lj_if_eq (tgt := 384) C_.1 C_.2.1 ⟨by decide, by decide⟩ dL_law_379 (by decide) (fun _ => ?_) (fun q => by omega)
        refine lv_iload_n C_.1 C_.2.1 dL_law_384 rfl (lv_at hl 4 rfl) ?_
        refine lv_iload C_.1 C_.2.1 dL_law_385 (lv_at hl 0 rfl) ?_
        refine lj_if_ge (tgt := 394) C_.1 C_.2.1 hv dL_law_387 (by decide) (fun q => by omega) (fun _ => ?_)
        refine lv_iconst (v := jI 0) C_.1 C_.2.1 dL_law_390 rfl ?_
        refine lv_goto (tgt := 395) C_.1 C_.2.1 dL_law_391 (by decide) ?_
        refine lj_add (v := (acts : Int)) C_.1 C_.2.1 (by omega) dL_law_395 ?_
        refine lv_istore_n (lv' := [(3, .int (jI (acts : Int))), (11, .int (jI v)), (9, .int (jI (zCnt Z 16))), (6, .int (jI (k : Int))), (4, .long (snM M1)), (2, .ref a), (1, .ref B), (0, .ref b)]) C_.1 C_.2.1 dL_law_396 rfl hl (by decide) rfl (fun ls hl => ?_)
        refine lv_iinc (v := jI ((k + 1 : Nat) : Int)) (lv' := [(6, .int (jI ((k + 1 : Nat) : Int))), (3, .int (jI (acts : Int))), (11, .int (jI v)), (9, .int (jI (zCnt Z 16))), (4, .long (snM M1)), (2, .ref a), (1, .ref B), (0, .ref b)]) C_.1 C_.2.1 dL_law_397 hl (k := 3) rfl (jI_s k) (by decide) rfl (fun ls hl => ?_)
        refine lv_goto (tgt := 70) C_.1 C_.2.1 dL_law_400 (by decide) ?_
        exact ih (k + 1) (by omega) acts (by omega) Z _ _ hLI.stay H locs ls hI (lv_sub hl [0, 4, 1, 5, 6, 7] rfl)
      · refine lv_istore (lv' := [(11, .int (jI v)), (9, .int (jI (zCnt Z 16))), (6, .int (jI (k : Int))), (4, .long (snM M1)), (3, .int (jI (acts : Int))), (2, .ref a), (1, .ref B), (0, .ref b)]) C_.1 C_.2.1 dL_law_353 hl (by decide) rfl (fun ls hl => ?_)
        refine lv_iload C_.1 C_.2.1 dL_law_355 (lv_at hl 0 rfl) ?_
        refine lj_if_ge (tgt := 384) C_.1 C_.2.1 hv dL_law_357 (by decide) (fun _ => ?_) (fun q => by omega)
        refine lv_iload_n C_.1 C_.2.1 dL_law_384 rfl (lv_at hl 4 rfl) ?_
        refine lv_iload C_.1 C_.2.1 dL_law_385 (lv_at hl 0 rfl) ?_
        refine lj_if_ge (tgt := 394) C_.1 C_.2.1 hv dL_law_387 (by decide) (fun _ => ?_) (fun q => by omega)
        refine lv_iconst (v := jI 1) C_.1 C_.2.1 dL_law_394 rfl ?_
        refine lj_add (v := ((acts + 1 : Nat) : Int)) C_.1 C_.2.1 (by omega) dL_law_395 ?_
        refine lv_istore_n (lv' := [(3, .int (jI ((acts + 1 : Nat) : Int))), (11, .int (jI v)), (9, .int (jI (zCnt Z 16))), (6, .int (jI (k : Int))), (4, .long (snM M1)), (2, .ref a), (1, .ref B), (0, .ref b)]) C_.1 C_.2.1 dL_law_396 rfl hl (by decide) rfl (fun ls hl => ?_)
        refine lv_iinc (v := jI ((k + 1 : Nat) : Int)) (lv' := [(6, .int (jI ((k + 1 : Nat) : Int))), (3, .int (jI ((acts + 1 : Nat) : Int))), (11, .int (jI v)), (9, .int (jI (zCnt Z 16))), (4, .long (snM M1)), (2, .ref a), (1, .ref B), (0, .ref b)]) C_.1 C_.2.1 dL_law_397 hl (k := 3) rfl (jI_s k) (by decide) rfl (fun ls hl => ?_)
        refine lv_goto (tgt := 70) C_.1 C_.2.1 dL_law_400 (by decide) ?_
        exact ih (k + 1) (by omega) (acts + 1) (by omega) Z1 _ _ (hLI.step h0 hok) H locs ls hI (lv_sub hl [0, 4, 1, 5, 6, 7] rfl)
    refine lv_iload C_.1 C_.2.1 dL_law_70 (lv_at hl 0 rfl) ?_
    refine lv_bipush (v := jI 28) C_.1 C_.2.1 dL_law_72 (by decide) ?_
    refine lj_ge (tgt := 403) C_.1 C_.2.1 ⟨by omega, by omega⟩ ⟨by decide, by decide⟩ dL_law_74 (by decide) (fun q => by omega) (fun _ => ?_)
    refine lv_aload_n C_.1 C_.2.1 dL_law_77 rfl (lv_at hl 5 rfl) ?_
    refine lv_iload C_.1 C_.2.1 dL_law_78 (lv_at hl 0 rfl) ?_
    refine lk_drawn C_ hfp hcs hX hbl hL (by omega) hI hl.1 (Nat.le_of_ble_eq_true rfl) dL_law_80 (fun x H locs hI => ?_)
    refine lv_istore (lv' := [(7, .int x), (6, .int (jI (k : Int))), (4, .long (snM M1)), (3, .int (jI (acts : Int))), (2, .ref a), (1, .ref B), (0, .ref b)]) C_.1 C_.2.1 dL_law_83 hl (by decide) rfl (fun ls hl => ?_)
    refine lv_iload C_.1 C_.2.1 dL_law_85 (lv_at hl 0 rfl) ?_
    refine lv_bipush (v := jI 13) C_.1 C_.2.1 dL_law_87 (by decide) ?_
    refine lk_part C_ hfp hcs hI (by decide) (by decide) hl.1 (Nat.le_of_ble_eq_true rfl) dL_law_89 (fun r1 H locs h0r1 h1r1 hI => ?_)
    refine lv_istore (lv' := [(8, .int (jI r1)), (7, .int x), (6, .int (jI (k : Int))), (4, .long (snM M1)), (3, .int (jI (acts : Int))), (2, .ref a), (1, .ref B), (0, .ref b)]) C_.1 C_.2.1 dL_law_92 hl (by decide) rfl (fun ls hl => ?_)
    refine lv_aload_n C_.1 C_.2.1 dL_law_94 rfl (lv_at hl 5 rfl) ?_
    refine lv_iload_n C_.1 C_.2.1 dL_law_95 rfl (lv_at hl 4 rfl) ?_
    refine lv_aload_n C_.1 C_.2.1 dL_law_96 rfl (lv_at hl 6 rfl) ?_
    refine lk_seen C_ hf9 hcs hI hl.1 (Nat.le_of_ble_eq_true rfl) dL_law_97 (fun H locs hI => ?_)
    refine lk_wst C_ (by decide) hArr ha hA hI (i := acts) (by omega) dL_law_100 (fun H locs hI => ?_)
    refine lv_aload_n C_.1 C_.2.1 dL_law_101 rfl (lv_at hl 6 rfl) ?_
    refine lv_bipush (v := jI 16) C_.1 C_.2.1 dL_law_102 (by decide) ?_
    refine lk_count C_ hf hcs hI ⟨by decide, by decide⟩ hl.1 (Nat.le_of_ble_eq_true rfl) dL_law_104 (fun H locs hI => ?_)
    refine lv_istore (lv' := [(9, .int (jI (zCnt Z 16))), (8, .int (jI r1)), (7, .int x), (6, .int (jI (k : Int))), (4, .long (snM M1)), (3, .int (jI (acts : Int))), (2, .ref a), (1, .ref B), (0, .ref b)]) C_.1 C_.2.1 dL_law_107 hl (by decide) rfl (fun ls hl => ?_)
    refine lv_iload C_.1 C_.2.1 dL_law_109 (lv_at hl 2 rfl) ?_
    refine lv_iconst (v := jI 4) C_.1 C_.2.1 dL_law_111 rfl ?_
    refine lv_ishr C_.1 C_.2.1 dL_law_112 ?_
    refine lv_bipush (v := jI 8) C_.1 C_.2.1 dL_law_113 (by decide) ?_
    refine lk_part C_ hfp hcs hI (by decide) (by decide) hl.1 (Nat.le_of_ble_eq_true rfl) dL_law_115 (fun r2 H locs h0r2 h1r2 hI => ?_)
    refine lv_istore (lv' := [(10, .int (jI r2)), (9, .int (jI (zCnt Z 16))), (8, .int (jI r1)), (7, .int x), (6, .int (jI (k : Int))), (4, .long (snM M1)), (3, .int (jI (acts : Int))), (2, .ref a), (1, .ref B), (0, .ref b)]) C_.1 C_.2.1 dL_law_118 hl (by decide) rfl (fun ls hl => ?_)
    refine lv_iload C_.1 C_.2.1 dL_law_120 (lv_at hl 2 rfl) ?_
    refine lv_iconst (v := jI 5) C_.1 C_.2.1 dL_law_122 rfl ?_
    refine lj_ge (tgt := 161) C_.1 C_.2.1 ⟨by omega, by omega⟩ ⟨by decide, by decide⟩ dL_law_123 (by decide) (fun q0 => ?_) (fun q0 => ?_)
    · refine lv_iload C_.1 C_.2.1 dL_law_161 (lv_at hl 2 rfl) ?_
      refine lv_iconst (v := jI 5) C_.1 C_.2.1 dL_law_163 rfl ?_
      refine lj_ne (tgt := 176) C_.1 C_.2.1 ⟨by omega, by omega⟩ ⟨by decide, by decide⟩ dL_law_164 (by decide) (fun q0 => ?_) (fun q0 => ?_)
      · refine lv_iload C_.1 C_.2.1 dL_law_176 (lv_at hl 2 rfl) ?_
        refine lv_bipush (v := jI 6) C_.1 C_.2.1 dL_law_178 (by decide) ?_
        refine lj_ne (tgt := 202) C_.1 C_.2.1 ⟨by omega, by omega⟩ ⟨by decide, by decide⟩ dL_law_180 (by decide) (fun q0 => ?_) (fun q0 => ?_)
        · refine lv_iload C_.1 C_.2.1 dL_law_202 (lv_at hl 2 rfl) ?_
          refine lv_bipush (v := jI 7) C_.1 C_.2.1 dL_law_204 (by decide) ?_
          refine lj_ne (tgt := 225) C_.1 C_.2.1 ⟨by omega, by omega⟩ ⟨by decide, by decide⟩ dL_law_206 (by decide) (fun q0 => ?_) (fun q0 => ?_)
          · refine lv_iload C_.1 C_.2.1 dL_law_225 (lv_at hl 2 rfl) ?_
            refine lv_bipush (v := jI 8) C_.1 C_.2.1 dL_law_227 (by decide) ?_
            refine lj_ne (tgt := 248) C_.1 C_.2.1 ⟨by omega, by omega⟩ ⟨by decide, by decide⟩ dL_law_229 (by decide) (fun q0 => ?_) (fun q0 => ?_)
            · refine lv_iload C_.1 C_.2.1 dL_law_248 (lv_at hl 2 rfl) ?_
              refine lv_bipush (v := jI 9) C_.1 C_.2.1 dL_law_250 (by decide) ?_
              refine lj_ne (tgt := 271) C_.1 C_.2.1 ⟨by omega, by omega⟩ ⟨by decide, by decide⟩ dL_law_252 (by decide) (fun q0 => ?_) (fun q0 => ?_)
              · refine lv_iload C_.1 C_.2.1 dL_law_271 (lv_at hl 2 rfl) ?_
                refine lv_bipush (v := jI 10) C_.1 C_.2.1 dL_law_273 (by decide) ?_
                refine lj_ne (tgt := 296) C_.1 C_.2.1 ⟨by omega, by omega⟩ ⟨by decide, by decide⟩ dL_law_275 (by decide) (fun q0 => ?_) (fun q0 => ?_)
                · refine lv_iload C_.1 C_.2.1 dL_law_296 (lv_at hl 2 rfl) ?_
                  refine lv_bipush (v := jI 11) C_.1 C_.2.1 dL_law_298 (by decide) ?_
                  refine lj_ne (tgt := 319) C_.1 C_.2.1 ⟨by omega, by omega⟩ ⟨by decide, by decide⟩ dL_law_300 (by decide) (fun q0 => ?_) (fun q0 => ?_)
                  · refine lv_iload C_.1 C_.2.1 dL_law_319 (lv_at hl 3 rfl) ?_
                    refine lv_iconst (v := jI 4) C_.1 C_.2.1 dL_law_321 rfl ?_
                    refine lv_ishr C_.1 C_.2.1 dL_law_322 ?_
                    refine lv_iconst (v := jI 2) C_.1 C_.2.1 dL_law_323 rfl ?_
                    refine lk_part C_ hfp hcs hI (by decide) (by decide) hl.1 (Nat.le_of_ble_eq_true rfl) dL_law_324 (fun r3 H locs h0r3 h1r3 hI => ?_)
                    refine lj_if_ne (tgt := 337) C_.1 C_.2.1 ⟨by omega, by omega⟩ dL_law_327 (by decide) (fun q0 => ?_) (fun q0 => ?_)
                    · refine lv_aload_n C_.1 C_.2.1 dL_law_337 rfl (lv_at hl 8 rfl) ?_
                      refine lv_iload C_.1 C_.2.1 dL_law_338 (lv_at hl 3 rfl) ?_
                      refine lv_iconst (v := jI 5) C_.1 C_.2.1 dL_law_340 rfl ?_
                      refine lv_ishr C_.1 C_.2.1 dL_law_341 ?_
                      refine lv_bipush (v := jI 30) C_.1 C_.2.1 dL_law_342 (by decide) ?_
                      refine lk_part C_ hfp hcs hI (by decide) (by decide) hl.1 (Nat.le_of_ble_eq_true rfl) dL_law_344 (fun r4 H locs h0r4 h1r4 hI => ?_)
                      refine lv_bipush (v := jI 15) C_.1 C_.2.1 dL_law_347 (by decide) ?_
                      refine lj_sub (v := (r4 - 15)) C_.1 C_.2.1 rfl dL_law_349 ?_
                      refine lk_correct C_ hf hcs hI ⟨by omega, by omega⟩ hl.1 (Nat.le_of_ble_eq_true rfl) dL_law_350 (fun H locs hI => ?_)
                      exact p353 _ _ H locs ls (a_cor hz hd) (hI.mono (by omega) (by omega)) (lv_sub hl [1, 4, 5, 6, 7, 8, 9] rfl)
                    · refine lv_aload_n C_.1 C_.2.1 dL_law_330 rfl (lv_at hl 8 rfl) ?_
                      refine lk_restore C_ hf hcs hI hl.1 (Nat.le_of_ble_eq_true rfl) dL_law_331 (fun H locs hI => ?_)
                      refine lv_goto (tgt := 353) C_.1 C_.2.1 dL_law_334 (by decide) ?_
                      exact p353 _ _ H locs ls (a_res hz hd) (hI.mono (by omega) (by omega)) (lv_sub hl [1, 4, 5, 6, 7, 8, 9] rfl)
                  · refine lv_aload_n C_.1 C_.2.1 dL_law_303 rfl (lv_at hl 8 rfl) ?_
                    refine lv_iload C_.1 C_.2.1 dL_law_304 (lv_at hl 3 rfl) ?_
                    refine lv_iconst (v := jI 4) C_.1 C_.2.1 dL_law_306 rfl ?_
                    refine lv_ishr C_.1 C_.2.1 dL_law_307 ?_
                    refine lv_bipush (v := jI 20) C_.1 C_.2.1 dL_law_308 (by decide) ?_
                    refine lk_part C_ hfp hcs hI (by decide) (by decide) hl.1 (Nat.le_of_ble_eq_true rfl) dL_law_310 (fun r3 H locs h0r3 h1r3 hI => ?_)
                    refine lk_run C_ hf hcs hI (by omega) ⟨by omega, by omega⟩ hl.1 (Nat.le_of_ble_eq_true rfl) dL_law_313 (fun H locs hI => ?_)
                    refine lv_goto (tgt := 353) C_.1 C_.2.1 dL_law_316 (by decide) ?_
                    exact p353 _ _ H locs ls (a_run hz hd) (hI.mono (by omega) (by omega)) (lv_sub hl [1, 4, 5, 6, 7, 8, 9] rfl)
                · refine lv_aload_n C_.1 C_.2.1 dL_law_278 rfl (lv_at hl 8 rfl) ?_
                  refine lv_iload C_.1 C_.2.1 dL_law_279 (lv_at hl 3 rfl) ?_
                  refine lv_iconst (v := jI 4) C_.1 C_.2.1 dL_law_281 rfl ?_
                  refine lv_ishr C_.1 C_.2.1 dL_law_282 ?_
                  refine lv_bipush (v := jI 9) C_.1 C_.2.1 dL_law_283 (by decide) ?_
                  refine lk_part C_ hfp hcs hI (by decide) (by decide) hl.1 (Nat.le_of_ble_eq_true rfl) dL_law_285 (fun r3 H locs h0r3 h1r3 hI => ?_)
                  refine lv_iconst (v := jI 1) C_.1 C_.2.1 dL_law_288 rfl ?_
                  refine lj_add (v := (r3 + 1)) C_.1 C_.2.1 rfl dL_law_289 ?_
                  refine lk_setDrift C_ hf hcs hI ⟨by omega, by omega⟩ hl.1 (Nat.le_of_ble_eq_true rfl) dL_law_290 (fun H locs hI => ?_)
                  refine lv_goto (tgt := 353) C_.1 C_.2.1 dL_law_293 (by decide) ?_
                  exact p353 _ _ H locs ls (a_dri (by omega) hz hd) (hI.mono (by omega) (by omega)) (lv_sub hl [1, 4, 5, 6, 7, 8, 9] rfl)
              · refine lv_aload_n C_.1 C_.2.1 dL_law_255 rfl (lv_at hl 8 rfl) ?_
                refine lv_iload C_.1 C_.2.1 dL_law_256 (lv_at hl 3 rfl) ?_
                refine lv_iconst (v := jI 4) C_.1 C_.2.1 dL_law_258 rfl ?_
                refine lv_ishr C_.1 C_.2.1 dL_law_259 ?_
                refine lv_bipush (v := jI 11) C_.1 C_.2.1 dL_law_260 (by decide) ?_
                refine lk_part C_ hfp hcs hI (by decide) (by decide) hl.1 (Nat.le_of_ble_eq_true rfl) dL_law_262 (fun r3 H locs h0r3 h1r3 hI => ?_)
                refine lk_setLoading C_ hf hcs hI ⟨by omega, by omega⟩ hl.1 (Nat.le_of_ble_eq_true rfl) dL_law_265 (fun H locs hI => ?_)
                refine lv_goto (tgt := 353) C_.1 C_.2.1 dL_law_268 (by decide) ?_
                exact p353 _ _ H locs ls (a_loa hz hd) (hI.mono (by omega) (by omega)) (lv_sub hl [1, 4, 5, 6, 7, 8, 9] rfl)
            · refine lv_aload_n C_.1 C_.2.1 dL_law_232 rfl (lv_at hl 8 rfl) ?_
              refine lv_iload C_.1 C_.2.1 dL_law_233 (lv_at hl 3 rfl) ?_
              refine lv_iconst (v := jI 4) C_.1 C_.2.1 dL_law_235 rfl ?_
              refine lv_ishr C_.1 C_.2.1 dL_law_236 ?_
              refine lv_bipush (v := jI 23) C_.1 C_.2.1 dL_law_237 (by decide) ?_
              refine lk_part C_ hfp hcs hI (by decide) (by decide) hl.1 (Nat.le_of_ble_eq_true rfl) dL_law_239 (fun r3 H locs h0r3 h1r3 hI => ?_)
              refine lk_setWindow C_ hf hcs hI ⟨by omega, by omega⟩ hl.1 (Nat.le_of_ble_eq_true rfl) dL_law_242 (fun H locs hI => ?_)
              refine lv_goto (tgt := 353) C_.1 C_.2.1 dL_law_245 (by decide) ?_
              exact p353 _ _ H locs ls (a_win hz hd) (hI.mono (by omega) (by omega)) (lv_sub hl [1, 4, 5, 6, 7, 8, 9] rfl)
          · refine lv_aload_n C_.1 C_.2.1 dL_law_209 rfl (lv_at hl 8 rfl) ?_
            refine lv_iload C_.1 C_.2.1 dL_law_210 (lv_at hl 3 rfl) ?_
            refine lv_iconst (v := jI 4) C_.1 C_.2.1 dL_law_212 rfl ?_
            refine lv_ishr C_.1 C_.2.1 dL_law_213 ?_
            refine lv_bipush (v := jI 6) C_.1 C_.2.1 dL_law_214 (by decide) ?_
            refine lk_part C_ hfp hcs hI (by decide) (by decide) hl.1 (Nat.le_of_ble_eq_true rfl) dL_law_216 (fun r3 H locs h0r3 h1r3 hI => ?_)
            refine lk_setComparers C_ hf hcs hI ⟨by omega, by omega⟩ hl.1 (Nat.le_of_ble_eq_true rfl) dL_law_219 (fun H locs hI => ?_)
            refine lv_goto (tgt := 353) C_.1 C_.2.1 dL_law_222 (by decide) ?_
            exact p353 _ _ H locs ls (a_cmp hz hd) (hI.mono (by omega) (by omega)) (lv_sub hl [1, 4, 5, 6, 7, 8, 9] rfl)
        · refine lv_aload_n C_.1 C_.2.1 dL_law_183 rfl (lv_at hl 8 rfl) ?_
          refine lv_iload C_.1 C_.2.1 dL_law_184 (lv_at hl 0 rfl) ?_
          refine lv_iload C_.1 C_.2.1 dL_law_186 (lv_at hl 3 rfl) ?_
          refine lv_bipush (v := jI 7) C_.1 C_.2.1 dL_law_188 (by decide) ?_
          refine lv_ishr C_.1 C_.2.1 dL_law_190 ?_
          refine lv_bipush (v := jI 60) C_.1 C_.2.1 dL_law_191 (by decide) ?_
          refine lk_part C_ hfp hcs hI (by decide) (by decide) hl.1 (Nat.le_of_ble_eq_true rfl) dL_law_193 (fun r3 H locs h0r3 h1r3 hI => ?_)
          refine lk_move C_ hf hcs hI ⟨by omega, by omega⟩ ⟨by omega, by omega⟩ hl.1 (Nat.le_of_ble_eq_true rfl) dL_law_196 (fun H locs hI => ?_)
          refine lv_goto (tgt := 353) C_.1 C_.2.1 dL_law_199 (by decide) ?_
          exact p353 _ _ H locs ls (a_mov hz hd) (hI.mono (by omega) (by omega)) (lv_sub hl [1, 4, 5, 6, 7, 8, 9] rfl)
      · refine lv_aload_n C_.1 C_.2.1 dL_law_167 rfl (lv_at hl 8 rfl) ?_
        refine lv_iload C_.1 C_.2.1 dL_law_168 (lv_at hl 0 rfl) ?_
        refine lk_cancel C_ hf hcs hI ⟨by omega, by omega⟩ hl.1 (Nat.le_of_ble_eq_true rfl) dL_law_170 (fun H locs hI => ?_)
        refine lv_goto (tgt := 353) C_.1 C_.2.1 dL_law_173 (by decide) ?_
        exact p353 _ _ H locs ls (a_can hz hd) (hI.mono (by omega) (by omega)) (lv_sub hl [1, 4, 5, 6, 7, 8, 9] rfl)
    · refine lv_aload_n C_.1 C_.2.1 dL_law_126 rfl (lv_at hl 8 rfl) ?_
      refine lv_iload C_.1 C_.2.1 dL_law_127 (lv_at hl 3 rfl) ?_
      refine lv_iconst (v := jI 4) C_.1 C_.2.1 dL_law_129 rfl ?_
      refine lv_ishr C_.1 C_.2.1 dL_law_130 ?_
      refine lv_bipush (v := jI 60) C_.1 C_.2.1 dL_law_131 (by decide) ?_
      refine lk_part C_ hfp hcs hI (by decide) (by decide) hl.1 (Nat.le_of_ble_eq_true rfl) dL_law_133 (fun r3 H locs h0r3 h1r3 hI => ?_)
      refine lv_iload C_.1 C_.2.1 dL_law_136 (lv_at hl 3 rfl) ?_
      refine lv_bipush (v := jI 10) C_.1 C_.2.1 dL_law_138 (by decide) ?_
      refine lv_ishr C_.1 C_.2.1 dL_law_140 ?_
      refine lv_bipush (v := jI 9) C_.1 C_.2.1 dL_law_141 (by decide) ?_
      refine lk_part C_ hfp hcs hI (by decide) (by decide) hl.1 (Nat.le_of_ble_eq_true rfl) dL_law_143 (fun r4 H locs h0r4 h1r4 hI => ?_)
      refine lv_iload C_.1 C_.2.1 dL_law_146 (lv_at hl 3 rfl) ?_
      refine lv_bipush (v := jI 14) C_.1 C_.2.1 dL_law_148 (by decide) ?_
      refine lv_ishr C_.1 C_.2.1 dL_law_150 ?_
      refine lv_iconst (v := jI 5) C_.1 C_.2.1 dL_law_151 rfl ?_
      refine lk_part C_ hfp hcs hI (by decide) (by decide) hl.1 (Nat.le_of_ble_eq_true rfl) dL_law_152 (fun r5 H locs h0r5 h1r5 hI => ?_)
      refine lk_set C_ hf hcs hI ⟨by omega, by omega⟩ ⟨by omega, by omega⟩ ⟨by omega, by omega⟩ hl.1 (Nat.le_of_ble_eq_true rfl) dL_law_155 (fun H locs hI => ?_)
      refine lv_goto (tgt := 353) C_.1 C_.2.1 dL_law_158 (by decide) ?_
      exact p353 _ _ H locs ls (a_set hz hd) (hI.mono (by omega) (by omega)) (lv_sub hl [1, 4, 5, 6, 7, 8, 9] rfl)
end LAWW
