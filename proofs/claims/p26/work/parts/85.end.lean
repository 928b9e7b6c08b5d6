/-! ===== the law: what was recorded is undone; the end ===== -/
section LAWW
variable {p : Program} {l : Launch} {e : Env} {s : State} {m : MethodId} {below : List Frame} {meth : Method} {c : Code} {D : va_G} {aC : Nat → Nat} {b L B a : Nat} {xs : Nat → Int32} {cA : ClassId} {M1 : Ms}
/-- from where all is undone that is left -/
theorem law_rest (C_ : lk_C D aC cL_law 12 (some .boolean) p s m #[Value.ref b] meth c) (hr : meth.sig.returnType = ret) (hM0 : M1.1 0 = 0) {f : Nat → Int64} {j : Nat} : ∀ (n : Nat) (Z : Zst), n ≤ 4 → Z.2.2.1.length = n → Z.2.1 = some M1 → ∀ (H : Heap) (locs : List Loc) (ls : Array Slot), oI D aC B (fun q => s.heap.size ≤ q) (wasE cA a 64 f) s.heap H locs Z j → lv_has ls 12 [(4, .long (snM M1)), (1, .ref B)] → W p l e room_1 s m #[Value.ref b] below meth c H locs 600000 7302250 (lw_Z below #[Value.ref b] s) (F0 m 484 ls []) := by
  have hf : 8 ≤ room_1.frames ∧ 304 ≤ room_1.locals := ⟨by decide, by decide⟩
  have hf9 : 9 ≤ room_1.frames ∧ 343 ≤ room_1.locals := ⟨by decide, by decide⟩
  have hfp : 2 ≤ room_1.frames ∧ 61 ≤ room_1.locals := ⟨by decide, by decide⟩
  have hcs : 600000 ≤ room_1.cells ∧ 7302250 ≤ room_1.slots := ⟨Nat.le_refl _, Nat.le_refl _⟩
  have hlocks := C_.2.2.2.2.2.2.1
  intro n
  induction n with
  | zero =>
    intro Z hn4 hn hs H locs ls hI hl
    have h0 : Z.2.2.1 = [] := List.eq_nil_of_length_eq_zero hn
    refine lv_aload_n C_.1 C_.2.1 dL_law_484 rfl (lv_at hl 1 rfl) ?_
    refine lv_bipush (v := jI 16) C_.1 C_.2.1 dL_law_485 (by decide) ?_
    refine lk_count C_ hf hcs hI ⟨by decide, by decide⟩ hl.1 (Nat.le_of_ble_eq_true rfl) dL_law_487 (fun H locs hI => ?_)
    rw [zCnt_16, hn]
    refine lj_if_le (tgt := 502) C_.1 C_.2.1 ⟨by omega, by omega⟩ dL_law_490 (by decide) (fun _ => ?_) (fun q => by omega)
    refine lv_aload_n C_.1 C_.2.1 dL_law_502 rfl (lv_at hl 1 rfl) ?_
    refine lq_undo C_ hf hcs (zUnd_0 h0) hI hl.1 (Nat.le_of_ble_eq_true rfl) dL_law_503 (fun H locs hI => ?_)
    refine lv_sipush (v := jI (-1005)) C_.1 C_.2.1 dL_law_506 (by decide) ?_
    refine lj_ne (tgt := 543) C_.1 C_.2.1 ⟨by decide, by decide⟩ ⟨by decide, by decide⟩ dL_law_509 (by decide) (fun q => by omega) (fun _ => ?_)
    refine lv_aload_n C_.1 C_.2.1 dL_law_512 rfl (lv_at hl 1 rfl) ?_
    have hq : zRes Z = (0, M1, Z.2.1, push Z.2.2.1 Z.1, Z.2.2.2) := by unfold zRes; rw [hs, ← hM0]
    refine lq_restore C_ hf hcs hq hI hl.1 (Nat.le_of_ble_eq_true rfl) dL_law_513 (fun H locs hI => ?_)
    refine lj_if_ne (tgt := 543) C_.1 C_.2.1 ⟨by decide, by decide⟩ dL_law_516 (by decide) (fun q => by omega) (fun _ => ?_)
    refine lv_aload_n C_.1 C_.2.1 dL_law_519 rfl (lv_at hl 1 rfl) ?_
    refine lk_seen C_ hf9 hcs hI hl.1 (Nat.le_of_ble_eq_true rfl) dL_law_520 (fun H locs hI => ?_)
    refine lv_lload C_.1 C_.2.1 dL_law_523 (lv_at hl 0 rfl) ?_
    rw [show sn (M1, Z.2.1, push Z.2.2.1 Z.1, Z.2.2.2) = snM M1 from sn_M]
    refine W.lcmp C_.1 C_.2.1 dL_law_525 ?_
    rw [lg_cmp_s]
    refine lj_if_ne (tgt := 543) C_.1 C_.2.1 ⟨by decide, by decide⟩ dL_law_526 (by decide) (fun q => by omega) (fun _ => ?_)
    refine lv_aload_n C_.1 C_.2.1 dL_law_529 rfl (lv_at hl 1 rfl) ?_
    refine lv_bipush (v := jI 16) C_.1 C_.2.1 dL_law_530 (by decide) ?_
    refine lk_count C_ hf hcs hI ⟨by decide, by decide⟩ hl.1 (Nat.le_of_ble_eq_true rfl) dL_law_532 (fun H locs hI => ?_)
    rw [zCnt_16, show (push Z.2.2.1 Z.1).length = 1 by rw [h0]; rfl]
    refine lv_iconst (v := jI 1) C_.1 C_.2.1 dL_law_535 rfl ?_
    refine lj_ne (tgt := 543) C_.1 C_.2.1 ⟨by omega, by omega⟩ ⟨by decide, by decide⟩ dL_law_536 (by decide) (fun q => by omega) (fun _ => ?_)
    refine lv_iconst (v := 1) C_.1 C_.2.1 dL_law_539 (by decide) ?_
    refine lv_goto (tgt := 544) C_.1 C_.2.1 dL_law_540 (by decide) ?_
    refine va_forget hI.2.1.2.2 ?_
    exact lw_ret C_.1 C_.2.1 hr hlocks dL_law_544
  | succ n ih =>
    intro Z hn4 hn hs H locs ls hI hl
    refine lv_aload_n C_.1 C_.2.1 dL_law_484 rfl (lv_at hl 1 rfl) ?_
    refine lv_bipush (v := jI 16) C_.1 C_.2.1 dL_law_485 (by decide) ?_
    refine lk_count C_ hf hcs hI ⟨by decide, by decide⟩ hl.1 (Nat.le_of_ble_eq_true rfl) dL_law_487 (fun H locs hI => ?_)
    have hlen := hn
    rw [zCnt_16, hn]
    refine lj_if_le (tgt := 502) C_.1 C_.2.1 ⟨by omega, by omega⟩ dL_law_490 (by decide) (fun q => by omega) (fun _ => ?_)
    refine lv_aload_n C_.1 C_.2.1 dL_law_493 rfl (lv_at hl 1 rfl) ?_
    obtain ⟨N, hq⟩ := zUnd_c (Z := Z) (fun q => by rw [q] at hn; cases hn)
    have hd : Z.2.2.1.dropLast.length = n := by rw [List.length_dropLast, hn]; rfl
    rw [hd] at hq
    refine lq_undo C_ hf hcs hq hI hl.1 (Nat.le_of_ble_eq_true rfl) dL_law_494 (fun H locs hI => ?_)
    refine lj_if_ge (tgt := 484) C_.1 C_.2.1 ⟨by omega, by omega⟩ dL_law_497 (by decide) (fun _ => ?_) (fun q => by omega)
    exact ih (N, Z.2.1, Z.2.2.1.dropLast, Z.2.2.2) (by omega) hd hs H locs ls hI hl
/-- each state that was is there again -/
theorem law_undo (C_ : lk_C D aC cL_law 12 (some .boolean) p s m #[Value.ref b] meth c) (hr : meth.sig.returnType = ret) (hM0 : M1.1 0 = 0) (hArr : ArrOfT s cA .long) {f : Nat → Int64} {Q : Nat → Ms} {acts j : Nat} (hacts : acts ≤ 28) (hfs : ∀ i, i < acts + 1 → f i = snM (Q (i + 1))) : ∀ (g k : Nat), k + g = min 4 (acts + 1) → ∀ (Z : Zst), Z.1 = Q (acts + 1 - k) → Z.2.1 = some M1 → Z.2.2.1 = win Q (acts + 1 - k) g → ∀ (H : Heap) (locs : List Loc) (ls : Array Slot), oI D aC B (fun q => s.heap.size ≤ q) (wasE cA a 64 f) s.heap H locs Z j → lv_has ls 12 [(6, .int (jI (k : Int))), (4, .long (snM M1)), (3, .int (jI (acts : Int))), (2, .ref a), (1, .ref B)] → W p l e room_1 s m #[Value.ref b] below meth c H locs 600000 7302250 (lw_Z below #[Value.ref b] s) (F0 m 422 ls []) := by
  have hf : 8 ≤ room_1.frames ∧ 304 ≤ room_1.locals := ⟨by decide, by decide⟩
  have hf9 : 9 ≤ room_1.frames ∧ 343 ≤ room_1.locals := ⟨by decide, by decide⟩
  have hfp : 2 ≤ room_1.frames ∧ 61 ≤ room_1.locals := ⟨by decide, by decide⟩
  have hcs : 600000 ≤ room_1.cells ∧ 7302250 ≤ room_1.slots := ⟨Nat.le_refl _, Nat.le_refl _⟩
  intro g
  induction g with
  | zero =>
    intro k hk Z h1 hs hw H locs ls hI hl
    refine lv_aload_n C_.1 C_.2.1 dL_law_422 rfl (lv_at hl 4 rfl) ?_
    refine lv_bipush (v := jI 16) C_.1 C_.2.1 dL_law_423 (by decide) ?_
    refine lk_count C_ hf hcs hI ⟨by decide, by decide⟩ hl.1 (Nat.le_of_ble_eq_true rfl) dL_law_425 (fun H locs hI => ?_)
    have hln : Z.2.2.1.length = 0 := by rw [hw, win_len]
    rw [zCnt_16, hln]
    refine lj_if_le (tgt := 484) C_.1 C_.2.1 ⟨by omega, by omega⟩ dL_law_428 (by decide) (fun _ => ?_) (fun q => by omega)
    exact law_rest C_ hr hM0 0 Z (by omega) hln hs H locs ls hI (lv_sub hl [1, 4] rfl)
  | succ g ih =>
    intro k hk Z h1 hs hw H locs ls hI hl
    refine lv_aload_n C_.1 C_.2.1 dL_law_422 rfl (lv_at hl 4 rfl) ?_
    refine lv_bipush (v := jI 16) C_.1 C_.2.1 dL_law_423 (by decide) ?_
    refine lk_count C_ hf hcs hI ⟨by decide, by decide⟩ hl.1 (Nat.le_of_ble_eq_true rfl) dL_law_425 (fun H locs hI => ?_)
    have hln : Z.2.2.1.length = g + 1 := by rw [hw, win_len]
    rw [zCnt_16, hln]
    refine lj_if_le (tgt := 484) C_.1 C_.2.1 ⟨by omega, by omega⟩ dL_law_428 (by decide) (fun q => by omega) (fun _ => ?_)
    refine lv_iload C_.1 C_.2.1 dL_law_431 (lv_at hl 0 rfl) ?_
    refine lv_iload_n C_.1 C_.2.1 dL_law_433 rfl (lv_at hl 2 rfl) ?_
    refine lj_ge (tgt := 484) C_.1 C_.2.1 ⟨by omega, by omega⟩ ⟨by omega, by omega⟩ dL_law_434 (by decide) (fun q => ?_) (fun q => ?_)
    · exact law_rest C_ hr hM0 (g + 1) Z (by omega) hln hs H locs ls hI (lv_sub hl [1, 4] rfl)
    refine lv_aload_n C_.1 C_.2.1 dL_law_437 rfl (lv_at hl 4 rfl) ?_
    refine lv_bipush (v := jI 16) C_.1 C_.2.1 dL_law_438 (by decide) ?_
    refine lk_count C_ hf hcs hI ⟨by decide, by decide⟩ hl.1 (Nat.le_of_ble_eq_true rfl) dL_law_440 (fun H locs hI => ?_)
    rw [zCnt_16, hln]
    refine lv_istore (lv' := [(7, .int (jI ((g + 1 : Nat) : Int))), (6, .int (jI (k : Int))), (4, .long (snM M1)), (3, .int (jI (acts : Int))), (2, .ref a), (1, .ref B)]) C_.1 C_.2.1 dL_law_443 hl (by decide) rfl (fun ls hl => ?_)
    refine lv_iload C_.1 C_.2.1 dL_law_445 (lv_at hl 1 rfl) ?_
    refine lv_iconst (v := jI 3) C_.1 C_.2.1 dL_law_447 rfl ?_
    refine lj_gt (tgt := 476) C_.1 C_.2.1 ⟨by omega, by omega⟩ ⟨by decide, by decide⟩ dL_law_448 (by decide) (fun q => by omega) (fun _ => ?_)
    refine lv_aload_n C_.1 C_.2.1 dL_law_451 rfl (lv_at hl 5 rfl) ?_
    refine lk_seen C_ hf9 hcs hI hl.1 (Nat.le_of_ble_eq_true rfl) dL_law_452 (fun H locs hI => ?_)
    refine lv_aload_n C_.1 C_.2.1 dL_law_455 rfl (lv_at hl 4 rfl) ?_
    refine lv_iload_n C_.1 C_.2.1 dL_law_456 rfl (lv_at hl 3 rfl) ?_
    refine lv_iload C_.1 C_.2.1 dL_law_457 (lv_at hl 1 rfl) ?_
    refine lj_sub (v := ((acts - k : Nat) : Int)) C_.1 C_.2.1 (by omega) dL_law_459 ?_
    refine lk_wld C_ (by decide) hArr hI (i := acts - k) (by omega) dL_law_460 ?_
    rw [show f (acts - k) = sn Z by rw [hfs _ (by omega), sn_M, h1, show acts - k + 1 = acts + 1 - k by omega]]
    refine W.lcmp C_.1 C_.2.1 dL_law_461 ?_
    rw [lg_cmp_s]
    refine lj_if_ne (tgt := 476) C_.1 C_.2.1 ⟨by decide, by decide⟩ dL_law_462 (by decide) (fun q => by omega) (fun _ => ?_)
    refine lv_aload_n C_.1 C_.2.1 dL_law_465 rfl (lv_at hl 5 rfl) ?_
    refine lq_undo C_ hf hcs (zUnd_w hw) hI hl.1 (Nat.le_of_ble_eq_true rfl) dL_law_466 (fun H locs hI => ?_)
    refine lv_iload C_.1 C_.2.1 dL_law_469 (lv_at hl 0 rfl) ?_
    refine lv_iconst (v := jI 1) C_.1 C_.2.1 dL_law_471 rfl ?_
    refine lj_sub (v := (g : Int)) C_.1 C_.2.1 (by omega) dL_law_472 ?_
    refine lj_eq (tgt := 478) C_.1 C_.2.1 ⟨by omega, by omega⟩ ⟨by omega, by omega⟩ dL_law_473 (by decide) (fun _ => ?_) (fun q => by omega)
    refine lv_iinc (v := jI ((k + 1 : Nat) : Int)) (lv' := [(6, .int (jI ((k + 1 : Nat) : Int))), (7, .int (jI ((g + 1 : Nat) : Int))), (4, .long (snM M1)), (3, .int (jI (acts : Int))), (2, .ref a), (1, .ref B)]) C_.1 C_.2.1 dL_law_478 hl (k := 1) rfl (jI_s k) (by decide) rfl (fun ls hl => ?_)
    refine lv_goto (tgt := 422) C_.1 C_.2.1 dL_law_481 (by decide) ?_
    exact ih (k + 1) (by omega) (Q (acts + 1 - k - 1), Z.2.1, win Q (acts + 1 - k - 1) g, Z.2.2.2) (by show Q (acts + 1 - k - 1) = _; rw [show acts + 1 - k - 1 = acts + 1 - (k + 1) by omega]) hs (by show win Q (acts + 1 - k - 1) g = _; rw [show acts + 1 - k - 1 = acts + 1 - (k + 1) by omega]) H locs ls hI (lv_sub hl [0, 2, 3, 4, 5] rfl)
end LAWW
