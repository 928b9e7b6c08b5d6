/-! ===== texts ===== -/
theorem byt_of {w : Int64} {b : Nat → Int} (h : (List.range 8).all (fun i => decide (((w >>> ((jI (56 - 8 * (i : Int))).toInt64 &&& 63)) &&& 255).toInt32 = jI (b i)) && (decide (0 ≤ b i) && decide (b i ≤ 255))) = true) : byt w b := by
  intro i hi
  have := List.all_eq_true.mp h i (List.mem_range.mpr hi)
  simpa only [Bool.and_eq_true, decide_eq_true_eq] using this
section LTD
variable {p : Program} {l : Launch} {e : Env} {R : Room} {s : State} {m : MethodId} {args : Array Value} {below : List Frame} {meth : Method} {c : Code} {H : Heap} {locs : List Loc} {cells slots : Nat} {Qw : State → Prop} {cc : ByteArray} {nL : Nat} {rt : Option FieldType} {pc : Nat} {ls : Array Slot} {rest : List Value} {D : va_G} {aC : Nat → Nat} {B : Nat} {j : Nat} {A0 : Nat → Prop} {E : Heap → Prop} {H0 : Heap}
theorem lk_told (C_ : lk_C D aC cc nL rt p s m args meth c) (hf : 10 ≤ R.frames ∧ 385 ≤ R.locals) {a b2 : Int64} {ba bb : Nat → Int} {n1 : Nat} {x : Int} (ha : byt a ba) (hb : byt b2 bb) (hx : -2000 ≤ x ∧ x ≤ 2000) (hn1 : n1 ≤ 900) (hr : kRun (ttr (tyl ba 8 0) 0 (ttr (tyl bb 8 0) n1 [(1, 0, 0, 0, x), (22, 16, 0, 0, if 0 < x then 1 else 0), (22, 2, 0, 0, if 0 < x then x else 0)])) kZ0 = true)
    (hS : va_S A0 H0 H locs) (hA : ∀ q, H.size ≤ q → A0 q) (hcs : cells + 218 ≤ R.cells ∧ slots + 1933 ≤ R.slots) (hls : ls.size = nL) (hrm : (rest.map fun v => v.category).sum ≤ 8) (hd : decode cc pc = .ok (.invokestatic 113, 3))
    (kk : ∀ (H1 : Heap) (locs1 : List Loc), H.size ≤ H1.size → (∀ q : Nat, q < H.size → H1[q]? = H[q]?) → va_S A0 H0 H1 locs1 → W p l e R s m args below meth c H1 locs1 (cells + 218) (slots + 1933) Qw (F0 m (pc + 3) ls (.int (jI x) :: rest))) : W p l e R s m args below meth c H locs cells slots Qw (F0 m pc ls (.long b2 :: .long a :: rest)) := by
  refine va_calli (lk_stat (n := 2) (As := [.long a, .long b2]) (rest := rest) (P := fun H1 => H1.size = H.size) C_ (met_told (B := H.size) ha hb hx hn1 hr) rfl wl_650 wl_651 wl_652 rfl rfl rfl ⟨rfl, by decide, by decide, by decide +kernel⟩ ⟨Nat.le_trans (Nat.le_of_ble_eq_true rfl) hf.1, Nat.le_trans (Nat.le_of_ble_eq_true rfl) hf.2⟩ rfl hls hrm hd hcs) hS (fun q _ h => hA q h) (fun q h => hA q h) (fun r u t H1 locs1 ht hvm hp hB hz1 hk1 hS1 => ?_)
  have hp : r = jI x := hp
  subst hp
  exact kk H1 locs1 hz1 (fun q hq => hk1 q hq (show ¬ H.size ≤ q by omega)) hS1
end LTD
theorem tb_0 : kRun (ttr (tyl (kg [0, 0, 49, 48, 48, 48, 48, 48]) 8 0) 0 (ttr (tyl (kg [0, 0, 0, 0, 0, 0, 0, 0]) 8 0) 6 [(1, 0, 0, 0, -1105), (22, 16, 0, 0, if 0 < (-1105 : Int) then 1 else 0), (22, 2, 0, 0, if 0 < (-1105 : Int) then -1105 else 0)])) kZ0 = true := by decide +kernel
theorem ta_0 : byt 54083036655664 (kg [0, 0, 49, 48, 48, 48, 48, 48]) := byt_of (by decide +kernel)
theorem tc_0 : byt 0 (kg [0, 0, 0, 0, 0, 0, 0, 0]) := byt_of (by decide +kernel)
theorem tb_1 : kRun (ttr (tyl (kg [0, 0, 0, 0, 0, 0, 48, 49]) 8 0) 0 (ttr (tyl (kg [0, 0, 0, 0, 0, 0, 0, 0]) 8 0) 2 [(1, 0, 0, 0, -1101), (22, 16, 0, 0, if 0 < (-1101 : Int) then 1 else 0), (22, 2, 0, 0, if 0 < (-1101 : Int) then -1101 else 0)])) kZ0 = true := by decide +kernel
theorem ta_1 : byt 12337 (kg [0, 0, 0, 0, 0, 0, 48, 49]) := byt_of (by decide +kernel)
theorem tc_1 : byt 0 (kg [0, 0, 0, 0, 0, 0, 0, 0]) := byt_of (by decide +kernel)
theorem tb_2 : kRun (ttr (tyl (kg [0, 0, 0, 0, 0, 53, 47, 48]) 8 0) 0 (ttr (tyl (kg [0, 0, 0, 0, 0, 0, 0, 0]) 8 0) 3 [(1, 0, 0, 0, -1102), (22, 16, 0, 0, if 0 < (-1102 : Int) then 1 else 0), (22, 2, 0, 0, if 0 < (-1102 : Int) then -1102 else 0)])) kZ0 = true := by decide +kernel
theorem ta_2 : byt 3485488 (kg [0, 0, 0, 0, 0, 53, 47, 48]) := byt_of (by decide +kernel)
theorem tc_2 : byt 0 (kg [0, 0, 0, 0, 0, 0, 0, 0]) := byt_of (by decide +kernel)
theorem tb_3 : kRun (ttr (tyl (kg [0, 53, 47, 49, 48, 48, 48, 48]) 8 0) 0 (ttr (tyl (kg [0, 0, 0, 0, 0, 0, 0, 0]) 8 0) 7 [(1, 0, 0, 0, -1106), (22, 16, 0, 0, if 0 < (-1106 : Int) then 1 else 0), (22, 2, 0, 0, if 0 < (-1106 : Int) then -1106 else 0)])) kZ0 = true := by decide +kernel
theorem ta_3 : byt 14970062074032176 (kg [0, 53, 47, 49, 48, 48, 48, 48]) := byt_of (by decide +kernel)
theorem tc_3 : byt 0 (kg [0, 0, 0, 0, 0, 0, 0, 0]) := byt_of (by decide +kernel)
theorem tb_4 : kRun (ttr (tyl (kg [0, 0, 0, 0, 0, 53, 33, 48]) 8 0) 0 (ttr (tyl (kg [0, 0, 0, 0, 0, 0, 0, 0]) 8 0) 3 [(1, 0, 0, 0, -1102), (22, 16, 0, 0, if 0 < (-1102 : Int) then 1 else 0), (22, 2, 0, 0, if 0 < (-1102 : Int) then -1102 else 0)])) kZ0 = true := by decide +kernel
theorem ta_4 : byt 3481904 (kg [0, 0, 0, 0, 0, 53, 33, 48]) := byt_of (by decide +kernel)
theorem tc_4 : byt 0 (kg [0, 0, 0, 0, 0, 0, 0, 0]) := byt_of (by decide +kernel)
theorem tb_5 : kRun (ttr (tyl (kg [0, 0, 0, 0, 0, 53, 33, 52]) 8 0) 0 (ttr (tyl (kg [0, 0, 0, 0, 0, 0, 0, 0]) 8 0) 3 [(1, 0, 0, 0, -1102), (22, 16, 0, 0, if 0 < (-1102 : Int) then 1 else 0), (22, 2, 0, 0, if 0 < (-1102 : Int) then -1102 else 0)])) kZ0 = true := by decide +kernel
theorem ta_5 : byt 3481908 (kg [0, 0, 0, 0, 0, 53, 33, 52]) := byt_of (by decide +kernel)
theorem tc_5 : byt 0 (kg [0, 0, 0, 0, 0, 0, 0, 0]) := byt_of (by decide +kernel)
theorem tb_6 : kRun (ttr (tyl (kg [0, 0, 0, 53, 33, 49, 47, 50]) 8 0) 0 (ttr (tyl (kg [0, 0, 0, 0, 0, 0, 0, 0]) 8 0) 5 [(1, 0, 0, 0, -1103), (22, 16, 0, 0, if 0 < (-1103 : Int) then 1 else 0), (22, 2, 0, 0, if 0 < (-1103 : Int) then -1103 else 0)])) kZ0 = true := by decide +kernel
theorem ta_6 : byt 228190138162 (kg [0, 0, 0, 53, 33, 49, 47, 50]) := byt_of (by decide +kernel)
theorem tc_6 : byt 0 (kg [0, 0, 0, 0, 0, 0, 0, 0]) := byt_of (by decide +kernel)
theorem tb_7 : kRun (ttr (tyl (kg [0, 0, 0, 0, 0, 0, 53, 59]) 8 0) 0 (ttr (tyl (kg [0, 0, 0, 0, 0, 0, 0, 0]) 8 0) 2 [(1, 0, 0, 0, -1102), (22, 16, 0, 0, if 0 < (-1102 : Int) then 1 else 0), (22, 2, 0, 0, if 0 < (-1102 : Int) then -1102 else 0)])) kZ0 = true := by decide +kernel
theorem ta_7 : byt 13627 (kg [0, 0, 0, 0, 0, 0, 53, 59]) := byt_of (by decide +kernel)
theorem tc_7 : byt 0 (kg [0, 0, 0, 0, 0, 0, 0, 0]) := byt_of (by decide +kernel)
theorem tb_8 : kRun (ttr (tyl (kg [0, 0, 0, 0, 0, 0, 53, 47]) 8 0) 0 (ttr (tyl (kg [0, 0, 0, 0, 0, 0, 0, 0]) 8 0) 2 [(1, 0, 0, 0, -1102), (22, 16, 0, 0, if 0 < (-1102 : Int) then 1 else 0), (22, 2, 0, 0, if 0 < (-1102 : Int) then -1102 else 0)])) kZ0 = true := by decide +kernel
theorem ta_8 : byt 13615 (kg [0, 0, 0, 0, 0, 0, 53, 47]) := byt_of (by decide +kernel)
theorem tc_8 : byt 0 (kg [0, 0, 0, 0, 0, 0, 0, 0]) := byt_of (by decide +kernel)
theorem tb_9 : kRun (ttr (tyl (kg [0, 0, 0, 0, 0, 0, 0, 0]) 8 0) 0 (ttr (tyl (kg [0, 0, 0, 0, 0, 0, 0, 0]) 8 0) 0 [(1, 0, 0, 0, -1100), (22, 16, 0, 0, if 0 < (-1100 : Int) then 1 else 0), (22, 2, 0, 0, if 0 < (-1100 : Int) then -1100 else 0)])) kZ0 = true := by decide +kernel
theorem ta_9 : byt 0 (kg [0, 0, 0, 0, 0, 0, 0, 0]) := byt_of (by decide +kernel)
theorem tc_9 : byt 0 (kg [0, 0, 0, 0, 0, 0, 0, 0]) := byt_of (by decide +kernel)
theorem tb_10 : kRun (ttr (tyl (kg [57, 57, 57, 57, 57, 47, 57, 57]) 8 0) 0 (ttr (tyl (kg [0, 0, 0, 0, 57, 57, 33, 51]) 8 0) 8 [(1, 0, 0, 0, 1), (22, 16, 0, 0, if 0 < (1 : Int) then 1 else 0), (22, 2, 0, 0, if 0 < (1 : Int) then 1 else 0)])) kZ0 = true := by decide +kernel
theorem ta_10 : byt 4123389851769715001 (kg [57, 57, 57, 57, 57, 47, 57, 57]) := byt_of (by decide +kernel)
theorem tc_10 : byt 960045363 (kg [0, 0, 0, 0, 57, 57, 33, 51]) := byt_of (by decide +kernel)
theorem tb_11 : kRun (ttr (tyl (kg [0, 48, 59, 49, 59, 50, 33, 49]) 8 0) 0 (ttr (tyl (kg [0, 0, 0, 0, 0, 0, 0, 0]) 8 0) 7 [(1, 0, 0, 0, 3), (22, 16, 0, 0, if 0 < (3 : Int) then 1 else 0), (22, 2, 0, 0, if 0 < (3 : Int) then 3 else 0)])) kZ0 = true := by decide +kernel
theorem ta_11 : byt 13575881514688817 (kg [0, 48, 59, 49, 59, 50, 33, 49]) := byt_of (by decide +kernel)
theorem tc_11 : byt 0 (kg [0, 0, 0, 0, 0, 0, 0, 0]) := byt_of (by decide +kernel)
theorem tb_12 : kRun (ttr (tyl (kg [0, 0, 0, 0, 0, 0, 0, 120]) 8 0) 0 (ttr (tyl (kg [0, 0, 0, 0, 0, 0, 0, 0]) 8 0) 1 [(1, 0, 0, 0, -1100), (22, 16, 0, 0, if 0 < (-1100 : Int) then 1 else 0), (22, 2, 0, 0, if 0 < (-1100 : Int) then -1100 else 0)])) kZ0 = true := by decide +kernel
theorem ta_12 : byt 120 (kg [0, 0, 0, 0, 0, 0, 0, 120]) := byt_of (by decide +kernel)
theorem tc_12 : byt 0 (kg [0, 0, 0, 0, 0, 0, 0, 0]) := byt_of (by decide +kernel)
theorem tb_13 : kRun (ttr (tyl (kg [0, 0, 0, 0, 0, 0, 55, 33]) 8 0) 0 (ttr (tyl (kg [0, 0, 0, 0, 0, 0, 0, 0]) 8 0) 2 [(1, 0, 0, 0, -1102), (22, 16, 0, 0, if 0 < (-1102 : Int) then 1 else 0), (22, 2, 0, 0, if 0 < (-1102 : Int) then -1102 else 0)])) kZ0 = true := by decide +kernel
theorem ta_13 : byt 14113 (kg [0, 0, 0, 0, 0, 0, 55, 33]) := byt_of (by decide +kernel)
theorem tc_13 : byt 0 (kg [0, 0, 0, 0, 0, 0, 0, 0]) := byt_of (by decide +kernel)
theorem tb_14 : kRun (ttr (tyl (kg [0, 0, 0, 55, 47, 49, 59, 59]) 8 0) 0 (ttr (tyl (kg [0, 0, 0, 0, 0, 0, 0, 0]) 8 0) 5 [(1, 0, 0, 0, -1104), (22, 16, 0, 0, if 0 < (-1104 : Int) then 1 else 0), (22, 2, 0, 0, if 0 < (-1104 : Int) then -1104 else 0)])) kZ0 = true := by decide +kernel
theorem ta_14 : byt 237014956859 (kg [0, 0, 0, 55, 47, 49, 59, 59]) := byt_of (by decide +kernel)
theorem tc_14 : byt 0 (kg [0, 0, 0, 0, 0, 0, 0, 0]) := byt_of (by decide +kernel)
theorem tb_15 : kRun (ttr (tyl (kg [0, 0, 0, 0, 0, 49, 32, 50]) 8 0) 0 (ttr (tyl (kg [0, 0, 0, 0, 0, 0, 0, 0]) 8 0) 3 [(1, 0, 0, 0, -1101), (22, 16, 0, 0, if 0 < (-1101 : Int) then 1 else 0), (22, 2, 0, 0, if 0 < (-1101 : Int) then -1101 else 0)])) kZ0 = true := by decide +kernel
theorem ta_15 : byt 3219506 (kg [0, 0, 0, 0, 0, 49, 32, 50]) := byt_of (by decide +kernel)
theorem tc_15 : byt 0 (kg [0, 0, 0, 0, 0, 0, 0, 0]) := byt_of (by decide +kernel)
theorem ta_x : byt 16109186168594738 (kg [0, 57, 59, 56, 47, 51, 33, 50]) := byt_of (by decide +kernel)
set_option maxRecDepth 1000000 in
theorem tb_x : kRun (ttr (tyl (kg [0, 57, 59, 56, 47, 51, 33, 50]) 8 0) 0 (tr_tx1 (lpE 53 7 (tr_tx2 [])))) kZ0 = true := by decide +kernel
set_option maxRecDepth 100000 in
set_option maxHeartbeats 20000000 in
theorem met_texts {l : Launch} {D : va_G} {aC : Nat → Nat} {B : Nat} : Met l yL_texts (lWs yL_texts cL_texts 2 (some .boolean)) (rmL 10 3706 32861) (va_Pc [] (fun U => U.heap.size = B ∧ cx_V D aC U)) (qI (fun x => x = jI 1) (fun _ => True) (fun q => B ≤ q)) 3706 32861 (fun q => B ≤ q) := by
  refine lk_met (P := fun H => H.size = B) (by decide +kernel) rfl (Nat.le_of_ble_eq_true rfl) (fun p e s m args below meth c ls C_ hl hB => ?_)
  have hl : lv_has ls 2 [] := hl
  have hf : 8 ≤ (rmL 10 3706 32861).frames ∧ 304 ≤ (rmL 10 3706 32861).locals := ⟨by decide, by decide⟩
  have hf5 : 5 ≤ (rmL 10 3706 32861).frames ∧ 304 ≤ (rmL 10 3706 32861).locals := ⟨by decide, by decide⟩
  have hf9 : 9 ≤ (rmL 10 3706 32861).frames ∧ 345 ≤ (rmL 10 3706 32861).locals := ⟨by decide, by decide⟩
  have hf10 : 10 ≤ (rmL 10 3706 32861).frames ∧ 385 ≤ (rmL 10 3706 32861).locals := ⟨by decide, by decide⟩
  have hcs : 3706 ≤ (rmL 10 3706 32861).cells ∧ 32861 ≤ (rmL 10 3706 32861).slots := ⟨Nat.le_refl _, Nat.le_refl _⟩
  have hS : va_S (fun q => B ≤ q) s.heap s.heap [] := va_S.rf
  have hz0 : B ≤ s.heap.size := by rw [hB]; exact Nat.le_refl _
  refine lv_ldc2 (own := R_law) (v := 54083036655664) C_.1 C_.2.1 C_.2.2.2.2.1 (C_.2.2.2.2.2.1 _ wl_649) dL_texts_0 ?_
  refine lv_lconst (v := 0) C_.1 C_.2.1 dL_texts_3 rfl ?_
  refine lk_told C_ hf10 ta_0 tc_0 ⟨by decide, by decide⟩ (by decide) tb_0 hS (fun q hq => Nat.le_trans hz0 hq) ⟨Nat.le_of_ble_eq_true rfl, Nat.le_of_ble_eq_true rfl⟩ hl.1 (Nat.le_of_ble_eq_true rfl) dL_texts_4 (fun H locs hz1 hk1 hS => ?_)
  have hz0 := Nat.le_trans hz0 hz1
  refine lv_sipush (v := jI (-1105)) C_.1 C_.2.1 dL_texts_7 (by decide) ?_
  refine lj_ne (tgt := 117) C_.1 C_.2.1 ⟨by decide, by decide⟩ ⟨by decide, by decide⟩ dL_texts_10 (by decide) (fun q => by omega) (fun _ => ?_)
  refine lv_ldc2 (own := R_law) (v := 12337) C_.1 C_.2.1 C_.2.2.2.2.1 (C_.2.2.2.2.2.1 _ wl_695) dL_texts_13 ?_
  refine lv_lconst (v := 0) C_.1 C_.2.1 dL_texts_16 rfl ?_
  refine lk_told C_ hf10 ta_1 tc_1 ⟨by decide, by decide⟩ (by decide) tb_1 hS (fun q hq => Nat.le_trans hz0 hq) ⟨Nat.le_of_ble_eq_true rfl, Nat.le_of_ble_eq_true rfl⟩ hl.1 (Nat.le_of_ble_eq_true rfl) dL_texts_17 (fun H locs hz1 hk1 hS => ?_)
  have hz0 := Nat.le_trans hz0 hz1
  refine lv_sipush (v := jI (-1101)) C_.1 C_.2.1 dL_texts_20 (by decide) ?_
  refine lj_ne (tgt := 117) C_.1 C_.2.1 ⟨by decide, by decide⟩ ⟨by decide, by decide⟩ dL_texts_23 (by decide) (fun q => by omega) (fun _ => ?_)
  refine lv_ldc2 (own := R_law) (v := 3485488) C_.1 C_.2.1 C_.2.2.2.2.1 (C_.2.2.2.2.2.1 _ wl_696) dL_texts_26 ?_
  refine lv_lconst (v := 0) C_.1 C_.2.1 dL_texts_29 rfl ?_
  refine lk_told C_ hf10 ta_2 tc_2 ⟨by decide, by decide⟩ (by decide) tb_2 hS (fun q hq => Nat.le_trans hz0 hq) ⟨Nat.le_of_ble_eq_true rfl, Nat.le_of_ble_eq_true rfl⟩ hl.1 (Nat.le_of_ble_eq_true rfl) dL_texts_30 (fun H locs hz1 hk1 hS => ?_)
  have hz0 := Nat.le_trans hz0 hz1
  refine lv_sipush (v := jI (-1102)) C_.1 C_.2.1 dL_texts_33 (by decide) ?_
  refine lj_ne (tgt := 117) C_.1 C_.2.1 ⟨by decide, by decide⟩ ⟨by decide, by decide⟩ dL_texts_36 (by decide) (fun q => by omega) (fun _ => ?_)
  refine lv_ldc2 (own := R_law) (v := 14970062074032176) C_.1 C_.2.1 C_.2.2.2.2.1 (C_.2.2.2.2.2.1 _ wl_697) dL_texts_39 ?_
  refine lv_lconst (v := 0) C_.1 C_.2.1 dL_texts_42 rfl ?_
  refine lk_told C_ hf10 ta_3 tc_3 ⟨by decide, by decide⟩ (by decide) tb_3 hS (fun q hq => Nat.le_trans hz0 hq) ⟨Nat.le_of_ble_eq_true rfl, Nat.le_of_ble_eq_true rfl⟩ hl.1 (Nat.le_of_ble_eq_true rfl) dL_texts_43 (fun H locs hz1 hk1 hS => ?_)
  have hz0 := Nat.le_trans hz0 hz1
  refine lv_sipush (v := jI (-1106)) C_.1 C_.2.1 dL_texts_46 (by decide) ?_
  refine lj_ne (tgt := 117) C_.1 C_.2.1 ⟨by decide, by decide⟩ ⟨by decide, by decide⟩ dL_texts_49 (by decide) (fun q => by omega) (fun _ => ?_)
  refine lv_ldc2 (own := R_law) (v := 3481904) C_.1 C_.2.1 C_.2.2.2.2.1 (C_.2.2.2.2.2.1 _ wl_698) dL_texts_52 ?_
  refine lv_lconst (v := 0) C_.1 C_.2.1 dL_texts_55 rfl ?_
  refine lk_told C_ hf10 ta_4 tc_4 ⟨by decide, by decide⟩ (by decide) tb_4 hS (fun q hq => Nat.le_trans hz0 hq) ⟨Nat.le_of_ble_eq_true rfl, Nat.le_of_ble_eq_true rfl⟩ hl.1 (Nat.le_of_ble_eq_true rfl) dL_texts_56 (fun H locs hz1 hk1 hS => ?_)
  have hz0 := Nat.le_trans hz0 hz1
  refine lv_sipush (v := jI (-1102)) C_.1 C_.2.1 dL_texts_59 (by decide) ?_
  refine lj_ne (tgt := 117) C_.1 C_.2.1 ⟨by decide, by decide⟩ ⟨by decide, by decide⟩ dL_texts_62 (by decide) (fun q => by omega) (fun _ => ?_)
  refine lv_ldc2 (own := R_law) (v := 3481908) C_.1 C_.2.1 C_.2.2.2.2.1 (C_.2.2.2.2.2.1 _ wl_699) dL_texts_65 ?_
  refine lv_lconst (v := 0) C_.1 C_.2.1 dL_texts_68 rfl ?_
  refine lk_told C_ hf10 ta_5 tc_5 ⟨by decide, by decide⟩ (by decide) tb_5 hS (fun q hq => Nat.le_trans hz0 hq) ⟨Nat.le_of_ble_eq_true rfl, Nat.le_of_ble_eq_true rfl⟩ hl.1 (Nat.le_of_ble_eq_true rfl) dL_texts_69 (fun H locs hz1 hk1 hS => ?_)
  have hz0 := Nat.le_trans hz0 hz1
  refine lv_sipush (v := jI (-1102)) C_.1 C_.2.1 dL_texts_72 (by decide) ?_
  refine lj_ne (tgt := 117) C_.1 C_.2.1 ⟨by decide, by decide⟩ ⟨by decide, by decide⟩ dL_texts_75 (by decide) (fun q => by omega) (fun _ => ?_)
  refine lv_ldc2 (own := R_law) (v := 228190138162) C_.1 C_.2.1 C_.2.2.2.2.1 (C_.2.2.2.2.2.1 _ wl_700) dL_texts_78 ?_
  refine lv_lconst (v := 0) C_.1 C_.2.1 dL_texts_81 rfl ?_
  refine lk_told C_ hf10 ta_6 tc_6 ⟨by decide, by decide⟩ (by decide) tb_6 hS (fun q hq => Nat.le_trans hz0 hq) ⟨Nat.le_of_ble_eq_true rfl, Nat.le_of_ble_eq_true rfl⟩ hl.1 (Nat.le_of_ble_eq_true rfl) dL_texts_82 (fun H locs hz1 hk1 hS => ?_)
  have hz0 := Nat.le_trans hz0 hz1
  refine lv_sipush (v := jI (-1103)) C_.1 C_.2.1 dL_texts_85 (by decide) ?_
  refine lj_ne (tgt := 117) C_.1 C_.2.1 ⟨by decide, by decide⟩ ⟨by decide, by decide⟩ dL_texts_88 (by decide) (fun q => by omega) (fun _ => ?_)
  refine lv_ldc2 (own := R_law) (v := 13627) C_.1 C_.2.1 C_.2.2.2.2.1 (C_.2.2.2.2.2.1 _ wl_701) dL_texts_91 ?_
  refine lv_lconst (v := 0) C_.1 C_.2.1 dL_texts_94 rfl ?_
  refine lk_told C_ hf10 ta_7 tc_7 ⟨by decide, by decide⟩ (by decide) tb_7 hS (fun q hq => Nat.le_trans hz0 hq) ⟨Nat.le_of_ble_eq_true rfl, Nat.le_of_ble_eq_true rfl⟩ hl.1 (Nat.le_of_ble_eq_true rfl) dL_texts_95 (fun H locs hz1 hk1 hS => ?_)
  have hz0 := Nat.le_trans hz0 hz1
  refine lv_sipush (v := jI (-1102)) C_.1 C_.2.1 dL_texts_98 (by decide) ?_
  refine lj_ne (tgt := 117) C_.1 C_.2.1 ⟨by decide, by decide⟩ ⟨by decide, by decide⟩ dL_texts_101 (by decide) (fun q => by omega) (fun _ => ?_)
  refine lv_ldc2 (own := R_law) (v := 13615) C_.1 C_.2.1 C_.2.2.2.2.1 (C_.2.2.2.2.2.1 _ wl_702) dL_texts_104 ?_
  refine lv_lconst (v := 0) C_.1 C_.2.1 dL_texts_107 rfl ?_
  refine lk_told C_ hf10 ta_8 tc_8 ⟨by decide, by decide⟩ (by decide) tb_8 hS (fun q hq => Nat.le_trans hz0 hq) ⟨Nat.le_of_ble_eq_true rfl, Nat.le_of_ble_eq_true rfl⟩ hl.1 (Nat.le_of_ble_eq_true rfl) dL_texts_108 (fun H locs hz1 hk1 hS => ?_)
  have hz0 := Nat.le_trans hz0 hz1
  refine lv_sipush (v := jI (-1102)) C_.1 C_.2.1 dL_texts_111 (by decide) ?_
  refine lj_eq (tgt := 119) C_.1 C_.2.1 ⟨by decide, by decide⟩ ⟨by decide, by decide⟩ dL_texts_114 (by decide) (fun _ => ?_) (fun q => by omega)
  refine lv_lconst (v := 0) C_.1 C_.2.1 dL_texts_119 rfl ?_
  refine lv_lconst (v := 0) C_.1 C_.2.1 dL_texts_120 rfl ?_
  refine lk_told C_ hf10 ta_9 tc_9 ⟨by decide, by decide⟩ (by decide) tb_9 hS (fun q hq => Nat.le_trans hz0 hq) ⟨Nat.le_of_ble_eq_true rfl, Nat.le_of_ble_eq_true rfl⟩ hl.1 (Nat.le_of_ble_eq_true rfl) dL_texts_121 (fun H locs hz1 hk1 hS => ?_)
  have hz0 := Nat.le_trans hz0 hz1
  refine lv_sipush (v := jI (-1100)) C_.1 C_.2.1 dL_texts_124 (by decide) ?_
  refine lj_ne (tgt := 206) C_.1 C_.2.1 ⟨by decide, by decide⟩ ⟨by decide, by decide⟩ dL_texts_127 (by decide) (fun q => by omega) (fun _ => ?_)
  refine lv_ldc2 (own := R_law) (v := 4123389851769715001) C_.1 C_.2.1 C_.2.2.2.2.1 (C_.2.2.2.2.2.1 _ wl_703) dL_texts_130 ?_
  refine lv_ldc2 (own := R_law) (v := 960045363) C_.1 C_.2.1 C_.2.2.2.2.1 (C_.2.2.2.2.2.1 _ wl_704) dL_texts_133 ?_
  refine lk_told C_ hf10 ta_10 tc_10 ⟨by decide, by decide⟩ (by decide) tb_10 hS (fun q hq => Nat.le_trans hz0 hq) ⟨Nat.le_of_ble_eq_true rfl, Nat.le_of_ble_eq_true rfl⟩ hl.1 (Nat.le_of_ble_eq_true rfl) dL_texts_136 (fun H locs hz1 hk1 hS => ?_)
  have hz0 := Nat.le_trans hz0 hz1
  refine lv_iconst (v := jI 1) C_.1 C_.2.1 dL_texts_139 rfl ?_
  refine lj_ne (tgt := 206) C_.1 C_.2.1 ⟨by decide, by decide⟩ ⟨by decide, by decide⟩ dL_texts_140 (by decide) (fun q => by omega) (fun _ => ?_)
  refine lv_ldc2 (own := R_law) (v := 13575881514688817) C_.1 C_.2.1 C_.2.2.2.2.1 (C_.2.2.2.2.2.1 _ wl_705) dL_texts_143 ?_
  refine lv_lconst (v := 0) C_.1 C_.2.1 dL_texts_146 rfl ?_
  refine lk_told C_ hf10 ta_11 tc_11 ⟨by decide, by decide⟩ (by decide) tb_11 hS (fun q hq => Nat.le_trans hz0 hq) ⟨Nat.le_of_ble_eq_true rfl, Nat.le_of_ble_eq_true rfl⟩ hl.1 (Nat.le_of_ble_eq_true rfl) dL_texts_147 (fun H locs hz1 hk1 hS => ?_)
  have hz0 := Nat.le_trans hz0 hz1
  refine lv_iconst (v := jI 3) C_.1 C_.2.1 dL_texts_150 rfl ?_
  refine lj_ne (tgt := 206) C_.1 C_.2.1 ⟨by decide, by decide⟩ ⟨by decide, by decide⟩ dL_texts_151 (by decide) (fun q => by omega) (fun _ => ?_)
  refine lv_ldc2 (own := R_law) (v := 120) C_.1 C_.2.1 C_.2.2.2.2.1 (C_.2.2.2.2.2.1 _ wl_706) dL_texts_154 ?_
  refine lv_lconst (v := 0) C_.1 C_.2.1 dL_texts_157 rfl ?_
  refine lk_told C_ hf10 ta_12 tc_12 ⟨by decide, by decide⟩ (by decide) tb_12 hS (fun q hq => Nat.le_trans hz0 hq) ⟨Nat.le_of_ble_eq_true rfl, Nat.le_of_ble_eq_true rfl⟩ hl.1 (Nat.le_of_ble_eq_true rfl) dL_texts_158 (fun H locs hz1 hk1 hS => ?_)
  have hz0 := Nat.le_trans hz0 hz1
  refine lv_sipush (v := jI (-1100)) C_.1 C_.2.1 dL_texts_161 (by decide) ?_
  refine lj_ne (tgt := 206) C_.1 C_.2.1 ⟨by decide, by decide⟩ ⟨by decide, by decide⟩ dL_texts_164 (by decide) (fun q => by omega) (fun _ => ?_)
  refine lv_ldc2 (own := R_law) (v := 14113) C_.1 C_.2.1 C_.2.2.2.2.1 (C_.2.2.2.2.2.1 _ wl_707) dL_texts_167 ?_
  refine lv_lconst (v := 0) C_.1 C_.2.1 dL_texts_170 rfl ?_
  refine lk_told C_ hf10 ta_13 tc_13 ⟨by decide, by decide⟩ (by decide) tb_13 hS (fun q hq => Nat.le_trans hz0 hq) ⟨Nat.le_of_ble_eq_true rfl, Nat.le_of_ble_eq_true rfl⟩ hl.1 (Nat.le_of_ble_eq_true rfl) dL_texts_171 (fun H locs hz1 hk1 hS => ?_)
  have hz0 := Nat.le_trans hz0 hz1
  refine lv_sipush (v := jI (-1102)) C_.1 C_.2.1 dL_texts_174 (by decide) ?_
  refine lj_ne (tgt := 206) C_.1 C_.2.1 ⟨by decide, by decide⟩ ⟨by decide, by decide⟩ dL_texts_177 (by decide) (fun q => by omega) (fun _ => ?_)
  refine lv_ldc2 (own := R_law) (v := 237014956859) C_.1 C_.2.1 C_.2.2.2.2.1 (C_.2.2.2.2.2.1 _ wl_708) dL_texts_180 ?_
  refine lv_lconst (v := 0) C_.1 C_.2.1 dL_texts_183 rfl ?_
  refine lk_told C_ hf10 ta_14 tc_14 ⟨by decide, by decide⟩ (by decide) tb_14 hS (fun q hq => Nat.le_trans hz0 hq) ⟨Nat.le_of_ble_eq_true rfl, Nat.le_of_ble_eq_true rfl⟩ hl.1 (Nat.le_of_ble_eq_true rfl) dL_texts_184 (fun H locs hz1 hk1 hS => ?_)
  have hz0 := Nat.le_trans hz0 hz1
  refine lv_sipush (v := jI (-1104)) C_.1 C_.2.1 dL_texts_187 (by decide) ?_
  refine lj_ne (tgt := 206) C_.1 C_.2.1 ⟨by decide, by decide⟩ ⟨by decide, by decide⟩ dL_texts_190 (by decide) (fun q => by omega) (fun _ => ?_)
  refine lv_ldc2 (own := R_law) (v := 3219506) C_.1 C_.2.1 C_.2.2.2.2.1 (C_.2.2.2.2.2.1 _ wl_709) dL_texts_193 ?_
  refine lv_lconst (v := 0) C_.1 C_.2.1 dL_texts_196 rfl ?_
  refine lk_told C_ hf10 ta_15 tc_15 ⟨by decide, by decide⟩ (by decide) tb_15 hS (fun q hq => Nat.le_trans hz0 hq) ⟨Nat.le_of_ble_eq_true rfl, Nat.le_of_ble_eq_true rfl⟩ hl.1 (Nat.le_of_ble_eq_true rfl) dL_texts_197 (fun H locs hz1 hk1 hS => ?_)
  have hz0 := Nat.le_trans hz0 hz1
  refine lv_sipush (v := jI (-1101)) C_.1 C_.2.1 dL_texts_200 (by decide) ?_
  refine lj_eq (tgt := 208) C_.1 C_.2.1 ⟨by decide, by decide⟩ ⟨by decide, by decide⟩ dL_texts_203 (by decide) (fun _ => ?_) (fun q => by omega)
  obtain ⟨B2, hB2⟩ : ∃ B2, H.size = B2 := ⟨_, rfl⟩
  rw [hB2] at hz0
  refine lk_new C_ hf5 hB2 hS (fun q h => Nat.le_trans hz0 h) (Nat.le_of_ble_eq_true rfl) (Nat.le_of_ble_eq_true rfl) hl.1 (Nat.le_of_ble_eq_true rfl) dL_texts_208 dL_texts_211 dL_texts_212 (fun H locs hO hsz hold hS => ?_)
  refine W.widen (k := 3706) (n := 32861) (Nat.le_of_ble_eq_true rfl) (Nat.le_of_ble_eq_true rfl) ?_
  have hI : oI D aC B2 (fun q => B ≤ q) (fun _ => True) s.heap H locs (eZ kZ0) 0 := ⟨by rw [kZ0_e]; exact hO, hS, ⟨by rw [kZ0_e]; exact Z0_ZI ⟨by decide, by decide⟩ ⟨by decide, by decide⟩, by decide⟩, trivial, stab_t, fun q h => Nat.le_trans hz0 (LA_ge h).1⟩
  have q372 : ∀ (H : Heap) (locs : List Loc) (ls : Array Slot) (z : kZ), kRun (tr_tx2 []) z = true → oI D aC B2 (fun q => B ≤ q) (fun _ => True) s.heap H locs (eZ z) (0 + 1 + 1) → lv_has ls 2 [(0, .ref B2)] → W p l e (rmL 10 3706 32861) s m args below meth c H locs 3706 32861 (MQ below (qI (fun x => x = jI 1) (fun _ => True) (fun q => B ≤ q)) args s 3706 32861 (fun q => B ≤ q)) (F0 m 372 ls []) := by
    intro H locs ls z hr hI hl
    refine lv_aload_n C_.1 C_.2.1 dL_texts_372 rfl (lv_at hl 0 rfl) ?_
    refine lv_bipush (v := jI 49) C_.1 C_.2.1 dL_texts_373 (by decide) ?_
    refine lr_type C_ hf hcs hr hI ⟨by decide, by decide⟩ hl.1 (Nat.le_of_ble_eq_true rfl) dL_texts_375 (fun z H locs hr hI => ?_)
    refine lv_sipush (v := jI (-1003)) C_.1 C_.2.1 dL_texts_378 (by decide) ?_
    refine lj_ne (tgt := 417) C_.1 C_.2.1 ⟨by decide, by decide⟩ ⟨by decide, by decide⟩ dL_texts_381 (by decide) (fun q => by omega) (fun _ => ?_)
    refine lv_aload_n C_.1 C_.2.1 dL_texts_384 rfl (lv_at hl 0 rfl) ?_
    refine lr_setAll C_ hf hcs hr hI hl.1 (Nat.le_of_ble_eq_true rfl) dL_texts_385 (fun z H locs hr hI => ?_)
    refine lv_sipush (v := jI (-1107)) C_.1 C_.2.1 dL_texts_388 (by decide) ?_
    refine lj_ne (tgt := 417) C_.1 C_.2.1 ⟨by decide, by decide⟩ ⟨by decide, by decide⟩ dL_texts_391 (by decide) (fun q => by omega) (fun _ => ?_)
    refine lv_aload_n C_.1 C_.2.1 dL_texts_394 rfl (lv_at hl 0 rfl) ?_
    refine lr_clearText C_ hf hcs hr hI hl.1 (Nat.le_of_ble_eq_true rfl) dL_texts_395 (fun z H locs hr hI => ?_)
    refine lv_bipush (v := jI 60) C_.1 C_.2.1 dL_texts_398 (by decide) ?_
    refine lj_ne (tgt := 417) C_.1 C_.2.1 ⟨by decide, by decide⟩ ⟨by decide, by decide⟩ dL_texts_400 (by decide) (fun q => by omega) (fun _ => ?_)
    refine lv_aload_n C_.1 C_.2.1 dL_texts_403 rfl (lv_at hl 0 rfl) ?_
    refine lr_setAll C_ hf hcs hr hI hl.1 (Nat.le_of_ble_eq_true rfl) dL_texts_404 (fun z H locs hr hI => ?_)
    refine lv_sipush (v := jI (-1100)) C_.1 C_.2.1 dL_texts_407 (by decide) ?_
    refine lj_ne (tgt := 417) C_.1 C_.2.1 ⟨by decide, by decide⟩ ⟨by decide, by decide⟩ dL_texts_410 (by decide) (fun q => by omega) (fun _ => ?_)
    refine lv_iconst (v := jI 1) C_.1 C_.2.1 dL_texts_413 rfl ?_
    refine lv_goto (tgt := 418) C_.1 C_.2.1 dL_texts_414 (by decide) ?_
    exact lk_zend C_ hI.2.1 trivial dL_texts_418
  have lE : ∀ (n k : Nat), k + n = 60 → ∀ (H : Heap) (locs : List Loc) (ls : Array Slot) (z : kZ), kRun (lpE n k (tr_tx2 [])) z = true → oI D aC B2 (fun q => B ≤ q) (fun _ => True) s.heap H locs (eZ z) (0 + 1 + 1) → lv_has ls 2 [(1, .int (jI (k : Int))), (0, .ref B2)] → W p l e (rmL 10 3706 32861) s m args below meth c H locs 3706 32861 (MQ below (qI (fun x => x = jI 1) (fun _ => True) (fun q => B ≤ q)) args s 3706 32861 (fun q => B ≤ q)) (F0 m 346 ls []) := by
    intro n
    induction n with
    | zero =>
      intro k hk H locs ls z hr hI hl
      refine lv_iload_n C_.1 C_.2.1 dL_texts_346 rfl (lv_at hl 0 rfl) ?_
      refine lv_bipush (v := jI 60) C_.1 C_.2.1 dL_texts_347 (by decide) ?_
      refine lj_ge (tgt := 372) C_.1 C_.2.1 ⟨by omega, by omega⟩ ⟨by decide, by decide⟩ dL_texts_349 (by decide) (fun _ => ?_) (fun q => by omega)
      exact q372 H locs ls z hr hI (lv_sub hl [1] rfl)
    | succ n ih =>
      intro k hk H locs ls z hr hI hl
      have hr : kRun ((10, (k : Int), 0, 0, (k : Int) + 1) :: lpE n (k + 1) (tr_tx2 [])) z = true := hr
      refine lv_iload_n C_.1 C_.2.1 dL_texts_346 rfl (lv_at hl 0 rfl) ?_
      refine lv_bipush (v := jI 60) C_.1 C_.2.1 dL_texts_347 (by decide) ?_
      refine lj_ge (tgt := 372) C_.1 C_.2.1 ⟨by omega, by omega⟩ ⟨by decide, by decide⟩ dL_texts_349 (by decide) (fun q => by omega) (fun _ => ?_)
      refine lv_aload_n C_.1 C_.2.1 dL_texts_352 rfl (lv_at hl 1 rfl) ?_
      refine lv_iload_n C_.1 C_.2.1 dL_texts_353 rfl (lv_at hl 0 rfl) ?_
      refine lv_i2c (v := jI (k : Int)) C_.1 C_.2.1 dL_texts_354 (chr_e ⟨by omega, by omega⟩) ?_
      refine lr_type C_ hf hcs hr hI ⟨by omega, by omega⟩ hl.1 (Nat.le_of_ble_eq_true rfl) dL_texts_355 (fun z H locs hr hI => ?_)
      refine lv_iload_n C_.1 C_.2.1 dL_texts_358 rfl (lv_at hl 0 rfl) ?_
      refine lv_iconst (v := jI 1) C_.1 C_.2.1 dL_texts_359 rfl ?_
      refine lj_add (v := ((k : Int) + 1)) C_.1 C_.2.1 rfl dL_texts_360 ?_
      refine lj_eq (tgt := 366) C_.1 C_.2.1 ⟨by omega, by omega⟩ ⟨by omega, by omega⟩ dL_texts_361 (by decide) (fun _ => ?_) (fun q => by omega)
      refine lv_iinc (v := jI ((k + 1 : Nat) : Int)) (lv' := [(1, .int (jI ((k + 1 : Nat) : Int))), (0, .ref B2)]) C_.1 C_.2.1 dL_texts_366 hl (k := 0) rfl (jI_s k) (by decide) rfl (fun ls hl => ?_)
      refine lv_goto (tgt := 346) C_.1 C_.2.1 dL_texts_369 (by decide) ?_
      exact ih (k + 1) (by omega) H locs ls z hr hI hl
  refine lv_astore_n (lv' := [(0, .ref B2)]) C_.1 C_.2.1 dL_texts_215 rfl hl (by decide) rfl (fun ls hl => ?_)
  refine lv_aload_n C_.1 C_.2.1 dL_texts_216 rfl (lv_at hl 0 rfl) ?_
  refine lv_ldc2 (own := R_law) (v := 16109186168594738) C_.1 C_.2.1 C_.2.2.2.2.1 (C_.2.2.2.2.2.1 _ wl_710) dL_texts_217 ?_
  refine lk_types C_ hf9 hcs ta_x (by omega) tb_x hI hl.1 (Nat.le_of_ble_eq_true rfl) dL_texts_220 (fun z H locs hr hI => ?_)
  refine lj_if_eq (tgt := 341) C_.1 C_.2.1 ⟨by decide, by decide⟩ dL_texts_223 (by decide) (fun q => by omega) (fun _ => ?_)
  refine lv_aload_n C_.1 C_.2.1 dL_texts_226 rfl (lv_at hl 0 rfl) ?_
  refine lr_setAll C_ hf hcs hr hI hl.1 (Nat.le_of_ble_eq_true rfl) dL_texts_227 (fun z H locs hr hI => ?_)
  refine lv_iconst (v := jI 2) C_.1 C_.2.1 dL_texts_230 rfl ?_
  refine lj_ne (tgt := 341) C_.1 C_.2.1 ⟨by decide, by decide⟩ ⟨by decide, by decide⟩ dL_texts_231 (by decide) (fun q => by omega) (fun _ => ?_)
  refine lv_aload_n C_.1 C_.2.1 dL_texts_234 rfl (lv_at hl 0 rfl) ?_
  refine lv_iconst (v := jI 1) C_.1 C_.2.1 dL_texts_235 rfl ?_
  refine lv_iconst (v := jI 0) C_.1 C_.2.1 dL_texts_236 rfl ?_
  refine lr_alarm C_ hf hcs hr hI ⟨by decide, by decide⟩ ⟨by decide, by decide⟩ hl.1 (Nat.le_of_ble_eq_true rfl) dL_texts_237 (fun z H locs hr hI => ?_)
  refine lv_bipush (v := jI 8) C_.1 C_.2.1 dL_texts_240 (by decide) ?_
  refine lj_ne (tgt := 341) C_.1 C_.2.1 ⟨by decide, by decide⟩ ⟨by decide, by decide⟩ dL_texts_242 (by decide) (fun q => by omega) (fun _ => ?_)
  refine lv_aload_n C_.1 C_.2.1 dL_texts_245 rfl (lv_at hl 0 rfl) ?_
  refine lv_iconst (v := jI 1) C_.1 C_.2.1 dL_texts_246 rfl ?_
  refine lv_iconst (v := jI 1) C_.1 C_.2.1 dL_texts_247 rfl ?_
  refine lr_alarm C_ hf hcs hr hI ⟨by decide, by decide⟩ ⟨by decide, by decide⟩ hl.1 (Nat.le_of_ble_eq_true rfl) dL_texts_248 (fun z H locs hr hI => ?_)
  refine lv_iconst (v := jI 3) C_.1 C_.2.1 dL_texts_251 rfl ?_
  refine lj_ne (tgt := 341) C_.1 C_.2.1 ⟨by decide, by decide⟩ ⟨by decide, by decide⟩ dL_texts_252 (by decide) (fun q => by omega) (fun _ => ?_)
  refine lv_aload_n C_.1 C_.2.1 dL_texts_255 rfl (lv_at hl 0 rfl) ?_
  refine lv_iconst (v := jI 1) C_.1 C_.2.1 dL_texts_256 rfl ?_
  refine lv_iconst (v := jI 2) C_.1 C_.2.1 dL_texts_257 rfl ?_
  refine lr_alarm C_ hf hcs hr hI ⟨by decide, by decide⟩ ⟨by decide, by decide⟩ hl.1 (Nat.le_of_ble_eq_true rfl) dL_texts_258 (fun z H locs hr hI => ?_)
  refine lv_iconst (v := jI 2) C_.1 C_.2.1 dL_texts_261 rfl ?_
  refine lj_ne (tgt := 341) C_.1 C_.2.1 ⟨by decide, by decide⟩ ⟨by decide, by decide⟩ dL_texts_262 (by decide) (fun q => by omega) (fun _ => ?_)
  refine lv_aload_n C_.1 C_.2.1 dL_texts_265 rfl (lv_at hl 0 rfl) ?_
  refine lv_iconst (v := jI 0) C_.1 C_.2.1 dL_texts_266 rfl ?_
  refine lv_iconst (v := jI 1) C_.1 C_.2.1 dL_texts_267 rfl ?_
  refine lr_alarm C_ hf hcs hr hI ⟨by decide, by decide⟩ ⟨by decide, by decide⟩ hl.1 (Nat.le_of_ble_eq_true rfl) dL_texts_268 (fun z H locs hr hI => ?_)
  refine lj_if_ne (tgt := 341) C_.1 C_.2.1 ⟨by decide, by decide⟩ dL_texts_271 (by decide) (fun q => by omega) (fun _ => ?_)
  refine lv_aload_n C_.1 C_.2.1 dL_texts_274 rfl (lv_at hl 0 rfl) ?_
  refine lv_iconst (v := jI 0) C_.1 C_.2.1 dL_texts_275 rfl ?_
  refine lr_at C_ hf hcs hr hI ⟨by decide, by decide⟩ hl.1 (Nat.le_of_ble_eq_true rfl) dL_texts_276 (fun z H locs hr hI => ?_)
  refine lv_iconst (v := jI 1) C_.1 C_.2.1 dL_texts_279 rfl ?_
  refine lj_ne (tgt := 341) C_.1 C_.2.1 ⟨by decide, by decide⟩ ⟨by decide, by decide⟩ dL_texts_280 (by decide) (fun q => by omega) (fun _ => ?_)
  refine lv_aload_n C_.1 C_.2.1 dL_texts_283 rfl (lv_at hl 0 rfl) ?_
  refine lv_bipush (v := jI 17) C_.1 C_.2.1 dL_texts_284 (by decide) ?_
  refine lr_count C_ hf hcs hr hI ⟨by decide, by decide⟩ hl.1 (Nat.le_of_ble_eq_true rfl) dL_texts_286 (fun z H locs hr hI => ?_)
  refine lv_bipush (v := jI 7) C_.1 C_.2.1 dL_texts_289 (by decide) ?_
  refine lj_ne (tgt := 341) C_.1 C_.2.1 ⟨by decide, by decide⟩ ⟨by decide, by decide⟩ dL_texts_291 (by decide) (fun q => by omega) (fun _ => ?_)
  refine lv_aload_n C_.1 C_.2.1 dL_texts_294 rfl (lv_at hl 0 rfl) ?_
  refine lv_bipush (v := jI 8) C_.1 C_.2.1 dL_texts_295 (by decide) ?_
  refine lr_run C_ hf hcs (by omega) hr hI ⟨by decide, by decide⟩ hl.1 (Nat.le_of_ble_eq_true rfl) dL_texts_297 (fun z H locs hr hI => ?_)
  refine lv_iconst (v := jI 1) C_.1 C_.2.1 dL_texts_300 rfl ?_
  refine lj_ne (tgt := 341) C_.1 C_.2.1 ⟨by decide, by decide⟩ ⟨by decide, by decide⟩ dL_texts_301 (by decide) (fun q => by omega) (fun _ => ?_)
  refine lv_aload_n C_.1 C_.2.1 dL_texts_304 rfl (lv_at hl 0 rfl) ?_
  refine lr_setAll C_ hf hcs hr hI hl.1 (Nat.le_of_ble_eq_true rfl) dL_texts_305 (fun z H locs hr hI => ?_)
  refine lv_iconst (v := jI 4) C_.1 C_.2.1 dL_texts_308 rfl ?_
  refine lj_ne (tgt := 341) C_.1 C_.2.1 ⟨by decide, by decide⟩ ⟨by decide, by decide⟩ dL_texts_309 (by decide) (fun q => by omega) (fun _ => ?_)
  refine lv_aload_n C_.1 C_.2.1 dL_texts_312 rfl (lv_at hl 0 rfl) ?_
  refine lv_iconst (v := jI 1) C_.1 C_.2.1 dL_texts_313 rfl ?_
  refine lr_run C_ hf hcs (by omega) hr hI ⟨by decide, by decide⟩ hl.1 (Nat.le_of_ble_eq_true rfl) dL_texts_314 (fun z H locs hr hI => ?_)
  refine lv_iconst (v := jI 3) C_.1 C_.2.1 dL_texts_317 rfl ?_
  refine lj_ne (tgt := 341) C_.1 C_.2.1 ⟨by decide, by decide⟩ ⟨by decide, by decide⟩ dL_texts_318 (by decide) (fun q => by omega) (fun _ => ?_)
  refine lv_aload_n C_.1 C_.2.1 dL_texts_321 rfl (lv_at hl 0 rfl) ?_
  refine lr_setAll C_ hf hcs hr hI hl.1 (Nat.le_of_ble_eq_true rfl) dL_texts_322 (fun z H locs hr hI => ?_)
  refine lv_sipush (v := jI (-1004)) C_.1 C_.2.1 dL_texts_325 (by decide) ?_
  refine lj_ne (tgt := 341) C_.1 C_.2.1 ⟨by decide, by decide⟩ ⟨by decide, by decide⟩ dL_texts_328 (by decide) (fun q => by omega) (fun _ => ?_)
  refine lv_aload_n C_.1 C_.2.1 dL_texts_331 rfl (lv_at hl 0 rfl) ?_
  refine lv_bipush (v := jI 16) C_.1 C_.2.1 dL_texts_332 (by decide) ?_
  refine lr_count C_ hf hcs hr hI ⟨by decide, by decide⟩ hl.1 (Nat.le_of_ble_eq_true rfl) dL_texts_334 (fun z H locs hr hI => ?_)
  refine lv_iconst (v := jI 4) C_.1 C_.2.1 dL_texts_337 rfl ?_
  refine lj_eq (tgt := 343) C_.1 C_.2.1 ⟨by decide, by decide⟩ ⟨by decide, by decide⟩ dL_texts_338 (by decide) (fun _ => ?_) (fun q => by omega)
  refine lv_bipush (v := jI 7) C_.1 C_.2.1 dL_texts_343 (by decide) ?_
  refine lv_istore_n (lv' := [(1, .int (jI 7)), (0, .ref B2)]) C_.1 C_.2.1 dL_texts_345 rfl hl (by decide) rfl (fun ls hl => ?_)
  exact lE 53 7 rfl H locs ls z hr hI hl
