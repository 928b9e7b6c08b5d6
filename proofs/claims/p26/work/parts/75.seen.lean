/-! ===== part, drawn, seen ===== -/
theorem and_hi (x : Int32) : ∃ r : Int, (x &&& jI 2147483647) = jI r ∧ 0 ≤ r ∧ r < 2147483648 := by
  have h : (x &&& jI 2147483647).toBitVec.toNat ≤ 2147483647 := by
    rw [Int32.toBitVec_and, BitVec.toNat_and]
    exact Nat.and_le_right
  have h2 : (x &&& jI 2147483647).toInt = ((x &&& jI 2147483647).toBitVec.toNat : Int) := by
    show (x &&& jI 2147483647).toBitVec.toInt = _
    exact BitVec.toInt_eq_toNat_of_lt (by omega)
  exact ⟨(x &&& jI 2147483647).toInt, (jI_of _).symm, by omega, by omega⟩
abbrev qI (post : Int32 → Prop) (P : Heap → Prop) (A : Nat → Prop) : Array Value → State → Outcome → State → Prop := va_Qi (fun (x : Int32) (_ : Unit) => post x) (fun _ t => P t.heap) A
abbrev qL (post : Int64 → Prop) (P : Heap → Prop) (A : Nat → Prop) : Array Value → State → Outcome → State → Prop := va_Ql (fun (x : Int64) (_ : Unit) => post x) (fun _ t => P t.heap) A
abbrev nvA : Nat → Prop := fun _ => False
theorem met_part {l : Launch} {D : va_G} {aC : Nat → Nat} {v : Int32} {n : Int} (h0 : 0 < n) (h1 : n < 2147483648) : Met l yL_part (lWs yL_part cL_part 2 (some .int)) (rmL 1 0 0) (va_Pc [.int v, .int (jI n)] (fun U => True ∧ cx_V D aC U)) (qI (fun x => ∃ r : Int, 0 ≤ r ∧ r < n ∧ x = jI r) (fun _ => True) nvA) 0 0 nvA := by
  refine lk_met (P := fun _ => True) (by decide +kernel) rfl (Nat.le_of_ble_eq_true rfl) (fun p e s m args below meth c ls C_ hl _ => ?_)
  have hl : lv_has ls 2 [(0, .int v), (1, .int (jI n))] := hl
  have hlocks := C_.2.2.2.2.2.2.1
  refine lv_iload_n C_.1 C_.2.1 dL_part_0 rfl (lv_at hl 0 rfl) ?_
  refine lv_ldc (own := R_law) (v := jI 2147483647) C_.1 C_.2.1 C_.2.2.2.2.1 (C_.2.2.2.2.2.1 _ wk_7) dL_part_1 ?_
  refine lv_iand C_.1 C_.2.1 dL_part_3 ?_
  obtain ⟨r, hr, r0, r1⟩ := and_hi v
  rw [hr]
  refine lv_iload_n C_.1 C_.2.1 dL_part_4 rfl (lv_at hl 1 rfl) ?_
  refine lj_rem (v := r % n) C_.1 C_.2.1 r0 r1 h0 h1 rfl dL_part_5 ?_
  exact W.iret C_.1 C_.2.1 C_.2.2.1 (fun t ht hW => ⟨⟨_, (), rfl, ⟨r % n, Int.emod_nonneg _ (by omega), Int.emod_lt_of_pos _ h0, rfl⟩, trivial⟩, va_S.rf.F ht⟩) (fun q hq => by cases hq) dL_part_6
/-- with the script at hand -/
theorem met_drawn {l : Launch} {D : va_G} {aC : Nat → Nat} {b L : Nat} {xs : Nat → Int32} {k : Nat} (hL : L ≤ 260) (hk : k ≤ 1000) : Met l yL_drawn (lWs yL_drawn cL_drawn 2 (some .int)) (rmL 1 0 0) (va_Pc [.ref b, .int (jI (k : Int))] (fun U => (va_X b L xs U U.heap ∧ b < U.heap.size) ∧ cx_V D aC U)) (qI (fun _ => True) (fun _ => True) nvA) 0 0 nvA := by
  refine Met.ofW (cc := cL_drawn) (maxL := 2) (ret := some .int) (by decide +kernel) rfl ?_
  intro p e s m args' below meth c s₁ B hml hv
  obtain ⟨rfl, ⟨hX, hbl⟩, hV⟩ := hv
  have hts := atoms_spec (ws := lWs yL_drawn cL_drawn 2 (some .int)) B.pre
  have hl := lv_entry [.ref b, .int (jI (k : Int))] (n := 2) (Nat.le_of_ble_eq_true rfl)
  rw [lg_entry_eq]
  generalize (lg_sl [.ref b, .int (jI (k : Int))] ++ List.replicate (2 - (lg_sl [.ref b, .int (jI (k : Int))]).length) Slot.unset).toArray = ls at hl ⊢
  have hl : lv_has ls 2 [(0, .ref b), (1, .int (jI (k : Int)))] := hl
  have C_ : lk_C D aC cL_drawn 2 (some .int) p s m ([.ref b, .int (jI (k : Int))] : List Value).toArray meth c := ⟨B.exec, B.bytes, B.returns, hml, findClass_of_methodNamed B.named, fun w hw => hts w (List.mem_cons_of_mem _ hw), B.notSynchronized, hV⟩
  have hlocks := C_.2.2.2.2.2.2.1
  have hbA : ¬ nvA b := fun h => h
  have hS : va_S nvA s.heap s.heap [] := va_S.rf
  have eL : Int32.ofNat L = jI (L : Int) := (Int32.ofInt_eq_ofNat).symm
  have fin : ∀ (v : Int32) (ls : Array Slot), W p l e (rmL 1 0 0) s m ([.ref b, .int (jI (k : Int))] : List Value).toArray below meth c s.heap [] 0 0 (MQ below (qI (fun _ => True) (fun _ => True) nvA) ([.ref b, .int (jI (k : Int))] : List Value).toArray s 0 0 nvA) (F0 m 39 ls [.int v]) := fun v ls =>
    W.iret C_.1 C_.2.1 C_.2.2.1 (fun t ht hW => ⟨⟨_, (), rfl, trivial, trivial⟩, va_S.rf.F ht⟩) (fun q hq => by cases hq) dL_drawn_39
  refine lv_aload_n C_.1 C_.2.1 dL_drawn_0 rfl (lv_at hl 0 rfl) ?_
  refine va_slen C_.1 C_.2.1 hX hbl hbA hS dL_drawn_1 ?_
  rw [eL]
  refine lj_if_ne (tgt := 15) C_.1 C_.2.1 (inR_n (by omega)) dL_drawn_2 (by decide) (fun q => ?_) (fun q => ?_)
  · refine lv_aload_n C_.1 C_.2.1 dL_drawn_15 rfl (lv_at hl 0 rfl) ?_
    refine lv_iload_n C_.1 C_.2.1 dL_drawn_16 rfl (lv_at hl 1 rfl) ?_
    refine lv_aload_n C_.1 C_.2.1 dL_drawn_17 rfl (lv_at hl 0 rfl) ?_
    refine va_slen C_.1 C_.2.1 hX hbl hbA hS dL_drawn_18 ?_
    rw [eL]
    refine lj_rem (v := (k : Int) % (L : Int)) C_.1 C_.2.1 (by omega) (by omega) (by omega) (by omega) rfl dL_drawn_19 ?_
    refine va_sld C_.1 C_.2.1 hX hbl hbA hS (jI_in (Int.emod_nonneg _ (by omega)) (Int.emod_lt_of_pos _ (by omega)) (by omega)) dL_drawn_20 ?_
    refine lv_iload_n C_.1 C_.2.1 dL_drawn_21 rfl (lv_at hl 1 rfl) ?_
    refine lv_bipush (v := jI 7) C_.1 C_.2.1 dL_drawn_22 (by decide) ?_
    refine lj_rem (v := (k : Int) % 7) C_.1 C_.2.1 (by omega) (by omega) (by omega) (by omega) rfl dL_drawn_24 ?_
    refine lv_ishr C_.1 C_.2.1 dL_drawn_25 ?_
    refine lv_iload_n C_.1 C_.2.1 dL_drawn_26 rfl (lv_at hl 1 rfl) ?_
    refine lv_aload_n C_.1 C_.2.1 dL_drawn_27 rfl (lv_at hl 0 rfl) ?_
    refine va_slen C_.1 C_.2.1 hX hbl hbA hS dL_drawn_28 ?_
    rw [eL]
    refine lj_div (v := (k : Int) / (L : Int)) C_.1 C_.2.1 (by omega) (by omega) (by omega) (by omega) rfl dL_drawn_29 ?_
    refine lv_bipush (v := jI 31) C_.1 C_.2.1 dL_drawn_30 (by decide) ?_
    refine lv_imul C_.1 C_.2.1 dL_drawn_32 ?_
    refine lv_ixor C_.1 C_.2.1 dL_drawn_33 ?_
    refine lv_iload_n C_.1 C_.2.1 dL_drawn_34 rfl (lv_at hl 1 rfl) ?_
    refine lv_ldc (own := R_law) (v := jI 2654435) C_.1 C_.2.1 C_.2.2.2.2.1 (C_.2.2.2.2.2.1 _ wk_8) dL_drawn_35 ?_
    refine lv_imul C_.1 C_.2.1 dL_drawn_37 ?_
    refine lv_ixor C_.1 C_.2.1 dL_drawn_38 ?_
    exact fin _ _
  · refine lv_sipush (v := jI 7919) C_.1 C_.2.1 dL_drawn_5 (by decide) ?_
    refine lv_iload_n C_.1 C_.2.1 dL_drawn_8 rfl (lv_at hl 1 rfl) ?_
    refine lv_imul C_.1 C_.2.1 dL_drawn_9 ?_
    refine lv_iconst (v := jI 3) C_.1 C_.2.1 dL_drawn_10 rfl ?_
    refine lv_iadd C_.1 C_.2.1 dL_drawn_11 ?_
    refine lv_goto (tgt := 39) C_.1 C_.2.1 dL_drawn_12 (by decide) ?_
    exact fin _ _
-- what seen makes of a state
noncomputable def sn1 (Z : Zst) : Nat → Int64
  | 0 => 79
  | k + 1 => 31 * sn1 Z k + (jI (zCnt Z (k : Int))).toInt64
noncomputable def sn2 (Z : Zst) : Nat → Int64
  | 0 => sn1 Z 16
  | k + 1 => 31 * (31 * sn2 Z k + (jI (zAt Z ((k : Int) / 7))).toInt64) + (jI (zAla Z (zAt Z ((k : Int) / 7)) ((k : Int) % 7))).toInt64
noncomputable def sn3 (Z : Zst) : Nat → Int64
  | 0 => sn2 Z (7 * Z.1.2.1.length)
  | k + 1 => 31 * sn3 Z k + (jI (zCpr Z ((k : Int) / 4) ((k : Int) % 4))).toInt64
noncomputable def sn4 (Z : Zst) : Nat → Int64
  | 0 => sn3 Z (4 * (Z.1.1 7).toNat)
  | k + 1 => 31 * sn4 Z k + (jI (zRng Z ((k : Int) / 4) ((k : Int) % 4))).toInt64
noncomputable def sn (Z : Zst) : Int64 := sn4 Z 32
theorem zCnt_d16 {M : Ms} {r r' : Option Ms × List Ms × (Nat → Int) × Nat} {k : Nat} (h : k < 16) : zCnt (M, r) (k : Int) = zCnt (M, r') (k : Int) := by
  rcases (show k = 0 ∨ k = 1 ∨ k = 2 ∨ k = 3 ∨ k = 4 ∨ k = 5 ∨ k = 6 ∨ k = 7 ∨ k = 8 ∨ k = 9 ∨ k = 10 ∨ k = 11 ∨ k = 12 ∨ k = 13 ∨ k = 14 ∨ k = 15 by omega) with rfl | rfl | rfl | rfl | rfl | rfl | rfl | rfl | rfl | rfl | rfl | rfl | rfl | rfl | rfl | rfl <;> rfl
theorem sn1_d {M : Ms} {r r' : Option Ms × List Ms × (Nat → Int) × Nat} : ∀ k, k ≤ 16 → sn1 (M, r) k = sn1 (M, r') k
  | 0, _ => rfl
  | k + 1, h => by
    show 31 * sn1 (M, r) k + (jI (zCnt (M, r) (k : Int))).toInt64 = 31 * sn1 (M, r') k + (jI (zCnt (M, r') (k : Int))).toInt64
    rw [sn1_d k (by omega), zCnt_d16 (r := r) (r' := r') (show k < 16 by omega)]
theorem sn2_d {M : Ms} {r r' : Option Ms × List Ms × (Nat → Int) × Nat} : ∀ k, sn2 (M, r) k = sn2 (M, r') k
  | 0 => sn1_d 16 (Nat.le_refl _)
  | k + 1 => by
    show 31 * (31 * sn2 (M, r) k + _) + _ = 31 * (31 * sn2 (M, r') k + _) + _
    rw [sn2_d k]
    rfl
theorem sn3_d {M : Ms} {r r' : Option Ms × List Ms × (Nat → Int) × Nat} : ∀ k, sn3 (M, r) k = sn3 (M, r') k
  | 0 => sn2_d _
  | k + 1 => by
    show 31 * sn3 (M, r) k + _ = 31 * sn3 (M, r') k + _
    rw [sn3_d k]
    rfl
theorem sn4_d {M : Ms} {r r' : Option Ms × List Ms × (Nat → Int) × Nat} : ∀ k, sn4 (M, r) k = sn4 (M, r') k
  | 0 => sn3_d _
  | k + 1 => by
    show 31 * sn4 (M, r) k + _ = 31 * sn4 (M, r') k + _
    rw [sn4_d k]
    rfl
/-- it depends on the present alone -/
theorem sn_d {Z Z' : Zst} (h : Z.1 = Z'.1) : sn Z = sn Z' := by
  obtain ⟨M, r⟩ := Z
  obtain ⟨M', r'⟩ := Z'
  have h : M = M' := h
  subst h
  exact sn4_d 32
theorem zAt_cs {Z : Zst} (x : Int) : zAt Z x = -1002 ∨ zAt Z x = -1005 ∨ ∃ a, a ∈ Z.1.2.1 ∧ zAt Z x = a 0 := by
  unfold zAt
  split
  · exact Or.inl rfl
  · cases hf : Z.1.2.1.find? (fun a => decide ((befN Z.1.2.1 a : Int) = x)) with
    | none => exact Or.inr (Or.inl rfl)
    | some a => exact Or.inr (Or.inr ⟨a, List.mem_of_find?_eq_some hf, rfl⟩)
theorem zAt_in {Z : Zst} {T K : Int} (h : ZI Z T K) (x : Int) : inR (zAt Z x) := by
  have hs := h.1.1.1
  unfold SI at hs
  rcases zAt_cs (Z := Z) x with q | q | ⟨a, ha, q⟩
  · rw [q]; exact ⟨by decide, by decide⟩
  · rw [q]; exact ⟨by decide, by decide⟩
  · have h0 := (h.1.1.2.2.2.1 a ha).1
    rw [q]; exact ⟨by omega, by omega⟩
theorem met_seen {l : Launch} {D : va_G} {aC : Nat → Nat} {B : Nat} {Z : Zst} {j : Nat} (hz : ZJ Z j) : Met l yL_seen (lWs yL_seen cL_seen 4 (some .long)) (rmL 8 0 0) (va_Pc [.ref B] (fun U => oB D aC B Z U.heap ∧ cx_V D aC U)) (qL (fun x => x = sn Z) (oB D aC B Z) (fun q => q ∈ LA B)) 0 0 (fun q => q ∈ LA B) := by
  refine lk_met (P := oB D aC B Z) (by decide +kernel) rfl (Nat.le_of_ble_eq_true rfl) (fun p e s m args below meth c ls C_ hl hO => ?_)
  have hl : lv_has ls 4 [(0, .ref B)] := hl
  have hlocks := C_.2.2.2.2.2.2.1
  have hf : 8 ≤ (rmL 8 0 0).frames ∧ 304 ≤ (rmL 8 0 0).locals := ⟨by decide, by decide⟩
  have hcs : 0 ≤ (rmL 8 0 0).cells ∧ 0 ≤ (rmL 8 0 0).slots := ⟨by decide, by decide⟩
  have hI : oI D aC B (fun q => q ∈ LA B) (fun _ => True) s.heap s.heap [] Z j := ⟨hO, va_S.rf, hz, trivial, stab_t, fun q h => h⟩
  have hs := hz.1.1.1.1
  unfold SI at hs
  have hlen := hz.1.1.1.2.1
  have h7 : ((4 * (Z.1.1 7).toNat : Nat) : Int) = 4 * Z.1.1 7 := by omega
  have l4 : ∀ (n k : Nat), k + n = 32 → ∀ (H : Heap) (locs : List Loc) (ls : Array Slot), oI D aC B (fun q => q ∈ LA B) (fun _ => True) s.heap H locs Z j → lv_has ls 4 [(3, .int (jI (k : Int))), (1, .long (sn4 Z k)), (0, .ref B)] → W p l e (rmL 8 0 0) s m args below meth c H locs 0 0 (MQ below (qL (fun x => x = sn Z) (oB D aC B Z) (fun q => q ∈ LA B)) args s 0 0 (fun q => q ∈ LA B)) (F0 m 129 ls []) := by
    intro n
    induction n with
    | zero =>
      intro k hk H locs ls hI hl
      refine lv_iload_n C_.1 C_.2.1 dL_seen_129 rfl (lv_at hl 0 rfl) ?_
      refine lv_bipush (v := jI 32) C_.1 C_.2.1 dL_seen_130 (by decide) ?_
      refine lj_ge (tgt := 159) C_.1 C_.2.1 ⟨by omega, by omega⟩ ⟨by omega, by omega⟩ dL_seen_132 (by decide) (fun _ => ?_) (fun q => by omega)
      have e : k = 32 := by omega
      subst e
      refine lv_lload_n C_.1 C_.2.1 dL_seen_159 rfl (lv_at hl 1 rfl) ?_
      exact W.lret C_.1 C_.2.1 C_.2.2.1 (fun t ht hW => ⟨⟨_, (), rfl, rfl, by show oB D aC B Z t.heap; rw [ht]; exact hI.1⟩, hI.2.1.F ht⟩) hI.2.1.2.2 dL_seen_160
    | succ n ih =>
      intro k hk H locs ls hI hl
      refine lv_iload_n C_.1 C_.2.1 dL_seen_129 rfl (lv_at hl 0 rfl) ?_
      refine lv_bipush (v := jI 32) C_.1 C_.2.1 dL_seen_130 (by decide) ?_
      refine lj_ge (tgt := 159) C_.1 C_.2.1 ⟨by omega, by omega⟩ ⟨by omega, by omega⟩ dL_seen_132 (by decide) (fun q => by omega) (fun _ => ?_)
      refine lv_ldc2 (own := R_law) (v := 31) C_.1 C_.2.1 C_.2.2.2.2.1 (C_.2.2.2.2.2.1 _ wl_576) dL_seen_135 ?_
      refine lv_lload_n C_.1 C_.2.1 dL_seen_138 rfl (lv_at hl 1 rfl) ?_
      refine lv_lmul C_.1 C_.2.1 dL_seen_139 ?_
      refine lv_aload_n C_.1 C_.2.1 dL_seen_140 rfl (lv_at hl 2 rfl) ?_
      refine lv_iload_n C_.1 C_.2.1 dL_seen_141 rfl (lv_at hl 0 rfl) ?_
      refine lv_iconst (v := jI 4) C_.1 C_.2.1 dL_seen_142 rfl ?_
      refine lj_div (v := ((k : Int) / 4)) C_.1 C_.2.1 (by omega) (by omega) (by omega) (by omega) rfl dL_seen_143 ?_
      refine lv_iload_n C_.1 C_.2.1 dL_seen_144 rfl (lv_at hl 0 rfl) ?_
      refine lv_iconst (v := jI 4) C_.1 C_.2.1 dL_seen_145 rfl ?_
      refine lj_rem (v := ((k : Int) % 4)) C_.1 C_.2.1 (by omega) (by omega) (by omega) (by omega) rfl dL_seen_146 ?_
      refine lk_ring C_ hf hcs hI ⟨by omega, by omega⟩ ⟨by omega, by omega⟩ hl.1 (Nat.le_of_ble_eq_true rfl) dL_seen_147 (fun H locs hI => ?_)
      refine lv_i2l (v := (jI (zRng Z ((k : Int) / 4) ((k : Int) % 4))).toInt64) C_.1 C_.2.1 dL_seen_150 rfl ?_
      refine lv_ladd C_.1 C_.2.1 dL_seen_151 ?_
      refine lv_lstore_n (lv' := [(1, .long ((31 * (sn4 Z k)) + (jI (zRng Z ((k : Int) / 4) ((k : Int) % 4))).toInt64)), (3, .int (jI (k : Int))), (0, .ref B)]) C_.1 C_.2.1 dL_seen_152 rfl hl (by decide) rfl (fun ls hl => ?_)
      refine lv_iinc (v := jI ((k + 1 : Nat) : Int)) (lv' := [(3, .int (jI ((k + 1 : Nat) : Int))), (1, .long ((31 * (sn4 Z k)) + (jI (zRng Z ((k : Int) / 4) ((k : Int) % 4))).toInt64)), (0, .ref B)]) C_.1 C_.2.1 dL_seen_153 hl (k := 1) rfl (jI_s k) (by decide) rfl (fun ls hl => ?_)
      refine lv_goto (tgt := 129) C_.1 C_.2.1 dL_seen_156 (by decide) ?_
      exact ih (k + 1) (by omega) H locs ls hI hl
  have l3 : ∀ (n k : Nat), k + n = (4 * (Z.1.1 7).toNat) → ∀ (H : Heap) (locs : List Loc) (ls : Array Slot), oI D aC B (fun q => q ∈ LA B) (fun _ => True) s.heap H locs Z j → lv_has ls 4 [(3, .int (jI (k : Int))), (1, .long (sn3 Z k)), (0, .ref B)] → W p l e (rmL 8 0 0) s m args below meth c H locs 0 0 (MQ below (qL (fun x => x = sn Z) (oB D aC B Z) (fun q => q ∈ LA B)) args s 0 0 (fun q => q ∈ LA B)) (F0 m 91 ls []) := by
    intro n
    induction n with
    | zero =>
      intro k hk H locs ls hI hl
      refine lv_iload_n C_.1 C_.2.1 dL_seen_91 rfl (lv_at hl 0 rfl) ?_
      refine lv_iconst (v := jI 4) C_.1 C_.2.1 dL_seen_92 rfl ?_
      refine lv_aload_n C_.1 C_.2.1 dL_seen_93 rfl (lv_at hl 2 rfl) ?_
      refine lv_bipush (v := jI 12) C_.1 C_.2.1 dL_seen_94 (by decide) ?_
      refine lk_count C_ hf hcs hI ⟨by decide, by decide⟩ hl.1 (Nat.le_of_ble_eq_true rfl) dL_seen_96 (fun H locs hI => ?_)
      rw [zCnt_12]
      refine lj_mul (v := (4 * (Z.1.1 7))) C_.1 C_.2.1 rfl dL_seen_99 ?_
      refine lj_ge (tgt := 127) C_.1 C_.2.1 ⟨by omega, by omega⟩ ⟨by omega, by omega⟩ dL_seen_100 (by decide) (fun _ => ?_) (fun q => by omega)
      have e : k = (4 * (Z.1.1 7).toNat) := by omega
      subst e
      refine lv_iconst (v := jI 0) C_.1 C_.2.1 dL_seen_127 rfl ?_
      refine lv_istore_n (lv' := [(3, .int (jI 0)), (1, .long (sn3 Z (4 * (Z.1.1 7).toNat))), (0, .ref B)]) C_.1 C_.2.1 dL_seen_128 rfl hl (by decide) rfl (fun ls hl => ?_)
      exact l4 32 0 rfl H locs ls hI hl
    | succ n ih =>
      intro k hk H locs ls hI hl
      refine lv_iload_n C_.1 C_.2.1 dL_seen_91 rfl (lv_at hl 0 rfl) ?_
      refine lv_iconst (v := jI 4) C_.1 C_.2.1 dL_seen_92 rfl ?_
      refine lv_aload_n C_.1 C_.2.1 dL_seen_93 rfl (lv_at hl 2 rfl) ?_
      refine lv_bipush (v := jI 12) C_.1 C_.2.1 dL_seen_94 (by decide) ?_
      refine lk_count C_ hf hcs hI ⟨by decide, by decide⟩ hl.1 (Nat.le_of_ble_eq_true rfl) dL_seen_96 (fun H locs hI => ?_)
      rw [zCnt_12]
      refine lj_mul (v := (4 * (Z.1.1 7))) C_.1 C_.2.1 rfl dL_seen_99 ?_
      refine lj_ge (tgt := 127) C_.1 C_.2.1 ⟨by omega, by omega⟩ ⟨by omega, by omega⟩ dL_seen_100 (by decide) (fun q => by omega) (fun _ => ?_)
      refine lv_ldc2 (own := R_law) (v := 31) C_.1 C_.2.1 C_.2.2.2.2.1 (C_.2.2.2.2.2.1 _ wl_576) dL_seen_103 ?_
      refine lv_lload_n C_.1 C_.2.1 dL_seen_106 rfl (lv_at hl 1 rfl) ?_
      refine lv_lmul C_.1 C_.2.1 dL_seen_107 ?_
      refine lv_aload_n C_.1 C_.2.1 dL_seen_108 rfl (lv_at hl 2 rfl) ?_
      refine lv_iload_n C_.1 C_.2.1 dL_seen_109 rfl (lv_at hl 0 rfl) ?_
      refine lv_iconst (v := jI 4) C_.1 C_.2.1 dL_seen_110 rfl ?_
      refine lj_div (v := ((k : Int) / 4)) C_.1 C_.2.1 (by omega) (by omega) (by omega) (by omega) rfl dL_seen_111 ?_
      refine lv_iload_n C_.1 C_.2.1 dL_seen_112 rfl (lv_at hl 0 rfl) ?_
      refine lv_iconst (v := jI 4) C_.1 C_.2.1 dL_seen_113 rfl ?_
      refine lj_rem (v := ((k : Int) % 4)) C_.1 C_.2.1 (by omega) (by omega) (by omega) (by omega) rfl dL_seen_114 ?_
      refine lk_comparer C_ hf hcs hI ⟨by omega, by omega⟩ ⟨by omega, by omega⟩ hl.1 (Nat.le_of_ble_eq_true rfl) dL_seen_115 (fun H locs hI => ?_)
      refine lv_i2l (v := (jI (zCpr Z ((k : Int) / 4) ((k : Int) % 4))).toInt64) C_.1 C_.2.1 dL_seen_118 rfl ?_
      refine lv_ladd C_.1 C_.2.1 dL_seen_119 ?_
      refine lv_lstore_n (lv' := [(1, .long ((31 * (sn3 Z k)) + (jI (zCpr Z ((k : Int) / 4) ((k : Int) % 4))).toInt64)), (3, .int (jI (k : Int))), (0, .ref B)]) C_.1 C_.2.1 dL_seen_120 rfl hl (by decide) rfl (fun ls hl => ?_)
      refine lv_iinc (v := jI ((k + 1 : Nat) : Int)) (lv' := [(3, .int (jI ((k + 1 : Nat) : Int))), (1, .long ((31 * (sn3 Z k)) + (jI (zCpr Z ((k : Int) / 4) ((k : Int) % 4))).toInt64)), (0, .ref B)]) C_.1 C_.2.1 dL_seen_121 hl (k := 1) rfl (jI_s k) (by decide) rfl (fun ls hl => ?_)
      refine lv_goto (tgt := 91) C_.1 C_.2.1 dL_seen_124 (by decide) ?_
      exact ih (k + 1) (by omega) H locs ls hI hl
  have l2 : ∀ (n k : Nat), k + n = (7 * Z.1.2.1.length) → ∀ (H : Heap) (locs : List Loc) (ls : Array Slot), oI D aC B (fun q => q ∈ LA B) (fun _ => True) s.heap H locs Z j → lv_has ls 4 [(3, .int (jI (k : Int))), (1, .long (sn2 Z k)), (0, .ref B)] → W p l e (rmL 8 0 0) s m args below meth c H locs 0 0 (MQ below (qL (fun x => x = sn Z) (oB D aC B Z) (fun q => q ∈ LA B)) args s 0 0 (fun q => q ∈ LA B)) (F0 m 33 ls []) := by
    intro n
    induction n with
    | zero =>
      intro k hk H locs ls hI hl
      refine lv_iload_n C_.1 C_.2.1 dL_seen_33 rfl (lv_at hl 0 rfl) ?_
      refine lv_bipush (v := jI 7) C_.1 C_.2.1 dL_seen_34 (by decide) ?_
      refine lv_aload_n C_.1 C_.2.1 dL_seen_36 rfl (lv_at hl 2 rfl) ?_
      refine lv_iconst (v := jI 2) C_.1 C_.2.1 dL_seen_37 rfl ?_
      refine lk_count C_ hf hcs hI ⟨by decide, by decide⟩ hl.1 (Nat.le_of_ble_eq_true rfl) dL_seen_38 (fun H locs hI => ?_)
      rw [zCnt_2]
      refine lj_mul (v := (7 * (Z.1.2.1.length : Int))) C_.1 C_.2.1 rfl dL_seen_41 ?_
      refine lj_ge (tgt := 89) C_.1 C_.2.1 ⟨by omega, by omega⟩ ⟨by omega, by omega⟩ dL_seen_42 (by decide) (fun _ => ?_) (fun q => by omega)
      have e : k = (7 * Z.1.2.1.length) := by omega
      subst e
      refine lv_iconst (v := jI 0) C_.1 C_.2.1 dL_seen_89 rfl ?_
      refine lv_istore_n (lv' := [(3, .int (jI 0)), (1, .long (sn2 Z (7 * Z.1.2.1.length))), (0, .ref B)]) C_.1 C_.2.1 dL_seen_90 rfl hl (by decide) rfl (fun ls hl => ?_)
      exact l3 (4 * (Z.1.1 7).toNat) 0 (by omega) H locs ls hI hl
    | succ n ih =>
      intro k hk H locs ls hI hl
      refine lv_iload_n C_.1 C_.2.1 dL_seen_33 rfl (lv_at hl 0 rfl) ?_
      refine lv_bipush (v := jI 7) C_.1 C_.2.1 dL_seen_34 (by decide) ?_
      refine lv_aload_n C_.1 C_.2.1 dL_seen_36 rfl (lv_at hl 2 rfl) ?_
      refine lv_iconst (v := jI 2) C_.1 C_.2.1 dL_seen_37 rfl ?_
      refine lk_count C_ hf hcs hI ⟨by decide, by decide⟩ hl.1 (Nat.le_of_ble_eq_true rfl) dL_seen_38 (fun H locs hI => ?_)
      rw [zCnt_2]
      refine lj_mul (v := (7 * (Z.1.2.1.length : Int))) C_.1 C_.2.1 rfl dL_seen_41 ?_
      refine lj_ge (tgt := 89) C_.1 C_.2.1 ⟨by omega, by omega⟩ ⟨by omega, by omega⟩ dL_seen_42 (by decide) (fun q => by omega) (fun _ => ?_)
      refine lv_ldc2 (own := R_law) (v := 31) C_.1 C_.2.1 C_.2.2.2.2.1 (C_.2.2.2.2.2.1 _ wl_576) dL_seen_45 ?_
      refine lv_ldc2 (own := R_law) (v := 31) C_.1 C_.2.1 C_.2.2.2.2.1 (C_.2.2.2.2.2.1 _ wl_576) dL_seen_48 ?_
      refine lv_lload_n C_.1 C_.2.1 dL_seen_51 rfl (lv_at hl 1 rfl) ?_
      refine lv_lmul C_.1 C_.2.1 dL_seen_52 ?_
      refine lv_aload_n C_.1 C_.2.1 dL_seen_53 rfl (lv_at hl 2 rfl) ?_
      refine lv_iload_n C_.1 C_.2.1 dL_seen_54 rfl (lv_at hl 0 rfl) ?_
      refine lv_bipush (v := jI 7) C_.1 C_.2.1 dL_seen_55 (by decide) ?_
      refine lj_div (v := ((k : Int) / 7)) C_.1 C_.2.1 (by omega) (by omega) (by omega) (by omega) rfl dL_seen_57 ?_
      refine lk_at C_ hf hcs hI ⟨by omega, by omega⟩ hl.1 (Nat.le_of_ble_eq_true rfl) dL_seen_58 (fun H locs hI => ?_)
      refine lv_i2l (v := (jI (zAt Z ((k : Int) / 7))).toInt64) C_.1 C_.2.1 dL_seen_61 rfl ?_
      refine lv_ladd C_.1 C_.2.1 dL_seen_62 ?_
      refine lv_lmul C_.1 C_.2.1 dL_seen_63 ?_
      refine lv_aload_n C_.1 C_.2.1 dL_seen_64 rfl (lv_at hl 2 rfl) ?_
      refine lv_aload_n C_.1 C_.2.1 dL_seen_65 rfl (lv_at hl 2 rfl) ?_
      refine lv_iload_n C_.1 C_.2.1 dL_seen_66 rfl (lv_at hl 0 rfl) ?_
      refine lv_bipush (v := jI 7) C_.1 C_.2.1 dL_seen_67 (by decide) ?_
      refine lj_div (v := ((k : Int) / 7)) C_.1 C_.2.1 (by omega) (by omega) (by omega) (by omega) rfl dL_seen_69 ?_
      refine lk_at C_ hf hcs hI ⟨by omega, by omega⟩ hl.1 (Nat.le_of_ble_eq_true rfl) dL_seen_70 (fun H locs hI => ?_)
      refine lv_iload_n C_.1 C_.2.1 dL_seen_73 rfl (lv_at hl 0 rfl) ?_
      refine lv_bipush (v := jI 7) C_.1 C_.2.1 dL_seen_74 (by decide) ?_
      refine lj_rem (v := ((k : Int) % 7)) C_.1 C_.2.1 (by omega) (by omega) (by omega) (by omega) rfl dL_seen_76 ?_
      refine lk_alarm C_ hf hcs hI (zAt_in hz.1 _) ⟨by omega, by omega⟩ hl.1 (Nat.le_of_ble_eq_true rfl) dL_seen_77 (fun H locs hI => ?_)
      refine lv_i2l (v := (jI (zAla Z (zAt Z ((k : Int) / 7)) ((k : Int) % 7))).toInt64) C_.1 C_.2.1 dL_seen_80 rfl ?_
      refine lv_ladd C_.1 C_.2.1 dL_seen_81 ?_
      refine lv_lstore_n (lv' := [(1, .long ((31 * ((31 * (sn2 Z k)) + (jI (zAt Z ((k : Int) / 7))).toInt64)) + (jI (zAla Z (zAt Z ((k : Int) / 7)) ((k : Int) % 7))).toInt64)), (3, .int (jI (k : Int))), (0, .ref B)]) C_.1 C_.2.1 dL_seen_82 rfl hl (by decide) rfl (fun ls hl => ?_)
      refine lv_iinc (v := jI ((k + 1 : Nat) : Int)) (lv' := [(3, .int (jI ((k + 1 : Nat) : Int))), (1, .long ((31 * ((31 * (sn2 Z k)) + (jI (zAt Z ((k : Int) / 7))).toInt64)) + (jI (zAla Z (zAt Z ((k : Int) / 7)) ((k : Int) % 7))).toInt64)), (0, .ref B)]) C_.1 C_.2.1 dL_seen_83 hl (k := 1) rfl (jI_s k) (by decide) rfl (fun ls hl => ?_)
      refine lv_goto (tgt := 33) C_.1 C_.2.1 dL_seen_86 (by decide) ?_
      exact ih (k + 1) (by omega) H locs ls hI hl
  have l1 : ∀ (n k : Nat), k + n = 16 → ∀ (H : Heap) (locs : List Loc) (ls : Array Slot), oI D aC B (fun q => q ∈ LA B) (fun _ => True) s.heap H locs Z j → lv_has ls 4 [(3, .int (jI (k : Int))), (1, .long (sn1 Z k)), (0, .ref B)] → W p l e (rmL 8 0 0) s m args below meth c H locs 0 0 (MQ below (qL (fun x => x = sn Z) (oB D aC B Z) (fun q => q ∈ LA B)) args s 0 0 (fun q => q ∈ LA B)) (F0 m 6 ls []) := by
    intro n
    induction n with
    | zero =>
      intro k hk H locs ls hI hl
      refine lv_iload_n C_.1 C_.2.1 dL_seen_6 rfl (lv_at hl 0 rfl) ?_
      refine lv_bipush (v := jI 16) C_.1 C_.2.1 dL_seen_7 (by decide) ?_
      refine lj_ge (tgt := 31) C_.1 C_.2.1 ⟨by omega, by omega⟩ ⟨by omega, by omega⟩ dL_seen_9 (by decide) (fun _ => ?_) (fun q => by omega)
      have e : k = 16 := by omega
      subst e
      refine lv_iconst (v := jI 0) C_.1 C_.2.1 dL_seen_31 rfl ?_
      refine lv_istore_n (lv' := [(3, .int (jI 0)), (1, .long (sn1 Z 16)), (0, .ref B)]) C_.1 C_.2.1 dL_seen_32 rfl hl (by decide) rfl (fun ls hl => ?_)
      exact l2 (7 * Z.1.2.1.length) 0 (by omega) H locs ls hI hl
    | succ n ih =>
      intro k hk H locs ls hI hl
      refine lv_iload_n C_.1 C_.2.1 dL_seen_6 rfl (lv_at hl 0 rfl) ?_
      refine lv_bipush (v := jI 16) C_.1 C_.2.1 dL_seen_7 (by decide) ?_
      refine lj_ge (tgt := 31) C_.1 C_.2.1 ⟨by omega, by omega⟩ ⟨by omega, by omega⟩ dL_seen_9 (by decide) (fun q => by omega) (fun _ => ?_)
      refine lv_ldc2 (own := R_law) (v := 31) C_.1 C_.2.1 C_.2.2.2.2.1 (C_.2.2.2.2.2.1 _ wl_576) dL_seen_12 ?_
      refine lv_lload_n C_.1 C_.2.1 dL_seen_15 rfl (lv_at hl 1 rfl) ?_
      refine lv_lmul C_.1 C_.2.1 dL_seen_16 ?_
      refine lv_aload_n C_.1 C_.2.1 dL_seen_17 rfl (lv_at hl 2 rfl) ?_
      refine lv_iload_n C_.1 C_.2.1 dL_seen_18 rfl (lv_at hl 0 rfl) ?_
      refine lk_count C_ hf hcs hI ⟨by omega, by omega⟩ hl.1 (Nat.le_of_ble_eq_true rfl) dL_seen_19 (fun H locs hI => ?_)
      refine lv_i2l (v := (jI (zCnt Z (k : Int))).toInt64) C_.1 C_.2.1 dL_seen_22 rfl ?_
      refine lv_ladd C_.1 C_.2.1 dL_seen_23 ?_
      refine lv_lstore_n (lv' := [(1, .long ((31 * (sn1 Z k)) + (jI (zCnt Z (k : Int))).toInt64)), (3, .int (jI (k : Int))), (0, .ref B)]) C_.1 C_.2.1 dL_seen_24 rfl hl (by decide) rfl (fun ls hl => ?_)
      refine lv_iinc (v := jI ((k + 1 : Nat) : Int)) (lv' := [(3, .int (jI ((k + 1 : Nat) : Int))), (1, .long ((31 * (sn1 Z k)) + (jI (zCnt Z (k : Int))).toInt64)), (0, .ref B)]) C_.1 C_.2.1 dL_seen_25 hl (k := 1) rfl (jI_s k) (by decide) rfl (fun ls hl => ?_)
      refine lv_goto (tgt := 6) C_.1 C_.2.1 dL_seen_28 (by decide) ?_
      exact ih (k + 1) (by omega) H locs ls hI hl
  refine lv_ldc2 (own := R_law) (v := 79) C_.1 C_.2.1 C_.2.2.2.2.1 (C_.2.2.2.2.2.1 _ wl_575) dL_seen_0 ?_
  refine lv_lstore_n (lv' := [(1, .long 79), (0, .ref B)]) C_.1 C_.2.1 dL_seen_3 rfl hl (by decide) rfl (fun ls hl => ?_)
  refine lv_iconst (v := jI 0) C_.1 C_.2.1 dL_seen_4 rfl ?_
  refine lv_istore_n (lv' := [(3, .int (jI 0)), (1, .long 79), (0, .ref B)]) C_.1 C_.2.1 dL_seen_5 rfl hl (by decide) rfl (fun ls hl => ?_)
  exact l1 16 0 rfl s.heap [] ls hI hl
