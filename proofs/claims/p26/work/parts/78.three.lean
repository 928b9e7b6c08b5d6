/-! ===== three ===== -/
set_option maxRecDepth 100000 in
set_option maxHeartbeats 20000000 in
theorem met_three {l : Launch} {D : va_G} {aC : Nat → Nat} {B : Nat} : Met l yL_three (lWs yL_three cL_three 1 (some .boolean)) (rmL 10 218 1933) (va_Pc [] (fun U => U.heap.size = B ∧ cx_V D aC U)) (qI (fun x => x = jI 1) (fun _ => True) (fun q => B ≤ q)) 218 1933 (fun q => B ≤ q) := by
  refine lk_met (P := fun H => H.size = B) (by decide +kernel) rfl (Nat.le_of_ble_eq_true rfl) (fun p e s m args below meth c ls C_ hl hB => ?_)
  have hl : lv_has ls 1 [] := hl
  have hf : 8 ≤ (rmL 10 218 1933).frames ∧ 304 ≤ (rmL 10 218 1933).locals := ⟨by decide, by decide⟩
  have hf5 : 5 ≤ (rmL 10 218 1933).frames ∧ 304 ≤ (rmL 10 218 1933).locals := ⟨by decide, by decide⟩
  have hcs : 218 ≤ (rmL 10 218 1933).cells ∧ 1933 ≤ (rmL 10 218 1933).slots := ⟨Nat.le_refl _, Nat.le_refl _⟩
  have hr := tr_three_ok
  refine lk_new C_ hf5 hB va_S.rf (fun q h => h) (Nat.le_of_ble_eq_true rfl) (Nat.le_of_ble_eq_true rfl) hl.1 (Nat.le_of_ble_eq_true rfl) dL_three_0 dL_three_3 dL_three_4 (fun H locs hO hsz hold hS => ?_)
  have hI : oI D aC B (fun q => B ≤ q) (fun _ => True) s.heap H locs (eZ kZ0) 0 := ⟨by rw [kZ0_e]; exact hO, hS, ⟨by rw [kZ0_e]; exact Z0_ZI ⟨by decide, by decide⟩ ⟨by decide, by decide⟩, by decide⟩, trivial, stab_t, fun q h => (LA_ge h).1⟩
  refine lv_astore_n (lv' := [(0, .ref B)]) C_.1 C_.2.1 dL_three_7 rfl hl (by decide) rfl (fun ls hl => ?_)
  refine lv_aload_n C_.1 C_.2.1 dL_three_8 rfl (lv_at hl 0 rfl) ?_
  refine lr_undo C_ hf hcs hr hI hl.1 (Nat.le_of_ble_eq_true rfl) dL_three_9 (fun z H locs hr hI => ?_)
  refine lv_sipush (v := jI (-1005)) C_.1 C_.2.1 dL_three_12 (by decide) ?_
  refine lj_ne (tgt := 318) C_.1 C_.2.1 ⟨by decide, by decide⟩ ⟨by decide, by decide⟩ dL_three_15 (by decide) (fun q => by omega) (fun _ => ?_)
  refine lv_aload_n C_.1 C_.2.1 dL_three_18 rfl (lv_at hl 0 rfl) ?_
  refine lr_restore C_ hf hcs hr hI hl.1 (Nat.le_of_ble_eq_true rfl) dL_three_19 (fun z H locs hr hI => ?_)
  refine lv_sipush (v := jI (-1005)) C_.1 C_.2.1 dL_three_22 (by decide) ?_
  refine lj_ne (tgt := 318) C_.1 C_.2.1 ⟨by decide, by decide⟩ ⟨by decide, by decide⟩ dL_three_25 (by decide) (fun q => by omega) (fun _ => ?_)
  refine lv_aload_n C_.1 C_.2.1 dL_three_28 rfl (lv_at hl 0 rfl) ?_
  refine lv_iconst (v := jI 0) C_.1 C_.2.1 dL_three_29 rfl ?_
  refine lr_at C_ hf hcs hr hI ⟨by decide, by decide⟩ hl.1 (Nat.le_of_ble_eq_true rfl) dL_three_30 (fun z H locs hr hI => ?_)
  refine lv_sipush (v := jI (-1005)) C_.1 C_.2.1 dL_three_33 (by decide) ?_
  refine lj_ne (tgt := 318) C_.1 C_.2.1 ⟨by decide, by decide⟩ ⟨by decide, by decide⟩ dL_three_36 (by decide) (fun q => by omega) (fun _ => ?_)
  refine lv_aload_n C_.1 C_.2.1 dL_three_39 rfl (lv_at hl 0 rfl) ?_
  refine lv_iconst (v := jI 0) C_.1 C_.2.1 dL_three_40 rfl ?_
  refine lv_iconst (v := jI 0) C_.1 C_.2.1 dL_three_41 rfl ?_
  refine lr_ring C_ hf hcs hr hI ⟨by decide, by decide⟩ ⟨by decide, by decide⟩ hl.1 (Nat.le_of_ble_eq_true rfl) dL_three_42 (fun z H locs hr hI => ?_)
  refine lv_sipush (v := jI (-1005)) C_.1 C_.2.1 dL_three_45 (by decide) ?_
  refine lj_ne (tgt := 318) C_.1 C_.2.1 ⟨by decide, by decide⟩ ⟨by decide, by decide⟩ dL_three_48 (by decide) (fun q => by omega) (fun _ => ?_)
  refine lv_aload_n C_.1 C_.2.1 dL_three_51 rfl (lv_at hl 0 rfl) ?_
  refine lv_iconst (v := jI 5) C_.1 C_.2.1 dL_three_52 rfl ?_
  refine lr_count C_ hf hcs hr hI ⟨by decide, by decide⟩ hl.1 (Nat.le_of_ble_eq_true rfl) dL_three_53 (fun z H locs hr hI => ?_)
  refine lv_iconst (v := jI 2) C_.1 C_.2.1 dL_three_56 rfl ?_
  refine lj_ne (tgt := 318) C_.1 C_.2.1 ⟨by decide, by decide⟩ ⟨by decide, by decide⟩ dL_three_57 (by decide) (fun q => by omega) (fun _ => ?_)
  refine lv_aload_n C_.1 C_.2.1 dL_three_60 rfl (lv_at hl 0 rfl) ?_
  refine lv_iconst (v := jI 5) C_.1 C_.2.1 dL_three_61 rfl ?_
  refine lr_fewest C_ hf hcs hr hI ⟨by decide, by decide⟩ hl.1 (Nat.le_of_ble_eq_true rfl) dL_three_62 (fun z H locs hr hI => ?_)
  refine lv_iconst (v := jI 1) C_.1 C_.2.1 dL_three_65 rfl ?_
  refine lj_ne (tgt := 318) C_.1 C_.2.1 ⟨by decide, by decide⟩ ⟨by decide, by decide⟩ dL_three_66 (by decide) (fun q => by omega) (fun _ => ?_)
  refine lv_aload_n C_.1 C_.2.1 dL_three_69 rfl (lv_at hl 0 rfl) ?_
  refine lv_iconst (v := jI 5) C_.1 C_.2.1 dL_three_70 rfl ?_
  refine lv_iconst (v := jI 0) C_.1 C_.2.1 dL_three_71 rfl ?_
  refine lv_iconst (v := jI 0) C_.1 C_.2.1 dL_three_72 rfl ?_
  refine lr_set C_ hf hcs hr hI ⟨by decide, by decide⟩ ⟨by decide, by decide⟩ ⟨by decide, by decide⟩ hl.1 (Nat.le_of_ble_eq_true rfl) dL_three_73 (fun z H locs hr hI => ?_)
  refine lj_if_ne (tgt := 318) C_.1 C_.2.1 ⟨by decide, by decide⟩ dL_three_76 (by decide) (fun q => by omega) (fun _ => ?_)
  refine lv_aload_n C_.1 C_.2.1 dL_three_79 rfl (lv_at hl 0 rfl) ?_
  refine lv_iconst (v := jI 3) C_.1 C_.2.1 dL_three_80 rfl ?_
  refine lv_iconst (v := jI 0) C_.1 C_.2.1 dL_three_81 rfl ?_
  refine lv_iconst (v := jI 0) C_.1 C_.2.1 dL_three_82 rfl ?_
  refine lr_set C_ hf hcs hr hI ⟨by decide, by decide⟩ ⟨by decide, by decide⟩ ⟨by decide, by decide⟩ hl.1 (Nat.le_of_ble_eq_true rfl) dL_three_83 (fun z H locs hr hI => ?_)
  refine lv_iconst (v := jI 1) C_.1 C_.2.1 dL_three_86 rfl ?_
  refine lj_ne (tgt := 318) C_.1 C_.2.1 ⟨by decide, by decide⟩ ⟨by decide, by decide⟩ dL_three_87 (by decide) (fun q => by omega) (fun _ => ?_)
  refine lv_aload_n C_.1 C_.2.1 dL_three_90 rfl (lv_at hl 0 rfl) ?_
  refine lv_iconst (v := jI 5) C_.1 C_.2.1 dL_three_91 rfl ?_
  refine lr_count C_ hf hcs hr hI ⟨by decide, by decide⟩ hl.1 (Nat.le_of_ble_eq_true rfl) dL_three_92 (fun z H locs hr hI => ?_)
  refine lj_if_ne (tgt := 318) C_.1 C_.2.1 ⟨by decide, by decide⟩ dL_three_95 (by decide) (fun q => by omega) (fun _ => ?_)
  refine lv_aload_n C_.1 C_.2.1 dL_three_98 rfl (lv_at hl 0 rfl) ?_
  refine lv_iconst (v := jI 4) C_.1 C_.2.1 dL_three_99 rfl ?_
  refine lv_iconst (v := jI 0) C_.1 C_.2.1 dL_three_100 rfl ?_
  refine lv_iconst (v := jI 0) C_.1 C_.2.1 dL_three_101 rfl ?_
  refine lr_set C_ hf hcs hr hI ⟨by decide, by decide⟩ ⟨by decide, by decide⟩ ⟨by decide, by decide⟩ hl.1 (Nat.le_of_ble_eq_true rfl) dL_three_102 (fun z H locs hr hI => ?_)
  refine lv_iconst (v := jI 2) C_.1 C_.2.1 dL_three_105 rfl ?_
  refine lj_ne (tgt := 318) C_.1 C_.2.1 ⟨by decide, by decide⟩ ⟨by decide, by decide⟩ dL_three_106 (by decide) (fun q => by omega) (fun _ => ?_)
  refine lv_aload_n C_.1 C_.2.1 dL_three_109 rfl (lv_at hl 0 rfl) ?_
  refine lv_bipush (v := jI 11) C_.1 C_.2.1 dL_three_110 (by decide) ?_
  refine lr_count C_ hf hcs hr hI ⟨by decide, by decide⟩ hl.1 (Nat.le_of_ble_eq_true rfl) dL_three_112 (fun z H locs hr hI => ?_)
  refine lv_iconst (v := jI 1) C_.1 C_.2.1 dL_three_115 rfl ?_
  refine lj_ne (tgt := 318) C_.1 C_.2.1 ⟨by decide, by decide⟩ ⟨by decide, by decide⟩ dL_three_116 (by decide) (fun q => by omega) (fun _ => ?_)
  refine lv_aload_n C_.1 C_.2.1 dL_three_119 rfl (lv_at hl 0 rfl) ?_
  refine lv_bipush (v := jI 10) C_.1 C_.2.1 dL_three_120 (by decide) ?_
  refine lr_count C_ hf hcs hr hI ⟨by decide, by decide⟩ hl.1 (Nat.le_of_ble_eq_true rfl) dL_three_122 (fun z H locs hr hI => ?_)
  refine lv_iconst (v := jI 3) C_.1 C_.2.1 dL_three_125 rfl ?_
  refine lj_ne (tgt := 318) C_.1 C_.2.1 ⟨by decide, by decide⟩ ⟨by decide, by decide⟩ dL_three_126 (by decide) (fun q => by omega) (fun _ => ?_)
  refine lv_aload_n C_.1 C_.2.1 dL_three_129 rfl (lv_at hl 0 rfl) ?_
  refine lv_iconst (v := jI 4) C_.1 C_.2.1 dL_three_130 rfl ?_
  refine lr_count C_ hf hcs hr hI ⟨by decide, by decide⟩ hl.1 (Nat.le_of_ble_eq_true rfl) dL_three_131 (fun z H locs hr hI => ?_)
  refine lv_iconst (v := jI 1) C_.1 C_.2.1 dL_three_134 rfl ?_
  refine lj_ne (tgt := 318) C_.1 C_.2.1 ⟨by decide, by decide⟩ ⟨by decide, by decide⟩ dL_three_135 (by decide) (fun q => by omega) (fun _ => ?_)
  refine lv_aload_n C_.1 C_.2.1 dL_three_138 rfl (lv_at hl 0 rfl) ?_
  refine lv_iconst (v := jI 0) C_.1 C_.2.1 dL_three_139 rfl ?_
  refine lv_iconst (v := jI 3) C_.1 C_.2.1 dL_three_140 rfl ?_
  refine lr_alarm C_ hf hcs hr hI ⟨by decide, by decide⟩ ⟨by decide, by decide⟩ hl.1 (Nat.le_of_ble_eq_true rfl) dL_three_141 (fun z H locs hr hI => ?_)
  refine lv_sipush (v := jI (-1005)) C_.1 C_.2.1 dL_three_144 (by decide) ?_
  refine lj_ne (tgt := 318) C_.1 C_.2.1 ⟨by decide, by decide⟩ ⟨by decide, by decide⟩ dL_three_147 (by decide) (fun q => by omega) (fun _ => ?_)
  refine lv_aload_n C_.1 C_.2.1 dL_three_150 rfl (lv_at hl 0 rfl) ?_
  refine lv_iconst (v := jI 0) C_.1 C_.2.1 dL_three_151 rfl ?_
  refine lv_iconst (v := jI 3) C_.1 C_.2.1 dL_three_152 rfl ?_
  refine lr_comparer C_ hf hcs hr hI ⟨by decide, by decide⟩ ⟨by decide, by decide⟩ hl.1 (Nat.le_of_ble_eq_true rfl) dL_three_153 (fun z H locs hr hI => ?_)
  refine lv_iconst (v := jI 2) C_.1 C_.2.1 dL_three_156 rfl ?_
  refine lj_ne (tgt := 318) C_.1 C_.2.1 ⟨by decide, by decide⟩ ⟨by decide, by decide⟩ dL_three_157 (by decide) (fun q => by omega) (fun _ => ?_)
  refine lv_aload_n C_.1 C_.2.1 dL_three_160 rfl (lv_at hl 0 rfl) ?_
  refine lv_iconst (v := jI 0) C_.1 C_.2.1 dL_three_161 rfl ?_
  refine lv_iconst (v := jI 0) C_.1 C_.2.1 dL_three_162 rfl ?_
  refine lr_comparer C_ hf hcs hr hI ⟨by decide, by decide⟩ ⟨by decide, by decide⟩ hl.1 (Nat.le_of_ble_eq_true rfl) dL_three_163 (fun z H locs hr hI => ?_)
  refine lv_iconst (v := jI 4) C_.1 C_.2.1 dL_three_166 rfl ?_
  refine lj_ne (tgt := 318) C_.1 C_.2.1 ⟨by decide, by decide⟩ ⟨by decide, by decide⟩ dL_three_167 (by decide) (fun q => by omega) (fun _ => ?_)
  refine lv_aload_n C_.1 C_.2.1 dL_three_170 rfl (lv_at hl 0 rfl) ?_
  refine lv_iconst (v := jI 1) C_.1 C_.2.1 dL_three_171 rfl ?_
  refine lv_iconst (v := jI 3) C_.1 C_.2.1 dL_three_172 rfl ?_
  refine lr_comparer C_ hf hcs hr hI ⟨by decide, by decide⟩ ⟨by decide, by decide⟩ hl.1 (Nat.le_of_ble_eq_true rfl) dL_three_173 (fun z H locs hr hI => ?_)
  refine lv_iconst (v := jI 1) C_.1 C_.2.1 dL_three_176 rfl ?_
  refine lj_ne (tgt := 318) C_.1 C_.2.1 ⟨by decide, by decide⟩ ⟨by decide, by decide⟩ dL_three_177 (by decide) (fun q => by omega) (fun _ => ?_)
  refine lv_aload_n C_.1 C_.2.1 dL_three_180 rfl (lv_at hl 0 rfl) ?_
  refine lv_iconst (v := jI 0) C_.1 C_.2.1 dL_three_181 rfl ?_
  refine lr_at C_ hf hcs hr hI ⟨by decide, by decide⟩ hl.1 (Nat.le_of_ble_eq_true rfl) dL_three_182 (fun z H locs hr hI => ?_)
  refine lv_iconst (v := jI 1) C_.1 C_.2.1 dL_three_185 rfl ?_
  refine lj_ne (tgt := 318) C_.1 C_.2.1 ⟨by decide, by decide⟩ ⟨by decide, by decide⟩ dL_three_186 (by decide) (fun q => by omega) (fun _ => ?_)
  refine lv_aload_n C_.1 C_.2.1 dL_three_189 rfl (lv_at hl 0 rfl) ?_
  refine lv_iconst (v := jI 1) C_.1 C_.2.1 dL_three_190 rfl ?_
  refine lr_at C_ hf hcs hr hI ⟨by decide, by decide⟩ hl.1 (Nat.le_of_ble_eq_true rfl) dL_three_191 (fun z H locs hr hI => ?_)
  refine lv_iconst (v := jI 2) C_.1 C_.2.1 dL_three_194 rfl ?_
  refine lj_ne (tgt := 318) C_.1 C_.2.1 ⟨by decide, by decide⟩ ⟨by decide, by decide⟩ dL_three_195 (by decide) (fun q => by omega) (fun _ => ?_)
  refine lv_aload_n C_.1 C_.2.1 dL_three_198 rfl (lv_at hl 0 rfl) ?_
  refine lv_iconst (v := jI 2) C_.1 C_.2.1 dL_three_199 rfl ?_
  refine lr_at C_ hf hcs hr hI ⟨by decide, by decide⟩ hl.1 (Nat.le_of_ble_eq_true rfl) dL_three_200 (fun z H locs hr hI => ?_)
  refine lj_if_ne (tgt := 318) C_.1 C_.2.1 ⟨by decide, by decide⟩ dL_three_203 (by decide) (fun q => by omega) (fun _ => ?_)
  refine lv_aload_n C_.1 C_.2.1 dL_three_206 rfl (lv_at hl 0 rfl) ?_
  refine lv_iconst (v := jI 3) C_.1 C_.2.1 dL_three_207 rfl ?_
  refine lr_at C_ hf hcs hr hI ⟨by decide, by decide⟩ hl.1 (Nat.le_of_ble_eq_true rfl) dL_three_208 (fun z H locs hr hI => ?_)
  refine lv_sipush (v := jI (-1005)) C_.1 C_.2.1 dL_three_211 (by decide) ?_
  refine lj_ne (tgt := 318) C_.1 C_.2.1 ⟨by decide, by decide⟩ ⟨by decide, by decide⟩ dL_three_214 (by decide) (fun q => by omega) (fun _ => ?_)
  refine lv_aload_n C_.1 C_.2.1 dL_three_217 rfl (lv_at hl 0 rfl) ?_
  refine lv_iconst (v := jI 0) C_.1 C_.2.1 dL_three_218 rfl ?_
  refine lv_iconst (v := jI 4) C_.1 C_.2.1 dL_three_219 rfl ?_
  refine lr_alarm C_ hf hcs hr hI ⟨by decide, by decide⟩ ⟨by decide, by decide⟩ hl.1 (Nat.le_of_ble_eq_true rfl) dL_three_220 (fun z H locs hr hI => ?_)
  refine lv_iconst (v := jI 2) C_.1 C_.2.1 dL_three_223 rfl ?_
  refine lj_ne (tgt := 318) C_.1 C_.2.1 ⟨by decide, by decide⟩ ⟨by decide, by decide⟩ dL_three_224 (by decide) (fun q => by omega) (fun _ => ?_)
  refine lv_aload_n C_.1 C_.2.1 dL_three_227 rfl (lv_at hl 0 rfl) ?_
  refine lv_iconst (v := jI 0) C_.1 C_.2.1 dL_three_228 rfl ?_
  refine lv_bipush (v := jI 6) C_.1 C_.2.1 dL_three_229 (by decide) ?_
  refine lr_alarm C_ hf hcs hr hI ⟨by decide, by decide⟩ ⟨by decide, by decide⟩ hl.1 (Nat.le_of_ble_eq_true rfl) dL_three_231 (fun z H locs hr hI => ?_)
  refine lv_sipush (v := jI (-1005)) C_.1 C_.2.1 dL_three_234 (by decide) ?_
  refine lj_ne (tgt := 318) C_.1 C_.2.1 ⟨by decide, by decide⟩ ⟨by decide, by decide⟩ dL_three_237 (by decide) (fun q => by omega) (fun _ => ?_)
  refine lv_aload_n C_.1 C_.2.1 dL_three_240 rfl (lv_at hl 0 rfl) ?_
  refine lv_iconst (v := jI 0) C_.1 C_.2.1 dL_three_241 rfl ?_
  refine lr_ringsIn C_ hf hcs hr hI ⟨by decide, by decide⟩ hl.1 (Nat.le_of_ble_eq_true rfl) dL_three_242 (fun z H locs hr hI => ?_)
  refine lv_iconst (v := jI 5) C_.1 C_.2.1 dL_three_245 rfl ?_
  refine lj_ne (tgt := 318) C_.1 C_.2.1 ⟨by decide, by decide⟩ ⟨by decide, by decide⟩ dL_three_246 (by decide) (fun q => by omega) (fun _ => ?_)
  refine lv_aload_n C_.1 C_.2.1 dL_three_249 rfl (lv_at hl 0 rfl) ?_
  refine lv_iconst (v := jI 1) C_.1 C_.2.1 dL_three_250 rfl ?_
  refine lr_ringsIn C_ hf hcs hr hI ⟨by decide, by decide⟩ hl.1 (Nat.le_of_ble_eq_true rfl) dL_three_251 (fun z H locs hr hI => ?_)
  refine lv_iconst (v := jI 3) C_.1 C_.2.1 dL_three_254 rfl ?_
  refine lj_ne (tgt := 318) C_.1 C_.2.1 ⟨by decide, by decide⟩ ⟨by decide, by decide⟩ dL_three_255 (by decide) (fun q => by omega) (fun _ => ?_)
  refine lv_aload_n C_.1 C_.2.1 dL_three_258 rfl (lv_at hl 0 rfl) ?_
  refine lv_iconst (v := jI 2) C_.1 C_.2.1 dL_three_259 rfl ?_
  refine lr_ringsIn C_ hf hcs hr hI ⟨by decide, by decide⟩ hl.1 (Nat.le_of_ble_eq_true rfl) dL_three_260 (fun z H locs hr hI => ?_)
  refine lv_iconst (v := jI 4) C_.1 C_.2.1 dL_three_263 rfl ?_
  refine lj_ne (tgt := 318) C_.1 C_.2.1 ⟨by decide, by decide⟩ ⟨by decide, by decide⟩ dL_three_264 (by decide) (fun q => by omega) (fun _ => ?_)
  refine lv_aload_n C_.1 C_.2.1 dL_three_267 rfl (lv_at hl 0 rfl) ?_
  refine lv_iconst (v := jI 1) C_.1 C_.2.1 dL_three_268 rfl ?_
  refine lv_bipush (v := jI 10) C_.1 C_.2.1 dL_three_269 (by decide) ?_
  refine lv_iconst (v := jI 0) C_.1 C_.2.1 dL_three_271 rfl ?_
  refine lr_ifComparers C_ hf hcs hr hI ⟨by decide, by decide⟩ ⟨by decide, by decide⟩ ⟨by decide, by decide⟩ hl.1 (Nat.le_of_ble_eq_true rfl) dL_three_272 (fun z H locs hr hI => ?_)
  refine lv_iconst (v := jI 3) C_.1 C_.2.1 dL_three_275 rfl ?_
  refine lj_ne (tgt := 318) C_.1 C_.2.1 ⟨by decide, by decide⟩ ⟨by decide, by decide⟩ dL_three_276 (by decide) (fun q => by omega) (fun _ => ?_)
  refine lv_aload_n C_.1 C_.2.1 dL_three_279 rfl (lv_at hl 0 rfl) ?_
  refine lv_iconst (v := jI 1) C_.1 C_.2.1 dL_three_280 rfl ?_
  refine lv_bipush (v := jI 10) C_.1 C_.2.1 dL_three_281 (by decide) ?_
  refine lv_iconst (v := jI 1) C_.1 C_.2.1 dL_three_283 rfl ?_
  refine lr_ifComparers C_ hf hcs hr hI ⟨by decide, by decide⟩ ⟨by decide, by decide⟩ ⟨by decide, by decide⟩ hl.1 (Nat.le_of_ble_eq_true rfl) dL_three_284 (fun z H locs hr hI => ?_)
  refine lj_if_ne (tgt := 318) C_.1 C_.2.1 ⟨by decide, by decide⟩ dL_three_287 (by decide) (fun q => by omega) (fun _ => ?_)
  refine lv_aload_n C_.1 C_.2.1 dL_three_290 rfl (lv_at hl 0 rfl) ?_
  refine lv_iconst (v := jI 1) C_.1 C_.2.1 dL_three_291 rfl ?_
  refine lv_iconst (v := jI 4) C_.1 C_.2.1 dL_three_292 rfl ?_
  refine lv_iconst (v := jI 0) C_.1 C_.2.1 dL_three_293 rfl ?_
  refine lr_ifComparers C_ hf hcs hr hI ⟨by decide, by decide⟩ ⟨by decide, by decide⟩ ⟨by decide, by decide⟩ hl.1 (Nat.le_of_ble_eq_true rfl) dL_three_294 (fun z H locs hr hI => ?_)
  refine lv_iconst (v := jI 2) C_.1 C_.2.1 dL_three_297 rfl ?_
  refine lj_ne (tgt := 318) C_.1 C_.2.1 ⟨by decide, by decide⟩ ⟨by decide, by decide⟩ dL_three_298 (by decide) (fun q => by omega) (fun _ => ?_)
  refine lv_aload_n C_.1 C_.2.1 dL_three_301 rfl (lv_at hl 0 rfl) ?_
  refine lv_bipush (v := jI 10) C_.1 C_.2.1 dL_three_302 (by decide) ?_
  refine lr_fewest C_ hf hcs hr hI ⟨by decide, by decide⟩ hl.1 (Nat.le_of_ble_eq_true rfl) dL_three_304 (fun z H locs hr hI => ?_)
  refine lv_iconst (v := jI 1) C_.1 C_.2.1 dL_three_307 rfl ?_
  refine lj_ne (tgt := 318) C_.1 C_.2.1 ⟨by decide, by decide⟩ ⟨by decide, by decide⟩ dL_three_308 (by decide) (fun q => by omega) (fun _ => ?_)
  refine lv_aload_n C_.1 C_.2.1 dL_three_311 rfl (lv_at hl 0 rfl) ?_
  refine lk_one (idx := 89) (n := 1) (As := [.ref B]) C_ (met_refused hI.2.2.1 (by omega)) wl_602 wl_603 wl_604 rfl rfl rfl ⟨rfl, by decide, by decide, by decide +kernel⟩ ⟨Nat.le_of_ble_eq_true rfl, Nat.le_of_ble_eq_true rfl⟩ rfl hcs hI hl.1 (Nat.le_of_ble_eq_true rfl) dL_three_312 (fun H locs hI => ?_)
  refine lj_if_ne (tgt := 320) C_.1 C_.2.1 ⟨by decide, by decide⟩ dL_three_315 (by decide) (fun _ => ?_) (fun q => by omega)
  refine lv_aload_n C_.1 C_.2.1 dL_three_320 rfl (lv_at hl 0 rfl) ?_
  refine lv_iconst (v := jI 2) C_.1 C_.2.1 dL_three_321 rfl ?_
  refine lr_setLoading C_ hf hcs hr hI ⟨by decide, by decide⟩ hl.1 (Nat.le_of_ble_eq_true rfl) dL_three_322 (fun z H locs hr hI => ?_)
  refine lj_if_ne (tgt := 631) C_.1 C_.2.1 ⟨by decide, by decide⟩ dL_three_325 (by decide) (fun q => by omega) (fun _ => ?_)
  refine lv_aload_n C_.1 C_.2.1 dL_three_328 rfl (lv_at hl 0 rfl) ?_
  refine lv_iconst (v := jI 2) C_.1 C_.2.1 dL_three_329 rfl ?_
  refine lr_setLoading C_ hf hcs hr hI ⟨by decide, by decide⟩ hl.1 (Nat.le_of_ble_eq_true rfl) dL_three_330 (fun z H locs hr hI => ?_)
  refine lv_sipush (v := jI (-1005)) C_.1 C_.2.1 dL_three_333 (by decide) ?_
  refine lj_ne (tgt := 631) C_.1 C_.2.1 ⟨by decide, by decide⟩ ⟨by decide, by decide⟩ dL_three_336 (by decide) (fun q => by omega) (fun _ => ?_)
  refine lv_aload_n C_.1 C_.2.1 dL_three_339 rfl (lv_at hl 0 rfl) ?_
  refine lv_iconst (v := jI 1) C_.1 C_.2.1 dL_three_340 rfl ?_
  refine lv_bipush (v := jI 10) C_.1 C_.2.1 dL_three_341 (by decide) ?_
  refine lv_iconst (v := jI 0) C_.1 C_.2.1 dL_three_343 rfl ?_
  refine lr_ifComparers C_ hf hcs hr hI ⟨by decide, by decide⟩ ⟨by decide, by decide⟩ ⟨by decide, by decide⟩ hl.1 (Nat.le_of_ble_eq_true rfl) dL_three_344 (fun z H locs hr hI => ?_)
  refine lv_iconst (v := jI 3) C_.1 C_.2.1 dL_three_347 rfl ?_
  refine lj_ne (tgt := 631) C_.1 C_.2.1 ⟨by decide, by decide⟩ ⟨by decide, by decide⟩ dL_three_348 (by decide) (fun q => by omega) (fun _ => ?_)
  refine lv_aload_n C_.1 C_.2.1 dL_three_351 rfl (lv_at hl 0 rfl) ?_
  refine lv_iconst (v := jI 1) C_.1 C_.2.1 dL_three_352 rfl ?_
  refine lv_bipush (v := jI 10) C_.1 C_.2.1 dL_three_353 (by decide) ?_
  refine lv_iconst (v := jI 1) C_.1 C_.2.1 dL_three_355 rfl ?_
  refine lr_ifComparers C_ hf hcs hr hI ⟨by decide, by decide⟩ ⟨by decide, by decide⟩ ⟨by decide, by decide⟩ hl.1 (Nat.le_of_ble_eq_true rfl) dL_three_356 (fun z H locs hr hI => ?_)
  refine lv_iconst (v := jI 3) C_.1 C_.2.1 dL_three_359 rfl ?_
  refine lj_ne (tgt := 631) C_.1 C_.2.1 ⟨by decide, by decide⟩ ⟨by decide, by decide⟩ dL_three_360 (by decide) (fun q => by omega) (fun _ => ?_)
  refine lv_aload_n C_.1 C_.2.1 dL_three_363 rfl (lv_at hl 0 rfl) ?_
  refine lv_iconst (v := jI 1) C_.1 C_.2.1 dL_three_364 rfl ?_
  refine lv_bipush (v := jI 10) C_.1 C_.2.1 dL_three_365 (by decide) ?_
  refine lv_iconst (v := jI 2) C_.1 C_.2.1 dL_three_367 rfl ?_
  refine lr_ifComparers C_ hf hcs hr hI ⟨by decide, by decide⟩ ⟨by decide, by decide⟩ ⟨by decide, by decide⟩ hl.1 (Nat.le_of_ble_eq_true rfl) dL_three_368 (fun z H locs hr hI => ?_)
  refine lv_iconst (v := jI 2) C_.1 C_.2.1 dL_three_371 rfl ?_
  refine lj_ne (tgt := 631) C_.1 C_.2.1 ⟨by decide, by decide⟩ ⟨by decide, by decide⟩ dL_three_372 (by decide) (fun q => by omega) (fun _ => ?_)
  refine lv_aload_n C_.1 C_.2.1 dL_three_375 rfl (lv_at hl 0 rfl) ?_
  refine lv_iconst (v := jI 2) C_.1 C_.2.1 dL_three_376 rfl ?_
  refine lv_bipush (v := jI 10) C_.1 C_.2.1 dL_three_377 (by decide) ?_
  refine lv_iconst (v := jI 1) C_.1 C_.2.1 dL_three_379 rfl ?_
  refine lr_ifComparers C_ hf hcs hr hI ⟨by decide, by decide⟩ ⟨by decide, by decide⟩ ⟨by decide, by decide⟩ hl.1 (Nat.le_of_ble_eq_true rfl) dL_three_380 (fun z H locs hr hI => ?_)
  refine lj_if_ne (tgt := 631) C_.1 C_.2.1 ⟨by decide, by decide⟩ dL_three_383 (by decide) (fun q => by omega) (fun _ => ?_)
  refine lv_aload_n C_.1 C_.2.1 dL_three_386 rfl (lv_at hl 0 rfl) ?_
  refine lv_bipush (v := jI 10) C_.1 C_.2.1 dL_three_387 (by decide) ?_
  refine lr_fewest C_ hf hcs hr hI ⟨by decide, by decide⟩ hl.1 (Nat.le_of_ble_eq_true rfl) dL_three_389 (fun z H locs hr hI => ?_)
  refine lv_iconst (v := jI 2) C_.1 C_.2.1 dL_three_392 rfl ?_
  refine lj_ne (tgt := 631) C_.1 C_.2.1 ⟨by decide, by decide⟩ ⟨by decide, by decide⟩ dL_three_393 (by decide) (fun q => by omega) (fun _ => ?_)
  refine lv_aload_n C_.1 C_.2.1 dL_three_396 rfl (lv_at hl 0 rfl) ?_
  refine lv_iconst (v := jI 3) C_.1 C_.2.1 dL_three_397 rfl ?_
  refine lr_run C_ hf hcs (by omega) hr hI ⟨by decide, by decide⟩ hl.1 (Nat.le_of_ble_eq_true rfl) dL_three_398 (fun z H locs hr hI => ?_)
  refine lv_iconst (v := jI 1) C_.1 C_.2.1 dL_three_401 rfl ?_
  refine lj_ne (tgt := 631) C_.1 C_.2.1 ⟨by decide, by decide⟩ ⟨by decide, by decide⟩ dL_three_402 (by decide) (fun q => by omega) (fun _ => ?_)
  refine lv_aload_n C_.1 C_.2.1 dL_three_405 rfl (lv_at hl 0 rfl) ?_
  refine lv_iconst (v := jI 2) C_.1 C_.2.1 dL_three_406 rfl ?_
  refine lr_count C_ hf hcs hr hI ⟨by decide, by decide⟩ hl.1 (Nat.le_of_ble_eq_true rfl) dL_three_407 (fun z H locs hr hI => ?_)
  refine lv_iconst (v := jI 2) C_.1 C_.2.1 dL_three_410 rfl ?_
  refine lj_ne (tgt := 631) C_.1 C_.2.1 ⟨by decide, by decide⟩ ⟨by decide, by decide⟩ dL_three_411 (by decide) (fun q => by omega) (fun _ => ?_)
  refine lv_aload_n C_.1 C_.2.1 dL_three_414 rfl (lv_at hl 0 rfl) ?_
  refine lv_iconst (v := jI 1) C_.1 C_.2.1 dL_three_415 rfl ?_
  refine lv_iconst (v := jI 0) C_.1 C_.2.1 dL_three_416 rfl ?_
  refine lr_alarm C_ hf hcs hr hI ⟨by decide, by decide⟩ ⟨by decide, by decide⟩ hl.1 (Nat.le_of_ble_eq_true rfl) dL_three_417 (fun z H locs hr hI => ?_)
  refine lv_sipush (v := jI (-1001)) C_.1 C_.2.1 dL_three_420 (by decide) ?_
  refine lj_ne (tgt := 631) C_.1 C_.2.1 ⟨by decide, by decide⟩ ⟨by decide, by decide⟩ dL_three_423 (by decide) (fun q => by omega) (fun _ => ?_)
  refine lv_aload_n C_.1 C_.2.1 dL_three_426 rfl (lv_at hl 0 rfl) ?_
  refine lv_iconst (v := jI 1) C_.1 C_.2.1 dL_three_427 rfl ?_
  refine lv_iconst (v := jI 0) C_.1 C_.2.1 dL_three_428 rfl ?_
  refine lr_comparer C_ hf hcs hr hI ⟨by decide, by decide⟩ ⟨by decide, by decide⟩ hl.1 (Nat.le_of_ble_eq_true rfl) dL_three_429 (fun z H locs hr hI => ?_)
  refine lv_iconst (v := jI 5) C_.1 C_.2.1 dL_three_432 rfl ?_
  refine lj_ne (tgt := 631) C_.1 C_.2.1 ⟨by decide, by decide⟩ ⟨by decide, by decide⟩ dL_three_433 (by decide) (fun q => by omega) (fun _ => ?_)
  refine lv_aload_n C_.1 C_.2.1 dL_three_436 rfl (lv_at hl 0 rfl) ?_
  refine lv_iconst (v := jI 1) C_.1 C_.2.1 dL_three_437 rfl ?_
  refine lv_iconst (v := jI 2) C_.1 C_.2.1 dL_three_438 rfl ?_
  refine lr_comparer C_ hf hcs hr hI ⟨by decide, by decide⟩ ⟨by decide, by decide⟩ hl.1 (Nat.le_of_ble_eq_true rfl) dL_three_439 (fun z H locs hr hI => ?_)
  refine lv_iconst (v := jI 2) C_.1 C_.2.1 dL_three_442 rfl ?_
  refine lj_ne (tgt := 631) C_.1 C_.2.1 ⟨by decide, by decide⟩ ⟨by decide, by decide⟩ dL_three_443 (by decide) (fun q => by omega) (fun _ => ?_)
  refine lv_aload_n C_.1 C_.2.1 dL_three_446 rfl (lv_at hl 0 rfl) ?_
  refine lv_iconst (v := jI 1) C_.1 C_.2.1 dL_three_447 rfl ?_
  refine lv_iconst (v := jI 3) C_.1 C_.2.1 dL_three_448 rfl ?_
  refine lr_comparer C_ hf hcs hr hI ⟨by decide, by decide⟩ ⟨by decide, by decide⟩ hl.1 (Nat.le_of_ble_eq_true rfl) dL_three_449 (fun z H locs hr hI => ?_)
  refine lj_if_ne (tgt := 631) C_.1 C_.2.1 ⟨by decide, by decide⟩ dL_three_452 (by decide) (fun q => by omega) (fun _ => ?_)
  refine lv_aload_n C_.1 C_.2.1 dL_three_455 rfl (lv_at hl 0 rfl) ?_
  refine lv_iconst (v := jI 0) C_.1 C_.2.1 dL_three_456 rfl ?_
  refine lv_iconst (v := jI 0) C_.1 C_.2.1 dL_three_457 rfl ?_
  refine lr_ring C_ hf hcs hr hI ⟨by decide, by decide⟩ ⟨by decide, by decide⟩ hl.1 (Nat.le_of_ble_eq_true rfl) dL_three_458 (fun z H locs hr hI => ?_)
  refine lv_iconst (v := jI 1) C_.1 C_.2.1 dL_three_461 rfl ?_
  refine lj_ne (tgt := 631) C_.1 C_.2.1 ⟨by decide, by decide⟩ ⟨by decide, by decide⟩ dL_three_462 (by decide) (fun q => by omega) (fun _ => ?_)
  refine lv_aload_n C_.1 C_.2.1 dL_three_465 rfl (lv_at hl 0 rfl) ?_
  refine lv_iconst (v := jI 0) C_.1 C_.2.1 dL_three_466 rfl ?_
  refine lv_iconst (v := jI 1) C_.1 C_.2.1 dL_three_467 rfl ?_
  refine lr_ring C_ hf hcs hr hI ⟨by decide, by decide⟩ ⟨by decide, by decide⟩ hl.1 (Nat.le_of_ble_eq_true rfl) dL_three_468 (fun z H locs hr hI => ?_)
  refine lv_iconst (v := jI 3) C_.1 C_.2.1 dL_three_471 rfl ?_
  refine lj_ne (tgt := 631) C_.1 C_.2.1 ⟨by decide, by decide⟩ ⟨by decide, by decide⟩ dL_three_472 (by decide) (fun q => by omega) (fun _ => ?_)
  refine lv_aload_n C_.1 C_.2.1 dL_three_475 rfl (lv_at hl 0 rfl) ?_
  refine lv_iconst (v := jI 0) C_.1 C_.2.1 dL_three_476 rfl ?_
  refine lv_iconst (v := jI 2) C_.1 C_.2.1 dL_three_477 rfl ?_
  refine lr_ring C_ hf hcs hr hI ⟨by decide, by decide⟩ ⟨by decide, by decide⟩ hl.1 (Nat.le_of_ble_eq_true rfl) dL_three_478 (fun z H locs hr hI => ?_)
  refine lj_if_ne (tgt := 631) C_.1 C_.2.1 ⟨by decide, by decide⟩ dL_three_481 (by decide) (fun q => by omega) (fun _ => ?_)
  refine lv_aload_n C_.1 C_.2.1 dL_three_484 rfl (lv_at hl 0 rfl) ?_
  refine lv_iconst (v := jI 0) C_.1 C_.2.1 dL_three_485 rfl ?_
  refine lv_iconst (v := jI 3) C_.1 C_.2.1 dL_three_486 rfl ?_
  refine lr_ring C_ hf hcs hr hI ⟨by decide, by decide⟩ ⟨by decide, by decide⟩ hl.1 (Nat.le_of_ble_eq_true rfl) dL_three_487 (fun z H locs hr hI => ?_)
  refine lv_iconst (v := jI 1) C_.1 C_.2.1 dL_three_490 rfl ?_
  refine lj_ne (tgt := 631) C_.1 C_.2.1 ⟨by decide, by decide⟩ ⟨by decide, by decide⟩ dL_three_491 (by decide) (fun q => by omega) (fun _ => ?_)
  refine lv_aload_n C_.1 C_.2.1 dL_three_494 rfl (lv_at hl 0 rfl) ?_
  refine lv_iconst (v := jI 1) C_.1 C_.2.1 dL_three_495 rfl ?_
  refine lr_setComparers C_ hf hcs hr hI ⟨by decide, by decide⟩ hl.1 (Nat.le_of_ble_eq_true rfl) dL_three_496 (fun z H locs hr hI => ?_)
  refine lv_iconst (v := jI 2) C_.1 C_.2.1 dL_three_499 rfl ?_
  refine lj_ne (tgt := 631) C_.1 C_.2.1 ⟨by decide, by decide⟩ ⟨by decide, by decide⟩ dL_three_500 (by decide) (fun q => by omega) (fun _ => ?_)
  refine lv_aload_n C_.1 C_.2.1 dL_three_503 rfl (lv_at hl 0 rfl) ?_
  refine lv_iconst (v := jI 0) C_.1 C_.2.1 dL_three_504 rfl ?_
  refine lv_iconst (v := jI 3) C_.1 C_.2.1 dL_three_505 rfl ?_
  refine lr_alarm C_ hf hcs hr hI ⟨by decide, by decide⟩ ⟨by decide, by decide⟩ hl.1 (Nat.le_of_ble_eq_true rfl) dL_three_506 (fun z H locs hr hI => ?_)
  refine lv_sipush (v := jI (-1005)) C_.1 C_.2.1 dL_three_509 (by decide) ?_
  refine lj_ne (tgt := 631) C_.1 C_.2.1 ⟨by decide, by decide⟩ ⟨by decide, by decide⟩ dL_three_512 (by decide) (fun q => by omega) (fun _ => ?_)
  refine lv_aload_n C_.1 C_.2.1 dL_three_515 rfl (lv_at hl 0 rfl) ?_
  refine lv_iconst (v := jI 1) C_.1 C_.2.1 dL_three_516 rfl ?_
  refine lv_iconst (v := jI 0) C_.1 C_.2.1 dL_three_517 rfl ?_
  refine lr_comparer C_ hf hcs hr hI ⟨by decide, by decide⟩ ⟨by decide, by decide⟩ hl.1 (Nat.le_of_ble_eq_true rfl) dL_three_518 (fun z H locs hr hI => ?_)
  refine lv_sipush (v := jI (-1001)) C_.1 C_.2.1 dL_three_521 (by decide) ?_
  refine lj_ne (tgt := 631) C_.1 C_.2.1 ⟨by decide, by decide⟩ ⟨by decide, by decide⟩ dL_three_524 (by decide) (fun q => by omega) (fun _ => ?_)
  refine lv_aload_n C_.1 C_.2.1 dL_three_527 rfl (lv_at hl 0 rfl) ?_
  refine lv_iconst (v := jI 0) C_.1 C_.2.1 dL_three_528 rfl ?_
  refine lv_iconst (v := jI 3) C_.1 C_.2.1 dL_three_529 rfl ?_
  refine lr_comparer C_ hf hcs hr hI ⟨by decide, by decide⟩ ⟨by decide, by decide⟩ hl.1 (Nat.le_of_ble_eq_true rfl) dL_three_530 (fun z H locs hr hI => ?_)
  refine lv_iconst (v := jI 2) C_.1 C_.2.1 dL_three_533 rfl ?_
  refine lj_ne (tgt := 631) C_.1 C_.2.1 ⟨by decide, by decide⟩ ⟨by decide, by decide⟩ dL_three_534 (by decide) (fun q => by omega) (fun _ => ?_)
  refine lv_aload_n C_.1 C_.2.1 dL_three_537 rfl (lv_at hl 0 rfl) ?_
  refine lv_iconst (v := jI 1) C_.1 C_.2.1 dL_three_538 rfl ?_
  refine lr_run C_ hf hcs (by omega) hr hI ⟨by decide, by decide⟩ hl.1 (Nat.le_of_ble_eq_true rfl) dL_three_539 (fun z H locs hr hI => ?_)
  refine lv_iconst (v := jI 1) C_.1 C_.2.1 dL_three_542 rfl ?_
  refine lj_ne (tgt := 631) C_.1 C_.2.1 ⟨by decide, by decide⟩ ⟨by decide, by decide⟩ dL_three_543 (by decide) (fun q => by omega) (fun _ => ?_)
  refine lv_aload_n C_.1 C_.2.1 dL_three_546 rfl (lv_at hl 0 rfl) ?_
  refine lv_iconst (v := jI 0) C_.1 C_.2.1 dL_three_547 rfl ?_
  refine lv_iconst (v := jI 3) C_.1 C_.2.1 dL_three_548 rfl ?_
  refine lr_comparer C_ hf hcs hr hI ⟨by decide, by decide⟩ ⟨by decide, by decide⟩ hl.1 (Nat.le_of_ble_eq_true rfl) dL_three_549 (fun z H locs hr hI => ?_)
  refine lj_if_ne (tgt := 631) C_.1 C_.2.1 ⟨by decide, by decide⟩ dL_three_552 (by decide) (fun q => by omega) (fun _ => ?_)
  refine lv_aload_n C_.1 C_.2.1 dL_three_555 rfl (lv_at hl 0 rfl) ?_
  refine lv_iconst (v := jI 0) C_.1 C_.2.1 dL_three_556 rfl ?_
  refine lv_iconst (v := jI 2) C_.1 C_.2.1 dL_three_557 rfl ?_
  refine lr_comparer C_ hf hcs hr hI ⟨by decide, by decide⟩ ⟨by decide, by decide⟩ hl.1 (Nat.le_of_ble_eq_true rfl) dL_three_558 (fun z H locs hr hI => ?_)
  refine lv_iconst (v := jI 2) C_.1 C_.2.1 dL_three_561 rfl ?_
  refine lj_ne (tgt := 631) C_.1 C_.2.1 ⟨by decide, by decide⟩ ⟨by decide, by decide⟩ dL_three_562 (by decide) (fun q => by omega) (fun _ => ?_)
  refine lv_aload_n C_.1 C_.2.1 dL_three_565 rfl (lv_at hl 0 rfl) ?_
  refine lv_iconst (v := jI 0) C_.1 C_.2.1 dL_three_566 rfl ?_
  refine lr_ringsIn C_ hf hcs hr hI ⟨by decide, by decide⟩ hl.1 (Nat.le_of_ble_eq_true rfl) dL_three_567 (fun z H locs hr hI => ?_)
  refine lv_iconst (v := jI 2) C_.1 C_.2.1 dL_three_570 rfl ?_
  refine lj_ne (tgt := 631) C_.1 C_.2.1 ⟨by decide, by decide⟩ ⟨by decide, by decide⟩ dL_three_571 (by decide) (fun q => by omega) (fun _ => ?_)
  refine lv_aload_n C_.1 C_.2.1 dL_three_574 rfl (lv_at hl 0 rfl) ?_
  refine lv_iconst (v := jI 2) C_.1 C_.2.1 dL_three_575 rfl ?_
  refine lr_run C_ hf hcs (by omega) hr hI ⟨by decide, by decide⟩ hl.1 (Nat.le_of_ble_eq_true rfl) dL_three_576 (fun z H locs hr hI => ?_)
  refine lv_iconst (v := jI 1) C_.1 C_.2.1 dL_three_579 rfl ?_
  refine lj_ne (tgt := 631) C_.1 C_.2.1 ⟨by decide, by decide⟩ ⟨by decide, by decide⟩ dL_three_580 (by decide) (fun q => by omega) (fun _ => ?_)
  refine lv_aload_n C_.1 C_.2.1 dL_three_583 rfl (lv_at hl 0 rfl) ?_
  refine lv_bipush (v := jI 7) C_.1 C_.2.1 dL_three_584 (by decide) ?_
  refine lr_count C_ hf hcs hr hI ⟨by decide, by decide⟩ hl.1 (Nat.le_of_ble_eq_true rfl) dL_three_586 (fun z H locs hr hI => ?_)
  refine lv_iconst (v := jI 1) C_.1 C_.2.1 dL_three_589 rfl ?_
  refine lj_ne (tgt := 631) C_.1 C_.2.1 ⟨by decide, by decide⟩ ⟨by decide, by decide⟩ dL_three_590 (by decide) (fun q => by omega) (fun _ => ?_)
  refine lv_aload_n C_.1 C_.2.1 dL_three_593 rfl (lv_at hl 0 rfl) ?_
  refine lv_bipush (v := jI 8) C_.1 C_.2.1 dL_three_594 (by decide) ?_
  refine lr_count C_ hf hcs hr hI ⟨by decide, by decide⟩ hl.1 (Nat.le_of_ble_eq_true rfl) dL_three_596 (fun z H locs hr hI => ?_)
  refine lv_iconst (v := jI 1) C_.1 C_.2.1 dL_three_599 rfl ?_
  refine lj_ne (tgt := 631) C_.1 C_.2.1 ⟨by decide, by decide⟩ ⟨by decide, by decide⟩ dL_three_600 (by decide) (fun q => by omega) (fun _ => ?_)
  refine lv_aload_n C_.1 C_.2.1 dL_three_603 rfl (lv_at hl 0 rfl) ?_
  refine lv_bipush (v := jI 6) C_.1 C_.2.1 dL_three_604 (by decide) ?_
  refine lr_count C_ hf hcs hr hI ⟨by decide, by decide⟩ hl.1 (Nat.le_of_ble_eq_true rfl) dL_three_606 (fun z H locs hr hI => ?_)
  refine lv_iconst (v := jI 3) C_.1 C_.2.1 dL_three_609 rfl ?_
  refine lj_ne (tgt := 631) C_.1 C_.2.1 ⟨by decide, by decide⟩ ⟨by decide, by decide⟩ dL_three_610 (by decide) (fun q => by omega) (fun _ => ?_)
  refine lv_aload_n C_.1 C_.2.1 dL_three_613 rfl (lv_at hl 0 rfl) ?_
  refine lv_iconst (v := jI 2) C_.1 C_.2.1 dL_three_614 rfl ?_
  refine lr_count C_ hf hcs hr hI ⟨by decide, by decide⟩ hl.1 (Nat.le_of_ble_eq_true rfl) dL_three_615 (fun z H locs hr hI => ?_)
  refine lj_if_ne (tgt := 631) C_.1 C_.2.1 ⟨by decide, by decide⟩ dL_three_618 (by decide) (fun q => by omega) (fun _ => ?_)
  refine lv_aload_n C_.1 C_.2.1 dL_three_621 rfl (lv_at hl 0 rfl) ?_
  refine lv_bipush (v := jI 10) C_.1 C_.2.1 dL_three_622 (by decide) ?_
  refine lr_count C_ hf hcs hr hI ⟨by decide, by decide⟩ hl.1 (Nat.le_of_ble_eq_true rfl) dL_three_624 (fun z H locs hr hI => ?_)
  refine lv_iconst (v := jI 5) C_.1 C_.2.1 dL_three_627 rfl ?_
  refine lj_eq (tgt := 633) C_.1 C_.2.1 ⟨by decide, by decide⟩ ⟨by decide, by decide⟩ dL_three_628 (by decide) (fun _ => ?_) (fun q => by omega)
  refine lv_aload_n C_.1 C_.2.1 dL_three_633 rfl (lv_at hl 0 rfl) ?_
  refine lv_bipush (v := jI 16) C_.1 C_.2.1 dL_three_634 (by decide) ?_
  refine lr_count C_ hf hcs hr hI ⟨by decide, by decide⟩ hl.1 (Nat.le_of_ble_eq_true rfl) dL_three_636 (fun z H locs hr hI => ?_)
  refine lv_iconst (v := jI 4) C_.1 C_.2.1 dL_three_639 rfl ?_
  refine lj_ne (tgt := 798) C_.1 C_.2.1 ⟨by decide, by decide⟩ ⟨by decide, by decide⟩ dL_three_640 (by decide) (fun q => by omega) (fun _ => ?_)
  refine lv_aload_n C_.1 C_.2.1 dL_three_643 rfl (lv_at hl 0 rfl) ?_
  refine lr_undo C_ hf hcs hr hI hl.1 (Nat.le_of_ble_eq_true rfl) dL_three_644 (fun z H locs hr hI => ?_)
  refine lv_iconst (v := jI 3) C_.1 C_.2.1 dL_three_647 rfl ?_
  refine lj_ne (tgt := 798) C_.1 C_.2.1 ⟨by decide, by decide⟩ ⟨by decide, by decide⟩ dL_three_648 (by decide) (fun q => by omega) (fun _ => ?_)
  refine lv_aload_n C_.1 C_.2.1 dL_three_651 rfl (lv_at hl 0 rfl) ?_
  refine lv_iconst (v := jI 0) C_.1 C_.2.1 dL_three_652 rfl ?_
  refine lv_iconst (v := jI 0) C_.1 C_.2.1 dL_three_653 rfl ?_
  refine lr_alarm C_ hf hcs hr hI ⟨by decide, by decide⟩ ⟨by decide, by decide⟩ hl.1 (Nat.le_of_ble_eq_true rfl) dL_three_654 (fun z H locs hr hI => ?_)
  refine lv_iconst (v := jI 5) C_.1 C_.2.1 dL_three_657 rfl ?_
  refine lj_ne (tgt := 798) C_.1 C_.2.1 ⟨by decide, by decide⟩ ⟨by decide, by decide⟩ dL_three_658 (by decide) (fun q => by omega) (fun _ => ?_)
  refine lv_aload_n C_.1 C_.2.1 dL_three_661 rfl (lv_at hl 0 rfl) ?_
  refine lv_iconst (v := jI 0) C_.1 C_.2.1 dL_three_662 rfl ?_
  refine lv_iconst (v := jI 2) C_.1 C_.2.1 dL_three_663 rfl ?_
  refine lr_move C_ hf hcs hr hI ⟨by decide, by decide⟩ ⟨by decide, by decide⟩ hl.1 (Nat.le_of_ble_eq_true rfl) dL_three_664 (fun z H locs hr hI => ?_)
  refine lv_sipush (v := jI (-1004)) C_.1 C_.2.1 dL_three_667 (by decide) ?_
  refine lj_ne (tgt := 798) C_.1 C_.2.1 ⟨by decide, by decide⟩ ⟨by decide, by decide⟩ dL_three_670 (by decide) (fun q => by omega) (fun _ => ?_)
  refine lv_aload_n C_.1 C_.2.1 dL_three_673 rfl (lv_at hl 0 rfl) ?_
  refine lv_iconst (v := jI 0) C_.1 C_.2.1 dL_three_674 rfl ?_
  refine lv_iconst (v := jI 5) C_.1 C_.2.1 dL_three_675 rfl ?_
  refine lr_move C_ hf hcs hr hI ⟨by decide, by decide⟩ ⟨by decide, by decide⟩ hl.1 (Nat.le_of_ble_eq_true rfl) dL_three_676 (fun z H locs hr hI => ?_)
  refine lv_sipush (v := jI (-1005)) C_.1 C_.2.1 dL_three_679 (by decide) ?_
  refine lj_ne (tgt := 798) C_.1 C_.2.1 ⟨by decide, by decide⟩ ⟨by decide, by decide⟩ dL_three_682 (by decide) (fun q => by omega) (fun _ => ?_)
  refine lv_aload_n C_.1 C_.2.1 dL_three_685 rfl (lv_at hl 0 rfl) ?_
  refine lv_iconst (v := jI 0) C_.1 C_.2.1 dL_three_686 rfl ?_
  refine lv_bipush (v := jI 9) C_.1 C_.2.1 dL_three_687 (by decide) ?_
  refine lr_move C_ hf hcs hr hI ⟨by decide, by decide⟩ ⟨by decide, by decide⟩ hl.1 (Nat.le_of_ble_eq_true rfl) dL_three_689 (fun z H locs hr hI => ?_)
  refine lv_iconst (v := jI 5) C_.1 C_.2.1 dL_three_692 rfl ?_
  refine lj_ne (tgt := 798) C_.1 C_.2.1 ⟨by decide, by decide⟩ ⟨by decide, by decide⟩ dL_three_693 (by decide) (fun q => by omega) (fun _ => ?_)
  refine lv_aload_n C_.1 C_.2.1 dL_three_696 rfl (lv_at hl 0 rfl) ?_
  refine lv_iconst (v := jI 0) C_.1 C_.2.1 dL_three_697 rfl ?_
  refine lv_iconst (v := jI 0) C_.1 C_.2.1 dL_three_698 rfl ?_
  refine lr_comparer C_ hf hcs hr hI ⟨by decide, by decide⟩ ⟨by decide, by decide⟩ hl.1 (Nat.le_of_ble_eq_true rfl) dL_three_699 (fun z H locs hr hI => ?_)
  refine lv_bipush (v := jI 9) C_.1 C_.2.1 dL_three_702 (by decide) ?_
  refine lj_ne (tgt := 798) C_.1 C_.2.1 ⟨by decide, by decide⟩ ⟨by decide, by decide⟩ dL_three_704 (by decide) (fun q => by omega) (fun _ => ?_)
  refine lv_aload_n C_.1 C_.2.1 dL_three_707 rfl (lv_at hl 0 rfl) ?_
  refine lv_iconst (v := jI 0) C_.1 C_.2.1 dL_three_708 rfl ?_
  refine lv_iconst (v := jI 2) C_.1 C_.2.1 dL_three_709 rfl ?_
  refine lr_comparer C_ hf hcs hr hI ⟨by decide, by decide⟩ ⟨by decide, by decide⟩ hl.1 (Nat.le_of_ble_eq_true rfl) dL_three_710 (fun z H locs hr hI => ?_)
  refine lv_iconst (v := jI 2) C_.1 C_.2.1 dL_three_713 rfl ?_
  refine lj_ne (tgt := 798) C_.1 C_.2.1 ⟨by decide, by decide⟩ ⟨by decide, by decide⟩ dL_three_714 (by decide) (fun q => by omega) (fun _ => ?_)
  refine lv_aload_n C_.1 C_.2.1 dL_three_717 rfl (lv_at hl 0 rfl) ?_
  refine lr_keep C_ hf hcs hr hI hl.1 (Nat.le_of_ble_eq_true rfl) dL_three_718 (fun z H locs hr hI => ?_)
  refine lv_iconst (v := jI 4) C_.1 C_.2.1 dL_three_721 rfl ?_
  refine lj_ne (tgt := 798) C_.1 C_.2.1 ⟨by decide, by decide⟩ ⟨by decide, by decide⟩ dL_three_722 (by decide) (fun q => by omega) (fun _ => ?_)
  refine lv_aload_n C_.1 C_.2.1 dL_three_725 rfl (lv_at hl 0 rfl) ?_
  refine lv_iconst (v := jI 0) C_.1 C_.2.1 dL_three_726 rfl ?_
  refine lr_cancel C_ hf hcs hr hI ⟨by decide, by decide⟩ hl.1 (Nat.le_of_ble_eq_true rfl) dL_three_727 (fun z H locs hr hI => ?_)
  refine lj_if_ne (tgt := 798) C_.1 C_.2.1 ⟨by decide, by decide⟩ dL_three_730 (by decide) (fun q => by omega) (fun _ => ?_)
  refine lv_aload_n C_.1 C_.2.1 dL_three_733 rfl (lv_at hl 0 rfl) ?_
  refine lv_iconst (v := jI 0) C_.1 C_.2.1 dL_three_734 rfl ?_
  refine lr_cancel C_ hf hcs hr hI ⟨by decide, by decide⟩ hl.1 (Nat.le_of_ble_eq_true rfl) dL_three_735 (fun z H locs hr hI => ?_)
  refine lv_sipush (v := jI (-1001)) C_.1 C_.2.1 dL_three_738 (by decide) ?_
  refine lj_ne (tgt := 798) C_.1 C_.2.1 ⟨by decide, by decide⟩ ⟨by decide, by decide⟩ dL_three_741 (by decide) (fun q => by omega) (fun _ => ?_)
  refine lv_aload_n C_.1 C_.2.1 dL_three_744 rfl (lv_at hl 0 rfl) ?_
  refine lv_iconst (v := jI 5) C_.1 C_.2.1 dL_three_745 rfl ?_
  refine lr_count C_ hf hcs hr hI ⟨by decide, by decide⟩ hl.1 (Nat.le_of_ble_eq_true rfl) dL_three_746 (fun z H locs hr hI => ?_)
  refine lv_iconst (v := jI 1) C_.1 C_.2.1 dL_three_749 rfl ?_
  refine lj_ne (tgt := 798) C_.1 C_.2.1 ⟨by decide, by decide⟩ ⟨by decide, by decide⟩ dL_three_750 (by decide) (fun q => by omega) (fun _ => ?_)
  refine lv_aload_n C_.1 C_.2.1 dL_three_753 rfl (lv_at hl 0 rfl) ?_
  refine lv_iconst (v := jI 0) C_.1 C_.2.1 dL_three_754 rfl ?_
  refine lv_iconst (v := jI 2) C_.1 C_.2.1 dL_three_755 rfl ?_
  refine lr_comparer C_ hf hcs hr hI ⟨by decide, by decide⟩ ⟨by decide, by decide⟩ hl.1 (Nat.le_of_ble_eq_true rfl) dL_three_756 (fun z H locs hr hI => ?_)
  refine lj_if_ne (tgt := 798) C_.1 C_.2.1 ⟨by decide, by decide⟩ dL_three_759 (by decide) (fun q => by omega) (fun _ => ?_)
  refine lv_aload_n C_.1 C_.2.1 dL_three_762 rfl (lv_at hl 0 rfl) ?_
  refine lv_iconst (v := jI 3) C_.1 C_.2.1 dL_three_763 rfl ?_
  refine lv_iconst (v := jI 0) C_.1 C_.2.1 dL_three_764 rfl ?_
  refine lv_iconst (v := jI 0) C_.1 C_.2.1 dL_three_765 rfl ?_
  refine lr_set C_ hf hcs hr hI ⟨by decide, by decide⟩ ⟨by decide, by decide⟩ ⟨by decide, by decide⟩ hl.1 (Nat.le_of_ble_eq_true rfl) dL_three_766 (fun z H locs hr hI => ?_)
  refine lv_sipush (v := jI (-1004)) C_.1 C_.2.1 dL_three_769 (by decide) ?_
  refine lj_ne (tgt := 798) C_.1 C_.2.1 ⟨by decide, by decide⟩ ⟨by decide, by decide⟩ dL_three_772 (by decide) (fun q => by omega) (fun _ => ?_)
  refine lv_aload_n C_.1 C_.2.1 dL_three_775 rfl (lv_at hl 0 rfl) ?_
  refine lr_restore C_ hf hcs hr hI hl.1 (Nat.le_of_ble_eq_true rfl) dL_three_776 (fun z H locs hr hI => ?_)
  refine lv_iconst (v := jI 4) C_.1 C_.2.1 dL_three_779 rfl ?_
  refine lj_ne (tgt := 798) C_.1 C_.2.1 ⟨by decide, by decide⟩ ⟨by decide, by decide⟩ dL_three_780 (by decide) (fun q => by omega) (fun _ => ?_)
  refine lv_aload_n C_.1 C_.2.1 dL_three_783 rfl (lv_at hl 0 rfl) ?_
  refine lv_iconst (v := jI 0) C_.1 C_.2.1 dL_three_784 rfl ?_
  refine lv_iconst (v := jI 0) C_.1 C_.2.1 dL_three_785 rfl ?_
  refine lr_alarm C_ hf hcs hr hI ⟨by decide, by decide⟩ ⟨by decide, by decide⟩ hl.1 (Nat.le_of_ble_eq_true rfl) dL_three_786 (fun z H locs hr hI => ?_)
  refine lv_bipush (v := jI 9) C_.1 C_.2.1 dL_three_789 (by decide) ?_
  refine lj_ne (tgt := 798) C_.1 C_.2.1 ⟨by decide, by decide⟩ ⟨by decide, by decide⟩ dL_three_791 (by decide) (fun q => by omega) (fun _ => ?_)
  refine lv_iconst (v := jI 1) C_.1 C_.2.1 dL_three_794 rfl ?_
  refine lv_goto (tgt := 799) C_.1 C_.2.1 dL_three_795 (by decide) ?_
  exact lk_zend C_ hI.2.1 trivial dL_three_799
