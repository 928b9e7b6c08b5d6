/-! ===== shared ===== -/
set_option maxRecDepth 100000 in
set_option maxHeartbeats 20000000 in
theorem met_shared {l : Launch} {D : va_G} {aC : Nat → Nat} {B : Nat} : Met l yL_shared (lWs yL_shared cL_shared 1 (some .boolean)) (rmL 10 218 1933) (va_Pc [] (fun U => U.heap.size = B ∧ cx_V D aC U)) (qI (fun x => x = jI 1) (fun _ => True) (fun q => B ≤ q)) 218 1933 (fun q => B ≤ q) := by
  refine lk_met (P := fun H => H.size = B) (by decide +kernel) rfl (Nat.le_of_ble_eq_true rfl) (fun p e s m args below meth c ls C_ hl hB => ?_)
  have hl : lv_has ls 1 [] := hl
  have hf : 8 ≤ (rmL 10 218 1933).frames ∧ 304 ≤ (rmL 10 218 1933).locals := ⟨by decide, by decide⟩
  have hf5 : 5 ≤ (rmL 10 218 1933).frames ∧ 304 ≤ (rmL 10 218 1933).locals := ⟨by decide, by decide⟩
  have hcs : 218 ≤ (rmL 10 218 1933).cells ∧ 1933 ≤ (rmL 10 218 1933).slots := ⟨Nat.le_refl _, Nat.le_refl _⟩
  have hr := tr_shared_ok
  refine lk_new C_ hf5 hB va_S.rf (fun q h => h) (Nat.le_of_ble_eq_true rfl) (Nat.le_of_ble_eq_true rfl) hl.1 (Nat.le_of_ble_eq_true rfl) dL_shared_0 dL_shared_3 dL_shared_4 (fun H locs hO hsz hold hS => ?_)
  have hI : oI D aC B (fun q => B ≤ q) (fun _ => True) s.heap H locs (eZ kZ0) 0 := ⟨by rw [kZ0_e]; exact hO, hS, ⟨by rw [kZ0_e]; exact Z0_ZI ⟨by decide, by decide⟩ ⟨by decide, by decide⟩, by decide⟩, trivial, stab_t, fun q h => (LA_ge h).1⟩
  refine lv_astore_n (lv' := [(0, .ref B)]) C_.1 C_.2.1 dL_shared_7 rfl hl (by decide) rfl (fun ls hl => ?_)
  refine lv_aload_n C_.1 C_.2.1 dL_shared_8 rfl (lv_at hl 0 rfl) ?_
  refine lv_iconst (v := jI 3) C_.1 C_.2.1 dL_shared_9 rfl ?_
  refine lr_setWindow C_ hf hcs hr hI ⟨by decide, by decide⟩ hl.1 (Nat.le_of_ble_eq_true rfl) dL_shared_10 (fun z H locs hr hI => ?_)
  refine lj_if_ne (tgt := 242) C_.1 C_.2.1 ⟨by decide, by decide⟩ dL_shared_13 (by decide) (fun q => by omega) (fun _ => ?_)
  refine lv_aload_n C_.1 C_.2.1 dL_shared_16 rfl (lv_at hl 0 rfl) ?_
  refine lv_bipush (v := jI 10) C_.1 C_.2.1 dL_shared_17 (by decide) ?_
  refine lv_iconst (v := jI 5) C_.1 C_.2.1 dL_shared_19 rfl ?_
  refine lv_iconst (v := jI 1) C_.1 C_.2.1 dL_shared_20 rfl ?_
  refine lr_set C_ hf hcs hr hI ⟨by decide, by decide⟩ ⟨by decide, by decide⟩ ⟨by decide, by decide⟩ hl.1 (Nat.le_of_ble_eq_true rfl) dL_shared_21 (fun z H locs hr hI => ?_)
  refine lj_if_ne (tgt := 242) C_.1 C_.2.1 ⟨by decide, by decide⟩ dL_shared_24 (by decide) (fun q => by omega) (fun _ => ?_)
  refine lv_aload_n C_.1 C_.2.1 dL_shared_27 rfl (lv_at hl 0 rfl) ?_
  refine lv_bipush (v := jI 12) C_.1 C_.2.1 dL_shared_28 (by decide) ?_
  refine lv_iconst (v := jI 0) C_.1 C_.2.1 dL_shared_30 rfl ?_
  refine lv_iconst (v := jI 0) C_.1 C_.2.1 dL_shared_31 rfl ?_
  refine lr_set C_ hf hcs hr hI ⟨by decide, by decide⟩ ⟨by decide, by decide⟩ ⟨by decide, by decide⟩ hl.1 (Nat.le_of_ble_eq_true rfl) dL_shared_32 (fun z H locs hr hI => ?_)
  refine lv_iconst (v := jI 1) C_.1 C_.2.1 dL_shared_35 rfl ?_
  refine lj_ne (tgt := 242) C_.1 C_.2.1 ⟨by decide, by decide⟩ ⟨by decide, by decide⟩ dL_shared_36 (by decide) (fun q => by omega) (fun _ => ?_)
  refine lv_aload_n C_.1 C_.2.1 dL_shared_39 rfl (lv_at hl 0 rfl) ?_
  refine lv_iconst (v := jI 5) C_.1 C_.2.1 dL_shared_40 rfl ?_
  refine lr_count C_ hf hcs hr hI ⟨by decide, by decide⟩ hl.1 (Nat.le_of_ble_eq_true rfl) dL_shared_41 (fun z H locs hr hI => ?_)
  refine lv_iconst (v := jI 1) C_.1 C_.2.1 dL_shared_44 rfl ?_
  refine lj_ne (tgt := 242) C_.1 C_.2.1 ⟨by decide, by decide⟩ ⟨by decide, by decide⟩ dL_shared_45 (by decide) (fun q => by omega) (fun _ => ?_)
  refine lv_aload_n C_.1 C_.2.1 dL_shared_48 rfl (lv_at hl 0 rfl) ?_
  refine lv_iconst (v := jI 0) C_.1 C_.2.1 dL_shared_49 rfl ?_
  refine lv_iconst (v := jI 0) C_.1 C_.2.1 dL_shared_50 rfl ?_
  refine lr_comparer C_ hf hcs hr hI ⟨by decide, by decide⟩ ⟨by decide, by decide⟩ hl.1 (Nat.le_of_ble_eq_true rfl) dL_shared_51 (fun z H locs hr hI => ?_)
  refine lv_bipush (v := jI 12) C_.1 C_.2.1 dL_shared_54 (by decide) ?_
  refine lj_ne (tgt := 242) C_.1 C_.2.1 ⟨by decide, by decide⟩ ⟨by decide, by decide⟩ dL_shared_56 (by decide) (fun q => by omega) (fun _ => ?_)
  refine lv_aload_n C_.1 C_.2.1 dL_shared_59 rfl (lv_at hl 0 rfl) ?_
  refine lv_iconst (v := jI 0) C_.1 C_.2.1 dL_shared_60 rfl ?_
  refine lv_iconst (v := jI 1) C_.1 C_.2.1 dL_shared_61 rfl ?_
  refine lr_comparer C_ hf hcs hr hI ⟨by decide, by decide⟩ ⟨by decide, by decide⟩ hl.1 (Nat.le_of_ble_eq_true rfl) dL_shared_62 (fun z H locs hr hI => ?_)
  refine lv_iconst (v := jI 2) C_.1 C_.2.1 dL_shared_65 rfl ?_
  refine lj_ne (tgt := 242) C_.1 C_.2.1 ⟨by decide, by decide⟩ ⟨by decide, by decide⟩ dL_shared_66 (by decide) (fun q => by omega) (fun _ => ?_)
  refine lv_aload_n C_.1 C_.2.1 dL_shared_69 rfl (lv_at hl 0 rfl) ?_
  refine lv_iconst (v := jI 0) C_.1 C_.2.1 dL_shared_70 rfl ?_
  refine lv_iconst (v := jI 3) C_.1 C_.2.1 dL_shared_71 rfl ?_
  refine lr_comparer C_ hf hcs hr hI ⟨by decide, by decide⟩ ⟨by decide, by decide⟩ hl.1 (Nat.le_of_ble_eq_true rfl) dL_shared_72 (fun z H locs hr hI => ?_)
  refine lj_if_ne (tgt := 242) C_.1 C_.2.1 ⟨by decide, by decide⟩ dL_shared_75 (by decide) (fun q => by omega) (fun _ => ?_)
  refine lv_aload_n C_.1 C_.2.1 dL_shared_78 rfl (lv_at hl 0 rfl) ?_
  refine lv_bipush (v := jI 8) C_.1 C_.2.1 dL_shared_79 (by decide) ?_
  refine lv_iconst (v := jI 0) C_.1 C_.2.1 dL_shared_81 rfl ?_
  refine lv_iconst (v := jI 2) C_.1 C_.2.1 dL_shared_82 rfl ?_
  refine lr_set C_ hf hcs hr hI ⟨by decide, by decide⟩ ⟨by decide, by decide⟩ ⟨by decide, by decide⟩ hl.1 (Nat.le_of_ble_eq_true rfl) dL_shared_83 (fun z H locs hr hI => ?_)
  refine lv_iconst (v := jI 2) C_.1 C_.2.1 dL_shared_86 rfl ?_
  refine lj_ne (tgt := 242) C_.1 C_.2.1 ⟨by decide, by decide⟩ ⟨by decide, by decide⟩ dL_shared_87 (by decide) (fun q => by omega) (fun _ => ?_)
  refine lv_aload_n C_.1 C_.2.1 dL_shared_90 rfl (lv_at hl 0 rfl) ?_
  refine lv_iconst (v := jI 1) C_.1 C_.2.1 dL_shared_91 rfl ?_
  refine lv_iconst (v := jI 0) C_.1 C_.2.1 dL_shared_92 rfl ?_
  refine lr_comparer C_ hf hcs hr hI ⟨by decide, by decide⟩ ⟨by decide, by decide⟩ hl.1 (Nat.le_of_ble_eq_true rfl) dL_shared_93 (fun z H locs hr hI => ?_)
  refine lv_bipush (v := jI 8) C_.1 C_.2.1 dL_shared_96 (by decide) ?_
  refine lj_ne (tgt := 242) C_.1 C_.2.1 ⟨by decide, by decide⟩ ⟨by decide, by decide⟩ dL_shared_98 (by decide) (fun q => by omega) (fun _ => ?_)
  refine lv_aload_n C_.1 C_.2.1 dL_shared_101 rfl (lv_at hl 0 rfl) ?_
  refine lv_iconst (v := jI 0) C_.1 C_.2.1 dL_shared_102 rfl ?_
  refine lr_ringsIn C_ hf hcs hr hI ⟨by decide, by decide⟩ hl.1 (Nat.le_of_ble_eq_true rfl) dL_shared_103 (fun z H locs hr hI => ?_)
  refine lv_bipush (v := jI 12) C_.1 C_.2.1 dL_shared_106 (by decide) ?_
  refine lj_ne (tgt := 242) C_.1 C_.2.1 ⟨by decide, by decide⟩ ⟨by decide, by decide⟩ dL_shared_108 (by decide) (fun q => by omega) (fun _ => ?_)
  refine lv_aload_n C_.1 C_.2.1 dL_shared_111 rfl (lv_at hl 0 rfl) ?_
  refine lv_bipush (v := jI 12) C_.1 C_.2.1 dL_shared_112 (by decide) ?_
  refine lr_run C_ hf hcs (by omega) hr hI ⟨by decide, by decide⟩ hl.1 (Nat.le_of_ble_eq_true rfl) dL_shared_114 (fun z H locs hr hI => ?_)
  refine lv_iconst (v := jI 3) C_.1 C_.2.1 dL_shared_117 rfl ?_
  refine lj_ne (tgt := 242) C_.1 C_.2.1 ⟨by decide, by decide⟩ ⟨by decide, by decide⟩ dL_shared_118 (by decide) (fun q => by omega) (fun _ => ?_)
  refine lv_aload_n C_.1 C_.2.1 dL_shared_121 rfl (lv_at hl 0 rfl) ?_
  refine lv_bipush (v := jI 7) C_.1 C_.2.1 dL_shared_122 (by decide) ?_
  refine lr_count C_ hf hcs hr hI ⟨by decide, by decide⟩ hl.1 (Nat.le_of_ble_eq_true rfl) dL_shared_124 (fun z H locs hr hI => ?_)
  refine lv_iconst (v := jI 2) C_.1 C_.2.1 dL_shared_127 rfl ?_
  refine lj_ne (tgt := 242) C_.1 C_.2.1 ⟨by decide, by decide⟩ ⟨by decide, by decide⟩ dL_shared_128 (by decide) (fun q => by omega) (fun _ => ?_)
  refine lv_aload_n C_.1 C_.2.1 dL_shared_131 rfl (lv_at hl 0 rfl) ?_
  refine lv_bipush (v := jI 8) C_.1 C_.2.1 dL_shared_132 (by decide) ?_
  refine lr_count C_ hf hcs hr hI ⟨by decide, by decide⟩ hl.1 (Nat.le_of_ble_eq_true rfl) dL_shared_134 (fun z H locs hr hI => ?_)
  refine lv_iconst (v := jI 2) C_.1 C_.2.1 dL_shared_137 rfl ?_
  refine lj_ne (tgt := 242) C_.1 C_.2.1 ⟨by decide, by decide⟩ ⟨by decide, by decide⟩ dL_shared_138 (by decide) (fun q => by omega) (fun _ => ?_)
  refine lv_aload_n C_.1 C_.2.1 dL_shared_141 rfl (lv_at hl 0 rfl) ?_
  refine lv_iconst (v := jI 0) C_.1 C_.2.1 dL_shared_142 rfl ?_
  refine lv_iconst (v := jI 0) C_.1 C_.2.1 dL_shared_143 rfl ?_
  refine lr_ring C_ hf hcs hr hI ⟨by decide, by decide⟩ ⟨by decide, by decide⟩ hl.1 (Nat.le_of_ble_eq_true rfl) dL_shared_144 (fun z H locs hr hI => ?_)
  refine lv_iconst (v := jI 1) C_.1 C_.2.1 dL_shared_147 rfl ?_
  refine lj_ne (tgt := 242) C_.1 C_.2.1 ⟨by decide, by decide⟩ ⟨by decide, by decide⟩ dL_shared_148 (by decide) (fun q => by omega) (fun _ => ?_)
  refine lv_aload_n C_.1 C_.2.1 dL_shared_151 rfl (lv_at hl 0 rfl) ?_
  refine lv_iconst (v := jI 1) C_.1 C_.2.1 dL_shared_152 rfl ?_
  refine lv_iconst (v := jI 0) C_.1 C_.2.1 dL_shared_153 rfl ?_
  refine lr_ring C_ hf hcs hr hI ⟨by decide, by decide⟩ ⟨by decide, by decide⟩ hl.1 (Nat.le_of_ble_eq_true rfl) dL_shared_154 (fun z H locs hr hI => ?_)
  refine lj_if_ne (tgt := 242) C_.1 C_.2.1 ⟨by decide, by decide⟩ dL_shared_157 (by decide) (fun q => by omega) (fun _ => ?_)
  refine lv_aload_n C_.1 C_.2.1 dL_shared_160 rfl (lv_at hl 0 rfl) ?_
  refine lv_iconst (v := jI 1) C_.1 C_.2.1 dL_shared_161 rfl ?_
  refine lv_iconst (v := jI 2) C_.1 C_.2.1 dL_shared_162 rfl ?_
  refine lr_ring C_ hf hcs hr hI ⟨by decide, by decide⟩ ⟨by decide, by decide⟩ hl.1 (Nat.le_of_ble_eq_true rfl) dL_shared_163 (fun z H locs hr hI => ?_)
  refine lv_iconst (v := jI 2) C_.1 C_.2.1 dL_shared_166 rfl ?_
  refine lj_ne (tgt := 242) C_.1 C_.2.1 ⟨by decide, by decide⟩ ⟨by decide, by decide⟩ dL_shared_167 (by decide) (fun q => by omega) (fun _ => ?_)
  refine lv_aload_n C_.1 C_.2.1 dL_shared_170 rfl (lv_at hl 0 rfl) ?_
  refine lv_iconst (v := jI 2) C_.1 C_.2.1 dL_shared_171 rfl ?_
  refine lv_iconst (v := jI 0) C_.1 C_.2.1 dL_shared_172 rfl ?_
  refine lr_ring C_ hf hcs hr hI ⟨by decide, by decide⟩ ⟨by decide, by decide⟩ hl.1 (Nat.le_of_ble_eq_true rfl) dL_shared_173 (fun z H locs hr hI => ?_)
  refine lv_iconst (v := jI 2) C_.1 C_.2.1 dL_shared_176 rfl ?_
  refine lj_ne (tgt := 242) C_.1 C_.2.1 ⟨by decide, by decide⟩ ⟨by decide, by decide⟩ dL_shared_177 (by decide) (fun q => by omega) (fun _ => ?_)
  refine lv_aload_n C_.1 C_.2.1 dL_shared_180 rfl (lv_at hl 0 rfl) ?_
  refine lv_iconst (v := jI 3) C_.1 C_.2.1 dL_shared_181 rfl ?_
  refine lv_iconst (v := jI 0) C_.1 C_.2.1 dL_shared_182 rfl ?_
  refine lr_ring C_ hf hcs hr hI ⟨by decide, by decide⟩ ⟨by decide, by decide⟩ hl.1 (Nat.le_of_ble_eq_true rfl) dL_shared_183 (fun z H locs hr hI => ?_)
  refine lv_sipush (v := jI (-1005)) C_.1 C_.2.1 dL_shared_186 (by decide) ?_
  refine lj_ne (tgt := 242) C_.1 C_.2.1 ⟨by decide, by decide⟩ ⟨by decide, by decide⟩ dL_shared_189 (by decide) (fun q => by omega) (fun _ => ?_)
  refine lv_aload_n C_.1 C_.2.1 dL_shared_192 rfl (lv_at hl 0 rfl) ?_
  refine lv_iconst (v := jI 0) C_.1 C_.2.1 dL_shared_193 rfl ?_
  refine lv_iconst (v := jI 0) C_.1 C_.2.1 dL_shared_194 rfl ?_
  refine lr_alarm C_ hf hcs hr hI ⟨by decide, by decide⟩ ⟨by decide, by decide⟩ hl.1 (Nat.le_of_ble_eq_true rfl) dL_shared_195 (fun z H locs hr hI => ?_)
  refine lv_bipush (v := jI 15) C_.1 C_.2.1 dL_shared_198 (by decide) ?_
  refine lj_ne (tgt := 242) C_.1 C_.2.1 ⟨by decide, by decide⟩ ⟨by decide, by decide⟩ dL_shared_200 (by decide) (fun q => by omega) (fun _ => ?_)
  refine lv_aload_n C_.1 C_.2.1 dL_shared_203 rfl (lv_at hl 0 rfl) ?_
  refine lv_iconst (v := jI 0) C_.1 C_.2.1 dL_shared_204 rfl ?_
  refine lv_iconst (v := jI 5) C_.1 C_.2.1 dL_shared_205 rfl ?_
  refine lr_alarm C_ hf hcs hr hI ⟨by decide, by decide⟩ ⟨by decide, by decide⟩ hl.1 (Nat.le_of_ble_eq_true rfl) dL_shared_206 (fun z H locs hr hI => ?_)
  refine lv_iconst (v := jI 1) C_.1 C_.2.1 dL_shared_209 rfl ?_
  refine lj_ne (tgt := 242) C_.1 C_.2.1 ⟨by decide, by decide⟩ ⟨by decide, by decide⟩ dL_shared_210 (by decide) (fun q => by omega) (fun _ => ?_)
  refine lv_aload_n C_.1 C_.2.1 dL_shared_213 rfl (lv_at hl 0 rfl) ?_
  refine lv_iconst (v := jI 0) C_.1 C_.2.1 dL_shared_214 rfl ?_
  refine lv_bipush (v := jI 6) C_.1 C_.2.1 dL_shared_215 (by decide) ?_
  refine lr_alarm C_ hf hcs hr hI ⟨by decide, by decide⟩ ⟨by decide, by decide⟩ hl.1 (Nat.le_of_ble_eq_true rfl) dL_shared_217 (fun z H locs hr hI => ?_)
  refine lv_iconst (v := jI 2) C_.1 C_.2.1 dL_shared_220 rfl ?_
  refine lj_ne (tgt := 242) C_.1 C_.2.1 ⟨by decide, by decide⟩ ⟨by decide, by decide⟩ dL_shared_221 (by decide) (fun q => by omega) (fun _ => ?_)
  refine lv_aload_n C_.1 C_.2.1 dL_shared_224 rfl (lv_at hl 0 rfl) ?_
  refine lv_iconst (v := jI 0) C_.1 C_.2.1 dL_shared_225 rfl ?_
  refine lv_iconst (v := jI 0) C_.1 C_.2.1 dL_shared_226 rfl ?_
  refine lr_comparer C_ hf hcs hr hI ⟨by decide, by decide⟩ ⟨by decide, by decide⟩ hl.1 (Nat.le_of_ble_eq_true rfl) dL_shared_227 (fun z H locs hr hI => ?_)
  refine lv_bipush (v := jI 15) C_.1 C_.2.1 dL_shared_230 (by decide) ?_
  refine lj_ne (tgt := 242) C_.1 C_.2.1 ⟨by decide, by decide⟩ ⟨by decide, by decide⟩ dL_shared_232 (by decide) (fun q => by omega) (fun _ => ?_)
  refine lv_aload_n C_.1 C_.2.1 dL_shared_235 rfl (lv_at hl 0 rfl) ?_
  refine lk_one (idx := 89) (n := 1) (As := [.ref B]) C_ (met_refused hI.2.2.1 (by omega)) wl_602 wl_603 wl_604 rfl rfl rfl ⟨rfl, by decide, by decide, by decide +kernel⟩ ⟨Nat.le_of_ble_eq_true rfl, Nat.le_of_ble_eq_true rfl⟩ rfl hcs hI hl.1 (Nat.le_of_ble_eq_true rfl) dL_shared_236 (fun H locs hI => ?_)
  refine lj_if_ne (tgt := 244) C_.1 C_.2.1 ⟨by decide, by decide⟩ dL_shared_239 (by decide) (fun _ => ?_) (fun q => by omega)
  refine lv_aload_n C_.1 C_.2.1 dL_shared_244 rfl (lv_at hl 0 rfl) ?_
  refine lv_bipush (v := jI 20) C_.1 C_.2.1 dL_shared_245 (by decide) ?_
  refine lr_correct C_ hf hcs hr hI ⟨by decide, by decide⟩ hl.1 (Nat.le_of_ble_eq_true rfl) dL_shared_247 (fun z H locs hr hI => ?_)
  refine lv_bipush (v := jI 32) C_.1 C_.2.1 dL_shared_250 (by decide) ?_
  refine lj_ne (tgt := 449) C_.1 C_.2.1 ⟨by decide, by decide⟩ ⟨by decide, by decide⟩ dL_shared_252 (by decide) (fun q => by omega) (fun _ => ?_)
  refine lv_aload_n C_.1 C_.2.1 dL_shared_255 rfl (lv_at hl 0 rfl) ?_
  refine lv_iconst (v := jI 0) C_.1 C_.2.1 dL_shared_256 rfl ?_
  refine lr_correct C_ hf hcs hr hI ⟨by decide, by decide⟩ hl.1 (Nat.le_of_ble_eq_true rfl) dL_shared_257 (fun z H locs hr hI => ?_)
  refine lv_sipush (v := jI (-1005)) C_.1 C_.2.1 dL_shared_260 (by decide) ?_
  refine lj_ne (tgt := 449) C_.1 C_.2.1 ⟨by decide, by decide⟩ ⟨by decide, by decide⟩ dL_shared_263 (by decide) (fun q => by omega) (fun _ => ?_)
  refine lv_aload_n C_.1 C_.2.1 dL_shared_266 rfl (lv_at hl 0 rfl) ?_
  refine lv_bipush (v := jI (-33)) C_.1 C_.2.1 dL_shared_267 (by decide) ?_
  refine lr_correct C_ hf hcs hr hI ⟨by decide, by decide⟩ hl.1 (Nat.le_of_ble_eq_true rfl) dL_shared_269 (fun z H locs hr hI => ?_)
  refine lv_sipush (v := jI (-1004)) C_.1 C_.2.1 dL_shared_272 (by decide) ?_
  refine lj_ne (tgt := 449) C_.1 C_.2.1 ⟨by decide, by decide⟩ ⟨by decide, by decide⟩ dL_shared_275 (by decide) (fun q => by omega) (fun _ => ?_)
  refine lv_aload_n C_.1 C_.2.1 dL_shared_278 rfl (lv_at hl 0 rfl) ?_
  refine lv_bipush (v := jI 6) C_.1 C_.2.1 dL_shared_279 (by decide) ?_
  refine lr_count C_ hf hcs hr hI ⟨by decide, by decide⟩ hl.1 (Nat.le_of_ble_eq_true rfl) dL_shared_281 (fun z H locs hr hI => ?_)
  refine lv_iconst (v := jI 3) C_.1 C_.2.1 dL_shared_284 rfl ?_
  refine lj_ne (tgt := 449) C_.1 C_.2.1 ⟨by decide, by decide⟩ ⟨by decide, by decide⟩ dL_shared_285 (by decide) (fun q => by omega) (fun _ => ?_)
  refine lv_aload_n C_.1 C_.2.1 dL_shared_288 rfl (lv_at hl 0 rfl) ?_
  refine lv_bipush (v := jI 15) C_.1 C_.2.1 dL_shared_289 (by decide) ?_
  refine lv_iconst (v := jI 0) C_.1 C_.2.1 dL_shared_291 rfl ?_
  refine lv_iconst (v := jI 0) C_.1 C_.2.1 dL_shared_292 rfl ?_
  refine lr_set C_ hf hcs hr hI ⟨by decide, by decide⟩ ⟨by decide, by decide⟩ ⟨by decide, by decide⟩ hl.1 (Nat.le_of_ble_eq_true rfl) dL_shared_293 (fun z H locs hr hI => ?_)
  refine lv_sipush (v := jI (-1004)) C_.1 C_.2.1 dL_shared_296 (by decide) ?_
  refine lj_ne (tgt := 449) C_.1 C_.2.1 ⟨by decide, by decide⟩ ⟨by decide, by decide⟩ dL_shared_299 (by decide) (fun q => by omega) (fun _ => ?_)
  refine lv_aload_n C_.1 C_.2.1 dL_shared_302 rfl (lv_at hl 0 rfl) ?_
  refine lv_iconst (v := jI 1) C_.1 C_.2.1 dL_shared_303 rfl ?_
  refine lr_run C_ hf hcs (by omega) hr hI ⟨by decide, by decide⟩ hl.1 (Nat.le_of_ble_eq_true rfl) dL_shared_304 (fun z H locs hr hI => ?_)
  refine lv_iconst (v := jI 1) C_.1 C_.2.1 dL_shared_307 rfl ?_
  refine lj_ne (tgt := 449) C_.1 C_.2.1 ⟨by decide, by decide⟩ ⟨by decide, by decide⟩ dL_shared_308 (by decide) (fun q => by omega) (fun _ => ?_)
  refine lv_aload_n C_.1 C_.2.1 dL_shared_311 rfl (lv_at hl 0 rfl) ?_
  refine lv_bipush (v := jI 9) C_.1 C_.2.1 dL_shared_312 (by decide) ?_
  refine lr_count C_ hf hcs hr hI ⟨by decide, by decide⟩ hl.1 (Nat.le_of_ble_eq_true rfl) dL_shared_314 (fun z H locs hr hI => ?_)
  refine lv_iconst (v := jI 3) C_.1 C_.2.1 dL_shared_317 rfl ?_
  refine lj_ne (tgt := 449) C_.1 C_.2.1 ⟨by decide, by decide⟩ ⟨by decide, by decide⟩ dL_shared_318 (by decide) (fun q => by omega) (fun _ => ?_)
  refine lv_aload_n C_.1 C_.2.1 dL_shared_321 rfl (lv_at hl 0 rfl) ?_
  refine lv_iconst (v := jI 0) C_.1 C_.2.1 dL_shared_322 rfl ?_
  refine lv_iconst (v := jI 0) C_.1 C_.2.1 dL_shared_323 rfl ?_
  refine lr_alarm C_ hf hcs hr hI ⟨by decide, by decide⟩ ⟨by decide, by decide⟩ hl.1 (Nat.le_of_ble_eq_true rfl) dL_shared_324 (fun z H locs hr hI => ?_)
  refine lv_bipush (v := jI 35) C_.1 C_.2.1 dL_shared_327 (by decide) ?_
  refine lj_ne (tgt := 449) C_.1 C_.2.1 ⟨by decide, by decide⟩ ⟨by decide, by decide⟩ dL_shared_329 (by decide) (fun q => by omega) (fun _ => ?_)
  refine lv_aload_n C_.1 C_.2.1 dL_shared_332 rfl (lv_at hl 0 rfl) ?_
  refine lv_iconst (v := jI 0) C_.1 C_.2.1 dL_shared_333 rfl ?_
  refine lv_bipush (v := jI 6) C_.1 C_.2.1 dL_shared_334 (by decide) ?_
  refine lr_alarm C_ hf hcs hr hI ⟨by decide, by decide⟩ ⟨by decide, by decide⟩ hl.1 (Nat.le_of_ble_eq_true rfl) dL_shared_336 (fun z H locs hr hI => ?_)
  refine lv_bipush (v := jI 18) C_.1 C_.2.1 dL_shared_339 (by decide) ?_
  refine lj_ne (tgt := 449) C_.1 C_.2.1 ⟨by decide, by decide⟩ ⟨by decide, by decide⟩ dL_shared_341 (by decide) (fun q => by omega) (fun _ => ?_)
  refine lv_aload_n C_.1 C_.2.1 dL_shared_344 rfl (lv_at hl 0 rfl) ?_
  refine lv_iconst (v := jI 0) C_.1 C_.2.1 dL_shared_345 rfl ?_
  refine lv_iconst (v := jI 2) C_.1 C_.2.1 dL_shared_346 rfl ?_
  refine lr_ring C_ hf hcs hr hI ⟨by decide, by decide⟩ ⟨by decide, by decide⟩ hl.1 (Nat.le_of_ble_eq_true rfl) dL_shared_347 (fun z H locs hr hI => ?_)
  refine lv_bipush (v := jI 18) C_.1 C_.2.1 dL_shared_350 (by decide) ?_
  refine lj_ne (tgt := 449) C_.1 C_.2.1 ⟨by decide, by decide⟩ ⟨by decide, by decide⟩ dL_shared_352 (by decide) (fun q => by omega) (fun _ => ?_)
  refine lv_aload_n C_.1 C_.2.1 dL_shared_355 rfl (lv_at hl 0 rfl) ?_
  refine lv_iconst (v := jI 1) C_.1 C_.2.1 dL_shared_356 rfl ?_
  refine lr_count C_ hf hcs hr hI ⟨by decide, by decide⟩ hl.1 (Nat.le_of_ble_eq_true rfl) dL_shared_357 (fun z H locs hr hI => ?_)
  refine lv_bipush (v := jI 13) C_.1 C_.2.1 dL_shared_360 (by decide) ?_
  refine lj_ne (tgt := 449) C_.1 C_.2.1 ⟨by decide, by decide⟩ ⟨by decide, by decide⟩ dL_shared_362 (by decide) (fun q => by omega) (fun _ => ?_)
  refine lv_aload_n C_.1 C_.2.1 dL_shared_365 rfl (lv_at hl 0 rfl) ?_
  refine lv_iconst (v := jI 2) C_.1 C_.2.1 dL_shared_366 rfl ?_
  refine lr_setDrift C_ hf hcs hr hI ⟨by decide, by decide⟩ hl.1 (Nat.le_of_ble_eq_true rfl) dL_shared_367 (fun z H locs hr hI => ?_)
  refine lj_if_ne (tgt := 449) C_.1 C_.2.1 ⟨by decide, by decide⟩ dL_shared_370 (by decide) (fun q => by omega) (fun _ => ?_)
  refine lv_aload_n C_.1 C_.2.1 dL_shared_373 rfl (lv_at hl 0 rfl) ?_
  refine lv_iconst (v := jI 1) C_.1 C_.2.1 dL_shared_374 rfl ?_
  refine lr_run C_ hf hcs (by omega) hr hI ⟨by decide, by decide⟩ hl.1 (Nat.le_of_ble_eq_true rfl) dL_shared_375 (fun z H locs hr hI => ?_)
  refine lv_iconst (v := jI 1) C_.1 C_.2.1 dL_shared_378 rfl ?_
  refine lj_ne (tgt := 449) C_.1 C_.2.1 ⟨by decide, by decide⟩ ⟨by decide, by decide⟩ dL_shared_379 (by decide) (fun q => by omega) (fun _ => ?_)
  refine lv_aload_n C_.1 C_.2.1 dL_shared_382 rfl (lv_at hl 0 rfl) ?_
  refine lv_iconst (v := jI 0) C_.1 C_.2.1 dL_shared_383 rfl ?_
  refine lr_count C_ hf hcs hr hI ⟨by decide, by decide⟩ hl.1 (Nat.le_of_ble_eq_true rfl) dL_shared_384 (fun z H locs hr hI => ?_)
  refine lv_bipush (v := jI 35) C_.1 C_.2.1 dL_shared_387 (by decide) ?_
  refine lj_ne (tgt := 449) C_.1 C_.2.1 ⟨by decide, by decide⟩ ⟨by decide, by decide⟩ dL_shared_389 (by decide) (fun q => by omega) (fun _ => ?_)
  refine lv_aload_n C_.1 C_.2.1 dL_shared_392 rfl (lv_at hl 0 rfl) ?_
  refine lv_iconst (v := jI 0) C_.1 C_.2.1 dL_shared_393 rfl ?_
  refine lv_iconst (v := jI 0) C_.1 C_.2.1 dL_shared_394 rfl ?_
  refine lr_alarm C_ hf hcs hr hI ⟨by decide, by decide⟩ ⟨by decide, by decide⟩ hl.1 (Nat.le_of_ble_eq_true rfl) dL_shared_395 (fun z H locs hr hI => ?_)
  refine lv_bipush (v := jI 40) C_.1 C_.2.1 dL_shared_398 (by decide) ?_
  refine lj_ne (tgt := 449) C_.1 C_.2.1 ⟨by decide, by decide⟩ ⟨by decide, by decide⟩ dL_shared_400 (by decide) (fun q => by omega) (fun _ => ?_)
  refine lv_aload_n C_.1 C_.2.1 dL_shared_403 rfl (lv_at hl 0 rfl) ?_
  refine lv_bipush (v := jI (-3)) C_.1 C_.2.1 dL_shared_404 (by decide) ?_
  refine lr_setDrift C_ hf hcs hr hI ⟨by decide, by decide⟩ hl.1 (Nat.le_of_ble_eq_true rfl) dL_shared_406 (fun z H locs hr hI => ?_)
  refine lv_iconst (v := jI 2) C_.1 C_.2.1 dL_shared_409 rfl ?_
  refine lj_ne (tgt := 449) C_.1 C_.2.1 ⟨by decide, by decide⟩ ⟨by decide, by decide⟩ dL_shared_410 (by decide) (fun q => by omega) (fun _ => ?_)
  refine lv_aload_n C_.1 C_.2.1 dL_shared_413 rfl (lv_at hl 0 rfl) ?_
  refine lv_iconst (v := jI 1) C_.1 C_.2.1 dL_shared_414 rfl ?_
  refine lr_run C_ hf hcs (by omega) hr hI ⟨by decide, by decide⟩ hl.1 (Nat.le_of_ble_eq_true rfl) dL_shared_415 (fun z H locs hr hI => ?_)
  refine lj_if_ne (tgt := 449) C_.1 C_.2.1 ⟨by decide, by decide⟩ dL_shared_418 (by decide) (fun q => by omega) (fun _ => ?_)
  refine lv_aload_n C_.1 C_.2.1 dL_shared_421 rfl (lv_at hl 0 rfl) ?_
  refine lv_iconst (v := jI 0) C_.1 C_.2.1 dL_shared_422 rfl ?_
  refine lr_count C_ hf hcs hr hI ⟨by decide, by decide⟩ hl.1 (Nat.le_of_ble_eq_true rfl) dL_shared_423 (fun z H locs hr hI => ?_)
  refine lv_bipush (v := jI 35) C_.1 C_.2.1 dL_shared_426 (by decide) ?_
  refine lj_ne (tgt := 449) C_.1 C_.2.1 ⟨by decide, by decide⟩ ⟨by decide, by decide⟩ dL_shared_428 (by decide) (fun q => by omega) (fun _ => ?_)
  refine lv_aload_n C_.1 C_.2.1 dL_shared_431 rfl (lv_at hl 0 rfl) ?_
  refine lv_iconst (v := jI 3) C_.1 C_.2.1 dL_shared_432 rfl ?_
  refine lr_run C_ hf hcs (by omega) hr hI ⟨by decide, by decide⟩ hl.1 (Nat.le_of_ble_eq_true rfl) dL_shared_433 (fun z H locs hr hI => ?_)
  refine lj_if_ne (tgt := 449) C_.1 C_.2.1 ⟨by decide, by decide⟩ dL_shared_436 (by decide) (fun q => by omega) (fun _ => ?_)
  refine lv_aload_n C_.1 C_.2.1 dL_shared_439 rfl (lv_at hl 0 rfl) ?_
  refine lv_iconst (v := jI 0) C_.1 C_.2.1 dL_shared_440 rfl ?_
  refine lr_count C_ hf hcs hr hI ⟨by decide, by decide⟩ hl.1 (Nat.le_of_ble_eq_true rfl) dL_shared_441 (fun z H locs hr hI => ?_)
  refine lv_bipush (v := jI 37) C_.1 C_.2.1 dL_shared_444 (by decide) ?_
  refine lj_eq (tgt := 451) C_.1 C_.2.1 ⟨by decide, by decide⟩ ⟨by decide, by decide⟩ dL_shared_446 (by decide) (fun _ => ?_) (fun q => by omega)
  refine lv_aload_n C_.1 C_.2.1 dL_shared_451 rfl (lv_at hl 0 rfl) ?_
  refine lv_iconst (v := jI 0) C_.1 C_.2.1 dL_shared_452 rfl ?_
  refine lr_setWindow C_ hf hcs hr hI ⟨by decide, by decide⟩ hl.1 (Nat.le_of_ble_eq_true rfl) dL_shared_453 (fun z H locs hr hI => ?_)
  refine lv_iconst (v := jI 3) C_.1 C_.2.1 dL_shared_456 rfl ?_
  refine lj_ne (tgt := 629) C_.1 C_.2.1 ⟨by decide, by decide⟩ ⟨by decide, by decide⟩ dL_shared_457 (by decide) (fun q => by omega) (fun _ => ?_)
  refine lv_aload_n C_.1 C_.2.1 dL_shared_460 rfl (lv_at hl 0 rfl) ?_
  refine lv_bipush (v := jI 40) C_.1 C_.2.1 dL_shared_461 (by decide) ?_
  refine lv_iconst (v := jI 0) C_.1 C_.2.1 dL_shared_463 rfl ?_
  refine lv_iconst (v := jI 1) C_.1 C_.2.1 dL_shared_464 rfl ?_
  refine lr_set C_ hf hcs hr hI ⟨by decide, by decide⟩ ⟨by decide, by decide⟩ ⟨by decide, by decide⟩ hl.1 (Nat.le_of_ble_eq_true rfl) dL_shared_465 (fun z H locs hr hI => ?_)
  refine lv_iconst (v := jI 3) C_.1 C_.2.1 dL_shared_468 rfl ?_
  refine lj_ne (tgt := 629) C_.1 C_.2.1 ⟨by decide, by decide⟩ ⟨by decide, by decide⟩ dL_shared_469 (by decide) (fun q => by omega) (fun _ => ?_)
  refine lv_aload_n C_.1 C_.2.1 dL_shared_472 rfl (lv_at hl 0 rfl) ?_
  refine lv_bipush (v := jI 40) C_.1 C_.2.1 dL_shared_473 (by decide) ?_
  refine lv_iconst (v := jI 0) C_.1 C_.2.1 dL_shared_475 rfl ?_
  refine lv_iconst (v := jI 3) C_.1 C_.2.1 dL_shared_476 rfl ?_
  refine lr_set C_ hf hcs hr hI ⟨by decide, by decide⟩ ⟨by decide, by decide⟩ ⟨by decide, by decide⟩ hl.1 (Nat.le_of_ble_eq_true rfl) dL_shared_477 (fun z H locs hr hI => ?_)
  refine lv_iconst (v := jI 4) C_.1 C_.2.1 dL_shared_480 rfl ?_
  refine lj_ne (tgt := 629) C_.1 C_.2.1 ⟨by decide, by decide⟩ ⟨by decide, by decide⟩ dL_shared_481 (by decide) (fun q => by omega) (fun _ => ?_)
  refine lv_aload_n C_.1 C_.2.1 dL_shared_484 rfl (lv_at hl 0 rfl) ?_
  refine lv_iconst (v := jI 0) C_.1 C_.2.1 dL_shared_485 rfl ?_
  refine lv_iconst (v := jI 1) C_.1 C_.2.1 dL_shared_486 rfl ?_
  refine lr_comparer C_ hf hcs hr hI ⟨by decide, by decide⟩ ⟨by decide, by decide⟩ hl.1 (Nat.le_of_ble_eq_true rfl) dL_shared_487 (fun z H locs hr hI => ?_)
  refine lv_iconst (v := jI 3) C_.1 C_.2.1 dL_shared_490 rfl ?_
  refine lj_ne (tgt := 629) C_.1 C_.2.1 ⟨by decide, by decide⟩ ⟨by decide, by decide⟩ dL_shared_491 (by decide) (fun q => by omega) (fun _ => ?_)
  refine lv_aload_n C_.1 C_.2.1 dL_shared_494 rfl (lv_at hl 0 rfl) ?_
  refine lv_iconst (v := jI 0) C_.1 C_.2.1 dL_shared_495 rfl ?_
  refine lr_at C_ hf hcs hr hI ⟨by decide, by decide⟩ hl.1 (Nat.le_of_ble_eq_true rfl) dL_shared_496 (fun z H locs hr hI => ?_)
  refine lv_iconst (v := jI 4) C_.1 C_.2.1 dL_shared_499 rfl ?_
  refine lj_ne (tgt := 629) C_.1 C_.2.1 ⟨by decide, by decide⟩ ⟨by decide, by decide⟩ dL_shared_500 (by decide) (fun q => by omega) (fun _ => ?_)
  refine lv_aload_n C_.1 C_.2.1 dL_shared_503 rfl (lv_at hl 0 rfl) ?_
  refine lv_iconst (v := jI 1) C_.1 C_.2.1 dL_shared_504 rfl ?_
  refine lr_at C_ hf hcs hr hI ⟨by decide, by decide⟩ hl.1 (Nat.le_of_ble_eq_true rfl) dL_shared_505 (fun z H locs hr hI => ?_)
  refine lj_if_ne (tgt := 629) C_.1 C_.2.1 ⟨by decide, by decide⟩ dL_shared_508 (by decide) (fun q => by omega) (fun _ => ?_)
  refine lv_aload_n C_.1 C_.2.1 dL_shared_511 rfl (lv_at hl 0 rfl) ?_
  refine lv_iconst (v := jI 2) C_.1 C_.2.1 dL_shared_512 rfl ?_
  refine lr_at C_ hf hcs hr hI ⟨by decide, by decide⟩ hl.1 (Nat.le_of_ble_eq_true rfl) dL_shared_513 (fun z H locs hr hI => ?_)
  refine lv_iconst (v := jI 3) C_.1 C_.2.1 dL_shared_516 rfl ?_
  refine lj_ne (tgt := 629) C_.1 C_.2.1 ⟨by decide, by decide⟩ ⟨by decide, by decide⟩ dL_shared_517 (by decide) (fun q => by omega) (fun _ => ?_)
  refine lv_aload_n C_.1 C_.2.1 dL_shared_520 rfl (lv_at hl 0 rfl) ?_
  refine lv_iconst (v := jI 3) C_.1 C_.2.1 dL_shared_521 rfl ?_
  refine lv_iconst (v := jI 4) C_.1 C_.2.1 dL_shared_522 rfl ?_
  refine lr_alarm C_ hf hcs hr hI ⟨by decide, by decide⟩ ⟨by decide, by decide⟩ hl.1 (Nat.le_of_ble_eq_true rfl) dL_shared_523 (fun z H locs hr hI => ?_)
  refine lv_iconst (v := jI 2) C_.1 C_.2.1 dL_shared_526 rfl ?_
  refine lj_ne (tgt := 629) C_.1 C_.2.1 ⟨by decide, by decide⟩ ⟨by decide, by decide⟩ dL_shared_527 (by decide) (fun q => by omega) (fun _ => ?_)
  refine lv_aload_n C_.1 C_.2.1 dL_shared_530 rfl (lv_at hl 0 rfl) ?_
  refine lv_iconst (v := jI 0) C_.1 C_.2.1 dL_shared_531 rfl ?_
  refine lv_iconst (v := jI 3) C_.1 C_.2.1 dL_shared_532 rfl ?_
  refine lr_comparer C_ hf hcs hr hI ⟨by decide, by decide⟩ ⟨by decide, by decide⟩ hl.1 (Nat.le_of_ble_eq_true rfl) dL_shared_533 (fun z H locs hr hI => ?_)
  refine lv_iconst (v := jI 4) C_.1 C_.2.1 dL_shared_536 rfl ?_
  refine lj_ne (tgt := 629) C_.1 C_.2.1 ⟨by decide, by decide⟩ ⟨by decide, by decide⟩ dL_shared_537 (by decide) (fun q => by omega) (fun _ => ?_)
  refine lv_aload_n C_.1 C_.2.1 dL_shared_540 rfl (lv_at hl 0 rfl) ?_
  refine lv_iconst (v := jI 4) C_.1 C_.2.1 dL_shared_541 rfl ?_
  refine lr_cancel C_ hf hcs hr hI ⟨by decide, by decide⟩ hl.1 (Nat.le_of_ble_eq_true rfl) dL_shared_542 (fun z H locs hr hI => ?_)
  refine lv_iconst (v := jI 2) C_.1 C_.2.1 dL_shared_545 rfl ?_
  refine lj_ne (tgt := 629) C_.1 C_.2.1 ⟨by decide, by decide⟩ ⟨by decide, by decide⟩ dL_shared_546 (by decide) (fun q => by omega) (fun _ => ?_)
  refine lv_aload_n C_.1 C_.2.1 dL_shared_549 rfl (lv_at hl 0 rfl) ?_
  refine lv_iconst (v := jI 0) C_.1 C_.2.1 dL_shared_550 rfl ?_
  refine lv_iconst (v := jI 0) C_.1 C_.2.1 dL_shared_551 rfl ?_
  refine lr_comparer C_ hf hcs hr hI ⟨by decide, by decide⟩ ⟨by decide, by decide⟩ hl.1 (Nat.le_of_ble_eq_true rfl) dL_shared_552 (fun z H locs hr hI => ?_)
  refine lv_bipush (v := jI 40) C_.1 C_.2.1 dL_shared_555 (by decide) ?_
  refine lj_ne (tgt := 629) C_.1 C_.2.1 ⟨by decide, by decide⟩ ⟨by decide, by decide⟩ dL_shared_557 (by decide) (fun q => by omega) (fun _ => ?_)
  refine lv_aload_n C_.1 C_.2.1 dL_shared_560 rfl (lv_at hl 0 rfl) ?_
  refine lv_iconst (v := jI 0) C_.1 C_.2.1 dL_shared_561 rfl ?_
  refine lv_iconst (v := jI 3) C_.1 C_.2.1 dL_shared_562 rfl ?_
  refine lr_comparer C_ hf hcs hr hI ⟨by decide, by decide⟩ ⟨by decide, by decide⟩ hl.1 (Nat.le_of_ble_eq_true rfl) dL_shared_563 (fun z H locs hr hI => ?_)
  refine lj_if_ne (tgt := 629) C_.1 C_.2.1 ⟨by decide, by decide⟩ dL_shared_566 (by decide) (fun q => by omega) (fun _ => ?_)
  refine lv_aload_n C_.1 C_.2.1 dL_shared_569 rfl (lv_at hl 0 rfl) ?_
  refine lv_iconst (v := jI 0) C_.1 C_.2.1 dL_shared_570 rfl ?_
  refine lv_bipush (v := jI 41) C_.1 C_.2.1 dL_shared_571 (by decide) ?_
  refine lr_move C_ hf hcs hr hI ⟨by decide, by decide⟩ ⟨by decide, by decide⟩ hl.1 (Nat.le_of_ble_eq_true rfl) dL_shared_573 (fun z H locs hr hI => ?_)
  refine lv_bipush (v := jI 40) C_.1 C_.2.1 dL_shared_576 (by decide) ?_
  refine lj_ne (tgt := 629) C_.1 C_.2.1 ⟨by decide, by decide⟩ ⟨by decide, by decide⟩ dL_shared_578 (by decide) (fun q => by omega) (fun _ => ?_)
  refine lv_aload_n C_.1 C_.2.1 dL_shared_581 rfl (lv_at hl 0 rfl) ?_
  refine lv_iconst (v := jI 0) C_.1 C_.2.1 dL_shared_582 rfl ?_
  refine lv_iconst (v := jI 3) C_.1 C_.2.1 dL_shared_583 rfl ?_
  refine lr_comparer C_ hf hcs hr hI ⟨by decide, by decide⟩ ⟨by decide, by decide⟩ hl.1 (Nat.le_of_ble_eq_true rfl) dL_shared_584 (fun z H locs hr hI => ?_)
  refine lv_iconst (v := jI 3) C_.1 C_.2.1 dL_shared_587 rfl ?_
  refine lj_ne (tgt := 629) C_.1 C_.2.1 ⟨by decide, by decide⟩ ⟨by decide, by decide⟩ dL_shared_588 (by decide) (fun q => by omega) (fun _ => ?_)
  refine lv_aload_n C_.1 C_.2.1 dL_shared_591 rfl (lv_at hl 0 rfl) ?_
  refine lv_iconst (v := jI 1) C_.1 C_.2.1 dL_shared_592 rfl ?_
  refine lv_iconst (v := jI 3) C_.1 C_.2.1 dL_shared_593 rfl ?_
  refine lr_comparer C_ hf hcs hr hI ⟨by decide, by decide⟩ ⟨by decide, by decide⟩ hl.1 (Nat.le_of_ble_eq_true rfl) dL_shared_594 (fun z H locs hr hI => ?_)
  refine lj_if_ne (tgt := 629) C_.1 C_.2.1 ⟨by decide, by decide⟩ dL_shared_597 (by decide) (fun q => by omega) (fun _ => ?_)
  refine lv_aload_n C_.1 C_.2.1 dL_shared_600 rfl (lv_at hl 0 rfl) ?_
  refine lv_iconst (v := jI 1) C_.1 C_.2.1 dL_shared_601 rfl ?_
  refine lv_iconst (v := jI 0) C_.1 C_.2.1 dL_shared_602 rfl ?_
  refine lr_comparer C_ hf hcs hr hI ⟨by decide, by decide⟩ ⟨by decide, by decide⟩ hl.1 (Nat.le_of_ble_eq_true rfl) dL_shared_603 (fun z H locs hr hI => ?_)
  refine lv_bipush (v := jI 41) C_.1 C_.2.1 dL_shared_606 (by decide) ?_
  refine lj_ne (tgt := 629) C_.1 C_.2.1 ⟨by decide, by decide⟩ ⟨by decide, by decide⟩ dL_shared_608 (by decide) (fun q => by omega) (fun _ => ?_)
  refine lv_aload_n C_.1 C_.2.1 dL_shared_611 rfl (lv_at hl 0 rfl) ?_
  refine lv_iconst (v := jI 4) C_.1 C_.2.1 dL_shared_612 rfl ?_
  refine lr_setComparers C_ hf hcs hr hI ⟨by decide, by decide⟩ hl.1 (Nat.le_of_ble_eq_true rfl) dL_shared_613 (fun z H locs hr hI => ?_)
  refine lv_iconst (v := jI 2) C_.1 C_.2.1 dL_shared_616 rfl ?_
  refine lj_ne (tgt := 629) C_.1 C_.2.1 ⟨by decide, by decide⟩ ⟨by decide, by decide⟩ dL_shared_617 (by decide) (fun q => by omega) (fun _ => ?_)
  refine lv_aload_n C_.1 C_.2.1 dL_shared_620 rfl (lv_at hl 0 rfl) ?_
  refine lv_iconst (v := jI 5) C_.1 C_.2.1 dL_shared_621 rfl ?_
  refine lr_count C_ hf hcs hr hI ⟨by decide, by decide⟩ hl.1 (Nat.le_of_ble_eq_true rfl) dL_shared_622 (fun z H locs hr hI => ?_)
  refine lv_iconst (v := jI 2) C_.1 C_.2.1 dL_shared_625 rfl ?_
  refine lj_eq (tgt := 631) C_.1 C_.2.1 ⟨by decide, by decide⟩ ⟨by decide, by decide⟩ dL_shared_626 (by decide) (fun _ => ?_) (fun q => by omega)
  refine lv_aload_n C_.1 C_.2.1 dL_shared_631 rfl (lv_at hl 0 rfl) ?_
  refine lv_sipush (v := jI 999) C_.1 C_.2.1 dL_shared_632 (by decide) ?_
  refine lr_correct C_ hf hcs hr hI ⟨by decide, by decide⟩ hl.1 (Nat.le_of_ble_eq_true rfl) dL_shared_635 (fun z H locs hr hI => ?_)
  refine lv_sipush (v := jI 1036) C_.1 C_.2.1 dL_shared_638 (by decide) ?_
  refine lj_ne (tgt := 706) C_.1 C_.2.1 ⟨by decide, by decide⟩ ⟨by decide, by decide⟩ dL_shared_641 (by decide) (fun q => by omega) (fun _ => ?_)
  refine lv_aload_n C_.1 C_.2.1 dL_shared_644 rfl (lv_at hl 0 rfl) ?_
  refine lv_iconst (v := jI 1) C_.1 C_.2.1 dL_shared_645 rfl ?_
  refine lr_run C_ hf hcs (by omega) hr hI ⟨by decide, by decide⟩ hl.1 (Nat.le_of_ble_eq_true rfl) dL_shared_646 (fun z H locs hr hI => ?_)
  refine lv_iconst (v := jI 2) C_.1 C_.2.1 dL_shared_649 rfl ?_
  refine lj_ne (tgt := 706) C_.1 C_.2.1 ⟨by decide, by decide⟩ ⟨by decide, by decide⟩ dL_shared_650 (by decide) (fun q => by omega) (fun _ => ?_)
  refine lv_aload_n C_.1 C_.2.1 dL_shared_653 rfl (lv_at hl 0 rfl) ?_
  refine lv_bipush (v := jI 7) C_.1 C_.2.1 dL_shared_654 (by decide) ?_
  refine lr_count C_ hf hcs hr hI ⟨by decide, by decide⟩ hl.1 (Nat.le_of_ble_eq_true rfl) dL_shared_656 (fun z H locs hr hI => ?_)
  refine lv_sipush (v := jI 1000) C_.1 C_.2.1 dL_shared_659 (by decide) ?_
  refine lj_le (tgt := 706) C_.1 C_.2.1 ⟨by decide, by decide⟩ ⟨by decide, by decide⟩ dL_shared_662 (by decide) (fun q => by omega) (fun _ => ?_)
  refine lv_aload_n C_.1 C_.2.1 dL_shared_665 rfl (lv_at hl 0 rfl) ?_
  refine lv_iconst (v := jI 0) C_.1 C_.2.1 dL_shared_666 rfl ?_
  refine lv_iconst (v := jI 0) C_.1 C_.2.1 dL_shared_667 rfl ?_
  refine lr_alarm C_ hf hcs hr hI ⟨by decide, by decide⟩ ⟨by decide, by decide⟩ hl.1 (Nat.le_of_ble_eq_true rfl) dL_shared_668 (fun z H locs hr hI => ?_)
  refine lv_aload_n C_.1 C_.2.1 dL_shared_671 rfl (lv_at hl 0 rfl) ?_
  refine lv_iconst (v := jI 0) C_.1 C_.2.1 dL_shared_672 rfl ?_
  refine lr_count C_ hf hcs hr hI ⟨by decide, by decide⟩ hl.1 (Nat.le_of_ble_eq_true rfl) dL_shared_673 (fun z H locs hr hI => ?_)
  refine lj_le (tgt := 706) C_.1 C_.2.1 ⟨by decide, by decide⟩ ⟨by decide, by decide⟩ dL_shared_676 (by decide) (fun q => by omega) (fun _ => ?_)
  refine lv_aload_n C_.1 C_.2.1 dL_shared_679 rfl (lv_at hl 0 rfl) ?_
  refine lv_sipush (v := jI (-999)) C_.1 C_.2.1 dL_shared_680 (by decide) ?_
  refine lr_correct C_ hf hcs hr hI ⟨by decide, by decide⟩ hl.1 (Nat.le_of_ble_eq_true rfl) dL_shared_683 (fun z H locs hr hI => ?_)
  refine lv_bipush (v := jI 38) C_.1 C_.2.1 dL_shared_686 (by decide) ?_
  refine lj_ne (tgt := 706) C_.1 C_.2.1 ⟨by decide, by decide⟩ ⟨by decide, by decide⟩ dL_shared_688 (by decide) (fun q => by omega) (fun _ => ?_)
  refine lv_aload_n C_.1 C_.2.1 dL_shared_691 rfl (lv_at hl 0 rfl) ?_
  refine lv_iconst (v := jI 0) C_.1 C_.2.1 dL_shared_692 rfl ?_
  refine lr_ringsIn C_ hf hcs hr hI ⟨by decide, by decide⟩ hl.1 (Nat.le_of_ble_eq_true rfl) dL_shared_693 (fun z H locs hr hI => ?_)
  refine lv_sipush (v := jI (-1005)) C_.1 C_.2.1 dL_shared_696 (by decide) ?_
  refine lj_ne (tgt := 706) C_.1 C_.2.1 ⟨by decide, by decide⟩ ⟨by decide, by decide⟩ dL_shared_699 (by decide) (fun q => by omega) (fun _ => ?_)
  refine lv_iconst (v := jI 1) C_.1 C_.2.1 dL_shared_702 rfl ?_
  refine lv_goto (tgt := 707) C_.1 C_.2.1 dL_shared_703 (by decide) ?_
  exact lk_zend C_ hI.2.1 trivial dL_shared_707
