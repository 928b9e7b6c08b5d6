theorem dL_limits_0 : decode cL_limits 0 = .ok (.new 14, 3) := by decide +kernel
theorem dL_limits_3 : decode cL_limits 3 = .ok (.dup, 1) := by decide +kernel
theorem dL_limits_4 : decode cL_limits 4 = .ok (.invokespecial 81, 3) := by decide +kernel
theorem dL_limits_7 : decode cL_limits 7 = .ok (.astore_n 0, 1) := by decide +kernel
theorem dL_limits_8 : decode cL_limits 8 = .ok (.iconst 0, 1) := by decide +kernel
theorem dL_limits_9 : decode cL_limits 9 = .ok (.istore_n 1, 1) := by decide +kernel
theorem dL_limits_10 : decode cL_limits 10 = .ok (.iload_n 1, 1) := by decide +kernel
theorem dL_limits_11 : decode cL_limits 11 = .ok (.bipush 20, 2) := by decide +kernel
theorem dL_limits_13 : decode cL_limits 13 = .ok (.if_icmp .ge 27, 3) := by decide +kernel
theorem dL_limits_16 : decode cL_limits 16 = .ok (.aload_n 0, 1) := by decide +kernel
theorem dL_limits_17 : decode cL_limits 17 = .ok (.bipush 100, 2) := by decide +kernel
theorem dL_limits_19 : decode cL_limits 19 = .ok (.iload_n 1, 1) := by decide +kernel
theorem dL_limits_20 : decode cL_limits 20 = .ok (.isub, 1) := by decide +kernel
theorem dL_limits_21 : decode cL_limits 21 = .ok (.iconst 0, 1) := by decide +kernel
theorem dL_limits_22 : decode cL_limits 22 = .ok (.iload_n 1, 1) := by decide +kernel
theorem dL_limits_23 : decode cL_limits 23 = .ok (.iconst 4, 1) := by decide +kernel
theorem dL_limits_24 : decode cL_limits 24 = .ok (.irem, 1) := by decide +kernel
theorem dL_limits_25 : decode cL_limits 25 = .ok (.invokevirtual 33, 3) := by decide +kernel
theorem dL_limits_28 : decode cL_limits 28 = .ok (.iload_n 1, 1) := by decide +kernel
theorem dL_limits_29 : decode cL_limits 29 = .ok (.if_icmp .eq 5, 3) := by decide +kernel
theorem dL_limits_32 : decode cL_limits 32 = .ok (.iconst 0, 1) := by decide +kernel
theorem dL_limits_33 : decode cL_limits 33 = .ok (.ireturn, 1) := by decide +kernel
theorem dL_limits_34 : decode cL_limits 34 = .ok (.iinc 1 1, 3) := by decide +kernel
theorem dL_limits_37 : decode cL_limits 37 = .ok (.goto (-27), 3) := by decide +kernel
theorem dL_limits_40 : decode cL_limits 40 = .ok (.aload_n 0, 1) := by decide +kernel
theorem dL_limits_41 : decode cL_limits 41 = .ok (.bipush 100, 2) := by decide +kernel
theorem dL_limits_43 : decode cL_limits 43 = .ok (.iconst 0, 1) := by decide +kernel
theorem dL_limits_44 : decode cL_limits 44 = .ok (.iconst 0, 1) := by decide +kernel
theorem dL_limits_45 : decode cL_limits 45 = .ok (.invokevirtual 33, 3) := by decide +kernel
theorem dL_limits_48 : decode cL_limits 48 = .ok (.sipush (-1003), 3) := by decide +kernel
theorem dL_limits_51 : decode cL_limits 51 = .ok (.if_icmp .ne 75, 3) := by decide +kernel
theorem dL_limits_54 : decode cL_limits 54 = .ok (.aload_n 0, 1) := by decide +kernel
theorem dL_limits_55 : decode cL_limits 55 = .ok (.bipush 100, 2) := by decide +kernel
theorem dL_limits_57 : decode cL_limits 57 = .ok (.iconst 0, 1) := by decide +kernel
theorem dL_limits_58 : decode cL_limits 58 = .ok (.iconst 4, 1) := by decide +kernel
theorem dL_limits_59 : decode cL_limits 59 = .ok (.invokevirtual 33, 3) := by decide +kernel
theorem dL_limits_62 : decode cL_limits 62 = .ok (.sipush (-1002), 3) := by decide +kernel
theorem dL_limits_65 : decode cL_limits 65 = .ok (.if_icmp .ne 61, 3) := by decide +kernel
theorem dL_limits_68 : decode cL_limits 68 = .ok (.aload_n 0, 1) := by decide +kernel
theorem dL_limits_69 : decode cL_limits 69 = .ok (.iconst 4, 1) := by decide +kernel
theorem dL_limits_70 : decode cL_limits 70 = .ok (.invokevirtual 13, 3) := by decide +kernel
theorem dL_limits_73 : decode cL_limits 73 = .ok (.bipush 18, 2) := by decide +kernel
theorem dL_limits_75 : decode cL_limits 75 = .ok (.if_icmp .ne 51, 3) := by decide +kernel
theorem dL_limits_78 : decode cL_limits 78 = .ok (.aload_n 0, 1) := by decide +kernel
theorem dL_limits_79 : decode cL_limits 79 = .ok (.bipush 11, 2) := by decide +kernel
theorem dL_limits_81 : decode cL_limits 81 = .ok (.invokevirtual 13, 3) := by decide +kernel
theorem dL_limits_84 : decode cL_limits 84 = .ok (.bipush 18, 2) := by decide +kernel
theorem dL_limits_86 : decode cL_limits 86 = .ok (.if_icmp .ne 40, 3) := by decide +kernel
theorem dL_limits_89 : decode cL_limits 89 = .ok (.aload_n 0, 1) := by decide +kernel
theorem dL_limits_90 : decode cL_limits 90 = .ok (.iconst 0, 1) := by decide +kernel
theorem dL_limits_91 : decode cL_limits 91 = .ok (.iconst 0, 1) := by decide +kernel
theorem dL_limits_92 : decode cL_limits 92 = .ok (.invokevirtual 26, 3) := by decide +kernel
theorem dL_limits_95 : decode cL_limits 95 = .ok (.bipush 82, 2) := by decide +kernel
theorem dL_limits_97 : decode cL_limits 97 = .ok (.if_icmp .gt 29, 3) := by decide +kernel
theorem dL_limits_100 : decode cL_limits 100 = .ok (.aload_n 0, 1) := by decide +kernel
theorem dL_limits_101 : decode cL_limits 101 = .ok (.iconst 0, 1) := by decide +kernel
theorem dL_limits_102 : decode cL_limits 102 = .ok (.invokevirtual 19, 3) := by decide +kernel
theorem dL_limits_105 : decode cL_limits 105 = .ok (.bipush 19, 2) := by decide +kernel
theorem dL_limits_107 : decode cL_limits 107 = .ok (.if_icmp .ne 19, 3) := by decide +kernel
theorem dL_limits_110 : decode cL_limits 110 = .ok (.aload_n 0, 1) := by decide +kernel
theorem dL_limits_111 : decode cL_limits 111 = .ok (.bipush 19, 2) := by decide +kernel
theorem dL_limits_113 : decode cL_limits 113 = .ok (.invokevirtual 19, 3) := by decide +kernel
theorem dL_limits_116 : decode cL_limits 116 = .ok (.ifCond .ne 10, 3) := by decide +kernel
theorem dL_limits_119 : decode cL_limits 119 = .ok (.aload_n 0, 1) := by decide +kernel
theorem dL_limits_120 : decode cL_limits 120 = .ok (.invokestatic 89, 3) := by decide +kernel
theorem dL_limits_123 : decode cL_limits 123 = .ok (.ifCond .ne 5, 3) := by decide +kernel
theorem dL_limits_126 : decode cL_limits 126 = .ok (.iconst 0, 1) := by decide +kernel
theorem dL_limits_127 : decode cL_limits 127 = .ok (.ireturn, 1) := by decide +kernel
theorem dL_limits_128 : decode cL_limits 128 = .ok (.iconst 0, 1) := by decide +kernel
theorem dL_limits_129 : decode cL_limits 129 = .ok (.istore_n 1, 1) := by decide +kernel
theorem dL_limits_130 : decode cL_limits 130 = .ok (.iload_n 1, 1) := by decide +kernel
theorem dL_limits_131 : decode cL_limits 131 = .ok (.bipush 20, 2) := by decide +kernel
theorem dL_limits_133 : decode cL_limits 133 = .ok (.if_icmp .ge 23, 3) := by decide +kernel
theorem dL_limits_136 : decode cL_limits 136 = .ok (.aload_n 0, 1) := by decide +kernel
theorem dL_limits_137 : decode cL_limits 137 = .ok (.iload_n 1, 1) := by decide +kernel
theorem dL_limits_138 : decode cL_limits 138 = .ok (.invokevirtual 40, 3) := by decide +kernel
theorem dL_limits_141 : decode cL_limits 141 = .ok (.bipush 19, 2) := by decide +kernel
theorem dL_limits_143 : decode cL_limits 143 = .ok (.iload_n 1, 1) := by decide +kernel
theorem dL_limits_144 : decode cL_limits 144 = .ok (.isub, 1) := by decide +kernel
theorem dL_limits_145 : decode cL_limits 145 = .ok (.if_icmp .eq 5, 3) := by decide +kernel
theorem dL_limits_148 : decode cL_limits 148 = .ok (.iconst 0, 1) := by decide +kernel
theorem dL_limits_149 : decode cL_limits 149 = .ok (.ireturn, 1) := by decide +kernel
theorem dL_limits_150 : decode cL_limits 150 = .ok (.iinc 1 1, 3) := by decide +kernel
theorem dL_limits_153 : decode cL_limits 153 = .ok (.goto (-23), 3) := by decide +kernel
theorem dL_limits_156 : decode cL_limits 156 = .ok (.bipush 20, 2) := by decide +kernel
theorem dL_limits_158 : decode cL_limits 158 = .ok (.istore_n 1, 1) := by decide +kernel
theorem dL_limits_159 : decode cL_limits 159 = .ok (.iload_n 1, 1) := by decide +kernel
theorem dL_limits_160 : decode cL_limits 160 = .ok (.sipush 500, 3) := by decide +kernel
theorem dL_limits_163 : decode cL_limits 163 = .ok (.if_icmp .ge 31, 3) := by decide +kernel
theorem dL_limits_166 : decode cL_limits 166 = .ok (.aload_n 0, 1) := by decide +kernel
theorem dL_limits_167 : decode cL_limits 167 = .ok (.bipush 7, 2) := by decide +kernel
theorem dL_limits_169 : decode cL_limits 169 = .ok (.iconst 0, 1) := by decide +kernel
theorem dL_limits_170 : decode cL_limits 170 = .ok (.iconst 0, 1) := by decide +kernel
theorem dL_limits_171 : decode cL_limits 171 = .ok (.invokevirtual 33, 3) := by decide +kernel
theorem dL_limits_174 : decode cL_limits 174 = .ok (.iload_n 1, 1) := by decide +kernel
theorem dL_limits_175 : decode cL_limits 175 = .ok (.if_icmp .ne 11, 3) := by decide +kernel
theorem dL_limits_178 : decode cL_limits 178 = .ok (.aload_n 0, 1) := by decide +kernel
theorem dL_limits_179 : decode cL_limits 179 = .ok (.iload_n 1, 1) := by decide +kernel
theorem dL_limits_180 : decode cL_limits 180 = .ok (.invokevirtual 40, 3) := by decide +kernel
theorem dL_limits_183 : decode cL_limits 183 = .ok (.ifCond .eq 5, 3) := by decide +kernel
theorem dL_limits_186 : decode cL_limits 186 = .ok (.iconst 0, 1) := by decide +kernel
theorem dL_limits_187 : decode cL_limits 187 = .ok (.ireturn, 1) := by decide +kernel
theorem dL_limits_188 : decode cL_limits 188 = .ok (.iinc 1 1, 3) := by decide +kernel
theorem dL_limits_191 : decode cL_limits 191 = .ok (.goto (-32), 3) := by decide +kernel
theorem dL_limits_194 : decode cL_limits 194 = .ok (.aload_n 0, 1) := by decide +kernel
theorem dL_limits_195 : decode cL_limits 195 = .ok (.bipush 7, 2) := by decide +kernel
theorem dL_limits_197 : decode cL_limits 197 = .ok (.iconst 0, 1) := by decide +kernel
theorem dL_limits_198 : decode cL_limits 198 = .ok (.iconst 0, 1) := by decide +kernel
theorem dL_limits_199 : decode cL_limits 199 = .ok (.invokevirtual 33, 3) := by decide +kernel
theorem dL_limits_202 : decode cL_limits 202 = .ok (.sipush (-1003), 3) := by decide +kernel
theorem dL_limits_205 : decode cL_limits 205 = .ok (.if_icmp .ne 44, 3) := by decide +kernel
theorem dL_limits_208 : decode cL_limits 208 = .ok (.aload_n 0, 1) := by decide +kernel
theorem dL_limits_209 : decode cL_limits 209 = .ok (.iconst 3, 1) := by decide +kernel
theorem dL_limits_210 : decode cL_limits 210 = .ok (.invokevirtual 13, 3) := by decide +kernel
theorem dL_limits_213 : decode cL_limits 213 = .ok (.sipush 500, 3) := by decide +kernel
theorem dL_limits_216 : decode cL_limits 216 = .ok (.if_icmp .ne 33, 3) := by decide +kernel
theorem dL_limits_219 : decode cL_limits 219 = .ok (.aload_n 0, 1) := by decide +kernel
theorem dL_limits_220 : decode cL_limits 220 = .ok (.invokevirtual 82, 3) := by decide +kernel
theorem dL_limits_223 : decode cL_limits 223 = .ok (.iconst 3, 1) := by decide +kernel
theorem dL_limits_224 : decode cL_limits 224 = .ok (.if_icmp .ne 25, 3) := by decide +kernel
theorem dL_limits_227 : decode cL_limits 227 = .ok (.aload_n 0, 1) := by decide +kernel
theorem dL_limits_228 : decode cL_limits 228 = .ok (.iconst 2, 1) := by decide +kernel
theorem dL_limits_229 : decode cL_limits 229 = .ok (.invokevirtual 13, 3) := by decide +kernel
theorem dL_limits_232 : decode cL_limits 232 = .ok (.iconst 1, 1) := by decide +kernel
theorem dL_limits_233 : decode cL_limits 233 = .ok (.if_icmp .ne 16, 3) := by decide +kernel
theorem dL_limits_236 : decode cL_limits 236 = .ok (.aload_n 0, 1) := by decide +kernel
theorem dL_limits_237 : decode cL_limits 237 = .ok (.sipush 499, 3) := by decide +kernel
theorem dL_limits_240 : decode cL_limits 240 = .ok (.iconst 0, 1) := by decide +kernel
theorem dL_limits_241 : decode cL_limits 241 = .ok (.invokevirtual 22, 3) := by decide +kernel
theorem dL_limits_244 : decode cL_limits 244 = .ok (.bipush 7, 2) := by decide +kernel
theorem dL_limits_246 : decode cL_limits 246 = .ok (.if_icmp .eq 5, 3) := by decide +kernel
theorem dL_limits_249 : decode cL_limits 249 = .ok (.iconst 0, 1) := by decide +kernel
theorem dL_limits_250 : decode cL_limits 250 = .ok (.ireturn, 1) := by decide +kernel
theorem dL_limits_251 : decode cL_limits 251 = .ok (.iconst 0, 1) := by decide +kernel
theorem dL_limits_252 : decode cL_limits 252 = .ok (.istore_n 1, 1) := by decide +kernel
theorem dL_limits_253 : decode cL_limits 253 = .ok (.iload_n 1, 1) := by decide +kernel
theorem dL_limits_254 : decode cL_limits 254 = .ok (.bipush 100, 2) := by decide +kernel
theorem dL_limits_256 : decode cL_limits 256 = .ok (.if_icmp .ge 28, 3) := by decide +kernel
theorem dL_limits_259 : decode cL_limits 259 = .ok (.aload_n 0, 1) := by decide +kernel
theorem dL_limits_260 : decode cL_limits 260 = .ok (.sipush 999, 3) := by decide +kernel
theorem dL_limits_263 : decode cL_limits 263 = .ok (.invokevirtual 58, 3) := by decide +kernel
theorem dL_limits_266 : decode cL_limits 266 = .ok (.sipush 999, 3) := by decide +kernel
theorem dL_limits_269 : decode cL_limits 269 = .ok (.iload_n 1, 1) := by decide +kernel
theorem dL_limits_270 : decode cL_limits 270 = .ok (.iconst 1, 1) := by decide +kernel
theorem dL_limits_271 : decode cL_limits 271 = .ok (.iadd, 1) := by decide +kernel
theorem dL_limits_272 : decode cL_limits 272 = .ok (.imul, 1) := by decide +kernel
theorem dL_limits_273 : decode cL_limits 273 = .ok (.if_icmp .eq 5, 3) := by decide +kernel
theorem dL_limits_276 : decode cL_limits 276 = .ok (.iconst 0, 1) := by decide +kernel
theorem dL_limits_277 : decode cL_limits 277 = .ok (.ireturn, 1) := by decide +kernel
theorem dL_limits_278 : decode cL_limits 278 = .ok (.iinc 1 1, 3) := by decide +kernel
theorem dL_limits_281 : decode cL_limits 281 = .ok (.goto (-28), 3) := by decide +kernel
theorem dL_limits_284 : decode cL_limits 284 = .ok (.aload_n 0, 1) := by decide +kernel
theorem dL_limits_285 : decode cL_limits 285 = .ok (.bipush 100, 2) := by decide +kernel
theorem dL_limits_287 : decode cL_limits 287 = .ok (.invokevirtual 58, 3) := by decide +kernel
theorem dL_limits_290 : decode cL_limits 290 = .ok (.sipush (-1004), 3) := by decide +kernel
theorem dL_limits_293 : decode cL_limits 293 = .ok (.if_icmp .ne 90, 3) := by decide +kernel
theorem dL_limits_296 : decode cL_limits 296 = .ok (.aload_n 0, 1) := by decide +kernel
theorem dL_limits_297 : decode cL_limits 297 = .ok (.bipush 99, 2) := by decide +kernel
theorem dL_limits_299 : decode cL_limits 299 = .ok (.invokevirtual 58, 3) := by decide +kernel
theorem dL_limits_302 : decode cL_limits 302 = .ok (.ldc 39, 2) := by decide +kernel
theorem dL_limits_304 : decode cL_limits 304 = .ok (.if_icmp .ne 79, 3) := by decide +kernel
theorem dL_limits_307 : decode cL_limits 307 = .ok (.aload_n 0, 1) := by decide +kernel
theorem dL_limits_308 : decode cL_limits 308 = .ok (.iconst 1, 1) := by decide +kernel
theorem dL_limits_309 : decode cL_limits 309 = .ok (.invokevirtual 61, 3) := by decide +kernel
theorem dL_limits_312 : decode cL_limits 312 = .ok (.sipush (-1003), 3) := by decide +kernel
theorem dL_limits_315 : decode cL_limits 315 = .ok (.if_icmp .ne 68, 3) := by decide +kernel
theorem dL_limits_318 : decode cL_limits 318 = .ok (.aload_n 0, 1) := by decide +kernel
theorem dL_limits_319 : decode cL_limits 319 = .ok (.iconst 0, 1) := by decide +kernel
theorem dL_limits_320 : decode cL_limits 320 = .ok (.invokevirtual 61, 3) := by decide +kernel
theorem dL_limits_323 : decode cL_limits 323 = .ok (.sipush (-1002), 3) := by decide +kernel
theorem dL_limits_326 : decode cL_limits 326 = .ok (.if_icmp .ne 57, 3) := by decide +kernel
theorem dL_limits_329 : decode cL_limits 329 = .ok (.aload_n 0, 1) := by decide +kernel
theorem dL_limits_330 : decode cL_limits 330 = .ok (.bipush (-3), 2) := by decide +kernel
theorem dL_limits_332 : decode cL_limits 332 = .ok (.invokevirtual 58, 3) := by decide +kernel
theorem dL_limits_335 : decode cL_limits 335 = .ok (.ldc 96, 2) := by decide +kernel
theorem dL_limits_337 : decode cL_limits 337 = .ok (.if_icmp .ne 46, 3) := by decide +kernel
theorem dL_limits_340 : decode cL_limits 340 = .ok (.aload_n 0, 1) := by decide +kernel
theorem dL_limits_341 : decode cL_limits 341 = .ok (.iconst 1, 1) := by decide +kernel
theorem dL_limits_342 : decode cL_limits 342 = .ok (.invokevirtual 61, 3) := by decide +kernel
theorem dL_limits_345 : decode cL_limits 345 = .ok (.iconst 1, 1) := by decide +kernel
theorem dL_limits_346 : decode cL_limits 346 = .ok (.if_icmp .ne 37, 3) := by decide +kernel
theorem dL_limits_349 : decode cL_limits 349 = .ok (.aload_n 0, 1) := by decide +kernel
theorem dL_limits_350 : decode cL_limits 350 = .ok (.bipush 7, 2) := by decide +kernel
theorem dL_limits_352 : decode cL_limits 352 = .ok (.invokevirtual 13, 3) := by decide +kernel
theorem dL_limits_355 : decode cL_limits 355 = .ok (.ldc 97, 2) := by decide +kernel
theorem dL_limits_357 : decode cL_limits 357 = .ok (.if_icmp .ne 26, 3) := by decide +kernel
theorem dL_limits_360 : decode cL_limits 360 = .ok (.aload_n 0, 1) := by decide +kernel
theorem dL_limits_361 : decode cL_limits 361 = .ok (.iconst 1, 1) := by decide +kernel
theorem dL_limits_362 : decode cL_limits 362 = .ok (.invokevirtual 61, 3) := by decide +kernel
theorem dL_limits_365 : decode cL_limits 365 = .ok (.ifCond .ne 18, 3) := by decide +kernel
theorem dL_limits_368 : decode cL_limits 368 = .ok (.aload_n 0, 1) := by decide +kernel
theorem dL_limits_369 : decode cL_limits 369 = .ok (.iconst 1, 1) := by decide +kernel
theorem dL_limits_370 : decode cL_limits 370 = .ok (.invokevirtual 61, 3) := by decide +kernel
theorem dL_limits_373 : decode cL_limits 373 = .ok (.sipush (-1003), 3) := by decide +kernel
theorem dL_limits_376 : decode cL_limits 376 = .ok (.if_icmp .ne 7, 3) := by decide +kernel
theorem dL_limits_379 : decode cL_limits 379 = .ok (.iconst 1, 1) := by decide +kernel
theorem dL_limits_380 : decode cL_limits 380 = .ok (.goto 4, 3) := by decide +kernel
theorem dL_limits_383 : decode cL_limits 383 = .ok (.iconst 0, 1) := by decide +kernel
theorem dL_limits_384 : decode cL_limits 384 = .ok (.ireturn, 1) := by decide +kernel
theorem dL_texts_0 : decode cL_texts 0 = .ok (.ldc2_w 111, 3) := by decide +kernel
theorem dL_texts_3 : decode cL_texts 3 = .ok (.lconst 0, 1) := by decide +kernel
theorem dL_texts_4 : decode cL_texts 4 = .ok (.invokestatic 113, 3) := by decide +kernel
theorem dL_texts_7 : decode cL_texts 7 = .ok (.sipush (-1105), 3) := by decide +kernel
theorem dL_texts_10 : decode cL_texts 10 = .ok (.if_icmp .ne 107, 3) := by decide +kernel
theorem dL_texts_13 : decode cL_texts 13 = .ok (.ldc2_w 117, 3) := by decide +kernel
theorem dL_texts_16 : decode cL_texts 16 = .ok (.lconst 0, 1) := by decide +kernel
theorem dL_texts_17 : decode cL_texts 17 = .ok (.invokestatic 113, 3) := by decide +kernel
theorem dL_texts_20 : decode cL_texts 20 = .ok (.sipush (-1101), 3) := by decide +kernel
theorem dL_texts_23 : decode cL_texts 23 = .ok (.if_icmp .ne 94, 3) := by decide +kernel
theorem dL_texts_26 : decode cL_texts 26 = .ok (.ldc2_w 119, 3) := by decide +kernel
theorem dL_texts_29 : decode cL_texts 29 = .ok (.lconst 0, 1) := by decide +kernel
theorem dL_texts_30 : decode cL_texts 30 = .ok (.invokestatic 113, 3) := by decide +kernel
theorem dL_texts_33 : decode cL_texts 33 = .ok (.sipush (-1102), 3) := by decide +kernel
theorem dL_texts_36 : decode cL_texts 36 = .ok (.if_icmp .ne 81, 3) := by decide +kernel
theorem dL_texts_39 : decode cL_texts 39 = .ok (.ldc2_w 121, 3) := by decide +kernel
theorem dL_texts_42 : decode cL_texts 42 = .ok (.lconst 0, 1) := by decide +kernel
theorem dL_texts_43 : decode cL_texts 43 = .ok (.invokestatic 113, 3) := by decide +kernel
theorem dL_texts_46 : decode cL_texts 46 = .ok (.sipush (-1106), 3) := by decide +kernel
theorem dL_texts_49 : decode cL_texts 49 = .ok (.if_icmp .ne 68, 3) := by decide +kernel
theorem dL_texts_52 : decode cL_texts 52 = .ok (.ldc2_w 123, 3) := by decide +kernel
theorem dL_texts_55 : decode cL_texts 55 = .ok (.lconst 0, 1) := by decide +kernel
theorem dL_texts_56 : decode cL_texts 56 = .ok (.invokestatic 113, 3) := by decide +kernel
theorem dL_texts_59 : decode cL_texts 59 = .ok (.sipush (-1102), 3) := by decide +kernel
theorem dL_texts_62 : decode cL_texts 62 = .ok (.if_icmp .ne 55, 3) := by decide +kernel
theorem dL_texts_65 : decode cL_texts 65 = .ok (.ldc2_w 125, 3) := by decide +kernel
theorem dL_texts_68 : decode cL_texts 68 = .ok (.lconst 0, 1) := by decide +kernel
theorem dL_texts_69 : decode cL_texts 69 = .ok (.invokestatic 113, 3) := by decide +kernel
theorem dL_texts_72 : decode cL_texts 72 = .ok (.sipush (-1102), 3) := by decide +kernel
theorem dL_texts_75 : decode cL_texts 75 = .ok (.if_icmp .ne 42, 3) := by decide +kernel
theorem dL_texts_78 : decode cL_texts 78 = .ok (.ldc2_w 127, 3) := by decide +kernel
theorem dL_texts_81 : decode cL_texts 81 = .ok (.lconst 0, 1) := by decide +kernel
theorem dL_texts_82 : decode cL_texts 82 = .ok (.invokestatic 113, 3) := by decide +kernel
theorem dL_texts_85 : decode cL_texts 85 = .ok (.sipush (-1103), 3) := by decide +kernel
theorem dL_texts_88 : decode cL_texts 88 = .ok (.if_icmp .ne 29, 3) := by decide +kernel
theorem dL_texts_91 : decode cL_texts 91 = .ok (.ldc2_w 129, 3) := by decide +kernel
theorem dL_texts_94 : decode cL_texts 94 = .ok (.lconst 0, 1) := by decide +kernel
theorem dL_texts_95 : decode cL_texts 95 = .ok (.invokestatic 113, 3) := by decide +kernel
theorem dL_texts_98 : decode cL_texts 98 = .ok (.sipush (-1102), 3) := by decide +kernel
theorem dL_texts_101 : decode cL_texts 101 = .ok (.if_icmp .ne 16, 3) := by decide +kernel
theorem dL_texts_104 : decode cL_texts 104 = .ok (.ldc2_w 131, 3) := by decide +kernel
theorem dL_texts_107 : decode cL_texts 107 = .ok (.lconst 0, 1) := by decide +kernel
theorem dL_texts_108 : decode cL_texts 108 = .ok (.invokestatic 113, 3) := by decide +kernel
theorem dL_texts_111 : decode cL_texts 111 = .ok (.sipush (-1102), 3) := by decide +kernel
theorem dL_texts_114 : decode cL_texts 114 = .ok (.if_icmp .eq 5, 3) := by decide +kernel
theorem dL_texts_117 : decode cL_texts 117 = .ok (.iconst 0, 1) := by decide +kernel
theorem dL_texts_118 : decode cL_texts 118 = .ok (.ireturn, 1) := by decide +kernel
theorem dL_texts_119 : decode cL_texts 119 = .ok (.lconst 0, 1) := by decide +kernel
theorem dL_texts_120 : decode cL_texts 120 = .ok (.lconst 0, 1) := by decide +kernel
theorem dL_texts_121 : decode cL_texts 121 = .ok (.invokestatic 113, 3) := by decide +kernel
theorem dL_texts_124 : decode cL_texts 124 = .ok (.sipush (-1100), 3) := by decide +kernel
theorem dL_texts_127 : decode cL_texts 127 = .ok (.if_icmp .ne 79, 3) := by decide +kernel
theorem dL_texts_130 : decode cL_texts 130 = .ok (.ldc2_w 133, 3) := by decide +kernel
theorem dL_texts_133 : decode cL_texts 133 = .ok (.ldc2_w 135, 3) := by decide +kernel
theorem dL_texts_136 : decode cL_texts 136 = .ok (.invokestatic 113, 3) := by decide +kernel
theorem dL_texts_139 : decode cL_texts 139 = .ok (.iconst 1, 1) := by decide +kernel
theorem dL_texts_140 : decode cL_texts 140 = .ok (.if_icmp .ne 66, 3) := by decide +kernel
theorem dL_texts_143 : decode cL_texts 143 = .ok (.ldc2_w 137, 3) := by decide +kernel
theorem dL_texts_146 : decode cL_texts 146 = .ok (.lconst 0, 1) := by decide +kernel
theorem dL_texts_147 : decode cL_texts 147 = .ok (.invokestatic 113, 3) := by decide +kernel
theorem dL_texts_150 : decode cL_texts 150 = .ok (.iconst 3, 1) := by decide +kernel
theorem dL_texts_151 : decode cL_texts 151 = .ok (.if_icmp .ne 55, 3) := by decide +kernel
theorem dL_texts_154 : decode cL_texts 154 = .ok (.ldc2_w 139, 3) := by decide +kernel
theorem dL_texts_157 : decode cL_texts 157 = .ok (.lconst 0, 1) := by decide +kernel
theorem dL_texts_158 : decode cL_texts 158 = .ok (.invokestatic 113, 3) := by decide +kernel
theorem dL_texts_161 : decode cL_texts 161 = .ok (.sipush (-1100), 3) := by decide +kernel
theorem dL_texts_164 : decode cL_texts 164 = .ok (.if_icmp .ne 42, 3) := by decide +kernel
theorem dL_texts_167 : decode cL_texts 167 = .ok (.ldc2_w 141, 3) := by decide +kernel
theorem dL_texts_170 : decode cL_texts 170 = .ok (.lconst 0, 1) := by decide +kernel
theorem dL_texts_171 : decode cL_texts 171 = .ok (.invokestatic 113, 3) := by decide +kernel
theorem dL_texts_174 : decode cL_texts 174 = .ok (.sipush (-1102), 3) := by decide +kernel
theorem dL_texts_177 : decode cL_texts 177 = .ok (.if_icmp .ne 29, 3) := by decide +kernel
theorem dL_texts_180 : decode cL_texts 180 = .ok (.ldc2_w 143, 3) := by decide +kernel
theorem dL_texts_183 : decode cL_texts 183 = .ok (.lconst 0, 1) := by decide +kernel
theorem dL_texts_184 : decode cL_texts 184 = .ok (.invokestatic 113, 3) := by decide +kernel
theorem dL_texts_187 : decode cL_texts 187 = .ok (.sipush (-1104), 3) := by decide +kernel
theorem dL_texts_190 : decode cL_texts 190 = .ok (.if_icmp .ne 16, 3) := by decide +kernel
theorem dL_texts_193 : decode cL_texts 193 = .ok (.ldc2_w 145, 3) := by decide +kernel
theorem dL_texts_196 : decode cL_texts 196 = .ok (.lconst 0, 1) := by decide +kernel
theorem dL_texts_197 : decode cL_texts 197 = .ok (.invokestatic 113, 3) := by decide +kernel
theorem dL_texts_200 : decode cL_texts 200 = .ok (.sipush (-1101), 3) := by decide +kernel
theorem dL_texts_203 : decode cL_texts 203 = .ok (.if_icmp .eq 5, 3) := by decide +kernel
theorem dL_texts_206 : decode cL_texts 206 = .ok (.iconst 0, 1) := by decide +kernel
theorem dL_texts_207 : decode cL_texts 207 = .ok (.ireturn, 1) := by decide +kernel
theorem dL_texts_208 : decode cL_texts 208 = .ok (.new 14, 3) := by decide +kernel
theorem dL_texts_211 : decode cL_texts 211 = .ok (.dup, 1) := by decide +kernel
theorem dL_texts_212 : decode cL_texts 212 = .ok (.invokespecial 81, 3) := by decide +kernel
theorem dL_texts_215 : decode cL_texts 215 = .ok (.astore_n 0, 1) := by decide +kernel
theorem dL_texts_216 : decode cL_texts 216 = .ok (.aload_n 0, 1) := by decide +kernel
theorem dL_texts_217 : decode cL_texts 217 = .ok (.ldc2_w 147, 3) := by decide +kernel
theorem dL_texts_220 : decode cL_texts 220 = .ok (.invokestatic 104, 3) := by decide +kernel
theorem dL_texts_223 : decode cL_texts 223 = .ok (.ifCond .eq 118, 3) := by decide +kernel
theorem dL_texts_226 : decode cL_texts 226 = .ok (.aload_n 0, 1) := by decide +kernel
theorem dL_texts_227 : decode cL_texts 227 = .ok (.invokevirtual 108, 3) := by decide +kernel
theorem dL_texts_230 : decode cL_texts 230 = .ok (.iconst 2, 1) := by decide +kernel
theorem dL_texts_231 : decode cL_texts 231 = .ok (.if_icmp .ne 110, 3) := by decide +kernel
theorem dL_texts_234 : decode cL_texts 234 = .ok (.aload_n 0, 1) := by decide +kernel
theorem dL_texts_235 : decode cL_texts 235 = .ok (.iconst 1, 1) := by decide +kernel
theorem dL_texts_236 : decode cL_texts 236 = .ok (.iconst 0, 1) := by decide +kernel
theorem dL_texts_237 : decode cL_texts 237 = .ok (.invokevirtual 22, 3) := by decide +kernel
theorem dL_texts_240 : decode cL_texts 240 = .ok (.bipush 8, 2) := by decide +kernel
theorem dL_texts_242 : decode cL_texts 242 = .ok (.if_icmp .ne 99, 3) := by decide +kernel
theorem dL_texts_245 : decode cL_texts 245 = .ok (.aload_n 0, 1) := by decide +kernel
theorem dL_texts_246 : decode cL_texts 246 = .ok (.iconst 1, 1) := by decide +kernel
theorem dL_texts_247 : decode cL_texts 247 = .ok (.iconst 1, 1) := by decide +kernel
theorem dL_texts_248 : decode cL_texts 248 = .ok (.invokevirtual 22, 3) := by decide +kernel
theorem dL_texts_251 : decode cL_texts 251 = .ok (.iconst 3, 1) := by decide +kernel
theorem dL_texts_252 : decode cL_texts 252 = .ok (.if_icmp .ne 89, 3) := by decide +kernel
theorem dL_texts_255 : decode cL_texts 255 = .ok (.aload_n 0, 1) := by decide +kernel
theorem dL_texts_256 : decode cL_texts 256 = .ok (.iconst 1, 1) := by decide +kernel
theorem dL_texts_257 : decode cL_texts 257 = .ok (.iconst 2, 1) := by decide +kernel
theorem dL_texts_258 : decode cL_texts 258 = .ok (.invokevirtual 22, 3) := by decide +kernel
theorem dL_texts_261 : decode cL_texts 261 = .ok (.iconst 2, 1) := by decide +kernel
theorem dL_texts_262 : decode cL_texts 262 = .ok (.if_icmp .ne 79, 3) := by decide +kernel
theorem dL_texts_265 : decode cL_texts 265 = .ok (.aload_n 0, 1) := by decide +kernel
theorem dL_texts_266 : decode cL_texts 266 = .ok (.iconst 0, 1) := by decide +kernel
theorem dL_texts_267 : decode cL_texts 267 = .ok (.iconst 1, 1) := by decide +kernel
theorem dL_texts_268 : decode cL_texts 268 = .ok (.invokevirtual 22, 3) := by decide +kernel
theorem dL_texts_271 : decode cL_texts 271 = .ok (.ifCond .ne 70, 3) := by decide +kernel
theorem dL_texts_274 : decode cL_texts 274 = .ok (.aload_n 0, 1) := by decide +kernel
theorem dL_texts_275 : decode cL_texts 275 = .ok (.iconst 0, 1) := by decide +kernel
theorem dL_texts_276 : decode cL_texts 276 = .ok (.invokevirtual 19, 3) := by decide +kernel
theorem dL_texts_279 : decode cL_texts 279 = .ok (.iconst 1, 1) := by decide +kernel
theorem dL_texts_280 : decode cL_texts 280 = .ok (.if_icmp .ne 61, 3) := by decide +kernel
theorem dL_texts_283 : decode cL_texts 283 = .ok (.aload_n 0, 1) := by decide +kernel
theorem dL_texts_284 : decode cL_texts 284 = .ok (.bipush 17, 2) := by decide +kernel
theorem dL_texts_286 : decode cL_texts 286 = .ok (.invokevirtual 13, 3) := by decide +kernel
theorem dL_texts_289 : decode cL_texts 289 = .ok (.bipush 7, 2) := by decide +kernel
theorem dL_texts_291 : decode cL_texts 291 = .ok (.if_icmp .ne 50, 3) := by decide +kernel
theorem dL_texts_294 : decode cL_texts 294 = .ok (.aload_n 0, 1) := by decide +kernel
theorem dL_texts_295 : decode cL_texts 295 = .ok (.bipush 8, 2) := by decide +kernel
theorem dL_texts_297 : decode cL_texts 297 = .ok (.invokevirtual 61, 3) := by decide +kernel
theorem dL_texts_300 : decode cL_texts 300 = .ok (.iconst 1, 1) := by decide +kernel
theorem dL_texts_301 : decode cL_texts 301 = .ok (.if_icmp .ne 40, 3) := by decide +kernel
theorem dL_texts_304 : decode cL_texts 304 = .ok (.aload_n 0, 1) := by decide +kernel
theorem dL_texts_305 : decode cL_texts 305 = .ok (.invokevirtual 108, 3) := by decide +kernel
theorem dL_texts_308 : decode cL_texts 308 = .ok (.iconst 4, 1) := by decide +kernel
theorem dL_texts_309 : decode cL_texts 309 = .ok (.if_icmp .ne 32, 3) := by decide +kernel
theorem dL_texts_312 : decode cL_texts 312 = .ok (.aload_n 0, 1) := by decide +kernel
theorem dL_texts_313 : decode cL_texts 313 = .ok (.iconst 1, 1) := by decide +kernel
theorem dL_texts_314 : decode cL_texts 314 = .ok (.invokevirtual 61, 3) := by decide +kernel
theorem dL_texts_317 : decode cL_texts 317 = .ok (.iconst 3, 1) := by decide +kernel
theorem dL_texts_318 : decode cL_texts 318 = .ok (.if_icmp .ne 23, 3) := by decide +kernel
theorem dL_texts_321 : decode cL_texts 321 = .ok (.aload_n 0, 1) := by decide +kernel
theorem dL_texts_322 : decode cL_texts 322 = .ok (.invokevirtual 108, 3) := by decide +kernel
theorem dL_texts_325 : decode cL_texts 325 = .ok (.sipush (-1004), 3) := by decide +kernel
theorem dL_texts_328 : decode cL_texts 328 = .ok (.if_icmp .ne 13, 3) := by decide +kernel
theorem dL_texts_331 : decode cL_texts 331 = .ok (.aload_n 0, 1) := by decide +kernel
theorem dL_texts_332 : decode cL_texts 332 = .ok (.bipush 16, 2) := by decide +kernel
theorem dL_texts_334 : decode cL_texts 334 = .ok (.invokevirtual 13, 3) := by decide +kernel
theorem dL_texts_337 : decode cL_texts 337 = .ok (.iconst 4, 1) := by decide +kernel
theorem dL_texts_338 : decode cL_texts 338 = .ok (.if_icmp .eq 5, 3) := by decide +kernel
theorem dL_texts_341 : decode cL_texts 341 = .ok (.iconst 0, 1) := by decide +kernel
theorem dL_texts_342 : decode cL_texts 342 = .ok (.ireturn, 1) := by decide +kernel
theorem dL_texts_343 : decode cL_texts 343 = .ok (.bipush 7, 2) := by decide +kernel
theorem dL_texts_345 : decode cL_texts 345 = .ok (.istore_n 1, 1) := by decide +kernel
theorem dL_texts_346 : decode cL_texts 346 = .ok (.iload_n 1, 1) := by decide +kernel
theorem dL_texts_347 : decode cL_texts 347 = .ok (.bipush 60, 2) := by decide +kernel
theorem dL_texts_349 : decode cL_texts 349 = .ok (.if_icmp .ge 23, 3) := by decide +kernel
theorem dL_texts_352 : decode cL_texts 352 = .ok (.aload_n 0, 1) := by decide +kernel
theorem dL_texts_353 : decode cL_texts 353 = .ok (.iload_n 1, 1) := by decide +kernel
theorem dL_texts_354 : decode cL_texts 354 = .ok (.i2c, 1) := by decide +kernel
theorem dL_texts_355 : decode cL_texts 355 = .ok (.invokevirtual 100, 3) := by decide +kernel
theorem dL_texts_358 : decode cL_texts 358 = .ok (.iload_n 1, 1) := by decide +kernel
theorem dL_texts_359 : decode cL_texts 359 = .ok (.iconst 1, 1) := by decide +kernel
theorem dL_texts_360 : decode cL_texts 360 = .ok (.iadd, 1) := by decide +kernel
theorem dL_texts_361 : decode cL_texts 361 = .ok (.if_icmp .eq 5, 3) := by decide +kernel
theorem dL_texts_364 : decode cL_texts 364 = .ok (.iconst 0, 1) := by decide +kernel
theorem dL_texts_365 : decode cL_texts 365 = .ok (.ireturn, 1) := by decide +kernel
theorem dL_texts_366 : decode cL_texts 366 = .ok (.iinc 1 1, 3) := by decide +kernel
theorem dL_texts_369 : decode cL_texts 369 = .ok (.goto (-23), 3) := by decide +kernel
theorem dL_texts_372 : decode cL_texts 372 = .ok (.aload_n 0, 1) := by decide +kernel
theorem dL_texts_373 : decode cL_texts 373 = .ok (.bipush 49, 2) := by decide +kernel
theorem dL_texts_375 : decode cL_texts 375 = .ok (.invokevirtual 100, 3) := by decide +kernel
theorem dL_texts_378 : decode cL_texts 378 = .ok (.sipush (-1003), 3) := by decide +kernel
theorem dL_texts_381 : decode cL_texts 381 = .ok (.if_icmp .ne 36, 3) := by decide +kernel
theorem dL_texts_384 : decode cL_texts 384 = .ok (.aload_n 0, 1) := by decide +kernel
theorem dL_texts_385 : decode cL_texts 385 = .ok (.invokevirtual 108, 3) := by decide +kernel
theorem dL_texts_388 : decode cL_texts 388 = .ok (.sipush (-1107), 3) := by decide +kernel
theorem dL_texts_391 : decode cL_texts 391 = .ok (.if_icmp .ne 26, 3) := by decide +kernel
theorem dL_texts_394 : decode cL_texts 394 = .ok (.aload_n 0, 1) := by decide +kernel
theorem dL_texts_395 : decode cL_texts 395 = .ok (.invokevirtual 149, 3) := by decide +kernel
theorem dL_texts_398 : decode cL_texts 398 = .ok (.bipush 60, 2) := by decide +kernel
theorem dL_texts_400 : decode cL_texts 400 = .ok (.if_icmp .ne 17, 3) := by decide +kernel
theorem dL_texts_403 : decode cL_texts 403 = .ok (.aload_n 0, 1) := by decide +kernel
theorem dL_texts_404 : decode cL_texts 404 = .ok (.invokevirtual 108, 3) := by decide +kernel
theorem dL_texts_407 : decode cL_texts 407 = .ok (.sipush (-1100), 3) := by decide +kernel
theorem dL_texts_410 : decode cL_texts 410 = .ok (.if_icmp .ne 7, 3) := by decide +kernel
theorem dL_texts_413 : decode cL_texts 413 = .ok (.iconst 1, 1) := by decide +kernel
theorem dL_texts_414 : decode cL_texts 414 = .ok (.goto 4, 3) := by decide +kernel
theorem dL_texts_417 : decode cL_texts 417 = .ok (.iconst 0, 1) := by decide +kernel
theorem dL_texts_418 : decode cL_texts 418 = .ok (.ireturn, 1) := by decide +kernel
theorem dL_law_0 : decode cL_law 0 = .ok (.invokestatic 152, 3) := by decide +kernel
theorem dL_law_3 : decode cL_law 3 = .ok (.ifCond .eq 21, 3) := by decide +kernel
theorem dL_law_6 : decode cL_law 6 = .ok (.invokestatic 156, 3) := by decide +kernel
theorem dL_law_9 : decode cL_law 9 = .ok (.ifCond .eq 15, 3) := by decide +kernel
theorem dL_law_12 : decode cL_law 12 = .ok (.invokestatic 159, 3) := by decide +kernel
theorem dL_law_15 : decode cL_law 15 = .ok (.ifCond .eq 9, 3) := by decide +kernel
theorem dL_law_18 : decode cL_law 18 = .ok (.invokestatic 162, 3) := by decide +kernel
theorem dL_law_21 : decode cL_law 21 = .ok (.ifCond .ne 5, 3) := by decide +kernel
theorem dL_law_24 : decode cL_law 24 = .ok (.iconst 0, 1) := by decide +kernel
theorem dL_law_25 : decode cL_law 25 = .ok (.ireturn, 1) := by decide +kernel
theorem dL_law_26 : decode cL_law 26 = .ok (.new 14, 3) := by decide +kernel
theorem dL_law_29 : decode cL_law 29 = .ok (.dup, 1) := by decide +kernel
theorem dL_law_30 : decode cL_law 30 = .ok (.invokespecial 81, 3) := by decide +kernel
theorem dL_law_33 : decode cL_law 33 = .ok (.astore_n 1, 1) := by decide +kernel
theorem dL_law_34 : decode cL_law 34 = .ok (.bipush 64, 2) := by decide +kernel
theorem dL_law_36 : decode cL_law 36 = .ok (.newarray .long, 2) := by decide +kernel
theorem dL_law_38 : decode cL_law 38 = .ok (.astore_n 2, 1) := by decide +kernel
theorem dL_law_39 : decode cL_law 39 = .ok (.iconst 0, 1) := by decide +kernel
theorem dL_law_40 : decode cL_law 40 = .ok (.istore_n 3, 1) := by decide +kernel
theorem dL_law_41 : decode cL_law 41 = .ok (.aload_n 1, 1) := by decide +kernel
theorem dL_law_42 : decode cL_law 42 = .ok (.bipush 6, 2) := by decide +kernel
theorem dL_law_44 : decode cL_law 44 = .ok (.iconst 4, 1) := by decide +kernel
theorem dL_law_45 : decode cL_law 45 = .ok (.iconst 1, 1) := by decide +kernel
theorem dL_law_46 : decode cL_law 46 = .ok (.invokevirtual 33, 3) := by decide +kernel
theorem dL_law_49 : decode cL_law 49 = .ok (.ifCond .ne 10, 3) := by decide +kernel
theorem dL_law_52 : decode cL_law 52 = .ok (.aload_n 1, 1) := by decide +kernel
theorem dL_law_53 : decode cL_law 53 = .ok (.invokevirtual 93, 3) := by decide +kernel
theorem dL_law_56 : decode cL_law 56 = .ok (.ifCond .eq 5, 3) := by decide +kernel
theorem dL_law_59 : decode cL_law 59 = .ok (.iconst 0, 1) := by decide +kernel
theorem dL_law_60 : decode cL_law 60 = .ok (.ireturn, 1) := by decide +kernel
theorem dL_law_61 : decode cL_law 61 = .ok (.aload_n 1, 1) := by decide +kernel
theorem dL_law_62 : decode cL_law 62 = .ok (.invokestatic 73, 3) := by decide +kernel
theorem dL_law_65 : decode cL_law 65 = .ok (.lstore 4, 2) := by decide +kernel
theorem dL_law_67 : decode cL_law 67 = .ok (.iconst 0, 1) := by decide +kernel
theorem dL_law_68 : decode cL_law 68 = .ok (.istore 6, 2) := by decide +kernel
theorem dL_law_70 : decode cL_law 70 = .ok (.iload 6, 2) := by decide +kernel
theorem dL_law_72 : decode cL_law 72 = .ok (.bipush 28, 2) := by decide +kernel
theorem dL_law_74 : decode cL_law 74 = .ok (.if_icmp .ge 329, 3) := by decide +kernel
theorem dL_law_77 : decode cL_law 77 = .ok (.aload_n 0, 1) := by decide +kernel
theorem dL_law_78 : decode cL_law 78 = .ok (.iload 6, 2) := by decide +kernel
theorem dL_law_80 : decode cL_law 80 = .ok (.invokestatic 165, 3) := by decide +kernel
theorem dL_law_83 : decode cL_law 83 = .ok (.istore 7, 2) := by decide +kernel
theorem dL_law_85 : decode cL_law 85 = .ok (.iload 7, 2) := by decide +kernel
theorem dL_law_87 : decode cL_law 87 = .ok (.bipush 13, 2) := by decide +kernel
theorem dL_law_89 : decode cL_law 89 = .ok (.invokestatic 169, 3) := by decide +kernel
theorem dL_law_92 : decode cL_law 92 = .ok (.istore 8, 2) := by decide +kernel
theorem dL_law_94 : decode cL_law 94 = .ok (.aload_n 2, 1) := by decide +kernel
theorem dL_law_95 : decode cL_law 95 = .ok (.iload_n 3, 1) := by decide +kernel
theorem dL_law_96 : decode cL_law 96 = .ok (.aload_n 1, 1) := by decide +kernel
theorem dL_law_97 : decode cL_law 97 = .ok (.invokestatic 73, 3) := by decide +kernel
theorem dL_law_100 : decode cL_law 100 = .ok (.lastore, 1) := by decide +kernel
theorem dL_law_101 : decode cL_law 101 = .ok (.aload_n 1, 1) := by decide +kernel
theorem dL_law_102 : decode cL_law 102 = .ok (.bipush 16, 2) := by decide +kernel
theorem dL_law_104 : decode cL_law 104 = .ok (.invokevirtual 13, 3) := by decide +kernel
theorem dL_law_107 : decode cL_law 107 = .ok (.istore 9, 2) := by decide +kernel
theorem dL_law_109 : decode cL_law 109 = .ok (.iload 7, 2) := by decide +kernel
theorem dL_law_111 : decode cL_law 111 = .ok (.iconst 4, 1) := by decide +kernel
theorem dL_law_112 : decode cL_law 112 = .ok (.ishr, 1) := by decide +kernel
theorem dL_law_113 : decode cL_law 113 = .ok (.bipush 8, 2) := by decide +kernel
theorem dL_law_115 : decode cL_law 115 = .ok (.invokestatic 169, 3) := by decide +kernel
theorem dL_law_118 : decode cL_law 118 = .ok (.istore 10, 2) := by decide +kernel
theorem dL_law_120 : decode cL_law 120 = .ok (.iload 8, 2) := by decide +kernel
theorem dL_law_122 : decode cL_law 122 = .ok (.iconst 5, 1) := by decide +kernel
theorem dL_law_123 : decode cL_law 123 = .ok (.if_icmp .ge 38, 3) := by decide +kernel
theorem dL_law_126 : decode cL_law 126 = .ok (.aload_n 1, 1) := by decide +kernel
theorem dL_law_127 : decode cL_law 127 = .ok (.iload 7, 2) := by decide +kernel
theorem dL_law_129 : decode cL_law 129 = .ok (.iconst 4, 1) := by decide +kernel
theorem dL_law_130 : decode cL_law 130 = .ok (.ishr, 1) := by decide +kernel
theorem dL_law_131 : decode cL_law 131 = .ok (.bipush 60, 2) := by decide +kernel
theorem dL_law_133 : decode cL_law 133 = .ok (.invokestatic 169, 3) := by decide +kernel
theorem dL_law_136 : decode cL_law 136 = .ok (.iload 7, 2) := by decide +kernel
theorem dL_law_138 : decode cL_law 138 = .ok (.bipush 10, 2) := by decide +kernel
theorem dL_law_140 : decode cL_law 140 = .ok (.ishr, 1) := by decide +kernel
theorem dL_law_141 : decode cL_law 141 = .ok (.bipush 9, 2) := by decide +kernel
theorem dL_law_143 : decode cL_law 143 = .ok (.invokestatic 169, 3) := by decide +kernel
theorem dL_law_146 : decode cL_law 146 = .ok (.iload 7, 2) := by decide +kernel
theorem dL_law_148 : decode cL_law 148 = .ok (.bipush 14, 2) := by decide +kernel
theorem dL_law_150 : decode cL_law 150 = .ok (.ishr, 1) := by decide +kernel
theorem dL_law_151 : decode cL_law 151 = .ok (.iconst 5, 1) := by decide +kernel
theorem dL_law_152 : decode cL_law 152 = .ok (.invokestatic 169, 3) := by decide +kernel
theorem dL_law_155 : decode cL_law 155 = .ok (.invokevirtual 33, 3) := by decide +kernel
theorem dL_law_158 : decode cL_law 158 = .ok (.goto 195, 3) := by decide +kernel
theorem dL_law_161 : decode cL_law 161 = .ok (.iload 8, 2) := by decide +kernel
theorem dL_law_163 : decode cL_law 163 = .ok (.iconst 5, 1) := by decide +kernel
theorem dL_law_164 : decode cL_law 164 = .ok (.if_icmp .ne 12, 3) := by decide +kernel
theorem dL_law_167 : decode cL_law 167 = .ok (.aload_n 1, 1) := by decide +kernel
theorem dL_law_168 : decode cL_law 168 = .ok (.iload 10, 2) := by decide +kernel
theorem dL_law_170 : decode cL_law 170 = .ok (.invokevirtual 40, 3) := by decide +kernel
theorem dL_law_173 : decode cL_law 173 = .ok (.goto 180, 3) := by decide +kernel
theorem dL_law_176 : decode cL_law 176 = .ok (.iload 8, 2) := by decide +kernel
theorem dL_law_178 : decode cL_law 178 = .ok (.bipush 6, 2) := by decide +kernel
theorem dL_law_180 : decode cL_law 180 = .ok (.if_icmp .ne 22, 3) := by decide +kernel
theorem dL_law_183 : decode cL_law 183 = .ok (.aload_n 1, 1) := by decide +kernel
theorem dL_law_184 : decode cL_law 184 = .ok (.iload 10, 2) := by decide +kernel
theorem dL_law_186 : decode cL_law 186 = .ok (.iload 7, 2) := by decide +kernel
theorem dL_law_188 : decode cL_law 188 = .ok (.bipush 7, 2) := by decide +kernel
theorem dL_law_190 : decode cL_law 190 = .ok (.ishr, 1) := by decide +kernel
theorem dL_law_191 : decode cL_law 191 = .ok (.bipush 60, 2) := by decide +kernel
theorem dL_law_193 : decode cL_law 193 = .ok (.invokestatic 169, 3) := by decide +kernel
theorem dL_law_196 : decode cL_law 196 = .ok (.invokevirtual 43, 3) := by decide +kernel
theorem dL_law_199 : decode cL_law 199 = .ok (.goto 154, 3) := by decide +kernel
theorem dL_law_202 : decode cL_law 202 = .ok (.iload 8, 2) := by decide +kernel
theorem dL_law_204 : decode cL_law 204 = .ok (.bipush 7, 2) := by decide +kernel
theorem dL_law_206 : decode cL_law 206 = .ok (.if_icmp .ne 19, 3) := by decide +kernel
theorem dL_law_209 : decode cL_law 209 = .ok (.aload_n 1, 1) := by decide +kernel
theorem dL_law_210 : decode cL_law 210 = .ok (.iload 7, 2) := by decide +kernel
theorem dL_law_212 : decode cL_law 212 = .ok (.iconst 4, 1) := by decide +kernel
theorem dL_law_213 : decode cL_law 213 = .ok (.ishr, 1) := by decide +kernel
theorem dL_law_214 : decode cL_law 214 = .ok (.bipush 6, 2) := by decide +kernel
theorem dL_law_216 : decode cL_law 216 = .ok (.invokestatic 169, 3) := by decide +kernel
theorem dL_law_219 : decode cL_law 219 = .ok (.invokevirtual 46, 3) := by decide +kernel
theorem dL_law_222 : decode cL_law 222 = .ok (.goto 131, 3) := by decide +kernel
theorem dL_law_225 : decode cL_law 225 = .ok (.iload 8, 2) := by decide +kernel
theorem dL_law_227 : decode cL_law 227 = .ok (.bipush 8, 2) := by decide +kernel
theorem dL_law_229 : decode cL_law 229 = .ok (.if_icmp .ne 19, 3) := by decide +kernel
theorem dL_law_232 : decode cL_law 232 = .ok (.aload_n 1, 1) := by decide +kernel
theorem dL_law_233 : decode cL_law 233 = .ok (.iload 7, 2) := by decide +kernel
theorem dL_law_235 : decode cL_law 235 = .ok (.iconst 4, 1) := by decide +kernel
theorem dL_law_236 : decode cL_law 236 = .ok (.ishr, 1) := by decide +kernel
theorem dL_law_237 : decode cL_law 237 = .ok (.bipush 23, 2) := by decide +kernel
theorem dL_law_239 : decode cL_law 239 = .ok (.invokestatic 169, 3) := by decide +kernel
theorem dL_law_242 : decode cL_law 242 = .ok (.invokevirtual 49, 3) := by decide +kernel
theorem dL_law_245 : decode cL_law 245 = .ok (.goto 108, 3) := by decide +kernel
theorem dL_law_248 : decode cL_law 248 = .ok (.iload 8, 2) := by decide +kernel
theorem dL_law_250 : decode cL_law 250 = .ok (.bipush 9, 2) := by decide +kernel
theorem dL_law_252 : decode cL_law 252 = .ok (.if_icmp .ne 19, 3) := by decide +kernel
theorem dL_law_255 : decode cL_law 255 = .ok (.aload_n 1, 1) := by decide +kernel
theorem dL_law_256 : decode cL_law 256 = .ok (.iload 7, 2) := by decide +kernel
theorem dL_law_258 : decode cL_law 258 = .ok (.iconst 4, 1) := by decide +kernel
theorem dL_law_259 : decode cL_law 259 = .ok (.ishr, 1) := by decide +kernel
theorem dL_law_260 : decode cL_law 260 = .ok (.bipush 11, 2) := by decide +kernel
theorem dL_law_262 : decode cL_law 262 = .ok (.invokestatic 169, 3) := by decide +kernel
theorem dL_law_265 : decode cL_law 265 = .ok (.invokevirtual 52, 3) := by decide +kernel
theorem dL_law_268 : decode cL_law 268 = .ok (.goto 85, 3) := by decide +kernel
theorem dL_law_271 : decode cL_law 271 = .ok (.iload 8, 2) := by decide +kernel
theorem dL_law_273 : decode cL_law 273 = .ok (.bipush 10, 2) := by decide +kernel
theorem dL_law_275 : decode cL_law 275 = .ok (.if_icmp .ne 21, 3) := by decide +kernel
theorem dL_law_278 : decode cL_law 278 = .ok (.aload_n 1, 1) := by decide +kernel
theorem dL_law_279 : decode cL_law 279 = .ok (.iload 7, 2) := by decide +kernel
theorem dL_law_281 : decode cL_law 281 = .ok (.iconst 4, 1) := by decide +kernel
theorem dL_law_282 : decode cL_law 282 = .ok (.ishr, 1) := by decide +kernel
theorem dL_law_283 : decode cL_law 283 = .ok (.bipush 9, 2) := by decide +kernel
theorem dL_law_285 : decode cL_law 285 = .ok (.invokestatic 169, 3) := by decide +kernel
theorem dL_law_288 : decode cL_law 288 = .ok (.iconst 1, 1) := by decide +kernel
theorem dL_law_289 : decode cL_law 289 = .ok (.iadd, 1) := by decide +kernel
theorem dL_law_290 : decode cL_law 290 = .ok (.invokevirtual 55, 3) := by decide +kernel
theorem dL_law_293 : decode cL_law 293 = .ok (.goto 60, 3) := by decide +kernel
theorem dL_law_296 : decode cL_law 296 = .ok (.iload 8, 2) := by decide +kernel
theorem dL_law_298 : decode cL_law 298 = .ok (.bipush 11, 2) := by decide +kernel
theorem dL_law_300 : decode cL_law 300 = .ok (.if_icmp .ne 19, 3) := by decide +kernel
theorem dL_law_303 : decode cL_law 303 = .ok (.aload_n 1, 1) := by decide +kernel
theorem dL_law_304 : decode cL_law 304 = .ok (.iload 7, 2) := by decide +kernel
theorem dL_law_306 : decode cL_law 306 = .ok (.iconst 4, 1) := by decide +kernel
theorem dL_law_307 : decode cL_law 307 = .ok (.ishr, 1) := by decide +kernel
theorem dL_law_308 : decode cL_law 308 = .ok (.bipush 20, 2) := by decide +kernel
theorem dL_law_310 : decode cL_law 310 = .ok (.invokestatic 169, 3) := by decide +kernel
theorem dL_law_313 : decode cL_law 313 = .ok (.invokevirtual 61, 3) := by decide +kernel
theorem dL_law_316 : decode cL_law 316 = .ok (.goto 37, 3) := by decide +kernel
theorem dL_law_319 : decode cL_law 319 = .ok (.iload 7, 2) := by decide +kernel
theorem dL_law_321 : decode cL_law 321 = .ok (.iconst 4, 1) := by decide +kernel
theorem dL_law_322 : decode cL_law 322 = .ok (.ishr, 1) := by decide +kernel
theorem dL_law_323 : decode cL_law 323 = .ok (.iconst 2, 1) := by decide +kernel
theorem dL_law_324 : decode cL_law 324 = .ok (.invokestatic 169, 3) := by decide +kernel
theorem dL_law_327 : decode cL_law 327 = .ok (.ifCond .ne 10, 3) := by decide +kernel
theorem dL_law_330 : decode cL_law 330 = .ok (.aload_n 1, 1) := by decide +kernel
theorem dL_law_331 : decode cL_law 331 = .ok (.invokevirtual 86, 3) := by decide +kernel
theorem dL_law_334 : decode cL_law 334 = .ok (.goto 19, 3) := by decide +kernel
theorem dL_law_337 : decode cL_law 337 = .ok (.aload_n 1, 1) := by decide +kernel
theorem dL_law_338 : decode cL_law 338 = .ok (.iload 7, 2) := by decide +kernel
theorem dL_law_340 : decode cL_law 340 = .ok (.iconst 5, 1) := by decide +kernel
theorem dL_law_341 : decode cL_law 341 = .ok (.ishr, 1) := by decide +kernel
theorem dL_law_342 : decode cL_law 342 = .ok (.bipush 30, 2) := by decide +kernel
theorem dL_law_344 : decode cL_law 344 = .ok (.invokestatic 169, 3) := by decide +kernel
theorem dL_law_347 : decode cL_law 347 = .ok (.bipush 15, 2) := by decide +kernel
theorem dL_law_349 : decode cL_law 349 = .ok (.isub, 1) := by decide +kernel
theorem dL_law_350 : decode cL_law 350 = .ok (.invokevirtual 58, 3) := by decide +kernel
theorem dL_law_353 : decode cL_law 353 = .ok (.istore 11, 2) := by decide +kernel
theorem dL_law_355 : decode cL_law 355 = .ok (.iload 11, 2) := by decide +kernel
theorem dL_law_357 : decode cL_law 357 = .ok (.ifCond .ge 27, 3) := by decide +kernel
theorem dL_law_360 : decode cL_law 360 = .ok (.aload_n 1, 1) := by decide +kernel
theorem dL_law_361 : decode cL_law 361 = .ok (.bipush 16, 2) := by decide +kernel
theorem dL_law_363 : decode cL_law 363 = .ok (.invokevirtual 13, 3) := by decide +kernel
theorem dL_law_366 : decode cL_law 366 = .ok (.iload 9, 2) := by decide +kernel
theorem dL_law_368 : decode cL_law 368 = .ok (.if_icmp .ne 14, 3) := by decide +kernel
theorem dL_law_371 : decode cL_law 371 = .ok (.aload_n 1, 1) := by decide +kernel
theorem dL_law_372 : decode cL_law 372 = .ok (.invokestatic 73, 3) := by decide +kernel
theorem dL_law_375 : decode cL_law 375 = .ok (.aload_n 2, 1) := by decide +kernel
theorem dL_law_376 : decode cL_law 376 = .ok (.iload_n 3, 1) := by decide +kernel
theorem dL_law_377 : decode cL_law 377 = .ok (.laload, 1) := by decide +kernel
theorem dL_law_378 : decode cL_law 378 = .ok (.lcmp, 1) := by decide +kernel
theorem dL_law_379 : decode cL_law 379 = .ok (.ifCond .eq 5, 3) := by decide +kernel
theorem dL_law_382 : decode cL_law 382 = .ok (.iconst 0, 1) := by decide +kernel
theorem dL_law_383 : decode cL_law 383 = .ok (.ireturn, 1) := by decide +kernel
theorem dL_law_384 : decode cL_law 384 = .ok (.iload_n 3, 1) := by decide +kernel
theorem dL_law_385 : decode cL_law 385 = .ok (.iload 11, 2) := by decide +kernel
theorem dL_law_387 : decode cL_law 387 = .ok (.ifCond .ge 7, 3) := by decide +kernel
theorem dL_law_390 : decode cL_law 390 = .ok (.iconst 0, 1) := by decide +kernel
theorem dL_law_391 : decode cL_law 391 = .ok (.goto 4, 3) := by decide +kernel
theorem dL_law_394 : decode cL_law 394 = .ok (.iconst 1, 1) := by decide +kernel
theorem dL_law_395 : decode cL_law 395 = .ok (.iadd, 1) := by decide +kernel
theorem dL_law_396 : decode cL_law 396 = .ok (.istore_n 3, 1) := by decide +kernel
theorem dL_law_397 : decode cL_law 397 = .ok (.iinc 6 1, 3) := by decide +kernel
theorem dL_law_400 : decode cL_law 400 = .ok (.goto (-330), 3) := by decide +kernel
theorem dL_law_403 : decode cL_law 403 = .ok (.aload_n 2, 1) := by decide +kernel
theorem dL_law_404 : decode cL_law 404 = .ok (.iload_n 3, 1) := by decide +kernel
theorem dL_law_405 : decode cL_law 405 = .ok (.aload_n 1, 1) := by decide +kernel
theorem dL_law_406 : decode cL_law 406 = .ok (.invokestatic 73, 3) := by decide +kernel
theorem dL_law_409 : decode cL_law 409 = .ok (.lastore, 1) := by decide +kernel
theorem dL_law_410 : decode cL_law 410 = .ok (.aload_n 1, 1) := by decide +kernel
theorem dL_law_411 : decode cL_law 411 = .ok (.invokestatic 89, 3) := by decide +kernel
theorem dL_law_414 : decode cL_law 414 = .ok (.ifCond .ne 5, 3) := by decide +kernel
theorem dL_law_417 : decode cL_law 417 = .ok (.iconst 0, 1) := by decide +kernel
theorem dL_law_418 : decode cL_law 418 = .ok (.ireturn, 1) := by decide +kernel
theorem dL_law_419 : decode cL_law 419 = .ok (.iconst 0, 1) := by decide +kernel
theorem dL_law_420 : decode cL_law 420 = .ok (.istore 6, 2) := by decide +kernel
theorem dL_law_422 : decode cL_law 422 = .ok (.aload_n 1, 1) := by decide +kernel
theorem dL_law_423 : decode cL_law 423 = .ok (.bipush 16, 2) := by decide +kernel
theorem dL_law_425 : decode cL_law 425 = .ok (.invokevirtual 13, 3) := by decide +kernel
theorem dL_law_428 : decode cL_law 428 = .ok (.ifCond .le 56, 3) := by decide +kernel
theorem dL_law_431 : decode cL_law 431 = .ok (.iload 6, 2) := by decide +kernel
theorem dL_law_433 : decode cL_law 433 = .ok (.iload_n 3, 1) := by decide +kernel
theorem dL_law_434 : decode cL_law 434 = .ok (.if_icmp .ge 50, 3) := by decide +kernel
theorem dL_law_437 : decode cL_law 437 = .ok (.aload_n 1, 1) := by decide +kernel
theorem dL_law_438 : decode cL_law 438 = .ok (.bipush 16, 2) := by decide +kernel
theorem dL_law_440 : decode cL_law 440 = .ok (.invokevirtual 13, 3) := by decide +kernel
theorem dL_law_443 : decode cL_law 443 = .ok (.istore 7, 2) := by decide +kernel
theorem dL_law_445 : decode cL_law 445 = .ok (.iload 6, 2) := by decide +kernel
theorem dL_law_447 : decode cL_law 447 = .ok (.iconst 3, 1) := by decide +kernel
theorem dL_law_448 : decode cL_law 448 = .ok (.if_icmp .gt 28, 3) := by decide +kernel
theorem dL_law_451 : decode cL_law 451 = .ok (.aload_n 1, 1) := by decide +kernel
theorem dL_law_452 : decode cL_law 452 = .ok (.invokestatic 73, 3) := by decide +kernel
theorem dL_law_455 : decode cL_law 455 = .ok (.aload_n 2, 1) := by decide +kernel
theorem dL_law_456 : decode cL_law 456 = .ok (.iload_n 3, 1) := by decide +kernel
theorem dL_law_457 : decode cL_law 457 = .ok (.iload 6, 2) := by decide +kernel
theorem dL_law_459 : decode cL_law 459 = .ok (.isub, 1) := by decide +kernel
theorem dL_law_460 : decode cL_law 460 = .ok (.laload, 1) := by decide +kernel
theorem dL_law_461 : decode cL_law 461 = .ok (.lcmp, 1) := by decide +kernel
theorem dL_law_462 : decode cL_law 462 = .ok (.ifCond .ne 14, 3) := by decide +kernel
theorem dL_law_465 : decode cL_law 465 = .ok (.aload_n 1, 1) := by decide +kernel
theorem dL_law_466 : decode cL_law 466 = .ok (.invokevirtual 82, 3) := by decide +kernel
theorem dL_law_469 : decode cL_law 469 = .ok (.iload 7, 2) := by decide +kernel
theorem dL_law_471 : decode cL_law 471 = .ok (.iconst 1, 1) := by decide +kernel
theorem dL_law_472 : decode cL_law 472 = .ok (.isub, 1) := by decide +kernel
theorem dL_law_473 : decode cL_law 473 = .ok (.if_icmp .eq 5, 3) := by decide +kernel
theorem dL_law_476 : decode cL_law 476 = .ok (.iconst 0, 1) := by decide +kernel
theorem dL_law_477 : decode cL_law 477 = .ok (.ireturn, 1) := by decide +kernel
theorem dL_law_478 : decode cL_law 478 = .ok (.iinc 6 1, 3) := by decide +kernel
theorem dL_law_481 : decode cL_law 481 = .ok (.goto (-59), 3) := by decide +kernel
theorem dL_law_484 : decode cL_law 484 = .ok (.aload_n 1, 1) := by decide +kernel
theorem dL_law_485 : decode cL_law 485 = .ok (.bipush 16, 2) := by decide +kernel
theorem dL_law_487 : decode cL_law 487 = .ok (.invokevirtual 13, 3) := by decide +kernel
theorem dL_law_490 : decode cL_law 490 = .ok (.ifCond .le 12, 3) := by decide +kernel
theorem dL_law_493 : decode cL_law 493 = .ok (.aload_n 1, 1) := by decide +kernel
theorem dL_law_494 : decode cL_law 494 = .ok (.invokevirtual 82, 3) := by decide +kernel
theorem dL_law_497 : decode cL_law 497 = .ok (.ifCond .ge (-13), 3) := by decide +kernel
theorem dL_law_500 : decode cL_law 500 = .ok (.iconst 0, 1) := by decide +kernel
theorem dL_law_501 : decode cL_law 501 = .ok (.ireturn, 1) := by decide +kernel
theorem dL_law_502 : decode cL_law 502 = .ok (.aload_n 1, 1) := by decide +kernel
theorem dL_law_503 : decode cL_law 503 = .ok (.invokevirtual 82, 3) := by decide +kernel
theorem dL_law_506 : decode cL_law 506 = .ok (.sipush (-1005), 3) := by decide +kernel
theorem dL_law_509 : decode cL_law 509 = .ok (.if_icmp .ne 34, 3) := by decide +kernel
theorem dL_law_512 : decode cL_law 512 = .ok (.aload_n 1, 1) := by decide +kernel
theorem dL_law_513 : decode cL_law 513 = .ok (.invokevirtual 86, 3) := by decide +kernel
theorem dL_law_516 : decode cL_law 516 = .ok (.ifCond .ne 27, 3) := by decide +kernel
theorem dL_law_519 : decode cL_law 519 = .ok (.aload_n 1, 1) := by decide +kernel
theorem dL_law_520 : decode cL_law 520 = .ok (.invokestatic 73, 3) := by decide +kernel
theorem dL_law_523 : decode cL_law 523 = .ok (.lload 4, 2) := by decide +kernel
theorem dL_law_525 : decode cL_law 525 = .ok (.lcmp, 1) := by decide +kernel
theorem dL_law_526 : decode cL_law 526 = .ok (.ifCond .ne 17, 3) := by decide +kernel
theorem dL_law_529 : decode cL_law 529 = .ok (.aload_n 1, 1) := by decide +kernel
theorem dL_law_530 : decode cL_law 530 = .ok (.bipush 16, 2) := by decide +kernel
theorem dL_law_532 : decode cL_law 532 = .ok (.invokevirtual 13, 3) := by decide +kernel
theorem dL_law_535 : decode cL_law 535 = .ok (.iconst 1, 1) := by decide +kernel
theorem dL_law_536 : decode cL_law 536 = .ok (.if_icmp .ne 7, 3) := by decide +kernel
theorem dL_law_539 : decode cL_law 539 = .ok (.iconst 1, 1) := by decide +kernel
theorem dL_law_540 : decode cL_law 540 = .ok (.goto 4, 3) := by decide +kernel
theorem dL_law_543 : decode cL_law 543 = .ok (.iconst 0, 1) := by decide +kernel
theorem dL_law_544 : decode cL_law 544 = .ok (.ireturn, 1) := by decide +kernel
