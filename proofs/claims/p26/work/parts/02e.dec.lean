theorem dL_three_0 : decode cL_three 0 = .ok (.new 14, 3) := by decide +kernel
theorem dL_three_3 : decode cL_three 3 = .ok (.dup, 1) := by decide +kernel
theorem dL_three_4 : decode cL_three 4 = .ok (.invokespecial 81, 3) := by decide +kernel
theorem dL_three_7 : decode cL_three 7 = .ok (.astore_n 0, 1) := by decide +kernel
theorem dL_three_8 : decode cL_three 8 = .ok (.aload_n 0, 1) := by decide +kernel
theorem dL_three_9 : decode cL_three 9 = .ok (.invokevirtual 82, 3) := by decide +kernel
theorem dL_three_12 : decode cL_three 12 = .ok (.sipush (-1005), 3) := by decide +kernel
theorem dL_three_15 : decode cL_three 15 = .ok (.if_icmp .ne 303, 3) := by decide +kernel
theorem dL_three_18 : decode cL_three 18 = .ok (.aload_n 0, 1) := by decide +kernel
theorem dL_three_19 : decode cL_three 19 = .ok (.invokevirtual 86, 3) := by decide +kernel
theorem dL_three_22 : decode cL_three 22 = .ok (.sipush (-1005), 3) := by decide +kernel
theorem dL_three_25 : decode cL_three 25 = .ok (.if_icmp .ne 293, 3) := by decide +kernel
theorem dL_three_28 : decode cL_three 28 = .ok (.aload_n 0, 1) := by decide +kernel
theorem dL_three_29 : decode cL_three 29 = .ok (.iconst 0, 1) := by decide +kernel
theorem dL_three_30 : decode cL_three 30 = .ok (.invokevirtual 19, 3) := by decide +kernel
theorem dL_three_33 : decode cL_three 33 = .ok (.sipush (-1005), 3) := by decide +kernel
theorem dL_three_36 : decode cL_three 36 = .ok (.if_icmp .ne 282, 3) := by decide +kernel
theorem dL_three_39 : decode cL_three 39 = .ok (.aload_n 0, 1) := by decide +kernel
theorem dL_three_40 : decode cL_three 40 = .ok (.iconst 0, 1) := by decide +kernel
theorem dL_three_41 : decode cL_three 41 = .ok (.iconst 0, 1) := by decide +kernel
theorem dL_three_42 : decode cL_three 42 = .ok (.invokevirtual 29, 3) := by decide +kernel
theorem dL_three_45 : decode cL_three 45 = .ok (.sipush (-1005), 3) := by decide +kernel
theorem dL_three_48 : decode cL_three 48 = .ok (.if_icmp .ne 270, 3) := by decide +kernel
theorem dL_three_51 : decode cL_three 51 = .ok (.aload_n 0, 1) := by decide +kernel
theorem dL_three_52 : decode cL_three 52 = .ok (.iconst 5, 1) := by decide +kernel
theorem dL_three_53 : decode cL_three 53 = .ok (.invokevirtual 13, 3) := by decide +kernel
theorem dL_three_56 : decode cL_three 56 = .ok (.iconst 2, 1) := by decide +kernel
theorem dL_three_57 : decode cL_three 57 = .ok (.if_icmp .ne 261, 3) := by decide +kernel
theorem dL_three_60 : decode cL_three 60 = .ok (.aload_n 0, 1) := by decide +kernel
theorem dL_three_61 : decode cL_three 61 = .ok (.iconst 5, 1) := by decide +kernel
theorem dL_three_62 : decode cL_three 62 = .ok (.invokevirtual 70, 3) := by decide +kernel
theorem dL_three_65 : decode cL_three 65 = .ok (.iconst 1, 1) := by decide +kernel
theorem dL_three_66 : decode cL_three 66 = .ok (.if_icmp .ne 252, 3) := by decide +kernel
theorem dL_three_69 : decode cL_three 69 = .ok (.aload_n 0, 1) := by decide +kernel
theorem dL_three_70 : decode cL_three 70 = .ok (.iconst 5, 1) := by decide +kernel
theorem dL_three_71 : decode cL_three 71 = .ok (.iconst 0, 1) := by decide +kernel
theorem dL_three_72 : decode cL_three 72 = .ok (.iconst 0, 1) := by decide +kernel
theorem dL_three_73 : decode cL_three 73 = .ok (.invokevirtual 33, 3) := by decide +kernel
theorem dL_three_76 : decode cL_three 76 = .ok (.ifCond .ne 242, 3) := by decide +kernel
theorem dL_three_79 : decode cL_three 79 = .ok (.aload_n 0, 1) := by decide +kernel
theorem dL_three_80 : decode cL_three 80 = .ok (.iconst 3, 1) := by decide +kernel
theorem dL_three_81 : decode cL_three 81 = .ok (.iconst 0, 1) := by decide +kernel
theorem dL_three_82 : decode cL_three 82 = .ok (.iconst 0, 1) := by decide +kernel
theorem dL_three_83 : decode cL_three 83 = .ok (.invokevirtual 33, 3) := by decide +kernel
theorem dL_three_86 : decode cL_three 86 = .ok (.iconst 1, 1) := by decide +kernel
theorem dL_three_87 : decode cL_three 87 = .ok (.if_icmp .ne 231, 3) := by decide +kernel
theorem dL_three_90 : decode cL_three 90 = .ok (.aload_n 0, 1) := by decide +kernel
theorem dL_three_91 : decode cL_three 91 = .ok (.iconst 5, 1) := by decide +kernel
theorem dL_three_92 : decode cL_three 92 = .ok (.invokevirtual 13, 3) := by decide +kernel
theorem dL_three_95 : decode cL_three 95 = .ok (.ifCond .ne 223, 3) := by decide +kernel
theorem dL_three_98 : decode cL_three 98 = .ok (.aload_n 0, 1) := by decide +kernel
theorem dL_three_99 : decode cL_three 99 = .ok (.iconst 4, 1) := by decide +kernel
theorem dL_three_100 : decode cL_three 100 = .ok (.iconst 0, 1) := by decide +kernel
theorem dL_three_101 : decode cL_three 101 = .ok (.iconst 0, 1) := by decide +kernel
theorem dL_three_102 : decode cL_three 102 = .ok (.invokevirtual 33, 3) := by decide +kernel
theorem dL_three_105 : decode cL_three 105 = .ok (.iconst 2, 1) := by decide +kernel
theorem dL_three_106 : decode cL_three 106 = .ok (.if_icmp .ne 212, 3) := by decide +kernel
theorem dL_three_109 : decode cL_three 109 = .ok (.aload_n 0, 1) := by decide +kernel
theorem dL_three_110 : decode cL_three 110 = .ok (.bipush 11, 2) := by decide +kernel
theorem dL_three_112 : decode cL_three 112 = .ok (.invokevirtual 13, 3) := by decide +kernel
theorem dL_three_115 : decode cL_three 115 = .ok (.iconst 1, 1) := by decide +kernel
theorem dL_three_116 : decode cL_three 116 = .ok (.if_icmp .ne 202, 3) := by decide +kernel
theorem dL_three_119 : decode cL_three 119 = .ok (.aload_n 0, 1) := by decide +kernel
theorem dL_three_120 : decode cL_three 120 = .ok (.bipush 10, 2) := by decide +kernel
theorem dL_three_122 : decode cL_three 122 = .ok (.invokevirtual 13, 3) := by decide +kernel
theorem dL_three_125 : decode cL_three 125 = .ok (.iconst 3, 1) := by decide +kernel
theorem dL_three_126 : decode cL_three 126 = .ok (.if_icmp .ne 192, 3) := by decide +kernel
theorem dL_three_129 : decode cL_three 129 = .ok (.aload_n 0, 1) := by decide +kernel
theorem dL_three_130 : decode cL_three 130 = .ok (.iconst 4, 1) := by decide +kernel
theorem dL_three_131 : decode cL_three 131 = .ok (.invokevirtual 13, 3) := by decide +kernel
theorem dL_three_134 : decode cL_three 134 = .ok (.iconst 1, 1) := by decide +kernel
theorem dL_three_135 : decode cL_three 135 = .ok (.if_icmp .ne 183, 3) := by decide +kernel
theorem dL_three_138 : decode cL_three 138 = .ok (.aload_n 0, 1) := by decide +kernel
theorem dL_three_139 : decode cL_three 139 = .ok (.iconst 0, 1) := by decide +kernel
theorem dL_three_140 : decode cL_three 140 = .ok (.iconst 3, 1) := by decide +kernel
theorem dL_three_141 : decode cL_three 141 = .ok (.invokevirtual 22, 3) := by decide +kernel
theorem dL_three_144 : decode cL_three 144 = .ok (.sipush (-1005), 3) := by decide +kernel
theorem dL_three_147 : decode cL_three 147 = .ok (.if_icmp .ne 171, 3) := by decide +kernel
theorem dL_three_150 : decode cL_three 150 = .ok (.aload_n 0, 1) := by decide +kernel
theorem dL_three_151 : decode cL_three 151 = .ok (.iconst 0, 1) := by decide +kernel
theorem dL_three_152 : decode cL_three 152 = .ok (.iconst 3, 1) := by decide +kernel
theorem dL_three_153 : decode cL_three 153 = .ok (.invokevirtual 26, 3) := by decide +kernel
theorem dL_three_156 : decode cL_three 156 = .ok (.iconst 2, 1) := by decide +kernel
theorem dL_three_157 : decode cL_three 157 = .ok (.if_icmp .ne 161, 3) := by decide +kernel
theorem dL_three_160 : decode cL_three 160 = .ok (.aload_n 0, 1) := by decide +kernel
theorem dL_three_161 : decode cL_three 161 = .ok (.iconst 0, 1) := by decide +kernel
theorem dL_three_162 : decode cL_three 162 = .ok (.iconst 0, 1) := by decide +kernel
theorem dL_three_163 : decode cL_three 163 = .ok (.invokevirtual 26, 3) := by decide +kernel
theorem dL_three_166 : decode cL_three 166 = .ok (.iconst 4, 1) := by decide +kernel
theorem dL_three_167 : decode cL_three 167 = .ok (.if_icmp .ne 151, 3) := by decide +kernel
theorem dL_three_170 : decode cL_three 170 = .ok (.aload_n 0, 1) := by decide +kernel
theorem dL_three_171 : decode cL_three 171 = .ok (.iconst 1, 1) := by decide +kernel
theorem dL_three_172 : decode cL_three 172 = .ok (.iconst 3, 1) := by decide +kernel
theorem dL_three_173 : decode cL_three 173 = .ok (.invokevirtual 26, 3) := by decide +kernel
theorem dL_three_176 : decode cL_three 176 = .ok (.iconst 1, 1) := by decide +kernel
theorem dL_three_177 : decode cL_three 177 = .ok (.if_icmp .ne 141, 3) := by decide +kernel
theorem dL_three_180 : decode cL_three 180 = .ok (.aload_n 0, 1) := by decide +kernel
theorem dL_three_181 : decode cL_three 181 = .ok (.iconst 0, 1) := by decide +kernel
theorem dL_three_182 : decode cL_three 182 = .ok (.invokevirtual 19, 3) := by decide +kernel
theorem dL_three_185 : decode cL_three 185 = .ok (.iconst 1, 1) := by decide +kernel
theorem dL_three_186 : decode cL_three 186 = .ok (.if_icmp .ne 132, 3) := by decide +kernel
theorem dL_three_189 : decode cL_three 189 = .ok (.aload_n 0, 1) := by decide +kernel
theorem dL_three_190 : decode cL_three 190 = .ok (.iconst 1, 1) := by decide +kernel
theorem dL_three_191 : decode cL_three 191 = .ok (.invokevirtual 19, 3) := by decide +kernel
theorem dL_three_194 : decode cL_three 194 = .ok (.iconst 2, 1) := by decide +kernel
theorem dL_three_195 : decode cL_three 195 = .ok (.if_icmp .ne 123, 3) := by decide +kernel
theorem dL_three_198 : decode cL_three 198 = .ok (.aload_n 0, 1) := by decide +kernel
theorem dL_three_199 : decode cL_three 199 = .ok (.iconst 2, 1) := by decide +kernel
theorem dL_three_200 : decode cL_three 200 = .ok (.invokevirtual 19, 3) := by decide +kernel
theorem dL_three_203 : decode cL_three 203 = .ok (.ifCond .ne 115, 3) := by decide +kernel
theorem dL_three_206 : decode cL_three 206 = .ok (.aload_n 0, 1) := by decide +kernel
theorem dL_three_207 : decode cL_three 207 = .ok (.iconst 3, 1) := by decide +kernel
theorem dL_three_208 : decode cL_three 208 = .ok (.invokevirtual 19, 3) := by decide +kernel
theorem dL_three_211 : decode cL_three 211 = .ok (.sipush (-1005), 3) := by decide +kernel
theorem dL_three_214 : decode cL_three 214 = .ok (.if_icmp .ne 104, 3) := by decide +kernel
theorem dL_three_217 : decode cL_three 217 = .ok (.aload_n 0, 1) := by decide +kernel
theorem dL_three_218 : decode cL_three 218 = .ok (.iconst 0, 1) := by decide +kernel
theorem dL_three_219 : decode cL_three 219 = .ok (.iconst 4, 1) := by decide +kernel
theorem dL_three_220 : decode cL_three 220 = .ok (.invokevirtual 22, 3) := by decide +kernel
theorem dL_three_223 : decode cL_three 223 = .ok (.iconst 2, 1) := by decide +kernel
theorem dL_three_224 : decode cL_three 224 = .ok (.if_icmp .ne 94, 3) := by decide +kernel
theorem dL_three_227 : decode cL_three 227 = .ok (.aload_n 0, 1) := by decide +kernel
theorem dL_three_228 : decode cL_three 228 = .ok (.iconst 0, 1) := by decide +kernel
theorem dL_three_229 : decode cL_three 229 = .ok (.bipush 6, 2) := by decide +kernel
theorem dL_three_231 : decode cL_three 231 = .ok (.invokevirtual 22, 3) := by decide +kernel
theorem dL_three_234 : decode cL_three 234 = .ok (.sipush (-1005), 3) := by decide +kernel
theorem dL_three_237 : decode cL_three 237 = .ok (.if_icmp .ne 81, 3) := by decide +kernel
theorem dL_three_240 : decode cL_three 240 = .ok (.aload_n 0, 1) := by decide +kernel
theorem dL_three_241 : decode cL_three 241 = .ok (.iconst 0, 1) := by decide +kernel
theorem dL_three_242 : decode cL_three 242 = .ok (.invokevirtual 64, 3) := by decide +kernel
theorem dL_three_245 : decode cL_three 245 = .ok (.iconst 5, 1) := by decide +kernel
theorem dL_three_246 : decode cL_three 246 = .ok (.if_icmp .ne 72, 3) := by decide +kernel
theorem dL_three_249 : decode cL_three 249 = .ok (.aload_n 0, 1) := by decide +kernel
theorem dL_three_250 : decode cL_three 250 = .ok (.iconst 1, 1) := by decide +kernel
theorem dL_three_251 : decode cL_three 251 = .ok (.invokevirtual 64, 3) := by decide +kernel
theorem dL_three_254 : decode cL_three 254 = .ok (.iconst 3, 1) := by decide +kernel
theorem dL_three_255 : decode cL_three 255 = .ok (.if_icmp .ne 63, 3) := by decide +kernel
theorem dL_three_258 : decode cL_three 258 = .ok (.aload_n 0, 1) := by decide +kernel
theorem dL_three_259 : decode cL_three 259 = .ok (.iconst 2, 1) := by decide +kernel
theorem dL_three_260 : decode cL_three 260 = .ok (.invokevirtual 64, 3) := by decide +kernel
theorem dL_three_263 : decode cL_three 263 = .ok (.iconst 4, 1) := by decide +kernel
theorem dL_three_264 : decode cL_three 264 = .ok (.if_icmp .ne 54, 3) := by decide +kernel
theorem dL_three_267 : decode cL_three 267 = .ok (.aload_n 0, 1) := by decide +kernel
theorem dL_three_268 : decode cL_three 268 = .ok (.iconst 1, 1) := by decide +kernel
theorem dL_three_269 : decode cL_three 269 = .ok (.bipush 10, 2) := by decide +kernel
theorem dL_three_271 : decode cL_three 271 = .ok (.iconst 0, 1) := by decide +kernel
theorem dL_three_272 : decode cL_three 272 = .ok (.invokevirtual 67, 3) := by decide +kernel
theorem dL_three_275 : decode cL_three 275 = .ok (.iconst 3, 1) := by decide +kernel
theorem dL_three_276 : decode cL_three 276 = .ok (.if_icmp .ne 42, 3) := by decide +kernel
theorem dL_three_279 : decode cL_three 279 = .ok (.aload_n 0, 1) := by decide +kernel
theorem dL_three_280 : decode cL_three 280 = .ok (.iconst 1, 1) := by decide +kernel
theorem dL_three_281 : decode cL_three 281 = .ok (.bipush 10, 2) := by decide +kernel
theorem dL_three_283 : decode cL_three 283 = .ok (.iconst 1, 1) := by decide +kernel
theorem dL_three_284 : decode cL_three 284 = .ok (.invokevirtual 67, 3) := by decide +kernel
theorem dL_three_287 : decode cL_three 287 = .ok (.ifCond .ne 31, 3) := by decide +kernel
theorem dL_three_290 : decode cL_three 290 = .ok (.aload_n 0, 1) := by decide +kernel
theorem dL_three_291 : decode cL_three 291 = .ok (.iconst 1, 1) := by decide +kernel
theorem dL_three_292 : decode cL_three 292 = .ok (.iconst 4, 1) := by decide +kernel
theorem dL_three_293 : decode cL_three 293 = .ok (.iconst 0, 1) := by decide +kernel
theorem dL_three_294 : decode cL_three 294 = .ok (.invokevirtual 67, 3) := by decide +kernel
theorem dL_three_297 : decode cL_three 297 = .ok (.iconst 2, 1) := by decide +kernel
theorem dL_three_298 : decode cL_three 298 = .ok (.if_icmp .ne 20, 3) := by decide +kernel
theorem dL_three_301 : decode cL_three 301 = .ok (.aload_n 0, 1) := by decide +kernel
theorem dL_three_302 : decode cL_three 302 = .ok (.bipush 10, 2) := by decide +kernel
theorem dL_three_304 : decode cL_three 304 = .ok (.invokevirtual 70, 3) := by decide +kernel
theorem dL_three_307 : decode cL_three 307 = .ok (.iconst 1, 1) := by decide +kernel
theorem dL_three_308 : decode cL_three 308 = .ok (.if_icmp .ne 10, 3) := by decide +kernel
theorem dL_three_311 : decode cL_three 311 = .ok (.aload_n 0, 1) := by decide +kernel
theorem dL_three_312 : decode cL_three 312 = .ok (.invokestatic 89, 3) := by decide +kernel
theorem dL_three_315 : decode cL_three 315 = .ok (.ifCond .ne 5, 3) := by decide +kernel
theorem dL_three_318 : decode cL_three 318 = .ok (.iconst 0, 1) := by decide +kernel
theorem dL_three_319 : decode cL_three 319 = .ok (.ireturn, 1) := by decide +kernel
theorem dL_three_320 : decode cL_three 320 = .ok (.aload_n 0, 1) := by decide +kernel
theorem dL_three_321 : decode cL_three 321 = .ok (.iconst 2, 1) := by decide +kernel
theorem dL_three_322 : decode cL_three 322 = .ok (.invokevirtual 52, 3) := by decide +kernel
theorem dL_three_325 : decode cL_three 325 = .ok (.ifCond .ne 306, 3) := by decide +kernel
theorem dL_three_328 : decode cL_three 328 = .ok (.aload_n 0, 1) := by decide +kernel
theorem dL_three_329 : decode cL_three 329 = .ok (.iconst 2, 1) := by decide +kernel
theorem dL_three_330 : decode cL_three 330 = .ok (.invokevirtual 52, 3) := by decide +kernel
theorem dL_three_333 : decode cL_three 333 = .ok (.sipush (-1005), 3) := by decide +kernel
theorem dL_three_336 : decode cL_three 336 = .ok (.if_icmp .ne 295, 3) := by decide +kernel
theorem dL_three_339 : decode cL_three 339 = .ok (.aload_n 0, 1) := by decide +kernel
theorem dL_three_340 : decode cL_three 340 = .ok (.iconst 1, 1) := by decide +kernel
theorem dL_three_341 : decode cL_three 341 = .ok (.bipush 10, 2) := by decide +kernel
theorem dL_three_343 : decode cL_three 343 = .ok (.iconst 0, 1) := by decide +kernel
theorem dL_three_344 : decode cL_three 344 = .ok (.invokevirtual 67, 3) := by decide +kernel
theorem dL_three_347 : decode cL_three 347 = .ok (.iconst 3, 1) := by decide +kernel
theorem dL_three_348 : decode cL_three 348 = .ok (.if_icmp .ne 283, 3) := by decide +kernel
theorem dL_three_351 : decode cL_three 351 = .ok (.aload_n 0, 1) := by decide +kernel
theorem dL_three_352 : decode cL_three 352 = .ok (.iconst 1, 1) := by decide +kernel
theorem dL_three_353 : decode cL_three 353 = .ok (.bipush 10, 2) := by decide +kernel
theorem dL_three_355 : decode cL_three 355 = .ok (.iconst 1, 1) := by decide +kernel
theorem dL_three_356 : decode cL_three 356 = .ok (.invokevirtual 67, 3) := by decide +kernel
theorem dL_three_359 : decode cL_three 359 = .ok (.iconst 3, 1) := by decide +kernel
theorem dL_three_360 : decode cL_three 360 = .ok (.if_icmp .ne 271, 3) := by decide +kernel
theorem dL_three_363 : decode cL_three 363 = .ok (.aload_n 0, 1) := by decide +kernel
theorem dL_three_364 : decode cL_three 364 = .ok (.iconst 1, 1) := by decide +kernel
theorem dL_three_365 : decode cL_three 365 = .ok (.bipush 10, 2) := by decide +kernel
theorem dL_three_367 : decode cL_three 367 = .ok (.iconst 2, 1) := by decide +kernel
theorem dL_three_368 : decode cL_three 368 = .ok (.invokevirtual 67, 3) := by decide +kernel
theorem dL_three_371 : decode cL_three 371 = .ok (.iconst 2, 1) := by decide +kernel
theorem dL_three_372 : decode cL_three 372 = .ok (.if_icmp .ne 259, 3) := by decide +kernel
theorem dL_three_375 : decode cL_three 375 = .ok (.aload_n 0, 1) := by decide +kernel
theorem dL_three_376 : decode cL_three 376 = .ok (.iconst 2, 1) := by decide +kernel
theorem dL_three_377 : decode cL_three 377 = .ok (.bipush 10, 2) := by decide +kernel
theorem dL_three_379 : decode cL_three 379 = .ok (.iconst 1, 1) := by decide +kernel
theorem dL_three_380 : decode cL_three 380 = .ok (.invokevirtual 67, 3) := by decide +kernel
theorem dL_three_383 : decode cL_three 383 = .ok (.ifCond .ne 248, 3) := by decide +kernel
theorem dL_three_386 : decode cL_three 386 = .ok (.aload_n 0, 1) := by decide +kernel
theorem dL_three_387 : decode cL_three 387 = .ok (.bipush 10, 2) := by decide +kernel
theorem dL_three_389 : decode cL_three 389 = .ok (.invokevirtual 70, 3) := by decide +kernel
theorem dL_three_392 : decode cL_three 392 = .ok (.iconst 2, 1) := by decide +kernel
theorem dL_three_393 : decode cL_three 393 = .ok (.if_icmp .ne 238, 3) := by decide +kernel
theorem dL_three_396 : decode cL_three 396 = .ok (.aload_n 0, 1) := by decide +kernel
theorem dL_three_397 : decode cL_three 397 = .ok (.iconst 3, 1) := by decide +kernel
theorem dL_three_398 : decode cL_three 398 = .ok (.invokevirtual 61, 3) := by decide +kernel
theorem dL_three_401 : decode cL_three 401 = .ok (.iconst 1, 1) := by decide +kernel
theorem dL_three_402 : decode cL_three 402 = .ok (.if_icmp .ne 229, 3) := by decide +kernel
theorem dL_three_405 : decode cL_three 405 = .ok (.aload_n 0, 1) := by decide +kernel
theorem dL_three_406 : decode cL_three 406 = .ok (.iconst 2, 1) := by decide +kernel
theorem dL_three_407 : decode cL_three 407 = .ok (.invokevirtual 13, 3) := by decide +kernel
theorem dL_three_410 : decode cL_three 410 = .ok (.iconst 2, 1) := by decide +kernel
theorem dL_three_411 : decode cL_three 411 = .ok (.if_icmp .ne 220, 3) := by decide +kernel
theorem dL_three_414 : decode cL_three 414 = .ok (.aload_n 0, 1) := by decide +kernel
theorem dL_three_415 : decode cL_three 415 = .ok (.iconst 1, 1) := by decide +kernel
theorem dL_three_416 : decode cL_three 416 = .ok (.iconst 0, 1) := by decide +kernel
theorem dL_three_417 : decode cL_three 417 = .ok (.invokevirtual 22, 3) := by decide +kernel
theorem dL_three_420 : decode cL_three 420 = .ok (.sipush (-1001), 3) := by decide +kernel
theorem dL_three_423 : decode cL_three 423 = .ok (.if_icmp .ne 208, 3) := by decide +kernel
theorem dL_three_426 : decode cL_three 426 = .ok (.aload_n 0, 1) := by decide +kernel
theorem dL_three_427 : decode cL_three 427 = .ok (.iconst 1, 1) := by decide +kernel
theorem dL_three_428 : decode cL_three 428 = .ok (.iconst 0, 1) := by decide +kernel
theorem dL_three_429 : decode cL_three 429 = .ok (.invokevirtual 26, 3) := by decide +kernel
theorem dL_three_432 : decode cL_three 432 = .ok (.iconst 5, 1) := by decide +kernel
theorem dL_three_433 : decode cL_three 433 = .ok (.if_icmp .ne 198, 3) := by decide +kernel
theorem dL_three_436 : decode cL_three 436 = .ok (.aload_n 0, 1) := by decide +kernel
theorem dL_three_437 : decode cL_three 437 = .ok (.iconst 1, 1) := by decide +kernel
theorem dL_three_438 : decode cL_three 438 = .ok (.iconst 2, 1) := by decide +kernel
theorem dL_three_439 : decode cL_three 439 = .ok (.invokevirtual 26, 3) := by decide +kernel
theorem dL_three_442 : decode cL_three 442 = .ok (.iconst 2, 1) := by decide +kernel
theorem dL_three_443 : decode cL_three 443 = .ok (.if_icmp .ne 188, 3) := by decide +kernel
theorem dL_three_446 : decode cL_three 446 = .ok (.aload_n 0, 1) := by decide +kernel
theorem dL_three_447 : decode cL_three 447 = .ok (.iconst 1, 1) := by decide +kernel
theorem dL_three_448 : decode cL_three 448 = .ok (.iconst 3, 1) := by decide +kernel
theorem dL_three_449 : decode cL_three 449 = .ok (.invokevirtual 26, 3) := by decide +kernel
theorem dL_three_452 : decode cL_three 452 = .ok (.ifCond .ne 179, 3) := by decide +kernel
theorem dL_three_455 : decode cL_three 455 = .ok (.aload_n 0, 1) := by decide +kernel
theorem dL_three_456 : decode cL_three 456 = .ok (.iconst 0, 1) := by decide +kernel
theorem dL_three_457 : decode cL_three 457 = .ok (.iconst 0, 1) := by decide +kernel
theorem dL_three_458 : decode cL_three 458 = .ok (.invokevirtual 29, 3) := by decide +kernel
theorem dL_three_461 : decode cL_three 461 = .ok (.iconst 1, 1) := by decide +kernel
theorem dL_three_462 : decode cL_three 462 = .ok (.if_icmp .ne 169, 3) := by decide +kernel
theorem dL_three_465 : decode cL_three 465 = .ok (.aload_n 0, 1) := by decide +kernel
theorem dL_three_466 : decode cL_three 466 = .ok (.iconst 0, 1) := by decide +kernel
theorem dL_three_467 : decode cL_three 467 = .ok (.iconst 1, 1) := by decide +kernel
theorem dL_three_468 : decode cL_three 468 = .ok (.invokevirtual 29, 3) := by decide +kernel
theorem dL_three_471 : decode cL_three 471 = .ok (.iconst 3, 1) := by decide +kernel
theorem dL_three_472 : decode cL_three 472 = .ok (.if_icmp .ne 159, 3) := by decide +kernel
theorem dL_three_475 : decode cL_three 475 = .ok (.aload_n 0, 1) := by decide +kernel
theorem dL_three_476 : decode cL_three 476 = .ok (.iconst 0, 1) := by decide +kernel
theorem dL_three_477 : decode cL_three 477 = .ok (.iconst 2, 1) := by decide +kernel
theorem dL_three_478 : decode cL_three 478 = .ok (.invokevirtual 29, 3) := by decide +kernel
theorem dL_three_481 : decode cL_three 481 = .ok (.ifCond .ne 150, 3) := by decide +kernel
theorem dL_three_484 : decode cL_three 484 = .ok (.aload_n 0, 1) := by decide +kernel
theorem dL_three_485 : decode cL_three 485 = .ok (.iconst 0, 1) := by decide +kernel
theorem dL_three_486 : decode cL_three 486 = .ok (.iconst 3, 1) := by decide +kernel
theorem dL_three_487 : decode cL_three 487 = .ok (.invokevirtual 29, 3) := by decide +kernel
theorem dL_three_490 : decode cL_three 490 = .ok (.iconst 1, 1) := by decide +kernel
theorem dL_three_491 : decode cL_three 491 = .ok (.if_icmp .ne 140, 3) := by decide +kernel
theorem dL_three_494 : decode cL_three 494 = .ok (.aload_n 0, 1) := by decide +kernel
theorem dL_three_495 : decode cL_three 495 = .ok (.iconst 1, 1) := by decide +kernel
theorem dL_three_496 : decode cL_three 496 = .ok (.invokevirtual 46, 3) := by decide +kernel
theorem dL_three_499 : decode cL_three 499 = .ok (.iconst 2, 1) := by decide +kernel
theorem dL_three_500 : decode cL_three 500 = .ok (.if_icmp .ne 131, 3) := by decide +kernel
theorem dL_three_503 : decode cL_three 503 = .ok (.aload_n 0, 1) := by decide +kernel
theorem dL_three_504 : decode cL_three 504 = .ok (.iconst 0, 1) := by decide +kernel
theorem dL_three_505 : decode cL_three 505 = .ok (.iconst 3, 1) := by decide +kernel
theorem dL_three_506 : decode cL_three 506 = .ok (.invokevirtual 22, 3) := by decide +kernel
theorem dL_three_509 : decode cL_three 509 = .ok (.sipush (-1005), 3) := by decide +kernel
theorem dL_three_512 : decode cL_three 512 = .ok (.if_icmp .ne 119, 3) := by decide +kernel
theorem dL_three_515 : decode cL_three 515 = .ok (.aload_n 0, 1) := by decide +kernel
theorem dL_three_516 : decode cL_three 516 = .ok (.iconst 1, 1) := by decide +kernel
theorem dL_three_517 : decode cL_three 517 = .ok (.iconst 0, 1) := by decide +kernel
theorem dL_three_518 : decode cL_three 518 = .ok (.invokevirtual 26, 3) := by decide +kernel
theorem dL_three_521 : decode cL_three 521 = .ok (.sipush (-1001), 3) := by decide +kernel
theorem dL_three_524 : decode cL_three 524 = .ok (.if_icmp .ne 107, 3) := by decide +kernel
theorem dL_three_527 : decode cL_three 527 = .ok (.aload_n 0, 1) := by decide +kernel
theorem dL_three_528 : decode cL_three 528 = .ok (.iconst 0, 1) := by decide +kernel
theorem dL_three_529 : decode cL_three 529 = .ok (.iconst 3, 1) := by decide +kernel
theorem dL_three_530 : decode cL_three 530 = .ok (.invokevirtual 26, 3) := by decide +kernel
theorem dL_three_533 : decode cL_three 533 = .ok (.iconst 2, 1) := by decide +kernel
theorem dL_three_534 : decode cL_three 534 = .ok (.if_icmp .ne 97, 3) := by decide +kernel
theorem dL_three_537 : decode cL_three 537 = .ok (.aload_n 0, 1) := by decide +kernel
theorem dL_three_538 : decode cL_three 538 = .ok (.iconst 1, 1) := by decide +kernel
theorem dL_three_539 : decode cL_three 539 = .ok (.invokevirtual 61, 3) := by decide +kernel
theorem dL_three_542 : decode cL_three 542 = .ok (.iconst 1, 1) := by decide +kernel
theorem dL_three_543 : decode cL_three 543 = .ok (.if_icmp .ne 88, 3) := by decide +kernel
theorem dL_three_546 : decode cL_three 546 = .ok (.aload_n 0, 1) := by decide +kernel
theorem dL_three_547 : decode cL_three 547 = .ok (.iconst 0, 1) := by decide +kernel
theorem dL_three_548 : decode cL_three 548 = .ok (.iconst 3, 1) := by decide +kernel
theorem dL_three_549 : decode cL_three 549 = .ok (.invokevirtual 26, 3) := by decide +kernel
theorem dL_three_552 : decode cL_three 552 = .ok (.ifCond .ne 79, 3) := by decide +kernel
theorem dL_three_555 : decode cL_three 555 = .ok (.aload_n 0, 1) := by decide +kernel
theorem dL_three_556 : decode cL_three 556 = .ok (.iconst 0, 1) := by decide +kernel
theorem dL_three_557 : decode cL_three 557 = .ok (.iconst 2, 1) := by decide +kernel
theorem dL_three_558 : decode cL_three 558 = .ok (.invokevirtual 26, 3) := by decide +kernel
theorem dL_three_561 : decode cL_three 561 = .ok (.iconst 2, 1) := by decide +kernel
theorem dL_three_562 : decode cL_three 562 = .ok (.if_icmp .ne 69, 3) := by decide +kernel
theorem dL_three_565 : decode cL_three 565 = .ok (.aload_n 0, 1) := by decide +kernel
theorem dL_three_566 : decode cL_three 566 = .ok (.iconst 0, 1) := by decide +kernel
theorem dL_three_567 : decode cL_three 567 = .ok (.invokevirtual 64, 3) := by decide +kernel
theorem dL_three_570 : decode cL_three 570 = .ok (.iconst 2, 1) := by decide +kernel
theorem dL_three_571 : decode cL_three 571 = .ok (.if_icmp .ne 60, 3) := by decide +kernel
theorem dL_three_574 : decode cL_three 574 = .ok (.aload_n 0, 1) := by decide +kernel
theorem dL_three_575 : decode cL_three 575 = .ok (.iconst 2, 1) := by decide +kernel
theorem dL_three_576 : decode cL_three 576 = .ok (.invokevirtual 61, 3) := by decide +kernel
theorem dL_three_579 : decode cL_three 579 = .ok (.iconst 1, 1) := by decide +kernel
theorem dL_three_580 : decode cL_three 580 = .ok (.if_icmp .ne 51, 3) := by decide +kernel
theorem dL_three_583 : decode cL_three 583 = .ok (.aload_n 0, 1) := by decide +kernel
theorem dL_three_584 : decode cL_three 584 = .ok (.bipush 7, 2) := by decide +kernel
theorem dL_three_586 : decode cL_three 586 = .ok (.invokevirtual 13, 3) := by decide +kernel
theorem dL_three_589 : decode cL_three 589 = .ok (.iconst 1, 1) := by decide +kernel
theorem dL_three_590 : decode cL_three 590 = .ok (.if_icmp .ne 41, 3) := by decide +kernel
theorem dL_three_593 : decode cL_three 593 = .ok (.aload_n 0, 1) := by decide +kernel
theorem dL_three_594 : decode cL_three 594 = .ok (.bipush 8, 2) := by decide +kernel
theorem dL_three_596 : decode cL_three 596 = .ok (.invokevirtual 13, 3) := by decide +kernel
theorem dL_three_599 : decode cL_three 599 = .ok (.iconst 1, 1) := by decide +kernel
theorem dL_three_600 : decode cL_three 600 = .ok (.if_icmp .ne 31, 3) := by decide +kernel
theorem dL_three_603 : decode cL_three 603 = .ok (.aload_n 0, 1) := by decide +kernel
theorem dL_three_604 : decode cL_three 604 = .ok (.bipush 6, 2) := by decide +kernel
theorem dL_three_606 : decode cL_three 606 = .ok (.invokevirtual 13, 3) := by decide +kernel
theorem dL_three_609 : decode cL_three 609 = .ok (.iconst 3, 1) := by decide +kernel
theorem dL_three_610 : decode cL_three 610 = .ok (.if_icmp .ne 21, 3) := by decide +kernel
theorem dL_three_613 : decode cL_three 613 = .ok (.aload_n 0, 1) := by decide +kernel
theorem dL_three_614 : decode cL_three 614 = .ok (.iconst 2, 1) := by decide +kernel
theorem dL_three_615 : decode cL_three 615 = .ok (.invokevirtual 13, 3) := by decide +kernel
theorem dL_three_618 : decode cL_three 618 = .ok (.ifCond .ne 13, 3) := by decide +kernel
theorem dL_three_621 : decode cL_three 621 = .ok (.aload_n 0, 1) := by decide +kernel
theorem dL_three_622 : decode cL_three 622 = .ok (.bipush 10, 2) := by decide +kernel
theorem dL_three_624 : decode cL_three 624 = .ok (.invokevirtual 13, 3) := by decide +kernel
theorem dL_three_627 : decode cL_three 627 = .ok (.iconst 5, 1) := by decide +kernel
theorem dL_three_628 : decode cL_three 628 = .ok (.if_icmp .eq 5, 3) := by decide +kernel
theorem dL_three_631 : decode cL_three 631 = .ok (.iconst 0, 1) := by decide +kernel
theorem dL_three_632 : decode cL_three 632 = .ok (.ireturn, 1) := by decide +kernel
theorem dL_three_633 : decode cL_three 633 = .ok (.aload_n 0, 1) := by decide +kernel
theorem dL_three_634 : decode cL_three 634 = .ok (.bipush 16, 2) := by decide +kernel
theorem dL_three_636 : decode cL_three 636 = .ok (.invokevirtual 13, 3) := by decide +kernel
theorem dL_three_639 : decode cL_three 639 = .ok (.iconst 4, 1) := by decide +kernel
theorem dL_three_640 : decode cL_three 640 = .ok (.if_icmp .ne 158, 3) := by decide +kernel
theorem dL_three_643 : decode cL_three 643 = .ok (.aload_n 0, 1) := by decide +kernel
theorem dL_three_644 : decode cL_three 644 = .ok (.invokevirtual 82, 3) := by decide +kernel
theorem dL_three_647 : decode cL_three 647 = .ok (.iconst 3, 1) := by decide +kernel
theorem dL_three_648 : decode cL_three 648 = .ok (.if_icmp .ne 150, 3) := by decide +kernel
theorem dL_three_651 : decode cL_three 651 = .ok (.aload_n 0, 1) := by decide +kernel
theorem dL_three_652 : decode cL_three 652 = .ok (.iconst 0, 1) := by decide +kernel
theorem dL_three_653 : decode cL_three 653 = .ok (.iconst 0, 1) := by decide +kernel
theorem dL_three_654 : decode cL_three 654 = .ok (.invokevirtual 22, 3) := by decide +kernel
theorem dL_three_657 : decode cL_three 657 = .ok (.iconst 5, 1) := by decide +kernel
theorem dL_three_658 : decode cL_three 658 = .ok (.if_icmp .ne 140, 3) := by decide +kernel
theorem dL_three_661 : decode cL_three 661 = .ok (.aload_n 0, 1) := by decide +kernel
theorem dL_three_662 : decode cL_three 662 = .ok (.iconst 0, 1) := by decide +kernel
theorem dL_three_663 : decode cL_three 663 = .ok (.iconst 2, 1) := by decide +kernel
theorem dL_three_664 : decode cL_three 664 = .ok (.invokevirtual 43, 3) := by decide +kernel
theorem dL_three_667 : decode cL_three 667 = .ok (.sipush (-1004), 3) := by decide +kernel
theorem dL_three_670 : decode cL_three 670 = .ok (.if_icmp .ne 128, 3) := by decide +kernel
theorem dL_three_673 : decode cL_three 673 = .ok (.aload_n 0, 1) := by decide +kernel
theorem dL_three_674 : decode cL_three 674 = .ok (.iconst 0, 1) := by decide +kernel
theorem dL_three_675 : decode cL_three 675 = .ok (.iconst 5, 1) := by decide +kernel
theorem dL_three_676 : decode cL_three 676 = .ok (.invokevirtual 43, 3) := by decide +kernel
theorem dL_three_679 : decode cL_three 679 = .ok (.sipush (-1005), 3) := by decide +kernel
theorem dL_three_682 : decode cL_three 682 = .ok (.if_icmp .ne 116, 3) := by decide +kernel
theorem dL_three_685 : decode cL_three 685 = .ok (.aload_n 0, 1) := by decide +kernel
theorem dL_three_686 : decode cL_three 686 = .ok (.iconst 0, 1) := by decide +kernel
theorem dL_three_687 : decode cL_three 687 = .ok (.bipush 9, 2) := by decide +kernel
theorem dL_three_689 : decode cL_three 689 = .ok (.invokevirtual 43, 3) := by decide +kernel
theorem dL_three_692 : decode cL_three 692 = .ok (.iconst 5, 1) := by decide +kernel
theorem dL_three_693 : decode cL_three 693 = .ok (.if_icmp .ne 105, 3) := by decide +kernel
theorem dL_three_696 : decode cL_three 696 = .ok (.aload_n 0, 1) := by decide +kernel
theorem dL_three_697 : decode cL_three 697 = .ok (.iconst 0, 1) := by decide +kernel
theorem dL_three_698 : decode cL_three 698 = .ok (.iconst 0, 1) := by decide +kernel
theorem dL_three_699 : decode cL_three 699 = .ok (.invokevirtual 26, 3) := by decide +kernel
theorem dL_three_702 : decode cL_three 702 = .ok (.bipush 9, 2) := by decide +kernel
theorem dL_three_704 : decode cL_three 704 = .ok (.if_icmp .ne 94, 3) := by decide +kernel
theorem dL_three_707 : decode cL_three 707 = .ok (.aload_n 0, 1) := by decide +kernel
theorem dL_three_708 : decode cL_three 708 = .ok (.iconst 0, 1) := by decide +kernel
theorem dL_three_709 : decode cL_three 709 = .ok (.iconst 2, 1) := by decide +kernel
theorem dL_three_710 : decode cL_three 710 = .ok (.invokevirtual 26, 3) := by decide +kernel
theorem dL_three_713 : decode cL_three 713 = .ok (.iconst 2, 1) := by decide +kernel
theorem dL_three_714 : decode cL_three 714 = .ok (.if_icmp .ne 84, 3) := by decide +kernel
theorem dL_three_717 : decode cL_three 717 = .ok (.aload_n 0, 1) := by decide +kernel
theorem dL_three_718 : decode cL_three 718 = .ok (.invokevirtual 93, 3) := by decide +kernel
theorem dL_three_721 : decode cL_three 721 = .ok (.iconst 4, 1) := by decide +kernel
theorem dL_three_722 : decode cL_three 722 = .ok (.if_icmp .ne 76, 3) := by decide +kernel
theorem dL_three_725 : decode cL_three 725 = .ok (.aload_n 0, 1) := by decide +kernel
theorem dL_three_726 : decode cL_three 726 = .ok (.iconst 0, 1) := by decide +kernel
theorem dL_three_727 : decode cL_three 727 = .ok (.invokevirtual 40, 3) := by decide +kernel
theorem dL_three_730 : decode cL_three 730 = .ok (.ifCond .ne 68, 3) := by decide +kernel
theorem dL_three_733 : decode cL_three 733 = .ok (.aload_n 0, 1) := by decide +kernel
theorem dL_three_734 : decode cL_three 734 = .ok (.iconst 0, 1) := by decide +kernel
theorem dL_three_735 : decode cL_three 735 = .ok (.invokevirtual 40, 3) := by decide +kernel
theorem dL_three_738 : decode cL_three 738 = .ok (.sipush (-1001), 3) := by decide +kernel
theorem dL_three_741 : decode cL_three 741 = .ok (.if_icmp .ne 57, 3) := by decide +kernel
theorem dL_three_744 : decode cL_three 744 = .ok (.aload_n 0, 1) := by decide +kernel
theorem dL_three_745 : decode cL_three 745 = .ok (.iconst 5, 1) := by decide +kernel
theorem dL_three_746 : decode cL_three 746 = .ok (.invokevirtual 13, 3) := by decide +kernel
theorem dL_three_749 : decode cL_three 749 = .ok (.iconst 1, 1) := by decide +kernel
theorem dL_three_750 : decode cL_three 750 = .ok (.if_icmp .ne 48, 3) := by decide +kernel
theorem dL_three_753 : decode cL_three 753 = .ok (.aload_n 0, 1) := by decide +kernel
theorem dL_three_754 : decode cL_three 754 = .ok (.iconst 0, 1) := by decide +kernel
theorem dL_three_755 : decode cL_three 755 = .ok (.iconst 2, 1) := by decide +kernel
theorem dL_three_756 : decode cL_three 756 = .ok (.invokevirtual 26, 3) := by decide +kernel
theorem dL_three_759 : decode cL_three 759 = .ok (.ifCond .ne 39, 3) := by decide +kernel
theorem dL_three_762 : decode cL_three 762 = .ok (.aload_n 0, 1) := by decide +kernel
theorem dL_three_763 : decode cL_three 763 = .ok (.iconst 3, 1) := by decide +kernel
theorem dL_three_764 : decode cL_three 764 = .ok (.iconst 0, 1) := by decide +kernel
theorem dL_three_765 : decode cL_three 765 = .ok (.iconst 0, 1) := by decide +kernel
theorem dL_three_766 : decode cL_three 766 = .ok (.invokevirtual 33, 3) := by decide +kernel
theorem dL_three_769 : decode cL_three 769 = .ok (.sipush (-1004), 3) := by decide +kernel
theorem dL_three_772 : decode cL_three 772 = .ok (.if_icmp .ne 26, 3) := by decide +kernel
theorem dL_three_775 : decode cL_three 775 = .ok (.aload_n 0, 1) := by decide +kernel
theorem dL_three_776 : decode cL_three 776 = .ok (.invokevirtual 86, 3) := by decide +kernel
theorem dL_three_779 : decode cL_three 779 = .ok (.iconst 4, 1) := by decide +kernel
theorem dL_three_780 : decode cL_three 780 = .ok (.if_icmp .ne 18, 3) := by decide +kernel
theorem dL_three_783 : decode cL_three 783 = .ok (.aload_n 0, 1) := by decide +kernel
theorem dL_three_784 : decode cL_three 784 = .ok (.iconst 0, 1) := by decide +kernel
theorem dL_three_785 : decode cL_three 785 = .ok (.iconst 0, 1) := by decide +kernel
theorem dL_three_786 : decode cL_three 786 = .ok (.invokevirtual 22, 3) := by decide +kernel
theorem dL_three_789 : decode cL_three 789 = .ok (.bipush 9, 2) := by decide +kernel
theorem dL_three_791 : decode cL_three 791 = .ok (.if_icmp .ne 7, 3) := by decide +kernel
theorem dL_three_794 : decode cL_three 794 = .ok (.iconst 1, 1) := by decide +kernel
theorem dL_three_795 : decode cL_three 795 = .ok (.goto 4, 3) := by decide +kernel
theorem dL_three_798 : decode cL_three 798 = .ok (.iconst 0, 1) := by decide +kernel
theorem dL_three_799 : decode cL_three 799 = .ok (.ireturn, 1) := by decide +kernel
theorem dL_shared_0 : decode cL_shared 0 = .ok (.new 14, 3) := by decide +kernel
theorem dL_shared_3 : decode cL_shared 3 = .ok (.dup, 1) := by decide +kernel
theorem dL_shared_4 : decode cL_shared 4 = .ok (.invokespecial 81, 3) := by decide +kernel
theorem dL_shared_7 : decode cL_shared 7 = .ok (.astore_n 0, 1) := by decide +kernel
theorem dL_shared_8 : decode cL_shared 8 = .ok (.aload_n 0, 1) := by decide +kernel
theorem dL_shared_9 : decode cL_shared 9 = .ok (.iconst 3, 1) := by decide +kernel
theorem dL_shared_10 : decode cL_shared 10 = .ok (.invokevirtual 49, 3) := by decide +kernel
theorem dL_shared_13 : decode cL_shared 13 = .ok (.ifCond .ne 229, 3) := by decide +kernel
theorem dL_shared_16 : decode cL_shared 16 = .ok (.aload_n 0, 1) := by decide +kernel
theorem dL_shared_17 : decode cL_shared 17 = .ok (.bipush 10, 2) := by decide +kernel
theorem dL_shared_19 : decode cL_shared 19 = .ok (.iconst 5, 1) := by decide +kernel
theorem dL_shared_20 : decode cL_shared 20 = .ok (.iconst 1, 1) := by decide +kernel
theorem dL_shared_21 : decode cL_shared 21 = .ok (.invokevirtual 33, 3) := by decide +kernel
theorem dL_shared_24 : decode cL_shared 24 = .ok (.ifCond .ne 218, 3) := by decide +kernel
theorem dL_shared_27 : decode cL_shared 27 = .ok (.aload_n 0, 1) := by decide +kernel
theorem dL_shared_28 : decode cL_shared 28 = .ok (.bipush 12, 2) := by decide +kernel
theorem dL_shared_30 : decode cL_shared 30 = .ok (.iconst 0, 1) := by decide +kernel
theorem dL_shared_31 : decode cL_shared 31 = .ok (.iconst 0, 1) := by decide +kernel
theorem dL_shared_32 : decode cL_shared 32 = .ok (.invokevirtual 33, 3) := by decide +kernel
theorem dL_shared_35 : decode cL_shared 35 = .ok (.iconst 1, 1) := by decide +kernel
theorem dL_shared_36 : decode cL_shared 36 = .ok (.if_icmp .ne 206, 3) := by decide +kernel
theorem dL_shared_39 : decode cL_shared 39 = .ok (.aload_n 0, 1) := by decide +kernel
theorem dL_shared_40 : decode cL_shared 40 = .ok (.iconst 5, 1) := by decide +kernel
theorem dL_shared_41 : decode cL_shared 41 = .ok (.invokevirtual 13, 3) := by decide +kernel
theorem dL_shared_44 : decode cL_shared 44 = .ok (.iconst 1, 1) := by decide +kernel
theorem dL_shared_45 : decode cL_shared 45 = .ok (.if_icmp .ne 197, 3) := by decide +kernel
theorem dL_shared_48 : decode cL_shared 48 = .ok (.aload_n 0, 1) := by decide +kernel
theorem dL_shared_49 : decode cL_shared 49 = .ok (.iconst 0, 1) := by decide +kernel
theorem dL_shared_50 : decode cL_shared 50 = .ok (.iconst 0, 1) := by decide +kernel
theorem dL_shared_51 : decode cL_shared 51 = .ok (.invokevirtual 26, 3) := by decide +kernel
theorem dL_shared_54 : decode cL_shared 54 = .ok (.bipush 12, 2) := by decide +kernel
theorem dL_shared_56 : decode cL_shared 56 = .ok (.if_icmp .ne 186, 3) := by decide +kernel
theorem dL_shared_59 : decode cL_shared 59 = .ok (.aload_n 0, 1) := by decide +kernel
theorem dL_shared_60 : decode cL_shared 60 = .ok (.iconst 0, 1) := by decide +kernel
theorem dL_shared_61 : decode cL_shared 61 = .ok (.iconst 1, 1) := by decide +kernel
theorem dL_shared_62 : decode cL_shared 62 = .ok (.invokevirtual 26, 3) := by decide +kernel
theorem dL_shared_65 : decode cL_shared 65 = .ok (.iconst 2, 1) := by decide +kernel
theorem dL_shared_66 : decode cL_shared 66 = .ok (.if_icmp .ne 176, 3) := by decide +kernel
theorem dL_shared_69 : decode cL_shared 69 = .ok (.aload_n 0, 1) := by decide +kernel
theorem dL_shared_70 : decode cL_shared 70 = .ok (.iconst 0, 1) := by decide +kernel
theorem dL_shared_71 : decode cL_shared 71 = .ok (.iconst 3, 1) := by decide +kernel
theorem dL_shared_72 : decode cL_shared 72 = .ok (.invokevirtual 26, 3) := by decide +kernel
theorem dL_shared_75 : decode cL_shared 75 = .ok (.ifCond .ne 167, 3) := by decide +kernel
theorem dL_shared_78 : decode cL_shared 78 = .ok (.aload_n 0, 1) := by decide +kernel
theorem dL_shared_79 : decode cL_shared 79 = .ok (.bipush 8, 2) := by decide +kernel
theorem dL_shared_81 : decode cL_shared 81 = .ok (.iconst 0, 1) := by decide +kernel
theorem dL_shared_82 : decode cL_shared 82 = .ok (.iconst 2, 1) := by decide +kernel
theorem dL_shared_83 : decode cL_shared 83 = .ok (.invokevirtual 33, 3) := by decide +kernel
theorem dL_shared_86 : decode cL_shared 86 = .ok (.iconst 2, 1) := by decide +kernel
theorem dL_shared_87 : decode cL_shared 87 = .ok (.if_icmp .ne 155, 3) := by decide +kernel
theorem dL_shared_90 : decode cL_shared 90 = .ok (.aload_n 0, 1) := by decide +kernel
theorem dL_shared_91 : decode cL_shared 91 = .ok (.iconst 1, 1) := by decide +kernel
theorem dL_shared_92 : decode cL_shared 92 = .ok (.iconst 0, 1) := by decide +kernel
theorem dL_shared_93 : decode cL_shared 93 = .ok (.invokevirtual 26, 3) := by decide +kernel
theorem dL_shared_96 : decode cL_shared 96 = .ok (.bipush 8, 2) := by decide +kernel
theorem dL_shared_98 : decode cL_shared 98 = .ok (.if_icmp .ne 144, 3) := by decide +kernel
theorem dL_shared_101 : decode cL_shared 101 = .ok (.aload_n 0, 1) := by decide +kernel
theorem dL_shared_102 : decode cL_shared 102 = .ok (.iconst 0, 1) := by decide +kernel
theorem dL_shared_103 : decode cL_shared 103 = .ok (.invokevirtual 64, 3) := by decide +kernel
theorem dL_shared_106 : decode cL_shared 106 = .ok (.bipush 12, 2) := by decide +kernel
theorem dL_shared_108 : decode cL_shared 108 = .ok (.if_icmp .ne 134, 3) := by decide +kernel
theorem dL_shared_111 : decode cL_shared 111 = .ok (.aload_n 0, 1) := by decide +kernel
theorem dL_shared_112 : decode cL_shared 112 = .ok (.bipush 12, 2) := by decide +kernel
theorem dL_shared_114 : decode cL_shared 114 = .ok (.invokevirtual 61, 3) := by decide +kernel
theorem dL_shared_117 : decode cL_shared 117 = .ok (.iconst 3, 1) := by decide +kernel
theorem dL_shared_118 : decode cL_shared 118 = .ok (.if_icmp .ne 124, 3) := by decide +kernel
theorem dL_shared_121 : decode cL_shared 121 = .ok (.aload_n 0, 1) := by decide +kernel
theorem dL_shared_122 : decode cL_shared 122 = .ok (.bipush 7, 2) := by decide +kernel
theorem dL_shared_124 : decode cL_shared 124 = .ok (.invokevirtual 13, 3) := by decide +kernel
theorem dL_shared_127 : decode cL_shared 127 = .ok (.iconst 2, 1) := by decide +kernel
theorem dL_shared_128 : decode cL_shared 128 = .ok (.if_icmp .ne 114, 3) := by decide +kernel
theorem dL_shared_131 : decode cL_shared 131 = .ok (.aload_n 0, 1) := by decide +kernel
theorem dL_shared_132 : decode cL_shared 132 = .ok (.bipush 8, 2) := by decide +kernel
theorem dL_shared_134 : decode cL_shared 134 = .ok (.invokevirtual 13, 3) := by decide +kernel
theorem dL_shared_137 : decode cL_shared 137 = .ok (.iconst 2, 1) := by decide +kernel
theorem dL_shared_138 : decode cL_shared 138 = .ok (.if_icmp .ne 104, 3) := by decide +kernel
theorem dL_shared_141 : decode cL_shared 141 = .ok (.aload_n 0, 1) := by decide +kernel
theorem dL_shared_142 : decode cL_shared 142 = .ok (.iconst 0, 1) := by decide +kernel
theorem dL_shared_143 : decode cL_shared 143 = .ok (.iconst 0, 1) := by decide +kernel
theorem dL_shared_144 : decode cL_shared 144 = .ok (.invokevirtual 29, 3) := by decide +kernel
theorem dL_shared_147 : decode cL_shared 147 = .ok (.iconst 1, 1) := by decide +kernel
theorem dL_shared_148 : decode cL_shared 148 = .ok (.if_icmp .ne 94, 3) := by decide +kernel
theorem dL_shared_151 : decode cL_shared 151 = .ok (.aload_n 0, 1) := by decide +kernel
theorem dL_shared_152 : decode cL_shared 152 = .ok (.iconst 1, 1) := by decide +kernel
theorem dL_shared_153 : decode cL_shared 153 = .ok (.iconst 0, 1) := by decide +kernel
theorem dL_shared_154 : decode cL_shared 154 = .ok (.invokevirtual 29, 3) := by decide +kernel
theorem dL_shared_157 : decode cL_shared 157 = .ok (.ifCond .ne 85, 3) := by decide +kernel
theorem dL_shared_160 : decode cL_shared 160 = .ok (.aload_n 0, 1) := by decide +kernel
theorem dL_shared_161 : decode cL_shared 161 = .ok (.iconst 1, 1) := by decide +kernel
theorem dL_shared_162 : decode cL_shared 162 = .ok (.iconst 2, 1) := by decide +kernel
theorem dL_shared_163 : decode cL_shared 163 = .ok (.invokevirtual 29, 3) := by decide +kernel
theorem dL_shared_166 : decode cL_shared 166 = .ok (.iconst 2, 1) := by decide +kernel
theorem dL_shared_167 : decode cL_shared 167 = .ok (.if_icmp .ne 75, 3) := by decide +kernel
theorem dL_shared_170 : decode cL_shared 170 = .ok (.aload_n 0, 1) := by decide +kernel
theorem dL_shared_171 : decode cL_shared 171 = .ok (.iconst 2, 1) := by decide +kernel
theorem dL_shared_172 : decode cL_shared 172 = .ok (.iconst 0, 1) := by decide +kernel
theorem dL_shared_173 : decode cL_shared 173 = .ok (.invokevirtual 29, 3) := by decide +kernel
theorem dL_shared_176 : decode cL_shared 176 = .ok (.iconst 2, 1) := by decide +kernel
theorem dL_shared_177 : decode cL_shared 177 = .ok (.if_icmp .ne 65, 3) := by decide +kernel
theorem dL_shared_180 : decode cL_shared 180 = .ok (.aload_n 0, 1) := by decide +kernel
theorem dL_shared_181 : decode cL_shared 181 = .ok (.iconst 3, 1) := by decide +kernel
theorem dL_shared_182 : decode cL_shared 182 = .ok (.iconst 0, 1) := by decide +kernel
theorem dL_shared_183 : decode cL_shared 183 = .ok (.invokevirtual 29, 3) := by decide +kernel
theorem dL_shared_186 : decode cL_shared 186 = .ok (.sipush (-1005), 3) := by decide +kernel
theorem dL_shared_189 : decode cL_shared 189 = .ok (.if_icmp .ne 53, 3) := by decide +kernel
theorem dL_shared_192 : decode cL_shared 192 = .ok (.aload_n 0, 1) := by decide +kernel
theorem dL_shared_193 : decode cL_shared 193 = .ok (.iconst 0, 1) := by decide +kernel
theorem dL_shared_194 : decode cL_shared 194 = .ok (.iconst 0, 1) := by decide +kernel
theorem dL_shared_195 : decode cL_shared 195 = .ok (.invokevirtual 22, 3) := by decide +kernel
theorem dL_shared_198 : decode cL_shared 198 = .ok (.bipush 15, 2) := by decide +kernel
theorem dL_shared_200 : decode cL_shared 200 = .ok (.if_icmp .ne 42, 3) := by decide +kernel
theorem dL_shared_203 : decode cL_shared 203 = .ok (.aload_n 0, 1) := by decide +kernel
theorem dL_shared_204 : decode cL_shared 204 = .ok (.iconst 0, 1) := by decide +kernel
theorem dL_shared_205 : decode cL_shared 205 = .ok (.iconst 5, 1) := by decide +kernel
theorem dL_shared_206 : decode cL_shared 206 = .ok (.invokevirtual 22, 3) := by decide +kernel
theorem dL_shared_209 : decode cL_shared 209 = .ok (.iconst 1, 1) := by decide +kernel
theorem dL_shared_210 : decode cL_shared 210 = .ok (.if_icmp .ne 32, 3) := by decide +kernel
theorem dL_shared_213 : decode cL_shared 213 = .ok (.aload_n 0, 1) := by decide +kernel
theorem dL_shared_214 : decode cL_shared 214 = .ok (.iconst 0, 1) := by decide +kernel
theorem dL_shared_215 : decode cL_shared 215 = .ok (.bipush 6, 2) := by decide +kernel
theorem dL_shared_217 : decode cL_shared 217 = .ok (.invokevirtual 22, 3) := by decide +kernel
theorem dL_shared_220 : decode cL_shared 220 = .ok (.iconst 2, 1) := by decide +kernel
theorem dL_shared_221 : decode cL_shared 221 = .ok (.if_icmp .ne 21, 3) := by decide +kernel
theorem dL_shared_224 : decode cL_shared 224 = .ok (.aload_n 0, 1) := by decide +kernel
theorem dL_shared_225 : decode cL_shared 225 = .ok (.iconst 0, 1) := by decide +kernel
theorem dL_shared_226 : decode cL_shared 226 = .ok (.iconst 0, 1) := by decide +kernel
theorem dL_shared_227 : decode cL_shared 227 = .ok (.invokevirtual 26, 3) := by decide +kernel
theorem dL_shared_230 : decode cL_shared 230 = .ok (.bipush 15, 2) := by decide +kernel
theorem dL_shared_232 : decode cL_shared 232 = .ok (.if_icmp .ne 10, 3) := by decide +kernel
theorem dL_shared_235 : decode cL_shared 235 = .ok (.aload_n 0, 1) := by decide +kernel
theorem dL_shared_236 : decode cL_shared 236 = .ok (.invokestatic 89, 3) := by decide +kernel
theorem dL_shared_239 : decode cL_shared 239 = .ok (.ifCond .ne 5, 3) := by decide +kernel
theorem dL_shared_242 : decode cL_shared 242 = .ok (.iconst 0, 1) := by decide +kernel
theorem dL_shared_243 : decode cL_shared 243 = .ok (.ireturn, 1) := by decide +kernel
theorem dL_shared_244 : decode cL_shared 244 = .ok (.aload_n 0, 1) := by decide +kernel
theorem dL_shared_245 : decode cL_shared 245 = .ok (.bipush 20, 2) := by decide +kernel
theorem dL_shared_247 : decode cL_shared 247 = .ok (.invokevirtual 58, 3) := by decide +kernel
theorem dL_shared_250 : decode cL_shared 250 = .ok (.bipush 32, 2) := by decide +kernel
theorem dL_shared_252 : decode cL_shared 252 = .ok (.if_icmp .ne 197, 3) := by decide +kernel
theorem dL_shared_255 : decode cL_shared 255 = .ok (.aload_n 0, 1) := by decide +kernel
theorem dL_shared_256 : decode cL_shared 256 = .ok (.iconst 0, 1) := by decide +kernel
theorem dL_shared_257 : decode cL_shared 257 = .ok (.invokevirtual 58, 3) := by decide +kernel
theorem dL_shared_260 : decode cL_shared 260 = .ok (.sipush (-1005), 3) := by decide +kernel
theorem dL_shared_263 : decode cL_shared 263 = .ok (.if_icmp .ne 186, 3) := by decide +kernel
theorem dL_shared_266 : decode cL_shared 266 = .ok (.aload_n 0, 1) := by decide +kernel
theorem dL_shared_267 : decode cL_shared 267 = .ok (.bipush (-33), 2) := by decide +kernel
theorem dL_shared_269 : decode cL_shared 269 = .ok (.invokevirtual 58, 3) := by decide +kernel
theorem dL_shared_272 : decode cL_shared 272 = .ok (.sipush (-1004), 3) := by decide +kernel
theorem dL_shared_275 : decode cL_shared 275 = .ok (.if_icmp .ne 174, 3) := by decide +kernel
theorem dL_shared_278 : decode cL_shared 278 = .ok (.aload_n 0, 1) := by decide +kernel
theorem dL_shared_279 : decode cL_shared 279 = .ok (.bipush 6, 2) := by decide +kernel
theorem dL_shared_281 : decode cL_shared 281 = .ok (.invokevirtual 13, 3) := by decide +kernel
theorem dL_shared_284 : decode cL_shared 284 = .ok (.iconst 3, 1) := by decide +kernel
theorem dL_shared_285 : decode cL_shared 285 = .ok (.if_icmp .ne 164, 3) := by decide +kernel
theorem dL_shared_288 : decode cL_shared 288 = .ok (.aload_n 0, 1) := by decide +kernel
theorem dL_shared_289 : decode cL_shared 289 = .ok (.bipush 15, 2) := by decide +kernel
theorem dL_shared_291 : decode cL_shared 291 = .ok (.iconst 0, 1) := by decide +kernel
theorem dL_shared_292 : decode cL_shared 292 = .ok (.iconst 0, 1) := by decide +kernel
theorem dL_shared_293 : decode cL_shared 293 = .ok (.invokevirtual 33, 3) := by decide +kernel
theorem dL_shared_296 : decode cL_shared 296 = .ok (.sipush (-1004), 3) := by decide +kernel
theorem dL_shared_299 : decode cL_shared 299 = .ok (.if_icmp .ne 150, 3) := by decide +kernel
theorem dL_shared_302 : decode cL_shared 302 = .ok (.aload_n 0, 1) := by decide +kernel
theorem dL_shared_303 : decode cL_shared 303 = .ok (.iconst 1, 1) := by decide +kernel
theorem dL_shared_304 : decode cL_shared 304 = .ok (.invokevirtual 61, 3) := by decide +kernel
theorem dL_shared_307 : decode cL_shared 307 = .ok (.iconst 1, 1) := by decide +kernel
theorem dL_shared_308 : decode cL_shared 308 = .ok (.if_icmp .ne 141, 3) := by decide +kernel
theorem dL_shared_311 : decode cL_shared 311 = .ok (.aload_n 0, 1) := by decide +kernel
theorem dL_shared_312 : decode cL_shared 312 = .ok (.bipush 9, 2) := by decide +kernel
theorem dL_shared_314 : decode cL_shared 314 = .ok (.invokevirtual 13, 3) := by decide +kernel
theorem dL_shared_317 : decode cL_shared 317 = .ok (.iconst 3, 1) := by decide +kernel
theorem dL_shared_318 : decode cL_shared 318 = .ok (.if_icmp .ne 131, 3) := by decide +kernel
theorem dL_shared_321 : decode cL_shared 321 = .ok (.aload_n 0, 1) := by decide +kernel
theorem dL_shared_322 : decode cL_shared 322 = .ok (.iconst 0, 1) := by decide +kernel
theorem dL_shared_323 : decode cL_shared 323 = .ok (.iconst 0, 1) := by decide +kernel
theorem dL_shared_324 : decode cL_shared 324 = .ok (.invokevirtual 22, 3) := by decide +kernel
theorem dL_shared_327 : decode cL_shared 327 = .ok (.bipush 35, 2) := by decide +kernel
theorem dL_shared_329 : decode cL_shared 329 = .ok (.if_icmp .ne 120, 3) := by decide +kernel
theorem dL_shared_332 : decode cL_shared 332 = .ok (.aload_n 0, 1) := by decide +kernel
theorem dL_shared_333 : decode cL_shared 333 = .ok (.iconst 0, 1) := by decide +kernel
theorem dL_shared_334 : decode cL_shared 334 = .ok (.bipush 6, 2) := by decide +kernel
theorem dL_shared_336 : decode cL_shared 336 = .ok (.invokevirtual 22, 3) := by decide +kernel
theorem dL_shared_339 : decode cL_shared 339 = .ok (.bipush 18, 2) := by decide +kernel
theorem dL_shared_341 : decode cL_shared 341 = .ok (.if_icmp .ne 108, 3) := by decide +kernel
theorem dL_shared_344 : decode cL_shared 344 = .ok (.aload_n 0, 1) := by decide +kernel
theorem dL_shared_345 : decode cL_shared 345 = .ok (.iconst 0, 1) := by decide +kernel
theorem dL_shared_346 : decode cL_shared 346 = .ok (.iconst 2, 1) := by decide +kernel
theorem dL_shared_347 : decode cL_shared 347 = .ok (.invokevirtual 29, 3) := by decide +kernel
theorem dL_shared_350 : decode cL_shared 350 = .ok (.bipush 18, 2) := by decide +kernel
theorem dL_shared_352 : decode cL_shared 352 = .ok (.if_icmp .ne 97, 3) := by decide +kernel
theorem dL_shared_355 : decode cL_shared 355 = .ok (.aload_n 0, 1) := by decide +kernel
theorem dL_shared_356 : decode cL_shared 356 = .ok (.iconst 1, 1) := by decide +kernel
theorem dL_shared_357 : decode cL_shared 357 = .ok (.invokevirtual 13, 3) := by decide +kernel
theorem dL_shared_360 : decode cL_shared 360 = .ok (.bipush 13, 2) := by decide +kernel
theorem dL_shared_362 : decode cL_shared 362 = .ok (.if_icmp .ne 87, 3) := by decide +kernel
theorem dL_shared_365 : decode cL_shared 365 = .ok (.aload_n 0, 1) := by decide +kernel
theorem dL_shared_366 : decode cL_shared 366 = .ok (.iconst 2, 1) := by decide +kernel
theorem dL_shared_367 : decode cL_shared 367 = .ok (.invokevirtual 55, 3) := by decide +kernel
theorem dL_shared_370 : decode cL_shared 370 = .ok (.ifCond .ne 79, 3) := by decide +kernel
theorem dL_shared_373 : decode cL_shared 373 = .ok (.aload_n 0, 1) := by decide +kernel
theorem dL_shared_374 : decode cL_shared 374 = .ok (.iconst 1, 1) := by decide +kernel
theorem dL_shared_375 : decode cL_shared 375 = .ok (.invokevirtual 61, 3) := by decide +kernel
theorem dL_shared_378 : decode cL_shared 378 = .ok (.iconst 1, 1) := by decide +kernel
theorem dL_shared_379 : decode cL_shared 379 = .ok (.if_icmp .ne 70, 3) := by decide +kernel
theorem dL_shared_382 : decode cL_shared 382 = .ok (.aload_n 0, 1) := by decide +kernel
theorem dL_shared_383 : decode cL_shared 383 = .ok (.iconst 0, 1) := by decide +kernel
theorem dL_shared_384 : decode cL_shared 384 = .ok (.invokevirtual 13, 3) := by decide +kernel
theorem dL_shared_387 : decode cL_shared 387 = .ok (.bipush 35, 2) := by decide +kernel
theorem dL_shared_389 : decode cL_shared 389 = .ok (.if_icmp .ne 60, 3) := by decide +kernel
theorem dL_shared_392 : decode cL_shared 392 = .ok (.aload_n 0, 1) := by decide +kernel
theorem dL_shared_393 : decode cL_shared 393 = .ok (.iconst 0, 1) := by decide +kernel
theorem dL_shared_394 : decode cL_shared 394 = .ok (.iconst 0, 1) := by decide +kernel
theorem dL_shared_395 : decode cL_shared 395 = .ok (.invokevirtual 22, 3) := by decide +kernel
theorem dL_shared_398 : decode cL_shared 398 = .ok (.bipush 40, 2) := by decide +kernel
theorem dL_shared_400 : decode cL_shared 400 = .ok (.if_icmp .ne 49, 3) := by decide +kernel
theorem dL_shared_403 : decode cL_shared 403 = .ok (.aload_n 0, 1) := by decide +kernel
theorem dL_shared_404 : decode cL_shared 404 = .ok (.bipush (-3), 2) := by decide +kernel
theorem dL_shared_406 : decode cL_shared 406 = .ok (.invokevirtual 55, 3) := by decide +kernel
theorem dL_shared_409 : decode cL_shared 409 = .ok (.iconst 2, 1) := by decide +kernel
theorem dL_shared_410 : decode cL_shared 410 = .ok (.if_icmp .ne 39, 3) := by decide +kernel
theorem dL_shared_413 : decode cL_shared 413 = .ok (.aload_n 0, 1) := by decide +kernel
theorem dL_shared_414 : decode cL_shared 414 = .ok (.iconst 1, 1) := by decide +kernel
theorem dL_shared_415 : decode cL_shared 415 = .ok (.invokevirtual 61, 3) := by decide +kernel
theorem dL_shared_418 : decode cL_shared 418 = .ok (.ifCond .ne 31, 3) := by decide +kernel
theorem dL_shared_421 : decode cL_shared 421 = .ok (.aload_n 0, 1) := by decide +kernel
theorem dL_shared_422 : decode cL_shared 422 = .ok (.iconst 0, 1) := by decide +kernel
theorem dL_shared_423 : decode cL_shared 423 = .ok (.invokevirtual 13, 3) := by decide +kernel
theorem dL_shared_426 : decode cL_shared 426 = .ok (.bipush 35, 2) := by decide +kernel
theorem dL_shared_428 : decode cL_shared 428 = .ok (.if_icmp .ne 21, 3) := by decide +kernel
theorem dL_shared_431 : decode cL_shared 431 = .ok (.aload_n 0, 1) := by decide +kernel
theorem dL_shared_432 : decode cL_shared 432 = .ok (.iconst 3, 1) := by decide +kernel
theorem dL_shared_433 : decode cL_shared 433 = .ok (.invokevirtual 61, 3) := by decide +kernel
theorem dL_shared_436 : decode cL_shared 436 = .ok (.ifCond .ne 13, 3) := by decide +kernel
theorem dL_shared_439 : decode cL_shared 439 = .ok (.aload_n 0, 1) := by decide +kernel
theorem dL_shared_440 : decode cL_shared 440 = .ok (.iconst 0, 1) := by decide +kernel
theorem dL_shared_441 : decode cL_shared 441 = .ok (.invokevirtual 13, 3) := by decide +kernel
theorem dL_shared_444 : decode cL_shared 444 = .ok (.bipush 37, 2) := by decide +kernel
theorem dL_shared_446 : decode cL_shared 446 = .ok (.if_icmp .eq 5, 3) := by decide +kernel
theorem dL_shared_449 : decode cL_shared 449 = .ok (.iconst 0, 1) := by decide +kernel
theorem dL_shared_450 : decode cL_shared 450 = .ok (.ireturn, 1) := by decide +kernel
theorem dL_shared_451 : decode cL_shared 451 = .ok (.aload_n 0, 1) := by decide +kernel
theorem dL_shared_452 : decode cL_shared 452 = .ok (.iconst 0, 1) := by decide +kernel
theorem dL_shared_453 : decode cL_shared 453 = .ok (.invokevirtual 49, 3) := by decide +kernel
theorem dL_shared_456 : decode cL_shared 456 = .ok (.iconst 3, 1) := by decide +kernel
theorem dL_shared_457 : decode cL_shared 457 = .ok (.if_icmp .ne 172, 3) := by decide +kernel
theorem dL_shared_460 : decode cL_shared 460 = .ok (.aload_n 0, 1) := by decide +kernel
theorem dL_shared_461 : decode cL_shared 461 = .ok (.bipush 40, 2) := by decide +kernel
theorem dL_shared_463 : decode cL_shared 463 = .ok (.iconst 0, 1) := by decide +kernel
theorem dL_shared_464 : decode cL_shared 464 = .ok (.iconst 1, 1) := by decide +kernel
theorem dL_shared_465 : decode cL_shared 465 = .ok (.invokevirtual 33, 3) := by decide +kernel
theorem dL_shared_468 : decode cL_shared 468 = .ok (.iconst 3, 1) := by decide +kernel
theorem dL_shared_469 : decode cL_shared 469 = .ok (.if_icmp .ne 160, 3) := by decide +kernel
theorem dL_shared_472 : decode cL_shared 472 = .ok (.aload_n 0, 1) := by decide +kernel
theorem dL_shared_473 : decode cL_shared 473 = .ok (.bipush 40, 2) := by decide +kernel
theorem dL_shared_475 : decode cL_shared 475 = .ok (.iconst 0, 1) := by decide +kernel
theorem dL_shared_476 : decode cL_shared 476 = .ok (.iconst 3, 1) := by decide +kernel
theorem dL_shared_477 : decode cL_shared 477 = .ok (.invokevirtual 33, 3) := by decide +kernel
theorem dL_shared_480 : decode cL_shared 480 = .ok (.iconst 4, 1) := by decide +kernel
theorem dL_shared_481 : decode cL_shared 481 = .ok (.if_icmp .ne 148, 3) := by decide +kernel
theorem dL_shared_484 : decode cL_shared 484 = .ok (.aload_n 0, 1) := by decide +kernel
theorem dL_shared_485 : decode cL_shared 485 = .ok (.iconst 0, 1) := by decide +kernel
theorem dL_shared_486 : decode cL_shared 486 = .ok (.iconst 1, 1) := by decide +kernel
theorem dL_shared_487 : decode cL_shared 487 = .ok (.invokevirtual 26, 3) := by decide +kernel
theorem dL_shared_490 : decode cL_shared 490 = .ok (.iconst 3, 1) := by decide +kernel
theorem dL_shared_491 : decode cL_shared 491 = .ok (.if_icmp .ne 138, 3) := by decide +kernel
theorem dL_shared_494 : decode cL_shared 494 = .ok (.aload_n 0, 1) := by decide +kernel
theorem dL_shared_495 : decode cL_shared 495 = .ok (.iconst 0, 1) := by decide +kernel
theorem dL_shared_496 : decode cL_shared 496 = .ok (.invokevirtual 19, 3) := by decide +kernel
theorem dL_shared_499 : decode cL_shared 499 = .ok (.iconst 4, 1) := by decide +kernel
theorem dL_shared_500 : decode cL_shared 500 = .ok (.if_icmp .ne 129, 3) := by decide +kernel
theorem dL_shared_503 : decode cL_shared 503 = .ok (.aload_n 0, 1) := by decide +kernel
theorem dL_shared_504 : decode cL_shared 504 = .ok (.iconst 1, 1) := by decide +kernel
theorem dL_shared_505 : decode cL_shared 505 = .ok (.invokevirtual 19, 3) := by decide +kernel
theorem dL_shared_508 : decode cL_shared 508 = .ok (.ifCond .ne 121, 3) := by decide +kernel
theorem dL_shared_511 : decode cL_shared 511 = .ok (.aload_n 0, 1) := by decide +kernel
theorem dL_shared_512 : decode cL_shared 512 = .ok (.iconst 2, 1) := by decide +kernel
theorem dL_shared_513 : decode cL_shared 513 = .ok (.invokevirtual 19, 3) := by decide +kernel
theorem dL_shared_516 : decode cL_shared 516 = .ok (.iconst 3, 1) := by decide +kernel
theorem dL_shared_517 : decode cL_shared 517 = .ok (.if_icmp .ne 112, 3) := by decide +kernel
theorem dL_shared_520 : decode cL_shared 520 = .ok (.aload_n 0, 1) := by decide +kernel
theorem dL_shared_521 : decode cL_shared 521 = .ok (.iconst 3, 1) := by decide +kernel
theorem dL_shared_522 : decode cL_shared 522 = .ok (.iconst 4, 1) := by decide +kernel
theorem dL_shared_523 : decode cL_shared 523 = .ok (.invokevirtual 22, 3) := by decide +kernel
theorem dL_shared_526 : decode cL_shared 526 = .ok (.iconst 2, 1) := by decide +kernel
theorem dL_shared_527 : decode cL_shared 527 = .ok (.if_icmp .ne 102, 3) := by decide +kernel
theorem dL_shared_530 : decode cL_shared 530 = .ok (.aload_n 0, 1) := by decide +kernel
theorem dL_shared_531 : decode cL_shared 531 = .ok (.iconst 0, 1) := by decide +kernel
theorem dL_shared_532 : decode cL_shared 532 = .ok (.iconst 3, 1) := by decide +kernel
theorem dL_shared_533 : decode cL_shared 533 = .ok (.invokevirtual 26, 3) := by decide +kernel
theorem dL_shared_536 : decode cL_shared 536 = .ok (.iconst 4, 1) := by decide +kernel
theorem dL_shared_537 : decode cL_shared 537 = .ok (.if_icmp .ne 92, 3) := by decide +kernel
theorem dL_shared_540 : decode cL_shared 540 = .ok (.aload_n 0, 1) := by decide +kernel
theorem dL_shared_541 : decode cL_shared 541 = .ok (.iconst 4, 1) := by decide +kernel
theorem dL_shared_542 : decode cL_shared 542 = .ok (.invokevirtual 40, 3) := by decide +kernel
theorem dL_shared_545 : decode cL_shared 545 = .ok (.iconst 2, 1) := by decide +kernel
theorem dL_shared_546 : decode cL_shared 546 = .ok (.if_icmp .ne 83, 3) := by decide +kernel
theorem dL_shared_549 : decode cL_shared 549 = .ok (.aload_n 0, 1) := by decide +kernel
theorem dL_shared_550 : decode cL_shared 550 = .ok (.iconst 0, 1) := by decide +kernel
theorem dL_shared_551 : decode cL_shared 551 = .ok (.iconst 0, 1) := by decide +kernel
theorem dL_shared_552 : decode cL_shared 552 = .ok (.invokevirtual 26, 3) := by decide +kernel
theorem dL_shared_555 : decode cL_shared 555 = .ok (.bipush 40, 2) := by decide +kernel
theorem dL_shared_557 : decode cL_shared 557 = .ok (.if_icmp .ne 72, 3) := by decide +kernel
theorem dL_shared_560 : decode cL_shared 560 = .ok (.aload_n 0, 1) := by decide +kernel
theorem dL_shared_561 : decode cL_shared 561 = .ok (.iconst 0, 1) := by decide +kernel
theorem dL_shared_562 : decode cL_shared 562 = .ok (.iconst 3, 1) := by decide +kernel
theorem dL_shared_563 : decode cL_shared 563 = .ok (.invokevirtual 26, 3) := by decide +kernel
theorem dL_shared_566 : decode cL_shared 566 = .ok (.ifCond .ne 63, 3) := by decide +kernel
theorem dL_shared_569 : decode cL_shared 569 = .ok (.aload_n 0, 1) := by decide +kernel
theorem dL_shared_570 : decode cL_shared 570 = .ok (.iconst 0, 1) := by decide +kernel
theorem dL_shared_571 : decode cL_shared 571 = .ok (.bipush 41, 2) := by decide +kernel
theorem dL_shared_573 : decode cL_shared 573 = .ok (.invokevirtual 43, 3) := by decide +kernel
theorem dL_shared_576 : decode cL_shared 576 = .ok (.bipush 40, 2) := by decide +kernel
theorem dL_shared_578 : decode cL_shared 578 = .ok (.if_icmp .ne 51, 3) := by decide +kernel
theorem dL_shared_581 : decode cL_shared 581 = .ok (.aload_n 0, 1) := by decide +kernel
theorem dL_shared_582 : decode cL_shared 582 = .ok (.iconst 0, 1) := by decide +kernel
theorem dL_shared_583 : decode cL_shared 583 = .ok (.iconst 3, 1) := by decide +kernel
theorem dL_shared_584 : decode cL_shared 584 = .ok (.invokevirtual 26, 3) := by decide +kernel
theorem dL_shared_587 : decode cL_shared 587 = .ok (.iconst 3, 1) := by decide +kernel
theorem dL_shared_588 : decode cL_shared 588 = .ok (.if_icmp .ne 41, 3) := by decide +kernel
theorem dL_shared_591 : decode cL_shared 591 = .ok (.aload_n 0, 1) := by decide +kernel
theorem dL_shared_592 : decode cL_shared 592 = .ok (.iconst 1, 1) := by decide +kernel
theorem dL_shared_593 : decode cL_shared 593 = .ok (.iconst 3, 1) := by decide +kernel
theorem dL_shared_594 : decode cL_shared 594 = .ok (.invokevirtual 26, 3) := by decide +kernel
theorem dL_shared_597 : decode cL_shared 597 = .ok (.ifCond .ne 32, 3) := by decide +kernel
theorem dL_shared_600 : decode cL_shared 600 = .ok (.aload_n 0, 1) := by decide +kernel
theorem dL_shared_601 : decode cL_shared 601 = .ok (.iconst 1, 1) := by decide +kernel
theorem dL_shared_602 : decode cL_shared 602 = .ok (.iconst 0, 1) := by decide +kernel
theorem dL_shared_603 : decode cL_shared 603 = .ok (.invokevirtual 26, 3) := by decide +kernel
theorem dL_shared_606 : decode cL_shared 606 = .ok (.bipush 41, 2) := by decide +kernel
theorem dL_shared_608 : decode cL_shared 608 = .ok (.if_icmp .ne 21, 3) := by decide +kernel
theorem dL_shared_611 : decode cL_shared 611 = .ok (.aload_n 0, 1) := by decide +kernel
theorem dL_shared_612 : decode cL_shared 612 = .ok (.iconst 4, 1) := by decide +kernel
theorem dL_shared_613 : decode cL_shared 613 = .ok (.invokevirtual 46, 3) := by decide +kernel
theorem dL_shared_616 : decode cL_shared 616 = .ok (.iconst 2, 1) := by decide +kernel
theorem dL_shared_617 : decode cL_shared 617 = .ok (.if_icmp .ne 12, 3) := by decide +kernel
theorem dL_shared_620 : decode cL_shared 620 = .ok (.aload_n 0, 1) := by decide +kernel
theorem dL_shared_621 : decode cL_shared 621 = .ok (.iconst 5, 1) := by decide +kernel
theorem dL_shared_622 : decode cL_shared 622 = .ok (.invokevirtual 13, 3) := by decide +kernel
theorem dL_shared_625 : decode cL_shared 625 = .ok (.iconst 2, 1) := by decide +kernel
theorem dL_shared_626 : decode cL_shared 626 = .ok (.if_icmp .eq 5, 3) := by decide +kernel
theorem dL_shared_629 : decode cL_shared 629 = .ok (.iconst 0, 1) := by decide +kernel
theorem dL_shared_630 : decode cL_shared 630 = .ok (.ireturn, 1) := by decide +kernel
theorem dL_shared_631 : decode cL_shared 631 = .ok (.aload_n 0, 1) := by decide +kernel
theorem dL_shared_632 : decode cL_shared 632 = .ok (.sipush 999, 3) := by decide +kernel
theorem dL_shared_635 : decode cL_shared 635 = .ok (.invokevirtual 58, 3) := by decide +kernel
theorem dL_shared_638 : decode cL_shared 638 = .ok (.sipush 1036, 3) := by decide +kernel
theorem dL_shared_641 : decode cL_shared 641 = .ok (.if_icmp .ne 65, 3) := by decide +kernel
theorem dL_shared_644 : decode cL_shared 644 = .ok (.aload_n 0, 1) := by decide +kernel
theorem dL_shared_645 : decode cL_shared 645 = .ok (.iconst 1, 1) := by decide +kernel
theorem dL_shared_646 : decode cL_shared 646 = .ok (.invokevirtual 61, 3) := by decide +kernel
theorem dL_shared_649 : decode cL_shared 649 = .ok (.iconst 2, 1) := by decide +kernel
theorem dL_shared_650 : decode cL_shared 650 = .ok (.if_icmp .ne 56, 3) := by decide +kernel
theorem dL_shared_653 : decode cL_shared 653 = .ok (.aload_n 0, 1) := by decide +kernel
theorem dL_shared_654 : decode cL_shared 654 = .ok (.bipush 7, 2) := by decide +kernel
theorem dL_shared_656 : decode cL_shared 656 = .ok (.invokevirtual 13, 3) := by decide +kernel
theorem dL_shared_659 : decode cL_shared 659 = .ok (.sipush 1000, 3) := by decide +kernel
theorem dL_shared_662 : decode cL_shared 662 = .ok (.if_icmp .le 44, 3) := by decide +kernel
theorem dL_shared_665 : decode cL_shared 665 = .ok (.aload_n 0, 1) := by decide +kernel
theorem dL_shared_666 : decode cL_shared 666 = .ok (.iconst 0, 1) := by decide +kernel
theorem dL_shared_667 : decode cL_shared 667 = .ok (.iconst 0, 1) := by decide +kernel
theorem dL_shared_668 : decode cL_shared 668 = .ok (.invokevirtual 22, 3) := by decide +kernel
theorem dL_shared_671 : decode cL_shared 671 = .ok (.aload_n 0, 1) := by decide +kernel
theorem dL_shared_672 : decode cL_shared 672 = .ok (.iconst 0, 1) := by decide +kernel
theorem dL_shared_673 : decode cL_shared 673 = .ok (.invokevirtual 13, 3) := by decide +kernel
theorem dL_shared_676 : decode cL_shared 676 = .ok (.if_icmp .le 30, 3) := by decide +kernel
theorem dL_shared_679 : decode cL_shared 679 = .ok (.aload_n 0, 1) := by decide +kernel
theorem dL_shared_680 : decode cL_shared 680 = .ok (.sipush (-999), 3) := by decide +kernel
theorem dL_shared_683 : decode cL_shared 683 = .ok (.invokevirtual 58, 3) := by decide +kernel
theorem dL_shared_686 : decode cL_shared 686 = .ok (.bipush 38, 2) := by decide +kernel
theorem dL_shared_688 : decode cL_shared 688 = .ok (.if_icmp .ne 18, 3) := by decide +kernel
theorem dL_shared_691 : decode cL_shared 691 = .ok (.aload_n 0, 1) := by decide +kernel
theorem dL_shared_692 : decode cL_shared 692 = .ok (.iconst 0, 1) := by decide +kernel
theorem dL_shared_693 : decode cL_shared 693 = .ok (.invokevirtual 64, 3) := by decide +kernel
theorem dL_shared_696 : decode cL_shared 696 = .ok (.sipush (-1005), 3) := by decide +kernel
theorem dL_shared_699 : decode cL_shared 699 = .ok (.if_icmp .ne 7, 3) := by decide +kernel
theorem dL_shared_702 : decode cL_shared 702 = .ok (.iconst 1, 1) := by decide +kernel
theorem dL_shared_703 : decode cL_shared 703 = .ok (.goto 4, 3) := by decide +kernel
theorem dL_shared_706 : decode cL_shared 706 = .ok (.iconst 0, 1) := by decide +kernel
theorem dL_shared_707 : decode cL_shared 707 = .ok (.ireturn, 1) := by decide +kernel
