section ZZU
theorem dL_law_0 : decode cL_law 0 = .ok (.new 10, 3) := by decide +kernel
theorem dL_law_3 : decode cL_law 3 = .ok (.dup, 1) := by decide +kernel
theorem dL_law_4 : decode cL_law 4 = .ok (.invokespecial 103, 3) := by decide +kernel
theorem dL_law_7 : decode cL_law 7 = .ok (.astore_n 1, 1) := by decide +kernel
theorem dL_law_8 : decode cL_law 8 = .ok (.iconst 1, 1) := by decide +kernel
theorem dL_law_9 : decode cL_law 9 = .ok (.aload_n 0, 1) := by decide +kernel
theorem dL_law_10 : decode cL_law 10 = .ok (.iconst 0, 1) := by decide +kernel
theorem dL_law_11 : decode cL_law 11 = .ok (.iconst 4, 1) := by decide +kernel
theorem dL_law_12 : decode cL_law 12 = .ok (.invokestatic 104, 3) := by decide +kernel
theorem dL_law_15 : decode cL_law 15 = .ok (.iadd, 1) := by decide +kernel
theorem dL_law_16 : decode cL_law 16 = .ok (.istore_n 2, 1) := by decide +kernel
theorem dL_law_17 : decode cL_law 17 = .ok (.iconst 1, 1) := by decide +kernel
theorem dL_law_18 : decode cL_law 18 = .ok (.aload_n 0, 1) := by decide +kernel
theorem dL_law_19 : decode cL_law 19 = .ok (.iconst 1, 1) := by decide +kernel
theorem dL_law_20 : decode cL_law 20 = .ok (.iconst 4, 1) := by decide +kernel
theorem dL_law_21 : decode cL_law 21 = .ok (.invokestatic 104, 3) := by decide +kernel
theorem dL_law_24 : decode cL_law 24 = .ok (.iadd, 1) := by decide +kernel
theorem dL_law_25 : decode cL_law 25 = .ok (.istore_n 3, 1) := by decide +kernel
theorem dL_law_26 : decode cL_law 26 = .ok (.aload_n 1, 1) := by decide +kernel
theorem dL_law_27 : decode cL_law 27 = .ok (.bipush 7, 2) := by decide +kernel
theorem dL_law_29 : decode cL_law 29 = .ok (.iconst 1, 1) := by decide +kernel
theorem dL_law_30 : decode cL_law 30 = .ok (.invokestatic 108, 3) := by decide +kernel
theorem dL_law_33 : decode cL_law 33 = .ok (.ldc 17, 2) := by decide +kernel
theorem dL_law_35 : decode cL_law 35 = .ok (.if_icmp .ne 70, 3) := by decide +kernel
theorem dL_law_38 : decode cL_law 38 = .ok (.aload_n 1, 1) := by decide +kernel
theorem dL_law_39 : decode cL_law 39 = .ok (.iload_n 2, 1) := by decide +kernel
theorem dL_law_40 : decode cL_law 40 = .ok (.iload_n 3, 1) := by decide +kernel
theorem dL_law_41 : decode cL_law 41 = .ok (.invokestatic 108, 3) := by decide +kernel
theorem dL_law_44 : decode cL_law 44 = .ok (.ifCond .ne 61, 3) := by decide +kernel
theorem dL_law_47 : decode cL_law 47 = .ok (.aload_n 1, 1) := by decide +kernel
theorem dL_law_48 : decode cL_law 48 = .ok (.iconst 0, 1) := by decide +kernel
theorem dL_law_49 : decode cL_law 49 = .ok (.iconst 0, 1) := by decide +kernel
theorem dL_law_50 : decode cL_law 50 = .ok (.invokestatic 111, 3) := by decide +kernel
theorem dL_law_53 : decode cL_law 53 = .ok (.ifCond .ne 52, 3) := by decide +kernel
theorem dL_law_56 : decode cL_law 56 = .ok (.aload_n 1, 1) := by decide +kernel
theorem dL_law_57 : decode cL_law 57 = .ok (.iconst 0, 1) := by decide +kernel
theorem dL_law_58 : decode cL_law 58 = .ok (.iload_n 2, 1) := by decide +kernel
theorem dL_law_59 : decode cL_law 59 = .ok (.bipush 10, 2) := by decide +kernel
theorem dL_law_61 : decode cL_law 61 = .ok (.imul, 1) := by decide +kernel
theorem dL_law_62 : decode cL_law 62 = .ok (.invokestatic 111, 3) := by decide +kernel
theorem dL_law_65 : decode cL_law 65 = .ok (.ldc 17, 2) := by decide +kernel
theorem dL_law_67 : decode cL_law 67 = .ok (.if_icmp .ne 38, 3) := by decide +kernel
theorem dL_law_70 : decode cL_law 70 = .ok (.aload_n 1, 1) := by decide +kernel
theorem dL_law_71 : decode cL_law 71 = .ok (.iconst 0, 1) := by decide +kernel
theorem dL_law_72 : decode cL_law 72 = .ok (.invokestatic 98, 3) := by decide +kernel
theorem dL_law_75 : decode cL_law 75 = .ok (.ldc 20, 2) := by decide +kernel
theorem dL_law_77 : decode cL_law 77 = .ok (.if_icmp .ne 28, 3) := by decide +kernel
theorem dL_law_80 : decode cL_law 80 = .ok (.aload_n 1, 1) := by decide +kernel
theorem dL_law_81 : decode cL_law 81 = .ok (.iconst 0, 1) := by decide +kernel
theorem dL_law_82 : decode cL_law 82 = .ok (.bipush 50, 2) := by decide +kernel
theorem dL_law_84 : decode cL_law 84 = .ok (.iconst 5, 1) := by decide +kernel
theorem dL_law_85 : decode cL_law 85 = .ok (.invokestatic 113, 3) := by decide +kernel
theorem dL_law_88 : decode cL_law 88 = .ok (.ldc 28, 2) := by decide +kernel
theorem dL_law_90 : decode cL_law 90 = .ok (.if_icmp .ne 15, 3) := by decide +kernel
theorem dL_law_93 : decode cL_law 93 = .ok (.aload_n 1, 1) := by decide +kernel
theorem dL_law_94 : decode cL_law 94 = .ok (.iconst 0, 1) := by decide +kernel
theorem dL_law_95 : decode cL_law 95 = .ok (.invokestatic 116, 3) := by decide +kernel
theorem dL_law_98 : decode cL_law 98 = .ok (.ifCond .ne 7, 3) := by decide +kernel
theorem dL_law_101 : decode cL_law 101 = .ok (.iconst 1, 1) := by decide +kernel
theorem dL_law_102 : decode cL_law 102 = .ok (.goto 4, 3) := by decide +kernel
theorem dL_law_105 : decode cL_law 105 = .ok (.iconst 0, 1) := by decide +kernel
theorem dL_law_106 : decode cL_law 106 = .ok (.istore 4, 2) := by decide +kernel
theorem dL_law_108 : decode cL_law 108 = .ok (.bipush 20, 2) := by decide +kernel
theorem dL_law_110 : decode cL_law 110 = .ok (.aload_n 0, 1) := by decide +kernel
theorem dL_law_111 : decode cL_law 111 = .ok (.iconst 2, 1) := by decide +kernel
theorem dL_law_112 : decode cL_law 112 = .ok (.bipush 80, 2) := by decide +kernel
theorem dL_law_114 : decode cL_law 114 = .ok (.invokestatic 104, 3) := by decide +kernel
theorem dL_law_117 : decode cL_law 117 = .ok (.iadd, 1) := by decide +kernel
theorem dL_law_118 : decode cL_law 118 = .ok (.istore 5, 2) := by decide +kernel
theorem dL_law_120 : decode cL_law 120 = .ok (.iload 4, 2) := by decide +kernel
theorem dL_law_122 : decode cL_law 122 = .ok (.aload_n 1, 1) := by decide +kernel
theorem dL_law_123 : decode cL_law 123 = .ok (.iconst 0, 1) := by decide +kernel
theorem dL_law_124 : decode cL_law 124 = .ok (.bipush 10, 2) := by decide +kernel
theorem dL_law_126 : decode cL_law 126 = .ok (.invokestatic 118, 3) := by decide +kernel
theorem dL_law_129 : decode cL_law 129 = .ok (.ldc 20, 2) := by decide +kernel
theorem dL_law_131 : decode cL_law 131 = .ok (.if_icmp .ne 54, 3) := by decide +kernel
theorem dL_law_134 : decode cL_law 134 = .ok (.aload_n 1, 1) := by decide +kernel
theorem dL_law_135 : decode cL_law 135 = .ok (.aload_n 1, 1) := by decide +kernel
theorem dL_law_136 : decode cL_law 136 = .ok (.iconst 0, 1) := by decide +kernel
theorem dL_law_137 : decode cL_law 137 = .ok (.iconst 1, 1) := by decide +kernel
theorem dL_law_138 : decode cL_law 138 = .ok (.aload_n 0, 1) := by decide +kernel
theorem dL_law_139 : decode cL_law 139 = .ok (.iconst 3, 1) := by decide +kernel
theorem dL_law_140 : decode cL_law 140 = .ok (.bipush 9, 2) := by decide +kernel
theorem dL_law_142 : decode cL_law 142 = .ok (.invokestatic 104, 3) := by decide +kernel
theorem dL_law_145 : decode cL_law 145 = .ok (.iadd, 1) := by decide +kernel
theorem dL_law_146 : decode cL_law 146 = .ok (.invokestatic 118, 3) := by decide +kernel
theorem dL_law_149 : decode cL_law 149 = .ok (.iconst 0, 1) := by decide +kernel
theorem dL_law_150 : decode cL_law 150 = .ok (.invokestatic 120, 3) := by decide +kernel
theorem dL_law_153 : decode cL_law 153 = .ok (.ifCond .eq 32, 3) := by decide +kernel
theorem dL_law_156 : decode cL_law 156 = .ok (.aload_n 1, 1) := by decide +kernel
theorem dL_law_157 : decode cL_law 157 = .ok (.iconst 0, 1) := by decide +kernel
theorem dL_law_158 : decode cL_law 158 = .ok (.bipush 19, 2) := by decide +kernel
theorem dL_law_160 : decode cL_law 160 = .ok (.iconst 5, 1) := by decide +kernel
theorem dL_law_161 : decode cL_law 161 = .ok (.invokestatic 113, 3) := by decide +kernel
theorem dL_law_164 : decode cL_law 164 = .ok (.ldc 20, 2) := by decide +kernel
theorem dL_law_166 : decode cL_law 166 = .ok (.if_icmp .ne 19, 3) := by decide +kernel
theorem dL_law_169 : decode cL_law 169 = .ok (.aload_n 1, 1) := by decide +kernel
theorem dL_law_170 : decode cL_law 170 = .ok (.iconst 0, 1) := by decide +kernel
theorem dL_law_171 : decode cL_law 171 = .ok (.iload 5, 2) := by decide +kernel
theorem dL_law_173 : decode cL_law 173 = .ok (.iconst 5, 1) := by decide +kernel
theorem dL_law_174 : decode cL_law 174 = .ok (.invokestatic 113, 3) := by decide +kernel
theorem dL_law_177 : decode cL_law 177 = .ok (.iconst 1, 1) := by decide +kernel
theorem dL_law_178 : decode cL_law 178 = .ok (.if_icmp .ne 7, 3) := by decide +kernel
theorem dL_law_181 : decode cL_law 181 = .ok (.iconst 1, 1) := by decide +kernel
theorem dL_law_182 : decode cL_law 182 = .ok (.goto 4, 3) := by decide +kernel
theorem dL_law_185 : decode cL_law 185 = .ok (.iconst 0, 1) := by decide +kernel
theorem dL_law_186 : decode cL_law 186 = .ok (.iand, 1) := by decide +kernel
theorem dL_law_187 : decode cL_law 187 = .ok (.istore 4, 2) := by decide +kernel
theorem dL_law_189 : decode cL_law 189 = .ok (.iload_n 2, 1) := by decide +kernel
theorem dL_law_190 : decode cL_law 190 = .ok (.iload_n 3, 1) := by decide +kernel
theorem dL_law_191 : decode cL_law 191 = .ok (.multianewarray 124 2, 4) := by decide +kernel
theorem dL_law_195 : decode cL_law 195 = .ok (.astore 6, 2) := by decide +kernel
theorem dL_law_197 : decode cL_law 197 = .ok (.iload_n 2, 1) := by decide +kernel
theorem dL_law_198 : decode cL_law 198 = .ok (.newarray .int, 2) := by decide +kernel
theorem dL_law_200 : decode cL_law 200 = .ok (.astore 7, 2) := by decide +kernel
theorem dL_law_202 : decode cL_law 202 = .ok (.iload_n 3, 1) := by decide +kernel
theorem dL_law_203 : decode cL_law 203 = .ok (.newarray .int, 2) := by decide +kernel
theorem dL_law_205 : decode cL_law 205 = .ok (.astore 8, 2) := by decide +kernel
theorem dL_law_207 : decode cL_law 207 = .ok (.iconst 0, 1) := by decide +kernel
theorem dL_law_208 : decode cL_law 208 = .ok (.istore 9, 2) := by decide +kernel
theorem dL_law_210 : decode cL_law 210 = .ok (.iload 9, 2) := by decide +kernel
theorem dL_law_212 : decode cL_law 212 = .ok (.iload_n 2, 1) := by decide +kernel
theorem dL_law_213 : decode cL_law 213 = .ok (.if_icmp .ge 147, 3) := by decide +kernel
theorem dL_law_216 : decode cL_law 216 = .ok (.aload 7, 2) := by decide +kernel
theorem dL_law_218 : decode cL_law 218 = .ok (.iload 9, 2) := by decide +kernel
theorem dL_law_220 : decode cL_law 220 = .ok (.bipush 99, 2) := by decide +kernel
theorem dL_law_222 : decode cL_law 222 = .ok (.iastore, 1) := by decide +kernel
theorem dL_law_223 : decode cL_law 223 = .ok (.iconst 0, 1) := by decide +kernel
theorem dL_law_224 : decode cL_law 224 = .ok (.istore 10, 2) := by decide +kernel
theorem dL_law_226 : decode cL_law 226 = .ok (.iload 10, 2) := by decide +kernel
theorem dL_law_228 : decode cL_law 228 = .ok (.iload_n 3, 1) := by decide +kernel
theorem dL_law_229 : decode cL_law 229 = .ok (.if_icmp .ge 125, 3) := by decide +kernel
theorem dL_law_232 : decode cL_law 232 = .ok (.aload 8, 2) := by decide +kernel
theorem dL_law_234 : decode cL_law 234 = .ok (.iload 10, 2) := by decide +kernel
theorem dL_law_236 : decode cL_law 236 = .ok (.bipush 99, 2) := by decide +kernel
theorem dL_law_238 : decode cL_law 238 = .ok (.iastore, 1) := by decide +kernel
theorem dL_law_239 : decode cL_law 239 = .ok (.aload 6, 2) := by decide +kernel
theorem dL_law_241 : decode cL_law 241 = .ok (.iload 9, 2) := by decide +kernel
theorem dL_law_243 : decode cL_law 243 = .ok (.aaload, 1) := by decide +kernel
theorem dL_law_244 : decode cL_law 244 = .ok (.iload 10, 2) := by decide +kernel
theorem dL_law_246 : decode cL_law 246 = .ok (.iload 5, 2) := by decide +kernel
theorem dL_law_248 : decode cL_law 248 = .ok (.iastore, 1) := by decide +kernel
theorem dL_law_249 : decode cL_law 249 = .ok (.aload_n 0, 1) := by decide +kernel
theorem dL_law_250 : decode cL_law 250 = .ok (.bipush 10, 2) := by decide +kernel
theorem dL_law_252 : decode cL_law 252 = .ok (.iconst 4, 1) := by decide +kernel
theorem dL_law_253 : decode cL_law 253 = .ok (.iload 9, 2) := by decide +kernel
theorem dL_law_255 : decode cL_law 255 = .ok (.imul, 1) := by decide +kernel
theorem dL_law_256 : decode cL_law 256 = .ok (.iadd, 1) := by decide +kernel
theorem dL_law_257 : decode cL_law 257 = .ok (.iload 10, 2) := by decide +kernel
theorem dL_law_259 : decode cL_law 259 = .ok (.iadd, 1) := by decide +kernel
theorem dL_law_260 : decode cL_law 260 = .ok (.iconst 2, 1) := by decide +kernel
theorem dL_law_261 : decode cL_law 261 = .ok (.invokestatic 104, 3) := by decide +kernel
theorem dL_law_264 : decode cL_law 264 = .ok (.ifCond .ne 84, 3) := by decide +kernel
theorem dL_law_267 : decode cL_law 267 = .ok (.aload 6, 2) := by decide +kernel
theorem dL_law_269 : decode cL_law 269 = .ok (.iload 9, 2) := by decide +kernel
theorem dL_law_271 : decode cL_law 271 = .ok (.aaload, 1) := by decide +kernel
theorem dL_law_272 : decode cL_law 272 = .ok (.iload 10, 2) := by decide +kernel
theorem dL_law_274 : decode cL_law 274 = .ok (.bipush 20, 2) := by decide +kernel
theorem dL_law_276 : decode cL_law 276 = .ok (.aload_n 0, 1) := by decide +kernel
theorem dL_law_277 : decode cL_law 277 = .ok (.bipush 30, 2) := by decide +kernel
theorem dL_law_279 : decode cL_law 279 = .ok (.iconst 4, 1) := by decide +kernel
theorem dL_law_280 : decode cL_law 280 = .ok (.iload 9, 2) := by decide +kernel
theorem dL_law_282 : decode cL_law 282 = .ok (.imul, 1) := by decide +kernel
theorem dL_law_283 : decode cL_law 283 = .ok (.iadd, 1) := by decide +kernel
theorem dL_law_284 : decode cL_law 284 = .ok (.iload 10, 2) := by decide +kernel
theorem dL_law_286 : decode cL_law 286 = .ok (.iadd, 1) := by decide +kernel
theorem dL_law_287 : decode cL_law 287 = .ok (.bipush 80, 2) := by decide +kernel
theorem dL_law_289 : decode cL_law 289 = .ok (.invokestatic 104, 3) := by decide +kernel
theorem dL_law_292 : decode cL_law 292 = .ok (.iadd, 1) := by decide +kernel
theorem dL_law_293 : decode cL_law 293 = .ok (.iastore, 1) := by decide +kernel
theorem dL_law_294 : decode cL_law 294 = .ok (.iload 4, 2) := by decide +kernel
theorem dL_law_296 : decode cL_law 296 = .ok (.aload_n 1, 1) := by decide +kernel
theorem dL_law_297 : decode cL_law 297 = .ok (.iconst 0, 1) := by decide +kernel
theorem dL_law_298 : decode cL_law 298 = .ok (.bipush 10, 2) := by decide +kernel
theorem dL_law_300 : decode cL_law 300 = .ok (.iload 9, 2) := by decide +kernel
theorem dL_law_302 : decode cL_law 302 = .ok (.imul, 1) := by decide +kernel
theorem dL_law_303 : decode cL_law 303 = .ok (.iload 10, 2) := by decide +kernel
theorem dL_law_305 : decode cL_law 305 = .ok (.iadd, 1) := by decide +kernel
theorem dL_law_306 : decode cL_law 306 = .ok (.aload 6, 2) := by decide +kernel
theorem dL_law_308 : decode cL_law 308 = .ok (.iload 9, 2) := by decide +kernel
theorem dL_law_310 : decode cL_law 310 = .ok (.aaload, 1) := by decide +kernel
theorem dL_law_311 : decode cL_law 311 = .ok (.iload 10, 2) := by decide +kernel
theorem dL_law_313 : decode cL_law 313 = .ok (.iaload, 1) := by decide +kernel
theorem dL_law_314 : decode cL_law 314 = .ok (.iconst 1, 1) := by decide +kernel
theorem dL_law_315 : decode cL_law 315 = .ok (.aload_n 0, 1) := by decide +kernel
theorem dL_law_316 : decode cL_law 316 = .ok (.bipush 50, 2) := by decide +kernel
theorem dL_law_318 : decode cL_law 318 = .ok (.iconst 4, 1) := by decide +kernel
theorem dL_law_319 : decode cL_law 319 = .ok (.iload 9, 2) := by decide +kernel
theorem dL_law_321 : decode cL_law 321 = .ok (.imul, 1) := by decide +kernel
theorem dL_law_322 : decode cL_law 322 = .ok (.iadd, 1) := by decide +kernel
theorem dL_law_323 : decode cL_law 323 = .ok (.iload 10, 2) := by decide +kernel
theorem dL_law_325 : decode cL_law 325 = .ok (.iadd, 1) := by decide +kernel
theorem dL_law_326 : decode cL_law 326 = .ok (.bipush 9, 2) := by decide +kernel
theorem dL_law_328 : decode cL_law 328 = .ok (.invokestatic 104, 3) := by decide +kernel
theorem dL_law_331 : decode cL_law 331 = .ok (.iadd, 1) := by decide +kernel
theorem dL_law_332 : decode cL_law 332 = .ok (.invokestatic 126, 3) := by decide +kernel
theorem dL_law_335 : decode cL_law 335 = .ok (.iload 5, 2) := by decide +kernel
theorem dL_law_337 : decode cL_law 337 = .ok (.if_icmp .ne 7, 3) := by decide +kernel
theorem dL_law_340 : decode cL_law 340 = .ok (.iconst 1, 1) := by decide +kernel
theorem dL_law_341 : decode cL_law 341 = .ok (.goto 4, 3) := by decide +kernel
theorem dL_law_344 : decode cL_law 344 = .ok (.iconst 0, 1) := by decide +kernel
theorem dL_law_345 : decode cL_law 345 = .ok (.iand, 1) := by decide +kernel
theorem dL_law_346 : decode cL_law 346 = .ok (.istore 4, 2) := by decide +kernel
theorem dL_law_348 : decode cL_law 348 = .ok (.iinc 10 1, 3) := by decide +kernel
theorem dL_law_351 : decode cL_law 351 = .ok (.goto (-125), 3) := by decide +kernel
theorem dL_law_354 : decode cL_law 354 = .ok (.iinc 9 1, 3) := by decide +kernel
theorem dL_law_357 : decode cL_law 357 = .ok (.goto (-147), 3) := by decide +kernel
theorem dL_law_360 : decode cL_law 360 = .ok (.iload 4, 2) := by decide +kernel
theorem dL_law_362 : decode cL_law 362 = .ok (.aload_n 1, 1) := by decide +kernel
theorem dL_law_363 : decode cL_law 363 = .ok (.iconst 0, 1) := by decide +kernel
theorem dL_law_364 : decode cL_law 364 = .ok (.invokestatic 98, 3) := by decide +kernel
theorem dL_law_367 : decode cL_law 367 = .ok (.iconst 2, 1) := by decide +kernel
theorem dL_law_368 : decode cL_law 368 = .ok (.if_icmp .ne 21, 3) := by decide +kernel
theorem dL_law_371 : decode cL_law 371 = .ok (.aload_n 1, 1) := by decide +kernel
theorem dL_law_372 : decode cL_law 372 = .ok (.iconst 0, 1) := by decide +kernel
theorem dL_law_373 : decode cL_law 373 = .ok (.iconst 0, 1) := by decide +kernel
theorem dL_law_374 : decode cL_law 374 = .ok (.bipush 50, 2) := by decide +kernel
theorem dL_law_376 : decode cL_law 376 = .ok (.iconst 5, 1) := by decide +kernel
theorem dL_law_377 : decode cL_law 377 = .ok (.invokestatic 126, 3) := by decide +kernel
theorem dL_law_380 : decode cL_law 380 = .ok (.ldc 28, 2) := by decide +kernel
theorem dL_law_382 : decode cL_law 382 = .ok (.if_icmp .ne 7, 3) := by decide +kernel
theorem dL_law_385 : decode cL_law 385 = .ok (.iconst 1, 1) := by decide +kernel
theorem dL_law_386 : decode cL_law 386 = .ok (.goto 4, 3) := by decide +kernel
theorem dL_law_389 : decode cL_law 389 = .ok (.iconst 0, 1) := by decide +kernel
theorem dL_law_390 : decode cL_law 390 = .ok (.iand, 1) := by decide +kernel
theorem dL_law_391 : decode cL_law 391 = .ok (.istore 4, 2) := by decide +kernel
theorem dL_law_393 : decode cL_law 393 = .ok (.iconst 5, 1) := by decide +kernel
theorem dL_law_394 : decode cL_law 394 = .ok (.iload_n 2, 1) := by decide +kernel
theorem dL_law_395 : decode cL_law 395 = .ok (.imul, 1) := by decide +kernel
theorem dL_law_396 : decode cL_law 396 = .ok (.iload_n 3, 1) := by decide +kernel
theorem dL_law_397 : decode cL_law 397 = .ok (.imul, 1) := by decide +kernel
theorem dL_law_398 : decode cL_law 398 = .ok (.istore 9, 2) := by decide +kernel
theorem dL_law_400 : decode cL_law 400 = .ok (.iconst 2, 1) := by decide +kernel
theorem dL_law_401 : decode cL_law 401 = .ok (.istore 10, 2) := by decide +kernel
theorem dL_law_403 : decode cL_law 403 = .ok (.aload_n 0, 1) := by decide +kernel
theorem dL_law_404 : decode cL_law 404 = .ok (.iconst 4, 1) := by decide +kernel
theorem dL_law_405 : decode cL_law 405 = .ok (.iconst 2, 1) := by decide +kernel
theorem dL_law_406 : decode cL_law 406 = .ok (.invokestatic 104, 3) := by decide +kernel
theorem dL_law_409 : decode cL_law 409 = .ok (.ifCond .ne 7, 3) := by decide +kernel
theorem dL_law_412 : decode cL_law 412 = .ok (.iconst 1, 1) := by decide +kernel
theorem dL_law_413 : decode cL_law 413 = .ok (.goto 4, 3) := by decide +kernel
theorem dL_law_416 : decode cL_law 416 = .ok (.iconst 0, 1) := by decide +kernel
theorem dL_law_417 : decode cL_law 417 = .ok (.istore 11, 2) := by decide +kernel
theorem dL_law_419 : decode cL_law 419 = .ok (.iload 11, 2) := by decide +kernel
theorem dL_law_421 : decode cL_law 421 = .ok (.ifCond .eq 415, 3) := by decide +kernel
theorem dL_law_424 : decode cL_law 424 = .ok (.iload 4, 2) := by decide +kernel
theorem dL_law_426 : decode cL_law 426 = .ok (.aload_n 1, 1) := by decide +kernel
theorem dL_law_427 : decode cL_law 427 = .ok (.iconst 0, 1) := by decide +kernel
theorem dL_law_428 : decode cL_law 428 = .ok (.invokestatic 129, 3) := by decide +kernel
theorem dL_law_431 : decode cL_law 431 = .ok (.iconst 2, 1) := by decide +kernel
theorem dL_law_432 : decode cL_law 432 = .ok (.if_icmp .ne 7, 3) := by decide +kernel
theorem dL_law_435 : decode cL_law 435 = .ok (.iconst 1, 1) := by decide +kernel
theorem dL_law_436 : decode cL_law 436 = .ok (.goto 4, 3) := by decide +kernel
theorem dL_law_439 : decode cL_law 439 = .ok (.iconst 0, 1) := by decide +kernel
theorem dL_law_440 : decode cL_law 440 = .ok (.iand, 1) := by decide +kernel
theorem dL_law_441 : decode cL_law 441 = .ok (.istore 4, 2) := by decide +kernel
theorem dL_law_443 : decode cL_law 443 = .ok (.iconst 0, 1) := by decide +kernel
theorem dL_law_444 : decode cL_law 444 = .ok (.istore 12, 2) := by decide +kernel
theorem dL_law_446 : decode cL_law 446 = .ok (.iload 12, 2) := by decide +kernel
theorem dL_law_448 : decode cL_law 448 = .ok (.iconst 4, 1) := by decide +kernel
theorem dL_law_449 : decode cL_law 449 = .ok (.if_icmp .ge 337, 3) := by decide +kernel
theorem dL_law_452 : decode cL_law 452 = .ok (.aload_n 0, 1) := by decide +kernel
theorem dL_law_453 : decode cL_law 453 = .ok (.bipush 70, 2) := by decide +kernel
theorem dL_law_455 : decode cL_law 455 = .ok (.iload 12, 2) := by decide +kernel
theorem dL_law_457 : decode cL_law 457 = .ok (.iadd, 1) := by decide +kernel
theorem dL_law_458 : decode cL_law 458 = .ok (.iconst 2, 1) := by decide +kernel
theorem dL_law_459 : decode cL_law 459 = .ok (.invokestatic 104, 3) := by decide +kernel
theorem dL_law_462 : decode cL_law 462 = .ok (.ifCond .ne 7, 3) := by decide +kernel
theorem dL_law_465 : decode cL_law 465 = .ok (.iconst 1, 1) := by decide +kernel
theorem dL_law_466 : decode cL_law 466 = .ok (.goto 4, 3) := by decide +kernel
theorem dL_law_469 : decode cL_law 469 = .ok (.iconst 0, 1) := by decide +kernel
theorem dL_law_470 : decode cL_law 470 = .ok (.istore 13, 2) := by decide +kernel
theorem dL_law_472 : decode cL_law 472 = .ok (.aload_n 0, 1) := by decide +kernel
theorem dL_law_473 : decode cL_law 473 = .ok (.bipush 74, 2) := by decide +kernel
theorem dL_law_475 : decode cL_law 475 = .ok (.iload 12, 2) := by decide +kernel
theorem dL_law_477 : decode cL_law 477 = .ok (.iadd, 1) := by decide +kernel
theorem dL_law_478 : decode cL_law 478 = .ok (.iload 13, 2) := by decide +kernel
theorem dL_law_480 : decode cL_law 480 = .ok (.ifCond .eq 7, 3) := by decide +kernel
theorem dL_law_483 : decode cL_law 483 = .ok (.iload_n 2, 1) := by decide +kernel
theorem dL_law_484 : decode cL_law 484 = .ok (.goto 4, 3) := by decide +kernel
theorem dL_law_487 : decode cL_law 487 = .ok (.iload_n 3, 1) := by decide +kernel
theorem dL_law_488 : decode cL_law 488 = .ok (.invokestatic 104, 3) := by decide +kernel
theorem dL_law_491 : decode cL_law 491 = .ok (.istore 14, 2) := by decide +kernel
theorem dL_law_493 : decode cL_law 493 = .ok (.bipush 10, 2) := by decide +kernel
theorem dL_law_495 : decode cL_law 495 = .ok (.aload_n 0, 1) := by decide +kernel
theorem dL_law_496 : decode cL_law 496 = .ok (.bipush 78, 2) := by decide +kernel
theorem dL_law_498 : decode cL_law 498 = .ok (.iload 12, 2) := by decide +kernel
theorem dL_law_500 : decode cL_law 500 = .ok (.iadd, 1) := by decide +kernel
theorem dL_law_501 : decode cL_law 501 = .ok (.bipush 90, 2) := by decide +kernel
theorem dL_law_503 : decode cL_law 503 = .ok (.invokestatic 104, 3) := by decide +kernel
theorem dL_law_506 : decode cL_law 506 = .ok (.iadd, 1) := by decide +kernel
theorem dL_law_507 : decode cL_law 507 = .ok (.istore 15, 2) := by decide +kernel
theorem dL_law_509 : decode cL_law 509 = .ok (.iconst 0, 1) := by decide +kernel
theorem dL_law_510 : decode cL_law 510 = .ok (.istore 16, 2) := by decide +kernel
theorem dL_law_512 : decode cL_law 512 = .ok (.iconst 0, 1) := by decide +kernel
theorem dL_law_513 : decode cL_law 513 = .ok (.istore 17, 2) := by decide +kernel
theorem dL_law_515 : decode cL_law 515 = .ok (.iload 17, 2) := by decide +kernel
theorem dL_law_517 : decode cL_law 517 = .ok (.iload_n 2, 1) := by decide +kernel
theorem dL_law_518 : decode cL_law 518 = .ok (.if_icmp .ge 169, 3) := by decide +kernel
theorem dL_law_521 : decode cL_law 521 = .ok (.iconst 0, 1) := by decide +kernel
theorem dL_law_522 : decode cL_law 522 = .ok (.istore 18, 2) := by decide +kernel
theorem dL_law_524 : decode cL_law 524 = .ok (.iload 18, 2) := by decide +kernel
theorem dL_law_526 : decode cL_law 526 = .ok (.iload_n 3, 1) := by decide +kernel
theorem dL_law_527 : decode cL_law 527 = .ok (.if_icmp .ge 154, 3) := by decide +kernel
theorem dL_law_530 : decode cL_law 530 = .ok (.iload 13, 2) := by decide +kernel
theorem dL_law_532 : decode cL_law 532 = .ok (.ifCond .eq 11, 3) := by decide +kernel
theorem dL_law_535 : decode cL_law 535 = .ok (.aload 8, 2) := by decide +kernel
theorem dL_law_537 : decode cL_law 537 = .ok (.iload 18, 2) := by decide +kernel
theorem dL_law_539 : decode cL_law 539 = .ok (.iaload, 1) := by decide +kernel
theorem dL_law_540 : decode cL_law 540 = .ok (.goto 8, 3) := by decide +kernel
theorem dL_law_543 : decode cL_law 543 = .ok (.aload 7, 2) := by decide +kernel
theorem dL_law_545 : decode cL_law 545 = .ok (.iload 17, 2) := by decide +kernel
theorem dL_law_547 : decode cL_law 547 = .ok (.iaload, 1) := by decide +kernel
theorem dL_law_548 : decode cL_law 548 = .ok (.istore 19, 2) := by decide +kernel
theorem dL_law_550 : decode cL_law 550 = .ok (.iload 13, 2) := by decide +kernel
theorem dL_law_552 : decode cL_law 552 = .ok (.ifCond .eq 11, 3) := by decide +kernel
theorem dL_law_555 : decode cL_law 555 = .ok (.aload 7, 2) := by decide +kernel
theorem dL_law_557 : decode cL_law 557 = .ok (.iload 17, 2) := by decide +kernel
theorem dL_law_559 : decode cL_law 559 = .ok (.iaload, 1) := by decide +kernel
theorem dL_law_560 : decode cL_law 560 = .ok (.goto 8, 3) := by decide +kernel
theorem dL_law_563 : decode cL_law 563 = .ok (.aload 8, 2) := by decide +kernel
theorem dL_law_565 : decode cL_law 565 = .ok (.iload 18, 2) := by decide +kernel
theorem dL_law_567 : decode cL_law 567 = .ok (.iaload, 1) := by decide +kernel
theorem dL_law_568 : decode cL_law 568 = .ok (.istore 20, 2) := by decide +kernel
theorem dL_law_570 : decode cL_law 570 = .ok (.aload 6, 2) := by decide +kernel
theorem dL_law_572 : decode cL_law 572 = .ok (.iload 17, 2) := by decide +kernel
theorem dL_law_574 : decode cL_law 574 = .ok (.aaload, 1) := by decide +kernel
theorem dL_law_575 : decode cL_law 575 = .ok (.iload 18, 2) := by decide +kernel
theorem dL_law_577 : decode cL_law 577 = .ok (.iaload, 1) := by decide +kernel
theorem dL_law_578 : decode cL_law 578 = .ok (.iload 19, 2) := by decide +kernel
theorem dL_law_580 : decode cL_law 580 = .ok (.if_icmp .ge 14, 3) := by decide +kernel
theorem dL_law_583 : decode cL_law 583 = .ok (.aload 6, 2) := by decide +kernel
theorem dL_law_585 : decode cL_law 585 = .ok (.iload 17, 2) := by decide +kernel
theorem dL_law_587 : decode cL_law 587 = .ok (.aaload, 1) := by decide +kernel
theorem dL_law_588 : decode cL_law 588 = .ok (.iload 18, 2) := by decide +kernel
theorem dL_law_590 : decode cL_law 590 = .ok (.iaload, 1) := by decide +kernel
theorem dL_law_591 : decode cL_law 591 = .ok (.goto 5, 3) := by decide +kernel
theorem dL_law_594 : decode cL_law 594 = .ok (.iload 19, 2) := by decide +kernel
theorem dL_law_596 : decode cL_law 596 = .ok (.istore 21, 2) := by decide +kernel
theorem dL_law_598 : decode cL_law 598 = .ok (.iload 13, 2) := by decide +kernel
theorem dL_law_600 : decode cL_law 600 = .ok (.ifCond .eq 18, 3) := by decide +kernel
theorem dL_law_603 : decode cL_law 603 = .ok (.iload 17, 2) := by decide +kernel
theorem dL_law_605 : decode cL_law 605 = .ok (.iload 14, 2) := by decide +kernel
theorem dL_law_607 : decode cL_law 607 = .ok (.if_icmp .ne 7, 3) := by decide +kernel
theorem dL_law_610 : decode cL_law 610 = .ok (.iconst 1, 1) := by decide +kernel
theorem dL_law_611 : decode cL_law 611 = .ok (.goto 19, 3) := by decide +kernel
theorem dL_law_614 : decode cL_law 614 = .ok (.iconst 0, 1) := by decide +kernel
theorem dL_law_615 : decode cL_law 615 = .ok (.goto 15, 3) := by decide +kernel
theorem dL_law_618 : decode cL_law 618 = .ok (.iload 18, 2) := by decide +kernel
theorem dL_law_620 : decode cL_law 620 = .ok (.iload 14, 2) := by decide +kernel
theorem dL_law_622 : decode cL_law 622 = .ok (.if_icmp .ne 7, 3) := by decide +kernel
theorem dL_law_625 : decode cL_law 625 = .ok (.iconst 1, 1) := by decide +kernel
theorem dL_law_626 : decode cL_law 626 = .ok (.goto 4, 3) := by decide +kernel
theorem dL_law_629 : decode cL_law 629 = .ok (.iconst 0, 1) := by decide +kernel
theorem dL_law_630 : decode cL_law 630 = .ok (.istore 22, 2) := by decide +kernel
theorem dL_law_632 : decode cL_law 632 = .ok (.iload 16, 2) := by decide +kernel
theorem dL_law_634 : decode cL_law 634 = .ok (.iload 22, 2) := by decide +kernel
theorem dL_law_636 : decode cL_law 636 = .ok (.ifCond .eq 35, 3) := by decide +kernel
theorem dL_law_639 : decode cL_law 639 = .ok (.iload 21, 2) := by decide +kernel
theorem dL_law_641 : decode cL_law 641 = .ok (.iload 15, 2) := by decide +kernel
theorem dL_law_643 : decode cL_law 643 = .ok (.if_icmp .ge 8, 3) := by decide +kernel
theorem dL_law_646 : decode cL_law 646 = .ok (.iload 21, 2) := by decide +kernel
theorem dL_law_648 : decode cL_law 648 = .ok (.goto 5, 3) := by decide +kernel
theorem dL_law_651 : decode cL_law 651 = .ok (.iload 15, 2) := by decide +kernel
theorem dL_law_653 : decode cL_law 653 = .ok (.iload 21, 2) := by decide +kernel
theorem dL_law_655 : decode cL_law 655 = .ok (.iload 20, 2) := by decide +kernel
theorem dL_law_657 : decode cL_law 657 = .ok (.if_icmp .ge 8, 3) := by decide +kernel
theorem dL_law_660 : decode cL_law 660 = .ok (.iload 21, 2) := by decide +kernel
theorem dL_law_662 : decode cL_law 662 = .ok (.goto 5, 3) := by decide +kernel
theorem dL_law_665 : decode cL_law 665 = .ok (.iload 20, 2) := by decide +kernel
theorem dL_law_667 : decode cL_law 667 = .ok (.isub, 1) := by decide +kernel
theorem dL_law_668 : decode cL_law 668 = .ok (.goto 4, 3) := by decide +kernel
theorem dL_law_671 : decode cL_law 671 = .ok (.iconst 0, 1) := by decide +kernel
theorem dL_law_672 : decode cL_law 672 = .ok (.iadd, 1) := by decide +kernel
theorem dL_law_673 : decode cL_law 673 = .ok (.istore 16, 2) := by decide +kernel
theorem dL_law_675 : decode cL_law 675 = .ok (.iinc 18 1, 3) := by decide +kernel
theorem dL_law_678 : decode cL_law 678 = .ok (.goto (-154), 3) := by decide +kernel
theorem dL_law_681 : decode cL_law 681 = .ok (.iinc 17 1, 3) := by decide +kernel
theorem dL_law_684 : decode cL_law 684 = .ok (.goto (-169), 3) := by decide +kernel
theorem dL_law_687 : decode cL_law 687 = .ok (.aload 7, 2) := by decide +kernel
theorem dL_law_689 : decode cL_law 689 = .ok (.iload 13, 2) := by decide +kernel
theorem dL_law_691 : decode cL_law 691 = .ok (.ifCond .eq 8, 3) := by decide +kernel
theorem dL_law_694 : decode cL_law 694 = .ok (.iload 14, 2) := by decide +kernel
theorem dL_law_696 : decode cL_law 696 = .ok (.goto 4, 3) := by decide +kernel
theorem dL_law_699 : decode cL_law 699 = .ok (.iconst 0, 1) := by decide +kernel
theorem dL_law_700 : decode cL_law 700 = .ok (.iload 13, 2) := by decide +kernel
theorem dL_law_702 : decode cL_law 702 = .ok (.ifCond .eq 8, 3) := by decide +kernel
theorem dL_law_705 : decode cL_law 705 = .ok (.iload 15, 2) := by decide +kernel
theorem dL_law_707 : decode cL_law 707 = .ok (.goto 7, 3) := by decide +kernel
theorem dL_law_710 : decode cL_law 710 = .ok (.aload 7, 2) := by decide +kernel
theorem dL_law_712 : decode cL_law 712 = .ok (.iconst 0, 1) := by decide +kernel
theorem dL_law_713 : decode cL_law 713 = .ok (.iaload, 1) := by decide +kernel
theorem dL_law_714 : decode cL_law 714 = .ok (.iastore, 1) := by decide +kernel
theorem dL_law_715 : decode cL_law 715 = .ok (.aload 8, 2) := by decide +kernel
theorem dL_law_717 : decode cL_law 717 = .ok (.iload 13, 2) := by decide +kernel
theorem dL_law_719 : decode cL_law 719 = .ok (.ifCond .eq 7, 3) := by decide +kernel
theorem dL_law_722 : decode cL_law 722 = .ok (.iconst 0, 1) := by decide +kernel
theorem dL_law_723 : decode cL_law 723 = .ok (.goto 5, 3) := by decide +kernel
theorem dL_law_726 : decode cL_law 726 = .ok (.iload 14, 2) := by decide +kernel
theorem dL_law_728 : decode cL_law 728 = .ok (.iload 13, 2) := by decide +kernel
theorem dL_law_730 : decode cL_law 730 = .ok (.ifCond .eq 10, 3) := by decide +kernel
theorem dL_law_733 : decode cL_law 733 = .ok (.aload 8, 2) := by decide +kernel
theorem dL_law_735 : decode cL_law 735 = .ok (.iconst 0, 1) := by decide +kernel
theorem dL_law_736 : decode cL_law 736 = .ok (.iaload, 1) := by decide +kernel
theorem dL_law_737 : decode cL_law 737 = .ok (.goto 5, 3) := by decide +kernel
theorem dL_law_740 : decode cL_law 740 = .ok (.iload 15, 2) := by decide +kernel
theorem dL_law_742 : decode cL_law 742 = .ok (.iastore, 1) := by decide +kernel
theorem dL_law_743 : decode cL_law 743 = .ok (.iload 4, 2) := by decide +kernel
theorem dL_law_745 : decode cL_law 745 = .ok (.aload_n 1, 1) := by decide +kernel
theorem dL_law_746 : decode cL_law 746 = .ok (.iconst 0, 1) := by decide +kernel
theorem dL_law_747 : decode cL_law 747 = .ok (.iload 13, 2) := by decide +kernel
theorem dL_law_749 : decode cL_law 749 = .ok (.iload 14, 2) := by decide +kernel
theorem dL_law_751 : decode cL_law 751 = .ok (.iload 15, 2) := by decide +kernel
theorem dL_law_753 : decode cL_law 753 = .ok (.invokestatic 131, 3) := by decide +kernel
theorem dL_law_756 : decode cL_law 756 = .ok (.iload 16, 2) := by decide +kernel
theorem dL_law_758 : decode cL_law 758 = .ok (.ifCond .ge 9, 3) := by decide +kernel
theorem dL_law_761 : decode cL_law 761 = .ok (.iload 16, 2) := by decide +kernel
theorem dL_law_763 : decode cL_law 763 = .ok (.ineg, 1) := by decide +kernel
theorem dL_law_764 : decode cL_law 764 = .ok (.goto 5, 3) := by decide +kernel
theorem dL_law_767 : decode cL_law 767 = .ok (.iload 16, 2) := by decide +kernel
theorem dL_law_769 : decode cL_law 769 = .ok (.if_icmp .ne 7, 3) := by decide +kernel
theorem dL_law_772 : decode cL_law 772 = .ok (.iconst 1, 1) := by decide +kernel
theorem dL_law_773 : decode cL_law 773 = .ok (.goto 4, 3) := by decide +kernel
theorem dL_law_776 : decode cL_law 776 = .ok (.iconst 0, 1) := by decide +kernel
theorem dL_law_777 : decode cL_law 777 = .ok (.iand, 1) := by decide +kernel
theorem dL_law_778 : decode cL_law 778 = .ok (.istore 4, 2) := by decide +kernel
theorem dL_law_780 : decode cL_law 780 = .ok (.iinc 12 1, 3) := by decide +kernel
theorem dL_law_783 : decode cL_law 783 = .ok (.goto (-337), 3) := by decide +kernel
theorem dL_law_786 : decode cL_law 786 = .ok (.iload 4, 2) := by decide +kernel
theorem dL_law_788 : decode cL_law 788 = .ok (.aload_n 1, 1) := by decide +kernel
theorem dL_law_789 : decode cL_law 789 = .ok (.iconst 0, 1) := by decide +kernel
theorem dL_law_790 : decode cL_law 790 = .ok (.iconst 1, 1) := by decide +kernel
theorem dL_law_791 : decode cL_law 791 = .ok (.iload_n 2, 1) := by decide +kernel
theorem dL_law_792 : decode cL_law 792 = .ok (.bipush 50, 2) := by decide +kernel
theorem dL_law_794 : decode cL_law 794 = .ok (.invokestatic 131, 3) := by decide +kernel
theorem dL_law_797 : decode cL_law 797 = .ok (.ldc 17, 2) := by decide +kernel
theorem dL_law_799 : decode cL_law 799 = .ok (.if_icmp .ne 30, 3) := by decide +kernel
theorem dL_law_802 : decode cL_law 802 = .ok (.aload_n 1, 1) := by decide +kernel
theorem dL_law_803 : decode cL_law 803 = .ok (.iconst 0, 1) := by decide +kernel
theorem dL_law_804 : decode cL_law 804 = .ok (.invokestatic 98, 3) := by decide +kernel
theorem dL_law_807 : decode cL_law 807 = .ok (.iconst 3, 1) := by decide +kernel
theorem dL_law_808 : decode cL_law 808 = .ok (.if_icmp .ne 21, 3) := by decide +kernel
theorem dL_law_811 : decode cL_law 811 = .ok (.aload_n 1, 1) := by decide +kernel
theorem dL_law_812 : decode cL_law 812 = .ok (.iconst 0, 1) := by decide +kernel
theorem dL_law_813 : decode cL_law 813 = .ok (.iconst 1, 1) := by decide +kernel
theorem dL_law_814 : decode cL_law 814 = .ok (.iconst 0, 1) := by decide +kernel
theorem dL_law_815 : decode cL_law 815 = .ok (.bipush 50, 2) := by decide +kernel
theorem dL_law_817 : decode cL_law 817 = .ok (.invokestatic 131, 3) := by decide +kernel
theorem dL_law_820 : decode cL_law 820 = .ok (.ldc 28, 2) := by decide +kernel
theorem dL_law_822 : decode cL_law 822 = .ok (.if_icmp .ne 7, 3) := by decide +kernel
theorem dL_law_825 : decode cL_law 825 = .ok (.iconst 1, 1) := by decide +kernel
theorem dL_law_826 : decode cL_law 826 = .ok (.goto 4, 3) := by decide +kernel
theorem dL_law_829 : decode cL_law 829 = .ok (.iconst 0, 1) := by decide +kernel
theorem dL_law_830 : decode cL_law 830 = .ok (.iand, 1) := by decide +kernel
theorem dL_law_831 : decode cL_law 831 = .ok (.istore 4, 2) := by decide +kernel
theorem dL_law_833 : decode cL_law 833 = .ok (.iconst 3, 1) := by decide +kernel
theorem dL_law_834 : decode cL_law 834 = .ok (.istore 10, 2) := by decide +kernel
theorem dL_law_836 : decode cL_law 836 = .ok (.iconst 0, 1) := by decide +kernel
theorem dL_law_837 : decode cL_law 837 = .ok (.istore 12, 2) := by decide +kernel
theorem dL_law_839 : decode cL_law 839 = .ok (.iload 12, 2) := by decide +kernel
theorem dL_law_841 : decode cL_law 841 = .ok (.iload_n 2, 1) := by decide +kernel
theorem dL_law_842 : decode cL_law 842 = .ok (.if_icmp .ge 29, 3) := by decide +kernel
theorem dL_law_845 : decode cL_law 845 = .ok (.iload 9, 2) := by decide +kernel
theorem dL_law_847 : decode cL_law 847 = .ok (.aload 7, 2) := by decide +kernel
theorem dL_law_849 : decode cL_law 849 = .ok (.iload 12, 2) := by decide +kernel
theorem dL_law_851 : decode cL_law 851 = .ok (.iaload, 1) := by decide +kernel
theorem dL_law_852 : decode cL_law 852 = .ok (.bipush 99, 2) := by decide +kernel
theorem dL_law_854 : decode cL_law 854 = .ok (.if_icmp .ge 7, 3) := by decide +kernel
theorem dL_law_857 : decode cL_law 857 = .ok (.iconst 2, 1) := by decide +kernel
theorem dL_law_858 : decode cL_law 858 = .ok (.goto 4, 3) := by decide +kernel
theorem dL_law_861 : decode cL_law 861 = .ok (.iconst 0, 1) := by decide +kernel
theorem dL_law_862 : decode cL_law 862 = .ok (.iadd, 1) := by decide +kernel
theorem dL_law_863 : decode cL_law 863 = .ok (.istore 9, 2) := by decide +kernel
theorem dL_law_865 : decode cL_law 865 = .ok (.iinc 12 1, 3) := by decide +kernel
theorem dL_law_868 : decode cL_law 868 = .ok (.goto (-29), 3) := by decide +kernel
theorem dL_law_871 : decode cL_law 871 = .ok (.iconst 0, 1) := by decide +kernel
theorem dL_law_872 : decode cL_law 872 = .ok (.istore 12, 2) := by decide +kernel
theorem dL_law_874 : decode cL_law 874 = .ok (.iload 12, 2) := by decide +kernel
theorem dL_law_876 : decode cL_law 876 = .ok (.iload_n 3, 1) := by decide +kernel
theorem dL_law_877 : decode cL_law 877 = .ok (.if_icmp .ge 29, 3) := by decide +kernel
theorem dL_law_880 : decode cL_law 880 = .ok (.iload 9, 2) := by decide +kernel
theorem dL_law_882 : decode cL_law 882 = .ok (.aload 8, 2) := by decide +kernel
theorem dL_law_884 : decode cL_law 884 = .ok (.iload 12, 2) := by decide +kernel
theorem dL_law_886 : decode cL_law 886 = .ok (.iaload, 1) := by decide +kernel
theorem dL_law_887 : decode cL_law 887 = .ok (.bipush 99, 2) := by decide +kernel
theorem dL_law_889 : decode cL_law 889 = .ok (.if_icmp .ge 7, 3) := by decide +kernel
theorem dL_law_892 : decode cL_law 892 = .ok (.iconst 2, 1) := by decide +kernel
theorem dL_law_893 : decode cL_law 893 = .ok (.goto 4, 3) := by decide +kernel
theorem dL_law_896 : decode cL_law 896 = .ok (.iconst 0, 1) := by decide +kernel
theorem dL_law_897 : decode cL_law 897 = .ok (.iadd, 1) := by decide +kernel
theorem dL_law_898 : decode cL_law 898 = .ok (.istore 9, 2) := by decide +kernel
theorem dL_law_900 : decode cL_law 900 = .ok (.iinc 12 1, 3) := by decide +kernel
theorem dL_law_903 : decode cL_law 903 = .ok (.goto (-29), 3) := by decide +kernel
theorem dL_law_906 : decode cL_law 906 = .ok (.iconst 1, 1) := by decide +kernel
theorem dL_law_907 : decode cL_law 907 = .ok (.aload_n 0, 1) := by decide +kernel
theorem dL_law_908 : decode cL_law 908 = .ok (.iconst 5, 1) := by decide +kernel
theorem dL_law_909 : decode cL_law 909 = .ok (.iconst 4, 1) := by decide +kernel
theorem dL_law_910 : decode cL_law 910 = .ok (.invokestatic 104, 3) := by decide +kernel
theorem dL_law_913 : decode cL_law 913 = .ok (.iadd, 1) := by decide +kernel
theorem dL_law_914 : decode cL_law 914 = .ok (.istore 12, 2) := by decide +kernel
theorem dL_law_916 : decode cL_law 916 = .ok (.iload 12, 2) := by decide +kernel
theorem dL_law_918 : decode cL_law 918 = .ok (.newarray .char, 2) := by decide +kernel
theorem dL_law_920 : decode cL_law 920 = .ok (.astore 13, 2) := by decide +kernel
theorem dL_law_922 : decode cL_law 922 = .ok (.iload 12, 2) := by decide +kernel
theorem dL_law_924 : decode cL_law 924 = .ok (.newarray .int, 2) := by decide +kernel
theorem dL_law_926 : decode cL_law 926 = .ok (.astore 14, 2) := by decide +kernel
theorem dL_law_928 : decode cL_law 928 = .ok (.iload 12, 2) := by decide +kernel
theorem dL_law_930 : decode cL_law 930 = .ok (.newarray .int, 2) := by decide +kernel
theorem dL_law_932 : decode cL_law 932 = .ok (.astore 15, 2) := by decide +kernel
theorem dL_law_934 : decode cL_law 934 = .ok (.iload 4, 2) := by decide +kernel
theorem dL_law_936 : decode cL_law 936 = .ok (.aload_n 1, 1) := by decide +kernel
theorem dL_law_937 : decode cL_law 937 = .ok (.iconst 0, 1) := by decide +kernel
theorem dL_law_938 : decode cL_law 938 = .ok (.iconst 0, 1) := by decide +kernel
theorem dL_law_939 : decode cL_law 939 = .ok (.iconst 0, 1) := by decide +kernel
theorem dL_law_940 : decode cL_law 940 = .ok (.invokestatic 134, 3) := by decide +kernel
theorem dL_law_943 : decode cL_law 943 = .ok (.ldc 17, 2) := by decide +kernel
theorem dL_law_945 : decode cL_law 945 = .ok (.if_icmp .ne 17, 3) := by decide +kernel
theorem dL_law_948 : decode cL_law 948 = .ok (.aload_n 1, 1) := by decide +kernel
theorem dL_law_949 : decode cL_law 949 = .ok (.iconst 0, 1) := by decide +kernel
theorem dL_law_950 : decode cL_law 950 = .ok (.invokestatic 136, 3) := by decide +kernel
theorem dL_law_953 : decode cL_law 953 = .ok (.ldc 20, 2) := by decide +kernel
theorem dL_law_955 : decode cL_law 955 = .ok (.if_icmp .ne 7, 3) := by decide +kernel
theorem dL_law_958 : decode cL_law 958 = .ok (.iconst 1, 1) := by decide +kernel
theorem dL_law_959 : decode cL_law 959 = .ok (.goto 4, 3) := by decide +kernel
theorem dL_law_962 : decode cL_law 962 = .ok (.iconst 0, 1) := by decide +kernel
theorem dL_law_963 : decode cL_law 963 = .ok (.iand, 1) := by decide +kernel
theorem dL_law_964 : decode cL_law 964 = .ok (.istore 4, 2) := by decide +kernel
theorem dL_law_966 : decode cL_law 966 = .ok (.iconst 0, 1) := by decide +kernel
theorem dL_law_967 : decode cL_law 967 = .ok (.istore 16, 2) := by decide +kernel
theorem dL_law_969 : decode cL_law 969 = .ok (.iload 16, 2) := by decide +kernel
theorem dL_law_971 : decode cL_law 971 = .ok (.iload 12, 2) := by decide +kernel
theorem dL_law_973 : decode cL_law 973 = .ok (.if_icmp .ge 157, 3) := by decide +kernel
theorem dL_law_976 : decode cL_law 976 = .ok (.aload_n 0, 1) := by decide +kernel
theorem dL_law_977 : decode cL_law 977 = .ok (.bipush 90, 2) := by decide +kernel
theorem dL_law_979 : decode cL_law 979 = .ok (.iload 16, 2) := by decide +kernel
theorem dL_law_981 : decode cL_law 981 = .ok (.iadd, 1) := by decide +kernel
theorem dL_law_982 : decode cL_law 982 = .ok (.iconst 3, 1) := by decide +kernel
theorem dL_law_983 : decode cL_law 983 = .ok (.invokestatic 104, 3) := by decide +kernel
theorem dL_law_986 : decode cL_law 986 = .ok (.istore 17, 2) := by decide +kernel
theorem dL_law_988 : decode cL_law 988 = .ok (.aload 13, 2) := by decide +kernel
theorem dL_law_990 : decode cL_law 990 = .ok (.iload 16, 2) := by decide +kernel
theorem dL_law_992 : decode cL_law 992 = .ok (.iload 17, 2) := by decide +kernel
theorem dL_law_994 : decode cL_law 994 = .ok (.ifCond .ne 8, 3) := by decide +kernel
theorem dL_law_997 : decode cL_law 997 = .ok (.bipush 104, 2) := by decide +kernel
theorem dL_law_999 : decode cL_law 999 = .ok (.goto 16, 3) := by decide +kernel
theorem dL_law_1002 : decode cL_law 1002 = .ok (.iload 17, 2) := by decide +kernel
theorem dL_law_1004 : decode cL_law 1004 = .ok (.iconst 1, 1) := by decide +kernel
theorem dL_law_1005 : decode cL_law 1005 = .ok (.if_icmp .ne 8, 3) := by decide +kernel
theorem dL_law_1008 : decode cL_law 1008 = .ok (.bipush 102, 2) := by decide +kernel
theorem dL_law_1010 : decode cL_law 1010 = .ok (.goto 5, 3) := by decide +kernel
theorem dL_law_1013 : decode cL_law 1013 = .ok (.bipush 100, 2) := by decide +kernel
theorem dL_law_1015 : decode cL_law 1015 = .ok (.castore, 1) := by decide +kernel
theorem dL_law_1016 : decode cL_law 1016 = .ok (.aload 14, 2) := by decide +kernel
theorem dL_law_1018 : decode cL_law 1018 = .ok (.iload 16, 2) := by decide +kernel
theorem dL_law_1020 : decode cL_law 1020 = .ok (.iconst 5, 1) := by decide +kernel
theorem dL_law_1021 : decode cL_law 1021 = .ok (.aload_n 0, 1) := by decide +kernel
theorem dL_law_1022 : decode cL_law 1022 = .ok (.bipush 94, 2) := by decide +kernel
theorem dL_law_1024 : decode cL_law 1024 = .ok (.iload 16, 2) := by decide +kernel
theorem dL_law_1026 : decode cL_law 1026 = .ok (.iadd, 1) := by decide +kernel
theorem dL_law_1027 : decode cL_law 1027 = .ok (.bipush 56, 2) := by decide +kernel
theorem dL_law_1029 : decode cL_law 1029 = .ok (.invokestatic 104, 3) := by decide +kernel
theorem dL_law_1032 : decode cL_law 1032 = .ok (.iadd, 1) := by decide +kernel
theorem dL_law_1033 : decode cL_law 1033 = .ok (.iastore, 1) := by decide +kernel
theorem dL_law_1034 : decode cL_law 1034 = .ok (.aload 15, 2) := by decide +kernel
theorem dL_law_1036 : decode cL_law 1036 = .ok (.iload 16, 2) := by decide +kernel
theorem dL_law_1038 : decode cL_law 1038 = .ok (.iconst 1, 1) := by decide +kernel
theorem dL_law_1039 : decode cL_law 1039 = .ok (.aload_n 0, 1) := by decide +kernel
theorem dL_law_1040 : decode cL_law 1040 = .ok (.bipush 98, 2) := by decide +kernel
theorem dL_law_1042 : decode cL_law 1042 = .ok (.iload 16, 2) := by decide +kernel
theorem dL_law_1044 : decode cL_law 1044 = .ok (.iadd, 1) := by decide +kernel
theorem dL_law_1045 : decode cL_law 1045 = .ok (.bipush 9, 2) := by decide +kernel
theorem dL_law_1047 : decode cL_law 1047 = .ok (.invokestatic 104, 3) := by decide +kernel
theorem dL_law_1050 : decode cL_law 1050 = .ok (.iadd, 1) := by decide +kernel
theorem dL_law_1051 : decode cL_law 1051 = .ok (.iastore, 1) := by decide +kernel
theorem dL_law_1052 : decode cL_law 1052 = .ok (.iload 9, 2) := by decide +kernel
theorem dL_law_1054 : decode cL_law 1054 = .ok (.aload 14, 2) := by decide +kernel
theorem dL_law_1056 : decode cL_law 1056 = .ok (.iload 16, 2) := by decide +kernel
theorem dL_law_1058 : decode cL_law 1058 = .ok (.iaload, 1) := by decide +kernel
theorem dL_law_1059 : decode cL_law 1059 = .ok (.iconst 3, 1) := by decide +kernel
theorem dL_law_1060 : decode cL_law 1060 = .ok (.iload 17, 2) := by decide +kernel
theorem dL_law_1062 : decode cL_law 1062 = .ok (.isub, 1) := by decide +kernel
theorem dL_law_1063 : decode cL_law 1063 = .ok (.imul, 1) := by decide +kernel
theorem dL_law_1064 : decode cL_law 1064 = .ok (.iadd, 1) := by decide +kernel
theorem dL_law_1065 : decode cL_law 1065 = .ok (.istore 9, 2) := by decide +kernel
theorem dL_law_1067 : decode cL_law 1067 = .ok (.iload 4, 2) := by decide +kernel
theorem dL_law_1069 : decode cL_law 1069 = .ok (.aload_n 1, 1) := by decide +kernel
theorem dL_law_1070 : decode cL_law 1070 = .ok (.aload_n 1, 1) := by decide +kernel
theorem dL_law_1071 : decode cL_law 1071 = .ok (.iconst 0, 1) := by decide +kernel
theorem dL_law_1072 : decode cL_law 1072 = .ok (.aload 13, 2) := by decide +kernel
theorem dL_law_1074 : decode cL_law 1074 = .ok (.iload 16, 2) := by decide +kernel
theorem dL_law_1076 : decode cL_law 1076 = .ok (.caload, 1) := by decide +kernel
theorem dL_law_1077 : decode cL_law 1077 = .ok (.aload 14, 2) := by decide +kernel
theorem dL_law_1079 : decode cL_law 1079 = .ok (.iload 16, 2) := by decide +kernel
theorem dL_law_1081 : decode cL_law 1081 = .ok (.iaload, 1) := by decide +kernel
theorem dL_law_1082 : decode cL_law 1082 = .ok (.aload 15, 2) := by decide +kernel
theorem dL_law_1084 : decode cL_law 1084 = .ok (.iload 16, 2) := by decide +kernel
theorem dL_law_1086 : decode cL_law 1086 = .ok (.iaload, 1) := by decide +kernel
theorem dL_law_1087 : decode cL_law 1087 = .ok (.invokestatic 138, 3) := by decide +kernel
theorem dL_law_1090 : decode cL_law 1090 = .ok (.iload 10, 2) := by decide +kernel
theorem dL_law_1092 : decode cL_law 1092 = .ok (.invokestatic 120, 3) := by decide +kernel
theorem dL_law_1095 : decode cL_law 1095 = .ok (.ifCond .eq 22, 3) := by decide +kernel
theorem dL_law_1098 : decode cL_law 1098 = .ok (.aload_n 1, 1) := by decide +kernel
theorem dL_law_1099 : decode cL_law 1099 = .ok (.iconst 0, 1) := by decide +kernel
theorem dL_law_1100 : decode cL_law 1100 = .ok (.iload 16, 2) := by decide +kernel
theorem dL_law_1102 : decode cL_law 1102 = .ok (.invokestatic 141, 3) := by decide +kernel
theorem dL_law_1105 : decode cL_law 1105 = .ok (.aload 14, 2) := by decide +kernel
theorem dL_law_1107 : decode cL_law 1107 = .ok (.iload 16, 2) := by decide +kernel
theorem dL_law_1109 : decode cL_law 1109 = .ok (.iaload, 1) := by decide +kernel
theorem dL_law_1110 : decode cL_law 1110 = .ok (.if_icmp .ne 7, 3) := by decide +kernel
theorem dL_law_1113 : decode cL_law 1113 = .ok (.iconst 1, 1) := by decide +kernel
theorem dL_law_1114 : decode cL_law 1114 = .ok (.goto 4, 3) := by decide +kernel
theorem dL_law_1117 : decode cL_law 1117 = .ok (.iconst 0, 1) := by decide +kernel
theorem dL_law_1118 : decode cL_law 1118 = .ok (.iand, 1) := by decide +kernel
theorem dL_law_1119 : decode cL_law 1119 = .ok (.istore 4, 2) := by decide +kernel
theorem dL_law_1121 : decode cL_law 1121 = .ok (.iinc 10 1, 3) := by decide +kernel
theorem dL_law_1124 : decode cL_law 1124 = .ok (.iinc 16 1, 3) := by decide +kernel
theorem dL_law_1127 : decode cL_law 1127 = .ok (.goto (-158), 3) := by decide +kernel
theorem dL_law_1130 : decode cL_law 1130 = .ok (.iload 4, 2) := by decide +kernel
theorem dL_law_1132 : decode cL_law 1132 = .ok (.aload_n 1, 1) := by decide +kernel
theorem dL_law_1133 : decode cL_law 1133 = .ok (.iconst 0, 1) := by decide +kernel
theorem dL_law_1134 : decode cL_law 1134 = .ok (.iload 12, 2) := by decide +kernel
theorem dL_law_1136 : decode cL_law 1136 = .ok (.invokestatic 141, 3) := by decide +kernel
theorem dL_law_1139 : decode cL_law 1139 = .ok (.ldc 20, 2) := by decide +kernel
theorem dL_law_1141 : decode cL_law 1141 = .ok (.if_icmp .ne 37, 3) := by decide +kernel
theorem dL_law_1144 : decode cL_law 1144 = .ok (.iload 12, 2) := by decide +kernel
theorem dL_law_1146 : decode cL_law 1146 = .ok (.iconst 4, 1) := by decide +kernel
theorem dL_law_1147 : decode cL_law 1147 = .ok (.if_icmp .lt 17, 3) := by decide +kernel
theorem dL_law_1150 : decode cL_law 1150 = .ok (.aload_n 1, 1) := by decide +kernel
theorem dL_law_1151 : decode cL_law 1151 = .ok (.iconst 0, 1) := by decide +kernel
theorem dL_law_1152 : decode cL_law 1152 = .ok (.bipush 104, 2) := by decide +kernel
theorem dL_law_1154 : decode cL_law 1154 = .ok (.iconst 5, 1) := by decide +kernel
theorem dL_law_1155 : decode cL_law 1155 = .ok (.iconst 1, 1) := by decide +kernel
theorem dL_law_1156 : decode cL_law 1156 = .ok (.invokestatic 138, 3) := by decide +kernel
theorem dL_law_1159 : decode cL_law 1159 = .ok (.ldc 28, 2) := by decide +kernel
theorem dL_law_1161 : decode cL_law 1161 = .ok (.if_icmp .ne 17, 3) := by decide +kernel
theorem dL_law_1164 : decode cL_law 1164 = .ok (.aload_n 1, 1) := by decide +kernel
theorem dL_law_1165 : decode cL_law 1165 = .ok (.iconst 0, 1) := by decide +kernel
theorem dL_law_1166 : decode cL_law 1166 = .ok (.invokestatic 136, 3) := by decide +kernel
theorem dL_law_1169 : decode cL_law 1169 = .ok (.iload 10, 2) := by decide +kernel
theorem dL_law_1171 : decode cL_law 1171 = .ok (.if_icmp .ne 7, 3) := by decide +kernel
theorem dL_law_1174 : decode cL_law 1174 = .ok (.iconst 1, 1) := by decide +kernel
theorem dL_law_1175 : decode cL_law 1175 = .ok (.goto 4, 3) := by decide +kernel
theorem dL_law_1178 : decode cL_law 1178 = .ok (.iconst 0, 1) := by decide +kernel
theorem dL_law_1179 : decode cL_law 1179 = .ok (.iand, 1) := by decide +kernel
theorem dL_law_1180 : decode cL_law 1180 = .ok (.istore 4, 2) := by decide +kernel
theorem dL_law_1182 : decode cL_law 1182 = .ok (.iload_n 2, 1) := by decide +kernel
theorem dL_law_1183 : decode cL_law 1183 = .ok (.iload_n 3, 1) := by decide +kernel
theorem dL_law_1184 : decode cL_law 1184 = .ok (.multianewarray 124 2, 4) := by decide +kernel
theorem dL_law_1188 : decode cL_law 1188 = .ok (.astore 16, 2) := by decide +kernel
theorem dL_law_1190 : decode cL_law 1190 = .ok (.iconst 0, 1) := by decide +kernel
theorem dL_law_1191 : decode cL_law 1191 = .ok (.istore 17, 2) := by decide +kernel
theorem dL_law_1193 : decode cL_law 1193 = .ok (.iconst 0, 1) := by decide +kernel
theorem dL_law_1194 : decode cL_law 1194 = .ok (.istore 18, 2) := by decide +kernel
theorem dL_law_1196 : decode cL_law 1196 = .ok (.iload 18, 2) := by decide +kernel
theorem dL_law_1198 : decode cL_law 1198 = .ok (.bipush 6, 2) := by decide +kernel
theorem dL_law_1200 : decode cL_law 1200 = .ok (.if_icmp .ge 111, 3) := by decide +kernel
theorem dL_law_1203 : decode cL_law 1203 = .ok (.aload_n 0, 1) := by decide +kernel
theorem dL_law_1204 : decode cL_law 1204 = .ok (.bipush 102, 2) := by decide +kernel
theorem dL_law_1206 : decode cL_law 1206 = .ok (.iload 18, 2) := by decide +kernel
theorem dL_law_1208 : decode cL_law 1208 = .ok (.iadd, 1) := by decide +kernel
theorem dL_law_1209 : decode cL_law 1209 = .ok (.iload_n 2, 1) := by decide +kernel
theorem dL_law_1210 : decode cL_law 1210 = .ok (.invokestatic 104, 3) := by decide +kernel
theorem dL_law_1213 : decode cL_law 1213 = .ok (.istore 19, 2) := by decide +kernel
theorem dL_law_1215 : decode cL_law 1215 = .ok (.aload_n 0, 1) := by decide +kernel
theorem dL_law_1216 : decode cL_law 1216 = .ok (.bipush 108, 2) := by decide +kernel
theorem dL_law_1218 : decode cL_law 1218 = .ok (.iload 18, 2) := by decide +kernel
theorem dL_law_1220 : decode cL_law 1220 = .ok (.iadd, 1) := by decide +kernel
theorem dL_law_1221 : decode cL_law 1221 = .ok (.iload_n 3, 1) := by decide +kernel
theorem dL_law_1222 : decode cL_law 1222 = .ok (.invokestatic 104, 3) := by decide +kernel
theorem dL_law_1225 : decode cL_law 1225 = .ok (.istore 20, 2) := by decide +kernel
theorem dL_law_1227 : decode cL_law 1227 = .ok (.iload 17, 2) := by decide +kernel
theorem dL_law_1229 : decode cL_law 1229 = .ok (.aload 16, 2) := by decide +kernel
theorem dL_law_1231 : decode cL_law 1231 = .ok (.iload 19, 2) := by decide +kernel
theorem dL_law_1233 : decode cL_law 1233 = .ok (.aaload, 1) := by decide +kernel
theorem dL_law_1234 : decode cL_law 1234 = .ok (.iload 20, 2) := by decide +kernel
theorem dL_law_1236 : decode cL_law 1236 = .ok (.iaload, 1) := by decide +kernel
theorem dL_law_1237 : decode cL_law 1237 = .ok (.ifCond .ne 7, 3) := by decide +kernel
theorem dL_law_1240 : decode cL_law 1240 = .ok (.iconst 1, 1) := by decide +kernel
theorem dL_law_1241 : decode cL_law 1241 = .ok (.goto 4, 3) := by decide +kernel
theorem dL_law_1244 : decode cL_law 1244 = .ok (.iconst 0, 1) := by decide +kernel
theorem dL_law_1245 : decode cL_law 1245 = .ok (.iadd, 1) := by decide +kernel
theorem dL_law_1246 : decode cL_law 1246 = .ok (.istore 17, 2) := by decide +kernel
theorem dL_law_1248 : decode cL_law 1248 = .ok (.aload 16, 2) := by decide +kernel
theorem dL_law_1250 : decode cL_law 1250 = .ok (.iload 19, 2) := by decide +kernel
theorem dL_law_1252 : decode cL_law 1252 = .ok (.aaload, 1) := by decide +kernel
theorem dL_law_1253 : decode cL_law 1253 = .ok (.iload 20, 2) := by decide +kernel
theorem dL_law_1255 : decode cL_law 1255 = .ok (.iconst 1, 1) := by decide +kernel
theorem dL_law_1256 : decode cL_law 1256 = .ok (.aload_n 0, 1) := by decide +kernel
theorem dL_law_1257 : decode cL_law 1257 = .ok (.bipush 114, 2) := by decide +kernel
theorem dL_law_1259 : decode cL_law 1259 = .ok (.iload 18, 2) := by decide +kernel
theorem dL_law_1261 : decode cL_law 1261 = .ok (.iadd, 1) := by decide +kernel
theorem dL_law_1262 : decode cL_law 1262 = .ok (.bipush 30, 2) := by decide +kernel
theorem dL_law_1264 : decode cL_law 1264 = .ok (.invokestatic 104, 3) := by decide +kernel
theorem dL_law_1267 : decode cL_law 1267 = .ok (.iadd, 1) := by decide +kernel
theorem dL_law_1268 : decode cL_law 1268 = .ok (.iastore, 1) := by decide +kernel
theorem dL_law_1269 : decode cL_law 1269 = .ok (.iload 4, 2) := by decide +kernel
theorem dL_law_1271 : decode cL_law 1271 = .ok (.aload_n 1, 1) := by decide +kernel
theorem dL_law_1272 : decode cL_law 1272 = .ok (.iconst 0, 1) := by decide +kernel
theorem dL_law_1273 : decode cL_law 1273 = .ok (.bipush 10, 2) := by decide +kernel
theorem dL_law_1275 : decode cL_law 1275 = .ok (.iload 19, 2) := by decide +kernel
theorem dL_law_1277 : decode cL_law 1277 = .ok (.imul, 1) := by decide +kernel
theorem dL_law_1278 : decode cL_law 1278 = .ok (.iload 20, 2) := by decide +kernel
theorem dL_law_1280 : decode cL_law 1280 = .ok (.iadd, 1) := by decide +kernel
theorem dL_law_1281 : decode cL_law 1281 = .ok (.aload 16, 2) := by decide +kernel
theorem dL_law_1283 : decode cL_law 1283 = .ok (.iload 19, 2) := by decide +kernel
theorem dL_law_1285 : decode cL_law 1285 = .ok (.aaload, 1) := by decide +kernel
theorem dL_law_1286 : decode cL_law 1286 = .ok (.iload 20, 2) := by decide +kernel
theorem dL_law_1288 : decode cL_law 1288 = .ok (.iaload, 1) := by decide +kernel
theorem dL_law_1289 : decode cL_law 1289 = .ok (.invokestatic 143, 3) := by decide +kernel
theorem dL_law_1292 : decode cL_law 1292 = .ok (.iload 17, 2) := by decide +kernel
theorem dL_law_1294 : decode cL_law 1294 = .ok (.if_icmp .ne 7, 3) := by decide +kernel
theorem dL_law_1297 : decode cL_law 1297 = .ok (.iconst 1, 1) := by decide +kernel
theorem dL_law_1298 : decode cL_law 1298 = .ok (.goto 4, 3) := by decide +kernel
theorem dL_law_1301 : decode cL_law 1301 = .ok (.iconst 0, 1) := by decide +kernel
theorem dL_law_1302 : decode cL_law 1302 = .ok (.iand, 1) := by decide +kernel
theorem dL_law_1303 : decode cL_law 1303 = .ok (.istore 4, 2) := by decide +kernel
theorem dL_law_1305 : decode cL_law 1305 = .ok (.iinc 18 1, 3) := by decide +kernel
theorem dL_law_1308 : decode cL_law 1308 = .ok (.goto (-112), 3) := by decide +kernel
theorem dL_law_1311 : decode cL_law 1311 = .ok (.iload 9, 2) := by decide +kernel
theorem dL_law_1313 : decode cL_law 1313 = .ok (.iconst 4, 1) := by decide +kernel
theorem dL_law_1314 : decode cL_law 1314 = .ok (.iload 17, 2) := by decide +kernel
theorem dL_law_1316 : decode cL_law 1316 = .ok (.imul, 1) := by decide +kernel
theorem dL_law_1317 : decode cL_law 1317 = .ok (.iadd, 1) := by decide +kernel
theorem dL_law_1318 : decode cL_law 1318 = .ok (.istore 9, 2) := by decide +kernel
theorem dL_law_1320 : decode cL_law 1320 = .ok (.iconst 0, 1) := by decide +kernel
theorem dL_law_1321 : decode cL_law 1321 = .ok (.istore 18, 2) := by decide +kernel
theorem dL_law_1323 : decode cL_law 1323 = .ok (.iconst 0, 1) := by decide +kernel
theorem dL_law_1324 : decode cL_law 1324 = .ok (.istore 19, 2) := by decide +kernel
theorem dL_law_1326 : decode cL_law 1326 = .ok (.iconst 0, 1) := by decide +kernel
theorem dL_law_1327 : decode cL_law 1327 = .ok (.istore 20, 2) := by decide +kernel
theorem dL_law_1329 : decode cL_law 1329 = .ok (.iload 20, 2) := by decide +kernel
theorem dL_law_1331 : decode cL_law 1331 = .ok (.iconst 1, 1) := by decide +kernel
theorem dL_law_1332 : decode cL_law 1332 = .ok (.iadd, 1) := by decide +kernel
theorem dL_law_1333 : decode cL_law 1333 = .ok (.iload_n 2, 1) := by decide +kernel
theorem dL_law_1334 : decode cL_law 1334 = .ok (.if_icmp .ge 158, 3) := by decide +kernel
theorem dL_law_1337 : decode cL_law 1337 = .ok (.iconst 0, 1) := by decide +kernel
theorem dL_law_1338 : decode cL_law 1338 = .ok (.istore 21, 2) := by decide +kernel
theorem dL_law_1340 : decode cL_law 1340 = .ok (.iload 21, 2) := by decide +kernel
theorem dL_law_1342 : decode cL_law 1342 = .ok (.iload_n 3, 1) := by decide +kernel
theorem dL_law_1343 : decode cL_law 1343 = .ok (.if_icmp .ge 143, 3) := by decide +kernel
theorem dL_law_1346 : decode cL_law 1346 = .ok (.iconst (-1), 1) := by decide +kernel
theorem dL_law_1347 : decode cL_law 1347 = .ok (.istore 22, 2) := by decide +kernel
theorem dL_law_1349 : decode cL_law 1349 = .ok (.iload 22, 2) := by decide +kernel
theorem dL_law_1351 : decode cL_law 1351 = .ok (.iconst 2, 1) := by decide +kernel
theorem dL_law_1352 : decode cL_law 1352 = .ok (.if_icmp .ge 128, 3) := by decide +kernel
theorem dL_law_1355 : decode cL_law 1355 = .ok (.iload 21, 2) := by decide +kernel
theorem dL_law_1357 : decode cL_law 1357 = .ok (.iload 22, 2) := by decide +kernel
theorem dL_law_1359 : decode cL_law 1359 = .ok (.iadd, 1) := by decide +kernel
theorem dL_law_1360 : decode cL_law 1360 = .ok (.ifCond .lt 28, 3) := by decide +kernel
theorem dL_law_1363 : decode cL_law 1363 = .ok (.iload 21, 2) := by decide +kernel
theorem dL_law_1365 : decode cL_law 1365 = .ok (.iload 22, 2) := by decide +kernel
theorem dL_law_1367 : decode cL_law 1367 = .ok (.iadd, 1) := by decide +kernel
theorem dL_law_1368 : decode cL_law 1368 = .ok (.iload_n 3, 1) := by decide +kernel
theorem dL_law_1369 : decode cL_law 1369 = .ok (.if_icmp .ge 19, 3) := by decide +kernel
theorem dL_law_1372 : decode cL_law 1372 = .ok (.aload 16, 2) := by decide +kernel
theorem dL_law_1374 : decode cL_law 1374 = .ok (.iload 20, 2) := by decide +kernel
theorem dL_law_1376 : decode cL_law 1376 = .ok (.iconst 1, 1) := by decide +kernel
theorem dL_law_1377 : decode cL_law 1377 = .ok (.iadd, 1) := by decide +kernel
theorem dL_law_1378 : decode cL_law 1378 = .ok (.aaload, 1) := by decide +kernel
theorem dL_law_1379 : decode cL_law 1379 = .ok (.iload 21, 2) := by decide +kernel
theorem dL_law_1381 : decode cL_law 1381 = .ok (.iload 22, 2) := by decide +kernel
theorem dL_law_1383 : decode cL_law 1383 = .ok (.iadd, 1) := by decide +kernel
theorem dL_law_1384 : decode cL_law 1384 = .ok (.iaload, 1) := by decide +kernel
theorem dL_law_1385 : decode cL_law 1385 = .ok (.goto 4, 3) := by decide +kernel
theorem dL_law_1388 : decode cL_law 1388 = .ok (.iconst 0, 1) := by decide +kernel
theorem dL_law_1389 : decode cL_law 1389 = .ok (.istore 23, 2) := by decide +kernel
theorem dL_law_1391 : decode cL_law 1391 = .ok (.iload 23, 2) := by decide +kernel
theorem dL_law_1393 : decode cL_law 1393 = .ok (.ifCond .le 18, 3) := by decide +kernel
theorem dL_law_1396 : decode cL_law 1396 = .ok (.aload 16, 2) := by decide +kernel
theorem dL_law_1398 : decode cL_law 1398 = .ok (.iload 20, 2) := by decide +kernel
theorem dL_law_1400 : decode cL_law 1400 = .ok (.aaload, 1) := by decide +kernel
theorem dL_law_1401 : decode cL_law 1401 = .ok (.iload 21, 2) := by decide +kernel
theorem dL_law_1403 : decode cL_law 1403 = .ok (.iaload, 1) := by decide +kernel
theorem dL_law_1404 : decode cL_law 1404 = .ok (.ifCond .le 7, 3) := by decide +kernel
theorem dL_law_1407 : decode cL_law 1407 = .ok (.iconst 1, 1) := by decide +kernel
theorem dL_law_1408 : decode cL_law 1408 = .ok (.goto 4, 3) := by decide +kernel
theorem dL_law_1411 : decode cL_law 1411 = .ok (.iconst 0, 1) := by decide +kernel
theorem dL_law_1412 : decode cL_law 1412 = .ok (.istore 24, 2) := by decide +kernel
theorem dL_law_1414 : decode cL_law 1414 = .ok (.iload 18, 2) := by decide +kernel
theorem dL_law_1416 : decode cL_law 1416 = .ok (.iload 24, 2) := by decide +kernel
theorem dL_law_1418 : decode cL_law 1418 = .ok (.ifCond .eq 7, 3) := by decide +kernel
theorem dL_law_1421 : decode cL_law 1421 = .ok (.iconst 1, 1) := by decide +kernel
theorem dL_law_1422 : decode cL_law 1422 = .ok (.goto 4, 3) := by decide +kernel
theorem dL_law_1425 : decode cL_law 1425 = .ok (.iconst 0, 1) := by decide +kernel
theorem dL_law_1426 : decode cL_law 1426 = .ok (.iadd, 1) := by decide +kernel
theorem dL_law_1427 : decode cL_law 1427 = .ok (.istore 18, 2) := by decide +kernel
theorem dL_law_1429 : decode cL_law 1429 = .ok (.iload 19, 2) := by decide +kernel
theorem dL_law_1431 : decode cL_law 1431 = .ok (.iload 24, 2) := by decide +kernel
theorem dL_law_1433 : decode cL_law 1433 = .ok (.ifCond .eq 37, 3) := by decide +kernel
theorem dL_law_1436 : decode cL_law 1436 = .ok (.iload 23, 2) := by decide +kernel
theorem dL_law_1438 : decode cL_law 1438 = .ok (.aload 16, 2) := by decide +kernel
theorem dL_law_1440 : decode cL_law 1440 = .ok (.iload 20, 2) := by decide +kernel
theorem dL_law_1442 : decode cL_law 1442 = .ok (.aaload, 1) := by decide +kernel
theorem dL_law_1443 : decode cL_law 1443 = .ok (.iload 21, 2) := by decide +kernel
theorem dL_law_1445 : decode cL_law 1445 = .ok (.iaload, 1) := by decide +kernel
theorem dL_law_1446 : decode cL_law 1446 = .ok (.isub, 1) := by decide +kernel
theorem dL_law_1447 : decode cL_law 1447 = .ok (.iconst 3, 1) := by decide +kernel
theorem dL_law_1448 : decode cL_law 1448 = .ok (.if_icmp .gt 22, 3) := by decide +kernel
theorem dL_law_1451 : decode cL_law 1451 = .ok (.aload 16, 2) := by decide +kernel
theorem dL_law_1453 : decode cL_law 1453 = .ok (.iload 20, 2) := by decide +kernel
theorem dL_law_1455 : decode cL_law 1455 = .ok (.aaload, 1) := by decide +kernel
theorem dL_law_1456 : decode cL_law 1456 = .ok (.iload 21, 2) := by decide +kernel
theorem dL_law_1458 : decode cL_law 1458 = .ok (.iaload, 1) := by decide +kernel
theorem dL_law_1459 : decode cL_law 1459 = .ok (.iload 23, 2) := by decide +kernel
theorem dL_law_1461 : decode cL_law 1461 = .ok (.isub, 1) := by decide +kernel
theorem dL_law_1462 : decode cL_law 1462 = .ok (.iconst 3, 1) := by decide +kernel
theorem dL_law_1463 : decode cL_law 1463 = .ok (.if_icmp .gt 7, 3) := by decide +kernel
theorem dL_law_1466 : decode cL_law 1466 = .ok (.iconst 1, 1) := by decide +kernel
theorem dL_law_1467 : decode cL_law 1467 = .ok (.goto 4, 3) := by decide +kernel
theorem dL_law_1470 : decode cL_law 1470 = .ok (.iconst 0, 1) := by decide +kernel
theorem dL_law_1471 : decode cL_law 1471 = .ok (.iadd, 1) := by decide +kernel
theorem dL_law_1472 : decode cL_law 1472 = .ok (.istore 19, 2) := by decide +kernel
theorem dL_law_1474 : decode cL_law 1474 = .ok (.iinc 22 2, 3) := by decide +kernel
theorem dL_law_1477 : decode cL_law 1477 = .ok (.goto (-128), 3) := by decide +kernel
theorem dL_law_1480 : decode cL_law 1480 = .ok (.iinc 21 1, 3) := by decide +kernel
theorem dL_law_1483 : decode cL_law 1483 = .ok (.goto (-143), 3) := by decide +kernel
theorem dL_law_1486 : decode cL_law 1486 = .ok (.iinc 20 1, 3) := by decide +kernel
theorem dL_law_1489 : decode cL_law 1489 = .ok (.goto (-160), 3) := by decide +kernel
theorem dL_law_1492 : decode cL_law 1492 = .ok (.iload 4, 2) := by decide +kernel
theorem dL_law_1494 : decode cL_law 1494 = .ok (.aload_n 1, 1) := by decide +kernel
theorem dL_law_1495 : decode cL_law 1495 = .ok (.iconst 0, 1) := by decide +kernel
theorem dL_law_1496 : decode cL_law 1496 = .ok (.iconst 0, 1) := by decide +kernel
theorem dL_law_1497 : decode cL_law 1497 = .ok (.invokevirtual 145, 3) := by decide +kernel
theorem dL_law_1500 : decode cL_law 1500 = .ok (.iload 18, 2) := by decide +kernel
theorem dL_law_1502 : decode cL_law 1502 = .ok (.if_icmp .ne 72, 3) := by decide +kernel
theorem dL_law_1505 : decode cL_law 1505 = .ok (.aload_n 1, 1) := by decide +kernel
theorem dL_law_1506 : decode cL_law 1506 = .ok (.iconst 0, 1) := by decide +kernel
theorem dL_law_1507 : decode cL_law 1507 = .ok (.iconst 1, 1) := by decide +kernel
theorem dL_law_1508 : decode cL_law 1508 = .ok (.invokevirtual 145, 3) := by decide +kernel
theorem dL_law_1511 : decode cL_law 1511 = .ok (.iload 19, 2) := by decide +kernel
theorem dL_law_1513 : decode cL_law 1513 = .ok (.if_icmp .ne 61, 3) := by decide +kernel
theorem dL_law_1516 : decode cL_law 1516 = .ok (.aload_n 1, 1) := by decide +kernel
theorem dL_law_1517 : decode cL_law 1517 = .ok (.iconst 0, 1) := by decide +kernel
theorem dL_law_1518 : decode cL_law 1518 = .ok (.invokestatic 98, 3) := by decide +kernel
theorem dL_law_1521 : decode cL_law 1521 = .ok (.iload 10, 2) := by decide +kernel
theorem dL_law_1523 : decode cL_law 1523 = .ok (.iconst 1, 1) := by decide +kernel
theorem dL_law_1524 : decode cL_law 1524 = .ok (.iadd, 1) := by decide +kernel
theorem dL_law_1525 : decode cL_law 1525 = .ok (.if_icmp .ne 49, 3) := by decide +kernel
theorem dL_law_1528 : decode cL_law 1528 = .ok (.aload_n 1, 1) := by decide +kernel
theorem dL_law_1529 : decode cL_law 1529 = .ok (.iconst 0, 1) := by decide +kernel
theorem dL_law_1530 : decode cL_law 1530 = .ok (.invokestatic 116, 3) := by decide +kernel
theorem dL_law_1533 : decode cL_law 1533 = .ok (.iload 9, 2) := by decide +kernel
theorem dL_law_1535 : decode cL_law 1535 = .ok (.if_icmp .ne 39, 3) := by decide +kernel
theorem dL_law_1538 : decode cL_law 1538 = .ok (.aload_n 1, 1) := by decide +kernel
theorem dL_law_1539 : decode cL_law 1539 = .ok (.iconst 0, 1) := by decide +kernel
theorem dL_law_1540 : decode cL_law 1540 = .ok (.iconst 1, 1) := by decide +kernel
theorem dL_law_1541 : decode cL_law 1541 = .ok (.invokestatic 149, 3) := by decide +kernel
theorem dL_law_1544 : decode cL_law 1544 = .ok (.ldc 28, 2) := by decide +kernel
theorem dL_law_1546 : decode cL_law 1546 = .ok (.if_icmp .ne 28, 3) := by decide +kernel
theorem dL_law_1549 : decode cL_law 1549 = .ok (.aload_n 1, 1) := by decide +kernel
theorem dL_law_1550 : decode cL_law 1550 = .ok (.iconst 0, 1) := by decide +kernel
theorem dL_law_1551 : decode cL_law 1551 = .ok (.invokestatic 151, 3) := by decide +kernel
theorem dL_law_1554 : decode cL_law 1554 = .ok (.ldc 20, 2) := by decide +kernel
theorem dL_law_1556 : decode cL_law 1556 = .ok (.if_icmp .ne 18, 3) := by decide +kernel
theorem dL_law_1559 : decode cL_law 1559 = .ok (.aload_n 1, 1) := by decide +kernel
theorem dL_law_1560 : decode cL_law 1560 = .ok (.sipush 2000, 3) := by decide +kernel
theorem dL_law_1563 : decode cL_law 1563 = .ok (.iconst 1, 1) := by decide +kernel
theorem dL_law_1564 : decode cL_law 1564 = .ok (.invokestatic 153, 3) := by decide +kernel
theorem dL_law_1567 : decode cL_law 1567 = .ok (.ifCond .ne 7, 3) := by decide +kernel
theorem dL_law_1570 : decode cL_law 1570 = .ok (.iconst 1, 1) := by decide +kernel
theorem dL_law_1571 : decode cL_law 1571 = .ok (.goto 4, 3) := by decide +kernel
theorem dL_law_1574 : decode cL_law 1574 = .ok (.iconst 0, 1) := by decide +kernel
theorem dL_law_1575 : decode cL_law 1575 = .ok (.iand, 1) := by decide +kernel
theorem dL_law_1576 : decode cL_law 1576 = .ok (.istore 4, 2) := by decide +kernel
theorem dL_law_1578 : decode cL_law 1578 = .ok (.iconst 0, 1) := by decide +kernel
theorem dL_law_1579 : decode cL_law 1579 = .ok (.istore 20, 2) := by decide +kernel
theorem dL_law_1581 : decode cL_law 1581 = .ok (.iconst 0, 1) := by decide +kernel
theorem dL_law_1582 : decode cL_law 1582 = .ok (.istore 21, 2) := by decide +kernel
theorem dL_law_1584 : decode cL_law 1584 = .ok (.aload_n 0, 1) := by decide +kernel
theorem dL_law_1585 : decode cL_law 1585 = .ok (.bipush 6, 2) := by decide +kernel
theorem dL_law_1587 : decode cL_law 1587 = .ok (.bipush 30, 2) := by decide +kernel
theorem dL_law_1589 : decode cL_law 1589 = .ok (.invokestatic 104, 3) := by decide +kernel
theorem dL_law_1592 : decode cL_law 1592 = .ok (.istore 22, 2) := by decide +kernel
theorem dL_law_1594 : decode cL_law 1594 = .ok (.iconst 0, 1) := by decide +kernel
theorem dL_law_1595 : decode cL_law 1595 = .ok (.istore 23, 2) := by decide +kernel
theorem dL_law_1597 : decode cL_law 1597 = .ok (.iload 23, 2) := by decide +kernel
theorem dL_law_1599 : decode cL_law 1599 = .ok (.iconst 4, 1) := by decide +kernel
theorem dL_law_1600 : decode cL_law 1600 = .ok (.if_icmp .ge 677, 3) := by decide +kernel
theorem dL_law_1603 : decode cL_law 1603 = .ok (.iconst 0, 1) := by decide +kernel
theorem dL_law_1604 : decode cL_law 1604 = .ok (.istore 24, 2) := by decide +kernel
theorem dL_law_1606 : decode cL_law 1606 = .ok (.iconst 0, 1) := by decide +kernel
theorem dL_law_1607 : decode cL_law 1607 = .ok (.istore 25, 2) := by decide +kernel
theorem dL_law_1609 : decode cL_law 1609 = .ok (.iconst 0, 1) := by decide +kernel
theorem dL_law_1610 : decode cL_law 1610 = .ok (.istore 26, 2) := by decide +kernel
theorem dL_law_1612 : decode cL_law 1612 = .ok (.iload 26, 2) := by decide +kernel
theorem dL_law_1614 : decode cL_law 1614 = .ok (.iload_n 2, 1) := by decide +kernel
theorem dL_law_1615 : decode cL_law 1615 = .ok (.if_icmp .ge 216, 3) := by decide +kernel
theorem dL_law_1618 : decode cL_law 1618 = .ok (.iconst 0, 1) := by decide +kernel
theorem dL_law_1619 : decode cL_law 1619 = .ok (.istore 27, 2) := by decide +kernel
theorem dL_law_1621 : decode cL_law 1621 = .ok (.iload 27, 2) := by decide +kernel
theorem dL_law_1623 : decode cL_law 1623 = .ok (.iload_n 3, 1) := by decide +kernel
theorem dL_law_1624 : decode cL_law 1624 = .ok (.if_icmp .ge 201, 3) := by decide +kernel
theorem dL_law_1627 : decode cL_law 1627 = .ok (.aload 6, 2) := by decide +kernel
theorem dL_law_1629 : decode cL_law 1629 = .ok (.iload 26, 2) := by decide +kernel
theorem dL_law_1631 : decode cL_law 1631 = .ok (.aaload, 1) := by decide +kernel
theorem dL_law_1632 : decode cL_law 1632 = .ok (.iload 27, 2) := by decide +kernel
theorem dL_law_1634 : decode cL_law 1634 = .ok (.iaload, 1) := by decide +kernel
theorem dL_law_1635 : decode cL_law 1635 = .ok (.aload 7, 2) := by decide +kernel
theorem dL_law_1637 : decode cL_law 1637 = .ok (.iload 26, 2) := by decide +kernel
theorem dL_law_1639 : decode cL_law 1639 = .ok (.iaload, 1) := by decide +kernel
theorem dL_law_1640 : decode cL_law 1640 = .ok (.if_icmp .ge 14, 3) := by decide +kernel
theorem dL_law_1643 : decode cL_law 1643 = .ok (.aload 6, 2) := by decide +kernel
theorem dL_law_1645 : decode cL_law 1645 = .ok (.iload 26, 2) := by decide +kernel
theorem dL_law_1647 : decode cL_law 1647 = .ok (.aaload, 1) := by decide +kernel
theorem dL_law_1648 : decode cL_law 1648 = .ok (.iload 27, 2) := by decide +kernel
theorem dL_law_1650 : decode cL_law 1650 = .ok (.iaload, 1) := by decide +kernel
theorem dL_law_1651 : decode cL_law 1651 = .ok (.goto 8, 3) := by decide +kernel
theorem dL_law_1654 : decode cL_law 1654 = .ok (.aload 7, 2) := by decide +kernel
theorem dL_law_1656 : decode cL_law 1656 = .ok (.iload 26, 2) := by decide +kernel
theorem dL_law_1658 : decode cL_law 1658 = .ok (.iaload, 1) := by decide +kernel
theorem dL_law_1659 : decode cL_law 1659 = .ok (.istore 28, 2) := by decide +kernel
theorem dL_law_1661 : decode cL_law 1661 = .ok (.aload 8, 2) := by decide +kernel
theorem dL_law_1663 : decode cL_law 1663 = .ok (.iload 27, 2) := by decide +kernel
theorem dL_law_1665 : decode cL_law 1665 = .ok (.iaload, 1) := by decide +kernel
theorem dL_law_1666 : decode cL_law 1666 = .ok (.iload 28, 2) := by decide +kernel
theorem dL_law_1668 : decode cL_law 1668 = .ok (.if_icmp .ge 11, 3) := by decide +kernel
theorem dL_law_1671 : decode cL_law 1671 = .ok (.aload 8, 2) := by decide +kernel
theorem dL_law_1673 : decode cL_law 1673 = .ok (.iload 27, 2) := by decide +kernel
theorem dL_law_1675 : decode cL_law 1675 = .ok (.iaload, 1) := by decide +kernel
theorem dL_law_1676 : decode cL_law 1676 = .ok (.goto 5, 3) := by decide +kernel
theorem dL_law_1679 : decode cL_law 1679 = .ok (.iload 28, 2) := by decide +kernel
theorem dL_law_1681 : decode cL_law 1681 = .ok (.istore 28, 2) := by decide +kernel
theorem dL_law_1683 : decode cL_law 1683 = .ok (.iload 28, 2) := by decide +kernel
theorem dL_law_1685 : decode cL_law 1685 = .ok (.aload 16, 2) := by decide +kernel
theorem dL_law_1687 : decode cL_law 1687 = .ok (.iload 26, 2) := by decide +kernel
theorem dL_law_1689 : decode cL_law 1689 = .ok (.aaload, 1) := by decide +kernel
theorem dL_law_1690 : decode cL_law 1690 = .ok (.iload 27, 2) := by decide +kernel
theorem dL_law_1692 : decode cL_law 1692 = .ok (.iaload, 1) := by decide +kernel
theorem dL_law_1693 : decode cL_law 1693 = .ok (.isub, 1) := by decide +kernel
theorem dL_law_1694 : decode cL_law 1694 = .ok (.istore 29, 2) := by decide +kernel
theorem dL_law_1696 : decode cL_law 1696 = .ok (.iconst 0, 1) := by decide +kernel
theorem dL_law_1697 : decode cL_law 1697 = .ok (.istore 30, 2) := by decide +kernel
theorem dL_law_1699 : decode cL_law 1699 = .ok (.iload 30, 2) := by decide +kernel
theorem dL_law_1701 : decode cL_law 1701 = .ok (.iload 12, 2) := by decide +kernel
theorem dL_law_1703 : decode cL_law 1703 = .ok (.if_icmp .ge 34, 3) := by decide +kernel
theorem dL_law_1706 : decode cL_law 1706 = .ok (.iload 29, 2) := by decide +kernel
theorem dL_law_1708 : decode cL_law 1708 = .ok (.aload 13, 2) := by decide +kernel
theorem dL_law_1710 : decode cL_law 1710 = .ok (.iload 30, 2) := by decide +kernel
theorem dL_law_1712 : decode cL_law 1712 = .ok (.caload, 1) := by decide +kernel
theorem dL_law_1713 : decode cL_law 1713 = .ok (.aload 14, 2) := by decide +kernel
theorem dL_law_1715 : decode cL_law 1715 = .ok (.iload 30, 2) := by decide +kernel
theorem dL_law_1717 : decode cL_law 1717 = .ok (.iaload, 1) := by decide +kernel
theorem dL_law_1718 : decode cL_law 1718 = .ok (.aload 15, 2) := by decide +kernel
theorem dL_law_1720 : decode cL_law 1720 = .ok (.iload 30, 2) := by decide +kernel
theorem dL_law_1722 : decode cL_law 1722 = .ok (.iaload, 1) := by decide +kernel
theorem dL_law_1723 : decode cL_law 1723 = .ok (.iload 20, 2) := by decide +kernel
theorem dL_law_1725 : decode cL_law 1725 = .ok (.invokestatic 155, 3) := by decide +kernel
theorem dL_law_1728 : decode cL_law 1728 = .ok (.iadd, 1) := by decide +kernel
theorem dL_law_1729 : decode cL_law 1729 = .ok (.istore 29, 2) := by decide +kernel
theorem dL_law_1731 : decode cL_law 1731 = .ok (.iinc 30 1, 3) := by decide +kernel
theorem dL_law_1734 : decode cL_law 1734 = .ok (.goto (-35), 3) := by decide +kernel
theorem dL_law_1737 : decode cL_law 1737 = .ok (.iload 29, 2) := by decide +kernel
theorem dL_law_1739 : decode cL_law 1739 = .ok (.ifCond .ge 7, 3) := by decide +kernel
theorem dL_law_1742 : decode cL_law 1742 = .ok (.iconst 0, 1) := by decide +kernel
theorem dL_law_1743 : decode cL_law 1743 = .ok (.goto 5, 3) := by decide +kernel
theorem dL_law_1746 : decode cL_law 1746 = .ok (.iload 29, 2) := by decide +kernel
theorem dL_law_1748 : decode cL_law 1748 = .ok (.istore 29, 2) := by decide +kernel
theorem dL_law_1750 : decode cL_law 1750 = .ok (.iload 4, 2) := by decide +kernel
theorem dL_law_1752 : decode cL_law 1752 = .ok (.aload_n 1, 1) := by decide +kernel
theorem dL_law_1753 : decode cL_law 1753 = .ok (.iconst 0, 1) := by decide +kernel
theorem dL_law_1754 : decode cL_law 1754 = .ok (.bipush 10, 2) := by decide +kernel
theorem dL_law_1756 : decode cL_law 1756 = .ok (.iload 26, 2) := by decide +kernel
theorem dL_law_1758 : decode cL_law 1758 = .ok (.imul, 1) := by decide +kernel
theorem dL_law_1759 : decode cL_law 1759 = .ok (.iload 27, 2) := by decide +kernel
theorem dL_law_1761 : decode cL_law 1761 = .ok (.iadd, 1) := by decide +kernel
theorem dL_law_1762 : decode cL_law 1762 = .ok (.invokestatic 111, 3) := by decide +kernel
theorem dL_law_1765 : decode cL_law 1765 = .ok (.iload 28, 2) := by decide +kernel
theorem dL_law_1767 : decode cL_law 1767 = .ok (.if_icmp .ne 25, 3) := by decide +kernel
theorem dL_law_1770 : decode cL_law 1770 = .ok (.aload_n 1, 1) := by decide +kernel
theorem dL_law_1771 : decode cL_law 1771 = .ok (.iconst 0, 1) := by decide +kernel
theorem dL_law_1772 : decode cL_law 1772 = .ok (.bipush 10, 2) := by decide +kernel
theorem dL_law_1774 : decode cL_law 1774 = .ok (.iload 26, 2) := by decide +kernel
theorem dL_law_1776 : decode cL_law 1776 = .ok (.imul, 1) := by decide +kernel
theorem dL_law_1777 : decode cL_law 1777 = .ok (.iload 27, 2) := by decide +kernel
theorem dL_law_1779 : decode cL_law 1779 = .ok (.iadd, 1) := by decide +kernel
theorem dL_law_1780 : decode cL_law 1780 = .ok (.invokestatic 159, 3) := by decide +kernel
theorem dL_law_1783 : decode cL_law 1783 = .ok (.iload 29, 2) := by decide +kernel
theorem dL_law_1785 : decode cL_law 1785 = .ok (.if_icmp .ne 7, 3) := by decide +kernel
theorem dL_law_1788 : decode cL_law 1788 = .ok (.iconst 1, 1) := by decide +kernel
theorem dL_law_1789 : decode cL_law 1789 = .ok (.goto 4, 3) := by decide +kernel
theorem dL_law_1792 : decode cL_law 1792 = .ok (.iconst 0, 1) := by decide +kernel
theorem dL_law_1793 : decode cL_law 1793 = .ok (.iand, 1) := by decide +kernel
theorem dL_law_1794 : decode cL_law 1794 = .ok (.istore 4, 2) := by decide +kernel
theorem dL_law_1796 : decode cL_law 1796 = .ok (.iload 24, 2) := by decide +kernel
theorem dL_law_1798 : decode cL_law 1798 = .ok (.iload 29, 2) := by decide +kernel
theorem dL_law_1800 : decode cL_law 1800 = .ok (.iadd, 1) := by decide +kernel
theorem dL_law_1801 : decode cL_law 1801 = .ok (.istore 24, 2) := by decide +kernel
theorem dL_law_1803 : decode cL_law 1803 = .ok (.iload 29, 2) := by decide +kernel
theorem dL_law_1805 : decode cL_law 1805 = .ok (.iload 25, 2) := by decide +kernel
theorem dL_law_1807 : decode cL_law 1807 = .ok (.if_icmp .le 8, 3) := by decide +kernel
theorem dL_law_1810 : decode cL_law 1810 = .ok (.iload 29, 2) := by decide +kernel
theorem dL_law_1812 : decode cL_law 1812 = .ok (.goto 5, 3) := by decide +kernel
theorem dL_law_1815 : decode cL_law 1815 = .ok (.iload 25, 2) := by decide +kernel
theorem dL_law_1817 : decode cL_law 1817 = .ok (.istore 25, 2) := by decide +kernel
theorem dL_law_1819 : decode cL_law 1819 = .ok (.iinc 27 1, 3) := by decide +kernel
theorem dL_law_1822 : decode cL_law 1822 = .ok (.goto (-201), 3) := by decide +kernel
theorem dL_law_1825 : decode cL_law 1825 = .ok (.iinc 26 1, 3) := by decide +kernel
theorem dL_law_1828 : decode cL_law 1828 = .ok (.goto (-216), 3) := by decide +kernel
theorem dL_law_1831 : decode cL_law 1831 = .ok (.iload 4, 2) := by decide +kernel
theorem dL_law_1833 : decode cL_law 1833 = .ok (.aload_n 1, 1) := by decide +kernel
theorem dL_law_1834 : decode cL_law 1834 = .ok (.iconst 0, 1) := by decide +kernel
theorem dL_law_1835 : decode cL_law 1835 = .ok (.invokevirtual 161, 3) := by decide +kernel
theorem dL_law_1838 : decode cL_law 1838 = .ok (.iload 24, 2) := by decide +kernel
theorem dL_law_1840 : decode cL_law 1840 = .ok (.i2d, 1) := by decide +kernel
theorem dL_law_1841 : decode cL_law 1841 = .ok (.iload_n 2, 1) := by decide +kernel
theorem dL_law_1842 : decode cL_law 1842 = .ok (.iload_n 3, 1) := by decide +kernel
theorem dL_law_1843 : decode cL_law 1843 = .ok (.imul, 1) := by decide +kernel
theorem dL_law_1844 : decode cL_law 1844 = .ok (.i2d, 1) := by decide +kernel
theorem dL_law_1845 : decode cL_law 1845 = .ok (.ddiv, 1) := by decide +kernel
theorem dL_law_1846 : decode cL_law 1846 = .ok (.dcmp .l, 1) := by decide +kernel
theorem dL_law_1847 : decode cL_law 1847 = .ok (.ifCond .ne 7, 3) := by decide +kernel
theorem dL_law_1850 : decode cL_law 1850 = .ok (.iconst 1, 1) := by decide +kernel
theorem dL_law_1851 : decode cL_law 1851 = .ok (.goto 4, 3) := by decide +kernel
theorem dL_law_1854 : decode cL_law 1854 = .ok (.iconst 0, 1) := by decide +kernel
theorem dL_law_1855 : decode cL_law 1855 = .ok (.iand, 1) := by decide +kernel
theorem dL_law_1856 : decode cL_law 1856 = .ok (.istore 4, 2) := by decide +kernel
theorem dL_law_1858 : decode cL_law 1858 = .ok (.iload 23, 2) := by decide +kernel
theorem dL_law_1860 : decode cL_law 1860 = .ok (.ifCond .ne 75, 3) := by decide +kernel
theorem dL_law_1863 : decode cL_law 1863 = .ok (.iload 24, 2) := by decide +kernel
theorem dL_law_1865 : decode cL_law 1865 = .ok (.istore 21, 2) := by decide +kernel
theorem dL_law_1867 : decode cL_law 1867 = .ok (.bipush 10, 2) := by decide +kernel
theorem dL_law_1869 : decode cL_law 1869 = .ok (.iload_n 3, 1) := by decide +kernel
theorem dL_law_1870 : decode cL_law 1870 = .ok (.imul, 1) := by decide +kernel
theorem dL_law_1871 : decode cL_law 1871 = .ok (.iload 25, 2) := by decide +kernel
theorem dL_law_1873 : decode cL_law 1873 = .ok (.iadd, 1) := by decide +kernel
theorem dL_law_1874 : decode cL_law 1874 = .ok (.istore 26, 2) := by decide +kernel
theorem dL_law_1876 : decode cL_law 1876 = .ok (.iload 4, 2) := by decide +kernel
theorem dL_law_1878 : decode cL_law 1878 = .ok (.aload_n 1, 1) := by decide +kernel
theorem dL_law_1879 : decode cL_law 1879 = .ok (.iconst 0, 1) := by decide +kernel
theorem dL_law_1880 : decode cL_law 1880 = .ok (.iconst 0, 1) := by decide +kernel
theorem dL_law_1881 : decode cL_law 1881 = .ok (.iconst 0, 1) := by decide +kernel
theorem dL_law_1882 : decode cL_law 1882 = .ok (.invokestatic 134, 3) := by decide +kernel
theorem dL_law_1885 : decode cL_law 1885 = .ok (.iload_n 2, 1) := by decide +kernel
theorem dL_law_1886 : decode cL_law 1886 = .ok (.iload 26, 2) := by decide +kernel
theorem dL_law_1888 : decode cL_law 1888 = .ok (.imul, 1) := by decide +kernel
theorem dL_law_1889 : decode cL_law 1889 = .ok (.if_icmp .ne 42, 3) := by decide +kernel
theorem dL_law_1892 : decode cL_law 1892 = .ok (.aload_n 1, 1) := by decide +kernel
theorem dL_law_1893 : decode cL_law 1893 = .ok (.iconst 0, 1) := by decide +kernel
theorem dL_law_1894 : decode cL_law 1894 = .ok (.iload 22, 2) := by decide +kernel
theorem dL_law_1896 : decode cL_law 1896 = .ok (.invokestatic 165, 3) := by decide +kernel
theorem dL_law_1899 : decode cL_law 1899 = .ok (.bipush 20, 2) := by decide +kernel
theorem dL_law_1901 : decode cL_law 1901 = .ok (.if_icmp .ne 30, 3) := by decide +kernel
theorem dL_law_1904 : decode cL_law 1904 = .ok (.aload_n 1, 1) := by decide +kernel
theorem dL_law_1905 : decode cL_law 1905 = .ok (.iconst 0, 1) := by decide +kernel
theorem dL_law_1906 : decode cL_law 1906 = .ok (.invokestatic 116, 3) := by decide +kernel
theorem dL_law_1909 : decode cL_law 1909 = .ok (.iload 9, 2) := by decide +kernel
theorem dL_law_1911 : decode cL_law 1911 = .ok (.iload_n 2, 1) := by decide +kernel
theorem dL_law_1912 : decode cL_law 1912 = .ok (.iload 26, 2) := by decide +kernel
theorem dL_law_1914 : decode cL_law 1914 = .ok (.imul, 1) := by decide +kernel
theorem dL_law_1915 : decode cL_law 1915 = .ok (.iadd, 1) := by decide +kernel
theorem dL_law_1916 : decode cL_law 1916 = .ok (.if_icmp .ne 15, 3) := by decide +kernel
theorem dL_law_1919 : decode cL_law 1919 = .ok (.aload_n 1, 1) := by decide +kernel
theorem dL_law_1920 : decode cL_law 1920 = .ok (.iconst 0, 1) := by decide +kernel
theorem dL_law_1921 : decode cL_law 1921 = .ok (.invokevirtual 167, 3) := by decide +kernel
theorem dL_law_1924 : decode cL_law 1924 = .ok (.ifCond .eq 7, 3) := by decide +kernel
theorem dL_law_1927 : decode cL_law 1927 = .ok (.iconst 1, 1) := by decide +kernel
theorem dL_law_1928 : decode cL_law 1928 = .ok (.goto 4, 3) := by decide +kernel
theorem dL_law_1931 : decode cL_law 1931 = .ok (.iconst 0, 1) := by decide +kernel
theorem dL_law_1932 : decode cL_law 1932 = .ok (.iand, 1) := by decide +kernel
theorem dL_law_1933 : decode cL_law 1933 = .ok (.istore 4, 2) := by decide +kernel
theorem dL_law_1935 : decode cL_law 1935 = .ok (.iload 4, 2) := by decide +kernel
theorem dL_law_1937 : decode cL_law 1937 = .ok (.aload_n 1, 1) := by decide +kernel
theorem dL_law_1938 : decode cL_law 1938 = .ok (.iconst 0, 1) := by decide +kernel
theorem dL_law_1939 : decode cL_law 1939 = .ok (.invokevirtual 171, 3) := by decide +kernel
theorem dL_law_1942 : decode cL_law 1942 = .ok (.iload 21, 2) := by decide +kernel
theorem dL_law_1944 : decode cL_law 1944 = .ok (.iload 24, 2) := by decide +kernel
theorem dL_law_1946 : decode cL_law 1946 = .ok (.isub, 1) := by decide +kernel
theorem dL_law_1947 : decode cL_law 1947 = .ok (.iload 21, 2) := by decide +kernel
theorem dL_law_1949 : decode cL_law 1949 = .ok (.iload 22, 2) := by decide +kernel
theorem dL_law_1951 : decode cL_law 1951 = .ok (.imul, 1) := by decide +kernel
theorem dL_law_1952 : decode cL_law 1952 = .ok (.bipush 100, 2) := by decide +kernel
theorem dL_law_1954 : decode cL_law 1954 = .ok (.idiv, 1) := by decide +kernel
theorem dL_law_1955 : decode cL_law 1955 = .ok (.if_icmp .gt 7, 3) := by decide +kernel
theorem dL_law_1958 : decode cL_law 1958 = .ok (.iconst 1, 1) := by decide +kernel
theorem dL_law_1959 : decode cL_law 1959 = .ok (.goto 4, 3) := by decide +kernel
theorem dL_law_1962 : decode cL_law 1962 = .ok (.iconst 0, 1) := by decide +kernel
theorem dL_law_1963 : decode cL_law 1963 = .ok (.if_icmp .ne 7, 3) := by decide +kernel
theorem dL_law_1966 : decode cL_law 1966 = .ok (.iconst 1, 1) := by decide +kernel
theorem dL_law_1967 : decode cL_law 1967 = .ok (.goto 4, 3) := by decide +kernel
theorem dL_law_1970 : decode cL_law 1970 = .ok (.iconst 0, 1) := by decide +kernel
theorem dL_law_1971 : decode cL_law 1971 = .ok (.iand, 1) := by decide +kernel
theorem dL_law_1972 : decode cL_law 1972 = .ok (.istore 4, 2) := by decide +kernel
theorem dL_law_1974 : decode cL_law 1974 = .ok (.iload 24, 2) := by decide +kernel
theorem dL_law_1976 : decode cL_law 1976 = .ok (.istore 26, 2) := by decide +kernel
theorem dL_law_1978 : decode cL_law 1978 = .ok (.aload_n 0, 1) := by decide +kernel
theorem dL_law_1979 : decode cL_law 1979 = .ok (.bipush 120, 2) := by decide +kernel
theorem dL_law_1981 : decode cL_law 1981 = .ok (.iload 23, 2) := by decide +kernel
theorem dL_law_1983 : decode cL_law 1983 = .ok (.iadd, 1) := by decide +kernel
theorem dL_law_1984 : decode cL_law 1984 = .ok (.iconst 2, 1) := by decide +kernel
theorem dL_law_1985 : decode cL_law 1985 = .ok (.invokestatic 104, 3) := by decide +kernel
theorem dL_law_1988 : decode cL_law 1988 = .ok (.ifCond .ne 20, 3) := by decide +kernel
theorem dL_law_1991 : decode cL_law 1991 = .ok (.iconst 1, 1) := by decide +kernel
theorem dL_law_1992 : decode cL_law 1992 = .ok (.aload_n 0, 1) := by decide +kernel
theorem dL_law_1993 : decode cL_law 1993 = .ok (.bipush 124, 2) := by decide +kernel
theorem dL_law_1995 : decode cL_law 1995 = .ok (.iload 23, 2) := by decide +kernel
theorem dL_law_1997 : decode cL_law 1997 = .ok (.iadd, 1) := by decide +kernel
theorem dL_law_1998 : decode cL_law 1998 = .ok (.sipush 9999, 3) := by decide +kernel
theorem dL_law_2001 : decode cL_law 2001 = .ok (.invokestatic 104, 3) := by decide +kernel
theorem dL_law_2004 : decode cL_law 2004 = .ok (.iadd, 1) := by decide +kernel
theorem dL_law_2005 : decode cL_law 2005 = .ok (.goto 19, 3) := by decide +kernel
theorem dL_law_2008 : decode cL_law 2008 = .ok (.iconst 3, 1) := by decide +kernel
theorem dL_law_2009 : decode cL_law 2009 = .ok (.iconst 1, 1) := by decide +kernel
theorem dL_law_2010 : decode cL_law 2010 = .ok (.aload_n 0, 1) := by decide +kernel
theorem dL_law_2011 : decode cL_law 2011 = .ok (.bipush 124, 2) := by decide +kernel
theorem dL_law_2013 : decode cL_law 2013 = .ok (.iload 23, 2) := by decide +kernel
theorem dL_law_2015 : decode cL_law 2015 = .ok (.iadd, 1) := by decide +kernel
theorem dL_law_2016 : decode cL_law 2016 = .ok (.sipush 3000, 3) := by decide +kernel
theorem dL_law_2019 : decode cL_law 2019 = .ok (.invokestatic 104, 3) := by decide +kernel
theorem dL_law_2022 : decode cL_law 2022 = .ok (.iadd, 1) := by decide +kernel
theorem dL_law_2023 : decode cL_law 2023 = .ok (.imul, 1) := by decide +kernel
theorem dL_law_2024 : decode cL_law 2024 = .ok (.istore 27, 2) := by decide +kernel
theorem dL_law_2026 : decode cL_law 2026 = .ok (.iload 27, 2) := by decide +kernel
theorem dL_law_2028 : decode cL_law 2028 = .ok (.iconst 3, 1) := by decide +kernel
theorem dL_law_2029 : decode cL_law 2029 = .ok (.irem, 1) := by decide +kernel
theorem dL_law_2030 : decode cL_law 2030 = .ok (.ifCond .ne 20, 3) := by decide +kernel
theorem dL_law_2033 : decode cL_law 2033 = .ok (.aload_n 0, 1) := by decide +kernel
theorem dL_law_2034 : decode cL_law 2034 = .ok (.bipush 120, 2) := by decide +kernel
theorem dL_law_2036 : decode cL_law 2036 = .ok (.iload 23, 2) := by decide +kernel
theorem dL_law_2038 : decode cL_law 2038 = .ok (.iadd, 1) := by decide +kernel
theorem dL_law_2039 : decode cL_law 2039 = .ok (.iconst 2, 1) := by decide +kernel
theorem dL_law_2040 : decode cL_law 2040 = .ok (.invokestatic 104, 3) := by decide +kernel
theorem dL_law_2043 : decode cL_law 2043 = .ok (.ifCond .eq 7, 3) := by decide +kernel
theorem dL_law_2046 : decode cL_law 2046 = .ok (.iconst 1, 1) := by decide +kernel
theorem dL_law_2047 : decode cL_law 2047 = .ok (.goto 4, 3) := by decide +kernel
theorem dL_law_2050 : decode cL_law 2050 = .ok (.iconst 0, 1) := by decide +kernel
theorem dL_law_2051 : decode cL_law 2051 = .ok (.istore 28, 2) := by decide +kernel
theorem dL_law_2053 : decode cL_law 2053 = .ok (.iload 20, 2) := by decide +kernel
theorem dL_law_2055 : decode cL_law 2055 = .ok (.iload 27, 2) := by decide +kernel
theorem dL_law_2057 : decode cL_law 2057 = .ok (.iadd, 1) := by decide +kernel
theorem dL_law_2058 : decode cL_law 2058 = .ok (.istore 20, 2) := by decide +kernel
theorem dL_law_2060 : decode cL_law 2060 = .ok (.iconst 0, 1) := by decide +kernel
theorem dL_law_2061 : decode cL_law 2061 = .ok (.istore 29, 2) := by decide +kernel
theorem dL_law_2063 : decode cL_law 2063 = .ok (.iconst 0, 1) := by decide +kernel
theorem dL_law_2064 : decode cL_law 2064 = .ok (.istore 30, 2) := by decide +kernel
theorem dL_law_2066 : decode cL_law 2066 = .ok (.iload 30, 2) := by decide +kernel
theorem dL_law_2068 : decode cL_law 2068 = .ok (.iload_n 2, 1) := by decide +kernel
theorem dL_law_2069 : decode cL_law 2069 = .ok (.if_icmp .ge 150, 3) := by decide +kernel
theorem dL_law_2072 : decode cL_law 2072 = .ok (.iconst 0, 1) := by decide +kernel
theorem dL_law_2073 : decode cL_law 2073 = .ok (.istore 31, 2) := by decide +kernel
theorem dL_law_2075 : decode cL_law 2075 = .ok (.iload 31, 2) := by decide +kernel
theorem dL_law_2077 : decode cL_law 2077 = .ok (.iload_n 3, 1) := by decide +kernel
theorem dL_law_2078 : decode cL_law 2078 = .ok (.if_icmp .ge 135, 3) := by decide +kernel
theorem dL_law_2081 : decode cL_law 2081 = .ok (.aload 6, 2) := by decide +kernel
theorem dL_law_2083 : decode cL_law 2083 = .ok (.iload 30, 2) := by decide +kernel
theorem dL_law_2085 : decode cL_law 2085 = .ok (.aaload, 1) := by decide +kernel
theorem dL_law_2086 : decode cL_law 2086 = .ok (.iload 31, 2) := by decide +kernel
theorem dL_law_2088 : decode cL_law 2088 = .ok (.iaload, 1) := by decide +kernel
theorem dL_law_2089 : decode cL_law 2089 = .ok (.aload 7, 2) := by decide +kernel
theorem dL_law_2091 : decode cL_law 2091 = .ok (.iload 30, 2) := by decide +kernel
theorem dL_law_2093 : decode cL_law 2093 = .ok (.iaload, 1) := by decide +kernel
theorem dL_law_2094 : decode cL_law 2094 = .ok (.if_icmp .ge 14, 3) := by decide +kernel
theorem dL_law_2097 : decode cL_law 2097 = .ok (.aload 6, 2) := by decide +kernel
theorem dL_law_2099 : decode cL_law 2099 = .ok (.iload 30, 2) := by decide +kernel
theorem dL_law_2101 : decode cL_law 2101 = .ok (.aaload, 1) := by decide +kernel
theorem dL_law_2102 : decode cL_law 2102 = .ok (.iload 31, 2) := by decide +kernel
theorem dL_law_2104 : decode cL_law 2104 = .ok (.iaload, 1) := by decide +kernel
theorem dL_law_2105 : decode cL_law 2105 = .ok (.goto 8, 3) := by decide +kernel
theorem dL_law_2108 : decode cL_law 2108 = .ok (.aload 7, 2) := by decide +kernel
theorem dL_law_2110 : decode cL_law 2110 = .ok (.iload 30, 2) := by decide +kernel
theorem dL_law_2112 : decode cL_law 2112 = .ok (.iaload, 1) := by decide +kernel
theorem dL_law_2113 : decode cL_law 2113 = .ok (.istore 32, 2) := by decide +kernel
theorem dL_law_2115 : decode cL_law 2115 = .ok (.aload 8, 2) := by decide +kernel
theorem dL_law_2117 : decode cL_law 2117 = .ok (.iload 31, 2) := by decide +kernel
theorem dL_law_2119 : decode cL_law 2119 = .ok (.iaload, 1) := by decide +kernel
theorem dL_law_2120 : decode cL_law 2120 = .ok (.iload 32, 2) := by decide +kernel
theorem dL_law_2122 : decode cL_law 2122 = .ok (.if_icmp .ge 11, 3) := by decide +kernel
theorem dL_law_2125 : decode cL_law 2125 = .ok (.aload 8, 2) := by decide +kernel
theorem dL_law_2127 : decode cL_law 2127 = .ok (.iload 31, 2) := by decide +kernel
theorem dL_law_2129 : decode cL_law 2129 = .ok (.iaload, 1) := by decide +kernel
theorem dL_law_2130 : decode cL_law 2130 = .ok (.goto 5, 3) := by decide +kernel
theorem dL_law_2133 : decode cL_law 2133 = .ok (.iload 32, 2) := by decide +kernel
theorem dL_law_2135 : decode cL_law 2135 = .ok (.istore 32, 2) := by decide +kernel
theorem dL_law_2137 : decode cL_law 2137 = .ok (.iload 32, 2) := by decide +kernel
theorem dL_law_2139 : decode cL_law 2139 = .ok (.aload 16, 2) := by decide +kernel
theorem dL_law_2141 : decode cL_law 2141 = .ok (.iload 30, 2) := by decide +kernel
theorem dL_law_2143 : decode cL_law 2143 = .ok (.aaload, 1) := by decide +kernel
theorem dL_law_2144 : decode cL_law 2144 = .ok (.iload 31, 2) := by decide +kernel
theorem dL_law_2146 : decode cL_law 2146 = .ok (.iaload, 1) := by decide +kernel
theorem dL_law_2147 : decode cL_law 2147 = .ok (.isub, 1) := by decide +kernel
theorem dL_law_2148 : decode cL_law 2148 = .ok (.istore 33, 2) := by decide +kernel
theorem dL_law_2150 : decode cL_law 2150 = .ok (.iconst 0, 1) := by decide +kernel
theorem dL_law_2151 : decode cL_law 2151 = .ok (.istore 34, 2) := by decide +kernel
theorem dL_law_2153 : decode cL_law 2153 = .ok (.iload 34, 2) := by decide +kernel
theorem dL_law_2155 : decode cL_law 2155 = .ok (.iload 12, 2) := by decide +kernel
theorem dL_law_2157 : decode cL_law 2157 = .ok (.if_icmp .ge 34, 3) := by decide +kernel
theorem dL_law_2160 : decode cL_law 2160 = .ok (.iload 33, 2) := by decide +kernel
theorem dL_law_2162 : decode cL_law 2162 = .ok (.aload 13, 2) := by decide +kernel
theorem dL_law_2164 : decode cL_law 2164 = .ok (.iload 34, 2) := by decide +kernel
theorem dL_law_2166 : decode cL_law 2166 = .ok (.caload, 1) := by decide +kernel
theorem dL_law_2167 : decode cL_law 2167 = .ok (.aload 14, 2) := by decide +kernel
theorem dL_law_2169 : decode cL_law 2169 = .ok (.iload 34, 2) := by decide +kernel
theorem dL_law_2171 : decode cL_law 2171 = .ok (.iaload, 1) := by decide +kernel
theorem dL_law_2172 : decode cL_law 2172 = .ok (.aload 15, 2) := by decide +kernel
theorem dL_law_2174 : decode cL_law 2174 = .ok (.iload 34, 2) := by decide +kernel
theorem dL_law_2176 : decode cL_law 2176 = .ok (.iaload, 1) := by decide +kernel
theorem dL_law_2177 : decode cL_law 2177 = .ok (.iload 20, 2) := by decide +kernel
theorem dL_law_2179 : decode cL_law 2179 = .ok (.invokestatic 155, 3) := by decide +kernel
theorem dL_law_2182 : decode cL_law 2182 = .ok (.iadd, 1) := by decide +kernel
theorem dL_law_2183 : decode cL_law 2183 = .ok (.istore 33, 2) := by decide +kernel
theorem dL_law_2185 : decode cL_law 2185 = .ok (.iinc 34 1, 3) := by decide +kernel
theorem dL_law_2188 : decode cL_law 2188 = .ok (.goto (-35), 3) := by decide +kernel
theorem dL_law_2191 : decode cL_law 2191 = .ok (.iload 29, 2) := by decide +kernel
theorem dL_law_2193 : decode cL_law 2193 = .ok (.iload 33, 2) := by decide +kernel
theorem dL_law_2195 : decode cL_law 2195 = .ok (.ifCond .ge 7, 3) := by decide +kernel
theorem dL_law_2198 : decode cL_law 2198 = .ok (.iconst 0, 1) := by decide +kernel
theorem dL_law_2199 : decode cL_law 2199 = .ok (.goto 5, 3) := by decide +kernel
theorem dL_law_2202 : decode cL_law 2202 = .ok (.iload 33, 2) := by decide +kernel
theorem dL_law_2204 : decode cL_law 2204 = .ok (.iadd, 1) := by decide +kernel
theorem dL_law_2205 : decode cL_law 2205 = .ok (.istore 29, 2) := by decide +kernel
theorem dL_law_2207 : decode cL_law 2207 = .ok (.iinc 31 1, 3) := by decide +kernel
theorem dL_law_2210 : decode cL_law 2210 = .ok (.goto (-135), 3) := by decide +kernel
theorem dL_law_2213 : decode cL_law 2213 = .ok (.iinc 30 1, 3) := by decide +kernel
theorem dL_law_2216 : decode cL_law 2216 = .ok (.goto (-150), 3) := by decide +kernel
theorem dL_law_2219 : decode cL_law 2219 = .ok (.iload 4, 2) := by decide +kernel
theorem dL_law_2221 : decode cL_law 2221 = .ok (.iload 28, 2) := by decide +kernel
theorem dL_law_2223 : decode cL_law 2223 = .ok (.ifCond .eq 15, 3) := by decide +kernel
theorem dL_law_2226 : decode cL_law 2226 = .ok (.aload_n 1, 1) := by decide +kernel
theorem dL_law_2227 : decode cL_law 2227 = .ok (.iconst 0, 1) := by decide +kernel
theorem dL_law_2228 : decode cL_law 2228 = .ok (.iload 27, 2) := by decide +kernel
theorem dL_law_2230 : decode cL_law 2230 = .ok (.iconst 3, 1) := by decide +kernel
theorem dL_law_2231 : decode cL_law 2231 = .ok (.idiv, 1) := by decide +kernel
theorem dL_law_2232 : decode cL_law 2232 = .ok (.invokestatic 174, 3) := by decide +kernel
theorem dL_law_2235 : decode cL_law 2235 = .ok (.goto 10, 3) := by decide +kernel
theorem dL_law_2238 : decode cL_law 2238 = .ok (.aload_n 1, 1) := by decide +kernel
theorem dL_law_2239 : decode cL_law 2239 = .ok (.iconst 0, 1) := by decide +kernel
theorem dL_law_2240 : decode cL_law 2240 = .ok (.iload 27, 2) := by decide +kernel
theorem dL_law_2242 : decode cL_law 2242 = .ok (.invokestatic 149, 3) := by decide +kernel
theorem dL_law_2245 : decode cL_law 2245 = .ok (.iload 26, 2) := by decide +kernel
theorem dL_law_2247 : decode cL_law 2247 = .ok (.iload 29, 2) := by decide +kernel
theorem dL_law_2249 : decode cL_law 2249 = .ok (.isub, 1) := by decide +kernel
theorem dL_law_2250 : decode cL_law 2250 = .ok (.if_icmp .ne 17, 3) := by decide +kernel
theorem dL_law_2253 : decode cL_law 2253 = .ok (.aload_n 1, 1) := by decide +kernel
theorem dL_law_2254 : decode cL_law 2254 = .ok (.iconst 0, 1) := by decide +kernel
theorem dL_law_2255 : decode cL_law 2255 = .ok (.invokestatic 151, 3) := by decide +kernel
theorem dL_law_2258 : decode cL_law 2258 = .ok (.iload 20, 2) := by decide +kernel
theorem dL_law_2260 : decode cL_law 2260 = .ok (.if_icmp .ne 7, 3) := by decide +kernel
theorem dL_law_2263 : decode cL_law 2263 = .ok (.iconst 1, 1) := by decide +kernel
theorem dL_law_2264 : decode cL_law 2264 = .ok (.goto 4, 3) := by decide +kernel
theorem dL_law_2267 : decode cL_law 2267 = .ok (.iconst 0, 1) := by decide +kernel
theorem dL_law_2268 : decode cL_law 2268 = .ok (.iand, 1) := by decide +kernel
theorem dL_law_2269 : decode cL_law 2269 = .ok (.istore 4, 2) := by decide +kernel
theorem dL_law_2271 : decode cL_law 2271 = .ok (.iinc 23 1, 3) := by decide +kernel
theorem dL_law_2274 : decode cL_law 2274 = .ok (.goto (-677), 3) := by decide +kernel
theorem dL_law_2277 : decode cL_law 2277 = .ok (.iload 4, 2) := by decide +kernel
theorem dL_law_2279 : decode cL_law 2279 = .ok (.ifCond .eq 23, 3) := by decide +kernel
theorem dL_law_2282 : decode cL_law 2282 = .ok (.aload_n 1, 1) := by decide +kernel
theorem dL_law_2283 : decode cL_law 2283 = .ok (.invokevirtual 176, 3) := by decide +kernel
theorem dL_law_2286 : decode cL_law 2286 = .ok (.fconst 1, 1) := by decide +kernel
theorem dL_law_2287 : decode cL_law 2287 = .ok (.fcmp .l, 1) := by decide +kernel
theorem dL_law_2288 : decode cL_law 2288 = .ok (.ifCond .ne 14, 3) := by decide +kernel
theorem dL_law_2291 : decode cL_law 2291 = .ok (.aload_n 1, 1) := by decide +kernel
theorem dL_law_2292 : decode cL_law 2292 = .ok (.invokevirtual 180, 3) := by decide +kernel
theorem dL_law_2295 : decode cL_law 2295 = .ok (.ifCond .eq 7, 3) := by decide +kernel
theorem dL_law_2298 : decode cL_law 2298 = .ok (.iconst 1, 1) := by decide +kernel
theorem dL_law_2299 : decode cL_law 2299 = .ok (.goto 4, 3) := by decide +kernel
theorem dL_law_2302 : decode cL_law 2302 = .ok (.iconst 0, 1) := by decide +kernel
theorem dL_law_2303 : decode cL_law 2303 = .ok (.ireturn, 1) := by decide +kernel
end ZZU
