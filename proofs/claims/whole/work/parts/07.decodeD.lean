/-! decoded instructions -/
theorem dX6_hear_0 : decode cX6_hear 0 = .ok (.iload 5, 2) := by decide +kernel
theorem dX6_hear_2 : decode cX6_hear 2 = .ok (.aload_n 0, 1) := by decide +kernel
theorem dX6_hear_3 : decode cX6_hear 3 = .ok (.getfield 287, 3) := by decide +kernel
theorem dX6_hear_6 : decode cX6_hear 6 = .ok (.if_icmp .lt 11, 3) := by decide +kernel
theorem dX6_hear_9 : decode cX6_hear 9 = .ok (.iload 5, 2) := by decide +kernel
theorem dX6_hear_11 : decode cX6_hear 11 = .ok (.ldc_w 290, 3) := by decide +kernel
theorem dX6_hear_14 : decode cX6_hear 14 = .ok (.if_icmp .le 5, 3) := by decide +kernel
theorem dX6_hear_17 : decode cX6_hear 17 = .ok (.iconst (-1), 1) := by decide +kernel
theorem dX6_hear_18 : decode cX6_hear 18 = .ok (.ireturn, 1) := by decide +kernel
theorem dX6_hear_19 : decode cX6_hear 19 = .ok (.aload_n 0, 1) := by decide +kernel
theorem dX6_hear_20 : decode cX6_hear 20 = .ok (.iload 5, 2) := by decide +kernel
theorem dX6_hear_22 : decode cX6_hear 22 = .ok (.putfield 287, 3) := by decide +kernel
theorem dX6_hear_25 : decode cX6_hear 25 = .ok (.aload_n 0, 1) := by decide +kernel
theorem dX6_hear_26 : decode cX6_hear 26 = .ok (.iload 5, 2) := by decide +kernel
theorem dX6_hear_28 : decode cX6_hear 28 = .ok (.invokevirtual 291, 3) := by decide +kernel
theorem dX6_hear_31 : decode cX6_hear 31 = .ok (.aload_n 0, 1) := by decide +kernel
theorem dX6_hear_32 : decode cX6_hear 32 = .ok (.iload_n 1, 1) := by decide +kernel
theorem dX6_hear_33 : decode cX6_hear 33 = .ok (.iload_n 2, 1) := by decide +kernel
theorem dX6_hear_34 : decode cX6_hear 34 = .ok (.iload_n 3, 1) := by decide +kernel
theorem dX6_hear_35 : decode cX6_hear 35 = .ok (.iload 4, 2) := by decide +kernel
theorem dX6_hear_37 : decode cX6_hear 37 = .ok (.invokevirtual 148, 3) := by decide +kernel
theorem dX6_hear_40 : decode cX6_hear 40 = .ok (.aload_n 0, 1) := by decide +kernel
theorem dX6_hear_41 : decode cX6_hear 41 = .ok (.aload_n 0, 1) := by decide +kernel
theorem dX6_hear_42 : decode cX6_hear 42 = .ok (.getfield 133, 3) := by decide +kernel
theorem dX6_hear_45 : decode cX6_hear 45 = .ok (.iconst 1, 1) := by decide +kernel
theorem dX6_hear_46 : decode cX6_hear 46 = .ok (.iconst 5, 1) := by decide +kernel
theorem dX6_hear_47 : decode cX6_hear 47 = .ok (.invokevirtual 156, 3) := by decide +kernel
theorem dX6_hear_50 : decode cX6_hear 50 = .ok (.istore 6, 2) := by decide +kernel
theorem dX6_hear_52 : decode cX6_hear 52 = .ok (.iload 6, 2) := by decide +kernel
theorem dX6_hear_54 : decode cX6_hear 54 = .ok (.invokestatic 295, 3) := by decide +kernel
theorem dX6_hear_57 : decode cX6_hear 57 = .ok (.ifCond .ne 6, 3) := by decide +kernel
theorem dX6_hear_60 : decode cX6_hear 60 = .ok (.bipush (-2), 2) := by decide +kernel
theorem dX6_hear_62 : decode cX6_hear 62 = .ok (.ireturn, 1) := by decide +kernel
theorem dX6_hear_63 : decode cX6_hear 63 = .ok (.aload_n 0, 1) := by decide +kernel
theorem dX6_hear_64 : decode cX6_hear 64 = .ok (.invokevirtual 152, 3) := by decide +kernel
theorem dX6_hear_67 : decode cX6_hear 67 = .ok (.istore 7, 2) := by decide +kernel
theorem dX6_hear_69 : decode cX6_hear 69 = .ok (.iconst (-1), 1) := by decide +kernel
theorem dX6_hear_70 : decode cX6_hear 70 = .ok (.istore 8, 2) := by decide +kernel
theorem dX6_hear_72 : decode cX6_hear 72 = .ok (.aload_n 0, 1) := by decide +kernel
theorem dX6_hear_73 : decode cX6_hear 73 = .ok (.iload 6, 2) := by decide +kernel
theorem dX6_hear_75 : decode cX6_hear 75 = .ok (.iload 7, 2) := by decide +kernel
theorem dX6_hear_77 : decode cX6_hear 77 = .ok (.invokevirtual 160, 3) := by decide +kernel
theorem dX6_hear_80 : decode cX6_hear 80 = .ok (.ifCond .eq 40, 3) := by decide +kernel
theorem dX6_hear_83 : decode cX6_hear 83 = .ok (.aload_n 0, 1) := by decide +kernel
theorem dX6_hear_84 : decode cX6_hear 84 = .ok (.invokevirtual 164, 3) := by decide +kernel
theorem dX6_hear_87 : decode cX6_hear 87 = .ok (.istore 8, 2) := by decide +kernel
theorem dX6_hear_89 : decode cX6_hear 89 = .ok (.iload 8, 2) := by decide +kernel
theorem dX6_hear_91 : decode cX6_hear 91 = .ok (.ifCond .ge 6, 3) := by decide +kernel
theorem dX6_hear_94 : decode cX6_hear 94 = .ok (.bipush (-3), 2) := by decide +kernel
theorem dX6_hear_96 : decode cX6_hear 96 = .ok (.ireturn, 1) := by decide +kernel
theorem dX6_hear_97 : decode cX6_hear 97 = .ok (.aload_n 0, 1) := by decide +kernel
theorem dX6_hear_98 : decode cX6_hear 98 = .ok (.getfield 133, 3) := by decide +kernel
theorem dX6_hear_101 : decode cX6_hear 101 = .ok (.iload 8, 2) := by decide +kernel
theorem dX6_hear_103 : decode cX6_hear 103 = .ok (.iconst 1, 1) := by decide +kernel
theorem dX6_hear_104 : decode cX6_hear 104 = .ok (.isub, 1) := by decide +kernel
theorem dX6_hear_105 : decode cX6_hear 105 = .ok (.iconst 1, 1) := by decide +kernel
theorem dX6_hear_106 : decode cX6_hear 106 = .ok (.aload_n 0, 1) := by decide +kernel
theorem dX6_hear_107 : decode cX6_hear 107 = .ok (.getfield 133, 3) := by decide +kernel
theorem dX6_hear_110 : decode cX6_hear 110 = .ok (.iload 8, 2) := by decide +kernel
theorem dX6_hear_112 : decode cX6_hear 112 = .ok (.iconst 1, 1) := by decide +kernel
theorem dX6_hear_113 : decode cX6_hear 113 = .ok (.isub, 1) := by decide +kernel
theorem dX6_hear_114 : decode cX6_hear 114 = .ok (.iaload, 1) := by decide +kernel
theorem dX6_hear_115 : decode cX6_hear 115 = .ok (.isub, 1) := by decide +kernel
theorem dX6_hear_116 : decode cX6_hear 116 = .ok (.iastore, 1) := by decide +kernel
theorem dX6_hear_117 : decode cX6_hear 117 = .ok (.iconst 0, 1) := by decide +kernel
theorem dX6_hear_118 : decode cX6_hear 118 = .ok (.istore 7, 2) := by decide +kernel
theorem dX6_hear_120 : decode cX6_hear 120 = .ok (.iload 6, 2) := by decide +kernel
theorem dX6_hear_122 : decode cX6_hear 122 = .ok (.invokestatic 298, 3) := by decide +kernel
theorem dX6_hear_125 : decode cX6_hear 125 = .ok (.ifCond .eq 18, 3) := by decide +kernel
theorem dX6_hear_128 : decode cX6_hear 128 = .ok (.aload_n 0, 1) := by decide +kernel
theorem dX6_hear_129 : decode cX6_hear 129 = .ok (.aload_n 0, 1) := by decide +kernel
theorem dX6_hear_130 : decode cX6_hear 130 = .ok (.getfield 133, 3) := by decide +kernel
theorem dX6_hear_133 : decode cX6_hear 133 = .ok (.bipush 9, 2) := by decide +kernel
theorem dX6_hear_135 : decode cX6_hear 135 = .ok (.bipush 32, 2) := by decide +kernel
theorem dX6_hear_137 : decode cX6_hear 137 = .ok (.invokevirtual 156, 3) := by decide +kernel
theorem dX6_hear_140 : decode cX6_hear 140 = .ok (.goto 5, 3) := by decide +kernel
theorem dX6_hear_143 : decode cX6_hear 143 = .ok (.iload 7, 2) := by decide +kernel
theorem dX6_hear_145 : decode cX6_hear 145 = .ok (.istore 9, 2) := by decide +kernel
theorem dX6_hear_147 : decode cX6_hear 147 = .ok (.aload_n 0, 1) := by decide +kernel
theorem dX6_hear_148 : decode cX6_hear 148 = .ok (.iload 9, 2) := by decide +kernel
theorem dX6_hear_150 : decode cX6_hear 150 = .ok (.invokevirtual 301, 3) := by decide +kernel
theorem dX6_hear_153 : decode cX6_hear 153 = .ok (.istore 10, 2) := by decide +kernel
theorem dX6_hear_155 : decode cX6_hear 155 = .ok (.iload 10, 2) := by decide +kernel
theorem dX6_hear_157 : decode cX6_hear 157 = .ok (.ifCond .ge 14, 3) := by decide +kernel
theorem dX6_hear_160 : decode cX6_hear 160 = .ok (.iload 6, 2) := by decide +kernel
theorem dX6_hear_162 : decode cX6_hear 162 = .ok (.invokestatic 298, 3) := by decide +kernel
theorem dX6_hear_165 : decode cX6_hear 165 = .ok (.ifCond .ne 6, 3) := by decide +kernel
theorem dX6_hear_168 : decode cX6_hear 168 = .ok (.bipush (-4), 2) := by decide +kernel
theorem dX6_hear_170 : decode cX6_hear 170 = .ok (.ireturn, 1) := by decide +kernel
theorem dX6_hear_171 : decode cX6_hear 171 = .ok (.iload 10, 2) := by decide +kernel
theorem dX6_hear_173 : decode cX6_hear 173 = .ok (.ifCond .ge 15, 3) := by decide +kernel
theorem dX6_hear_176 : decode cX6_hear 176 = .ok (.aload_n 0, 1) := by decide +kernel
theorem dX6_hear_177 : decode cX6_hear 177 = .ok (.getfield 281, 3) := by decide +kernel
theorem dX6_hear_180 : decode cX6_hear 180 = .ok (.bipush 20, 2) := by decide +kernel
theorem dX6_hear_182 : decode cX6_hear 182 = .ok (.if_icmp .ne 6, 3) := by decide +kernel
theorem dX6_hear_185 : decode cX6_hear 185 = .ok (.bipush (-5), 2) := by decide +kernel
theorem dX6_hear_187 : decode cX6_hear 187 = .ok (.ireturn, 1) := by decide +kernel
theorem dX6_hear_188 : decode cX6_hear 188 = .ok (.iload 10, 2) := by decide +kernel
theorem dX6_hear_190 : decode cX6_hear 190 = .ok (.ifCond .ge 101, 3) := by decide +kernel
theorem dX6_hear_193 : decode cX6_hear 193 = .ok (.aload_n 0, 1) := by decide +kernel
theorem dX6_hear_194 : decode cX6_hear 194 = .ok (.getfield 281, 3) := by decide +kernel
theorem dX6_hear_197 : decode cX6_hear 197 = .ok (.istore 10, 2) := by decide +kernel
theorem dX6_hear_199 : decode cX6_hear 199 = .ok (.aload_n 0, 1) := by decide +kernel
theorem dX6_hear_200 : decode cX6_hear 200 = .ok (.dup, 1) := by decide +kernel
theorem dX6_hear_201 : decode cX6_hear 201 = .ok (.getfield 281, 3) := by decide +kernel
theorem dX6_hear_204 : decode cX6_hear 204 = .ok (.iconst 1, 1) := by decide +kernel
theorem dX6_hear_205 : decode cX6_hear 205 = .ok (.iadd, 1) := by decide +kernel
theorem dX6_hear_206 : decode cX6_hear 206 = .ok (.putfield 281, 3) := by decide +kernel
theorem dX6_hear_209 : decode cX6_hear 209 = .ok (.iconst 0, 1) := by decide +kernel
theorem dX6_hear_210 : decode cX6_hear 210 = .ok (.istore 11, 2) := by decide +kernel
theorem dX6_hear_212 : decode cX6_hear 212 = .ok (.iload 11, 2) := by decide +kernel
theorem dX6_hear_214 : decode cX6_hear 214 = .ok (.bipush 40, 2) := by decide +kernel
theorem dX6_hear_216 : decode cX6_hear 216 = .ok (.if_icmp .ge 35, 3) := by decide +kernel
theorem dX6_hear_219 : decode cX6_hear 219 = .ok (.aload_n 0, 1) := by decide +kernel
theorem dX6_hear_220 : decode cX6_hear 220 = .ok (.getfield 129, 3) := by decide +kernel
theorem dX6_hear_223 : decode cX6_hear 223 = .ok (.aload_n 0, 1) := by decide +kernel
theorem dX6_hear_224 : decode cX6_hear 224 = .ok (.iload 10, 2) := by decide +kernel
theorem dX6_hear_226 : decode cX6_hear 226 = .ok (.iload 11, 2) := by decide +kernel
theorem dX6_hear_228 : decode cX6_hear 228 = .ok (.invokevirtual 284, 3) := by decide +kernel
theorem dX6_hear_231 : decode cX6_hear 231 = .ok (.iload 11, 2) := by decide +kernel
theorem dX6_hear_233 : decode cX6_hear 233 = .ok (.bipush 18, 2) := by decide +kernel
theorem dX6_hear_235 : decode cX6_hear 235 = .ok (.if_icmp .ge 8, 3) := by decide +kernel
theorem dX6_hear_238 : decode cX6_hear 238 = .ok (.ldc 171, 2) := by decide +kernel
theorem dX6_hear_240 : decode cX6_hear 240 = .ok (.goto 4, 3) := by decide +kernel
theorem dX6_hear_243 : decode cX6_hear 243 = .ok (.iconst 0, 1) := by decide +kernel
theorem dX6_hear_244 : decode cX6_hear 244 = .ok (.iastore, 1) := by decide +kernel
theorem dX6_hear_245 : decode cX6_hear 245 = .ok (.iinc 11 1, 3) := by decide +kernel
theorem dX6_hear_248 : decode cX6_hear 248 = .ok (.goto (-36), 3) := by decide +kernel
theorem dX6_hear_251 : decode cX6_hear 251 = .ok (.aload_n 0, 1) := by decide +kernel
theorem dX6_hear_252 : decode cX6_hear 252 = .ok (.getfield 129, 3) := by decide +kernel
theorem dX6_hear_255 : decode cX6_hear 255 = .ok (.aload_n 0, 1) := by decide +kernel
theorem dX6_hear_256 : decode cX6_hear 256 = .ok (.iload 10, 2) := by decide +kernel
theorem dX6_hear_258 : decode cX6_hear 258 = .ok (.iconst 0, 1) := by decide +kernel
theorem dX6_hear_259 : decode cX6_hear 259 = .ok (.invokevirtual 284, 3) := by decide +kernel
theorem dX6_hear_262 : decode cX6_hear 262 = .ok (.iload 9, 2) := by decide +kernel
theorem dX6_hear_264 : decode cX6_hear 264 = .ok (.iastore, 1) := by decide +kernel
theorem dX6_hear_265 : decode cX6_hear 265 = .ok (.aload_n 0, 1) := by decide +kernel
theorem dX6_hear_266 : decode cX6_hear 266 = .ok (.getfield 129, 3) := by decide +kernel
theorem dX6_hear_269 : decode cX6_hear 269 = .ok (.aload_n 0, 1) := by decide +kernel
theorem dX6_hear_270 : decode cX6_hear 270 = .ok (.iload 10, 2) := by decide +kernel
theorem dX6_hear_272 : decode cX6_hear 272 = .ok (.iconst 2, 1) := by decide +kernel
theorem dX6_hear_273 : decode cX6_hear 273 = .ok (.invokevirtual 284, 3) := by decide +kernel
theorem dX6_hear_276 : decode cX6_hear 276 = .ok (.iconst 0, 1) := by decide +kernel
theorem dX6_hear_277 : decode cX6_hear 277 = .ok (.iastore, 1) := by decide +kernel
theorem dX6_hear_278 : decode cX6_hear 278 = .ok (.aload_n 0, 1) := by decide +kernel
theorem dX6_hear_279 : decode cX6_hear 279 = .ok (.getfield 129, 3) := by decide +kernel
theorem dX6_hear_282 : decode cX6_hear 282 = .ok (.aload_n 0, 1) := by decide +kernel
theorem dX6_hear_283 : decode cX6_hear 283 = .ok (.iload 10, 2) := by decide +kernel
theorem dX6_hear_285 : decode cX6_hear 285 = .ok (.iconst 3, 1) := by decide +kernel
theorem dX6_hear_286 : decode cX6_hear 286 = .ok (.invokevirtual 284, 3) := by decide +kernel
theorem dX6_hear_289 : decode cX6_hear 289 = .ok (.iconst 0, 1) := by decide +kernel
theorem dX6_hear_290 : decode cX6_hear 290 = .ok (.iastore, 1) := by decide +kernel
theorem dX6_hear_291 : decode cX6_hear 291 = .ok (.iconst 0, 1) := by decide +kernel
theorem dX6_hear_292 : decode cX6_hear 292 = .ok (.istore 11, 2) := by decide +kernel
theorem dX6_hear_294 : decode cX6_hear 294 = .ok (.iload 11, 2) := by decide +kernel
theorem dX6_hear_296 : decode cX6_hear 296 = .ok (.bipush 112, 2) := by decide +kernel
theorem dX6_hear_298 : decode cX6_hear 298 = .ok (.if_icmp .ge 23, 3) := by decide +kernel
theorem dX6_hear_301 : decode cX6_hear 301 = .ok (.aload_n 0, 1) := by decide +kernel
theorem dX6_hear_302 : decode cX6_hear 302 = .ok (.getfield 136, 3) := by decide +kernel
theorem dX6_hear_305 : decode cX6_hear 305 = .ok (.iload 11, 2) := by decide +kernel
theorem dX6_hear_307 : decode cX6_hear 307 = .ok (.aload_n 0, 1) := by decide +kernel
theorem dX6_hear_308 : decode cX6_hear 308 = .ok (.getfield 133, 3) := by decide +kernel
theorem dX6_hear_311 : decode cX6_hear 311 = .ok (.iload 11, 2) := by decide +kernel
theorem dX6_hear_313 : decode cX6_hear 313 = .ok (.iaload, 1) := by decide +kernel
theorem dX6_hear_314 : decode cX6_hear 314 = .ok (.iastore, 1) := by decide +kernel
theorem dX6_hear_315 : decode cX6_hear 315 = .ok (.iinc 11 1, 3) := by decide +kernel
theorem dX6_hear_318 : decode cX6_hear 318 = .ok (.goto (-24), 3) := by decide +kernel
theorem dX6_hear_321 : decode cX6_hear 321 = .ok (.aload_n 0, 1) := by decide +kernel
theorem dX6_hear_322 : decode cX6_hear 322 = .ok (.aload_n 0, 1) := by decide +kernel
theorem dX6_hear_323 : decode cX6_hear 323 = .ok (.getfield 143, 3) := by decide +kernel
theorem dX6_hear_326 : decode cX6_hear 326 = .ok (.putfield 304, 3) := by decide +kernel
theorem dX6_hear_329 : decode cX6_hear 329 = .ok (.aload_n 0, 1) := by decide +kernel
theorem dX6_hear_330 : decode cX6_hear 330 = .ok (.iload 7, 2) := by decide +kernel
theorem dX6_hear_332 : decode cX6_hear 332 = .ok (.putfield 307, 3) := by decide +kernel
theorem dX6_hear_335 : decode cX6_hear 335 = .ok (.aload_n 0, 1) := by decide +kernel
theorem dX6_hear_336 : decode cX6_hear 336 = .ok (.iload 8, 2) := by decide +kernel
theorem dX6_hear_338 : decode cX6_hear 338 = .ok (.putfield 139, 3) := by decide +kernel
theorem dX6_hear_341 : decode cX6_hear 341 = .ok (.aload_n 0, 1) := by decide +kernel
theorem dX6_hear_342 : decode cX6_hear 342 = .ok (.getfield 129, 3) := by decide +kernel
theorem dX6_hear_345 : decode cX6_hear 345 = .ok (.aload_n 0, 1) := by decide +kernel
theorem dX6_hear_346 : decode cX6_hear 346 = .ok (.iload 10, 2) := by decide +kernel
theorem dX6_hear_348 : decode cX6_hear 348 = .ok (.iconst 1, 1) := by decide +kernel
theorem dX6_hear_349 : decode cX6_hear 349 = .ok (.invokevirtual 284, 3) := by decide +kernel
theorem dX6_hear_352 : decode cX6_hear 352 = .ok (.iload 5, 2) := by decide +kernel
theorem dX6_hear_354 : decode cX6_hear 354 = .ok (.iastore, 1) := by decide +kernel
theorem dX6_hear_355 : decode cX6_hear 355 = .ok (.aload_n 0, 1) := by decide +kernel
theorem dX6_hear_356 : decode cX6_hear 356 = .ok (.getfield 129, 3) := by decide +kernel
theorem dX6_hear_359 : decode cX6_hear 359 = .ok (.aload_n 0, 1) := by decide +kernel
theorem dX6_hear_360 : decode cX6_hear 360 = .ok (.iload 10, 2) := by decide +kernel
theorem dX6_hear_362 : decode cX6_hear 362 = .ok (.iconst 2, 1) := by decide +kernel
theorem dX6_hear_363 : decode cX6_hear 363 = .ok (.invokevirtual 284, 3) := by decide +kernel
theorem dX6_hear_366 : decode cX6_hear 366 = .ok (.dup2, 1) := by decide +kernel
theorem dX6_hear_367 : decode cX6_hear 367 = .ok (.iaload, 1) := by decide +kernel
theorem dX6_hear_368 : decode cX6_hear 368 = .ok (.iconst 1, 1) := by decide +kernel
theorem dX6_hear_369 : decode cX6_hear 369 = .ok (.iadd, 1) := by decide +kernel
theorem dX6_hear_370 : decode cX6_hear 370 = .ok (.iastore, 1) := by decide +kernel
theorem dX6_hear_371 : decode cX6_hear 371 = .ok (.aload_n 0, 1) := by decide +kernel
theorem dX6_hear_372 : decode cX6_hear 372 = .ok (.getfield 129, 3) := by decide +kernel
theorem dX6_hear_375 : decode cX6_hear 375 = .ok (.aload_n 0, 1) := by decide +kernel
theorem dX6_hear_376 : decode cX6_hear 376 = .ok (.iload 10, 2) := by decide +kernel
theorem dX6_hear_378 : decode cX6_hear 378 = .ok (.iconst 3, 1) := by decide +kernel
theorem dX6_hear_379 : decode cX6_hear 379 = .ok (.invokevirtual 284, 3) := by decide +kernel
theorem dX6_hear_382 : decode cX6_hear 382 = .ok (.dup2, 1) := by decide +kernel
theorem dX6_hear_383 : decode cX6_hear 383 = .ok (.iaload, 1) := by decide +kernel
theorem dX6_hear_384 : decode cX6_hear 384 = .ok (.iload 8, 2) := by decide +kernel
theorem dX6_hear_386 : decode cX6_hear 386 = .ok (.ifCond .ge 7, 3) := by decide +kernel
theorem dX6_hear_389 : decode cX6_hear 389 = .ok (.iconst 0, 1) := by decide +kernel
theorem dX6_hear_390 : decode cX6_hear 390 = .ok (.goto 4, 3) := by decide +kernel
theorem dX6_hear_393 : decode cX6_hear 393 = .ok (.iconst 1, 1) := by decide +kernel
theorem dX6_hear_394 : decode cX6_hear 394 = .ok (.iadd, 1) := by decide +kernel
theorem dX6_hear_395 : decode cX6_hear 395 = .ok (.iastore, 1) := by decide +kernel
theorem dX6_hear_396 : decode cX6_hear 396 = .ok (.iload 6, 2) := by decide +kernel
theorem dX6_hear_398 : decode cX6_hear 398 = .ok (.ifCond .eq 23, 3) := by decide +kernel
theorem dX6_hear_401 : decode cX6_hear 401 = .ok (.iload 6, 2) := by decide +kernel
theorem dX6_hear_403 : decode cX6_hear 403 = .ok (.iconst 4, 1) := by decide +kernel
theorem dX6_hear_404 : decode cX6_hear 404 = .ok (.if_icmp .eq 17, 3) := by decide +kernel
theorem dX6_hear_407 : decode cX6_hear 407 = .ok (.iload 6, 2) := by decide +kernel
theorem dX6_hear_409 : decode cX6_hear 409 = .ok (.bipush 16, 2) := by decide +kernel
theorem dX6_hear_411 : decode cX6_hear 411 = .ok (.if_icmp .eq 10, 3) := by decide +kernel
theorem dX6_hear_414 : decode cX6_hear 414 = .ok (.iload 6, 2) := by decide +kernel
theorem dX6_hear_416 : decode cX6_hear 416 = .ok (.bipush 20, 2) := by decide +kernel
theorem dX6_hear_418 : decode cX6_hear 418 = .ok (.if_icmp .ne 31, 3) := by decide +kernel
theorem dX6_hear_421 : decode cX6_hear 421 = .ok (.aload_n 0, 1) := by decide +kernel
theorem dX6_hear_422 : decode cX6_hear 422 = .ok (.getfield 129, 3) := by decide +kernel
theorem dX6_hear_425 : decode cX6_hear 425 = .ok (.aload_n 0, 1) := by decide +kernel
theorem dX6_hear_426 : decode cX6_hear 426 = .ok (.iload 10, 2) := by decide +kernel
theorem dX6_hear_428 : decode cX6_hear 428 = .ok (.iconst 4, 1) := by decide +kernel
theorem dX6_hear_429 : decode cX6_hear 429 = .ok (.invokevirtual 284, 3) := by decide +kernel
theorem dX6_hear_432 : decode cX6_hear 432 = .ok (.aload_n 0, 1) := by decide +kernel
theorem dX6_hear_433 : decode cX6_hear 433 = .ok (.aload_n 0, 1) := by decide +kernel
theorem dX6_hear_434 : decode cX6_hear 434 = .ok (.aload_n 0, 1) := by decide +kernel
theorem dX6_hear_435 : decode cX6_hear 435 = .ok (.getfield 133, 3) := by decide +kernel
theorem dX6_hear_438 : decode cX6_hear 438 = .ok (.bipush 20, 2) := by decide +kernel
theorem dX6_hear_440 : decode cX6_hear 440 = .ok (.bipush 32, 2) := by decide +kernel
theorem dX6_hear_442 : decode cX6_hear 442 = .ok (.invokevirtual 156, 3) := by decide +kernel
theorem dX6_hear_445 : decode cX6_hear 445 = .ok (.invokevirtual 310, 3) := by decide +kernel
theorem dX6_hear_448 : decode cX6_hear 448 = .ok (.iastore, 1) := by decide +kernel
theorem dX6_hear_449 : decode cX6_hear 449 = .ok (.iload 6, 2) := by decide +kernel
theorem dX6_hear_451 : decode cX6_hear 451 = .ok (.iconst 5, 1) := by decide +kernel
theorem dX6_hear_452 : decode cX6_hear 452 = .ok (.if_icmp .eq 10, 3) := by decide +kernel
theorem dX6_hear_455 : decode cX6_hear 455 = .ok (.iload 6, 2) := by decide +kernel
theorem dX6_hear_457 : decode cX6_hear 457 = .ok (.bipush 21, 2) := by decide +kernel
theorem dX6_hear_459 : decode cX6_hear 459 = .ok (.if_icmp .ne 31, 3) := by decide +kernel
theorem dX6_hear_462 : decode cX6_hear 462 = .ok (.aload_n 0, 1) := by decide +kernel
theorem dX6_hear_463 : decode cX6_hear 463 = .ok (.getfield 129, 3) := by decide +kernel
theorem dX6_hear_466 : decode cX6_hear 466 = .ok (.aload_n 0, 1) := by decide +kernel
theorem dX6_hear_467 : decode cX6_hear 467 = .ok (.iload 10, 2) := by decide +kernel
theorem dX6_hear_469 : decode cX6_hear 469 = .ok (.iconst 5, 1) := by decide +kernel
theorem dX6_hear_470 : decode cX6_hear 470 = .ok (.invokevirtual 284, 3) := by decide +kernel
theorem dX6_hear_473 : decode cX6_hear 473 = .ok (.aload_n 0, 1) := by decide +kernel
theorem dX6_hear_474 : decode cX6_hear 474 = .ok (.aload_n 0, 1) := by decide +kernel
theorem dX6_hear_475 : decode cX6_hear 475 = .ok (.aload_n 0, 1) := by decide +kernel
theorem dX6_hear_476 : decode cX6_hear 476 = .ok (.getfield 133, 3) := by decide +kernel
theorem dX6_hear_479 : decode cX6_hear 479 = .ok (.bipush 20, 2) := by decide +kernel
theorem dX6_hear_481 : decode cX6_hear 481 = .ok (.bipush 32, 2) := by decide +kernel
theorem dX6_hear_483 : decode cX6_hear 483 = .ok (.invokevirtual 156, 3) := by decide +kernel
theorem dX6_hear_486 : decode cX6_hear 486 = .ok (.invokevirtual 313, 3) := by decide +kernel
theorem dX6_hear_489 : decode cX6_hear 489 = .ok (.iastore, 1) := by decide +kernel
theorem dX6_hear_490 : decode cX6_hear 490 = .ok (.iload 6, 2) := by decide +kernel
theorem dX6_hear_492 : decode cX6_hear 492 = .ok (.bipush 17, 2) := by decide +kernel
theorem dX6_hear_494 : decode cX6_hear 494 = .ok (.if_icmp .eq 10, 3) := by decide +kernel
theorem dX6_hear_497 : decode cX6_hear 497 = .ok (.iload 6, 2) := by decide +kernel
theorem dX6_hear_499 : decode cX6_hear 499 = .ok (.bipush 18, 2) := by decide +kernel
theorem dX6_hear_501 : decode cX6_hear 501 = .ok (.if_icmp .ne 11, 3) := by decide +kernel
theorem dX6_hear_504 : decode cX6_hear 504 = .ok (.aload_n 0, 1) := by decide +kernel
theorem dX6_hear_505 : decode cX6_hear 505 = .ok (.iload 10, 2) := by decide +kernel
theorem dX6_hear_507 : decode cX6_hear 507 = .ok (.iload 5, 2) := by decide +kernel
theorem dX6_hear_509 : decode cX6_hear 509 = .ok (.invokevirtual 316, 3) := by decide +kernel
theorem dX6_hear_512 : decode cX6_hear 512 = .ok (.iload 8, 2) := by decide +kernel
theorem dX6_hear_514 : decode cX6_hear 514 = .ok (.ifCond .ge 7, 3) := by decide +kernel
theorem dX6_hear_517 : decode cX6_hear 517 = .ok (.iconst 0, 1) := by decide +kernel
theorem dX6_hear_518 : decode cX6_hear 518 = .ok (.goto 4, 3) := by decide +kernel
theorem dX6_hear_521 : decode cX6_hear 521 = .ok (.iconst 1, 1) := by decide +kernel
theorem dX6_hear_522 : decode cX6_hear 522 = .ok (.ireturn, 1) := by decide +kernel
theorem dX6_tells_0 : decode cX6_tells 0 = .ok (.aload_n 0, 1) := by decide +kernel
theorem dX6_tells_1 : decode cX6_tells 1 = .ok (.iconst 1, 1) := by decide +kernel
theorem dX6_tells_2 : decode cX6_tells 2 = .ok (.iconst 5, 1) := by decide +kernel
theorem dX6_tells_3 : decode cX6_tells 3 = .ok (.invokevirtual 320, 3) := by decide +kernel
theorem dX6_tells_6 : decode cX6_tells 6 = .ok (.istore_n 3, 1) := by decide +kernel
theorem dX6_tells_7 : decode cX6_tells 7 = .ok (.aload_n 0, 1) := by decide +kernel
theorem dX6_tells_8 : decode cX6_tells 8 = .ok (.bipush 6, 2) := by decide +kernel
theorem dX6_tells_10 : decode cX6_tells 10 = .ok (.bipush 8, 2) := by decide +kernel
theorem dX6_tells_12 : decode cX6_tells 12 = .ok (.invokevirtual 320, 3) := by decide +kernel
theorem dX6_tells_15 : decode cX6_tells 15 = .ok (.istore 4, 2) := by decide +kernel
theorem dX6_tells_17 : decode cX6_tells 17 = .ok (.iload_n 3, 1) := by decide +kernel
theorem dX6_tells_18 : decode cX6_tells 18 = .ok (.iconst 1, 1) := by decide +kernel
theorem dX6_tells_19 : decode cX6_tells 19 = .ok (.if_icmp .lt 147, 3) := by decide +kernel
theorem dX6_tells_22 : decode cX6_tells 22 = .ok (.iload_n 3, 1) := by decide +kernel
theorem dX6_tells_23 : decode cX6_tells 23 = .ok (.iconst 4, 1) := by decide +kernel
theorem dX6_tells_24 : decode cX6_tells 24 = .ok (.if_icmp .gt 142, 3) := by decide +kernel
theorem dX6_tells_27 : decode cX6_tells 27 = .ok (.aload_n 0, 1) := by decide +kernel
theorem dX6_tells_28 : decode cX6_tells 28 = .ok (.getfield 129, 3) := by decide +kernel
theorem dX6_tells_31 : decode cX6_tells 31 = .ok (.aload_n 0, 1) := by decide +kernel
theorem dX6_tells_32 : decode cX6_tells 32 = .ok (.iload_n 1, 1) := by decide +kernel
theorem dX6_tells_33 : decode cX6_tells 33 = .ok (.bipush 6, 2) := by decide +kernel
theorem dX6_tells_35 : decode cX6_tells 35 = .ok (.invokevirtual 284, 3) := by decide +kernel
theorem dX6_tells_38 : decode cX6_tells 38 = .ok (.bipush 10, 2) := by decide +kernel
theorem dX6_tells_40 : decode cX6_tells 40 = .ok (.iconst 5, 1) := by decide +kernel
theorem dX6_tells_41 : decode cX6_tells 41 = .ok (.iload_n 3, 1) := by decide +kernel
theorem dX6_tells_42 : decode cX6_tells 42 = .ok (.isub, 1) := by decide +kernel
theorem dX6_tells_43 : decode cX6_tells 43 = .ok (.imul, 1) := by decide +kernel
theorem dX6_tells_44 : decode cX6_tells 44 = .ok (.iload 4, 2) := by decide +kernel
theorem dX6_tells_46 : decode cX6_tells 46 = .ok (.iadd, 1) := by decide +kernel
theorem dX6_tells_47 : decode cX6_tells 47 = .ok (.iastore, 1) := by decide +kernel
theorem dX6_tells_48 : decode cX6_tells 48 = .ok (.aload_n 0, 1) := by decide +kernel
theorem dX6_tells_49 : decode cX6_tells 49 = .ok (.getfield 129, 3) := by decide +kernel
theorem dX6_tells_52 : decode cX6_tells 52 = .ok (.aload_n 0, 1) := by decide +kernel
theorem dX6_tells_53 : decode cX6_tells 53 = .ok (.iload_n 1, 1) := by decide +kernel
theorem dX6_tells_54 : decode cX6_tells 54 = .ok (.bipush 18, 2) := by decide +kernel
theorem dX6_tells_56 : decode cX6_tells 56 = .ok (.invokevirtual 284, 3) := by decide +kernel
theorem dX6_tells_59 : decode cX6_tells 59 = .ok (.iconst 1, 1) := by decide +kernel
theorem dX6_tells_60 : decode cX6_tells 60 = .ok (.iastore, 1) := by decide +kernel
theorem dX6_tells_61 : decode cX6_tells 61 = .ok (.iconst 0, 1) := by decide +kernel
theorem dX6_tells_62 : decode cX6_tells 62 = .ok (.istore 5, 2) := by decide +kernel
theorem dX6_tells_64 : decode cX6_tells 64 = .ok (.iload 5, 2) := by decide +kernel
theorem dX6_tells_66 : decode cX6_tells 66 = .ok (.bipush 8, 2) := by decide +kernel
theorem dX6_tells_68 : decode cX6_tells 68 = .ok (.if_icmp .ge 95, 3) := by decide +kernel
theorem dX6_tells_71 : decode cX6_tells 71 = .ok (.aload_n 0, 1) := by decide +kernel
theorem dX6_tells_72 : decode cX6_tells 72 = .ok (.bipush 9, 2) := by decide +kernel
theorem dX6_tells_74 : decode cX6_tells 74 = .ok (.bipush 6, 2) := by decide +kernel
theorem dX6_tells_76 : decode cX6_tells 76 = .ok (.iload 5, 2) := by decide +kernel
theorem dX6_tells_78 : decode cX6_tells 78 = .ok (.imul, 1) := by decide +kernel
theorem dX6_tells_79 : decode cX6_tells 79 = .ok (.iadd, 1) := by decide +kernel
theorem dX6_tells_80 : decode cX6_tells 80 = .ok (.bipush 14, 2) := by decide +kernel
theorem dX6_tells_82 : decode cX6_tells 82 = .ok (.bipush 6, 2) := by decide +kernel
theorem dX6_tells_84 : decode cX6_tells 84 = .ok (.iload 5, 2) := by decide +kernel
theorem dX6_tells_86 : decode cX6_tells 86 = .ok (.imul, 1) := by decide +kernel
theorem dX6_tells_87 : decode cX6_tells 87 = .ok (.iadd, 1) := by decide +kernel
theorem dX6_tells_88 : decode cX6_tells 88 = .ok (.invokevirtual 320, 3) := by decide +kernel
theorem dX6_tells_91 : decode cX6_tells 91 = .ok (.istore 6, 2) := by decide +kernel
theorem dX6_tells_93 : decode cX6_tells 93 = .ok (.aload_n 0, 1) := by decide +kernel
theorem dX6_tells_94 : decode cX6_tells 94 = .ok (.getfield 129, 3) := by decide +kernel
theorem dX6_tells_97 : decode cX6_tells 97 = .ok (.aload_n 0, 1) := by decide +kernel
theorem dX6_tells_98 : decode cX6_tells 98 = .ok (.iload_n 1, 1) := by decide +kernel
theorem dX6_tells_99 : decode cX6_tells 99 = .ok (.bipush 19, 2) := by decide +kernel
theorem dX6_tells_101 : decode cX6_tells 101 = .ok (.iload 5, 2) := by decide +kernel
theorem dX6_tells_103 : decode cX6_tells 103 = .ok (.iadd, 1) := by decide +kernel
theorem dX6_tells_104 : decode cX6_tells 104 = .ok (.invokevirtual 284, 3) := by decide +kernel
theorem dX6_tells_107 : decode cX6_tells 107 = .ok (.iload 6, 2) := by decide +kernel
theorem dX6_tells_109 : decode cX6_tells 109 = .ok (.iconst 1, 1) := by decide +kernel
theorem dX6_tells_110 : decode cX6_tells 110 = .ok (.if_icmp .lt 18, 3) := by decide +kernel
theorem dX6_tells_113 : decode cX6_tells 113 = .ok (.iload 6, 2) := by decide +kernel
theorem dX6_tells_115 : decode cX6_tells 115 = .ok (.bipush 26, 2) := by decide +kernel
theorem dX6_tells_117 : decode cX6_tells 117 = .ok (.if_icmp .gt 11, 3) := by decide +kernel
theorem dX6_tells_120 : decode cX6_tells 120 = .ok (.bipush 64, 2) := by decide +kernel
theorem dX6_tells_122 : decode cX6_tells 122 = .ok (.iload 6, 2) := by decide +kernel
theorem dX6_tells_124 : decode cX6_tells 124 = .ok (.iadd, 1) := by decide +kernel
theorem dX6_tells_125 : decode cX6_tells 125 = .ok (.goto 31, 3) := by decide +kernel
theorem dX6_tells_128 : decode cX6_tells 128 = .ok (.iload 6, 2) := by decide +kernel
theorem dX6_tells_130 : decode cX6_tells 130 = .ok (.bipush 32, 2) := by decide +kernel
theorem dX6_tells_132 : decode cX6_tells 132 = .ok (.if_icmp .eq 17, 3) := by decide +kernel
theorem dX6_tells_135 : decode cX6_tells 135 = .ok (.iload 6, 2) := by decide +kernel
theorem dX6_tells_137 : decode cX6_tells 137 = .ok (.bipush 48, 2) := by decide +kernel
theorem dX6_tells_139 : decode cX6_tells 139 = .ok (.if_icmp .lt 15, 3) := by decide +kernel
theorem dX6_tells_142 : decode cX6_tells 142 = .ok (.iload 6, 2) := by decide +kernel
theorem dX6_tells_144 : decode cX6_tells 144 = .ok (.bipush 57, 2) := by decide +kernel
theorem dX6_tells_146 : decode cX6_tells 146 = .ok (.if_icmp .gt 8, 3) := by decide +kernel
theorem dX6_tells_149 : decode cX6_tells 149 = .ok (.iload 6, 2) := by decide +kernel
theorem dX6_tells_151 : decode cX6_tells 151 = .ok (.goto 5, 3) := by decide +kernel
theorem dX6_tells_154 : decode cX6_tells 154 = .ok (.bipush 63, 2) := by decide +kernel
theorem dX6_tells_156 : decode cX6_tells 156 = .ok (.iastore, 1) := by decide +kernel
theorem dX6_tells_157 : decode cX6_tells 157 = .ok (.iinc 5 1, 3) := by decide +kernel
theorem dX6_tells_160 : decode cX6_tells 160 = .ok (.goto (-96), 3) := by decide +kernel
theorem dX6_tells_163 : decode cX6_tells 163 = .ok (.goto 328, 3) := by decide +kernel
theorem dX6_tells_166 : decode cX6_tells 166 = .ok (.iload_n 3, 1) := by decide +kernel
theorem dX6_tells_167 : decode cX6_tells 167 = .ok (.iconst 5, 1) := by decide +kernel
theorem dX6_tells_168 : decode cX6_tells 168 = .ok (.if_icmp .lt 125, 3) := by decide +kernel
theorem dX6_tells_171 : decode cX6_tells 171 = .ok (.iload_n 3, 1) := by decide +kernel
theorem dX6_tells_172 : decode cX6_tells 172 = .ok (.bipush 8, 2) := by decide +kernel
theorem dX6_tells_174 : decode cX6_tells 174 = .ok (.if_icmp .gt 119, 3) := by decide +kernel
theorem dX6_tells_177 : decode cX6_tells 177 = .ok (.aload_n 0, 1) := by decide +kernel
theorem dX6_tells_178 : decode cX6_tells 178 = .ok (.getfield 129, 3) := by decide +kernel
theorem dX6_tells_181 : decode cX6_tells 181 = .ok (.aload_n 0, 1) := by decide +kernel
theorem dX6_tells_182 : decode cX6_tells 182 = .ok (.iload_n 1, 1) := by decide +kernel
theorem dX6_tells_183 : decode cX6_tells 183 = .ok (.bipush 9, 2) := by decide +kernel
theorem dX6_tells_185 : decode cX6_tells 185 = .ok (.invokevirtual 284, 3) := by decide +kernel
theorem dX6_tells_188 : decode cX6_tells 188 = .ok (.aload_n 0, 1) := by decide +kernel
theorem dX6_tells_189 : decode cX6_tells 189 = .ok (.aload_n 0, 1) := by decide +kernel
theorem dX6_tells_190 : decode cX6_tells 190 = .ok (.bipush 6, 2) := by decide +kernel
theorem dX6_tells_192 : decode cX6_tells 192 = .ok (.bipush 12, 2) := by decide +kernel
theorem dX6_tells_194 : decode cX6_tells 194 = .ok (.invokevirtual 320, 3) := by decide +kernel
theorem dX6_tells_197 : decode cX6_tells 197 = .ok (.invokevirtual 323, 3) := by decide +kernel
theorem dX6_tells_200 : decode cX6_tells 200 = .ok (.iastore, 1) := by decide +kernel
theorem dX6_tells_201 : decode cX6_tells 201 = .ok (.aload_n 0, 1) := by decide +kernel
theorem dX6_tells_202 : decode cX6_tells 202 = .ok (.getfield 129, 3) := by decide +kernel
theorem dX6_tells_205 : decode cX6_tells 205 = .ok (.aload_n 0, 1) := by decide +kernel
theorem dX6_tells_206 : decode cX6_tells 206 = .ok (.iload_n 1, 1) := by decide +kernel
theorem dX6_tells_207 : decode cX6_tells 207 = .ok (.bipush 10, 2) := by decide +kernel
theorem dX6_tells_209 : decode cX6_tells 209 = .ok (.invokevirtual 284, 3) := by decide +kernel
theorem dX6_tells_212 : decode cX6_tells 212 = .ok (.aload_n 0, 1) := by decide +kernel
theorem dX6_tells_213 : decode cX6_tells 213 = .ok (.bipush 13, 2) := by decide +kernel
theorem dX6_tells_215 : decode cX6_tells 215 = .ok (.bipush 13, 2) := by decide +kernel
theorem dX6_tells_217 : decode cX6_tells 217 = .ok (.invokevirtual 320, 3) := by decide +kernel
theorem dX6_tells_220 : decode cX6_tells 220 = .ok (.ifCond .ne 8, 3) := by decide +kernel
theorem dX6_tells_223 : decode cX6_tells 223 = .ok (.ldc 171, 2) := by decide +kernel
theorem dX6_tells_225 : decode cX6_tells 225 = .ok (.goto 19, 3) := by decide +kernel
theorem dX6_tells_228 : decode cX6_tells 228 = .ok (.ldc_w 326, 3) := by decide +kernel
theorem dX6_tells_231 : decode cX6_tells 231 = .ok (.aload_n 0, 1) := by decide +kernel
theorem dX6_tells_232 : decode cX6_tells 232 = .ok (.bipush 14, 2) := by decide +kernel
theorem dX6_tells_234 : decode cX6_tells 234 = .ok (.bipush 20, 2) := by decide +kernel
theorem dX6_tells_236 : decode cX6_tells 236 = .ok (.invokevirtual 320, 3) := by decide +kernel
theorem dX6_tells_239 : decode cX6_tells 239 = .ok (.imul, 1) := by decide +kernel
theorem dX6_tells_240 : decode cX6_tells 240 = .ok (.sipush 128, 3) := by decide +kernel
theorem dX6_tells_243 : decode cX6_tells 243 = .ok (.idiv, 1) := by decide +kernel
theorem dX6_tells_244 : decode cX6_tells 244 = .ok (.iastore, 1) := by decide +kernel
theorem dX6_tells_245 : decode cX6_tells 245 = .ok (.aload_n 0, 1) := by decide +kernel
theorem dX6_tells_246 : decode cX6_tells 246 = .ok (.getfield 129, 3) := by decide +kernel
theorem dX6_tells_249 : decode cX6_tells 249 = .ok (.aload_n 0, 1) := by decide +kernel
theorem dX6_tells_250 : decode cX6_tells 250 = .ok (.iload_n 1, 1) := by decide +kernel
theorem dX6_tells_251 : decode cX6_tells 251 = .ok (.bipush 14, 2) := by decide +kernel
theorem dX6_tells_253 : decode cX6_tells 253 = .ok (.invokevirtual 284, 3) := by decide +kernel
theorem dX6_tells_256 : decode cX6_tells 256 = .ok (.iconst 1, 1) := by decide +kernel
theorem dX6_tells_257 : decode cX6_tells 257 = .ok (.iastore, 1) := by decide +kernel
theorem dX6_tells_258 : decode cX6_tells 258 = .ok (.aload_n 0, 1) := by decide +kernel
theorem dX6_tells_259 : decode cX6_tells 259 = .ok (.getfield 129, 3) := by decide +kernel
theorem dX6_tells_262 : decode cX6_tells 262 = .ok (.aload_n 0, 1) := by decide +kernel
theorem dX6_tells_263 : decode cX6_tells 263 = .ok (.iload_n 1, 1) := by decide +kernel
theorem dX6_tells_264 : decode cX6_tells 264 = .ok (.bipush 27, 2) := by decide +kernel
theorem dX6_tells_266 : decode cX6_tells 266 = .ok (.invokevirtual 284, 3) := by decide +kernel
theorem dX6_tells_269 : decode cX6_tells 269 = .ok (.iconst 0, 1) := by decide +kernel
theorem dX6_tells_270 : decode cX6_tells 270 = .ok (.iastore, 1) := by decide +kernel
theorem dX6_tells_271 : decode cX6_tells 271 = .ok (.aload_n 0, 1) := by decide +kernel
theorem dX6_tells_272 : decode cX6_tells 272 = .ok (.getfield 129, 3) := by decide +kernel
theorem dX6_tells_275 : decode cX6_tells 275 = .ok (.aload_n 0, 1) := by decide +kernel
theorem dX6_tells_276 : decode cX6_tells 276 = .ok (.iload_n 1, 1) := by decide +kernel
theorem dX6_tells_277 : decode cX6_tells 277 = .ok (.bipush 31, 2) := by decide +kernel
theorem dX6_tells_279 : decode cX6_tells 279 = .ok (.invokevirtual 284, 3) := by decide +kernel
theorem dX6_tells_282 : decode cX6_tells 282 = .ok (.iconst 0, 1) := by decide +kernel
theorem dX6_tells_283 : decode cX6_tells 283 = .ok (.iastore, 1) := by decide +kernel
theorem dX6_tells_284 : decode cX6_tells 284 = .ok (.aload_n 0, 1) := by decide +kernel
theorem dX6_tells_285 : decode cX6_tells 285 = .ok (.iload_n 1, 1) := by decide +kernel
theorem dX6_tells_286 : decode cX6_tells 286 = .ok (.iload_n 2, 1) := by decide +kernel
theorem dX6_tells_287 : decode cX6_tells 287 = .ok (.invokevirtual 327, 3) := by decide +kernel
theorem dX6_tells_290 : decode cX6_tells 290 = .ok (.goto 201, 3) := by decide +kernel
theorem dX6_tells_293 : decode cX6_tells 293 = .ok (.iload_n 3, 1) := by decide +kernel
theorem dX6_tells_294 : decode cX6_tells 294 = .ok (.bipush 9, 2) := by decide +kernel
theorem dX6_tells_296 : decode cX6_tells 296 = .ok (.if_icmp .lt 83, 3) := by decide +kernel
theorem dX6_tells_299 : decode cX6_tells 299 = .ok (.iload_n 3, 1) := by decide +kernel
theorem dX6_tells_300 : decode cX6_tells 300 = .ok (.bipush 22, 2) := by decide +kernel
theorem dX6_tells_302 : decode cX6_tells 302 = .ok (.if_icmp .gt 77, 3) := by decide +kernel
theorem dX6_tells_305 : decode cX6_tells 305 = .ok (.iload_n 3, 1) := by decide +kernel
theorem dX6_tells_306 : decode cX6_tells 306 = .ok (.bipush 19, 2) := by decide +kernel
theorem dX6_tells_308 : decode cX6_tells 308 = .ok (.if_icmp .eq 71, 3) := by decide +kernel
theorem dX6_tells_311 : decode cX6_tells 311 = .ok (.iload_n 3, 1) := by decide +kernel
theorem dX6_tells_312 : decode cX6_tells 312 = .ok (.bipush 19, 2) := by decide +kernel
theorem dX6_tells_314 : decode cX6_tells 314 = .ok (.if_icmp .ge 43, 3) := by decide +kernel
theorem dX6_tells_317 : decode cX6_tells 317 = .ok (.aload_n 0, 1) := by decide +kernel
theorem dX6_tells_318 : decode cX6_tells 318 = .ok (.bipush 9, 2) := by decide +kernel
theorem dX6_tells_320 : decode cX6_tells 320 = .ok (.bipush 20, 2) := by decide +kernel
theorem dX6_tells_322 : decode cX6_tells 322 = .ok (.invokevirtual 320, 3) := by decide +kernel
theorem dX6_tells_325 : decode cX6_tells 325 = .ok (.istore 5, 2) := by decide +kernel
theorem dX6_tells_327 : decode cX6_tells 327 = .ok (.aload_n 0, 1) := by decide +kernel
theorem dX6_tells_328 : decode cX6_tells 328 = .ok (.getfield 129, 3) := by decide +kernel
theorem dX6_tells_331 : decode cX6_tells 331 = .ok (.aload_n 0, 1) := by decide +kernel
theorem dX6_tells_332 : decode cX6_tells 332 = .ok (.iload_n 1, 1) := by decide +kernel
theorem dX6_tells_333 : decode cX6_tells 333 = .ok (.iconst 4, 1) := by decide +kernel
theorem dX6_tells_334 : decode cX6_tells 334 = .ok (.invokevirtual 284, 3) := by decide +kernel
theorem dX6_tells_337 : decode cX6_tells 337 = .ok (.aload_n 0, 1) := by decide +kernel
theorem dX6_tells_338 : decode cX6_tells 338 = .ok (.iload 5, 2) := by decide +kernel
theorem dX6_tells_340 : decode cX6_tells 340 = .ok (.bipush 6, 2) := by decide +kernel
theorem dX6_tells_342 : decode cX6_tells 342 = .ok (.ishr, 1) := by decide +kernel
theorem dX6_tells_343 : decode cX6_tells 343 = .ok (.sipush 128, 3) := by decide +kernel
theorem dX6_tells_346 : decode cX6_tells 346 = .ok (.imul, 1) := by decide +kernel
theorem dX6_tells_347 : decode cX6_tells 347 = .ok (.iload 5, 2) := by decide +kernel
theorem dX6_tells_349 : decode cX6_tells 349 = .ok (.bipush 64, 2) := by decide +kernel
theorem dX6_tells_351 : decode cX6_tells 351 = .ok (.irem, 1) := by decide +kernel
theorem dX6_tells_352 : decode cX6_tells 352 = .ok (.iadd, 1) := by decide +kernel
theorem dX6_tells_353 : decode cX6_tells 353 = .ok (.invokevirtual 310, 3) := by decide +kernel
theorem dX6_tells_356 : decode cX6_tells 356 = .ok (.iastore, 1) := by decide +kernel
theorem dX6_tells_357 : decode cX6_tells 357 = .ok (.aload_n 0, 1) := by decide +kernel
theorem dX6_tells_358 : decode cX6_tells 358 = .ok (.getfield 129, 3) := by decide +kernel
theorem dX6_tells_361 : decode cX6_tells 361 = .ok (.aload_n 0, 1) := by decide +kernel
theorem dX6_tells_362 : decode cX6_tells 362 = .ok (.iload_n 1, 1) := by decide +kernel
theorem dX6_tells_363 : decode cX6_tells 363 = .ok (.bipush 14, 2) := by decide +kernel
theorem dX6_tells_365 : decode cX6_tells 365 = .ok (.invokevirtual 284, 3) := by decide +kernel
theorem dX6_tells_368 : decode cX6_tells 368 = .ok (.iconst 0, 1) := by decide +kernel
theorem dX6_tells_369 : decode cX6_tells 369 = .ok (.iastore, 1) := by decide +kernel
theorem dX6_tells_370 : decode cX6_tells 370 = .ok (.aload_n 0, 1) := by decide +kernel
theorem dX6_tells_371 : decode cX6_tells 371 = .ok (.iload_n 1, 1) := by decide +kernel
theorem dX6_tells_372 : decode cX6_tells 372 = .ok (.iload_n 2, 1) := by decide +kernel
theorem dX6_tells_373 : decode cX6_tells 373 = .ok (.invokevirtual 330, 3) := by decide +kernel
theorem dX6_tells_376 : decode cX6_tells 376 = .ok (.goto 115, 3) := by decide +kernel
theorem dX6_tells_379 : decode cX6_tells 379 = .ok (.iload_n 3, 1) := by decide +kernel
theorem dX6_tells_380 : decode cX6_tells 380 = .ok (.bipush 19, 2) := by decide +kernel
theorem dX6_tells_382 : decode cX6_tells 382 = .ok (.if_icmp .ne 25, 3) := by decide +kernel
theorem dX6_tells_385 : decode cX6_tells 385 = .ok (.iload 4, 2) := by decide +kernel
theorem dX6_tells_387 : decode cX6_tells 387 = .ok (.iconst 1, 1) := by decide +kernel
theorem dX6_tells_388 : decode cX6_tells 388 = .ok (.if_icmp .lt 19, 3) := by decide +kernel
theorem dX6_tells_391 : decode cX6_tells 391 = .ok (.iload 4, 2) := by decide +kernel
theorem dX6_tells_393 : decode cX6_tells 393 = .ok (.iconst 4, 1) := by decide +kernel
theorem dX6_tells_394 : decode cX6_tells 394 = .ok (.if_icmp .gt 13, 3) := by decide +kernel
theorem dX6_tells_397 : decode cX6_tells 397 = .ok (.aload_n 0, 1) := by decide +kernel
theorem dX6_tells_398 : decode cX6_tells 398 = .ok (.iload_n 1, 1) := by decide +kernel
theorem dX6_tells_399 : decode cX6_tells 399 = .ok (.iload 4, 2) := by decide +kernel
theorem dX6_tells_401 : decode cX6_tells 401 = .ok (.invokevirtual 333, 3) := by decide +kernel
theorem dX6_tells_404 : decode cX6_tells 404 = .ok (.goto 87, 3) := by decide +kernel
theorem dX6_tells_407 : decode cX6_tells 407 = .ok (.iload_n 3, 1) := by decide +kernel
theorem dX6_tells_408 : decode cX6_tells 408 = .ok (.bipush 28, 2) := by decide +kernel
theorem dX6_tells_410 : decode cX6_tells 410 = .ok (.if_icmp .ne 55, 3) := by decide +kernel
theorem dX6_tells_413 : decode cX6_tells 413 = .ok (.iload 4, 2) := by decide +kernel
theorem dX6_tells_415 : decode cX6_tells 415 = .ok (.iconst 1, 1) := by decide +kernel
theorem dX6_tells_416 : decode cX6_tells 416 = .ok (.if_icmp .ne 49, 3) := by decide +kernel
theorem dX6_tells_419 : decode cX6_tells 419 = .ok (.aload_n 0, 1) := by decide +kernel
theorem dX6_tells_420 : decode cX6_tells 420 = .ok (.getfield 129, 3) := by decide +kernel
theorem dX6_tells_423 : decode cX6_tells 423 = .ok (.aload_n 0, 1) := by decide +kernel
theorem dX6_tells_424 : decode cX6_tells 424 = .ok (.iload_n 1, 1) := by decide +kernel
theorem dX6_tells_425 : decode cX6_tells 425 = .ok (.bipush 12, 2) := by decide +kernel
theorem dX6_tells_427 : decode cX6_tells 427 = .ok (.invokevirtual 284, 3) := by decide +kernel
theorem dX6_tells_430 : decode cX6_tells 430 = .ok (.aload_n 0, 1) := by decide +kernel
theorem dX6_tells_431 : decode cX6_tells 431 = .ok (.bipush 9, 2) := by decide +kernel
theorem dX6_tells_433 : decode cX6_tells 433 = .ok (.bipush 11, 2) := by decide +kernel
theorem dX6_tells_435 : decode cX6_tells 435 = .ok (.invokevirtual 320, 3) := by decide +kernel
theorem dX6_tells_438 : decode cX6_tells 438 = .ok (.iastore, 1) := by decide +kernel
theorem dX6_tells_439 : decode cX6_tells 439 = .ok (.aload_n 0, 1) := by decide +kernel
theorem dX6_tells_440 : decode cX6_tells 440 = .ok (.getfield 129, 3) := by decide +kernel
theorem dX6_tells_443 : decode cX6_tells 443 = .ok (.aload_n 0, 1) := by decide +kernel
theorem dX6_tells_444 : decode cX6_tells 444 = .ok (.iload_n 1, 1) := by decide +kernel
theorem dX6_tells_445 : decode cX6_tells 445 = .ok (.iconst 5, 1) := by decide +kernel
theorem dX6_tells_446 : decode cX6_tells 446 = .ok (.invokevirtual 284, 3) := by decide +kernel
theorem dX6_tells_449 : decode cX6_tells 449 = .ok (.aload_n 0, 1) := by decide +kernel
theorem dX6_tells_450 : decode cX6_tells 450 = .ok (.aload_n 0, 1) := by decide +kernel
theorem dX6_tells_451 : decode cX6_tells 451 = .ok (.bipush 12, 2) := by decide +kernel
theorem dX6_tells_453 : decode cX6_tells 453 = .ok (.bipush 24, 2) := by decide +kernel
theorem dX6_tells_455 : decode cX6_tells 455 = .ok (.invokevirtual 320, 3) := by decide +kernel
theorem dX6_tells_458 : decode cX6_tells 458 = .ok (.invokevirtual 313, 3) := by decide +kernel
theorem dX6_tells_461 : decode cX6_tells 461 = .ok (.iastore, 1) := by decide +kernel
theorem dX6_tells_462 : decode cX6_tells 462 = .ok (.goto 29, 3) := by decide +kernel
theorem dX6_tells_465 : decode cX6_tells 465 = .ok (.iload_n 3, 1) := by decide +kernel
theorem dX6_tells_466 : decode cX6_tells 466 = .ok (.bipush 31, 2) := by decide +kernel
theorem dX6_tells_468 : decode cX6_tells 468 = .ok (.if_icmp .ne 23, 3) := by decide +kernel
theorem dX6_tells_471 : decode cX6_tells 471 = .ok (.aload_n 0, 1) := by decide +kernel
theorem dX6_tells_472 : decode cX6_tells 472 = .ok (.getfield 129, 3) := by decide +kernel
theorem dX6_tells_475 : decode cX6_tells 475 = .ok (.aload_n 0, 1) := by decide +kernel
theorem dX6_tells_476 : decode cX6_tells 476 = .ok (.iload_n 1, 1) := by decide +kernel
theorem dX6_tells_477 : decode cX6_tells 477 = .ok (.bipush 13, 2) := by decide +kernel
theorem dX6_tells_479 : decode cX6_tells 479 = .ok (.invokevirtual 284, 3) := by decide +kernel
theorem dX6_tells_482 : decode cX6_tells 482 = .ok (.aload_n 0, 1) := by decide +kernel
theorem dX6_tells_483 : decode cX6_tells 483 = .ok (.bipush 41, 2) := by decide +kernel
theorem dX6_tells_485 : decode cX6_tells 485 = .ok (.bipush 43, 2) := by decide +kernel
theorem dX6_tells_487 : decode cX6_tells 487 = .ok (.invokevirtual 320, 3) := by decide +kernel
theorem dX6_tells_490 : decode cX6_tells 490 = .ok (.iastore, 1) := by decide +kernel
theorem dX6_tells_491 : decode cX6_tells 491 = .ok (.return_, 1) := by decide +kernel
theorem dX6_moves_0 : decode cX6_moves 0 = .ok (.iload_n 2, 1) := by decide +kernel
theorem dX6_moves_1 : decode cX6_moves 1 = .ok (.iconst 2, 1) := by decide +kernel
theorem dX6_moves_2 : decode cX6_moves 2 = .ok (.irem, 1) := by decide +kernel
theorem dX6_moves_3 : decode cX6_moves 3 = .ok (.ifCond .ne 7, 3) := by decide +kernel
theorem dX6_moves_6 : decode cX6_moves 6 = .ok (.iconst 4, 1) := by decide +kernel
theorem dX6_moves_7 : decode cX6_moves 7 = .ok (.goto 4, 3) := by decide +kernel
theorem dX6_moves_10 : decode cX6_moves 10 = .ok (.iconst 1, 1) := by decide +kernel
theorem dX6_moves_11 : decode cX6_moves 11 = .ok (.istore_n 3, 1) := by decide +kernel
theorem dX6_moves_12 : decode cX6_moves 12 = .ok (.aload_n 0, 1) := by decide +kernel
theorem dX6_moves_13 : decode cX6_moves 13 = .ok (.bipush 15, 2) := by decide +kernel
theorem dX6_moves_15 : decode cX6_moves 15 = .ok (.bipush 24, 2) := by decide +kernel
theorem dX6_moves_17 : decode cX6_moves 17 = .ok (.invokevirtual 320, 3) := by decide +kernel
theorem dX6_moves_20 : decode cX6_moves 20 = .ok (.istore 4, 2) := by decide +kernel
theorem dX6_moves_22 : decode cX6_moves 22 = .ok (.aload_n 0, 1) := by decide +kernel
theorem dX6_moves_23 : decode cX6_moves 23 = .ok (.bipush 26, 2) := by decide +kernel
theorem dX6_moves_25 : decode cX6_moves 25 = .ok (.bipush 35, 2) := by decide +kernel
theorem dX6_moves_27 : decode cX6_moves 27 = .ok (.invokevirtual 320, 3) := by decide +kernel
theorem dX6_moves_30 : decode cX6_moves 30 = .ok (.istore 5, 2) := by decide +kernel
theorem dX6_moves_32 : decode cX6_moves 32 = .ok (.iload_n 2, 1) := by decide +kernel
theorem dX6_moves_33 : decode cX6_moves 33 = .ok (.iconst 3, 1) := by decide +kernel
theorem dX6_moves_34 : decode cX6_moves 34 = .ok (.if_icmp .ge 150, 3) := by decide +kernel
theorem dX6_moves_37 : decode cX6_moves 37 = .ok (.iload 4, 2) := by decide +kernel
theorem dX6_moves_39 : decode cX6_moves 39 = .ok (.ifCond .ne 8, 3) := by decide +kernel
theorem dX6_moves_42 : decode cX6_moves 42 = .ok (.ldc 171, 2) := by decide +kernel
theorem dX6_moves_44 : decode cX6_moves 44 = .ok (.goto 27, 3) := by decide +kernel
theorem dX6_moves_47 : decode cX6_moves 47 = .ok (.iload_n 3, 1) := by decide +kernel
theorem dX6_moves_48 : decode cX6_moves 48 = .ok (.iload 4, 2) := by decide +kernel
theorem dX6_moves_50 : decode cX6_moves 50 = .ok (.iconst 1, 1) := by decide +kernel
theorem dX6_moves_51 : decode cX6_moves 51 = .ok (.isub, 1) := by decide +kernel
theorem dX6_moves_52 : decode cX6_moves 52 = .ok (.imul, 1) := by decide +kernel
theorem dX6_moves_53 : decode cX6_moves 53 = .ok (.aload_n 0, 1) := by decide +kernel
theorem dX6_moves_54 : decode cX6_moves 54 = .ok (.bipush 14, 2) := by decide +kernel
theorem dX6_moves_56 : decode cX6_moves 56 = .ok (.bipush 14, 2) := by decide +kernel
theorem dX6_moves_58 : decode cX6_moves 58 = .ok (.invokevirtual 320, 3) := by decide +kernel
theorem dX6_moves_61 : decode cX6_moves 61 = .ok (.iconst 1, 1) := by decide +kernel
theorem dX6_moves_62 : decode cX6_moves 62 = .ok (.if_icmp .ne 7, 3) := by decide +kernel
theorem dX6_moves_65 : decode cX6_moves 65 = .ok (.iconst (-1), 1) := by decide +kernel
theorem dX6_moves_66 : decode cX6_moves 66 = .ok (.goto 4, 3) := by decide +kernel
theorem dX6_moves_69 : decode cX6_moves 69 = .ok (.iconst 1, 1) := by decide +kernel
theorem dX6_moves_70 : decode cX6_moves 70 = .ok (.imul, 1) := by decide +kernel
theorem dX6_moves_71 : decode cX6_moves 71 = .ok (.istore 6, 2) := by decide +kernel
theorem dX6_moves_73 : decode cX6_moves 73 = .ok (.iload 5, 2) := by decide +kernel
theorem dX6_moves_75 : decode cX6_moves 75 = .ok (.ifCond .ne 8, 3) := by decide +kernel
theorem dX6_moves_78 : decode cX6_moves 78 = .ok (.ldc 171, 2) := by decide +kernel
theorem dX6_moves_80 : decode cX6_moves 80 = .ok (.goto 27, 3) := by decide +kernel
theorem dX6_moves_83 : decode cX6_moves 83 = .ok (.iload_n 3, 1) := by decide +kernel
theorem dX6_moves_84 : decode cX6_moves 84 = .ok (.iload 5, 2) := by decide +kernel
theorem dX6_moves_86 : decode cX6_moves 86 = .ok (.iconst 1, 1) := by decide +kernel
theorem dX6_moves_87 : decode cX6_moves 87 = .ok (.isub, 1) := by decide +kernel
theorem dX6_moves_88 : decode cX6_moves 88 = .ok (.imul, 1) := by decide +kernel
theorem dX6_moves_89 : decode cX6_moves 89 = .ok (.aload_n 0, 1) := by decide +kernel
theorem dX6_moves_90 : decode cX6_moves 90 = .ok (.bipush 25, 2) := by decide +kernel
theorem dX6_moves_92 : decode cX6_moves 92 = .ok (.bipush 25, 2) := by decide +kernel
theorem dX6_moves_94 : decode cX6_moves 94 = .ok (.invokevirtual 320, 3) := by decide +kernel
theorem dX6_moves_97 : decode cX6_moves 97 = .ok (.iconst 1, 1) := by decide +kernel
theorem dX6_moves_98 : decode cX6_moves 98 = .ok (.if_icmp .ne 7, 3) := by decide +kernel
theorem dX6_moves_101 : decode cX6_moves 101 = .ok (.iconst (-1), 1) := by decide +kernel
theorem dX6_moves_102 : decode cX6_moves 102 = .ok (.goto 4, 3) := by decide +kernel
theorem dX6_moves_105 : decode cX6_moves 105 = .ok (.iconst 1, 1) := by decide +kernel
theorem dX6_moves_106 : decode cX6_moves 106 = .ok (.imul, 1) := by decide +kernel
theorem dX6_moves_107 : decode cX6_moves 107 = .ok (.istore 7, 2) := by decide +kernel
theorem dX6_moves_109 : decode cX6_moves 109 = .ok (.aload_n 0, 1) := by decide +kernel
theorem dX6_moves_110 : decode cX6_moves 110 = .ok (.getfield 129, 3) := by decide +kernel
theorem dX6_moves_113 : decode cX6_moves 113 = .ok (.aload_n 0, 1) := by decide +kernel
theorem dX6_moves_114 : decode cX6_moves 114 = .ok (.iload_n 1, 1) := by decide +kernel
theorem dX6_moves_115 : decode cX6_moves 115 = .ok (.bipush 7, 2) := by decide +kernel
theorem dX6_moves_117 : decode cX6_moves 117 = .ok (.invokevirtual 284, 3) := by decide +kernel
theorem dX6_moves_120 : decode cX6_moves 120 = .ok (.iload 6, 2) := by decide +kernel
theorem dX6_moves_122 : decode cX6_moves 122 = .ok (.iastore, 1) := by decide +kernel
theorem dX6_moves_123 : decode cX6_moves 123 = .ok (.aload_n 0, 1) := by decide +kernel
theorem dX6_moves_124 : decode cX6_moves 124 = .ok (.getfield 129, 3) := by decide +kernel
theorem dX6_moves_127 : decode cX6_moves 127 = .ok (.aload_n 0, 1) := by decide +kernel
theorem dX6_moves_128 : decode cX6_moves 128 = .ok (.iload_n 1, 1) := by decide +kernel
theorem dX6_moves_129 : decode cX6_moves 129 = .ok (.bipush 8, 2) := by decide +kernel
theorem dX6_moves_131 : decode cX6_moves 131 = .ok (.invokevirtual 284, 3) := by decide +kernel
theorem dX6_moves_134 : decode cX6_moves 134 = .ok (.iload 7, 2) := by decide +kernel
theorem dX6_moves_136 : decode cX6_moves 136 = .ok (.iastore, 1) := by decide +kernel
theorem dX6_moves_137 : decode cX6_moves 137 = .ok (.aload_n 0, 1) := by decide +kernel
theorem dX6_moves_138 : decode cX6_moves 138 = .ok (.getfield 129, 3) := by decide +kernel
theorem dX6_moves_141 : decode cX6_moves 141 = .ok (.aload_n 0, 1) := by decide +kernel
theorem dX6_moves_142 : decode cX6_moves 142 = .ok (.iload_n 1, 1) := by decide +kernel
theorem dX6_moves_143 : decode cX6_moves 143 = .ok (.bipush 9, 2) := by decide +kernel
theorem dX6_moves_145 : decode cX6_moves 145 = .ok (.invokevirtual 284, 3) := by decide +kernel
theorem dX6_moves_148 : decode cX6_moves 148 = .ok (.iload 4, 2) := by decide +kernel
theorem dX6_moves_150 : decode cX6_moves 150 = .ok (.ifCond .eq 8, 3) := by decide +kernel
theorem dX6_moves_153 : decode cX6_moves 153 = .ok (.iload 5, 2) := by decide +kernel
theorem dX6_moves_155 : decode cX6_moves 155 = .ok (.ifCond .ne 8, 3) := by decide +kernel
theorem dX6_moves_158 : decode cX6_moves 158 = .ok (.ldc 171, 2) := by decide +kernel
theorem dX6_moves_160 : decode cX6_moves 160 = .ok (.goto 20, 3) := by decide +kernel
theorem dX6_moves_163 : decode cX6_moves 163 = .ok (.bipush 64, 2) := by decide +kernel
theorem dX6_moves_165 : decode cX6_moves 165 = .ok (.iload 6, 2) := by decide +kernel
theorem dX6_moves_167 : decode cX6_moves 167 = .ok (.iload 6, 2) := by decide +kernel
theorem dX6_moves_169 : decode cX6_moves 169 = .ok (.imul, 1) := by decide +kernel
theorem dX6_moves_170 : decode cX6_moves 170 = .ok (.iload 7, 2) := by decide +kernel
theorem dX6_moves_172 : decode cX6_moves 172 = .ok (.iload 7, 2) := by decide +kernel
theorem dX6_moves_174 : decode cX6_moves 174 = .ok (.imul, 1) := by decide +kernel
theorem dX6_moves_175 : decode cX6_moves 175 = .ok (.iadd, 1) := by decide +kernel
theorem dX6_moves_176 : decode cX6_moves 176 = .ok (.imul, 1) := by decide +kernel
theorem dX6_moves_177 : decode cX6_moves 177 = .ok (.invokestatic 336, 3) := by decide +kernel
theorem dX6_moves_180 : decode cX6_moves 180 = .ok (.iastore, 1) := by decide +kernel
theorem dX6_moves_181 : decode cX6_moves 181 = .ok (.goto 72, 3) := by decide +kernel
theorem dX6_moves_184 : decode cX6_moves 184 = .ok (.aload_n 0, 1) := by decide +kernel
theorem dX6_moves_185 : decode cX6_moves 185 = .ok (.getfield 129, 3) := by decide +kernel
theorem dX6_moves_188 : decode cX6_moves 188 = .ok (.aload_n 0, 1) := by decide +kernel
theorem dX6_moves_189 : decode cX6_moves 189 = .ok (.iload_n 1, 1) := by decide +kernel
theorem dX6_moves_190 : decode cX6_moves 190 = .ok (.bipush 10, 2) := by decide +kernel
theorem dX6_moves_192 : decode cX6_moves 192 = .ok (.invokevirtual 284, 3) := by decide +kernel
theorem dX6_moves_195 : decode cX6_moves 195 = .ok (.aload_n 0, 1) := by decide +kernel
theorem dX6_moves_196 : decode cX6_moves 196 = .ok (.bipush 14, 2) := by decide +kernel
theorem dX6_moves_198 : decode cX6_moves 198 = .ok (.bipush 14, 2) := by decide +kernel
theorem dX6_moves_200 : decode cX6_moves 200 = .ok (.invokevirtual 320, 3) := by decide +kernel
theorem dX6_moves_203 : decode cX6_moves 203 = .ok (.ifCond .ne 8, 3) := by decide +kernel
theorem dX6_moves_206 : decode cX6_moves 206 = .ok (.ldc 171, 2) := by decide +kernel
theorem dX6_moves_208 : decode cX6_moves 208 = .ok (.goto 13, 3) := by decide +kernel
theorem dX6_moves_211 : decode cX6_moves 211 = .ok (.ldc_w 326, 3) := by decide +kernel
theorem dX6_moves_214 : decode cX6_moves 214 = .ok (.iload 4, 2) := by decide +kernel
theorem dX6_moves_216 : decode cX6_moves 216 = .ok (.imul, 1) := by decide +kernel
theorem dX6_moves_217 : decode cX6_moves 217 = .ok (.sipush 1024, 3) := by decide +kernel
theorem dX6_moves_220 : decode cX6_moves 220 = .ok (.idiv, 1) := by decide +kernel
theorem dX6_moves_221 : decode cX6_moves 221 = .ok (.iastore, 1) := by decide +kernel
theorem dX6_moves_222 : decode cX6_moves 222 = .ok (.aload_n 0, 1) := by decide +kernel
theorem dX6_moves_223 : decode cX6_moves 223 = .ok (.getfield 129, 3) := by decide +kernel
theorem dX6_moves_226 : decode cX6_moves 226 = .ok (.aload_n 0, 1) := by decide +kernel
theorem dX6_moves_227 : decode cX6_moves 227 = .ok (.iload_n 1, 1) := by decide +kernel
theorem dX6_moves_228 : decode cX6_moves 228 = .ok (.bipush 9, 2) := by decide +kernel
theorem dX6_moves_230 : decode cX6_moves 230 = .ok (.invokevirtual 284, 3) := by decide +kernel
theorem dX6_moves_233 : decode cX6_moves 233 = .ok (.iload 5, 2) := by decide +kernel
theorem dX6_moves_235 : decode cX6_moves 235 = .ok (.ifCond .ne 8, 3) := by decide +kernel
theorem dX6_moves_238 : decode cX6_moves 238 = .ok (.ldc 171, 2) := by decide +kernel
theorem dX6_moves_240 : decode cX6_moves 240 = .ok (.goto 12, 3) := by decide +kernel
theorem dX6_moves_243 : decode cX6_moves 243 = .ok (.bipush 8, 2) := by decide +kernel
theorem dX6_moves_245 : decode cX6_moves 245 = .ok (.iload_n 3, 1) := by decide +kernel
theorem dX6_moves_246 : decode cX6_moves 246 = .ok (.imul, 1) := by decide +kernel
theorem dX6_moves_247 : decode cX6_moves 247 = .ok (.iload 5, 2) := by decide +kernel
theorem dX6_moves_249 : decode cX6_moves 249 = .ok (.iconst 1, 1) := by decide +kernel
theorem dX6_moves_250 : decode cX6_moves 250 = .ok (.isub, 1) := by decide +kernel
theorem dX6_moves_251 : decode cX6_moves 251 = .ok (.imul, 1) := by decide +kernel
theorem dX6_moves_252 : decode cX6_moves 252 = .ok (.iastore, 1) := by decide +kernel
theorem dX6_moves_253 : decode cX6_moves 253 = .ok (.aload_n 0, 1) := by decide +kernel
theorem dX6_moves_254 : decode cX6_moves 254 = .ok (.bipush 38, 2) := by decide +kernel
theorem dX6_moves_256 : decode cX6_moves 256 = .ok (.bipush 46, 2) := by decide +kernel
theorem dX6_moves_258 : decode cX6_moves 258 = .ok (.invokevirtual 320, 3) := by decide +kernel
theorem dX6_moves_261 : decode cX6_moves 261 = .ok (.istore 6, 2) := by decide +kernel
theorem dX6_moves_263 : decode cX6_moves 263 = .ok (.aload_n 0, 1) := by decide +kernel
theorem dX6_moves_264 : decode cX6_moves 264 = .ok (.getfield 129, 3) := by decide +kernel
theorem dX6_moves_267 : decode cX6_moves 267 = .ok (.aload_n 0, 1) := by decide +kernel
theorem dX6_moves_268 : decode cX6_moves 268 = .ok (.iload_n 1, 1) := by decide +kernel
theorem dX6_moves_269 : decode cX6_moves 269 = .ok (.bipush 11, 2) := by decide +kernel
theorem dX6_moves_271 : decode cX6_moves 271 = .ok (.invokevirtual 284, 3) := by decide +kernel
theorem dX6_moves_274 : decode cX6_moves 274 = .ok (.iload 6, 2) := by decide +kernel
theorem dX6_moves_276 : decode cX6_moves 276 = .ok (.ifCond .ne 8, 3) := by decide +kernel
theorem dX6_moves_279 : decode cX6_moves 279 = .ok (.ldc 171, 2) := by decide +kernel
theorem dX6_moves_281 : decode cX6_moves 281 = .ok (.goto 28, 3) := by decide +kernel
theorem dX6_moves_284 : decode cX6_moves 284 = .ok (.bipush 64, 2) := by decide +kernel
theorem dX6_moves_286 : decode cX6_moves 286 = .ok (.iload 6, 2) := by decide +kernel
theorem dX6_moves_288 : decode cX6_moves 288 = .ok (.iconst 1, 1) := by decide +kernel
theorem dX6_moves_289 : decode cX6_moves 289 = .ok (.isub, 1) := by decide +kernel
theorem dX6_moves_290 : decode cX6_moves 290 = .ok (.imul, 1) := by decide +kernel
theorem dX6_moves_291 : decode cX6_moves 291 = .ok (.aload_n 0, 1) := by decide +kernel
theorem dX6_moves_292 : decode cX6_moves 292 = .ok (.bipush 37, 2) := by decide +kernel
theorem dX6_moves_294 : decode cX6_moves 294 = .ok (.bipush 37, 2) := by decide +kernel
theorem dX6_moves_296 : decode cX6_moves 296 = .ok (.invokevirtual 320, 3) := by decide +kernel
theorem dX6_moves_299 : decode cX6_moves 299 = .ok (.iconst 1, 1) := by decide +kernel
theorem dX6_moves_300 : decode cX6_moves 300 = .ok (.if_icmp .ne 7, 3) := by decide +kernel
theorem dX6_moves_303 : decode cX6_moves 303 = .ok (.iconst (-1), 1) := by decide +kernel
theorem dX6_moves_304 : decode cX6_moves 304 = .ok (.goto 4, 3) := by decide +kernel
theorem dX6_moves_307 : decode cX6_moves 307 = .ok (.iconst 1, 1) := by decide +kernel
theorem dX6_moves_308 : decode cX6_moves 308 = .ok (.imul, 1) := by decide +kernel
theorem dX6_moves_309 : decode cX6_moves 309 = .ok (.iastore, 1) := by decide +kernel
theorem dX6_moves_310 : decode cX6_moves 310 = .ok (.return_, 1) := by decide +kernel
theorem dX6_isFresh_0 : decode cX6_isFresh 0 = .ok (.aload_n 0, 1) := by decide +kernel
theorem dX6_isFresh_1 : decode cX6_isFresh 1 = .ok (.getfield 129, 3) := by decide +kernel
theorem dX6_isFresh_4 : decode cX6_isFresh 4 = .ok (.aload_n 0, 1) := by decide +kernel
theorem dX6_isFresh_5 : decode cX6_isFresh 5 = .ok (.iload_n 1, 1) := by decide +kernel
theorem dX6_isFresh_6 : decode cX6_isFresh 6 = .ok (.bipush 17, 2) := by decide +kernel
theorem dX6_isFresh_8 : decode cX6_isFresh 8 = .ok (.invokevirtual 284, 3) := by decide +kernel
theorem dX6_isFresh_11 : decode cX6_isFresh 11 = .ok (.iaload, 1) := by decide +kernel
theorem dX6_isFresh_12 : decode cX6_isFresh 12 = .ok (.ldc 171, 2) := by decide +kernel
theorem dX6_isFresh_14 : decode cX6_isFresh 14 = .ok (.if_icmp .eq 27, 3) := by decide +kernel
theorem dX6_isFresh_17 : decode cX6_isFresh 17 = .ok (.iload_n 2, 1) := by decide +kernel
theorem dX6_isFresh_18 : decode cX6_isFresh 18 = .ok (.aload_n 0, 1) := by decide +kernel
theorem dX6_isFresh_19 : decode cX6_isFresh 19 = .ok (.getfield 129, 3) := by decide +kernel
theorem dX6_isFresh_22 : decode cX6_isFresh 22 = .ok (.aload_n 0, 1) := by decide +kernel
theorem dX6_isFresh_23 : decode cX6_isFresh 23 = .ok (.iload_n 1, 1) := by decide +kernel
theorem dX6_isFresh_24 : decode cX6_isFresh 24 = .ok (.bipush 17, 2) := by decide +kernel
theorem dX6_isFresh_26 : decode cX6_isFresh 26 = .ok (.invokevirtual 284, 3) := by decide +kernel
theorem dX6_isFresh_29 : decode cX6_isFresh 29 = .ok (.iaload, 1) := by decide +kernel
theorem dX6_isFresh_30 : decode cX6_isFresh 30 = .ok (.isub, 1) := by decide +kernel
theorem dX6_isFresh_31 : decode cX6_isFresh 31 = .ok (.sipush 300, 3) := by decide +kernel
theorem dX6_isFresh_34 : decode cX6_isFresh 34 = .ok (.if_icmp .gt 7, 3) := by decide +kernel
theorem dX6_isFresh_37 : decode cX6_isFresh 37 = .ok (.iconst 1, 1) := by decide +kernel
theorem dX6_isFresh_38 : decode cX6_isFresh 38 = .ok (.goto 4, 3) := by decide +kernel
theorem dX6_isFresh_41 : decode cX6_isFresh 41 = .ok (.iconst 0, 1) := by decide +kernel
theorem dX6_isFresh_42 : decode cX6_isFresh 42 = .ok (.ireturn, 1) := by decide +kernel
theorem dX6_toldNow_0 : decode cX6_toldNow 0 = .ok (.aload_n 0, 1) := by decide +kernel
theorem dX6_toldNow_1 : decode cX6_toldNow 1 = .ok (.bipush 23, 2) := by decide +kernel
theorem dX6_toldNow_3 : decode cX6_toldNow 3 = .ok (.bipush 39, 2) := by decide +kernel
theorem dX6_toldNow_5 : decode cX6_toldNow 5 = .ok (.invokevirtual 320, 3) := by decide +kernel
theorem dX6_toldNow_8 : decode cX6_toldNow 8 = .ok (.i2l, 1) := by decide +kernel
theorem dX6_toldNow_9 : decode cX6_toldNow 9 = .ok (.ldc2_w 200, 3) := by decide +kernel
theorem dX6_toldNow_12 : decode cX6_toldNow 12 = .ok (.lmul, 1) := by decide +kernel
theorem dX6_toldNow_13 : decode cX6_toldNow 13 = .ok (.aload_n 0, 1) := by decide +kernel
theorem dX6_toldNow_14 : decode cX6_toldNow 14 = .ok (.bipush 40, 2) := by decide +kernel
theorem dX6_toldNow_16 : decode cX6_toldNow 16 = .ok (.bipush 56, 2) := by decide +kernel
theorem dX6_toldNow_18 : decode cX6_toldNow 18 = .ok (.invokevirtual 320, 3) := by decide +kernel
theorem dX6_toldNow_21 : decode cX6_toldNow 21 = .ok (.i2l, 1) := by decide +kernel
theorem dX6_toldNow_22 : decode cX6_toldNow 22 = .ok (.ladd, 1) := by decide +kernel
theorem dX6_toldNow_23 : decode cX6_toldNow 23 = .ok (.lreturn, 1) := by decide +kernel
theorem dX6_comes_0 : decode cX6_comes 0 = .ok (.iload_n 3, 1) := by decide +kernel
theorem dX6_comes_1 : decode cX6_comes 1 = .ok (.ifCond .ne 4, 3) := by decide +kernel
theorem dX6_comes_4 : decode cX6_comes 4 = .ok (.return_, 1) := by decide +kernel
theorem dX6_comes_5 : decode cX6_comes 5 = .ok (.aload_n 0, 1) := by decide +kernel
theorem dX6_comes_6 : decode cX6_comes 6 = .ok (.getfield 129, 3) := by decide +kernel
theorem dX6_comes_9 : decode cX6_comes 9 = .ok (.aload_n 0, 1) := by decide +kernel
theorem dX6_comes_10 : decode cX6_comes 10 = .ok (.iload_n 1, 1) := by decide +kernel
theorem dX6_comes_11 : decode cX6_comes 11 = .ok (.bipush 15, 2) := by decide +kernel
theorem dX6_comes_13 : decode cX6_comes 13 = .ok (.invokevirtual 284, 3) := by decide +kernel
theorem dX6_comes_16 : decode cX6_comes 16 = .ok (.aload_n 0, 1) := by decide +kernel
theorem dX6_comes_17 : decode cX6_comes 17 = .ok (.getfield 243, 3) := by decide +kernel
theorem dX6_comes_20 : decode cX6_comes 20 = .ok (.iastore, 1) := by decide +kernel
theorem dX6_comes_21 : decode cX6_comes 21 = .ok (.aload_n 0, 1) := by decide +kernel
theorem dX6_comes_22 : decode cX6_comes 22 = .ok (.getfield 129, 3) := by decide +kernel
theorem dX6_comes_25 : decode cX6_comes 25 = .ok (.aload_n 0, 1) := by decide +kernel
theorem dX6_comes_26 : decode cX6_comes 26 = .ok (.iload_n 1, 1) := by decide +kernel
theorem dX6_comes_27 : decode cX6_comes 27 = .ok (.bipush 16, 2) := by decide +kernel
theorem dX6_comes_29 : decode cX6_comes 29 = .ok (.invokevirtual 284, 3) := by decide +kernel
theorem dX6_comes_32 : decode cX6_comes 32 = .ok (.aload_n 0, 1) := by decide +kernel
theorem dX6_comes_33 : decode cX6_comes 33 = .ok (.getfield 246, 3) := by decide +kernel
theorem dX6_comes_36 : decode cX6_comes 36 = .ok (.iastore, 1) := by decide +kernel
theorem dX6_comes_37 : decode cX6_comes 37 = .ok (.aload_n 0, 1) := by decide +kernel
theorem dX6_comes_38 : decode cX6_comes 38 = .ok (.getfield 129, 3) := by decide +kernel
theorem dX6_comes_41 : decode cX6_comes 41 = .ok (.aload_n 0, 1) := by decide +kernel
theorem dX6_comes_42 : decode cX6_comes 42 = .ok (.iload_n 1, 1) := by decide +kernel
theorem dX6_comes_43 : decode cX6_comes 43 = .ok (.bipush 17, 2) := by decide +kernel
theorem dX6_comes_45 : decode cX6_comes 45 = .ok (.invokevirtual 284, 3) := by decide +kernel
theorem dX6_comes_48 : decode cX6_comes 48 = .ok (.iload_n 2, 1) := by decide +kernel
theorem dX6_comes_49 : decode cX6_comes 49 = .ok (.iastore, 1) := by decide +kernel
theorem dX6_comes_50 : decode cX6_comes 50 = .ok (.return_, 1) := by decide +kernel
theorem dX6_onGround_0 : decode cX6_onGround 0 = .ok (.aload_n 0, 1) := by decide +kernel
theorem dX6_onGround_1 : decode cX6_onGround 1 = .ok (.bipush 22, 2) := by decide +kernel
theorem dX6_onGround_3 : decode cX6_onGround 3 = .ok (.bipush 22, 2) := by decide +kernel
theorem dX6_onGround_5 : decode cX6_onGround 5 = .ok (.invokevirtual 320, 3) := by decide +kernel
theorem dX6_onGround_8 : decode cX6_onGround 8 = .ok (.iconst 1, 1) := by decide +kernel
theorem dX6_onGround_9 : decode cX6_onGround 9 = .ok (.if_icmp .ne 7, 3) := by decide +kernel
theorem dX6_onGround_12 : decode cX6_onGround 12 = .ok (.iconst 1, 1) := by decide +kernel
theorem dX6_onGround_13 : decode cX6_onGround 13 = .ok (.goto 4, 3) := by decide +kernel
theorem dX6_onGround_16 : decode cX6_onGround 16 = .ok (.iconst 0, 1) := by decide +kernel
theorem dX6_onGround_17 : decode cX6_onGround 17 = .ok (.istore_n 3, 1) := by decide +kernel
theorem dX6_onGround_18 : decode cX6_onGround 18 = .ok (.aload_n 0, 1) := by decide +kernel
theorem dX6_onGround_19 : decode cX6_onGround 19 = .ok (.iload_n 1, 1) := by decide +kernel
theorem dX6_onGround_20 : decode cX6_onGround 20 = .ok (.iload_n 2, 1) := by decide +kernel
theorem dX6_onGround_21 : decode cX6_onGround 21 = .ok (.invokevirtual 339, 3) := by decide +kernel
theorem dX6_onGround_24 : decode cX6_onGround 24 = .ok (.ifCond .eq 46, 3) := by decide +kernel
theorem dX6_onGround_27 : decode cX6_onGround 27 = .ok (.aload_n 0, 1) := by decide +kernel
theorem dX6_onGround_28 : decode cX6_onGround 28 = .ok (.iload_n 1, 1) := by decide +kernel
theorem dX6_onGround_29 : decode cX6_onGround 29 = .ok (.iload_n 2, 1) := by decide +kernel
theorem dX6_onGround_30 : decode cX6_onGround 30 = .ok (.aload_n 0, 1) := by decide +kernel
theorem dX6_onGround_31 : decode cX6_onGround 31 = .ok (.aload_n 0, 1) := by decide +kernel
theorem dX6_onGround_32 : decode cX6_onGround 32 = .ok (.invokevirtual 342, 3) := by decide +kernel
theorem dX6_onGround_35 : decode cX6_onGround 35 = .ok (.iconst 1, 1) := by decide +kernel
theorem dX6_onGround_36 : decode cX6_onGround 36 = .ok (.iload_n 3, 1) := by decide +kernel
theorem dX6_onGround_37 : decode cX6_onGround 37 = .ok (.aload_n 0, 1) := by decide +kernel
theorem dX6_onGround_38 : decode cX6_onGround 38 = .ok (.getfield 129, 3) := by decide +kernel
theorem dX6_onGround_41 : decode cX6_onGround 41 = .ok (.aload_n 0, 1) := by decide +kernel
theorem dX6_onGround_42 : decode cX6_onGround 42 = .ok (.iload_n 1, 1) := by decide +kernel
theorem dX6_onGround_43 : decode cX6_onGround 43 = .ok (.bipush 15, 2) := by decide +kernel
theorem dX6_onGround_45 : decode cX6_onGround 45 = .ok (.invokevirtual 284, 3) := by decide +kernel
theorem dX6_onGround_48 : decode cX6_onGround 48 = .ok (.iaload, 1) := by decide +kernel
theorem dX6_onGround_49 : decode cX6_onGround 49 = .ok (.aload_n 0, 1) := by decide +kernel
theorem dX6_onGround_50 : decode cX6_onGround 50 = .ok (.getfield 129, 3) := by decide +kernel
theorem dX6_onGround_53 : decode cX6_onGround 53 = .ok (.aload_n 0, 1) := by decide +kernel
theorem dX6_onGround_54 : decode cX6_onGround 54 = .ok (.iload_n 1, 1) := by decide +kernel
theorem dX6_onGround_55 : decode cX6_onGround 55 = .ok (.bipush 16, 2) := by decide +kernel
theorem dX6_onGround_57 : decode cX6_onGround 57 = .ok (.invokevirtual 284, 3) := by decide +kernel
theorem dX6_onGround_60 : decode cX6_onGround 60 = .ok (.iaload, 1) := by decide +kernel
theorem dX6_onGround_61 : decode cX6_onGround 61 = .ok (.invokevirtual 267, 3) := by decide +kernel
theorem dX6_onGround_64 : decode cX6_onGround 64 = .ok (.invokevirtual 346, 3) := by decide +kernel
theorem dX6_onGround_67 : decode cX6_onGround 67 = .ok (.goto 34, 3) := by decide +kernel
theorem dX6_onGround_70 : decode cX6_onGround 70 = .ok (.aload_n 0, 1) := by decide +kernel
theorem dX6_onGround_71 : decode cX6_onGround 71 = .ok (.getfield 271, 3) := by decide +kernel
theorem dX6_onGround_74 : decode cX6_onGround 74 = .ok (.ifCond .eq 27, 3) := by decide +kernel
theorem dX6_onGround_77 : decode cX6_onGround 77 = .ok (.aload_n 0, 1) := by decide +kernel
theorem dX6_onGround_78 : decode cX6_onGround 78 = .ok (.iload_n 1, 1) := by decide +kernel
theorem dX6_onGround_79 : decode cX6_onGround 79 = .ok (.iload_n 2, 1) := by decide +kernel
theorem dX6_onGround_80 : decode cX6_onGround 80 = .ok (.aload_n 0, 1) := by decide +kernel
theorem dX6_onGround_81 : decode cX6_onGround 81 = .ok (.aload_n 0, 1) := by decide +kernel
theorem dX6_onGround_82 : decode cX6_onGround 82 = .ok (.invokevirtual 342, 3) := by decide +kernel
theorem dX6_onGround_85 : decode cX6_onGround 85 = .ok (.iconst 1, 1) := by decide +kernel
theorem dX6_onGround_86 : decode cX6_onGround 86 = .ok (.iload_n 3, 1) := by decide +kernel
theorem dX6_onGround_87 : decode cX6_onGround 87 = .ok (.aload_n 0, 1) := by decide +kernel
theorem dX6_onGround_88 : decode cX6_onGround 88 = .ok (.getfield 275, 3) := by decide +kernel
theorem dX6_onGround_91 : decode cX6_onGround 91 = .ok (.aload_n 0, 1) := by decide +kernel
theorem dX6_onGround_92 : decode cX6_onGround 92 = .ok (.getfield 278, 3) := by decide +kernel
theorem dX6_onGround_95 : decode cX6_onGround 95 = .ok (.invokevirtual 267, 3) := by decide +kernel
theorem dX6_onGround_98 : decode cX6_onGround 98 = .ok (.invokevirtual 346, 3) := by decide +kernel
theorem dX6_onGround_101 : decode cX6_onGround 101 = .ok (.return_, 1) := by decide +kernel
theorem dX6_inAir_0 : decode cX6_inAir 0 = .ok (.aload_n 0, 1) := by decide +kernel
theorem dX6_inAir_1 : decode cX6_inAir 1 = .ok (.bipush 22, 2) := by decide +kernel
theorem dX6_inAir_3 : decode cX6_inAir 3 = .ok (.bipush 22, 2) := by decide +kernel
theorem dX6_inAir_5 : decode cX6_inAir 5 = .ok (.invokevirtual 320, 3) := by decide +kernel
theorem dX6_inAir_8 : decode cX6_inAir 8 = .ok (.iconst 1, 1) := by decide +kernel
theorem dX6_inAir_9 : decode cX6_inAir 9 = .ok (.if_icmp .ne 7, 3) := by decide +kernel
theorem dX6_inAir_12 : decode cX6_inAir 12 = .ok (.iconst 1, 1) := by decide +kernel
theorem dX6_inAir_13 : decode cX6_inAir 13 = .ok (.goto 4, 3) := by decide +kernel
theorem dX6_inAir_16 : decode cX6_inAir 16 = .ok (.iconst 0, 1) := by decide +kernel
theorem dX6_inAir_17 : decode cX6_inAir 17 = .ok (.istore_n 3, 1) := by decide +kernel
theorem dX6_inAir_18 : decode cX6_inAir 18 = .ok (.aload_n 0, 1) := by decide +kernel
theorem dX6_inAir_19 : decode cX6_inAir 19 = .ok (.iload_n 1, 1) := by decide +kernel
theorem dX6_inAir_20 : decode cX6_inAir 20 = .ok (.bipush 27, 2) := by decide +kernel
theorem dX6_inAir_22 : decode cX6_inAir 22 = .ok (.iload_n 3, 1) := by decide +kernel
theorem dX6_inAir_23 : decode cX6_inAir 23 = .ok (.ifCond .eq 7, 3) := by decide +kernel
theorem dX6_inAir_26 : decode cX6_inAir 26 = .ok (.iconst 4, 1) := by decide +kernel
theorem dX6_inAir_27 : decode cX6_inAir 27 = .ok (.goto 4, 3) := by decide +kernel
theorem dX6_inAir_30 : decode cX6_inAir 30 = .ok (.iconst 0, 1) := by decide +kernel
theorem dX6_inAir_31 : decode cX6_inAir 31 = .ok (.iadd, 1) := by decide +kernel
theorem dX6_inAir_32 : decode cX6_inAir 32 = .ok (.invokevirtual 284, 3) := by decide +kernel
theorem dX6_inAir_35 : decode cX6_inAir 35 = .ok (.istore 4, 2) := by decide +kernel
theorem dX6_inAir_37 : decode cX6_inAir 37 = .ok (.aload_n 0, 1) := by decide +kernel
theorem dX6_inAir_38 : decode cX6_inAir 38 = .ok (.getfield 129, 3) := by decide +kernel
theorem dX6_inAir_41 : decode cX6_inAir 41 = .ok (.iload 4, 2) := by decide +kernel
theorem dX6_inAir_43 : decode cX6_inAir 43 = .ok (.iconst 1, 1) := by decide +kernel
theorem dX6_inAir_44 : decode cX6_inAir 44 = .ok (.iastore, 1) := by decide +kernel
theorem dX6_inAir_45 : decode cX6_inAir 45 = .ok (.aload_n 0, 1) := by decide +kernel
theorem dX6_inAir_46 : decode cX6_inAir 46 = .ok (.getfield 129, 3) := by decide +kernel
theorem dX6_inAir_49 : decode cX6_inAir 49 = .ok (.iload 4, 2) := by decide +kernel
theorem dX6_inAir_51 : decode cX6_inAir 51 = .ok (.iconst 1, 1) := by decide +kernel
theorem dX6_inAir_52 : decode cX6_inAir 52 = .ok (.iadd, 1) := by decide +kernel
theorem dX6_inAir_53 : decode cX6_inAir 53 = .ok (.aload_n 0, 1) := by decide +kernel
theorem dX6_inAir_54 : decode cX6_inAir 54 = .ok (.bipush 23, 2) := by decide +kernel
theorem dX6_inAir_56 : decode cX6_inAir 56 = .ok (.bipush 39, 2) := by decide +kernel
theorem dX6_inAir_58 : decode cX6_inAir 58 = .ok (.invokevirtual 320, 3) := by decide +kernel
theorem dX6_inAir_61 : decode cX6_inAir 61 = .ok (.iastore, 1) := by decide +kernel
theorem dX6_inAir_62 : decode cX6_inAir 62 = .ok (.aload_n 0, 1) := by decide +kernel
theorem dX6_inAir_63 : decode cX6_inAir 63 = .ok (.getfield 129, 3) := by decide +kernel
theorem dX6_inAir_66 : decode cX6_inAir 66 = .ok (.iload 4, 2) := by decide +kernel
theorem dX6_inAir_68 : decode cX6_inAir 68 = .ok (.iconst 2, 1) := by decide +kernel
theorem dX6_inAir_69 : decode cX6_inAir 69 = .ok (.iadd, 1) := by decide +kernel
theorem dX6_inAir_70 : decode cX6_inAir 70 = .ok (.aload_n 0, 1) := by decide +kernel
theorem dX6_inAir_71 : decode cX6_inAir 71 = .ok (.bipush 40, 2) := by decide +kernel
theorem dX6_inAir_73 : decode cX6_inAir 73 = .ok (.bipush 56, 2) := by decide +kernel
theorem dX6_inAir_75 : decode cX6_inAir 75 = .ok (.invokevirtual 320, 3) := by decide +kernel
theorem dX6_inAir_78 : decode cX6_inAir 78 = .ok (.iastore, 1) := by decide +kernel
theorem dX6_inAir_79 : decode cX6_inAir 79 = .ok (.aload_n 0, 1) := by decide +kernel
theorem dX6_inAir_80 : decode cX6_inAir 80 = .ok (.getfield 129, 3) := by decide +kernel
theorem dX6_inAir_83 : decode cX6_inAir 83 = .ok (.iload 4, 2) := by decide +kernel
theorem dX6_inAir_85 : decode cX6_inAir 85 = .ok (.iconst 3, 1) := by decide +kernel
theorem dX6_inAir_86 : decode cX6_inAir 86 = .ok (.iadd, 1) := by decide +kernel
theorem dX6_inAir_87 : decode cX6_inAir 87 = .ok (.iload_n 2, 1) := by decide +kernel
theorem dX6_inAir_88 : decode cX6_inAir 88 = .ok (.iastore, 1) := by decide +kernel
theorem dX6_inAir_89 : decode cX6_inAir 89 = .ok (.aload_n 0, 1) := by decide +kernel
theorem dX6_inAir_90 : decode cX6_inAir 90 = .ok (.iload_n 1, 1) := by decide +kernel
theorem dX6_inAir_91 : decode cX6_inAir 91 = .ok (.bipush 27, 2) := by decide +kernel
theorem dX6_inAir_93 : decode cX6_inAir 93 = .ok (.iload_n 3, 1) := by decide +kernel
theorem dX6_inAir_94 : decode cX6_inAir 94 = .ok (.ifCond .eq 7, 3) := by decide +kernel
theorem dX6_inAir_97 : decode cX6_inAir 97 = .ok (.iconst 0, 1) := by decide +kernel
theorem dX6_inAir_98 : decode cX6_inAir 98 = .ok (.goto 4, 3) := by decide +kernel
theorem dX6_inAir_101 : decode cX6_inAir 101 = .ok (.iconst 4, 1) := by decide +kernel
theorem dX6_inAir_102 : decode cX6_inAir 102 = .ok (.iadd, 1) := by decide +kernel
theorem dX6_inAir_103 : decode cX6_inAir 103 = .ok (.invokevirtual 284, 3) := by decide +kernel
theorem dX6_inAir_106 : decode cX6_inAir 106 = .ok (.istore 5, 2) := by decide +kernel
theorem dX6_inAir_108 : decode cX6_inAir 108 = .ok (.aload_n 0, 1) := by decide +kernel
theorem dX6_inAir_109 : decode cX6_inAir 109 = .ok (.iload_n 1, 1) := by decide +kernel
theorem dX6_inAir_110 : decode cX6_inAir 110 = .ok (.iload_n 2, 1) := by decide +kernel
theorem dX6_inAir_111 : decode cX6_inAir 111 = .ok (.invokevirtual 339, 3) := by decide +kernel
theorem dX6_inAir_114 : decode cX6_inAir 114 = .ok (.ifCond .eq 46, 3) := by decide +kernel
theorem dX6_inAir_117 : decode cX6_inAir 117 = .ok (.aload_n 0, 1) := by decide +kernel
theorem dX6_inAir_118 : decode cX6_inAir 118 = .ok (.iload_n 1, 1) := by decide +kernel
theorem dX6_inAir_119 : decode cX6_inAir 119 = .ok (.iload_n 2, 1) := by decide +kernel
theorem dX6_inAir_120 : decode cX6_inAir 120 = .ok (.aload_n 0, 1) := by decide +kernel
theorem dX6_inAir_121 : decode cX6_inAir 121 = .ok (.aload_n 0, 1) := by decide +kernel
theorem dX6_inAir_122 : decode cX6_inAir 122 = .ok (.invokevirtual 342, 3) := by decide +kernel
theorem dX6_inAir_125 : decode cX6_inAir 125 = .ok (.iconst 0, 1) := by decide +kernel
theorem dX6_inAir_126 : decode cX6_inAir 126 = .ok (.iload_n 3, 1) := by decide +kernel
theorem dX6_inAir_127 : decode cX6_inAir 127 = .ok (.aload_n 0, 1) := by decide +kernel
theorem dX6_inAir_128 : decode cX6_inAir 128 = .ok (.getfield 129, 3) := by decide +kernel
theorem dX6_inAir_131 : decode cX6_inAir 131 = .ok (.aload_n 0, 1) := by decide +kernel
theorem dX6_inAir_132 : decode cX6_inAir 132 = .ok (.iload_n 1, 1) := by decide +kernel
theorem dX6_inAir_133 : decode cX6_inAir 133 = .ok (.bipush 15, 2) := by decide +kernel
theorem dX6_inAir_135 : decode cX6_inAir 135 = .ok (.invokevirtual 284, 3) := by decide +kernel
theorem dX6_inAir_138 : decode cX6_inAir 138 = .ok (.iaload, 1) := by decide +kernel
theorem dX6_inAir_139 : decode cX6_inAir 139 = .ok (.aload_n 0, 1) := by decide +kernel
theorem dX6_inAir_140 : decode cX6_inAir 140 = .ok (.getfield 129, 3) := by decide +kernel
theorem dX6_inAir_143 : decode cX6_inAir 143 = .ok (.aload_n 0, 1) := by decide +kernel
theorem dX6_inAir_144 : decode cX6_inAir 144 = .ok (.iload_n 1, 1) := by decide +kernel
theorem dX6_inAir_145 : decode cX6_inAir 145 = .ok (.bipush 16, 2) := by decide +kernel
theorem dX6_inAir_147 : decode cX6_inAir 147 = .ok (.invokevirtual 284, 3) := by decide +kernel
theorem dX6_inAir_150 : decode cX6_inAir 150 = .ok (.iaload, 1) := by decide +kernel
theorem dX6_inAir_151 : decode cX6_inAir 151 = .ok (.invokevirtual 267, 3) := by decide +kernel
theorem dX6_inAir_154 : decode cX6_inAir 154 = .ok (.invokevirtual 346, 3) := by decide +kernel
theorem dX6_inAir_157 : decode cX6_inAir 157 = .ok (.goto 94, 3) := by decide +kernel
theorem dX6_inAir_160 : decode cX6_inAir 160 = .ok (.aload_n 0, 1) := by decide +kernel
theorem dX6_inAir_161 : decode cX6_inAir 161 = .ok (.getfield 129, 3) := by decide +kernel
theorem dX6_inAir_164 : decode cX6_inAir 164 = .ok (.iload 5, 2) := by decide +kernel
theorem dX6_inAir_166 : decode cX6_inAir 166 = .ok (.iaload, 1) := by decide +kernel
theorem dX6_inAir_167 : decode cX6_inAir 167 = .ok (.iconst 1, 1) := by decide +kernel
theorem dX6_inAir_168 : decode cX6_inAir 168 = .ok (.if_icmp .ne 83, 3) := by decide +kernel
theorem dX6_inAir_171 : decode cX6_inAir 171 = .ok (.iload_n 2, 1) := by decide +kernel
theorem dX6_inAir_172 : decode cX6_inAir 172 = .ok (.aload_n 0, 1) := by decide +kernel
theorem dX6_inAir_173 : decode cX6_inAir 173 = .ok (.getfield 129, 3) := by decide +kernel
theorem dX6_inAir_176 : decode cX6_inAir 176 = .ok (.iload 5, 2) := by decide +kernel
theorem dX6_inAir_178 : decode cX6_inAir 178 = .ok (.iconst 3, 1) := by decide +kernel
theorem dX6_inAir_179 : decode cX6_inAir 179 = .ok (.iadd, 1) := by decide +kernel
theorem dX6_inAir_180 : decode cX6_inAir 180 = .ok (.iaload, 1) := by decide +kernel
theorem dX6_inAir_181 : decode cX6_inAir 181 = .ok (.isub, 1) := by decide +kernel
theorem dX6_inAir_182 : decode cX6_inAir 182 = .ok (.bipush 100, 2) := by decide +kernel
theorem dX6_inAir_184 : decode cX6_inAir 184 = .ok (.if_icmp .gt 67, 3) := by decide +kernel
theorem dX6_inAir_187 : decode cX6_inAir 187 = .ok (.aload_n 0, 1) := by decide +kernel
theorem dX6_inAir_188 : decode cX6_inAir 188 = .ok (.getfield 129, 3) := by decide +kernel
theorem dX6_inAir_191 : decode cX6_inAir 191 = .ok (.iload 5, 2) := by decide +kernel
theorem dX6_inAir_193 : decode cX6_inAir 193 = .ok (.iconst 1, 1) := by decide +kernel
theorem dX6_inAir_194 : decode cX6_inAir 194 = .ok (.iadd, 1) := by decide +kernel
theorem dX6_inAir_195 : decode cX6_inAir 195 = .ok (.iaload, 1) := by decide +kernel
theorem dX6_inAir_196 : decode cX6_inAir 196 = .ok (.i2l, 1) := by decide +kernel
theorem dX6_inAir_197 : decode cX6_inAir 197 = .ok (.ldc2_w 200, 3) := by decide +kernel
theorem dX6_inAir_200 : decode cX6_inAir 200 = .ok (.lmul, 1) := by decide +kernel
theorem dX6_inAir_201 : decode cX6_inAir 201 = .ok (.aload_n 0, 1) := by decide +kernel
theorem dX6_inAir_202 : decode cX6_inAir 202 = .ok (.getfield 129, 3) := by decide +kernel
theorem dX6_inAir_205 : decode cX6_inAir 205 = .ok (.iload 5, 2) := by decide +kernel
theorem dX6_inAir_207 : decode cX6_inAir 207 = .ok (.iconst 2, 1) := by decide +kernel
theorem dX6_inAir_208 : decode cX6_inAir 208 = .ok (.iadd, 1) := by decide +kernel
theorem dX6_inAir_209 : decode cX6_inAir 209 = .ok (.iaload, 1) := by decide +kernel
theorem dX6_inAir_210 : decode cX6_inAir 210 = .ok (.i2l, 1) := by decide +kernel
theorem dX6_inAir_211 : decode cX6_inAir 211 = .ok (.ladd, 1) := by decide +kernel
theorem dX6_inAir_212 : decode cX6_inAir 212 = .ok (.lstore 6, 2) := by decide +kernel
theorem dX6_inAir_214 : decode cX6_inAir 214 = .ok (.aload_n 0, 1) := by decide +kernel
theorem dX6_inAir_215 : decode cX6_inAir 215 = .ok (.iload_n 1, 1) := by decide +kernel
theorem dX6_inAir_216 : decode cX6_inAir 216 = .ok (.iload_n 2, 1) := by decide +kernel
theorem dX6_inAir_217 : decode cX6_inAir 217 = .ok (.aload_n 0, 1) := by decide +kernel
theorem dX6_inAir_218 : decode cX6_inAir 218 = .ok (.iload_n 3, 1) := by decide +kernel
theorem dX6_inAir_219 : decode cX6_inAir 219 = .ok (.ifCond .eq 8, 3) := by decide +kernel
theorem dX6_inAir_222 : decode cX6_inAir 222 = .ok (.lload 6, 2) := by decide +kernel
theorem dX6_inAir_224 : decode cX6_inAir 224 = .ok (.goto 7, 3) := by decide +kernel
theorem dX6_inAir_227 : decode cX6_inAir 227 = .ok (.aload_n 0, 1) := by decide +kernel
theorem dX6_inAir_228 : decode cX6_inAir 228 = .ok (.invokevirtual 342, 3) := by decide +kernel
theorem dX6_inAir_231 : decode cX6_inAir 231 = .ok (.iload_n 3, 1) := by decide +kernel
theorem dX6_inAir_232 : decode cX6_inAir 232 = .ok (.ifCond .eq 10, 3) := by decide +kernel
theorem dX6_inAir_235 : decode cX6_inAir 235 = .ok (.aload_n 0, 1) := by decide +kernel
theorem dX6_inAir_236 : decode cX6_inAir 236 = .ok (.invokevirtual 342, 3) := by decide +kernel
theorem dX6_inAir_239 : decode cX6_inAir 239 = .ok (.goto 5, 3) := by decide +kernel
theorem dX6_inAir_242 : decode cX6_inAir 242 = .ok (.lload 6, 2) := by decide +kernel
theorem dX6_inAir_244 : decode cX6_inAir 244 = .ok (.iload_n 3, 1) := by decide +kernel
theorem dX6_inAir_245 : decode cX6_inAir 245 = .ok (.invokevirtual 253, 3) := by decide +kernel
theorem dX6_inAir_248 : decode cX6_inAir 248 = .ok (.invokevirtual 346, 3) := by decide +kernel
theorem dX6_inAir_251 : decode cX6_inAir 251 = .ok (.return_, 1) := by decide +kernel
theorem dX6_field_0 : decode cX6_field 0 = .ok (.aload_n 0, 1) := by decide +kernel
theorem dX6_field_1 : decode cX6_field 1 = .ok (.getfield 304, 3) := by decide +kernel
theorem dX6_field_4 : decode cX6_field 4 = .ok (.ifCond .ne 5, 3) := by decide +kernel
theorem dX6_field_7 : decode cX6_field 7 = .ok (.iconst (-1), 1) := by decide +kernel
theorem dX6_field_8 : decode cX6_field 8 = .ok (.ireturn, 1) := by decide +kernel
theorem dX6_field_9 : decode cX6_field 9 = .ok (.aload_n 0, 1) := by decide +kernel
theorem dX6_field_10 : decode cX6_field 10 = .ok (.aload_n 0, 1) := by decide +kernel
theorem dX6_field_11 : decode cX6_field 11 = .ok (.getfield 136, 3) := by decide +kernel
theorem dX6_field_14 : decode cX6_field 14 = .ok (.iconst 1, 1) := by decide +kernel
theorem dX6_field_15 : decode cX6_field 15 = .ok (.iconst 5, 1) := by decide +kernel
theorem dX6_field_16 : decode cX6_field 16 = .ok (.invokevirtual 156, 3) := by decide +kernel
theorem dX6_field_19 : decode cX6_field 19 = .ok (.istore_n 2, 1) := by decide +kernel
theorem dX6_field_20 : decode cX6_field 20 = .ok (.iload_n 2, 1) := by decide +kernel
theorem dX6_field_21 : decode cX6_field 21 = .ok (.invokestatic 298, 3) := by decide +kernel
theorem dX6_field_24 : decode cX6_field 24 = .ok (.istore_n 3, 1) := by decide +kernel
theorem dX6_field_25 : decode cX6_field 25 = .ok (.iload_n 2, 1) := by decide +kernel
theorem dX6_field_26 : decode cX6_field 26 = .ok (.iconst 4, 1) := by decide +kernel
theorem dX6_field_27 : decode cX6_field 27 = .ok (.if_icmp .eq 20, 3) := by decide +kernel
theorem dX6_field_30 : decode cX6_field 30 = .ok (.iload_n 2, 1) := by decide +kernel
theorem dX6_field_31 : decode cX6_field 31 = .ok (.iconst 5, 1) := by decide +kernel
theorem dX6_field_32 : decode cX6_field 32 = .ok (.if_icmp .eq 15, 3) := by decide +kernel
theorem dX6_field_35 : decode cX6_field 35 = .ok (.iload_n 2, 1) := by decide +kernel
theorem dX6_field_36 : decode cX6_field 36 = .ok (.bipush 20, 2) := by decide +kernel
theorem dX6_field_38 : decode cX6_field 38 = .ok (.if_icmp .eq 9, 3) := by decide +kernel
theorem dX6_field_41 : decode cX6_field 41 = .ok (.iload_n 2, 1) := by decide +kernel
theorem dX6_field_42 : decode cX6_field 42 = .ok (.bipush 21, 2) := by decide +kernel
theorem dX6_field_44 : decode cX6_field 44 = .ok (.if_icmp .ne 7, 3) := by decide +kernel
theorem dX6_field_47 : decode cX6_field 47 = .ok (.iconst 1, 1) := by decide +kernel
theorem dX6_field_48 : decode cX6_field 48 = .ok (.goto 4, 3) := by decide +kernel
theorem dX6_field_51 : decode cX6_field 51 = .ok (.iconst 0, 1) := by decide +kernel
theorem dX6_field_52 : decode cX6_field 52 = .ok (.istore 4, 2) := by decide +kernel
theorem dX6_field_54 : decode cX6_field 54 = .ok (.iload_n 2, 1) := by decide +kernel
theorem dX6_field_55 : decode cX6_field 55 = .ok (.ifCond .eq 9, 3) := by decide +kernel
theorem dX6_field_58 : decode cX6_field 58 = .ok (.iload_n 2, 1) := by decide +kernel
theorem dX6_field_59 : decode cX6_field 59 = .ok (.bipush 16, 2) := by decide +kernel
theorem dX6_field_61 : decode cX6_field 61 = .ok (.if_icmp .ne 7, 3) := by decide +kernel
theorem dX6_field_64 : decode cX6_field 64 = .ok (.iconst 1, 1) := by decide +kernel
theorem dX6_field_65 : decode cX6_field 65 = .ok (.goto 4, 3) := by decide +kernel
theorem dX6_field_68 : decode cX6_field 68 = .ok (.iconst 0, 1) := by decide +kernel
theorem dX6_field_69 : decode cX6_field 69 = .ok (.istore 5, 2) := by decide +kernel
theorem dX6_field_71 : decode cX6_field 71 = .ok (.iload_n 2, 1) := by decide +kernel
theorem dX6_field_72 : decode cX6_field 72 = .ok (.bipush 17, 2) := by decide +kernel
theorem dX6_field_74 : decode cX6_field 74 = .ok (.if_icmp .eq 9, 3) := by decide +kernel
theorem dX6_field_77 : decode cX6_field 77 = .ok (.iload_n 2, 1) := by decide +kernel
theorem dX6_field_78 : decode cX6_field 78 = .ok (.bipush 18, 2) := by decide +kernel
theorem dX6_field_80 : decode cX6_field 80 = .ok (.if_icmp .ne 7, 3) := by decide +kernel
theorem dX6_field_83 : decode cX6_field 83 = .ok (.iconst 1, 1) := by decide +kernel
theorem dX6_field_84 : decode cX6_field 84 = .ok (.goto 4, 3) := by decide +kernel
theorem dX6_field_87 : decode cX6_field 87 = .ok (.iconst 0, 1) := by decide +kernel
theorem dX6_field_88 : decode cX6_field 88 = .ok (.istore 6, 2) := by decide +kernel
theorem dX6_field_90 : decode cX6_field 90 = .ok (.iload_n 1, 1) := by decide +kernel
theorem dX6_field_91 : decode cX6_field 91 = .ok (.tableswitch 402 0 15 #[77, 79, 100, 122, 144, 166, 188, 209, 231, 253, 286, 314, 338, 353, 375, 397], 77) := by decide +kernel
theorem dX6_field_168 : decode cX6_field 168 = .ok (.iload_n 2, 1) := by decide +kernel
theorem dX6_field_169 : decode cX6_field 169 = .ok (.ireturn, 1) := by decide +kernel
theorem dX6_field_170 : decode cX6_field 170 = .ok (.iload_n 3, 1) := by decide +kernel
theorem dX6_field_171 : decode cX6_field 171 = .ok (.ifCond .eq 18, 3) := by decide +kernel
theorem dX6_field_174 : decode cX6_field 174 = .ok (.aload_n 0, 1) := by decide +kernel
theorem dX6_field_175 : decode cX6_field 175 = .ok (.aload_n 0, 1) := by decide +kernel
theorem dX6_field_176 : decode cX6_field 176 = .ok (.getfield 136, 3) := by decide +kernel
theorem dX6_field_179 : decode cX6_field 179 = .ok (.bipush 6, 2) := by decide +kernel
theorem dX6_field_181 : decode cX6_field 181 = .ok (.bipush 8, 2) := by decide +kernel
theorem dX6_field_183 : decode cX6_field 183 = .ok (.invokevirtual 156, 3) := by decide +kernel
theorem dX6_field_186 : decode cX6_field 186 = .ok (.goto 4, 3) := by decide +kernel
theorem dX6_field_189 : decode cX6_field 189 = .ok (.iconst (-1), 1) := by decide +kernel
theorem dX6_field_190 : decode cX6_field 190 = .ok (.ireturn, 1) := by decide +kernel
theorem dX6_field_191 : decode cX6_field 191 = .ok (.iload 4, 2) := by decide +kernel
theorem dX6_field_193 : decode cX6_field 193 = .ok (.ifCond .eq 18, 3) := by decide +kernel
theorem dX6_field_196 : decode cX6_field 196 = .ok (.aload_n 0, 1) := by decide +kernel
theorem dX6_field_197 : decode cX6_field 197 = .ok (.aload_n 0, 1) := by decide +kernel
theorem dX6_field_198 : decode cX6_field 198 = .ok (.getfield 136, 3) := by decide +kernel
theorem dX6_field_201 : decode cX6_field 201 = .ok (.bipush 6, 2) := by decide +kernel
theorem dX6_field_203 : decode cX6_field 203 = .ok (.bipush 8, 2) := by decide +kernel
theorem dX6_field_205 : decode cX6_field 205 = .ok (.invokevirtual 156, 3) := by decide +kernel
theorem dX6_field_208 : decode cX6_field 208 = .ok (.goto 4, 3) := by decide +kernel
theorem dX6_field_211 : decode cX6_field 211 = .ok (.iconst (-1), 1) := by decide +kernel
theorem dX6_field_212 : decode cX6_field 212 = .ok (.ireturn, 1) := by decide +kernel
theorem dX6_field_213 : decode cX6_field 213 = .ok (.iload 4, 2) := by decide +kernel
theorem dX6_field_215 : decode cX6_field 215 = .ok (.ifCond .eq 18, 3) := by decide +kernel
theorem dX6_field_218 : decode cX6_field 218 = .ok (.aload_n 0, 1) := by decide +kernel
theorem dX6_field_219 : decode cX6_field 219 = .ok (.aload_n 0, 1) := by decide +kernel
theorem dX6_field_220 : decode cX6_field 220 = .ok (.getfield 136, 3) := by decide +kernel
theorem dX6_field_223 : decode cX6_field 223 = .ok (.bipush 9, 2) := by decide +kernel
theorem dX6_field_225 : decode cX6_field 225 = .ok (.bipush 13, 2) := by decide +kernel
theorem dX6_field_227 : decode cX6_field 227 = .ok (.invokevirtual 156, 3) := by decide +kernel
theorem dX6_field_230 : decode cX6_field 230 = .ok (.goto 4, 3) := by decide +kernel
theorem dX6_field_233 : decode cX6_field 233 = .ok (.iconst (-1), 1) := by decide +kernel
theorem dX6_field_234 : decode cX6_field 234 = .ok (.ireturn, 1) := by decide +kernel
theorem dX6_field_235 : decode cX6_field 235 = .ok (.iload 4, 2) := by decide +kernel
theorem dX6_field_237 : decode cX6_field 237 = .ok (.ifCond .eq 18, 3) := by decide +kernel
theorem dX6_field_240 : decode cX6_field 240 = .ok (.aload_n 0, 1) := by decide +kernel
theorem dX6_field_241 : decode cX6_field 241 = .ok (.aload_n 0, 1) := by decide +kernel
theorem dX6_field_242 : decode cX6_field 242 = .ok (.getfield 136, 3) := by decide +kernel
theorem dX6_field_245 : decode cX6_field 245 = .ok (.bipush 14, 2) := by decide +kernel
theorem dX6_field_247 : decode cX6_field 247 = .ok (.bipush 19, 2) := by decide +kernel
theorem dX6_field_249 : decode cX6_field 249 = .ok (.invokevirtual 156, 3) := by decide +kernel
theorem dX6_field_252 : decode cX6_field 252 = .ok (.goto 4, 3) := by decide +kernel
theorem dX6_field_255 : decode cX6_field 255 = .ok (.iconst (-1), 1) := by decide +kernel
theorem dX6_field_256 : decode cX6_field 256 = .ok (.ireturn, 1) := by decide +kernel
theorem dX6_field_257 : decode cX6_field 257 = .ok (.iload 5, 2) := by decide +kernel
theorem dX6_field_259 : decode cX6_field 259 = .ok (.ifCond .eq 18, 3) := by decide +kernel
theorem dX6_field_262 : decode cX6_field 262 = .ok (.aload_n 0, 1) := by decide +kernel
theorem dX6_field_263 : decode cX6_field 263 = .ok (.aload_n 0, 1) := by decide +kernel
theorem dX6_field_264 : decode cX6_field 264 = .ok (.getfield 136, 3) := by decide +kernel
theorem dX6_field_267 : decode cX6_field 267 = .ok (.bipush 6, 2) := by decide +kernel
theorem dX6_field_269 : decode cX6_field 269 = .ok (.bipush 6, 2) := by decide +kernel
theorem dX6_field_271 : decode cX6_field 271 = .ok (.invokevirtual 156, 3) := by decide +kernel
theorem dX6_field_274 : decode cX6_field 274 = .ok (.goto 4, 3) := by decide +kernel
theorem dX6_field_277 : decode cX6_field 277 = .ok (.iconst (-1), 1) := by decide +kernel
theorem dX6_field_278 : decode cX6_field 278 = .ok (.ireturn, 1) := by decide +kernel
theorem dX6_field_279 : decode cX6_field 279 = .ok (.iload_n 2, 1) := by decide +kernel
theorem dX6_field_280 : decode cX6_field 280 = .ok (.ifCond .ne 18, 3) := by decide +kernel
theorem dX6_field_283 : decode cX6_field 283 = .ok (.aload_n 0, 1) := by decide +kernel
theorem dX6_field_284 : decode cX6_field 284 = .ok (.aload_n 0, 1) := by decide +kernel
theorem dX6_field_285 : decode cX6_field 285 = .ok (.getfield 136, 3) := by decide +kernel
theorem dX6_field_288 : decode cX6_field 288 = .ok (.bipush 7, 2) := by decide +kernel
theorem dX6_field_290 : decode cX6_field 290 = .ok (.bipush 7, 2) := by decide +kernel
theorem dX6_field_292 : decode cX6_field 292 = .ok (.invokevirtual 156, 3) := by decide +kernel
theorem dX6_field_295 : decode cX6_field 295 = .ok (.goto 4, 3) := by decide +kernel
theorem dX6_field_298 : decode cX6_field 298 = .ok (.iconst (-1), 1) := by decide +kernel
theorem dX6_field_299 : decode cX6_field 299 = .ok (.ireturn, 1) := by decide +kernel
theorem dX6_field_300 : decode cX6_field 300 = .ok (.iload 5, 2) := by decide +kernel
theorem dX6_field_302 : decode cX6_field 302 = .ok (.ifCond .eq 18, 3) := by decide +kernel
theorem dX6_field_305 : decode cX6_field 305 = .ok (.aload_n 0, 1) := by decide +kernel
theorem dX6_field_306 : decode cX6_field 306 = .ok (.aload_n 0, 1) := by decide +kernel
theorem dX6_field_307 : decode cX6_field 307 = .ok (.getfield 136, 3) := by decide +kernel
theorem dX6_field_310 : decode cX6_field 310 = .ok (.bipush 9, 2) := by decide +kernel
theorem dX6_field_312 : decode cX6_field 312 = .ok (.bipush 11, 2) := by decide +kernel
theorem dX6_field_314 : decode cX6_field 314 = .ok (.invokevirtual 156, 3) := by decide +kernel
theorem dX6_field_317 : decode cX6_field 317 = .ok (.goto 4, 3) := by decide +kernel
theorem dX6_field_320 : decode cX6_field 320 = .ok (.iconst (-1), 1) := by decide +kernel
theorem dX6_field_321 : decode cX6_field 321 = .ok (.ireturn, 1) := by decide +kernel
theorem dX6_field_322 : decode cX6_field 322 = .ok (.iload 5, 2) := by decide +kernel
theorem dX6_field_324 : decode cX6_field 324 = .ok (.ifCond .eq 18, 3) := by decide +kernel
theorem dX6_field_327 : decode cX6_field 327 = .ok (.aload_n 0, 1) := by decide +kernel
theorem dX6_field_328 : decode cX6_field 328 = .ok (.aload_n 0, 1) := by decide +kernel
theorem dX6_field_329 : decode cX6_field 329 = .ok (.getfield 136, 3) := by decide +kernel
theorem dX6_field_332 : decode cX6_field 332 = .ok (.bipush 14, 2) := by decide +kernel
theorem dX6_field_334 : decode cX6_field 334 = .ok (.bipush 17, 2) := by decide +kernel
theorem dX6_field_336 : decode cX6_field 336 = .ok (.invokevirtual 156, 3) := by decide +kernel
theorem dX6_field_339 : decode cX6_field 339 = .ok (.goto 4, 3) := by decide +kernel
theorem dX6_field_342 : decode cX6_field 342 = .ok (.iconst (-1), 1) := by decide +kernel
theorem dX6_field_343 : decode cX6_field 343 = .ok (.ireturn, 1) := by decide +kernel
theorem dX6_field_344 : decode cX6_field 344 = .ok (.iload 5, 2) := by decide +kernel
theorem dX6_field_346 : decode cX6_field 346 = .ok (.ifCond .ne 14, 3) := by decide +kernel
theorem dX6_field_349 : decode cX6_field 349 = .ok (.iload_n 2, 1) := by decide +kernel
theorem dX6_field_350 : decode cX6_field 350 = .ok (.iconst 4, 1) := by decide +kernel
theorem dX6_field_351 : decode cX6_field 351 = .ok (.if_icmp .eq 9, 3) := by decide +kernel
theorem dX6_field_354 : decode cX6_field 354 = .ok (.iload_n 2, 1) := by decide +kernel
theorem dX6_field_355 : decode cX6_field 355 = .ok (.bipush 20, 2) := by decide +kernel
theorem dX6_field_357 : decode cX6_field 357 = .ok (.if_icmp .ne 18, 3) := by decide +kernel
theorem dX6_field_360 : decode cX6_field 360 = .ok (.aload_n 0, 1) := by decide +kernel
theorem dX6_field_361 : decode cX6_field 361 = .ok (.aload_n 0, 1) := by decide +kernel
theorem dX6_field_362 : decode cX6_field 362 = .ok (.getfield 136, 3) := by decide +kernel
theorem dX6_field_365 : decode cX6_field 365 = .ok (.bipush 20, 2) := by decide +kernel
theorem dX6_field_367 : decode cX6_field 367 = .ok (.bipush 32, 2) := by decide +kernel
theorem dX6_field_369 : decode cX6_field 369 = .ok (.invokevirtual 156, 3) := by decide +kernel
theorem dX6_field_372 : decode cX6_field 372 = .ok (.goto 4, 3) := by decide +kernel
theorem dX6_field_375 : decode cX6_field 375 = .ok (.iconst (-1), 1) := by decide +kernel
theorem dX6_field_376 : decode cX6_field 376 = .ok (.ireturn, 1) := by decide +kernel
theorem dX6_field_377 : decode cX6_field 377 = .ok (.iload_n 2, 1) := by decide +kernel
theorem dX6_field_378 : decode cX6_field 378 = .ok (.iconst 5, 1) := by decide +kernel
theorem dX6_field_379 : decode cX6_field 379 = .ok (.if_icmp .eq 9, 3) := by decide +kernel
theorem dX6_field_382 : decode cX6_field 382 = .ok (.iload_n 2, 1) := by decide +kernel
theorem dX6_field_383 : decode cX6_field 383 = .ok (.bipush 21, 2) := by decide +kernel
theorem dX6_field_385 : decode cX6_field 385 = .ok (.if_icmp .ne 18, 3) := by decide +kernel
theorem dX6_field_388 : decode cX6_field 388 = .ok (.aload_n 0, 1) := by decide +kernel
theorem dX6_field_389 : decode cX6_field 389 = .ok (.aload_n 0, 1) := by decide +kernel
theorem dX6_field_390 : decode cX6_field 390 = .ok (.getfield 136, 3) := by decide +kernel
theorem dX6_field_393 : decode cX6_field 393 = .ok (.bipush 20, 2) := by decide +kernel
theorem dX6_field_395 : decode cX6_field 395 = .ok (.bipush 32, 2) := by decide +kernel
theorem dX6_field_397 : decode cX6_field 397 = .ok (.invokevirtual 156, 3) := by decide +kernel
theorem dX6_field_400 : decode cX6_field 400 = .ok (.goto 4, 3) := by decide +kernel
theorem dX6_field_403 : decode cX6_field 403 = .ok (.iconst (-1), 1) := by decide +kernel
theorem dX6_field_404 : decode cX6_field 404 = .ok (.ireturn, 1) := by decide +kernel
theorem dX6_field_405 : decode cX6_field 405 = .ok (.iload_n 3, 1) := by decide +kernel
theorem dX6_field_406 : decode cX6_field 406 = .ok (.ifCond .eq 18, 3) := by decide +kernel
theorem dX6_field_409 : decode cX6_field 409 = .ok (.aload_n 0, 1) := by decide +kernel
theorem dX6_field_410 : decode cX6_field 410 = .ok (.aload_n 0, 1) := by decide +kernel
theorem dX6_field_411 : decode cX6_field 411 = .ok (.getfield 136, 3) := by decide +kernel
theorem dX6_field_414 : decode cX6_field 414 = .ok (.bipush 9, 2) := by decide +kernel
theorem dX6_field_416 : decode cX6_field 416 = .ok (.bipush 32, 2) := by decide +kernel
theorem dX6_field_418 : decode cX6_field 418 = .ok (.invokevirtual 156, 3) := by decide +kernel
theorem dX6_field_421 : decode cX6_field 421 = .ok (.goto 7, 3) := by decide +kernel
theorem dX6_field_424 : decode cX6_field 424 = .ok (.aload_n 0, 1) := by decide +kernel
theorem dX6_field_425 : decode cX6_field 425 = .ok (.getfield 307, 3) := by decide +kernel
theorem dX6_field_428 : decode cX6_field 428 = .ok (.ireturn, 1) := by decide +kernel
theorem dX6_field_429 : decode cX6_field 429 = .ok (.iload_n 2, 1) := by decide +kernel
theorem dX6_field_430 : decode cX6_field 430 = .ok (.bipush 11, 2) := by decide +kernel
theorem dX6_field_432 : decode cX6_field 432 = .ok (.if_icmp .ne 10, 3) := by decide +kernel
theorem dX6_field_435 : decode cX6_field 435 = .ok (.aload_n 0, 1) := by decide +kernel
theorem dX6_field_436 : decode cX6_field 436 = .ok (.getfield 307, 3) := by decide +kernel
theorem dX6_field_439 : decode cX6_field 439 = .ok (.goto 4, 3) := by decide +kernel
theorem dX6_field_442 : decode cX6_field 442 = .ok (.iconst (-1), 1) := by decide +kernel
theorem dX6_field_443 : decode cX6_field 443 = .ok (.ireturn, 1) := by decide +kernel
theorem dX6_field_444 : decode cX6_field 444 = .ok (.iload 6, 2) := by decide +kernel
theorem dX6_field_446 : decode cX6_field 446 = .ok (.ifCond .eq 18, 3) := by decide +kernel
theorem dX6_field_449 : decode cX6_field 449 = .ok (.aload_n 0, 1) := by decide +kernel
theorem dX6_field_450 : decode cX6_field 450 = .ok (.aload_n 0, 1) := by decide +kernel
theorem dX6_field_451 : decode cX6_field 451 = .ok (.getfield 136, 3) := by decide +kernel
theorem dX6_field_454 : decode cX6_field 454 = .ok (.bipush 33, 2) := by decide +kernel
theorem dX6_field_456 : decode cX6_field 456 = .ok (.bipush 37, 2) := by decide +kernel
theorem dX6_field_458 : decode cX6_field 458 = .ok (.invokevirtual 156, 3) := by decide +kernel
theorem dX6_field_461 : decode cX6_field 461 = .ok (.goto 4, 3) := by decide +kernel
theorem dX6_field_464 : decode cX6_field 464 = .ok (.iconst (-1), 1) := by decide +kernel
theorem dX6_field_465 : decode cX6_field 465 = .ok (.ireturn, 1) := by decide +kernel
theorem dX6_field_466 : decode cX6_field 466 = .ok (.iload 6, 2) := by decide +kernel
theorem dX6_field_468 : decode cX6_field 468 = .ok (.ifCond .eq 18, 3) := by decide +kernel
theorem dX6_field_471 : decode cX6_field 471 = .ok (.aload_n 0, 1) := by decide +kernel
theorem dX6_field_472 : decode cX6_field 472 = .ok (.aload_n 0, 1) := by decide +kernel
theorem dX6_field_473 : decode cX6_field 473 = .ok (.getfield 136, 3) := by decide +kernel
theorem dX6_field_476 : decode cX6_field 476 = .ok (.bipush 38, 2) := by decide +kernel
theorem dX6_field_478 : decode cX6_field 478 = .ok (.bipush 40, 2) := by decide +kernel
theorem dX6_field_480 : decode cX6_field 480 = .ok (.invokevirtual 156, 3) := by decide +kernel
theorem dX6_field_483 : decode cX6_field 483 = .ok (.goto 4, 3) := by decide +kernel
theorem dX6_field_486 : decode cX6_field 486 = .ok (.iconst (-1), 1) := by decide +kernel
theorem dX6_field_487 : decode cX6_field 487 = .ok (.ireturn, 1) := by decide +kernel
theorem dX6_field_488 : decode cX6_field 488 = .ok (.aload_n 0, 1) := by decide +kernel
theorem dX6_field_489 : decode cX6_field 489 = .ok (.getfield 139, 3) := by decide +kernel
theorem dX6_field_492 : decode cX6_field 492 = .ok (.ireturn, 1) := by decide +kernel
theorem dX6_field_493 : decode cX6_field 493 = .ok (.iconst (-1), 1) := by decide +kernel
theorem dX6_field_494 : decode cX6_field 494 = .ok (.ireturn, 1) := by decide +kernel
theorem dX6_bits_0 : decode cX6_bits 0 = .ok (.iload_n 1, 1) := by decide +kernel
theorem dX6_bits_1 : decode cX6_bits 1 = .ok (.iconst 1, 1) := by decide +kernel
theorem dX6_bits_2 : decode cX6_bits 2 = .ok (.if_icmp .lt 26, 3) := by decide +kernel
theorem dX6_bits_5 : decode cX6_bits 5 = .ok (.iload_n 2, 1) := by decide +kernel
theorem dX6_bits_6 : decode cX6_bits 6 = .ok (.iconst 1, 1) := by decide +kernel
theorem dX6_bits_7 : decode cX6_bits 7 = .ok (.if_icmp .lt 21, 3) := by decide +kernel
theorem dX6_bits_10 : decode cX6_bits 10 = .ok (.iload_n 2, 1) := by decide +kernel
theorem dX6_bits_11 : decode cX6_bits 11 = .ok (.bipush 32, 2) := by decide +kernel
theorem dX6_bits_13 : decode cX6_bits 13 = .ok (.if_icmp .gt 15, 3) := by decide +kernel
theorem dX6_bits_16 : decode cX6_bits 16 = .ok (.iload_n 1, 1) := by decide +kernel
theorem dX6_bits_17 : decode cX6_bits 17 = .ok (.aload_n 0, 1) := by decide +kernel
theorem dX6_bits_18 : decode cX6_bits 18 = .ok (.getfield 304, 3) := by decide +kernel
theorem dX6_bits_21 : decode cX6_bits 21 = .ok (.iload_n 2, 1) := by decide +kernel
theorem dX6_bits_22 : decode cX6_bits 22 = .ok (.isub, 1) := by decide +kernel
theorem dX6_bits_23 : decode cX6_bits 23 = .ok (.iconst 1, 1) := by decide +kernel
theorem dX6_bits_24 : decode cX6_bits 24 = .ok (.iadd, 1) := by decide +kernel
theorem dX6_bits_25 : decode cX6_bits 25 = .ok (.if_icmp .le 5, 3) := by decide +kernel
theorem dX6_bits_28 : decode cX6_bits 28 = .ok (.iconst 0, 1) := by decide +kernel
theorem dX6_bits_29 : decode cX6_bits 29 = .ok (.ireturn, 1) := by decide +kernel
theorem dX6_bits_30 : decode cX6_bits 30 = .ok (.aload_n 0, 1) := by decide +kernel
theorem dX6_bits_31 : decode cX6_bits 31 = .ok (.aload_n 0, 1) := by decide +kernel
theorem dX6_bits_32 : decode cX6_bits 32 = .ok (.getfield 136, 3) := by decide +kernel
theorem dX6_bits_35 : decode cX6_bits 35 = .ok (.iload_n 1, 1) := by decide +kernel
theorem dX6_bits_36 : decode cX6_bits 36 = .ok (.iload_n 1, 1) := by decide +kernel
theorem dX6_bits_37 : decode cX6_bits 37 = .ok (.iload_n 2, 1) := by decide +kernel
theorem dX6_bits_38 : decode cX6_bits 38 = .ok (.iadd, 1) := by decide +kernel
theorem dX6_bits_39 : decode cX6_bits 39 = .ok (.iconst 1, 1) := by decide +kernel
theorem dX6_bits_40 : decode cX6_bits 40 = .ok (.isub, 1) := by decide +kernel
theorem dX6_bits_41 : decode cX6_bits 41 = .ok (.invokevirtual 156, 3) := by decide +kernel
theorem dX6_bits_44 : decode cX6_bits 44 = .ok (.ireturn, 1) := by decide +kernel
theorem dX6_crafts_0 : decode cX6_crafts 0 = .ok (.aload_n 0, 1) := by decide +kernel
theorem dX6_crafts_1 : decode cX6_crafts 1 = .ok (.getfield 281, 3) := by decide +kernel
theorem dX6_crafts_4 : decode cX6_crafts 4 = .ok (.ireturn, 1) := by decide +kernel
theorem dX6_isCraft_0 : decode cX6_isCraft 0 = .ok (.iload_n 1, 1) := by decide +kernel
theorem dX6_isCraft_1 : decode cX6_isCraft 1 = .ok (.ifCond .lt 15, 3) := by decide +kernel
theorem dX6_isCraft_4 : decode cX6_isCraft 4 = .ok (.iload_n 1, 1) := by decide +kernel
theorem dX6_isCraft_5 : decode cX6_isCraft 5 = .ok (.aload_n 0, 1) := by decide +kernel
theorem dX6_isCraft_6 : decode cX6_isCraft 6 = .ok (.getfield 281, 3) := by decide +kernel
theorem dX6_isCraft_9 : decode cX6_isCraft 9 = .ok (.if_icmp .ge 7, 3) := by decide +kernel
theorem dX6_isCraft_12 : decode cX6_isCraft 12 = .ok (.iconst 1, 1) := by decide +kernel
theorem dX6_isCraft_13 : decode cX6_isCraft 13 = .ok (.goto 4, 3) := by decide +kernel
theorem dX6_isCraft_16 : decode cX6_isCraft 16 = .ok (.iconst 0, 1) := by decide +kernel
theorem dX6_isCraft_17 : decode cX6_isCraft 17 = .ok (.ireturn, 1) := by decide +kernel
theorem dX6_craft_0 : decode cX6_craft 0 = .ok (.aload_n 0, 1) := by decide +kernel
theorem dX6_craft_1 : decode cX6_craft 1 = .ok (.iload_n 1, 1) := by decide +kernel
theorem dX6_craft_2 : decode cX6_craft 2 = .ok (.invokevirtual 350, 3) := by decide +kernel
theorem dX6_craft_5 : decode cX6_craft 5 = .ok (.ifCond .eq 27, 3) := by decide +kernel
theorem dX6_craft_8 : decode cX6_craft 8 = .ok (.iload_n 2, 1) := by decide +kernel
theorem dX6_craft_9 : decode cX6_craft 9 = .ok (.ifCond .lt 23, 3) := by decide +kernel
theorem dX6_craft_12 : decode cX6_craft 12 = .ok (.iload_n 2, 1) := by decide +kernel
theorem dX6_craft_13 : decode cX6_craft 13 = .ok (.bipush 18, 2) := by decide +kernel
theorem dX6_craft_15 : decode cX6_craft 15 = .ok (.if_icmp .ge 17, 3) := by decide +kernel
theorem dX6_craft_18 : decode cX6_craft 18 = .ok (.aload_n 0, 1) := by decide +kernel
theorem dX6_craft_19 : decode cX6_craft 19 = .ok (.getfield 129, 3) := by decide +kernel
theorem dX6_craft_22 : decode cX6_craft 22 = .ok (.aload_n 0, 1) := by decide +kernel
theorem dX6_craft_23 : decode cX6_craft 23 = .ok (.iload_n 1, 1) := by decide +kernel
theorem dX6_craft_24 : decode cX6_craft 24 = .ok (.iload_n 2, 1) := by decide +kernel
theorem dX6_craft_25 : decode cX6_craft 25 = .ok (.invokevirtual 284, 3) := by decide +kernel
theorem dX6_craft_28 : decode cX6_craft 28 = .ok (.iaload, 1) := by decide +kernel
theorem dX6_craft_29 : decode cX6_craft 29 = .ok (.goto 4, 3) := by decide +kernel
theorem dX6_craft_32 : decode cX6_craft 32 = .ok (.iconst (-1), 1) := by decide +kernel
theorem dX6_craft_33 : decode cX6_craft 33 = .ok (.ireturn, 1) := by decide +kernel
theorem dX6_sign_0 : decode cX6_sign 0 = .ok (.aload_n 0, 1) := by decide +kernel
theorem dX6_sign_1 : decode cX6_sign 1 = .ok (.iload_n 1, 1) := by decide +kernel
theorem dX6_sign_2 : decode cX6_sign 2 = .ok (.invokevirtual 350, 3) := by decide +kernel
theorem dX6_sign_5 : decode cX6_sign 5 = .ok (.ifCond .eq 46, 3) := by decide +kernel
theorem dX6_sign_8 : decode cX6_sign 8 = .ok (.iload_n 2, 1) := by decide +kernel
theorem dX6_sign_9 : decode cX6_sign 9 = .ok (.ifCond .lt 42, 3) := by decide +kernel
theorem dX6_sign_12 : decode cX6_sign 12 = .ok (.iload_n 2, 1) := by decide +kernel
theorem dX6_sign_13 : decode cX6_sign 13 = .ok (.bipush 8, 2) := by decide +kernel
theorem dX6_sign_15 : decode cX6_sign 15 = .ok (.if_icmp .ge 36, 3) := by decide +kernel
theorem dX6_sign_18 : decode cX6_sign 18 = .ok (.aload_n 0, 1) := by decide +kernel
theorem dX6_sign_19 : decode cX6_sign 19 = .ok (.getfield 129, 3) := by decide +kernel
theorem dX6_sign_22 : decode cX6_sign 22 = .ok (.aload_n 0, 1) := by decide +kernel
theorem dX6_sign_23 : decode cX6_sign 23 = .ok (.iload_n 1, 1) := by decide +kernel
theorem dX6_sign_24 : decode cX6_sign 24 = .ok (.bipush 18, 2) := by decide +kernel
theorem dX6_sign_26 : decode cX6_sign 26 = .ok (.invokevirtual 284, 3) := by decide +kernel
theorem dX6_sign_29 : decode cX6_sign 29 = .ok (.iaload, 1) := by decide +kernel
theorem dX6_sign_30 : decode cX6_sign 30 = .ok (.iconst 1, 1) := by decide +kernel
theorem dX6_sign_31 : decode cX6_sign 31 = .ok (.if_icmp .ne 20, 3) := by decide +kernel
theorem dX6_sign_34 : decode cX6_sign 34 = .ok (.aload_n 0, 1) := by decide +kernel
theorem dX6_sign_35 : decode cX6_sign 35 = .ok (.getfield 129, 3) := by decide +kernel
theorem dX6_sign_38 : decode cX6_sign 38 = .ok (.aload_n 0, 1) := by decide +kernel
theorem dX6_sign_39 : decode cX6_sign 39 = .ok (.iload_n 1, 1) := by decide +kernel
theorem dX6_sign_40 : decode cX6_sign 40 = .ok (.bipush 19, 2) := by decide +kernel
theorem dX6_sign_42 : decode cX6_sign 42 = .ok (.iload_n 2, 1) := by decide +kernel
theorem dX6_sign_43 : decode cX6_sign 43 = .ok (.iadd, 1) := by decide +kernel
theorem dX6_sign_44 : decode cX6_sign 44 = .ok (.invokevirtual 284, 3) := by decide +kernel
theorem dX6_sign_47 : decode cX6_sign 47 = .ok (.iaload, 1) := by decide +kernel
theorem dX6_sign_48 : decode cX6_sign 48 = .ok (.goto 4, 3) := by decide +kernel
theorem dX6_sign_51 : decode cX6_sign 51 = .ok (.iconst (-1), 1) := by decide +kernel
theorem dX6_sign_52 : decode cX6_sign 52 = .ok (.ireturn, 1) := by decide +kernel
