/-! decoded instructions -/
theorem dX6_init_0 : decode cX6_init 0 = .ok (.aload_n 0, 1) := by decide +kernel
theorem dX6_init_1 : decode cX6_init 1 = .ok (.invokespecial 1, 3) := by decide +kernel
theorem dX6_init_4 : decode cX6_init 4 = .ok (.aload_n 0, 1) := by decide +kernel
theorem dX6_init_5 : decode cX6_init 5 = .ok (.bipush 58, 2) := by decide +kernel
theorem dX6_init_7 : decode cX6_init 7 = .ok (.newarray .long, 2) := by decide +kernel
theorem dX6_init_9 : decode cX6_init 9 = .ok (.dup, 1) := by decide +kernel
theorem dX6_init_10 : decode cX6_init 10 = .ok (.iconst 0, 1) := by decide +kernel
theorem dX6_init_11 : decode cX6_init 11 = .ok (.ldc2_w 7, 3) := by decide +kernel
theorem dX6_init_14 : decode cX6_init 14 = .ok (.lastore, 1) := by decide +kernel
theorem dX6_init_15 : decode cX6_init 15 = .ok (.dup, 1) := by decide +kernel
theorem dX6_init_16 : decode cX6_init 16 = .ok (.iconst 1, 1) := by decide +kernel
theorem dX6_init_17 : decode cX6_init 17 = .ok (.ldc2_w 9, 3) := by decide +kernel
theorem dX6_init_20 : decode cX6_init 20 = .ok (.lastore, 1) := by decide +kernel
theorem dX6_init_21 : decode cX6_init 21 = .ok (.dup, 1) := by decide +kernel
theorem dX6_init_22 : decode cX6_init 22 = .ok (.iconst 2, 1) := by decide +kernel
theorem dX6_init_23 : decode cX6_init 23 = .ok (.ldc2_w 11, 3) := by decide +kernel
theorem dX6_init_26 : decode cX6_init 26 = .ok (.lastore, 1) := by decide +kernel
theorem dX6_init_27 : decode cX6_init 27 = .ok (.dup, 1) := by decide +kernel
theorem dX6_init_28 : decode cX6_init 28 = .ok (.iconst 3, 1) := by decide +kernel
theorem dX6_init_29 : decode cX6_init 29 = .ok (.ldc2_w 13, 3) := by decide +kernel
theorem dX6_init_32 : decode cX6_init 32 = .ok (.lastore, 1) := by decide +kernel
theorem dX6_init_33 : decode cX6_init 33 = .ok (.dup, 1) := by decide +kernel
theorem dX6_init_34 : decode cX6_init 34 = .ok (.iconst 4, 1) := by decide +kernel
theorem dX6_init_35 : decode cX6_init 35 = .ok (.ldc2_w 15, 3) := by decide +kernel
theorem dX6_init_38 : decode cX6_init 38 = .ok (.lastore, 1) := by decide +kernel
theorem dX6_init_39 : decode cX6_init 39 = .ok (.dup, 1) := by decide +kernel
theorem dX6_init_40 : decode cX6_init 40 = .ok (.iconst 5, 1) := by decide +kernel
theorem dX6_init_41 : decode cX6_init 41 = .ok (.ldc2_w 17, 3) := by decide +kernel
theorem dX6_init_44 : decode cX6_init 44 = .ok (.lastore, 1) := by decide +kernel
theorem dX6_init_45 : decode cX6_init 45 = .ok (.dup, 1) := by decide +kernel
theorem dX6_init_46 : decode cX6_init 46 = .ok (.bipush 6, 2) := by decide +kernel
theorem dX6_init_48 : decode cX6_init 48 = .ok (.ldc2_w 19, 3) := by decide +kernel
theorem dX6_init_51 : decode cX6_init 51 = .ok (.lastore, 1) := by decide +kernel
theorem dX6_init_52 : decode cX6_init 52 = .ok (.dup, 1) := by decide +kernel
theorem dX6_init_53 : decode cX6_init 53 = .ok (.bipush 7, 2) := by decide +kernel
theorem dX6_init_55 : decode cX6_init 55 = .ok (.ldc2_w 21, 3) := by decide +kernel
theorem dX6_init_58 : decode cX6_init 58 = .ok (.lastore, 1) := by decide +kernel
theorem dX6_init_59 : decode cX6_init 59 = .ok (.dup, 1) := by decide +kernel
theorem dX6_init_60 : decode cX6_init 60 = .ok (.bipush 8, 2) := by decide +kernel
theorem dX6_init_62 : decode cX6_init 62 = .ok (.ldc2_w 23, 3) := by decide +kernel
theorem dX6_init_65 : decode cX6_init 65 = .ok (.lastore, 1) := by decide +kernel
theorem dX6_init_66 : decode cX6_init 66 = .ok (.dup, 1) := by decide +kernel
theorem dX6_init_67 : decode cX6_init 67 = .ok (.bipush 9, 2) := by decide +kernel
theorem dX6_init_69 : decode cX6_init 69 = .ok (.ldc2_w 25, 3) := by decide +kernel
theorem dX6_init_72 : decode cX6_init 72 = .ok (.lastore, 1) := by decide +kernel
theorem dX6_init_73 : decode cX6_init 73 = .ok (.dup, 1) := by decide +kernel
theorem dX6_init_74 : decode cX6_init 74 = .ok (.bipush 10, 2) := by decide +kernel
theorem dX6_init_76 : decode cX6_init 76 = .ok (.ldc2_w 27, 3) := by decide +kernel
theorem dX6_init_79 : decode cX6_init 79 = .ok (.lastore, 1) := by decide +kernel
theorem dX6_init_80 : decode cX6_init 80 = .ok (.dup, 1) := by decide +kernel
theorem dX6_init_81 : decode cX6_init 81 = .ok (.bipush 11, 2) := by decide +kernel
theorem dX6_init_83 : decode cX6_init 83 = .ok (.ldc2_w 29, 3) := by decide +kernel
theorem dX6_init_86 : decode cX6_init 86 = .ok (.lastore, 1) := by decide +kernel
theorem dX6_init_87 : decode cX6_init 87 = .ok (.dup, 1) := by decide +kernel
theorem dX6_init_88 : decode cX6_init 88 = .ok (.bipush 12, 2) := by decide +kernel
theorem dX6_init_90 : decode cX6_init 90 = .ok (.ldc2_w 31, 3) := by decide +kernel
theorem dX6_init_93 : decode cX6_init 93 = .ok (.lastore, 1) := by decide +kernel
theorem dX6_init_94 : decode cX6_init 94 = .ok (.dup, 1) := by decide +kernel
theorem dX6_init_95 : decode cX6_init 95 = .ok (.bipush 13, 2) := by decide +kernel
theorem dX6_init_97 : decode cX6_init 97 = .ok (.ldc2_w 33, 3) := by decide +kernel
theorem dX6_init_100 : decode cX6_init 100 = .ok (.lastore, 1) := by decide +kernel
theorem dX6_init_101 : decode cX6_init 101 = .ok (.dup, 1) := by decide +kernel
theorem dX6_init_102 : decode cX6_init 102 = .ok (.bipush 14, 2) := by decide +kernel
theorem dX6_init_104 : decode cX6_init 104 = .ok (.ldc2_w 35, 3) := by decide +kernel
theorem dX6_init_107 : decode cX6_init 107 = .ok (.lastore, 1) := by decide +kernel
theorem dX6_init_108 : decode cX6_init 108 = .ok (.dup, 1) := by decide +kernel
theorem dX6_init_109 : decode cX6_init 109 = .ok (.bipush 15, 2) := by decide +kernel
theorem dX6_init_111 : decode cX6_init 111 = .ok (.ldc2_w 37, 3) := by decide +kernel
theorem dX6_init_114 : decode cX6_init 114 = .ok (.lastore, 1) := by decide +kernel
theorem dX6_init_115 : decode cX6_init 115 = .ok (.dup, 1) := by decide +kernel
theorem dX6_init_116 : decode cX6_init 116 = .ok (.bipush 16, 2) := by decide +kernel
theorem dX6_init_118 : decode cX6_init 118 = .ok (.ldc2_w 39, 3) := by decide +kernel
theorem dX6_init_121 : decode cX6_init 121 = .ok (.lastore, 1) := by decide +kernel
theorem dX6_init_122 : decode cX6_init 122 = .ok (.dup, 1) := by decide +kernel
theorem dX6_init_123 : decode cX6_init 123 = .ok (.bipush 17, 2) := by decide +kernel
theorem dX6_init_125 : decode cX6_init 125 = .ok (.ldc2_w 41, 3) := by decide +kernel
theorem dX6_init_128 : decode cX6_init 128 = .ok (.lastore, 1) := by decide +kernel
theorem dX6_init_129 : decode cX6_init 129 = .ok (.dup, 1) := by decide +kernel
theorem dX6_init_130 : decode cX6_init 130 = .ok (.bipush 18, 2) := by decide +kernel
theorem dX6_init_132 : decode cX6_init 132 = .ok (.ldc2_w 43, 3) := by decide +kernel
theorem dX6_init_135 : decode cX6_init 135 = .ok (.lastore, 1) := by decide +kernel
theorem dX6_init_136 : decode cX6_init 136 = .ok (.dup, 1) := by decide +kernel
theorem dX6_init_137 : decode cX6_init 137 = .ok (.bipush 19, 2) := by decide +kernel
theorem dX6_init_139 : decode cX6_init 139 = .ok (.ldc2_w 45, 3) := by decide +kernel
theorem dX6_init_142 : decode cX6_init 142 = .ok (.lastore, 1) := by decide +kernel
theorem dX6_init_143 : decode cX6_init 143 = .ok (.dup, 1) := by decide +kernel
theorem dX6_init_144 : decode cX6_init 144 = .ok (.bipush 20, 2) := by decide +kernel
theorem dX6_init_146 : decode cX6_init 146 = .ok (.ldc2_w 47, 3) := by decide +kernel
theorem dX6_init_149 : decode cX6_init 149 = .ok (.lastore, 1) := by decide +kernel
theorem dX6_init_150 : decode cX6_init 150 = .ok (.dup, 1) := by decide +kernel
theorem dX6_init_151 : decode cX6_init 151 = .ok (.bipush 21, 2) := by decide +kernel
theorem dX6_init_153 : decode cX6_init 153 = .ok (.ldc2_w 49, 3) := by decide +kernel
theorem dX6_init_156 : decode cX6_init 156 = .ok (.lastore, 1) := by decide +kernel
theorem dX6_init_157 : decode cX6_init 157 = .ok (.dup, 1) := by decide +kernel
theorem dX6_init_158 : decode cX6_init 158 = .ok (.bipush 22, 2) := by decide +kernel
theorem dX6_init_160 : decode cX6_init 160 = .ok (.ldc2_w 51, 3) := by decide +kernel
theorem dX6_init_163 : decode cX6_init 163 = .ok (.lastore, 1) := by decide +kernel
theorem dX6_init_164 : decode cX6_init 164 = .ok (.dup, 1) := by decide +kernel
theorem dX6_init_165 : decode cX6_init 165 = .ok (.bipush 23, 2) := by decide +kernel
theorem dX6_init_167 : decode cX6_init 167 = .ok (.ldc2_w 53, 3) := by decide +kernel
theorem dX6_init_170 : decode cX6_init 170 = .ok (.lastore, 1) := by decide +kernel
theorem dX6_init_171 : decode cX6_init 171 = .ok (.dup, 1) := by decide +kernel
theorem dX6_init_172 : decode cX6_init 172 = .ok (.bipush 24, 2) := by decide +kernel
theorem dX6_init_174 : decode cX6_init 174 = .ok (.ldc2_w 55, 3) := by decide +kernel
theorem dX6_init_177 : decode cX6_init 177 = .ok (.lastore, 1) := by decide +kernel
theorem dX6_init_178 : decode cX6_init 178 = .ok (.dup, 1) := by decide +kernel
theorem dX6_init_179 : decode cX6_init 179 = .ok (.bipush 25, 2) := by decide +kernel
theorem dX6_init_181 : decode cX6_init 181 = .ok (.ldc2_w 57, 3) := by decide +kernel
theorem dX6_init_184 : decode cX6_init 184 = .ok (.lastore, 1) := by decide +kernel
theorem dX6_init_185 : decode cX6_init 185 = .ok (.dup, 1) := by decide +kernel
theorem dX6_init_186 : decode cX6_init 186 = .ok (.bipush 26, 2) := by decide +kernel
theorem dX6_init_188 : decode cX6_init 188 = .ok (.ldc2_w 59, 3) := by decide +kernel
theorem dX6_init_191 : decode cX6_init 191 = .ok (.lastore, 1) := by decide +kernel
theorem dX6_init_192 : decode cX6_init 192 = .ok (.dup, 1) := by decide +kernel
theorem dX6_init_193 : decode cX6_init 193 = .ok (.bipush 27, 2) := by decide +kernel
theorem dX6_init_195 : decode cX6_init 195 = .ok (.ldc2_w 61, 3) := by decide +kernel
theorem dX6_init_198 : decode cX6_init 198 = .ok (.lastore, 1) := by decide +kernel
theorem dX6_init_199 : decode cX6_init 199 = .ok (.dup, 1) := by decide +kernel
theorem dX6_init_200 : decode cX6_init 200 = .ok (.bipush 28, 2) := by decide +kernel
theorem dX6_init_202 : decode cX6_init 202 = .ok (.ldc2_w 63, 3) := by decide +kernel
theorem dX6_init_205 : decode cX6_init 205 = .ok (.lastore, 1) := by decide +kernel
theorem dX6_init_206 : decode cX6_init 206 = .ok (.dup, 1) := by decide +kernel
theorem dX6_init_207 : decode cX6_init 207 = .ok (.bipush 29, 2) := by decide +kernel
theorem dX6_init_209 : decode cX6_init 209 = .ok (.ldc2_w 65, 3) := by decide +kernel
theorem dX6_init_212 : decode cX6_init 212 = .ok (.lastore, 1) := by decide +kernel
theorem dX6_init_213 : decode cX6_init 213 = .ok (.dup, 1) := by decide +kernel
theorem dX6_init_214 : decode cX6_init 214 = .ok (.bipush 30, 2) := by decide +kernel
theorem dX6_init_216 : decode cX6_init 216 = .ok (.ldc2_w 67, 3) := by decide +kernel
theorem dX6_init_219 : decode cX6_init 219 = .ok (.lastore, 1) := by decide +kernel
theorem dX6_init_220 : decode cX6_init 220 = .ok (.dup, 1) := by decide +kernel
theorem dX6_init_221 : decode cX6_init 221 = .ok (.bipush 31, 2) := by decide +kernel
theorem dX6_init_223 : decode cX6_init 223 = .ok (.ldc2_w 69, 3) := by decide +kernel
theorem dX6_init_226 : decode cX6_init 226 = .ok (.lastore, 1) := by decide +kernel
theorem dX6_init_227 : decode cX6_init 227 = .ok (.dup, 1) := by decide +kernel
theorem dX6_init_228 : decode cX6_init 228 = .ok (.bipush 32, 2) := by decide +kernel
theorem dX6_init_230 : decode cX6_init 230 = .ok (.ldc2_w 71, 3) := by decide +kernel
theorem dX6_init_233 : decode cX6_init 233 = .ok (.lastore, 1) := by decide +kernel
theorem dX6_init_234 : decode cX6_init 234 = .ok (.dup, 1) := by decide +kernel
theorem dX6_init_235 : decode cX6_init 235 = .ok (.bipush 33, 2) := by decide +kernel
theorem dX6_init_237 : decode cX6_init 237 = .ok (.ldc2_w 73, 3) := by decide +kernel
theorem dX6_init_240 : decode cX6_init 240 = .ok (.lastore, 1) := by decide +kernel
theorem dX6_init_241 : decode cX6_init 241 = .ok (.dup, 1) := by decide +kernel
theorem dX6_init_242 : decode cX6_init 242 = .ok (.bipush 34, 2) := by decide +kernel
theorem dX6_init_244 : decode cX6_init 244 = .ok (.ldc2_w 75, 3) := by decide +kernel
theorem dX6_init_247 : decode cX6_init 247 = .ok (.lastore, 1) := by decide +kernel
theorem dX6_init_248 : decode cX6_init 248 = .ok (.dup, 1) := by decide +kernel
theorem dX6_init_249 : decode cX6_init 249 = .ok (.bipush 35, 2) := by decide +kernel
theorem dX6_init_251 : decode cX6_init 251 = .ok (.ldc2_w 77, 3) := by decide +kernel
theorem dX6_init_254 : decode cX6_init 254 = .ok (.lastore, 1) := by decide +kernel
theorem dX6_init_255 : decode cX6_init 255 = .ok (.dup, 1) := by decide +kernel
theorem dX6_init_256 : decode cX6_init 256 = .ok (.bipush 36, 2) := by decide +kernel
theorem dX6_init_258 : decode cX6_init 258 = .ok (.ldc2_w 79, 3) := by decide +kernel
theorem dX6_init_261 : decode cX6_init 261 = .ok (.lastore, 1) := by decide +kernel
theorem dX6_init_262 : decode cX6_init 262 = .ok (.dup, 1) := by decide +kernel
theorem dX6_init_263 : decode cX6_init 263 = .ok (.bipush 37, 2) := by decide +kernel
theorem dX6_init_265 : decode cX6_init 265 = .ok (.ldc2_w 81, 3) := by decide +kernel
theorem dX6_init_268 : decode cX6_init 268 = .ok (.lastore, 1) := by decide +kernel
theorem dX6_init_269 : decode cX6_init 269 = .ok (.dup, 1) := by decide +kernel
theorem dX6_init_270 : decode cX6_init 270 = .ok (.bipush 38, 2) := by decide +kernel
theorem dX6_init_272 : decode cX6_init 272 = .ok (.ldc2_w 83, 3) := by decide +kernel
theorem dX6_init_275 : decode cX6_init 275 = .ok (.lastore, 1) := by decide +kernel
theorem dX6_init_276 : decode cX6_init 276 = .ok (.dup, 1) := by decide +kernel
theorem dX6_init_277 : decode cX6_init 277 = .ok (.bipush 39, 2) := by decide +kernel
theorem dX6_init_279 : decode cX6_init 279 = .ok (.ldc2_w 85, 3) := by decide +kernel
theorem dX6_init_282 : decode cX6_init 282 = .ok (.lastore, 1) := by decide +kernel
theorem dX6_init_283 : decode cX6_init 283 = .ok (.dup, 1) := by decide +kernel
theorem dX6_init_284 : decode cX6_init 284 = .ok (.bipush 40, 2) := by decide +kernel
theorem dX6_init_286 : decode cX6_init 286 = .ok (.ldc2_w 87, 3) := by decide +kernel
theorem dX6_init_289 : decode cX6_init 289 = .ok (.lastore, 1) := by decide +kernel
theorem dX6_init_290 : decode cX6_init 290 = .ok (.dup, 1) := by decide +kernel
theorem dX6_init_291 : decode cX6_init 291 = .ok (.bipush 41, 2) := by decide +kernel
theorem dX6_init_293 : decode cX6_init 293 = .ok (.ldc2_w 89, 3) := by decide +kernel
theorem dX6_init_296 : decode cX6_init 296 = .ok (.lastore, 1) := by decide +kernel
theorem dX6_init_297 : decode cX6_init 297 = .ok (.dup, 1) := by decide +kernel
theorem dX6_init_298 : decode cX6_init 298 = .ok (.bipush 42, 2) := by decide +kernel
theorem dX6_init_300 : decode cX6_init 300 = .ok (.ldc2_w 91, 3) := by decide +kernel
theorem dX6_init_303 : decode cX6_init 303 = .ok (.lastore, 1) := by decide +kernel
theorem dX6_init_304 : decode cX6_init 304 = .ok (.dup, 1) := by decide +kernel
theorem dX6_init_305 : decode cX6_init 305 = .ok (.bipush 43, 2) := by decide +kernel
theorem dX6_init_307 : decode cX6_init 307 = .ok (.ldc2_w 93, 3) := by decide +kernel
theorem dX6_init_310 : decode cX6_init 310 = .ok (.lastore, 1) := by decide +kernel
theorem dX6_init_311 : decode cX6_init 311 = .ok (.dup, 1) := by decide +kernel
theorem dX6_init_312 : decode cX6_init 312 = .ok (.bipush 44, 2) := by decide +kernel
theorem dX6_init_314 : decode cX6_init 314 = .ok (.ldc2_w 95, 3) := by decide +kernel
theorem dX6_init_317 : decode cX6_init 317 = .ok (.lastore, 1) := by decide +kernel
theorem dX6_init_318 : decode cX6_init 318 = .ok (.dup, 1) := by decide +kernel
theorem dX6_init_319 : decode cX6_init 319 = .ok (.bipush 45, 2) := by decide +kernel
theorem dX6_init_321 : decode cX6_init 321 = .ok (.ldc2_w 97, 3) := by decide +kernel
theorem dX6_init_324 : decode cX6_init 324 = .ok (.lastore, 1) := by decide +kernel
theorem dX6_init_325 : decode cX6_init 325 = .ok (.dup, 1) := by decide +kernel
theorem dX6_init_326 : decode cX6_init 326 = .ok (.bipush 46, 2) := by decide +kernel
theorem dX6_init_328 : decode cX6_init 328 = .ok (.ldc2_w 99, 3) := by decide +kernel
theorem dX6_init_331 : decode cX6_init 331 = .ok (.lastore, 1) := by decide +kernel
theorem dX6_init_332 : decode cX6_init 332 = .ok (.dup, 1) := by decide +kernel
theorem dX6_init_333 : decode cX6_init 333 = .ok (.bipush 47, 2) := by decide +kernel
theorem dX6_init_335 : decode cX6_init 335 = .ok (.ldc2_w 101, 3) := by decide +kernel
theorem dX6_init_338 : decode cX6_init 338 = .ok (.lastore, 1) := by decide +kernel
theorem dX6_init_339 : decode cX6_init 339 = .ok (.dup, 1) := by decide +kernel
theorem dX6_init_340 : decode cX6_init 340 = .ok (.bipush 48, 2) := by decide +kernel
theorem dX6_init_342 : decode cX6_init 342 = .ok (.ldc2_w 103, 3) := by decide +kernel
theorem dX6_init_345 : decode cX6_init 345 = .ok (.lastore, 1) := by decide +kernel
theorem dX6_init_346 : decode cX6_init 346 = .ok (.dup, 1) := by decide +kernel
theorem dX6_init_347 : decode cX6_init 347 = .ok (.bipush 49, 2) := by decide +kernel
theorem dX6_init_349 : decode cX6_init 349 = .ok (.ldc2_w 105, 3) := by decide +kernel
theorem dX6_init_352 : decode cX6_init 352 = .ok (.lastore, 1) := by decide +kernel
theorem dX6_init_353 : decode cX6_init 353 = .ok (.dup, 1) := by decide +kernel
theorem dX6_init_354 : decode cX6_init 354 = .ok (.bipush 50, 2) := by decide +kernel
theorem dX6_init_356 : decode cX6_init 356 = .ok (.ldc2_w 107, 3) := by decide +kernel
theorem dX6_init_359 : decode cX6_init 359 = .ok (.lastore, 1) := by decide +kernel
theorem dX6_init_360 : decode cX6_init 360 = .ok (.dup, 1) := by decide +kernel
theorem dX6_init_361 : decode cX6_init 361 = .ok (.bipush 51, 2) := by decide +kernel
theorem dX6_init_363 : decode cX6_init 363 = .ok (.ldc2_w 109, 3) := by decide +kernel
theorem dX6_init_366 : decode cX6_init 366 = .ok (.lastore, 1) := by decide +kernel
theorem dX6_init_367 : decode cX6_init 367 = .ok (.dup, 1) := by decide +kernel
theorem dX6_init_368 : decode cX6_init 368 = .ok (.bipush 52, 2) := by decide +kernel
theorem dX6_init_370 : decode cX6_init 370 = .ok (.ldc2_w 111, 3) := by decide +kernel
theorem dX6_init_373 : decode cX6_init 373 = .ok (.lastore, 1) := by decide +kernel
theorem dX6_init_374 : decode cX6_init 374 = .ok (.dup, 1) := by decide +kernel
theorem dX6_init_375 : decode cX6_init 375 = .ok (.bipush 53, 2) := by decide +kernel
theorem dX6_init_377 : decode cX6_init 377 = .ok (.ldc2_w 113, 3) := by decide +kernel
theorem dX6_init_380 : decode cX6_init 380 = .ok (.lastore, 1) := by decide +kernel
theorem dX6_init_381 : decode cX6_init 381 = .ok (.dup, 1) := by decide +kernel
theorem dX6_init_382 : decode cX6_init 382 = .ok (.bipush 54, 2) := by decide +kernel
theorem dX6_init_384 : decode cX6_init 384 = .ok (.ldc2_w 115, 3) := by decide +kernel
theorem dX6_init_387 : decode cX6_init 387 = .ok (.lastore, 1) := by decide +kernel
theorem dX6_init_388 : decode cX6_init 388 = .ok (.dup, 1) := by decide +kernel
theorem dX6_init_389 : decode cX6_init 389 = .ok (.bipush 55, 2) := by decide +kernel
theorem dX6_init_391 : decode cX6_init 391 = .ok (.ldc2_w 117, 3) := by decide +kernel
theorem dX6_init_394 : decode cX6_init 394 = .ok (.lastore, 1) := by decide +kernel
theorem dX6_init_395 : decode cX6_init 395 = .ok (.dup, 1) := by decide +kernel
theorem dX6_init_396 : decode cX6_init 396 = .ok (.bipush 56, 2) := by decide +kernel
theorem dX6_init_398 : decode cX6_init 398 = .ok (.ldc2_w 119, 3) := by decide +kernel
theorem dX6_init_401 : decode cX6_init 401 = .ok (.lastore, 1) := by decide +kernel
theorem dX6_init_402 : decode cX6_init 402 = .ok (.dup, 1) := by decide +kernel
theorem dX6_init_403 : decode cX6_init 403 = .ok (.bipush 57, 2) := by decide +kernel
theorem dX6_init_405 : decode cX6_init 405 = .ok (.ldc2_w 121, 3) := by decide +kernel
theorem dX6_init_408 : decode cX6_init 408 = .ok (.lastore, 1) := by decide +kernel
theorem dX6_init_409 : decode cX6_init 409 = .ok (.putfield 123, 3) := by decide +kernel
theorem dX6_init_412 : decode cX6_init 412 = .ok (.aload_n 0, 1) := by decide +kernel
theorem dX6_init_413 : decode cX6_init 413 = .ok (.sipush 800, 3) := by decide +kernel
theorem dX6_init_416 : decode cX6_init 416 = .ok (.newarray .int, 2) := by decide +kernel
theorem dX6_init_418 : decode cX6_init 418 = .ok (.putfield 129, 3) := by decide +kernel
theorem dX6_init_421 : decode cX6_init 421 = .ok (.aload_n 0, 1) := by decide +kernel
theorem dX6_init_422 : decode cX6_init 422 = .ok (.bipush 112, 2) := by decide +kernel
theorem dX6_init_424 : decode cX6_init 424 = .ok (.newarray .int, 2) := by decide +kernel
theorem dX6_init_426 : decode cX6_init 426 = .ok (.putfield 133, 3) := by decide +kernel
theorem dX6_init_429 : decode cX6_init 429 = .ok (.aload_n 0, 1) := by decide +kernel
theorem dX6_init_430 : decode cX6_init 430 = .ok (.bipush 112, 2) := by decide +kernel
theorem dX6_init_432 : decode cX6_init 432 = .ok (.newarray .int, 2) := by decide +kernel
theorem dX6_init_434 : decode cX6_init 434 = .ok (.putfield 136, 3) := by decide +kernel
theorem dX6_init_437 : decode cX6_init 437 = .ok (.aload_n 0, 1) := by decide +kernel
theorem dX6_init_438 : decode cX6_init 438 = .ok (.iconst (-1), 1) := by decide +kernel
theorem dX6_init_439 : decode cX6_init 439 = .ok (.putfield 139, 3) := by decide +kernel
theorem dX6_init_442 : decode cX6_init 442 = .ok (.return_, 1) := by decide +kernel
theorem dX6_frame_0 : decode cX6_frame 0 = .ok (.iconst 0, 1) := by decide +kernel
theorem dX6_frame_1 : decode cX6_frame 1 = .ok (.istore 5, 2) := by decide +kernel
theorem dX6_frame_3 : decode cX6_frame 3 = .ok (.iload 5, 2) := by decide +kernel
theorem dX6_frame_5 : decode cX6_frame 5 = .ok (.bipush 112, 2) := by decide +kernel
theorem dX6_frame_7 : decode cX6_frame 7 = .ok (.if_icmp .ge 66, 3) := by decide +kernel
theorem dX6_frame_10 : decode cX6_frame 10 = .ok (.iload 5, 2) := by decide +kernel
theorem dX6_frame_12 : decode cX6_frame 12 = .ok (.bipush 32, 2) := by decide +kernel
theorem dX6_frame_14 : decode cX6_frame 14 = .ok (.if_icmp .ge 7, 3) := by decide +kernel
theorem dX6_frame_17 : decode cX6_frame 17 = .ok (.iload_n 1, 1) := by decide +kernel
theorem dX6_frame_18 : decode cX6_frame 18 = .ok (.goto 27, 3) := by decide +kernel
theorem dX6_frame_21 : decode cX6_frame 21 = .ok (.iload 5, 2) := by decide +kernel
theorem dX6_frame_23 : decode cX6_frame 23 = .ok (.bipush 64, 2) := by decide +kernel
theorem dX6_frame_25 : decode cX6_frame 25 = .ok (.if_icmp .ge 7, 3) := by decide +kernel
theorem dX6_frame_28 : decode cX6_frame 28 = .ok (.iload_n 2, 1) := by decide +kernel
theorem dX6_frame_29 : decode cX6_frame 29 = .ok (.goto 16, 3) := by decide +kernel
theorem dX6_frame_32 : decode cX6_frame 32 = .ok (.iload 5, 2) := by decide +kernel
theorem dX6_frame_34 : decode cX6_frame 34 = .ok (.bipush 96, 2) := by decide +kernel
theorem dX6_frame_36 : decode cX6_frame 36 = .ok (.if_icmp .ge 7, 3) := by decide +kernel
theorem dX6_frame_39 : decode cX6_frame 39 = .ok (.iload_n 3, 1) := by decide +kernel
theorem dX6_frame_40 : decode cX6_frame 40 = .ok (.goto 5, 3) := by decide +kernel
theorem dX6_frame_43 : decode cX6_frame 43 = .ok (.iload 4, 2) := by decide +kernel
theorem dX6_frame_45 : decode cX6_frame 45 = .ok (.istore 6, 2) := by decide +kernel
theorem dX6_frame_47 : decode cX6_frame 47 = .ok (.aload_n 0, 1) := by decide +kernel
theorem dX6_frame_48 : decode cX6_frame 48 = .ok (.getfield 133, 3) := by decide +kernel
theorem dX6_frame_51 : decode cX6_frame 51 = .ok (.iload 5, 2) := by decide +kernel
theorem dX6_frame_53 : decode cX6_frame 53 = .ok (.iload 6, 2) := by decide +kernel
theorem dX6_frame_55 : decode cX6_frame 55 = .ok (.bipush 31, 2) := by decide +kernel
theorem dX6_frame_57 : decode cX6_frame 57 = .ok (.iload 5, 2) := by decide +kernel
theorem dX6_frame_59 : decode cX6_frame 59 = .ok (.bipush 32, 2) := by decide +kernel
theorem dX6_frame_61 : decode cX6_frame 61 = .ok (.irem, 1) := by decide +kernel
theorem dX6_frame_62 : decode cX6_frame 62 = .ok (.isub, 1) := by decide +kernel
theorem dX6_frame_63 : decode cX6_frame 63 = .ok (.ishr, 1) := by decide +kernel
theorem dX6_frame_64 : decode cX6_frame 64 = .ok (.iconst 1, 1) := by decide +kernel
theorem dX6_frame_65 : decode cX6_frame 65 = .ok (.iand, 1) := by decide +kernel
theorem dX6_frame_66 : decode cX6_frame 66 = .ok (.iastore, 1) := by decide +kernel
theorem dX6_frame_67 : decode cX6_frame 67 = .ok (.iinc 5 1, 3) := by decide +kernel
theorem dX6_frame_70 : decode cX6_frame 70 = .ok (.goto (-67), 3) := by decide +kernel
theorem dX6_frame_73 : decode cX6_frame 73 = .ok (.aload_n 0, 1) := by decide +kernel
theorem dX6_frame_74 : decode cX6_frame 74 = .ok (.aload_n 0, 1) := by decide +kernel
theorem dX6_frame_75 : decode cX6_frame 75 = .ok (.getfield 133, 3) := by decide +kernel
theorem dX6_frame_78 : decode cX6_frame 78 = .ok (.iconst 0, 1) := by decide +kernel
theorem dX6_frame_79 : decode cX6_frame 79 = .ok (.iaload, 1) := by decide +kernel
theorem dX6_frame_80 : decode cX6_frame 80 = .ok (.ifCond .ne 8, 3) := by decide +kernel
theorem dX6_frame_83 : decode cX6_frame 83 = .ok (.bipush 56, 2) := by decide +kernel
theorem dX6_frame_85 : decode cX6_frame 85 = .ok (.goto 5, 3) := by decide +kernel
theorem dX6_frame_88 : decode cX6_frame 88 = .ok (.bipush 112, 2) := by decide +kernel
theorem dX6_frame_90 : decode cX6_frame 90 = .ok (.putfield 143, 3) := by decide +kernel
theorem dX6_frame_93 : decode cX6_frame 93 = .ok (.return_, 1) := by decide +kernel
theorem dX6_number_0 : decode cX6_number 0 = .ok (.iconst 0, 1) := by decide +kernel
theorem dX6_number_1 : decode cX6_number 1 = .ok (.istore 4, 2) := by decide +kernel
theorem dX6_number_3 : decode cX6_number 3 = .ok (.iload_n 2, 1) := by decide +kernel
theorem dX6_number_4 : decode cX6_number 4 = .ok (.istore 5, 2) := by decide +kernel
theorem dX6_number_6 : decode cX6_number 6 = .ok (.iload 5, 2) := by decide +kernel
theorem dX6_number_8 : decode cX6_number 8 = .ok (.iload_n 3, 1) := by decide +kernel
theorem dX6_number_9 : decode cX6_number 9 = .ok (.if_icmp .gt 22, 3) := by decide +kernel
theorem dX6_number_12 : decode cX6_number 12 = .ok (.iconst 2, 1) := by decide +kernel
theorem dX6_number_13 : decode cX6_number 13 = .ok (.iload 4, 2) := by decide +kernel
theorem dX6_number_15 : decode cX6_number 15 = .ok (.imul, 1) := by decide +kernel
theorem dX6_number_16 : decode cX6_number 16 = .ok (.aload_n 1, 1) := by decide +kernel
theorem dX6_number_17 : decode cX6_number 17 = .ok (.iload 5, 2) := by decide +kernel
theorem dX6_number_19 : decode cX6_number 19 = .ok (.iconst 1, 1) := by decide +kernel
theorem dX6_number_20 : decode cX6_number 20 = .ok (.isub, 1) := by decide +kernel
theorem dX6_number_21 : decode cX6_number 21 = .ok (.iaload, 1) := by decide +kernel
theorem dX6_number_22 : decode cX6_number 22 = .ok (.iadd, 1) := by decide +kernel
theorem dX6_number_23 : decode cX6_number 23 = .ok (.istore 4, 2) := by decide +kernel
theorem dX6_number_25 : decode cX6_number 25 = .ok (.iinc 5 1, 3) := by decide +kernel
theorem dX6_number_28 : decode cX6_number 28 = .ok (.goto (-22), 3) := by decide +kernel
theorem dX6_number_31 : decode cX6_number 31 = .ok (.iload 4, 2) := by decide +kernel
theorem dX6_number_33 : decode cX6_number 33 = .ok (.ireturn, 1) := by decide +kernel
theorem dX6_remainder_0 : decode cX6_remainder 0 = .ok (.iconst 0, 1) := by decide +kernel
theorem dX6_remainder_1 : decode cX6_remainder 1 = .ok (.istore_n 1, 1) := by decide +kernel
theorem dX6_remainder_2 : decode cX6_remainder 2 = .ok (.iconst 0, 1) := by decide +kernel
theorem dX6_remainder_3 : decode cX6_remainder 3 = .ok (.istore_n 2, 1) := by decide +kernel
theorem dX6_remainder_4 : decode cX6_remainder 4 = .ok (.iload_n 2, 1) := by decide +kernel
theorem dX6_remainder_5 : decode cX6_remainder 5 = .ok (.aload_n 0, 1) := by decide +kernel
theorem dX6_remainder_6 : decode cX6_remainder 6 = .ok (.getfield 143, 3) := by decide +kernel
theorem dX6_remainder_9 : decode cX6_remainder 9 = .ok (.if_icmp .ge 31, 3) := by decide +kernel
theorem dX6_remainder_12 : decode cX6_remainder 12 = .ok (.iconst 2, 1) := by decide +kernel
theorem dX6_remainder_13 : decode cX6_remainder 13 = .ok (.iload_n 1, 1) := by decide +kernel
theorem dX6_remainder_14 : decode cX6_remainder 14 = .ok (.imul, 1) := by decide +kernel
theorem dX6_remainder_15 : decode cX6_remainder 15 = .ok (.aload_n 0, 1) := by decide +kernel
theorem dX6_remainder_16 : decode cX6_remainder 16 = .ok (.getfield 133, 3) := by decide +kernel
theorem dX6_remainder_19 : decode cX6_remainder 19 = .ok (.iload_n 2, 1) := by decide +kernel
theorem dX6_remainder_20 : decode cX6_remainder 20 = .ok (.iaload, 1) := by decide +kernel
theorem dX6_remainder_21 : decode cX6_remainder 21 = .ok (.iadd, 1) := by decide +kernel
theorem dX6_remainder_22 : decode cX6_remainder 22 = .ok (.istore_n 1, 1) := by decide +kernel
theorem dX6_remainder_23 : decode cX6_remainder 23 = .ok (.iload_n 1, 1) := by decide +kernel
theorem dX6_remainder_24 : decode cX6_remainder 24 = .ok (.ldc 146, 2) := by decide +kernel
theorem dX6_remainder_26 : decode cX6_remainder 26 = .ok (.if_icmp .lt 8, 3) := by decide +kernel
theorem dX6_remainder_29 : decode cX6_remainder 29 = .ok (.iload_n 1, 1) := by decide +kernel
theorem dX6_remainder_30 : decode cX6_remainder 30 = .ok (.ldc 147, 2) := by decide +kernel
theorem dX6_remainder_32 : decode cX6_remainder 32 = .ok (.ixor, 1) := by decide +kernel
theorem dX6_remainder_33 : decode cX6_remainder 33 = .ok (.istore_n 1, 1) := by decide +kernel
theorem dX6_remainder_34 : decode cX6_remainder 34 = .ok (.iinc 2 1, 3) := by decide +kernel
theorem dX6_remainder_37 : decode cX6_remainder 37 = .ok (.goto (-33), 3) := by decide +kernel
theorem dX6_remainder_40 : decode cX6_remainder 40 = .ok (.iload_n 1, 1) := by decide +kernel
theorem dX6_remainder_41 : decode cX6_remainder 41 = .ok (.ireturn, 1) := by decide +kernel
theorem dX6_syndrome_0 : decode cX6_syndrome 0 = .ok (.aload_n 0, 1) := by decide +kernel
theorem dX6_syndrome_1 : decode cX6_syndrome 1 = .ok (.iload_n 1, 1) := by decide +kernel
theorem dX6_syndrome_2 : decode cX6_syndrome 2 = .ok (.iload_n 2, 1) := by decide +kernel
theorem dX6_syndrome_3 : decode cX6_syndrome 3 = .ok (.iload_n 3, 1) := by decide +kernel
theorem dX6_syndrome_4 : decode cX6_syndrome 4 = .ok (.iload 4, 2) := by decide +kernel
theorem dX6_syndrome_6 : decode cX6_syndrome 6 = .ok (.invokevirtual 148, 3) := by decide +kernel
theorem dX6_syndrome_9 : decode cX6_syndrome 9 = .ok (.aload_n 0, 1) := by decide +kernel
theorem dX6_syndrome_10 : decode cX6_syndrome 10 = .ok (.invokevirtual 152, 3) := by decide +kernel
theorem dX6_syndrome_13 : decode cX6_syndrome 13 = .ok (.ireturn, 1) := by decide +kernel
theorem dX6_seal_0 : decode cX6_seal 0 = .ok (.aload_n 0, 1) := by decide +kernel
theorem dX6_seal_1 : decode cX6_seal 1 = .ok (.iload_n 1, 1) := by decide +kernel
theorem dX6_seal_2 : decode cX6_seal 2 = .ok (.iload_n 2, 1) := by decide +kernel
theorem dX6_seal_3 : decode cX6_seal 3 = .ok (.iload_n 3, 1) := by decide +kernel
theorem dX6_seal_4 : decode cX6_seal 4 = .ok (.iload 4, 2) := by decide +kernel
theorem dX6_seal_6 : decode cX6_seal 6 = .ok (.invokevirtual 148, 3) := by decide +kernel
theorem dX6_seal_9 : decode cX6_seal 9 = .ok (.aload_n 0, 1) := by decide +kernel
theorem dX6_seal_10 : decode cX6_seal 10 = .ok (.getfield 143, 3) := by decide +kernel
theorem dX6_seal_13 : decode cX6_seal 13 = .ok (.bipush 24, 2) := by decide +kernel
theorem dX6_seal_15 : decode cX6_seal 15 = .ok (.isub, 1) := by decide +kernel
theorem dX6_seal_16 : decode cX6_seal 16 = .ok (.istore 5, 2) := by decide +kernel
theorem dX6_seal_18 : decode cX6_seal 18 = .ok (.iload 5, 2) := by decide +kernel
theorem dX6_seal_20 : decode cX6_seal 20 = .ok (.aload_n 0, 1) := by decide +kernel
theorem dX6_seal_21 : decode cX6_seal 21 = .ok (.getfield 143, 3) := by decide +kernel
theorem dX6_seal_24 : decode cX6_seal 24 = .ok (.if_icmp .ge 17, 3) := by decide +kernel
theorem dX6_seal_27 : decode cX6_seal 27 = .ok (.aload_n 0, 1) := by decide +kernel
theorem dX6_seal_28 : decode cX6_seal 28 = .ok (.getfield 133, 3) := by decide +kernel
theorem dX6_seal_31 : decode cX6_seal 31 = .ok (.iload 5, 2) := by decide +kernel
theorem dX6_seal_33 : decode cX6_seal 33 = .ok (.iconst 0, 1) := by decide +kernel
theorem dX6_seal_34 : decode cX6_seal 34 = .ok (.iastore, 1) := by decide +kernel
theorem dX6_seal_35 : decode cX6_seal 35 = .ok (.iinc 5 1, 3) := by decide +kernel
theorem dX6_seal_38 : decode cX6_seal 38 = .ok (.goto (-20), 3) := by decide +kernel
theorem dX6_seal_41 : decode cX6_seal 41 = .ok (.aload_n 0, 1) := by decide +kernel
theorem dX6_seal_42 : decode cX6_seal 42 = .ok (.invokevirtual 152, 3) := by decide +kernel
theorem dX6_seal_45 : decode cX6_seal 45 = .ok (.ireturn, 1) := by decide +kernel
theorem dX6_isWrong_0 : decode cX6_isWrong 0 = .ok (.iload_n 1, 1) := by decide +kernel
theorem dX6_isWrong_1 : decode cX6_isWrong 1 = .ok (.bipush 11, 2) := by decide +kernel
theorem dX6_isWrong_3 : decode cX6_isWrong 3 = .ok (.if_icmp .ne 17, 3) := by decide +kernel
theorem dX6_isWrong_6 : decode cX6_isWrong 6 = .ok (.iload_n 2, 1) := by decide +kernel
theorem dX6_isWrong_7 : decode cX6_isWrong 7 = .ok (.bipush 127, 2) := by decide +kernel
theorem dX6_isWrong_9 : decode cX6_isWrong 9 = .ok (.if_icmp .le 7, 3) := by decide +kernel
theorem dX6_isWrong_12 : decode cX6_isWrong 12 = .ok (.iconst 1, 1) := by decide +kernel
theorem dX6_isWrong_13 : decode cX6_isWrong 13 = .ok (.goto 28, 3) := by decide +kernel
theorem dX6_isWrong_16 : decode cX6_isWrong 16 = .ok (.iconst 0, 1) := by decide +kernel
theorem dX6_isWrong_17 : decode cX6_isWrong 17 = .ok (.goto 24, 3) := by decide +kernel
theorem dX6_isWrong_20 : decode cX6_isWrong 20 = .ok (.iload_n 1, 1) := by decide +kernel
theorem dX6_isWrong_21 : decode cX6_isWrong 21 = .ok (.bipush 17, 2) := by decide +kernel
theorem dX6_isWrong_23 : decode cX6_isWrong 23 = .ok (.if_icmp .eq 9, 3) := by decide +kernel
theorem dX6_isWrong_26 : decode cX6_isWrong 26 = .ok (.iload_n 1, 1) := by decide +kernel
theorem dX6_isWrong_27 : decode cX6_isWrong 27 = .ok (.bipush 18, 2) := by decide +kernel
theorem dX6_isWrong_29 : decode cX6_isWrong 29 = .ok (.if_icmp .ne 11, 3) := by decide +kernel
theorem dX6_isWrong_32 : decode cX6_isWrong 32 = .ok (.iload_n 2, 1) := by decide +kernel
theorem dX6_isWrong_33 : decode cX6_isWrong 33 = .ok (.ifCond .eq 7, 3) := by decide +kernel
theorem dX6_isWrong_36 : decode cX6_isWrong 36 = .ok (.iconst 1, 1) := by decide +kernel
theorem dX6_isWrong_37 : decode cX6_isWrong 37 = .ok (.goto 4, 3) := by decide +kernel
theorem dX6_isWrong_40 : decode cX6_isWrong 40 = .ok (.iconst 0, 1) := by decide +kernel
theorem dX6_isWrong_41 : decode cX6_isWrong 41 = .ok (.ireturn, 1) := by decide +kernel
theorem dX6_toTurn_0 : decode cX6_toTurn 0 = .ok (.iconst (-1), 1) := by decide +kernel
theorem dX6_toTurn_1 : decode cX6_toTurn 1 = .ok (.istore_n 1, 1) := by decide +kernel
theorem dX6_toTurn_2 : decode cX6_toTurn 2 = .ok (.bipush 6, 2) := by decide +kernel
theorem dX6_toTurn_4 : decode cX6_toTurn 4 = .ok (.istore_n 2, 1) := by decide +kernel
theorem dX6_toTurn_5 : decode cX6_toTurn 5 = .ok (.iload_n 2, 1) := by decide +kernel
theorem dX6_toTurn_6 : decode cX6_toTurn 6 = .ok (.aload_n 0, 1) := by decide +kernel
theorem dX6_toTurn_7 : decode cX6_toTurn 7 = .ok (.getfield 143, 3) := by decide +kernel
theorem dX6_toTurn_10 : decode cX6_toTurn 10 = .ok (.if_icmp .gt 58, 3) := by decide +kernel
theorem dX6_toTurn_13 : decode cX6_toTurn 13 = .ok (.iload_n 1, 1) := by decide +kernel
theorem dX6_toTurn_14 : decode cX6_toTurn 14 = .ok (.ifCond .ge 54, 3) := by decide +kernel
theorem dX6_toTurn_17 : decode cX6_toTurn 17 = .ok (.aload_n 0, 1) := by decide +kernel
theorem dX6_toTurn_18 : decode cX6_toTurn 18 = .ok (.getfield 133, 3) := by decide +kernel
theorem dX6_toTurn_21 : decode cX6_toTurn 21 = .ok (.iload_n 2, 1) := by decide +kernel
theorem dX6_toTurn_22 : decode cX6_toTurn 22 = .ok (.iconst 1, 1) := by decide +kernel
theorem dX6_toTurn_23 : decode cX6_toTurn 23 = .ok (.isub, 1) := by decide +kernel
theorem dX6_toTurn_24 : decode cX6_toTurn 24 = .ok (.iconst 1, 1) := by decide +kernel
theorem dX6_toTurn_25 : decode cX6_toTurn 25 = .ok (.aload_n 0, 1) := by decide +kernel
theorem dX6_toTurn_26 : decode cX6_toTurn 26 = .ok (.getfield 133, 3) := by decide +kernel
theorem dX6_toTurn_29 : decode cX6_toTurn 29 = .ok (.iload_n 2, 1) := by decide +kernel
theorem dX6_toTurn_30 : decode cX6_toTurn 30 = .ok (.iconst 1, 1) := by decide +kernel
theorem dX6_toTurn_31 : decode cX6_toTurn 31 = .ok (.isub, 1) := by decide +kernel
theorem dX6_toTurn_32 : decode cX6_toTurn 32 = .ok (.iaload, 1) := by decide +kernel
theorem dX6_toTurn_33 : decode cX6_toTurn 33 = .ok (.isub, 1) := by decide +kernel
theorem dX6_toTurn_34 : decode cX6_toTurn 34 = .ok (.iastore, 1) := by decide +kernel
theorem dX6_toTurn_35 : decode cX6_toTurn 35 = .ok (.aload_n 0, 1) := by decide +kernel
theorem dX6_toTurn_36 : decode cX6_toTurn 36 = .ok (.invokevirtual 152, 3) := by decide +kernel
theorem dX6_toTurn_39 : decode cX6_toTurn 39 = .ok (.ifCond .ne 5, 3) := by decide +kernel
theorem dX6_toTurn_42 : decode cX6_toTurn 42 = .ok (.iload_n 2, 1) := by decide +kernel
theorem dX6_toTurn_43 : decode cX6_toTurn 43 = .ok (.istore_n 1, 1) := by decide +kernel
theorem dX6_toTurn_44 : decode cX6_toTurn 44 = .ok (.aload_n 0, 1) := by decide +kernel
theorem dX6_toTurn_45 : decode cX6_toTurn 45 = .ok (.getfield 133, 3) := by decide +kernel
theorem dX6_toTurn_48 : decode cX6_toTurn 48 = .ok (.iload_n 2, 1) := by decide +kernel
theorem dX6_toTurn_49 : decode cX6_toTurn 49 = .ok (.iconst 1, 1) := by decide +kernel
theorem dX6_toTurn_50 : decode cX6_toTurn 50 = .ok (.isub, 1) := by decide +kernel
theorem dX6_toTurn_51 : decode cX6_toTurn 51 = .ok (.iconst 1, 1) := by decide +kernel
theorem dX6_toTurn_52 : decode cX6_toTurn 52 = .ok (.aload_n 0, 1) := by decide +kernel
theorem dX6_toTurn_53 : decode cX6_toTurn 53 = .ok (.getfield 133, 3) := by decide +kernel
theorem dX6_toTurn_56 : decode cX6_toTurn 56 = .ok (.iload_n 2, 1) := by decide +kernel
theorem dX6_toTurn_57 : decode cX6_toTurn 57 = .ok (.iconst 1, 1) := by decide +kernel
theorem dX6_toTurn_58 : decode cX6_toTurn 58 = .ok (.isub, 1) := by decide +kernel
theorem dX6_toTurn_59 : decode cX6_toTurn 59 = .ok (.iaload, 1) := by decide +kernel
theorem dX6_toTurn_60 : decode cX6_toTurn 60 = .ok (.isub, 1) := by decide +kernel
theorem dX6_toTurn_61 : decode cX6_toTurn 61 = .ok (.iastore, 1) := by decide +kernel
theorem dX6_toTurn_62 : decode cX6_toTurn 62 = .ok (.iinc 2 1, 3) := by decide +kernel
theorem dX6_toTurn_65 : decode cX6_toTurn 65 = .ok (.goto (-60), 3) := by decide +kernel
theorem dX6_toTurn_68 : decode cX6_toTurn 68 = .ok (.iload_n 1, 1) := by decide +kernel
theorem dX6_toTurn_69 : decode cX6_toTurn 69 = .ok (.ireturn, 1) := by decide +kernel
theorem dX6_repair_0 : decode cX6_repair 0 = .ok (.aload_n 0, 1) := by decide +kernel
theorem dX6_repair_1 : decode cX6_repair 1 = .ok (.iload_n 1, 1) := by decide +kernel
theorem dX6_repair_2 : decode cX6_repair 2 = .ok (.iload_n 2, 1) := by decide +kernel
theorem dX6_repair_3 : decode cX6_repair 3 = .ok (.iload_n 3, 1) := by decide +kernel
theorem dX6_repair_4 : decode cX6_repair 4 = .ok (.iload 4, 2) := by decide +kernel
theorem dX6_repair_6 : decode cX6_repair 6 = .ok (.invokevirtual 148, 3) := by decide +kernel
theorem dX6_repair_9 : decode cX6_repair 9 = .ok (.aload_n 0, 1) := by decide +kernel
theorem dX6_repair_10 : decode cX6_repair 10 = .ok (.aload_n 0, 1) := by decide +kernel
theorem dX6_repair_11 : decode cX6_repair 11 = .ok (.aload_n 0, 1) := by decide +kernel
theorem dX6_repair_12 : decode cX6_repair 12 = .ok (.getfield 133, 3) := by decide +kernel
theorem dX6_repair_15 : decode cX6_repair 15 = .ok (.iconst 1, 1) := by decide +kernel
theorem dX6_repair_16 : decode cX6_repair 16 = .ok (.iconst 5, 1) := by decide +kernel
theorem dX6_repair_17 : decode cX6_repair 17 = .ok (.invokevirtual 156, 3) := by decide +kernel
theorem dX6_repair_20 : decode cX6_repair 20 = .ok (.aload_n 0, 1) := by decide +kernel
theorem dX6_repair_21 : decode cX6_repair 21 = .ok (.invokevirtual 152, 3) := by decide +kernel
theorem dX6_repair_24 : decode cX6_repair 24 = .ok (.invokevirtual 160, 3) := by decide +kernel
theorem dX6_repair_27 : decode cX6_repair 27 = .ok (.ifCond .eq 10, 3) := by decide +kernel
theorem dX6_repair_30 : decode cX6_repair 30 = .ok (.aload_n 0, 1) := by decide +kernel
theorem dX6_repair_31 : decode cX6_repair 31 = .ok (.invokevirtual 164, 3) := by decide +kernel
theorem dX6_repair_34 : decode cX6_repair 34 = .ok (.goto 4, 3) := by decide +kernel
theorem dX6_repair_37 : decode cX6_repair 37 = .ok (.iconst (-1), 1) := by decide +kernel
theorem dX6_repair_38 : decode cX6_repair 38 = .ok (.ireturn, 1) := by decide +kernel
theorem dX6_ungray_0 : decode cX6_ungray 0 = .ok (.iconst 0, 1) := by decide +kernel
theorem dX6_ungray_1 : decode cX6_ungray 1 = .ok (.istore_n 3, 1) := by decide +kernel
theorem dX6_ungray_2 : decode cX6_ungray 2 = .ok (.iconst 0, 1) := by decide +kernel
theorem dX6_ungray_3 : decode cX6_ungray 3 = .ok (.istore 4, 2) := by decide +kernel
theorem dX6_ungray_5 : decode cX6_ungray 5 = .ok (.iload_n 2, 1) := by decide +kernel
theorem dX6_ungray_6 : decode cX6_ungray 6 = .ok (.iconst 1, 1) := by decide +kernel
theorem dX6_ungray_7 : decode cX6_ungray 7 = .ok (.isub, 1) := by decide +kernel
theorem dX6_ungray_8 : decode cX6_ungray 8 = .ok (.istore 5, 2) := by decide +kernel
theorem dX6_ungray_10 : decode cX6_ungray 10 = .ok (.iload 5, 2) := by decide +kernel
theorem dX6_ungray_12 : decode cX6_ungray 12 = .ok (.ifCond .lt 27, 3) := by decide +kernel
theorem dX6_ungray_15 : decode cX6_ungray 15 = .ok (.iload 4, 2) := by decide +kernel
theorem dX6_ungray_17 : decode cX6_ungray 17 = .ok (.iload_n 1, 1) := by decide +kernel
theorem dX6_ungray_18 : decode cX6_ungray 18 = .ok (.iload 5, 2) := by decide +kernel
theorem dX6_ungray_20 : decode cX6_ungray 20 = .ok (.ishr, 1) := by decide +kernel
theorem dX6_ungray_21 : decode cX6_ungray 21 = .ok (.iconst 1, 1) := by decide +kernel
theorem dX6_ungray_22 : decode cX6_ungray 22 = .ok (.iand, 1) := by decide +kernel
theorem dX6_ungray_23 : decode cX6_ungray 23 = .ok (.ixor, 1) := by decide +kernel
theorem dX6_ungray_24 : decode cX6_ungray 24 = .ok (.istore 4, 2) := by decide +kernel
theorem dX6_ungray_26 : decode cX6_ungray 26 = .ok (.iconst 2, 1) := by decide +kernel
theorem dX6_ungray_27 : decode cX6_ungray 27 = .ok (.iload_n 3, 1) := by decide +kernel
theorem dX6_ungray_28 : decode cX6_ungray 28 = .ok (.imul, 1) := by decide +kernel
theorem dX6_ungray_29 : decode cX6_ungray 29 = .ok (.iload 4, 2) := by decide +kernel
theorem dX6_ungray_31 : decode cX6_ungray 31 = .ok (.iadd, 1) := by decide +kernel
theorem dX6_ungray_32 : decode cX6_ungray 32 = .ok (.istore_n 3, 1) := by decide +kernel
theorem dX6_ungray_33 : decode cX6_ungray 33 = .ok (.iinc 5 (-1), 3) := by decide +kernel
theorem dX6_ungray_36 : decode cX6_ungray 36 = .ok (.goto (-26), 3) := by decide +kernel
theorem dX6_ungray_39 : decode cX6_ungray 39 = .ok (.iload_n 3, 1) := by decide +kernel
theorem dX6_ungray_40 : decode cX6_ungray 40 = .ok (.ireturn, 1) := by decide +kernel
theorem dX6_of_0 : decode cX6_of 0 = .ok (.iload_n 1, 1) := by decide +kernel
theorem dX6_of_1 : decode cX6_of 1 = .ok (.bipush 12, 2) := by decide +kernel
theorem dX6_of_3 : decode cX6_of 3 = .ok (.iload_n 2, 1) := by decide +kernel
theorem dX6_of_4 : decode cX6_of 4 = .ok (.isub, 1) := by decide +kernel
theorem dX6_of_5 : decode cX6_of 5 = .ok (.ishr, 1) := by decide +kernel
theorem dX6_of_6 : decode cX6_of 6 = .ok (.iconst 1, 1) := by decide +kernel
theorem dX6_of_7 : decode cX6_of 7 = .ok (.iand, 1) := by decide +kernel
theorem dX6_of_8 : decode cX6_of 8 = .ok (.ireturn, 1) := by decide +kernel
theorem dX6_altitude_0 : decode cX6_altitude 0 = .ok (.iload_n 1, 1) := by decide +kernel
theorem dX6_altitude_1 : decode cX6_altitude 1 = .ok (.ifCond .eq 14, 3) := by decide +kernel
theorem dX6_altitude_4 : decode cX6_altitude 4 = .ok (.aload_n 0, 1) := by decide +kernel
theorem dX6_altitude_5 : decode cX6_altitude 5 = .ok (.iload_n 1, 1) := by decide +kernel
theorem dX6_altitude_6 : decode cX6_altitude 6 = .ok (.bipush 6, 2) := by decide +kernel
theorem dX6_altitude_8 : decode cX6_altitude 8 = .ok (.invokevirtual 167, 3) := by decide +kernel
theorem dX6_altitude_11 : decode cX6_altitude 11 = .ok (.iconst 1, 1) := by decide +kernel
theorem dX6_altitude_12 : decode cX6_altitude 12 = .ok (.if_icmp .ne 6, 3) := by decide +kernel
theorem dX6_altitude_15 : decode cX6_altitude 15 = .ok (.ldc 171, 2) := by decide +kernel
theorem dX6_altitude_17 : decode cX6_altitude 17 = .ok (.ireturn, 1) := by decide +kernel
theorem dX6_altitude_18 : decode cX6_altitude 18 = .ok (.aload_n 0, 1) := by decide +kernel
theorem dX6_altitude_19 : decode cX6_altitude 19 = .ok (.iload_n 1, 1) := by decide +kernel
theorem dX6_altitude_20 : decode cX6_altitude 20 = .ok (.bipush 8, 2) := by decide +kernel
theorem dX6_altitude_22 : decode cX6_altitude 22 = .ok (.invokevirtual 167, 3) := by decide +kernel
theorem dX6_altitude_25 : decode cX6_altitude 25 = .ok (.iconst 1, 1) := by decide +kernel
theorem dX6_altitude_26 : decode cX6_altitude 26 = .ok (.if_icmp .ne 55, 3) := by decide +kernel
theorem dX6_altitude_29 : decode cX6_altitude 29 = .ok (.iconst 0, 1) := by decide +kernel
theorem dX6_altitude_30 : decode cX6_altitude 30 = .ok (.istore_n 2, 1) := by decide +kernel
theorem dX6_altitude_31 : decode cX6_altitude 31 = .ok (.iconst 0, 1) := by decide +kernel
theorem dX6_altitude_32 : decode cX6_altitude 32 = .ok (.istore_n 3, 1) := by decide +kernel
theorem dX6_altitude_33 : decode cX6_altitude 33 = .ok (.iload_n 3, 1) := by decide +kernel
theorem dX6_altitude_34 : decode cX6_altitude 34 = .ok (.bipush 13, 2) := by decide +kernel
theorem dX6_altitude_36 : decode cX6_altitude 36 = .ok (.if_icmp .ge 36, 3) := by decide +kernel
theorem dX6_altitude_39 : decode cX6_altitude 39 = .ok (.iload_n 3, 1) := by decide +kernel
theorem dX6_altitude_40 : decode cX6_altitude 40 = .ok (.bipush 6, 2) := by decide +kernel
theorem dX6_altitude_42 : decode cX6_altitude 42 = .ok (.if_icmp .eq 9, 3) := by decide +kernel
theorem dX6_altitude_45 : decode cX6_altitude 45 = .ok (.iload_n 3, 1) := by decide +kernel
theorem dX6_altitude_46 : decode cX6_altitude 46 = .ok (.bipush 8, 2) := by decide +kernel
theorem dX6_altitude_48 : decode cX6_altitude 48 = .ok (.if_icmp .ne 7, 3) := by decide +kernel
theorem dX6_altitude_51 : decode cX6_altitude 51 = .ok (.iload_n 2, 1) := by decide +kernel
theorem dX6_altitude_52 : decode cX6_altitude 52 = .ok (.goto 13, 3) := by decide +kernel
theorem dX6_altitude_55 : decode cX6_altitude 55 = .ok (.iconst 2, 1) := by decide +kernel
theorem dX6_altitude_56 : decode cX6_altitude 56 = .ok (.iload_n 2, 1) := by decide +kernel
theorem dX6_altitude_57 : decode cX6_altitude 57 = .ok (.imul, 1) := by decide +kernel
theorem dX6_altitude_58 : decode cX6_altitude 58 = .ok (.aload_n 0, 1) := by decide +kernel
theorem dX6_altitude_59 : decode cX6_altitude 59 = .ok (.iload_n 1, 1) := by decide +kernel
theorem dX6_altitude_60 : decode cX6_altitude 60 = .ok (.iload_n 3, 1) := by decide +kernel
theorem dX6_altitude_61 : decode cX6_altitude 61 = .ok (.invokevirtual 167, 3) := by decide +kernel
theorem dX6_altitude_64 : decode cX6_altitude 64 = .ok (.iadd, 1) := by decide +kernel
theorem dX6_altitude_65 : decode cX6_altitude 65 = .ok (.istore_n 2, 1) := by decide +kernel
theorem dX6_altitude_66 : decode cX6_altitude 66 = .ok (.iinc 3 1, 3) := by decide +kernel
theorem dX6_altitude_69 : decode cX6_altitude 69 = .ok (.goto (-36), 3) := by decide +kernel
theorem dX6_altitude_72 : decode cX6_altitude 72 = .ok (.bipush 25, 2) := by decide +kernel
theorem dX6_altitude_74 : decode cX6_altitude 74 = .ok (.iload_n 2, 1) := by decide +kernel
theorem dX6_altitude_75 : decode cX6_altitude 75 = .ok (.imul, 1) := by decide +kernel
theorem dX6_altitude_76 : decode cX6_altitude 76 = .ok (.sipush 1000, 3) := by decide +kernel
theorem dX6_altitude_79 : decode cX6_altitude 79 = .ok (.isub, 1) := by decide +kernel
theorem dX6_altitude_80 : decode cX6_altitude 80 = .ok (.ireturn, 1) := by decide +kernel
theorem dX6_altitude_81 : decode cX6_altitude 81 = .ok (.aload_n 0, 1) := by decide +kernel
theorem dX6_altitude_82 : decode cX6_altitude 82 = .ok (.iload_n 1, 1) := by decide +kernel
theorem dX6_altitude_83 : decode cX6_altitude 83 = .ok (.bipush 10, 2) := by decide +kernel
theorem dX6_altitude_85 : decode cX6_altitude 85 = .ok (.invokevirtual 167, 3) := by decide +kernel
theorem dX6_altitude_88 : decode cX6_altitude 88 = .ok (.istore_n 2, 1) := by decide +kernel
theorem dX6_altitude_89 : decode cX6_altitude 89 = .ok (.iconst 2, 1) := by decide +kernel
theorem dX6_altitude_90 : decode cX6_altitude 90 = .ok (.iload_n 2, 1) := by decide +kernel
theorem dX6_altitude_91 : decode cX6_altitude 91 = .ok (.imul, 1) := by decide +kernel
theorem dX6_altitude_92 : decode cX6_altitude 92 = .ok (.aload_n 0, 1) := by decide +kernel
theorem dX6_altitude_93 : decode cX6_altitude 93 = .ok (.iload_n 1, 1) := by decide +kernel
theorem dX6_altitude_94 : decode cX6_altitude 94 = .ok (.bipush 12, 2) := by decide +kernel
theorem dX6_altitude_96 : decode cX6_altitude 96 = .ok (.invokevirtual 167, 3) := by decide +kernel
theorem dX6_altitude_99 : decode cX6_altitude 99 = .ok (.iadd, 1) := by decide +kernel
theorem dX6_altitude_100 : decode cX6_altitude 100 = .ok (.istore_n 2, 1) := by decide +kernel
theorem dX6_altitude_101 : decode cX6_altitude 101 = .ok (.iconst 2, 1) := by decide +kernel
theorem dX6_altitude_102 : decode cX6_altitude 102 = .ok (.iload_n 2, 1) := by decide +kernel
theorem dX6_altitude_103 : decode cX6_altitude 103 = .ok (.imul, 1) := by decide +kernel
theorem dX6_altitude_104 : decode cX6_altitude 104 = .ok (.aload_n 0, 1) := by decide +kernel
theorem dX6_altitude_105 : decode cX6_altitude 105 = .ok (.iload_n 1, 1) := by decide +kernel
theorem dX6_altitude_106 : decode cX6_altitude 106 = .ok (.iconst 1, 1) := by decide +kernel
theorem dX6_altitude_107 : decode cX6_altitude 107 = .ok (.invokevirtual 167, 3) := by decide +kernel
theorem dX6_altitude_110 : decode cX6_altitude 110 = .ok (.iadd, 1) := by decide +kernel
theorem dX6_altitude_111 : decode cX6_altitude 111 = .ok (.istore_n 2, 1) := by decide +kernel
theorem dX6_altitude_112 : decode cX6_altitude 112 = .ok (.iconst 2, 1) := by decide +kernel
theorem dX6_altitude_113 : decode cX6_altitude 113 = .ok (.iload_n 2, 1) := by decide +kernel
theorem dX6_altitude_114 : decode cX6_altitude 114 = .ok (.imul, 1) := by decide +kernel
theorem dX6_altitude_115 : decode cX6_altitude 115 = .ok (.aload_n 0, 1) := by decide +kernel
theorem dX6_altitude_116 : decode cX6_altitude 116 = .ok (.iload_n 1, 1) := by decide +kernel
theorem dX6_altitude_117 : decode cX6_altitude 117 = .ok (.iconst 3, 1) := by decide +kernel
theorem dX6_altitude_118 : decode cX6_altitude 118 = .ok (.invokevirtual 167, 3) := by decide +kernel
theorem dX6_altitude_121 : decode cX6_altitude 121 = .ok (.iadd, 1) := by decide +kernel
theorem dX6_altitude_122 : decode cX6_altitude 122 = .ok (.istore_n 2, 1) := by decide +kernel
theorem dX6_altitude_123 : decode cX6_altitude 123 = .ok (.iconst 2, 1) := by decide +kernel
theorem dX6_altitude_124 : decode cX6_altitude 124 = .ok (.iload_n 2, 1) := by decide +kernel
theorem dX6_altitude_125 : decode cX6_altitude 125 = .ok (.imul, 1) := by decide +kernel
theorem dX6_altitude_126 : decode cX6_altitude 126 = .ok (.aload_n 0, 1) := by decide +kernel
theorem dX6_altitude_127 : decode cX6_altitude 127 = .ok (.iload_n 1, 1) := by decide +kernel
theorem dX6_altitude_128 : decode cX6_altitude 128 = .ok (.iconst 5, 1) := by decide +kernel
theorem dX6_altitude_129 : decode cX6_altitude 129 = .ok (.invokevirtual 167, 3) := by decide +kernel
theorem dX6_altitude_132 : decode cX6_altitude 132 = .ok (.iadd, 1) := by decide +kernel
theorem dX6_altitude_133 : decode cX6_altitude 133 = .ok (.istore_n 2, 1) := by decide +kernel
theorem dX6_altitude_134 : decode cX6_altitude 134 = .ok (.iconst 2, 1) := by decide +kernel
theorem dX6_altitude_135 : decode cX6_altitude 135 = .ok (.iload_n 2, 1) := by decide +kernel
theorem dX6_altitude_136 : decode cX6_altitude 136 = .ok (.imul, 1) := by decide +kernel
theorem dX6_altitude_137 : decode cX6_altitude 137 = .ok (.aload_n 0, 1) := by decide +kernel
theorem dX6_altitude_138 : decode cX6_altitude 138 = .ok (.iload_n 1, 1) := by decide +kernel
theorem dX6_altitude_139 : decode cX6_altitude 139 = .ok (.bipush 7, 2) := by decide +kernel
theorem dX6_altitude_141 : decode cX6_altitude 141 = .ok (.invokevirtual 167, 3) := by decide +kernel
theorem dX6_altitude_144 : decode cX6_altitude 144 = .ok (.iadd, 1) := by decide +kernel
theorem dX6_altitude_145 : decode cX6_altitude 145 = .ok (.istore_n 2, 1) := by decide +kernel
theorem dX6_altitude_146 : decode cX6_altitude 146 = .ok (.iconst 2, 1) := by decide +kernel
theorem dX6_altitude_147 : decode cX6_altitude 147 = .ok (.iload_n 2, 1) := by decide +kernel
theorem dX6_altitude_148 : decode cX6_altitude 148 = .ok (.imul, 1) := by decide +kernel
theorem dX6_altitude_149 : decode cX6_altitude 149 = .ok (.aload_n 0, 1) := by decide +kernel
theorem dX6_altitude_150 : decode cX6_altitude 150 = .ok (.iload_n 1, 1) := by decide +kernel
theorem dX6_altitude_151 : decode cX6_altitude 151 = .ok (.bipush 9, 2) := by decide +kernel
theorem dX6_altitude_153 : decode cX6_altitude 153 = .ok (.invokevirtual 167, 3) := by decide +kernel
theorem dX6_altitude_156 : decode cX6_altitude 156 = .ok (.iadd, 1) := by decide +kernel
theorem dX6_altitude_157 : decode cX6_altitude 157 = .ok (.istore_n 2, 1) := by decide +kernel
theorem dX6_altitude_158 : decode cX6_altitude 158 = .ok (.iconst 2, 1) := by decide +kernel
theorem dX6_altitude_159 : decode cX6_altitude 159 = .ok (.iload_n 2, 1) := by decide +kernel
theorem dX6_altitude_160 : decode cX6_altitude 160 = .ok (.imul, 1) := by decide +kernel
theorem dX6_altitude_161 : decode cX6_altitude 161 = .ok (.aload_n 0, 1) := by decide +kernel
theorem dX6_altitude_162 : decode cX6_altitude 162 = .ok (.iload_n 1, 1) := by decide +kernel
theorem dX6_altitude_163 : decode cX6_altitude 163 = .ok (.bipush 11, 2) := by decide +kernel
theorem dX6_altitude_165 : decode cX6_altitude 165 = .ok (.invokevirtual 167, 3) := by decide +kernel
theorem dX6_altitude_168 : decode cX6_altitude 168 = .ok (.iadd, 1) := by decide +kernel
theorem dX6_altitude_169 : decode cX6_altitude 169 = .ok (.istore_n 2, 1) := by decide +kernel
theorem dX6_altitude_170 : decode cX6_altitude 170 = .ok (.aload_n 0, 1) := by decide +kernel
theorem dX6_altitude_171 : decode cX6_altitude 171 = .ok (.iload_n 2, 1) := by decide +kernel
theorem dX6_altitude_172 : decode cX6_altitude 172 = .ok (.bipush 8, 2) := by decide +kernel
theorem dX6_altitude_174 : decode cX6_altitude 174 = .ok (.invokevirtual 172, 3) := by decide +kernel
theorem dX6_altitude_177 : decode cX6_altitude 177 = .ok (.istore_n 3, 1) := by decide +kernel
theorem dX6_altitude_178 : decode cX6_altitude 178 = .ok (.aload_n 0, 1) := by decide +kernel
theorem dX6_altitude_179 : decode cX6_altitude 179 = .ok (.iconst 4, 1) := by decide +kernel
theorem dX6_altitude_180 : decode cX6_altitude 180 = .ok (.aload_n 0, 1) := by decide +kernel
theorem dX6_altitude_181 : decode cX6_altitude 181 = .ok (.iload_n 1, 1) := by decide +kernel
theorem dX6_altitude_182 : decode cX6_altitude 182 = .ok (.iconst 0, 1) := by decide +kernel
theorem dX6_altitude_183 : decode cX6_altitude 183 = .ok (.invokevirtual 167, 3) := by decide +kernel
theorem dX6_altitude_186 : decode cX6_altitude 186 = .ok (.imul, 1) := by decide +kernel
theorem dX6_altitude_187 : decode cX6_altitude 187 = .ok (.iconst 2, 1) := by decide +kernel
theorem dX6_altitude_188 : decode cX6_altitude 188 = .ok (.aload_n 0, 1) := by decide +kernel
theorem dX6_altitude_189 : decode cX6_altitude 189 = .ok (.iload_n 1, 1) := by decide +kernel
theorem dX6_altitude_190 : decode cX6_altitude 190 = .ok (.iconst 2, 1) := by decide +kernel
theorem dX6_altitude_191 : decode cX6_altitude 191 = .ok (.invokevirtual 167, 3) := by decide +kernel
theorem dX6_altitude_194 : decode cX6_altitude 194 = .ok (.imul, 1) := by decide +kernel
theorem dX6_altitude_195 : decode cX6_altitude 195 = .ok (.iadd, 1) := by decide +kernel
theorem dX6_altitude_196 : decode cX6_altitude 196 = .ok (.aload_n 0, 1) := by decide +kernel
theorem dX6_altitude_197 : decode cX6_altitude 197 = .ok (.iload_n 1, 1) := by decide +kernel
theorem dX6_altitude_198 : decode cX6_altitude 198 = .ok (.iconst 4, 1) := by decide +kernel
theorem dX6_altitude_199 : decode cX6_altitude 199 = .ok (.invokevirtual 167, 3) := by decide +kernel
theorem dX6_altitude_202 : decode cX6_altitude 202 = .ok (.iadd, 1) := by decide +kernel
theorem dX6_altitude_203 : decode cX6_altitude 203 = .ok (.iconst 3, 1) := by decide +kernel
theorem dX6_altitude_204 : decode cX6_altitude 204 = .ok (.invokevirtual 172, 3) := by decide +kernel
theorem dX6_altitude_207 : decode cX6_altitude 207 = .ok (.istore 4, 2) := by decide +kernel
theorem dX6_altitude_209 : decode cX6_altitude 209 = .ok (.iload 4, 2) := by decide +kernel
theorem dX6_altitude_211 : decode cX6_altitude 211 = .ok (.ifCond .eq 16, 3) := by decide +kernel
theorem dX6_altitude_214 : decode cX6_altitude 214 = .ok (.iload 4, 2) := by decide +kernel
theorem dX6_altitude_216 : decode cX6_altitude 216 = .ok (.iconst 5, 1) := by decide +kernel
theorem dX6_altitude_217 : decode cX6_altitude 217 = .ok (.if_icmp .eq 10, 3) := by decide +kernel
theorem dX6_altitude_220 : decode cX6_altitude 220 = .ok (.iload 4, 2) := by decide +kernel
theorem dX6_altitude_222 : decode cX6_altitude 222 = .ok (.bipush 6, 2) := by decide +kernel
theorem dX6_altitude_224 : decode cX6_altitude 224 = .ok (.if_icmp .ne 6, 3) := by decide +kernel
theorem dX6_altitude_227 : decode cX6_altitude 227 = .ok (.ldc 171, 2) := by decide +kernel
theorem dX6_altitude_229 : decode cX6_altitude 229 = .ok (.ireturn, 1) := by decide +kernel
theorem dX6_altitude_230 : decode cX6_altitude 230 = .ok (.iload 4, 2) := by decide +kernel
theorem dX6_altitude_232 : decode cX6_altitude 232 = .ok (.bipush 7, 2) := by decide +kernel
theorem dX6_altitude_234 : decode cX6_altitude 234 = .ok (.if_icmp .ne 6, 3) := by decide +kernel
theorem dX6_altitude_237 : decode cX6_altitude 237 = .ok (.iconst 5, 1) := by decide +kernel
theorem dX6_altitude_238 : decode cX6_altitude 238 = .ok (.istore 4, 2) := by decide +kernel
theorem dX6_altitude_240 : decode cX6_altitude 240 = .ok (.iload_n 3, 1) := by decide +kernel
theorem dX6_altitude_241 : decode cX6_altitude 241 = .ok (.iconst 2, 1) := by decide +kernel
theorem dX6_altitude_242 : decode cX6_altitude 242 = .ok (.irem, 1) := by decide +kernel
theorem dX6_altitude_243 : decode cX6_altitude 243 = .ok (.iconst 1, 1) := by decide +kernel
theorem dX6_altitude_244 : decode cX6_altitude 244 = .ok (.if_icmp .ne 10, 3) := by decide +kernel
theorem dX6_altitude_247 : decode cX6_altitude 247 = .ok (.bipush 6, 2) := by decide +kernel
theorem dX6_altitude_249 : decode cX6_altitude 249 = .ok (.iload 4, 2) := by decide +kernel
theorem dX6_altitude_251 : decode cX6_altitude 251 = .ok (.isub, 1) := by decide +kernel
theorem dX6_altitude_252 : decode cX6_altitude 252 = .ok (.istore 4, 2) := by decide +kernel
theorem dX6_altitude_254 : decode cX6_altitude 254 = .ok (.sipush 500, 3) := by decide +kernel
theorem dX6_altitude_257 : decode cX6_altitude 257 = .ok (.iload_n 3, 1) := by decide +kernel
theorem dX6_altitude_258 : decode cX6_altitude 258 = .ok (.imul, 1) := by decide +kernel
theorem dX6_altitude_259 : decode cX6_altitude 259 = .ok (.bipush 100, 2) := by decide +kernel
theorem dX6_altitude_261 : decode cX6_altitude 261 = .ok (.iload 4, 2) := by decide +kernel
theorem dX6_altitude_263 : decode cX6_altitude 263 = .ok (.imul, 1) := by decide +kernel
theorem dX6_altitude_264 : decode cX6_altitude 264 = .ok (.iadd, 1) := by decide +kernel
theorem dX6_altitude_265 : decode cX6_altitude 265 = .ok (.sipush 1300, 3) := by decide +kernel
theorem dX6_altitude_268 : decode cX6_altitude 268 = .ok (.isub, 1) := by decide +kernel
theorem dX6_altitude_269 : decode cX6_altitude 269 = .ok (.ireturn, 1) := by decide +kernel
theorem dX6_squawk_0 : decode cX6_squawk 0 = .ok (.iconst 4, 1) := by decide +kernel
theorem dX6_squawk_1 : decode cX6_squawk 1 = .ok (.aload_n 0, 1) := by decide +kernel
theorem dX6_squawk_2 : decode cX6_squawk 2 = .ok (.iload_n 1, 1) := by decide +kernel
theorem dX6_squawk_3 : decode cX6_squawk 3 = .ok (.iconst 5, 1) := by decide +kernel
theorem dX6_squawk_4 : decode cX6_squawk 4 = .ok (.invokevirtual 167, 3) := by decide +kernel
theorem dX6_squawk_7 : decode cX6_squawk 7 = .ok (.imul, 1) := by decide +kernel
theorem dX6_squawk_8 : decode cX6_squawk 8 = .ok (.iconst 2, 1) := by decide +kernel
theorem dX6_squawk_9 : decode cX6_squawk 9 = .ok (.aload_n 0, 1) := by decide +kernel
theorem dX6_squawk_10 : decode cX6_squawk 10 = .ok (.iload_n 1, 1) := by decide +kernel
theorem dX6_squawk_11 : decode cX6_squawk 11 = .ok (.iconst 3, 1) := by decide +kernel
theorem dX6_squawk_12 : decode cX6_squawk 12 = .ok (.invokevirtual 167, 3) := by decide +kernel
theorem dX6_squawk_15 : decode cX6_squawk 15 = .ok (.imul, 1) := by decide +kernel
theorem dX6_squawk_16 : decode cX6_squawk 16 = .ok (.iadd, 1) := by decide +kernel
theorem dX6_squawk_17 : decode cX6_squawk 17 = .ok (.aload_n 0, 1) := by decide +kernel
theorem dX6_squawk_18 : decode cX6_squawk 18 = .ok (.iload_n 1, 1) := by decide +kernel
theorem dX6_squawk_19 : decode cX6_squawk 19 = .ok (.iconst 1, 1) := by decide +kernel
theorem dX6_squawk_20 : decode cX6_squawk 20 = .ok (.invokevirtual 167, 3) := by decide +kernel
theorem dX6_squawk_23 : decode cX6_squawk 23 = .ok (.iadd, 1) := by decide +kernel
theorem dX6_squawk_24 : decode cX6_squawk 24 = .ok (.istore_n 2, 1) := by decide +kernel
theorem dX6_squawk_25 : decode cX6_squawk 25 = .ok (.iconst 4, 1) := by decide +kernel
theorem dX6_squawk_26 : decode cX6_squawk 26 = .ok (.aload_n 0, 1) := by decide +kernel
theorem dX6_squawk_27 : decode cX6_squawk 27 = .ok (.iload_n 1, 1) := by decide +kernel
theorem dX6_squawk_28 : decode cX6_squawk 28 = .ok (.bipush 11, 2) := by decide +kernel
theorem dX6_squawk_30 : decode cX6_squawk 30 = .ok (.invokevirtual 167, 3) := by decide +kernel
theorem dX6_squawk_33 : decode cX6_squawk 33 = .ok (.imul, 1) := by decide +kernel
theorem dX6_squawk_34 : decode cX6_squawk 34 = .ok (.iconst 2, 1) := by decide +kernel
theorem dX6_squawk_35 : decode cX6_squawk 35 = .ok (.aload_n 0, 1) := by decide +kernel
theorem dX6_squawk_36 : decode cX6_squawk 36 = .ok (.iload_n 1, 1) := by decide +kernel
theorem dX6_squawk_37 : decode cX6_squawk 37 = .ok (.bipush 9, 2) := by decide +kernel
theorem dX6_squawk_39 : decode cX6_squawk 39 = .ok (.invokevirtual 167, 3) := by decide +kernel
theorem dX6_squawk_42 : decode cX6_squawk 42 = .ok (.imul, 1) := by decide +kernel
theorem dX6_squawk_43 : decode cX6_squawk 43 = .ok (.iadd, 1) := by decide +kernel
theorem dX6_squawk_44 : decode cX6_squawk 44 = .ok (.aload_n 0, 1) := by decide +kernel
theorem dX6_squawk_45 : decode cX6_squawk 45 = .ok (.iload_n 1, 1) := by decide +kernel
theorem dX6_squawk_46 : decode cX6_squawk 46 = .ok (.bipush 7, 2) := by decide +kernel
theorem dX6_squawk_48 : decode cX6_squawk 48 = .ok (.invokevirtual 167, 3) := by decide +kernel
theorem dX6_squawk_51 : decode cX6_squawk 51 = .ok (.iadd, 1) := by decide +kernel
theorem dX6_squawk_52 : decode cX6_squawk 52 = .ok (.istore_n 3, 1) := by decide +kernel
theorem dX6_squawk_53 : decode cX6_squawk 53 = .ok (.iconst 4, 1) := by decide +kernel
theorem dX6_squawk_54 : decode cX6_squawk 54 = .ok (.aload_n 0, 1) := by decide +kernel
theorem dX6_squawk_55 : decode cX6_squawk 55 = .ok (.iload_n 1, 1) := by decide +kernel
theorem dX6_squawk_56 : decode cX6_squawk 56 = .ok (.iconst 4, 1) := by decide +kernel
theorem dX6_squawk_57 : decode cX6_squawk 57 = .ok (.invokevirtual 167, 3) := by decide +kernel
theorem dX6_squawk_60 : decode cX6_squawk 60 = .ok (.imul, 1) := by decide +kernel
theorem dX6_squawk_61 : decode cX6_squawk 61 = .ok (.iconst 2, 1) := by decide +kernel
theorem dX6_squawk_62 : decode cX6_squawk 62 = .ok (.aload_n 0, 1) := by decide +kernel
theorem dX6_squawk_63 : decode cX6_squawk 63 = .ok (.iload_n 1, 1) := by decide +kernel
theorem dX6_squawk_64 : decode cX6_squawk 64 = .ok (.iconst 2, 1) := by decide +kernel
theorem dX6_squawk_65 : decode cX6_squawk 65 = .ok (.invokevirtual 167, 3) := by decide +kernel
theorem dX6_squawk_68 : decode cX6_squawk 68 = .ok (.imul, 1) := by decide +kernel
theorem dX6_squawk_69 : decode cX6_squawk 69 = .ok (.iadd, 1) := by decide +kernel
theorem dX6_squawk_70 : decode cX6_squawk 70 = .ok (.aload_n 0, 1) := by decide +kernel
theorem dX6_squawk_71 : decode cX6_squawk 71 = .ok (.iload_n 1, 1) := by decide +kernel
theorem dX6_squawk_72 : decode cX6_squawk 72 = .ok (.iconst 0, 1) := by decide +kernel
theorem dX6_squawk_73 : decode cX6_squawk 73 = .ok (.invokevirtual 167, 3) := by decide +kernel
theorem dX6_squawk_76 : decode cX6_squawk 76 = .ok (.iadd, 1) := by decide +kernel
theorem dX6_squawk_77 : decode cX6_squawk 77 = .ok (.istore 4, 2) := by decide +kernel
theorem dX6_squawk_79 : decode cX6_squawk 79 = .ok (.iconst 4, 1) := by decide +kernel
theorem dX6_squawk_80 : decode cX6_squawk 80 = .ok (.aload_n 0, 1) := by decide +kernel
theorem dX6_squawk_81 : decode cX6_squawk 81 = .ok (.iload_n 1, 1) := by decide +kernel
theorem dX6_squawk_82 : decode cX6_squawk 82 = .ok (.bipush 12, 2) := by decide +kernel
theorem dX6_squawk_84 : decode cX6_squawk 84 = .ok (.invokevirtual 167, 3) := by decide +kernel
theorem dX6_squawk_87 : decode cX6_squawk 87 = .ok (.imul, 1) := by decide +kernel
theorem dX6_squawk_88 : decode cX6_squawk 88 = .ok (.iconst 2, 1) := by decide +kernel
theorem dX6_squawk_89 : decode cX6_squawk 89 = .ok (.aload_n 0, 1) := by decide +kernel
theorem dX6_squawk_90 : decode cX6_squawk 90 = .ok (.iload_n 1, 1) := by decide +kernel
theorem dX6_squawk_91 : decode cX6_squawk 91 = .ok (.bipush 10, 2) := by decide +kernel
theorem dX6_squawk_93 : decode cX6_squawk 93 = .ok (.invokevirtual 167, 3) := by decide +kernel
theorem dX6_squawk_96 : decode cX6_squawk 96 = .ok (.imul, 1) := by decide +kernel
theorem dX6_squawk_97 : decode cX6_squawk 97 = .ok (.iadd, 1) := by decide +kernel
theorem dX6_squawk_98 : decode cX6_squawk 98 = .ok (.aload_n 0, 1) := by decide +kernel
theorem dX6_squawk_99 : decode cX6_squawk 99 = .ok (.iload_n 1, 1) := by decide +kernel
theorem dX6_squawk_100 : decode cX6_squawk 100 = .ok (.bipush 8, 2) := by decide +kernel
theorem dX6_squawk_102 : decode cX6_squawk 102 = .ok (.invokevirtual 167, 3) := by decide +kernel
theorem dX6_squawk_105 : decode cX6_squawk 105 = .ok (.iadd, 1) := by decide +kernel
theorem dX6_squawk_106 : decode cX6_squawk 106 = .ok (.istore 5, 2) := by decide +kernel
theorem dX6_squawk_108 : decode cX6_squawk 108 = .ok (.sipush 1000, 3) := by decide +kernel
theorem dX6_squawk_111 : decode cX6_squawk 111 = .ok (.iload_n 2, 1) := by decide +kernel
theorem dX6_squawk_112 : decode cX6_squawk 112 = .ok (.imul, 1) := by decide +kernel
theorem dX6_squawk_113 : decode cX6_squawk 113 = .ok (.bipush 100, 2) := by decide +kernel
theorem dX6_squawk_115 : decode cX6_squawk 115 = .ok (.iload_n 3, 1) := by decide +kernel
theorem dX6_squawk_116 : decode cX6_squawk 116 = .ok (.imul, 1) := by decide +kernel
theorem dX6_squawk_117 : decode cX6_squawk 117 = .ok (.iadd, 1) := by decide +kernel
theorem dX6_squawk_118 : decode cX6_squawk 118 = .ok (.bipush 10, 2) := by decide +kernel
theorem dX6_squawk_120 : decode cX6_squawk 120 = .ok (.iload 4, 2) := by decide +kernel
theorem dX6_squawk_122 : decode cX6_squawk 122 = .ok (.imul, 1) := by decide +kernel
theorem dX6_squawk_123 : decode cX6_squawk 123 = .ok (.iadd, 1) := by decide +kernel
theorem dX6_squawk_124 : decode cX6_squawk 124 = .ok (.iload 5, 2) := by decide +kernel
theorem dX6_squawk_126 : decode cX6_squawk 126 = .ok (.iadd, 1) := by decide +kernel
theorem dX6_squawk_127 : decode cX6_squawk 127 = .ok (.ireturn, 1) := by decide +kernel
theorem dX6_speed_0 : decode cX6_speed 0 = .ok (.iload_n 1, 1) := by decide +kernel
theorem dX6_speed_1 : decode cX6_speed 1 = .ok (.ifCond .eq 9, 3) := by decide +kernel
theorem dX6_speed_4 : decode cX6_speed 4 = .ok (.iload_n 1, 1) := by decide +kernel
theorem dX6_speed_5 : decode cX6_speed 5 = .ok (.bipush 124, 2) := by decide +kernel
theorem dX6_speed_7 : decode cX6_speed 7 = .ok (.if_icmp .le 6, 3) := by decide +kernel
theorem dX6_speed_10 : decode cX6_speed 10 = .ok (.ldc 171, 2) := by decide +kernel
theorem dX6_speed_12 : decode cX6_speed 12 = .ok (.ireturn, 1) := by decide +kernel
theorem dX6_speed_13 : decode cX6_speed 13 = .ok (.iload_n 1, 1) := by decide +kernel
theorem dX6_speed_14 : decode cX6_speed 14 = .ok (.bipush 124, 2) := by decide +kernel
theorem dX6_speed_16 : decode cX6_speed 16 = .ok (.if_icmp .ne 7, 3) := by decide +kernel
theorem dX6_speed_19 : decode cX6_speed 19 = .ok (.sipush 1400, 3) := by decide +kernel
theorem dX6_speed_22 : decode cX6_speed 22 = .ok (.ireturn, 1) := by decide +kernel
theorem dX6_speed_23 : decode cX6_speed 23 = .ok (.iload_n 1, 1) := by decide +kernel
theorem dX6_speed_24 : decode cX6_speed 24 = .ok (.bipush 108, 2) := by decide +kernel
theorem dX6_speed_26 : decode cX6_speed 26 = .ok (.if_icmp .le 15, 3) := by decide +kernel
theorem dX6_speed_29 : decode cX6_speed 29 = .ok (.sipush 800, 3) := by decide +kernel
theorem dX6_speed_32 : decode cX6_speed 32 = .ok (.bipush 40, 2) := by decide +kernel
theorem dX6_speed_34 : decode cX6_speed 34 = .ok (.iload_n 1, 1) := by decide +kernel
theorem dX6_speed_35 : decode cX6_speed 35 = .ok (.bipush 109, 2) := by decide +kernel
theorem dX6_speed_37 : decode cX6_speed 37 = .ok (.isub, 1) := by decide +kernel
theorem dX6_speed_38 : decode cX6_speed 38 = .ok (.imul, 1) := by decide +kernel
theorem dX6_speed_39 : decode cX6_speed 39 = .ok (.iadd, 1) := by decide +kernel
theorem dX6_speed_40 : decode cX6_speed 40 = .ok (.ireturn, 1) := by decide +kernel
theorem dX6_speed_41 : decode cX6_speed 41 = .ok (.iload_n 1, 1) := by decide +kernel
theorem dX6_speed_42 : decode cX6_speed 42 = .ok (.bipush 93, 2) := by decide +kernel
theorem dX6_speed_44 : decode cX6_speed 44 = .ok (.if_icmp .le 15, 3) := by decide +kernel
theorem dX6_speed_47 : decode cX6_speed 47 = .ok (.sipush 560, 3) := by decide +kernel
theorem dX6_speed_50 : decode cX6_speed 50 = .ok (.bipush 16, 2) := by decide +kernel
theorem dX6_speed_52 : decode cX6_speed 52 = .ok (.iload_n 1, 1) := by decide +kernel
theorem dX6_speed_53 : decode cX6_speed 53 = .ok (.bipush 94, 2) := by decide +kernel
theorem dX6_speed_55 : decode cX6_speed 55 = .ok (.isub, 1) := by decide +kernel
theorem dX6_speed_56 : decode cX6_speed 56 = .ok (.imul, 1) := by decide +kernel
theorem dX6_speed_57 : decode cX6_speed 57 = .ok (.iadd, 1) := by decide +kernel
theorem dX6_speed_58 : decode cX6_speed 58 = .ok (.ireturn, 1) := by decide +kernel
theorem dX6_speed_59 : decode cX6_speed 59 = .ok (.iload_n 1, 1) := by decide +kernel
theorem dX6_speed_60 : decode cX6_speed 60 = .ok (.bipush 38, 2) := by decide +kernel
theorem dX6_speed_62 : decode cX6_speed 62 = .ok (.if_icmp .le 14, 3) := by decide +kernel
theorem dX6_speed_65 : decode cX6_speed 65 = .ok (.bipush 120, 2) := by decide +kernel
theorem dX6_speed_67 : decode cX6_speed 67 = .ok (.bipush 8, 2) := by decide +kernel
theorem dX6_speed_69 : decode cX6_speed 69 = .ok (.iload_n 1, 1) := by decide +kernel
theorem dX6_speed_70 : decode cX6_speed 70 = .ok (.bipush 39, 2) := by decide +kernel
theorem dX6_speed_72 : decode cX6_speed 72 = .ok (.isub, 1) := by decide +kernel
theorem dX6_speed_73 : decode cX6_speed 73 = .ok (.imul, 1) := by decide +kernel
theorem dX6_speed_74 : decode cX6_speed 74 = .ok (.iadd, 1) := by decide +kernel
theorem dX6_speed_75 : decode cX6_speed 75 = .ok (.ireturn, 1) := by decide +kernel
theorem dX6_speed_76 : decode cX6_speed 76 = .ok (.iload_n 1, 1) := by decide +kernel
theorem dX6_speed_77 : decode cX6_speed 77 = .ok (.bipush 12, 2) := by decide +kernel
theorem dX6_speed_79 : decode cX6_speed 79 = .ok (.if_icmp .le 13, 3) := by decide +kernel
theorem dX6_speed_82 : decode cX6_speed 82 = .ok (.bipush 16, 2) := by decide +kernel
theorem dX6_speed_84 : decode cX6_speed 84 = .ok (.iconst 4, 1) := by decide +kernel
theorem dX6_speed_85 : decode cX6_speed 85 = .ok (.iload_n 1, 1) := by decide +kernel
theorem dX6_speed_86 : decode cX6_speed 86 = .ok (.bipush 13, 2) := by decide +kernel
theorem dX6_speed_88 : decode cX6_speed 88 = .ok (.isub, 1) := by decide +kernel
theorem dX6_speed_89 : decode cX6_speed 89 = .ok (.imul, 1) := by decide +kernel
theorem dX6_speed_90 : decode cX6_speed 90 = .ok (.iadd, 1) := by decide +kernel
theorem dX6_speed_91 : decode cX6_speed 91 = .ok (.ireturn, 1) := by decide +kernel
theorem dX6_speed_92 : decode cX6_speed 92 = .ok (.iload_n 1, 1) := by decide +kernel
theorem dX6_speed_93 : decode cX6_speed 93 = .ok (.bipush 8, 2) := by decide +kernel
theorem dX6_speed_95 : decode cX6_speed 95 = .ok (.if_icmp .le 15, 3) := by decide +kernel
theorem dX6_speed_98 : decode cX6_speed 98 = .ok (.bipush 8, 2) := by decide +kernel
theorem dX6_speed_100 : decode cX6_speed 100 = .ok (.iconst 2, 1) := by decide +kernel
theorem dX6_speed_101 : decode cX6_speed 101 = .ok (.iload_n 1, 1) := by decide +kernel
theorem dX6_speed_102 : decode cX6_speed 102 = .ok (.bipush 9, 2) := by decide +kernel
theorem dX6_speed_104 : decode cX6_speed 104 = .ok (.isub, 1) := by decide +kernel
theorem dX6_speed_105 : decode cX6_speed 105 = .ok (.imul, 1) := by decide +kernel
theorem dX6_speed_106 : decode cX6_speed 106 = .ok (.iadd, 1) := by decide +kernel
theorem dX6_speed_107 : decode cX6_speed 107 = .ok (.goto 6, 3) := by decide +kernel
theorem dX6_speed_110 : decode cX6_speed 110 = .ok (.iload_n 1, 1) := by decide +kernel
theorem dX6_speed_111 : decode cX6_speed 111 = .ok (.iconst 1, 1) := by decide +kernel
theorem dX6_speed_112 : decode cX6_speed 112 = .ok (.isub, 1) := by decide +kernel
theorem dX6_speed_113 : decode cX6_speed 113 = .ok (.ireturn, 1) := by decide +kernel
theorem dX6_root_0 : decode cX6_root 0 = .ok (.iconst 0, 1) := by decide +kernel
theorem dX6_root_1 : decode cX6_root 1 = .ok (.istore_n 1, 1) := by decide +kernel
theorem dX6_root_2 : decode cX6_root 2 = .ok (.ldc 175, 2) := by decide +kernel
theorem dX6_root_4 : decode cX6_root 4 = .ok (.istore_n 2, 1) := by decide +kernel
theorem dX6_root_5 : decode cX6_root 5 = .ok (.iload_n 2, 1) := by decide +kernel
theorem dX6_root_6 : decode cX6_root 6 = .ok (.ifCond .le 29, 3) := by decide +kernel
theorem dX6_root_9 : decode cX6_root 9 = .ok (.iload_n 1, 1) := by decide +kernel
theorem dX6_root_10 : decode cX6_root 10 = .ok (.iload_n 2, 1) := by decide +kernel
theorem dX6_root_11 : decode cX6_root 11 = .ok (.iadd, 1) := by decide +kernel
theorem dX6_root_12 : decode cX6_root 12 = .ok (.i2l, 1) := by decide +kernel
theorem dX6_root_13 : decode cX6_root 13 = .ok (.iload_n 1, 1) := by decide +kernel
theorem dX6_root_14 : decode cX6_root 14 = .ok (.iload_n 2, 1) := by decide +kernel
theorem dX6_root_15 : decode cX6_root 15 = .ok (.iadd, 1) := by decide +kernel
theorem dX6_root_16 : decode cX6_root 16 = .ok (.i2l, 1) := by decide +kernel
theorem dX6_root_17 : decode cX6_root 17 = .ok (.lmul, 1) := by decide +kernel
theorem dX6_root_18 : decode cX6_root 18 = .ok (.iload_n 0, 1) := by decide +kernel
theorem dX6_root_19 : decode cX6_root 19 = .ok (.i2l, 1) := by decide +kernel
theorem dX6_root_20 : decode cX6_root 20 = .ok (.lcmp, 1) := by decide +kernel
theorem dX6_root_21 : decode cX6_root 21 = .ok (.ifCond .gt 7, 3) := by decide +kernel
theorem dX6_root_24 : decode cX6_root 24 = .ok (.iload_n 1, 1) := by decide +kernel
theorem dX6_root_25 : decode cX6_root 25 = .ok (.iload_n 2, 1) := by decide +kernel
theorem dX6_root_26 : decode cX6_root 26 = .ok (.iadd, 1) := by decide +kernel
theorem dX6_root_27 : decode cX6_root 27 = .ok (.istore_n 1, 1) := by decide +kernel
theorem dX6_root_28 : decode cX6_root 28 = .ok (.iload_n 2, 1) := by decide +kernel
theorem dX6_root_29 : decode cX6_root 29 = .ok (.iconst 2, 1) := by decide +kernel
theorem dX6_root_30 : decode cX6_root 30 = .ok (.idiv, 1) := by decide +kernel
theorem dX6_root_31 : decode cX6_root 31 = .ok (.istore_n 2, 1) := by decide +kernel
theorem dX6_root_32 : decode cX6_root 32 = .ok (.goto (-27), 3) := by decide +kernel
theorem dX6_root_35 : decode cX6_root 35 = .ok (.iload_n 1, 1) := by decide +kernel
theorem dX6_root_36 : decode cX6_root 36 = .ok (.ireturn, 1) := by decide +kernel
theorem dX6_part_0 : decode cX6_part 0 = .ok (.aload_n 0, 1) := by decide +kernel
theorem dX6_part_1 : decode cX6_part 1 = .ok (.aload_n 0, 1) := by decide +kernel
theorem dX6_part_2 : decode cX6_part 2 = .ok (.getfield 133, 3) := by decide +kernel
theorem dX6_part_5 : decode cX6_part 5 = .ok (.bipush 32, 2) := by decide +kernel
theorem dX6_part_7 : decode cX6_part 7 = .ok (.iload_n 1, 1) := by decide +kernel
theorem dX6_part_8 : decode cX6_part 8 = .ok (.iadd, 1) := by decide +kernel
theorem dX6_part_9 : decode cX6_part 9 = .ok (.bipush 32, 2) := by decide +kernel
theorem dX6_part_11 : decode cX6_part 11 = .ok (.iload_n 2, 1) := by decide +kernel
theorem dX6_part_12 : decode cX6_part 12 = .ok (.iadd, 1) := by decide +kernel
theorem dX6_part_13 : decode cX6_part 13 = .ok (.invokevirtual 156, 3) := by decide +kernel
theorem dX6_part_16 : decode cX6_part 16 = .ok (.ireturn, 1) := by decide +kernel
theorem dX6_rest_0 : decode cX6_rest 0 = .ok (.lload_n 0, 1) := by decide +kernel
theorem dX6_rest_1 : decode cX6_rest 1 = .ok (.lload_n 2, 1) := by decide +kernel
theorem dX6_rest_2 : decode cX6_rest 2 = .ok (.lrem, 1) := by decide +kernel
theorem dX6_rest_3 : decode cX6_rest 3 = .ok (.lstore 4, 2) := by decide +kernel
theorem dX6_rest_5 : decode cX6_rest 5 = .ok (.lload 4, 2) := by decide +kernel
theorem dX6_rest_7 : decode cX6_rest 7 = .ok (.lconst 0, 1) := by decide +kernel
theorem dX6_rest_8 : decode cX6_rest 8 = .ok (.lcmp, 1) := by decide +kernel
theorem dX6_rest_9 : decode cX6_rest 9 = .ok (.ifCond .ge 10, 3) := by decide +kernel
theorem dX6_rest_12 : decode cX6_rest 12 = .ok (.lload 4, 2) := by decide +kernel
theorem dX6_rest_14 : decode cX6_rest 14 = .ok (.lload_n 2, 1) := by decide +kernel
theorem dX6_rest_15 : decode cX6_rest 15 = .ok (.ladd, 1) := by decide +kernel
theorem dX6_rest_16 : decode cX6_rest 16 = .ok (.goto 5, 3) := by decide +kernel
theorem dX6_rest_19 : decode cX6_rest 19 = .ok (.lload 4, 2) := by decide +kernel
theorem dX6_rest_21 : decode cX6_rest 21 = .ok (.lreturn, 1) := by decide +kernel
theorem dX6_down_0 : decode cX6_down 0 = .ok (.lload_n 0, 1) := by decide +kernel
theorem dX6_down_1 : decode cX6_down 1 = .ok (.lload_n 0, 1) := by decide +kernel
theorem dX6_down_2 : decode cX6_down 2 = .ok (.lload_n 2, 1) := by decide +kernel
theorem dX6_down_3 : decode cX6_down 3 = .ok (.invokestatic 176, 3) := by decide +kernel
theorem dX6_down_6 : decode cX6_down 6 = .ok (.lsub, 1) := by decide +kernel
theorem dX6_down_7 : decode cX6_down 7 = .ok (.lload_n 2, 1) := by decide +kernel
theorem dX6_down_8 : decode cX6_down 8 = .ok (.ldiv, 1) := by decide +kernel
theorem dX6_down_9 : decode cX6_down 9 = .ok (.lreturn, 1) := by decide +kernel
theorem dX6_sizeOf_0 : decode cX6_sizeOf 0 = .ok (.lload_n 0, 1) := by decide +kernel
theorem dX6_sizeOf_1 : decode cX6_sizeOf 1 = .ok (.lconst 0, 1) := by decide +kernel
theorem dX6_sizeOf_2 : decode cX6_sizeOf 2 = .ok (.lcmp, 1) := by decide +kernel
theorem dX6_sizeOf_3 : decode cX6_sizeOf 3 = .ok (.ifCond .ge 8, 3) := by decide +kernel
theorem dX6_sizeOf_6 : decode cX6_sizeOf 6 = .ok (.lload_n 0, 1) := by decide +kernel
theorem dX6_sizeOf_7 : decode cX6_sizeOf 7 = .ok (.lneg, 1) := by decide +kernel
theorem dX6_sizeOf_8 : decode cX6_sizeOf 8 = .ok (.goto 4, 3) := by decide +kernel
theorem dX6_sizeOf_11 : decode cX6_sizeOf 11 = .ok (.lload_n 0, 1) := by decide +kernel
theorem dX6_sizeOf_12 : decode cX6_sizeOf 12 = .ok (.lreturn, 1) := by decide +kernel
theorem dX6_atLeast1_0 : decode cX6_atLeast1 0 = .ok (.iload_n 0, 1) := by decide +kernel
theorem dX6_atLeast1_1 : decode cX6_atLeast1 1 = .ok (.iconst 1, 1) := by decide +kernel
theorem dX6_atLeast1_2 : decode cX6_atLeast1 2 = .ok (.if_icmp .ge 7, 3) := by decide +kernel
theorem dX6_atLeast1_5 : decode cX6_atLeast1 5 = .ok (.iconst 1, 1) := by decide +kernel
theorem dX6_atLeast1_6 : decode cX6_atLeast1 6 = .ok (.goto 4, 3) := by decide +kernel
theorem dX6_atLeast1_9 : decode cX6_atLeast1 9 = .ok (.iload_n 0, 1) := by decide +kernel
theorem dX6_atLeast1_10 : decode cX6_atLeast1 10 = .ok (.ireturn, 1) := by decide +kernel
theorem dX6_zonesOf_0 : decode cX6_zonesOf 0 = .ok (.lload_n 1, 1) := by decide +kernel
theorem dX6_zonesOf_1 : decode cX6_zonesOf 1 = .ok (.invokestatic 180, 3) := by decide +kernel
theorem dX6_zonesOf_4 : decode cX6_zonesOf 4 = .ok (.lstore 5, 2) := by decide +kernel
theorem dX6_zonesOf_6 : decode cX6_zonesOf 6 = .ok (.bipush 59, 2) := by decide +kernel
theorem dX6_zonesOf_8 : decode cX6_zonesOf 8 = .ok (.istore 7, 2) := by decide +kernel
theorem dX6_zonesOf_10 : decode cX6_zonesOf 10 = .ok (.iload 7, 2) := by decide +kernel
theorem dX6_zonesOf_12 : decode cX6_zonesOf 12 = .ok (.iconst 1, 1) := by decide +kernel
theorem dX6_zonesOf_13 : decode cX6_zonesOf 13 = .ok (.if_icmp .le 48, 3) := by decide +kernel
theorem dX6_zonesOf_16 : decode cX6_zonesOf 16 = .ok (.aload_n 0, 1) := by decide +kernel
theorem dX6_zonesOf_17 : decode cX6_zonesOf 17 = .ok (.getfield 123, 3) := by decide +kernel
theorem dX6_zonesOf_20 : decode cX6_zonesOf 20 = .ok (.bipush 59, 2) := by decide +kernel
theorem dX6_zonesOf_22 : decode cX6_zonesOf 22 = .ok (.iload 7, 2) := by decide +kernel
theorem dX6_zonesOf_24 : decode cX6_zonesOf 24 = .ok (.isub, 1) := by decide +kernel
theorem dX6_zonesOf_25 : decode cX6_zonesOf 25 = .ok (.laload, 1) := by decide +kernel
theorem dX6_zonesOf_26 : decode cX6_zonesOf 26 = .ok (.lload_n 3, 1) := by decide +kernel
theorem dX6_zonesOf_27 : decode cX6_zonesOf 27 = .ok (.lmul, 1) := by decide +kernel
theorem dX6_zonesOf_28 : decode cX6_zonesOf 28 = .ok (.lstore 8, 2) := by decide +kernel
theorem dX6_zonesOf_30 : decode cX6_zonesOf 30 = .ok (.lload 5, 2) := by decide +kernel
theorem dX6_zonesOf_32 : decode cX6_zonesOf 32 = .ok (.lload 8, 2) := by decide +kernel
theorem dX6_zonesOf_34 : decode cX6_zonesOf 34 = .ok (.lcmp, 1) := by decide +kernel
theorem dX6_zonesOf_35 : decode cX6_zonesOf 35 = .ok (.ifCond .lt 17, 3) := by decide +kernel
theorem dX6_zonesOf_38 : decode cX6_zonesOf 38 = .ok (.iload 7, 2) := by decide +kernel
theorem dX6_zonesOf_40 : decode cX6_zonesOf 40 = .ok (.iconst 2, 1) := by decide +kernel
theorem dX6_zonesOf_41 : decode cX6_zonesOf 41 = .ok (.if_icmp .ne 14, 3) := by decide +kernel
theorem dX6_zonesOf_44 : decode cX6_zonesOf 44 = .ok (.lload 5, 2) := by decide +kernel
theorem dX6_zonesOf_46 : decode cX6_zonesOf 46 = .ok (.lload 8, 2) := by decide +kernel
theorem dX6_zonesOf_48 : decode cX6_zonesOf 48 = .ok (.lcmp, 1) := by decide +kernel
theorem dX6_zonesOf_49 : decode cX6_zonesOf 49 = .ok (.ifCond .ne 6, 3) := by decide +kernel
theorem dX6_zonesOf_52 : decode cX6_zonesOf 52 = .ok (.iload 7, 2) := by decide +kernel
theorem dX6_zonesOf_54 : decode cX6_zonesOf 54 = .ok (.ireturn, 1) := by decide +kernel
theorem dX6_zonesOf_55 : decode cX6_zonesOf 55 = .ok (.iinc 7 (-1), 3) := by decide +kernel
theorem dX6_zonesOf_58 : decode cX6_zonesOf 58 = .ok (.goto (-48), 3) := by decide +kernel
theorem dX6_zonesOf_61 : decode cX6_zonesOf 61 = .ok (.iconst 1, 1) := by decide +kernel
theorem dX6_zonesOf_62 : decode cX6_zonesOf 62 = .ok (.ireturn, 1) := by decide +kernel
theorem dX6_isLatitude_0 : decode cX6_isLatitude 0 = .ok (.iload_n 0, 1) := by decide +kernel
theorem dX6_isLatitude_1 : decode cX6_isLatitude 1 = .ok (.ldc 184, 2) := by decide +kernel
theorem dX6_isLatitude_3 : decode cX6_isLatitude 3 = .ok (.if_icmp .lt 13, 3) := by decide +kernel
theorem dX6_isLatitude_6 : decode cX6_isLatitude 6 = .ok (.iload_n 0, 1) := by decide +kernel
theorem dX6_isLatitude_7 : decode cX6_isLatitude 7 = .ok (.ldc 185, 2) := by decide +kernel
theorem dX6_isLatitude_9 : decode cX6_isLatitude 9 = .ok (.if_icmp .gt 7, 3) := by decide +kernel
theorem dX6_isLatitude_12 : decode cX6_isLatitude 12 = .ok (.iconst 1, 1) := by decide +kernel
theorem dX6_isLatitude_13 : decode cX6_isLatitude 13 = .ok (.goto 4, 3) := by decide +kernel
theorem dX6_isLatitude_16 : decode cX6_isLatitude 16 = .ok (.iconst 0, 1) := by decide +kernel
theorem dX6_isLatitude_17 : decode cX6_isLatitude 17 = .ok (.ireturn, 1) := by decide +kernel
theorem dX6_isLongitude_0 : decode cX6_isLongitude 0 = .ok (.iload_n 0, 1) := by decide +kernel
theorem dX6_isLongitude_1 : decode cX6_isLongitude 1 = .ok (.ldc 186, 2) := by decide +kernel
theorem dX6_isLongitude_3 : decode cX6_isLongitude 3 = .ok (.if_icmp .lt 13, 3) := by decide +kernel
theorem dX6_isLongitude_6 : decode cX6_isLongitude 6 = .ok (.iload_n 0, 1) := by decide +kernel
theorem dX6_isLongitude_7 : decode cX6_isLongitude 7 = .ok (.ldc 187, 2) := by decide +kernel
theorem dX6_isLongitude_9 : decode cX6_isLongitude 9 = .ok (.if_icmp .ge 7, 3) := by decide +kernel
theorem dX6_isLongitude_12 : decode cX6_isLongitude 12 = .ok (.iconst 1, 1) := by decide +kernel
theorem dX6_isLongitude_13 : decode cX6_isLongitude 13 = .ok (.goto 4, 3) := by decide +kernel
theorem dX6_isLongitude_16 : decode cX6_isLongitude 16 = .ok (.iconst 0, 1) := by decide +kernel
theorem dX6_isLongitude_17 : decode cX6_isLongitude 17 = .ok (.ireturn, 1) := by decide +kernel
theorem dX6_zones_0 : decode cX6_zones 0 = .ok (.iload_n 1, 1) := by decide +kernel
theorem dX6_zones_1 : decode cX6_zones 1 = .ok (.invokestatic 188, 3) := by decide +kernel
theorem dX6_zones_4 : decode cX6_zones 4 = .ok (.ifCond .eq 17, 3) := by decide +kernel
theorem dX6_zones_7 : decode cX6_zones 7 = .ok (.aload_n 0, 1) := by decide +kernel
theorem dX6_zones_8 : decode cX6_zones 8 = .ok (.ldc2_w 192, 3) := by decide +kernel
theorem dX6_zones_11 : decode cX6_zones 11 = .ok (.iload_n 1, 1) := by decide +kernel
theorem dX6_zones_12 : decode cX6_zones 12 = .ok (.i2l, 1) := by decide +kernel
theorem dX6_zones_13 : decode cX6_zones 13 = .ok (.lmul, 1) := by decide +kernel
theorem dX6_zones_14 : decode cX6_zones 14 = .ok (.lconst 1, 1) := by decide +kernel
theorem dX6_zones_15 : decode cX6_zones 15 = .ok (.invokevirtual 194, 3) := by decide +kernel
theorem dX6_zones_18 : decode cX6_zones 18 = .ok (.goto 4, 3) := by decide +kernel
theorem dX6_zones_21 : decode cX6_zones 21 = .ok (.iconst (-1), 1) := by decide +kernel
theorem dX6_zones_22 : decode cX6_zones 22 = .ok (.ireturn, 1) := by decide +kernel
theorem dX6_parts_0 : decode cX6_parts 0 = .ok (.ldc2_w 198, 3) := by decide +kernel
theorem dX6_parts_3 : decode cX6_parts 3 = .ok (.lload_n 0, 1) := by decide +kernel
theorem dX6_parts_4 : decode cX6_parts 4 = .ok (.lmul, 1) := by decide +kernel
theorem dX6_parts_5 : decode cX6_parts 5 = .ok (.ldc2_w 200, 3) := by decide +kernel
theorem dX6_parts_8 : decode cX6_parts 8 = .ok (.lmul, 1) := by decide +kernel
theorem dX6_parts_9 : decode cX6_parts 9 = .ok (.lload_n 2, 1) := by decide +kernel
theorem dX6_parts_10 : decode cX6_parts 10 = .ok (.ladd, 1) := by decide +kernel
theorem dX6_parts_11 : decode cX6_parts 11 = .ok (.ldc2_w 198, 3) := by decide +kernel
theorem dX6_parts_14 : decode cX6_parts 14 = .ok (.lload_n 2, 1) := by decide +kernel
theorem dX6_parts_15 : decode cX6_parts 15 = .ok (.lmul, 1) := by decide +kernel
theorem dX6_parts_16 : decode cX6_parts 16 = .ok (.invokestatic 202, 3) := by decide +kernel
theorem dX6_parts_19 : decode cX6_parts 19 = .ok (.lreturn, 1) := by decide +kernel
theorem dX6_encode_0 : decode cX6_encode 0 = .ok (.iload_n 1, 1) := by decide +kernel
theorem dX6_encode_1 : decode cX6_encode 1 = .ok (.invokestatic 188, 3) := by decide +kernel
theorem dX6_encode_4 : decode cX6_encode 4 = .ok (.ifCond .eq 10, 3) := by decide +kernel
theorem dX6_encode_7 : decode cX6_encode 7 = .ok (.iload_n 2, 1) := by decide +kernel
theorem dX6_encode_8 : decode cX6_encode 8 = .ok (.invokestatic 205, 3) := by decide +kernel
theorem dX6_encode_11 : decode cX6_encode 11 = .ok (.ifCond .ne 7, 3) := by decide +kernel
theorem dX6_encode_14 : decode cX6_encode 14 = .ok (.ldc2_w 208, 3) := by decide +kernel
theorem dX6_encode_17 : decode cX6_encode 17 = .ok (.lreturn, 1) := by decide +kernel
theorem dX6_encode_18 : decode cX6_encode 18 = .ok (.iload_n 3, 1) := by decide +kernel
theorem dX6_encode_19 : decode cX6_encode 19 = .ok (.ifCond .eq 9, 3) := by decide +kernel
theorem dX6_encode_22 : decode cX6_encode 22 = .ok (.ldc2_w 210, 3) := by decide +kernel
theorem dX6_encode_25 : decode cX6_encode 25 = .ok (.goto 6, 3) := by decide +kernel
theorem dX6_encode_28 : decode cX6_encode 28 = .ok (.ldc2_w 212, 3) := by decide +kernel
theorem dX6_encode_31 : decode cX6_encode 31 = .ok (.lstore 5, 2) := by decide +kernel
theorem dX6_encode_33 : decode cX6_encode 33 = .ok (.iload 4, 2) := by decide +kernel
theorem dX6_encode_35 : decode cX6_encode 35 = .ok (.ifCond .eq 8, 3) := by decide +kernel
theorem dX6_encode_38 : decode cX6_encode 38 = .ok (.bipush 59, 2) := by decide +kernel
theorem dX6_encode_40 : decode cX6_encode 40 = .ok (.goto 5, 3) := by decide +kernel
theorem dX6_encode_43 : decode cX6_encode 43 = .ok (.bipush 60, 2) := by decide +kernel
theorem dX6_encode_45 : decode cX6_encode 45 = .ok (.istore 7, 2) := by decide +kernel
theorem dX6_encode_47 : decode cX6_encode 47 = .ok (.iload_n 1, 1) := by decide +kernel
theorem dX6_encode_48 : decode cX6_encode 48 = .ok (.i2l, 1) := by decide +kernel
theorem dX6_encode_49 : decode cX6_encode 49 = .ok (.iload 7, 2) := by decide +kernel
theorem dX6_encode_51 : decode cX6_encode 51 = .ok (.i2l, 1) := by decide +kernel
theorem dX6_encode_52 : decode cX6_encode 52 = .ok (.lmul, 1) := by decide +kernel
theorem dX6_encode_53 : decode cX6_encode 53 = .ok (.lstore 8, 2) := by decide +kernel
theorem dX6_encode_55 : decode cX6_encode 55 = .ok (.lload 8, 2) := by decide +kernel
theorem dX6_encode_57 : decode cX6_encode 57 = .ok (.lload 5, 2) := by decide +kernel
theorem dX6_encode_59 : decode cX6_encode 59 = .ok (.invokestatic 202, 3) := by decide +kernel
theorem dX6_encode_62 : decode cX6_encode 62 = .ok (.lstore 10, 2) := by decide +kernel
theorem dX6_encode_64 : decode cX6_encode 64 = .ok (.lload 8, 2) := by decide +kernel
theorem dX6_encode_66 : decode cX6_encode 66 = .ok (.lload 5, 2) := by decide +kernel
theorem dX6_encode_68 : decode cX6_encode 68 = .ok (.invokestatic 176, 3) := by decide +kernel
theorem dX6_encode_71 : decode cX6_encode 71 = .ok (.lload 5, 2) := by decide +kernel
theorem dX6_encode_73 : decode cX6_encode 73 = .ok (.invokestatic 214, 3) := by decide +kernel
theorem dX6_encode_76 : decode cX6_encode 76 = .ok (.lstore 12, 2) := by decide +kernel
theorem dX6_encode_78 : decode cX6_encode 78 = .ok (.aload_n 0, 1) := by decide +kernel
theorem dX6_encode_79 : decode cX6_encode 79 = .ok (.ldc2_w 192, 3) := by decide +kernel
theorem dX6_encode_82 : decode cX6_encode 82 = .ok (.lload 5, 2) := by decide +kernel
theorem dX6_encode_84 : decode cX6_encode 84 = .ok (.lmul, 1) := by decide +kernel
theorem dX6_encode_85 : decode cX6_encode 85 = .ok (.lload 10, 2) := by decide +kernel
theorem dX6_encode_87 : decode cX6_encode 87 = .ok (.ldc2_w 200, 3) := by decide +kernel
theorem dX6_encode_90 : decode cX6_encode 90 = .ok (.lmul, 1) := by decide +kernel
theorem dX6_encode_91 : decode cX6_encode 91 = .ok (.lload 12, 2) := by decide +kernel
theorem dX6_encode_93 : decode cX6_encode 93 = .ok (.ladd, 1) := by decide +kernel
theorem dX6_encode_94 : decode cX6_encode 94 = .ok (.lmul, 1) := by decide +kernel
theorem dX6_encode_95 : decode cX6_encode 95 = .ok (.iload 7, 2) := by decide +kernel
theorem dX6_encode_97 : decode cX6_encode 97 = .ok (.i2l, 1) := by decide +kernel
theorem dX6_encode_98 : decode cX6_encode 98 = .ok (.ldc2_w 200, 3) := by decide +kernel
theorem dX6_encode_101 : decode cX6_encode 101 = .ok (.lmul, 1) := by decide +kernel
theorem dX6_encode_102 : decode cX6_encode 102 = .ok (.invokevirtual 194, 3) := by decide +kernel
theorem dX6_encode_105 : decode cX6_encode 105 = .ok (.iload 4, 2) := by decide +kernel
theorem dX6_encode_107 : decode cX6_encode 107 = .ok (.ifCond .eq 7, 3) := by decide +kernel
theorem dX6_encode_110 : decode cX6_encode 110 = .ok (.iconst 1, 1) := by decide +kernel
theorem dX6_encode_111 : decode cX6_encode 111 = .ok (.goto 4, 3) := by decide +kernel
theorem dX6_encode_114 : decode cX6_encode 114 = .ok (.iconst 0, 1) := by decide +kernel
theorem dX6_encode_115 : decode cX6_encode 115 = .ok (.isub, 1) := by decide +kernel
theorem dX6_encode_116 : decode cX6_encode 116 = .ok (.invokestatic 217, 3) := by decide +kernel
theorem dX6_encode_119 : decode cX6_encode 119 = .ok (.istore 14, 2) := by decide +kernel
theorem dX6_encode_121 : decode cX6_encode 121 = .ok (.iload_n 2, 1) := by decide +kernel
theorem dX6_encode_122 : decode cX6_encode 122 = .ok (.i2l, 1) := by decide +kernel
theorem dX6_encode_123 : decode cX6_encode 123 = .ok (.iload 14, 2) := by decide +kernel
theorem dX6_encode_125 : decode cX6_encode 125 = .ok (.i2l, 1) := by decide +kernel
theorem dX6_encode_126 : decode cX6_encode 126 = .ok (.lmul, 1) := by decide +kernel
theorem dX6_encode_127 : decode cX6_encode 127 = .ok (.lload 5, 2) := by decide +kernel
theorem dX6_encode_129 : decode cX6_encode 129 = .ok (.invokestatic 176, 3) := by decide +kernel
theorem dX6_encode_132 : decode cX6_encode 132 = .ok (.lload 5, 2) := by decide +kernel
theorem dX6_encode_134 : decode cX6_encode 134 = .ok (.invokestatic 214, 3) := by decide +kernel
theorem dX6_encode_137 : decode cX6_encode 137 = .ok (.lstore 15, 2) := by decide +kernel
theorem dX6_encode_139 : decode cX6_encode 139 = .ok (.lload 12, 2) := by decide +kernel
theorem dX6_encode_141 : decode cX6_encode 141 = .ok (.ldc2_w 200, 3) := by decide +kernel
theorem dX6_encode_144 : decode cX6_encode 144 = .ok (.lrem, 1) := by decide +kernel
theorem dX6_encode_145 : decode cX6_encode 145 = .ok (.ldc2_w 200, 3) := by decide +kernel
theorem dX6_encode_148 : decode cX6_encode 148 = .ok (.lmul, 1) := by decide +kernel
theorem dX6_encode_149 : decode cX6_encode 149 = .ok (.lload 15, 2) := by decide +kernel
theorem dX6_encode_151 : decode cX6_encode 151 = .ok (.ldc2_w 200, 3) := by decide +kernel
theorem dX6_encode_154 : decode cX6_encode 154 = .ok (.lrem, 1) := by decide +kernel
theorem dX6_encode_155 : decode cX6_encode 155 = .ok (.ladd, 1) := by decide +kernel
theorem dX6_encode_156 : decode cX6_encode 156 = .ok (.lreturn, 1) := by decide +kernel
theorem dX6_isTold_0 : decode cX6_isTold 0 = .ok (.lload_n 1, 1) := by decide +kernel
theorem dX6_isTold_1 : decode cX6_isTold 1 = .ok (.lconst 0, 1) := by decide +kernel
theorem dX6_isTold_2 : decode cX6_isTold 2 = .ok (.lcmp, 1) := by decide +kernel
theorem dX6_isTold_3 : decode cX6_isTold 3 = .ok (.ifCond .lt 15, 3) := by decide +kernel
theorem dX6_isTold_6 : decode cX6_isTold 6 = .ok (.lload_n 1, 1) := by decide +kernel
theorem dX6_isTold_7 : decode cX6_isTold 7 = .ok (.ldc2_w 221, 3) := by decide +kernel
theorem dX6_isTold_10 : decode cX6_isTold 10 = .ok (.lcmp, 1) := by decide +kernel
theorem dX6_isTold_11 : decode cX6_isTold 11 = .ok (.ifCond .ge 7, 3) := by decide +kernel
theorem dX6_isTold_14 : decode cX6_isTold 14 = .ok (.iconst 1, 1) := by decide +kernel
theorem dX6_isTold_15 : decode cX6_isTold 15 = .ok (.goto 4, 3) := by decide +kernel
theorem dX6_isTold_18 : decode cX6_isTold 18 = .ok (.iconst 0, 1) := by decide +kernel
theorem dX6_isTold_19 : decode cX6_isTold 19 = .ok (.ireturn, 1) := by decide +kernel
theorem dX6_both_0 : decode cX6_both 0 = .ok (.iload_n 0, 1) := by decide +kernel
theorem dX6_both_1 : decode cX6_both 1 = .ok (.i2l, 1) := by decide +kernel
theorem dX6_both_2 : decode cX6_both 2 = .ok (.bipush 32, 2) := by decide +kernel
theorem dX6_both_4 : decode cX6_both 4 = .ok (.lshl, 1) := by decide +kernel
theorem dX6_both_5 : decode cX6_both 5 = .ok (.iload_n 1, 1) := by decide +kernel
theorem dX6_both_6 : decode cX6_both 6 = .ok (.i2l, 1) := by decide +kernel
theorem dX6_both_7 : decode cX6_both 7 = .ok (.ldc2_w 223, 3) := by decide +kernel
theorem dX6_both_10 : decode cX6_both 10 = .ok (.land, 1) := by decide +kernel
theorem dX6_both_11 : decode cX6_both 11 = .ok (.lor, 1) := by decide +kernel
theorem dX6_both_12 : decode cX6_both 12 = .ok (.lreturn, 1) := by decide +kernel
theorem dX6_globalOf_0 : decode cX6_globalOf 0 = .ok (.lload_n 1, 1) := by decide +kernel
theorem dX6_globalOf_1 : decode cX6_globalOf 1 = .ok (.ldc2_w 200, 3) := by decide +kernel
theorem dX6_globalOf_4 : decode cX6_globalOf 4 = .ok (.ldiv, 1) := by decide +kernel
theorem dX6_globalOf_5 : decode cX6_globalOf 5 = .ok (.lstore 6, 2) := by decide +kernel
theorem dX6_globalOf_7 : decode cX6_globalOf 7 = .ok (.lload_n 3, 1) := by decide +kernel
theorem dX6_globalOf_8 : decode cX6_globalOf 8 = .ok (.ldc2_w 200, 3) := by decide +kernel
theorem dX6_globalOf_11 : decode cX6_globalOf 11 = .ok (.ldiv, 1) := by decide +kernel
theorem dX6_globalOf_12 : decode cX6_globalOf 12 = .ok (.lstore 8, 2) := by decide +kernel
theorem dX6_globalOf_14 : decode cX6_globalOf 14 = .ok (.lload_n 1, 1) := by decide +kernel
theorem dX6_globalOf_15 : decode cX6_globalOf 15 = .ok (.ldc2_w 200, 3) := by decide +kernel
theorem dX6_globalOf_18 : decode cX6_globalOf 18 = .ok (.lrem, 1) := by decide +kernel
theorem dX6_globalOf_19 : decode cX6_globalOf 19 = .ok (.lstore 10, 2) := by decide +kernel
theorem dX6_globalOf_21 : decode cX6_globalOf 21 = .ok (.lload_n 3, 1) := by decide +kernel
theorem dX6_globalOf_22 : decode cX6_globalOf 22 = .ok (.ldc2_w 200, 3) := by decide +kernel
theorem dX6_globalOf_25 : decode cX6_globalOf 25 = .ok (.lrem, 1) := by decide +kernel
theorem dX6_globalOf_26 : decode cX6_globalOf 26 = .ok (.lstore 12, 2) := by decide +kernel
theorem dX6_globalOf_28 : decode cX6_globalOf 28 = .ok (.ldc2_w 198, 3) := by decide +kernel
theorem dX6_globalOf_31 : decode cX6_globalOf 31 = .ok (.ldc2_w 225, 3) := by decide +kernel
theorem dX6_globalOf_34 : decode cX6_globalOf 34 = .ok (.lload 6, 2) := by decide +kernel
theorem dX6_globalOf_36 : decode cX6_globalOf 36 = .ok (.lmul, 1) := by decide +kernel
theorem dX6_globalOf_37 : decode cX6_globalOf 37 = .ok (.ldc2_w 227, 3) := by decide +kernel
theorem dX6_globalOf_40 : decode cX6_globalOf 40 = .ok (.lload 8, 2) := by decide +kernel
theorem dX6_globalOf_42 : decode cX6_globalOf 42 = .ok (.lmul, 1) := by decide +kernel
theorem dX6_globalOf_43 : decode cX6_globalOf 43 = .ok (.lsub, 1) := by decide +kernel
theorem dX6_globalOf_44 : decode cX6_globalOf 44 = .ok (.lmul, 1) := by decide +kernel
theorem dX6_globalOf_45 : decode cX6_globalOf 45 = .ok (.ldc2_w 200, 3) := by decide +kernel
theorem dX6_globalOf_48 : decode cX6_globalOf 48 = .ok (.ladd, 1) := by decide +kernel
theorem dX6_globalOf_49 : decode cX6_globalOf 49 = .ok (.ldc2_w 229, 3) := by decide +kernel
theorem dX6_globalOf_52 : decode cX6_globalOf 52 = .ok (.invokestatic 202, 3) := by decide +kernel
theorem dX6_globalOf_55 : decode cX6_globalOf 55 = .ok (.lstore 14, 2) := by decide +kernel
theorem dX6_globalOf_57 : decode cX6_globalOf 57 = .ok (.lload 14, 2) := by decide +kernel
theorem dX6_globalOf_59 : decode cX6_globalOf 59 = .ok (.ldc2_w 227, 3) := by decide +kernel
theorem dX6_globalOf_62 : decode cX6_globalOf 62 = .ok (.invokestatic 176, 3) := by decide +kernel
theorem dX6_globalOf_65 : decode cX6_globalOf 65 = .ok (.ldc2_w 200, 3) := by decide +kernel
theorem dX6_globalOf_68 : decode cX6_globalOf 68 = .ok (.lmul, 1) := by decide +kernel
theorem dX6_globalOf_69 : decode cX6_globalOf 69 = .ok (.lload 6, 2) := by decide +kernel
theorem dX6_globalOf_71 : decode cX6_globalOf 71 = .ok (.ladd, 1) := by decide +kernel
theorem dX6_globalOf_72 : decode cX6_globalOf 72 = .ok (.lstore 16, 2) := by decide +kernel
theorem dX6_globalOf_74 : decode cX6_globalOf 74 = .ok (.lload 14, 2) := by decide +kernel
theorem dX6_globalOf_76 : decode cX6_globalOf 76 = .ok (.ldc2_w 225, 3) := by decide +kernel
theorem dX6_globalOf_79 : decode cX6_globalOf 79 = .ok (.invokestatic 176, 3) := by decide +kernel
theorem dX6_globalOf_82 : decode cX6_globalOf 82 = .ok (.ldc2_w 200, 3) := by decide +kernel
theorem dX6_globalOf_85 : decode cX6_globalOf 85 = .ok (.lmul, 1) := by decide +kernel
theorem dX6_globalOf_86 : decode cX6_globalOf 86 = .ok (.lload 8, 2) := by decide +kernel
theorem dX6_globalOf_88 : decode cX6_globalOf 88 = .ok (.ladd, 1) := by decide +kernel
theorem dX6_globalOf_89 : decode cX6_globalOf 89 = .ok (.lstore 18, 2) := by decide +kernel
theorem dX6_globalOf_91 : decode cX6_globalOf 91 = .ok (.ldc2_w 231, 3) := by decide +kernel
theorem dX6_globalOf_94 : decode cX6_globalOf 94 = .ok (.lload 16, 2) := by decide +kernel
theorem dX6_globalOf_96 : decode cX6_globalOf 96 = .ok (.lmul, 1) := by decide +kernel
theorem dX6_globalOf_97 : decode cX6_globalOf 97 = .ok (.ldc2_w 233, 3) := by decide +kernel
theorem dX6_globalOf_100 : decode cX6_globalOf 100 = .ok (.lcmp, 1) := by decide +kernel
theorem dX6_globalOf_101 : decode cX6_globalOf 101 = .ok (.ifCond .lt 11, 3) := by decide +kernel
theorem dX6_globalOf_104 : decode cX6_globalOf 104 = .ok (.lload 16, 2) := by decide +kernel
theorem dX6_globalOf_106 : decode cX6_globalOf 106 = .ok (.ldc2_w 235, 3) := by decide +kernel
theorem dX6_globalOf_109 : decode cX6_globalOf 109 = .ok (.lsub, 1) := by decide +kernel
theorem dX6_globalOf_110 : decode cX6_globalOf 110 = .ok (.lstore 16, 2) := by decide +kernel
theorem dX6_globalOf_112 : decode cX6_globalOf 112 = .ok (.ldc2_w 231, 3) := by decide +kernel
theorem dX6_globalOf_115 : decode cX6_globalOf 115 = .ok (.lload 18, 2) := by decide +kernel
theorem dX6_globalOf_117 : decode cX6_globalOf 117 = .ok (.lmul, 1) := by decide +kernel
theorem dX6_globalOf_118 : decode cX6_globalOf 118 = .ok (.ldc2_w 237, 3) := by decide +kernel
theorem dX6_globalOf_121 : decode cX6_globalOf 121 = .ok (.lcmp, 1) := by decide +kernel
theorem dX6_globalOf_122 : decode cX6_globalOf 122 = .ok (.ifCond .lt 11, 3) := by decide +kernel
theorem dX6_globalOf_125 : decode cX6_globalOf 125 = .ok (.lload 18, 2) := by decide +kernel
theorem dX6_globalOf_127 : decode cX6_globalOf 127 = .ok (.ldc2_w 239, 3) := by decide +kernel
theorem dX6_globalOf_130 : decode cX6_globalOf 130 = .ok (.lsub, 1) := by decide +kernel
theorem dX6_globalOf_131 : decode cX6_globalOf 131 = .ok (.lstore 18, 2) := by decide +kernel
theorem dX6_globalOf_133 : decode cX6_globalOf 133 = .ok (.ldc2_w 231, 3) := by decide +kernel
theorem dX6_globalOf_136 : decode cX6_globalOf 136 = .ok (.lload 16, 2) := by decide +kernel
theorem dX6_globalOf_138 : decode cX6_globalOf 138 = .ok (.lmul, 1) := by decide +kernel
theorem dX6_globalOf_139 : decode cX6_globalOf 139 = .ok (.invokestatic 180, 3) := by decide +kernel
theorem dX6_globalOf_142 : decode cX6_globalOf 142 = .ok (.ldc2_w 235, 3) := by decide +kernel
theorem dX6_globalOf_145 : decode cX6_globalOf 145 = .ok (.lcmp, 1) := by decide +kernel
theorem dX6_globalOf_146 : decode cX6_globalOf 146 = .ok (.ifCond .gt 19, 3) := by decide +kernel
theorem dX6_globalOf_149 : decode cX6_globalOf 149 = .ok (.ldc2_w 231, 3) := by decide +kernel
theorem dX6_globalOf_152 : decode cX6_globalOf 152 = .ok (.lload 18, 2) := by decide +kernel
theorem dX6_globalOf_154 : decode cX6_globalOf 154 = .ok (.lmul, 1) := by decide +kernel
theorem dX6_globalOf_155 : decode cX6_globalOf 155 = .ok (.invokestatic 180, 3) := by decide +kernel
theorem dX6_globalOf_158 : decode cX6_globalOf 158 = .ok (.ldc2_w 239, 3) := by decide +kernel
theorem dX6_globalOf_161 : decode cX6_globalOf 161 = .ok (.lcmp, 1) := by decide +kernel
theorem dX6_globalOf_162 : decode cX6_globalOf 162 = .ok (.ifCond .le 5, 3) := by decide +kernel
theorem dX6_globalOf_165 : decode cX6_globalOf 165 = .ok (.iconst 0, 1) := by decide +kernel
theorem dX6_globalOf_166 : decode cX6_globalOf 166 = .ok (.ireturn, 1) := by decide +kernel
theorem dX6_globalOf_167 : decode cX6_globalOf 167 = .ok (.aload_n 0, 1) := by decide +kernel
theorem dX6_globalOf_168 : decode cX6_globalOf 168 = .ok (.ldc2_w 241, 3) := by decide +kernel
theorem dX6_globalOf_171 : decode cX6_globalOf 171 = .ok (.lload 16, 2) := by decide +kernel
theorem dX6_globalOf_173 : decode cX6_globalOf 173 = .ok (.lmul, 1) := by decide +kernel
theorem dX6_globalOf_174 : decode cX6_globalOf 174 = .ok (.ldc2_w 235, 3) := by decide +kernel
theorem dX6_globalOf_177 : decode cX6_globalOf 177 = .ok (.invokevirtual 194, 3) := by decide +kernel
theorem dX6_globalOf_180 : decode cX6_globalOf 180 = .ok (.istore 20, 2) := by decide +kernel
theorem dX6_globalOf_182 : decode cX6_globalOf 182 = .ok (.iload 20, 2) := by decide +kernel
theorem dX6_globalOf_184 : decode cX6_globalOf 184 = .ok (.aload_n 0, 1) := by decide +kernel
theorem dX6_globalOf_185 : decode cX6_globalOf 185 = .ok (.ldc2_w 241, 3) := by decide +kernel
theorem dX6_globalOf_188 : decode cX6_globalOf 188 = .ok (.lload 18, 2) := by decide +kernel
theorem dX6_globalOf_190 : decode cX6_globalOf 190 = .ok (.lmul, 1) := by decide +kernel
theorem dX6_globalOf_191 : decode cX6_globalOf 191 = .ok (.ldc2_w 239, 3) := by decide +kernel
theorem dX6_globalOf_194 : decode cX6_globalOf 194 = .ok (.invokevirtual 194, 3) := by decide +kernel
theorem dX6_globalOf_197 : decode cX6_globalOf 197 = .ok (.if_icmp .eq 5, 3) := by decide +kernel
theorem dX6_globalOf_200 : decode cX6_globalOf 200 = .ok (.iconst 0, 1) := by decide +kernel
theorem dX6_globalOf_201 : decode cX6_globalOf 201 = .ok (.ireturn, 1) := by decide +kernel
theorem dX6_globalOf_202 : decode cX6_globalOf 202 = .ok (.iload 5, 2) := by decide +kernel
theorem dX6_globalOf_204 : decode cX6_globalOf 204 = .ok (.ifCond .eq 10, 3) := by decide +kernel
theorem dX6_globalOf_207 : decode cX6_globalOf 207 = .ok (.iload 20, 2) := by decide +kernel
theorem dX6_globalOf_209 : decode cX6_globalOf 209 = .ok (.iconst 1, 1) := by decide +kernel
theorem dX6_globalOf_210 : decode cX6_globalOf 210 = .ok (.isub, 1) := by decide +kernel
theorem dX6_globalOf_211 : decode cX6_globalOf 211 = .ok (.goto 5, 3) := by decide +kernel
theorem dX6_globalOf_214 : decode cX6_globalOf 214 = .ok (.iload 20, 2) := by decide +kernel
theorem dX6_globalOf_216 : decode cX6_globalOf 216 = .ok (.invokestatic 217, 3) := by decide +kernel
theorem dX6_globalOf_219 : decode cX6_globalOf 219 = .ok (.istore 21, 2) := by decide +kernel
theorem dX6_globalOf_221 : decode cX6_globalOf 221 = .ok (.ldc2_w 198, 3) := by decide +kernel
theorem dX6_globalOf_224 : decode cX6_globalOf 224 = .ok (.lload 10, 2) := by decide +kernel
theorem dX6_globalOf_226 : decode cX6_globalOf 226 = .ok (.iload 20, 2) := by decide +kernel
theorem dX6_globalOf_228 : decode cX6_globalOf 228 = .ok (.iconst 1, 1) := by decide +kernel
theorem dX6_globalOf_229 : decode cX6_globalOf 229 = .ok (.isub, 1) := by decide +kernel
theorem dX6_globalOf_230 : decode cX6_globalOf 230 = .ok (.i2l, 1) := by decide +kernel
theorem dX6_globalOf_231 : decode cX6_globalOf 231 = .ok (.lmul, 1) := by decide +kernel
theorem dX6_globalOf_232 : decode cX6_globalOf 232 = .ok (.lload 12, 2) := by decide +kernel
theorem dX6_globalOf_234 : decode cX6_globalOf 234 = .ok (.iload 20, 2) := by decide +kernel
theorem dX6_globalOf_236 : decode cX6_globalOf 236 = .ok (.i2l, 1) := by decide +kernel
theorem dX6_globalOf_237 : decode cX6_globalOf 237 = .ok (.lmul, 1) := by decide +kernel
theorem dX6_globalOf_238 : decode cX6_globalOf 238 = .ok (.lsub, 1) := by decide +kernel
theorem dX6_globalOf_239 : decode cX6_globalOf 239 = .ok (.lmul, 1) := by decide +kernel
theorem dX6_globalOf_240 : decode cX6_globalOf 240 = .ok (.ldc2_w 200, 3) := by decide +kernel
theorem dX6_globalOf_243 : decode cX6_globalOf 243 = .ok (.ladd, 1) := by decide +kernel
theorem dX6_globalOf_244 : decode cX6_globalOf 244 = .ok (.ldc2_w 229, 3) := by decide +kernel
theorem dX6_globalOf_247 : decode cX6_globalOf 247 = .ok (.invokestatic 202, 3) := by decide +kernel
theorem dX6_globalOf_250 : decode cX6_globalOf 250 = .ok (.lstore 22, 2) := by decide +kernel
theorem dX6_globalOf_252 : decode cX6_globalOf 252 = .ok (.lload 22, 2) := by decide +kernel
theorem dX6_globalOf_254 : decode cX6_globalOf 254 = .ok (.iload 21, 2) := by decide +kernel
theorem dX6_globalOf_256 : decode cX6_globalOf 256 = .ok (.i2l, 1) := by decide +kernel
theorem dX6_globalOf_257 : decode cX6_globalOf 257 = .ok (.invokestatic 176, 3) := by decide +kernel
theorem dX6_globalOf_260 : decode cX6_globalOf 260 = .ok (.ldc2_w 200, 3) := by decide +kernel
theorem dX6_globalOf_263 : decode cX6_globalOf 263 = .ok (.lmul, 1) := by decide +kernel
theorem dX6_globalOf_264 : decode cX6_globalOf 264 = .ok (.iload 5, 2) := by decide +kernel
theorem dX6_globalOf_266 : decode cX6_globalOf 266 = .ok (.ifCond .eq 8, 3) := by decide +kernel
theorem dX6_globalOf_269 : decode cX6_globalOf 269 = .ok (.lload 12, 2) := by decide +kernel
theorem dX6_globalOf_271 : decode cX6_globalOf 271 = .ok (.goto 5, 3) := by decide +kernel
theorem dX6_globalOf_274 : decode cX6_globalOf 274 = .ok (.lload 10, 2) := by decide +kernel
theorem dX6_globalOf_276 : decode cX6_globalOf 276 = .ok (.ladd, 1) := by decide +kernel
theorem dX6_globalOf_277 : decode cX6_globalOf 277 = .ok (.lstore 24, 2) := by decide +kernel
theorem dX6_globalOf_279 : decode cX6_globalOf 279 = .ok (.ldc2_w 198, 3) := by decide +kernel
theorem dX6_globalOf_282 : decode cX6_globalOf 282 = .ok (.lload 24, 2) := by decide +kernel
theorem dX6_globalOf_284 : decode cX6_globalOf 284 = .ok (.lmul, 1) := by decide +kernel
theorem dX6_globalOf_285 : decode cX6_globalOf 285 = .ok (.iload 21, 2) := by decide +kernel
theorem dX6_globalOf_287 : decode cX6_globalOf 287 = .ok (.i2l, 1) := by decide +kernel
theorem dX6_globalOf_288 : decode cX6_globalOf 288 = .ok (.ldc2_w 200, 3) := by decide +kernel
theorem dX6_globalOf_291 : decode cX6_globalOf 291 = .ok (.lmul, 1) := by decide +kernel
theorem dX6_globalOf_292 : decode cX6_globalOf 292 = .ok (.lcmp, 1) := by decide +kernel
theorem dX6_globalOf_293 : decode cX6_globalOf 293 = .ok (.ifCond .lt 15, 3) := by decide +kernel
theorem dX6_globalOf_296 : decode cX6_globalOf 296 = .ok (.lload 24, 2) := by decide +kernel
theorem dX6_globalOf_298 : decode cX6_globalOf 298 = .ok (.iload 21, 2) := by decide +kernel
theorem dX6_globalOf_300 : decode cX6_globalOf 300 = .ok (.i2l, 1) := by decide +kernel
theorem dX6_globalOf_301 : decode cX6_globalOf 301 = .ok (.ldc2_w 200, 3) := by decide +kernel
theorem dX6_globalOf_304 : decode cX6_globalOf 304 = .ok (.lmul, 1) := by decide +kernel
theorem dX6_globalOf_305 : decode cX6_globalOf 305 = .ok (.lsub, 1) := by decide +kernel
theorem dX6_globalOf_306 : decode cX6_globalOf 306 = .ok (.lstore 24, 2) := by decide +kernel
theorem dX6_globalOf_308 : decode cX6_globalOf 308 = .ok (.aload_n 0, 1) := by decide +kernel
theorem dX6_globalOf_309 : decode cX6_globalOf 309 = .ok (.ldc2_w 212, 3) := by decide +kernel
theorem dX6_globalOf_312 : decode cX6_globalOf 312 = .ok (.iload 5, 2) := by decide +kernel
theorem dX6_globalOf_314 : decode cX6_globalOf 314 = .ok (.ifCond .eq 8, 3) := by decide +kernel
theorem dX6_globalOf_317 : decode cX6_globalOf 317 = .ok (.lload 18, 2) := by decide +kernel
theorem dX6_globalOf_319 : decode cX6_globalOf 319 = .ok (.goto 5, 3) := by decide +kernel
theorem dX6_globalOf_322 : decode cX6_globalOf 322 = .ok (.lload 16, 2) := by decide +kernel
theorem dX6_globalOf_324 : decode cX6_globalOf 324 = .ok (.lmul, 1) := by decide +kernel
theorem dX6_globalOf_325 : decode cX6_globalOf 325 = .ok (.iload 5, 2) := by decide +kernel
theorem dX6_globalOf_327 : decode cX6_globalOf 327 = .ok (.ifCond .eq 9, 3) := by decide +kernel
theorem dX6_globalOf_330 : decode cX6_globalOf 330 = .ok (.ldc2_w 225, 3) := by decide +kernel
theorem dX6_globalOf_333 : decode cX6_globalOf 333 = .ok (.goto 6, 3) := by decide +kernel
theorem dX6_globalOf_336 : decode cX6_globalOf 336 = .ok (.ldc2_w 227, 3) := by decide +kernel
theorem dX6_globalOf_339 : decode cX6_globalOf 339 = .ok (.ldc2_w 200, 3) := by decide +kernel
theorem dX6_globalOf_342 : decode cX6_globalOf 342 = .ok (.lmul, 1) := by decide +kernel
theorem dX6_globalOf_343 : decode cX6_globalOf 343 = .ok (.invokestatic 202, 3) := by decide +kernel
theorem dX6_globalOf_346 : decode cX6_globalOf 346 = .ok (.l2i, 1) := by decide +kernel
theorem dX6_globalOf_347 : decode cX6_globalOf 347 = .ok (.putfield 243, 3) := by decide +kernel
theorem dX6_globalOf_350 : decode cX6_globalOf 350 = .ok (.aload_n 0, 1) := by decide +kernel
theorem dX6_globalOf_351 : decode cX6_globalOf 351 = .ok (.ldc2_w 212, 3) := by decide +kernel
theorem dX6_globalOf_354 : decode cX6_globalOf 354 = .ok (.lload 24, 2) := by decide +kernel
theorem dX6_globalOf_356 : decode cX6_globalOf 356 = .ok (.lmul, 1) := by decide +kernel
theorem dX6_globalOf_357 : decode cX6_globalOf 357 = .ok (.iload 21, 2) := by decide +kernel
theorem dX6_globalOf_359 : decode cX6_globalOf 359 = .ok (.i2l, 1) := by decide +kernel
theorem dX6_globalOf_360 : decode cX6_globalOf 360 = .ok (.ldc2_w 200, 3) := by decide +kernel
theorem dX6_globalOf_363 : decode cX6_globalOf 363 = .ok (.lmul, 1) := by decide +kernel
theorem dX6_globalOf_364 : decode cX6_globalOf 364 = .ok (.invokestatic 202, 3) := by decide +kernel
theorem dX6_globalOf_367 : decode cX6_globalOf 367 = .ok (.l2i, 1) := by decide +kernel
theorem dX6_globalOf_368 : decode cX6_globalOf 368 = .ok (.putfield 246, 3) := by decide +kernel
theorem dX6_globalOf_371 : decode cX6_globalOf 371 = .ok (.iconst 1, 1) := by decide +kernel
theorem dX6_globalOf_372 : decode cX6_globalOf 372 = .ok (.ireturn, 1) := by decide +kernel
theorem dX6_global_0 : decode cX6_global 0 = .ok (.aload_n 0, 1) := by decide +kernel
theorem dX6_global_1 : decode cX6_global 1 = .ok (.lload_n 1, 1) := by decide +kernel
theorem dX6_global_2 : decode cX6_global 2 = .ok (.invokevirtual 249, 3) := by decide +kernel
theorem dX6_global_5 : decode cX6_global 5 = .ok (.ifCond .eq 22, 3) := by decide +kernel
theorem dX6_global_8 : decode cX6_global 8 = .ok (.aload_n 0, 1) := by decide +kernel
theorem dX6_global_9 : decode cX6_global 9 = .ok (.lload_n 3, 1) := by decide +kernel
theorem dX6_global_10 : decode cX6_global 10 = .ok (.invokevirtual 249, 3) := by decide +kernel
theorem dX6_global_13 : decode cX6_global 13 = .ok (.ifCond .eq 14, 3) := by decide +kernel
theorem dX6_global_16 : decode cX6_global 16 = .ok (.aload_n 0, 1) := by decide +kernel
theorem dX6_global_17 : decode cX6_global 17 = .ok (.lload_n 1, 1) := by decide +kernel
theorem dX6_global_18 : decode cX6_global 18 = .ok (.lload_n 3, 1) := by decide +kernel
theorem dX6_global_19 : decode cX6_global 19 = .ok (.iload 5, 2) := by decide +kernel
theorem dX6_global_21 : decode cX6_global 21 = .ok (.invokevirtual 253, 3) := by decide +kernel
theorem dX6_global_24 : decode cX6_global 24 = .ok (.ifCond .ne 7, 3) := by decide +kernel
theorem dX6_global_27 : decode cX6_global 27 = .ok (.ldc2_w 257, 3) := by decide +kernel
theorem dX6_global_30 : decode cX6_global 30 = .ok (.lreturn, 1) := by decide +kernel
theorem dX6_global_31 : decode cX6_global 31 = .ok (.aload_n 0, 1) := by decide +kernel
theorem dX6_global_32 : decode cX6_global 32 = .ok (.getfield 243, 3) := by decide +kernel
theorem dX6_global_35 : decode cX6_global 35 = .ok (.aload_n 0, 1) := by decide +kernel
theorem dX6_global_36 : decode cX6_global 36 = .ok (.getfield 246, 3) := by decide +kernel
theorem dX6_global_39 : decode cX6_global 39 = .ok (.invokestatic 259, 3) := by decide +kernel
theorem dX6_global_42 : decode cX6_global 42 = .ok (.lreturn, 1) := by decide +kernel
theorem dX6_nearest_0 : decode cX6_nearest 0 = .ok (.lload_n 0, 1) := by decide +kernel
theorem dX6_nearest_1 : decode cX6_nearest 1 = .ok (.lload_n 2, 1) := by decide +kernel
theorem dX6_nearest_2 : decode cX6_nearest 2 = .ok (.lmul, 1) := by decide +kernel
theorem dX6_nearest_3 : decode cX6_nearest 3 = .ok (.lstore 8, 2) := by decide +kernel
theorem dX6_nearest_5 : decode cX6_nearest 5 = .ok (.lload 8, 2) := by decide +kernel
theorem dX6_nearest_7 : decode cX6_nearest 7 = .ok (.lload 4, 2) := by decide +kernel
theorem dX6_nearest_9 : decode cX6_nearest 9 = .ok (.invokestatic 202, 3) := by decide +kernel
theorem dX6_nearest_12 : decode cX6_nearest 12 = .ok (.lstore 10, 2) := by decide +kernel
theorem dX6_nearest_14 : decode cX6_nearest 14 = .ok (.lload 8, 2) := by decide +kernel
theorem dX6_nearest_16 : decode cX6_nearest 16 = .ok (.lload 4, 2) := by decide +kernel
theorem dX6_nearest_18 : decode cX6_nearest 18 = .ok (.invokestatic 176, 3) := by decide +kernel
theorem dX6_nearest_21 : decode cX6_nearest 21 = .ok (.lstore 12, 2) := by decide +kernel
theorem dX6_nearest_23 : decode cX6_nearest 23 = .ok (.lload 10, 2) := by decide +kernel
theorem dX6_nearest_25 : decode cX6_nearest 25 = .ok (.lload 4, 2) := by decide +kernel
theorem dX6_nearest_27 : decode cX6_nearest 27 = .ok (.ldc2_w 200, 3) := by decide +kernel
theorem dX6_nearest_30 : decode cX6_nearest 30 = .ok (.lmul, 1) := by decide +kernel
theorem dX6_nearest_31 : decode cX6_nearest 31 = .ok (.ldc2_w 198, 3) := by decide +kernel
theorem dX6_nearest_34 : decode cX6_nearest 34 = .ok (.lload 12, 2) := by decide +kernel
theorem dX6_nearest_36 : decode cX6_nearest 36 = .ok (.lmul, 1) := by decide +kernel
theorem dX6_nearest_37 : decode cX6_nearest 37 = .ok (.ldc2_w 200, 3) := by decide +kernel
theorem dX6_nearest_40 : decode cX6_nearest 40 = .ok (.lmul, 1) := by decide +kernel
theorem dX6_nearest_41 : decode cX6_nearest 41 = .ok (.ladd, 1) := by decide +kernel
theorem dX6_nearest_42 : decode cX6_nearest 42 = .ok (.ldc2_w 198, 3) := by decide +kernel
theorem dX6_nearest_45 : decode cX6_nearest 45 = .ok (.lload 6, 2) := by decide +kernel
theorem dX6_nearest_47 : decode cX6_nearest 47 = .ok (.lmul, 1) := by decide +kernel
theorem dX6_nearest_48 : decode cX6_nearest 48 = .ok (.lload 4, 2) := by decide +kernel
theorem dX6_nearest_50 : decode cX6_nearest 50 = .ok (.lmul, 1) := by decide +kernel
theorem dX6_nearest_51 : decode cX6_nearest 51 = .ok (.lsub, 1) := by decide +kernel
theorem dX6_nearest_52 : decode cX6_nearest 52 = .ok (.ldc2_w 198, 3) := by decide +kernel
theorem dX6_nearest_55 : decode cX6_nearest 55 = .ok (.lload 4, 2) := by decide +kernel
theorem dX6_nearest_57 : decode cX6_nearest 57 = .ok (.lmul, 1) := by decide +kernel
theorem dX6_nearest_58 : decode cX6_nearest 58 = .ok (.ldc2_w 200, 3) := by decide +kernel
theorem dX6_nearest_61 : decode cX6_nearest 61 = .ok (.lmul, 1) := by decide +kernel
theorem dX6_nearest_62 : decode cX6_nearest 62 = .ok (.invokestatic 202, 3) := by decide +kernel
theorem dX6_nearest_65 : decode cX6_nearest 65 = .ok (.ladd, 1) := by decide +kernel
theorem dX6_nearest_66 : decode cX6_nearest 66 = .ok (.lstore 10, 2) := by decide +kernel
theorem dX6_nearest_68 : decode cX6_nearest 68 = .ok (.lload 10, 2) := by decide +kernel
theorem dX6_nearest_70 : decode cX6_nearest 70 = .ok (.ldc2_w 200, 3) := by decide +kernel
theorem dX6_nearest_73 : decode cX6_nearest 73 = .ok (.lmul, 1) := by decide +kernel
theorem dX6_nearest_74 : decode cX6_nearest 74 = .ok (.lload 6, 2) := by decide +kernel
theorem dX6_nearest_76 : decode cX6_nearest 76 = .ok (.ladd, 1) := by decide +kernel
theorem dX6_nearest_77 : decode cX6_nearest 77 = .ok (.lreturn, 1) := by decide +kernel
theorem dX6_localOf_0 : decode cX6_localOf 0 = .ok (.iload_n 3, 1) := by decide +kernel
theorem dX6_localOf_1 : decode cX6_localOf 1 = .ok (.ifCond .eq 9, 3) := by decide +kernel
theorem dX6_localOf_4 : decode cX6_localOf 4 = .ok (.ldc2_w 210, 3) := by decide +kernel
theorem dX6_localOf_7 : decode cX6_localOf 7 = .ok (.goto 6, 3) := by decide +kernel
theorem dX6_localOf_10 : decode cX6_localOf 10 = .ok (.ldc2_w 212, 3) := by decide +kernel
theorem dX6_localOf_13 : decode cX6_localOf 13 = .ok (.lstore 7, 2) := by decide +kernel
theorem dX6_localOf_15 : decode cX6_localOf 15 = .ok (.lload_n 1, 1) := by decide +kernel
theorem dX6_localOf_16 : decode cX6_localOf 16 = .ok (.ldc2_w 200, 3) := by decide +kernel
theorem dX6_localOf_19 : decode cX6_localOf 19 = .ok (.ldiv, 1) := by decide +kernel
theorem dX6_localOf_20 : decode cX6_localOf 20 = .ok (.lstore 9, 2) := by decide +kernel
theorem dX6_localOf_22 : decode cX6_localOf 22 = .ok (.lload_n 1, 1) := by decide +kernel
theorem dX6_localOf_23 : decode cX6_localOf 23 = .ok (.ldc2_w 200, 3) := by decide +kernel
theorem dX6_localOf_26 : decode cX6_localOf 26 = .ok (.lrem, 1) := by decide +kernel
theorem dX6_localOf_27 : decode cX6_localOf 27 = .ok (.lstore 11, 2) := by decide +kernel
theorem dX6_localOf_29 : decode cX6_localOf 29 = .ok (.iload 4, 2) := by decide +kernel
theorem dX6_localOf_31 : decode cX6_localOf 31 = .ok (.ifCond .eq 9, 3) := by decide +kernel
theorem dX6_localOf_34 : decode cX6_localOf 34 = .ok (.ldc2_w 225, 3) := by decide +kernel
theorem dX6_localOf_37 : decode cX6_localOf 37 = .ok (.goto 6, 3) := by decide +kernel
theorem dX6_localOf_40 : decode cX6_localOf 40 = .ok (.ldc2_w 227, 3) := by decide +kernel
theorem dX6_localOf_43 : decode cX6_localOf 43 = .ok (.lstore 13, 2) := by decide +kernel
theorem dX6_localOf_45 : decode cX6_localOf 45 = .ok (.iload 5, 2) := by decide +kernel
theorem dX6_localOf_47 : decode cX6_localOf 47 = .ok (.i2l, 1) := by decide +kernel
theorem dX6_localOf_48 : decode cX6_localOf 48 = .ok (.lload 13, 2) := by decide +kernel
theorem dX6_localOf_50 : decode cX6_localOf 50 = .ok (.lload 7, 2) := by decide +kernel
theorem dX6_localOf_52 : decode cX6_localOf 52 = .ok (.lload 9, 2) := by decide +kernel
theorem dX6_localOf_54 : decode cX6_localOf 54 = .ok (.invokestatic 263, 3) := by decide +kernel
theorem dX6_localOf_57 : decode cX6_localOf 57 = .ok (.lstore 15, 2) := by decide +kernel
theorem dX6_localOf_59 : decode cX6_localOf 59 = .ok (.lload 15, 2) := by decide +kernel
theorem dX6_localOf_61 : decode cX6_localOf 61 = .ok (.invokestatic 180, 3) := by decide +kernel
theorem dX6_localOf_64 : decode cX6_localOf 64 = .ok (.lload 7, 2) := by decide +kernel
theorem dX6_localOf_66 : decode cX6_localOf 66 = .ok (.lmul, 1) := by decide +kernel
theorem dX6_localOf_67 : decode cX6_localOf 67 = .ok (.ldc2_w 210, 3) := by decide +kernel
theorem dX6_localOf_70 : decode cX6_localOf 70 = .ok (.lload 13, 2) := by decide +kernel
theorem dX6_localOf_72 : decode cX6_localOf 72 = .ok (.lmul, 1) := by decide +kernel
theorem dX6_localOf_73 : decode cX6_localOf 73 = .ok (.ldc2_w 200, 3) := by decide +kernel
theorem dX6_localOf_76 : decode cX6_localOf 76 = .ok (.lmul, 1) := by decide +kernel
theorem dX6_localOf_77 : decode cX6_localOf 77 = .ok (.lcmp, 1) := by decide +kernel
theorem dX6_localOf_78 : decode cX6_localOf 78 = .ok (.ifCond .le 5, 3) := by decide +kernel
theorem dX6_localOf_81 : decode cX6_localOf 81 = .ok (.iconst 0, 1) := by decide +kernel
theorem dX6_localOf_82 : decode cX6_localOf 82 = .ok (.ireturn, 1) := by decide +kernel
theorem dX6_localOf_83 : decode cX6_localOf 83 = .ok (.aload_n 0, 1) := by decide +kernel
theorem dX6_localOf_84 : decode cX6_localOf 84 = .ok (.ldc2_w 192, 3) := by decide +kernel
theorem dX6_localOf_87 : decode cX6_localOf 87 = .ok (.lload 7, 2) := by decide +kernel
theorem dX6_localOf_89 : decode cX6_localOf 89 = .ok (.lmul, 1) := by decide +kernel
theorem dX6_localOf_90 : decode cX6_localOf 90 = .ok (.lload 15, 2) := by decide +kernel
theorem dX6_localOf_92 : decode cX6_localOf 92 = .ok (.lmul, 1) := by decide +kernel
theorem dX6_localOf_93 : decode cX6_localOf 93 = .ok (.lload 13, 2) := by decide +kernel
theorem dX6_localOf_95 : decode cX6_localOf 95 = .ok (.ldc2_w 200, 3) := by decide +kernel
theorem dX6_localOf_98 : decode cX6_localOf 98 = .ok (.lmul, 1) := by decide +kernel
theorem dX6_localOf_99 : decode cX6_localOf 99 = .ok (.invokevirtual 194, 3) := by decide +kernel
theorem dX6_localOf_102 : decode cX6_localOf 102 = .ok (.iload 4, 2) := by decide +kernel
theorem dX6_localOf_104 : decode cX6_localOf 104 = .ok (.ifCond .eq 7, 3) := by decide +kernel
theorem dX6_localOf_107 : decode cX6_localOf 107 = .ok (.iconst 1, 1) := by decide +kernel
theorem dX6_localOf_108 : decode cX6_localOf 108 = .ok (.goto 4, 3) := by decide +kernel
theorem dX6_localOf_111 : decode cX6_localOf 111 = .ok (.iconst 0, 1) := by decide +kernel
theorem dX6_localOf_112 : decode cX6_localOf 112 = .ok (.isub, 1) := by decide +kernel
theorem dX6_localOf_113 : decode cX6_localOf 113 = .ok (.invokestatic 217, 3) := by decide +kernel
theorem dX6_localOf_116 : decode cX6_localOf 116 = .ok (.istore 17, 2) := by decide +kernel
theorem dX6_localOf_118 : decode cX6_localOf 118 = .ok (.lload 7, 2) := by decide +kernel
theorem dX6_localOf_120 : decode cX6_localOf 120 = .ok (.iload 6, 2) := by decide +kernel
theorem dX6_localOf_122 : decode cX6_localOf 122 = .ok (.i2l, 1) := by decide +kernel
theorem dX6_localOf_123 : decode cX6_localOf 123 = .ok (.iload 17, 2) := by decide +kernel
theorem dX6_localOf_125 : decode cX6_localOf 125 = .ok (.i2l, 1) := by decide +kernel
theorem dX6_localOf_126 : decode cX6_localOf 126 = .ok (.lload 7, 2) := by decide +kernel
theorem dX6_localOf_128 : decode cX6_localOf 128 = .ok (.lload 11, 2) := by decide +kernel
theorem dX6_localOf_130 : decode cX6_localOf 130 = .ok (.invokestatic 263, 3) := by decide +kernel
theorem dX6_localOf_133 : decode cX6_localOf 133 = .ok (.lmul, 1) := by decide +kernel
theorem dX6_localOf_134 : decode cX6_localOf 134 = .ok (.lstore 18, 2) := by decide +kernel
theorem dX6_localOf_136 : decode cX6_localOf 136 = .ok (.ldc2_w 212, 3) := by decide +kernel
theorem dX6_localOf_139 : decode cX6_localOf 139 = .ok (.iload 17, 2) := by decide +kernel
theorem dX6_localOf_141 : decode cX6_localOf 141 = .ok (.i2l, 1) := by decide +kernel
theorem dX6_localOf_142 : decode cX6_localOf 142 = .ok (.lmul, 1) := by decide +kernel
theorem dX6_localOf_143 : decode cX6_localOf 143 = .ok (.ldc2_w 200, 3) := by decide +kernel
theorem dX6_localOf_146 : decode cX6_localOf 146 = .ok (.lmul, 1) := by decide +kernel
theorem dX6_localOf_147 : decode cX6_localOf 147 = .ok (.lstore 20, 2) := by decide +kernel
theorem dX6_localOf_149 : decode cX6_localOf 149 = .ok (.ldc2_w 198, 3) := by decide +kernel
theorem dX6_localOf_152 : decode cX6_localOf 152 = .ok (.lload 18, 2) := by decide +kernel
theorem dX6_localOf_154 : decode cX6_localOf 154 = .ok (.lmul, 1) := by decide +kernel
theorem dX6_localOf_155 : decode cX6_localOf 155 = .ok (.lload 20, 2) := by decide +kernel
theorem dX6_localOf_157 : decode cX6_localOf 157 = .ok (.lcmp, 1) := by decide +kernel
theorem dX6_localOf_158 : decode cX6_localOf 158 = .ok (.ifCond .lt 13, 3) := by decide +kernel
theorem dX6_localOf_161 : decode cX6_localOf 161 = .ok (.lload 18, 2) := by decide +kernel
theorem dX6_localOf_163 : decode cX6_localOf 163 = .ok (.lload 20, 2) := by decide +kernel
theorem dX6_localOf_165 : decode cX6_localOf 165 = .ok (.lsub, 1) := by decide +kernel
theorem dX6_localOf_166 : decode cX6_localOf 166 = .ok (.lstore 18, 2) := by decide +kernel
theorem dX6_localOf_168 : decode cX6_localOf 168 = .ok (.goto (-19), 3) := by decide +kernel
theorem dX6_localOf_171 : decode cX6_localOf 171 = .ok (.ldc2_w 198, 3) := by decide +kernel
theorem dX6_localOf_174 : decode cX6_localOf 174 = .ok (.lload 18, 2) := by decide +kernel
theorem dX6_localOf_176 : decode cX6_localOf 176 = .ok (.lmul, 1) := by decide +kernel
theorem dX6_localOf_177 : decode cX6_localOf 177 = .ok (.lload 20, 2) := by decide +kernel
theorem dX6_localOf_179 : decode cX6_localOf 179 = .ok (.lneg, 1) := by decide +kernel
theorem dX6_localOf_180 : decode cX6_localOf 180 = .ok (.lcmp, 1) := by decide +kernel
theorem dX6_localOf_181 : decode cX6_localOf 181 = .ok (.ifCond .ge 13, 3) := by decide +kernel
theorem dX6_localOf_184 : decode cX6_localOf 184 = .ok (.lload 18, 2) := by decide +kernel
theorem dX6_localOf_186 : decode cX6_localOf 186 = .ok (.lload 20, 2) := by decide +kernel
theorem dX6_localOf_188 : decode cX6_localOf 188 = .ok (.ladd, 1) := by decide +kernel
theorem dX6_localOf_189 : decode cX6_localOf 189 = .ok (.lstore 18, 2) := by decide +kernel
theorem dX6_localOf_191 : decode cX6_localOf 191 = .ok (.goto (-20), 3) := by decide +kernel
theorem dX6_localOf_194 : decode cX6_localOf 194 = .ok (.aload_n 0, 1) := by decide +kernel
theorem dX6_localOf_195 : decode cX6_localOf 195 = .ok (.lload 7, 2) := by decide +kernel
theorem dX6_localOf_197 : decode cX6_localOf 197 = .ok (.lload 15, 2) := by decide +kernel
theorem dX6_localOf_199 : decode cX6_localOf 199 = .ok (.lmul, 1) := by decide +kernel
theorem dX6_localOf_200 : decode cX6_localOf 200 = .ok (.lload 13, 2) := by decide +kernel
theorem dX6_localOf_202 : decode cX6_localOf 202 = .ok (.ldc2_w 200, 3) := by decide +kernel
theorem dX6_localOf_205 : decode cX6_localOf 205 = .ok (.lmul, 1) := by decide +kernel
theorem dX6_localOf_206 : decode cX6_localOf 206 = .ok (.invokestatic 202, 3) := by decide +kernel
theorem dX6_localOf_209 : decode cX6_localOf 209 = .ok (.l2i, 1) := by decide +kernel
theorem dX6_localOf_210 : decode cX6_localOf 210 = .ok (.putfield 243, 3) := by decide +kernel
theorem dX6_localOf_213 : decode cX6_localOf 213 = .ok (.aload_n 0, 1) := by decide +kernel
theorem dX6_localOf_214 : decode cX6_localOf 214 = .ok (.lload 18, 2) := by decide +kernel
theorem dX6_localOf_216 : decode cX6_localOf 216 = .ok (.iload 17, 2) := by decide +kernel
theorem dX6_localOf_218 : decode cX6_localOf 218 = .ok (.i2l, 1) := by decide +kernel
theorem dX6_localOf_219 : decode cX6_localOf 219 = .ok (.ldc2_w 200, 3) := by decide +kernel
theorem dX6_localOf_222 : decode cX6_localOf 222 = .ok (.lmul, 1) := by decide +kernel
theorem dX6_localOf_223 : decode cX6_localOf 223 = .ok (.invokestatic 202, 3) := by decide +kernel
theorem dX6_localOf_226 : decode cX6_localOf 226 = .ok (.l2i, 1) := by decide +kernel
theorem dX6_localOf_227 : decode cX6_localOf 227 = .ok (.putfield 246, 3) := by decide +kernel
theorem dX6_localOf_230 : decode cX6_localOf 230 = .ok (.iconst 1, 1) := by decide +kernel
theorem dX6_localOf_231 : decode cX6_localOf 231 = .ok (.ireturn, 1) := by decide +kernel
theorem dX6_local_0 : decode cX6_local 0 = .ok (.aload_n 0, 1) := by decide +kernel
theorem dX6_local_1 : decode cX6_local 1 = .ok (.lload_n 1, 1) := by decide +kernel
theorem dX6_local_2 : decode cX6_local 2 = .ok (.invokevirtual 249, 3) := by decide +kernel
theorem dX6_local_5 : decode cX6_local 5 = .ok (.ifCond .eq 34, 3) := by decide +kernel
theorem dX6_local_8 : decode cX6_local 8 = .ok (.iload 5, 2) := by decide +kernel
theorem dX6_local_10 : decode cX6_local 10 = .ok (.invokestatic 188, 3) := by decide +kernel
theorem dX6_local_13 : decode cX6_local 13 = .ok (.ifCond .eq 26, 3) := by decide +kernel
theorem dX6_local_16 : decode cX6_local 16 = .ok (.iload 6, 2) := by decide +kernel
theorem dX6_local_18 : decode cX6_local 18 = .ok (.invokestatic 205, 3) := by decide +kernel
theorem dX6_local_21 : decode cX6_local 21 = .ok (.ifCond .eq 18, 3) := by decide +kernel
theorem dX6_local_24 : decode cX6_local 24 = .ok (.aload_n 0, 1) := by decide +kernel
theorem dX6_local_25 : decode cX6_local 25 = .ok (.lload_n 1, 1) := by decide +kernel
theorem dX6_local_26 : decode cX6_local 26 = .ok (.iload_n 3, 1) := by decide +kernel
theorem dX6_local_27 : decode cX6_local 27 = .ok (.iload 4, 2) := by decide +kernel
theorem dX6_local_29 : decode cX6_local 29 = .ok (.iload 5, 2) := by decide +kernel
theorem dX6_local_31 : decode cX6_local 31 = .ok (.iload 6, 2) := by decide +kernel
theorem dX6_local_33 : decode cX6_local 33 = .ok (.invokevirtual 267, 3) := by decide +kernel
theorem dX6_local_36 : decode cX6_local 36 = .ok (.ifCond .ne 7, 3) := by decide +kernel
theorem dX6_local_39 : decode cX6_local 39 = .ok (.ldc2_w 257, 3) := by decide +kernel
theorem dX6_local_42 : decode cX6_local 42 = .ok (.lreturn, 1) := by decide +kernel
theorem dX6_local_43 : decode cX6_local 43 = .ok (.aload_n 0, 1) := by decide +kernel
theorem dX6_local_44 : decode cX6_local 44 = .ok (.getfield 243, 3) := by decide +kernel
theorem dX6_local_47 : decode cX6_local 47 = .ok (.aload_n 0, 1) := by decide +kernel
theorem dX6_local_48 : decode cX6_local 48 = .ok (.getfield 246, 3) := by decide +kernel
theorem dX6_local_51 : decode cX6_local 51 = .ok (.invokestatic 259, 3) := by decide +kernel
theorem dX6_local_54 : decode cX6_local 54 = .ok (.lreturn, 1) := by decide +kernel
theorem dX6_place_0 : decode cX6_place 0 = .ok (.iload_n 1, 1) := by decide +kernel
theorem dX6_place_1 : decode cX6_place 1 = .ok (.invokestatic 188, 3) := by decide +kernel
theorem dX6_place_4 : decode cX6_place 4 = .ok (.ifCond .eq 10, 3) := by decide +kernel
theorem dX6_place_7 : decode cX6_place 7 = .ok (.iload_n 2, 1) := by decide +kernel
theorem dX6_place_8 : decode cX6_place 8 = .ok (.invokestatic 205, 3) := by decide +kernel
theorem dX6_place_11 : decode cX6_place 11 = .ok (.ifCond .ne 5, 3) := by decide +kernel
theorem dX6_place_14 : decode cX6_place 14 = .ok (.iconst 0, 1) := by decide +kernel
theorem dX6_place_15 : decode cX6_place 15 = .ok (.ireturn, 1) := by decide +kernel
theorem dX6_place_16 : decode cX6_place 16 = .ok (.aload_n 0, 1) := by decide +kernel
theorem dX6_place_17 : decode cX6_place 17 = .ok (.iconst 1, 1) := by decide +kernel
theorem dX6_place_18 : decode cX6_place 18 = .ok (.putfield 271, 3) := by decide +kernel
theorem dX6_place_21 : decode cX6_place 21 = .ok (.aload_n 0, 1) := by decide +kernel
theorem dX6_place_22 : decode cX6_place 22 = .ok (.iload_n 1, 1) := by decide +kernel
theorem dX6_place_23 : decode cX6_place 23 = .ok (.putfield 275, 3) := by decide +kernel
theorem dX6_place_26 : decode cX6_place 26 = .ok (.aload_n 0, 1) := by decide +kernel
theorem dX6_place_27 : decode cX6_place 27 = .ok (.iload_n 2, 1) := by decide +kernel
theorem dX6_place_28 : decode cX6_place 28 = .ok (.putfield 278, 3) := by decide +kernel
theorem dX6_place_31 : decode cX6_place 31 = .ok (.iconst 1, 1) := by decide +kernel
theorem dX6_place_32 : decode cX6_place 32 = .ok (.ireturn, 1) := by decide +kernel
theorem dX6_isKnown_0 : decode cX6_isKnown 0 = .ok (.iload_n 0, 1) := by decide +kernel
theorem dX6_isKnown_1 : decode cX6_isKnown 1 = .ok (.ifCond .eq 49, 3) := by decide +kernel
theorem dX6_isKnown_4 : decode cX6_isKnown 4 = .ok (.iload_n 0, 1) := by decide +kernel
theorem dX6_isKnown_5 : decode cX6_isKnown 5 = .ok (.iconst 4, 1) := by decide +kernel
theorem dX6_isKnown_6 : decode cX6_isKnown 6 = .ok (.if_icmp .eq 44, 3) := by decide +kernel
theorem dX6_isKnown_9 : decode cX6_isKnown 9 = .ok (.iload_n 0, 1) := by decide +kernel
theorem dX6_isKnown_10 : decode cX6_isKnown 10 = .ok (.iconst 5, 1) := by decide +kernel
theorem dX6_isKnown_11 : decode cX6_isKnown 11 = .ok (.if_icmp .eq 39, 3) := by decide +kernel
theorem dX6_isKnown_14 : decode cX6_isKnown 14 = .ok (.iload_n 0, 1) := by decide +kernel
theorem dX6_isKnown_15 : decode cX6_isKnown 15 = .ok (.bipush 11, 2) := by decide +kernel
theorem dX6_isKnown_17 : decode cX6_isKnown 17 = .ok (.if_icmp .eq 33, 3) := by decide +kernel
theorem dX6_isKnown_20 : decode cX6_isKnown 20 = .ok (.iload_n 0, 1) := by decide +kernel
theorem dX6_isKnown_21 : decode cX6_isKnown 21 = .ok (.bipush 16, 2) := by decide +kernel
theorem dX6_isKnown_23 : decode cX6_isKnown 23 = .ok (.if_icmp .eq 27, 3) := by decide +kernel
theorem dX6_isKnown_26 : decode cX6_isKnown 26 = .ok (.iload_n 0, 1) := by decide +kernel
theorem dX6_isKnown_27 : decode cX6_isKnown 27 = .ok (.bipush 17, 2) := by decide +kernel
theorem dX6_isKnown_29 : decode cX6_isKnown 29 = .ok (.if_icmp .eq 21, 3) := by decide +kernel
theorem dX6_isKnown_32 : decode cX6_isKnown 32 = .ok (.iload_n 0, 1) := by decide +kernel
theorem dX6_isKnown_33 : decode cX6_isKnown 33 = .ok (.bipush 18, 2) := by decide +kernel
theorem dX6_isKnown_35 : decode cX6_isKnown 35 = .ok (.if_icmp .eq 15, 3) := by decide +kernel
theorem dX6_isKnown_38 : decode cX6_isKnown 38 = .ok (.iload_n 0, 1) := by decide +kernel
theorem dX6_isKnown_39 : decode cX6_isKnown 39 = .ok (.bipush 20, 2) := by decide +kernel
theorem dX6_isKnown_41 : decode cX6_isKnown 41 = .ok (.if_icmp .eq 9, 3) := by decide +kernel
theorem dX6_isKnown_44 : decode cX6_isKnown 44 = .ok (.iload_n 0, 1) := by decide +kernel
theorem dX6_isKnown_45 : decode cX6_isKnown 45 = .ok (.bipush 21, 2) := by decide +kernel
theorem dX6_isKnown_47 : decode cX6_isKnown 47 = .ok (.if_icmp .ne 7, 3) := by decide +kernel
theorem dX6_isKnown_50 : decode cX6_isKnown 50 = .ok (.iconst 1, 1) := by decide +kernel
theorem dX6_isKnown_51 : decode cX6_isKnown 51 = .ok (.goto 4, 3) := by decide +kernel
theorem dX6_isKnown_54 : decode cX6_isKnown 54 = .ok (.iconst 0, 1) := by decide +kernel
theorem dX6_isKnown_55 : decode cX6_isKnown 55 = .ok (.ireturn, 1) := by decide +kernel
theorem dX6_isSquitter_0 : decode cX6_isSquitter 0 = .ok (.iload_n 0, 1) := by decide +kernel
theorem dX6_isSquitter_1 : decode cX6_isSquitter 1 = .ok (.bipush 11, 2) := by decide +kernel
theorem dX6_isSquitter_3 : decode cX6_isSquitter 3 = .ok (.if_icmp .eq 15, 3) := by decide +kernel
theorem dX6_isSquitter_6 : decode cX6_isSquitter 6 = .ok (.iload_n 0, 1) := by decide +kernel
theorem dX6_isSquitter_7 : decode cX6_isSquitter 7 = .ok (.bipush 17, 2) := by decide +kernel
theorem dX6_isSquitter_9 : decode cX6_isSquitter 9 = .ok (.if_icmp .eq 9, 3) := by decide +kernel
theorem dX6_isSquitter_12 : decode cX6_isSquitter 12 = .ok (.iload_n 0, 1) := by decide +kernel
theorem dX6_isSquitter_13 : decode cX6_isSquitter 13 = .ok (.bipush 18, 2) := by decide +kernel
theorem dX6_isSquitter_15 : decode cX6_isSquitter 15 = .ok (.if_icmp .ne 7, 3) := by decide +kernel
theorem dX6_isSquitter_18 : decode cX6_isSquitter 18 = .ok (.iconst 1, 1) := by decide +kernel
theorem dX6_isSquitter_19 : decode cX6_isSquitter 19 = .ok (.goto 4, 3) := by decide +kernel
theorem dX6_isSquitter_22 : decode cX6_isSquitter 22 = .ok (.iconst 0, 1) := by decide +kernel
theorem dX6_isSquitter_23 : decode cX6_isSquitter 23 = .ok (.ireturn, 1) := by decide +kernel
theorem dX6_at_0 : decode cX6_at 0 = .ok (.bipush 40, 2) := by decide +kernel
theorem dX6_at_2 : decode cX6_at 2 = .ok (.iload_n 1, 1) := by decide +kernel
theorem dX6_at_3 : decode cX6_at 3 = .ok (.imul, 1) := by decide +kernel
theorem dX6_at_4 : decode cX6_at 4 = .ok (.iload_n 2, 1) := by decide +kernel
theorem dX6_at_5 : decode cX6_at 5 = .ok (.iadd, 1) := by decide +kernel
theorem dX6_at_6 : decode cX6_at 6 = .ok (.ireturn, 1) := by decide +kernel
theorem dX6_ages_0 : decode cX6_ages 0 = .ok (.iconst 0, 1) := by decide +kernel
theorem dX6_ages_1 : decode cX6_ages 1 = .ok (.istore_n 2, 1) := by decide +kernel
theorem dX6_ages_2 : decode cX6_ages 2 = .ok (.iconst 0, 1) := by decide +kernel
theorem dX6_ages_3 : decode cX6_ages 3 = .ok (.istore_n 3, 1) := by decide +kernel
theorem dX6_ages_4 : decode cX6_ages 4 = .ok (.iload_n 3, 1) := by decide +kernel
theorem dX6_ages_5 : decode cX6_ages 5 = .ok (.aload_n 0, 1) := by decide +kernel
theorem dX6_ages_6 : decode cX6_ages 6 = .ok (.getfield 281, 3) := by decide +kernel
theorem dX6_ages_9 : decode cX6_ages 9 = .ok (.if_icmp .ge 74, 3) := by decide +kernel
theorem dX6_ages_12 : decode cX6_ages 12 = .ok (.iload_n 1, 1) := by decide +kernel
theorem dX6_ages_13 : decode cX6_ages 13 = .ok (.aload_n 0, 1) := by decide +kernel
theorem dX6_ages_14 : decode cX6_ages 14 = .ok (.getfield 129, 3) := by decide +kernel
theorem dX6_ages_17 : decode cX6_ages 17 = .ok (.aload_n 0, 1) := by decide +kernel
theorem dX6_ages_18 : decode cX6_ages 18 = .ok (.iload_n 3, 1) := by decide +kernel
theorem dX6_ages_19 : decode cX6_ages 19 = .ok (.iconst 1, 1) := by decide +kernel
theorem dX6_ages_20 : decode cX6_ages 20 = .ok (.invokevirtual 284, 3) := by decide +kernel
theorem dX6_ages_23 : decode cX6_ages 23 = .ok (.iaload, 1) := by decide +kernel
theorem dX6_ages_24 : decode cX6_ages 24 = .ok (.isub, 1) := by decide +kernel
theorem dX6_ages_25 : decode cX6_ages 25 = .ok (.sipush 600, 3) := by decide +kernel
theorem dX6_ages_28 : decode cX6_ages 28 = .ok (.if_icmp .le 6, 3) := by decide +kernel
theorem dX6_ages_31 : decode cX6_ages 31 = .ok (.goto 46, 3) := by decide +kernel
theorem dX6_ages_34 : decode cX6_ages 34 = .ok (.iconst 0, 1) := by decide +kernel
theorem dX6_ages_35 : decode cX6_ages 35 = .ok (.istore 4, 2) := by decide +kernel
theorem dX6_ages_37 : decode cX6_ages 37 = .ok (.iload 4, 2) := by decide +kernel
theorem dX6_ages_39 : decode cX6_ages 39 = .ok (.bipush 40, 2) := by decide +kernel
theorem dX6_ages_41 : decode cX6_ages 41 = .ok (.if_icmp .ge 33, 3) := by decide +kernel
theorem dX6_ages_44 : decode cX6_ages 44 = .ok (.aload_n 0, 1) := by decide +kernel
theorem dX6_ages_45 : decode cX6_ages 45 = .ok (.getfield 129, 3) := by decide +kernel
theorem dX6_ages_48 : decode cX6_ages 48 = .ok (.aload_n 0, 1) := by decide +kernel
theorem dX6_ages_49 : decode cX6_ages 49 = .ok (.iload_n 2, 1) := by decide +kernel
theorem dX6_ages_50 : decode cX6_ages 50 = .ok (.iload 4, 2) := by decide +kernel
theorem dX6_ages_52 : decode cX6_ages 52 = .ok (.invokevirtual 284, 3) := by decide +kernel
theorem dX6_ages_55 : decode cX6_ages 55 = .ok (.aload_n 0, 1) := by decide +kernel
theorem dX6_ages_56 : decode cX6_ages 56 = .ok (.getfield 129, 3) := by decide +kernel
theorem dX6_ages_59 : decode cX6_ages 59 = .ok (.aload_n 0, 1) := by decide +kernel
theorem dX6_ages_60 : decode cX6_ages 60 = .ok (.iload_n 3, 1) := by decide +kernel
theorem dX6_ages_61 : decode cX6_ages 61 = .ok (.iload 4, 2) := by decide +kernel
theorem dX6_ages_63 : decode cX6_ages 63 = .ok (.invokevirtual 284, 3) := by decide +kernel
theorem dX6_ages_66 : decode cX6_ages 66 = .ok (.iaload, 1) := by decide +kernel
theorem dX6_ages_67 : decode cX6_ages 67 = .ok (.iastore, 1) := by decide +kernel
theorem dX6_ages_68 : decode cX6_ages 68 = .ok (.iinc 4 1, 3) := by decide +kernel
theorem dX6_ages_71 : decode cX6_ages 71 = .ok (.goto (-34), 3) := by decide +kernel
theorem dX6_ages_74 : decode cX6_ages 74 = .ok (.iinc 2 1, 3) := by decide +kernel
theorem dX6_ages_77 : decode cX6_ages 77 = .ok (.iinc 3 1, 3) := by decide +kernel
theorem dX6_ages_80 : decode cX6_ages 80 = .ok (.goto (-76), 3) := by decide +kernel
theorem dX6_ages_83 : decode cX6_ages 83 = .ok (.aload_n 0, 1) := by decide +kernel
theorem dX6_ages_84 : decode cX6_ages 84 = .ok (.iload_n 2, 1) := by decide +kernel
theorem dX6_ages_85 : decode cX6_ages 85 = .ok (.putfield 281, 3) := by decide +kernel
theorem dX6_ages_88 : decode cX6_ages 88 = .ok (.return_, 1) := by decide +kernel
theorem dX6_find_0 : decode cX6_find 0 = .ok (.iconst (-1), 1) := by decide +kernel
theorem dX6_find_1 : decode cX6_find 1 = .ok (.istore_n 2, 1) := by decide +kernel
theorem dX6_find_2 : decode cX6_find 2 = .ok (.iconst 0, 1) := by decide +kernel
theorem dX6_find_3 : decode cX6_find 3 = .ok (.istore_n 3, 1) := by decide +kernel
theorem dX6_find_4 : decode cX6_find 4 = .ok (.iload_n 3, 1) := by decide +kernel
theorem dX6_find_5 : decode cX6_find 5 = .ok (.aload_n 0, 1) := by decide +kernel
theorem dX6_find_6 : decode cX6_find 6 = .ok (.getfield 281, 3) := by decide +kernel
theorem dX6_find_9 : decode cX6_find 9 = .ok (.if_icmp .ge 30, 3) := by decide +kernel
theorem dX6_find_12 : decode cX6_find 12 = .ok (.aload_n 0, 1) := by decide +kernel
theorem dX6_find_13 : decode cX6_find 13 = .ok (.getfield 129, 3) := by decide +kernel
theorem dX6_find_16 : decode cX6_find 16 = .ok (.aload_n 0, 1) := by decide +kernel
theorem dX6_find_17 : decode cX6_find 17 = .ok (.iload_n 3, 1) := by decide +kernel
theorem dX6_find_18 : decode cX6_find 18 = .ok (.iconst 0, 1) := by decide +kernel
theorem dX6_find_19 : decode cX6_find 19 = .ok (.invokevirtual 284, 3) := by decide +kernel
theorem dX6_find_22 : decode cX6_find 22 = .ok (.iaload, 1) := by decide +kernel
theorem dX6_find_23 : decode cX6_find 23 = .ok (.iload_n 1, 1) := by decide +kernel
theorem dX6_find_24 : decode cX6_find 24 = .ok (.if_icmp .ne 7, 3) := by decide +kernel
theorem dX6_find_27 : decode cX6_find 27 = .ok (.iload_n 3, 1) := by decide +kernel
theorem dX6_find_28 : decode cX6_find 28 = .ok (.goto 4, 3) := by decide +kernel
theorem dX6_find_31 : decode cX6_find 31 = .ok (.iload_n 2, 1) := by decide +kernel
theorem dX6_find_32 : decode cX6_find 32 = .ok (.istore_n 2, 1) := by decide +kernel
theorem dX6_find_33 : decode cX6_find 33 = .ok (.iinc 3 1, 3) := by decide +kernel
theorem dX6_find_36 : decode cX6_find 36 = .ok (.goto (-32), 3) := by decide +kernel
theorem dX6_find_39 : decode cX6_find 39 = .ok (.iload_n 2, 1) := by decide +kernel
theorem dX6_find_40 : decode cX6_find 40 = .ok (.ireturn, 1) := by decide +kernel
