/-! the law's start: the reference's constructor -/
abbrev cX12_init : ByteArray := prog_14_method_1_code
def yX12_init : MethodName := ⟨RX12, "<init>", "()V"⟩
theorem dX12_init_0 : decode cX12_init 0 = .ok (.aload_n 0, 1) := by decide +kernel
theorem dX12_init_1 : decode cX12_init 1 = .ok (.invokespecial 1, 3) := by decide +kernel
theorem dX12_init_4 : decode cX12_init 4 = .ok (.aload_n 0, 1) := by decide +kernel
theorem dX12_init_5 : decode cX12_init 5 = .ok (.sipush 2500, 3) := by decide +kernel
theorem dX12_init_8 : decode cX12_init 8 = .ok (.newarray .int, 2) := by decide +kernel
theorem dX12_init_10 : decode cX12_init 10 = .ok (.putfield 7, 3) := by decide +kernel
theorem dX12_init_13 : decode cX12_init 13 = .ok (.aload_n 0, 1) := by decide +kernel
theorem dX12_init_14 : decode cX12_init 14 = .ok (.sipush 2600, 3) := by decide +kernel
theorem dX12_init_17 : decode cX12_init 17 = .ok (.newarray .int, 2) := by decide +kernel
theorem dX12_init_19 : decode cX12_init 19 = .ok (.putfield 13, 3) := by decide +kernel
theorem dX12_init_22 : decode cX12_init 22 = .ok (.aload_n 0, 1) := by decide +kernel
theorem dX12_init_23 : decode cX12_init 23 = .ok (.sipush 2600, 3) := by decide +kernel
theorem dX12_init_26 : decode cX12_init 26 = .ok (.newarray .int, 2) := by decide +kernel
theorem dX12_init_28 : decode cX12_init 28 = .ok (.putfield 16, 3) := by decide +kernel
theorem dX12_init_31 : decode cX12_init 31 = .ok (.aload_n 0, 1) := by decide +kernel
theorem dX12_init_32 : decode cX12_init 32 = .ok (.sipush 2600, 3) := by decide +kernel
theorem dX12_init_35 : decode cX12_init 35 = .ok (.newarray .int, 2) := by decide +kernel
theorem dX12_init_37 : decode cX12_init 37 = .ok (.putfield 19, 3) := by decide +kernel
theorem dX12_init_40 : decode cX12_init 40 = .ok (.aload_n 0, 1) := by decide +kernel
theorem dX12_init_41 : decode cX12_init 41 = .ok (.sipush 2600, 3) := by decide +kernel
theorem dX12_init_44 : decode cX12_init 44 = .ok (.newarray .int, 2) := by decide +kernel
theorem dX12_init_46 : decode cX12_init 46 = .ok (.putfield 22, 3) := by decide +kernel
theorem dX12_init_49 : decode cX12_init 49 = .ok (.aload_n 0, 1) := by decide +kernel
theorem dX12_init_50 : decode cX12_init 50 = .ok (.sipush 2600, 3) := by decide +kernel
theorem dX12_init_53 : decode cX12_init 53 = .ok (.newarray .long, 2) := by decide +kernel
theorem dX12_init_55 : decode cX12_init 55 = .ok (.putfield 25, 3) := by decide +kernel
theorem dX12_init_58 : decode cX12_init 58 = .ok (.aload_n 0, 1) := by decide +kernel
theorem dX12_init_59 : decode cX12_init 59 = .ok (.sipush 2600, 3) := by decide +kernel
theorem dX12_init_62 : decode cX12_init 62 = .ok (.newarray .int, 2) := by decide +kernel
theorem dX12_init_64 : decode cX12_init 64 = .ok (.putfield 29, 3) := by decide +kernel
theorem dX12_init_67 : decode cX12_init 67 = .ok (.aload_n 0, 1) := by decide +kernel
theorem dX12_init_68 : decode cX12_init 68 = .ok (.sipush 2600, 3) := by decide +kernel
theorem dX12_init_71 : decode cX12_init 71 = .ok (.newarray .long, 2) := by decide +kernel
theorem dX12_init_73 : decode cX12_init 73 = .ok (.putfield 32, 3) := by decide +kernel
theorem dX12_init_76 : decode cX12_init 76 = .ok (.aload_n 0, 1) := by decide +kernel
theorem dX12_init_77 : decode cX12_init 77 = .ok (.sipush 2600, 3) := by decide +kernel
theorem dX12_init_80 : decode cX12_init 80 = .ok (.newarray .boolean, 2) := by decide +kernel
theorem dX12_init_82 : decode cX12_init 82 = .ok (.putfield 35, 3) := by decide +kernel
theorem dX12_init_85 : decode cX12_init 85 = .ok (.aload_n 0, 1) := by decide +kernel
theorem dX12_init_86 : decode cX12_init 86 = .ok (.sipush 2600, 3) := by decide +kernel
theorem dX12_init_89 : decode cX12_init 89 = .ok (.newarray .int, 2) := by decide +kernel
theorem dX12_init_91 : decode cX12_init 91 = .ok (.putfield 39, 3) := by decide +kernel
theorem dX12_init_94 : decode cX12_init 94 = .ok (.aload_n 0, 1) := by decide +kernel
theorem dX12_init_95 : decode cX12_init 95 = .ok (.sipush 4000, 3) := by decide +kernel
theorem dX12_init_98 : decode cX12_init 98 = .ok (.newarray .int, 2) := by decide +kernel
theorem dX12_init_100 : decode cX12_init 100 = .ok (.putfield 42, 3) := by decide +kernel
theorem dX12_init_103 : decode cX12_init 103 = .ok (.aload_n 0, 1) := by decide +kernel
theorem dX12_init_104 : decode cX12_init 104 = .ok (.sipush 4000, 3) := by decide +kernel
theorem dX12_init_107 : decode cX12_init 107 = .ok (.newarray .int, 2) := by decide +kernel
theorem dX12_init_109 : decode cX12_init 109 = .ok (.putfield 45, 3) := by decide +kernel
theorem dX12_init_112 : decode cX12_init 112 = .ok (.aload_n 0, 1) := by decide +kernel
theorem dX12_init_113 : decode cX12_init 113 = .ok (.sipush 4000, 3) := by decide +kernel
theorem dX12_init_116 : decode cX12_init 116 = .ok (.newarray .int, 2) := by decide +kernel
theorem dX12_init_118 : decode cX12_init 118 = .ok (.putfield 48, 3) := by decide +kernel
theorem dX12_init_121 : decode cX12_init 121 = .ok (.aload_n 0, 1) := by decide +kernel
theorem dX12_init_122 : decode cX12_init 122 = .ok (.sipush 4000, 3) := by decide +kernel
theorem dX12_init_125 : decode cX12_init 125 = .ok (.newarray .int, 2) := by decide +kernel
theorem dX12_init_127 : decode cX12_init 127 = .ok (.putfield 51, 3) := by decide +kernel
theorem dX12_init_130 : decode cX12_init 130 = .ok (.aload_n 0, 1) := by decide +kernel
theorem dX12_init_131 : decode cX12_init 131 = .ok (.sipush 4000, 3) := by decide +kernel
theorem dX12_init_134 : decode cX12_init 134 = .ok (.newarray .int, 2) := by decide +kernel
theorem dX12_init_136 : decode cX12_init 136 = .ok (.putfield 54, 3) := by decide +kernel
theorem dX12_init_139 : decode cX12_init 139 = .ok (.aload_n 0, 1) := by decide +kernel
theorem dX12_init_140 : decode cX12_init 140 = .ok (.sipush 4000, 3) := by decide +kernel
theorem dX12_init_143 : decode cX12_init 143 = .ok (.newarray .int, 2) := by decide +kernel
theorem dX12_init_145 : decode cX12_init 145 = .ok (.putfield 57, 3) := by decide +kernel
theorem dX12_init_148 : decode cX12_init 148 = .ok (.aload_n 0, 1) := by decide +kernel
theorem dX12_init_149 : decode cX12_init 149 = .ok (.sipush 600, 3) := by decide +kernel
theorem dX12_init_152 : decode cX12_init 152 = .ok (.newarray .int, 2) := by decide +kernel
theorem dX12_init_154 : decode cX12_init 154 = .ok (.putfield 60, 3) := by decide +kernel
theorem dX12_init_157 : decode cX12_init 157 = .ok (.aload_n 0, 1) := by decide +kernel
theorem dX12_init_158 : decode cX12_init 158 = .ok (.sipush 600, 3) := by decide +kernel
theorem dX12_init_161 : decode cX12_init 161 = .ok (.newarray .int, 2) := by decide +kernel
theorem dX12_init_163 : decode cX12_init 163 = .ok (.putfield 63, 3) := by decide +kernel
theorem dX12_init_166 : decode cX12_init 166 = .ok (.aload_n 0, 1) := by decide +kernel
theorem dX12_init_167 : decode cX12_init 167 = .ok (.sipush 600, 3) := by decide +kernel
theorem dX12_init_170 : decode cX12_init 170 = .ok (.newarray .int, 2) := by decide +kernel
theorem dX12_init_172 : decode cX12_init 172 = .ok (.putfield 66, 3) := by decide +kernel
theorem dX12_init_175 : decode cX12_init 175 = .ok (.aload_n 0, 1) := by decide +kernel
theorem dX12_init_176 : decode cX12_init 176 = .ok (.sipush 600, 3) := by decide +kernel
theorem dX12_init_179 : decode cX12_init 179 = .ok (.newarray .int, 2) := by decide +kernel
theorem dX12_init_181 : decode cX12_init 181 = .ok (.putfield 69, 3) := by decide +kernel
theorem dX12_init_184 : decode cX12_init 184 = .ok (.aload_n 0, 1) := by decide +kernel
theorem dX12_init_185 : decode cX12_init 185 = .ok (.sipush 600, 3) := by decide +kernel
theorem dX12_init_188 : decode cX12_init 188 = .ok (.newarray .int, 2) := by decide +kernel
theorem dX12_init_190 : decode cX12_init 190 = .ok (.putfield 72, 3) := by decide +kernel
theorem dX12_init_193 : decode cX12_init 193 = .ok (.aload_n 0, 1) := by decide +kernel
theorem dX12_init_194 : decode cX12_init 194 = .ok (.bipush 16, 2) := by decide +kernel
theorem dX12_init_196 : decode cX12_init 196 = .ok (.newarray .int, 2) := by decide +kernel
theorem dX12_init_198 : decode cX12_init 198 = .ok (.putfield 75, 3) := by decide +kernel
theorem dX12_init_201 : decode cX12_init 201 = .ok (.aload_n 0, 1) := by decide +kernel
theorem dX12_init_202 : decode cX12_init 202 = .ok (.bipush 16, 2) := by decide +kernel
theorem dX12_init_204 : decode cX12_init 204 = .ok (.newarray .int, 2) := by decide +kernel
theorem dX12_init_206 : decode cX12_init 206 = .ok (.putfield 78, 3) := by decide +kernel
theorem dX12_init_209 : decode cX12_init 209 = .ok (.aload_n 0, 1) := by decide +kernel
theorem dX12_init_210 : decode cX12_init 210 = .ok (.bipush 16, 2) := by decide +kernel
theorem dX12_init_212 : decode cX12_init 212 = .ok (.newarray .int, 2) := by decide +kernel
theorem dX12_init_214 : decode cX12_init 214 = .ok (.putfield 81, 3) := by decide +kernel
theorem dX12_init_217 : decode cX12_init 217 = .ok (.aload_n 0, 1) := by decide +kernel
theorem dX12_init_218 : decode cX12_init 218 = .ok (.bipush 16, 2) := by decide +kernel
theorem dX12_init_220 : decode cX12_init 220 = .ok (.newarray .int, 2) := by decide +kernel
theorem dX12_init_222 : decode cX12_init 222 = .ok (.putfield 84, 3) := by decide +kernel
theorem dX12_init_225 : decode cX12_init 225 = .ok (.aload_n 0, 1) := by decide +kernel
theorem dX12_init_226 : decode cX12_init 226 = .ok (.bipush 16, 2) := by decide +kernel
theorem dX12_init_228 : decode cX12_init 228 = .ok (.newarray .int, 2) := by decide +kernel
theorem dX12_init_230 : decode cX12_init 230 = .ok (.putfield 87, 3) := by decide +kernel
theorem dX12_init_233 : decode cX12_init 233 = .ok (.aload_n 0, 1) := by decide +kernel
theorem dX12_init_234 : decode cX12_init 234 = .ok (.bipush 64, 2) := by decide +kernel
theorem dX12_init_236 : decode cX12_init 236 = .ok (.newarray .int, 2) := by decide +kernel
theorem dX12_init_238 : decode cX12_init 238 = .ok (.putfield 90, 3) := by decide +kernel
theorem dX12_init_241 : decode cX12_init 241 = .ok (.aload_n 0, 1) := by decide +kernel
theorem dX12_init_242 : decode cX12_init 242 = .ok (.bipush 64, 2) := by decide +kernel
theorem dX12_init_244 : decode cX12_init 244 = .ok (.newarray .int, 2) := by decide +kernel
theorem dX12_init_246 : decode cX12_init 246 = .ok (.putfield 93, 3) := by decide +kernel
theorem dX12_init_249 : decode cX12_init 249 = .ok (.aload_n 0, 1) := by decide +kernel
theorem dX12_init_250 : decode cX12_init 250 = .ok (.bipush 64, 2) := by decide +kernel
theorem dX12_init_252 : decode cX12_init 252 = .ok (.newarray .boolean, 2) := by decide +kernel
theorem dX12_init_254 : decode cX12_init 254 = .ok (.putfield 96, 3) := by decide +kernel
theorem dX12_init_257 : decode cX12_init 257 = .ok (.aload_n 0, 1) := by decide +kernel
theorem dX12_init_258 : decode cX12_init 258 = .ok (.bipush 64, 2) := by decide +kernel
theorem dX12_init_260 : decode cX12_init 260 = .ok (.newarray .int, 2) := by decide +kernel
theorem dX12_init_262 : decode cX12_init 262 = .ok (.putfield 99, 3) := by decide +kernel
theorem dX12_init_265 : decode cX12_init 265 = .ok (.aload_n 0, 1) := by decide +kernel
theorem dX12_init_266 : decode cX12_init 266 = .ok (.bipush 64, 2) := by decide +kernel
theorem dX12_init_268 : decode cX12_init 268 = .ok (.newarray .int, 2) := by decide +kernel
theorem dX12_init_270 : decode cX12_init 270 = .ok (.putfield 102, 3) := by decide +kernel
theorem dX12_init_273 : decode cX12_init 273 = .ok (.aload_n 0, 1) := by decide +kernel
theorem dX12_init_274 : decode cX12_init 274 = .ok (.bipush 64, 2) := by decide +kernel
theorem dX12_init_276 : decode cX12_init 276 = .ok (.newarray .int, 2) := by decide +kernel
theorem dX12_init_278 : decode cX12_init 278 = .ok (.putfield 105, 3) := by decide +kernel
theorem dX12_init_281 : decode cX12_init 281 = .ok (.aload_n 0, 1) := by decide +kernel
theorem dX12_init_282 : decode cX12_init 282 = .ok (.sipush 600, 3) := by decide +kernel
theorem dX12_init_285 : decode cX12_init 285 = .ok (.newarray .int, 2) := by decide +kernel
theorem dX12_init_287 : decode cX12_init 287 = .ok (.putfield 108, 3) := by decide +kernel
theorem dX12_init_290 : decode cX12_init 290 = .ok (.aload_n 0, 1) := by decide +kernel
theorem dX12_init_291 : decode cX12_init 291 = .ok (.sipush 600, 3) := by decide +kernel
theorem dX12_init_294 : decode cX12_init 294 = .ok (.newarray .int, 2) := by decide +kernel
theorem dX12_init_296 : decode cX12_init 296 = .ok (.putfield 111, 3) := by decide +kernel
theorem dX12_init_299 : decode cX12_init 299 = .ok (.aload_n 0, 1) := by decide +kernel
theorem dX12_init_300 : decode cX12_init 300 = .ok (.sipush 600, 3) := by decide +kernel
theorem dX12_init_303 : decode cX12_init 303 = .ok (.newarray .int, 2) := by decide +kernel
theorem dX12_init_305 : decode cX12_init 305 = .ok (.putfield 114, 3) := by decide +kernel
theorem dX12_init_308 : decode cX12_init 308 = .ok (.aload_n 0, 1) := by decide +kernel
theorem dX12_init_309 : decode cX12_init 309 = .ok (.sipush 600, 3) := by decide +kernel
theorem dX12_init_312 : decode cX12_init 312 = .ok (.newarray .int, 2) := by decide +kernel
theorem dX12_init_314 : decode cX12_init 314 = .ok (.putfield 117, 3) := by decide +kernel
theorem dX12_init_317 : decode cX12_init 317 = .ok (.aload_n 0, 1) := by decide +kernel
theorem dX12_init_318 : decode cX12_init 318 = .ok (.sipush 600, 3) := by decide +kernel
theorem dX12_init_321 : decode cX12_init 321 = .ok (.newarray .int, 2) := by decide +kernel
theorem dX12_init_323 : decode cX12_init 323 = .ok (.putfield 120, 3) := by decide +kernel
theorem dX12_init_326 : decode cX12_init 326 = .ok (.aload_n 0, 1) := by decide +kernel
theorem dX12_init_327 : decode cX12_init 327 = .ok (.sipush 600, 3) := by decide +kernel
theorem dX12_init_330 : decode cX12_init 330 = .ok (.newarray .int, 2) := by decide +kernel
theorem dX12_init_332 : decode cX12_init 332 = .ok (.putfield 123, 3) := by decide +kernel
theorem dX12_init_335 : decode cX12_init 335 = .ok (.aload_n 0, 1) := by decide +kernel
theorem dX12_init_336 : decode cX12_init 336 = .ok (.sipush 600, 3) := by decide +kernel
theorem dX12_init_339 : decode cX12_init 339 = .ok (.newarray .int, 2) := by decide +kernel
theorem dX12_init_341 : decode cX12_init 341 = .ok (.putfield 126, 3) := by decide +kernel
theorem dX12_init_344 : decode cX12_init 344 = .ok (.aload_n 0, 1) := by decide +kernel
theorem dX12_init_345 : decode cX12_init 345 = .ok (.sipush 600, 3) := by decide +kernel
theorem dX12_init_348 : decode cX12_init 348 = .ok (.newarray .int, 2) := by decide +kernel
theorem dX12_init_350 : decode cX12_init 350 = .ok (.putfield 129, 3) := by decide +kernel
theorem dX12_init_353 : decode cX12_init 353 = .ok (.aload_n 0, 1) := by decide +kernel
theorem dX12_init_354 : decode cX12_init 354 = .ok (.sipush 600, 3) := by decide +kernel
theorem dX12_init_357 : decode cX12_init 357 = .ok (.newarray .int, 2) := by decide +kernel
theorem dX12_init_359 : decode cX12_init 359 = .ok (.putfield 132, 3) := by decide +kernel
theorem dX12_init_362 : decode cX12_init 362 = .ok (.aload_n 0, 1) := by decide +kernel
theorem dX12_init_363 : decode cX12_init 363 = .ok (.sipush 600, 3) := by decide +kernel
theorem dX12_init_366 : decode cX12_init 366 = .ok (.newarray .int, 2) := by decide +kernel
theorem dX12_init_368 : decode cX12_init 368 = .ok (.putfield 135, 3) := by decide +kernel
theorem dX12_init_371 : decode cX12_init 371 = .ok (.aload_n 0, 1) := by decide +kernel
theorem dX12_init_372 : decode cX12_init 372 = .ok (.sipush 600, 3) := by decide +kernel
theorem dX12_init_375 : decode cX12_init 375 = .ok (.newarray .int, 2) := by decide +kernel
theorem dX12_init_377 : decode cX12_init 377 = .ok (.putfield 138, 3) := by decide +kernel
theorem dX12_init_380 : decode cX12_init 380 = .ok (.aload_n 0, 1) := by decide +kernel
theorem dX12_init_381 : decode cX12_init 381 = .ok (.sipush 600, 3) := by decide +kernel
theorem dX12_init_384 : decode cX12_init 384 = .ok (.newarray .int, 2) := by decide +kernel
theorem dX12_init_386 : decode cX12_init 386 = .ok (.putfield 141, 3) := by decide +kernel
theorem dX12_init_389 : decode cX12_init 389 = .ok (.aload_n 0, 1) := by decide +kernel
theorem dX12_init_390 : decode cX12_init 390 = .ok (.bipush 80, 2) := by decide +kernel
theorem dX12_init_392 : decode cX12_init 392 = .ok (.newarray .int, 2) := by decide +kernel
theorem dX12_init_394 : decode cX12_init 394 = .ok (.putfield 144, 3) := by decide +kernel
theorem dX12_init_397 : decode cX12_init 397 = .ok (.aload_n 0, 1) := by decide +kernel
theorem dX12_init_398 : decode cX12_init 398 = .ok (.bipush 80, 2) := by decide +kernel
theorem dX12_init_400 : decode cX12_init 400 = .ok (.newarray .int, 2) := by decide +kernel
theorem dX12_init_402 : decode cX12_init 402 = .ok (.putfield 147, 3) := by decide +kernel
theorem dX12_init_405 : decode cX12_init 405 = .ok (.aload_n 0, 1) := by decide +kernel
theorem dX12_init_406 : decode cX12_init 406 = .ok (.bipush 80, 2) := by decide +kernel
theorem dX12_init_408 : decode cX12_init 408 = .ok (.newarray .int, 2) := by decide +kernel
theorem dX12_init_410 : decode cX12_init 410 = .ok (.putfield 150, 3) := by decide +kernel
theorem dX12_init_413 : decode cX12_init 413 = .ok (.aload_n 0, 1) := by decide +kernel
theorem dX12_init_414 : decode cX12_init 414 = .ok (.sipush 700, 3) := by decide +kernel
theorem dX12_init_417 : decode cX12_init 417 = .ok (.newarray .int, 2) := by decide +kernel
theorem dX12_init_419 : decode cX12_init 419 = .ok (.putfield 153, 3) := by decide +kernel
theorem dX12_init_422 : decode cX12_init 422 = .ok (.aload_n 0, 1) := by decide +kernel
theorem dX12_init_423 : decode cX12_init 423 = .ok (.sipush 700, 3) := by decide +kernel
theorem dX12_init_426 : decode cX12_init 426 = .ok (.newarray .boolean, 2) := by decide +kernel
theorem dX12_init_428 : decode cX12_init 428 = .ok (.putfield 156, 3) := by decide +kernel
theorem dX12_init_431 : decode cX12_init 431 = .ok (.aload_n 0, 1) := by decide +kernel
theorem dX12_init_432 : decode cX12_init 432 = .ok (.sipush 700, 3) := by decide +kernel
theorem dX12_init_435 : decode cX12_init 435 = .ok (.newarray .long, 2) := by decide +kernel
theorem dX12_init_437 : decode cX12_init 437 = .ok (.putfield 159, 3) := by decide +kernel
theorem dX12_init_440 : decode cX12_init 440 = .ok (.aload_n 0, 1) := by decide +kernel
theorem dX12_init_441 : decode cX12_init 441 = .ok (.sipush 700, 3) := by decide +kernel
theorem dX12_init_444 : decode cX12_init 444 = .ok (.newarray .int, 2) := by decide +kernel
theorem dX12_init_446 : decode cX12_init 446 = .ok (.putfield 162, 3) := by decide +kernel
theorem dX12_init_449 : decode cX12_init 449 = .ok (.aload_n 0, 1) := by decide +kernel
theorem dX12_init_450 : decode cX12_init 450 = .ok (.sipush 2000, 3) := by decide +kernel
theorem dX12_init_453 : decode cX12_init 453 = .ok (.newarray .int, 2) := by decide +kernel
theorem dX12_init_455 : decode cX12_init 455 = .ok (.putfield 165, 3) := by decide +kernel
theorem dX12_init_458 : decode cX12_init 458 = .ok (.aload_n 0, 1) := by decide +kernel
theorem dX12_init_459 : decode cX12_init 459 = .ok (.sipush 2000, 3) := by decide +kernel
theorem dX12_init_462 : decode cX12_init 462 = .ok (.newarray .int, 2) := by decide +kernel
theorem dX12_init_464 : decode cX12_init 464 = .ok (.putfield 168, 3) := by decide +kernel
theorem dX12_init_467 : decode cX12_init 467 = .ok (.aload_n 0, 1) := by decide +kernel
theorem dX12_init_468 : decode cX12_init 468 = .ok (.sipush 2000, 3) := by decide +kernel
theorem dX12_init_471 : decode cX12_init 471 = .ok (.newarray .int, 2) := by decide +kernel
theorem dX12_init_473 : decode cX12_init 473 = .ok (.putfield 171, 3) := by decide +kernel
theorem dX12_init_476 : decode cX12_init 476 = .ok (.aload_n 0, 1) := by decide +kernel
theorem dX12_init_477 : decode cX12_init 477 = .ok (.sipush 2000, 3) := by decide +kernel
theorem dX12_init_480 : decode cX12_init 480 = .ok (.newarray .boolean, 2) := by decide +kernel
theorem dX12_init_482 : decode cX12_init 482 = .ok (.putfield 174, 3) := by decide +kernel
theorem dX12_init_485 : decode cX12_init 485 = .ok (.aload_n 0, 1) := by decide +kernel
theorem dX12_init_486 : decode cX12_init 486 = .ok (.sipush 2000, 3) := by decide +kernel
theorem dX12_init_489 : decode cX12_init 489 = .ok (.newarray .long, 2) := by decide +kernel
theorem dX12_init_491 : decode cX12_init 491 = .ok (.putfield 177, 3) := by decide +kernel
theorem dX12_init_494 : decode cX12_init 494 = .ok (.aload_n 0, 1) := by decide +kernel
theorem dX12_init_495 : decode cX12_init 495 = .ok (.sipush 2600, 3) := by decide +kernel
theorem dX12_init_498 : decode cX12_init 498 = .ok (.newarray .int, 2) := by decide +kernel
theorem dX12_init_500 : decode cX12_init 500 = .ok (.putfield 180, 3) := by decide +kernel
theorem dX12_init_503 : decode cX12_init 503 = .ok (.aload_n 0, 1) := by decide +kernel
theorem dX12_init_504 : decode cX12_init 504 = .ok (.sipush 4000, 3) := by decide +kernel
theorem dX12_init_507 : decode cX12_init 507 = .ok (.newarray .int, 2) := by decide +kernel
theorem dX12_init_509 : decode cX12_init 509 = .ok (.putfield 183, 3) := by decide +kernel
theorem dX12_init_512 : decode cX12_init 512 = .ok (.aload_n 0, 1) := by decide +kernel
theorem dX12_init_513 : decode cX12_init 513 = .ok (.sipush 4000, 3) := by decide +kernel
theorem dX12_init_516 : decode cX12_init 516 = .ok (.newarray .int, 2) := by decide +kernel
theorem dX12_init_518 : decode cX12_init 518 = .ok (.putfield 186, 3) := by decide +kernel
theorem dX12_init_521 : decode cX12_init 521 = .ok (.aload_n 0, 1) := by decide +kernel
theorem dX12_init_522 : decode cX12_init 522 = .ok (.sipush 4000, 3) := by decide +kernel
theorem dX12_init_525 : decode cX12_init 525 = .ok (.newarray .int, 2) := by decide +kernel
theorem dX12_init_527 : decode cX12_init 527 = .ok (.putfield 189, 3) := by decide +kernel
theorem dX12_init_530 : decode cX12_init 530 = .ok (.aload_n 0, 1) := by decide +kernel
theorem dX12_init_531 : decode cX12_init 531 = .ok (.sipush 4000, 3) := by decide +kernel
theorem dX12_init_534 : decode cX12_init 534 = .ok (.newarray .boolean, 2) := by decide +kernel
theorem dX12_init_536 : decode cX12_init 536 = .ok (.putfield 192, 3) := by decide +kernel
theorem dX12_init_539 : decode cX12_init 539 = .ok (.aload_n 0, 1) := by decide +kernel
theorem dX12_init_540 : decode cX12_init 540 = .ok (.sipush 4000, 3) := by decide +kernel
theorem dX12_init_543 : decode cX12_init 543 = .ok (.newarray .long, 2) := by decide +kernel
theorem dX12_init_545 : decode cX12_init 545 = .ok (.putfield 195, 3) := by decide +kernel
theorem dX12_init_548 : decode cX12_init 548 = .ok (.aload_n 0, 1) := by decide +kernel
theorem dX12_init_549 : decode cX12_init 549 = .ok (.bipush 64, 2) := by decide +kernel
theorem dX12_init_551 : decode cX12_init 551 = .ok (.newarray .boolean, 2) := by decide +kernel
theorem dX12_init_553 : decode cX12_init 553 = .ok (.putfield 198, 3) := by decide +kernel
theorem dX12_init_556 : decode cX12_init 556 = .ok (.aload_n 0, 1) := by decide +kernel
theorem dX12_init_557 : decode cX12_init 557 = .ok (.bipush 64, 2) := by decide +kernel
theorem dX12_init_559 : decode cX12_init 559 = .ok (.newarray .long, 2) := by decide +kernel
theorem dX12_init_561 : decode cX12_init 561 = .ok (.putfield 201, 3) := by decide +kernel
theorem dX12_init_564 : decode cX12_init 564 = .ok (.aload_n 0, 1) := by decide +kernel
theorem dX12_init_565 : decode cX12_init 565 = .ok (.sipush 600, 3) := by decide +kernel
theorem dX12_init_568 : decode cX12_init 568 = .ok (.newarray .int, 2) := by decide +kernel
theorem dX12_init_570 : decode cX12_init 570 = .ok (.putfield 204, 3) := by decide +kernel
theorem dX12_init_573 : decode cX12_init 573 = .ok (.aload_n 0, 1) := by decide +kernel
theorem dX12_init_574 : decode cX12_init 574 = .ok (.bipush 80, 2) := by decide +kernel
theorem dX12_init_576 : decode cX12_init 576 = .ok (.newarray .int, 2) := by decide +kernel
theorem dX12_init_578 : decode cX12_init 578 = .ok (.putfield 207, 3) := by decide +kernel
theorem dX12_init_581 : decode cX12_init 581 = .ok (.aload_n 0, 1) := by decide +kernel
theorem dX12_init_582 : decode cX12_init 582 = .ok (.sipush 600, 3) := by decide +kernel
theorem dX12_init_585 : decode cX12_init 585 = .ok (.newarray .boolean, 2) := by decide +kernel
theorem dX12_init_587 : decode cX12_init 587 = .ok (.putfield 210, 3) := by decide +kernel
theorem dX12_init_590 : decode cX12_init 590 = .ok (.aload_n 0, 1) := by decide +kernel
theorem dX12_init_591 : decode cX12_init 591 = .ok (.sipush 600, 3) := by decide +kernel
theorem dX12_init_594 : decode cX12_init 594 = .ok (.newarray .long, 2) := by decide +kernel
theorem dX12_init_596 : decode cX12_init 596 = .ok (.putfield 213, 3) := by decide +kernel
theorem dX12_init_599 : decode cX12_init 599 = .ok (.aload_n 0, 1) := by decide +kernel
theorem dX12_init_600 : decode cX12_init 600 = .ok (.sipush 600, 3) := by decide +kernel
theorem dX12_init_603 : decode cX12_init 603 = .ok (.newarray .boolean, 2) := by decide +kernel
theorem dX12_init_605 : decode cX12_init 605 = .ok (.putfield 216, 3) := by decide +kernel
theorem dX12_init_608 : decode cX12_init 608 = .ok (.aload_n 0, 1) := by decide +kernel
theorem dX12_init_609 : decode cX12_init 609 = .ok (.sipush 600, 3) := by decide +kernel
theorem dX12_init_612 : decode cX12_init 612 = .ok (.newarray .long, 2) := by decide +kernel
theorem dX12_init_614 : decode cX12_init 614 = .ok (.putfield 219, 3) := by decide +kernel
theorem dX12_init_617 : decode cX12_init 617 = .ok (.aload_n 0, 1) := by decide +kernel
theorem dX12_init_618 : decode cX12_init 618 = .ok (.sipush 600, 3) := by decide +kernel
theorem dX12_init_621 : decode cX12_init 621 = .ok (.newarray .long, 2) := by decide +kernel
theorem dX12_init_623 : decode cX12_init 623 = .ok (.putfield 222, 3) := by decide +kernel
theorem dX12_init_626 : decode cX12_init 626 = .ok (.aload_n 0, 1) := by decide +kernel
theorem dX12_init_627 : decode cX12_init 627 = .ok (.sipush 300, 3) := by decide +kernel
theorem dX12_init_630 : decode cX12_init 630 = .ok (.newarray .long, 2) := by decide +kernel
theorem dX12_init_632 : decode cX12_init 632 = .ok (.putfield 225, 3) := by decide +kernel
theorem dX12_init_635 : decode cX12_init 635 = .ok (.aload_n 0, 1) := by decide +kernel
theorem dX12_init_636 : decode cX12_init 636 = .ok (.sipush 300, 3) := by decide +kernel
theorem dX12_init_639 : decode cX12_init 639 = .ok (.newarray .long, 2) := by decide +kernel
theorem dX12_init_641 : decode cX12_init 641 = .ok (.putfield 228, 3) := by decide +kernel
theorem dX12_init_644 : decode cX12_init 644 = .ok (.aload_n 0, 1) := by decide +kernel
theorem dX12_init_645 : decode cX12_init 645 = .ok (.sipush 600, 3) := by decide +kernel
theorem dX12_init_648 : decode cX12_init 648 = .ok (.newarray .int, 2) := by decide +kernel
theorem dX12_init_650 : decode cX12_init 650 = .ok (.putfield 231, 3) := by decide +kernel
theorem dX12_init_653 : decode cX12_init 653 = .ok (.aload_n 0, 1) := by decide +kernel
theorem dX12_init_654 : decode cX12_init 654 = .ok (.sipush 600, 3) := by decide +kernel
theorem dX12_init_657 : decode cX12_init 657 = .ok (.newarray .boolean, 2) := by decide +kernel
theorem dX12_init_659 : decode cX12_init 659 = .ok (.putfield 234, 3) := by decide +kernel
theorem dX12_init_662 : decode cX12_init 662 = .ok (.aload_n 0, 1) := by decide +kernel
theorem dX12_init_663 : decode cX12_init 663 = .ok (.sipush 600, 3) := by decide +kernel
theorem dX12_init_666 : decode cX12_init 666 = .ok (.newarray .int, 2) := by decide +kernel
theorem dX12_init_668 : decode cX12_init 668 = .ok (.putfield 237, 3) := by decide +kernel
theorem dX12_init_671 : decode cX12_init 671 = .ok (.aload_n 0, 1) := by decide +kernel
theorem dX12_init_672 : decode cX12_init 672 = .ok (.sipush 600, 3) := by decide +kernel
theorem dX12_init_675 : decode cX12_init 675 = .ok (.newarray .boolean, 2) := by decide +kernel
theorem dX12_init_677 : decode cX12_init 677 = .ok (.putfield 240, 3) := by decide +kernel
theorem dX12_init_680 : decode cX12_init 680 = .ok (.aload_n 0, 1) := by decide +kernel
theorem dX12_init_681 : decode cX12_init 681 = .ok (.sipush 600, 3) := by decide +kernel
theorem dX12_init_684 : decode cX12_init 684 = .ok (.newarray .long, 2) := by decide +kernel
theorem dX12_init_686 : decode cX12_init 686 = .ok (.putfield 243, 3) := by decide +kernel
theorem dX12_init_689 : decode cX12_init 689 = .ok (.aload_n 0, 1) := by decide +kernel
theorem dX12_init_690 : decode cX12_init 690 = .ok (.sipush 2600, 3) := by decide +kernel
theorem dX12_init_693 : decode cX12_init 693 = .ok (.newarray .boolean, 2) := by decide +kernel
theorem dX12_init_695 : decode cX12_init 695 = .ok (.putfield 246, 3) := by decide +kernel
theorem dX12_init_698 : decode cX12_init 698 = .ok (.aload_n 0, 1) := by decide +kernel
theorem dX12_init_699 : decode cX12_init 699 = .ok (.sipush 2600, 3) := by decide +kernel
theorem dX12_init_702 : decode cX12_init 702 = .ok (.newarray .long, 2) := by decide +kernel
theorem dX12_init_704 : decode cX12_init 704 = .ok (.putfield 249, 3) := by decide +kernel
theorem dX12_init_707 : decode cX12_init 707 = .ok (.aload_n 0, 1) := by decide +kernel
theorem dX12_init_708 : decode cX12_init 708 = .ok (.sipush 2600, 3) := by decide +kernel
theorem dX12_init_711 : decode cX12_init 711 = .ok (.newarray .boolean, 2) := by decide +kernel
theorem dX12_init_713 : decode cX12_init 713 = .ok (.putfield 252, 3) := by decide +kernel
theorem dX12_init_716 : decode cX12_init 716 = .ok (.aload_n 0, 1) := by decide +kernel
theorem dX12_init_717 : decode cX12_init 717 = .ok (.sipush 2500, 3) := by decide +kernel
theorem dX12_init_720 : decode cX12_init 720 = .ok (.newarray .int, 2) := by decide +kernel
theorem dX12_init_722 : decode cX12_init 722 = .ok (.putfield 255, 3) := by decide +kernel
theorem dX12_init_725 : decode cX12_init 725 = .ok (.aload_n 0, 1) := by decide +kernel
theorem dX12_init_726 : decode cX12_init 726 = .ok (.bipush (-2), 2) := by decide +kernel
theorem dX12_init_728 : decode cX12_init 728 = .ok (.putfield 258, 3) := by decide +kernel
theorem dX12_init_731 : decode cX12_init 731 = .ok (.aload_n 0, 1) := by decide +kernel
theorem dX12_init_732 : decode cX12_init 732 = .ok (.bipush 40, 2) := by decide +kernel
theorem dX12_init_734 : decode cX12_init 734 = .ok (.newarray .int, 2) := by decide +kernel
theorem dX12_init_736 : decode cX12_init 736 = .ok (.putfield 262, 3) := by decide +kernel
theorem dX12_init_739 : decode cX12_init 739 = .ok (.aload_n 0, 1) := by decide +kernel
theorem dX12_init_740 : decode cX12_init 740 = .ok (.bipush 6, 2) := by decide +kernel
theorem dX12_init_742 : decode cX12_init 742 = .ok (.newarray .long, 2) := by decide +kernel
theorem dX12_init_744 : decode cX12_init 744 = .ok (.putfield 265, 3) := by decide +kernel
theorem dX12_init_747 : decode cX12_init 747 = .ok (.aload_n 0, 1) := by decide +kernel
theorem dX12_init_748 : decode cX12_init 748 = .ok (.sipush 4000, 3) := by decide +kernel
theorem dX12_init_751 : decode cX12_init 751 = .ok (.newarray .int, 2) := by decide +kernel
theorem dX12_init_753 : decode cX12_init 753 = .ok (.putfield 268, 3) := by decide +kernel
theorem dX12_init_756 : decode cX12_init 756 = .ok (.aload_n 0, 1) := by decide +kernel
theorem dX12_init_757 : decode cX12_init 757 = .ok (.sipush 300, 3) := by decide +kernel
theorem dX12_init_760 : decode cX12_init 760 = .ok (.newarray .int, 2) := by decide +kernel
theorem dX12_init_762 : decode cX12_init 762 = .ok (.putfield 271, 3) := by decide +kernel
theorem dX12_init_765 : decode cX12_init 765 = .ok (.aload_n 0, 1) := by decide +kernel
theorem dX12_init_766 : decode cX12_init 766 = .ok (.sipush 8000, 3) := by decide +kernel
theorem dX12_init_769 : decode cX12_init 769 = .ok (.newarray .long, 2) := by decide +kernel
theorem dX12_init_771 : decode cX12_init 771 = .ok (.putfield 274, 3) := by decide +kernel
theorem dX12_init_774 : decode cX12_init 774 = .ok (.aload_n 0, 1) := by decide +kernel
theorem dX12_init_775 : decode cX12_init 775 = .ok (.sipush 1860, 3) := by decide +kernel
theorem dX12_init_778 : decode cX12_init 778 = .ok (.newarray .long, 2) := by decide +kernel
theorem dX12_init_780 : decode cX12_init 780 = .ok (.putfield 277, 3) := by decide +kernel
theorem dX12_init_783 : decode cX12_init 783 = .ok (.aload_n 0, 1) := by decide +kernel
theorem dX12_init_784 : decode cX12_init 784 = .ok (.bipush 31, 2) := by decide +kernel
theorem dX12_init_786 : decode cX12_init 786 = .ok (.newarray .int, 2) := by decide +kernel
theorem dX12_init_788 : decode cX12_init 788 = .ok (.putfield 280, 3) := by decide +kernel
theorem dX12_init_791 : decode cX12_init 791 = .ok (.aload_n 0, 1) := by decide +kernel
theorem dX12_init_792 : decode cX12_init 792 = .ok (.bipush 31, 2) := by decide +kernel
theorem dX12_init_794 : decode cX12_init 794 = .ok (.newarray .int, 2) := by decide +kernel
theorem dX12_init_796 : decode cX12_init 796 = .ok (.putfield 283, 3) := by decide +kernel
theorem dX12_init_799 : decode cX12_init 799 = .ok (.aload_n 0, 1) := by decide +kernel
theorem dX12_init_800 : decode cX12_init 800 = .ok (.sipush 2000, 3) := by decide +kernel
theorem dX12_init_803 : decode cX12_init 803 = .ok (.newarray .int, 2) := by decide +kernel
theorem dX12_init_805 : decode cX12_init 805 = .ok (.putfield 286, 3) := by decide +kernel
theorem dX12_init_808 : decode cX12_init 808 = .ok (.aload_n 0, 1) := by decide +kernel
theorem dX12_init_809 : decode cX12_init 809 = .ok (.sipush 2000, 3) := by decide +kernel
theorem dX12_init_812 : decode cX12_init 812 = .ok (.newarray .int, 2) := by decide +kernel
theorem dX12_init_814 : decode cX12_init 814 = .ok (.putfield 289, 3) := by decide +kernel
theorem dX12_init_817 : decode cX12_init 817 = .ok (.aload_n 0, 1) := by decide +kernel
theorem dX12_init_818 : decode cX12_init 818 = .ok (.sipush 2000, 3) := by decide +kernel
theorem dX12_init_821 : decode cX12_init 821 = .ok (.newarray .int, 2) := by decide +kernel
theorem dX12_init_823 : decode cX12_init 823 = .ok (.putfield 292, 3) := by decide +kernel
theorem dX12_init_826 : decode cX12_init 826 = .ok (.aload_n 0, 1) := by decide +kernel
theorem dX12_init_827 : decode cX12_init 827 = .ok (.sipush 2000, 3) := by decide +kernel
theorem dX12_init_830 : decode cX12_init 830 = .ok (.newarray .int, 2) := by decide +kernel
theorem dX12_init_832 : decode cX12_init 832 = .ok (.putfield 295, 3) := by decide +kernel
theorem dX12_init_835 : decode cX12_init 835 = .ok (.aload_n 0, 1) := by decide +kernel
theorem dX12_init_836 : decode cX12_init 836 = .ok (.sipush 2000, 3) := by decide +kernel
theorem dX12_init_839 : decode cX12_init 839 = .ok (.newarray .int, 2) := by decide +kernel
theorem dX12_init_841 : decode cX12_init 841 = .ok (.putfield 298, 3) := by decide +kernel
theorem dX12_init_844 : decode cX12_init 844 = .ok (.aload_n 0, 1) := by decide +kernel
theorem dX12_init_845 : decode cX12_init 845 = .ok (.sipush 2000, 3) := by decide +kernel
theorem dX12_init_848 : decode cX12_init 848 = .ok (.newarray .int, 2) := by decide +kernel
theorem dX12_init_850 : decode cX12_init 850 = .ok (.putfield 301, 3) := by decide +kernel
theorem dX12_init_853 : decode cX12_init 853 = .ok (.aload_n 0, 1) := by decide +kernel
theorem dX12_init_854 : decode cX12_init 854 = .ok (.sipush 2000, 3) := by decide +kernel
theorem dX12_init_857 : decode cX12_init 857 = .ok (.newarray .long, 2) := by decide +kernel
theorem dX12_init_859 : decode cX12_init 859 = .ok (.putfield 304, 3) := by decide +kernel
theorem dX12_init_862 : decode cX12_init 862 = .ok (.aload_n 0, 1) := by decide +kernel
theorem dX12_init_863 : decode cX12_init 863 = .ok (.sipush 200, 3) := by decide +kernel
theorem dX12_init_866 : decode cX12_init 866 = .ok (.newarray .long, 2) := by decide +kernel
theorem dX12_init_868 : decode cX12_init 868 = .ok (.putfield 307, 3) := by decide +kernel
theorem dX12_init_871 : decode cX12_init 871 = .ok (.return_, 1) := by decide +kernel
def ww_X12n : List Cond := .code yX12_init cX12_init 1 none :: ([Cond.methodLink RX12 1 objectInit, Cond.instanceMethod objectInit, Cond.code objectInit ⟨#[0xb1]⟩ 1 none, Cond.arrayClass .int, Cond.arrayClass .boolean, Cond.arrayClass .long] ++ wG)
theorem ww_X12n_G {w : Cond} (h : w ∈ wG) : w ∈ ww_X12n := List.mem_cons_of_mem _ (List.mem_append_right _ h)
/-- the fields once the first i rows are made -/
def fvi (i : Nat) (ad : Nat → Nat) (σ : RS) (k : Nat) : Value := if kd k < 3 ∨ ap k < i then fv ad σ k else .null
def fRi (i : Nat) (ad : Nat → Nat) (σ : RS) : List Value := (List.range 150).map (fvi i ad σ)
def RWi (i h : Nat) (ad : Nat → Nat) (cA : Nat → ClassId) (σ : RS) : va_W := (h, .inr (13, fRi i ad σ)) :: (arrs.take i).map (ae cA ad σ)
theorem fRi_len {i : Nat} {ad : Nat → Nat} {σ : RS} : (fRi i ad σ).length = 150 := by simp [fRi]
theorem fRi_at {i : Nat} {ad : Nat → Nat} {σ : RS} {k : Nat} (h : k < 150) : (fRi i ad σ)[k]? = some (fvi i ad σ k) := by
  unfold fRi
  rw [List.getElem?_map, List.getElem?_range h]
  rfl
theorem fRi_set {i i' : Nat} {ad : Nat → Nat} {σ τ : RS} {k : Nat} {v : Value} (hk : k < 150) (hv : fvi i' ad τ k = v) (ho : ∀ j, j < 150 → j ≠ k → fvi i' ad τ j = fvi i ad σ j) : (fRi i ad σ).set k v = fRi i' ad τ := by
  apply List.ext_getElem?
  intro j
  rw [List.getElem?_set]
  by_cases e : k = j
  · subst e
    rw [if_pos rfl, fRi_len, if_pos hk, fRi_at hk, hv]
  · rw [if_neg e]
    by_cases hj : j < 150
    · rw [fRi_at hj, fRi_at hj, ho j hj (fun q => e q.symm)]
    · rw [List.getElem?_eq_none (by rw [fRi_len]; omega), List.getElem?_eq_none (by rw [fRi_len]; omega)]
theorem arrs_len : arrs.length = 98 := by decide +kernel
theorem ap_at {i k : Nat} (h : arrs[i]? = some k) : ap k = i := by
  have hi : i < 98 := by rw [← arrs_len]; exact (List.getElem?_eq_some_iff.mp h).1
  have h1 : ∀ i, i < 98 → ap (arrs.getD i 0) = i := by decide +kernel
  have h2 : arrs.getD i 0 = k := by rw [List.getD_eq_getElem?_getD, h]; rfl
  rw [← h2]
  exact h1 i hi
theorem arrs_k {i k : Nat} (h : arrs[i]? = some k) : k < 150 ∧ (kd k = 3 ∨ kd k = 4 ∨ kd k = 5) := by
  have h1 : ∀ k, k ∈ arrs → k < 150 ∧ (kd k = 3 ∨ kd k = 4 ∨ kd k = 5) := by decide +kernel
  exact h1 k (List.mem_of_getElem? h)
theorem kd_c : ∀ k, k < 150 → kd k < 3 ∨ (kd k = 3 ∨ kd k = 4 ∨ kd k = 5) := by decide +kernel
theorem tyA_ok3 : ∀ k, k < 150 → kd k = 3 → tyX12 k = .array .int := by decide +kernel
theorem tyA_ok4 : ∀ k, k < 150 → kd k = 4 → tyX12 k = .array .boolean := by decide +kernel
theorem tyA_ok5 : ∀ k, k < 150 → kd k = 5 → tyX12 k = .array .long := by decide +kernel
theorem finA : ∀ k, k < 150 → 3 ≤ kd k → (TX12 k).2.2.2 = true := by decide +kernel
theorem declA : ∀ k, k < 150 → (TX12 k).1 = RX12 := by decide +kernel
theorem ln_le : ∀ k, k < 150 → ln k ≤ 8000 := by decide +kernel
theorem ap_lt : ∀ k, k < 150 → 3 ≤ kd k → ap k < 98 := by decide +kernel
theorem fv_ref {ad : Nat → Nat} {σ : RS} {k : Nat} (h : kd k = 3 ∨ kd k = 4 ∨ kd k = 5) : fv ad σ k = .ref (ad k) := by
  unfold fv
  rcases h with q | q | q <;> rw [q] <;> rfl
theorem RWi_end {h : Nat} {ad : Nat → Nat} {cA : Nat → ClassId} {σ : RS} : RWi 98 h ad cA σ = RW h ad cA σ := by
  have e1 : fRi 98 ad σ = fR ad σ := by
    unfold fRi fR
    apply List.map_congr_left
    intro k hk
    have hk := List.mem_range.mp hk
    unfold fvi
    rw [if_pos]
    rcases kd_c k hk with q | q
    · exact Or.inl q
    · exact Or.inr (ap_lt k hk (by omega))
  unfold RWi RW
  rw [e1, List.take_of_length_le (by rw [arrs_len]; exact Nat.le_refl _)]
theorem RWi_arr {h i j k : Nat} {ad : Nat → Nat} {cA : Nat → ClassId} {σ : RS} (hj : arrs[j]? = some k) (hl : j < i) : (RWi i h ad cA σ)[j + 1]? = some (ae cA ad σ k) := by
  unfold RWi
  rw [List.getElem?_cons_succ, List.getElem?_map, List.getElem?_take, if_pos hl, hj]
  rfl
theorem RWi_next {h i k : Nat} {ad : Nat → Nat} {cA : Nat → ClassId} {σ : RS} (hi : arrs[i]? = some k) : (RWi i h ad cA σ ++ [ae cA ad σ k]).set 0 (h, .inr (13, (fRi i ad σ).set k (.ref (ad k)))) = RWi (i + 1) h ad cA σ := by
  obtain ⟨h1, h2⟩ := arrs_k hi
  have e0 := ap_at hi
  have e1 : (fRi i ad σ).set k (.ref (ad k)) = fRi (i + 1) ad σ := by
    refine fRi_set h1 ?_ (fun j hj hne => ?_)
    · unfold fvi
      rw [if_pos (Or.inr (by omega)), fv_ref h2]
    · unfold fvi
      by_cases q : kd j < 3 ∨ ap j < i
      · rw [if_pos q, if_pos (by omega)]
      · rw [if_neg q, if_neg]
        intro z
        have q3 : kd j = 3 ∨ kd j = 4 ∨ kd j = 5 := (kd_c j hj).resolve_left (fun z => q (Or.inl z))
        have hj2 := ap_ok j hj q3
        have e2 : ap j = i := by omega
        rw [e2, hi] at hj2
        exact hne (Option.some.inj hj2).symm
  unfold RWi
  rw [List.cons_append, List.set_cons_zero, e1, List.take_add_one, hi, List.map_append]
  rfl
theorem RWi_setI {h i k : Nat} {ad : Nat → Nat} {cA : Nat → ClassId} {σ : RS} {x : Int32} (hk : kd k = 0 ∨ kd k = 1) : (RWi i h ad cA σ).set 0 (h, .inr (13, (fRi i ad σ).set k (.int x))) = RWi i h ad cA (sI σ k x) := by
  have hl : k < 150 := hk.elim (fun q => kd_lt q (by decide)) (fun q => kd_lt q (by decide))
  unfold RWi
  rw [List.set_cons_zero, fRi_set (i' := i) (τ := sI σ k x) hl]
  · rfl
  · unfold fvi fv
    rcases hk with q | q <;> rw [q] <;> simp [gI, sI, nb_eq]
  · intro j hj hne
    unfold fvi fv
    simp [gI, sI, nb_ne hne, gL]
section LWR
variable {p : Program} {l : Launch} {e : Env} {R : Room} {s : State} {m : MethodId} {args : Array Value} {below : List Frame} {meth : Method} {c : Code} {H : Heap} {locs : List Loc} {slots : Nat} {Q : State → Prop} {ls : Array Slot}
theorem rin {D : va_G} {A : Nat → Prop} {ad : Nat → Nat} {cA : Nat → ClassId} {σ : RS} {i k j h pc sl : Nat} {n : Int32} {at_ : ArrayType} (hi : arrs[i]? = some k) (hx : p.tables.exec = Jvm.exec) (hb : c.code = cX12_init) (hts : ∀ w ∈ ww_X12n, w.before args s = true) (hown : s.vm.findClass RX12 = some m.cls) (hin : meth.name = "<init>") (hK : va_K D vwCl (RT cA) s) (hA : ∀ q, s.heap.size ≤ q → A q) (had : ∀ k, ad k = s.heap.size + ap k) (hz : ∀ k, (aI σ k = fun _ => 0) ∧ (aL σ k = fun _ => 0))
    (hty : newarray.typeOf at_ = at12 k) (hf : (j, k) ∈ flk) (hn : ¬ n < 0) (hN : n.toNatClampNeg = ln k) (hR : 98 ≤ R.cells ∧ slots + ln k ≤ R.slots) (hsl : slots + ln k = sl) (d1 : decode cX12_init pc = .ok (.newarray at_, 2)) (d2 : decode cX12_init (pc + 2) = .ok (.putfield j, 3))
    (hP : va_P D vwCl (RWi i h ad cA σ) H) (hD : va_D A (RWi i h ad cA σ)) (hS : va_S A s.heap H locs)
    (kk : ∀ (H1 : Heap) (locs1 : List Loc), va_P D vwCl (RWi (i + 1) h ad cA σ) H1 → va_D A (RWi (i + 1) h ad cA σ) → va_S A s.heap H1 locs1 → W p l e R s m args below meth c H1 locs1 (i + 1) sl Q (F0 m (pc + 2 + 3) ls [])) : W p l e R s m args below meth c H locs i slots Q (F0 m pc ls [.int n, .ref h]) := by
  subst hsl
  obtain ⟨hk1, hk2⟩ := arrs_k hi
  have hil : i < 98 := by rw [← arrs_len]; exact (List.getElem?_eq_some_iff.mp hi).1
  refine W.knowC (fun hc _ _ => ?_)
  have hz1 : H.size = s.heap.size + i := by
    by_cases q : i = 0
    · omega
    · have hj : i - 1 < arrs.length := by rw [arrs_len]; omega
      have h9 := (hP _ _ (RWi_arr (h := h) (ad := ad) (cA := cA) (σ := σ) (j := i - 1) (List.getElem?_eq_getElem hj) (i := i) (by omega))).lt
      unfold ae at h9
      dsimp only at h9
      rw [had, ap_at (List.getElem?_eq_getElem hj)] at h9
      omega
  have e12 : at12 k = .int ∨ at12 k = .boolean ∨ at12 k = .long := by
    unfold at12
    rcases hk2 with q | q | q <;> rw [q] <;> simp
  have hle := ln_le k hk1
  refine va_newaK hx hb (hts _ (by rw [hty]; rcases e12 with q | q | q <;> (rw [q]; simp [ww_X12n]))) rfl d1 rfl hn hN (by rw [hty]; rcases e12 with q | q | q <;> (rw [q]; first | (show ln k * 4 ≤ 536870912; omega) | (show ln k * 1 ≤ 536870912; omega) | (show ln k * 8 ≤ 536870912; omega))) (by omega) (by omega) rfl (fun H1 cA1 e1 z1 o1 hAr hNm => ?_)
  have hra : va_RA s (cA k) (at12 k) := (hK.2 i _ (RT_arr hi)).2
  have hcA : cA1 = cA k := by
    rw [hty] at hNm
    rcases e12 with q | q | q <;> (rw [q] at hra hNm; exact Option.some.inj (hNm.symm.trans hra))
  subst hcA
  have hae : H.size = ad k := by rw [had, ap_at hi, hz1]
  have hce : arrV (cA k) (ln k) (fun _ => defaultValue (newarray.typeOf at_)) = vp_cell (cA k) (ln k, match kd k with
    | 5 => .inr (.inl (aL σ k))
    | _ => .inl (aI σ k)) := by
    rw [hty, (hz k).1, (hz k).2]
    unfold at12
    rcases hk2 with q | q | q <;> rw [q] <;> rfl
  have hP1 : va_P D vwCl (RWi i h ad cA σ ++ [ae cA ad σ k]) H1 := by
    refine (hP.kept (fun k x hx => o1 x.1 ((hP k x hx).lt))).app (fun k' x hx' => ?_)
    have hz' : k' < 1 := (List.getElem?_eq_some_iff.mp hx').1
    rw [show k' = 0 by omega] at hx'
    cases hx'
    show H1[ad k]? = some (vp_cell (cA k) _)
    rw [← hae, e1, hce]
    rfl
  have hD1 : va_D A (RWi i h ad cA σ ++ [ae cA ad σ k]) := hD.push hP hae.symm (hA _ (by rw [had]; exact Nat.le_add_right _ _))
  have hS1 : va_S A s.heap H1 locs := ⟨Nat.le_trans hS.1 (by omega), fun x h1 h2 => (o1 x (Nat.lt_of_lt_of_le h1 hS.1)).trans (hS.2.1 x h1 h2), hS.2.2⟩
  rw [hae]
  have hnf : ∀ q, narrow (tyX12 k) (.ref q) = .ref q ∧ fits (tyX12 k) (.ref q) = true := fun q => by
    rcases hk2 with z | z | z
    · rw [tyA_ok3 k hk1 z]; exact ⟨rfl, rfl⟩
    · rw [tyA_ok4 k hk1 z]; exact ⟨rfl, rfl⟩
    · rw [tyA_ok5 k hk1 z]; exact ⟨rfl, rfl⟩
  refine va_putF (D := D) (ci := 13) (v := .ref (ad k)) (ty := tyX12 k) (C := RX12) (T := TX12) (N := 150) hx hb hts (fun w hw => ww_X12n_G (wG_T hw)) tyX12 tyX12_ok nmX12 hown hK hP1 hD1 hS1 0 rfl rfl k hk1 (hts _ (ww_X12n_G (wG_F hf))) (by rw [declA k hk1]; exact fun _ h9 => h9) (finA k hk1 (by omega)) hin (declA k hk1) (tyX12_ok k hk1) (hnf _).1 (hnf _).2 (by rw [fRi_len]; exact hk1) d2 (fun H3 lo3 hP3 hD3 hS3 => ?_)
  rw [RWi_next hi] at hP3 hD3
  exact kk H3 lo3 hP3 hD3 hS3
end LWR
theorem z0_S0 : ∀ k, (aI S0 k = fun _ => 0) ∧ (aL S0 k = fun _ => 0) := fun _ => ⟨rfl, rfl⟩
theorem z0_S1 : ∀ k, (aI S1n k = fun _ => 0) ∧ (aL S1n k = fun _ => 0) := fun _ => ⟨rfl, rfl⟩
set_option maxHeartbeats 40000000 in
set_option maxRecDepth 100000 in
theorem c_X12n (l : Launch) (D : va_G) (cA : Nat → ClassId) (h sz : Nat) : Met l yX12_init ww_X12n ({ frames := 1, cells := 98, slots := 142380, locals := 100 }) (va_Pc [.ref h] (fun U => U.heap.size = sz ∧ va_P D vwCl (RWi 0 h (fun k => sz + ap k) cA S0) U.heap ∧ va_K D vwCl (RT cA) U ∧ va_D (fun _ => True) (RWi 0 h (fun k => sz + ap k) cA S0)))
    (va_Qv (fun _ : Unit => True) (fun (_ : Unit) (t : State) => va_P D vwCl (RW h (fun k => sz + ap k) cA S1n) t.heap ∧ va_D (va_A (RWi 0 h (fun k => sz + ap k) cA S0) sz) (RW h (fun k => sz + ap k) cA S1n) ∧ t.heap.size = sz + 98) (va_A (RWi 0 h (fun k => sz + ap k) cA S0) sz)) 98 142380 (va_A (RWi 0 h (fun k => sz + ap k) cA S0) sz) := by
  refine Met.ofW (cc := cX12_init) (maxL := 1) (ret := none) (by decide) rfl ?_
  intro p e s m args below meth c s₁ B hml hv
  obtain ⟨rfl, hsz, hP, hK, hD0⟩ := hv
  have hx := B.exec
  have hb := B.bytes
  have hr := B.returns
  have hts := atoms_spec (ws := ww_X12n) B.pre
  have hown : s.vm.findClass RX12 = some m.cls := findClass_of_methodNamed B.named
  have hin : meth.name = "<init>" := (name_of_methodNamed B.named B.method).1
  subst hsz
  have hD := hD0.self (sz := s.heap.size)
  generalize hAe : va_A (RWi 0 h (fun k => s.heap.size + ap k) cA S0) s.heap.size = A at hD ⊢
  have hA : ∀ q : Nat, s.heap.size ≤ q → A q := fun q h => by rw [← hAe]; exact Or.inr h
  have hS : va_S A s.heap s.heap [] := va_S.rf
  obtain ⟨ad, hade⟩ : ∃ ad : Nat → Nat, ad = (fun k => s.heap.size + ap k) := ⟨_, rfl⟩
  rw [← hade] at hP hD ⊢
  have had : ∀ k, ad k = s.heap.size + ap k := fun k => by rw [hade]
  clear hade hD0 hAe
  have hl := lv_entry ([.ref h]) (n := 1) (Nat.le_of_ble_eq_true rfl)
  rw [lg_entry_eq]
  generalize (lg_sl ([.ref h]) ++ List.replicate (1 - (lg_sl ([.ref h])).length) Slot.unset).toArray = ls at hl ⊢
  have hl : lv_has ls 1 [(0, .ref h)] := hl
  refine lv_aload_n hx hb dX12_init_0 rfl (lv_at hl 0 rfl) ?_
  refine W.objInit hx hb hown (hts _ (List.mem_of_getElem? (i := 1) rfl)) (hts _ (List.mem_of_getElem? (i := 2) rfl)) (hts _ (List.mem_of_getElem? (i := 3) rfl)) rfl (by rw [hml]; exact hl.1) rfl dX12_init_1 (Nat.le_of_ble_eq_true rfl) (Nat.le_of_ble_eq_true rfl) ?_
  refine W.eq (g2 := F0 m 4 ls []) rfl ?_
  refine lv_aload_n hx hb dX12_init_4 rfl (lv_at hl 0 rfl) ?_
  refine lv_sipush (v := 2500) hx hb dX12_init_5 (by decide) ?_
  refine rin (i := 0) (k := 0) (j := 7) (sl := 2500) rfl hx hb hts hown hin hK hA had z0_S0 rfl (by decide +kernel) (by decide) (by decide +kernel) ⟨Nat.le_of_ble_eq_true rfl, Nat.le_of_ble_eq_true rfl⟩ rfl dX12_init_8 dX12_init_10 hP hD hS (fun H1 lo1 hP1 hD1 hS1 => ?_)
  clear hP hD hS
  refine W.eq (g2 := F0 m 13 ls []) rfl ?_
  refine lv_aload_n hx hb dX12_init_13 rfl (lv_at hl 0 rfl) ?_
  refine lv_sipush (v := 2600) hx hb dX12_init_14 (by decide) ?_
  refine rin (i := 1) (k := 3) (j := 13) (sl := 5100) rfl hx hb hts hown hin hK hA had z0_S0 rfl (by decide +kernel) (by decide) (by decide +kernel) ⟨Nat.le_of_ble_eq_true rfl, Nat.le_of_ble_eq_true rfl⟩ rfl dX12_init_17 dX12_init_19 hP1 hD1 hS1 (fun H2 lo2 hP2 hD2 hS2 => ?_)
  clear hP1 hD1 hS1
  refine W.eq (g2 := F0 m 22 ls []) rfl ?_
  refine lv_aload_n hx hb dX12_init_22 rfl (lv_at hl 0 rfl) ?_
  refine lv_sipush (v := 2600) hx hb dX12_init_23 (by decide) ?_
  refine rin (i := 2) (k := 4) (j := 16) (sl := 7700) rfl hx hb hts hown hin hK hA had z0_S0 rfl (by decide +kernel) (by decide) (by decide +kernel) ⟨Nat.le_of_ble_eq_true rfl, Nat.le_of_ble_eq_true rfl⟩ rfl dX12_init_26 dX12_init_28 hP2 hD2 hS2 (fun H3 lo3 hP3 hD3 hS3 => ?_)
  clear hP2 hD2 hS2
  refine W.eq (g2 := F0 m 31 ls []) rfl ?_
  refine lv_aload_n hx hb dX12_init_31 rfl (lv_at hl 0 rfl) ?_
  refine lv_sipush (v := 2600) hx hb dX12_init_32 (by decide) ?_
  refine rin (i := 3) (k := 5) (j := 19) (sl := 10300) rfl hx hb hts hown hin hK hA had z0_S0 rfl (by decide +kernel) (by decide) (by decide +kernel) ⟨Nat.le_of_ble_eq_true rfl, Nat.le_of_ble_eq_true rfl⟩ rfl dX12_init_35 dX12_init_37 hP3 hD3 hS3 (fun H4 lo4 hP4 hD4 hS4 => ?_)
  clear hP3 hD3 hS3
  refine W.eq (g2 := F0 m 40 ls []) rfl ?_
  refine lv_aload_n hx hb dX12_init_40 rfl (lv_at hl 0 rfl) ?_
  refine lv_sipush (v := 2600) hx hb dX12_init_41 (by decide) ?_
  refine rin (i := 4) (k := 6) (j := 22) (sl := 12900) rfl hx hb hts hown hin hK hA had z0_S0 rfl (by decide +kernel) (by decide) (by decide +kernel) ⟨Nat.le_of_ble_eq_true rfl, Nat.le_of_ble_eq_true rfl⟩ rfl dX12_init_44 dX12_init_46 hP4 hD4 hS4 (fun H5 lo5 hP5 hD5 hS5 => ?_)
  clear hP4 hD4 hS4
  refine W.eq (g2 := F0 m 49 ls []) rfl ?_
  refine lv_aload_n hx hb dX12_init_49 rfl (lv_at hl 0 rfl) ?_
  refine lv_sipush (v := 2600) hx hb dX12_init_50 (by decide) ?_
  refine rin (i := 5) (k := 7) (j := 25) (sl := 15500) rfl hx hb hts hown hin hK hA had z0_S0 rfl (by decide +kernel) (by decide) (by decide +kernel) ⟨Nat.le_of_ble_eq_true rfl, Nat.le_of_ble_eq_true rfl⟩ rfl dX12_init_53 dX12_init_55 hP5 hD5 hS5 (fun H6 lo6 hP6 hD6 hS6 => ?_)
  clear hP5 hD5 hS5
  refine W.eq (g2 := F0 m 58 ls []) rfl ?_
  refine lv_aload_n hx hb dX12_init_58 rfl (lv_at hl 0 rfl) ?_
  refine lv_sipush (v := 2600) hx hb dX12_init_59 (by decide) ?_
  refine rin (i := 6) (k := 8) (j := 29) (sl := 18100) rfl hx hb hts hown hin hK hA had z0_S0 rfl (by decide +kernel) (by decide) (by decide +kernel) ⟨Nat.le_of_ble_eq_true rfl, Nat.le_of_ble_eq_true rfl⟩ rfl dX12_init_62 dX12_init_64 hP6 hD6 hS6 (fun H7 lo7 hP7 hD7 hS7 => ?_)
  clear hP6 hD6 hS6
  refine W.eq (g2 := F0 m 67 ls []) rfl ?_
  refine lv_aload_n hx hb dX12_init_67 rfl (lv_at hl 0 rfl) ?_
  refine lv_sipush (v := 2600) hx hb dX12_init_68 (by decide) ?_
  refine rin (i := 7) (k := 9) (j := 32) (sl := 20700) rfl hx hb hts hown hin hK hA had z0_S0 rfl (by decide +kernel) (by decide) (by decide +kernel) ⟨Nat.le_of_ble_eq_true rfl, Nat.le_of_ble_eq_true rfl⟩ rfl dX12_init_71 dX12_init_73 hP7 hD7 hS7 (fun H8 lo8 hP8 hD8 hS8 => ?_)
  clear hP7 hD7 hS7
  refine W.eq (g2 := F0 m 76 ls []) rfl ?_
  refine lv_aload_n hx hb dX12_init_76 rfl (lv_at hl 0 rfl) ?_
  refine lv_sipush (v := 2600) hx hb dX12_init_77 (by decide) ?_
  refine rin (i := 8) (k := 10) (j := 35) (sl := 23300) rfl hx hb hts hown hin hK hA had z0_S0 rfl (by decide +kernel) (by decide) (by decide +kernel) ⟨Nat.le_of_ble_eq_true rfl, Nat.le_of_ble_eq_true rfl⟩ rfl dX12_init_80 dX12_init_82 hP8 hD8 hS8 (fun H9 lo9 hP9 hD9 hS9 => ?_)
  clear hP8 hD8 hS8
  refine W.eq (g2 := F0 m 85 ls []) rfl ?_
  refine lv_aload_n hx hb dX12_init_85 rfl (lv_at hl 0 rfl) ?_
  refine lv_sipush (v := 2600) hx hb dX12_init_86 (by decide) ?_
  refine rin (i := 9) (k := 11) (j := 39) (sl := 25900) rfl hx hb hts hown hin hK hA had z0_S0 rfl (by decide +kernel) (by decide) (by decide +kernel) ⟨Nat.le_of_ble_eq_true rfl, Nat.le_of_ble_eq_true rfl⟩ rfl dX12_init_89 dX12_init_91 hP9 hD9 hS9 (fun H10 lo10 hP10 hD10 hS10 => ?_)
  clear hP9 hD9 hS9
  refine W.eq (g2 := F0 m 94 ls []) rfl ?_
  refine lv_aload_n hx hb dX12_init_94 rfl (lv_at hl 0 rfl) ?_
  refine lv_sipush (v := 4000) hx hb dX12_init_95 (by decide) ?_
  refine rin (i := 10) (k := 19) (j := 42) (sl := 29900) rfl hx hb hts hown hin hK hA had z0_S0 rfl (by decide +kernel) (by decide) (by decide +kernel) ⟨Nat.le_of_ble_eq_true rfl, Nat.le_of_ble_eq_true rfl⟩ rfl dX12_init_98 dX12_init_100 hP10 hD10 hS10 (fun H11 lo11 hP11 hD11 hS11 => ?_)
  clear hP10 hD10 hS10
  refine W.eq (g2 := F0 m 103 ls []) rfl ?_
  refine lv_aload_n hx hb dX12_init_103 rfl (lv_at hl 0 rfl) ?_
  refine lv_sipush (v := 4000) hx hb dX12_init_104 (by decide) ?_
  refine rin (i := 11) (k := 20) (j := 45) (sl := 33900) rfl hx hb hts hown hin hK hA had z0_S0 rfl (by decide +kernel) (by decide) (by decide +kernel) ⟨Nat.le_of_ble_eq_true rfl, Nat.le_of_ble_eq_true rfl⟩ rfl dX12_init_107 dX12_init_109 hP11 hD11 hS11 (fun H12 lo12 hP12 hD12 hS12 => ?_)
  clear hP11 hD11 hS11
  refine W.eq (g2 := F0 m 112 ls []) rfl ?_
  refine lv_aload_n hx hb dX12_init_112 rfl (lv_at hl 0 rfl) ?_
  refine lv_sipush (v := 4000) hx hb dX12_init_113 (by decide) ?_
  refine rin (i := 12) (k := 21) (j := 48) (sl := 37900) rfl hx hb hts hown hin hK hA had z0_S0 rfl (by decide +kernel) (by decide) (by decide +kernel) ⟨Nat.le_of_ble_eq_true rfl, Nat.le_of_ble_eq_true rfl⟩ rfl dX12_init_116 dX12_init_118 hP12 hD12 hS12 (fun H13 lo13 hP13 hD13 hS13 => ?_)
  clear hP12 hD12 hS12
  refine W.eq (g2 := F0 m 121 ls []) rfl ?_
  refine lv_aload_n hx hb dX12_init_121 rfl (lv_at hl 0 rfl) ?_
  refine lv_sipush (v := 4000) hx hb dX12_init_122 (by decide) ?_
  refine rin (i := 13) (k := 22) (j := 51) (sl := 41900) rfl hx hb hts hown hin hK hA had z0_S0 rfl (by decide +kernel) (by decide) (by decide +kernel) ⟨Nat.le_of_ble_eq_true rfl, Nat.le_of_ble_eq_true rfl⟩ rfl dX12_init_125 dX12_init_127 hP13 hD13 hS13 (fun H14 lo14 hP14 hD14 hS14 => ?_)
  clear hP13 hD13 hS13
  refine W.eq (g2 := F0 m 130 ls []) rfl ?_
  refine lv_aload_n hx hb dX12_init_130 rfl (lv_at hl 0 rfl) ?_
  refine lv_sipush (v := 4000) hx hb dX12_init_131 (by decide) ?_
  refine rin (i := 14) (k := 23) (j := 54) (sl := 45900) rfl hx hb hts hown hin hK hA had z0_S0 rfl (by decide +kernel) (by decide) (by decide +kernel) ⟨Nat.le_of_ble_eq_true rfl, Nat.le_of_ble_eq_true rfl⟩ rfl dX12_init_134 dX12_init_136 hP14 hD14 hS14 (fun H15 lo15 hP15 hD15 hS15 => ?_)
  clear hP14 hD14 hS14
  refine W.eq (g2 := F0 m 139 ls []) rfl ?_
  refine lv_aload_n hx hb dX12_init_139 rfl (lv_at hl 0 rfl) ?_
  refine lv_sipush (v := 4000) hx hb dX12_init_140 (by decide) ?_
  refine rin (i := 15) (k := 24) (j := 57) (sl := 49900) rfl hx hb hts hown hin hK hA had z0_S0 rfl (by decide +kernel) (by decide) (by decide +kernel) ⟨Nat.le_of_ble_eq_true rfl, Nat.le_of_ble_eq_true rfl⟩ rfl dX12_init_143 dX12_init_145 hP15 hD15 hS15 (fun H16 lo16 hP16 hD16 hS16 => ?_)
  clear hP15 hD15 hS15
  refine W.eq (g2 := F0 m 148 ls []) rfl ?_
  refine lv_aload_n hx hb dX12_init_148 rfl (lv_at hl 0 rfl) ?_
  refine lv_sipush (v := 600) hx hb dX12_init_149 (by decide) ?_
  refine rin (i := 16) (k := 25) (j := 60) (sl := 50500) rfl hx hb hts hown hin hK hA had z0_S0 rfl (by decide +kernel) (by decide) (by decide +kernel) ⟨Nat.le_of_ble_eq_true rfl, Nat.le_of_ble_eq_true rfl⟩ rfl dX12_init_152 dX12_init_154 hP16 hD16 hS16 (fun H17 lo17 hP17 hD17 hS17 => ?_)
  clear hP16 hD16 hS16
  refine W.eq (g2 := F0 m 157 ls []) rfl ?_
  refine lv_aload_n hx hb dX12_init_157 rfl (lv_at hl 0 rfl) ?_
  refine lv_sipush (v := 600) hx hb dX12_init_158 (by decide) ?_
  refine rin (i := 17) (k := 26) (j := 63) (sl := 51100) rfl hx hb hts hown hin hK hA had z0_S0 rfl (by decide +kernel) (by decide) (by decide +kernel) ⟨Nat.le_of_ble_eq_true rfl, Nat.le_of_ble_eq_true rfl⟩ rfl dX12_init_161 dX12_init_163 hP17 hD17 hS17 (fun H18 lo18 hP18 hD18 hS18 => ?_)
  clear hP17 hD17 hS17
  refine W.eq (g2 := F0 m 166 ls []) rfl ?_
  refine lv_aload_n hx hb dX12_init_166 rfl (lv_at hl 0 rfl) ?_
  refine lv_sipush (v := 600) hx hb dX12_init_167 (by decide) ?_
  refine rin (i := 18) (k := 27) (j := 66) (sl := 51700) rfl hx hb hts hown hin hK hA had z0_S0 rfl (by decide +kernel) (by decide) (by decide +kernel) ⟨Nat.le_of_ble_eq_true rfl, Nat.le_of_ble_eq_true rfl⟩ rfl dX12_init_170 dX12_init_172 hP18 hD18 hS18 (fun H19 lo19 hP19 hD19 hS19 => ?_)
  clear hP18 hD18 hS18
  refine W.eq (g2 := F0 m 175 ls []) rfl ?_
  refine lv_aload_n hx hb dX12_init_175 rfl (lv_at hl 0 rfl) ?_
  refine lv_sipush (v := 600) hx hb dX12_init_176 (by decide) ?_
  refine rin (i := 19) (k := 28) (j := 69) (sl := 52300) rfl hx hb hts hown hin hK hA had z0_S0 rfl (by decide +kernel) (by decide) (by decide +kernel) ⟨Nat.le_of_ble_eq_true rfl, Nat.le_of_ble_eq_true rfl⟩ rfl dX12_init_179 dX12_init_181 hP19 hD19 hS19 (fun H20 lo20 hP20 hD20 hS20 => ?_)
  clear hP19 hD19 hS19
  refine W.eq (g2 := F0 m 184 ls []) rfl ?_
  refine lv_aload_n hx hb dX12_init_184 rfl (lv_at hl 0 rfl) ?_
  refine lv_sipush (v := 600) hx hb dX12_init_185 (by decide) ?_
  refine rin (i := 20) (k := 30) (j := 72) (sl := 52900) rfl hx hb hts hown hin hK hA had z0_S0 rfl (by decide +kernel) (by decide) (by decide +kernel) ⟨Nat.le_of_ble_eq_true rfl, Nat.le_of_ble_eq_true rfl⟩ rfl dX12_init_188 dX12_init_190 hP20 hD20 hS20 (fun H21 lo21 hP21 hD21 hS21 => ?_)
  clear hP20 hD20 hS20
  refine W.eq (g2 := F0 m 193 ls []) rfl ?_
  refine lv_aload_n hx hb dX12_init_193 rfl (lv_at hl 0 rfl) ?_
  refine lv_bipush (v := 16) hx hb dX12_init_194 (by decide) ?_
  refine rin (i := 21) (k := 37) (j := 75) (sl := 52916) rfl hx hb hts hown hin hK hA had z0_S0 rfl (by decide +kernel) (by decide) (by decide +kernel) ⟨Nat.le_of_ble_eq_true rfl, Nat.le_of_ble_eq_true rfl⟩ rfl dX12_init_196 dX12_init_198 hP21 hD21 hS21 (fun H22 lo22 hP22 hD22 hS22 => ?_)
  clear hP21 hD21 hS21
  refine W.eq (g2 := F0 m 201 ls []) rfl ?_
  refine lv_aload_n hx hb dX12_init_201 rfl (lv_at hl 0 rfl) ?_
  refine lv_bipush (v := 16) hx hb dX12_init_202 (by decide) ?_
  refine rin (i := 22) (k := 38) (j := 78) (sl := 52932) rfl hx hb hts hown hin hK hA had z0_S0 rfl (by decide +kernel) (by decide) (by decide +kernel) ⟨Nat.le_of_ble_eq_true rfl, Nat.le_of_ble_eq_true rfl⟩ rfl dX12_init_204 dX12_init_206 hP22 hD22 hS22 (fun H23 lo23 hP23 hD23 hS23 => ?_)
  clear hP22 hD22 hS22
  refine W.eq (g2 := F0 m 209 ls []) rfl ?_
  refine lv_aload_n hx hb dX12_init_209 rfl (lv_at hl 0 rfl) ?_
  refine lv_bipush (v := 16) hx hb dX12_init_210 (by decide) ?_
  refine rin (i := 23) (k := 39) (j := 81) (sl := 52948) rfl hx hb hts hown hin hK hA had z0_S0 rfl (by decide +kernel) (by decide) (by decide +kernel) ⟨Nat.le_of_ble_eq_true rfl, Nat.le_of_ble_eq_true rfl⟩ rfl dX12_init_212 dX12_init_214 hP23 hD23 hS23 (fun H24 lo24 hP24 hD24 hS24 => ?_)
  clear hP23 hD23 hS23
  refine W.eq (g2 := F0 m 217 ls []) rfl ?_
  refine lv_aload_n hx hb dX12_init_217 rfl (lv_at hl 0 rfl) ?_
  refine lv_bipush (v := 16) hx hb dX12_init_218 (by decide) ?_
  refine rin (i := 24) (k := 40) (j := 84) (sl := 52964) rfl hx hb hts hown hin hK hA had z0_S0 rfl (by decide +kernel) (by decide) (by decide +kernel) ⟨Nat.le_of_ble_eq_true rfl, Nat.le_of_ble_eq_true rfl⟩ rfl dX12_init_220 dX12_init_222 hP24 hD24 hS24 (fun H25 lo25 hP25 hD25 hS25 => ?_)
  clear hP24 hD24 hS24
  refine W.eq (g2 := F0 m 225 ls []) rfl ?_
  refine lv_aload_n hx hb dX12_init_225 rfl (lv_at hl 0 rfl) ?_
  refine lv_bipush (v := 16) hx hb dX12_init_226 (by decide) ?_
  refine rin (i := 25) (k := 41) (j := 87) (sl := 52980) rfl hx hb hts hown hin hK hA had z0_S0 rfl (by decide +kernel) (by decide) (by decide +kernel) ⟨Nat.le_of_ble_eq_true rfl, Nat.le_of_ble_eq_true rfl⟩ rfl dX12_init_228 dX12_init_230 hP25 hD25 hS25 (fun H26 lo26 hP26 hD26 hS26 => ?_)
  clear hP25 hD25 hS25
  refine W.eq (g2 := F0 m 233 ls []) rfl ?_
  refine lv_aload_n hx hb dX12_init_233 rfl (lv_at hl 0 rfl) ?_
  refine lv_bipush (v := 64) hx hb dX12_init_234 (by decide) ?_
  refine rin (i := 26) (k := 43) (j := 90) (sl := 53044) rfl hx hb hts hown hin hK hA had z0_S0 rfl (by decide +kernel) (by decide) (by decide +kernel) ⟨Nat.le_of_ble_eq_true rfl, Nat.le_of_ble_eq_true rfl⟩ rfl dX12_init_236 dX12_init_238 hP26 hD26 hS26 (fun H27 lo27 hP27 hD27 hS27 => ?_)
  clear hP26 hD26 hS26
  refine W.eq (g2 := F0 m 241 ls []) rfl ?_
  refine lv_aload_n hx hb dX12_init_241 rfl (lv_at hl 0 rfl) ?_
  refine lv_bipush (v := 64) hx hb dX12_init_242 (by decide) ?_
  refine rin (i := 27) (k := 44) (j := 93) (sl := 53108) rfl hx hb hts hown hin hK hA had z0_S0 rfl (by decide +kernel) (by decide) (by decide +kernel) ⟨Nat.le_of_ble_eq_true rfl, Nat.le_of_ble_eq_true rfl⟩ rfl dX12_init_244 dX12_init_246 hP27 hD27 hS27 (fun H28 lo28 hP28 hD28 hS28 => ?_)
  clear hP27 hD27 hS27
  refine W.eq (g2 := F0 m 249 ls []) rfl ?_
  refine lv_aload_n hx hb dX12_init_249 rfl (lv_at hl 0 rfl) ?_
  refine lv_bipush (v := 64) hx hb dX12_init_250 (by decide) ?_
  refine rin (i := 28) (k := 45) (j := 96) (sl := 53172) rfl hx hb hts hown hin hK hA had z0_S0 rfl (by decide +kernel) (by decide) (by decide +kernel) ⟨Nat.le_of_ble_eq_true rfl, Nat.le_of_ble_eq_true rfl⟩ rfl dX12_init_252 dX12_init_254 hP28 hD28 hS28 (fun H29 lo29 hP29 hD29 hS29 => ?_)
  clear hP28 hD28 hS28
  refine W.eq (g2 := F0 m 257 ls []) rfl ?_
  refine lv_aload_n hx hb dX12_init_257 rfl (lv_at hl 0 rfl) ?_
  refine lv_bipush (v := 64) hx hb dX12_init_258 (by decide) ?_
  refine rin (i := 29) (k := 46) (j := 99) (sl := 53236) rfl hx hb hts hown hin hK hA had z0_S0 rfl (by decide +kernel) (by decide) (by decide +kernel) ⟨Nat.le_of_ble_eq_true rfl, Nat.le_of_ble_eq_true rfl⟩ rfl dX12_init_260 dX12_init_262 hP29 hD29 hS29 (fun H30 lo30 hP30 hD30 hS30 => ?_)
  clear hP29 hD29 hS29
  refine W.eq (g2 := F0 m 265 ls []) rfl ?_
  refine lv_aload_n hx hb dX12_init_265 rfl (lv_at hl 0 rfl) ?_
  refine lv_bipush (v := 64) hx hb dX12_init_266 (by decide) ?_
  refine rin (i := 30) (k := 47) (j := 102) (sl := 53300) rfl hx hb hts hown hin hK hA had z0_S0 rfl (by decide +kernel) (by decide) (by decide +kernel) ⟨Nat.le_of_ble_eq_true rfl, Nat.le_of_ble_eq_true rfl⟩ rfl dX12_init_268 dX12_init_270 hP30 hD30 hS30 (fun H31 lo31 hP31 hD31 hS31 => ?_)
  clear hP30 hD30 hS30
  refine W.eq (g2 := F0 m 273 ls []) rfl ?_
  refine lv_aload_n hx hb dX12_init_273 rfl (lv_at hl 0 rfl) ?_
  refine lv_bipush (v := 64) hx hb dX12_init_274 (by decide) ?_
  refine rin (i := 31) (k := 48) (j := 105) (sl := 53364) rfl hx hb hts hown hin hK hA had z0_S0 rfl (by decide +kernel) (by decide) (by decide +kernel) ⟨Nat.le_of_ble_eq_true rfl, Nat.le_of_ble_eq_true rfl⟩ rfl dX12_init_276 dX12_init_278 hP31 hD31 hS31 (fun H32 lo32 hP32 hD32 hS32 => ?_)
  clear hP31 hD31 hS31
  refine W.eq (g2 := F0 m 281 ls []) rfl ?_
  refine lv_aload_n hx hb dX12_init_281 rfl (lv_at hl 0 rfl) ?_
  refine lv_sipush (v := 600) hx hb dX12_init_282 (by decide) ?_
  refine rin (i := 32) (k := 50) (j := 108) (sl := 53964) rfl hx hb hts hown hin hK hA had z0_S0 rfl (by decide +kernel) (by decide) (by decide +kernel) ⟨Nat.le_of_ble_eq_true rfl, Nat.le_of_ble_eq_true rfl⟩ rfl dX12_init_285 dX12_init_287 hP32 hD32 hS32 (fun H33 lo33 hP33 hD33 hS33 => ?_)
  clear hP32 hD32 hS32
  refine W.eq (g2 := F0 m 290 ls []) rfl ?_
  refine lv_aload_n hx hb dX12_init_290 rfl (lv_at hl 0 rfl) ?_
  refine lv_sipush (v := 600) hx hb dX12_init_291 (by decide) ?_
  refine rin (i := 33) (k := 51) (j := 111) (sl := 54564) rfl hx hb hts hown hin hK hA had z0_S0 rfl (by decide +kernel) (by decide) (by decide +kernel) ⟨Nat.le_of_ble_eq_true rfl, Nat.le_of_ble_eq_true rfl⟩ rfl dX12_init_294 dX12_init_296 hP33 hD33 hS33 (fun H34 lo34 hP34 hD34 hS34 => ?_)
  clear hP33 hD33 hS33
  refine W.eq (g2 := F0 m 299 ls []) rfl ?_
  refine lv_aload_n hx hb dX12_init_299 rfl (lv_at hl 0 rfl) ?_
  refine lv_sipush (v := 600) hx hb dX12_init_300 (by decide) ?_
  refine rin (i := 34) (k := 52) (j := 114) (sl := 55164) rfl hx hb hts hown hin hK hA had z0_S0 rfl (by decide +kernel) (by decide) (by decide +kernel) ⟨Nat.le_of_ble_eq_true rfl, Nat.le_of_ble_eq_true rfl⟩ rfl dX12_init_303 dX12_init_305 hP34 hD34 hS34 (fun H35 lo35 hP35 hD35 hS35 => ?_)
  clear hP34 hD34 hS34
  refine W.eq (g2 := F0 m 308 ls []) rfl ?_
  refine lv_aload_n hx hb dX12_init_308 rfl (lv_at hl 0 rfl) ?_
  refine lv_sipush (v := 600) hx hb dX12_init_309 (by decide) ?_
  refine rin (i := 35) (k := 53) (j := 117) (sl := 55764) rfl hx hb hts hown hin hK hA had z0_S0 rfl (by decide +kernel) (by decide) (by decide +kernel) ⟨Nat.le_of_ble_eq_true rfl, Nat.le_of_ble_eq_true rfl⟩ rfl dX12_init_312 dX12_init_314 hP35 hD35 hS35 (fun H36 lo36 hP36 hD36 hS36 => ?_)
  clear hP35 hD35 hS35
  refine W.eq (g2 := F0 m 317 ls []) rfl ?_
  refine lv_aload_n hx hb dX12_init_317 rfl (lv_at hl 0 rfl) ?_
  refine lv_sipush (v := 600) hx hb dX12_init_318 (by decide) ?_
  refine rin (i := 36) (k := 54) (j := 120) (sl := 56364) rfl hx hb hts hown hin hK hA had z0_S0 rfl (by decide +kernel) (by decide) (by decide +kernel) ⟨Nat.le_of_ble_eq_true rfl, Nat.le_of_ble_eq_true rfl⟩ rfl dX12_init_321 dX12_init_323 hP36 hD36 hS36 (fun H37 lo37 hP37 hD37 hS37 => ?_)
  clear hP36 hD36 hS36
  refine W.eq (g2 := F0 m 326 ls []) rfl ?_
  refine lv_aload_n hx hb dX12_init_326 rfl (lv_at hl 0 rfl) ?_
  refine lv_sipush (v := 600) hx hb dX12_init_327 (by decide) ?_
  refine rin (i := 37) (k := 55) (j := 123) (sl := 56964) rfl hx hb hts hown hin hK hA had z0_S0 rfl (by decide +kernel) (by decide) (by decide +kernel) ⟨Nat.le_of_ble_eq_true rfl, Nat.le_of_ble_eq_true rfl⟩ rfl dX12_init_330 dX12_init_332 hP37 hD37 hS37 (fun H38 lo38 hP38 hD38 hS38 => ?_)
  clear hP37 hD37 hS37
  refine W.eq (g2 := F0 m 335 ls []) rfl ?_
  refine lv_aload_n hx hb dX12_init_335 rfl (lv_at hl 0 rfl) ?_
  refine lv_sipush (v := 600) hx hb dX12_init_336 (by decide) ?_
  refine rin (i := 38) (k := 56) (j := 126) (sl := 57564) rfl hx hb hts hown hin hK hA had z0_S0 rfl (by decide +kernel) (by decide) (by decide +kernel) ⟨Nat.le_of_ble_eq_true rfl, Nat.le_of_ble_eq_true rfl⟩ rfl dX12_init_339 dX12_init_341 hP38 hD38 hS38 (fun H39 lo39 hP39 hD39 hS39 => ?_)
  clear hP38 hD38 hS38
  refine W.eq (g2 := F0 m 344 ls []) rfl ?_
  refine lv_aload_n hx hb dX12_init_344 rfl (lv_at hl 0 rfl) ?_
  refine lv_sipush (v := 600) hx hb dX12_init_345 (by decide) ?_
  refine rin (i := 39) (k := 57) (j := 129) (sl := 58164) rfl hx hb hts hown hin hK hA had z0_S0 rfl (by decide +kernel) (by decide) (by decide +kernel) ⟨Nat.le_of_ble_eq_true rfl, Nat.le_of_ble_eq_true rfl⟩ rfl dX12_init_348 dX12_init_350 hP39 hD39 hS39 (fun H40 lo40 hP40 hD40 hS40 => ?_)
  clear hP39 hD39 hS39
  refine W.eq (g2 := F0 m 353 ls []) rfl ?_
  refine lv_aload_n hx hb dX12_init_353 rfl (lv_at hl 0 rfl) ?_
  refine lv_sipush (v := 600) hx hb dX12_init_354 (by decide) ?_
  refine rin (i := 40) (k := 58) (j := 132) (sl := 58764) rfl hx hb hts hown hin hK hA had z0_S0 rfl (by decide +kernel) (by decide) (by decide +kernel) ⟨Nat.le_of_ble_eq_true rfl, Nat.le_of_ble_eq_true rfl⟩ rfl dX12_init_357 dX12_init_359 hP40 hD40 hS40 (fun H41 lo41 hP41 hD41 hS41 => ?_)
  clear hP40 hD40 hS40
  refine W.eq (g2 := F0 m 362 ls []) rfl ?_
  refine lv_aload_n hx hb dX12_init_362 rfl (lv_at hl 0 rfl) ?_
  refine lv_sipush (v := 600) hx hb dX12_init_363 (by decide) ?_
  refine rin (i := 41) (k := 59) (j := 135) (sl := 59364) rfl hx hb hts hown hin hK hA had z0_S0 rfl (by decide +kernel) (by decide) (by decide +kernel) ⟨Nat.le_of_ble_eq_true rfl, Nat.le_of_ble_eq_true rfl⟩ rfl dX12_init_366 dX12_init_368 hP41 hD41 hS41 (fun H42 lo42 hP42 hD42 hS42 => ?_)
  clear hP41 hD41 hS41
  refine W.eq (g2 := F0 m 371 ls []) rfl ?_
  refine lv_aload_n hx hb dX12_init_371 rfl (lv_at hl 0 rfl) ?_
  refine lv_sipush (v := 600) hx hb dX12_init_372 (by decide) ?_
  refine rin (i := 42) (k := 60) (j := 138) (sl := 59964) rfl hx hb hts hown hin hK hA had z0_S0 rfl (by decide +kernel) (by decide) (by decide +kernel) ⟨Nat.le_of_ble_eq_true rfl, Nat.le_of_ble_eq_true rfl⟩ rfl dX12_init_375 dX12_init_377 hP42 hD42 hS42 (fun H43 lo43 hP43 hD43 hS43 => ?_)
  clear hP42 hD42 hS42
  refine W.eq (g2 := F0 m 380 ls []) rfl ?_
  refine lv_aload_n hx hb dX12_init_380 rfl (lv_at hl 0 rfl) ?_
  refine lv_sipush (v := 600) hx hb dX12_init_381 (by decide) ?_
  refine rin (i := 43) (k := 61) (j := 141) (sl := 60564) rfl hx hb hts hown hin hK hA had z0_S0 rfl (by decide +kernel) (by decide) (by decide +kernel) ⟨Nat.le_of_ble_eq_true rfl, Nat.le_of_ble_eq_true rfl⟩ rfl dX12_init_384 dX12_init_386 hP43 hD43 hS43 (fun H44 lo44 hP44 hD44 hS44 => ?_)
  clear hP43 hD43 hS43
  refine W.eq (g2 := F0 m 389 ls []) rfl ?_
  refine lv_aload_n hx hb dX12_init_389 rfl (lv_at hl 0 rfl) ?_
  refine lv_bipush (v := 80) hx hb dX12_init_390 (by decide) ?_
  refine rin (i := 44) (k := 63) (j := 144) (sl := 60644) rfl hx hb hts hown hin hK hA had z0_S0 rfl (by decide +kernel) (by decide) (by decide +kernel) ⟨Nat.le_of_ble_eq_true rfl, Nat.le_of_ble_eq_true rfl⟩ rfl dX12_init_392 dX12_init_394 hP44 hD44 hS44 (fun H45 lo45 hP45 hD45 hS45 => ?_)
  clear hP44 hD44 hS44
  refine W.eq (g2 := F0 m 397 ls []) rfl ?_
  refine lv_aload_n hx hb dX12_init_397 rfl (lv_at hl 0 rfl) ?_
  refine lv_bipush (v := 80) hx hb dX12_init_398 (by decide) ?_
  refine rin (i := 45) (k := 64) (j := 147) (sl := 60724) rfl hx hb hts hown hin hK hA had z0_S0 rfl (by decide +kernel) (by decide) (by decide +kernel) ⟨Nat.le_of_ble_eq_true rfl, Nat.le_of_ble_eq_true rfl⟩ rfl dX12_init_400 dX12_init_402 hP45 hD45 hS45 (fun H46 lo46 hP46 hD46 hS46 => ?_)
  clear hP45 hD45 hS45
  refine W.eq (g2 := F0 m 405 ls []) rfl ?_
  refine lv_aload_n hx hb dX12_init_405 rfl (lv_at hl 0 rfl) ?_
  refine lv_bipush (v := 80) hx hb dX12_init_406 (by decide) ?_
  refine rin (i := 46) (k := 65) (j := 150) (sl := 60804) rfl hx hb hts hown hin hK hA had z0_S0 rfl (by decide +kernel) (by decide) (by decide +kernel) ⟨Nat.le_of_ble_eq_true rfl, Nat.le_of_ble_eq_true rfl⟩ rfl dX12_init_408 dX12_init_410 hP46 hD46 hS46 (fun H47 lo47 hP47 hD47 hS47 => ?_)
  clear hP46 hD46 hS46
  refine W.eq (g2 := F0 m 413 ls []) rfl ?_
  refine lv_aload_n hx hb dX12_init_413 rfl (lv_at hl 0 rfl) ?_
  refine lv_sipush (v := 700) hx hb dX12_init_414 (by decide) ?_
  refine rin (i := 47) (k := 70) (j := 153) (sl := 61504) rfl hx hb hts hown hin hK hA had z0_S0 rfl (by decide +kernel) (by decide) (by decide +kernel) ⟨Nat.le_of_ble_eq_true rfl, Nat.le_of_ble_eq_true rfl⟩ rfl dX12_init_417 dX12_init_419 hP47 hD47 hS47 (fun H48 lo48 hP48 hD48 hS48 => ?_)
  clear hP47 hD47 hS47
  refine W.eq (g2 := F0 m 422 ls []) rfl ?_
  refine lv_aload_n hx hb dX12_init_422 rfl (lv_at hl 0 rfl) ?_
  refine lv_sipush (v := 700) hx hb dX12_init_423 (by decide) ?_
  refine rin (i := 48) (k := 71) (j := 156) (sl := 62204) rfl hx hb hts hown hin hK hA had z0_S0 rfl (by decide +kernel) (by decide) (by decide +kernel) ⟨Nat.le_of_ble_eq_true rfl, Nat.le_of_ble_eq_true rfl⟩ rfl dX12_init_426 dX12_init_428 hP48 hD48 hS48 (fun H49 lo49 hP49 hD49 hS49 => ?_)
  clear hP48 hD48 hS48
  refine W.eq (g2 := F0 m 431 ls []) rfl ?_
  refine lv_aload_n hx hb dX12_init_431 rfl (lv_at hl 0 rfl) ?_
  refine lv_sipush (v := 700) hx hb dX12_init_432 (by decide) ?_
  refine rin (i := 49) (k := 72) (j := 159) (sl := 62904) rfl hx hb hts hown hin hK hA had z0_S0 rfl (by decide +kernel) (by decide) (by decide +kernel) ⟨Nat.le_of_ble_eq_true rfl, Nat.le_of_ble_eq_true rfl⟩ rfl dX12_init_435 dX12_init_437 hP49 hD49 hS49 (fun H50 lo50 hP50 hD50 hS50 => ?_)
  clear hP49 hD49 hS49
  refine W.eq (g2 := F0 m 440 ls []) rfl ?_
  refine lv_aload_n hx hb dX12_init_440 rfl (lv_at hl 0 rfl) ?_
  refine lv_sipush (v := 700) hx hb dX12_init_441 (by decide) ?_
  refine rin (i := 50) (k := 73) (j := 162) (sl := 63604) rfl hx hb hts hown hin hK hA had z0_S0 rfl (by decide +kernel) (by decide) (by decide +kernel) ⟨Nat.le_of_ble_eq_true rfl, Nat.le_of_ble_eq_true rfl⟩ rfl dX12_init_444 dX12_init_446 hP50 hD50 hS50 (fun H51 lo51 hP51 hD51 hS51 => ?_)
  clear hP50 hD50 hS50
  refine W.eq (g2 := F0 m 449 ls []) rfl ?_
  refine lv_aload_n hx hb dX12_init_449 rfl (lv_at hl 0 rfl) ?_
  refine lv_sipush (v := 2000) hx hb dX12_init_450 (by decide) ?_
  refine rin (i := 51) (k := 75) (j := 165) (sl := 65604) rfl hx hb hts hown hin hK hA had z0_S0 rfl (by decide +kernel) (by decide) (by decide +kernel) ⟨Nat.le_of_ble_eq_true rfl, Nat.le_of_ble_eq_true rfl⟩ rfl dX12_init_453 dX12_init_455 hP51 hD51 hS51 (fun H52 lo52 hP52 hD52 hS52 => ?_)
  clear hP51 hD51 hS51
  refine W.eq (g2 := F0 m 458 ls []) rfl ?_
  refine lv_aload_n hx hb dX12_init_458 rfl (lv_at hl 0 rfl) ?_
  refine lv_sipush (v := 2000) hx hb dX12_init_459 (by decide) ?_
  refine rin (i := 52) (k := 76) (j := 168) (sl := 67604) rfl hx hb hts hown hin hK hA had z0_S0 rfl (by decide +kernel) (by decide) (by decide +kernel) ⟨Nat.le_of_ble_eq_true rfl, Nat.le_of_ble_eq_true rfl⟩ rfl dX12_init_462 dX12_init_464 hP52 hD52 hS52 (fun H53 lo53 hP53 hD53 hS53 => ?_)
  clear hP52 hD52 hS52
  refine W.eq (g2 := F0 m 467 ls []) rfl ?_
  refine lv_aload_n hx hb dX12_init_467 rfl (lv_at hl 0 rfl) ?_
  refine lv_sipush (v := 2000) hx hb dX12_init_468 (by decide) ?_
  refine rin (i := 53) (k := 77) (j := 171) (sl := 69604) rfl hx hb hts hown hin hK hA had z0_S0 rfl (by decide +kernel) (by decide) (by decide +kernel) ⟨Nat.le_of_ble_eq_true rfl, Nat.le_of_ble_eq_true rfl⟩ rfl dX12_init_471 dX12_init_473 hP53 hD53 hS53 (fun H54 lo54 hP54 hD54 hS54 => ?_)
  clear hP53 hD53 hS53
  refine W.eq (g2 := F0 m 476 ls []) rfl ?_
  refine lv_aload_n hx hb dX12_init_476 rfl (lv_at hl 0 rfl) ?_
  refine lv_sipush (v := 2000) hx hb dX12_init_477 (by decide) ?_
  refine rin (i := 54) (k := 78) (j := 174) (sl := 71604) rfl hx hb hts hown hin hK hA had z0_S0 rfl (by decide +kernel) (by decide) (by decide +kernel) ⟨Nat.le_of_ble_eq_true rfl, Nat.le_of_ble_eq_true rfl⟩ rfl dX12_init_480 dX12_init_482 hP54 hD54 hS54 (fun H55 lo55 hP55 hD55 hS55 => ?_)
  clear hP54 hD54 hS54
  refine W.eq (g2 := F0 m 485 ls []) rfl ?_
  refine lv_aload_n hx hb dX12_init_485 rfl (lv_at hl 0 rfl) ?_
  refine lv_sipush (v := 2000) hx hb dX12_init_486 (by decide) ?_
  refine rin (i := 55) (k := 79) (j := 177) (sl := 73604) rfl hx hb hts hown hin hK hA had z0_S0 rfl (by decide +kernel) (by decide) (by decide +kernel) ⟨Nat.le_of_ble_eq_true rfl, Nat.le_of_ble_eq_true rfl⟩ rfl dX12_init_489 dX12_init_491 hP55 hD55 hS55 (fun H56 lo56 hP56 hD56 hS56 => ?_)
  clear hP55 hD55 hS55
  refine W.eq (g2 := F0 m 494 ls []) rfl ?_
  refine lv_aload_n hx hb dX12_init_494 rfl (lv_at hl 0 rfl) ?_
  refine lv_sipush (v := 2600) hx hb dX12_init_495 (by decide) ?_
  refine rin (i := 56) (k := 80) (j := 180) (sl := 76204) rfl hx hb hts hown hin hK hA had z0_S0 rfl (by decide +kernel) (by decide) (by decide +kernel) ⟨Nat.le_of_ble_eq_true rfl, Nat.le_of_ble_eq_true rfl⟩ rfl dX12_init_498 dX12_init_500 hP56 hD56 hS56 (fun H57 lo57 hP57 hD57 hS57 => ?_)
  clear hP56 hD56 hS56
  refine W.eq (g2 := F0 m 503 ls []) rfl ?_
  refine lv_aload_n hx hb dX12_init_503 rfl (lv_at hl 0 rfl) ?_
  refine lv_sipush (v := 4000) hx hb dX12_init_504 (by decide) ?_
  refine rin (i := 57) (k := 81) (j := 183) (sl := 80204) rfl hx hb hts hown hin hK hA had z0_S0 rfl (by decide +kernel) (by decide) (by decide +kernel) ⟨Nat.le_of_ble_eq_true rfl, Nat.le_of_ble_eq_true rfl⟩ rfl dX12_init_507 dX12_init_509 hP57 hD57 hS57 (fun H58 lo58 hP58 hD58 hS58 => ?_)
  clear hP57 hD57 hS57
  refine W.eq (g2 := F0 m 512 ls []) rfl ?_
  refine lv_aload_n hx hb dX12_init_512 rfl (lv_at hl 0 rfl) ?_
  refine lv_sipush (v := 4000) hx hb dX12_init_513 (by decide) ?_
  refine rin (i := 58) (k := 82) (j := 186) (sl := 84204) rfl hx hb hts hown hin hK hA had z0_S0 rfl (by decide +kernel) (by decide) (by decide +kernel) ⟨Nat.le_of_ble_eq_true rfl, Nat.le_of_ble_eq_true rfl⟩ rfl dX12_init_516 dX12_init_518 hP58 hD58 hS58 (fun H59 lo59 hP59 hD59 hS59 => ?_)
  clear hP58 hD58 hS58
  refine W.eq (g2 := F0 m 521 ls []) rfl ?_
  refine lv_aload_n hx hb dX12_init_521 rfl (lv_at hl 0 rfl) ?_
  refine lv_sipush (v := 4000) hx hb dX12_init_522 (by decide) ?_
  refine rin (i := 59) (k := 83) (j := 189) (sl := 88204) rfl hx hb hts hown hin hK hA had z0_S0 rfl (by decide +kernel) (by decide) (by decide +kernel) ⟨Nat.le_of_ble_eq_true rfl, Nat.le_of_ble_eq_true rfl⟩ rfl dX12_init_525 dX12_init_527 hP59 hD59 hS59 (fun H60 lo60 hP60 hD60 hS60 => ?_)
  clear hP59 hD59 hS59
  refine W.eq (g2 := F0 m 530 ls []) rfl ?_
  refine lv_aload_n hx hb dX12_init_530 rfl (lv_at hl 0 rfl) ?_
  refine lv_sipush (v := 4000) hx hb dX12_init_531 (by decide) ?_
  refine rin (i := 60) (k := 84) (j := 192) (sl := 92204) rfl hx hb hts hown hin hK hA had z0_S0 rfl (by decide +kernel) (by decide) (by decide +kernel) ⟨Nat.le_of_ble_eq_true rfl, Nat.le_of_ble_eq_true rfl⟩ rfl dX12_init_534 dX12_init_536 hP60 hD60 hS60 (fun H61 lo61 hP61 hD61 hS61 => ?_)
  clear hP60 hD60 hS60
  refine W.eq (g2 := F0 m 539 ls []) rfl ?_
  refine lv_aload_n hx hb dX12_init_539 rfl (lv_at hl 0 rfl) ?_
  refine lv_sipush (v := 4000) hx hb dX12_init_540 (by decide) ?_
  refine rin (i := 61) (k := 85) (j := 195) (sl := 96204) rfl hx hb hts hown hin hK hA had z0_S0 rfl (by decide +kernel) (by decide) (by decide +kernel) ⟨Nat.le_of_ble_eq_true rfl, Nat.le_of_ble_eq_true rfl⟩ rfl dX12_init_543 dX12_init_545 hP61 hD61 hS61 (fun H62 lo62 hP62 hD62 hS62 => ?_)
  clear hP61 hD61 hS61
  refine W.eq (g2 := F0 m 548 ls []) rfl ?_
  refine lv_aload_n hx hb dX12_init_548 rfl (lv_at hl 0 rfl) ?_
  refine lv_bipush (v := 64) hx hb dX12_init_549 (by decide) ?_
  refine rin (i := 62) (k := 86) (j := 198) (sl := 96268) rfl hx hb hts hown hin hK hA had z0_S0 rfl (by decide +kernel) (by decide) (by decide +kernel) ⟨Nat.le_of_ble_eq_true rfl, Nat.le_of_ble_eq_true rfl⟩ rfl dX12_init_551 dX12_init_553 hP62 hD62 hS62 (fun H63 lo63 hP63 hD63 hS63 => ?_)
  clear hP62 hD62 hS62
  refine W.eq (g2 := F0 m 556 ls []) rfl ?_
  refine lv_aload_n hx hb dX12_init_556 rfl (lv_at hl 0 rfl) ?_
  refine lv_bipush (v := 64) hx hb dX12_init_557 (by decide) ?_
  refine rin (i := 63) (k := 87) (j := 201) (sl := 96332) rfl hx hb hts hown hin hK hA had z0_S0 rfl (by decide +kernel) (by decide) (by decide +kernel) ⟨Nat.le_of_ble_eq_true rfl, Nat.le_of_ble_eq_true rfl⟩ rfl dX12_init_559 dX12_init_561 hP63 hD63 hS63 (fun H64 lo64 hP64 hD64 hS64 => ?_)
  clear hP63 hD63 hS63
  refine W.eq (g2 := F0 m 564 ls []) rfl ?_
  refine lv_aload_n hx hb dX12_init_564 rfl (lv_at hl 0 rfl) ?_
  refine lv_sipush (v := 600) hx hb dX12_init_565 (by decide) ?_
  refine rin (i := 64) (k := 88) (j := 204) (sl := 96932) rfl hx hb hts hown hin hK hA had z0_S0 rfl (by decide +kernel) (by decide) (by decide +kernel) ⟨Nat.le_of_ble_eq_true rfl, Nat.le_of_ble_eq_true rfl⟩ rfl dX12_init_568 dX12_init_570 hP64 hD64 hS64 (fun H65 lo65 hP65 hD65 hS65 => ?_)
  clear hP64 hD64 hS64
  refine W.eq (g2 := F0 m 573 ls []) rfl ?_
  refine lv_aload_n hx hb dX12_init_573 rfl (lv_at hl 0 rfl) ?_
  refine lv_bipush (v := 80) hx hb dX12_init_574 (by decide) ?_
  refine rin (i := 65) (k := 90) (j := 207) (sl := 97012) rfl hx hb hts hown hin hK hA had z0_S0 rfl (by decide +kernel) (by decide) (by decide +kernel) ⟨Nat.le_of_ble_eq_true rfl, Nat.le_of_ble_eq_true rfl⟩ rfl dX12_init_576 dX12_init_578 hP65 hD65 hS65 (fun H66 lo66 hP66 hD66 hS66 => ?_)
  clear hP65 hD65 hS65
  refine W.eq (g2 := F0 m 581 ls []) rfl ?_
  refine lv_aload_n hx hb dX12_init_581 rfl (lv_at hl 0 rfl) ?_
  refine lv_sipush (v := 600) hx hb dX12_init_582 (by decide) ?_
  refine rin (i := 66) (k := 95) (j := 210) (sl := 97612) rfl hx hb hts hown hin hK hA had z0_S0 rfl (by decide +kernel) (by decide) (by decide +kernel) ⟨Nat.le_of_ble_eq_true rfl, Nat.le_of_ble_eq_true rfl⟩ rfl dX12_init_585 dX12_init_587 hP66 hD66 hS66 (fun H67 lo67 hP67 hD67 hS67 => ?_)
  clear hP66 hD66 hS66
  refine W.eq (g2 := F0 m 590 ls []) rfl ?_
  refine lv_aload_n hx hb dX12_init_590 rfl (lv_at hl 0 rfl) ?_
  refine lv_sipush (v := 600) hx hb dX12_init_591 (by decide) ?_
  refine rin (i := 67) (k := 96) (j := 213) (sl := 98212) rfl hx hb hts hown hin hK hA had z0_S0 rfl (by decide +kernel) (by decide) (by decide +kernel) ⟨Nat.le_of_ble_eq_true rfl, Nat.le_of_ble_eq_true rfl⟩ rfl dX12_init_594 dX12_init_596 hP67 hD67 hS67 (fun H68 lo68 hP68 hD68 hS68 => ?_)
  clear hP67 hD67 hS67
  refine W.eq (g2 := F0 m 599 ls []) rfl ?_
  refine lv_aload_n hx hb dX12_init_599 rfl (lv_at hl 0 rfl) ?_
  refine lv_sipush (v := 600) hx hb dX12_init_600 (by decide) ?_
  refine rin (i := 68) (k := 97) (j := 216) (sl := 98812) rfl hx hb hts hown hin hK hA had z0_S0 rfl (by decide +kernel) (by decide) (by decide +kernel) ⟨Nat.le_of_ble_eq_true rfl, Nat.le_of_ble_eq_true rfl⟩ rfl dX12_init_603 dX12_init_605 hP68 hD68 hS68 (fun H69 lo69 hP69 hD69 hS69 => ?_)
  clear hP68 hD68 hS68
  refine W.eq (g2 := F0 m 608 ls []) rfl ?_
  refine lv_aload_n hx hb dX12_init_608 rfl (lv_at hl 0 rfl) ?_
  refine lv_sipush (v := 600) hx hb dX12_init_609 (by decide) ?_
  refine rin (i := 69) (k := 98) (j := 219) (sl := 99412) rfl hx hb hts hown hin hK hA had z0_S0 rfl (by decide +kernel) (by decide) (by decide +kernel) ⟨Nat.le_of_ble_eq_true rfl, Nat.le_of_ble_eq_true rfl⟩ rfl dX12_init_612 dX12_init_614 hP69 hD69 hS69 (fun H70 lo70 hP70 hD70 hS70 => ?_)
  clear hP69 hD69 hS69
  refine W.eq (g2 := F0 m 617 ls []) rfl ?_
  refine lv_aload_n hx hb dX12_init_617 rfl (lv_at hl 0 rfl) ?_
  refine lv_sipush (v := 600) hx hb dX12_init_618 (by decide) ?_
  refine rin (i := 70) (k := 99) (j := 222) (sl := 100012) rfl hx hb hts hown hin hK hA had z0_S0 rfl (by decide +kernel) (by decide) (by decide +kernel) ⟨Nat.le_of_ble_eq_true rfl, Nat.le_of_ble_eq_true rfl⟩ rfl dX12_init_621 dX12_init_623 hP70 hD70 hS70 (fun H71 lo71 hP71 hD71 hS71 => ?_)
  clear hP70 hD70 hS70
  refine W.eq (g2 := F0 m 626 ls []) rfl ?_
  refine lv_aload_n hx hb dX12_init_626 rfl (lv_at hl 0 rfl) ?_
  refine lv_sipush (v := 300) hx hb dX12_init_627 (by decide) ?_
  refine rin (i := 71) (k := 101) (j := 225) (sl := 100312) rfl hx hb hts hown hin hK hA had z0_S0 rfl (by decide +kernel) (by decide) (by decide +kernel) ⟨Nat.le_of_ble_eq_true rfl, Nat.le_of_ble_eq_true rfl⟩ rfl dX12_init_630 dX12_init_632 hP71 hD71 hS71 (fun H72 lo72 hP72 hD72 hS72 => ?_)
  clear hP71 hD71 hS71
  refine W.eq (g2 := F0 m 635 ls []) rfl ?_
  refine lv_aload_n hx hb dX12_init_635 rfl (lv_at hl 0 rfl) ?_
  refine lv_sipush (v := 300) hx hb dX12_init_636 (by decide) ?_
  refine rin (i := 72) (k := 102) (j := 228) (sl := 100612) rfl hx hb hts hown hin hK hA had z0_S0 rfl (by decide +kernel) (by decide) (by decide +kernel) ⟨Nat.le_of_ble_eq_true rfl, Nat.le_of_ble_eq_true rfl⟩ rfl dX12_init_639 dX12_init_641 hP72 hD72 hS72 (fun H73 lo73 hP73 hD73 hS73 => ?_)
  clear hP72 hD72 hS72
  refine W.eq (g2 := F0 m 644 ls []) rfl ?_
  refine lv_aload_n hx hb dX12_init_644 rfl (lv_at hl 0 rfl) ?_
  refine lv_sipush (v := 600) hx hb dX12_init_645 (by decide) ?_
  refine rin (i := 73) (k := 104) (j := 231) (sl := 101212) rfl hx hb hts hown hin hK hA had z0_S0 rfl (by decide +kernel) (by decide) (by decide +kernel) ⟨Nat.le_of_ble_eq_true rfl, Nat.le_of_ble_eq_true rfl⟩ rfl dX12_init_648 dX12_init_650 hP73 hD73 hS73 (fun H74 lo74 hP74 hD74 hS74 => ?_)
  clear hP73 hD73 hS73
  refine W.eq (g2 := F0 m 653 ls []) rfl ?_
  refine lv_aload_n hx hb dX12_init_653 rfl (lv_at hl 0 rfl) ?_
  refine lv_sipush (v := 600) hx hb dX12_init_654 (by decide) ?_
  refine rin (i := 74) (k := 105) (j := 234) (sl := 101812) rfl hx hb hts hown hin hK hA had z0_S0 rfl (by decide +kernel) (by decide) (by decide +kernel) ⟨Nat.le_of_ble_eq_true rfl, Nat.le_of_ble_eq_true rfl⟩ rfl dX12_init_657 dX12_init_659 hP74 hD74 hS74 (fun H75 lo75 hP75 hD75 hS75 => ?_)
  clear hP74 hD74 hS74
  refine W.eq (g2 := F0 m 662 ls []) rfl ?_
  refine lv_aload_n hx hb dX12_init_662 rfl (lv_at hl 0 rfl) ?_
  refine lv_sipush (v := 600) hx hb dX12_init_663 (by decide) ?_
  refine rin (i := 75) (k := 106) (j := 237) (sl := 102412) rfl hx hb hts hown hin hK hA had z0_S0 rfl (by decide +kernel) (by decide) (by decide +kernel) ⟨Nat.le_of_ble_eq_true rfl, Nat.le_of_ble_eq_true rfl⟩ rfl dX12_init_666 dX12_init_668 hP75 hD75 hS75 (fun H76 lo76 hP76 hD76 hS76 => ?_)
  clear hP75 hD75 hS75
  refine W.eq (g2 := F0 m 671 ls []) rfl ?_
  refine lv_aload_n hx hb dX12_init_671 rfl (lv_at hl 0 rfl) ?_
  refine lv_sipush (v := 600) hx hb dX12_init_672 (by decide) ?_
  refine rin (i := 76) (k := 107) (j := 240) (sl := 103012) rfl hx hb hts hown hin hK hA had z0_S0 rfl (by decide +kernel) (by decide) (by decide +kernel) ⟨Nat.le_of_ble_eq_true rfl, Nat.le_of_ble_eq_true rfl⟩ rfl dX12_init_675 dX12_init_677 hP76 hD76 hS76 (fun H77 lo77 hP77 hD77 hS77 => ?_)
  clear hP76 hD76 hS76
  refine W.eq (g2 := F0 m 680 ls []) rfl ?_
  refine lv_aload_n hx hb dX12_init_680 rfl (lv_at hl 0 rfl) ?_
  refine lv_sipush (v := 600) hx hb dX12_init_681 (by decide) ?_
  refine rin (i := 77) (k := 108) (j := 243) (sl := 103612) rfl hx hb hts hown hin hK hA had z0_S0 rfl (by decide +kernel) (by decide) (by decide +kernel) ⟨Nat.le_of_ble_eq_true rfl, Nat.le_of_ble_eq_true rfl⟩ rfl dX12_init_684 dX12_init_686 hP77 hD77 hS77 (fun H78 lo78 hP78 hD78 hS78 => ?_)
  clear hP77 hD77 hS77
  refine W.eq (g2 := F0 m 689 ls []) rfl ?_
  refine lv_aload_n hx hb dX12_init_689 rfl (lv_at hl 0 rfl) ?_
  refine lv_sipush (v := 2600) hx hb dX12_init_690 (by decide) ?_
  refine rin (i := 78) (k := 109) (j := 246) (sl := 106212) rfl hx hb hts hown hin hK hA had z0_S0 rfl (by decide +kernel) (by decide) (by decide +kernel) ⟨Nat.le_of_ble_eq_true rfl, Nat.le_of_ble_eq_true rfl⟩ rfl dX12_init_693 dX12_init_695 hP78 hD78 hS78 (fun H79 lo79 hP79 hD79 hS79 => ?_)
  clear hP78 hD78 hS78
  refine W.eq (g2 := F0 m 698 ls []) rfl ?_
  refine lv_aload_n hx hb dX12_init_698 rfl (lv_at hl 0 rfl) ?_
  refine lv_sipush (v := 2600) hx hb dX12_init_699 (by decide) ?_
  refine rin (i := 79) (k := 110) (j := 249) (sl := 108812) rfl hx hb hts hown hin hK hA had z0_S0 rfl (by decide +kernel) (by decide) (by decide +kernel) ⟨Nat.le_of_ble_eq_true rfl, Nat.le_of_ble_eq_true rfl⟩ rfl dX12_init_702 dX12_init_704 hP79 hD79 hS79 (fun H80 lo80 hP80 hD80 hS80 => ?_)
  clear hP79 hD79 hS79
  refine W.eq (g2 := F0 m 707 ls []) rfl ?_
  refine lv_aload_n hx hb dX12_init_707 rfl (lv_at hl 0 rfl) ?_
  refine lv_sipush (v := 2600) hx hb dX12_init_708 (by decide) ?_
  refine rin (i := 80) (k := 111) (j := 252) (sl := 111412) rfl hx hb hts hown hin hK hA had z0_S0 rfl (by decide +kernel) (by decide) (by decide +kernel) ⟨Nat.le_of_ble_eq_true rfl, Nat.le_of_ble_eq_true rfl⟩ rfl dX12_init_711 dX12_init_713 hP80 hD80 hS80 (fun H81 lo81 hP81 hD81 hS81 => ?_)
  clear hP80 hD80 hS80
  refine W.eq (g2 := F0 m 716 ls []) rfl ?_
  refine lv_aload_n hx hb dX12_init_716 rfl (lv_at hl 0 rfl) ?_
  refine lv_sipush (v := 2500) hx hb dX12_init_717 (by decide) ?_
  refine rin (i := 81) (k := 118) (j := 255) (sl := 113912) rfl hx hb hts hown hin hK hA had z0_S0 rfl (by decide +kernel) (by decide) (by decide +kernel) ⟨Nat.le_of_ble_eq_true rfl, Nat.le_of_ble_eq_true rfl⟩ rfl dX12_init_720 dX12_init_722 hP81 hD81 hS81 (fun H82 lo82 hP82 hD82 hS82 => ?_)
  clear hP81 hD81 hS81
  refine W.eq (g2 := F0 m 725 ls []) rfl ?_
  refine lv_aload_n hx hb dX12_init_725 rfl (lv_at hl 0 rfl) ?_
  refine lv_bipush (v := (-2)) hx hb dX12_init_726 (by decide) ?_
  refine va_put (D := D) (ci := 13) (v := .int (-2)) (ty := tyX12 120) (C := RX12) (T := TX12) (N := 150) hx hb hts (fun w hw => ww_X12n_G (wG_T hw)) tyX12 tyX12_ok nmX12 hown hK hP82 hD82 hS82 0 rfl rfl 120 (by decide) (hts _ (ww_X12n_G (wG_F (q := (258, 120)) (by decide +kernel)))) (fun _ h9 => h9) rfl (tyX12_ok 120 (by decide)) rfl rfl (by rw [fRi_len]; decide) dX12_init_728 (fun Hx lox hPx hDx hSx => ?_)
  rw [RWi_setI (k := 120) (Or.inl rfl)] at hPx hDx
  replace hPx : va_P D vwCl (RWi 82 h ad cA S1n) Hx := hPx
  replace hDx : va_D A (RWi 82 h ad cA S1n) := hDx
  clear hP82 hD82 hS82
  refine W.eq (g2 := F0 m 731 ls []) rfl ?_
  refine lv_aload_n hx hb dX12_init_731 rfl (lv_at hl 0 rfl) ?_
  refine lv_bipush (v := 40) hx hb dX12_init_732 (by decide) ?_
  refine rin (i := 82) (k := 122) (j := 262) (sl := 113952) rfl hx hb hts hown hin hK hA had z0_S1 rfl (by decide +kernel) (by decide) (by decide +kernel) ⟨Nat.le_of_ble_eq_true rfl, Nat.le_of_ble_eq_true rfl⟩ rfl dX12_init_734 dX12_init_736 hPx hDx hSx (fun H83 lo83 hP83 hD83 hS83 => ?_)
  clear hPx hDx hSx
  refine W.eq (g2 := F0 m 739 ls []) rfl ?_
  refine lv_aload_n hx hb dX12_init_739 rfl (lv_at hl 0 rfl) ?_
  refine lv_bipush (v := 6) hx hb dX12_init_740 (by decide) ?_
  refine rin (i := 83) (k := 124) (j := 265) (sl := 113958) rfl hx hb hts hown hin hK hA had z0_S1 rfl (by decide +kernel) (by decide) (by decide +kernel) ⟨Nat.le_of_ble_eq_true rfl, Nat.le_of_ble_eq_true rfl⟩ rfl dX12_init_742 dX12_init_744 hP83 hD83 hS83 (fun H84 lo84 hP84 hD84 hS84 => ?_)
  clear hP83 hD83 hS83
  refine W.eq (g2 := F0 m 747 ls []) rfl ?_
  refine lv_aload_n hx hb dX12_init_747 rfl (lv_at hl 0 rfl) ?_
  refine lv_sipush (v := 4000) hx hb dX12_init_748 (by decide) ?_
  refine rin (i := 84) (k := 125) (j := 268) (sl := 117958) rfl hx hb hts hown hin hK hA had z0_S1 rfl (by decide +kernel) (by decide) (by decide +kernel) ⟨Nat.le_of_ble_eq_true rfl, Nat.le_of_ble_eq_true rfl⟩ rfl dX12_init_751 dX12_init_753 hP84 hD84 hS84 (fun H85 lo85 hP85 hD85 hS85 => ?_)
  clear hP84 hD84 hS84
  refine W.eq (g2 := F0 m 756 ls []) rfl ?_
  refine lv_aload_n hx hb dX12_init_756 rfl (lv_at hl 0 rfl) ?_
  refine lv_sipush (v := 300) hx hb dX12_init_757 (by decide) ?_
  refine rin (i := 85) (k := 126) (j := 271) (sl := 118258) rfl hx hb hts hown hin hK hA had z0_S1 rfl (by decide +kernel) (by decide) (by decide +kernel) ⟨Nat.le_of_ble_eq_true rfl, Nat.le_of_ble_eq_true rfl⟩ rfl dX12_init_760 dX12_init_762 hP85 hD85 hS85 (fun H86 lo86 hP86 hD86 hS86 => ?_)
  clear hP85 hD85 hS85
  refine W.eq (g2 := F0 m 765 ls []) rfl ?_
  refine lv_aload_n hx hb dX12_init_765 rfl (lv_at hl 0 rfl) ?_
  refine lv_sipush (v := 8000) hx hb dX12_init_766 (by decide) ?_
  refine rin (i := 86) (k := 127) (j := 274) (sl := 126258) rfl hx hb hts hown hin hK hA had z0_S1 rfl (by decide +kernel) (by decide) (by decide +kernel) ⟨Nat.le_of_ble_eq_true rfl, Nat.le_of_ble_eq_true rfl⟩ rfl dX12_init_769 dX12_init_771 hP86 hD86 hS86 (fun H87 lo87 hP87 hD87 hS87 => ?_)
  clear hP86 hD86 hS86
  refine W.eq (g2 := F0 m 774 ls []) rfl ?_
  refine lv_aload_n hx hb dX12_init_774 rfl (lv_at hl 0 rfl) ?_
  refine lv_sipush (v := 1860) hx hb dX12_init_775 (by decide) ?_
  refine rin (i := 87) (k := 130) (j := 277) (sl := 128118) rfl hx hb hts hown hin hK hA had z0_S1 rfl (by decide +kernel) (by decide) (by decide +kernel) ⟨Nat.le_of_ble_eq_true rfl, Nat.le_of_ble_eq_true rfl⟩ rfl dX12_init_778 dX12_init_780 hP87 hD87 hS87 (fun H88 lo88 hP88 hD88 hS88 => ?_)
  clear hP87 hD87 hS87
  refine W.eq (g2 := F0 m 783 ls []) rfl ?_
  refine lv_aload_n hx hb dX12_init_783 rfl (lv_at hl 0 rfl) ?_
  refine lv_bipush (v := 31) hx hb dX12_init_784 (by decide) ?_
  refine rin (i := 88) (k := 131) (j := 280) (sl := 128149) rfl hx hb hts hown hin hK hA had z0_S1 rfl (by decide +kernel) (by decide) (by decide +kernel) ⟨Nat.le_of_ble_eq_true rfl, Nat.le_of_ble_eq_true rfl⟩ rfl dX12_init_786 dX12_init_788 hP88 hD88 hS88 (fun H89 lo89 hP89 hD89 hS89 => ?_)
  clear hP88 hD88 hS88
  refine W.eq (g2 := F0 m 791 ls []) rfl ?_
  refine lv_aload_n hx hb dX12_init_791 rfl (lv_at hl 0 rfl) ?_
  refine lv_bipush (v := 31) hx hb dX12_init_792 (by decide) ?_
  refine rin (i := 89) (k := 132) (j := 283) (sl := 128180) rfl hx hb hts hown hin hK hA had z0_S1 rfl (by decide +kernel) (by decide) (by decide +kernel) ⟨Nat.le_of_ble_eq_true rfl, Nat.le_of_ble_eq_true rfl⟩ rfl dX12_init_794 dX12_init_796 hP89 hD89 hS89 (fun H90 lo90 hP90 hD90 hS90 => ?_)
  clear hP89 hD89 hS89
  refine W.eq (g2 := F0 m 799 ls []) rfl ?_
  refine lv_aload_n hx hb dX12_init_799 rfl (lv_at hl 0 rfl) ?_
  refine lv_sipush (v := 2000) hx hb dX12_init_800 (by decide) ?_
  refine rin (i := 90) (k := 134) (j := 286) (sl := 130180) rfl hx hb hts hown hin hK hA had z0_S1 rfl (by decide +kernel) (by decide) (by decide +kernel) ⟨Nat.le_of_ble_eq_true rfl, Nat.le_of_ble_eq_true rfl⟩ rfl dX12_init_803 dX12_init_805 hP90 hD90 hS90 (fun H91 lo91 hP91 hD91 hS91 => ?_)
  clear hP90 hD90 hS90
  refine W.eq (g2 := F0 m 808 ls []) rfl ?_
  refine lv_aload_n hx hb dX12_init_808 rfl (lv_at hl 0 rfl) ?_
  refine lv_sipush (v := 2000) hx hb dX12_init_809 (by decide) ?_
  refine rin (i := 91) (k := 135) (j := 289) (sl := 132180) rfl hx hb hts hown hin hK hA had z0_S1 rfl (by decide +kernel) (by decide) (by decide +kernel) ⟨Nat.le_of_ble_eq_true rfl, Nat.le_of_ble_eq_true rfl⟩ rfl dX12_init_812 dX12_init_814 hP91 hD91 hS91 (fun H92 lo92 hP92 hD92 hS92 => ?_)
  clear hP91 hD91 hS91
  refine W.eq (g2 := F0 m 817 ls []) rfl ?_
  refine lv_aload_n hx hb dX12_init_817 rfl (lv_at hl 0 rfl) ?_
  refine lv_sipush (v := 2000) hx hb dX12_init_818 (by decide) ?_
  refine rin (i := 92) (k := 136) (j := 292) (sl := 134180) rfl hx hb hts hown hin hK hA had z0_S1 rfl (by decide +kernel) (by decide) (by decide +kernel) ⟨Nat.le_of_ble_eq_true rfl, Nat.le_of_ble_eq_true rfl⟩ rfl dX12_init_821 dX12_init_823 hP92 hD92 hS92 (fun H93 lo93 hP93 hD93 hS93 => ?_)
  clear hP92 hD92 hS92
  refine W.eq (g2 := F0 m 826 ls []) rfl ?_
  refine lv_aload_n hx hb dX12_init_826 rfl (lv_at hl 0 rfl) ?_
  refine lv_sipush (v := 2000) hx hb dX12_init_827 (by decide) ?_
  refine rin (i := 93) (k := 137) (j := 295) (sl := 136180) rfl hx hb hts hown hin hK hA had z0_S1 rfl (by decide +kernel) (by decide) (by decide +kernel) ⟨Nat.le_of_ble_eq_true rfl, Nat.le_of_ble_eq_true rfl⟩ rfl dX12_init_830 dX12_init_832 hP93 hD93 hS93 (fun H94 lo94 hP94 hD94 hS94 => ?_)
  clear hP93 hD93 hS93
  refine W.eq (g2 := F0 m 835 ls []) rfl ?_
  refine lv_aload_n hx hb dX12_init_835 rfl (lv_at hl 0 rfl) ?_
  refine lv_sipush (v := 2000) hx hb dX12_init_836 (by decide) ?_
  refine rin (i := 94) (k := 138) (j := 298) (sl := 138180) rfl hx hb hts hown hin hK hA had z0_S1 rfl (by decide +kernel) (by decide) (by decide +kernel) ⟨Nat.le_of_ble_eq_true rfl, Nat.le_of_ble_eq_true rfl⟩ rfl dX12_init_839 dX12_init_841 hP94 hD94 hS94 (fun H95 lo95 hP95 hD95 hS95 => ?_)
  clear hP94 hD94 hS94
  refine W.eq (g2 := F0 m 844 ls []) rfl ?_
  refine lv_aload_n hx hb dX12_init_844 rfl (lv_at hl 0 rfl) ?_
  refine lv_sipush (v := 2000) hx hb dX12_init_845 (by decide) ?_
  refine rin (i := 95) (k := 139) (j := 301) (sl := 140180) rfl hx hb hts hown hin hK hA had z0_S1 rfl (by decide +kernel) (by decide) (by decide +kernel) ⟨Nat.le_of_ble_eq_true rfl, Nat.le_of_ble_eq_true rfl⟩ rfl dX12_init_848 dX12_init_850 hP95 hD95 hS95 (fun H96 lo96 hP96 hD96 hS96 => ?_)
  clear hP95 hD95 hS95
  refine W.eq (g2 := F0 m 853 ls []) rfl ?_
  refine lv_aload_n hx hb dX12_init_853 rfl (lv_at hl 0 rfl) ?_
  refine lv_sipush (v := 2000) hx hb dX12_init_854 (by decide) ?_
  refine rin (i := 96) (k := 140) (j := 304) (sl := 142180) rfl hx hb hts hown hin hK hA had z0_S1 rfl (by decide +kernel) (by decide) (by decide +kernel) ⟨Nat.le_of_ble_eq_true rfl, Nat.le_of_ble_eq_true rfl⟩ rfl dX12_init_857 dX12_init_859 hP96 hD96 hS96 (fun H97 lo97 hP97 hD97 hS97 => ?_)
  clear hP96 hD96 hS96
  refine W.eq (g2 := F0 m 862 ls []) rfl ?_
  refine lv_aload_n hx hb dX12_init_862 rfl (lv_at hl 0 rfl) ?_
  refine lv_sipush (v := 200) hx hb dX12_init_863 (by decide) ?_
  refine rin (i := 97) (k := 149) (j := 307) (sl := 142380) rfl hx hb hts hown hin hK hA had z0_S1 rfl (by decide +kernel) (by decide) (by decide +kernel) ⟨Nat.le_of_ble_eq_true rfl, Nat.le_of_ble_eq_true rfl⟩ rfl dX12_init_866 dX12_init_868 hP97 hD97 hS97 (fun H98 lo98 hP98 hD98 hS98 => ?_)
  clear hP97 hD97 hS97
  refine W.eq (g2 := F0 m 871 ls []) rfl ?_
  refine W.knowC (fun hc _ _ => ?_)
  have hw : 98 = 97 + 1 := rfl
  have hz1 := (hP98 98 _ (RWi_arr (j := 97) rfl (by decide))).lt
  unfold ae at hz1
  dsimp only at hz1
  rw [had, ap_at (i := 97) rfl] at hz1
  rw [RWi_end] at hP98 hD98
  exact W.vret hx hb hr (fun t ht hW => ⟨⟨(), rfl, trivial, by rw [ht]; exact hP98, hD98, by rw [ht]; omega⟩, hS98.F ht⟩) hS98.2.2 dX12_init_871
