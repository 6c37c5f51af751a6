theorem in_ps {big ws : List Cond} (ps : List Nat) (h : ws = ps.filterMap (fun i => big[i]?)) : ∀ w ∈ ws, w ∈ big := by
  intro w hw
  rw [h] at hw
  obtain ⟨i, -, hi⟩ := List.mem_filterMap.mp hw
  first | exact List.mem_of_getElem? hi | exact List.getElem?_mem hi
theorem mw_0 : Cond.selects RX11 yX11_append yX11_append ∈ lw_tbl := List.mem_of_getElem? (i := 0) (by decide +kernel)
theorem mw_1 : Cond.selects RX9 yX9_behindBlanks yX9_behindBlanks ∈ lw_tbl := List.mem_of_getElem? (i := 1) (by decide +kernel)
theorem mw_9 : Cond.selects RX7 yX7_code yX7_code ∈ lw_tbl := List.mem_of_getElem? (i := 9) (by decide +kernel)
theorem mw_147 : Cond.selects RX12 yX12_lay yX12_lay ∈ lw_tbl := List.mem_of_getElem? (i := 147) (by decide +kernel)
theorem mw_148 : Cond.selects RX12 yX12_lexer yX12_lexer ∈ lw_tbl := List.mem_of_getElem? (i := 148) (by decide +kernel)
theorem mw_157 : Cond.selects RX12 yX12_parse yX12_parse ∈ lw_tbl := List.mem_of_getElem? (i := 157) (by decide +kernel)
theorem mw_215 : Cond.selects RX12 yX12_judgeAll yX12_judgeAll ∈ lw_tbl := List.mem_of_getElem? (i := 215) (by decide +kernel)
theorem mw_216 : Cond.selects RX12 yX12_methodsTold yX12_methodsTold ∈ lw_tbl := List.mem_of_getElem? (i := 216) (by decide +kernel)
theorem mw_255 : Cond.selects RX12 yX12_flow yX12_flow ∈ lw_tbl := List.mem_of_getElem? (i := 255) (by decide +kernel)
theorem mw_256 : Cond.selects RX12 yX12_start yX12_start ∈ lw_tbl := List.mem_of_getElem? (i := 256) (by decide +kernel)
theorem mw_257 : Cond.selects RX12 yX12_be yX12_be ∈ lw_tbl := List.mem_of_getElem? (i := 257) (by decide +kernel)
theorem mw_268 : Cond.selects RX12 yX12_isGood yX12_isGood ∈ lw_tbl := List.mem_of_getElem? (i := 268) (by decide +kernel)
theorem mw_269 : Cond.selects RX12 yX12_tokens yX12_tokens ∈ lw_tbl := List.mem_of_getElem? (i := 269) (by decide +kernel)
theorem mw_270 : Cond.selects RX12 yX12_isToken yX12_isToken ∈ lw_tbl := List.mem_of_getElem? (i := 270) (by decide +kernel)
theorem mw_271 : Cond.selects RX12 yX12_expAt yX12_expAt ∈ lw_tbl := List.mem_of_getElem? (i := 271) (by decide +kernel)
theorem mw_290 : Cond.initialized RX11 ∈ lw_tbl := List.mem_of_getElem? (i := 290) (by decide +kernel)
theorem mw_291 : Cond.initialized RX6 ∈ lw_tbl := List.mem_of_getElem? (i := 291) (by decide +kernel)
theorem mw_292 : Cond.initialized RX9 ∈ lw_tbl := List.mem_of_getElem? (i := 292) (by decide +kernel)
theorem mw_293 : Cond.initialized RJ0 ∈ lw_tbl := List.mem_of_getElem? (i := 293) (by decide +kernel)
theorem mw_294 : Cond.initialized RJ1 ∈ lw_tbl := List.mem_of_getElem? (i := 294) (by decide +kernel)
theorem mw_295 : Cond.initialized RJ3 ∈ lw_tbl := List.mem_of_getElem? (i := 295) (by decide +kernel)
theorem mw_297 : Cond.initialized RJxa1e45 ∈ lw_tbl := List.mem_of_getElem? (i := 297) (by decide +kernel)
theorem mw_298 : Cond.initialized RJxc12de ∈ lw_tbl := List.mem_of_getElem? (i := 298) (by decide +kernel)
theorem mw_299 : Cond.initialized RJx4a65c ∈ lw_tbl := List.mem_of_getElem? (i := 299) (by decide +kernel)
theorem mw_300 : Cond.initialized RX5 ∈ lw_tbl := List.mem_of_getElem? (i := 300) (by decide +kernel)
theorem mw_301 : Cond.initialized RX8 ∈ lw_tbl := List.mem_of_getElem? (i := 301) (by decide +kernel)
theorem mw_302 : Cond.initialized RX7 ∈ lw_tbl := List.mem_of_getElem? (i := 302) (by decide +kernel)
theorem mw_303 : Cond.initialized RX3 ∈ lw_tbl := List.mem_of_getElem? (i := 303) (by decide +kernel)
theorem mw_304 : Cond.initialized RX2 ∈ lw_tbl := List.mem_of_getElem? (i := 304) (by decide +kernel)
theorem mw_305 : Cond.initialized RX0 ∈ lw_tbl := List.mem_of_getElem? (i := 305) (by decide +kernel)
theorem mw_306 : Cond.initialized RX4 ∈ lw_tbl := List.mem_of_getElem? (i := 306) (by decide +kernel)
theorem mw_307 : Cond.initialized RX12 ∈ lw_tbl := List.mem_of_getElem? (i := 307) (by decide +kernel)
theorem mw_308 : Cond.initialized "java/lang/Math" ∈ lw_tbl := List.mem_of_getElem? (i := 308) (by decide +kernel)
theorem mw_315 : Cond.classLink RL 7 RX11 ∈ lw_tbl := List.mem_of_getElem? (i := 315) (by decide +kernel)
theorem mw_316 : Cond.instantiable RX11 13 ∈ lw_tbl := List.mem_of_getElem? (i := 316) (by decide +kernel)
theorem mw_317 : Cond.methodLink RL 9 yX11_init ∈ lw_tbl := List.mem_of_getElem? (i := 317) (by decide +kernel)
theorem mw_318 : Cond.instanceMethod yX11_init ∈ lw_tbl := List.mem_of_getElem? (i := 318) (by decide +kernel)
set_option maxRecDepth 100000 in
theorem mw_319 : Cond.code yX11_init cX11_init 1 none ∈ lw_tbl := List.mem_of_getElem? (i := 319) rfl
theorem mw_320 : Cond.methodLink RX11 1 objectInit ∈ lw_tbl := List.mem_of_getElem? (i := 320) (by decide +kernel)
theorem mw_321 : Cond.instanceMethod objectInit ∈ lw_tbl := List.mem_of_getElem? (i := 321) (by decide +kernel)
set_option maxRecDepth 100000 in
theorem mw_322 : Cond.code objectInit ⟨#[0xb1]⟩ 1 none ∈ lw_tbl := List.mem_of_getElem? (i := 322) rfl
theorem mw_323 : Cond.classLink RX11 21 RX6 ∈ lw_tbl := List.mem_of_getElem? (i := 323) (by decide +kernel)
theorem mw_324 : Cond.instantiable RX6 9 ∈ lw_tbl := List.mem_of_getElem? (i := 324) (by decide +kernel)
theorem mw_325 : Cond.methodLink RX11 23 yX6_init ∈ lw_tbl := List.mem_of_getElem? (i := 325) (by decide +kernel)
theorem mw_326 : Cond.instanceMethod yX6_init ∈ lw_tbl := List.mem_of_getElem? (i := 326) (by decide +kernel)
set_option maxRecDepth 100000 in
theorem mw_327 : Cond.code yX6_init cX6_init 1 none ∈ lw_tbl := List.mem_of_getElem? (i := 327) rfl
theorem mw_328 : Cond.methodLink RX6 3 objectInit ∈ lw_tbl := List.mem_of_getElem? (i := 328) (by decide +kernel)
theorem mw_329 : Cond.classLink RX6 9 RX9 ∈ lw_tbl := List.mem_of_getElem? (i := 329) (by decide +kernel)
theorem mw_330 : Cond.instantiable RX9 9 ∈ lw_tbl := List.mem_of_getElem? (i := 330) (by decide +kernel)
theorem mw_331 : Cond.methodLink RX6 11 yX9_init ∈ lw_tbl := List.mem_of_getElem? (i := 331) (by decide +kernel)
theorem mw_332 : Cond.instanceMethod yX9_init ∈ lw_tbl := List.mem_of_getElem? (i := 332) (by decide +kernel)
set_option maxRecDepth 100000 in
theorem mw_333 : Cond.code yX9_init cX9_init 4 none ∈ lw_tbl := List.mem_of_getElem? (i := 333) rfl
theorem mw_334 : Cond.methodLink RX9 3 objectInit ∈ lw_tbl := List.mem_of_getElem? (i := 334) (by decide +kernel)
theorem mw_335 : Cond.stringRef "PlainJava$Tokens" 35 "boolean byte char int long void if else while do for switch case default break continue return throw try catch finally final true false" ∈ lw_tbl := List.mem_of_getElem? (i := 335) (by decide +kernel)
theorem mw_336 : Cond.methodLink RX9 37 yJ0_length_8abf5 ∈ lw_tbl := List.mem_of_getElem? (i := 336) (by decide +kernel)
theorem mw_337 : Cond.instanceMethod yJ0_length_8abf5 ∈ lw_tbl := List.mem_of_getElem? (i := 337) (by decide +kernel)
theorem mw_338 : Cond.selects RJ0 yJ0_length_8abf5 yJ0_length_8abf5 ∈ lw_tbl := List.mem_of_getElem? (i := 338) (by decide +kernel)
set_option maxRecDepth 100000 in
theorem mw_339 : Cond.code yJ0_length_8abf5 cJ0_length_8abf5 1 (some .int) ∈ lw_tbl := List.mem_of_getElem? (i := 339) rfl
theorem mw_340 : Cond.methodLink RJ0 335 yJ0_coder_7d493 ∈ lw_tbl := List.mem_of_getElem? (i := 340) (by decide +kernel)
theorem mw_341 : Cond.instanceMethod yJ0_coder_7d493 ∈ lw_tbl := List.mem_of_getElem? (i := 341) (by decide +kernel)
theorem mw_342 : Cond.selects RJ0 yJ0_coder_7d493 yJ0_coder_7d493 ∈ lw_tbl := List.mem_of_getElem? (i := 342) (by decide +kernel)
set_option maxRecDepth 100000 in
theorem mw_343 : Cond.code yJ0_coder_7d493 cJ0_coder_7d493 1 (some .byte) ∈ lw_tbl := List.mem_of_getElem? (i := 343) rfl
theorem mw_344 : Cond.fieldLink RJ0 38 "java/lang/String" "COMPACT_STRINGS" "Z" ∈ lw_tbl := List.mem_of_getElem? (i := 344) (by decide +kernel)
theorem mw_345 : Cond.laysStatic "java/lang/String" "COMPACT_STRINGS" "Z" ∈ lw_tbl := List.mem_of_getElem? (i := 345) (by decide +kernel)
theorem mw_346 : Cond.methodLink RX9 43 yJ0_charAt_5068e ∈ lw_tbl := List.mem_of_getElem? (i := 346) (by decide +kernel)
theorem mw_347 : Cond.instanceMethod yJ0_charAt_5068e ∈ lw_tbl := List.mem_of_getElem? (i := 347) (by decide +kernel)
theorem mw_348 : Cond.selects RJ0 yJ0_charAt_5068e yJ0_charAt_5068e ∈ lw_tbl := List.mem_of_getElem? (i := 348) (by decide +kernel)
set_option maxRecDepth 100000 in
theorem mw_349 : Cond.code yJ0_charAt_5068e cJ0_charAt_5068e 2 (some .char) ∈ lw_tbl := List.mem_of_getElem? (i := 349) rfl
theorem mw_350 : Cond.methodLink RJ0 492 yJ0_isLatin1_aae02 ∈ lw_tbl := List.mem_of_getElem? (i := 350) (by decide +kernel)
theorem mw_351 : Cond.instanceMethod yJ0_isLatin1_aae02 ∈ lw_tbl := List.mem_of_getElem? (i := 351) (by decide +kernel)
theorem mw_352 : Cond.selects RJ0 yJ0_isLatin1_aae02 yJ0_isLatin1_aae02 ∈ lw_tbl := List.mem_of_getElem? (i := 352) (by decide +kernel)
set_option maxRecDepth 100000 in
theorem mw_353 : Cond.code yJ0_isLatin1_aae02 cJ0_isLatin1_aae02 1 (some .boolean) ∈ lw_tbl := List.mem_of_getElem? (i := 353) rfl
theorem mw_354 : Cond.methodLink RJ0 495 yJ1_charAt_3b067 ∈ lw_tbl := List.mem_of_getElem? (i := 354) (by decide +kernel)
theorem mw_355 : Cond.static yJ1_charAt_3b067 ∈ lw_tbl := List.mem_of_getElem? (i := 355) (by decide +kernel)
set_option maxRecDepth 100000 in
theorem mw_356 : Cond.code yJ1_charAt_3b067 cJ1_charAt_3b067 2 (some .char) ∈ lw_tbl := List.mem_of_getElem? (i := 356) rfl
theorem mw_357 : Cond.methodLink RJ1 9 yJ0_checkIndex_df160 ∈ lw_tbl := List.mem_of_getElem? (i := 357) (by decide +kernel)
theorem mw_358 : Cond.static yJ0_checkIndex_df160 ∈ lw_tbl := List.mem_of_getElem? (i := 358) (by decide +kernel)
set_option maxRecDepth 100000 in
theorem mw_359 : Cond.code yJ0_checkIndex_df160 cJ0_checkIndex_df160 2 none ∈ lw_tbl := List.mem_of_getElem? (i := 359) rfl
theorem mw_360 : Cond.fieldLink RJ0 1053 "jdk/internal/util/Preconditions" "SIOOBE_FORMATTER" "Ljava/util/function/BiFunction;" ∈ lw_tbl := List.mem_of_getElem? (i := 360) (by decide +kernel)
theorem mw_361 : Cond.laysStatic "jdk/internal/util/Preconditions" "SIOOBE_FORMATTER" "Ljava/util/function/BiFunction;" ∈ lw_tbl := List.mem_of_getElem? (i := 361) (by decide +kernel)
theorem mw_362 : Cond.methodLink RJ0 1059 yJ3_checkIndex_8e157 ∈ lw_tbl := List.mem_of_getElem? (i := 362) (by decide +kernel)
theorem mw_363 : Cond.static yJ3_checkIndex_8e157 ∈ lw_tbl := List.mem_of_getElem? (i := 363) (by decide +kernel)
set_option maxRecDepth 100000 in
theorem mw_364 : Cond.code yJ3_checkIndex_8e157 cJ3_checkIndex_8e157 3 (some .int) ∈ lw_tbl := List.mem_of_getElem? (i := 364) rfl
theorem mw_384 : Cond.methodLink RX9 47 yX9_longerKey ∈ lw_tbl := List.mem_of_getElem? (i := 384) (by decide +kernel)
theorem mw_385 : Cond.static yX9_longerKey ∈ lw_tbl := List.mem_of_getElem? (i := 385) (by decide +kernel)
set_option maxRecDepth 100000 in
theorem mw_386 : Cond.code yX9_longerKey cX9_longerKey 4 (some .long) ∈ lw_tbl := List.mem_of_getElem? (i := 386) rfl
theorem mw_387 : Cond.fieldLink RX9 11 "PlainJava$Tokens" "place" "[I" ∈ lw_tbl := List.mem_of_getElem? (i := 387) (by decide +kernel)
theorem mw_391 : Cond.fieldLink RX9 15 "PlainJava$Tokens" "size" "[I" ∈ lw_tbl := List.mem_of_getElem? (i := 391) (by decide +kernel)
theorem mw_393 : Cond.fieldLink RX9 18 "PlainJava$Tokens" "code" "[I" ∈ lw_tbl := List.mem_of_getElem? (i := 393) (by decide +kernel)
theorem mw_394 : Cond.fieldLink RX7 48 "PlainJava$Tokens" "code" "[I" ∈ lw_tbl := List.mem_of_getElem? (i := 394) (by decide +kernel)
theorem mw_396 : Cond.fieldLink RX9 21 "PlainJava$Tokens" "meaning" "[I" ∈ lw_tbl := List.mem_of_getElem? (i := 396) (by decide +kernel)
theorem mw_400 : Cond.fieldLink RX9 24 "PlainJava$Tokens" "worth" "[J" ∈ lw_tbl := List.mem_of_getElem? (i := 400) (by decide +kernel)
theorem mw_403 : Cond.fieldLink RX9 60 "PlainJava$Tokens" "count" "I" ∈ lw_tbl := List.mem_of_getElem? (i := 403) (by decide +kernel)
theorem mw_404 : Cond.fieldLink RX11 111 "PlainJava$Tokens" "count" "I" ∈ lw_tbl := List.mem_of_getElem? (i := 404) (by decide +kernel)
theorem mw_405 : Cond.fieldLink RX9 28 "PlainJava$Tokens" "words" "[J" ∈ lw_tbl := List.mem_of_getElem? (i := 405) (by decide +kernel)
theorem mw_406 : Cond.fieldLink RX9 31 "PlainJava$Tokens" "text" "[B" ∈ lw_tbl := List.mem_of_getElem? (i := 406) (by decide +kernel)
theorem mw_407 : Cond.fieldLink RX9 57 "PlainJava$Tokens" "length" "I" ∈ lw_tbl := List.mem_of_getElem? (i := 407) (by decide +kernel)
theorem mw_427 : Cond.arrayClass .byte ∈ lw_tbl := List.mem_of_getElem? (i := 427) (by decide +kernel)
theorem mw_428 : Cond.arrayClass .int ∈ lw_tbl := List.mem_of_getElem? (i := 428) (by decide +kernel)
theorem mw_429 : Cond.arrayClass .long ∈ lw_tbl := List.mem_of_getElem? (i := 429) (by decide +kernel)
theorem mw_430 : Cond.classLink RX6 18 RJx4a65c ∈ lw_tbl := List.mem_of_getElem? (i := 430) (by decide +kernel)
theorem mw_431 : Cond.instantiable RJx4a65c 3 ∈ lw_tbl := List.mem_of_getElem? (i := 431) (by decide +kernel)
theorem mw_432 : Cond.methodLink RX6 20 yJx4a65c_init_da8c8 ∈ lw_tbl := List.mem_of_getElem? (i := 432) (by decide +kernel)
theorem mw_433 : Cond.instanceMethod yJx4a65c_init_da8c8 ∈ lw_tbl := List.mem_of_getElem? (i := 433) (by decide +kernel)
set_option maxRecDepth 100000 in
theorem mw_434 : Cond.code yJx4a65c_init_da8c8 cJx4a65c_init_da8c8 1 none ∈ lw_tbl := List.mem_of_getElem? (i := 434) rfl
theorem mw_435 : Cond.methodLink RJx4a65c 1 yJxc12de_init_da8c8 ∈ lw_tbl := List.mem_of_getElem? (i := 435) (by decide +kernel)
theorem mw_436 : Cond.instanceMethod yJxc12de_init_da8c8 ∈ lw_tbl := List.mem_of_getElem? (i := 436) (by decide +kernel)
set_option maxRecDepth 100000 in
theorem mw_437 : Cond.code yJxc12de_init_da8c8 cJxc12de_init_da8c8 1 none ∈ lw_tbl := List.mem_of_getElem? (i := 437) rfl
theorem mw_438 : Cond.methodLink RJxc12de 1 yJxa1e45_init_da8c8 ∈ lw_tbl := List.mem_of_getElem? (i := 438) (by decide +kernel)
theorem mw_439 : Cond.instanceMethod yJxa1e45_init_da8c8 ∈ lw_tbl := List.mem_of_getElem? (i := 439) (by decide +kernel)
set_option maxRecDepth 100000 in
theorem mw_440 : Cond.code yJxa1e45_init_da8c8 cJxa1e45_init_da8c8 1 none ∈ lw_tbl := List.mem_of_getElem? (i := 440) rfl
theorem mw_441 : Cond.methodLink RJxa1e45 1 objectInit ∈ lw_tbl := List.mem_of_getElem? (i := 441) (by decide +kernel)
theorem mw_442 : Cond.fieldLink RJx4a65c 39 "java/util/ArrayList" "DEFAULTCAPACITY_EMPTY_ELEMENTDATA" "[Ljava/lang/Object;" ∈ lw_tbl := List.mem_of_getElem? (i := 442) (by decide +kernel)
theorem mw_443 : Cond.laysStatic "java/util/ArrayList" "DEFAULTCAPACITY_EMPTY_ELEMENTDATA" "[Ljava/lang/Object;" ∈ lw_tbl := List.mem_of_getElem? (i := 443) (by decide +kernel)
theorem mw_444 : Cond.fieldLink RJx4a65c 9 "java/util/ArrayList" "elementData" "[Ljava/lang/Object;" ∈ lw_tbl := List.mem_of_getElem? (i := 444) (by decide +kernel)
theorem mw_445 : Cond.fieldLink RJx4a65c 48 "java/util/ArrayList" "size" "I" ∈ lw_tbl := List.mem_of_getElem? (i := 445) (by decide +kernel)
theorem mw_446 : Cond.fieldLink RJxc12de 7 "java/util/AbstractList" "modCount" "I" ∈ lw_tbl := List.mem_of_getElem? (i := 446) (by decide +kernel)
theorem mw_447 : Cond.fieldLink RJx4a65c 63 "java/util/ArrayList" "modCount" "I" ∈ lw_tbl := List.mem_of_getElem? (i := 447) (by decide +kernel)
theorem mw_448 : Cond.sameField "java/util/ArrayList" "java/util/AbstractList" "modCount" "I" ∈ lw_tbl := List.mem_of_getElem? (i := 448) (by decide +kernel)
theorem mw_456 : Cond.classLink RX6 34 RX5 ∈ lw_tbl := List.mem_of_getElem? (i := 456) (by decide +kernel)
theorem mw_457 : Cond.instantiable RX5 7 ∈ lw_tbl := List.mem_of_getElem? (i := 457) (by decide +kernel)
theorem mw_458 : Cond.stringRef "PlainJava$Program" 36 "out" ∈ lw_tbl := List.mem_of_getElem? (i := 458) (by decide +kernel)
theorem mw_459 : Cond.methodLink RX6 38 yX9_keyOf ∈ lw_tbl := List.mem_of_getElem? (i := 459) (by decide +kernel)
theorem mw_460 : Cond.static yX9_keyOf ∈ lw_tbl := List.mem_of_getElem? (i := 460) (by decide +kernel)
set_option maxRecDepth 100000 in
theorem mw_461 : Cond.code yX9_keyOf cX9_keyOf 4 (some .long) ∈ lw_tbl := List.mem_of_getElem? (i := 461) rfl
theorem mw_462 : Cond.methodLink RX6 42 yX5_init ∈ lw_tbl := List.mem_of_getElem? (i := 462) (by decide +kernel)
theorem mw_463 : Cond.instanceMethod yX5_init ∈ lw_tbl := List.mem_of_getElem? (i := 463) (by decide +kernel)
set_option maxRecDepth 100000 in
theorem mw_464 : Cond.code yX5_init cX5_init 6 none ∈ lw_tbl := List.mem_of_getElem? (i := 464) rfl
theorem mw_465 : Cond.methodLink RX5 3 objectInit ∈ lw_tbl := List.mem_of_getElem? (i := 465) (by decide +kernel)
theorem mw_466 : Cond.classLink RX5 15 RX8 ∈ lw_tbl := List.mem_of_getElem? (i := 466) (by decide +kernel)
theorem mw_467 : Cond.instantiable RX8 21 ∈ lw_tbl := List.mem_of_getElem? (i := 467) (by decide +kernel)
theorem mw_468 : Cond.methodLink RX5 17 yX8_init ∈ lw_tbl := List.mem_of_getElem? (i := 468) (by decide +kernel)
theorem mw_469 : Cond.instanceMethod yX8_init ∈ lw_tbl := List.mem_of_getElem? (i := 469) (by decide +kernel)
set_option maxRecDepth 100000 in
theorem mw_470 : Cond.code yX8_init cX8_init 7 none ∈ lw_tbl := List.mem_of_getElem? (i := 470) rfl
theorem mw_471 : Cond.methodLink RX8 3 objectInit ∈ lw_tbl := List.mem_of_getElem? (i := 471) (by decide +kernel)
theorem mw_472 : Cond.constantLong RX8 15 (-1) ∈ lw_tbl := List.mem_of_getElem? (i := 472) (by decide +kernel)
theorem mw_473 : Cond.fieldLink RX8 24 "PlainJava$Statement" "kind" "I" ∈ lw_tbl := List.mem_of_getElem? (i := 473) (by decide +kernel)
theorem mw_479 : Cond.fieldLink RX8 27 "PlainJava$Statement" "first" "I" ∈ lw_tbl := List.mem_of_getElem? (i := 479) (by decide +kernel)
theorem mw_485 : Cond.fieldLink RX8 30 "PlainJava$Statement" "level" "I" ∈ lw_tbl := List.mem_of_getElem? (i := 485) (by decide +kernel)
theorem mw_489 : Cond.fieldLink RX8 33 "PlainJava$Statement" "parent" "LPlainJava$Statement;" ∈ lw_tbl := List.mem_of_getElem? (i := 489) (by decide +kernel)
theorem mw_493 : Cond.fieldLink RX8 37 "PlainJava$Statement" "known" "J" ∈ lw_tbl := List.mem_of_getElem? (i := 493) (by decide +kernel)
theorem mw_522 : Cond.fieldLink RX8 9 "PlainJava$Statement" "link" "I" ∈ lw_tbl := List.mem_of_getElem? (i := 522) (by decide +kernel)
theorem mw_538 : Cond.fieldLink RX8 17 "PlainJava$Statement" "breaks" "J" ∈ lw_tbl := List.mem_of_getElem? (i := 538) (by decide +kernel)
theorem mw_540 : Cond.fieldLink RX8 21 "PlainJava$Statement" "continues" "J" ∈ lw_tbl := List.mem_of_getElem? (i := 540) (by decide +kernel)
theorem mw_589 : Cond.fieldLink RX5 24 "PlainJava$Method" "name" "I" ∈ lw_tbl := List.mem_of_getElem? (i := 589) (by decide +kernel)
theorem mw_593 : Cond.fieldLink RX5 28 "PlainJava$Method" "key" "J" ∈ lw_tbl := List.mem_of_getElem? (i := 593) (by decide +kernel)
theorem mw_595 : Cond.fieldLink RX5 32 "PlainJava$Method" "type" "I" ∈ lw_tbl := List.mem_of_getElem? (i := 595) (by decide +kernel)
theorem mw_600 : Cond.fieldLink RX5 9 "PlainJava$Method" "paramTypes" "[I" ∈ lw_tbl := List.mem_of_getElem? (i := 600) (by decide +kernel)
theorem mw_603 : Cond.fieldLink RX5 35 "PlainJava$Method" "firstVariable" "I" ∈ lw_tbl := List.mem_of_getElem? (i := 603) (by decide +kernel)
theorem mw_606 : Cond.fieldLink RX5 38 "PlainJava$Method" "params" "I" ∈ lw_tbl := List.mem_of_getElem? (i := 606) (by decide +kernel)
theorem mw_611 : Cond.fieldLink RX5 20 "PlainJava$Method" "body" "LPlainJava$Statement;" ∈ lw_tbl := List.mem_of_getElem? (i := 611) (by decide +kernel)
theorem mw_631 : Cond.stringRef "PlainJava$Program" 48 "in" ∈ lw_tbl := List.mem_of_getElem? (i := 631) (by decide +kernel)
theorem mw_632 : Cond.methodLink RX6 52 yX5_addParam ∈ lw_tbl := List.mem_of_getElem? (i := 632) (by decide +kernel)
theorem mw_633 : Cond.instanceMethod yX5_addParam ∈ lw_tbl := List.mem_of_getElem? (i := 633) (by decide +kernel)
theorem mw_634 : Cond.selects RX5 yX5_addParam yX5_addParam ∈ lw_tbl := List.mem_of_getElem? (i := 634) (by decide +kernel)
set_option maxRecDepth 100000 in
theorem mw_635 : Cond.code yX5_addParam cX5_addParam 2 none ∈ lw_tbl := List.mem_of_getElem? (i := 635) rfl
theorem mw_636 : Cond.fieldLink RX7 15 "PlainJava$Program" "tokens" "LPlainJava$Tokens;" ∈ lw_tbl := List.mem_of_getElem? (i := 636) (by decide +kernel)
theorem mw_637 : Cond.fieldLink RX6 12 "PlainJava$Program" "tokens" "LPlainJava$Tokens;" ∈ lw_tbl := List.mem_of_getElem? (i := 637) (by decide +kernel)
theorem mw_638 : Cond.fieldLink RX11 107 "PlainJava$Program" "tokens" "LPlainJava$Tokens;" ∈ lw_tbl := List.mem_of_getElem? (i := 638) (by decide +kernel)
theorem mw_640 : Cond.fieldLink RX6 21 "PlainJava$Program" "methods" "Ljava/util/ArrayList;" ∈ lw_tbl := List.mem_of_getElem? (i := 640) (by decide +kernel)
theorem mw_641 : Cond.fieldLink RX3 24 "PlainJava$Program" "methods" "Ljava/util/ArrayList;" ∈ lw_tbl := List.mem_of_getElem? (i := 641) (by decide +kernel)
theorem mw_642 : Cond.fieldLink RX2 19 "PlainJava$Program" "methods" "Ljava/util/ArrayList;" ∈ lw_tbl := List.mem_of_getElem? (i := 642) (by decide +kernel)
theorem mw_643 : Cond.fieldLink RX0 45 "PlainJava$Program" "methods" "Ljava/util/ArrayList;" ∈ lw_tbl := List.mem_of_getElem? (i := 643) (by decide +kernel)
theorem mw_644 : Cond.fieldLink RX11 95 "PlainJava$Program" "methods" "Ljava/util/ArrayList;" ∈ lw_tbl := List.mem_of_getElem? (i := 644) (by decide +kernel)
theorem mw_646 : Cond.fieldLink RX6 25 "PlainJava$Program" "variables" "Ljava/util/ArrayList;" ∈ lw_tbl := List.mem_of_getElem? (i := 646) (by decide +kernel)
theorem mw_647 : Cond.fieldLink RX3 40 "PlainJava$Program" "variables" "Ljava/util/ArrayList;" ∈ lw_tbl := List.mem_of_getElem? (i := 647) (by decide +kernel)
theorem mw_648 : Cond.fieldLink RX11 116 "PlainJava$Program" "variables" "Ljava/util/ArrayList;" ∈ lw_tbl := List.mem_of_getElem? (i := 648) (by decide +kernel)
theorem mw_650 : Cond.fieldLink RX6 28 "PlainJava$Program" "exps" "Ljava/util/ArrayList;" ∈ lw_tbl := List.mem_of_getElem? (i := 650) (by decide +kernel)
theorem mw_651 : Cond.fieldLink RX3 61 "PlainJava$Program" "exps" "Ljava/util/ArrayList;" ∈ lw_tbl := List.mem_of_getElem? (i := 651) (by decide +kernel)
theorem mw_655 : Cond.fieldLink RX6 31 "PlainJava$Program" "statements" "Ljava/util/ArrayList;" ∈ lw_tbl := List.mem_of_getElem? (i := 655) (by decide +kernel)
theorem mw_656 : Cond.fieldLink RX3 70 "PlainJava$Program" "statements" "Ljava/util/ArrayList;" ∈ lw_tbl := List.mem_of_getElem? (i := 656) (by decide +kernel)
theorem mw_658 : Cond.fieldLink RX6 45 "PlainJava$Program" "out" "LPlainJava$Method;" ∈ lw_tbl := List.mem_of_getElem? (i := 658) (by decide +kernel)
theorem mw_659 : Cond.fieldLink RX6 50 "PlainJava$Program" "in" "LPlainJava$Method;" ∈ lw_tbl := List.mem_of_getElem? (i := 659) (by decide +kernel)
theorem mw_660 : Cond.fieldLink RX6 59 "PlainJava$Program" "error" "I" ∈ lw_tbl := List.mem_of_getElem? (i := 660) (by decide +kernel)
theorem mw_661 : Cond.fieldLink RX3 79 "PlainJava$Program" "error" "I" ∈ lw_tbl := List.mem_of_getElem? (i := 661) (by decide +kernel)
theorem mw_662 : Cond.fieldLink RX11 89 "PlainJava$Program" "error" "I" ∈ lw_tbl := List.mem_of_getElem? (i := 662) (by decide +kernel)
theorem mw_663 : Cond.fieldLink RX6 63 "PlainJava$Program" "errorPlace" "I" ∈ lw_tbl := List.mem_of_getElem? (i := 663) (by decide +kernel)
theorem mw_684 : Cond.classLink RX11 31 RX7 ∈ lw_tbl := List.mem_of_getElem? (i := 684) (by decide +kernel)
theorem mw_685 : Cond.instantiable RX7 7 ∈ lw_tbl := List.mem_of_getElem? (i := 685) (by decide +kernel)
theorem mw_686 : Cond.methodLink RX11 33 yX7_init ∈ lw_tbl := List.mem_of_getElem? (i := 686) (by decide +kernel)
theorem mw_687 : Cond.instanceMethod yX7_init ∈ lw_tbl := List.mem_of_getElem? (i := 687) (by decide +kernel)
set_option maxRecDepth 100000 in
theorem mw_688 : Cond.code yX7_init cX7_init 2 none ∈ lw_tbl := List.mem_of_getElem? (i := 688) rfl
theorem mw_689 : Cond.methodLink RX7 3 objectInit ∈ lw_tbl := List.mem_of_getElem? (i := 689) (by decide +kernel)
theorem mw_690 : Cond.fieldLink RX7 9 "PlainJava$Reader" "program" "LPlainJava$Program;" ∈ lw_tbl := List.mem_of_getElem? (i := 690) (by decide +kernel)
theorem mw_691 : Cond.fieldLink RX7 21 "PlainJava$Reader" "tokens" "LPlainJava$Tokens;" ∈ lw_tbl := List.mem_of_getElem? (i := 691) (by decide +kernel)
theorem mw_692 : Cond.fieldLink RX7 31 "PlainJava$Reader" "at" "I" ∈ lw_tbl := List.mem_of_getElem? (i := 692) (by decide +kernel)
theorem mw_693 : Cond.fieldLink RX7 35 "PlainJava$Reader" "fault" "I" ∈ lw_tbl := List.mem_of_getElem? (i := 693) (by decide +kernel)
theorem mw_712 : Cond.classLink RX11 40 RX3 ∈ lw_tbl := List.mem_of_getElem? (i := 712) (by decide +kernel)
theorem mw_713 : Cond.instantiable RX3 2 ∈ lw_tbl := List.mem_of_getElem? (i := 713) (by decide +kernel)
theorem mw_714 : Cond.methodLink RX11 42 yX3_init ∈ lw_tbl := List.mem_of_getElem? (i := 714) (by decide +kernel)
theorem mw_715 : Cond.instanceMethod yX3_init ∈ lw_tbl := List.mem_of_getElem? (i := 715) (by decide +kernel)
set_option maxRecDepth 100000 in
theorem mw_716 : Cond.code yX3_init cX3_init 2 none ∈ lw_tbl := List.mem_of_getElem? (i := 716) rfl
theorem mw_717 : Cond.methodLink RX3 3 objectInit ∈ lw_tbl := List.mem_of_getElem? (i := 717) (by decide +kernel)
theorem mw_718 : Cond.classLink RX3 15 RX2 ∈ lw_tbl := List.mem_of_getElem? (i := 718) (by decide +kernel)
theorem mw_719 : Cond.instantiable RX2 5 ∈ lw_tbl := List.mem_of_getElem? (i := 719) (by decide +kernel)
theorem mw_720 : Cond.methodLink RX3 17 yX2_init ∈ lw_tbl := List.mem_of_getElem? (i := 720) (by decide +kernel)
theorem mw_721 : Cond.instanceMethod yX2_init ∈ lw_tbl := List.mem_of_getElem? (i := 721) (by decide +kernel)
set_option maxRecDepth 100000 in
theorem mw_722 : Cond.code yX2_init cX2_init 2 none ∈ lw_tbl := List.mem_of_getElem? (i := 722) rfl
theorem mw_723 : Cond.methodLink RX2 3 objectInit ∈ lw_tbl := List.mem_of_getElem? (i := 723) (by decide +kernel)
theorem mw_724 : Cond.fieldLink RX2 15 "PlainJava$Flow" "program" "LPlainJava$Program;" ∈ lw_tbl := List.mem_of_getElem? (i := 724) (by decide +kernel)
theorem mw_727 : Cond.fieldLink RX2 9 "PlainJava$Flow" "aside" "[J" ∈ lw_tbl := List.mem_of_getElem? (i := 727) (by decide +kernel)
theorem mw_740 : Cond.fieldLink RX3 20 "PlainJava$Judge" "flow" "LPlainJava$Flow;" ∈ lw_tbl := List.mem_of_getElem? (i := 740) (by decide +kernel)
theorem mw_741 : Cond.fieldLink RX3 9 "PlainJava$Judge" "program" "LPlainJava$Program;" ∈ lw_tbl := List.mem_of_getElem? (i := 741) (by decide +kernel)
theorem mw_747 : Cond.classLink RX11 47 RX0 ∈ lw_tbl := List.mem_of_getElem? (i := 747) (by decide +kernel)
theorem mw_748 : Cond.instantiable RX0 7 ∈ lw_tbl := List.mem_of_getElem? (i := 748) (by decide +kernel)
theorem mw_749 : Cond.methodLink RX11 49 yX0_init ∈ lw_tbl := List.mem_of_getElem? (i := 749) (by decide +kernel)
theorem mw_750 : Cond.instanceMethod yX0_init ∈ lw_tbl := List.mem_of_getElem? (i := 750) (by decide +kernel)
set_option maxRecDepth 100000 in
theorem mw_751 : Cond.code yX0_init cX0_init 2 none ∈ lw_tbl := List.mem_of_getElem? (i := 751) rfl
theorem mw_752 : Cond.methodLink RX0 3 objectInit ∈ lw_tbl := List.mem_of_getElem? (i := 752) (by decide +kernel)
theorem mw_753 : Cond.classLink RX0 18 RX1 ∈ lw_tbl := List.mem_of_getElem? (i := 753) (by decide +kernel)
theorem mw_754 : Cond.arrayOver (.object "PlainJava$Exp") ∈ lw_tbl := List.mem_of_getElem? (i := 754) (by decide +kernel)
theorem mw_755 : Cond.classLink RX0 24 RX8 ∈ lw_tbl := List.mem_of_getElem? (i := 755) (by decide +kernel)
theorem mw_756 : Cond.arrayOver (.object "PlainJava$Statement") ∈ lw_tbl := List.mem_of_getElem? (i := 756) (by decide +kernel)
theorem mw_757 : Cond.methodLink RX0 30 yX8_init ∈ lw_tbl := List.mem_of_getElem? (i := 757) (by decide +kernel)
theorem mw_758 : Cond.fieldLink RX0 11 "PlainJava$Code" "order" "[I" ∈ lw_tbl := List.mem_of_getElem? (i := 758) (by decide +kernel)
theorem mw_760 : Cond.fieldLink RX0 15 "PlainJava$Code" "target" "[I" ∈ lw_tbl := List.mem_of_getElem? (i := 760) (by decide +kernel)
theorem mw_762 : Cond.fieldLink RX0 20 "PlainJava$Code" "exp" "[LPlainJava$Exp;" ∈ lw_tbl := List.mem_of_getElem? (i := 762) (by decide +kernel)
theorem mw_764 : Cond.fieldLink RX0 26 "PlainJava$Code" "owner" "[LPlainJava$Statement;" ∈ lw_tbl := List.mem_of_getElem? (i := 764) (by decide +kernel)
theorem mw_766 : Cond.fieldLink RX0 41 "PlainJava$Code" "size" "I" ∈ lw_tbl := List.mem_of_getElem? (i := 766) (by decide +kernel)
theorem mw_768 : Cond.fieldLink RX0 37 "PlainJava$Code" "program" "LPlainJava$Program;" ∈ lw_tbl := List.mem_of_getElem? (i := 768) (by decide +kernel)
theorem mw_770 : Cond.fieldLink RX0 33 "PlainJava$Code" "current" "LPlainJava$Statement;" ∈ lw_tbl := List.mem_of_getElem? (i := 770) (by decide +kernel)
theorem mw_786 : Cond.classLink RX11 54 RX4 ∈ lw_tbl := List.mem_of_getElem? (i := 786) (by decide +kernel)
theorem mw_787 : Cond.instantiable RX4 21 ∈ lw_tbl := List.mem_of_getElem? (i := 787) (by decide +kernel)
theorem mw_788 : Cond.methodLink RX11 56 yX4_init ∈ lw_tbl := List.mem_of_getElem? (i := 788) (by decide +kernel)
theorem mw_789 : Cond.instanceMethod yX4_init ∈ lw_tbl := List.mem_of_getElem? (i := 789) (by decide +kernel)
set_option maxRecDepth 100000 in
theorem mw_790 : Cond.code yX4_init cX4_init 2 none ∈ lw_tbl := List.mem_of_getElem? (i := 790) rfl
theorem mw_791 : Cond.methodLink RX4 3 objectInit ∈ lw_tbl := List.mem_of_getElem? (i := 791) (by decide +kernel)
theorem mw_792 : Cond.classLink RX4 31 RX8 ∈ lw_tbl := List.mem_of_getElem? (i := 792) (by decide +kernel)
theorem mw_793 : Cond.fieldLink RX4 9 "PlainJava$Machine" "values" "[J" ∈ lw_tbl := List.mem_of_getElem? (i := 793) (by decide +kernel)
theorem mw_794 : Cond.fieldLink RX4 15 "PlainJava$Machine" "stack" "[J" ∈ lw_tbl := List.mem_of_getElem? (i := 794) (by decide +kernel)
theorem mw_795 : Cond.fieldLink RX4 18 "PlainJava$Machine" "floors" "[I" ∈ lw_tbl := List.mem_of_getElem? (i := 795) (by decide +kernel)
theorem mw_796 : Cond.fieldLink RX4 22 "PlainJava$Machine" "returns" "[I" ∈ lw_tbl := List.mem_of_getElem? (i := 796) (by decide +kernel)
theorem mw_797 : Cond.fieldLink RX4 25 "PlainJava$Machine" "ways" "[I" ∈ lw_tbl := List.mem_of_getElem? (i := 797) (by decide +kernel)
theorem mw_798 : Cond.fieldLink RX4 28 "PlainJava$Machine" "carried" "[J" ∈ lw_tbl := List.mem_of_getElem? (i := 798) (by decide +kernel)
theorem mw_799 : Cond.fieldLink RX4 33 "PlainJava$Machine" "goals" "[LPlainJava$Statement;" ∈ lw_tbl := List.mem_of_getElem? (i := 799) (by decide +kernel)
theorem mw_800 : Cond.fieldLink RX4 37 "PlainJava$Machine" "numbers" "[J" ∈ lw_tbl := List.mem_of_getElem? (i := 800) (by decide +kernel)
theorem mw_801 : Cond.fieldLink RX4 43 "PlainJava$Machine" "code" "LPlainJava$Code;" ∈ lw_tbl := List.mem_of_getElem? (i := 801) (by decide +kernel)
theorem mw_802 : Cond.fieldLink RX4 40 "PlainJava$Machine" "inputs" "[I" ∈ lw_tbl := List.mem_of_getElem? (i := 802) (by decide +kernel)
theorem mw_857 : Cond.fieldLink RX11 9 "PlainJava" "tape" "[B" ∈ lw_tbl := List.mem_of_getElem? (i := 857) (by decide +kernel)
theorem mw_858 : Cond.fieldLink RX11 13 "PlainJava" "inputs" "[I" ∈ lw_tbl := List.mem_of_getElem? (i := 858) (by decide +kernel)
theorem mw_859 : Cond.fieldLink RX11 17 "PlainJava" "arguments" "[J" ∈ lw_tbl := List.mem_of_getElem? (i := 859) (by decide +kernel)
theorem mw_860 : Cond.fieldLink RX11 24 "PlainJava" "program" "LPlainJava$Program;" ∈ lw_tbl := List.mem_of_getElem? (i := 860) (by decide +kernel)
theorem mw_861 : Cond.fieldLink RX11 28 "PlainJava" "spare" "LPlainJava$Program;" ∈ lw_tbl := List.mem_of_getElem? (i := 861) (by decide +kernel)
theorem mw_862 : Cond.fieldLink RX11 36 "PlainJava" "reader" "LPlainJava$Reader;" ∈ lw_tbl := List.mem_of_getElem? (i := 862) (by decide +kernel)
theorem mw_863 : Cond.fieldLink RX11 43 "PlainJava" "judge" "LPlainJava$Judge;" ∈ lw_tbl := List.mem_of_getElem? (i := 863) (by decide +kernel)
theorem mw_864 : Cond.fieldLink RX11 50 "PlainJava" "code" "LPlainJava$Code;" ∈ lw_tbl := List.mem_of_getElem? (i := 864) (by decide +kernel)
theorem mw_865 : Cond.fieldLink RX11 59 "PlainJava" "machine" "LPlainJava$Machine;" ∈ lw_tbl := List.mem_of_getElem? (i := 865) (by decide +kernel)
theorem mw_866 : Cond.fieldLink RX11 67 "PlainJava" "length" "I" ∈ lw_tbl := List.mem_of_getElem? (i := 866) (by decide +kernel)
theorem mw_867 : Cond.fieldLink RX11 119 "PlainJava" "inputCount" "I" ∈ lw_tbl := List.mem_of_getElem? (i := 867) (by decide +kernel)
theorem mw_868 : Cond.fieldLink RX11 63 "PlainJava" "place" "I" ∈ lw_tbl := List.mem_of_getElem? (i := 868) (by decide +kernel)
theorem mw_869 : Cond.fieldLink RX11 82 "PlainJava" "hasRun" "Z" ∈ lw_tbl := List.mem_of_getElem? (i := 869) (by decide +kernel)
theorem mw_897 : Cond.methodLink RL 13 yX11_feed ∈ lw_tbl := List.mem_of_getElem? (i := 897) (by decide +kernel)
theorem mw_898 : Cond.instanceMethod yX11_feed ∈ lw_tbl := List.mem_of_getElem? (i := 898) (by decide +kernel)
theorem mw_899 : Cond.selects RX11 yX11_feed yX11_feed ∈ lw_tbl := List.mem_of_getElem? (i := 899) (by decide +kernel)
set_option maxRecDepth 100000 in
theorem mw_900 : Cond.code yX11_feed cX11_feed 6 (some .int) ∈ lw_tbl := List.mem_of_getElem? (i := 900) rfl
theorem mw_901 : Cond.methodLink RX11 70 yX11_append ∈ lw_tbl := List.mem_of_getElem? (i := 901) (by decide +kernel)
theorem mw_903 : Cond.instanceMethod yX11_append ∈ lw_tbl := List.mem_of_getElem? (i := 903) (by decide +kernel)
set_option maxRecDepth 100000 in
theorem mw_904 : Cond.code yX11_append cX11_append 3 none ∈ lw_tbl := List.mem_of_getElem? (i := 904) rfl
theorem mw_905 : Cond.methodLink RL 18 yX11_cut ∈ lw_tbl := List.mem_of_getElem? (i := 905) (by decide +kernel)
theorem mw_906 : Cond.instanceMethod yX11_cut ∈ lw_tbl := List.mem_of_getElem? (i := 906) (by decide +kernel)
theorem mw_907 : Cond.selects RX11 yX11_cut yX11_cut ∈ lw_tbl := List.mem_of_getElem? (i := 907) (by decide +kernel)
set_option maxRecDepth 100000 in
theorem mw_908 : Cond.code yX11_cut cX11_cut 2 (some .int) ∈ lw_tbl := List.mem_of_getElem? (i := 908) rfl
theorem mw_909 : Cond.methodLink RL 23 yX11_read ∈ lw_tbl := List.mem_of_getElem? (i := 909) (by decide +kernel)
theorem mw_910 : Cond.instanceMethod yX11_read ∈ lw_tbl := List.mem_of_getElem? (i := 910) (by decide +kernel)
theorem mw_911 : Cond.selects RX11 yX11_read yX11_read ∈ lw_tbl := List.mem_of_getElem? (i := 911) (by decide +kernel)
set_option maxRecDepth 100000 in
theorem mw_912 : Cond.code yX11_read cX11_read 3 (some .int) ∈ lw_tbl := List.mem_of_getElem? (i := 912) rfl
theorem mw_913 : Cond.methodLink RX11 74 yX7_readProgram ∈ lw_tbl := List.mem_of_getElem? (i := 913) (by decide +kernel)
theorem mw_914 : Cond.instanceMethod yX7_readProgram ∈ lw_tbl := List.mem_of_getElem? (i := 914) (by decide +kernel)
theorem mw_915 : Cond.selects RX7 yX7_readProgram yX7_readProgram ∈ lw_tbl := List.mem_of_getElem? (i := 915) (by decide +kernel)
set_option maxRecDepth 100000 in
theorem mw_916 : Cond.code yX7_readProgram cX7_readProgram 5 (some .int) ∈ lw_tbl := List.mem_of_getElem? (i := 916) rfl
theorem mw_917 : Cond.methodLink RX7 22 yX6_clear ∈ lw_tbl := List.mem_of_getElem? (i := 917) (by decide +kernel)
theorem mw_918 : Cond.instanceMethod yX6_clear ∈ lw_tbl := List.mem_of_getElem? (i := 918) (by decide +kernel)
theorem mw_919 : Cond.selects RX6 yX6_clear yX6_clear ∈ lw_tbl := List.mem_of_getElem? (i := 919) (by decide +kernel)
set_option maxRecDepth 100000 in
theorem mw_920 : Cond.code yX6_clear cX6_clear 1 none ∈ lw_tbl := List.mem_of_getElem? (i := 920) rfl
theorem mw_921 : Cond.methodLink RX6 56 yJx4a65c_clear_da8c8 ∈ lw_tbl := List.mem_of_getElem? (i := 921) (by decide +kernel)
theorem mw_922 : Cond.instanceMethod yJx4a65c_clear_da8c8 ∈ lw_tbl := List.mem_of_getElem? (i := 922) (by decide +kernel)
theorem mw_923 : Cond.selects RJx4a65c yJx4a65c_clear_da8c8 yJx4a65c_clear_da8c8 ∈ lw_tbl := List.mem_of_getElem? (i := 923) (by decide +kernel)
set_option maxRecDepth 100000 in
theorem mw_924 : Cond.code yJx4a65c_clear_da8c8 cJx4a65c_clear_da8c8 4 none ∈ lw_tbl := List.mem_of_getElem? (i := 924) rfl
theorem mw_925 : Cond.methodLink RX7 25 yX9_cutText ∈ lw_tbl := List.mem_of_getElem? (i := 925) (by decide +kernel)
theorem mw_926 : Cond.instanceMethod yX9_cutText ∈ lw_tbl := List.mem_of_getElem? (i := 926) (by decide +kernel)
theorem mw_927 : Cond.selects RX9 yX9_cutText yX9_cutText ∈ lw_tbl := List.mem_of_getElem? (i := 927) (by decide +kernel)
set_option maxRecDepth 100000 in
theorem mw_928 : Cond.code yX9_cutText cX9_cutText 6 none ∈ lw_tbl := List.mem_of_getElem? (i := 928) rfl
theorem mw_929 : Cond.methodLink RX9 51 Lib.Math.min.name ∈ lw_tbl := List.mem_of_getElem? (i := 929) (by decide +kernel)
theorem mw_930 : Cond.static Lib.Math.min.name ∈ lw_tbl := List.mem_of_getElem? (i := 930) (by decide +kernel)
set_option maxRecDepth 100000 in
theorem mw_931 : Cond.code Lib.Math.min.name Lib.Math.min.code 2 (some .int) ∈ lw_tbl := List.mem_of_getElem? (i := 931) rfl
theorem mw_932 : Cond.methodLink RX9 63 yX9_behindBlanks ∈ lw_tbl := List.mem_of_getElem? (i := 932) (by decide +kernel)
theorem mw_934 : Cond.instanceMethod yX9_behindBlanks ∈ lw_tbl := List.mem_of_getElem? (i := 934) (by decide +kernel)
set_option maxRecDepth 100000 in
theorem mw_935 : Cond.code yX9_behindBlanks cX9_behindBlanks 5 (some .int) ∈ lw_tbl := List.mem_of_getElem? (i := 935) rfl
theorem mw_972 : Cond.methodLink RX7 38 yX7_code ∈ lw_tbl := List.mem_of_getElem? (i := 972) (by decide +kernel)
theorem mw_974 : Cond.instanceMethod yX7_code ∈ lw_tbl := List.mem_of_getElem? (i := 974) (by decide +kernel)
set_option maxRecDepth 100000 in
theorem mw_975 : Cond.code yX7_code cX7_code 1 (some .int) ∈ lw_tbl := List.mem_of_getElem? (i := 975) rfl
theorem mw_992 : Cond.instanceMethod yJx4a65c_size_8abf5 ∈ lw_tbl := List.mem_of_getElem? (i := 992) (by decide +kernel)
theorem mw_993 : Cond.selects RJx4a65c yJx4a65c_size_8abf5 yJx4a65c_size_8abf5 ∈ lw_tbl := List.mem_of_getElem? (i := 993) (by decide +kernel)
set_option maxRecDepth 100000 in
theorem mw_994 : Cond.code yJx4a65c_size_8abf5 cJx4a65c_size_8abf5 1 (some .int) ∈ lw_tbl := List.mem_of_getElem? (i := 994) rfl
theorem mw_1077 : Cond.instantiable RX10 7 ∈ lw_tbl := List.mem_of_getElem? (i := 1077) (by decide +kernel)
theorem mw_1179 : Cond.instantiable RX1 18 ∈ lw_tbl := List.mem_of_getElem? (i := 1179) (by decide +kernel)
theorem mw_1430 : Cond.methodLink RX11 86 yX3_judgeProgram ∈ lw_tbl := List.mem_of_getElem? (i := 1430) (by decide +kernel)
theorem mw_1431 : Cond.instanceMethod yX3_judgeProgram ∈ lw_tbl := List.mem_of_getElem? (i := 1431) (by decide +kernel)
theorem mw_1432 : Cond.selects RX3 yX3_judgeProgram yX3_judgeProgram ∈ lw_tbl := List.mem_of_getElem? (i := 1432) (by decide +kernel)
set_option maxRecDepth 100000 in
theorem mw_1433 : Cond.code yX3_judgeProgram cX3_judgeProgram 3 none ∈ lw_tbl := List.mem_of_getElem? (i := 1433) rfl
theorem mw_1434 : Cond.methodLink RX3 30 yJx4a65c_size_8abf5 ∈ lw_tbl := List.mem_of_getElem? (i := 1434) (by decide +kernel)
theorem mw_1445 : Cond.methodLink RX6 70 yJx4a65c_size_8abf5 ∈ lw_tbl := List.mem_of_getElem? (i := 1445) (by decide +kernel)
theorem mw_1640 : Cond.methodLink RX3 82 yX2_reachAll ∈ lw_tbl := List.mem_of_getElem? (i := 1640) (by decide +kernel)
theorem mw_1641 : Cond.instanceMethod yX2_reachAll ∈ lw_tbl := List.mem_of_getElem? (i := 1641) (by decide +kernel)
theorem mw_1642 : Cond.selects RX2 yX2_reachAll yX2_reachAll ∈ lw_tbl := List.mem_of_getElem? (i := 1642) (by decide +kernel)
set_option maxRecDepth 100000 in
theorem mw_1643 : Cond.code yX2_reachAll cX2_reachAll 4 none ∈ lw_tbl := List.mem_of_getElem? (i := 1643) rfl
theorem mw_1644 : Cond.methodLink RX2 25 yJx4a65c_size_8abf5 ∈ lw_tbl := List.mem_of_getElem? (i := 1644) (by decide +kernel)
theorem mw_1684 : Cond.methodLink RX3 85 yX2_assignAll ∈ lw_tbl := List.mem_of_getElem? (i := 1684) (by decide +kernel)
theorem mw_1685 : Cond.instanceMethod yX2_assignAll ∈ lw_tbl := List.mem_of_getElem? (i := 1685) (by decide +kernel)
theorem mw_1686 : Cond.selects RX2 yX2_assignAll yX2_assignAll ∈ lw_tbl := List.mem_of_getElem? (i := 1686) (by decide +kernel)
set_option maxRecDepth 100000 in
theorem mw_1687 : Cond.code yX2_assignAll cX2_assignAll 7 none ∈ lw_tbl := List.mem_of_getElem? (i := 1687) rfl
theorem mw_1769 : Cond.methodLink RX11 92 yX0_lay ∈ lw_tbl := List.mem_of_getElem? (i := 1769) (by decide +kernel)
theorem mw_1770 : Cond.instanceMethod yX0_lay ∈ lw_tbl := List.mem_of_getElem? (i := 1770) (by decide +kernel)
theorem mw_1771 : Cond.selects RX0 yX0_lay yX0_lay ∈ lw_tbl := List.mem_of_getElem? (i := 1771) (by decide +kernel)
set_option maxRecDepth 100000 in
theorem mw_1772 : Cond.code yX0_lay cX0_lay 4 none ∈ lw_tbl := List.mem_of_getElem? (i := 1772) rfl
theorem mw_1773 : Cond.methodLink RX0 51 yJx4a65c_size_8abf5 ∈ lw_tbl := List.mem_of_getElem? (i := 1773) (by decide +kernel)
theorem mw_1841 : Cond.methodLink RX11 99 yJx4a65c_size_8abf5 ∈ lw_tbl := List.mem_of_getElem? (i := 1841) (by decide +kernel)
theorem mw_1842 : Cond.methodLink RL 28 yX11_place ∈ lw_tbl := List.mem_of_getElem? (i := 1842) (by decide +kernel)
theorem mw_1843 : Cond.instanceMethod yX11_place ∈ lw_tbl := List.mem_of_getElem? (i := 1843) (by decide +kernel)
theorem mw_1844 : Cond.selects RX11 yX11_place yX11_place ∈ lw_tbl := List.mem_of_getElem? (i := 1844) (by decide +kernel)
set_option maxRecDepth 100000 in
theorem mw_1845 : Cond.code yX11_place cX11_place 1 (some .int) ∈ lw_tbl := List.mem_of_getElem? (i := 1845) rfl
theorem mw_1846 : Cond.methodLink RL 32 yX11_judge ∈ lw_tbl := List.mem_of_getElem? (i := 1846) (by decide +kernel)
theorem mw_1847 : Cond.instanceMethod yX11_judge ∈ lw_tbl := List.mem_of_getElem? (i := 1847) (by decide +kernel)
theorem mw_1848 : Cond.selects RX11 yX11_judge yX11_judge ∈ lw_tbl := List.mem_of_getElem? (i := 1848) (by decide +kernel)
set_option maxRecDepth 100000 in
theorem mw_1849 : Cond.code yX11_judge cX11_judge 1 (some .int) ∈ lw_tbl := List.mem_of_getElem? (i := 1849) rfl
theorem mw_1850 : Cond.methodLink RL 36 yX11_told ∈ lw_tbl := List.mem_of_getElem? (i := 1850) (by decide +kernel)
theorem mw_1851 : Cond.instanceMethod yX11_told ∈ lw_tbl := List.mem_of_getElem? (i := 1851) (by decide +kernel)
theorem mw_1852 : Cond.selects RX11 yX11_told yX11_told ∈ lw_tbl := List.mem_of_getElem? (i := 1852) (by decide +kernel)
set_option maxRecDepth 100000 in
theorem mw_1853 : Cond.code yX11_told cX11_told 2 (some .int) ∈ lw_tbl := List.mem_of_getElem? (i := 1853) rfl
theorem mw_1854 : Cond.methodLink RL 40 yX11_token ∈ lw_tbl := List.mem_of_getElem? (i := 1854) (by decide +kernel)
theorem mw_1855 : Cond.instanceMethod yX11_token ∈ lw_tbl := List.mem_of_getElem? (i := 1855) (by decide +kernel)
theorem mw_1856 : Cond.selects RX11 yX11_token yX11_token ∈ lw_tbl := List.mem_of_getElem? (i := 1856) (by decide +kernel)
set_option maxRecDepth 100000 in
theorem mw_1857 : Cond.code yX11_token cX11_token 4 (some .int) ∈ lw_tbl := List.mem_of_getElem? (i := 1857) rfl
theorem mw_1862 : Cond.methodLink RL 45 yX11_method ∈ lw_tbl := List.mem_of_getElem? (i := 1862) (by decide +kernel)
theorem mw_1863 : Cond.instanceMethod yX11_method ∈ lw_tbl := List.mem_of_getElem? (i := 1863) (by decide +kernel)
theorem mw_1864 : Cond.selects RX11 yX11_method yX11_method ∈ lw_tbl := List.mem_of_getElem? (i := 1864) (by decide +kernel)
set_option maxRecDepth 100000 in
theorem mw_1865 : Cond.code yX11_method cX11_method 4 (some .int) ∈ lw_tbl := List.mem_of_getElem? (i := 1865) rfl
theorem mw_1868 : Cond.methodLink RL 49 yX11_variable ∈ lw_tbl := List.mem_of_getElem? (i := 1868) (by decide +kernel)
theorem mw_1869 : Cond.instanceMethod yX11_variable ∈ lw_tbl := List.mem_of_getElem? (i := 1869) (by decide +kernel)
theorem mw_1870 : Cond.selects RX11 yX11_variable yX11_variable ∈ lw_tbl := List.mem_of_getElem? (i := 1870) (by decide +kernel)
set_option maxRecDepth 100000 in
theorem mw_1871 : Cond.code yX11_variable cX11_variable 4 (some .int) ∈ lw_tbl := List.mem_of_getElem? (i := 1871) rfl
theorem mw_1873 : Cond.methodLink RL 53 yX11_means ∈ lw_tbl := List.mem_of_getElem? (i := 1873) (by decide +kernel)
theorem mw_1874 : Cond.instanceMethod yX11_means ∈ lw_tbl := List.mem_of_getElem? (i := 1874) (by decide +kernel)
theorem mw_1875 : Cond.selects RX11 yX11_means yX11_means ∈ lw_tbl := List.mem_of_getElem? (i := 1875) (by decide +kernel)
set_option maxRecDepth 100000 in
theorem mw_1876 : Cond.code yX11_means cX11_means 3 (some .int) ∈ lw_tbl := List.mem_of_getElem? (i := 1876) rfl
theorem mw_1877 : Cond.methodLink RL 57 yX11_type ∈ lw_tbl := List.mem_of_getElem? (i := 1877) (by decide +kernel)
theorem mw_1878 : Cond.instanceMethod yX11_type ∈ lw_tbl := List.mem_of_getElem? (i := 1878) (by decide +kernel)
theorem mw_1879 : Cond.selects RX11 yX11_type yX11_type ∈ lw_tbl := List.mem_of_getElem? (i := 1879) (by decide +kernel)
set_option maxRecDepth 100000 in
theorem mw_1880 : Cond.code yX11_type cX11_type 4 (some .int) ∈ lw_tbl := List.mem_of_getElem? (i := 1880) rfl
theorem mw_1881 : Cond.methodLink RX11 163 yX6_expAt ∈ lw_tbl := List.mem_of_getElem? (i := 1881) (by decide +kernel)
theorem mw_1882 : Cond.instanceMethod yX6_expAt ∈ lw_tbl := List.mem_of_getElem? (i := 1882) (by decide +kernel)
theorem mw_1883 : Cond.selects RX6 yX6_expAt yX6_expAt ∈ lw_tbl := List.mem_of_getElem? (i := 1883) (by decide +kernel)
set_option maxRecDepth 100000 in
theorem mw_1884 : Cond.code yX6_expAt cX6_expAt 5 (some (.object "PlainJava$Exp")) ∈ lw_tbl := List.mem_of_getElem? (i := 1884) rfl
theorem mw_1886 : Cond.methodLink RL 61 yX11_constant ∈ lw_tbl := List.mem_of_getElem? (i := 1886) (by decide +kernel)
theorem mw_1887 : Cond.instanceMethod yX11_constant ∈ lw_tbl := List.mem_of_getElem? (i := 1887) (by decide +kernel)
theorem mw_1888 : Cond.selects RX11 yX11_constant yX11_constant ∈ lw_tbl := List.mem_of_getElem? (i := 1888) (by decide +kernel)
set_option maxRecDepth 100000 in
theorem mw_1889 : Cond.code yX11_constant cX11_constant 4 (some .long) ∈ lw_tbl := List.mem_of_getElem? (i := 1889) rfl
theorem mw_1890 : Cond.constantLong RX11 170 (-1234567890123) ∈ lw_tbl := List.mem_of_getElem? (i := 1890) (by decide +kernel)
theorem mw_1891 : Cond.methodLink RL 66 yX11_ends ∈ lw_tbl := List.mem_of_getElem? (i := 1891) (by decide +kernel)
theorem mw_1892 : Cond.instanceMethod yX11_ends ∈ lw_tbl := List.mem_of_getElem? (i := 1892) (by decide +kernel)
theorem mw_1893 : Cond.selects RX11 yX11_ends yX11_ends ∈ lw_tbl := List.mem_of_getElem? (i := 1893) (by decide +kernel)
set_option maxRecDepth 100000 in
theorem mw_1894 : Cond.code yX11_ends cX11_ends 3 (some .int) ∈ lw_tbl := List.mem_of_getElem? (i := 1894) rfl
theorem mw_1895 : Cond.methodLink RX11 179 yX6_statementAt ∈ lw_tbl := List.mem_of_getElem? (i := 1895) (by decide +kernel)
theorem mw_1896 : Cond.instanceMethod yX6_statementAt ∈ lw_tbl := List.mem_of_getElem? (i := 1896) (by decide +kernel)
theorem mw_1897 : Cond.selects RX6 yX6_statementAt yX6_statementAt ∈ lw_tbl := List.mem_of_getElem? (i := 1897) (by decide +kernel)
set_option maxRecDepth 100000 in
theorem mw_1898 : Cond.code yX6_statementAt cX6_statementAt 4 (some (.object "PlainJava$Statement")) ∈ lw_tbl := List.mem_of_getElem? (i := 1898) rfl
theorem mw_1901 : Cond.methodLink RL 70 yX11_assigned ∈ lw_tbl := List.mem_of_getElem? (i := 1901) (by decide +kernel)
theorem mw_1902 : Cond.instanceMethod yX11_assigned ∈ lw_tbl := List.mem_of_getElem? (i := 1902) (by decide +kernel)
theorem mw_1903 : Cond.selects RX11 yX11_assigned yX11_assigned ∈ lw_tbl := List.mem_of_getElem? (i := 1903) (by decide +kernel)
set_option maxRecDepth 100000 in
theorem mw_1904 : Cond.code yX11_assigned cX11_assigned 4 (some .int) ∈ lw_tbl := List.mem_of_getElem? (i := 1904) rfl
theorem mw_1906 : Cond.methodLink RL 76 yX11_argument ∈ lw_tbl := List.mem_of_getElem? (i := 1906) (by decide +kernel)
theorem mw_1907 : Cond.instanceMethod yX11_argument ∈ lw_tbl := List.mem_of_getElem? (i := 1907) (by decide +kernel)
theorem mw_1908 : Cond.selects RX11 yX11_argument yX11_argument ∈ lw_tbl := List.mem_of_getElem? (i := 1908) (by decide +kernel)
set_option maxRecDepth 100000 in
theorem mw_1909 : Cond.code yX11_argument cX11_argument 4 (some .int) ∈ lw_tbl := List.mem_of_getElem? (i := 1909) rfl
theorem mw_1910 : Cond.methodLink RL 81 yX11_input ∈ lw_tbl := List.mem_of_getElem? (i := 1910) (by decide +kernel)
theorem mw_1911 : Cond.instanceMethod yX11_input ∈ lw_tbl := List.mem_of_getElem? (i := 1911) (by decide +kernel)
theorem mw_1912 : Cond.selects RX11 yX11_input yX11_input ∈ lw_tbl := List.mem_of_getElem? (i := 1912) (by decide +kernel)
set_option maxRecDepth 100000 in
theorem mw_1913 : Cond.code yX11_input cX11_input 2 (some .int) ∈ lw_tbl := List.mem_of_getElem? (i := 1913) rfl
theorem mw_1914 : Cond.methodLink RL 85 yX11_drain ∈ lw_tbl := List.mem_of_getElem? (i := 1914) (by decide +kernel)
theorem mw_1915 : Cond.instanceMethod yX11_drain ∈ lw_tbl := List.mem_of_getElem? (i := 1915) (by decide +kernel)
theorem mw_1916 : Cond.selects RX11 yX11_drain yX11_drain ∈ lw_tbl := List.mem_of_getElem? (i := 1916) (by decide +kernel)
set_option maxRecDepth 100000 in
theorem mw_1917 : Cond.code yX11_drain cX11_drain 2 (some .int) ∈ lw_tbl := List.mem_of_getElem? (i := 1917) rfl
theorem mw_1918 : Cond.methodLink RL 89 yX11_run ∈ lw_tbl := List.mem_of_getElem? (i := 1918) (by decide +kernel)
theorem mw_1919 : Cond.instanceMethod yX11_run ∈ lw_tbl := List.mem_of_getElem? (i := 1919) (by decide +kernel)
theorem mw_1920 : Cond.selects RX11 yX11_run yX11_run ∈ lw_tbl := List.mem_of_getElem? (i := 1920) (by decide +kernel)
set_option maxRecDepth 100000 in
theorem mw_1921 : Cond.code yX11_run cX11_run 3 (some .int) ∈ lw_tbl := List.mem_of_getElem? (i := 1921) rfl
theorem mw_2023 : Cond.methodLink RL 93 yX11_ran ∈ lw_tbl := List.mem_of_getElem? (i := 2023) (by decide +kernel)
theorem mw_2024 : Cond.instanceMethod yX11_ran ∈ lw_tbl := List.mem_of_getElem? (i := 2024) (by decide +kernel)
theorem mw_2025 : Cond.selects RX11 yX11_ran yX11_ran ∈ lw_tbl := List.mem_of_getElem? (i := 2025) (by decide +kernel)
set_option maxRecDepth 100000 in
theorem mw_2026 : Cond.code yX11_ran cX11_ran 2 (some .long) ∈ lw_tbl := List.mem_of_getElem? (i := 2026) rfl
theorem mw_2032 : Cond.classLink RL 10 RX12 ∈ lw_tbl := List.mem_of_getElem? (i := 2032) (by decide +kernel)
theorem mw_2033 : Cond.instantiable RX12 150 ∈ lw_tbl := List.mem_of_getElem? (i := 2033) (by decide +kernel)
theorem mw_2034 : Cond.methodLink RL 12 yX12_init ∈ lw_tbl := List.mem_of_getElem? (i := 2034) (by decide +kernel)
theorem mw_2035 : Cond.instanceMethod yX12_init ∈ lw_tbl := List.mem_of_getElem? (i := 2035) (by decide +kernel)
set_option maxRecDepth 100000 in
theorem mw_2036 : Cond.code yX12_init cX12_init 1 none ∈ lw_tbl := List.mem_of_getElem? (i := 2036) rfl
theorem mw_2037 : Cond.methodLink RX12 1 objectInit ∈ lw_tbl := List.mem_of_getElem? (i := 2037) (by decide +kernel)
theorem mw_2038 : Cond.fieldLink RX12 7 "PlainJavaModel" "tape" "[I" ∈ lw_tbl := List.mem_of_getElem? (i := 2038) (by decide +kernel)
theorem mw_2039 : Cond.fieldLink RX12 310 "PlainJavaModel" "taped" "I" ∈ lw_tbl := List.mem_of_getElem? (i := 2039) (by decide +kernel)
theorem mw_2040 : Cond.fieldLink RX12 323 "PlainJavaModel" "count" "I" ∈ lw_tbl := List.mem_of_getElem? (i := 2040) (by decide +kernel)
theorem mw_2041 : Cond.fieldLink RX12 13 "PlainJavaModel" "tKind" "[I" ∈ lw_tbl := List.mem_of_getElem? (i := 2041) (by decide +kernel)
theorem mw_2042 : Cond.fieldLink RX12 16 "PlainJavaModel" "tAt" "[I" ∈ lw_tbl := List.mem_of_getElem? (i := 2042) (by decide +kernel)
theorem mw_2043 : Cond.fieldLink RX12 19 "PlainJavaModel" "tSize" "[I" ∈ lw_tbl := List.mem_of_getElem? (i := 2043) (by decide +kernel)
theorem mw_2044 : Cond.fieldLink RX12 22 "PlainJavaModel" "tWhat" "[I" ∈ lw_tbl := List.mem_of_getElem? (i := 2044) (by decide +kernel)
theorem mw_2045 : Cond.fieldLink RX12 25 "PlainJavaModel" "tHigh" "[J" ∈ lw_tbl := List.mem_of_getElem? (i := 2045) (by decide +kernel)
theorem mw_2046 : Cond.fieldLink RX12 29 "PlainJavaModel" "tLow" "[I" ∈ lw_tbl := List.mem_of_getElem? (i := 2046) (by decide +kernel)
theorem mw_2047 : Cond.fieldLink RX12 32 "PlainJavaModel" "tValue" "[J" ∈ lw_tbl := List.mem_of_getElem? (i := 2047) (by decide +kernel)
theorem mw_2048 : Cond.fieldLink RX12 35 "PlainJavaModel" "tLong" "[Z" ∈ lw_tbl := List.mem_of_getElem? (i := 2048) (by decide +kernel)
theorem mw_2049 : Cond.fieldLink RX12 39 "PlainJavaModel" "tGreat" "[I" ∈ lw_tbl := List.mem_of_getElem? (i := 2049) (by decide +kernel)
theorem mw_2050 : Cond.fieldLink RX12 317 "PlainJavaModel" "end" "I" ∈ lw_tbl := List.mem_of_getElem? (i := 2050) (by decide +kernel)
theorem mw_2051 : Cond.fieldLink RX12 320 "PlainJavaModel" "scan" "I" ∈ lw_tbl := List.mem_of_getElem? (i := 2051) (by decide +kernel)
theorem mw_2052 : Cond.fieldLink RX12 413 "PlainJavaModel" "pos" "I" ∈ lw_tbl := List.mem_of_getElem? (i := 2052) (by decide +kernel)
theorem mw_2053 : Cond.fieldLink RX12 407 "PlainJavaModel" "fault" "I" ∈ lw_tbl := List.mem_of_getElem? (i := 2053) (by decide +kernel)
theorem mw_2055 : Cond.fieldLink RX12 430 "PlainJavaModel" "deep" "I" ∈ lw_tbl := List.mem_of_getElem? (i := 2055) (by decide +kernel)
theorem mw_2056 : Cond.fieldLink RX12 433 "PlainJavaModel" "codes" "I" ∈ lw_tbl := List.mem_of_getElem? (i := 2056) (by decide +kernel)
theorem mw_2057 : Cond.fieldLink RX12 42 "PlainJavaModel" "cOp" "[I" ∈ lw_tbl := List.mem_of_getElem? (i := 2057) (by decide +kernel)
theorem mw_2058 : Cond.fieldLink RX12 45 "PlainJavaModel" "cA" "[I" ∈ lw_tbl := List.mem_of_getElem? (i := 2058) (by decide +kernel)
theorem mw_2059 : Cond.fieldLink RX12 48 "PlainJavaModel" "cB" "[I" ∈ lw_tbl := List.mem_of_getElem? (i := 2059) (by decide +kernel)
theorem mw_2060 : Cond.fieldLink RX12 51 "PlainJavaModel" "cTok" "[I" ∈ lw_tbl := List.mem_of_getElem? (i := 2060) (by decide +kernel)
theorem mw_2061 : Cond.fieldLink RX12 54 "PlainJavaModel" "cFirst" "[I" ∈ lw_tbl := List.mem_of_getElem? (i := 2061) (by decide +kernel)
theorem mw_2062 : Cond.fieldLink RX12 57 "PlainJavaModel" "cLast" "[I" ∈ lw_tbl := List.mem_of_getElem? (i := 2062) (by decide +kernel)
theorem mw_2063 : Cond.fieldLink RX12 60 "PlainJavaModel" "oSort" "[I" ∈ lw_tbl := List.mem_of_getElem? (i := 2063) (by decide +kernel)
theorem mw_2064 : Cond.fieldLink RX12 63 "PlainJavaModel" "oSign" "[I" ∈ lw_tbl := List.mem_of_getElem? (i := 2064) (by decide +kernel)
theorem mw_2065 : Cond.fieldLink RX12 66 "PlainJavaModel" "oToken" "[I" ∈ lw_tbl := List.mem_of_getElem? (i := 2065) (by decide +kernel)
theorem mw_2066 : Cond.fieldLink RX12 69 "PlainJavaModel" "oArgs" "[I" ∈ lw_tbl := List.mem_of_getElem? (i := 2066) (by decide +kernel)
theorem mw_2068 : Cond.fieldLink RX12 72 "PlainJavaModel" "vFirst" "[I" ∈ lw_tbl := List.mem_of_getElem? (i := 2068) (by decide +kernel)
theorem mw_2074 : Cond.fieldLink RX12 516 "PlainJavaModel" "methods" "I" ∈ lw_tbl := List.mem_of_getElem? (i := 2074) (by decide +kernel)
theorem mw_2075 : Cond.fieldLink RX12 75 "PlainJavaModel" "mToken" "[I" ∈ lw_tbl := List.mem_of_getElem? (i := 2075) (by decide +kernel)
theorem mw_2076 : Cond.fieldLink RX12 78 "PlainJavaModel" "mType" "[I" ∈ lw_tbl := List.mem_of_getElem? (i := 2076) (by decide +kernel)
theorem mw_2077 : Cond.fieldLink RX12 81 "PlainJavaModel" "mParams" "[I" ∈ lw_tbl := List.mem_of_getElem? (i := 2077) (by decide +kernel)
theorem mw_2078 : Cond.fieldLink RX12 84 "PlainJavaModel" "mFirst" "[I" ∈ lw_tbl := List.mem_of_getElem? (i := 2078) (by decide +kernel)
theorem mw_2079 : Cond.fieldLink RX12 87 "PlainJavaModel" "mCode" "[I" ∈ lw_tbl := List.mem_of_getElem? (i := 2079) (by decide +kernel)
theorem mw_2080 : Cond.fieldLink RX12 519 "PlainJavaModel" "variables" "I" ∈ lw_tbl := List.mem_of_getElem? (i := 2080) (by decide +kernel)
theorem mw_2081 : Cond.fieldLink RX12 90 "PlainJavaModel" "vToken" "[I" ∈ lw_tbl := List.mem_of_getElem? (i := 2081) (by decide +kernel)
theorem mw_2082 : Cond.fieldLink RX12 93 "PlainJavaModel" "vType" "[I" ∈ lw_tbl := List.mem_of_getElem? (i := 2082) (by decide +kernel)
theorem mw_2083 : Cond.fieldLink RX12 96 "PlainJavaModel" "vFinal" "[Z" ∈ lw_tbl := List.mem_of_getElem? (i := 2083) (by decide +kernel)
theorem mw_2084 : Cond.fieldLink RX12 99 "PlainJavaModel" "vMethod" "[I" ∈ lw_tbl := List.mem_of_getElem? (i := 2084) (by decide +kernel)
theorem mw_2085 : Cond.fieldLink RX12 102 "PlainJavaModel" "vFrame" "[I" ∈ lw_tbl := List.mem_of_getElem? (i := 2085) (by decide +kernel)
theorem mw_2086 : Cond.fieldLink RX12 105 "PlainJavaModel" "vEnd" "[I" ∈ lw_tbl := List.mem_of_getElem? (i := 2086) (by decide +kernel)
theorem mw_2087 : Cond.fieldLink RX12 510 "PlainJavaModel" "things" "I" ∈ lw_tbl := List.mem_of_getElem? (i := 2087) (by decide +kernel)
theorem mw_2088 : Cond.fieldLink RX12 108 "PlainJavaModel" "kSort" "[I" ∈ lw_tbl := List.mem_of_getElem? (i := 2088) (by decide +kernel)
theorem mw_2089 : Cond.fieldLink RX12 111 "PlainJavaModel" "kFrom" "[I" ∈ lw_tbl := List.mem_of_getElem? (i := 2089) (by decide +kernel)
theorem mw_2090 : Cond.fieldLink RX12 114 "PlainJavaModel" "kCond" "[I" ∈ lw_tbl := List.mem_of_getElem? (i := 2090) (by decide +kernel)
theorem mw_2091 : Cond.fieldLink RX12 117 "PlainJavaModel" "kUpdate" "[I" ∈ lw_tbl := List.mem_of_getElem? (i := 2091) (by decide +kernel)
theorem mw_2092 : Cond.fieldLink RX12 120 "PlainJavaModel" "kBody" "[I" ∈ lw_tbl := List.mem_of_getElem? (i := 2092) (by decide +kernel)
theorem mw_2093 : Cond.fieldLink RX12 123 "PlainJavaModel" "kEnd" "[I" ∈ lw_tbl := List.mem_of_getElem? (i := 2093) (by decide +kernel)
theorem mw_2094 : Cond.fieldLink RX12 126 "PlainJavaModel" "kElse" "[I" ∈ lw_tbl := List.mem_of_getElem? (i := 2094) (by decide +kernel)
theorem mw_2095 : Cond.fieldLink RX12 129 "PlainJavaModel" "kCatch" "[I" ∈ lw_tbl := List.mem_of_getElem? (i := 2095) (by decide +kernel)
theorem mw_2096 : Cond.fieldLink RX12 132 "PlainJavaModel" "kFinally" "[I" ∈ lw_tbl := List.mem_of_getElem? (i := 2096) (by decide +kernel)
theorem mw_2097 : Cond.fieldLink RX12 135 "PlainJavaModel" "kDefault" "[I" ∈ lw_tbl := List.mem_of_getElem? (i := 2097) (by decide +kernel)
theorem mw_2098 : Cond.fieldLink RX12 138 "PlainJavaModel" "kToken" "[I" ∈ lw_tbl := List.mem_of_getElem? (i := 2098) (by decide +kernel)
theorem mw_2099 : Cond.fieldLink RX12 141 "PlainJavaModel" "kVariable" "[I" ∈ lw_tbl := List.mem_of_getElem? (i := 2099) (by decide +kernel)
theorem mw_2101 : Cond.fieldLink RX12 144 "PlainJavaModel" "fSort" "[I" ∈ lw_tbl := List.mem_of_getElem? (i := 2101) (by decide +kernel)
theorem mw_2102 : Cond.fieldLink RX12 147 "PlainJavaModel" "fThing" "[I" ∈ lw_tbl := List.mem_of_getElem? (i := 2102) (by decide +kernel)
theorem mw_2103 : Cond.fieldLink RX12 150 "PlainJavaModel" "fStep" "[I" ∈ lw_tbl := List.mem_of_getElem? (i := 2103) (by decide +kernel)
theorem mw_2104 : Cond.fieldLink RX12 634 "PlainJavaModel" "error" "I" ∈ lw_tbl := List.mem_of_getElem? (i := 2104) (by decide +kernel)
theorem mw_2105 : Cond.fieldLink RX12 637 "PlainJavaModel" "errorAt" "I" ∈ lw_tbl := List.mem_of_getElem? (i := 2105) (by decide +kernel)
theorem mw_2106 : Cond.fieldLink RX12 675 "PlainJavaModel" "judged" "Z" ∈ lw_tbl := List.mem_of_getElem? (i := 2106) (by decide +kernel)
theorem mw_2107 : Cond.fieldLink RX12 656 "PlainJavaModel" "lies" "I" ∈ lw_tbl := List.mem_of_getElem? (i := 2107) (by decide +kernel)
theorem mw_2108 : Cond.fieldLink RX12 153 "PlainJavaModel" "sType" "[I" ∈ lw_tbl := List.mem_of_getElem? (i := 2108) (by decide +kernel)
theorem mw_2109 : Cond.fieldLink RX12 156 "PlainJavaModel" "sSure" "[Z" ∈ lw_tbl := List.mem_of_getElem? (i := 2109) (by decide +kernel)
theorem mw_2110 : Cond.fieldLink RX12 159 "PlainJavaModel" "sValue" "[J" ∈ lw_tbl := List.mem_of_getElem? (i := 2110) (by decide +kernel)
theorem mw_2111 : Cond.fieldLink RX12 162 "PlainJavaModel" "sFirst" "[I" ∈ lw_tbl := List.mem_of_getElem? (i := 2111) (by decide +kernel)
theorem mw_2112 : Cond.fieldLink RX12 659 "PlainJavaModel" "exps0" "I" ∈ lw_tbl := List.mem_of_getElem? (i := 2112) (by decide +kernel)
theorem mw_2113 : Cond.fieldLink RX12 165 "PlainJavaModel" "xFirst" "[I" ∈ lw_tbl := List.mem_of_getElem? (i := 2113) (by decide +kernel)
theorem mw_2114 : Cond.fieldLink RX12 168 "PlainJavaModel" "xLast" "[I" ∈ lw_tbl := List.mem_of_getElem? (i := 2114) (by decide +kernel)
theorem mw_2115 : Cond.fieldLink RX12 171 "PlainJavaModel" "xType" "[I" ∈ lw_tbl := List.mem_of_getElem? (i := 2115) (by decide +kernel)
theorem mw_2116 : Cond.fieldLink RX12 174 "PlainJavaModel" "xSure" "[Z" ∈ lw_tbl := List.mem_of_getElem? (i := 2116) (by decide +kernel)
theorem mw_2117 : Cond.fieldLink RX12 177 "PlainJavaModel" "xValue" "[J" ∈ lw_tbl := List.mem_of_getElem? (i := 2117) (by decide +kernel)
theorem mw_2118 : Cond.fieldLink RX12 180 "PlainJavaModel" "tMean" "[I" ∈ lw_tbl := List.mem_of_getElem? (i := 2118) (by decide +kernel)
theorem mw_2119 : Cond.fieldLink RX12 183 "PlainJavaModel" "cType" "[I" ∈ lw_tbl := List.mem_of_getElem? (i := 2119) (by decide +kernel)
theorem mw_2120 : Cond.fieldLink RX12 186 "PlainJavaModel" "cWork" "[I" ∈ lw_tbl := List.mem_of_getElem? (i := 2120) (by decide +kernel)
theorem mw_2121 : Cond.fieldLink RX12 189 "PlainJavaModel" "cWhat" "[I" ∈ lw_tbl := List.mem_of_getElem? (i := 2121) (by decide +kernel)
theorem mw_2122 : Cond.fieldLink RX12 192 "PlainJavaModel" "cSure" "[Z" ∈ lw_tbl := List.mem_of_getElem? (i := 2122) (by decide +kernel)
theorem mw_2123 : Cond.fieldLink RX12 195 "PlainJavaModel" "cValue" "[J" ∈ lw_tbl := List.mem_of_getElem? (i := 2123) (by decide +kernel)
theorem mw_2124 : Cond.fieldLink RX12 198 "PlainJavaModel" "vSure" "[Z" ∈ lw_tbl := List.mem_of_getElem? (i := 2124) (by decide +kernel)
theorem mw_2125 : Cond.fieldLink RX12 201 "PlainJavaModel" "vValue" "[J" ∈ lw_tbl := List.mem_of_getElem? (i := 2125) (by decide +kernel)
theorem mw_2126 : Cond.fieldLink RX12 204 "PlainJavaModel" "kType" "[I" ∈ lw_tbl := List.mem_of_getElem? (i := 2126) (by decide +kernel)
theorem mw_2127 : Cond.fieldLink RX12 640 "PlainJavaModel" "inMethod" "I" ∈ lw_tbl := List.mem_of_getElem? (i := 2127) (by decide +kernel)
theorem mw_2128 : Cond.fieldLink RX12 207 "PlainJavaModel" "labels" "[I" ∈ lw_tbl := List.mem_of_getElem? (i := 2128) (by decide +kernel)
theorem mw_2130 : Cond.fieldLink RX12 833 "PlainJavaModel" "alive" "Z" ∈ lw_tbl := List.mem_of_getElem? (i := 2130) (by decide +kernel)
theorem mw_2131 : Cond.fieldLink RX12 802 "PlainJavaModel" "whenTrue" "J" ∈ lw_tbl := List.mem_of_getElem? (i := 2131) (by decide +kernel)
theorem mw_2132 : Cond.fieldLink RX12 806 "PlainJavaModel" "whenFalse" "J" ∈ lw_tbl := List.mem_of_getElem? (i := 2132) (by decide +kernel)
theorem mw_2133 : Cond.fieldLink RX12 210 "PlainJavaModel" "kAlive" "[Z" ∈ lw_tbl := List.mem_of_getElem? (i := 2133) (by decide +kernel)
theorem mw_2134 : Cond.fieldLink RX12 213 "PlainJavaModel" "kBits" "[J" ∈ lw_tbl := List.mem_of_getElem? (i := 2134) (by decide +kernel)
theorem mw_2135 : Cond.fieldLink RX12 216 "PlainJavaModel" "kOther" "[Z" ∈ lw_tbl := List.mem_of_getElem? (i := 2135) (by decide +kernel)
theorem mw_2136 : Cond.fieldLink RX12 219 "PlainJavaModel" "kOtherBits" "[J" ∈ lw_tbl := List.mem_of_getElem? (i := 2136) (by decide +kernel)
theorem mw_2137 : Cond.fieldLink RX12 222 "PlainJavaModel" "kBefore" "[J" ∈ lw_tbl := List.mem_of_getElem? (i := 2137) (by decide +kernel)
theorem mw_2138 : Cond.fieldLink RX12 815 "PlainJavaModel" "opened" "I" ∈ lw_tbl := List.mem_of_getElem? (i := 2138) (by decide +kernel)
theorem mw_2139 : Cond.fieldLink RX12 225 "PlainJavaModel" "openTrue" "[J" ∈ lw_tbl := List.mem_of_getElem? (i := 2139) (by decide +kernel)
theorem mw_2140 : Cond.fieldLink RX12 228 "PlainJavaModel" "openFalse" "[J" ∈ lw_tbl := List.mem_of_getElem? (i := 2140) (by decide +kernel)
theorem mw_2141 : Cond.fieldLink RX12 812 "PlainJavaModel" "jumps" "I" ∈ lw_tbl := List.mem_of_getElem? (i := 2141) (by decide +kernel)
theorem mw_2142 : Cond.fieldLink RX12 231 "PlainJavaModel" "jTo" "[I" ∈ lw_tbl := List.mem_of_getElem? (i := 2142) (by decide +kernel)
theorem mw_2143 : Cond.fieldLink RX12 234 "PlainJavaModel" "jOn" "[Z" ∈ lw_tbl := List.mem_of_getElem? (i := 2143) (by decide +kernel)
theorem mw_2144 : Cond.fieldLink RX12 237 "PlainJavaModel" "jFrom" "[I" ∈ lw_tbl := List.mem_of_getElem? (i := 2144) (by decide +kernel)
theorem mw_2145 : Cond.fieldLink RX12 240 "PlainJavaModel" "jAlive" "[Z" ∈ lw_tbl := List.mem_of_getElem? (i := 2145) (by decide +kernel)
theorem mw_2146 : Cond.fieldLink RX12 243 "PlainJavaModel" "jBits" "[J" ∈ lw_tbl := List.mem_of_getElem? (i := 2146) (by decide +kernel)
theorem mw_2147 : Cond.fieldLink RX12 246 "PlainJavaModel" "isS" "[Z" ∈ lw_tbl := List.mem_of_getElem? (i := 2147) (by decide +kernel)
theorem mw_2148 : Cond.fieldLink RX12 249 "PlainJavaModel" "sBits" "[J" ∈ lw_tbl := List.mem_of_getElem? (i := 2148) (by decide +kernel)
theorem mw_2149 : Cond.fieldLink RX12 252 "PlainJavaModel" "sEnds" "[Z" ∈ lw_tbl := List.mem_of_getElem? (i := 2149) (by decide +kernel)
theorem mw_2150 : Cond.fieldLink RX12 796 "PlainJavaModel" "late" "I" ∈ lw_tbl := List.mem_of_getElem? (i := 2150) (by decide +kernel)
theorem mw_2152 : Cond.fieldLink RX12 809 "PlainJavaModel" "unset" "I" ∈ lw_tbl := List.mem_of_getElem? (i := 2152) (by decide +kernel)
theorem mw_2155 : Cond.fieldLink RX12 818 "PlainJavaModel" "deadStep" "I" ∈ lw_tbl := List.mem_of_getElem? (i := 2155) (by decide +kernel)
theorem mw_2156 : Cond.fieldLink RX12 255 "PlainJavaModel" "kept" "[I" ∈ lw_tbl := List.mem_of_getElem? (i := 2156) (by decide +kernel)
theorem mw_2157 : Cond.fieldLink RX12 875 "PlainJavaModel" "keptSize" "I" ∈ lw_tbl := List.mem_of_getElem? (i := 2157) (by decide +kernel)
theorem mw_2158 : Cond.fieldLink RX12 258 "PlainJavaModel" "placed" "I" ∈ lw_tbl := List.mem_of_getElem? (i := 2158) (by decide +kernel)
theorem mw_2159 : Cond.fieldLink RX12 878 "PlainJavaModel" "ran" "Z" ∈ lw_tbl := List.mem_of_getElem? (i := 2159) (by decide +kernel)
theorem mw_2160 : Cond.fieldLink RX12 262 "PlainJavaModel" "input" "[I" ∈ lw_tbl := List.mem_of_getElem? (i := 2160) (by decide +kernel)
theorem mw_2161 : Cond.fieldLink RX12 890 "PlainJavaModel" "inputs" "I" ∈ lw_tbl := List.mem_of_getElem? (i := 2161) (by decide +kernel)
theorem mw_2162 : Cond.fieldLink RX12 265 "PlainJavaModel" "argument" "[J" ∈ lw_tbl := List.mem_of_getElem? (i := 2162) (by decide +kernel)
theorem mw_2163 : Cond.fieldLink RX12 268 "PlainJavaModel" "cLink" "[I" ∈ lw_tbl := List.mem_of_getElem? (i := 2163) (by decide +kernel)
theorem mw_2164 : Cond.fieldLink RX12 271 "PlainJavaModel" "linked" "[I" ∈ lw_tbl := List.mem_of_getElem? (i := 2164) (by decide +kernel)
theorem mw_2165 : Cond.fieldLink RX12 274 "PlainJavaModel" "pile" "[J" ∈ lw_tbl := List.mem_of_getElem? (i := 2165) (by decide +kernel)
theorem mw_2168 : Cond.fieldLink RX12 277 "PlainJavaModel" "own" "[J" ∈ lw_tbl := List.mem_of_getElem? (i := 2168) (by decide +kernel)
theorem mw_2169 : Cond.fieldLink RX12 280 "PlainJavaModel" "backTo" "[I" ∈ lw_tbl := List.mem_of_getElem? (i := 2169) (by decide +kernel)
theorem mw_2170 : Cond.fieldLink RX12 283 "PlainJavaModel" "callOf" "[I" ∈ lw_tbl := List.mem_of_getElem? (i := 2170) (by decide +kernel)
theorem mw_2172 : Cond.fieldLink RX12 286 "PlainJavaModel" "yThing" "[I" ∈ lw_tbl := List.mem_of_getElem? (i := 2172) (by decide +kernel)
theorem mw_2173 : Cond.fieldLink RX12 289 "PlainJavaModel" "yCall" "[I" ∈ lw_tbl := List.mem_of_getElem? (i := 2173) (by decide +kernel)
theorem mw_2174 : Cond.fieldLink RX12 292 "PlainJavaModel" "yHeight" "[I" ∈ lw_tbl := List.mem_of_getElem? (i := 2174) (by decide +kernel)
theorem mw_2175 : Cond.fieldLink RX12 295 "PlainJavaModel" "yState" "[I" ∈ lw_tbl := List.mem_of_getElem? (i := 2175) (by decide +kernel)
theorem mw_2176 : Cond.fieldLink RX12 298 "PlainJavaModel" "yKind" "[I" ∈ lw_tbl := List.mem_of_getElem? (i := 2176) (by decide +kernel)
theorem mw_2177 : Cond.fieldLink RX12 301 "PlainJavaModel" "yTo" "[I" ∈ lw_tbl := List.mem_of_getElem? (i := 2177) (by decide +kernel)
theorem mw_2178 : Cond.fieldLink RX12 304 "PlainJavaModel" "yValue" "[J" ∈ lw_tbl := List.mem_of_getElem? (i := 2178) (by decide +kernel)
theorem mw_2187 : Cond.fieldLink RX12 307 "PlainJavaModel" "toldNumber" "[J" ∈ lw_tbl := List.mem_of_getElem? (i := 2187) (by decide +kernel)
theorem mw_2489 : Cond.arrayClass .boolean ∈ lw_tbl := List.mem_of_getElem? (i := 2489) (by decide +kernel)
theorem mw_2490 : Cond.methodLink RL 17 yX12_feed ∈ lw_tbl := List.mem_of_getElem? (i := 2490) (by decide +kernel)
theorem mw_2491 : Cond.instanceMethod yX12_feed ∈ lw_tbl := List.mem_of_getElem? (i := 2491) (by decide +kernel)
theorem mw_2492 : Cond.selects RX12 yX12_feed yX12_feed ∈ lw_tbl := List.mem_of_getElem? (i := 2492) (by decide +kernel)
set_option maxRecDepth 100000 in
theorem mw_2493 : Cond.code yX12_feed cX12_feed 6 (some .int) ∈ lw_tbl := List.mem_of_getElem? (i := 2493) rfl
theorem mw_2494 : Cond.methodLink RX12 313 yX12_lay ∈ lw_tbl := List.mem_of_getElem? (i := 2494) (by decide +kernel)
theorem mw_2496 : Cond.instanceMethod yX12_lay ∈ lw_tbl := List.mem_of_getElem? (i := 2496) (by decide +kernel)
set_option maxRecDepth 100000 in
theorem mw_2497 : Cond.code yX12_lay cX12_lay 3 none ∈ lw_tbl := List.mem_of_getElem? (i := 2497) rfl
theorem mw_2498 : Cond.methodLink RL 22 yX12_cut ∈ lw_tbl := List.mem_of_getElem? (i := 2498) (by decide +kernel)
theorem mw_2499 : Cond.instanceMethod yX12_cut ∈ lw_tbl := List.mem_of_getElem? (i := 2499) (by decide +kernel)
theorem mw_2500 : Cond.selects RX12 yX12_cut yX12_cut ∈ lw_tbl := List.mem_of_getElem? (i := 2500) (by decide +kernel)
set_option maxRecDepth 100000 in
theorem mw_2501 : Cond.code yX12_cut cX12_cut 2 (some .int) ∈ lw_tbl := List.mem_of_getElem? (i := 2501) rfl
theorem mw_2502 : Cond.methodLink RL 27 yX12_read ∈ lw_tbl := List.mem_of_getElem? (i := 2502) (by decide +kernel)
theorem mw_2503 : Cond.instanceMethod yX12_read ∈ lw_tbl := List.mem_of_getElem? (i := 2503) (by decide +kernel)
theorem mw_2504 : Cond.selects RX12 yX12_read yX12_read ∈ lw_tbl := List.mem_of_getElem? (i := 2504) (by decide +kernel)
set_option maxRecDepth 100000 in
theorem mw_2505 : Cond.code yX12_read cX12_read 5 (some .int) ∈ lw_tbl := List.mem_of_getElem? (i := 2505) rfl
theorem mw_2506 : Cond.methodLink RX12 869 yX12_lexer ∈ lw_tbl := List.mem_of_getElem? (i := 2506) (by decide +kernel)
theorem mw_2508 : Cond.instanceMethod yX12_lexer ∈ lw_tbl := List.mem_of_getElem? (i := 2508) (by decide +kernel)
set_option maxRecDepth 100000 in
theorem mw_2509 : Cond.code yX12_lexer cX12_lexer 4 none ∈ lw_tbl := List.mem_of_getElem? (i := 2509) rfl
theorem mw_2569 : Cond.methodLink RX12 872 yX12_parse ∈ lw_tbl := List.mem_of_getElem? (i := 2569) (by decide +kernel)
theorem mw_2571 : Cond.instanceMethod yX12_parse ∈ lw_tbl := List.mem_of_getElem? (i := 2571) (by decide +kernel)
set_option maxRecDepth 100000 in
theorem mw_2572 : Cond.code yX12_parse cX12_parse 1 (some .boolean) ∈ lw_tbl := List.mem_of_getElem? (i := 2572) rfl
theorem mw_2801 : Cond.methodLink RX12 881 yX12_judgeAll ∈ lw_tbl := List.mem_of_getElem? (i := 2801) (by decide +kernel)
theorem mw_2803 : Cond.instanceMethod yX12_judgeAll ∈ lw_tbl := List.mem_of_getElem? (i := 2803) (by decide +kernel)
set_option maxRecDepth 100000 in
theorem mw_2804 : Cond.code yX12_judgeAll cX12_judgeAll 2 none ∈ lw_tbl := List.mem_of_getElem? (i := 2804) rfl
theorem mw_2805 : Cond.methodLink RX12 678 yX12_methodsTold ∈ lw_tbl := List.mem_of_getElem? (i := 2805) (by decide +kernel)
theorem mw_2807 : Cond.instanceMethod yX12_methodsTold ∈ lw_tbl := List.mem_of_getElem? (i := 2807) (by decide +kernel)
set_option maxRecDepth 100000 in
theorem mw_2808 : Cond.code yX12_methodsTold cX12_methodsTold 6 none ∈ lw_tbl := List.mem_of_getElem? (i := 2808) rfl
theorem mw_2969 : Cond.methodLink RX12 690 yX12_flow ∈ lw_tbl := List.mem_of_getElem? (i := 2969) (by decide +kernel)
theorem mw_2971 : Cond.instanceMethod yX12_flow ∈ lw_tbl := List.mem_of_getElem? (i := 2971) (by decide +kernel)
set_option maxRecDepth 100000 in
theorem mw_2972 : Cond.code yX12_flow cX12_flow 3 none ∈ lw_tbl := List.mem_of_getElem? (i := 2972) rfl
theorem mw_2973 : Cond.methodLink RX12 821 yX12_start ∈ lw_tbl := List.mem_of_getElem? (i := 2973) (by decide +kernel)
theorem mw_2975 : Cond.instanceMethod yX12_start ∈ lw_tbl := List.mem_of_getElem? (i := 2975) (by decide +kernel)
set_option maxRecDepth 100000 in
theorem mw_2976 : Cond.code yX12_start cX12_start 5 none ∈ lw_tbl := List.mem_of_getElem? (i := 2976) rfl
theorem mw_2977 : Cond.methodLink RX12 836 yX12_be ∈ lw_tbl := List.mem_of_getElem? (i := 2977) (by decide +kernel)
theorem mw_2979 : Cond.instanceMethod yX12_be ∈ lw_tbl := List.mem_of_getElem? (i := 2979) (by decide +kernel)
set_option maxRecDepth 100000 in
theorem mw_2980 : Cond.code yX12_be cX12_be 3 none ∈ lw_tbl := List.mem_of_getElem? (i := 2980) rfl
theorem mw_3021 : Cond.methodLink RL 31 yX12_place ∈ lw_tbl := List.mem_of_getElem? (i := 3021) (by decide +kernel)
theorem mw_3022 : Cond.instanceMethod yX12_place ∈ lw_tbl := List.mem_of_getElem? (i := 3022) (by decide +kernel)
theorem mw_3023 : Cond.selects RX12 yX12_place yX12_place ∈ lw_tbl := List.mem_of_getElem? (i := 3023) (by decide +kernel)
set_option maxRecDepth 100000 in
theorem mw_3024 : Cond.code yX12_place cX12_place 1 (some .int) ∈ lw_tbl := List.mem_of_getElem? (i := 3024) rfl
theorem mw_3025 : Cond.methodLink RL 35 yX12_judge ∈ lw_tbl := List.mem_of_getElem? (i := 3025) (by decide +kernel)
theorem mw_3026 : Cond.instanceMethod yX12_judge ∈ lw_tbl := List.mem_of_getElem? (i := 3026) (by decide +kernel)
theorem mw_3027 : Cond.selects RX12 yX12_judge yX12_judge ∈ lw_tbl := List.mem_of_getElem? (i := 3027) (by decide +kernel)
set_option maxRecDepth 100000 in
theorem mw_3028 : Cond.code yX12_judge cX12_judge 2 (some .int) ∈ lw_tbl := List.mem_of_getElem? (i := 3028) rfl
theorem mw_3029 : Cond.methodLink RX12 884 yX12_isGood ∈ lw_tbl := List.mem_of_getElem? (i := 3029) (by decide +kernel)
theorem mw_3031 : Cond.instanceMethod yX12_isGood ∈ lw_tbl := List.mem_of_getElem? (i := 3031) (by decide +kernel)
set_option maxRecDepth 100000 in
theorem mw_3032 : Cond.code yX12_isGood cX12_isGood 1 (some .boolean) ∈ lw_tbl := List.mem_of_getElem? (i := 3032) rfl
theorem mw_3033 : Cond.methodLink RL 39 yX12_told_ ∈ lw_tbl := List.mem_of_getElem? (i := 3033) (by decide +kernel)
theorem mw_3034 : Cond.instanceMethod yX12_told_ ∈ lw_tbl := List.mem_of_getElem? (i := 3034) (by decide +kernel)
theorem mw_3035 : Cond.selects RX12 yX12_told_ yX12_told_ ∈ lw_tbl := List.mem_of_getElem? (i := 3035) (by decide +kernel)
set_option maxRecDepth 100000 in
theorem mw_3036 : Cond.code yX12_told_ cX12_told_ 2 (some .int) ∈ lw_tbl := List.mem_of_getElem? (i := 3036) rfl
theorem mw_3037 : Cond.methodLink RX12 887 yX12_tokens ∈ lw_tbl := List.mem_of_getElem? (i := 3037) (by decide +kernel)
theorem mw_3039 : Cond.instanceMethod yX12_tokens ∈ lw_tbl := List.mem_of_getElem? (i := 3039) (by decide +kernel)
set_option maxRecDepth 100000 in
theorem mw_3040 : Cond.code yX12_tokens cX12_tokens 1 (some .int) ∈ lw_tbl := List.mem_of_getElem? (i := 3040) rfl
theorem mw_3041 : Cond.methodLink RL 44 yX12_token ∈ lw_tbl := List.mem_of_getElem? (i := 3041) (by decide +kernel)
theorem mw_3042 : Cond.instanceMethod yX12_token ∈ lw_tbl := List.mem_of_getElem? (i := 3042) (by decide +kernel)
theorem mw_3043 : Cond.selects RX12 yX12_token yX12_token ∈ lw_tbl := List.mem_of_getElem? (i := 3043) (by decide +kernel)
set_option maxRecDepth 100000 in
theorem mw_3044 : Cond.code yX12_token cX12_token 3 (some .int) ∈ lw_tbl := List.mem_of_getElem? (i := 3044) rfl
theorem mw_3045 : Cond.methodLink RX12 893 yX12_isToken ∈ lw_tbl := List.mem_of_getElem? (i := 3045) (by decide +kernel)
theorem mw_3047 : Cond.instanceMethod yX12_isToken ∈ lw_tbl := List.mem_of_getElem? (i := 3047) (by decide +kernel)
set_option maxRecDepth 100000 in
theorem mw_3048 : Cond.code yX12_isToken cX12_isToken 2 (some .boolean) ∈ lw_tbl := List.mem_of_getElem? (i := 3048) rfl
theorem mw_3049 : Cond.methodLink RL 48 yX12_method_ ∈ lw_tbl := List.mem_of_getElem? (i := 3049) (by decide +kernel)
theorem mw_3050 : Cond.instanceMethod yX12_method_ ∈ lw_tbl := List.mem_of_getElem? (i := 3050) (by decide +kernel)
theorem mw_3051 : Cond.selects RX12 yX12_method_ yX12_method_ ∈ lw_tbl := List.mem_of_getElem? (i := 3051) (by decide +kernel)
set_option maxRecDepth 100000 in
theorem mw_3052 : Cond.code yX12_method_ cX12_method_ 3 (some .int) ∈ lw_tbl := List.mem_of_getElem? (i := 3052) rfl
theorem mw_3053 : Cond.methodLink RL 52 yX12_variable_ ∈ lw_tbl := List.mem_of_getElem? (i := 3053) (by decide +kernel)
theorem mw_3054 : Cond.instanceMethod yX12_variable_ ∈ lw_tbl := List.mem_of_getElem? (i := 3054) (by decide +kernel)
theorem mw_3055 : Cond.selects RX12 yX12_variable_ yX12_variable_ ∈ lw_tbl := List.mem_of_getElem? (i := 3055) (by decide +kernel)
set_option maxRecDepth 100000 in
theorem mw_3056 : Cond.code yX12_variable_ cX12_variable_ 3 (some .int) ∈ lw_tbl := List.mem_of_getElem? (i := 3056) rfl
theorem mw_3057 : Cond.methodLink RL 56 yX12_means ∈ lw_tbl := List.mem_of_getElem? (i := 3057) (by decide +kernel)
theorem mw_3058 : Cond.instanceMethod yX12_means ∈ lw_tbl := List.mem_of_getElem? (i := 3058) (by decide +kernel)
theorem mw_3059 : Cond.selects RX12 yX12_means yX12_means ∈ lw_tbl := List.mem_of_getElem? (i := 3059) (by decide +kernel)
set_option maxRecDepth 100000 in
theorem mw_3060 : Cond.code yX12_means cX12_means 2 (some .int) ∈ lw_tbl := List.mem_of_getElem? (i := 3060) rfl
theorem mw_3061 : Cond.methodLink RL 60 yX12_type ∈ lw_tbl := List.mem_of_getElem? (i := 3061) (by decide +kernel)
theorem mw_3062 : Cond.instanceMethod yX12_type ∈ lw_tbl := List.mem_of_getElem? (i := 3062) (by decide +kernel)
theorem mw_3063 : Cond.selects RX12 yX12_type yX12_type ∈ lw_tbl := List.mem_of_getElem? (i := 3063) (by decide +kernel)
set_option maxRecDepth 100000 in
theorem mw_3064 : Cond.code yX12_type cX12_type 4 (some .int) ∈ lw_tbl := List.mem_of_getElem? (i := 3064) rfl
theorem mw_3065 : Cond.methodLink RX12 896 yX12_expAt ∈ lw_tbl := List.mem_of_getElem? (i := 3065) (by decide +kernel)
theorem mw_3067 : Cond.instanceMethod yX12_expAt ∈ lw_tbl := List.mem_of_getElem? (i := 3067) (by decide +kernel)
set_option maxRecDepth 100000 in
theorem mw_3068 : Cond.code yX12_expAt cX12_expAt 5 (some .int) ∈ lw_tbl := List.mem_of_getElem? (i := 3068) rfl
theorem mw_3069 : Cond.methodLink RL 65 yX12_constant ∈ lw_tbl := List.mem_of_getElem? (i := 3069) (by decide +kernel)
theorem mw_3070 : Cond.instanceMethod yX12_constant ∈ lw_tbl := List.mem_of_getElem? (i := 3070) (by decide +kernel)
theorem mw_3071 : Cond.selects RX12 yX12_constant yX12_constant ∈ lw_tbl := List.mem_of_getElem? (i := 3071) (by decide +kernel)
set_option maxRecDepth 100000 in
theorem mw_3072 : Cond.code yX12_constant cX12_constant 4 (some .long) ∈ lw_tbl := List.mem_of_getElem? (i := 3072) rfl
theorem mw_3073 : Cond.constantLong RX12 899 (-1234567890123) ∈ lw_tbl := List.mem_of_getElem? (i := 3073) (by decide +kernel)
theorem mw_3074 : Cond.methodLink RL 69 yX12_ends ∈ lw_tbl := List.mem_of_getElem? (i := 3074) (by decide +kernel)
theorem mw_3075 : Cond.instanceMethod yX12_ends ∈ lw_tbl := List.mem_of_getElem? (i := 3075) (by decide +kernel)
theorem mw_3076 : Cond.selects RX12 yX12_ends yX12_ends ∈ lw_tbl := List.mem_of_getElem? (i := 3076) (by decide +kernel)
set_option maxRecDepth 100000 in
theorem mw_3077 : Cond.code yX12_ends cX12_ends 2 (some .int) ∈ lw_tbl := List.mem_of_getElem? (i := 3077) rfl
theorem mw_3078 : Cond.methodLink RL 73 yX12_assigned ∈ lw_tbl := List.mem_of_getElem? (i := 3078) (by decide +kernel)
theorem mw_3079 : Cond.instanceMethod yX12_assigned ∈ lw_tbl := List.mem_of_getElem? (i := 3079) (by decide +kernel)
theorem mw_3080 : Cond.selects RX12 yX12_assigned yX12_assigned ∈ lw_tbl := List.mem_of_getElem? (i := 3080) (by decide +kernel)
set_option maxRecDepth 100000 in
theorem mw_3081 : Cond.code yX12_assigned cX12_assigned 3 (some .int) ∈ lw_tbl := List.mem_of_getElem? (i := 3081) rfl
theorem mw_3082 : Cond.methodLink RL 80 yX12_argument ∈ lw_tbl := List.mem_of_getElem? (i := 3082) (by decide +kernel)
theorem mw_3083 : Cond.instanceMethod yX12_argument ∈ lw_tbl := List.mem_of_getElem? (i := 3083) (by decide +kernel)
theorem mw_3084 : Cond.selects RX12 yX12_argument yX12_argument ∈ lw_tbl := List.mem_of_getElem? (i := 3084) (by decide +kernel)
set_option maxRecDepth 100000 in
theorem mw_3085 : Cond.code yX12_argument cX12_argument 4 (some .int) ∈ lw_tbl := List.mem_of_getElem? (i := 3085) rfl
theorem mw_3086 : Cond.methodLink RL 84 yX12_input ∈ lw_tbl := List.mem_of_getElem? (i := 3086) (by decide +kernel)
theorem mw_3087 : Cond.instanceMethod yX12_input ∈ lw_tbl := List.mem_of_getElem? (i := 3087) (by decide +kernel)
theorem mw_3088 : Cond.selects RX12 yX12_input yX12_input ∈ lw_tbl := List.mem_of_getElem? (i := 3088) (by decide +kernel)
set_option maxRecDepth 100000 in
theorem mw_3089 : Cond.code yX12_input cX12_input 2 (some .int) ∈ lw_tbl := List.mem_of_getElem? (i := 3089) rfl
theorem mw_3090 : Cond.methodLink RL 88 yX12_drain ∈ lw_tbl := List.mem_of_getElem? (i := 3090) (by decide +kernel)
theorem mw_3091 : Cond.instanceMethod yX12_drain ∈ lw_tbl := List.mem_of_getElem? (i := 3091) (by decide +kernel)
theorem mw_3092 : Cond.selects RX12 yX12_drain yX12_drain ∈ lw_tbl := List.mem_of_getElem? (i := 3092) (by decide +kernel)
set_option maxRecDepth 100000 in
theorem mw_3093 : Cond.code yX12_drain cX12_drain 2 (some .int) ∈ lw_tbl := List.mem_of_getElem? (i := 3093) rfl
theorem mw_3094 : Cond.methodLink RL 92 yX12_run ∈ lw_tbl := List.mem_of_getElem? (i := 3094) (by decide +kernel)
theorem mw_3095 : Cond.instanceMethod yX12_run ∈ lw_tbl := List.mem_of_getElem? (i := 3095) (by decide +kernel)
theorem mw_3096 : Cond.selects RX12 yX12_run yX12_run ∈ lw_tbl := List.mem_of_getElem? (i := 3096) (by decide +kernel)
set_option maxRecDepth 100000 in
theorem mw_3097 : Cond.code yX12_run cX12_run 4 (some .int) ∈ lw_tbl := List.mem_of_getElem? (i := 3097) rfl
theorem mw_3166 : Cond.methodLink RL 97 yX12_ran ∈ lw_tbl := List.mem_of_getElem? (i := 3166) (by decide +kernel)
theorem mw_3167 : Cond.instanceMethod yX12_ran ∈ lw_tbl := List.mem_of_getElem? (i := 3167) (by decide +kernel)
theorem mw_3168 : Cond.selects RX12 yX12_ran yX12_ran ∈ lw_tbl := List.mem_of_getElem? (i := 3168) (by decide +kernel)
set_option maxRecDepth 100000 in
theorem mw_3169 : Cond.code yX12_ran cX12_ran 2 (some .long) ∈ lw_tbl := List.mem_of_getElem? (i := 3169) rfl
theorem mw_3170 : Cond.constantLong RL 74 (4294967295) ∈ lw_tbl := List.mem_of_getElem? (i := 3170) (by decide +kernel)
theorem mw_3192 : Cond.fieldLink RJ0 9 "java/lang/String" "value" "[B" ∈ lw_tbl := List.mem_of_getElem? (i := 3192) (by decide +kernel)
theorem mw_3193 : Cond.fieldLink RJ0 15 "java/lang/String" "coder" "B" ∈ lw_tbl := List.mem_of_getElem? (i := 3193) (by decide +kernel)
theorem it_Jx4a65c : ∀ w ∈ wsJx4a65c0, w ∈ lw_tbl := in_ps [453, 449, 451] (by decide +kernel)
theorem it_X0 : ∀ w ∈ wsX00, w ∈ lw_tbl := in_ps [771, 773, 775, 777, 779, 781, 783] (by decide +kernel)
theorem it_X1 : ∀ w ∈ wsX10, w ∈ lw_tbl := in_ps [1252, 1254, 1256, 1258, 1260, 1262, 1264, 1266, 1268, 1270, 1272, 1274, 1276, 1278, 1280, 1282, 1284, 1286] (by decide +kernel)
theorem it_X2 : ∀ w ∈ wsX20, w ∈ lw_tbl := in_ps [729, 731, 733, 735, 737] (by decide +kernel)
theorem it_X3 : ∀ w ∈ wsX30, w ∈ lw_tbl := in_ps [742, 744] (by decide +kernel)
theorem it_X4 : ∀ w ∈ wsX40, w ∈ lw_tbl := in_ps [814, 816, 818, 820, 822, 824, 826, 828, 830, 832, 834, 836, 838, 840, 842, 844, 846, 848, 850, 852, 854] (by decide +kernel)
theorem it_X5 : ∀ w ∈ wsX50, w ∈ lw_tbl := in_ps [616, 618, 620, 622, 624, 626, 628] (by decide +kernel)
theorem it_X6 : ∀ w ∈ wsX60, w ∈ lw_tbl := in_ps [665, 667, 669, 671, 673, 675, 677, 679, 681] (by decide +kernel)
theorem it_X7 : ∀ w ∈ wsX70, w ∈ lw_tbl := in_ps [697, 699, 701, 703, 705, 707, 709] (by decide +kernel)
theorem it_X8 : ∀ w ∈ wsX80, w ∈ lw_tbl := in_ps [546, 548, 550, 552, 554, 556, 558, 560, 562, 564, 566, 568, 570, 572, 574, 576, 578, 580, 582, 584, 586] (by decide +kernel)
theorem it_X9 : ∀ w ∈ wsX90, w ∈ lw_tbl := in_ps [408, 410, 412, 414, 416, 418, 420, 422, 424] (by decide +kernel)
theorem it_X10 : ∀ w ∈ wsX100, w ∈ lw_tbl := in_ps [1098, 1100, 1102, 1104, 1106, 1108, 1110] (by decide +kernel)
theorem it_X11 : ∀ w ∈ wsX110, w ∈ lw_tbl := in_ps [870, 872, 874, 876, 878, 880, 882, 884, 886, 888, 890, 892, 894] (by decide +kernel)
theorem it_X12 : ∀ w ∈ wsX120, w ∈ lw_tbl := in_ps [2188, 2190, 2192, 2194, 2196, 2198, 2200, 2202, 2204, 2206, 2208, 2210, 2212, 2214, 2216, 2218, 2220, 2222, 2224, 2226, 2228, 2230, 2232, 2234, 2236, 2238, 2240, 2242, 2244, 2246, 2248, 2250, 2252, 2254, 2256, 2258, 2260, 2262, 2264, 2266, 2268, 2270, 2272, 2274, 2276, 2278, 2280, 2282, 2284, 2286, 2288, 2290, 2292, 2294, 2296, 2298, 2300, 2302, 2304, 2306, 2308, 2310, 2312, 2314, 2316, 2318, 2320, 2322, 2324, 2326, 2328, 2330, 2332, 2334, 2336, 2338, 2340, 2342, 2344, 2346, 2348, 2350, 2352, 2354, 2356, 2358, 2360, 2362, 2364, 2366, 2368, 2370, 2372, 2374, 2376, 2378, 2380, 2382, 2384, 2386, 2388, 2390, 2392, 2394, 2396, 2398, 2400, 2402, 2404, 2406, 2408, 2410, 2412, 2414, 2416, 2418, 2420, 2422, 2424, 2426, 2428, 2430, 2432, 2434, 2436, 2438, 2440, 2442, 2444, 2446, 2448, 2450, 2452, 2454, 2456, 2458, 2460, 2462, 2464, 2466, 2468, 2470, 2472, 2474, 2476, 2478, 2480, 2482, 2484, 2486] (by decide +kernel)
theorem wi_X8_init : ∀ w ∈ ww_X8_init, w ∈ lw_tbl := List.forall_mem_cons.mpr ⟨mw_470, List.forall_mem_append.mpr ⟨(List.forall_mem_cons.mpr ⟨mw_471, (List.forall_mem_cons.mpr ⟨mw_321, (List.forall_mem_cons.mpr ⟨mw_322, (List.forall_mem_cons.mpr ⟨mw_522, (List.forall_mem_cons.mpr ⟨mw_472, (List.forall_mem_cons.mpr ⟨mw_538, (List.forall_mem_cons.mpr ⟨mw_540, (List.forall_mem_cons.mpr ⟨mw_473, (List.forall_mem_cons.mpr ⟨mw_479, (List.forall_mem_cons.mpr ⟨mw_485, (List.forall_mem_cons.mpr ⟨mw_489, (List.forall_mem_cons.mpr ⟨mw_493, (fun _ h => absurd h List.not_mem_nil)⟩)⟩)⟩)⟩)⟩)⟩)⟩)⟩)⟩)⟩)⟩)⟩), it_X8⟩⟩
theorem wi_X5_init : ∀ w ∈ ww_X5_init, w ∈ lw_tbl := List.forall_mem_cons.mpr ⟨mw_464, List.forall_mem_append.mpr ⟨(List.forall_mem_cons.mpr ⟨mw_465, (List.forall_mem_cons.mpr ⟨mw_321, (List.forall_mem_cons.mpr ⟨mw_322, (List.forall_mem_cons.mpr ⟨mw_428, (List.forall_mem_cons.mpr ⟨mw_600, (List.forall_mem_cons.mpr ⟨mw_466, (List.forall_mem_cons.mpr ⟨mw_467, (List.forall_mem_cons.mpr ⟨mw_301, (List.forall_mem_cons.mpr ⟨mw_468, (List.forall_mem_cons.mpr ⟨mw_469, (List.forall_mem_cons.mpr ⟨mw_611, (List.forall_mem_cons.mpr ⟨mw_589, (List.forall_mem_cons.mpr ⟨mw_593, (List.forall_mem_cons.mpr ⟨mw_595, (List.forall_mem_cons.mpr ⟨mw_603, (fun _ h => absurd h List.not_mem_nil)⟩)⟩)⟩)⟩)⟩)⟩)⟩)⟩)⟩)⟩)⟩)⟩)⟩)⟩)⟩), (List.forall_mem_append.mpr ⟨it_X5, (List.forall_mem_append.mpr ⟨it_X8, wi_X8_init⟩)⟩)⟩⟩
theorem wi_X7_init : ∀ w ∈ ww_X7_init, w ∈ lw_tbl := List.forall_mem_cons.mpr ⟨mw_688, List.forall_mem_append.mpr ⟨(List.forall_mem_cons.mpr ⟨mw_689, (List.forall_mem_cons.mpr ⟨mw_321, (List.forall_mem_cons.mpr ⟨mw_322, (List.forall_mem_cons.mpr ⟨mw_690, (List.forall_mem_cons.mpr ⟨mw_636, (List.forall_mem_cons.mpr ⟨mw_691, (fun _ h => absurd h List.not_mem_nil)⟩)⟩)⟩)⟩)⟩)⟩), (List.forall_mem_append.mpr ⟨it_X7, it_X6⟩)⟩⟩
theorem wi_X2_init : ∀ w ∈ ww_X2_init, w ∈ lw_tbl := List.forall_mem_cons.mpr ⟨mw_722, List.forall_mem_append.mpr ⟨(List.forall_mem_cons.mpr ⟨mw_723, (List.forall_mem_cons.mpr ⟨mw_321, (List.forall_mem_cons.mpr ⟨mw_322, (List.forall_mem_cons.mpr ⟨mw_429, (List.forall_mem_cons.mpr ⟨mw_727, (List.forall_mem_cons.mpr ⟨mw_724, (fun _ h => absurd h List.not_mem_nil)⟩)⟩)⟩)⟩)⟩)⟩), it_X2⟩⟩
theorem wi_X3_init : ∀ w ∈ ww_X3_init, w ∈ lw_tbl := List.forall_mem_cons.mpr ⟨mw_716, List.forall_mem_append.mpr ⟨(List.forall_mem_cons.mpr ⟨mw_717, (List.forall_mem_cons.mpr ⟨mw_321, (List.forall_mem_cons.mpr ⟨mw_322, (List.forall_mem_cons.mpr ⟨mw_741, (List.forall_mem_cons.mpr ⟨mw_718, (List.forall_mem_cons.mpr ⟨mw_719, (List.forall_mem_cons.mpr ⟨mw_304, (List.forall_mem_cons.mpr ⟨mw_720, (List.forall_mem_cons.mpr ⟨mw_721, (List.forall_mem_cons.mpr ⟨mw_740, (fun _ h => absurd h List.not_mem_nil)⟩)⟩)⟩)⟩)⟩)⟩)⟩)⟩)⟩)⟩), (List.forall_mem_append.mpr ⟨it_X3, (List.forall_mem_append.mpr ⟨it_X2, wi_X2_init⟩)⟩)⟩⟩
theorem wi_X0_init : ∀ w ∈ ww_X0_init, w ∈ lw_tbl := List.forall_mem_cons.mpr ⟨mw_751, List.forall_mem_append.mpr ⟨(List.forall_mem_cons.mpr ⟨mw_752, (List.forall_mem_cons.mpr ⟨mw_321, (List.forall_mem_cons.mpr ⟨mw_322, (List.forall_mem_cons.mpr ⟨mw_428, (List.forall_mem_cons.mpr ⟨mw_758, (List.forall_mem_cons.mpr ⟨mw_760, (List.forall_mem_cons.mpr ⟨mw_753, (List.forall_mem_cons.mpr ⟨mw_762, (List.forall_mem_cons.mpr ⟨mw_755, (List.forall_mem_cons.mpr ⟨mw_764, (List.forall_mem_cons.mpr ⟨mw_467, (List.forall_mem_cons.mpr ⟨mw_301, (List.forall_mem_cons.mpr ⟨mw_757, (List.forall_mem_cons.mpr ⟨mw_469, (List.forall_mem_cons.mpr ⟨mw_770, (List.forall_mem_cons.mpr ⟨mw_768, (fun _ h => absurd h List.not_mem_nil)⟩)⟩)⟩)⟩)⟩)⟩)⟩)⟩)⟩)⟩)⟩)⟩)⟩)⟩)⟩)⟩), (List.forall_mem_append.mpr ⟨it_X0, (List.forall_mem_append.mpr ⟨it_X8, wi_X8_init⟩)⟩)⟩⟩
theorem wi_X4_init : ∀ w ∈ ww_X4_init, w ∈ lw_tbl := List.forall_mem_cons.mpr ⟨mw_790, List.forall_mem_append.mpr ⟨(List.forall_mem_cons.mpr ⟨mw_791, (List.forall_mem_cons.mpr ⟨mw_321, (List.forall_mem_cons.mpr ⟨mw_322, (List.forall_mem_cons.mpr ⟨mw_429, (List.forall_mem_cons.mpr ⟨mw_793, (List.forall_mem_cons.mpr ⟨mw_794, (List.forall_mem_cons.mpr ⟨mw_428, (List.forall_mem_cons.mpr ⟨mw_795, (List.forall_mem_cons.mpr ⟨mw_796, (List.forall_mem_cons.mpr ⟨mw_797, (List.forall_mem_cons.mpr ⟨mw_798, (List.forall_mem_cons.mpr ⟨mw_792, (List.forall_mem_cons.mpr ⟨mw_799, (List.forall_mem_cons.mpr ⟨mw_800, (List.forall_mem_cons.mpr ⟨mw_802, (List.forall_mem_cons.mpr ⟨mw_801, (fun _ h => absurd h List.not_mem_nil)⟩)⟩)⟩)⟩)⟩)⟩)⟩)⟩)⟩)⟩)⟩)⟩)⟩)⟩)⟩)⟩), it_X4⟩⟩
theorem wi_coder : ∀ w ∈ ww_coder, w ∈ lw_tbl := List.forall_mem_cons.mpr ⟨mw_343, List.forall_mem_append.mpr ⟨(List.forall_mem_cons.mpr ⟨mw_344, (List.forall_mem_cons.mpr ⟨mw_3193, (fun _ h => absurd h List.not_mem_nil)⟩)⟩), (fun _ h => absurd h List.not_mem_nil)⟩⟩
theorem wi_isLatin1 : ∀ w ∈ ww_isLatin1, w ∈ lw_tbl := List.forall_mem_cons.mpr ⟨mw_353, List.forall_mem_append.mpr ⟨(List.forall_mem_cons.mpr ⟨mw_344, (List.forall_mem_cons.mpr ⟨mw_3193, (fun _ h => absurd h List.not_mem_nil)⟩)⟩), (fun _ h => absurd h List.not_mem_nil)⟩⟩
theorem wi_length : ∀ w ∈ ww_length, w ∈ lw_tbl := List.forall_mem_cons.mpr ⟨mw_339, List.forall_mem_append.mpr ⟨(List.forall_mem_cons.mpr ⟨mw_3192, (fun _ h => absurd h List.not_mem_nil)⟩), (List.forall_mem_append.mpr ⟨wi_coder, (by unfold wsV; exact List.forall_mem_append.mpr ⟨(List.forall_mem_cons.mpr ⟨mw_340, (List.forall_mem_cons.mpr ⟨mw_341, (List.forall_mem_cons.mpr ⟨mw_342, (List.forall_mem_cons.mpr ⟨mw_293, (fun _ h => absurd h List.not_mem_nil)⟩)⟩)⟩)⟩), wi_coder⟩)⟩)⟩⟩
theorem wi_pcheckN : ∀ w ∈ ww_pcheckN, w ∈ lw_tbl := List.forall_mem_cons.mpr ⟨mw_364, List.forall_mem_append.mpr ⟨(fun _ h => absurd h List.not_mem_nil), (fun _ h => absurd h List.not_mem_nil)⟩⟩
theorem wi_pcheckR : ∀ w ∈ ww_pcheckR, w ∈ lw_tbl := List.forall_mem_cons.mpr ⟨mw_364, List.forall_mem_append.mpr ⟨(fun _ h => absurd h List.not_mem_nil), (fun _ h => absurd h List.not_mem_nil)⟩⟩
theorem wi_scheck : ∀ w ∈ ww_scheck, w ∈ lw_tbl := List.forall_mem_cons.mpr ⟨mw_359, List.forall_mem_append.mpr ⟨(List.forall_mem_cons.mpr ⟨mw_360, (fun _ h => absurd h List.not_mem_nil)⟩), (List.forall_mem_append.mpr ⟨wi_pcheckN, (List.forall_mem_append.mpr ⟨(by unfold va_wsS; exact List.forall_mem_append.mpr ⟨(List.forall_mem_cons.mpr ⟨mw_362, (List.forall_mem_cons.mpr ⟨mw_363, (List.forall_mem_cons.mpr ⟨mw_295, (fun _ h => absurd h List.not_mem_nil)⟩)⟩)⟩), wi_pcheckN⟩), (List.forall_mem_append.mpr ⟨wi_pcheckR, (by unfold va_wsS; exact List.forall_mem_append.mpr ⟨(List.forall_mem_cons.mpr ⟨mw_362, (List.forall_mem_cons.mpr ⟨mw_363, (List.forall_mem_cons.mpr ⟨mw_295, (fun _ h => absurd h List.not_mem_nil)⟩)⟩)⟩), wi_pcheckR⟩)⟩)⟩)⟩)⟩⟩
theorem wi_charAt1 : ∀ w ∈ ww_charAt1, w ∈ lw_tbl := List.forall_mem_cons.mpr ⟨mw_356, List.forall_mem_append.mpr ⟨(fun _ h => absurd h List.not_mem_nil), (List.forall_mem_append.mpr ⟨wi_scheck, (by unfold va_wsS; exact List.forall_mem_append.mpr ⟨(List.forall_mem_cons.mpr ⟨mw_357, (List.forall_mem_cons.mpr ⟨mw_358, (List.forall_mem_cons.mpr ⟨mw_293, (fun _ h => absurd h List.not_mem_nil)⟩)⟩)⟩), wi_scheck⟩)⟩)⟩⟩
theorem wi_charAt : ∀ w ∈ ww_charAt, w ∈ lw_tbl := List.forall_mem_cons.mpr ⟨mw_349, List.forall_mem_append.mpr ⟨(List.forall_mem_cons.mpr ⟨mw_3192, (fun _ h => absurd h List.not_mem_nil)⟩), (List.forall_mem_append.mpr ⟨wi_isLatin1, (List.forall_mem_append.mpr ⟨(by unfold wsV; exact List.forall_mem_append.mpr ⟨(List.forall_mem_cons.mpr ⟨mw_350, (List.forall_mem_cons.mpr ⟨mw_351, (List.forall_mem_cons.mpr ⟨mw_352, (List.forall_mem_cons.mpr ⟨mw_293, (fun _ h => absurd h List.not_mem_nil)⟩)⟩)⟩)⟩), wi_isLatin1⟩), (List.forall_mem_append.mpr ⟨wi_charAt1, (by unfold va_wsS; exact List.forall_mem_append.mpr ⟨(List.forall_mem_cons.mpr ⟨mw_354, (List.forall_mem_cons.mpr ⟨mw_355, (List.forall_mem_cons.mpr ⟨mw_294, (fun _ h => absurd h List.not_mem_nil)⟩)⟩)⟩), wi_charAt1⟩)⟩)⟩)⟩)⟩⟩
theorem wi_acinit : ∀ w ∈ ww_acinit, w ∈ lw_tbl := List.forall_mem_cons.mpr ⟨mw_440, List.forall_mem_append.mpr ⟨(List.forall_mem_cons.mpr ⟨mw_441, (List.forall_mem_cons.mpr ⟨mw_321, (List.forall_mem_cons.mpr ⟨mw_322, (fun _ h => absurd h List.not_mem_nil)⟩)⟩)⟩), (fun _ h => absurd h List.not_mem_nil)⟩⟩
theorem wi_alinit : ∀ w ∈ ww_alinit, w ∈ lw_tbl := List.forall_mem_cons.mpr ⟨mw_437, List.forall_mem_append.mpr ⟨(List.forall_mem_cons.mpr ⟨mw_297, (List.forall_mem_cons.mpr ⟨mw_438, (List.forall_mem_cons.mpr ⟨mw_439, (List.forall_mem_cons.mpr ⟨mw_446, (fun _ h => absurd h List.not_mem_nil)⟩)⟩)⟩)⟩), (List.forall_mem_append.mpr ⟨wi_acinit, it_Jx4a65c⟩)⟩⟩
theorem wi_listinit : ∀ w ∈ ww_listinit, w ∈ lw_tbl := List.forall_mem_cons.mpr ⟨mw_434, List.forall_mem_append.mpr ⟨(List.forall_mem_cons.mpr ⟨mw_298, (List.forall_mem_cons.mpr ⟨mw_435, (List.forall_mem_cons.mpr ⟨mw_436, (List.forall_mem_cons.mpr ⟨mw_442, (List.forall_mem_cons.mpr ⟨mw_444, (fun _ h => absurd h List.not_mem_nil)⟩)⟩)⟩)⟩)⟩), (List.forall_mem_append.mpr ⟨wi_alinit, it_Jx4a65c⟩)⟩⟩
theorem wi_listsize : ∀ w ∈ ww_listsize, w ∈ lw_tbl := List.forall_mem_cons.mpr ⟨mw_994, List.forall_mem_append.mpr ⟨(List.forall_mem_cons.mpr ⟨mw_445, (fun _ h => absurd h List.not_mem_nil)⟩), it_Jx4a65c⟩⟩
theorem wi_longerKey : ∀ w ∈ ww_longerKey, w ∈ lw_tbl := List.forall_mem_cons.mpr ⟨mw_386, List.forall_mem_append.mpr ⟨(fun _ h => absurd h List.not_mem_nil), (fun _ h => absurd h List.not_mem_nil)⟩⟩
theorem wi_keyOf : ∀ w ∈ ww_keyOf, w ∈ lw_tbl := List.forall_mem_cons.mpr ⟨mw_461, List.forall_mem_append.mpr ⟨(fun _ h => absurd h List.not_mem_nil), (List.forall_mem_append.mpr ⟨wi_length, (List.forall_mem_append.mpr ⟨(by unfold wsV; exact List.forall_mem_append.mpr ⟨(List.forall_mem_cons.mpr ⟨mw_336, (List.forall_mem_cons.mpr ⟨mw_337, (List.forall_mem_cons.mpr ⟨mw_338, (List.forall_mem_cons.mpr ⟨mw_293, (fun _ h => absurd h List.not_mem_nil)⟩)⟩)⟩)⟩), wi_length⟩), (List.forall_mem_append.mpr ⟨wi_charAt, (List.forall_mem_append.mpr ⟨(by unfold wsV; exact List.forall_mem_append.mpr ⟨(List.forall_mem_cons.mpr ⟨mw_346, (List.forall_mem_cons.mpr ⟨mw_347, (List.forall_mem_cons.mpr ⟨mw_348, (List.forall_mem_cons.mpr ⟨mw_293, (fun _ h => absurd h List.not_mem_nil)⟩)⟩)⟩)⟩), wi_charAt⟩), (List.forall_mem_append.mpr ⟨wi_longerKey, (by unfold va_wsS; exact List.forall_mem_append.mpr ⟨(List.forall_mem_cons.mpr ⟨mw_384, (List.forall_mem_cons.mpr ⟨mw_385, (List.forall_mem_cons.mpr ⟨mw_292, (fun _ h => absurd h List.not_mem_nil)⟩)⟩)⟩), wi_longerKey⟩)⟩)⟩)⟩)⟩)⟩)⟩⟩
theorem wi_X9_init : ∀ w ∈ ww_X9_init, w ∈ lw_tbl := List.forall_mem_cons.mpr ⟨mw_333, List.forall_mem_append.mpr ⟨(List.forall_mem_cons.mpr ⟨mw_334, (List.forall_mem_cons.mpr ⟨mw_321, (List.forall_mem_cons.mpr ⟨mw_322, (List.forall_mem_cons.mpr ⟨mw_428, (List.forall_mem_cons.mpr ⟨mw_387, (List.forall_mem_cons.mpr ⟨mw_391, (List.forall_mem_cons.mpr ⟨mw_393, (List.forall_mem_cons.mpr ⟨mw_396, (List.forall_mem_cons.mpr ⟨mw_429, (List.forall_mem_cons.mpr ⟨mw_400, (List.forall_mem_cons.mpr ⟨mw_405, (List.forall_mem_cons.mpr ⟨mw_427, (List.forall_mem_cons.mpr ⟨mw_406, (fun _ h => absurd h List.not_mem_nil)⟩)⟩)⟩)⟩)⟩)⟩)⟩)⟩)⟩)⟩)⟩)⟩)⟩), (List.forall_mem_append.mpr ⟨it_X9, (List.forall_mem_append.mpr ⟨wi_length, (List.forall_mem_append.mpr ⟨(by unfold wsV; exact List.forall_mem_append.mpr ⟨(List.forall_mem_cons.mpr ⟨mw_336, (List.forall_mem_cons.mpr ⟨mw_337, (List.forall_mem_cons.mpr ⟨mw_338, (List.forall_mem_cons.mpr ⟨mw_293, (fun _ h => absurd h List.not_mem_nil)⟩)⟩)⟩)⟩), wi_length⟩), (List.forall_mem_append.mpr ⟨wi_charAt, (List.forall_mem_append.mpr ⟨(by unfold wsV; exact List.forall_mem_append.mpr ⟨(List.forall_mem_cons.mpr ⟨mw_346, (List.forall_mem_cons.mpr ⟨mw_347, (List.forall_mem_cons.mpr ⟨mw_348, (List.forall_mem_cons.mpr ⟨mw_293, (fun _ h => absurd h List.not_mem_nil)⟩)⟩)⟩)⟩), wi_charAt⟩), (List.forall_mem_append.mpr ⟨wi_longerKey, (by unfold va_wsS; exact List.forall_mem_append.mpr ⟨(List.forall_mem_cons.mpr ⟨mw_384, (List.forall_mem_cons.mpr ⟨mw_385, (List.forall_mem_cons.mpr ⟨mw_292, (fun _ h => absurd h List.not_mem_nil)⟩)⟩)⟩), wi_longerKey⟩)⟩)⟩)⟩)⟩)⟩)⟩)⟩⟩
theorem wi_addParam : ∀ w ∈ ww_addParam, w ∈ lw_tbl := List.forall_mem_cons.mpr ⟨mw_635, List.forall_mem_append.mpr ⟨(List.forall_mem_cons.mpr ⟨mw_606, (List.forall_mem_cons.mpr ⟨mw_600, (fun _ h => absurd h List.not_mem_nil)⟩)⟩), it_X5⟩⟩
theorem wi_X6_init : ∀ w ∈ ww_X6_init, w ∈ lw_tbl := List.forall_mem_cons.mpr ⟨mw_327, List.forall_mem_append.mpr ⟨(List.forall_mem_cons.mpr ⟨mw_328, (List.forall_mem_cons.mpr ⟨mw_321, (List.forall_mem_cons.mpr ⟨mw_322, (List.forall_mem_cons.mpr ⟨mw_329, (List.forall_mem_cons.mpr ⟨mw_330, (List.forall_mem_cons.mpr ⟨mw_292, (List.forall_mem_cons.mpr ⟨mw_331, (List.forall_mem_cons.mpr ⟨mw_332, (List.forall_mem_cons.mpr ⟨mw_637, (List.forall_mem_cons.mpr ⟨mw_430, (List.forall_mem_cons.mpr ⟨mw_431, (List.forall_mem_cons.mpr ⟨mw_299, (List.forall_mem_cons.mpr ⟨mw_432, (List.forall_mem_cons.mpr ⟨mw_433, (List.forall_mem_cons.mpr ⟨mw_640, (List.forall_mem_cons.mpr ⟨mw_646, (List.forall_mem_cons.mpr ⟨mw_650, (List.forall_mem_cons.mpr ⟨mw_655, (List.forall_mem_cons.mpr ⟨mw_456, (List.forall_mem_cons.mpr ⟨mw_457, (List.forall_mem_cons.mpr ⟨mw_300, (List.forall_mem_cons.mpr ⟨mw_462, (List.forall_mem_cons.mpr ⟨mw_463, (List.forall_mem_cons.mpr ⟨mw_658, (List.forall_mem_cons.mpr ⟨mw_659, (fun _ h => absurd h List.not_mem_nil)⟩)⟩)⟩)⟩)⟩)⟩)⟩)⟩)⟩)⟩)⟩)⟩)⟩)⟩)⟩)⟩)⟩)⟩)⟩)⟩)⟩)⟩)⟩)⟩)⟩), (List.forall_mem_append.mpr ⟨it_X9, (List.forall_mem_append.mpr ⟨wi_X9_init, (List.forall_mem_append.mpr ⟨it_X6, (List.forall_mem_append.mpr ⟨it_Jx4a65c, (List.forall_mem_append.mpr ⟨wi_listinit, (List.forall_mem_append.mpr ⟨it_X5, (List.forall_mem_append.mpr ⟨wi_keyOf, (List.forall_mem_append.mpr ⟨(by unfold va_wsS; exact List.forall_mem_append.mpr ⟨(List.forall_mem_cons.mpr ⟨mw_459, (List.forall_mem_cons.mpr ⟨mw_460, (List.forall_mem_cons.mpr ⟨mw_292, (fun _ h => absurd h List.not_mem_nil)⟩)⟩)⟩), wi_keyOf⟩), (List.forall_mem_append.mpr ⟨wi_X5_init, (List.forall_mem_append.mpr ⟨wi_addParam, (by unfold wsV; exact List.forall_mem_append.mpr ⟨(List.forall_mem_cons.mpr ⟨mw_632, (List.forall_mem_cons.mpr ⟨mw_633, (List.forall_mem_cons.mpr ⟨mw_634, (List.forall_mem_cons.mpr ⟨mw_300, (fun _ h => absurd h List.not_mem_nil)⟩)⟩)⟩)⟩), wi_addParam⟩)⟩)⟩)⟩)⟩)⟩)⟩)⟩)⟩)⟩)⟩)⟩⟩
theorem wi_X11_init : ∀ w ∈ ww_X11_init, w ∈ lw_tbl := List.forall_mem_cons.mpr ⟨mw_319, List.forall_mem_append.mpr ⟨(List.forall_mem_cons.mpr ⟨mw_320, (List.forall_mem_cons.mpr ⟨mw_321, (List.forall_mem_cons.mpr ⟨mw_322, (List.forall_mem_cons.mpr ⟨mw_427, (List.forall_mem_cons.mpr ⟨mw_857, (List.forall_mem_cons.mpr ⟨mw_428, (List.forall_mem_cons.mpr ⟨mw_858, (List.forall_mem_cons.mpr ⟨mw_429, (List.forall_mem_cons.mpr ⟨mw_859, (List.forall_mem_cons.mpr ⟨mw_323, (List.forall_mem_cons.mpr ⟨mw_324, (List.forall_mem_cons.mpr ⟨mw_291, (List.forall_mem_cons.mpr ⟨mw_325, (List.forall_mem_cons.mpr ⟨mw_326, (List.forall_mem_cons.mpr ⟨mw_860, (List.forall_mem_cons.mpr ⟨mw_861, (List.forall_mem_cons.mpr ⟨mw_684, (List.forall_mem_cons.mpr ⟨mw_685, (List.forall_mem_cons.mpr ⟨mw_302, (List.forall_mem_cons.mpr ⟨mw_686, (List.forall_mem_cons.mpr ⟨mw_687, (List.forall_mem_cons.mpr ⟨mw_862, (List.forall_mem_cons.mpr ⟨mw_712, (List.forall_mem_cons.mpr ⟨mw_713, (List.forall_mem_cons.mpr ⟨mw_303, (List.forall_mem_cons.mpr ⟨mw_714, (List.forall_mem_cons.mpr ⟨mw_715, (List.forall_mem_cons.mpr ⟨mw_863, (List.forall_mem_cons.mpr ⟨mw_747, (List.forall_mem_cons.mpr ⟨mw_748, (List.forall_mem_cons.mpr ⟨mw_305, (List.forall_mem_cons.mpr ⟨mw_749, (List.forall_mem_cons.mpr ⟨mw_750, (List.forall_mem_cons.mpr ⟨mw_864, (List.forall_mem_cons.mpr ⟨mw_786, (List.forall_mem_cons.mpr ⟨mw_787, (List.forall_mem_cons.mpr ⟨mw_306, (List.forall_mem_cons.mpr ⟨mw_788, (List.forall_mem_cons.mpr ⟨mw_789, (List.forall_mem_cons.mpr ⟨mw_865, (List.forall_mem_cons.mpr ⟨mw_868, (fun _ h => absurd h List.not_mem_nil)⟩)⟩)⟩)⟩)⟩)⟩)⟩)⟩)⟩)⟩)⟩)⟩)⟩)⟩)⟩)⟩)⟩)⟩)⟩)⟩)⟩)⟩)⟩)⟩)⟩)⟩)⟩)⟩)⟩)⟩)⟩)⟩)⟩)⟩)⟩)⟩)⟩)⟩)⟩)⟩)⟩), (List.forall_mem_append.mpr ⟨it_X11, (List.forall_mem_append.mpr ⟨it_X6, (List.forall_mem_append.mpr ⟨wi_X6_init, (List.forall_mem_append.mpr ⟨it_X7, (List.forall_mem_append.mpr ⟨wi_X7_init, (List.forall_mem_append.mpr ⟨it_X3, (List.forall_mem_append.mpr ⟨wi_X3_init, (List.forall_mem_append.mpr ⟨it_X0, (List.forall_mem_append.mpr ⟨wi_X0_init, (List.forall_mem_append.mpr ⟨it_X4, wi_X4_init⟩)⟩)⟩)⟩)⟩)⟩)⟩)⟩)⟩)⟩)⟩⟩
theorem wi_listclear : ∀ w ∈ ww_listclear, w ∈ lw_tbl := List.forall_mem_cons.mpr ⟨mw_924, List.forall_mem_append.mpr ⟨(List.forall_mem_cons.mpr ⟨mw_448, (List.forall_mem_cons.mpr ⟨mw_447, (List.forall_mem_cons.mpr ⟨mw_444, (List.forall_mem_cons.mpr ⟨mw_445, (fun _ h => absurd h List.not_mem_nil)⟩)⟩)⟩)⟩), it_Jx4a65c⟩⟩
theorem wi_append0 : ∀ w ∈ ww_append0, w ∈ lw_tbl := List.forall_mem_cons.mpr ⟨mw_904, List.forall_mem_append.mpr ⟨(List.forall_mem_cons.mpr ⟨mw_866, (List.forall_mem_cons.mpr ⟨mw_857, (fun _ h => absurd h List.not_mem_nil)⟩)⟩), it_X11⟩⟩
theorem wi_append4 : ∀ w ∈ ww_append4, w ∈ lw_tbl := List.forall_mem_cons.mpr ⟨mw_904, List.forall_mem_append.mpr ⟨(List.forall_mem_cons.mpr ⟨mw_866, (List.forall_mem_cons.mpr ⟨mw_857, (fun _ h => absurd h List.not_mem_nil)⟩)⟩), it_X11⟩⟩
theorem wi_append8 : ∀ w ∈ ww_append8, w ∈ lw_tbl := List.forall_mem_cons.mpr ⟨mw_904, List.forall_mem_append.mpr ⟨(List.forall_mem_cons.mpr ⟨mw_866, (List.forall_mem_cons.mpr ⟨mw_857, (fun _ h => absurd h List.not_mem_nil)⟩)⟩), it_X11⟩⟩
theorem wi_append12 : ∀ w ∈ ww_append12, w ∈ lw_tbl := List.forall_mem_cons.mpr ⟨mw_904, List.forall_mem_append.mpr ⟨(List.forall_mem_cons.mpr ⟨mw_866, (List.forall_mem_cons.mpr ⟨mw_857, (fun _ h => absurd h List.not_mem_nil)⟩)⟩), it_X11⟩⟩
theorem wi_append16 : ∀ w ∈ ww_append16, w ∈ lw_tbl := List.forall_mem_cons.mpr ⟨mw_904, List.forall_mem_append.mpr ⟨(List.forall_mem_cons.mpr ⟨mw_866, (List.forall_mem_cons.mpr ⟨mw_857, (fun _ h => absurd h List.not_mem_nil)⟩)⟩), it_X11⟩⟩
theorem wi_fc_feed : ∀ w ∈ ww_fc_feed, w ∈ lw_tbl := List.forall_mem_cons.mpr ⟨mw_900, List.forall_mem_append.mpr ⟨(List.forall_mem_cons.mpr ⟨mw_866, (fun _ h => absurd h List.not_mem_nil)⟩), (List.forall_mem_append.mpr ⟨it_X11, (List.forall_mem_append.mpr ⟨wi_append0, (List.forall_mem_append.mpr ⟨(by unfold wsV; exact List.forall_mem_append.mpr ⟨(List.forall_mem_cons.mpr ⟨mw_901, (List.forall_mem_cons.mpr ⟨mw_903, (List.forall_mem_cons.mpr ⟨mw_0, (List.forall_mem_cons.mpr ⟨mw_290, (fun _ h => absurd h List.not_mem_nil)⟩)⟩)⟩)⟩), wi_append0⟩), (List.forall_mem_append.mpr ⟨wi_append4, (List.forall_mem_append.mpr ⟨(by unfold wsV; exact List.forall_mem_append.mpr ⟨(List.forall_mem_cons.mpr ⟨mw_901, (List.forall_mem_cons.mpr ⟨mw_903, (List.forall_mem_cons.mpr ⟨mw_0, (List.forall_mem_cons.mpr ⟨mw_290, (fun _ h => absurd h List.not_mem_nil)⟩)⟩)⟩)⟩), wi_append4⟩), (List.forall_mem_append.mpr ⟨wi_append8, (List.forall_mem_append.mpr ⟨(by unfold wsV; exact List.forall_mem_append.mpr ⟨(List.forall_mem_cons.mpr ⟨mw_901, (List.forall_mem_cons.mpr ⟨mw_903, (List.forall_mem_cons.mpr ⟨mw_0, (List.forall_mem_cons.mpr ⟨mw_290, (fun _ h => absurd h List.not_mem_nil)⟩)⟩)⟩)⟩), wi_append8⟩), (List.forall_mem_append.mpr ⟨wi_append12, (List.forall_mem_append.mpr ⟨(by unfold wsV; exact List.forall_mem_append.mpr ⟨(List.forall_mem_cons.mpr ⟨mw_901, (List.forall_mem_cons.mpr ⟨mw_903, (List.forall_mem_cons.mpr ⟨mw_0, (List.forall_mem_cons.mpr ⟨mw_290, (fun _ h => absurd h List.not_mem_nil)⟩)⟩)⟩)⟩), wi_append12⟩), (List.forall_mem_append.mpr ⟨wi_append16, (by unfold wsV; exact List.forall_mem_append.mpr ⟨(List.forall_mem_cons.mpr ⟨mw_901, (List.forall_mem_cons.mpr ⟨mw_903, (List.forall_mem_cons.mpr ⟨mw_0, (List.forall_mem_cons.mpr ⟨mw_290, (fun _ h => absurd h List.not_mem_nil)⟩)⟩)⟩)⟩), wi_append16⟩)⟩)⟩)⟩)⟩)⟩)⟩)⟩)⟩)⟩)⟩)⟩⟩
theorem wi_fc_cut : ∀ w ∈ ww_fc_cut, w ∈ lw_tbl := List.forall_mem_cons.mpr ⟨mw_908, List.forall_mem_append.mpr ⟨(List.forall_mem_cons.mpr ⟨mw_866, (fun _ h => absurd h List.not_mem_nil)⟩), it_X11⟩⟩
theorem wi_fc_place : ∀ w ∈ ww_fc_place, w ∈ lw_tbl := List.forall_mem_cons.mpr ⟨mw_1845, List.forall_mem_append.mpr ⟨(List.forall_mem_cons.mpr ⟨mw_868, (fun _ h => absurd h List.not_mem_nil)⟩), it_X11⟩⟩
theorem wi_fc_judge : ∀ w ∈ ww_fc_judge, w ∈ lw_tbl := List.forall_mem_cons.mpr ⟨mw_1849, List.forall_mem_append.mpr ⟨(List.forall_mem_cons.mpr ⟨mw_860, (List.forall_mem_cons.mpr ⟨mw_662, (List.forall_mem_cons.mpr ⟨mw_868, (fun _ h => absurd h List.not_mem_nil)⟩)⟩)⟩), (List.forall_mem_append.mpr ⟨it_X11, it_X6⟩)⟩⟩
theorem wi_fc_told : ∀ w ∈ ww_fc_told, w ∈ lw_tbl := List.forall_mem_cons.mpr ⟨mw_1853, List.forall_mem_append.mpr ⟨(List.forall_mem_cons.mpr ⟨mw_860, (List.forall_mem_cons.mpr ⟨mw_638, (List.forall_mem_cons.mpr ⟨mw_404, (List.forall_mem_cons.mpr ⟨mw_644, (List.forall_mem_cons.mpr ⟨mw_648, (List.forall_mem_cons.mpr ⟨mw_867, (fun _ h => absurd h List.not_mem_nil)⟩)⟩)⟩)⟩)⟩)⟩), (List.forall_mem_append.mpr ⟨it_X11, (List.forall_mem_append.mpr ⟨it_X6, (List.forall_mem_append.mpr ⟨it_X9, (List.forall_mem_append.mpr ⟨wi_listsize, (by unfold wsV; exact List.forall_mem_append.mpr ⟨(List.forall_mem_cons.mpr ⟨mw_1841, (List.forall_mem_cons.mpr ⟨mw_992, (List.forall_mem_cons.mpr ⟨mw_993, (List.forall_mem_cons.mpr ⟨mw_299, (fun _ h => absurd h List.not_mem_nil)⟩)⟩)⟩)⟩), wi_listsize⟩)⟩)⟩)⟩)⟩)⟩⟩
theorem wi_fc_token : ∀ w ∈ ww_fc_token, w ∈ lw_tbl := List.forall_mem_cons.mpr ⟨mw_1857, List.forall_mem_append.mpr ⟨(List.forall_mem_cons.mpr ⟨mw_860, (List.forall_mem_cons.mpr ⟨mw_638, (List.forall_mem_cons.mpr ⟨mw_404, (fun _ h => absurd h List.not_mem_nil)⟩)⟩)⟩), (List.forall_mem_append.mpr ⟨it_X11, (List.forall_mem_append.mpr ⟨it_X6, it_X9⟩)⟩)⟩⟩
theorem wi_fc_method : ∀ w ∈ ww_fc_method, w ∈ lw_tbl := List.forall_mem_cons.mpr ⟨mw_1865, List.forall_mem_append.mpr ⟨(List.forall_mem_cons.mpr ⟨mw_860, (List.forall_mem_cons.mpr ⟨mw_644, (fun _ h => absurd h List.not_mem_nil)⟩)⟩), (List.forall_mem_append.mpr ⟨it_X11, (List.forall_mem_append.mpr ⟨it_X6, (List.forall_mem_append.mpr ⟨wi_listsize, (by unfold wsV; exact List.forall_mem_append.mpr ⟨(List.forall_mem_cons.mpr ⟨mw_1841, (List.forall_mem_cons.mpr ⟨mw_992, (List.forall_mem_cons.mpr ⟨mw_993, (List.forall_mem_cons.mpr ⟨mw_299, (fun _ h => absurd h List.not_mem_nil)⟩)⟩)⟩)⟩), wi_listsize⟩)⟩)⟩)⟩)⟩⟩
theorem wi_fc_variable : ∀ w ∈ ww_fc_variable, w ∈ lw_tbl := List.forall_mem_cons.mpr ⟨mw_1871, List.forall_mem_append.mpr ⟨(List.forall_mem_cons.mpr ⟨mw_860, (List.forall_mem_cons.mpr ⟨mw_648, (fun _ h => absurd h List.not_mem_nil)⟩)⟩), (List.forall_mem_append.mpr ⟨it_X11, (List.forall_mem_append.mpr ⟨it_X6, (List.forall_mem_append.mpr ⟨wi_listsize, (by unfold wsV; exact List.forall_mem_append.mpr ⟨(List.forall_mem_cons.mpr ⟨mw_1841, (List.forall_mem_cons.mpr ⟨mw_992, (List.forall_mem_cons.mpr ⟨mw_993, (List.forall_mem_cons.mpr ⟨mw_299, (fun _ h => absurd h List.not_mem_nil)⟩)⟩)⟩)⟩), wi_listsize⟩)⟩)⟩)⟩)⟩⟩
theorem wi_fc_means : ∀ w ∈ ww_fc_means, w ∈ lw_tbl := List.forall_mem_cons.mpr ⟨mw_1876, List.forall_mem_append.mpr ⟨(List.forall_mem_cons.mpr ⟨mw_860, (List.forall_mem_cons.mpr ⟨mw_638, (List.forall_mem_cons.mpr ⟨mw_404, (fun _ h => absurd h List.not_mem_nil)⟩)⟩)⟩), (List.forall_mem_append.mpr ⟨it_X11, (List.forall_mem_append.mpr ⟨it_X6, it_X9⟩)⟩)⟩⟩
theorem wi_expAt : ∀ w ∈ ww_expAt, w ∈ lw_tbl := List.forall_mem_cons.mpr ⟨mw_1884, List.forall_mem_append.mpr ⟨(List.forall_mem_cons.mpr ⟨mw_650, (fun _ h => absurd h List.not_mem_nil)⟩), (List.forall_mem_append.mpr ⟨it_X6, (List.forall_mem_append.mpr ⟨wi_listsize, (by unfold wsV; exact List.forall_mem_append.mpr ⟨(List.forall_mem_cons.mpr ⟨mw_1445, (List.forall_mem_cons.mpr ⟨mw_992, (List.forall_mem_cons.mpr ⟨mw_993, (List.forall_mem_cons.mpr ⟨mw_299, (fun _ h => absurd h List.not_mem_nil)⟩)⟩)⟩)⟩), wi_listsize⟩)⟩)⟩)⟩⟩
theorem wi_statementAt : ∀ w ∈ ww_statementAt, w ∈ lw_tbl := List.forall_mem_cons.mpr ⟨mw_1898, List.forall_mem_append.mpr ⟨(List.forall_mem_cons.mpr ⟨mw_655, (fun _ h => absurd h List.not_mem_nil)⟩), (List.forall_mem_append.mpr ⟨it_X6, (List.forall_mem_append.mpr ⟨wi_listsize, (by unfold wsV; exact List.forall_mem_append.mpr ⟨(List.forall_mem_cons.mpr ⟨mw_1445, (List.forall_mem_cons.mpr ⟨mw_992, (List.forall_mem_cons.mpr ⟨mw_993, (List.forall_mem_cons.mpr ⟨mw_299, (fun _ h => absurd h List.not_mem_nil)⟩)⟩)⟩)⟩), wi_listsize⟩)⟩)⟩)⟩⟩
theorem wi_fc_type : ∀ w ∈ ww_fc_type, w ∈ lw_tbl := List.forall_mem_cons.mpr ⟨mw_1880, List.forall_mem_append.mpr ⟨(List.forall_mem_cons.mpr ⟨mw_860, (List.forall_mem_cons.mpr ⟨mw_662, (fun _ h => absurd h List.not_mem_nil)⟩)⟩), (List.forall_mem_append.mpr ⟨it_X11, (List.forall_mem_append.mpr ⟨it_X6, (List.forall_mem_append.mpr ⟨wi_expAt, (by unfold wsV; exact List.forall_mem_append.mpr ⟨(List.forall_mem_cons.mpr ⟨mw_1881, (List.forall_mem_cons.mpr ⟨mw_1882, (List.forall_mem_cons.mpr ⟨mw_1883, (List.forall_mem_cons.mpr ⟨mw_291, (fun _ h => absurd h List.not_mem_nil)⟩)⟩)⟩)⟩), wi_expAt⟩)⟩)⟩)⟩)⟩⟩
theorem wi_fc_constant : ∀ w ∈ ww_fc_constant, w ∈ lw_tbl := List.forall_mem_cons.mpr ⟨mw_1889, List.forall_mem_append.mpr ⟨(List.forall_mem_cons.mpr ⟨mw_860, (List.forall_mem_cons.mpr ⟨mw_662, (List.forall_mem_cons.mpr ⟨mw_1890, (fun _ h => absurd h List.not_mem_nil)⟩)⟩)⟩), (List.forall_mem_append.mpr ⟨it_X11, (List.forall_mem_append.mpr ⟨it_X6, (List.forall_mem_append.mpr ⟨wi_expAt, (by unfold wsV; exact List.forall_mem_append.mpr ⟨(List.forall_mem_cons.mpr ⟨mw_1881, (List.forall_mem_cons.mpr ⟨mw_1882, (List.forall_mem_cons.mpr ⟨mw_1883, (List.forall_mem_cons.mpr ⟨mw_291, (fun _ h => absurd h List.not_mem_nil)⟩)⟩)⟩)⟩), wi_expAt⟩)⟩)⟩)⟩)⟩⟩
theorem wi_fc_ends : ∀ w ∈ ww_fc_ends, w ∈ lw_tbl := List.forall_mem_cons.mpr ⟨mw_1894, List.forall_mem_append.mpr ⟨(List.forall_mem_cons.mpr ⟨mw_860, (List.forall_mem_cons.mpr ⟨mw_662, (fun _ h => absurd h List.not_mem_nil)⟩)⟩), (List.forall_mem_append.mpr ⟨it_X11, (List.forall_mem_append.mpr ⟨it_X6, (List.forall_mem_append.mpr ⟨wi_statementAt, (by unfold wsV; exact List.forall_mem_append.mpr ⟨(List.forall_mem_cons.mpr ⟨mw_1895, (List.forall_mem_cons.mpr ⟨mw_1896, (List.forall_mem_cons.mpr ⟨mw_1897, (List.forall_mem_cons.mpr ⟨mw_291, (fun _ h => absurd h List.not_mem_nil)⟩)⟩)⟩)⟩), wi_statementAt⟩)⟩)⟩)⟩)⟩⟩
theorem wi_fc_assigned : ∀ w ∈ ww_fc_assigned, w ∈ lw_tbl := List.forall_mem_cons.mpr ⟨mw_1904, List.forall_mem_append.mpr ⟨(List.forall_mem_cons.mpr ⟨mw_860, (List.forall_mem_cons.mpr ⟨mw_662, (fun _ h => absurd h List.not_mem_nil)⟩)⟩), (List.forall_mem_append.mpr ⟨it_X11, (List.forall_mem_append.mpr ⟨it_X6, (List.forall_mem_append.mpr ⟨wi_statementAt, (by unfold wsV; exact List.forall_mem_append.mpr ⟨(List.forall_mem_cons.mpr ⟨mw_1895, (List.forall_mem_cons.mpr ⟨mw_1896, (List.forall_mem_cons.mpr ⟨mw_1897, (List.forall_mem_cons.mpr ⟨mw_291, (fun _ h => absurd h List.not_mem_nil)⟩)⟩)⟩)⟩), wi_statementAt⟩)⟩)⟩)⟩)⟩⟩
theorem wi_fc_argument : ∀ w ∈ ww_fc_argument, w ∈ lw_tbl := List.forall_mem_cons.mpr ⟨mw_1909, List.forall_mem_append.mpr ⟨(List.forall_mem_cons.mpr ⟨mw_859, (fun _ h => absurd h List.not_mem_nil)⟩), it_X11⟩⟩
theorem wi_fc_input : ∀ w ∈ ww_fc_input, w ∈ lw_tbl := List.forall_mem_cons.mpr ⟨mw_1913, List.forall_mem_append.mpr ⟨(List.forall_mem_cons.mpr ⟨mw_867, (List.forall_mem_cons.mpr ⟨mw_858, (fun _ h => absurd h List.not_mem_nil)⟩)⟩), it_X11⟩⟩
theorem wi_fc_drain : ∀ w ∈ ww_fc_drain, w ∈ lw_tbl := List.forall_mem_cons.mpr ⟨mw_1917, List.forall_mem_append.mpr ⟨(List.forall_mem_cons.mpr ⟨mw_867, (fun _ h => absurd h List.not_mem_nil)⟩), it_X11⟩⟩
theorem wi_fc_run : ∀ w ∈ ww_fc_run, w ∈ lw_tbl := List.forall_mem_cons.mpr ⟨mw_1921, List.forall_mem_append.mpr ⟨(List.forall_mem_cons.mpr ⟨mw_860, (List.forall_mem_cons.mpr ⟨mw_644, (fun _ h => absurd h List.not_mem_nil)⟩)⟩), (List.forall_mem_append.mpr ⟨it_X11, (List.forall_mem_append.mpr ⟨it_X6, (List.forall_mem_append.mpr ⟨wi_listsize, (by unfold wsV; exact List.forall_mem_append.mpr ⟨(List.forall_mem_cons.mpr ⟨mw_1841, (List.forall_mem_cons.mpr ⟨mw_992, (List.forall_mem_cons.mpr ⟨mw_993, (List.forall_mem_cons.mpr ⟨mw_299, (fun _ h => absurd h List.not_mem_nil)⟩)⟩)⟩)⟩), wi_listsize⟩)⟩)⟩)⟩)⟩⟩
theorem wi_fc_ran : ∀ w ∈ ww_fc_ran, w ∈ lw_tbl := List.forall_mem_cons.mpr ⟨mw_2026, List.forall_mem_append.mpr ⟨(List.forall_mem_cons.mpr ⟨mw_869, (List.forall_mem_cons.mpr ⟨mw_1890, (fun _ h => absurd h List.not_mem_nil)⟩)⟩), it_X11⟩⟩
theorem wi_clear : ∀ w ∈ ww_clear, w ∈ lw_tbl := List.forall_mem_cons.mpr ⟨mw_920, List.forall_mem_append.mpr ⟨(List.forall_mem_cons.mpr ⟨mw_640, (List.forall_mem_cons.mpr ⟨mw_646, (List.forall_mem_cons.mpr ⟨mw_650, (List.forall_mem_cons.mpr ⟨mw_655, (List.forall_mem_cons.mpr ⟨mw_660, (List.forall_mem_cons.mpr ⟨mw_663, (fun _ h => absurd h List.not_mem_nil)⟩)⟩)⟩)⟩)⟩)⟩), (List.forall_mem_append.mpr ⟨it_X6, (List.forall_mem_append.mpr ⟨wi_listclear, (by unfold wsV; exact List.forall_mem_append.mpr ⟨(List.forall_mem_cons.mpr ⟨mw_921, (List.forall_mem_cons.mpr ⟨mw_922, (List.forall_mem_cons.mpr ⟨mw_923, (List.forall_mem_cons.mpr ⟨mw_299, (fun _ h => absurd h List.not_mem_nil)⟩)⟩)⟩)⟩), wi_listclear⟩)⟩)⟩)⟩⟩
theorem wi_behindBlanks : ∀ w ∈ ww_behindBlanks, w ∈ lw_tbl := List.forall_mem_cons.mpr ⟨mw_935, List.forall_mem_append.mpr ⟨(List.forall_mem_cons.mpr ⟨mw_407, (fun _ h => absurd h List.not_mem_nil)⟩), it_X9⟩⟩
theorem wi_cutText : ∀ w ∈ ww_cutText, w ∈ lw_tbl := List.forall_mem_cons.mpr ⟨mw_928, List.forall_mem_append.mpr ⟨(List.forall_mem_cons.mpr ⟨mw_406, (List.forall_mem_cons.mpr ⟨mw_929, (List.forall_mem_cons.mpr ⟨mw_930, (List.forall_mem_cons.mpr ⟨mw_308, (List.forall_mem_cons.mpr ⟨mw_931, (List.forall_mem_cons.mpr ⟨mw_407, (List.forall_mem_cons.mpr ⟨mw_403, (List.forall_mem_cons.mpr ⟨mw_387, (List.forall_mem_cons.mpr ⟨mw_393, (fun _ h => absurd h List.not_mem_nil)⟩)⟩)⟩)⟩)⟩)⟩)⟩)⟩)⟩), (List.forall_mem_append.mpr ⟨it_X9, (List.forall_mem_append.mpr ⟨wi_behindBlanks, (by unfold wsV; exact List.forall_mem_append.mpr ⟨(List.forall_mem_cons.mpr ⟨mw_932, (List.forall_mem_cons.mpr ⟨mw_934, (List.forall_mem_cons.mpr ⟨mw_1, (List.forall_mem_cons.mpr ⟨mw_292, (fun _ h => absurd h List.not_mem_nil)⟩)⟩)⟩)⟩), wi_behindBlanks⟩)⟩)⟩)⟩⟩
theorem wi_code : ∀ w ∈ ww_code, w ∈ lw_tbl := List.forall_mem_cons.mpr ⟨mw_975, List.forall_mem_append.mpr ⟨(List.forall_mem_cons.mpr ⟨mw_693, (List.forall_mem_cons.mpr ⟨mw_691, (List.forall_mem_cons.mpr ⟨mw_394, (List.forall_mem_cons.mpr ⟨mw_692, (fun _ h => absurd h List.not_mem_nil)⟩)⟩)⟩)⟩), (List.forall_mem_append.mpr ⟨it_X7, it_X9⟩)⟩⟩
theorem wi_readProgram : ∀ w ∈ ww_readProgram, w ∈ lw_tbl := List.forall_mem_cons.mpr ⟨mw_916, List.forall_mem_append.mpr ⟨(List.forall_mem_cons.mpr ⟨mw_690, (List.forall_mem_cons.mpr ⟨mw_636, (List.forall_mem_cons.mpr ⟨mw_691, (List.forall_mem_cons.mpr ⟨mw_692, (List.forall_mem_cons.mpr ⟨mw_693, (fun _ h => absurd h List.not_mem_nil)⟩)⟩)⟩)⟩)⟩), (List.forall_mem_append.mpr ⟨it_X7, (List.forall_mem_append.mpr ⟨it_X6, (List.forall_mem_append.mpr ⟨wi_clear, (List.forall_mem_append.mpr ⟨(by unfold wsV; exact List.forall_mem_append.mpr ⟨(List.forall_mem_cons.mpr ⟨mw_917, (List.forall_mem_cons.mpr ⟨mw_918, (List.forall_mem_cons.mpr ⟨mw_919, (List.forall_mem_cons.mpr ⟨mw_291, (fun _ h => absurd h List.not_mem_nil)⟩)⟩)⟩)⟩), wi_clear⟩), (List.forall_mem_append.mpr ⟨wi_cutText, (List.forall_mem_append.mpr ⟨(by unfold wsV; exact List.forall_mem_append.mpr ⟨(List.forall_mem_cons.mpr ⟨mw_925, (List.forall_mem_cons.mpr ⟨mw_926, (List.forall_mem_cons.mpr ⟨mw_927, (List.forall_mem_cons.mpr ⟨mw_292, (fun _ h => absurd h List.not_mem_nil)⟩)⟩)⟩)⟩), wi_cutText⟩), (List.forall_mem_append.mpr ⟨wi_code, (by unfold wsV; exact List.forall_mem_append.mpr ⟨(List.forall_mem_cons.mpr ⟨mw_972, (List.forall_mem_cons.mpr ⟨mw_974, (List.forall_mem_cons.mpr ⟨mw_9, (List.forall_mem_cons.mpr ⟨mw_302, (fun _ h => absurd h List.not_mem_nil)⟩)⟩)⟩)⟩), wi_code⟩)⟩)⟩)⟩)⟩)⟩)⟩)⟩)⟩⟩
theorem wi_reachAll : ∀ w ∈ ww_reachAll, w ∈ lw_tbl := List.forall_mem_cons.mpr ⟨mw_1643, List.forall_mem_append.mpr ⟨(List.forall_mem_cons.mpr ⟨mw_724, (List.forall_mem_cons.mpr ⟨mw_642, (fun _ h => absurd h List.not_mem_nil)⟩)⟩), (List.forall_mem_append.mpr ⟨it_X2, (List.forall_mem_append.mpr ⟨it_X6, (List.forall_mem_append.mpr ⟨wi_listsize, (by unfold wsV; exact List.forall_mem_append.mpr ⟨(List.forall_mem_cons.mpr ⟨mw_1644, (List.forall_mem_cons.mpr ⟨mw_992, (List.forall_mem_cons.mpr ⟨mw_993, (List.forall_mem_cons.mpr ⟨mw_299, (fun _ h => absurd h List.not_mem_nil)⟩)⟩)⟩)⟩), wi_listsize⟩)⟩)⟩)⟩)⟩⟩
theorem wi_assignAll : ∀ w ∈ ww_assignAll, w ∈ lw_tbl := List.forall_mem_cons.mpr ⟨mw_1687, List.forall_mem_append.mpr ⟨(List.forall_mem_cons.mpr ⟨mw_724, (List.forall_mem_cons.mpr ⟨mw_642, (fun _ h => absurd h List.not_mem_nil)⟩)⟩), (List.forall_mem_append.mpr ⟨it_X2, (List.forall_mem_append.mpr ⟨it_X6, (List.forall_mem_append.mpr ⟨wi_listsize, (by unfold wsV; exact List.forall_mem_append.mpr ⟨(List.forall_mem_cons.mpr ⟨mw_1644, (List.forall_mem_cons.mpr ⟨mw_992, (List.forall_mem_cons.mpr ⟨mw_993, (List.forall_mem_cons.mpr ⟨mw_299, (fun _ h => absurd h List.not_mem_nil)⟩)⟩)⟩)⟩), wi_listsize⟩)⟩)⟩)⟩)⟩⟩
theorem wi_lay : ∀ w ∈ ww_lay, w ∈ lw_tbl := List.forall_mem_cons.mpr ⟨mw_1772, List.forall_mem_append.mpr ⟨(List.forall_mem_cons.mpr ⟨mw_768, (List.forall_mem_cons.mpr ⟨mw_766, (List.forall_mem_cons.mpr ⟨mw_643, (fun _ h => absurd h List.not_mem_nil)⟩)⟩)⟩), (List.forall_mem_append.mpr ⟨it_X0, (List.forall_mem_append.mpr ⟨it_X6, (List.forall_mem_append.mpr ⟨wi_listsize, (by unfold wsV; exact List.forall_mem_append.mpr ⟨(List.forall_mem_cons.mpr ⟨mw_1773, (List.forall_mem_cons.mpr ⟨mw_992, (List.forall_mem_cons.mpr ⟨mw_993, (List.forall_mem_cons.mpr ⟨mw_299, (fun _ h => absurd h List.not_mem_nil)⟩)⟩)⟩)⟩), wi_listsize⟩)⟩)⟩)⟩)⟩⟩
theorem wi_judgeProgram : ∀ w ∈ ww_judgeProgram, w ∈ lw_tbl := List.forall_mem_cons.mpr ⟨mw_1433, List.forall_mem_append.mpr ⟨(List.forall_mem_cons.mpr ⟨mw_741, (List.forall_mem_cons.mpr ⟨mw_641, (List.forall_mem_cons.mpr ⟨mw_647, (List.forall_mem_cons.mpr ⟨mw_651, (List.forall_mem_cons.mpr ⟨mw_656, (List.forall_mem_cons.mpr ⟨mw_661, (List.forall_mem_cons.mpr ⟨mw_740, (fun _ h => absurd h List.not_mem_nil)⟩)⟩)⟩)⟩)⟩)⟩)⟩), (List.forall_mem_append.mpr ⟨it_X3, (List.forall_mem_append.mpr ⟨it_X6, (List.forall_mem_append.mpr ⟨wi_listsize, (List.forall_mem_append.mpr ⟨(by unfold wsV; exact List.forall_mem_append.mpr ⟨(List.forall_mem_cons.mpr ⟨mw_1434, (List.forall_mem_cons.mpr ⟨mw_992, (List.forall_mem_cons.mpr ⟨mw_993, (List.forall_mem_cons.mpr ⟨mw_299, (fun _ h => absurd h List.not_mem_nil)⟩)⟩)⟩)⟩), wi_listsize⟩), (List.forall_mem_append.mpr ⟨wi_reachAll, (List.forall_mem_append.mpr ⟨(by unfold wsV; exact List.forall_mem_append.mpr ⟨(List.forall_mem_cons.mpr ⟨mw_1640, (List.forall_mem_cons.mpr ⟨mw_1641, (List.forall_mem_cons.mpr ⟨mw_1642, (List.forall_mem_cons.mpr ⟨mw_304, (fun _ h => absurd h List.not_mem_nil)⟩)⟩)⟩)⟩), wi_reachAll⟩), (List.forall_mem_append.mpr ⟨wi_assignAll, (by unfold wsV; exact List.forall_mem_append.mpr ⟨(List.forall_mem_cons.mpr ⟨mw_1684, (List.forall_mem_cons.mpr ⟨mw_1685, (List.forall_mem_cons.mpr ⟨mw_1686, (List.forall_mem_cons.mpr ⟨mw_304, (fun _ h => absurd h List.not_mem_nil)⟩)⟩)⟩)⟩), wi_assignAll⟩)⟩)⟩)⟩)⟩)⟩)⟩)⟩)⟩⟩
theorem wi_fc_read : ∀ w ∈ ww_fc_read, w ∈ lw_tbl := List.forall_mem_cons.mpr ⟨mw_912, List.forall_mem_append.mpr ⟨(List.forall_mem_cons.mpr ⟨mw_862, (List.forall_mem_cons.mpr ⟨mw_861, (List.forall_mem_cons.mpr ⟨mw_857, (List.forall_mem_cons.mpr ⟨mw_866, (List.forall_mem_cons.mpr ⟨mw_860, (List.forall_mem_cons.mpr ⟨mw_868, (List.forall_mem_cons.mpr ⟨mw_869, (List.forall_mem_cons.mpr ⟨mw_863, (List.forall_mem_cons.mpr ⟨mw_662, (List.forall_mem_cons.mpr ⟨mw_864, (List.forall_mem_cons.mpr ⟨mw_644, (fun _ h => absurd h List.not_mem_nil)⟩)⟩)⟩)⟩)⟩)⟩)⟩)⟩)⟩)⟩)⟩), (List.forall_mem_append.mpr ⟨it_X11, (List.forall_mem_append.mpr ⟨wi_readProgram, (List.forall_mem_append.mpr ⟨(by unfold wsV; exact List.forall_mem_append.mpr ⟨(List.forall_mem_cons.mpr ⟨mw_913, (List.forall_mem_cons.mpr ⟨mw_914, (List.forall_mem_cons.mpr ⟨mw_915, (List.forall_mem_cons.mpr ⟨mw_302, (fun _ h => absurd h List.not_mem_nil)⟩)⟩)⟩)⟩), wi_readProgram⟩), (List.forall_mem_append.mpr ⟨wi_judgeProgram, (List.forall_mem_append.mpr ⟨(by unfold wsV; exact List.forall_mem_append.mpr ⟨(List.forall_mem_cons.mpr ⟨mw_1430, (List.forall_mem_cons.mpr ⟨mw_1431, (List.forall_mem_cons.mpr ⟨mw_1432, (List.forall_mem_cons.mpr ⟨mw_303, (fun _ h => absurd h List.not_mem_nil)⟩)⟩)⟩)⟩), wi_judgeProgram⟩), (List.forall_mem_append.mpr ⟨it_X6, (List.forall_mem_append.mpr ⟨wi_lay, (List.forall_mem_append.mpr ⟨(by unfold wsV; exact List.forall_mem_append.mpr ⟨(List.forall_mem_cons.mpr ⟨mw_1769, (List.forall_mem_cons.mpr ⟨mw_1770, (List.forall_mem_cons.mpr ⟨mw_1771, (List.forall_mem_cons.mpr ⟨mw_305, (fun _ h => absurd h List.not_mem_nil)⟩)⟩)⟩)⟩), wi_lay⟩), (List.forall_mem_append.mpr ⟨wi_listsize, (by unfold wsV; exact List.forall_mem_append.mpr ⟨(List.forall_mem_cons.mpr ⟨mw_1841, (List.forall_mem_cons.mpr ⟨mw_992, (List.forall_mem_cons.mpr ⟨mw_993, (List.forall_mem_cons.mpr ⟨mw_299, (fun _ h => absurd h List.not_mem_nil)⟩)⟩)⟩)⟩), wi_listsize⟩)⟩)⟩)⟩)⟩)⟩)⟩)⟩)⟩)⟩)⟩⟩
theorem wi_X12_init : ∀ w ∈ ww_X12_init, w ∈ lw_tbl := List.forall_mem_cons.mpr ⟨mw_2036, List.forall_mem_append.mpr ⟨(List.forall_mem_cons.mpr ⟨mw_2037, (List.forall_mem_cons.mpr ⟨mw_321, (List.forall_mem_cons.mpr ⟨mw_322, (List.forall_mem_cons.mpr ⟨mw_428, (List.forall_mem_cons.mpr ⟨mw_2038, (List.forall_mem_cons.mpr ⟨mw_2041, (List.forall_mem_cons.mpr ⟨mw_2042, (List.forall_mem_cons.mpr ⟨mw_2043, (List.forall_mem_cons.mpr ⟨mw_2044, (List.forall_mem_cons.mpr ⟨mw_429, (List.forall_mem_cons.mpr ⟨mw_2045, (List.forall_mem_cons.mpr ⟨mw_2046, (List.forall_mem_cons.mpr ⟨mw_2047, (List.forall_mem_cons.mpr ⟨mw_2489, (List.forall_mem_cons.mpr ⟨mw_2048, (List.forall_mem_cons.mpr ⟨mw_2049, (List.forall_mem_cons.mpr ⟨mw_2057, (List.forall_mem_cons.mpr ⟨mw_2058, (List.forall_mem_cons.mpr ⟨mw_2059, (List.forall_mem_cons.mpr ⟨mw_2060, (List.forall_mem_cons.mpr ⟨mw_2061, (List.forall_mem_cons.mpr ⟨mw_2062, (List.forall_mem_cons.mpr ⟨mw_2063, (List.forall_mem_cons.mpr ⟨mw_2064, (List.forall_mem_cons.mpr ⟨mw_2065, (List.forall_mem_cons.mpr ⟨mw_2066, (List.forall_mem_cons.mpr ⟨mw_2068, (List.forall_mem_cons.mpr ⟨mw_2075, (List.forall_mem_cons.mpr ⟨mw_2076, (List.forall_mem_cons.mpr ⟨mw_2077, (List.forall_mem_cons.mpr ⟨mw_2078, (List.forall_mem_cons.mpr ⟨mw_2079, (List.forall_mem_cons.mpr ⟨mw_2081, (List.forall_mem_cons.mpr ⟨mw_2082, (List.forall_mem_cons.mpr ⟨mw_2083, (List.forall_mem_cons.mpr ⟨mw_2084, (List.forall_mem_cons.mpr ⟨mw_2085, (List.forall_mem_cons.mpr ⟨mw_2086, (List.forall_mem_cons.mpr ⟨mw_2088, (List.forall_mem_cons.mpr ⟨mw_2089, (List.forall_mem_cons.mpr ⟨mw_2090, (List.forall_mem_cons.mpr ⟨mw_2091, (List.forall_mem_cons.mpr ⟨mw_2092, (List.forall_mem_cons.mpr ⟨mw_2093, (List.forall_mem_cons.mpr ⟨mw_2094, (List.forall_mem_cons.mpr ⟨mw_2095, (List.forall_mem_cons.mpr ⟨mw_2096, (List.forall_mem_cons.mpr ⟨mw_2097, (List.forall_mem_cons.mpr ⟨mw_2098, (List.forall_mem_cons.mpr ⟨mw_2099, (List.forall_mem_cons.mpr ⟨mw_2101, (List.forall_mem_cons.mpr ⟨mw_2102, (List.forall_mem_cons.mpr ⟨mw_2103, (List.forall_mem_cons.mpr ⟨mw_2108, (List.forall_mem_cons.mpr ⟨mw_2109, (List.forall_mem_cons.mpr ⟨mw_2110, (List.forall_mem_cons.mpr ⟨mw_2111, (List.forall_mem_cons.mpr ⟨mw_2113, (List.forall_mem_cons.mpr ⟨mw_2114, (List.forall_mem_cons.mpr ⟨mw_2115, (List.forall_mem_cons.mpr ⟨mw_2116, (List.forall_mem_cons.mpr ⟨mw_2117, (List.forall_mem_cons.mpr ⟨mw_2118, (List.forall_mem_cons.mpr ⟨mw_2119, (List.forall_mem_cons.mpr ⟨mw_2120, (List.forall_mem_cons.mpr ⟨mw_2121, (List.forall_mem_cons.mpr ⟨mw_2122, (List.forall_mem_cons.mpr ⟨mw_2123, (List.forall_mem_cons.mpr ⟨mw_2124, (List.forall_mem_cons.mpr ⟨mw_2125, (List.forall_mem_cons.mpr ⟨mw_2126, (List.forall_mem_cons.mpr ⟨mw_2128, (List.forall_mem_cons.mpr ⟨mw_2133, (List.forall_mem_cons.mpr ⟨mw_2134, (List.forall_mem_cons.mpr ⟨mw_2135, (List.forall_mem_cons.mpr ⟨mw_2136, (List.forall_mem_cons.mpr ⟨mw_2137, (List.forall_mem_cons.mpr ⟨mw_2139, (List.forall_mem_cons.mpr ⟨mw_2140, (List.forall_mem_cons.mpr ⟨mw_2142, (List.forall_mem_cons.mpr ⟨mw_2143, (List.forall_mem_cons.mpr ⟨mw_2144, (List.forall_mem_cons.mpr ⟨mw_2145, (List.forall_mem_cons.mpr ⟨mw_2146, (List.forall_mem_cons.mpr ⟨mw_2147, (List.forall_mem_cons.mpr ⟨mw_2148, (List.forall_mem_cons.mpr ⟨mw_2149, (List.forall_mem_cons.mpr ⟨mw_2156, (List.forall_mem_cons.mpr ⟨mw_2158, (List.forall_mem_cons.mpr ⟨mw_2160, (List.forall_mem_cons.mpr ⟨mw_2162, (List.forall_mem_cons.mpr ⟨mw_2163, (List.forall_mem_cons.mpr ⟨mw_2164, (List.forall_mem_cons.mpr ⟨mw_2165, (List.forall_mem_cons.mpr ⟨mw_2168, (List.forall_mem_cons.mpr ⟨mw_2169, (List.forall_mem_cons.mpr ⟨mw_2170, (List.forall_mem_cons.mpr ⟨mw_2172, (List.forall_mem_cons.mpr ⟨mw_2173, (List.forall_mem_cons.mpr ⟨mw_2174, (List.forall_mem_cons.mpr ⟨mw_2175, (List.forall_mem_cons.mpr ⟨mw_2176, (List.forall_mem_cons.mpr ⟨mw_2177, (List.forall_mem_cons.mpr ⟨mw_2178, (List.forall_mem_cons.mpr ⟨mw_2187, (fun _ h => absurd h List.not_mem_nil)⟩)⟩)⟩)⟩)⟩)⟩)⟩)⟩)⟩)⟩)⟩)⟩)⟩)⟩)⟩)⟩)⟩)⟩)⟩)⟩)⟩)⟩)⟩)⟩)⟩)⟩)⟩)⟩)⟩)⟩)⟩)⟩)⟩)⟩)⟩)⟩)⟩)⟩)⟩)⟩)⟩)⟩)⟩)⟩)⟩)⟩)⟩)⟩)⟩)⟩)⟩)⟩)⟩)⟩)⟩)⟩)⟩)⟩)⟩)⟩)⟩)⟩)⟩)⟩)⟩)⟩)⟩)⟩)⟩)⟩)⟩)⟩)⟩)⟩)⟩)⟩)⟩)⟩)⟩)⟩)⟩)⟩)⟩)⟩)⟩)⟩)⟩)⟩)⟩)⟩)⟩)⟩)⟩)⟩)⟩)⟩)⟩)⟩)⟩)⟩)⟩)⟩)⟩)⟩)⟩), it_X12⟩⟩
theorem wi_mlay0 : ∀ w ∈ ww_mlay0, w ∈ lw_tbl := List.forall_mem_cons.mpr ⟨mw_2497, List.forall_mem_append.mpr ⟨(List.forall_mem_cons.mpr ⟨mw_2038, (List.forall_mem_cons.mpr ⟨mw_2039, (fun _ h => absurd h List.not_mem_nil)⟩)⟩), it_X12⟩⟩
theorem wi_mlay4 : ∀ w ∈ ww_mlay4, w ∈ lw_tbl := List.forall_mem_cons.mpr ⟨mw_2497, List.forall_mem_append.mpr ⟨(List.forall_mem_cons.mpr ⟨mw_2038, (List.forall_mem_cons.mpr ⟨mw_2039, (fun _ h => absurd h List.not_mem_nil)⟩)⟩), it_X12⟩⟩
theorem wi_mlay8 : ∀ w ∈ ww_mlay8, w ∈ lw_tbl := List.forall_mem_cons.mpr ⟨mw_2497, List.forall_mem_append.mpr ⟨(List.forall_mem_cons.mpr ⟨mw_2038, (List.forall_mem_cons.mpr ⟨mw_2039, (fun _ h => absurd h List.not_mem_nil)⟩)⟩), it_X12⟩⟩
theorem wi_mlay12 : ∀ w ∈ ww_mlay12, w ∈ lw_tbl := List.forall_mem_cons.mpr ⟨mw_2497, List.forall_mem_append.mpr ⟨(List.forall_mem_cons.mpr ⟨mw_2038, (List.forall_mem_cons.mpr ⟨mw_2039, (fun _ h => absurd h List.not_mem_nil)⟩)⟩), it_X12⟩⟩
theorem wi_mlay16 : ∀ w ∈ ww_mlay16, w ∈ lw_tbl := List.forall_mem_cons.mpr ⟨mw_2497, List.forall_mem_append.mpr ⟨(List.forall_mem_cons.mpr ⟨mw_2038, (List.forall_mem_cons.mpr ⟨mw_2039, (fun _ h => absurd h List.not_mem_nil)⟩)⟩), it_X12⟩⟩
theorem wi_gc_feed : ∀ w ∈ ww_gc_feed, w ∈ lw_tbl := List.forall_mem_cons.mpr ⟨mw_2493, List.forall_mem_append.mpr ⟨(List.forall_mem_cons.mpr ⟨mw_2039, (fun _ h => absurd h List.not_mem_nil)⟩), (List.forall_mem_append.mpr ⟨it_X12, (List.forall_mem_append.mpr ⟨wi_mlay0, (List.forall_mem_append.mpr ⟨(by unfold wsV; exact List.forall_mem_append.mpr ⟨(List.forall_mem_cons.mpr ⟨mw_2494, (List.forall_mem_cons.mpr ⟨mw_2496, (List.forall_mem_cons.mpr ⟨mw_147, (List.forall_mem_cons.mpr ⟨mw_307, (fun _ h => absurd h List.not_mem_nil)⟩)⟩)⟩)⟩), wi_mlay0⟩), (List.forall_mem_append.mpr ⟨wi_mlay4, (List.forall_mem_append.mpr ⟨(by unfold wsV; exact List.forall_mem_append.mpr ⟨(List.forall_mem_cons.mpr ⟨mw_2494, (List.forall_mem_cons.mpr ⟨mw_2496, (List.forall_mem_cons.mpr ⟨mw_147, (List.forall_mem_cons.mpr ⟨mw_307, (fun _ h => absurd h List.not_mem_nil)⟩)⟩)⟩)⟩), wi_mlay4⟩), (List.forall_mem_append.mpr ⟨wi_mlay8, (List.forall_mem_append.mpr ⟨(by unfold wsV; exact List.forall_mem_append.mpr ⟨(List.forall_mem_cons.mpr ⟨mw_2494, (List.forall_mem_cons.mpr ⟨mw_2496, (List.forall_mem_cons.mpr ⟨mw_147, (List.forall_mem_cons.mpr ⟨mw_307, (fun _ h => absurd h List.not_mem_nil)⟩)⟩)⟩)⟩), wi_mlay8⟩), (List.forall_mem_append.mpr ⟨wi_mlay12, (List.forall_mem_append.mpr ⟨(by unfold wsV; exact List.forall_mem_append.mpr ⟨(List.forall_mem_cons.mpr ⟨mw_2494, (List.forall_mem_cons.mpr ⟨mw_2496, (List.forall_mem_cons.mpr ⟨mw_147, (List.forall_mem_cons.mpr ⟨mw_307, (fun _ h => absurd h List.not_mem_nil)⟩)⟩)⟩)⟩), wi_mlay12⟩), (List.forall_mem_append.mpr ⟨wi_mlay16, (by unfold wsV; exact List.forall_mem_append.mpr ⟨(List.forall_mem_cons.mpr ⟨mw_2494, (List.forall_mem_cons.mpr ⟨mw_2496, (List.forall_mem_cons.mpr ⟨mw_147, (List.forall_mem_cons.mpr ⟨mw_307, (fun _ h => absurd h List.not_mem_nil)⟩)⟩)⟩)⟩), wi_mlay16⟩)⟩)⟩)⟩)⟩)⟩)⟩)⟩)⟩)⟩)⟩)⟩⟩
theorem wi_gc_cut : ∀ w ∈ ww_gc_cut, w ∈ lw_tbl := List.forall_mem_cons.mpr ⟨mw_2501, List.forall_mem_append.mpr ⟨(List.forall_mem_cons.mpr ⟨mw_2039, (fun _ h => absurd h List.not_mem_nil)⟩), it_X12⟩⟩
theorem wi_gc_place : ∀ w ∈ ww_gc_place, w ∈ lw_tbl := List.forall_mem_cons.mpr ⟨mw_3024, List.forall_mem_append.mpr ⟨(List.forall_mem_cons.mpr ⟨mw_2158, (fun _ h => absurd h List.not_mem_nil)⟩), it_X12⟩⟩
theorem wi_lexer : ∀ w ∈ ww_lexer, w ∈ lw_tbl := List.forall_mem_cons.mpr ⟨mw_2509, List.forall_mem_append.mpr ⟨(List.forall_mem_cons.mpr ⟨mw_2039, (List.forall_mem_cons.mpr ⟨mw_2050, (List.forall_mem_cons.mpr ⟨mw_2051, (List.forall_mem_cons.mpr ⟨mw_2040, (List.forall_mem_cons.mpr ⟨mw_2042, (List.forall_mem_cons.mpr ⟨mw_2044, (List.forall_mem_cons.mpr ⟨mw_2041, (List.forall_mem_cons.mpr ⟨mw_2043, (fun _ h => absurd h List.not_mem_nil)⟩)⟩)⟩)⟩)⟩)⟩)⟩)⟩), it_X12⟩⟩
theorem wi_parse : ∀ w ∈ ww_parse, w ∈ lw_tbl := List.forall_mem_cons.mpr ⟨mw_2572, List.forall_mem_append.mpr ⟨(List.forall_mem_cons.mpr ⟨mw_2074, (List.forall_mem_cons.mpr ⟨mw_2080, (List.forall_mem_cons.mpr ⟨mw_2087, (List.forall_mem_cons.mpr ⟨mw_2056, (List.forall_mem_cons.mpr ⟨mw_2052, (List.forall_mem_cons.mpr ⟨mw_2053, (List.forall_mem_cons.mpr ⟨mw_2055, (List.forall_mem_cons.mpr ⟨mw_2041, (fun _ h => absurd h List.not_mem_nil)⟩)⟩)⟩)⟩)⟩)⟩)⟩)⟩), it_X12⟩⟩
theorem wi_gc_read : ∀ w ∈ ww_gc_read, w ∈ lw_tbl := List.forall_mem_cons.mpr ⟨mw_2505, List.forall_mem_append.mpr ⟨(List.forall_mem_cons.mpr ⟨mw_2039, (List.forall_mem_cons.mpr ⟨mw_2157, (List.forall_mem_cons.mpr ⟨mw_2106, (List.forall_mem_cons.mpr ⟨mw_2159, (List.forall_mem_cons.mpr ⟨mw_2158, (List.forall_mem_cons.mpr ⟨mw_2074, (fun _ h => absurd h List.not_mem_nil)⟩)⟩)⟩)⟩)⟩)⟩), (List.forall_mem_append.mpr ⟨it_X12, (List.forall_mem_append.mpr ⟨wi_lexer, (List.forall_mem_append.mpr ⟨(by unfold wsV; exact List.forall_mem_append.mpr ⟨(List.forall_mem_cons.mpr ⟨mw_2506, (List.forall_mem_cons.mpr ⟨mw_2508, (List.forall_mem_cons.mpr ⟨mw_148, (List.forall_mem_cons.mpr ⟨mw_307, (fun _ h => absurd h List.not_mem_nil)⟩)⟩)⟩)⟩), wi_lexer⟩), (List.forall_mem_append.mpr ⟨wi_parse, (by unfold wsV; exact List.forall_mem_append.mpr ⟨(List.forall_mem_cons.mpr ⟨mw_2569, (List.forall_mem_cons.mpr ⟨mw_2571, (List.forall_mem_cons.mpr ⟨mw_157, (List.forall_mem_cons.mpr ⟨mw_307, (fun _ h => absurd h List.not_mem_nil)⟩)⟩)⟩)⟩), wi_parse⟩)⟩)⟩)⟩)⟩)⟩⟩
theorem wi_be : ∀ w ∈ ww_be, w ∈ lw_tbl := List.forall_mem_cons.mpr ⟨mw_2980, List.forall_mem_append.mpr ⟨(List.forall_mem_cons.mpr ⟨mw_2131, (List.forall_mem_cons.mpr ⟨mw_2132, (fun _ h => absurd h List.not_mem_nil)⟩)⟩), it_X12⟩⟩
theorem wi_start : ∀ w ∈ ww_start, w ∈ lw_tbl := List.forall_mem_cons.mpr ⟨mw_2976, List.forall_mem_append.mpr ⟨(List.forall_mem_cons.mpr ⟨mw_2130, (List.forall_mem_cons.mpr ⟨mw_2080, (fun _ h => absurd h List.not_mem_nil)⟩)⟩), (List.forall_mem_append.mpr ⟨it_X12, (List.forall_mem_append.mpr ⟨wi_be, (by unfold wsV; exact List.forall_mem_append.mpr ⟨(List.forall_mem_cons.mpr ⟨mw_2977, (List.forall_mem_cons.mpr ⟨mw_2979, (List.forall_mem_cons.mpr ⟨mw_257, (List.forall_mem_cons.mpr ⟨mw_307, (fun _ h => absurd h List.not_mem_nil)⟩)⟩)⟩)⟩), wi_be⟩)⟩)⟩)⟩⟩
theorem wi_flow : ∀ w ∈ ww_flow, w ∈ lw_tbl := List.forall_mem_cons.mpr ⟨mw_2972, List.forall_mem_append.mpr ⟨(List.forall_mem_cons.mpr ⟨mw_2150, (List.forall_mem_cons.mpr ⟨mw_2152, (List.forall_mem_cons.mpr ⟨mw_2040, (List.forall_mem_cons.mpr ⟨mw_2141, (List.forall_mem_cons.mpr ⟨mw_2138, (List.forall_mem_cons.mpr ⟨mw_2155, (List.forall_mem_cons.mpr ⟨mw_2056, (fun _ h => absurd h List.not_mem_nil)⟩)⟩)⟩)⟩)⟩)⟩)⟩), (List.forall_mem_append.mpr ⟨it_X12, (List.forall_mem_append.mpr ⟨wi_start, (by unfold wsV; exact List.forall_mem_append.mpr ⟨(List.forall_mem_cons.mpr ⟨mw_2973, (List.forall_mem_cons.mpr ⟨mw_2975, (List.forall_mem_cons.mpr ⟨mw_256, (List.forall_mem_cons.mpr ⟨mw_307, (fun _ h => absurd h List.not_mem_nil)⟩)⟩)⟩)⟩), wi_start⟩)⟩)⟩)⟩⟩
theorem wi_methodsTold : ∀ w ∈ ww_methodsTold, w ∈ lw_tbl := List.forall_mem_cons.mpr ⟨mw_2808, List.forall_mem_append.mpr ⟨(List.forall_mem_cons.mpr ⟨mw_2074, (fun _ h => absurd h List.not_mem_nil)⟩), it_X12⟩⟩
theorem wi_judgeAll : ∀ w ∈ ww_judgeAll, w ∈ lw_tbl := List.forall_mem_cons.mpr ⟨mw_2804, List.forall_mem_append.mpr ⟨(List.forall_mem_cons.mpr ⟨mw_2106, (List.forall_mem_cons.mpr ⟨mw_2104, (List.forall_mem_cons.mpr ⟨mw_2105, (List.forall_mem_cons.mpr ⟨mw_2112, (List.forall_mem_cons.mpr ⟨mw_2107, (List.forall_mem_cons.mpr ⟨mw_2127, (List.forall_mem_cons.mpr ⟨mw_2040, (List.forall_mem_cons.mpr ⟨mw_2080, (List.forall_mem_cons.mpr ⟨mw_2056, (fun _ h => absurd h List.not_mem_nil)⟩)⟩)⟩)⟩)⟩)⟩)⟩)⟩)⟩), (List.forall_mem_append.mpr ⟨it_X12, (List.forall_mem_append.mpr ⟨wi_methodsTold, (List.forall_mem_append.mpr ⟨(by unfold wsV; exact List.forall_mem_append.mpr ⟨(List.forall_mem_cons.mpr ⟨mw_2805, (List.forall_mem_cons.mpr ⟨mw_2807, (List.forall_mem_cons.mpr ⟨mw_216, (List.forall_mem_cons.mpr ⟨mw_307, (fun _ h => absurd h List.not_mem_nil)⟩)⟩)⟩)⟩), wi_methodsTold⟩), (List.forall_mem_append.mpr ⟨wi_flow, (by unfold wsV; exact List.forall_mem_append.mpr ⟨(List.forall_mem_cons.mpr ⟨mw_2969, (List.forall_mem_cons.mpr ⟨mw_2971, (List.forall_mem_cons.mpr ⟨mw_255, (List.forall_mem_cons.mpr ⟨mw_307, (fun _ h => absurd h List.not_mem_nil)⟩)⟩)⟩)⟩), wi_flow⟩)⟩)⟩)⟩)⟩)⟩⟩
theorem wi_isGood : ∀ w ∈ ww_isGood, w ∈ lw_tbl := List.forall_mem_cons.mpr ⟨mw_3032, List.forall_mem_append.mpr ⟨(List.forall_mem_cons.mpr ⟨mw_2106, (List.forall_mem_cons.mpr ⟨mw_2104, (fun _ h => absurd h List.not_mem_nil)⟩)⟩), (List.forall_mem_append.mpr ⟨it_X12, (List.forall_mem_append.mpr ⟨wi_judgeAll, (by unfold wsV; exact List.forall_mem_append.mpr ⟨(List.forall_mem_cons.mpr ⟨mw_2801, (List.forall_mem_cons.mpr ⟨mw_2803, (List.forall_mem_cons.mpr ⟨mw_215, (List.forall_mem_cons.mpr ⟨mw_307, (fun _ h => absurd h List.not_mem_nil)⟩)⟩)⟩)⟩), wi_judgeAll⟩)⟩)⟩)⟩⟩
theorem wi_gc_judge : ∀ w ∈ ww_gc_judge, w ∈ lw_tbl := List.forall_mem_cons.mpr ⟨mw_3028, List.forall_mem_append.mpr ⟨(List.forall_mem_cons.mpr ⟨mw_2158, (List.forall_mem_cons.mpr ⟨mw_2104, (fun _ h => absurd h List.not_mem_nil)⟩)⟩), (List.forall_mem_append.mpr ⟨wi_isGood, (List.forall_mem_append.mpr ⟨(by unfold wsV; exact List.forall_mem_append.mpr ⟨(List.forall_mem_cons.mpr ⟨mw_3029, (List.forall_mem_cons.mpr ⟨mw_3031, (List.forall_mem_cons.mpr ⟨mw_268, (List.forall_mem_cons.mpr ⟨mw_307, (fun _ h => absurd h List.not_mem_nil)⟩)⟩)⟩)⟩), wi_isGood⟩), it_X12⟩)⟩)⟩⟩
theorem wi_tokens : ∀ w ∈ ww_tokens, w ∈ lw_tbl := List.forall_mem_cons.mpr ⟨mw_3040, List.forall_mem_append.mpr ⟨(List.forall_mem_cons.mpr ⟨mw_2040, (fun _ h => absurd h List.not_mem_nil)⟩), it_X12⟩⟩
theorem wi_isToken : ∀ w ∈ ww_isToken, w ∈ lw_tbl := List.forall_mem_cons.mpr ⟨mw_3048, List.forall_mem_append.mpr ⟨(fun _ h => absurd h List.not_mem_nil), (List.forall_mem_append.mpr ⟨wi_tokens, (by unfold wsV; exact List.forall_mem_append.mpr ⟨(List.forall_mem_cons.mpr ⟨mw_3037, (List.forall_mem_cons.mpr ⟨mw_3039, (List.forall_mem_cons.mpr ⟨mw_269, (List.forall_mem_cons.mpr ⟨mw_307, (fun _ h => absurd h List.not_mem_nil)⟩)⟩)⟩)⟩), wi_tokens⟩)⟩)⟩⟩
theorem wi_mexpAt : ∀ w ∈ ww_mexpAt, w ∈ lw_tbl := List.forall_mem_cons.mpr ⟨mw_3068, List.forall_mem_append.mpr ⟨(List.forall_mem_cons.mpr ⟨mw_2112, (fun _ h => absurd h List.not_mem_nil)⟩), it_X12⟩⟩
theorem wi_gc_told : ∀ w ∈ ww_gc_told, w ∈ lw_tbl := List.forall_mem_cons.mpr ⟨mw_3036, List.forall_mem_append.mpr ⟨(List.forall_mem_cons.mpr ⟨mw_2161, (List.forall_mem_cons.mpr ⟨mw_2080, (List.forall_mem_cons.mpr ⟨mw_2074, (fun _ h => absurd h List.not_mem_nil)⟩)⟩)⟩), (List.forall_mem_append.mpr ⟨it_X12, (List.forall_mem_append.mpr ⟨wi_tokens, (by unfold wsV; exact List.forall_mem_append.mpr ⟨(List.forall_mem_cons.mpr ⟨mw_3037, (List.forall_mem_cons.mpr ⟨mw_3039, (List.forall_mem_cons.mpr ⟨mw_269, (List.forall_mem_cons.mpr ⟨mw_307, (fun _ h => absurd h List.not_mem_nil)⟩)⟩)⟩)⟩), wi_tokens⟩)⟩)⟩)⟩⟩
theorem wi_gc_token : ∀ w ∈ ww_gc_token, w ∈ lw_tbl := List.forall_mem_cons.mpr ⟨mw_3044, List.forall_mem_append.mpr ⟨(fun _ h => absurd h List.not_mem_nil), (List.forall_mem_append.mpr ⟨wi_isToken, (by unfold wsV; exact List.forall_mem_append.mpr ⟨(List.forall_mem_cons.mpr ⟨mw_3045, (List.forall_mem_cons.mpr ⟨mw_3047, (List.forall_mem_cons.mpr ⟨mw_270, (List.forall_mem_cons.mpr ⟨mw_307, (fun _ h => absurd h List.not_mem_nil)⟩)⟩)⟩)⟩), wi_isToken⟩)⟩)⟩⟩
theorem wi_gc_method : ∀ w ∈ ww_gc_method, w ∈ lw_tbl := List.forall_mem_cons.mpr ⟨mw_3052, List.forall_mem_append.mpr ⟨(List.forall_mem_cons.mpr ⟨mw_2074, (fun _ h => absurd h List.not_mem_nil)⟩), it_X12⟩⟩
theorem wi_gc_variable : ∀ w ∈ ww_gc_variable, w ∈ lw_tbl := List.forall_mem_cons.mpr ⟨mw_3056, List.forall_mem_append.mpr ⟨(List.forall_mem_cons.mpr ⟨mw_2080, (fun _ h => absurd h List.not_mem_nil)⟩), it_X12⟩⟩
theorem wi_gc_means : ∀ w ∈ ww_gc_means, w ∈ lw_tbl := List.forall_mem_cons.mpr ⟨mw_3060, List.forall_mem_append.mpr ⟨(fun _ h => absurd h List.not_mem_nil), (List.forall_mem_append.mpr ⟨wi_isToken, (by unfold wsV; exact List.forall_mem_append.mpr ⟨(List.forall_mem_cons.mpr ⟨mw_3045, (List.forall_mem_cons.mpr ⟨mw_3047, (List.forall_mem_cons.mpr ⟨mw_270, (List.forall_mem_cons.mpr ⟨mw_307, (fun _ h => absurd h List.not_mem_nil)⟩)⟩)⟩)⟩), wi_isToken⟩)⟩)⟩⟩
theorem wi_gc_type : ∀ w ∈ ww_gc_type, w ∈ lw_tbl := List.forall_mem_cons.mpr ⟨mw_3064, List.forall_mem_append.mpr ⟨(fun _ h => absurd h List.not_mem_nil), (List.forall_mem_append.mpr ⟨wi_isGood, (List.forall_mem_append.mpr ⟨(by unfold wsV; exact List.forall_mem_append.mpr ⟨(List.forall_mem_cons.mpr ⟨mw_3029, (List.forall_mem_cons.mpr ⟨mw_3031, (List.forall_mem_cons.mpr ⟨mw_268, (List.forall_mem_cons.mpr ⟨mw_307, (fun _ h => absurd h List.not_mem_nil)⟩)⟩)⟩)⟩), wi_isGood⟩), (List.forall_mem_append.mpr ⟨wi_mexpAt, (by unfold wsV; exact List.forall_mem_append.mpr ⟨(List.forall_mem_cons.mpr ⟨mw_3065, (List.forall_mem_cons.mpr ⟨mw_3067, (List.forall_mem_cons.mpr ⟨mw_271, (List.forall_mem_cons.mpr ⟨mw_307, (fun _ h => absurd h List.not_mem_nil)⟩)⟩)⟩)⟩), wi_mexpAt⟩)⟩)⟩)⟩)⟩⟩
theorem wi_gc_constant : ∀ w ∈ ww_gc_constant, w ∈ lw_tbl := List.forall_mem_cons.mpr ⟨mw_3072, List.forall_mem_append.mpr ⟨(List.forall_mem_cons.mpr ⟨mw_3073, (fun _ h => absurd h List.not_mem_nil)⟩), (List.forall_mem_append.mpr ⟨wi_isGood, (List.forall_mem_append.mpr ⟨(by unfold wsV; exact List.forall_mem_append.mpr ⟨(List.forall_mem_cons.mpr ⟨mw_3029, (List.forall_mem_cons.mpr ⟨mw_3031, (List.forall_mem_cons.mpr ⟨mw_268, (List.forall_mem_cons.mpr ⟨mw_307, (fun _ h => absurd h List.not_mem_nil)⟩)⟩)⟩)⟩), wi_isGood⟩), (List.forall_mem_append.mpr ⟨wi_mexpAt, (by unfold wsV; exact List.forall_mem_append.mpr ⟨(List.forall_mem_cons.mpr ⟨mw_3065, (List.forall_mem_cons.mpr ⟨mw_3067, (List.forall_mem_cons.mpr ⟨mw_271, (List.forall_mem_cons.mpr ⟨mw_307, (fun _ h => absurd h List.not_mem_nil)⟩)⟩)⟩)⟩), wi_mexpAt⟩)⟩)⟩)⟩)⟩⟩
theorem wi_gc_ends : ∀ w ∈ ww_gc_ends, w ∈ lw_tbl := List.forall_mem_cons.mpr ⟨mw_3077, List.forall_mem_append.mpr ⟨(fun _ h => absurd h List.not_mem_nil), (List.forall_mem_append.mpr ⟨wi_isGood, (List.forall_mem_append.mpr ⟨(by unfold wsV; exact List.forall_mem_append.mpr ⟨(List.forall_mem_cons.mpr ⟨mw_3029, (List.forall_mem_cons.mpr ⟨mw_3031, (List.forall_mem_cons.mpr ⟨mw_268, (List.forall_mem_cons.mpr ⟨mw_307, (fun _ h => absurd h List.not_mem_nil)⟩)⟩)⟩)⟩), wi_isGood⟩), (List.forall_mem_append.mpr ⟨wi_isToken, (by unfold wsV; exact List.forall_mem_append.mpr ⟨(List.forall_mem_cons.mpr ⟨mw_3045, (List.forall_mem_cons.mpr ⟨mw_3047, (List.forall_mem_cons.mpr ⟨mw_270, (List.forall_mem_cons.mpr ⟨mw_307, (fun _ h => absurd h List.not_mem_nil)⟩)⟩)⟩)⟩), wi_isToken⟩)⟩)⟩)⟩)⟩⟩
theorem wi_gc_assigned : ∀ w ∈ ww_gc_assigned, w ∈ lw_tbl := List.forall_mem_cons.mpr ⟨mw_3081, List.forall_mem_append.mpr ⟨(fun _ h => absurd h List.not_mem_nil), (List.forall_mem_append.mpr ⟨wi_isGood, (List.forall_mem_append.mpr ⟨(by unfold wsV; exact List.forall_mem_append.mpr ⟨(List.forall_mem_cons.mpr ⟨mw_3029, (List.forall_mem_cons.mpr ⟨mw_3031, (List.forall_mem_cons.mpr ⟨mw_268, (List.forall_mem_cons.mpr ⟨mw_307, (fun _ h => absurd h List.not_mem_nil)⟩)⟩)⟩)⟩), wi_isGood⟩), (List.forall_mem_append.mpr ⟨wi_isToken, (by unfold wsV; exact List.forall_mem_append.mpr ⟨(List.forall_mem_cons.mpr ⟨mw_3045, (List.forall_mem_cons.mpr ⟨mw_3047, (List.forall_mem_cons.mpr ⟨mw_270, (List.forall_mem_cons.mpr ⟨mw_307, (fun _ h => absurd h List.not_mem_nil)⟩)⟩)⟩)⟩), wi_isToken⟩)⟩)⟩)⟩)⟩⟩
theorem wi_gc_argument : ∀ w ∈ ww_gc_argument, w ∈ lw_tbl := List.forall_mem_cons.mpr ⟨mw_3085, List.forall_mem_append.mpr ⟨(List.forall_mem_cons.mpr ⟨mw_2162, (fun _ h => absurd h List.not_mem_nil)⟩), it_X12⟩⟩
theorem wi_gc_input : ∀ w ∈ ww_gc_input, w ∈ lw_tbl := List.forall_mem_cons.mpr ⟨mw_3089, List.forall_mem_append.mpr ⟨(List.forall_mem_cons.mpr ⟨mw_2161, (List.forall_mem_cons.mpr ⟨mw_2160, (fun _ h => absurd h List.not_mem_nil)⟩)⟩), it_X12⟩⟩
theorem wi_gc_drain : ∀ w ∈ ww_gc_drain, w ∈ lw_tbl := List.forall_mem_cons.mpr ⟨mw_3093, List.forall_mem_append.mpr ⟨(List.forall_mem_cons.mpr ⟨mw_2161, (fun _ h => absurd h List.not_mem_nil)⟩), it_X12⟩⟩
theorem wi_gc_run : ∀ w ∈ ww_gc_run, w ∈ lw_tbl := List.forall_mem_cons.mpr ⟨mw_3097, List.forall_mem_append.mpr ⟨(List.forall_mem_cons.mpr ⟨mw_2074, (fun _ h => absurd h List.not_mem_nil)⟩), it_X12⟩⟩
theorem wi_gc_ran : ∀ w ∈ ww_gc_ran, w ∈ lw_tbl := List.forall_mem_cons.mpr ⟨mw_3169, List.forall_mem_append.mpr ⟨(List.forall_mem_cons.mpr ⟨mw_2159, (List.forall_mem_cons.mpr ⟨mw_3073, (fun _ h => absurd h List.not_mem_nil)⟩)⟩), it_X12⟩⟩
