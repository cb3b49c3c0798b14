theorem inGX0 : ∀ w ∈ u_ws RX0 TX0 3, w ∈ gWs := gIns (by decide +kernel) (by decide +kernel)
theorem inGX1 : ∀ w ∈ u_ws RX1 TX1 4, w ∈ gWs := gIns (by decide +kernel) (by decide +kernel)
theorem inGX2 : ∀ w ∈ u_ws RX2 TX2 4, w ∈ gWs := gIns (by decide +kernel) (by decide +kernel)
theorem inGX3 : ∀ w ∈ u_ws RX3 TX3 3, w ∈ gWs := gIns (by decide +kernel) (by decide +kernel)
theorem inGX4 : ∀ w ∈ u_ws RX4 TX4 4, w ∈ gWs := gIns (by decide +kernel) (by decide +kernel)
theorem inGX5 : ∀ w ∈ u_ws RX5 TX5 2, w ∈ gWs := gIns (by decide +kernel) (by decide +kernel)
theorem inGX6 : ∀ w ∈ u_ws RX6 TX6 5, w ∈ gWs := gIns (by decide +kernel) (by decide +kernel)
theorem inGX7 : ∀ w ∈ u_ws RX7 TX7 10, w ∈ gWs := gIns (by decide +kernel) (by decide +kernel)
theorem inGX8 : ∀ w ∈ u_ws RX8 TX8 14, w ∈ gWs := gIns (by decide +kernel) (by decide +kernel)
theorem inGX9 : ∀ w ∈ u_ws RX9 TX9 45, w ∈ gWs := gIns (by decide +kernel) (by decide +kernel)
theorem flJ0_9 : Cond.fieldLink RJ0 9 RJ0 "value" "[B" ∈ gWs := gIn 1354 (by decide +kernel) rfl
theorem flJ0_15 : Cond.fieldLink RJ0 15 RJ0 "coder" "B" ∈ gWs := gIn 1353 (by decide +kernel) rfl
theorem flJ0_38 : Cond.fieldLink RJ0 38 RJ0 "COMPACT_STRINGS" "Z" ∈ gWs := gIn 394 (by decide +kernel) rfl
set_option maxRecDepth 100000 in
theorem cw_X8_within : Cond.code yX8_within cX8_within 3 (some .boolean) ∈ gWs := gIn 350 (rfl) rfl
theorem lkX8_94 : gLinkS RX8 94 yX8_within cX8_within 3 (some .boolean) 3 := ⟨gIn 348 (by decide +kernel) rfl, gIn 349 (by decide +kernel) rfl, gIn 70 (by decide +kernel) rfl, cw_X8_within, by unfold gYok; decide +kernel⟩
set_option maxRecDepth 100000 in
theorem cw_X8_isYear : Cond.code yX8_isYear cX8_isYear 1 (some .boolean) ∈ gWs := gIn 516 (rfl) rfl
theorem lkX0_18 : gLinkN RX0 18 yX8_isYear cX8_isYear 1 (some .boolean) 1 := ⟨by decide +kernel, gIn 515 (by decide +kernel) rfl, gIn 70 (by decide +kernel) rfl, cw_X8_isYear, by unfold gYok; decide +kernel⟩
theorem lkX0_22 : gLinkN RX0 22 yX8_within cX8_within 3 (some .boolean) 3 := ⟨by decide +kernel, gIn 349 (by decide +kernel) rfl, gIn 70 (by decide +kernel) rfl, cw_X8_within, by unfold gYok; decide +kernel⟩
theorem flX0_26 : gFld RX0 26 0 2 := ⟨RX0, TX0, 3, rfl, inGX0, by decide, gIn 183 (by decide +kernel) rfl, rfl⟩
theorem flX0_9 : gFld RX0 9 0 0 := ⟨RX0, TX0, 3, rfl, inGX0, by decide, gIn 179 (by decide +kernel) rfl, rfl⟩
theorem flX0_15 : gFld RX0 15 0 1 := ⟨RX0, TX0, 3, rfl, inGX0, by decide, gIn 181 (by decide +kernel) rfl, rfl⟩
theorem fpX0_26 : gFldP RX0 26 0 2 .int := ⟨RX0, TX0, 3, tyX0, rfl, inGX0, by decide, gIn 183 (by decide +kernel) rfl, rfl, tyX0_ok, nmX0, rfl, by decide⟩
theorem flX1_21 : gFld RX1 21 1 3 := ⟨RX1, TX1, 4, rfl, inGX1, by decide, gIn 205 (by decide +kernel) rfl, rfl⟩
theorem flX1_9 : gFld RX1 9 1 0 := ⟨RX1, TX1, 4, rfl, inGX1, by decide, gIn 199 (by decide +kernel) rfl, rfl⟩
theorem flX1_15 : gFld RX1 15 1 1 := ⟨RX1, TX1, 4, rfl, inGX1, by decide, gIn 201 (by decide +kernel) rfl, rfl⟩
theorem flX1_18 : gFld RX1 18 1 2 := ⟨RX1, TX1, 4, rfl, inGX1, by decide, gIn 203 (by decide +kernel) rfl, rfl⟩
theorem fpX1_21 : gFldP RX1 21 1 3 .int := ⟨RX1, TX1, 4, tyX1, rfl, inGX1, by decide, gIn 205 (by decide +kernel) rfl, rfl, tyX1_ok, nmX1, rfl, by decide⟩
theorem flX2_22 : gFld RX2 22 2 2 := ⟨RX2, TX2, 4, rfl, inGX2, by decide, gIn 159 (by decide +kernel) rfl, rfl⟩
theorem lkX2_25 : gLinkN RX2 25 yX8_within cX8_within 3 (some .boolean) 3 := ⟨by decide +kernel, gIn 349 (by decide +kernel) rfl, gIn 70 (by decide +kernel) rfl, cw_X8_within, by unfold gYok; decide +kernel⟩
set_option maxRecDepth 100000 in
theorem cw_J0_coder_7d493 : Cond.code yJ0_coder_7d493 cJ0_coder_7d493 1 (some .byte) ∈ gWs := gIn 403 (rfl) rfl
theorem lkJ0_335 : gLinkV RJ0 335 yJ0_coder_7d493 cJ0_coder_7d493 1 (some .byte) 0 := ⟨gIn 400 (by decide +kernel) rfl, gIn 401 (by decide +kernel) rfl, gIn 402 (by decide +kernel) rfl, gIn 81 (by decide +kernel) rfl, cw_J0_coder_7d493, by unfold gYok; decide +kernel⟩
set_option maxRecDepth 100000 in
theorem cw_J1_canEncode_9a6ad : Cond.code yJ1_canEncode_9a6ad cJ1_canEncode_9a6ad 1 (some .boolean) ∈ gWs := gIn 409 (rfl) rfl
theorem lkJ1_88 : gLinkS RJ1 88 yJ1_canEncode_9a6ad cJ1_canEncode_9a6ad 1 (some .boolean) 1 := ⟨gIn 407 (by decide +kernel) rfl, gIn 408 (by decide +kernel) rfl, gIn 82 (by decide +kernel) rfl, cw_J1_canEncode_9a6ad, by unfold gYok; decide +kernel⟩
theorem mlJ1_92 : Cond.methodLink RJ1 92 Lib.Math.max.name ∈ gWs := gIn 410 (by decide +kernel) rfl
theorem ms_max : Cond.static Lib.Math.max.name ∈ gWs := gIn 411 (by decide +kernel) rfl
theorem mi_math : Cond.initialized "java/lang/Math" ∈ gWs := gIn 83 (by decide +kernel) rfl
set_option maxRecDepth 100000 in
theorem mc_max : Cond.code Lib.Math.max.name Lib.Math.max.code 2 (some .int) ∈ gWs := gIn 412 (rfl) rfl
theorem mlJ1_38 : Cond.methodLink RJ1 38 Lib.Math.min.name ∈ gWs := gIn 413 (by decide +kernel) rfl
theorem ms_min : Cond.static Lib.Math.min.name ∈ gWs := gIn 414 (by decide +kernel) rfl
set_option maxRecDepth 100000 in
theorem mc_min : Cond.code Lib.Math.min.name Lib.Math.min.code 2 (some .int) ∈ gWs := gIn 415 (rfl) rfl
set_option maxRecDepth 100000 in
theorem cw_J1_indexOfChar_4cfef : Cond.code yJ1_indexOfChar_4cfef cJ1_indexOfChar_4cfef 6 (some .int) ∈ gWs := gIn 418 (rfl) rfl
theorem lkJ1_95 : gLinkS RJ1 95 yJ1_indexOfChar_4cfef cJ1_indexOfChar_4cfef 6 (some .int) 4 := ⟨gIn 416 (by decide +kernel) rfl, gIn 417 (by decide +kernel) rfl, gIn 82 (by decide +kernel) rfl, cw_J1_indexOfChar_4cfef, by unfold gYok; decide +kernel⟩
set_option maxRecDepth 100000 in
theorem cw_J0_isLatin1_aae02 : Cond.code yJ0_isLatin1_aae02 cJ0_isLatin1_aae02 1 (some .boolean) ∈ gWs := gIn 393 (rfl) rfl
theorem lkJ0_492 : gLinkV RJ0 492 yJ0_isLatin1_aae02 cJ0_isLatin1_aae02 1 (some .boolean) 0 := ⟨gIn 390 (by decide +kernel) rfl, gIn 391 (by decide +kernel) rfl, gIn 392 (by decide +kernel) rfl, gIn 81 (by decide +kernel) rfl, cw_J0_isLatin1_aae02, by unfold gYok; decide +kernel⟩
set_option maxRecDepth 100000 in
theorem cw_J0_length_8abf5 : Cond.code yJ0_length_8abf5 cJ0_length_8abf5 1 (some .int) ∈ gWs := gIn 399 (rfl) rfl
theorem lkJ0_505 : gLinkV RJ0 505 yJ0_length_8abf5 cJ0_length_8abf5 1 (some .int) 0 := ⟨gIn 396 (by decide +kernel) rfl, gIn 397 (by decide +kernel) rfl, gIn 398 (by decide +kernel) rfl, gIn 81 (by decide +kernel) rfl, cw_J0_length_8abf5, by unfold gYok; decide +kernel⟩
set_option maxRecDepth 100000 in
theorem cw_J1_indexOf_4cfef : Cond.code yJ1_indexOf_4cfef cJ1_indexOf_4cfef 4 (some .int) ∈ gWs := gIn 406 (rfl) rfl
theorem lkJ0_637 : gLinkS RJ0 637 yJ1_indexOf_4cfef cJ1_indexOf_4cfef 4 (some .int) 4 := ⟨gIn 404 (by decide +kernel) rfl, gIn 405 (by decide +kernel) rfl, gIn 82 (by decide +kernel) rfl, cw_J1_indexOf_4cfef, by unfold gYok; decide +kernel⟩
set_option maxRecDepth 100000 in
theorem cw_J0_indexOf_7cf53 : Cond.code yJ0_indexOf_7cf53 cJ0_indexOf_7cf53 3 (some .int) ∈ gWs := gIn 389 (rfl) rfl
theorem lkJ0_633 : gLinkV RJ0 633 yJ0_indexOf_7cf53 cJ0_indexOf_7cf53 3 (some .int) 2 := ⟨gIn 386 (by decide +kernel) rfl, gIn 387 (by decide +kernel) rfl, gIn 388 (by decide +kernel) rfl, gIn 81 (by decide +kernel) rfl, cw_J0_indexOf_7cf53, by unfold gYok; decide +kernel⟩
theorem flX2_33 : gFld RX2 33 5 1 := ⟨RX5, TX5, 2, rfl, inGX5, by decide, gIn 109 (by decide +kernel) rfl, rfl⟩
theorem flX2_40 : gFld RX2 40 5 0 := ⟨RX5, TX5, 2, rfl, inGX5, by decide, gIn 106 (by decide +kernel) rfl, rfl⟩
set_option maxRecDepth 100000 in
theorem cw_J0_indexOf_0f7a4 : Cond.code yJ0_indexOf_0f7a4 cJ0_indexOf_0f7a4 2 (some .int) ∈ gWs := gIn 385 (rfl) rfl
theorem lkX2_43 : gLinkV RX2 43 yJ0_indexOf_0f7a4 cJ0_indexOf_0f7a4 2 (some .int) 1 := ⟨gIn 382 (by decide +kernel) rfl, gIn 383 (by decide +kernel) rfl, gIn 384 (by decide +kernel) rfl, gIn 81 (by decide +kernel) rfl, cw_J0_indexOf_0f7a4, by unfold gYok; decide +kernel⟩
theorem flX2_9 : gFld RX2 9 2 0 := ⟨RX2, TX2, 4, rfl, inGX2, by decide, gIn 153 (by decide +kernel) rfl, rfl⟩
theorem flX2_15 : gFld RX2 15 2 1 := ⟨RX2, TX2, 4, rfl, inGX2, by decide, gIn 156 (by decide +kernel) rfl, rfl⟩
set_option maxRecDepth 100000 in
theorem cw_X2_firstFault : Cond.code yX2_firstFault cX2_firstFault 4 (some .int) ∈ gWs := gIn 380 (rfl) rfl
theorem lkX2_29 : gLinkS RX2 29 yX2_firstFault cX2_firstFault 4 (some .int) 1 := ⟨gIn 378 (by decide +kernel) rfl, gIn 379 (by decide +kernel) rfl, gIn 73 (by decide +kernel) rfl, cw_X2_firstFault, by unfold gYok; decide +kernel⟩
theorem fpX2_18 : gFldP RX2 18 2 3 .int := ⟨RX2, TX2, 4, tyX2, rfl, inGX2, by decide, gIn 162 (by decide +kernel) rfl, rfl, tyX2_ok, nmX2, rfl, by decide⟩
theorem flX2_18 : gFld RX2 18 2 3 := ⟨RX2, TX2, 4, rfl, inGX2, by decide, gIn 162 (by decide +kernel) rfl, rfl⟩
theorem fpX2_22 : gFldP RX2 22 2 2 .int := ⟨RX2, TX2, 4, tyX2, rfl, inGX2, by decide, gIn 159 (by decide +kernel) rfl, rfl, tyX2_ok, nmX2, rfl, by decide⟩
theorem flX3_15 : gFld RX3 15 3 1 := ⟨RX3, TX3, 3, rfl, inGX3, by decide, gIn 287 (by decide +kernel) rfl, rfl⟩
theorem flX3_19 : gFld RX3 19 3 2 := ⟨RX3, TX3, 3, rfl, inGX3, by decide, gIn 289 (by decide +kernel) rfl, rfl⟩
theorem lkX3_22 : gLinkN RX3 22 yX8_within cX8_within 3 (some .boolean) 3 := ⟨by decide +kernel, gIn 349 (by decide +kernel) rfl, gIn 70 (by decide +kernel) rfl, cw_X8_within, by unfold gYok; decide +kernel⟩
theorem flX4_21 : gFld RX4 21 4 3 := ⟨RX4, TX4, 4, rfl, inGX4, by decide, gIn 226 (by decide +kernel) rfl, rfl⟩
theorem flX4_9 : gFld RX4 9 4 0 := ⟨RX4, TX4, 4, rfl, inGX4, by decide, gIn 223 (by decide +kernel) rfl, rfl⟩
theorem flX4_15 : gFld RX4 15 4 1 := ⟨RX4, TX4, 4, rfl, inGX4, by decide, gIn 224 (by decide +kernel) rfl, rfl⟩
theorem flX4_18 : gFld RX4 18 4 2 := ⟨RX4, TX4, 4, rfl, inGX4, by decide, gIn 225 (by decide +kernel) rfl, rfl⟩
theorem fpX4_21 : gFldP RX4 21 4 3 .int := ⟨RX4, TX4, 4, tyX4, rfl, inGX4, by decide, gIn 226 (by decide +kernel) rfl, rfl, tyX4_ok, nmX4, rfl, by decide⟩
set_option maxRecDepth 100000 in
theorem cw_X8_isAt : Cond.code yX8_isAt cX8_isAt 3 (some .boolean) ∈ gWs := gIn 494 (rfl) rfl
theorem lkX8_358 : gLinkS RX8 358 yX8_isAt cX8_isAt 3 (some .boolean) 2 := ⟨gIn 492 (by decide +kernel) rfl, gIn 493 (by decide +kernel) rfl, gIn 70 (by decide +kernel) rfl, cw_X8_isAt, by unfold gYok; decide +kernel⟩
theorem flX7_15 : gFld RX7 15 7 5 := ⟨RX7, TX7, 10, rfl, inGX7, by decide, gIn 250 (by decide +kernel) rfl, rfl⟩
set_option maxRecDepth 100000 in
theorem cw_X8_setterAt : Cond.code yX8_setterAt cX8_setterAt 4 (some .int) ∈ gWs := gIn 491 (rfl) rfl
theorem lkX7_147 : gLinkN RX7 147 yX8_setterAt cX8_setterAt 4 (some .int) 3 := ⟨by decide +kernel, gIn 490 (by decide +kernel) rfl, gIn 70 (by decide +kernel) rfl, cw_X8_setterAt, by unfold gYok; decide +kernel⟩
set_option maxRecDepth 100000 in
theorem cw_X7_setterBehind : Cond.code yX7_setterBehind cX7_setterBehind 3 (some .int) ∈ gWs := gIn 614 (rfl) rfl
theorem lkX4_25 : gLinkV RX4 25 yX7_setterBehind cX7_setterBehind 3 (some .int) 2 := ⟨gIn 706 (by decide +kernel) rfl, gIn 612 (by decide +kernel) rfl, gIn 613 (by decide +kernel) rfl, gIn 77 (by decide +kernel) rfl, cw_X7_setterBehind, by unfold gYok; decide +kernel⟩
theorem flX6_38 : gFld RX6 38 5 1 := ⟨RX5, TX5, 2, rfl, inGX5, by decide, gIn 108 (by decide +kernel) rfl, rfl⟩
theorem flX6_47 : gFld RX6 47 5 0 := ⟨RX5, TX5, 2, rfl, inGX5, by decide, gIn 105 (by decide +kernel) rfl, rfl⟩
theorem lkX6_51 : gLinkN RX6 51 yX8_within cX8_within 3 (some .boolean) 3 := ⟨by decide +kernel, gIn 349 (by decide +kernel) rfl, gIn 70 (by decide +kernel) rfl, cw_X8_within, by unfold gYok; decide +kernel⟩
theorem fpX6_28 : gFldP RX6 28 6 1 .int := ⟨RX6, TX6, 5, tyX6, rfl, inGX6, by decide, gIn 125 (by decide +kernel) rfl, rfl, tyX6_ok, nmX6, rfl, by decide⟩
theorem fpX6_31 : gFldP RX6 31 6 2 .int := ⟨RX6, TX6, 5, tyX6, rfl, inGX6, by decide, gIn 127 (by decide +kernel) rfl, rfl, tyX6_ok, nmX6, rfl, by decide⟩
theorem flX6_9 : gFld RX6 9 6 0 := ⟨RX6, TX6, 5, rfl, inGX6, by decide, gIn 122 (by decide +kernel) rfl, rfl⟩
set_option maxRecDepth 100000 in
theorem cw_J7_fill_d0a16 : Cond.code yJ7_fill_d0a16 cJ7_fill_d0a16 5 none ∈ gWs := gIn 365 (rfl) rfl
theorem lkX6_22 : gLinkS RX6 22 yJ7_fill_d0a16 cJ7_fill_d0a16 5 none 2 := ⟨gIn 363 (by decide +kernel) rfl, gIn 364 (by decide +kernel) rfl, gIn 80 (by decide +kernel) rfl, cw_J7_fill_d0a16, by unfold gYok; decide +kernel⟩
set_option maxRecDepth 100000 in
theorem cw_X6_firstFault : Cond.code yX6_firstFault cX6_firstFault 7 (some .int) ∈ gWs := gIn 368 (rfl) rfl
theorem lkX6_34 : gLinkS RX6 34 yX6_firstFault cX6_firstFault 7 (some .int) 1 := ⟨gIn 366 (by decide +kernel) rfl, gIn 367 (by decide +kernel) rfl, gIn 72 (by decide +kernel) rfl, cw_X6_firstFault, by unfold gYok; decide +kernel⟩
theorem fpX6_15 : gFldP RX6 15 6 3 .int := ⟨RX6, TX6, 5, tyX6, rfl, inGX6, by decide, gIn 130 (by decide +kernel) rfl, rfl, tyX6_ok, nmX6, rfl, by decide⟩
theorem flX6_15 : gFld RX6 15 6 3 := ⟨RX6, TX6, 5, rfl, inGX6, by decide, gIn 130 (by decide +kernel) rfl, rfl⟩
set_option maxRecDepth 100000 in
theorem cw_X6_lay : Cond.code yX6_lay cX6_lay 6 none ∈ gWs := gIn 373 (rfl) rfl
theorem lkX6_43 : gLinkV RX6 43 yX6_lay cX6_lay 6 none 1 := ⟨gIn 370 (by decide +kernel) rfl, gIn 372 (by decide +kernel) rfl, gIn 2 (by decide +kernel) rfl, gIn 72 (by decide +kernel) rfl, cw_X6_lay, by unfold gYok; decide +kernel⟩
theorem kX6_55 : Cond.constantLong RX6 55 (-1) ∈ gWs := gIn 674 (by decide +kernel) rfl
theorem kX8_362 : Cond.constantLong RX8 362 (255) ∈ gWs := gIn 587 (by decide +kernel) rfl
theorem kJ13_318 : Cond.constantLong RJ13 318 (1085102592571150095) ∈ gWs := gIn 597 (by decide +kernel) rfl
theorem kJ13_316 : Cond.constantLong RJ13 316 (3689348814741910323) ∈ gWs := gIn 596 (by decide +kernel) rfl
theorem kJ13_314 : Cond.constantLong RJ13 314 (6148914691236517205) ∈ gWs := gIn 595 (by decide +kernel) rfl
theorem fpX7_53 : gFldP RX7 53 7 4 .long := ⟨RX7, TX7, 10, tyX7, rfl, inGX7, by decide, gIn 249 (by decide +kernel) rfl, rfl, tyX7_ok, nmX7, rfl, by decide⟩
set_option maxRecDepth 100000 in
theorem cw_J13_bitCount_95d88 : Cond.code yJ13_bitCount_95d88 cJ13_bitCount_95d88 2 (some .int) ∈ gWs := gIn 594 (rfl) rfl
theorem lkX7_101 : gLinkS RX7 101 yJ13_bitCount_95d88 cJ13_bitCount_95d88 2 (some .int) 1 := ⟨gIn 592 (by decide +kernel) rfl, gIn 593 (by decide +kernel) rfl, gIn 88 (by decide +kernel) rfl, cw_J13_bitCount_95d88, by unfold gYok; decide +kernel⟩
theorem flX7_9 : gFld RX7 9 7 3 := ⟨RX7, TX7, 10, rfl, inGX7, by decide, gIn 248 (by decide +kernel) rfl, rfl⟩
theorem flX7_57 : gFld RX7 57 7 9 := ⟨RX7, TX7, 10, rfl, inGX7, by decide, gIn 257 (by decide +kernel) rfl, rfl⟩
theorem fpX7_57 : gFldP RX7 57 7 9 .int := ⟨RX7, TX7, 10, tyX7, rfl, inGX7, by decide, gIn 257 (by decide +kernel) rfl, rfl, tyX7_ok, nmX7, rfl, by decide⟩
theorem flX7_53 : gFld RX7 53 7 4 := ⟨RX7, TX7, 10, rfl, inGX7, by decide, gIn 249 (by decide +kernel) rfl, rfl⟩
theorem kX7_99 : Cond.constantLong RX7 99 (-1) ∈ gWs := gIn 578 (by decide +kernel) rfl
theorem kX8_364 : Cond.constantLong RX8 364 (-551911719041) ∈ gWs := gIn 576 (by decide +kernel) rfl
theorem kX8_366 : Cond.constantLong RX8 366 (-4311810306) ∈ gWs := gIn 577 (by decide +kernel) rfl
theorem kX8_226 : Cond.constantLong RX8 226 (-1) ∈ gWs := gIn 575 (by decide +kernel) rfl
theorem flX7_32 : gFld RX7 32 7 1 := ⟨RX7, TX7, 10, rfl, inGX7, by decide, gIn 246 (by decide +kernel) rfl, rfl⟩
theorem flX7_81 : gFld RX7 81 2 2 := ⟨RX2, TX2, 4, rfl, inGX2, by decide, gIn 160 (by decide +kernel) rfl, rfl⟩
theorem flX7_109 : gFld RX7 109 2 0 := ⟨RX2, TX2, 4, rfl, inGX2, by decide, gIn 154 (by decide +kernel) rfl, rfl⟩
set_option maxRecDepth 100000 in
theorem cw_X8_besideAtLeast : Cond.code yX8_besideAtLeast cX8_besideAtLeast 11 (some .long) ∈ gWs := gIn 574 (rfl) rfl
theorem lkX7_112 : gLinkN RX7 112 yX8_besideAtLeast cX8_besideAtLeast 11 (some .long) 2 := ⟨by decide +kernel, gIn 573 (by decide +kernel) rfl, gIn 70 (by decide +kernel) rfl, cw_X8_besideAtLeast, by unfold gYok; decide +kernel⟩
theorem kX7_120 : Cond.constantLong RX7 120 (255) ∈ gWs := gIn 583 (by decide +kernel) rfl
theorem flX7_106 : gFld RX7 106 2 1 := ⟨RX2, TX2, 4, rfl, inGX2, by decide, gIn 157 (by decide +kernel) rfl, rfl⟩
set_option maxRecDepth 100000 in
theorem cw_X7_nowOf : Cond.code yX7_nowOf cX7_nowOf 5 (some .long) ∈ gWs := gIn 582 (rfl) rfl
theorem lkX7_116 : gLinkV RX7 116 yX7_nowOf cX7_nowOf 5 (some .long) 1 := ⟨gIn 579 (by decide +kernel) rfl, gIn 581 (by decide +kernel) rfl, gIn 7 (by decide +kernel) rfl, gIn 77 (by decide +kernel) rfl, cw_X7_nowOf, by unfold gYok; decide +kernel⟩
set_option maxRecDepth 100000 in
theorem cw_X8_borneOf : Cond.code yX8_borneOf cX8_borneOf 9 (some .long) ∈ gWs := gIn 586 (rfl) rfl
theorem lkX7_91 : gLinkN RX7 91 yX8_borneOf cX8_borneOf 9 (some .long) 1 := ⟨by decide +kernel, gIn 585 (by decide +kernel) rfl, gIn 70 (by decide +kernel) rfl, cw_X8_borneOf, by unfold gYok; decide +kernel⟩
set_option maxRecDepth 100000 in
theorem cw_X7_leave : Cond.code yX7_leave cX7_leave 6 (some .int) ∈ gWs := gIn 591 (rfl) rfl
theorem lkX7_95 : gLinkV RX7 95 yX7_leave cX7_leave 6 (some .int) 1 := ⟨gIn 588 (by decide +kernel) rfl, gIn 590 (by decide +kernel) rfl, gIn 8 (by decide +kernel) rfl, gIn 77 (by decide +kernel) rfl, cw_X7_leave, by unfold gYok; decide +kernel⟩
theorem flX7_84 : gFld RX7 84 0 1 := ⟨RX0, TX0, 3, rfl, inGX0, by decide, gIn 182 (by decide +kernel) rfl, rfl⟩
set_option maxRecDepth 100000 in
theorem cw_X7_holdingOf : Cond.code yX7_holdingOf cX7_holdingOf 9 (some .long) ∈ gWs := gIn 571 (rfl) rfl
theorem lkX7_87 : gLinkV RX7 87 yX7_holdingOf cX7_holdingOf 9 (some .long) 2 := ⟨gIn 568 (by decide +kernel) rfl, gIn 570 (by decide +kernel) rfl, gIn 6 (by decide +kernel) rfl, gIn 77 (by decide +kernel) rfl, cw_X7_holdingOf, by unfold gYok; decide +kernel⟩
theorem flX7_73 : gFld RX7 73 0 2 := ⟨RX0, TX0, 3, rfl, inGX0, by decide, gIn 184 (by decide +kernel) rfl, rfl⟩
theorem flX7_78 : gFld RX7 78 0 0 := ⟨RX0, TX0, 3, rfl, inGX0, by decide, gIn 180 (by decide +kernel) rfl, rfl⟩
theorem flX7_28 : gFld RX7 28 7 0 := ⟨RX7, TX7, 10, rfl, inGX7, by decide, gIn 245 (by decide +kernel) rfl, rfl⟩
theorem flX7_139 : gFld RX7 139 6 1 := ⟨RX6, TX6, 5, rfl, inGX6, by decide, gIn 126 (by decide +kernel) rfl, rfl⟩
theorem flX7_36 : gFld RX7 36 7 2 := ⟨RX7, TX7, 10, rfl, inGX7, by decide, gIn 247 (by decide +kernel) rfl, rfl⟩
theorem flX7_122 : gFld RX7 122 1 3 := ⟨RX1, TX1, 4, rfl, inGX1, by decide, gIn 206 (by decide +kernel) rfl, rfl⟩
theorem flX7_125 : gFld RX7 125 1 0 := ⟨RX1, TX1, 4, rfl, inGX1, by decide, gIn 200 (by decide +kernel) rfl, rfl⟩
theorem flX7_126 : gFld RX7 126 1 1 := ⟨RX1, TX1, 4, rfl, inGX1, by decide, gIn 202 (by decide +kernel) rfl, rfl⟩
theorem flX7_129 : gFld RX7 129 6 2 := ⟨RX6, TX6, 5, rfl, inGX6, by decide, gIn 128 (by decide +kernel) rfl, rfl⟩
theorem flX7_132 : gFld RX7 132 1 2 := ⟨RX1, TX1, 4, rfl, inGX1, by decide, gIn 204 (by decide +kernel) rfl, rfl⟩
set_option maxRecDepth 100000 in
theorem cw_X7_fillGap : Cond.code yX7_fillGap cX7_fillGap 6 (some .boolean) ∈ gWs := gIn 605 (rfl) rfl
theorem lkX7_135 : gLinkV RX7 135 yX7_fillGap cX7_fillGap 6 (some .boolean) 2 := ⟨gIn 602 (by decide +kernel) rfl, gIn 604 (by decide +kernel) rfl, gIn 10 (by decide +kernel) rfl, gIn 77 (by decide +kernel) rfl, cw_X7_fillGap, by unfold gYok; decide +kernel⟩
theorem kX7_142 : Cond.constantLong RX7 142 (4311810305) ∈ gWs := gIn 610 (by decide +kernel) rfl
theorem flX7_144 : gFld RX7 144 6 4 := ⟨RX6, TX6, 5, rfl, inGX6, by decide, gIn 134 (by decide +kernel) rfl, rfl⟩
theorem flX7_21 : gFld RX7 21 7 7 := ⟨RX7, TX7, 10, rfl, inGX7, by decide, gIn 253 (by decide +kernel) rfl, rfl⟩
set_option maxRecDepth 100000 in
theorem cw_X7_openColumns : Cond.code yX7_openColumns cX7_openColumns 10 (some .int) ∈ gWs := gIn 609 (rfl) rfl
theorem lkX7_69 : gLinkV RX7 69 yX7_openColumns cX7_openColumns 10 (some .int) 0 := ⟨gIn 606 (by decide +kernel) rfl, gIn 608 (by decide +kernel) rfl, gIn 11 (by decide +kernel) rfl, gIn 77 (by decide +kernel) rfl, cw_X7_openColumns, by unfold gYok; decide +kernel⟩
theorem flX7_25 : gFld RX7 25 7 8 := ⟨RX7, TX7, 10, rfl, inGX7, by decide, gIn 255 (by decide +kernel) rfl, rfl⟩
set_option maxRecDepth 100000 in
theorem cw_X7_freeze : Cond.code yX7_freeze cX7_freeze 10 (some .int) ∈ gWs := gIn 567 (rfl) rfl
theorem lkX7_61 : gLinkV RX7 61 yX7_freeze cX7_freeze 10 (some .int) 3 := ⟨gIn 564 (by decide +kernel) rfl, gIn 566 (by decide +kernel) rfl, gIn 5 (by decide +kernel) rfl, gIn 77 (by decide +kernel) rfl, cw_X7_freeze, by unfold gYok; decide +kernel⟩
set_option maxRecDepth 100000 in
theorem cw_X7_fillGaps : Cond.code yX7_fillGaps cX7_fillGaps 4 (some .boolean) ∈ gWs := gIn 601 (rfl) rfl
theorem lkX7_65 : gLinkV RX7 65 yX7_fillGaps cX7_fillGaps 4 (some .boolean) 1 := ⟨gIn 598 (by decide +kernel) rfl, gIn 600 (by decide +kernel) rfl, gIn 9 (by decide +kernel) rfl, gIn 77 (by decide +kernel) rfl, cw_X7_fillGaps, by unfold gYok; decide +kernel⟩
theorem alX7_43 : Cond.methodLink RX7 43 arraycopyName ∈ gWs := gIn 558 (by decide +kernel) rfl
theorem an_copy : Cond.native arraycopyName ∈ gWs := gIn 560 (by decide +kernel) rfl
theorem as_copy : Cond.static arraycopyName ∈ gWs := gIn 559 (by decide +kernel) rfl
theorem ai_copy : Cond.initialized "java/lang/System" ∈ gWs := gIn 87 (by decide +kernel) rfl
theorem flX7_18 : gFld RX7 18 7 6 := ⟨RX7, TX7, 10, rfl, inGX7, by decide, gIn 251 (by decide +kernel) rfl, rfl⟩
theorem flX7_40 : gFld RX7 40 6 0 := ⟨RX6, TX6, 5, rfl, inGX6, by decide, gIn 123 (by decide +kernel) rfl, rfl⟩
set_option maxRecDepth 100000 in
theorem cw_X8_union : Cond.code yX8_union cX8_union 4 (some .long) ∈ gWs := gIn 563 (rfl) rfl
theorem lkX7_49 : gLinkN RX7 49 yX8_union cX8_union 4 (some .long) 1 := ⟨by decide +kernel, gIn 562 (by decide +kernel) rfl, gIn 70 (by decide +kernel) rfl, cw_X8_union, by unfold gYok; decide +kernel⟩
theorem lkX7_155 : gLinkN RX7 155 yX8_isAt cX8_isAt 3 (some .boolean) 2 := ⟨by decide +kernel, gIn 493 (by decide +kernel) rfl, gIn 70 (by decide +kernel) rfl, cw_X8_isAt, by unfold gYok; decide +kernel⟩
theorem lkX7_151 : gLinkV RX7 151 yX7_setterBehind cX7_setterBehind 3 (some .int) 2 := ⟨gIn 620 (by decide +kernel) rfl, gIn 612 (by decide +kernel) rfl, gIn 613 (by decide +kernel) rfl, gIn 77 (by decide +kernel) rfl, cw_X7_setterBehind, by unfold gYok; decide +kernel⟩
theorem flX8_18 : gFld RX8 18 8 1 := ⟨RX8, TX8, 14, rfl, inGX8, by decide, gIn 299 (by decide +kernel) rfl, rfl⟩
theorem flX8_14 : gFld RX8 14 8 0 := ⟨RX8, TX8, 14, rfl, inGX8, by decide, gIn 298 (by decide +kernel) rfl, rfl⟩
theorem flX8_31 : gFld RX8 31 8 3 := ⟨RX8, TX8, 14, rfl, inGX8, by decide, gIn 301 (by decide +kernel) rfl, rfl⟩
set_option maxRecDepth 100000 in
theorem cw_X2_tell : Cond.code yX2_tell cX2_tell 3 none ∈ gWs := gIn 377 (rfl) rfl
theorem lkX8_353 : gLinkV RX8 353 yX2_tell cX2_tell 3 none 1 := ⟨gIn 374 (by decide +kernel) rfl, gIn 375 (by decide +kernel) rfl, gIn 376 (by decide +kernel) rfl, gIn 73 (by decide +kernel) rfl, cw_X2_tell, by unfold gYok; decide +kernel⟩
theorem fpX8_81 : gFldP RX8 81 8 12 .boolean := ⟨RX8, TX8, 14, tyX8, rfl, inGX8, by decide, gIn 310 (by decide +kernel) rfl, rfl, tyX8_ok, nmX8, rfl, by decide⟩
theorem flX8_24 : gFld RX8 24 8 2 := ⟨RX8, TX8, 14, rfl, inGX8, by decide, gIn 300 (by decide +kernel) rfl, rfl⟩
set_option maxRecDepth 100000 in
theorem cw_X6_tell : Cond.code yX6_tell cX6_tell 2 none ∈ gWs := gIn 362 (rfl) rfl
theorem lkX8_349 : gLinkV RX8 349 yX6_tell cX6_tell 2 none 1 := ⟨gIn 359 (by decide +kernel) rfl, gIn 360 (by decide +kernel) rfl, gIn 361 (by decide +kernel) rfl, gIn 72 (by decide +kernel) rfl, cw_X6_tell, by unfold gYok; decide +kernel⟩
set_option maxRecDepth 100000 in
theorem cw_X8_isEither : Cond.code yX8_isEither cX8_isEither 1 (some .boolean) ∈ gWs := gIn 347 (rfl) rfl
theorem lkX8_90 : gLinkS RX8 90 yX8_isEither cX8_isEither 1 (some .boolean) 1 := ⟨gIn 345 (by decide +kernel) rfl, gIn 346 (by decide +kernel) rfl, gIn 70 (by decide +kernel) rfl, cw_X8_isEither, by unfold gYok; decide +kernel⟩
set_option maxRecDepth 100000 in
theorem cw_X8_textOf : Cond.code yX8_textOf cX8_textOf 2 (some (.object "WallHands$Text")) ∈ gWs := gIn 354 (rfl) rfl
theorem lkX8_98 : gLinkV RX8 98 yX8_textOf cX8_textOf 2 (some (.object "WallHands$Text")) 1 := ⟨gIn 351 (by decide +kernel) rfl, gIn 353 (by decide +kernel) rfl, gIn 0 (by decide +kernel) rfl, gIn 70 (by decide +kernel) rfl, cw_X8_textOf, by unfold gYok; decide +kernel⟩
theorem flX8_102 : gFld RX8 102 5 1 := ⟨RX5, TX5, 2, rfl, inGX5, by decide, gIn 107 (by decide +kernel) rfl, rfl⟩
theorem flX8_105 : gFld RX8 105 5 0 := ⟨RX5, TX5, 2, rfl, inGX5, by decide, gIn 104 (by decide +kernel) rfl, rfl⟩
theorem fpX8_102 : gFldP RX8 102 5 1 .int := ⟨RX5, TX5, 2, tyX5, rfl, inGX5, by decide, gIn 107 (by decide +kernel) rfl, rfl, tyX5_ok, nmX5, rfl, by decide⟩
set_option maxRecDepth 100000 in
theorem cw_X8_retell : Cond.code yX8_retell cX8_retell 2 none ∈ gWs := gIn 358 (rfl) rfl
theorem lkX8_108 : gLinkV RX8 108 yX8_retell cX8_retell 2 none 1 := ⟨gIn 355 (by decide +kernel) rfl, gIn 357 (by decide +kernel) rfl, gIn 1 (by decide +kernel) rfl, gIn 70 (by decide +kernel) rfl, cw_X8_retell, by unfold gYok; decide +kernel⟩
theorem flX8_114 : gFld RX8 114 2 3 := ⟨RX2, TX2, 4, rfl, inGX2, by decide, gIn 163 (by decide +kernel) rfl, rfl⟩
theorem flX8_111 : gFld RX8 111 6 3 := ⟨RX6, TX6, 5, rfl, inGX6, by decide, gIn 131 (by decide +kernel) rfl, rfl⟩
set_option maxRecDepth 100000 in
theorem cw_X8_isPlace : Cond.code yX8_isPlace cX8_isPlace 2 (some .boolean) ∈ gWs := gIn 488 (rfl) rfl
theorem lkX8_115 : gLinkS RX8 115 yX8_isPlace cX8_isPlace 2 (some .boolean) 2 := ⟨gIn 486 (by decide +kernel) rfl, gIn 487 (by decide +kernel) rfl, gIn 70 (by decide +kernel) rfl, cw_X8_isPlace, by unfold gYok; decide +kernel⟩
theorem flX8_119 : gFld RX8 119 6 0 := ⟨RX6, TX6, 5, rfl, inGX6, by decide, gIn 124 (by decide +kernel) rfl, rfl⟩
theorem lkX8_123 : gLinkS RX8 123 yX8_setterAt cX8_setterAt 4 (some .int) 3 := ⟨gIn 489 (by decide +kernel) rfl, gIn 490 (by decide +kernel) rfl, gIn 70 (by decide +kernel) rfl, cw_X8_setterAt, by unfold gYok; decide +kernel⟩
set_option maxRecDepth 100000 in
theorem cw_X2_has : Cond.code yX2_has cX2_has 2 (some .boolean) ∈ gWs := gIn 502 (rfl) rfl
theorem lkX8_127 : gLinkV RX8 127 yX2_has cX2_has 2 (some .boolean) 1 := ⟨gIn 499 (by decide +kernel) rfl, gIn 500 (by decide +kernel) rfl, gIn 501 (by decide +kernel) rfl, gIn 73 (by decide +kernel) rfl, cw_X2_has, by unfold gYok; decide +kernel⟩
theorem flX8_133 : gFld RX8 133 2 1 := ⟨RX2, TX2, 4, rfl, inGX2, by decide, gIn 158 (by decide +kernel) rfl, rfl⟩
theorem flX8_130 : gFld RX8 130 2 0 := ⟨RX2, TX2, 4, rfl, inGX2, by decide, gIn 155 (by decide +kernel) rfl, rfl⟩
theorem flX8_136 : gFld RX8 136 6 4 := ⟨RX6, TX6, 5, rfl, inGX6, by decide, gIn 133 (by decide +kernel) rfl, rfl⟩
theorem fpX8_136 : gFldP RX8 136 6 4 .int := ⟨RX6, TX6, 5, tyX6, rfl, inGX6, by decide, gIn 133 (by decide +kernel) rfl, rfl, tyX6_ok, nmX6, rfl, by decide⟩
set_option maxRecDepth 100000 in
theorem cw_X0_mayBe : Cond.code yX0_mayBe cX0_mayBe 2 (some .boolean) ∈ gWs := gIn 513 (rfl) rfl
theorem lkX8_139 : gLinkS RX8 139 yX0_mayBe cX0_mayBe 2 (some .boolean) 2 := ⟨gIn 511 (by decide +kernel) rfl, gIn 512 (by decide +kernel) rfl, gIn 74 (by decide +kernel) rfl, cw_X0_mayBe, by unfold gYok; decide +kernel⟩
theorem flX8_38 : gFld RX8 38 8 4 := ⟨RX8, TX8, 14, rfl, inGX8, by decide, gIn 302 (by decide +kernel) rfl, rfl⟩
theorem flX8_142 : gFld RX8 142 0 2 := ⟨RX0, TX0, 3, rfl, inGX0, by decide, gIn 185 (by decide +kernel) rfl, rfl⟩
set_option maxRecDepth 100000 in
theorem cw_X0_add : Cond.code yX0_add cX0_add 3 none ∈ gWs := gIn 521 (rfl) rfl
theorem lkX8_144 : gLinkV RX8 144 yX0_add cX0_add 3 none 2 := ⟨gIn 518 (by decide +kernel) rfl, gIn 519 (by decide +kernel) rfl, gIn 520 (by decide +kernel) rfl, gIn 74 (by decide +kernel) rfl, cw_X0_add, by unfold gYok; decide +kernel⟩
theorem lkX8_148 : gLinkS RX8 148 yX8_isYear cX8_isYear 1 (some .boolean) 1 := ⟨gIn 526 (by decide +kernel) rfl, gIn 515 (by decide +kernel) rfl, gIn 70 (by decide +kernel) rfl, cw_X8_isYear, by unfold gYok; decide +kernel⟩
theorem flX8_48 : gFld RX8 48 8 6 := ⟨RX8, TX8, 14, rfl, inGX8, by decide, gIn 304 (by decide +kernel) rfl, rfl⟩
theorem flX8_151 : gFld RX8 151 1 3 := ⟨RX1, TX1, 4, rfl, inGX1, by decide, gIn 207 (by decide +kernel) rfl, rfl⟩
set_option maxRecDepth 100000 in
theorem cw_X1_add : Cond.code yX1_add cX1_add 4 none ∈ gWs := gIn 530 (rfl) rfl
theorem lkX8_152 : gLinkV RX8 152 yX1_add cX1_add 4 none 3 := ⟨gIn 527 (by decide +kernel) rfl, gIn 528 (by decide +kernel) rfl, gIn 529 (by decide +kernel) rfl, gIn 75 (by decide +kernel) rfl, cw_X1_add, by unfold gYok; decide +kernel⟩
theorem fpX8_151 : gFldP RX8 151 1 3 .int := ⟨RX1, TX1, 4, tyX1, rfl, inGX1, by decide, gIn 207 (by decide +kernel) rfl, rfl, tyX1_ok, nmX1, rfl, by decide⟩
theorem fpX8_142 : gFldP RX8 142 0 2 .int := ⟨RX0, TX0, 3, tyX0, rfl, inGX0, by decide, gIn 185 (by decide +kernel) rfl, rfl, tyX0_ok, nmX0, rfl, by decide⟩
theorem fpX8_85 : gFldP RX8 85 8 13 .int := ⟨RX8, TX8, 14, tyX8, rfl, inGX8, by decide, gIn 311 (by decide +kernel) rfl, rfl, tyX8_ok, nmX8, rfl, by decide⟩
theorem flX8_165 : gFld RX8 165 3 2 := ⟨RX3, TX3, 3, rfl, inGX3, by decide, gIn 290 (by decide +kernel) rfl, rfl⟩
theorem flX8_168 : gFld RX8 168 3 0 := ⟨RX3, TX3, 3, rfl, inGX3, by decide, gIn 286 (by decide +kernel) rfl, rfl⟩
set_option maxRecDepth 100000 in
theorem cw_X8_isSheet : Cond.code yX8_isSheet cX8_isSheet 1 (some .boolean) ∈ gWs := gIn 541 (rfl) rfl
theorem lkX8_155 : gLinkS RX8 155 yX8_isSheet cX8_isSheet 1 (some .boolean) 1 := ⟨gIn 539 (by decide +kernel) rfl, gIn 540 (by decide +kernel) rfl, gIn 70 (by decide +kernel) rfl, cw_X8_isSheet, by unfold gYok; decide +kernel⟩
theorem flX8_61 : gFld RX8 61 8 8 := ⟨RX8, TX8, 14, rfl, inGX8, by decide, gIn 306 (by decide +kernel) rfl, rfl⟩
theorem flX8_158 : gFld RX8 158 3 1 := ⟨RX3, TX3, 3, rfl, inGX3, by decide, gIn 288 (by decide +kernel) rfl, rfl⟩
set_option maxRecDepth 100000 in
theorem cw_X8_found : Cond.code yX8_found cX8_found 2 (some .int) ∈ gWs := gIn 545 (rfl) rfl
theorem lkX8_161 : gLinkV RX8 161 yX8_found cX8_found 2 (some .int) 1 := ⟨gIn 542 (by decide +kernel) rfl, gIn 544 (by decide +kernel) rfl, gIn 3 (by decide +kernel) rfl, gIn 70 (by decide +kernel) rfl, cw_X8_found, by unfold gYok; decide +kernel⟩
theorem flX8_81 : gFld RX8 81 8 12 := ⟨RX8, TX8, 14, rfl, inGX8, by decide, gIn 310 (by decide +kernel) rfl, rfl⟩
theorem flX8_70 : gFld RX8 70 8 9 := ⟨RX8, TX8, 14, rfl, inGX8, by decide, gIn 307 (by decide +kernel) rfl, rfl⟩
set_option maxRecDepth 100000 in
theorem cw_X7_run : Cond.code yX7_run cX7_run 6 none ∈ gWs := gIn 557 (rfl) rfl
theorem lkX8_205 : gLinkV RX8 205 yX7_run cX7_run 6 none 2 := ⟨gIn 554 (by decide +kernel) rfl, gIn 555 (by decide +kernel) rfl, gIn 556 (by decide +kernel) rfl, gIn 77 (by decide +kernel) rfl, cw_X7_run, by unfold gYok; decide +kernel⟩
set_option maxRecDepth 100000 in
theorem cw_X8_asTold : Cond.code yX8_asTold cX8_asTold 1 (some (.object "WallHands$Years")) ∈ gWs := gIn 553 (rfl) rfl
theorem lkX8_171 : gLinkV RX8 171 yX8_asTold cX8_asTold 1 (some (.object "WallHands$Years")) 0 := ⟨gIn 550 (by decide +kernel) rfl, gIn 552 (by decide +kernel) rfl, gIn 4 (by decide +kernel) rfl, gIn 70 (by decide +kernel) rfl, cw_X8_asTold, by unfold gYok; decide +kernel⟩
set_option maxRecDepth 100000 in
theorem cw_X7_holdBehind : Cond.code yX7_holdBehind cX7_holdBehind 6 (some .int) ∈ gWs := gIn 619 (rfl) rfl
theorem lkX8_179 : gLinkV RX8 179 yX7_holdBehind cX7_holdBehind 6 (some .int) 2 := ⟨gIn 616 (by decide +kernel) rfl, gIn 617 (by decide +kernel) rfl, gIn 618 (by decide +kernel) rfl, gIn 77 (by decide +kernel) rfl, cw_X7_holdBehind, by unfold gYok; decide +kernel⟩
theorem lkX8_175 : gLinkV RX8 175 yX7_setterBehind cX7_setterBehind 3 (some .int) 2 := ⟨gIn 611 (by decide +kernel) rfl, gIn 612 (by decide +kernel) rfl, gIn 613 (by decide +kernel) rfl, gIn 77 (by decide +kernel) rfl, cw_X7_setterBehind, by unfold gYok; decide +kernel⟩
theorem flX8_182 : gFld RX8 182 6 2 := ⟨RX6, TX6, 5, rfl, inGX6, by decide, gIn 129 (by decide +kernel) rfl, rfl⟩
theorem flX8_188 : gFld RX8 188 7 7 := ⟨RX7, TX7, 10, rfl, inGX7, by decide, gIn 254 (by decide +kernel) rfl, rfl⟩
set_option maxRecDepth 100000 in
theorem cw_X7_highBehind : Cond.code yX7_highBehind cX7_highBehind 3 (some .int) ∈ gWs := gIn 629 (rfl) rfl
theorem lkX8_185 : gLinkV RX8 185 yX7_highBehind cX7_highBehind 3 (some .int) 2 := ⟨gIn 626 (by decide +kernel) rfl, gIn 627 (by decide +kernel) rfl, gIn 628 (by decide +kernel) rfl, gIn 77 (by decide +kernel) rfl, cw_X7_highBehind, by unfold gYok; decide +kernel⟩
theorem flX8_191 : gFld RX8 191 7 8 := ⟨RX7, TX7, 10, rfl, inGX7, by decide, gIn 256 (by decide +kernel) rfl, rfl⟩
set_option maxRecDepth 100000 in
theorem cw_X7_openYears : Cond.code yX7_openYears cX7_openYears 3 (some .int) ∈ gWs := gIn 645 (rfl) rfl
theorem lkX8_198 : gLinkV RX8 198 yX7_openYears cX7_openYears 3 (some .int) 0 := ⟨gIn 642 (by decide +kernel) rfl, gIn 643 (by decide +kernel) rfl, gIn 644 (by decide +kernel) rfl, gIn 77 (by decide +kernel) rfl, cw_X7_openYears, by unfold gYok; decide +kernel⟩
set_option maxRecDepth 100000 in
theorem cw_X7_firstOpenYear : Cond.code yX7_firstOpenYear cX7_firstOpenYear 2 (some .int) ∈ gWs := gIn 641 (rfl) rfl
theorem lkX8_194 : gLinkV RX8 194 yX7_firstOpenYear cX7_firstOpenYear 2 (some .int) 0 := ⟨gIn 638 (by decide +kernel) rfl, gIn 639 (by decide +kernel) rfl, gIn 640 (by decide +kernel) rfl, gIn 77 (by decide +kernel) rfl, cw_X7_firstOpenYear, by unfold gYok; decide +kernel⟩
set_option maxRecDepth 100000 in
theorem cw_X7_lastingOf : Cond.code yX7_lastingOf cX7_lastingOf 2 (some .int) ∈ gWs := gIn 653 (rfl) rfl
theorem lkX8_201 : gLinkV RX8 201 yX7_lastingOf cX7_lastingOf 2 (some .int) 1 := ⟨gIn 650 (by decide +kernel) rfl, gIn 651 (by decide +kernel) rfl, gIn 652 (by decide +kernel) rfl, gIn 77 (by decide +kernel) rfl, cw_X7_lastingOf, by unfold gYok; decide +kernel⟩
theorem flX8_204 : gFld RX8 204 2 2 := ⟨RX2, TX2, 4, rfl, inGX2, by decide, gIn 161 (by decide +kernel) rfl, rfl⟩
theorem flX8_74 : gFld RX8 74 8 10 := ⟨RX8, TX8, 14, rfl, inGX8, by decide, gIn 308 (by decide +kernel) rfl, rfl⟩
theorem flX8_209 : gFld RX8 209 7 9 := ⟨RX7, TX7, 10, rfl, inGX7, by decide, gIn 258 (by decide +kernel) rfl, rfl⟩
set_option maxRecDepth 100000 in
theorem cw_X6_passOn : Cond.code yX6_passOn cX6_passOn 4 none ∈ gWs := gIn 673 (rfl) rfl
theorem lkX8_212 : gLinkV RX8 212 yX6_passOn cX6_passOn 4 none 3 := ⟨gIn 670 (by decide +kernel) rfl, gIn 671 (by decide +kernel) rfl, gIn 672 (by decide +kernel) rfl, gIn 72 (by decide +kernel) rfl, cw_X6_passOn, by unfold gYok; decide +kernel⟩
set_option maxRecDepth 100000 in
theorem cw_X7_allFallen : Cond.code yX7_allFallen cX7_allFallen 3 (some .int) ∈ gWs := gIn 678 (rfl) rfl
theorem lkX8_215 : gLinkV RX8 215 yX7_allFallen cX7_allFallen 3 (some .int) 0 := ⟨gIn 675 (by decide +kernel) rfl, gIn 676 (by decide +kernel) rfl, gIn 677 (by decide +kernel) rfl, gIn 77 (by decide +kernel) rfl, cw_X7_allFallen, by unfold gYok; decide +kernel⟩
theorem lkX8_218 : gLinkS RX8 218 yX8_union cX8_union 4 (some .long) 1 := ⟨gIn 683 (by decide +kernel) rfl, gIn 562 (by decide +kernel) rfl, gIn 70 (by decide +kernel) rfl, cw_X8_union, by unfold gYok; decide +kernel⟩
theorem lkX8_222 : gLinkS RX8 222 yX8_borneOf cX8_borneOf 9 (some .long) 1 := ⟨gIn 684 (by decide +kernel) rfl, gIn 585 (by decide +kernel) rfl, gIn 70 (by decide +kernel) rfl, cw_X8_borneOf, by unfold gYok; decide +kernel⟩
theorem lkX8_228 : gLinkS RX8 228 yJ13_bitCount_95d88 cJ13_bitCount_95d88 2 (some .int) 1 := ⟨gIn 685 (by decide +kernel) rfl, gIn 593 (by decide +kernel) rfl, gIn 88 (by decide +kernel) rfl, cw_J13_bitCount_95d88, by unfold gYok; decide +kernel⟩
set_option maxRecDepth 100000 in
theorem cw_X4_add : Cond.code yX4_add cX4_add 4 none ∈ gWs := gIn 693 (rfl) rfl
theorem lkX8_235 : gLinkV RX8 235 yX4_add cX4_add 4 none 3 := ⟨gIn 690 (by decide +kernel) rfl, gIn 691 (by decide +kernel) rfl, gIn 692 (by decide +kernel) rfl, gIn 76 (by decide +kernel) rfl, cw_X4_add, by unfold gYok; decide +kernel⟩
theorem flX8_55 : gFld RX8 55 8 7 := ⟨RX8, TX8, 14, rfl, inGX8, by decide, gIn 305 (by decide +kernel) rfl, rfl⟩
theorem flX8_234 : gFld RX8 234 4 3 := ⟨RX4, TX4, 4, rfl, inGX4, by decide, gIn 227 (by decide +kernel) rfl, rfl⟩
theorem fpX8_234 : gFldP RX8 234 4 3 .int := ⟨RX4, TX4, 4, tyX4, rfl, inGX4, by decide, gIn 227 (by decide +kernel) rfl, rfl, tyX4_ok, nmX4, rfl, by decide⟩
set_option maxRecDepth 100000 in
theorem cw_X4_comeOutIn : Cond.code yX4_comeOutIn cX4_comeOutIn 3 (some .boolean) ∈ gWs := gIn 705 (rfl) rfl
theorem lkX8_236 : gLinkV RX8 236 yX4_comeOutIn cX4_comeOutIn 3 (some .boolean) 1 := ⟨gIn 702 (by decide +kernel) rfl, gIn 703 (by decide +kernel) rfl, gIn 704 (by decide +kernel) rfl, gIn 76 (by decide +kernel) rfl, cw_X4_comeOutIn, by unfold gYok; decide +kernel⟩
theorem mlX8_354 : Cond.methodLink RX8 354 Lib.Math.max.name ∈ gWs := gIn 723 (by decide +kernel) rfl
theorem flX8_77 : gFld RX8 77 8 11 := ⟨RX8, TX8, 14, rfl, inGX8, by decide, gIn 309 (by decide +kernel) rfl, rfl⟩
set_option maxRecDepth 100000 in
theorem cw_X8_mostAlike : Cond.code yX8_mostAlike cX8_mostAlike 7 (some .int) ∈ gWs := gIn 722 (rfl) rfl
theorem lkX8_244 : gLinkV RX8 244 yX8_mostAlike cX8_mostAlike 7 (some .int) 2 := ⟨gIn 719 (by decide +kernel) rfl, gIn 721 (by decide +kernel) rfl, gIn 12 (by decide +kernel) rfl, gIn 70 (by decide +kernel) rfl, cw_X8_mostAlike, by unfold gYok; decide +kernel⟩
set_option maxRecDepth 100000 in
theorem cw_X7_tallyInto : Cond.code yX7_tallyInto cX7_tallyInto 4 none ∈ gWs := gIn 718 (rfl) rfl
theorem lkX8_240 : gLinkV RX8 240 yX7_tallyInto cX7_tallyInto 4 none 2 := ⟨gIn 715 (by decide +kernel) rfl, gIn 716 (by decide +kernel) rfl, gIn 717 (by decide +kernel) rfl, gIn 77 (by decide +kernel) rfl, cw_X7_tallyInto, by unfold gYok; decide +kernel⟩
set_option maxRecDepth 100000 in
theorem cw_X8_waysOf : Cond.code yX8_waysOf cX8_waysOf 6 (some .long) ∈ gWs := gIn 732 (rfl) rfl
theorem lkX8_249 : gLinkV RX8 249 yX8_waysOf cX8_waysOf 6 (some .long) 2 := ⟨gIn 729 (by decide +kernel) rfl, gIn 731 (by decide +kernel) rfl, gIn 13 (by decide +kernel) rfl, gIn 70 (by decide +kernel) rfl, cw_X8_waysOf, by unfold gYok; decide +kernel⟩
theorem kX8_247 : Cond.constantLong RX8 247 (-9223372036854775806) ∈ gWs := gIn 728 (by decide +kernel) rfl
theorem kX8_357 : Cond.constant RX8 357 (1103515245) ∈ gWs := gIn 740 (by decide +kernel) rfl
theorem flX8_42 : gFld RX8 42 8 5 := ⟨RX8, TX8, 14, rfl, inGX8, by decide, gIn 303 (by decide +kernel) rfl, rfl⟩
theorem flX8_256 : gFld RX8 256 7 6 := ⟨RX7, TX7, 10, rfl, inGX7, by decide, gIn 252 (by decide +kernel) rfl, rfl⟩
set_option maxRecDepth 100000 in
theorem cw_X8_nextSeed : Cond.code yX8_nextSeed cX8_nextSeed 1 (some .int) ∈ gWs := gIn 739 (rfl) rfl
theorem lkX8_253 : gLinkS RX8 253 yX8_nextSeed cX8_nextSeed 1 (some .int) 1 := ⟨gIn 737 (by decide +kernel) rfl, gIn 738 (by decide +kernel) rfl, gIn 70 (by decide +kernel) rfl, cw_X8_nextSeed, by unfold gYok; decide +kernel⟩
set_option maxRecDepth 100000 in
theorem cw_X8_isForm : Cond.code yX8_isForm cX8_isForm 1 (some .boolean) ∈ gWs := gIn 747 (rfl) rfl
theorem lkX8_259 : gLinkS RX8 259 yX8_isForm cX8_isForm 1 (some .boolean) 1 := ⟨gIn 745 (by decide +kernel) rfl, gIn 746 (by decide +kernel) rfl, gIn 70 (by decide +kernel) rfl, cw_X8_isForm, by unfold gYok; decide +kernel⟩
set_option maxRecDepth 100000 in
theorem cw_J7_fill_53178 : Cond.code yJ7_fill_53178 cJ7_fill_53178 4 none ∈ gWs := gIn 750 (rfl) rfl
theorem lkX8_262 : gLinkS RX8 262 yJ7_fill_53178 cJ7_fill_53178 4 none 2 := ⟨gIn 748 (by decide +kernel) rfl, gIn 749 (by decide +kernel) rfl, gIn 80 (by decide +kernel) rfl, cw_J7_fill_53178, by unfold gYok; decide +kernel⟩
theorem fpX8_158 : gFldP RX8 158 3 1 .int := ⟨RX3, TX3, 3, tyX3, rfl, inGX3, by decide, gIn 288 (by decide +kernel) rfl, rfl, tyX3_ok, nmX3, rfl, by decide⟩
theorem fpX8_165 : gFldP RX8 165 3 2 .int := ⟨RX3, TX3, 3, tyX3, rfl, inGX3, by decide, gIn 290 (by decide +kernel) rfl, rfl, tyX3_ok, nmX3, rfl, by decide⟩
set_option maxRecDepth 100000 in
theorem cw_X3_findingAt : Cond.code yX3_findingAt cX3_findingAt 3 (some .int) ∈ gWs := gIn 762 (rfl) rfl
theorem lkX8_267 : gLinkV RX8 267 yX3_findingAt cX3_findingAt 3 (some .int) 2 := ⟨gIn 759 (by decide +kernel) rfl, gIn 760 (by decide +kernel) rfl, gIn 761 (by decide +kernel) rfl, gIn 78 (by decide +kernel) rfl, cw_X3_findingAt, by unfold gYok; decide +kernel⟩
theorem kX8_272 : Cond.constant RX8 272 (-2147483648) ∈ gWs := gIn 768 (by decide +kernel) rfl
set_option maxRecDepth 100000 in
theorem cw_X3_hasItems : Cond.code yX3_hasItems cX3_hasItems 3 (some .boolean) ∈ gWs := gIn 776 (rfl) rfl
theorem lkX8_273 : gLinkV RX8 273 yX3_hasItems cX3_hasItems 3 (some .boolean) 2 := ⟨gIn 773 (by decide +kernel) rfl, gIn 774 (by decide +kernel) rfl, gIn 775 (by decide +kernel) rfl, gIn 78 (by decide +kernel) rfl, cw_X3_hasItems, by unfold gYok; decide +kernel⟩
theorem alX8_276 : Cond.methodLink RX8 276 arraycopyName ∈ gWs := gIn 777 (by decide +kernel) rfl
theorem mlX8_282 : Cond.methodLink RX8 282 Lib.Math.min.name ∈ gWs := gIn 782 (by decide +kernel) rfl
theorem flX8_85 : gFld RX8 85 8 13 := ⟨RX8, TX8, 14, rfl, inGX8, by decide, gIn 311 (by decide +kernel) rfl, rfl⟩
theorem kX8_289 : Cond.constantLong RX8 289 (31) ∈ gWs := gIn 792 (by decide +kernel) rfl
set_option maxRecDepth 100000 in
theorem cw_X8_sheep : Cond.code yX8_sheep cX8_sheep 3 (some .int) ∈ gWs := gIn 637 (rfl) rfl
theorem lkX8_331 : gLinkV RX8 331 yX8_sheep cX8_sheep 3 (some .int) 1 := ⟨gIn 806 (by decide +kernel) rfl, gIn 635 (by decide +kernel) rfl, gIn 636 (by decide +kernel) rfl, gIn 70 (by decide +kernel) rfl, cw_X8_sheep, by unfold gYok; decide +kernel⟩
set_option maxRecDepth 100000 in
theorem cw_X8_best : Cond.code yX8_best cX8_best 6 (some .int) ∈ gWs := gIn 657 (rfl) rfl
theorem lkX8_334 : gLinkV RX8 334 yX8_best cX8_best 6 (some .int) 0 := ⟨gIn 807 (by decide +kernel) rfl, gIn 655 (by decide +kernel) rfl, gIn 656 (by decide +kernel) rfl, gIn 70 (by decide +kernel) rfl, cw_X8_best, by unfold gYok; decide +kernel⟩
set_option maxRecDepth 100000 in
theorem cw_X8_mend : Cond.code yX8_mend cX8_mend 9 (some .int) ∈ gWs := gIn 661 (rfl) rfl
theorem lkX8_337 : gLinkV RX8 337 yX8_mend cX8_mend 9 (some .int) 2 := ⟨gIn 808 (by decide +kernel) rfl, gIn 659 (by decide +kernel) rfl, gIn 660 (by decide +kernel) rfl, gIn 70 (by decide +kernel) rfl, cw_X8_mend, by unfold gYok; decide +kernel⟩
set_option maxRecDepth 100000 in
theorem cw_X8_never : Cond.code yX8_never cX8_never 3 (some .int) ∈ gWs := gIn 701 (rfl) rfl
theorem lkX8_340 : gLinkV RX8 340 yX8_never cX8_never 3 (some .int) 0 := ⟨gIn 809 (by decide +kernel) rfl, gIn 699 (by decide +kernel) rfl, gIn 700 (by decide +kernel) rfl, gIn 70 (by decide +kernel) rfl, cw_X8_never, by unfold gYok; decide +kernel⟩
set_option maxRecDepth 100000 in
theorem cw_X8_luck : Cond.code yX8_luck cX8_luck 9 (some .long) ∈ gWs := gIn 727 (rfl) rfl
theorem lkX8_343 : gLinkV RX8 343 yX8_luck cX8_luck 9 (some .long) 2 := ⟨gIn 810 (by decide +kernel) rfl, gIn 725 (by decide +kernel) rfl, gIn 726 (by decide +kernel) rfl, gIn 70 (by decide +kernel) rfl, cw_X8_luck, by unfold gYok; decide +kernel⟩
set_option maxRecDepth 100000 in
theorem cw_X8_ages : Cond.code yX8_ages cX8_ages 7 (some .int) ∈ gWs := gIn 736 (rfl) rfl
theorem lkX8_346 : gLinkV RX8 346 yX8_ages cX8_ages 7 (some .int) 3 := ⟨gIn 811 (by decide +kernel) rfl, gIn 734 (by decide +kernel) rfl, gIn 735 (by decide +kernel) rfl, gIn 70 (by decide +kernel) rfl, cw_X8_ages, by unfold gYok; decide +kernel⟩
set_option maxRecDepth 100000 in
theorem cw_X8_hand : Cond.code yX8_hand cX8_hand 3 (some .int) ∈ gWs := gIn 498 (rfl) rfl
theorem lkX8_313 : gLinkV RX8 313 yX8_hand cX8_hand 3 (some .int) 2 := ⟨gIn 800 (by decide +kernel) rfl, gIn 496 (by decide +kernel) rfl, gIn 497 (by decide +kernel) rfl, gIn 70 (by decide +kernel) rfl, cw_X8_hand, by unfold gYok; decide +kernel⟩
set_option maxRecDepth 100000 in
theorem cw_X8_mine : Cond.code yX8_mine cX8_mine 2 (some .int) ∈ gWs := gIn 649 (rfl) rfl
theorem lkX8_316 : gLinkV RX8 316 yX8_mine cX8_mine 2 (some .int) 1 := ⟨gIn 801 (by decide +kernel) rfl, gIn 647 (by decide +kernel) rfl, gIn 648 (by decide +kernel) rfl, gIn 70 (by decide +kernel) rfl, cw_X8_mine, by unfold gYok; decide +kernel⟩
set_option maxRecDepth 100000 in
theorem cw_X8_firm : Cond.code yX8_firm cX8_firm 5 (some .int) ∈ gWs := gIn 665 (rfl) rfl
theorem lkX8_319 : gLinkV RX8 319 yX8_firm cX8_firm 5 (some .int) 1 := ⟨gIn 802 (by decide +kernel) rfl, gIn 663 (by decide +kernel) rfl, gIn 664 (by decide +kernel) rfl, gIn 70 (by decide +kernel) rfl, cw_X8_firm, by unfold gYok; decide +kernel⟩
set_option maxRecDepth 100000 in
theorem cw_X8_relay : Cond.code yX8_relay cX8_relay 8 (some .int) ∈ gWs := gIn 669 (rfl) rfl
theorem lkX8_322 : gLinkV RX8 322 yX8_relay cX8_relay 8 (some .int) 2 := ⟨gIn 803 (by decide +kernel) rfl, gIn 667 (by decide +kernel) rfl, gIn 668 (by decide +kernel) rfl, gIn 70 (by decide +kernel) rfl, cw_X8_relay, by unfold gYok; decide +kernel⟩
set_option maxRecDepth 100000 in
theorem cw_X8_was : Cond.code yX8_was cX8_was 9 (some .int) ∈ gWs := gIn 710 (rfl) rfl
theorem lkX8_325 : gLinkV RX8 325 yX8_was cX8_was 9 (some .int) 2 := ⟨gIn 804 (by decide +kernel) rfl, gIn 708 (by decide +kernel) rfl, gIn 709 (by decide +kernel) rfl, gIn 70 (by decide +kernel) rfl, cw_X8_was, by unfold gYok; decide +kernel⟩
set_option maxRecDepth 100000 in
theorem cw_X8_ask : Cond.code yX8_ask cX8_ask 8 (some .int) ∈ gWs := gIn 714 (rfl) rfl
theorem lkX8_328 : gLinkV RX8 328 yX8_ask cX8_ask 8 (some .int) 1 := ⟨gIn 805 (by decide +kernel) rfl, gIn 712 (by decide +kernel) rfl, gIn 713 (by decide +kernel) rfl, gIn 70 (by decide +kernel) rfl, cw_X8_ask, by unfold gYok; decide +kernel⟩
set_option maxRecDepth 100000 in
theorem cw_X8_falls : Cond.code yX8_falls cX8_falls 2 (some .int) ∈ gWs := gIn 633 (rfl) rfl
theorem lkX8_310 : gLinkV RX8 310 yX8_falls cX8_falls 2 (some .int) 1 := ⟨gIn 799 (by decide +kernel) rfl, gIn 631 (by decide +kernel) rfl, gIn 632 (by decide +kernel) rfl, gIn 70 (by decide +kernel) rfl, cw_X8_falls, by unfold gYok; decide +kernel⟩
set_option maxRecDepth 100000 in
theorem cw_X8_column : Cond.code yX8_column cX8_column 5 (some .int) ∈ gWs := gIn 625 (rfl) rfl
theorem lkX8_306 : gLinkV RX8 306 yX8_column cX8_column 5 (some .int) 3 := ⟨gIn 798 (by decide +kernel) rfl, gIn 623 (by decide +kernel) rfl, gIn 624 (by decide +kernel) rfl, gIn 70 (by decide +kernel) rfl, cw_X8_column, by unfold gYok; decide +kernel⟩
set_option maxRecDepth 100000 in
theorem cw_X8_stone : Cond.code yX8_stone cX8_stone 3 (some .int) ∈ gWs := gIn 485 (rfl) rfl
theorem lkX8_296 : gLinkV RX8 296 yX8_stone cX8_stone 3 (some .int) 2 := ⟨gIn 795 (by decide +kernel) rfl, gIn 483 (by decide +kernel) rfl, gIn 484 (by decide +kernel) rfl, gIn 70 (by decide +kernel) rfl, cw_X8_stone, by unfold gYok; decide +kernel⟩
set_option maxRecDepth 100000 in
theorem cw_X8_at : Cond.code yX8_at cX8_at 7 (some .int) ∈ gWs := gIn 549 (rfl) rfl
theorem lkX8_299 : gLinkV RX8 299 yX8_at cX8_at 7 (some .int) 4 := ⟨gIn 796 (by decide +kernel) rfl, gIn 547 (by decide +kernel) rfl, gIn 548 (by decide +kernel) rfl, gIn 70 (by decide +kernel) rfl, cw_X8_at, by unfold gYok; decide +kernel⟩
set_option maxRecDepth 100000 in
theorem cw_X8_lift : Cond.code yX8_lift cX8_lift 9 (some .int) ∈ gWs := gIn 682 (rfl) rfl
theorem lkX8_303 : gLinkV RX8 303 yX8_lift cX8_lift 9 (some .int) 2 := ⟨gIn 797 (by decide +kernel) rfl, gIn 680 (by decide +kernel) rfl, gIn 681 (by decide +kernel) rfl, gIn 70 (by decide +kernel) rfl, cw_X8_lift, by unfold gYok; decide +kernel⟩
set_option maxRecDepth 100000 in
theorem cw_X8_fault : Cond.code yX8_fault cX8_fault 2 (some .int) ∈ gWs := gIn 481 (rfl) rfl
theorem lkX8_294 : gLinkV RX8 294 yX8_fault cX8_fault 2 (some .int) 1 := ⟨gIn 794 (by decide +kernel) rfl, gIn 479 (by decide +kernel) rfl, gIn 480 (by decide +kernel) rfl, gIn 70 (by decide +kernel) rfl, cw_X8_fault, by unfold gYok; decide +kernel⟩
set_option maxRecDepth 100000 in
theorem cw_X8_count : Cond.code yX8_count cX8_count 2 (some .int) ∈ gWs := gIn 786 (rfl) rfl
theorem lkX8_291 : gLinkV RX8 291 yX8_count cX8_count 2 (some .int) 1 := ⟨gIn 793 (by decide +kernel) rfl, gIn 784 (by decide +kernel) rfl, gIn 785 (by decide +kernel) rfl, gIn 70 (by decide +kernel) rfl, cw_X8_count, by unfold gYok; decide +kernel⟩
theorem kX8_287 : Cond.constantLong RX8 287 (17) ∈ gWs := gIn 791 (by decide +kernel) rfl
theorem kX9_105 : Cond.constantLong RX9 105 (-9223372036854775808) ∈ gWs := gIn 1287 (by decide +kernel) rfl
set_option maxRecDepth 100000 in
theorem cw_X9_in : Cond.code yX9_in cX9_in 3 (some .boolean) ∈ gWs := gIn 964 (rfl) rfl
theorem lkX9_107 : gLinkS RX9 107 yX9_in cX9_in 3 (some .boolean) 3 := ⟨gIn 962 (by decide +kernel) rfl, gIn 963 (by decide +kernel) rfl, gIn 79 (by decide +kernel) rfl, cw_X9_in, by unfold gYok; decide +kernel⟩
set_option maxRecDepth 100000 in
theorem cw_X9_isEight : Cond.code yX9_isEight cX9_isEight 1 (some .boolean) ∈ gWs := gIn 1014 (rfl) rfl
theorem lkX9_111 : gLinkS RX9 111 yX9_isEight cX9_isEight 1 (some .boolean) 1 := ⟨gIn 1012 (by decide +kernel) rfl, gIn 1013 (by decide +kernel) rfl, gIn 79 (by decide +kernel) rfl, cw_X9_isEight, by unfold gYok; decide +kernel⟩
theorem flX9_13 : gFld RX9 13 9 1 := ⟨RX9, TX9, 45, rfl, inGX9, by decide, gIn 819 (by decide +kernel) rfl, rfl⟩
theorem flX9_7 : gFld RX9 7 9 0 := ⟨RX9, TX9, 45, rfl, inGX9, by decide, gIn 818 (by decide +kernel) rfl, rfl⟩
set_option maxRecDepth 100000 in
theorem cw_X9_isText : Cond.code yX9_isText cX9_isText 1 (some .boolean) ∈ gWs := gIn 961 (rfl) rfl
theorem lkX9_115 : gLinkS RX9 115 yX9_isText cX9_isText 1 (some .boolean) 1 := ⟨gIn 959 (by decide +kernel) rfl, gIn 960 (by decide +kernel) rfl, gIn 79 (by decide +kernel) rfl, cw_X9_isText, by unfold gYok; decide +kernel⟩
theorem flX9_16 : gFld RX9 16 9 4 := ⟨RX9, TX9, 45, rfl, inGX9, by decide, gIn 822 (by decide +kernel) rfl, rfl⟩
theorem fpX9_118 : gFldP RX9 118 9 2 .int := ⟨RX9, TX9, 45, tyX9, rfl, inGX9, by decide, gIn 820 (by decide +kernel) rfl, rfl, tyX9_ok, nmX9, rfl, by decide⟩
theorem fpX9_121 : gFldP RX9 121 9 3 .int := ⟨RX9, TX9, 45, tyX9, rfl, inGX9, by decide, gIn 821 (by decide +kernel) rfl, rfl, tyX9_ok, nmX9, rfl, by decide⟩
set_option maxRecDepth 100000 in
theorem cw_X9_noWall : Cond.code yX9_noWall cX9_noWall 2 none ∈ gWs := gIn 988 (rfl) rfl
theorem lkX9_124 : gLinkV RX9 124 yX9_noWall cX9_noWall 2 none 0 := ⟨gIn 985 (by decide +kernel) rfl, gIn 987 (by decide +kernel) rfl, gIn 16 (by decide +kernel) rfl, gIn 79 (by decide +kernel) rfl, cw_X9_noWall, by unfold gYok; decide +kernel⟩
set_option maxRecDepth 100000 in
theorem cw_X9_faultOfWall : Cond.code yX9_faultOfWall cX9_faultOfWall 9 (some .int) ∈ gWs := gIn 992 (rfl) rfl
theorem lkX9_127 : gLinkV RX9 127 yX9_faultOfWall cX9_faultOfWall 9 (some .int) 0 := ⟨gIn 989 (by decide +kernel) rfl, gIn 991 (by decide +kernel) rfl, gIn 17 (by decide +kernel) rfl, gIn 79 (by decide +kernel) rfl, cw_X9_faultOfWall, by unfold gYok; decide +kernel⟩
set_option maxRecDepth 100000 in
theorem cw_X9_handByte : Cond.code yX9_handByte cX9_handByte 2 (some .int) ∈ gWs := gIn 1004 (rfl) rfl
theorem lkX9_131 : gLinkV RX9 131 yX9_handByte cX9_handByte 2 (some .int) 1 := ⟨gIn 1001 (by decide +kernel) rfl, gIn 1003 (by decide +kernel) rfl, gIn 20 (by decide +kernel) rfl, gIn 79 (by decide +kernel) rfl, cw_X9_handByte, by unfold gYok; decide +kernel⟩
theorem flX9_19 : gFld RX9 19 9 6 := ⟨RX9, TX9, 45, rfl, inGX9, by decide, gIn 824 (by decide +kernel) rfl, rfl⟩
theorem flX9_22 : gFld RX9 22 9 7 := ⟨RX9, TX9, 45, rfl, inGX9, by decide, gIn 825 (by decide +kernel) rfl, rfl⟩
set_option maxRecDepth 100000 in
theorem cw_X9_readsHand : Cond.code yX9_readsHand cX9_readsHand 6 (some .int) ∈ gWs := gIn 1000 (rfl) rfl
theorem lkX9_138 : gLinkV RX9 138 yX9_readsHand cX9_readsHand 6 (some .int) 2 := ⟨gIn 997 (by decide +kernel) rfl, gIn 999 (by decide +kernel) rfl, gIn 19 (by decide +kernel) rfl, gIn 79 (by decide +kernel) rfl, cw_X9_readsHand, by unfold gYok; decide +kernel⟩
theorem fpX9_135 : gFldP RX9 135 9 5 .int := ⟨RX9, TX9, 45, tyX9, rfl, inGX9, by decide, gIn 823 (by decide +kernel) rfl, rfl, tyX9_ok, nmX9, rfl, by decide⟩
set_option maxRecDepth 100000 in
theorem cw_X9_readsWall : Cond.code yX9_readsWall cX9_readsWall 2 (some .int) ∈ gWs := gIn 984 (rfl) rfl
theorem lkX9_142 : gLinkV RX9 142 yX9_readsWall cX9_readsWall 2 (some .int) 0 := ⟨gIn 981 (by decide +kernel) rfl, gIn 983 (by decide +kernel) rfl, gIn 15 (by decide +kernel) rfl, gIn 79 (by decide +kernel) rfl, cw_X9_readsWall, by unfold gYok; decide +kernel⟩
set_option maxRecDepth 100000 in
theorem cw_X9_readsHands : Cond.code yX9_readsHands cX9_readsHands 4 (some .int) ∈ gWs := gIn 996 (rfl) rfl
theorem lkX9_145 : gLinkV RX9 145 yX9_readsHands cX9_readsHands 4 (some .int) 0 := ⟨gIn 993 (by decide +kernel) rfl, gIn 995 (by decide +kernel) rfl, gIn 18 (by decide +kernel) rfl, gIn 79 (by decide +kernel) rfl, cw_X9_readsHands, by unfold gYok; decide +kernel⟩
set_option maxRecDepth 100000 in
theorem cw_X9_faultOf : Cond.code yX9_faultOf cX9_faultOf 4 (some .int) ∈ gWs := gIn 980 (rfl) rfl
theorem lkX9_148 : gLinkV RX9 148 yX9_faultOf cX9_faultOf 4 (some .int) 1 := ⟨gIn 977 (by decide +kernel) rfl, gIn 979 (by decide +kernel) rfl, gIn 14 (by decide +kernel) rfl, gIn 79 (by decide +kernel) rfl, cw_X9_faultOf, by unfold gYok; decide +kernel⟩
set_option maxRecDepth 100000 in
theorem cw_X9_reads : Cond.code yX9_reads cX9_reads 2 none ∈ gWs := gIn 1022 (rfl) rfl
theorem lkX9_151 : gLinkV RX9 151 yX9_reads cX9_reads 2 none 0 := ⟨gIn 1019 (by decide +kernel) rfl, gIn 1021 (by decide +kernel) rfl, gIn 22 (by decide +kernel) rfl, gIn 79 (by decide +kernel) rfl, cw_X9_reads, by unfold gYok; decide +kernel⟩
theorem flX9_135 : gFld RX9 135 9 5 := ⟨RX9, TX9, 45, rfl, inGX9, by decide, gIn 823 (by decide +kernel) rfl, rfl⟩
set_option maxRecDepth 100000 in
theorem cw_X9_isPlace : Cond.code yX9_isPlace cX9_isPlace 2 (some .boolean) ∈ gWs := gIn 1011 (rfl) rfl
theorem lkX9_154 : gLinkS RX9 154 yX9_isPlace cX9_isPlace 2 (some .boolean) 2 := ⟨gIn 1009 (by decide +kernel) rfl, gIn 1010 (by decide +kernel) rfl, gIn 79 (by decide +kernel) rfl, cw_X9_isPlace, by unfold gYok; decide +kernel⟩
set_option maxRecDepth 100000 in
theorem cw_X9_stoneOf : Cond.code yX9_stoneOf cX9_stoneOf 2 (some .int) ∈ gWs := gIn 1018 (rfl) rfl
theorem lkX9_158 : gLinkV RX9 158 yX9_stoneOf cX9_stoneOf 2 (some .int) 1 := ⟨gIn 1015 (by decide +kernel) rfl, gIn 1017 (by decide +kernel) rfl, gIn 21 (by decide +kernel) rfl, gIn 79 (by decide +kernel) rfl, cw_X9_stoneOf, by unfold gYok; decide +kernel⟩
set_option maxRecDepth 100000 in
theorem cw_X9_isHand : Cond.code yX9_isHand cX9_isHand 2 (some .boolean) ∈ gWs := gIn 1030 (rfl) rfl
theorem lkX9_161 : gLinkV RX9 161 yX9_isHand cX9_isHand 2 (some .boolean) 1 := ⟨gIn 1027 (by decide +kernel) rfl, gIn 1029 (by decide +kernel) rfl, gIn 23 (by decide +kernel) rfl, gIn 79 (by decide +kernel) rfl, cw_X9_isHand, by unfold gYok; decide +kernel⟩
set_option maxRecDepth 100000 in
theorem cw_X9_handOf : Cond.code yX9_handOf cX9_handOf 3 (some .int) ∈ gWs := gIn 1034 (rfl) rfl
theorem lkX9_164 : gLinkV RX9 164 yX9_handOf cX9_handOf 3 (some .int) 2 := ⟨gIn 1031 (by decide +kernel) rfl, gIn 1033 (by decide +kernel) rfl, gIn 24 (by decide +kernel) rfl, gIn 79 (by decide +kernel) rfl, cw_X9_handOf, by unfold gYok; decide +kernel⟩
theorem flX9_101 : gFld RX9 101 9 8 := ⟨RX9, TX9, 45, rfl, inGX9, by decide, gIn 826 (by decide +kernel) rfl, rfl⟩
theorem fpX9_101 : gFldP RX9 101 9 8 .int := ⟨RX9, TX9, 45, tyX9, rfl, inGX9, by decide, gIn 826 (by decide +kernel) rfl, rfl, tyX9_ok, nmX9, rfl, by decide⟩
set_option maxRecDepth 100000 in
theorem cw_X9_isYear : Cond.code yX9_isYear cX9_isYear 1 (some .boolean) ∈ gWs := gIn 1045 (rfl) rfl
theorem lkX9_167 : gLinkS RX9 167 yX9_isYear cX9_isYear 1 (some .boolean) 1 := ⟨gIn 1043 (by decide +kernel) rfl, gIn 1044 (by decide +kernel) rfl, gIn 79 (by decide +kernel) rfl, cw_X9_isYear, by unfold gYok; decide +kernel⟩
theorem flX9_170 : gFld RX9 170 9 9 := ⟨RX9, TX9, 45, rfl, inGX9, by decide, gIn 827 (by decide +kernel) rfl, rfl⟩
theorem flX9_25 : gFld RX9 25 9 10 := ⟨RX9, TX9, 45, rfl, inGX9, by decide, gIn 828 (by decide +kernel) rfl, rfl⟩
theorem flX9_28 : gFld RX9 28 9 11 := ⟨RX9, TX9, 45, rfl, inGX9, by decide, gIn 829 (by decide +kernel) rfl, rfl⟩
theorem fpX9_170 : gFldP RX9 170 9 9 .int := ⟨RX9, TX9, 45, tyX9, rfl, inGX9, by decide, gIn 827 (by decide +kernel) rfl, rfl, tyX9_ok, nmX9, rfl, by decide⟩
theorem flX9_173 : gFld RX9 173 9 12 := ⟨RX9, TX9, 45, rfl, inGX9, by decide, gIn 830 (by decide +kernel) rfl, rfl⟩
theorem flX9_31 : gFld RX9 31 9 13 := ⟨RX9, TX9, 45, rfl, inGX9, by decide, gIn 831 (by decide +kernel) rfl, rfl⟩
theorem flX9_34 : gFld RX9 34 9 14 := ⟨RX9, TX9, 45, rfl, inGX9, by decide, gIn 832 (by decide +kernel) rfl, rfl⟩
theorem flX9_37 : gFld RX9 37 9 15 := ⟨RX9, TX9, 45, rfl, inGX9, by decide, gIn 833 (by decide +kernel) rfl, rfl⟩
theorem fpX9_173 : gFldP RX9 173 9 12 .int := ⟨RX9, TX9, 45, tyX9, rfl, inGX9, by decide, gIn 830 (by decide +kernel) rfl, rfl, tyX9_ok, nmX9, rfl, by decide⟩
theorem fpX9_340 : gFldP RX9 340 9 44 .int := ⟨RX9, TX9, 45, tyX9, rfl, inGX9, by decide, gIn 862 (by decide +kernel) rfl, rfl, tyX9_ok, nmX9, rfl, by decide⟩
theorem flX9_92 : gFld RX9 92 9 41 := ⟨RX9, TX9, 45, rfl, inGX9, by decide, gIn 859 (by decide +kernel) rfl, rfl⟩
theorem flX9_95 : gFld RX9 95 9 42 := ⟨RX9, TX9, 45, rfl, inGX9, by decide, gIn 860 (by decide +kernel) rfl, rfl⟩
set_option maxRecDepth 100000 in
theorem cw_X9_frost : Cond.code yX9_frost cX9_frost 3 (some .int) ∈ gWs := gIn 1042 (rfl) rfl
theorem lkX9_182 : gLinkV RX9 182 yX9_frost cX9_frost 3 (some .int) 2 := ⟨gIn 1065 (by decide +kernel) rfl, gIn 1040 (by decide +kernel) rfl, gIn 1041 (by decide +kernel) rfl, gIn 79 (by decide +kernel) rfl, cw_X9_frost, by unfold gYok; decide +kernel⟩
set_option maxRecDepth 100000 in
theorem cw_X9_isSheet : Cond.code yX9_isSheet cX9_isSheet 1 (some .boolean) ∈ gWs := gIn 1060 (rfl) rfl
theorem lkX9_176 : gLinkS RX9 176 yX9_isSheet cX9_isSheet 1 (some .boolean) 1 := ⟨gIn 1058 (by decide +kernel) rfl, gIn 1059 (by decide +kernel) rfl, gIn 79 (by decide +kernel) rfl, cw_X9_isSheet, by unfold gYok; decide +kernel⟩
theorem flX9_86 : gFld RX9 86 9 39 := ⟨RX9, TX9, 45, rfl, inGX9, by decide, gIn 857 (by decide +kernel) rfl, rfl⟩
set_option maxRecDepth 100000 in
theorem cw_X9_meets : Cond.code yX9_meets cX9_meets 2 (some .int) ∈ gWs := gIn 1064 (rfl) rfl
theorem lkX9_179 : gLinkV RX9 179 yX9_meets cX9_meets 2 (some .int) 1 := ⟨gIn 1061 (by decide +kernel) rfl, gIn 1063 (by decide +kernel) rfl, gIn 25 (by decide +kernel) rfl, gIn 79 (by decide +kernel) rfl, cw_X9_meets, by unfold gYok; decide +kernel⟩
theorem fpX9_188 : gFldP RX9 188 9 20 .int := ⟨RX9, TX9, 45, tyX9, rfl, inGX9, by decide, gIn 838 (by decide +kernel) rfl, rfl, tyX9_ok, nmX9, rfl, by decide⟩
theorem fpX9_191 : gFldP RX9 191 9 21 .int := ⟨RX9, TX9, 45, tyX9, rfl, inGX9, by decide, gIn 839 (by decide +kernel) rfl, rfl, tyX9_ok, nmX9, rfl, by decide⟩
theorem flX9_43 : gFld RX9 43 9 18 := ⟨RX9, TX9, 45, rfl, inGX9, by decide, gIn 836 (by decide +kernel) rfl, rfl⟩
theorem flX9_46 : gFld RX9 46 9 19 := ⟨RX9, TX9, 45, rfl, inGX9, by decide, gIn 837 (by decide +kernel) rfl, rfl⟩
theorem fpX9_185 : gFldP RX9 185 9 17 .int := ⟨RX9, TX9, 45, tyX9, rfl, inGX9, by decide, gIn 835 (by decide +kernel) rfl, rfl, tyX9_ok, nmX9, rfl, by decide⟩
theorem flX9_118 : gFld RX9 118 9 2 := ⟨RX9, TX9, 45, rfl, inGX9, by decide, gIn 820 (by decide +kernel) rfl, rfl⟩
theorem flX9_121 : gFld RX9 121 9 3 := ⟨RX9, TX9, 45, rfl, inGX9, by decide, gIn 821 (by decide +kernel) rfl, rfl⟩
theorem flX9_40 : gFld RX9 40 9 16 := ⟨RX9, TX9, 45, rfl, inGX9, by decide, gIn 834 (by decide +kernel) rfl, rfl⟩
set_option maxRecDepth 100000 in
theorem cw_X9_handNow : Cond.code yX9_handNow cX9_handNow 3 (some .int) ∈ gWs := gIn 1104 (rfl) rfl
theorem lkX9_194 : gLinkV RX9 194 yX9_handNow cX9_handNow 3 (some .int) 2 := ⟨gIn 1101 (by decide +kernel) rfl, gIn 1103 (by decide +kernel) rfl, gIn 33 (by decide +kernel) rfl, gIn 79 (by decide +kernel) rfl, cw_X9_handNow, by unfold gYok; decide +kernel⟩
set_option maxRecDepth 100000 in
theorem cw_X9_isLover : Cond.code yX9_isLover cX9_isLover 2 (some .boolean) ∈ gWs := gIn 1124 (rfl) rfl
theorem lkX9_197 : gLinkV RX9 197 yX9_isLover cX9_isLover 2 (some .boolean) 1 := ⟨gIn 1121 (by decide +kernel) rfl, gIn 1123 (by decide +kernel) rfl, gIn 38 (by decide +kernel) rfl, gIn 79 (by decide +kernel) rfl, cw_X9_isLover, by unfold gYok; decide +kernel⟩
set_option maxRecDepth 100000 in
theorem cw_X9_loves : Cond.code yX9_loves cX9_loves 3 (some .boolean) ∈ gWs := gIn 1120 (rfl) rfl
theorem lkX9_206 : gLinkV RX9 206 yX9_loves cX9_loves 3 (some .boolean) 2 := ⟨gIn 1117 (by decide +kernel) rfl, gIn 1119 (by decide +kernel) rfl, gIn 37 (by decide +kernel) rfl, gIn 79 (by decide +kernel) rfl, cw_X9_loves, by unfold gYok; decide +kernel⟩
set_option maxRecDepth 100000 in
theorem cw_X9_alike : Cond.code yX9_alike cX9_alike 3 (some .int) ∈ gWs := gIn 1112 (rfl) rfl
theorem lkX9_200 : gLinkV RX9 200 yX9_alike cX9_alike 3 (some .int) 2 := ⟨gIn 1109 (by decide +kernel) rfl, gIn 1111 (by decide +kernel) rfl, gIn 35 (by decide +kernel) rfl, gIn 79 (by decide +kernel) rfl, cw_X9_alike, by unfold gYok; decide +kernel⟩
set_option maxRecDepth 100000 in
theorem cw_X9_unlike : Cond.code yX9_unlike cX9_unlike 3 (some .int) ∈ gWs := gIn 1116 (rfl) rfl
theorem lkX9_203 : gLinkV RX9 203 yX9_unlike cX9_unlike 3 (some .int) 2 := ⟨gIn 1113 (by decide +kernel) rfl, gIn 1115 (by decide +kernel) rfl, gIn 36 (by decide +kernel) rfl, gIn 79 (by decide +kernel) rfl, cw_X9_unlike, by unfold gYok; decide +kernel⟩
theorem flX9_49 : gFld RX9 49 9 22 := ⟨RX9, TX9, 45, rfl, inGX9, by decide, gIn 840 (by decide +kernel) rfl, rfl⟩
set_option maxRecDepth 100000 in
theorem cw_X9_holds : Cond.code yX9_holds cX9_holds 9 (some .int) ∈ gWs := gIn 1108 (rfl) rfl
theorem lkX9_209 : gLinkV RX9 209 yX9_holds cX9_holds 9 (some .int) 2 := ⟨gIn 1105 (by decide +kernel) rfl, gIn 1107 (by decide +kernel) rfl, gIn 34 (by decide +kernel) rfl, gIn 79 (by decide +kernel) rfl, cw_X9_holds, by unfold gYok; decide +kernel⟩
theorem flX9_52 : gFld RX9 52 9 25 := ⟨RX9, TX9, 45, rfl, inGX9, by decide, gIn 843 (by decide +kernel) rfl, rfl⟩
theorem flX9_212 : gFld RX9 212 9 23 := ⟨RX9, TX9, 45, rfl, inGX9, by decide, gIn 841 (by decide +kernel) rfl, rfl⟩
theorem fpX9_212 : gFldP RX9 212 9 23 .int := ⟨RX9, TX9, 45, tyX9, rfl, inGX9, by decide, gIn 841 (by decide +kernel) rfl, rfl, tyX9_ok, nmX9, rfl, by decide⟩
set_option maxRecDepth 100000 in
theorem cw_X9_isBorne : Cond.code yX9_isBorne cX9_isBorne 5 (some .boolean) ∈ gWs := gIn 1136 (rfl) rfl
theorem lkX9_215 : gLinkV RX9 215 yX9_isBorne cX9_isBorne 5 (some .boolean) 2 := ⟨gIn 1133 (by decide +kernel) rfl, gIn 1135 (by decide +kernel) rfl, gIn 41 (by decide +kernel) rfl, gIn 79 (by decide +kernel) rfl, cw_X9_isBorne, by unfold gYok; decide +kernel⟩
set_option maxRecDepth 100000 in
theorem cw_X9_drops : Cond.code yX9_drops cX9_drops 2 none ∈ gWs := gIn 1128 (rfl) rfl
theorem lkX9_218 : gLinkV RX9 218 yX9_drops cX9_drops 2 none 1 := ⟨gIn 1125 (by decide +kernel) rfl, gIn 1127 (by decide +kernel) rfl, gIn 39 (by decide +kernel) rfl, gIn 79 (by decide +kernel) rfl, cw_X9_drops, by unfold gYok; decide +kernel⟩
set_option maxRecDepth 100000 in
theorem cw_X9_settles : Cond.code yX9_settles cX9_settles 2 none ∈ gWs := gIn 1132 (rfl) rfl
theorem lkX9_225 : gLinkV RX9 225 yX9_settles cX9_settles 2 none 0 := ⟨gIn 1129 (by decide +kernel) rfl, gIn 1131 (by decide +kernel) rfl, gIn 40 (by decide +kernel) rfl, gIn 79 (by decide +kernel) rfl, cw_X9_settles, by unfold gYok; decide +kernel⟩
set_option maxRecDepth 100000 in
theorem cw_X9_holdAll : Cond.code yX9_holdAll cX9_holdAll 2 none ∈ gWs := gIn 1100 (rfl) rfl
theorem lkX9_222 : gLinkV RX9 222 yX9_holdAll cX9_holdAll 2 none 0 := ⟨gIn 1097 (by decide +kernel) rfl, gIn 1099 (by decide +kernel) rfl, gIn 32 (by decide +kernel) rfl, gIn 79 (by decide +kernel) rfl, cw_X9_holdAll, by unfold gYok; decide +kernel⟩
theorem fpX9_231 : gFldP RX9 231 9 32 .int := ⟨RX9, TX9, 45, tyX9, rfl, inGX9, by decide, gIn 850 (by decide +kernel) rfl, rfl, tyX9_ok, nmX9, rfl, by decide⟩
theorem flX9_234 : gFld RX9 234 9 33 := ⟨RX9, TX9, 45, rfl, inGX9, by decide, gIn 851 (by decide +kernel) rfl, rfl⟩
theorem fpX9_234 : gFldP RX9 234 9 33 .int := ⟨RX9, TX9, 45, tyX9, rfl, inGX9, by decide, gIn 851 (by decide +kernel) rfl, rfl, tyX9_ok, nmX9, rfl, by decide⟩
theorem flX9_231 : gFld RX9 231 9 32 := ⟨RX9, TX9, 45, rfl, inGX9, by decide, gIn 850 (by decide +kernel) rfl, rfl⟩
theorem flX9_67 : gFld RX9 67 9 30 := ⟨RX9, TX9, 45, rfl, inGX9, by decide, gIn 848 (by decide +kernel) rfl, rfl⟩
theorem flX9_70 : gFld RX9 70 9 31 := ⟨RX9, TX9, 45, rfl, inGX9, by decide, gIn 849 (by decide +kernel) rfl, rfl⟩
set_option maxRecDepth 100000 in
theorem cw_X9_isThrough : Cond.code yX9_isThrough cX9_isThrough 7 (some .boolean) ∈ gWs := gIn 1148 (rfl) rfl
theorem lkX9_228 : gLinkV RX9 228 yX9_isThrough cX9_isThrough 7 (some .boolean) 2 := ⟨gIn 1145 (by decide +kernel) rfl, gIn 1147 (by decide +kernel) rfl, gIn 44 (by decide +kernel) rfl, gIn 79 (by decide +kernel) rfl, cw_X9_isThrough, by unfold gYok; decide +kernel⟩
theorem flX9_55 : gFld RX9 55 9 26 := ⟨RX9, TX9, 45, rfl, inGX9, by decide, gIn 844 (by decide +kernel) rfl, rfl⟩
theorem flX9_58 : gFld RX9 58 9 27 := ⟨RX9, TX9, 45, rfl, inGX9, by decide, gIn 845 (by decide +kernel) rfl, rfl⟩
theorem flX9_64 : gFld RX9 64 9 29 := ⟨RX9, TX9, 45, rfl, inGX9, by decide, gIn 847 (by decide +kernel) rfl, rfl⟩
theorem flX9_191 : gFld RX9 191 9 21 := ⟨RX9, TX9, 45, rfl, inGX9, by decide, gIn 839 (by decide +kernel) rfl, rfl⟩
theorem flX9_61 : gFld RX9 61 9 28 := ⟨RX9, TX9, 45, rfl, inGX9, by decide, gIn 846 (by decide +kernel) rfl, rfl⟩
theorem flX9_247 : gFld RX9 247 9 24 := ⟨RX9, TX9, 45, rfl, inGX9, by decide, gIn 842 (by decide +kernel) rfl, rfl⟩
theorem fpX9_247 : gFldP RX9 247 9 24 .int := ⟨RX9, TX9, 45, tyX9, rfl, inGX9, by decide, gIn 842 (by decide +kernel) rfl, rfl, tyX9_ok, nmX9, rfl, by decide⟩
set_option maxRecDepth 100000 in
theorem cw_X9_keeps : Cond.code yX9_keeps cX9_keeps 6 none ∈ gWs := gIn 1144 (rfl) rfl
theorem lkX9_250 : gLinkV RX9 250 yX9_keeps cX9_keeps 6 none 1 := ⟨gIn 1141 (by decide +kernel) rfl, gIn 1143 (by decide +kernel) rfl, gIn 43 (by decide +kernel) rfl, gIn 79 (by decide +kernel) rfl, cw_X9_keeps, by unfold gYok; decide +kernel⟩
set_option maxRecDepth 100000 in
theorem cw_X9_mends : Cond.code yX9_mends cX9_mends 4 none ∈ gWs := gIn 1140 (rfl) rfl
theorem lkX9_243 : gLinkV RX9 243 yX9_mends cX9_mends 4 none 2 := ⟨gIn 1137 (by decide +kernel) rfl, gIn 1139 (by decide +kernel) rfl, gIn 42 (by decide +kernel) rfl, gIn 79 (by decide +kernel) rfl, cw_X9_mends, by unfold gYok; decide +kernel⟩
theorem flX9_185 : gFld RX9 185 9 17 := ⟨RX9, TX9, 45, rfl, inGX9, by decide, gIn 835 (by decide +kernel) rfl, rfl⟩
theorem flX9_188 : gFld RX9 188 9 20 := ⟨RX9, TX9, 45, rfl, inGX9, by decide, gIn 838 (by decide +kernel) rfl, rfl⟩
set_option maxRecDepth 100000 in
theorem cw_X9_isIn : Cond.code yX9_isIn cX9_isIn 2 (some .boolean) ∈ gWs := gIn 1092 (rfl) rfl
theorem lkX9_237 : gLinkS RX9 237 yX9_isIn cX9_isIn 2 (some .boolean) 2 := ⟨gIn 1090 (by decide +kernel) rfl, gIn 1091 (by decide +kernel) rfl, gIn 79 (by decide +kernel) rfl, cw_X9_isIn, by unfold gYok; decide +kernel⟩
set_option maxRecDepth 100000 in
theorem cw_X9_freezes : Cond.code yX9_freezes cX9_freezes 3 none ∈ gWs := gIn 1096 (rfl) rfl
theorem lkX9_240 : gLinkV RX9 240 yX9_freezes cX9_freezes 3 none 1 := ⟨gIn 1093 (by decide +kernel) rfl, gIn 1095 (by decide +kernel) rfl, gIn 31 (by decide +kernel) rfl, gIn 79 (by decide +kernel) rfl, cw_X9_freezes, by unfold gYok; decide +kernel⟩
set_option maxRecDepth 100000 in
theorem cw_X9_goesBy : Cond.code yX9_goesBy cX9_goesBy 4 none ∈ gWs := gIn 1089 (rfl) rfl
theorem lkX9_253 : gLinkV RX9 253 yX9_goesBy cX9_goesBy 4 none 1 := ⟨gIn 1086 (by decide +kernel) rfl, gIn 1088 (by decide +kernel) rfl, gIn 30 (by decide +kernel) rfl, gIn 79 (by decide +kernel) rfl, cw_X9_goesBy, by unfold gYok; decide +kernel⟩
set_option maxRecDepth 100000 in
theorem cw_X9_asTold : Cond.code yX9_asTold cX9_asTold 2 none ∈ gWs := gIn 1081 (rfl) rfl
theorem lkX9_256 : gLinkV RX9 256 yX9_asTold cX9_asTold 2 none 0 := ⟨gIn 1078 (by decide +kernel) rfl, gIn 1080 (by decide +kernel) rfl, gIn 28 (by decide +kernel) rfl, gIn 79 (by decide +kernel) rfl, cw_X9_asTold, by unfold gYok; decide +kernel⟩
set_option maxRecDepth 100000 in
theorem cw_X9_runs : Cond.code yX9_runs cX9_runs 2 none ∈ gWs := gIn 1085 (rfl) rfl
theorem lkX9_259 : gLinkV RX9 259 yX9_runs cX9_runs 2 none 0 := ⟨gIn 1082 (by decide +kernel) rfl, gIn 1084 (by decide +kernel) rfl, gIn 29 (by decide +kernel) rfl, gIn 79 (by decide +kernel) rfl, cw_X9_runs, by unfold gYok; decide +kernel⟩
set_option maxRecDepth 100000 in
theorem cw_X9_runsTold : Cond.code yX9_runsTold cX9_runsTold 1 none ∈ gWs := gIn 1077 (rfl) rfl
theorem lkX9_262 : gLinkV RX9 262 yX9_runsTold cX9_runsTold 1 none 0 := ⟨gIn 1074 (by decide +kernel) rfl, gIn 1076 (by decide +kernel) rfl, gIn 27 (by decide +kernel) rfl, gIn 79 (by decide +kernel) rfl, cw_X9_runsTold, by unfold gYok; decide +kernel⟩
set_option maxRecDepth 100000 in
theorem cw_X9_atOf : Cond.code yX9_atOf cX9_atOf 4 (some .int) ∈ gWs := gIn 1073 (rfl) rfl
theorem lkX9_265 : gLinkV RX9 265 yX9_atOf cX9_atOf 4 (some .int) 3 := ⟨gIn 1070 (by decide +kernel) rfl, gIn 1072 (by decide +kernel) rfl, gIn 26 (by decide +kernel) rfl, gIn 79 (by decide +kernel) rfl, cw_X9_atOf, by unfold gYok; decide +kernel⟩
set_option maxRecDepth 100000 in
theorem cw_X9_isColumn : Cond.code yX9_isColumn cX9_isColumn 2 (some .boolean) ∈ gWs := gIn 1156 (rfl) rfl
theorem lkX9_269 : gLinkV RX9 269 yX9_isColumn cX9_isColumn 2 (some .boolean) 1 := ⟨gIn 1153 (by decide +kernel) rfl, gIn 1155 (by decide +kernel) rfl, gIn 45 (by decide +kernel) rfl, gIn 79 (by decide +kernel) rfl, cw_X9_isColumn, by unfold gYok; decide +kernel⟩
set_option maxRecDepth 100000 in
theorem cw_X9_columnOf : Cond.code yX9_columnOf cX9_columnOf 4 (some .int) ∈ gWs := gIn 1160 (rfl) rfl
theorem lkX9_272 : gLinkV RX9 272 yX9_columnOf cX9_columnOf 4 (some .int) 3 := ⟨gIn 1157 (by decide +kernel) rfl, gIn 1159 (by decide +kernel) rfl, gIn 46 (by decide +kernel) rfl, gIn 79 (by decide +kernel) rfl, cw_X9_columnOf, by unfold gYok; decide +kernel⟩
set_option maxRecDepth 100000 in
theorem cw_X9_fallsOf : Cond.code yX9_fallsOf cX9_fallsOf 2 (some .int) ∈ gWs := gIn 1168 (rfl) rfl
theorem lkX9_275 : gLinkV RX9 275 yX9_fallsOf cX9_fallsOf 2 (some .int) 1 := ⟨gIn 1165 (by decide +kernel) rfl, gIn 1167 (by decide +kernel) rfl, gIn 47 (by decide +kernel) rfl, gIn 79 (by decide +kernel) rfl, cw_X9_fallsOf, by unfold gYok; decide +kernel⟩
set_option maxRecDepth 100000 in
theorem cw_X9_sheepOf : Cond.code yX9_sheepOf cX9_sheepOf 2 (some .int) ∈ gWs := gIn 1176 (rfl) rfl
theorem lkX9_278 : gLinkV RX9 278 yX9_sheepOf cX9_sheepOf 2 (some .int) 1 := ⟨gIn 1173 (by decide +kernel) rfl, gIn 1175 (by decide +kernel) rfl, gIn 48 (by decide +kernel) rfl, gIn 79 (by decide +kernel) rfl, cw_X9_sheepOf, by unfold gYok; decide +kernel⟩
set_option maxRecDepth 100000 in
theorem cw_X9_mineNow : Cond.code yX9_mineNow cX9_mineNow 4 (some .int) ∈ gWs := gIn 1188 (rfl) rfl
theorem lkX9_281 : gLinkV RX9 281 yX9_mineNow cX9_mineNow 4 (some .int) 1 := ⟨gIn 1185 (by decide +kernel) rfl, gIn 1187 (by decide +kernel) rfl, gIn 50 (by decide +kernel) rfl, gIn 79 (by decide +kernel) rfl, cw_X9_mineNow, by unfold gYok; decide +kernel⟩
set_option maxRecDepth 100000 in
theorem cw_X9_mineOf : Cond.code yX9_mineOf cX9_mineOf 2 (some .int) ∈ gWs := gIn 1184 (rfl) rfl
theorem lkX9_284 : gLinkV RX9 284 yX9_mineOf cX9_mineOf 2 (some .int) 1 := ⟨gIn 1181 (by decide +kernel) rfl, gIn 1183 (by decide +kernel) rfl, gIn 49 (by decide +kernel) rfl, gIn 79 (by decide +kernel) rfl, cw_X9_mineOf, by unfold gYok; decide +kernel⟩
set_option maxRecDepth 100000 in
theorem cw_X9_bestNow : Cond.code yX9_bestNow cX9_bestNow 5 (some .int) ∈ gWs := gIn 1196 (rfl) rfl
theorem lkX9_287 : gLinkV RX9 287 yX9_bestNow cX9_bestNow 5 (some .int) 0 := ⟨gIn 1193 (by decide +kernel) rfl, gIn 1195 (by decide +kernel) rfl, gIn 51 (by decide +kernel) rfl, gIn 79 (by decide +kernel) rfl, cw_X9_bestNow, by unfold gYok; decide +kernel⟩
set_option maxRecDepth 100000 in
theorem cw_X9_mendOf : Cond.code yX9_mendOf cX9_mendOf 6 (some .int) ∈ gWs := gIn 1204 (rfl) rfl
theorem lkX9_290 : gLinkV RX9 290 yX9_mendOf cX9_mendOf 6 (some .int) 2 := ⟨gIn 1201 (by decide +kernel) rfl, gIn 1203 (by decide +kernel) rfl, gIn 52 (by decide +kernel) rfl, gIn 79 (by decide +kernel) rfl, cw_X9_mendOf, by unfold gYok; decide +kernel⟩
set_option maxRecDepth 100000 in
theorem cw_X9_firmOf : Cond.code yX9_firmOf cX9_firmOf 5 (some .int) ∈ gWs := gIn 1212 (rfl) rfl
theorem lkX9_293 : gLinkV RX9 293 yX9_firmOf cX9_firmOf 5 (some .int) 1 := ⟨gIn 1209 (by decide +kernel) rfl, gIn 1211 (by decide +kernel) rfl, gIn 53 (by decide +kernel) rfl, gIn 79 (by decide +kernel) rfl, cw_X9_firmOf, by unfold gYok; decide +kernel⟩
set_option maxRecDepth 100000 in
theorem cw_X9_relayOf : Cond.code yX9_relayOf cX9_relayOf 7 (some .int) ∈ gWs := gIn 1220 (rfl) rfl
theorem lkX9_296 : gLinkV RX9 296 yX9_relayOf cX9_relayOf 7 (some .int) 2 := ⟨gIn 1217 (by decide +kernel) rfl, gIn 1219 (by decide +kernel) rfl, gIn 54 (by decide +kernel) rfl, gIn 79 (by decide +kernel) rfl, cw_X9_relayOf, by unfold gYok; decide +kernel⟩
set_option maxRecDepth 100000 in
theorem cw_X9_loose : Cond.code yX9_loose cX9_loose 3 (some .int) ∈ gWs := gIn 1232 (rfl) rfl
theorem lkX9_299 : gLinkV RX9 299 yX9_loose cX9_loose 3 (some .int) 1 := ⟨gIn 1229 (by decide +kernel) rfl, gIn 1231 (by decide +kernel) rfl, gIn 56 (by decide +kernel) rfl, gIn 79 (by decide +kernel) rfl, cw_X9_loose, by unfold gYok; decide +kernel⟩
set_option maxRecDepth 100000 in
theorem cw_X9_liftOf : Cond.code yX9_liftOf cX9_liftOf 4 (some .int) ∈ gWs := gIn 1228 (rfl) rfl
theorem lkX9_302 : gLinkV RX9 302 yX9_liftOf cX9_liftOf 4 (some .int) 1 := ⟨gIn 1225 (by decide +kernel) rfl, gIn 1227 (by decide +kernel) rfl, gIn 55 (by decide +kernel) rfl, gIn 79 (by decide +kernel) rfl, cw_X9_liftOf, by unfold gYok; decide +kernel⟩
theorem flX9_305 : gFld RX9 305 9 34 := ⟨RX9, TX9, 45, rfl, inGX9, by decide, gIn 852 (by decide +kernel) rfl, rfl⟩
theorem flX9_74 : gFld RX9 74 9 35 := ⟨RX9, TX9, 45, rfl, inGX9, by decide, gIn 853 (by decide +kernel) rfl, rfl⟩
theorem flX9_77 : gFld RX9 77 9 36 := ⟨RX9, TX9, 45, rfl, inGX9, by decide, gIn 854 (by decide +kernel) rfl, rfl⟩
theorem flX9_80 : gFld RX9 80 9 37 := ⟨RX9, TX9, 45, rfl, inGX9, by decide, gIn 855 (by decide +kernel) rfl, rfl⟩
theorem fpX9_305 : gFldP RX9 305 9 34 .int := ⟨RX9, TX9, 45, tyX9, rfl, inGX9, by decide, gIn 852 (by decide +kernel) rfl, rfl, tyX9_ok, nmX9, rfl, by decide⟩
set_option maxRecDepth 100000 in
theorem cw_X9_isSeen : Cond.code yX9_isSeen cX9_isSeen 4 (some .boolean) ∈ gWs := gIn 1252 (rfl) rfl
theorem lkX9_308 : gLinkV RX9 308 yX9_isSeen cX9_isSeen 4 (some .boolean) 0 := ⟨gIn 1249 (by decide +kernel) rfl, gIn 1251 (by decide +kernel) rfl, gIn 58 (by decide +kernel) rfl, gIn 79 (by decide +kernel) rfl, cw_X9_isSeen, by unfold gYok; decide +kernel⟩
set_option maxRecDepth 100000 in
theorem cw_X9_neverNow : Cond.code yX9_neverNow cX9_neverNow 3 (some .int) ∈ gWs := gIn 1248 (rfl) rfl
theorem lkX9_312 : gLinkV RX9 312 yX9_neverNow cX9_neverNow 3 (some .int) 0 := ⟨gIn 1245 (by decide +kernel) rfl, gIn 1247 (by decide +kernel) rfl, gIn 57 (by decide +kernel) rfl, gIn 79 (by decide +kernel) rfl, cw_X9_neverNow, by unfold gYok; decide +kernel⟩
theorem flX9_83 : gFld RX9 83 9 38 := ⟨RX9, TX9, 45, rfl, inGX9, by decide, gIn 856 (by decide +kernel) rfl, rfl⟩
set_option maxRecDepth 100000 in
theorem cw_X9_moodBy : Cond.code yX9_moodBy cX9_moodBy 5 (some .int) ∈ gWs := gIn 1264 (rfl) rfl
theorem lkX9_318 : gLinkV RX9 318 yX9_moodBy cX9_moodBy 5 (some .int) 1 := ⟨gIn 1261 (by decide +kernel) rfl, gIn 1263 (by decide +kernel) rfl, gIn 60 (by decide +kernel) rfl, gIn 79 (by decide +kernel) rfl, cw_X9_moodBy, by unfold gYok; decide +kernel⟩
set_option maxRecDepth 100000 in
theorem cw_X9_strongBy : Cond.code yX9_strongBy cX9_strongBy 6 (some .int) ∈ gWs := gIn 1260 (rfl) rfl
theorem lkX9_315 : gLinkV RX9 315 yX9_strongBy cX9_strongBy 6 (some .int) 1 := ⟨gIn 1257 (by decide +kernel) rfl, gIn 1259 (by decide +kernel) rfl, gIn 59 (by decide +kernel) rfl, gIn 79 (by decide +kernel) rfl, cw_X9_strongBy, by unfold gYok; decide +kernel⟩
set_option maxRecDepth 100000 in
theorem cw_X9_askOf : Cond.code yX9_askOf cX9_askOf 10 (some .int) ∈ gWs := gIn 1272 (rfl) rfl
theorem lkX9_321 : gLinkV RX9 321 yX9_askOf cX9_askOf 10 (some .int) 1 := ⟨gIn 1269 (by decide +kernel) rfl, gIn 1271 (by decide +kernel) rfl, gIn 61 (by decide +kernel) rfl, gIn 79 (by decide +kernel) rfl, cw_X9_askOf, by unfold gYok; decide +kernel⟩
set_option maxRecDepth 100000 in
theorem cw_X9_lowest : Cond.code yX9_lowest cX9_lowest 11 (some .long) ∈ gWs := gIn 1283 (rfl) rfl
theorem lkX9_324 : gLinkS RX9 324 yX9_lowest cX9_lowest 11 (some .long) 3 := ⟨gIn 1281 (by decide +kernel) rfl, gIn 1282 (by decide +kernel) rfl, gIn 79 (by decide +kernel) rfl, cw_X9_lowest, by unfold gYok; decide +kernel⟩
set_option maxRecDepth 100000 in
theorem cw_X9_no : Cond.code yX9_no cX9_no 1 (some .long) ∈ gWs := gIn 1286 (rfl) rfl
theorem lkX9_332 : gLinkS RX9 332 yX9_no cX9_no 1 (some .long) 1 := ⟨gIn 1284 (by decide +kernel) rfl, gIn 1285 (by decide +kernel) rfl, gIn 79 (by decide +kernel) rfl, cw_X9_no, by unfold gYok; decide +kernel⟩
set_option maxRecDepth 100000 in
theorem cw_X9_luckOf : Cond.code yX9_luckOf cX9_luckOf 9 (some .long) ∈ gWs := gIn 1280 (rfl) rfl
theorem lkX9_328 : gLinkV RX9 328 yX9_luckOf cX9_luckOf 9 (some .long) 2 := ⟨gIn 1277 (by decide +kernel) rfl, gIn 1279 (by decide +kernel) rfl, gIn 62 (by decide +kernel) rfl, gIn 79 (by decide +kernel) rfl, cw_X9_luckOf, by unfold gYok; decide +kernel⟩
theorem kX9_336 : Cond.constant RX9 336 (1103515245) ∈ gWs := gIn 1296 (by decide +kernel) rfl
set_option maxRecDepth 100000 in
theorem cw_X9_agesOf : Cond.code yX9_agesOf cX9_agesOf 6 (some .int) ∈ gWs := gIn 1295 (rfl) rfl
theorem lkX9_337 : gLinkV RX9 337 yX9_agesOf cX9_agesOf 6 (some .int) 3 := ⟨gIn 1292 (by decide +kernel) rfl, gIn 1294 (by decide +kernel) rfl, gIn 63 (by decide +kernel) rfl, gIn 79 (by decide +kernel) rfl, cw_X9_agesOf, by unfold gYok; decide +kernel⟩
theorem flX9_89 : gFld RX9 89 9 40 := ⟨RX9, TX9, 45, rfl, inGX9, by decide, gIn 858 (by decide +kernel) rfl, rfl⟩
set_option maxRecDepth 100000 in
theorem cw_X9_lacks : Cond.code yX9_lacks cX9_lacks 4 (some .int) ∈ gWs := gIn 1312 (rfl) rfl
theorem lkX9_343 : gLinkV RX9 343 yX9_lacks cX9_lacks 4 (some .int) 3 := ⟨gIn 1309 (by decide +kernel) rfl, gIn 1311 (by decide +kernel) rfl, gIn 64 (by decide +kernel) rfl, gIn 79 (by decide +kernel) rfl, cw_X9_lacks, by unfold gYok; decide +kernel⟩
set_option maxRecDepth 100000 in
theorem cw_X9_keep : Cond.code yX9_keep cX9_keep 4 none ∈ gWs := gIn 1316 (rfl) rfl
theorem lkX9_346 : gLinkV RX9 346 yX9_keep cX9_keep 4 none 3 := ⟨gIn 1313 (by decide +kernel) rfl, gIn 1315 (by decide +kernel) rfl, gIn 65 (by decide +kernel) rfl, gIn 79 (by decide +kernel) rfl, cw_X9_keep, by unfold gYok; decide +kernel⟩
theorem kX9_350 : Cond.constant RX9 350 (-2147483648) ∈ gWs := gIn 1321 (by decide +kernel) rfl
theorem flX9_98 : gFld RX9 98 9 43 := ⟨RX9, TX9, 45, rfl, inGX9, by decide, gIn 861 (by decide +kernel) rfl, rfl⟩
set_option maxRecDepth 100000 in
theorem cw_X9_sumOf : Cond.code yX9_sumOf cX9_sumOf 4 (some .int) ∈ gWs := gIn 1337 (rfl) rfl
theorem lkX9_351 : gLinkV RX9 351 yX9_sumOf cX9_sumOf 4 (some .int) 1 := ⟨gIn 1334 (by decide +kernel) rfl, gIn 1336 (by decide +kernel) rfl, gIn 66 (by decide +kernel) rfl, gIn 79 (by decide +kernel) rfl, cw_X9_sumOf, by unfold gYok; decide +kernel⟩
theorem flX9_340 : gFld RX9 340 9 44 := ⟨RX9, TX9, 45, rfl, inGX9, by decide, gIn 862 (by decide +kernel) rfl, rfl⟩
theorem kX9_354 : Cond.constantLong RX9 354 (31) ∈ gWs := gIn 1343 (by decide +kernel) rfl
set_option maxRecDepth 100000 in
theorem cw_X9_handDigest : Cond.code yX9_handDigest cX9_handDigest 6 (some .long) ∈ gWs := gIn 1352 (rfl) rfl
theorem lkX9_365 : gLinkV RX9 365 yX9_handDigest cX9_handDigest 6 (some .long) 2 := ⟨gIn 1349 (by decide +kernel) rfl, gIn 1351 (by decide +kernel) rfl, gIn 68 (by decide +kernel) rfl, gIn 79 (by decide +kernel) rfl, cw_X9_handDigest, by unfold gYok; decide +kernel⟩
set_option maxRecDepth 100000 in
theorem cw_X9_placeDigest : Cond.code yX9_placeDigest cX9_placeDigest 6 (some .long) ∈ gWs := gIn 1348 (rfl) rfl
theorem lkX9_361 : gLinkV RX9 361 yX9_placeDigest cX9_placeDigest 6 (some .long) 2 := ⟨gIn 1345 (by decide +kernel) rfl, gIn 1347 (by decide +kernel) rfl, gIn 67 (by decide +kernel) rfl, gIn 79 (by decide +kernel) rfl, cw_X9_placeDigest, by unfold gYok; decide +kernel⟩
set_option maxRecDepth 100000 in
theorem cw_X9_count : Cond.code yX9_count cX9_count 2 (some .int) ∈ gWs := gIn 1333 (rfl) rfl
theorem lkX9_358 : gLinkV RX9 358 yX9_count cX9_count 2 (some .int) 1 := ⟨gIn 1344 (by decide +kernel) rfl, gIn 1331 (by decide +kernel) rfl, gIn 1332 (by decide +kernel) rfl, gIn 79 (by decide +kernel) rfl, cw_X9_count, by unfold gYok; decide +kernel⟩
theorem kX9_356 : Cond.constantLong RX9 356 (17) ∈ gWs := gIn 1342 (by decide +kernel) rfl
