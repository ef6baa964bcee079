theorem kw_429 : Cond.fieldLink RX11 12 "HalfAJoke" "house" "LHalfAJoke$House;" ∈ zg := zg_of (List.mem_of_getElem? (i := 429) (by decide +kernel)) (by decide +kernel)
theorem iz_X11 : ∀ w ∈ u_ws RX11 TX11 9, w ∈ zg := by decide +kernel
theorem ff_X11_12_0 : zFc RX11 12 0 0 (some (1, false)) := ⟨_, _, _, tyX11, sh_0, rfl, by decide, iz_X11, kw_429, rfl, tyX11_ok, nmX11⟩
theorem kw_270 : Cond.fieldLink RX11 43 "HalfAJoke$House" "draws" "I" ∈ zg := zg_of (List.mem_of_getElem? (i := 270) (by decide +kernel)) (by decide +kernel)
theorem iz_X4 : ∀ w ∈ u_ws RX4 TX4 9, w ∈ zg := by decide +kernel
theorem ff_X11_43_1 : zFc RX11 43 1 8 none := ⟨_, _, _, tyX4, sh_1, rfl, by decide, iz_X4, kw_270, rfl, tyX4_ok, nmX4⟩
theorem fw_1_8 : ∀ q : vw_C, ∀ ci fl, zsh 1 = .inr (ci, fl) → zcl[ci]? = some q → (q.2.1 8).2.2.2 = false ∧ (q.2.1 8).2.2.1 = "I" := zfin sh_1 rfl ⟨rfl, rfl⟩
theorem kw_430 : Cond.fieldLink RX11 19 "HalfAJoke" "past" "LHalfAJoke$Past;" ∈ zg := zg_of (List.mem_of_getElem? (i := 430) (by decide +kernel)) (by decide +kernel)
theorem ff_X11_19_0 : zFc RX11 19 0 1 (some (22, false)) := ⟨_, _, _, tyX11, sh_0, rfl, by decide, iz_X11, kw_430, rfl, tyX11_ok, nmX11⟩
theorem kw_90 : Cond.initialized RX6 ∈ zg := zg_of (List.mem_of_getElem? (i := 90) (by decide +kernel)) (by decide +kernel)
theorem kw_464 : Cond.code yX6_forget cX6_forget 1 none ∈ zg := zg_of (List.mem_of_getElem? (i := 464) (by decide +kernel)) (by decide +kernel)
theorem kw_461 : Cond.methodLink RX11 47 yX6_forget ∈ zg := zg_of (List.mem_of_getElem? (i := 461) (by decide +kernel)) (by decide +kernel)
theorem kw_462 : Cond.instanceMethod yX6_forget ∈ zg := zg_of (List.mem_of_getElem? (i := 462) (by decide +kernel)) (by decide +kernel)
theorem kw_463 : Cond.selects RX6 yX6_forget yX6_forget ∈ zg := zg_of (List.mem_of_getElem? (i := 463) (by decide +kernel)) (by decide +kernel)
theorem mv_X11_47 : zMV RX11 47 yX6_forget cX6_forget 1 none 0 := ⟨⟨kw_461, kw_462, kw_463, kw_90, kw_464⟩, ⟨by decide, by decide, by decide +kernel⟩, by decide⟩
theorem kw_305 : Cond.fieldLink RX6 30 "HalfAJoke$Past" "count" "I" ∈ zg := zg_of (List.mem_of_getElem? (i := 305) (by decide +kernel)) (by decide +kernel)
theorem iz_X6 : ∀ w ∈ u_ws RX6 TX6 8, w ∈ zg := by decide +kernel
theorem ff_X6_30_22 : zFc RX6 30 22 7 none := ⟨_, _, _, tyX6, sh_22, rfl, by decide, iz_X6, kw_305, rfl, tyX6_ok, nmX6⟩
theorem fw_22_7 : ∀ q : vw_C, ∀ ci fl, zsh 22 = .inr (ci, fl) → zcl[ci]? = some q → (q.2.1 7).2.2.2 = false ∧ (q.2.1 7).2.2.1 = "I" := zfin sh_22 rfl ⟨rfl, rfl⟩
theorem kw_84 : Cond.initialized RX11 ∈ zg := zg_of (List.mem_of_getElem? (i := 84) (by decide +kernel)) (by decide +kernel)
theorem kw_471 : Cond.code yX11_isBelow cX11_isBelow 2 (some .boolean) ∈ zg := zg_of (List.mem_of_getElem? (i := 471) (by decide +kernel)) (by decide +kernel)
theorem kw_469 : Cond.methodLink RX11 50 yX11_isBelow ∈ zg := zg_of (List.mem_of_getElem? (i := 469) (by decide +kernel)) (by decide +kernel)
theorem kw_470 : Cond.static yX11_isBelow ∈ zg := zg_of (List.mem_of_getElem? (i := 470) (by decide +kernel)) (by decide +kernel)
theorem ms_X11_50 : zMS RX11 50 yX11_isBelow cX11_isBelow 2 (some .boolean) 2 := ⟨⟨kw_469, kw_470, kw_84, kw_471⟩, ⟨by decide, by decide, by decide +kernel⟩, by decide⟩
theorem kw_252 : Cond.fieldLink RX11 54 "HalfAJoke$House" "halves" "LHalfAJoke$Halves;" ∈ zg := zg_of (List.mem_of_getElem? (i := 252) (by decide +kernel)) (by decide +kernel)
theorem ff_X11_54_1 : zFc RX11 54 1 0 (some (2, false)) := ⟨_, _, _, tyX4, sh_1, rfl, by decide, iz_X4, kw_252, rfl, tyX4_ok, nmX4⟩
theorem kw_140 : Cond.fieldLink RX11 58 "HalfAJoke$Halves" "count" "I" ∈ zg := zg_of (List.mem_of_getElem? (i := 140) (by decide +kernel)) (by decide +kernel)
theorem iz_X3 : ∀ w ∈ u_ws RX3 TX3 5, w ∈ zg := by decide +kernel
theorem ff_X11_58_2 : zFc RX11 58 2 4 none := ⟨_, _, _, tyX3, sh_2, rfl, by decide, iz_X3, kw_140, rfl, tyX3_ok, nmX3⟩
theorem kw_86 : Cond.initialized RX3 ∈ zg := zg_of (List.mem_of_getElem? (i := 86) (by decide +kernel)) (by decide +kernel)
theorem kw_475 : Cond.code yX3_add cX3_add 7 (some .int) ∈ zg := zg_of (List.mem_of_getElem? (i := 475) (by decide +kernel)) (by decide +kernel)
theorem kw_472 : Cond.methodLink RX11 63 yX3_add ∈ zg := zg_of (List.mem_of_getElem? (i := 472) (by decide +kernel)) (by decide +kernel)
theorem kw_473 : Cond.instanceMethod yX3_add ∈ zg := zg_of (List.mem_of_getElem? (i := 473) (by decide +kernel)) (by decide +kernel)
theorem kw_474 : Cond.selects RX3 yX3_add yX3_add ∈ zg := zg_of (List.mem_of_getElem? (i := 474) (by decide +kernel)) (by decide +kernel)
theorem mv_X11_63 : zMV RX11 63 yX3_add cX3_add 7 (some .int) 4 := ⟨⟨kw_472, kw_473, kw_474, kw_86, kw_475⟩, ⟨by decide, by decide, by decide +kernel⟩, by decide⟩
theorem kw_137 : Cond.fieldLink RX3 30 "HalfAJoke$Halves" "count" "I" ∈ zg := zg_of (List.mem_of_getElem? (i := 137) (by decide +kernel)) (by decide +kernel)
theorem ff_X3_30_2 : zFc RX3 30 2 4 none := ⟨_, _, _, tyX3, sh_2, rfl, by decide, iz_X3, kw_137, rfl, tyX3_ok, nmX3⟩
theorem kw_124 : Cond.fieldLink RX3 9 "HalfAJoke$Halves" "side" "[I" ∈ zg := zg_of (List.mem_of_getElem? (i := 124) (by decide +kernel)) (by decide +kernel)
theorem ff_X3_9_2 : zFc RX3 9 2 0 (some (3, false)) := ⟨_, _, _, tyX3, sh_2, rfl, by decide, iz_X3, kw_124, rfl, tyX3_ok, nmX3⟩
theorem kw_128 : Cond.fieldLink RX3 15 "HalfAJoke$Halves" "joke" "[I" ∈ zg := zg_of (List.mem_of_getElem? (i := 128) (by decide +kernel)) (by decide +kernel)
theorem ff_X3_15_2 : zFc RX3 15 2 1 (some (4, false)) := ⟨_, _, _, tyX3, sh_2, rfl, by decide, iz_X3, kw_128, rfl, tyX3_ok, nmX3⟩
theorem kw_131 : Cond.fieldLink RX3 18 "HalfAJoke$Halves" "wit" "[I" ∈ zg := zg_of (List.mem_of_getElem? (i := 131) (by decide +kernel)) (by decide +kernel)
theorem ff_X3_18_2 : zFc RX3 18 2 2 (some (5, false)) := ⟨_, _, _, tyX3, sh_2, rfl, by decide, iz_X3, kw_131, rfl, tyX3_ok, nmX3⟩
theorem fw_2_4 : ∀ q : vw_C, ∀ ci fl, zsh 2 = .inr (ci, fl) → zcl[ci]? = some q → (q.2.1 4).2.2.2 = false ∧ (q.2.1 4).2.2.1 = "I" := zfin sh_2 rfl ⟨rfl, rfl⟩
theorem kw_135 : Cond.fieldLink RX3 21 "HalfAJoke$Halves" "quarters" "[I" ∈ zg := zg_of (List.mem_of_getElem? (i := 135) (by decide +kernel)) (by decide +kernel)
theorem ff_X3_21_2 : zFc RX3 21 2 3 (some (6, false)) := ⟨_, _, _, tyX3, sh_2, rfl, by decide, iz_X3, kw_135, rfl, tyX3_ok, nmX3⟩
theorem kw_483 : Cond.code yX3_has cX3_has 2 (some .boolean) ∈ zg := zg_of (List.mem_of_getElem? (i := 483) (by decide +kernel)) (by decide +kernel)
theorem kw_480 : Cond.methodLink RX11 67 yX3_has ∈ zg := zg_of (List.mem_of_getElem? (i := 480) (by decide +kernel)) (by decide +kernel)
theorem kw_481 : Cond.instanceMethod yX3_has ∈ zg := zg_of (List.mem_of_getElem? (i := 481) (by decide +kernel)) (by decide +kernel)
theorem kw_482 : Cond.selects RX3 yX3_has yX3_has ∈ zg := zg_of (List.mem_of_getElem? (i := 482) (by decide +kernel)) (by decide +kernel)
theorem mv_X11_67 : zMV RX11 67 yX3_has cX3_has 2 (some .boolean) 1 := ⟨⟨kw_480, kw_481, kw_482, kw_86, kw_483⟩, ⟨by decide, by decide, by decide +kernel⟩, by decide⟩
theorem mn_X3_34 : zMN RX3 34 yX11_isBelow cX11_isBelow 2 (some .boolean) 2 := ⟨⟨(by decide +kernel), kw_470, kw_84, kw_471⟩, ⟨by decide, by decide, by decide +kernel⟩, by decide⟩
theorem kw_488 : Cond.code yX3_quartersOf cX3_quartersOf 3 (some .int) ∈ zg := zg_of (List.mem_of_getElem? (i := 488) (by decide +kernel)) (by decide +kernel)
theorem kw_485 : Cond.methodLink RX11 71 yX3_quartersOf ∈ zg := zg_of (List.mem_of_getElem? (i := 485) (by decide +kernel)) (by decide +kernel)
theorem kw_486 : Cond.instanceMethod yX3_quartersOf ∈ zg := zg_of (List.mem_of_getElem? (i := 486) (by decide +kernel)) (by decide +kernel)
theorem kw_487 : Cond.selects RX3 yX3_quartersOf yX3_quartersOf ∈ zg := zg_of (List.mem_of_getElem? (i := 487) (by decide +kernel)) (by decide +kernel)
theorem mv_X11_71 : zMV RX11 71 yX3_quartersOf cX3_quartersOf 3 (some .int) 2 := ⟨⟨kw_485, kw_486, kw_487, kw_86, kw_488⟩, ⟨by decide, by decide, by decide +kernel⟩, by decide⟩
theorem kw_492 : Cond.code yX3_move cX3_move 5 none ∈ zg := zg_of (List.mem_of_getElem? (i := 492) (by decide +kernel)) (by decide +kernel)
theorem kw_489 : Cond.methodLink RX11 75 yX3_move ∈ zg := zg_of (List.mem_of_getElem? (i := 489) (by decide +kernel)) (by decide +kernel)
theorem kw_490 : Cond.instanceMethod yX3_move ∈ zg := zg_of (List.mem_of_getElem? (i := 490) (by decide +kernel)) (by decide +kernel)
theorem kw_491 : Cond.selects RX3 yX3_move yX3_move ∈ zg := zg_of (List.mem_of_getElem? (i := 491) (by decide +kernel)) (by decide +kernel)
theorem mv_X11_75 : zMV RX11 75 yX3_move cX3_move 5 none 4 := ⟨⟨kw_489, kw_490, kw_491, kw_86, kw_492⟩, ⟨by decide, by decide, by decide +kernel⟩, by decide⟩
theorem kw_499 : Cond.code yX11_isIn cX11_isIn 2 (some .boolean) ∈ zg := zg_of (List.mem_of_getElem? (i := 499) (by decide +kernel)) (by decide +kernel)
theorem kw_497 : Cond.methodLink RX11 79 yX11_isIn ∈ zg := zg_of (List.mem_of_getElem? (i := 497) (by decide +kernel)) (by decide +kernel)
theorem kw_498 : Cond.static yX11_isIn ∈ zg := zg_of (List.mem_of_getElem? (i := 498) (by decide +kernel)) (by decide +kernel)
theorem ms_X11_79 : zMS RX11 79 yX11_isIn cX11_isIn 2 (some .boolean) 2 := ⟨⟨kw_497, kw_498, kw_84, kw_499⟩, ⟨by decide, by decide, by decide +kernel⟩, by decide⟩
theorem kw_503 : Cond.code yX3_inherit cX3_inherit 8 (some .int) ∈ zg := zg_of (List.mem_of_getElem? (i := 503) (by decide +kernel)) (by decide +kernel)
theorem kw_500 : Cond.methodLink RX11 82 yX3_inherit ∈ zg := zg_of (List.mem_of_getElem? (i := 500) (by decide +kernel)) (by decide +kernel)
theorem kw_501 : Cond.instanceMethod yX3_inherit ∈ zg := zg_of (List.mem_of_getElem? (i := 501) (by decide +kernel)) (by decide +kernel)
theorem kw_502 : Cond.selects RX3 yX3_inherit yX3_inherit ∈ zg := zg_of (List.mem_of_getElem? (i := 502) (by decide +kernel)) (by decide +kernel)
theorem mv_X11_82 : zMV RX11 82 yX3_inherit cX3_inherit 8 (some .int) 3 := ⟨⟨kw_500, kw_501, kw_502, kw_86, kw_503⟩, ⟨by decide, by decide, by decide +kernel⟩, by decide⟩
theorem kw_504 : Cond.methodLink RX3 42 yX3_quartersOf ∈ zg := zg_of (List.mem_of_getElem? (i := 504) (by decide +kernel)) (by decide +kernel)
theorem mv_X3_42 : zMV RX3 42 yX3_quartersOf cX3_quartersOf 3 (some .int) 2 := ⟨⟨kw_504, kw_486, kw_487, kw_86, kw_488⟩, ⟨by decide, by decide, by decide +kernel⟩, by decide⟩
theorem mn_X3_46 : zMN RX3 46 yX11_isIn cX11_isIn 2 (some .boolean) 2 := ⟨⟨(by decide +kernel), kw_498, kw_84, kw_499⟩, ⟨by decide, by decide, by decide +kernel⟩, by decide⟩
theorem kw_506 : Cond.methodLink RX3 49 yX3_move ∈ zg := zg_of (List.mem_of_getElem? (i := 506) (by decide +kernel)) (by decide +kernel)
theorem mv_X3_49 : zMV RX3 49 yX3_move cX3_move 5 none 4 := ⟨⟨kw_506, kw_490, kw_491, kw_86, kw_492⟩, ⟨by decide, by decide, by decide +kernel⟩, by decide⟩
theorem kw_85 : Cond.initialized RX4 ∈ zg := zg_of (List.mem_of_getElem? (i := 85) (by decide +kernel)) (by decide +kernel)
theorem kw_514 : Cond.code yX4_quarrel cX4_quarrel 4 none ∈ zg := zg_of (List.mem_of_getElem? (i := 514) (by decide +kernel)) (by decide +kernel)
theorem kw_511 : Cond.methodLink RX11 86 yX4_quarrel ∈ zg := zg_of (List.mem_of_getElem? (i := 511) (by decide +kernel)) (by decide +kernel)
theorem kw_512 : Cond.instanceMethod yX4_quarrel ∈ zg := zg_of (List.mem_of_getElem? (i := 512) (by decide +kernel)) (by decide +kernel)
theorem kw_513 : Cond.selects RX4 yX4_quarrel yX4_quarrel ∈ zg := zg_of (List.mem_of_getElem? (i := 513) (by decide +kernel)) (by decide +kernel)
theorem mv_X11_86 : zMV RX11 86 yX4_quarrel cX4_quarrel 4 none 3 := ⟨⟨kw_511, kw_512, kw_513, kw_85, kw_514⟩, ⟨by decide, by decide, by decide +kernel⟩, by decide⟩
theorem kw_261 : Cond.fieldLink RX4 39 "HalfAJoke$House" "feuds" "[I" ∈ zg := zg_of (List.mem_of_getElem? (i := 261) (by decide +kernel)) (by decide +kernel)
theorem ff_X4_39_1 : zFc RX4 39 1 4 (some (20, false)) := ⟨_, _, _, tyX4, sh_1, rfl, by decide, iz_X4, kw_261, rfl, tyX4_ok, nmX4⟩
theorem kw_255 : Cond.fieldLink RX11 90 "HalfAJoke$House" "table" "LHalfAJoke$Table;" ∈ zg := zg_of (List.mem_of_getElem? (i := 255) (by decide +kernel)) (by decide +kernel)
theorem ff_X11_90_1 : zFc RX11 90 1 1 (some (7, false)) := ⟨_, _, _, tyX4, sh_1, rfl, by decide, iz_X4, kw_255, rfl, tyX4_ok, nmX4⟩
theorem kw_173 : Cond.fieldLink RX11 94 "HalfAJoke$Table" "guests" "I" ∈ zg := zg_of (List.mem_of_getElem? (i := 173) (by decide +kernel)) (by decide +kernel)
theorem iz_X9 : ∀ w ∈ u_ws RX9 TX9 5, w ∈ zg := by decide +kernel
theorem ff_X11_94_7 : zFc RX11 94 7 4 none := ⟨_, _, _, tyX9, sh_7, rfl, by decide, iz_X9, kw_173, rfl, tyX9_ok, nmX9⟩
theorem kw_87 : Cond.initialized RX9 ∈ zg := zg_of (List.mem_of_getElem? (i := 87) (by decide +kernel)) (by decide +kernel)
theorem kw_522 : Cond.code yX9_add cX9_add 3 (some .int) ∈ zg := zg_of (List.mem_of_getElem? (i := 522) (by decide +kernel)) (by decide +kernel)
theorem kw_519 : Cond.methodLink RX11 99 yX9_add ∈ zg := zg_of (List.mem_of_getElem? (i := 519) (by decide +kernel)) (by decide +kernel)
theorem kw_520 : Cond.instanceMethod yX9_add ∈ zg := zg_of (List.mem_of_getElem? (i := 520) (by decide +kernel)) (by decide +kernel)
theorem kw_521 : Cond.selects RX9 yX9_add yX9_add ∈ zg := zg_of (List.mem_of_getElem? (i := 521) (by decide +kernel)) (by decide +kernel)
theorem mv_X11_99 : zMV RX11 99 yX9_add cX9_add 3 (some .int) 1 := ⟨⟨kw_519, kw_520, kw_521, kw_87, kw_522⟩, ⟨by decide, by decide, by decide +kernel⟩, by decide⟩
theorem kw_172 : Cond.fieldLink RX9 35 "HalfAJoke$Table" "guests" "I" ∈ zg := zg_of (List.mem_of_getElem? (i := 172) (by decide +kernel)) (by decide +kernel)
theorem ff_X9_35_7 : zFc RX9 35 7 4 none := ⟨_, _, _, tyX9, sh_7, rfl, by decide, iz_X9, kw_172, rfl, tyX9_ok, nmX9⟩
theorem kw_163 : Cond.fieldLink RX9 9 "HalfAJoke$Table" "family" "[I" ∈ zg := zg_of (List.mem_of_getElem? (i := 163) (by decide +kernel)) (by decide +kernel)
theorem ff_X9_9_7 : zFc RX9 9 7 0 (some (8, false)) := ⟨_, _, _, tyX9, sh_7, rfl, by decide, iz_X9, kw_163, rfl, tyX9_ok, nmX9⟩
theorem kw_166 : Cond.fieldLink RX9 15 "HalfAJoke$Table" "place" "[I" ∈ zg := zg_of (List.mem_of_getElem? (i := 166) (by decide +kernel)) (by decide +kernel)
theorem ff_X9_15_7 : zFc RX9 15 7 1 (some (9, false)) := ⟨_, _, _, tyX9, sh_7, rfl, by decide, iz_X9, kw_166, rfl, tyX9_ok, nmX9⟩
theorem fw_7_4 : ∀ q : vw_C, ∀ ci fl, zsh 7 = .inr (ci, fl) → zcl[ci]? = some q → (q.2.1 4).2.2.2 = false ∧ (q.2.1 4).2.2.1 = "I" := zfin sh_7 rfl ⟨rfl, rfl⟩
theorem kw_530 : Cond.code yX9_canSit cX9_canSit 3 (some .boolean) ∈ zg := zg_of (List.mem_of_getElem? (i := 530) (by decide +kernel)) (by decide +kernel)
theorem kw_527 : Cond.methodLink RX11 102 yX9_canSit ∈ zg := zg_of (List.mem_of_getElem? (i := 527) (by decide +kernel)) (by decide +kernel)
theorem kw_528 : Cond.instanceMethod yX9_canSit ∈ zg := zg_of (List.mem_of_getElem? (i := 528) (by decide +kernel)) (by decide +kernel)
theorem kw_529 : Cond.selects RX9 yX9_canSit yX9_canSit ∈ zg := zg_of (List.mem_of_getElem? (i := 529) (by decide +kernel)) (by decide +kernel)
theorem mv_X11_102 : zMV RX11 102 yX9_canSit cX9_canSit 3 (some .boolean) 2 := ⟨⟨kw_527, kw_528, kw_529, kw_87, kw_530⟩, ⟨by decide, by decide, by decide +kernel⟩, by decide⟩
theorem mn_X9_38 : zMN RX9 38 yX11_isBelow cX11_isBelow 2 (some .boolean) 2 := ⟨⟨(by decide +kernel), kw_470, kw_84, kw_471⟩, ⟨by decide, by decide, by decide +kernel⟩, by decide⟩
theorem kw_170 : Cond.fieldLink RX9 31 "HalfAJoke$Table" "seats" "I" ∈ zg := zg_of (List.mem_of_getElem? (i := 170) (by decide +kernel)) (by decide +kernel)
theorem ff_X9_31_7 : zFc RX9 31 7 3 none := ⟨_, _, _, tyX9, sh_7, rfl, by decide, iz_X9, kw_170, rfl, tyX9_ok, nmX9⟩
theorem kw_168 : Cond.fieldLink RX9 18 "HalfAJoke$Table" "sitter" "[I" ∈ zg := zg_of (List.mem_of_getElem? (i := 168) (by decide +kernel)) (by decide +kernel)
theorem ff_X9_18_7 : zFc RX9 18 7 2 (some (10, false)) := ⟨_, _, _, tyX9, sh_7, rfl, by decide, iz_X9, kw_168, rfl, tyX9_ok, nmX9⟩
theorem kw_535 : Cond.code yX9_sit cX9_sit 3 none ∈ zg := zg_of (List.mem_of_getElem? (i := 535) (by decide +kernel)) (by decide +kernel)
theorem kw_532 : Cond.methodLink RX11 105 yX9_sit ∈ zg := zg_of (List.mem_of_getElem? (i := 532) (by decide +kernel)) (by decide +kernel)
theorem kw_533 : Cond.instanceMethod yX9_sit ∈ zg := zg_of (List.mem_of_getElem? (i := 533) (by decide +kernel)) (by decide +kernel)
theorem kw_534 : Cond.selects RX9 yX9_sit yX9_sit ∈ zg := zg_of (List.mem_of_getElem? (i := 534) (by decide +kernel)) (by decide +kernel)
theorem mv_X11_105 : zMV RX11 105 yX9_sit cX9_sit 3 none 2 := ⟨⟨kw_532, kw_533, kw_534, kw_87, kw_535⟩, ⟨by decide, by decide, by decide +kernel⟩, by decide⟩
theorem kw_269 : Cond.fieldLink RX11 116 "HalfAJoke$House" "spoil" "I" ∈ zg := zg_of (List.mem_of_getElem? (i := 269) (by decide +kernel)) (by decide +kernel)
theorem ff_X11_116_1 : zFc RX11 116 1 7 none := ⟨_, _, _, tyX4, sh_1, rfl, by decide, iz_X4, kw_269, rfl, tyX4_ok, nmX4⟩
theorem fw_1_7 : ∀ q : vw_C, ∀ ci fl, zsh 1 = .inr (ci, fl) → zcl[ci]? = some q → (q.2.1 7).2.2.2 = false ∧ (q.2.1 7).2.2.1 = "I" := zfin sh_1 rfl ⟨rfl, rfl⟩
theorem kw_267 : Cond.fieldLink RX11 113 "HalfAJoke$House" "need" "I" ∈ zg := zg_of (List.mem_of_getElem? (i := 267) (by decide +kernel)) (by decide +kernel)
theorem ff_X11_113_1 : zFc RX11 113 1 6 none := ⟨_, _, _, tyX4, sh_1, rfl, by decide, iz_X4, kw_267, rfl, tyX4_ok, nmX4⟩
theorem fw_1_6 : ∀ q : vw_C, ∀ ci fl, zsh 1 = .inr (ci, fl) → zcl[ci]? = some q → (q.2.1 6).2.2.2 = false ∧ (q.2.1 6).2.2.1 = "I" := zfin sh_1 rfl ⟨rfl, rfl⟩
theorem kw_162 : Cond.code yX9_layFor cX9_layFor 3 none ∈ zg := zg_of (List.mem_of_getElem? (i := 162) (by decide +kernel)) (by decide +kernel)
theorem kw_540 : Cond.methodLink RX11 109 yX9_layFor ∈ zg := zg_of (List.mem_of_getElem? (i := 540) (by decide +kernel)) (by decide +kernel)
theorem kw_160 : Cond.instanceMethod yX9_layFor ∈ zg := zg_of (List.mem_of_getElem? (i := 160) (by decide +kernel)) (by decide +kernel)
theorem kw_161 : Cond.selects RX9 yX9_layFor yX9_layFor ∈ zg := zg_of (List.mem_of_getElem? (i := 161) (by decide +kernel)) (by decide +kernel)
theorem mv_X11_109 : zMV RX11 109 yX9_layFor cX9_layFor 3 none 1 := ⟨⟨kw_540, kw_160, kw_161, kw_87, kw_162⟩, ⟨by decide, by decide, by decide +kernel⟩, by decide⟩
theorem fw_7_3 : ∀ q : vw_C, ∀ ci fl, zsh 7 = .inr (ci, fl) → zcl[ci]? = some q → (q.2.1 3).2.2.2 = false ∧ (q.2.1 3).2.2.1 = "I" := zfin sh_7 rfl ⟨rfl, rfl⟩
theorem kw_431 : Cond.fieldLink RX11 26 "HalfAJoke" "reader" "LHalfAJoke$Reader;" ∈ zg := zg_of (List.mem_of_getElem? (i := 431) (by decide +kernel)) (by decide +kernel)
theorem ff_X11_26_0 : zFc RX11 26 0 2 (some (29, false)) := ⟨_, _, _, tyX11, sh_0, rfl, by decide, iz_X11, kw_431, rfl, tyX11_ok, nmX11⟩
theorem kw_91 : Cond.initialized RX7 ∈ zg := zg_of (List.mem_of_getElem? (i := 91) (by decide +kernel)) (by decide +kernel)
theorem kw_548 : Cond.code yX7_hasRoom cX7_hasRoom 2 (some .boolean) ∈ zg := zg_of (List.mem_of_getElem? (i := 548) (by decide +kernel)) (by decide +kernel)
theorem kw_545 : Cond.methodLink RX11 119 yX7_hasRoom ∈ zg := zg_of (List.mem_of_getElem? (i := 545) (by decide +kernel)) (by decide +kernel)
theorem kw_546 : Cond.instanceMethod yX7_hasRoom ∈ zg := zg_of (List.mem_of_getElem? (i := 546) (by decide +kernel)) (by decide +kernel)
theorem kw_547 : Cond.selects RX7 yX7_hasRoom yX7_hasRoom ∈ zg := zg_of (List.mem_of_getElem? (i := 547) (by decide +kernel)) (by decide +kernel)
theorem mv_X11_119 : zMV RX11 119 yX7_hasRoom cX7_hasRoom 2 (some .boolean) 1 := ⟨⟨kw_545, kw_546, kw_547, kw_91, kw_548⟩, ⟨by decide, by decide, by decide +kernel⟩, by decide⟩
theorem kw_338 : Cond.fieldLink RX7 36 "HalfAJoke$Reader" "length" "I" ∈ zg := zg_of (List.mem_of_getElem? (i := 338) (by decide +kernel)) (by decide +kernel)
theorem iz_X7 : ∀ w ∈ u_ws RX7 TX7 11, w ∈ zg := by decide +kernel
theorem ff_X7_36_29 : zFc RX7 36 29 5 none := ⟨_, _, _, tyX7, sh_29, rfl, by decide, iz_X7, kw_338, rfl, tyX7_ok, nmX7⟩
theorem kw_552 : Cond.code yX7_put cX7_put 3 none ∈ zg := zg_of (List.mem_of_getElem? (i := 552) (by decide +kernel)) (by decide +kernel)
theorem kw_549 : Cond.methodLink RX11 122 yX7_put ∈ zg := zg_of (List.mem_of_getElem? (i := 549) (by decide +kernel)) (by decide +kernel)
theorem kw_550 : Cond.instanceMethod yX7_put ∈ zg := zg_of (List.mem_of_getElem? (i := 550) (by decide +kernel)) (by decide +kernel)
theorem kw_551 : Cond.selects RX7 yX7_put yX7_put ∈ zg := zg_of (List.mem_of_getElem? (i := 551) (by decide +kernel)) (by decide +kernel)
theorem mv_X11_122 : zMV RX11 122 yX7_put cX7_put 3 none 1 := ⟨⟨kw_549, kw_550, kw_551, kw_91, kw_552⟩, ⟨by decide, by decide, by decide +kernel⟩, by decide⟩
theorem kw_332 : Cond.fieldLink RX7 9 "HalfAJoke$Reader" "tape" "[C" ∈ zg := zg_of (List.mem_of_getElem? (i := 332) (by decide +kernel)) (by decide +kernel)
theorem ff_X7_9_29 : zFc RX7 9 29 0 (some (30, false)) := ⟨_, _, _, tyX7, sh_29, rfl, by decide, iz_X7, kw_332, rfl, tyX7_ok, nmX7⟩
theorem fw_29_5 : ∀ q : vw_C, ∀ ci fl, zsh 29 = .inr (ci, fl) → zcl[ci]? = some q → (q.2.1 5).2.2.2 = false ∧ (q.2.1 5).2.2.1 = "I" := zfin sh_29 rfl ⟨rfl, rfl⟩
theorem kw_339 : Cond.fieldLink RX11 125 "HalfAJoke$Reader" "length" "I" ∈ zg := zg_of (List.mem_of_getElem? (i := 339) (by decide +kernel)) (by decide +kernel)
theorem ff_X11_125_29 : zFc RX11 125 29 5 none := ⟨_, _, _, tyX7, sh_29, rfl, by decide, iz_X7, kw_339, rfl, tyX7_ok, nmX7⟩
theorem kw_343 : Cond.fieldLink RX11 151 "HalfAJoke$Reader" "faultPlace" "I" ∈ zg := zg_of (List.mem_of_getElem? (i := 343) (by decide +kernel)) (by decide +kernel)
theorem ff_X11_151_29 : zFc RX11 151 29 7 none := ⟨_, _, _, tyX7, sh_29, rfl, by decide, iz_X7, kw_343, rfl, tyX7_ok, nmX7⟩
theorem kw_341 : Cond.fieldLink RX11 148 "HalfAJoke$Reader" "fault" "I" ∈ zg := zg_of (List.mem_of_getElem? (i := 341) (by decide +kernel)) (by decide +kernel)
theorem ff_X11_148_29 : zFc RX11 148 29 6 none := ⟨_, _, _, tyX7, sh_29, rfl, by decide, iz_X7, kw_341, rfl, tyX7_ok, nmX7⟩
theorem kw_127 : Cond.fieldLink RX11 167 "HalfAJoke$Halves" "side" "[I" ∈ zg := zg_of (List.mem_of_getElem? (i := 127) (by decide +kernel)) (by decide +kernel)
theorem ff_X11_167_2 : zFc RX11 167 2 0 (some (3, false)) := ⟨_, _, _, tyX3, sh_2, rfl, by decide, iz_X3, kw_127, rfl, tyX3_ok, nmX3⟩
theorem kw_130 : Cond.fieldLink RX11 170 "HalfAJoke$Halves" "joke" "[I" ∈ zg := zg_of (List.mem_of_getElem? (i := 130) (by decide +kernel)) (by decide +kernel)
theorem ff_X11_170_2 : zFc RX11 170 2 1 (some (4, false)) := ⟨_, _, _, tyX3, sh_2, rfl, by decide, iz_X3, kw_130, rfl, tyX3_ok, nmX3⟩
theorem kw_134 : Cond.fieldLink RX11 173 "HalfAJoke$Halves" "wit" "[I" ∈ zg := zg_of (List.mem_of_getElem? (i := 134) (by decide +kernel)) (by decide +kernel)
theorem ff_X11_173_2 : zFc RX11 173 2 2 (some (5, false)) := ⟨_, _, _, tyX3, sh_2, rfl, by decide, iz_X3, kw_134, rfl, tyX3_ok, nmX3⟩
theorem kw_167 : Cond.fieldLink RX11 179 "HalfAJoke$Table" "place" "[I" ∈ zg := zg_of (List.mem_of_getElem? (i := 167) (by decide +kernel)) (by decide +kernel)
theorem ff_X11_179_7 : zFc RX11 179 7 1 (some (9, false)) := ⟨_, _, _, tyX9, sh_7, rfl, by decide, iz_X9, kw_167, rfl, tyX9_ok, nmX9⟩
theorem kw_165 : Cond.fieldLink RX11 176 "HalfAJoke$Table" "family" "[I" ∈ zg := zg_of (List.mem_of_getElem? (i := 165) (by decide +kernel)) (by decide +kernel)
theorem ff_X11_176_7 : zFc RX11 176 7 0 (some (8, false)) := ⟨_, _, _, tyX9, sh_7, rfl, by decide, iz_X9, kw_165, rfl, tyX9_ok, nmX9⟩
theorem kw_851 : Cond.code yX11_arePair cX11_arePair 3 (some .boolean) ∈ zg := zg_of (List.mem_of_getElem? (i := 851) (by decide +kernel)) (by decide +kernel)
theorem kw_848 : Cond.methodLink RX11 182 yX11_arePair ∈ zg := zg_of (List.mem_of_getElem? (i := 848) (by decide +kernel)) (by decide +kernel)
theorem kw_850 : Cond.instanceMethod yX11_arePair ∈ zg := zg_of (List.mem_of_getElem? (i := 850) (by decide +kernel)) (by decide +kernel)
theorem kw_18 : Cond.selects RX11 yX11_arePair yX11_arePair ∈ zg := zg_of (List.mem_of_getElem? (i := 18) (by decide +kernel)) (by decide +kernel)
theorem mv_X11_182 : zMV RX11 182 yX11_arePair cX11_arePair 3 (some .boolean) 2 := ⟨⟨kw_848, kw_850, kw_18, kw_84, kw_851⟩, ⟨by decide, by decide, by decide +kernel⟩, by decide⟩
theorem kw_855 : Cond.code yX3_isOn cX3_isOn 3 (some .boolean) ∈ zg := zg_of (List.mem_of_getElem? (i := 855) (by decide +kernel)) (by decide +kernel)
theorem kw_852 : Cond.methodLink RX11 316 yX3_isOn ∈ zg := zg_of (List.mem_of_getElem? (i := 852) (by decide +kernel)) (by decide +kernel)
theorem kw_853 : Cond.instanceMethod yX3_isOn ∈ zg := zg_of (List.mem_of_getElem? (i := 853) (by decide +kernel)) (by decide +kernel)
theorem kw_854 : Cond.selects RX3 yX3_isOn yX3_isOn ∈ zg := zg_of (List.mem_of_getElem? (i := 854) (by decide +kernel)) (by decide +kernel)
theorem mv_X11_316 : zMV RX11 316 yX3_isOn cX3_isOn 3 (some .boolean) 2 := ⟨⟨kw_852, kw_853, kw_854, kw_86, kw_855⟩, ⟨by decide, by decide, by decide +kernel⟩, by decide⟩
theorem kw_856 : Cond.methodLink RX3 38 yX3_has ∈ zg := zg_of (List.mem_of_getElem? (i := 856) (by decide +kernel)) (by decide +kernel)
theorem mv_X3_38 : zMV RX3 38 yX3_has cX3_has 2 (some .boolean) 1 := ⟨⟨kw_856, kw_481, kw_482, kw_86, kw_483⟩, ⟨by decide, by decide, by decide +kernel⟩, by decide⟩
theorem kw_258 : Cond.fieldLink RX11 154 "HalfAJoke$House" "book" "LHalfAJoke$Book;" ∈ zg := zg_of (List.mem_of_getElem? (i := 258) (by decide +kernel)) (by decide +kernel)
theorem ff_X11_154_1 : zFc RX11 154 1 2 (some (11, false)) := ⟨_, _, _, tyX4, sh_1, rfl, by decide, iz_X4, kw_258, rfl, tyX4_ok, nmX4⟩
theorem kw_194 : Cond.fieldLink RX11 188 "HalfAJoke$Book" "told" "[I" ∈ zg := zg_of (List.mem_of_getElem? (i := 194) (by decide +kernel)) (by decide +kernel)
theorem iz_X0 : ∀ w ∈ u_ws RX0 TX0 6, w ∈ zg := by decide +kernel
theorem ff_X11_188_11 : zFc RX11 188 11 0 (some (12, false)) := ⟨_, _, _, tyX0, sh_11, rfl, by decide, iz_X0, kw_194, rfl, tyX0_ok, nmX0⟩
theorem kw_802 : Cond.code yX11_pairOf cX11_pairOf 2 (some .int) ∈ zg := zg_of (List.mem_of_getElem? (i := 802) (by decide +kernel)) (by decide +kernel)
theorem kw_821 : Cond.methodLink RX11 191 yX11_pairOf ∈ zg := zg_of (List.mem_of_getElem? (i := 821) (by decide +kernel)) (by decide +kernel)
theorem kw_801 : Cond.static yX11_pairOf ∈ zg := zg_of (List.mem_of_getElem? (i := 801) (by decide +kernel)) (by decide +kernel)
theorem ms_X11_191 : zMS RX11 191 yX11_pairOf cX11_pairOf 2 (some .int) 2 := ⟨⟨kw_821, kw_801, kw_84, kw_802⟩, ⟨by decide, by decide, by decide +kernel⟩, by decide⟩
theorem kw_206 : Cond.fieldLink RX11 221 "HalfAJoke$Book" "lines" "I" ∈ zg := zg_of (List.mem_of_getElem? (i := 206) (by decide +kernel)) (by decide +kernel)
theorem ff_X11_221_11 : zFc RX11 221 11 4 none := ⟨_, _, _, tyX0, sh_11, rfl, by decide, iz_X0, kw_206, rfl, tyX0_ok, nmX0⟩
theorem kw_203 : Cond.fieldLink RX11 222 "HalfAJoke$Book" "rows" "[I" ∈ zg := zg_of (List.mem_of_getElem? (i := 203) (by decide +kernel)) (by decide +kernel)
theorem ff_X11_222_11 : zFc RX11 222 11 3 (some (15, false)) := ⟨_, _, _, tyX0, sh_11, rfl, by decide, iz_X0, kw_203, rfl, tyX0_ok, nmX0⟩
theorem kw_201 : Cond.fieldLink RX11 225 "HalfAJoke$Book" "fame" "[I" ∈ zg := zg_of (List.mem_of_getElem? (i := 201) (by decide +kernel)) (by decide +kernel)
theorem ff_X11_225_11 : zFc RX11 225 11 2 (some (14, false)) := ⟨_, _, _, tyX0, sh_11, rfl, by decide, iz_X0, kw_201, rfl, tyX0_ok, nmX0⟩
theorem kw_1020 : Cond.code yX3_isLike cX3_isLike 5 (some .boolean) ∈ zg := zg_of (List.mem_of_getElem? (i := 1020) (by decide +kernel)) (by decide +kernel)
theorem kw_1017 : Cond.methodLink RX11 269 yX3_isLike ∈ zg := zg_of (List.mem_of_getElem? (i := 1017) (by decide +kernel)) (by decide +kernel)
theorem kw_1018 : Cond.instanceMethod yX3_isLike ∈ zg := zg_of (List.mem_of_getElem? (i := 1018) (by decide +kernel)) (by decide +kernel)
theorem kw_1019 : Cond.selects RX3 yX3_isLike yX3_isLike ∈ zg := zg_of (List.mem_of_getElem? (i := 1019) (by decide +kernel)) (by decide +kernel)
theorem mv_X11_269 : zMV RX11 269 yX3_isLike cX3_isLike 5 (some .boolean) 3 := ⟨⟨kw_1017, kw_1018, kw_1019, kw_86, kw_1020⟩, ⟨by decide, by decide, by decide +kernel⟩, by decide⟩
theorem kw_1021 : Cond.methodLink RX3 53 Lib.Math.abs.name ∈ zg := zg_of (List.mem_of_getElem? (i := 1021) (by decide +kernel)) (by decide +kernel)
theorem kw_1093 : Cond.code yX6_goBack cX6_goBack 5 (some .boolean) ∈ zg := zg_of (List.mem_of_getElem? (i := 1093) (by decide +kernel)) (by decide +kernel)
theorem kw_1090 : Cond.methodLink RX11 301 yX6_goBack ∈ zg := zg_of (List.mem_of_getElem? (i := 1090) (by decide +kernel)) (by decide +kernel)
theorem kw_1091 : Cond.instanceMethod yX6_goBack ∈ zg := zg_of (List.mem_of_getElem? (i := 1091) (by decide +kernel)) (by decide +kernel)
theorem kw_1092 : Cond.selects RX6 yX6_goBack yX6_goBack ∈ zg := zg_of (List.mem_of_getElem? (i := 1092) (by decide +kernel)) (by decide +kernel)
theorem mv_X11_301 : zMV RX11 301 yX6_goBack cX6_goBack 5 (some .boolean) 1 := ⟨⟨kw_1090, kw_1091, kw_1092, kw_90, kw_1093⟩, ⟨by decide, by decide, by decide +kernel⟩, by decide⟩
theorem kw_257 : Cond.fieldLink RX6 43 "HalfAJoke$House" "book" "LHalfAJoke$Book;" ∈ zg := zg_of (List.mem_of_getElem? (i := 257) (by decide +kernel)) (by decide +kernel)
theorem ff_X6_43_1 : zFc RX6 43 1 2 (some (11, false)) := ⟨_, _, _, tyX4, sh_1, rfl, by decide, iz_X4, kw_257, rfl, tyX4_ok, nmX4⟩
theorem kw_298 : Cond.fieldLink RX6 11 "HalfAJoke$Past" "tellings" "[I" ∈ zg := zg_of (List.mem_of_getElem? (i := 298) (by decide +kernel)) (by decide +kernel)
theorem ff_X6_11_22 : zFc RX6 11 22 0 (some (23, false)) := ⟨_, _, _, tyX6, sh_22, rfl, by decide, iz_X6, kw_298, rfl, tyX6_ok, nmX6⟩
theorem kw_304 : Cond.fieldLink RX6 34 "HalfAJoke$Past" "newest" "I" ∈ zg := zg_of (List.mem_of_getElem? (i := 304) (by decide +kernel)) (by decide +kernel)
theorem ff_X6_34_22 : zFc RX6 34 22 6 none := ⟨_, _, _, tyX6, sh_22, rfl, by decide, iz_X6, kw_304, rfl, tyX6_ok, nmX6⟩
theorem kw_301 : Cond.fieldLink RX6 21 "HalfAJoke$Past" "fames" "[I" ∈ zg := zg_of (List.mem_of_getElem? (i := 301) (by decide +kernel)) (by decide +kernel)
theorem ff_X6_21_22 : zFc RX6 21 22 3 (some (26, false)) := ⟨_, _, _, tyX6, sh_22, rfl, by decide, iz_X6, kw_301, rfl, tyX6_ok, nmX6⟩
theorem kw_200 : Cond.fieldLink RX6 55 "HalfAJoke$Book" "fame" "[I" ∈ zg := zg_of (List.mem_of_getElem? (i := 200) (by decide +kernel)) (by decide +kernel)
theorem ff_X6_55_11 : zFc RX6 55 11 2 (some (14, false)) := ⟨_, _, _, tyX0, sh_11, rfl, by decide, iz_X0, kw_200, rfl, tyX0_ok, nmX0⟩
theorem kw_769 : Cond.methodLink RX6 58 arraycopyName ∈ zg := zg_of (List.mem_of_getElem? (i := 769) (by decide +kernel)) (by decide +kernel)
theorem kw_302 : Cond.fieldLink RX6 24 "HalfAJoke$Past" "lines" "[I" ∈ zg := zg_of (List.mem_of_getElem? (i := 302) (by decide +kernel)) (by decide +kernel)
theorem ff_X6_24_22 : zFc RX6 24 22 4 (some (27, false)) := ⟨_, _, _, tyX6, sh_22, rfl, by decide, iz_X6, kw_302, rfl, tyX6_ok, nmX6⟩
theorem kw_205 : Cond.fieldLink RX6 49 "HalfAJoke$Book" "lines" "I" ∈ zg := zg_of (List.mem_of_getElem? (i := 205) (by decide +kernel)) (by decide +kernel)
theorem ff_X6_49_11 : zFc RX6 49 11 4 none := ⟨_, _, _, tyX0, sh_11, rfl, by decide, iz_X0, kw_205, rfl, tyX0_ok, nmX0⟩
theorem fw_11_4 : ∀ q : vw_C, ∀ ci fl, zsh 11 = .inr (ci, fl) → zcl[ci]? = some q → (q.2.1 4).2.2.2 = false ∧ (q.2.1 4).2.2.1 = "I" := zfin sh_11 rfl ⟨rfl, rfl⟩
theorem kw_209 : Cond.fieldLink RX6 70 "HalfAJoke$Book" "night" "I" ∈ zg := zg_of (List.mem_of_getElem? (i := 209) (by decide +kernel)) (by decide +kernel)
theorem ff_X6_70_11 : zFc RX6 70 11 5 none := ⟨_, _, _, tyX0, sh_11, rfl, by decide, iz_X0, kw_209, rfl, tyX0_ok, nmX0⟩
theorem fw_11_5 : ∀ q : vw_C, ∀ ci fl, zsh 11 = .inr (ci, fl) → zcl[ci]? = some q → (q.2.1 5).2.2.2 = false ∧ (q.2.1 5).2.2.1 = "I" := zfin sh_11 rfl ⟨rfl, rfl⟩
theorem kw_303 : Cond.fieldLink RX6 27 "HalfAJoke$Past" "draws" "[I" ∈ zg := zg_of (List.mem_of_getElem? (i := 303) (by decide +kernel)) (by decide +kernel)
theorem ff_X6_27_22 : zFc RX6 27 22 5 (some (28, false)) := ⟨_, _, _, tyX6, sh_22, rfl, by decide, iz_X6, kw_303, rfl, tyX6_ok, nmX6⟩
theorem kw_272 : Cond.fieldLink RX6 53 "HalfAJoke$House" "draws" "I" ∈ zg := zg_of (List.mem_of_getElem? (i := 272) (by decide +kernel)) (by decide +kernel)
theorem ff_X6_53_1 : zFc RX6 53 1 8 none := ⟨_, _, _, tyX4, sh_1, rfl, by decide, iz_X4, kw_272, rfl, tyX4_ok, nmX4⟩
theorem fw_22_6 : ∀ q : vw_C, ∀ ci fl, zsh 22 = .inr (ci, fl) → zcl[ci]? = some q → (q.2.1 6).2.2.2 = false ∧ (q.2.1 6).2.2.1 = "I" := zfin sh_22 rfl ⟨rfl, rfl⟩
theorem kw_299 : Cond.fieldLink RX6 15 "HalfAJoke$Past" "pairs" "[I" ∈ zg := zg_of (List.mem_of_getElem? (i := 299) (by decide +kernel)) (by decide +kernel)
theorem ff_X6_15_22 : zFc RX6 15 22 1 (some (24, false)) := ⟨_, _, _, tyX6, sh_22, rfl, by decide, iz_X6, kw_299, rfl, tyX6_ok, nmX6⟩
theorem kw_193 : Cond.fieldLink RX6 64 "HalfAJoke$Book" "told" "[I" ∈ zg := zg_of (List.mem_of_getElem? (i := 193) (by decide +kernel)) (by decide +kernel)
theorem ff_X6_64_11 : zFc RX6 64 11 0 (some (12, false)) := ⟨_, _, _, tyX0, sh_11, rfl, by decide, iz_X0, kw_193, rfl, tyX0_ok, nmX0⟩
theorem kw_197 : Cond.fieldLink RX6 67 "HalfAJoke$Book" "last" "[I" ∈ zg := zg_of (List.mem_of_getElem? (i := 197) (by decide +kernel)) (by decide +kernel)
theorem ff_X6_67_11 : zFc RX6 67 11 1 (some (13, false)) := ⟨_, _, _, tyX0, sh_11, rfl, by decide, iz_X0, kw_197, rfl, tyX0_ok, nmX0⟩
theorem kw_300 : Cond.fieldLink RX6 18 "HalfAJoke$Past" "lasts" "[I" ∈ zg := zg_of (List.mem_of_getElem? (i := 300) (by decide +kernel)) (by decide +kernel)
theorem ff_X6_18_22 : zFc RX6 18 22 2 (some (25, false)) := ⟨_, _, _, tyX6, sh_22, rfl, by decide, iz_X6, kw_300, rfl, tyX6_ok, nmX6⟩
theorem kw_171 : Cond.fieldLink RX11 194 "HalfAJoke$Table" "seats" "I" ∈ zg := zg_of (List.mem_of_getElem? (i := 171) (by decide +kernel)) (by decide +kernel)
theorem ff_X11_194_7 : zFc RX11 194 7 3 none := ⟨_, _, _, tyX9, sh_7, rfl, by decide, iz_X9, kw_171, rfl, tyX9_ok, nmX9⟩
theorem kw_210 : Cond.fieldLink RX11 158 "HalfAJoke$Book" "night" "I" ∈ zg := zg_of (List.mem_of_getElem? (i := 210) (by decide +kernel)) (by decide +kernel)
theorem ff_X11_158_11 : zFc RX11 158 11 5 none := ⟨_, _, _, tyX0, sh_11, rfl, by decide, iz_X0, kw_210, rfl, tyX0_ok, nmX0⟩
theorem kw_260 : Cond.fieldLink RX11 132 "HalfAJoke$House" "law" "LHalfAJoke$Law;" ∈ zg := zg_of (List.mem_of_getElem? (i := 260) (by decide +kernel)) (by decide +kernel)
theorem ff_X11_132_1 : zFc RX11 132 1 3 (some (16, false)) := ⟨_, _, _, tyX4, sh_1, rfl, by decide, iz_X4, kw_260, rfl, tyX4_ok, nmX4⟩
theorem kw_235 : Cond.fieldLink RX11 145 "HalfAJoke$Law" "lines" "I" ∈ zg := zg_of (List.mem_of_getElem? (i := 235) (by decide +kernel)) (by decide +kernel)
theorem iz_X5 : ∀ w ∈ u_ws RX5 TX5 5, w ∈ zg := by decide +kernel
theorem ff_X11_145_16 : zFc RX11 145 16 4 none := ⟨_, _, _, tyX5, sh_16, rfl, by decide, iz_X5, kw_235, rfl, tyX5_ok, nmX5⟩
theorem kw_306 : Cond.fieldLink RX11 309 "HalfAJoke$Past" "count" "I" ∈ zg := zg_of (List.mem_of_getElem? (i := 306) (by decide +kernel)) (by decide +kernel)
theorem ff_X11_309_22 : zFc RX11 309 22 7 none := ⟨_, _, _, tyX6, sh_22, rfl, by decide, iz_X6, kw_306, rfl, tyX6_ok, nmX6⟩
theorem kw_1126 : Cond.code yX11_lookInRows cX11_lookInRows 2 (some .int) ∈ zg := zg_of (List.mem_of_getElem? (i := 1126) (by decide +kernel)) (by decide +kernel)
theorem kw_1123 : Cond.methodLink RX11 310 yX11_lookInRows ∈ zg := zg_of (List.mem_of_getElem? (i := 1123) (by decide +kernel)) (by decide +kernel)
theorem kw_1125 : Cond.instanceMethod yX11_lookInRows ∈ zg := zg_of (List.mem_of_getElem? (i := 1125) (by decide +kernel)) (by decide +kernel)
theorem kw_31 : Cond.selects RX11 yX11_lookInRows yX11_lookInRows ∈ zg := zg_of (List.mem_of_getElem? (i := 31) (by decide +kernel)) (by decide +kernel)
theorem mv_X11_310 : zMV RX11 310 yX11_lookInRows cX11_lookInRows 2 (some .int) 1 := ⟨⟨kw_1123, kw_1125, kw_31, kw_84, kw_1126⟩, ⟨by decide, by decide, by decide +kernel⟩, by decide⟩
theorem kw_263 : Cond.fieldLink RX11 313 "HalfAJoke$House" "feuds" "[I" ∈ zg := zg_of (List.mem_of_getElem? (i := 263) (by decide +kernel)) (by decide +kernel)
theorem ff_X11_313_1 : zFc RX11 313 1 4 (some (20, false)) := ⟨_, _, _, tyX4, sh_1, rfl, by decide, iz_X4, kw_263, rfl, tyX4_ok, nmX4⟩
theorem kw_169 : Cond.fieldLink RX11 200 "HalfAJoke$Table" "sitter" "[I" ∈ zg := zg_of (List.mem_of_getElem? (i := 169) (by decide +kernel)) (by decide +kernel)
theorem ff_X11_200_7 : zFc RX11 200 7 2 (some (10, false)) := ⟨_, _, _, tyX9, sh_7, rfl, by decide, iz_X9, kw_169, rfl, tyX9_ok, nmX9⟩
section
theorem dX6_forget_0 : decode cX6_forget 0 = .ok (.aload_n 0, 1) := by decide +kernel
theorem dX6_forget_1 : decode cX6_forget 1 = .ok (.iconst 0, 1) := by decide +kernel
theorem dX6_forget_2 : decode cX6_forget 2 = .ok (.putfield 30, 3) := by decide +kernel
theorem dX6_forget_5 : decode cX6_forget 5 = .ok (.return_, 1) := by decide +kernel
abbrev nd_X6_forget : List Nat := [22]
abbrev ld_X6_forget : List (Nat × Nat) := []
def f_X6_forget  (h : zH) : zR := (zst (zup h 22 7 (0 : Int32)) fun h1 => (some (0, h1)))
variable {p : Program} {l : Launch} {e : Env} {s : State} {m : MethodId} {args : Array Value} {below : List Frame} {meth : Method} {c : Code} {G : zG} {q : Int32 × zH}
set_option maxHeartbeats 4000000 in
set_option maxRecDepth 100000 in
theorem c_X6_forget (l : Launch) (G : zG) (h : zH) (q : Int32 × zH) (hm : ∀ c ∈ nd_X6_forget, c ∈ znm G) (hk : ∀ q ∈ ld_X6_forget, zlk G q.1 q.2 = true) (hf : f_X6_forget h = some q) : zCtV l yX6_forget cX6_forget 1 none (2) [.ref (zal G 22)] G h q.2 := by
  refine zMetV (by decide) (Nat.le_of_ble_eq_true rfl) ?_
  intro p e s m below meth c ls C hl hS
  have hl : lv_has ls 1 [(0, .ref (zal G 22))] := hl
  have C : zC G p s m [.ref (zal G 22)].toArray meth c cX6_forget 1 RX6 none := C
  unfold f_X6_forget at hf
  refine lv_aload_n C.1 C.2.1 dX6_forget_0 rfl (lv_at hl 0 rfl) ?_
  refine lv_iconst (v := (0 : Int32)) C.1 C.2.1 dX6_forget_1 rfl ?_
  refine zputI C hS ff_X6_30_22 fw_22_7 (hm 22 (by decide)) dX6_forget_2 (fun H locs hS => ?_)
  obtain ⟨h1, eh1, hf⟩ := zst_some hf
  have hS : zS G h1 s.heap H locs := by rw [eh1]; exact hS
  exact zretV C hS hf dX6_forget_5
end
section
theorem dX11_state_0 : decode cX11_state 0 = .ok (.aload_n 0, 1) := by decide +kernel
theorem dX11_state_1 : decode cX11_state 1 = .ok (.getfield 12, 3) := by decide +kernel
theorem dX11_state_4 : decode cX11_state 4 = .ok (.getfield 43, 3) := by decide +kernel
theorem dX11_state_7 : decode cX11_state 7 = .ok (.istore_n 2, 1) := by decide +kernel
theorem dX11_state_8 : decode cX11_state 8 = .ok (.aload_n 0, 1) := by decide +kernel
theorem dX11_state_9 : decode cX11_state 9 = .ok (.getfield 12, 3) := by decide +kernel
theorem dX11_state_12 : decode cX11_state 12 = .ok (.iload_n 1, 1) := by decide +kernel
theorem dX11_state_13 : decode cX11_state 13 = .ok (.putfield 43, 3) := by decide +kernel
theorem dX11_state_16 : decode cX11_state 16 = .ok (.aload_n 0, 1) := by decide +kernel
theorem dX11_state_17 : decode cX11_state 17 = .ok (.getfield 19, 3) := by decide +kernel
theorem dX11_state_20 : decode cX11_state 20 = .ok (.invokevirtual 47, 3) := by decide +kernel
theorem dX11_state_23 : decode cX11_state 23 = .ok (.iload_n 2, 1) := by decide +kernel
theorem dX11_state_24 : decode cX11_state 24 = .ok (.ireturn, 1) := by decide +kernel
abbrev nd_X11_state : List Nat := [0, 1, 22]
abbrev ld_X11_state : List (Nat × Nat) := [(0, 0), (0, 1)]
theorem sn_X11_state_X6_forget : ∀ c ∈ nd_X6_forget, c ∈ nd_X11_state := by decide
theorem sl_X11_state_X6_forget : ∀ q ∈ ld_X6_forget, q ∈ ld_X11_state := by decide
def f_X11_state  (x1 : Int32) (h : zH) : zR := (zlt (h 1 8) fun y1 => (zst (zup h 1 8 x1) fun h2 => (zbd (f_X6_forget  h2) fun r3 h4 => (some (y1, h4)))))
variable {p : Program} {l : Launch} {e : Env} {s : State} {m : MethodId} {args : Array Value} {below : List Frame} {meth : Method} {c : Code} {G : zG} {q : Int32 × zH}
set_option maxHeartbeats 4000000 in
set_option maxRecDepth 100000 in
theorem c_X11_state (l : Launch) (G : zG) (h : zH) (x1 : Int32) (q : Int32 × zH) (hm : ∀ c ∈ nd_X11_state, c ∈ znm G) (hk : ∀ q ∈ ld_X11_state, zlk G q.1 q.2 = true) (hf : f_X11_state x1 h = some q) : zCtI l yX11_state cX11_state 3 (some .int) (3) [.ref (zal G 0), .int x1] G h q.2 q.1 := by
  refine zMetI (by decide) (Nat.le_of_ble_eq_true rfl) ?_
  intro p e s m below meth c ls C hl hS
  have hl : lv_has ls 3 [(0, .ref (zal G 0)), (1, .int x1)] := hl
  have C : zC G p s m [.ref (zal G 0), .int x1].toArray meth c cX11_state 3 RX11 (some .int) := C
  unfold f_X11_state at hf
  refine lv_aload_n C.1 C.2.1 dX11_state_0 rfl (lv_at hl 0 rfl) ?_
  refine zgetR C hS ff_X11_12_0 (hm 0 (by decide)) (hk (0, 0) (by decide)) dX11_state_1 ?_
  refine zgetI C hS ff_X11_43_1 (hm 1 (by decide)) dX11_state_4 ?_
  obtain ⟨y1, ey1, hf⟩ := zlt_some hf
  refine ztop ey1 ?_
  refine lv_istore_n (lv' := [(2, .int y1), (0, .ref (zal G 0)), (1, .int x1)]) C.1 C.2.1 dX11_state_7 rfl hl (by decide) rfl (fun ls hl => ?_)
  refine lv_aload_n C.1 C.2.1 dX11_state_8 rfl (lv_at hl 1 rfl) ?_
  refine zgetR C hS ff_X11_12_0 (hm 0 (by decide)) (hk (0, 0) (by decide)) dX11_state_9 ?_
  refine lv_iload_n C.1 C.2.1 dX11_state_12 rfl (lv_at hl 2 rfl) ?_
  refine zputI C hS ff_X11_43_1 fw_1_8 (hm 1 (by decide)) dX11_state_13 (fun H locs hS => ?_)
  obtain ⟨h2, eh2, hf⟩ := zst_some hf
  have hS : zS G h2 s.heap H locs := by rw [eh2]; exact hS
  refine lv_aload_n C.1 C.2.1 dX11_state_16 rfl (lv_at hl 1 rfl) ?_
  refine zgetR C hS ff_X11_19_0 (hm 0 (by decide)) (hk (0, 1) (by decide)) dX11_state_17 ?_
  obtain ⟨r3, h4, er3, hf⟩ := zbd_some hf
  refine zcallVV (As := []) (rest := []) C hS mv_X11_47 (c_X6_forget l G h2  (r3, h4) (fun c h => hm c (sn_X11_state_X6_forget c h)) (fun q h => hk q (sl_X11_state_X6_forget q h)) er3) (hm 22 (by decide)) ⟨_, _, _, sh_22, rfl, rfl⟩ rfl rfl (Nat.le_of_ble_eq_true rfl) hl.1 ⟨Nat.le_of_ble_eq_true rfl, Nat.le_of_ble_eq_true rfl, Nat.le_of_ble_eq_true rfl, Nat.le_of_ble_eq_true rfl⟩ dX11_state_20 (fun H locs hS => ?_)
  refine lv_iload_n C.1 C.2.1 dX11_state_23 rfl (lv_at hl 0 rfl) ?_
  exact zretI C hS hf dX11_state_24
end
section
theorem dX11_isBelow_0 : decode cX11_isBelow 0 = .ok (.iload_n 0, 1) := by decide +kernel
theorem dX11_isBelow_1 : decode cX11_isBelow 1 = .ok (.ifCond .lt 12, 3) := by decide +kernel
theorem dX11_isBelow_4 : decode cX11_isBelow 4 = .ok (.iload_n 0, 1) := by decide +kernel
theorem dX11_isBelow_5 : decode cX11_isBelow 5 = .ok (.iload_n 1, 1) := by decide +kernel
theorem dX11_isBelow_6 : decode cX11_isBelow 6 = .ok (.if_icmp .ge 7, 3) := by decide +kernel
theorem dX11_isBelow_9 : decode cX11_isBelow 9 = .ok (.iconst 1, 1) := by decide +kernel
theorem dX11_isBelow_10 : decode cX11_isBelow 10 = .ok (.goto 4, 3) := by decide +kernel
theorem dX11_isBelow_13 : decode cX11_isBelow 13 = .ok (.iconst 0, 1) := by decide +kernel
theorem dX11_isBelow_14 : decode cX11_isBelow 14 = .ok (.ireturn, 1) := by decide +kernel
abbrev nd_X11_isBelow : List Nat := []
abbrev ld_X11_isBelow : List (Nat × Nat) := []
def f_X11_isBelow_13  (h : zH) : zR := (some ((0 : Int32), h))
def f_X11_isBelow  (x0 : Int32) (x1 : Int32) (h : zH) : zR := (if x0 < 0 then (f_X11_isBelow_13   h) else (if x1 ≤ x0 then (f_X11_isBelow_13   h) else (some ((1 : Int32), h))))
variable {p : Program} {l : Launch} {e : Env} {s : State} {m : MethodId} {args : Array Value} {below : List Frame} {meth : Method} {c : Code} {G : zG} {q : Int32 × zH}
set_option maxHeartbeats 4000000 in
set_option maxRecDepth 100000 in
theorem w_X11_isBelow_13  (C : zC G p s m args meth c cX11_isBelow 2 RX11 (some .boolean)) (hm : ∀ c ∈ nd_X11_isBelow, c ∈ znm G) (hk : ∀ q ∈ ld_X11_isBelow, zlk G q.1 q.2 = true)  : ∀ (ls : Array Slot) (H : Heap) (locs : List Loc) (h : zH), lv_has ls 2 [] → zS G h s.heap H locs → f_X11_isBelow_13  h = some q → W p l e (zrm (2)) s m args below meth c H locs 0 0 (MQ below (zQI G q.2 q.1) args s 0 0 (zA G)) (F0 m 13 ls []) := by
  intro ls H locs h hl hS hf
  unfold f_X11_isBelow_13 at hf
  refine lv_iconst (v := (0 : Int32)) C.1 C.2.1 dX11_isBelow_13 rfl ?_
  exact zretZ C hS rfl hf dX11_isBelow_14
set_option maxHeartbeats 4000000 in
set_option maxRecDepth 100000 in
theorem c_X11_isBelow (l : Launch) (G : zG) (h : zH) (x0 : Int32) (x1 : Int32) (q : Int32 × zH) (hm : ∀ c ∈ nd_X11_isBelow, c ∈ znm G) (hk : ∀ q ∈ ld_X11_isBelow, zlk G q.1 q.2 = true) (hf : f_X11_isBelow x0 x1 h = some q) : zCtI l yX11_isBelow cX11_isBelow 2 (some .boolean) (2) [.int x0, .int x1] G h q.2 q.1 := by
  refine zMetI (by decide) (Nat.le_of_ble_eq_true rfl) ?_
  intro p e s m below meth c ls C hl hS
  have hl : lv_has ls 2 [(0, .int x0), (1, .int x1)] := hl
  have C : zC G p s m [.int x0, .int x1].toArray meth c cX11_isBelow 2 RX11 (some .boolean) := C
  unfold f_X11_isBelow at hf
  refine lv_iload_n C.1 C.2.1 dX11_isBelow_0 rfl (lv_at hl 0 rfl) ?_
  refine lv_if_lt (tgt := 13) C.1 C.2.1 dX11_isBelow_1 (by decide) (fun hc => ?_) (fun hc => ?_)
  · have hf := zif_t hc hf
    exact w_X11_isBelow_13 C hm hk  _ _ _ _ (lv_sub hl [] rfl) hS hf
  · have hf := zif_f hc hf
    refine lv_iload_n C.1 C.2.1 dX11_isBelow_4 rfl (lv_at hl 0 rfl) ?_
    refine lv_iload_n C.1 C.2.1 dX11_isBelow_5 rfl (lv_at hl 1 rfl) ?_
    refine lv_icmp_ge (tgt := 13) C.1 C.2.1 dX11_isBelow_6 (by decide) (fun hc => ?_) (fun hc => ?_)
    · have hf := zif_t hc hf
      exact w_X11_isBelow_13 C hm hk  _ _ _ _ (lv_sub hl [] rfl) hS hf
    · have hf := zif_f hc hf
      refine lv_iconst (v := (1 : Int32)) C.1 C.2.1 dX11_isBelow_9 rfl ?_
      refine lv_goto (tgt := 14) C.1 C.2.1 dX11_isBelow_10 (by decide) ?_
      exact zretZ C hS rfl hf dX11_isBelow_14
end
section
theorem dX3_add_0 : decode cX3_add 0 = .ok (.aload_n 0, 1) := by decide +kernel
theorem dX3_add_1 : decode cX3_add 1 = .ok (.getfield 30, 3) := by decide +kernel
theorem dX3_add_4 : decode cX3_add 4 = .ok (.istore 5, 2) := by decide +kernel
theorem dX3_add_6 : decode cX3_add 6 = .ok (.aload_n 0, 1) := by decide +kernel
theorem dX3_add_7 : decode cX3_add 7 = .ok (.getfield 9, 3) := by decide +kernel
theorem dX3_add_10 : decode cX3_add 10 = .ok (.iload 5, 2) := by decide +kernel
theorem dX3_add_12 : decode cX3_add 12 = .ok (.iload_n 1, 1) := by decide +kernel
theorem dX3_add_13 : decode cX3_add 13 = .ok (.iastore, 1) := by decide +kernel
theorem dX3_add_14 : decode cX3_add 14 = .ok (.aload_n 0, 1) := by decide +kernel
theorem dX3_add_15 : decode cX3_add 15 = .ok (.getfield 15, 3) := by decide +kernel
theorem dX3_add_18 : decode cX3_add 18 = .ok (.iload 5, 2) := by decide +kernel
theorem dX3_add_20 : decode cX3_add 20 = .ok (.iload_n 2, 1) := by decide +kernel
theorem dX3_add_21 : decode cX3_add 21 = .ok (.iastore, 1) := by decide +kernel
theorem dX3_add_22 : decode cX3_add 22 = .ok (.aload_n 0, 1) := by decide +kernel
theorem dX3_add_23 : decode cX3_add 23 = .ok (.getfield 18, 3) := by decide +kernel
theorem dX3_add_26 : decode cX3_add 26 = .ok (.iload 5, 2) := by decide +kernel
theorem dX3_add_28 : decode cX3_add 28 = .ok (.iload_n 3, 1) := by decide +kernel
theorem dX3_add_29 : decode cX3_add 29 = .ok (.iastore, 1) := by decide +kernel
theorem dX3_add_30 : decode cX3_add 30 = .ok (.iconst 0, 1) := by decide +kernel
theorem dX3_add_31 : decode cX3_add 31 = .ok (.istore 6, 2) := by decide +kernel
theorem dX3_add_33 : decode cX3_add 33 = .ok (.iload 6, 2) := by decide +kernel
theorem dX3_add_35 : decode cX3_add 35 = .ok (.bipush 6, 2) := by decide +kernel
theorem dX3_add_37 : decode cX3_add 37 = .ok (.if_icmp .ge 34, 3) := by decide +kernel
theorem dX3_add_40 : decode cX3_add 40 = .ok (.aload_n 0, 1) := by decide +kernel
theorem dX3_add_41 : decode cX3_add 41 = .ok (.getfield 21, 3) := by decide +kernel
theorem dX3_add_44 : decode cX3_add 44 = .ok (.iload 5, 2) := by decide +kernel
theorem dX3_add_46 : decode cX3_add 46 = .ok (.bipush 6, 2) := by decide +kernel
theorem dX3_add_48 : decode cX3_add 48 = .ok (.imul, 1) := by decide +kernel
theorem dX3_add_49 : decode cX3_add 49 = .ok (.iload 6, 2) := by decide +kernel
theorem dX3_add_51 : decode cX3_add 51 = .ok (.iadd, 1) := by decide +kernel
theorem dX3_add_52 : decode cX3_add 52 = .ok (.iload 6, 2) := by decide +kernel
theorem dX3_add_54 : decode cX3_add 54 = .ok (.iload 4, 2) := by decide +kernel
theorem dX3_add_56 : decode cX3_add 56 = .ok (.if_icmp .ne 7, 3) := by decide +kernel
theorem dX3_add_59 : decode cX3_add 59 = .ok (.iconst 4, 1) := by decide +kernel
theorem dX3_add_60 : decode cX3_add 60 = .ok (.goto 4, 3) := by decide +kernel
theorem dX3_add_63 : decode cX3_add 63 = .ok (.iconst 0, 1) := by decide +kernel
theorem dX3_add_64 : decode cX3_add 64 = .ok (.iastore, 1) := by decide +kernel
theorem dX3_add_65 : decode cX3_add 65 = .ok (.iinc 6 1, 3) := by decide +kernel
theorem dX3_add_68 : decode cX3_add 68 = .ok (.goto (-35), 3) := by decide +kernel
theorem dX3_add_71 : decode cX3_add 71 = .ok (.aload_n 0, 1) := by decide +kernel
theorem dX3_add_72 : decode cX3_add 72 = .ok (.dup, 1) := by decide +kernel
theorem dX3_add_73 : decode cX3_add 73 = .ok (.getfield 30, 3) := by decide +kernel
theorem dX3_add_76 : decode cX3_add 76 = .ok (.iconst 1, 1) := by decide +kernel
theorem dX3_add_77 : decode cX3_add 77 = .ok (.iadd, 1) := by decide +kernel
theorem dX3_add_78 : decode cX3_add 78 = .ok (.putfield 30, 3) := by decide +kernel
theorem dX3_add_81 : decode cX3_add 81 = .ok (.iload 5, 2) := by decide +kernel
theorem dX3_add_83 : decode cX3_add 83 = .ok (.ireturn, 1) := by decide +kernel
abbrev nd_X3_add : List Nat := [2, 3, 4, 5, 6]
abbrev ld_X3_add : List (Nat × Nat) := [(2, 0), (2, 1), (2, 2), (2, 3)]
def f_X3_add_64 (k33 : Int32 → Int32 → Int32 → zH → zR) (x4 : Int32) (x5 : Int32) (x6 : Int32) (s0 : Int32) (s1 : Int32) (h : zH) : zR := (zck s1 96 (zst (zup h 6 (Int32.toNatClampNeg s1) s0) fun h6 => (zlt (x6 + (1 : Int32)) fun y7 => (k33 x4 x5 y7 h6))))
def f_X3_add_33  : Nat → Int32 → Int32 → Int32 → zH → zR
  | 0 => fun _ _ _ _ => none
  | n + 1 => fun x4 x5 x6 h => (if (6 : Int32) ≤ x6 then (zst (zup h 2 4 ((h 2 4) + (1 : Int32))) fun h5 => (some (x5, h5))) else (if x6 = x4 then (f_X3_add_64 (f_X3_add_33  n) x4 x5 x6 (4 : Int32) ((x5 * (6 : Int32)) + x6) h) else (f_X3_add_64 (f_X3_add_33  n) x4 x5 x6 (0 : Int32) ((x5 * (6 : Int32)) + x6) h)))
def f_X3_add  (x1 : Int32) (x2 : Int32) (x3 : Int32) (x4 : Int32) (h : zH) : zR := (zlt (h 2 4) fun y1 => (zck y1 16 (zst (zup h 3 (Int32.toNatClampNeg y1) x1) fun h2 => (zck y1 16 (zst (zup h2 4 (Int32.toNatClampNeg y1) x2) fun h3 => (zck y1 16 (zst (zup h3 5 (Int32.toNatClampNeg y1) x3) fun h4 => (f_X3_add_33  zN x4 y1 (0 : Int32) h4))))))))
variable {p : Program} {l : Launch} {e : Env} {s : State} {m : MethodId} {args : Array Value} {below : List Frame} {meth : Method} {c : Code} {G : zG} {q : Int32 × zH}
set_option maxHeartbeats 4000000 in
set_option maxRecDepth 100000 in
theorem w_X3_add_64 {k33 : Int32 → Int32 → Int32 → zH → zR} (C : zC G p s m args meth c cX3_add 7 RX3 (some .int)) (hm : ∀ c ∈ nd_X3_add, c ∈ znm G) (hk : ∀ q ∈ ld_X3_add, zlk G q.1 q.2 = true) (hk33 : ∀ (ls : Array Slot) (H : Heap) (locs : List Loc) (h : zH) (x4 : Int32) (x5 : Int32) (x6 : Int32), lv_has ls 7 [(0, .ref (zal G 2)), (4, .int x4), (5, .int x5), (6, .int x6)] → zS G h s.heap H locs → k33 x4 x5 x6 h = some q → W p l e (zrm (2)) s m args below meth c H locs 0 0 (MQ below (zQI G q.2 q.1) args s 0 0 (zA G)) (F0 m 33 ls [])) : ∀ (ls : Array Slot) (H : Heap) (locs : List Loc) (h : zH) (x4 : Int32) (x5 : Int32) (x6 : Int32) (s0 : Int32) (s1 : Int32), lv_has ls 7 [(0, .ref (zal G 2)), (4, .int x4), (5, .int x5), (6, .int x6)] → zS G h s.heap H locs → f_X3_add_64 k33 x4 x5 x6 s0 s1 h = some q → W p l e (zrm (2)) s m args below meth c H locs 0 0 (MQ below (zQI G q.2 q.1) args s 0 0 (zA G)) (F0 m 64 ls [.int s0, .int s1, .ref (zal G 6)]) := by
  intro ls H locs h x4 x5 x6 s0 s1 hl hS hf
  unfold f_X3_add_64 at hf
  obtain ⟨hi, hf⟩ := zck_some hf
  refine zast C hS sh_6 (hm 6 (by decide)) hi dX3_add_64 (fun H locs hS => ?_)
  obtain ⟨h6, eh6, hf⟩ := zst_some hf
  have hS : zS G h6 s.heap H locs := by rw [eh6]; exact hS
  obtain ⟨y7, ey7, hf⟩ := zlt_some hf
  refine lv_iinc (v := y7) (lv' := [(6, .int y7), (0, .ref (zal G 2)), (4, .int x4), (5, .int x5)]) C.1 C.2.1 dX3_add_65 hl (k := 3) rfl ey7.symm (by decide) rfl (fun ls hl => ?_)
  refine lv_goto (tgt := 33) C.1 C.2.1 dX3_add_68 (by decide) ?_
  exact hk33 _ _ _ _ _ _ _ (lv_sub hl [1, 2, 3, 0] rfl) hS hf
set_option maxHeartbeats 4000000 in
set_option maxRecDepth 100000 in
theorem w_X3_add_33  (C : zC G p s m args meth c cX3_add 7 RX3 (some .int)) (hm : ∀ c ∈ nd_X3_add, c ∈ znm G) (hk : ∀ q ∈ ld_X3_add, zlk G q.1 q.2 = true)  : ∀ n, ∀ (ls : Array Slot) (H : Heap) (locs : List Loc) (h : zH) (x4 : Int32) (x5 : Int32) (x6 : Int32), lv_has ls 7 [(0, .ref (zal G 2)), (4, .int x4), (5, .int x5), (6, .int x6)] → zS G h s.heap H locs → f_X3_add_33  n x4 x5 x6 h = some q → W p l e (zrm (2)) s m args below meth c H locs 0 0 (MQ below (zQI G q.2 q.1) args s 0 0 (zA G)) (F0 m 33 ls []) := by
  intro n
  induction n with
  | zero => intro ls H locs h x4 x5 x6 hl hS hf; cases hf
  | succ n ih =>
    intro ls H locs h x4 x5 x6 hl hS hf
    rw [f_X3_add_33] at hf
    refine lv_iload C.1 C.2.1 dX3_add_33 (lv_at hl 3 rfl) ?_
    refine lv_bipush (v := (6 : Int32)) C.1 C.2.1 dX3_add_35 rfl ?_
    refine lv_icmp_ge (tgt := 71) C.1 C.2.1 dX3_add_37 (by decide) (fun hc => ?_) (fun hc => ?_)
    · have hf := zif_t hc hf
      refine lv_aload_n C.1 C.2.1 dX3_add_71 rfl (lv_at hl 0 rfl) ?_
      refine lv_dup C.1 C.2.1 dX3_add_72 rfl ?_
      refine zgetI C hS ff_X3_30_2 (hm 2 (by decide)) dX3_add_73 ?_
      refine lv_iconst (v := (1 : Int32)) C.1 C.2.1 dX3_add_76 rfl ?_
      refine lv_iadd C.1 C.2.1 dX3_add_77 ?_
      refine zputI C hS ff_X3_30_2 fw_2_4 (hm 2 (by decide)) dX3_add_78 (fun H locs hS => ?_)
      obtain ⟨h5, eh5, hf⟩ := zst_some hf
      have hS : zS G h5 s.heap H locs := by rw [eh5]; exact hS
      refine lv_iload C.1 C.2.1 dX3_add_81 (lv_at hl 2 rfl) ?_
      exact zretI C hS hf dX3_add_83
    · have hf := zif_f hc hf
      refine lv_aload_n C.1 C.2.1 dX3_add_40 rfl (lv_at hl 0 rfl) ?_
      refine zgetR C hS ff_X3_21_2 (hm 2 (by decide)) (hk (2, 3) (by decide)) dX3_add_41 ?_
      refine lv_iload C.1 C.2.1 dX3_add_44 (lv_at hl 2 rfl) ?_
      refine lv_bipush (v := (6 : Int32)) C.1 C.2.1 dX3_add_46 rfl ?_
      refine lv_imul C.1 C.2.1 dX3_add_48 ?_
      refine lv_iload C.1 C.2.1 dX3_add_49 (lv_at hl 3 rfl) ?_
      refine lv_iadd C.1 C.2.1 dX3_add_51 ?_
      refine lv_iload C.1 C.2.1 dX3_add_52 (lv_at hl 3 rfl) ?_
      refine lv_iload C.1 C.2.1 dX3_add_54 (lv_at hl 1 rfl) ?_
      refine lv_icmp_ne (tgt := 63) C.1 C.2.1 dX3_add_56 (by decide) (fun hc => ?_) (fun hc => ?_)
      · have hf := zif_f hc hf
        refine lv_iconst (v := (0 : Int32)) C.1 C.2.1 dX3_add_63 rfl ?_
        exact w_X3_add_64 C hm hk ih _ _ _ _ _ _ _ _ _ (lv_sub hl [0, 1, 2, 3] rfl) hS hf
      · have hf := zif_t hc hf
        refine lv_iconst (v := (4 : Int32)) C.1 C.2.1 dX3_add_59 rfl ?_
        refine lv_goto (tgt := 64) C.1 C.2.1 dX3_add_60 (by decide) ?_
        exact w_X3_add_64 C hm hk ih _ _ _ _ _ _ _ _ _ (lv_sub hl [0, 1, 2, 3] rfl) hS hf
set_option maxHeartbeats 4000000 in
set_option maxRecDepth 100000 in
theorem c_X3_add (l : Launch) (G : zG) (h : zH) (x1 : Int32) (x2 : Int32) (x3 : Int32) (x4 : Int32) (q : Int32 × zH) (hm : ∀ c ∈ nd_X3_add, c ∈ znm G) (hk : ∀ q ∈ ld_X3_add, zlk G q.1 q.2 = true) (hf : f_X3_add x1 x2 x3 x4 h = some q) : zCtI l yX3_add cX3_add 7 (some .int) (2) [.ref (zal G 2), .int x1, .int x2, .int x3, .int x4] G h q.2 q.1 := by
  refine zMetI (by decide) (Nat.le_of_ble_eq_true rfl) ?_
  intro p e s m below meth c ls C hl hS
  have hl : lv_has ls 7 [(0, .ref (zal G 2)), (1, .int x1), (2, .int x2), (3, .int x3), (4, .int x4)] := hl
  have C : zC G p s m [.ref (zal G 2), .int x1, .int x2, .int x3, .int x4].toArray meth c cX3_add 7 RX3 (some .int) := C
  unfold f_X3_add at hf
  refine lv_aload_n C.1 C.2.1 dX3_add_0 rfl (lv_at hl 0 rfl) ?_
  refine zgetI C hS ff_X3_30_2 (hm 2 (by decide)) dX3_add_1 ?_
  obtain ⟨y1, ey1, hf⟩ := zlt_some hf
  refine ztop ey1 ?_
  refine lv_istore (lv' := [(5, .int y1), (0, .ref (zal G 2)), (1, .int x1), (2, .int x2), (3, .int x3), (4, .int x4)]) C.1 C.2.1 dX3_add_4 hl (by decide) rfl (fun ls hl => ?_)
  refine lv_aload_n C.1 C.2.1 dX3_add_6 rfl (lv_at hl 1 rfl) ?_
  refine zgetR C hS ff_X3_9_2 (hm 2 (by decide)) (hk (2, 0) (by decide)) dX3_add_7 ?_
  refine lv_iload C.1 C.2.1 dX3_add_10 (lv_at hl 0 rfl) ?_
  refine lv_iload_n C.1 C.2.1 dX3_add_12 rfl (lv_at hl 2 rfl) ?_
  obtain ⟨hi, hf⟩ := zck_some hf
  refine zast C hS sh_3 (hm 3 (by decide)) hi dX3_add_13 (fun H locs hS => ?_)
  obtain ⟨h2, eh2, hf⟩ := zst_some hf
  have hS : zS G h2 s.heap H locs := by rw [eh2]; exact hS
  refine lv_aload_n C.1 C.2.1 dX3_add_14 rfl (lv_at hl 1 rfl) ?_
  refine zgetR C hS ff_X3_15_2 (hm 2 (by decide)) (hk (2, 1) (by decide)) dX3_add_15 ?_
  refine lv_iload C.1 C.2.1 dX3_add_18 (lv_at hl 0 rfl) ?_
  refine lv_iload_n C.1 C.2.1 dX3_add_20 rfl (lv_at hl 3 rfl) ?_
  obtain ⟨hi, hf⟩ := zck_some hf
  refine zast C hS sh_4 (hm 4 (by decide)) hi dX3_add_21 (fun H locs hS => ?_)
  obtain ⟨h3, eh3, hf⟩ := zst_some hf
  have hS : zS G h3 s.heap H locs := by rw [eh3]; exact hS
  refine lv_aload_n C.1 C.2.1 dX3_add_22 rfl (lv_at hl 1 rfl) ?_
  refine zgetR C hS ff_X3_18_2 (hm 2 (by decide)) (hk (2, 2) (by decide)) dX3_add_23 ?_
  refine lv_iload C.1 C.2.1 dX3_add_26 (lv_at hl 0 rfl) ?_
  refine lv_iload_n C.1 C.2.1 dX3_add_28 rfl (lv_at hl 4 rfl) ?_
  obtain ⟨hi, hf⟩ := zck_some hf
  refine zast C hS sh_5 (hm 5 (by decide)) hi dX3_add_29 (fun H locs hS => ?_)
  obtain ⟨h4, eh4, hf⟩ := zst_some hf
  have hS : zS G h4 s.heap H locs := by rw [eh4]; exact hS
  refine lv_iconst (v := (0 : Int32)) C.1 C.2.1 dX3_add_30 rfl ?_
  refine lv_istore (lv' := [(6, .int (0 : Int32)), (5, .int y1), (0, .ref (zal G 2)), (1, .int x1), (2, .int x2), (3, .int x3), (4, .int x4)]) C.1 C.2.1 dX3_add_31 hl (by decide) rfl (fun ls hl => ?_)
  exact w_X3_add_33 C hm hk  zN _ _ _ _ _ _ _ (lv_sub hl [2, 6, 1, 0] rfl) hS hf
end
section
theorem dX11_half_0 : decode cX11_half 0 = .ok (.iload_n 1, 1) := by decide +kernel
theorem dX11_half_1 : decode cX11_half 1 = .ok (.iconst 2, 1) := by decide +kernel
theorem dX11_half_2 : decode cX11_half 2 = .ok (.invokestatic 50, 3) := by decide +kernel
theorem dX11_half_5 : decode cX11_half 5 = .ok (.ifCond .eq 35, 3) := by decide +kernel
theorem dX11_half_8 : decode cX11_half 8 = .ok (.iload_n 2, 1) := by decide +kernel
theorem dX11_half_9 : decode cX11_half 9 = .ok (.bipush 10, 2) := by decide +kernel
theorem dX11_half_11 : decode cX11_half 11 = .ok (.invokestatic 50, 3) := by decide +kernel
theorem dX11_half_14 : decode cX11_half 14 = .ok (.ifCond .eq 26, 3) := by decide +kernel
theorem dX11_half_17 : decode cX11_half 17 = .ok (.iload_n 3, 1) := by decide +kernel
theorem dX11_half_18 : decode cX11_half 18 = .ok (.bipush 100, 2) := by decide +kernel
theorem dX11_half_20 : decode cX11_half 20 = .ok (.invokestatic 50, 3) := by decide +kernel
theorem dX11_half_23 : decode cX11_half 23 = .ok (.ifCond .eq 17, 3) := by decide +kernel
theorem dX11_half_26 : decode cX11_half 26 = .ok (.iload 4, 2) := by decide +kernel
theorem dX11_half_28 : decode cX11_half 28 = .ok (.bipush 6, 2) := by decide +kernel
theorem dX11_half_30 : decode cX11_half 30 = .ok (.invokestatic 50, 3) := by decide +kernel
theorem dX11_half_33 : decode cX11_half 33 = .ok (.ifCond .eq 7, 3) := by decide +kernel
theorem dX11_half_36 : decode cX11_half 36 = .ok (.iconst 1, 1) := by decide +kernel
theorem dX11_half_37 : decode cX11_half 37 = .ok (.goto 4, 3) := by decide +kernel
theorem dX11_half_40 : decode cX11_half 40 = .ok (.iconst 0, 1) := by decide +kernel
theorem dX11_half_41 : decode cX11_half 41 = .ok (.istore 5, 2) := by decide +kernel
theorem dX11_half_43 : decode cX11_half 43 = .ok (.iload 5, 2) := by decide +kernel
theorem dX11_half_45 : decode cX11_half 45 = .ok (.ifCond .eq 18, 3) := by decide +kernel
theorem dX11_half_48 : decode cX11_half 48 = .ok (.aload_n 0, 1) := by decide +kernel
theorem dX11_half_49 : decode cX11_half 49 = .ok (.getfield 12, 3) := by decide +kernel
theorem dX11_half_52 : decode cX11_half 52 = .ok (.getfield 54, 3) := by decide +kernel
theorem dX11_half_55 : decode cX11_half 55 = .ok (.getfield 58, 3) := by decide +kernel
theorem dX11_half_58 : decode cX11_half 58 = .ok (.bipush 16, 2) := by decide +kernel
theorem dX11_half_60 : decode cX11_half 60 = .ok (.if_icmp .lt 5, 3) := by decide +kernel
theorem dX11_half_63 : decode cX11_half 63 = .ok (.iconst (-1), 1) := by decide +kernel
theorem dX11_half_64 : decode cX11_half 64 = .ok (.ireturn, 1) := by decide +kernel
theorem dX11_half_65 : decode cX11_half 65 = .ok (.aload_n 0, 1) := by decide +kernel
theorem dX11_half_66 : decode cX11_half 66 = .ok (.getfield 19, 3) := by decide +kernel
theorem dX11_half_69 : decode cX11_half 69 = .ok (.invokevirtual 47, 3) := by decide +kernel
theorem dX11_half_72 : decode cX11_half 72 = .ok (.aload_n 0, 1) := by decide +kernel
theorem dX11_half_73 : decode cX11_half 73 = .ok (.getfield 12, 3) := by decide +kernel
theorem dX11_half_76 : decode cX11_half 76 = .ok (.getfield 54, 3) := by decide +kernel
theorem dX11_half_79 : decode cX11_half 79 = .ok (.iload_n 1, 1) := by decide +kernel
theorem dX11_half_80 : decode cX11_half 80 = .ok (.iload_n 2, 1) := by decide +kernel
theorem dX11_half_81 : decode cX11_half 81 = .ok (.iload_n 3, 1) := by decide +kernel
theorem dX11_half_82 : decode cX11_half 82 = .ok (.iload 4, 2) := by decide +kernel
theorem dX11_half_84 : decode cX11_half 84 = .ok (.invokevirtual 63, 3) := by decide +kernel
theorem dX11_half_87 : decode cX11_half 87 = .ok (.ireturn, 1) := by decide +kernel
abbrev nd_X11_half : List Nat := [0, 1, 2, 3, 4, 5, 6, 22]
abbrev ld_X11_half : List (Nat × Nat) := [(0, 0), (0, 1), (1, 0), (2, 0), (2, 1), (2, 2), (2, 3)]
theorem sn_X11_half_X11_isBelow : ∀ c ∈ nd_X11_isBelow, c ∈ nd_X11_half := by decide
theorem sl_X11_half_X11_isBelow : ∀ q ∈ ld_X11_isBelow, q ∈ ld_X11_half := by decide
theorem sn_X11_half_X6_forget : ∀ c ∈ nd_X6_forget, c ∈ nd_X11_half := by decide
theorem sl_X11_half_X6_forget : ∀ q ∈ ld_X6_forget, q ∈ ld_X11_half := by decide
theorem sn_X11_half_X3_add : ∀ c ∈ nd_X3_add, c ∈ nd_X11_half := by decide
theorem sl_X11_half_X3_add : ∀ q ∈ ld_X3_add, q ∈ ld_X11_half := by decide
def f_X11_half_63  (h : zH) : zR := (some ((-1 : Int32), h))
def f_X11_half_41  (x1 : Int32) (x2 : Int32) (x3 : Int32) (x4 : Int32) (s0 : Int32) (h : zH) : zR := (if s0 = 0 then (f_X11_half_63   h) else (if (h 2 4) < (16 : Int32) then (zbd (f_X6_forget  h) fun r3 h4 => (zbd (f_X3_add x1 x2 x3 x4 h4) fun r5 h6 => (some (r5, h6)))) else (f_X11_half_63   h)))
def f_X11_half_40  (x1 : Int32) (x2 : Int32) (x3 : Int32) (x4 : Int32) (h : zH) : zR := (f_X11_half_41  x1 x2 x3 x4 (0 : Int32) h)
def f_X11_half  (x1 : Int32) (x2 : Int32) (x3 : Int32) (x4 : Int32) (h : zH) : zR := (zbd (f_X11_isBelow x1 (2 : Int32) h) fun r1 h2 => (if r1 = 0 then (f_X11_half_40  x1 x2 x3 x4 h2) else (zbd (f_X11_isBelow x2 (10 : Int32) h2) fun r7 h8 => (if r7 = 0 then (f_X11_half_40  x1 x2 x3 x4 h8) else (zbd (f_X11_isBelow x3 (100 : Int32) h8) fun r9 h10 => (if r9 = 0 then (f_X11_half_40  x1 x2 x3 x4 h10) else (zbd (f_X11_isBelow x4 (6 : Int32) h10) fun r11 h12 => (if r11 = 0 then (f_X11_half_40  x1 x2 x3 x4 h12) else (f_X11_half_41  x1 x2 x3 x4 (1 : Int32) h12)))))))))
variable {p : Program} {l : Launch} {e : Env} {s : State} {m : MethodId} {args : Array Value} {below : List Frame} {meth : Method} {c : Code} {G : zG} {q : Int32 × zH}
set_option maxHeartbeats 4000000 in
set_option maxRecDepth 100000 in
theorem w_X11_half_63  (C : zC G p s m args meth c cX11_half 6 RX11 (some .int)) (hm : ∀ c ∈ nd_X11_half, c ∈ znm G) (hk : ∀ q ∈ ld_X11_half, zlk G q.1 q.2 = true)  : ∀ (ls : Array Slot) (H : Heap) (locs : List Loc) (h : zH), lv_has ls 6 [] → zS G h s.heap H locs → f_X11_half_63  h = some q → W p l e (zrm (3)) s m args below meth c H locs 0 0 (MQ below (zQI G q.2 q.1) args s 0 0 (zA G)) (F0 m 63 ls []) := by
  intro ls H locs h hl hS hf
  unfold f_X11_half_63 at hf
  refine lv_iconst (v := (-1 : Int32)) C.1 C.2.1 dX11_half_63 rfl ?_
  exact zretI C hS hf dX11_half_64
set_option maxHeartbeats 4000000 in
set_option maxRecDepth 100000 in
theorem w_X11_half_41  (C : zC G p s m args meth c cX11_half 6 RX11 (some .int)) (hm : ∀ c ∈ nd_X11_half, c ∈ znm G) (hk : ∀ q ∈ ld_X11_half, zlk G q.1 q.2 = true)  : ∀ (ls : Array Slot) (H : Heap) (locs : List Loc) (h : zH) (x1 : Int32) (x2 : Int32) (x3 : Int32) (x4 : Int32) (s0 : Int32), lv_has ls 6 [(0, .ref (zal G 0)), (1, .int x1), (2, .int x2), (3, .int x3), (4, .int x4)] → zS G h s.heap H locs → f_X11_half_41  x1 x2 x3 x4 s0 h = some q → W p l e (zrm (3)) s m args below meth c H locs 0 0 (MQ below (zQI G q.2 q.1) args s 0 0 (zA G)) (F0 m 41 ls [.int s0]) := by
  intro ls H locs h x1 x2 x3 x4 s0 hl hS hf
  unfold f_X11_half_41 at hf
  refine lv_istore (lv' := [(5, .int s0), (0, .ref (zal G 0)), (1, .int x1), (2, .int x2), (3, .int x3), (4, .int x4)]) C.1 C.2.1 dX11_half_41 hl (by decide) rfl (fun ls hl => ?_)
  refine lv_iload C.1 C.2.1 dX11_half_43 (lv_at hl 0 rfl) ?_
  refine lv_if_eq (tgt := 63) C.1 C.2.1 dX11_half_45 (by decide) (fun hc => ?_) (fun hc => ?_)
  · have hf := zif_t hc hf
    exact w_X11_half_63 C hm hk  _ _ _ _ (lv_sub hl [] rfl) hS hf
  · have hf := zif_f hc hf
    refine lv_aload_n C.1 C.2.1 dX11_half_48 rfl (lv_at hl 1 rfl) ?_
    refine zgetR C hS ff_X11_12_0 (hm 0 (by decide)) (hk (0, 0) (by decide)) dX11_half_49 ?_
    refine zgetR C hS ff_X11_54_1 (hm 1 (by decide)) (hk (1, 0) (by decide)) dX11_half_52 ?_
    refine zgetI C hS ff_X11_58_2 (hm 2 (by decide)) dX11_half_55 ?_
    refine lv_bipush (v := (16 : Int32)) C.1 C.2.1 dX11_half_58 rfl ?_
    refine lv_icmp_lt (tgt := 65) C.1 C.2.1 dX11_half_60 (by decide) (fun hc => ?_) (fun hc => ?_)
    · have hf := zif_t hc hf
      refine lv_aload_n C.1 C.2.1 dX11_half_65 rfl (lv_at hl 1 rfl) ?_
      refine zgetR C hS ff_X11_19_0 (hm 0 (by decide)) (hk (0, 1) (by decide)) dX11_half_66 ?_
      obtain ⟨r3, h4, er3, hf⟩ := zbd_some hf
      refine zcallVV (As := []) (rest := []) C hS mv_X11_47 (c_X6_forget l G h  (r3, h4) (fun c h => hm c (sn_X11_half_X6_forget c h)) (fun q h => hk q (sl_X11_half_X6_forget q h)) er3) (hm 22 (by decide)) ⟨_, _, _, sh_22, rfl, rfl⟩ rfl rfl (Nat.le_of_ble_eq_true rfl) hl.1 ⟨Nat.le_of_ble_eq_true rfl, Nat.le_of_ble_eq_true rfl, Nat.le_of_ble_eq_true rfl, Nat.le_of_ble_eq_true rfl⟩ dX11_half_69 (fun H locs hS => ?_)
      refine lv_aload_n C.1 C.2.1 dX11_half_72 rfl (lv_at hl 1 rfl) ?_
      refine zgetR C hS ff_X11_12_0 (hm 0 (by decide)) (hk (0, 0) (by decide)) dX11_half_73 ?_
      refine zgetR C hS ff_X11_54_1 (hm 1 (by decide)) (hk (1, 0) (by decide)) dX11_half_76 ?_
      refine lv_iload_n C.1 C.2.1 dX11_half_79 rfl (lv_at hl 2 rfl) ?_
      refine lv_iload_n C.1 C.2.1 dX11_half_80 rfl (lv_at hl 3 rfl) ?_
      refine lv_iload_n C.1 C.2.1 dX11_half_81 rfl (lv_at hl 4 rfl) ?_
      refine lv_iload C.1 C.2.1 dX11_half_82 (lv_at hl 5 rfl) ?_
      obtain ⟨r5, h6, er5, hf⟩ := zbd_some hf
      refine zcallVI (As := [.int x1, .int x2, .int x3, .int x4]) (rest := []) C hS mv_X11_63 (c_X3_add l G h4 x1 x2 x3 x4 (r5, h6) (fun c h => hm c (sn_X11_half_X3_add c h)) (fun q h => hk q (sl_X11_half_X3_add q h)) er5) (hm 2 (by decide)) ⟨_, _, _, sh_2, rfl, rfl⟩ rfl rfl (Nat.le_of_ble_eq_true rfl) hl.1 ⟨Nat.le_of_ble_eq_true rfl, Nat.le_of_ble_eq_true rfl, Nat.le_of_ble_eq_true rfl, Nat.le_of_ble_eq_true rfl⟩ dX11_half_84 (fun H locs hS => ?_)
      exact zretI C hS hf dX11_half_87
    · have hf := zif_f hc hf
      exact w_X11_half_63 C hm hk  _ _ _ _ (lv_sub hl [] rfl) hS hf
set_option maxHeartbeats 4000000 in
set_option maxRecDepth 100000 in
theorem w_X11_half_40  (C : zC G p s m args meth c cX11_half 6 RX11 (some .int)) (hm : ∀ c ∈ nd_X11_half, c ∈ znm G) (hk : ∀ q ∈ ld_X11_half, zlk G q.1 q.2 = true)  : ∀ (ls : Array Slot) (H : Heap) (locs : List Loc) (h : zH) (x1 : Int32) (x2 : Int32) (x3 : Int32) (x4 : Int32), lv_has ls 6 [(0, .ref (zal G 0)), (1, .int x1), (2, .int x2), (3, .int x3), (4, .int x4)] → zS G h s.heap H locs → f_X11_half_40  x1 x2 x3 x4 h = some q → W p l e (zrm (3)) s m args below meth c H locs 0 0 (MQ below (zQI G q.2 q.1) args s 0 0 (zA G)) (F0 m 40 ls []) := by
  intro ls H locs h x1 x2 x3 x4 hl hS hf
  unfold f_X11_half_40 at hf
  refine lv_iconst (v := (0 : Int32)) C.1 C.2.1 dX11_half_40 rfl ?_
  exact w_X11_half_41 C hm hk  _ _ _ _ _ _ _ _ _ (lv_sub hl [0, 1, 2, 3, 4] rfl) hS hf
set_option maxHeartbeats 4000000 in
set_option maxRecDepth 100000 in
theorem c_X11_half (l : Launch) (G : zG) (h : zH) (x1 : Int32) (x2 : Int32) (x3 : Int32) (x4 : Int32) (q : Int32 × zH) (hm : ∀ c ∈ nd_X11_half, c ∈ znm G) (hk : ∀ q ∈ ld_X11_half, zlk G q.1 q.2 = true) (hf : f_X11_half x1 x2 x3 x4 h = some q) : zCtI l yX11_half cX11_half 6 (some .int) (3) [.ref (zal G 0), .int x1, .int x2, .int x3, .int x4] G h q.2 q.1 := by
  refine zMetI (by decide) (Nat.le_of_ble_eq_true rfl) ?_
  intro p e s m below meth c ls C hl hS
  have hl : lv_has ls 6 [(0, .ref (zal G 0)), (1, .int x1), (2, .int x2), (3, .int x3), (4, .int x4)] := hl
  have C : zC G p s m [.ref (zal G 0), .int x1, .int x2, .int x3, .int x4].toArray meth c cX11_half 6 RX11 (some .int) := C
  unfold f_X11_half at hf
  refine lv_iload_n C.1 C.2.1 dX11_half_0 rfl (lv_at hl 1 rfl) ?_
  refine lv_iconst (v := (2 : Int32)) C.1 C.2.1 dX11_half_1 rfl ?_
  obtain ⟨r1, h2, er1, hf⟩ := zbd_some hf
  refine zcallSI (As := [.int x1, .int (2 : Int32)]) (rest := []) C hS ms_X11_50 (c_X11_isBelow l G h x1 (2 : Int32) (r1, h2) (fun c h => hm c (sn_X11_half_X11_isBelow c h)) (fun q h => hk q (sl_X11_half_X11_isBelow q h)) er1) rfl rfl (Nat.le_of_ble_eq_true rfl) hl.1 ⟨Nat.le_of_ble_eq_true rfl, Nat.le_of_ble_eq_true rfl, Nat.le_of_ble_eq_true rfl, Nat.le_of_ble_eq_true rfl⟩ dX11_half_2 (fun H locs hS => ?_)
  refine lv_if_eq (tgt := 40) C.1 C.2.1 dX11_half_5 (by decide) (fun hc => ?_) (fun hc => ?_)
  · have hf := zif_t hc hf
    exact w_X11_half_40 C hm hk  _ _ _ _ _ _ _ _ (lv_sub hl [0, 1, 2, 3, 4] rfl) hS hf
  · have hf := zif_f hc hf
    refine lv_iload_n C.1 C.2.1 dX11_half_8 rfl (lv_at hl 2 rfl) ?_
    refine lv_bipush (v := (10 : Int32)) C.1 C.2.1 dX11_half_9 rfl ?_
    obtain ⟨r7, h8, er7, hf⟩ := zbd_some hf
    refine zcallSI (As := [.int x2, .int (10 : Int32)]) (rest := []) C hS ms_X11_50 (c_X11_isBelow l G h2 x2 (10 : Int32) (r7, h8) (fun c h => hm c (sn_X11_half_X11_isBelow c h)) (fun q h => hk q (sl_X11_half_X11_isBelow q h)) er7) rfl rfl (Nat.le_of_ble_eq_true rfl) hl.1 ⟨Nat.le_of_ble_eq_true rfl, Nat.le_of_ble_eq_true rfl, Nat.le_of_ble_eq_true rfl, Nat.le_of_ble_eq_true rfl⟩ dX11_half_11 (fun H locs hS => ?_)
    refine lv_if_eq (tgt := 40) C.1 C.2.1 dX11_half_14 (by decide) (fun hc => ?_) (fun hc => ?_)
    · have hf := zif_t hc hf
      exact w_X11_half_40 C hm hk  _ _ _ _ _ _ _ _ (lv_sub hl [0, 1, 2, 3, 4] rfl) hS hf
    · have hf := zif_f hc hf
      refine lv_iload_n C.1 C.2.1 dX11_half_17 rfl (lv_at hl 3 rfl) ?_
      refine lv_bipush (v := (100 : Int32)) C.1 C.2.1 dX11_half_18 rfl ?_
      obtain ⟨r9, h10, er9, hf⟩ := zbd_some hf
      refine zcallSI (As := [.int x3, .int (100 : Int32)]) (rest := []) C hS ms_X11_50 (c_X11_isBelow l G h8 x3 (100 : Int32) (r9, h10) (fun c h => hm c (sn_X11_half_X11_isBelow c h)) (fun q h => hk q (sl_X11_half_X11_isBelow q h)) er9) rfl rfl (Nat.le_of_ble_eq_true rfl) hl.1 ⟨Nat.le_of_ble_eq_true rfl, Nat.le_of_ble_eq_true rfl, Nat.le_of_ble_eq_true rfl, Nat.le_of_ble_eq_true rfl⟩ dX11_half_20 (fun H locs hS => ?_)
      refine lv_if_eq (tgt := 40) C.1 C.2.1 dX11_half_23 (by decide) (fun hc => ?_) (fun hc => ?_)
      · have hf := zif_t hc hf
        exact w_X11_half_40 C hm hk  _ _ _ _ _ _ _ _ (lv_sub hl [0, 1, 2, 3, 4] rfl) hS hf
      · have hf := zif_f hc hf
        refine lv_iload C.1 C.2.1 dX11_half_26 (lv_at hl 4 rfl) ?_
        refine lv_bipush (v := (6 : Int32)) C.1 C.2.1 dX11_half_28 rfl ?_
        obtain ⟨r11, h12, er11, hf⟩ := zbd_some hf
        refine zcallSI (As := [.int x4, .int (6 : Int32)]) (rest := []) C hS ms_X11_50 (c_X11_isBelow l G h10 x4 (6 : Int32) (r11, h12) (fun c h => hm c (sn_X11_half_X11_isBelow c h)) (fun q h => hk q (sl_X11_half_X11_isBelow q h)) er11) rfl rfl (Nat.le_of_ble_eq_true rfl) hl.1 ⟨Nat.le_of_ble_eq_true rfl, Nat.le_of_ble_eq_true rfl, Nat.le_of_ble_eq_true rfl, Nat.le_of_ble_eq_true rfl⟩ dX11_half_30 (fun H locs hS => ?_)
        refine lv_if_eq (tgt := 40) C.1 C.2.1 dX11_half_33 (by decide) (fun hc => ?_) (fun hc => ?_)
        · have hf := zif_t hc hf
          exact w_X11_half_40 C hm hk  _ _ _ _ _ _ _ _ (lv_sub hl [0, 1, 2, 3, 4] rfl) hS hf
        · have hf := zif_f hc hf
          refine lv_iconst (v := (1 : Int32)) C.1 C.2.1 dX11_half_36 rfl ?_
          refine lv_goto (tgt := 41) C.1 C.2.1 dX11_half_37 (by decide) ?_
          exact w_X11_half_41 C hm hk  _ _ _ _ _ _ _ _ _ (lv_sub hl [0, 1, 2, 3, 4] rfl) hS hf
end
section
theorem dX3_has_0 : decode cX3_has 0 = .ok (.iload_n 1, 1) := by decide +kernel
theorem dX3_has_1 : decode cX3_has 1 = .ok (.aload_n 0, 1) := by decide +kernel
theorem dX3_has_2 : decode cX3_has 2 = .ok (.getfield 30, 3) := by decide +kernel
theorem dX3_has_5 : decode cX3_has 5 = .ok (.invokestatic 34, 3) := by decide +kernel
theorem dX3_has_8 : decode cX3_has 8 = .ok (.ireturn, 1) := by decide +kernel
abbrev nd_X3_has : List Nat := [2]
abbrev ld_X3_has : List (Nat × Nat) := []
theorem sn_X3_has_X11_isBelow : ∀ c ∈ nd_X11_isBelow, c ∈ nd_X3_has := by decide
theorem sl_X3_has_X11_isBelow : ∀ q ∈ ld_X11_isBelow, q ∈ ld_X3_has := by decide
def f_X3_has  (x1 : Int32) (h : zH) : zR := (zbd (f_X11_isBelow x1 (h 2 4) h) fun r1 h2 => (zbo r1 (some (r1, h2))))
variable {p : Program} {l : Launch} {e : Env} {s : State} {m : MethodId} {args : Array Value} {below : List Frame} {meth : Method} {c : Code} {G : zG} {q : Int32 × zH}
set_option maxHeartbeats 4000000 in
set_option maxRecDepth 100000 in
theorem c_X3_has (l : Launch) (G : zG) (h : zH) (x1 : Int32) (q : Int32 × zH) (hm : ∀ c ∈ nd_X3_has, c ∈ znm G) (hk : ∀ q ∈ ld_X3_has, zlk G q.1 q.2 = true) (hf : f_X3_has x1 h = some q) : zCtI l yX3_has cX3_has 2 (some .boolean) (3) [.ref (zal G 2), .int x1] G h q.2 q.1 := by
  refine zMetI (by decide) (Nat.le_of_ble_eq_true rfl) ?_
  intro p e s m below meth c ls C hl hS
  have hl : lv_has ls 2 [(0, .ref (zal G 2)), (1, .int x1)] := hl
  have C : zC G p s m [.ref (zal G 2), .int x1].toArray meth c cX3_has 2 RX3 (some .boolean) := C
  unfold f_X3_has at hf
  refine lv_iload_n C.1 C.2.1 dX3_has_0 rfl (lv_at hl 1 rfl) ?_
  refine lv_aload_n C.1 C.2.1 dX3_has_1 rfl (lv_at hl 0 rfl) ?_
  refine zgetI C hS ff_X3_30_2 (hm 2 (by decide)) dX3_has_2 ?_
  obtain ⟨r1, h2, er1, hf⟩ := zbd_some hf
  refine zcallNI (As := [.int x1, .int (h 2 4)]) (rest := []) C hS mn_X3_34 (c_X11_isBelow l G h x1 (h 2 4) (r1, h2) (fun c h => hm c (sn_X3_has_X11_isBelow c h)) (fun q h => hk q (sl_X3_has_X11_isBelow q h)) er1) rfl rfl (Nat.le_of_ble_eq_true rfl) hl.1 ⟨Nat.le_of_ble_eq_true rfl, Nat.le_of_ble_eq_true rfl, Nat.le_of_ble_eq_true rfl, Nat.le_of_ble_eq_true rfl⟩ dX3_has_5 (fun H locs hS => ?_)
  obtain ⟨hb, hf⟩ := zbo_some hf
  exact zretZ C hS hb hf dX3_has_8
end
section
theorem dX3_quartersOf_0 : decode cX3_quartersOf 0 = .ok (.aload_n 0, 1) := by decide +kernel
theorem dX3_quartersOf_1 : decode cX3_quartersOf 1 = .ok (.getfield 21, 3) := by decide +kernel
theorem dX3_quartersOf_4 : decode cX3_quartersOf 4 = .ok (.iload_n 1, 1) := by decide +kernel
theorem dX3_quartersOf_5 : decode cX3_quartersOf 5 = .ok (.bipush 6, 2) := by decide +kernel
theorem dX3_quartersOf_7 : decode cX3_quartersOf 7 = .ok (.imul, 1) := by decide +kernel
theorem dX3_quartersOf_8 : decode cX3_quartersOf 8 = .ok (.iload_n 2, 1) := by decide +kernel
theorem dX3_quartersOf_9 : decode cX3_quartersOf 9 = .ok (.iadd, 1) := by decide +kernel
theorem dX3_quartersOf_10 : decode cX3_quartersOf 10 = .ok (.iaload, 1) := by decide +kernel
theorem dX3_quartersOf_11 : decode cX3_quartersOf 11 = .ok (.ireturn, 1) := by decide +kernel
abbrev nd_X3_quartersOf : List Nat := [2, 6]
abbrev ld_X3_quartersOf : List (Nat × Nat) := [(2, 3)]
def f_X3_quartersOf  (x1 : Int32) (x2 : Int32) (h : zH) : zR := (zck ((x1 * (6 : Int32)) + x2) 96 (some ((h 6 (Int32.toNatClampNeg ((x1 * (6 : Int32)) + x2))), h)))
variable {p : Program} {l : Launch} {e : Env} {s : State} {m : MethodId} {args : Array Value} {below : List Frame} {meth : Method} {c : Code} {G : zG} {q : Int32 × zH}
set_option maxHeartbeats 4000000 in
set_option maxRecDepth 100000 in
theorem c_X3_quartersOf (l : Launch) (G : zG) (h : zH) (x1 : Int32) (x2 : Int32) (q : Int32 × zH) (hm : ∀ c ∈ nd_X3_quartersOf, c ∈ znm G) (hk : ∀ q ∈ ld_X3_quartersOf, zlk G q.1 q.2 = true) (hf : f_X3_quartersOf x1 x2 h = some q) : zCtI l yX3_quartersOf cX3_quartersOf 3 (some .int) (2) [.ref (zal G 2), .int x1, .int x2] G h q.2 q.1 := by
  refine zMetI (by decide) (Nat.le_of_ble_eq_true rfl) ?_
  intro p e s m below meth c ls C hl hS
  have hl : lv_has ls 3 [(0, .ref (zal G 2)), (1, .int x1), (2, .int x2)] := hl
  have C : zC G p s m [.ref (zal G 2), .int x1, .int x2].toArray meth c cX3_quartersOf 3 RX3 (some .int) := C
  unfold f_X3_quartersOf at hf
  refine lv_aload_n C.1 C.2.1 dX3_quartersOf_0 rfl (lv_at hl 0 rfl) ?_
  refine zgetR C hS ff_X3_21_2 (hm 2 (by decide)) (hk (2, 3) (by decide)) dX3_quartersOf_1 ?_
  refine lv_iload_n C.1 C.2.1 dX3_quartersOf_4 rfl (lv_at hl 1 rfl) ?_
  refine lv_bipush (v := (6 : Int32)) C.1 C.2.1 dX3_quartersOf_5 rfl ?_
  refine lv_imul C.1 C.2.1 dX3_quartersOf_7 ?_
  refine lv_iload_n C.1 C.2.1 dX3_quartersOf_8 rfl (lv_at hl 2 rfl) ?_
  refine lv_iadd C.1 C.2.1 dX3_quartersOf_9 ?_
  obtain ⟨hi, hf⟩ := zck_some hf
  refine zald C hS sh_6 (hm 6 (by decide)) hi dX3_quartersOf_10 ?_
  exact zretI C hS hf dX3_quartersOf_11
end
section
theorem dX3_move_0 : decode cX3_move 0 = .ok (.aload_n 0, 1) := by decide +kernel
theorem dX3_move_1 : decode cX3_move 1 = .ok (.getfield 21, 3) := by decide +kernel
theorem dX3_move_4 : decode cX3_move 4 = .ok (.iload_n 1, 1) := by decide +kernel
theorem dX3_move_5 : decode cX3_move 5 = .ok (.bipush 6, 2) := by decide +kernel
theorem dX3_move_7 : decode cX3_move 7 = .ok (.imul, 1) := by decide +kernel
theorem dX3_move_8 : decode cX3_move 8 = .ok (.iload_n 3, 1) := by decide +kernel
theorem dX3_move_9 : decode cX3_move 9 = .ok (.iadd, 1) := by decide +kernel
theorem dX3_move_10 : decode cX3_move 10 = .ok (.dup2, 1) := by decide +kernel
theorem dX3_move_11 : decode cX3_move 11 = .ok (.iaload, 1) := by decide +kernel
theorem dX3_move_12 : decode cX3_move 12 = .ok (.iload_n 2, 1) := by decide +kernel
theorem dX3_move_13 : decode cX3_move 13 = .ok (.isub, 1) := by decide +kernel
theorem dX3_move_14 : decode cX3_move 14 = .ok (.iastore, 1) := by decide +kernel
theorem dX3_move_15 : decode cX3_move 15 = .ok (.aload_n 0, 1) := by decide +kernel
theorem dX3_move_16 : decode cX3_move 16 = .ok (.getfield 21, 3) := by decide +kernel
theorem dX3_move_19 : decode cX3_move 19 = .ok (.iload_n 1, 1) := by decide +kernel
theorem dX3_move_20 : decode cX3_move 20 = .ok (.bipush 6, 2) := by decide +kernel
theorem dX3_move_22 : decode cX3_move 22 = .ok (.imul, 1) := by decide +kernel
theorem dX3_move_23 : decode cX3_move 23 = .ok (.iload 4, 2) := by decide +kernel
theorem dX3_move_25 : decode cX3_move 25 = .ok (.iadd, 1) := by decide +kernel
theorem dX3_move_26 : decode cX3_move 26 = .ok (.dup2, 1) := by decide +kernel
theorem dX3_move_27 : decode cX3_move 27 = .ok (.iaload, 1) := by decide +kernel
theorem dX3_move_28 : decode cX3_move 28 = .ok (.iload_n 2, 1) := by decide +kernel
theorem dX3_move_29 : decode cX3_move 29 = .ok (.iadd, 1) := by decide +kernel
theorem dX3_move_30 : decode cX3_move 30 = .ok (.iastore, 1) := by decide +kernel
theorem dX3_move_31 : decode cX3_move 31 = .ok (.return_, 1) := by decide +kernel
abbrev nd_X3_move : List Nat := [2, 6]
abbrev ld_X3_move : List (Nat × Nat) := [(2, 3)]
def f_X3_move  (x1 : Int32) (x2 : Int32) (x3 : Int32) (x4 : Int32) (h : zH) : zR := (zck ((x1 * (6 : Int32)) + x3) 96 (zck ((x1 * (6 : Int32)) + x3) 96 (zst (zup h 6 (Int32.toNatClampNeg ((x1 * (6 : Int32)) + x3)) ((h 6 (Int32.toNatClampNeg ((x1 * (6 : Int32)) + x3))) - x2)) fun h1 => (zck ((x1 * (6 : Int32)) + x4) 96 (zck ((x1 * (6 : Int32)) + x4) 96 (zst (zup h1 6 (Int32.toNatClampNeg ((x1 * (6 : Int32)) + x4)) ((h1 6 (Int32.toNatClampNeg ((x1 * (6 : Int32)) + x4))) + x2)) fun h2 => (some (0, h2))))))))
variable {p : Program} {l : Launch} {e : Env} {s : State} {m : MethodId} {args : Array Value} {below : List Frame} {meth : Method} {c : Code} {G : zG} {q : Int32 × zH}
set_option maxHeartbeats 4000000 in
set_option maxRecDepth 100000 in
theorem c_X3_move (l : Launch) (G : zG) (h : zH) (x1 : Int32) (x2 : Int32) (x3 : Int32) (x4 : Int32) (q : Int32 × zH) (hm : ∀ c ∈ nd_X3_move, c ∈ znm G) (hk : ∀ q ∈ ld_X3_move, zlk G q.1 q.2 = true) (hf : f_X3_move x1 x2 x3 x4 h = some q) : zCtV l yX3_move cX3_move 5 none (2) [.ref (zal G 2), .int x1, .int x2, .int x3, .int x4] G h q.2 := by
  refine zMetV (by decide) (Nat.le_of_ble_eq_true rfl) ?_
  intro p e s m below meth c ls C hl hS
  have hl : lv_has ls 5 [(0, .ref (zal G 2)), (1, .int x1), (2, .int x2), (3, .int x3), (4, .int x4)] := hl
  have C : zC G p s m [.ref (zal G 2), .int x1, .int x2, .int x3, .int x4].toArray meth c cX3_move 5 RX3 none := C
  unfold f_X3_move at hf
  refine lv_aload_n C.1 C.2.1 dX3_move_0 rfl (lv_at hl 0 rfl) ?_
  refine zgetR C hS ff_X3_21_2 (hm 2 (by decide)) (hk (2, 3) (by decide)) dX3_move_1 ?_
  refine lv_iload_n C.1 C.2.1 dX3_move_4 rfl (lv_at hl 1 rfl) ?_
  refine lv_bipush (v := (6 : Int32)) C.1 C.2.1 dX3_move_5 rfl ?_
  refine lv_imul C.1 C.2.1 dX3_move_7 ?_
  refine lv_iload_n C.1 C.2.1 dX3_move_8 rfl (lv_at hl 3 rfl) ?_
  refine lv_iadd C.1 C.2.1 dX3_move_9 ?_
  refine lv_dup2_11 C.1 C.2.1 dX3_move_10 rfl rfl ?_
  obtain ⟨hi, hf⟩ := zck_some hf
  refine zald C hS sh_6 (hm 6 (by decide)) hi dX3_move_11 ?_
  refine lv_iload_n C.1 C.2.1 dX3_move_12 rfl (lv_at hl 2 rfl) ?_
  refine lv_isub C.1 C.2.1 dX3_move_13 ?_
  obtain ⟨hi, hf⟩ := zck_some hf
  refine zast C hS sh_6 (hm 6 (by decide)) hi dX3_move_14 (fun H locs hS => ?_)
  obtain ⟨h1, eh1, hf⟩ := zst_some hf
  have hS : zS G h1 s.heap H locs := by rw [eh1]; exact hS
  refine lv_aload_n C.1 C.2.1 dX3_move_15 rfl (lv_at hl 0 rfl) ?_
  refine zgetR C hS ff_X3_21_2 (hm 2 (by decide)) (hk (2, 3) (by decide)) dX3_move_16 ?_
  refine lv_iload_n C.1 C.2.1 dX3_move_19 rfl (lv_at hl 1 rfl) ?_
  refine lv_bipush (v := (6 : Int32)) C.1 C.2.1 dX3_move_20 rfl ?_
  refine lv_imul C.1 C.2.1 dX3_move_22 ?_
  refine lv_iload C.1 C.2.1 dX3_move_23 (lv_at hl 4 rfl) ?_
  refine lv_iadd C.1 C.2.1 dX3_move_25 ?_
  refine lv_dup2_11 C.1 C.2.1 dX3_move_26 rfl rfl ?_
  obtain ⟨hi, hf⟩ := zck_some hf
  refine zald C hS sh_6 (hm 6 (by decide)) hi dX3_move_27 ?_
  refine lv_iload_n C.1 C.2.1 dX3_move_28 rfl (lv_at hl 2 rfl) ?_
  refine lv_iadd C.1 C.2.1 dX3_move_29 ?_
  obtain ⟨hi, hf⟩ := zck_some hf
  refine zast C hS sh_6 (hm 6 (by decide)) hi dX3_move_30 (fun H locs hS => ?_)
  obtain ⟨h2, eh2, hf⟩ := zst_some hf
  have hS : zS G h2 s.heap H locs := by rw [eh2]; exact hS
  exact zretV C hS hf dX3_move_31
end
section
theorem dX11_give_0 : decode cX11_give 0 = .ok (.aload_n 0, 1) := by decide +kernel
theorem dX11_give_1 : decode cX11_give 1 = .ok (.getfield 12, 3) := by decide +kernel
theorem dX11_give_4 : decode cX11_give 4 = .ok (.getfield 54, 3) := by decide +kernel
theorem dX11_give_7 : decode cX11_give 7 = .ok (.iload_n 1, 1) := by decide +kernel
theorem dX11_give_8 : decode cX11_give 8 = .ok (.invokevirtual 67, 3) := by decide +kernel
theorem dX11_give_11 : decode cX11_give 11 = .ok (.ifCond .eq 32, 3) := by decide +kernel
theorem dX11_give_14 : decode cX11_give 14 = .ok (.iload_n 3, 1) := by decide +kernel
theorem dX11_give_15 : decode cX11_give 15 = .ok (.bipush 6, 2) := by decide +kernel
theorem dX11_give_17 : decode cX11_give 17 = .ok (.invokestatic 50, 3) := by decide +kernel
theorem dX11_give_20 : decode cX11_give 20 = .ok (.ifCond .eq 23, 3) := by decide +kernel
theorem dX11_give_23 : decode cX11_give 23 = .ok (.iload 4, 2) := by decide +kernel
theorem dX11_give_25 : decode cX11_give 25 = .ok (.bipush 6, 2) := by decide +kernel
theorem dX11_give_27 : decode cX11_give 27 = .ok (.invokestatic 50, 3) := by decide +kernel
theorem dX11_give_30 : decode cX11_give 30 = .ok (.ifCond .eq 13, 3) := by decide +kernel
theorem dX11_give_33 : decode cX11_give 33 = .ok (.iload_n 3, 1) := by decide +kernel
theorem dX11_give_34 : decode cX11_give 34 = .ok (.iload 4, 2) := by decide +kernel
theorem dX11_give_36 : decode cX11_give 36 = .ok (.if_icmp .eq 7, 3) := by decide +kernel
theorem dX11_give_39 : decode cX11_give 39 = .ok (.iconst 1, 1) := by decide +kernel
theorem dX11_give_40 : decode cX11_give 40 = .ok (.goto 4, 3) := by decide +kernel
theorem dX11_give_43 : decode cX11_give 43 = .ok (.iconst 0, 1) := by decide +kernel
theorem dX11_give_44 : decode cX11_give 44 = .ok (.istore 5, 2) := by decide +kernel
theorem dX11_give_46 : decode cX11_give 46 = .ok (.iload 5, 2) := by decide +kernel
theorem dX11_give_48 : decode cX11_give 48 = .ok (.ifCond .eq 24, 3) := by decide +kernel
theorem dX11_give_51 : decode cX11_give 51 = .ok (.iload_n 2, 1) := by decide +kernel
theorem dX11_give_52 : decode cX11_give 52 = .ok (.iconst 1, 1) := by decide +kernel
theorem dX11_give_53 : decode cX11_give 53 = .ok (.if_icmp .lt 19, 3) := by decide +kernel
theorem dX11_give_56 : decode cX11_give 56 = .ok (.iload_n 2, 1) := by decide +kernel
theorem dX11_give_57 : decode cX11_give 57 = .ok (.aload_n 0, 1) := by decide +kernel
theorem dX11_give_58 : decode cX11_give 58 = .ok (.getfield 12, 3) := by decide +kernel
theorem dX11_give_61 : decode cX11_give 61 = .ok (.getfield 54, 3) := by decide +kernel
theorem dX11_give_64 : decode cX11_give 64 = .ok (.iload_n 1, 1) := by decide +kernel
theorem dX11_give_65 : decode cX11_give 65 = .ok (.iload_n 3, 1) := by decide +kernel
theorem dX11_give_66 : decode cX11_give 66 = .ok (.invokevirtual 71, 3) := by decide +kernel
theorem dX11_give_69 : decode cX11_give 69 = .ok (.if_icmp .le 5, 3) := by decide +kernel
theorem dX11_give_72 : decode cX11_give 72 = .ok (.iconst 0, 1) := by decide +kernel
theorem dX11_give_73 : decode cX11_give 73 = .ok (.ireturn, 1) := by decide +kernel
theorem dX11_give_74 : decode cX11_give 74 = .ok (.aload_n 0, 1) := by decide +kernel
theorem dX11_give_75 : decode cX11_give 75 = .ok (.getfield 12, 3) := by decide +kernel
theorem dX11_give_78 : decode cX11_give 78 = .ok (.getfield 54, 3) := by decide +kernel
theorem dX11_give_81 : decode cX11_give 81 = .ok (.iload_n 1, 1) := by decide +kernel
theorem dX11_give_82 : decode cX11_give 82 = .ok (.iload_n 2, 1) := by decide +kernel
theorem dX11_give_83 : decode cX11_give 83 = .ok (.iload_n 3, 1) := by decide +kernel
theorem dX11_give_84 : decode cX11_give 84 = .ok (.iload 4, 2) := by decide +kernel
theorem dX11_give_86 : decode cX11_give 86 = .ok (.invokevirtual 75, 3) := by decide +kernel
theorem dX11_give_89 : decode cX11_give 89 = .ok (.aload_n 0, 1) := by decide +kernel
theorem dX11_give_90 : decode cX11_give 90 = .ok (.getfield 19, 3) := by decide +kernel
theorem dX11_give_93 : decode cX11_give 93 = .ok (.invokevirtual 47, 3) := by decide +kernel
theorem dX11_give_96 : decode cX11_give 96 = .ok (.iconst 1, 1) := by decide +kernel
theorem dX11_give_97 : decode cX11_give 97 = .ok (.ireturn, 1) := by decide +kernel
abbrev nd_X11_give : List Nat := [0, 1, 2, 6, 22]
abbrev ld_X11_give : List (Nat × Nat) := [(0, 0), (0, 1), (1, 0), (2, 3)]
theorem sn_X11_give_X3_has : ∀ c ∈ nd_X3_has, c ∈ nd_X11_give := by decide
theorem sl_X11_give_X3_has : ∀ q ∈ ld_X3_has, q ∈ ld_X11_give := by decide
theorem sn_X11_give_X3_quartersOf : ∀ c ∈ nd_X3_quartersOf, c ∈ nd_X11_give := by decide
theorem sl_X11_give_X3_quartersOf : ∀ q ∈ ld_X3_quartersOf, q ∈ ld_X11_give := by decide
theorem sn_X11_give_X3_move : ∀ c ∈ nd_X3_move, c ∈ nd_X11_give := by decide
theorem sl_X11_give_X3_move : ∀ q ∈ ld_X3_move, q ∈ ld_X11_give := by decide
theorem sn_X11_give_X6_forget : ∀ c ∈ nd_X6_forget, c ∈ nd_X11_give := by decide
theorem sl_X11_give_X6_forget : ∀ q ∈ ld_X6_forget, q ∈ ld_X11_give := by decide
theorem sn_X11_give_X11_isBelow : ∀ c ∈ nd_X11_isBelow, c ∈ nd_X11_give := by decide
theorem sl_X11_give_X11_isBelow : ∀ q ∈ ld_X11_isBelow, q ∈ ld_X11_give := by decide
def f_X11_give_72  (h : zH) : zR := (some ((0 : Int32), h))
def f_X11_give_44  (x1 : Int32) (x2 : Int32) (x3 : Int32) (x4 : Int32) (s0 : Int32) (h : zH) : zR := (if s0 = 0 then (f_X11_give_72   h) else (if x2 < (1 : Int32) then (f_X11_give_72   h) else (zbd (f_X3_quartersOf x1 x3 h) fun r3 h4 => (if x2 ≤ r3 then (zbd (f_X3_move x1 x2 x3 x4 h4) fun r5 h6 => (zbd (f_X6_forget  h6) fun r7 h8 => (some ((1 : Int32), h8)))) else (f_X11_give_72   h4)))))
def f_X11_give_43  (x1 : Int32) (x2 : Int32) (x3 : Int32) (x4 : Int32) (h : zH) : zR := (f_X11_give_44  x1 x2 x3 x4 (0 : Int32) h)
def f_X11_give  (x1 : Int32) (x2 : Int32) (x3 : Int32) (x4 : Int32) (h : zH) : zR := (zbd (f_X3_has x1 h) fun r1 h2 => (if r1 = 0 then (f_X11_give_43  x1 x2 x3 x4 h2) else (zbd (f_X11_isBelow x3 (6 : Int32) h2) fun r9 h10 => (if r9 = 0 then (f_X11_give_43  x1 x2 x3 x4 h10) else (zbd (f_X11_isBelow x4 (6 : Int32) h10) fun r11 h12 => (if r11 = 0 then (f_X11_give_43  x1 x2 x3 x4 h12) else (if x3 = x4 then (f_X11_give_43  x1 x2 x3 x4 h12) else (f_X11_give_44  x1 x2 x3 x4 (1 : Int32) h12))))))))
variable {p : Program} {l : Launch} {e : Env} {s : State} {m : MethodId} {args : Array Value} {below : List Frame} {meth : Method} {c : Code} {G : zG} {q : Int32 × zH}
set_option maxHeartbeats 4000000 in
set_option maxRecDepth 100000 in
theorem w_X11_give_72  (C : zC G p s m args meth c cX11_give 6 RX11 (some .boolean)) (hm : ∀ c ∈ nd_X11_give, c ∈ znm G) (hk : ∀ q ∈ ld_X11_give, zlk G q.1 q.2 = true)  : ∀ (ls : Array Slot) (H : Heap) (locs : List Loc) (h : zH), lv_has ls 6 [] → zS G h s.heap H locs → f_X11_give_72  h = some q → W p l e (zrm (4)) s m args below meth c H locs 0 0 (MQ below (zQI G q.2 q.1) args s 0 0 (zA G)) (F0 m 72 ls []) := by
  intro ls H locs h hl hS hf
  unfold f_X11_give_72 at hf
  refine lv_iconst (v := (0 : Int32)) C.1 C.2.1 dX11_give_72 rfl ?_
  exact zretZ C hS rfl hf dX11_give_73
set_option maxHeartbeats 4000000 in
set_option maxRecDepth 100000 in
theorem w_X11_give_44  (C : zC G p s m args meth c cX11_give 6 RX11 (some .boolean)) (hm : ∀ c ∈ nd_X11_give, c ∈ znm G) (hk : ∀ q ∈ ld_X11_give, zlk G q.1 q.2 = true)  : ∀ (ls : Array Slot) (H : Heap) (locs : List Loc) (h : zH) (x1 : Int32) (x2 : Int32) (x3 : Int32) (x4 : Int32) (s0 : Int32), lv_has ls 6 [(0, .ref (zal G 0)), (1, .int x1), (2, .int x2), (3, .int x3), (4, .int x4)] → zS G h s.heap H locs → f_X11_give_44  x1 x2 x3 x4 s0 h = some q → W p l e (zrm (4)) s m args below meth c H locs 0 0 (MQ below (zQI G q.2 q.1) args s 0 0 (zA G)) (F0 m 44 ls [.int s0]) := by
  intro ls H locs h x1 x2 x3 x4 s0 hl hS hf
  unfold f_X11_give_44 at hf
  refine lv_istore (lv' := [(5, .int s0), (0, .ref (zal G 0)), (1, .int x1), (2, .int x2), (3, .int x3), (4, .int x4)]) C.1 C.2.1 dX11_give_44 hl (by decide) rfl (fun ls hl => ?_)
  refine lv_iload C.1 C.2.1 dX11_give_46 (lv_at hl 0 rfl) ?_
  refine lv_if_eq (tgt := 72) C.1 C.2.1 dX11_give_48 (by decide) (fun hc => ?_) (fun hc => ?_)
  · have hf := zif_t hc hf
    exact w_X11_give_72 C hm hk  _ _ _ _ (lv_sub hl [] rfl) hS hf
  · have hf := zif_f hc hf
    refine lv_iload_n C.1 C.2.1 dX11_give_51 rfl (lv_at hl 3 rfl) ?_
    refine lv_iconst (v := (1 : Int32)) C.1 C.2.1 dX11_give_52 rfl ?_
    refine lv_icmp_lt (tgt := 72) C.1 C.2.1 dX11_give_53 (by decide) (fun hc => ?_) (fun hc => ?_)
    · have hf := zif_t hc hf
      exact w_X11_give_72 C hm hk  _ _ _ _ (lv_sub hl [] rfl) hS hf
    · have hf := zif_f hc hf
      refine lv_iload_n C.1 C.2.1 dX11_give_56 rfl (lv_at hl 3 rfl) ?_
      refine lv_aload_n C.1 C.2.1 dX11_give_57 rfl (lv_at hl 1 rfl) ?_
      refine zgetR C hS ff_X11_12_0 (hm 0 (by decide)) (hk (0, 0) (by decide)) dX11_give_58 ?_
      refine zgetR C hS ff_X11_54_1 (hm 1 (by decide)) (hk (1, 0) (by decide)) dX11_give_61 ?_
      refine lv_iload_n C.1 C.2.1 dX11_give_64 rfl (lv_at hl 2 rfl) ?_
      refine lv_iload_n C.1 C.2.1 dX11_give_65 rfl (lv_at hl 4 rfl) ?_
      obtain ⟨r3, h4, er3, hf⟩ := zbd_some hf
      refine zcallVI (As := [.int x1, .int x3]) (rest := [.int x2]) C hS mv_X11_71 (c_X3_quartersOf l G h x1 x3 (r3, h4) (fun c h => hm c (sn_X11_give_X3_quartersOf c h)) (fun q h => hk q (sl_X11_give_X3_quartersOf q h)) er3) (hm 2 (by decide)) ⟨_, _, _, sh_2, rfl, rfl⟩ rfl rfl (Nat.le_of_ble_eq_true rfl) hl.1 ⟨Nat.le_of_ble_eq_true rfl, Nat.le_of_ble_eq_true rfl, Nat.le_of_ble_eq_true rfl, Nat.le_of_ble_eq_true rfl⟩ dX11_give_66 (fun H locs hS => ?_)
      refine lv_icmp_le (tgt := 74) C.1 C.2.1 dX11_give_69 (by decide) (fun hc => ?_) (fun hc => ?_)
      · have hf := zif_t hc hf
        refine lv_aload_n C.1 C.2.1 dX11_give_74 rfl (lv_at hl 1 rfl) ?_
        refine zgetR C hS ff_X11_12_0 (hm 0 (by decide)) (hk (0, 0) (by decide)) dX11_give_75 ?_
        refine zgetR C hS ff_X11_54_1 (hm 1 (by decide)) (hk (1, 0) (by decide)) dX11_give_78 ?_
        refine lv_iload_n C.1 C.2.1 dX11_give_81 rfl (lv_at hl 2 rfl) ?_
        refine lv_iload_n C.1 C.2.1 dX11_give_82 rfl (lv_at hl 3 rfl) ?_
        refine lv_iload_n C.1 C.2.1 dX11_give_83 rfl (lv_at hl 4 rfl) ?_
        refine lv_iload C.1 C.2.1 dX11_give_84 (lv_at hl 5 rfl) ?_
        obtain ⟨r5, h6, er5, hf⟩ := zbd_some hf
        refine zcallVV (As := [.int x1, .int x2, .int x3, .int x4]) (rest := []) C hS mv_X11_75 (c_X3_move l G h4 x1 x2 x3 x4 (r5, h6) (fun c h => hm c (sn_X11_give_X3_move c h)) (fun q h => hk q (sl_X11_give_X3_move q h)) er5) (hm 2 (by decide)) ⟨_, _, _, sh_2, rfl, rfl⟩ rfl rfl (Nat.le_of_ble_eq_true rfl) hl.1 ⟨Nat.le_of_ble_eq_true rfl, Nat.le_of_ble_eq_true rfl, Nat.le_of_ble_eq_true rfl, Nat.le_of_ble_eq_true rfl⟩ dX11_give_86 (fun H locs hS => ?_)
        refine lv_aload_n C.1 C.2.1 dX11_give_89 rfl (lv_at hl 1 rfl) ?_
        refine zgetR C hS ff_X11_19_0 (hm 0 (by decide)) (hk (0, 1) (by decide)) dX11_give_90 ?_
        obtain ⟨r7, h8, er7, hf⟩ := zbd_some hf
        refine zcallVV (As := []) (rest := []) C hS mv_X11_47 (c_X6_forget l G h6  (r7, h8) (fun c h => hm c (sn_X11_give_X6_forget c h)) (fun q h => hk q (sl_X11_give_X6_forget q h)) er7) (hm 22 (by decide)) ⟨_, _, _, sh_22, rfl, rfl⟩ rfl rfl (Nat.le_of_ble_eq_true rfl) hl.1 ⟨Nat.le_of_ble_eq_true rfl, Nat.le_of_ble_eq_true rfl, Nat.le_of_ble_eq_true rfl, Nat.le_of_ble_eq_true rfl⟩ dX11_give_93 (fun H locs hS => ?_)
        refine lv_iconst (v := (1 : Int32)) C.1 C.2.1 dX11_give_96 rfl ?_
        exact zretZ C hS rfl hf dX11_give_97
      · have hf := zif_f hc hf
        exact w_X11_give_72 C hm hk  _ _ _ _ (lv_sub hl [] rfl) hS hf
set_option maxHeartbeats 4000000 in
set_option maxRecDepth 100000 in
theorem w_X11_give_43  (C : zC G p s m args meth c cX11_give 6 RX11 (some .boolean)) (hm : ∀ c ∈ nd_X11_give, c ∈ znm G) (hk : ∀ q ∈ ld_X11_give, zlk G q.1 q.2 = true)  : ∀ (ls : Array Slot) (H : Heap) (locs : List Loc) (h : zH) (x1 : Int32) (x2 : Int32) (x3 : Int32) (x4 : Int32), lv_has ls 6 [(0, .ref (zal G 0)), (1, .int x1), (2, .int x2), (3, .int x3), (4, .int x4)] → zS G h s.heap H locs → f_X11_give_43  x1 x2 x3 x4 h = some q → W p l e (zrm (4)) s m args below meth c H locs 0 0 (MQ below (zQI G q.2 q.1) args s 0 0 (zA G)) (F0 m 43 ls []) := by
  intro ls H locs h x1 x2 x3 x4 hl hS hf
  unfold f_X11_give_43 at hf
  refine lv_iconst (v := (0 : Int32)) C.1 C.2.1 dX11_give_43 rfl ?_
  exact w_X11_give_44 C hm hk  _ _ _ _ _ _ _ _ _ (lv_sub hl [0, 1, 2, 3, 4] rfl) hS hf
set_option maxHeartbeats 4000000 in
set_option maxRecDepth 100000 in
theorem c_X11_give (l : Launch) (G : zG) (h : zH) (x1 : Int32) (x2 : Int32) (x3 : Int32) (x4 : Int32) (q : Int32 × zH) (hm : ∀ c ∈ nd_X11_give, c ∈ znm G) (hk : ∀ q ∈ ld_X11_give, zlk G q.1 q.2 = true) (hf : f_X11_give x1 x2 x3 x4 h = some q) : zCtI l yX11_give cX11_give 6 (some .boolean) (4) [.ref (zal G 0), .int x1, .int x2, .int x3, .int x4] G h q.2 q.1 := by
  refine zMetI (by decide) (Nat.le_of_ble_eq_true rfl) ?_
  intro p e s m below meth c ls C hl hS
  have hl : lv_has ls 6 [(0, .ref (zal G 0)), (1, .int x1), (2, .int x2), (3, .int x3), (4, .int x4)] := hl
  have C : zC G p s m [.ref (zal G 0), .int x1, .int x2, .int x3, .int x4].toArray meth c cX11_give 6 RX11 (some .boolean) := C
  unfold f_X11_give at hf
  refine lv_aload_n C.1 C.2.1 dX11_give_0 rfl (lv_at hl 0 rfl) ?_
  refine zgetR C hS ff_X11_12_0 (hm 0 (by decide)) (hk (0, 0) (by decide)) dX11_give_1 ?_
  refine zgetR C hS ff_X11_54_1 (hm 1 (by decide)) (hk (1, 0) (by decide)) dX11_give_4 ?_
  refine lv_iload_n C.1 C.2.1 dX11_give_7 rfl (lv_at hl 1 rfl) ?_
  obtain ⟨r1, h2, er1, hf⟩ := zbd_some hf
  refine zcallVI (As := [.int x1]) (rest := []) C hS mv_X11_67 (c_X3_has l G h x1 (r1, h2) (fun c h => hm c (sn_X11_give_X3_has c h)) (fun q h => hk q (sl_X11_give_X3_has q h)) er1) (hm 2 (by decide)) ⟨_, _, _, sh_2, rfl, rfl⟩ rfl rfl (Nat.le_of_ble_eq_true rfl) hl.1 ⟨Nat.le_of_ble_eq_true rfl, Nat.le_of_ble_eq_true rfl, Nat.le_of_ble_eq_true rfl, Nat.le_of_ble_eq_true rfl⟩ dX11_give_8 (fun H locs hS => ?_)
  refine lv_if_eq (tgt := 43) C.1 C.2.1 dX11_give_11 (by decide) (fun hc => ?_) (fun hc => ?_)
  · have hf := zif_t hc hf
    exact w_X11_give_43 C hm hk  _ _ _ _ _ _ _ _ (lv_sub hl [0, 1, 2, 3, 4] rfl) hS hf
  · have hf := zif_f hc hf
    refine lv_iload_n C.1 C.2.1 dX11_give_14 rfl (lv_at hl 3 rfl) ?_
    refine lv_bipush (v := (6 : Int32)) C.1 C.2.1 dX11_give_15 rfl ?_
    obtain ⟨r9, h10, er9, hf⟩ := zbd_some hf
    refine zcallSI (As := [.int x3, .int (6 : Int32)]) (rest := []) C hS ms_X11_50 (c_X11_isBelow l G h2 x3 (6 : Int32) (r9, h10) (fun c h => hm c (sn_X11_give_X11_isBelow c h)) (fun q h => hk q (sl_X11_give_X11_isBelow q h)) er9) rfl rfl (Nat.le_of_ble_eq_true rfl) hl.1 ⟨Nat.le_of_ble_eq_true rfl, Nat.le_of_ble_eq_true rfl, Nat.le_of_ble_eq_true rfl, Nat.le_of_ble_eq_true rfl⟩ dX11_give_17 (fun H locs hS => ?_)
    refine lv_if_eq (tgt := 43) C.1 C.2.1 dX11_give_20 (by decide) (fun hc => ?_) (fun hc => ?_)
    · have hf := zif_t hc hf
      exact w_X11_give_43 C hm hk  _ _ _ _ _ _ _ _ (lv_sub hl [0, 1, 2, 3, 4] rfl) hS hf
    · have hf := zif_f hc hf
      refine lv_iload C.1 C.2.1 dX11_give_23 (lv_at hl 4 rfl) ?_
      refine lv_bipush (v := (6 : Int32)) C.1 C.2.1 dX11_give_25 rfl ?_
      obtain ⟨r11, h12, er11, hf⟩ := zbd_some hf
      refine zcallSI (As := [.int x4, .int (6 : Int32)]) (rest := []) C hS ms_X11_50 (c_X11_isBelow l G h10 x4 (6 : Int32) (r11, h12) (fun c h => hm c (sn_X11_give_X11_isBelow c h)) (fun q h => hk q (sl_X11_give_X11_isBelow q h)) er11) rfl rfl (Nat.le_of_ble_eq_true rfl) hl.1 ⟨Nat.le_of_ble_eq_true rfl, Nat.le_of_ble_eq_true rfl, Nat.le_of_ble_eq_true rfl, Nat.le_of_ble_eq_true rfl⟩ dX11_give_27 (fun H locs hS => ?_)
      refine lv_if_eq (tgt := 43) C.1 C.2.1 dX11_give_30 (by decide) (fun hc => ?_) (fun hc => ?_)
      · have hf := zif_t hc hf
        exact w_X11_give_43 C hm hk  _ _ _ _ _ _ _ _ (lv_sub hl [0, 1, 2, 3, 4] rfl) hS hf
      · have hf := zif_f hc hf
        refine lv_iload_n C.1 C.2.1 dX11_give_33 rfl (lv_at hl 3 rfl) ?_
        refine lv_iload C.1 C.2.1 dX11_give_34 (lv_at hl 4 rfl) ?_
        refine lv_icmp_eq (tgt := 43) C.1 C.2.1 dX11_give_36 (by decide) (fun hc => ?_) (fun hc => ?_)
        · have hf := zif_t hc hf
          exact w_X11_give_43 C hm hk  _ _ _ _ _ _ _ _ (lv_sub hl [0, 1, 2, 3, 4] rfl) hS hf
        · have hf := zif_f hc hf
          refine lv_iconst (v := (1 : Int32)) C.1 C.2.1 dX11_give_39 rfl ?_
          refine lv_goto (tgt := 44) C.1 C.2.1 dX11_give_40 (by decide) ?_
          exact w_X11_give_44 C hm hk  _ _ _ _ _ _ _ _ _ (lv_sub hl [0, 1, 2, 3, 4] rfl) hS hf
end
section
theorem dX11_isIn_0 : decode cX11_isIn 0 = .ok (.iload_n 1, 1) := by decide +kernel
theorem dX11_isIn_1 : decode cX11_isIn 1 = .ok (.iload_n 0, 1) := by decide +kernel
theorem dX11_isIn_2 : decode cX11_isIn 2 = .ok (.ishr, 1) := by decide +kernel
theorem dX11_isIn_3 : decode cX11_isIn 3 = .ok (.iconst 1, 1) := by decide +kernel
theorem dX11_isIn_4 : decode cX11_isIn 4 = .ok (.iand, 1) := by decide +kernel
theorem dX11_isIn_5 : decode cX11_isIn 5 = .ok (.ifCond .eq 7, 3) := by decide +kernel
theorem dX11_isIn_8 : decode cX11_isIn 8 = .ok (.iconst 1, 1) := by decide +kernel
theorem dX11_isIn_9 : decode cX11_isIn 9 = .ok (.goto 4, 3) := by decide +kernel
theorem dX11_isIn_12 : decode cX11_isIn 12 = .ok (.iconst 0, 1) := by decide +kernel
theorem dX11_isIn_13 : decode cX11_isIn 13 = .ok (.ireturn, 1) := by decide +kernel
abbrev nd_X11_isIn : List Nat := []
abbrev ld_X11_isIn : List (Nat × Nat) := []
def f_X11_isIn  (x0 : Int32) (x1 : Int32) (h : zH) : zR := (if ((x1 >>> (x0 &&& 31)) &&& (1 : Int32)) = 0 then (some ((0 : Int32), h)) else (some ((1 : Int32), h)))
variable {p : Program} {l : Launch} {e : Env} {s : State} {m : MethodId} {args : Array Value} {below : List Frame} {meth : Method} {c : Code} {G : zG} {q : Int32 × zH}
set_option maxHeartbeats 4000000 in
set_option maxRecDepth 100000 in
theorem c_X11_isIn (l : Launch) (G : zG) (h : zH) (x0 : Int32) (x1 : Int32) (q : Int32 × zH) (hm : ∀ c ∈ nd_X11_isIn, c ∈ znm G) (hk : ∀ q ∈ ld_X11_isIn, zlk G q.1 q.2 = true) (hf : f_X11_isIn x0 x1 h = some q) : zCtI l yX11_isIn cX11_isIn 2 (some .boolean) (2) [.int x0, .int x1] G h q.2 q.1 := by
  refine zMetI (by decide) (Nat.le_of_ble_eq_true rfl) ?_
  intro p e s m below meth c ls C hl hS
  have hl : lv_has ls 2 [(0, .int x0), (1, .int x1)] := hl
  have C : zC G p s m [.int x0, .int x1].toArray meth c cX11_isIn 2 RX11 (some .boolean) := C
  unfold f_X11_isIn at hf
  refine lv_iload_n C.1 C.2.1 dX11_isIn_0 rfl (lv_at hl 1 rfl) ?_
  refine lv_iload_n C.1 C.2.1 dX11_isIn_1 rfl (lv_at hl 0 rfl) ?_
  refine lv_ishr C.1 C.2.1 dX11_isIn_2 ?_
  refine lv_iconst (v := (1 : Int32)) C.1 C.2.1 dX11_isIn_3 rfl ?_
  refine lv_iand C.1 C.2.1 dX11_isIn_4 ?_
  refine lv_if_eq (tgt := 12) C.1 C.2.1 dX11_isIn_5 (by decide) (fun hc => ?_) (fun hc => ?_)
  · have hf := zif_t hc hf
    refine lv_iconst (v := (0 : Int32)) C.1 C.2.1 dX11_isIn_12 rfl ?_
    exact zretZ C hS rfl hf dX11_isIn_13
  · have hf := zif_f hc hf
    refine lv_iconst (v := (1 : Int32)) C.1 C.2.1 dX11_isIn_8 rfl ?_
    refine lv_goto (tgt := 13) C.1 C.2.1 dX11_isIn_9 (by decide) ?_
    exact zretZ C hS rfl hf dX11_isIn_13
end
section
theorem dX3_inherit_0 : decode cX3_inherit 0 = .ok (.aload_n 0, 1) := by decide +kernel
theorem dX3_inherit_1 : decode cX3_inherit 1 = .ok (.iload_n 1, 1) := by decide +kernel
theorem dX3_inherit_2 : decode cX3_inherit 2 = .ok (.iload_n 2, 1) := by decide +kernel
theorem dX3_inherit_3 : decode cX3_inherit 3 = .ok (.invokevirtual 42, 3) := by decide +kernel
theorem dX3_inherit_6 : decode cX3_inherit 6 = .ok (.istore 4, 2) := by decide +kernel
theorem dX3_inherit_8 : decode cX3_inherit 8 = .ok (.iconst 0, 1) := by decide +kernel
theorem dX3_inherit_9 : decode cX3_inherit 9 = .ok (.istore 5, 2) := by decide +kernel
theorem dX3_inherit_11 : decode cX3_inherit 11 = .ok (.iconst 0, 1) := by decide +kernel
theorem dX3_inherit_12 : decode cX3_inherit 12 = .ok (.istore 6, 2) := by decide +kernel
theorem dX3_inherit_14 : decode cX3_inherit 14 = .ok (.iload 6, 2) := by decide +kernel
theorem dX3_inherit_16 : decode cX3_inherit 16 = .ok (.bipush 24, 2) := by decide +kernel
theorem dX3_inherit_18 : decode cX3_inherit 18 = .ok (.if_icmp .ge 44, 3) := by decide +kernel
theorem dX3_inherit_21 : decode cX3_inherit 21 = .ok (.iload 5, 2) := by decide +kernel
theorem dX3_inherit_23 : decode cX3_inherit 23 = .ok (.iload 4, 2) := by decide +kernel
theorem dX3_inherit_25 : decode cX3_inherit 25 = .ok (.if_icmp .ge 37, 3) := by decide +kernel
theorem dX3_inherit_28 : decode cX3_inherit 28 = .ok (.iload 6, 2) := by decide +kernel
theorem dX3_inherit_30 : decode cX3_inherit 30 = .ok (.bipush 6, 2) := by decide +kernel
theorem dX3_inherit_32 : decode cX3_inherit 32 = .ok (.irem, 1) := by decide +kernel
theorem dX3_inherit_33 : decode cX3_inherit 33 = .ok (.istore 7, 2) := by decide +kernel
theorem dX3_inherit_35 : decode cX3_inherit 35 = .ok (.iload 7, 2) := by decide +kernel
theorem dX3_inherit_37 : decode cX3_inherit 37 = .ok (.iload_n 3, 1) := by decide +kernel
theorem dX3_inherit_38 : decode cX3_inherit 38 = .ok (.invokestatic 46, 3) := by decide +kernel
theorem dX3_inherit_41 : decode cX3_inherit 41 = .ok (.ifCond .eq 15, 3) := by decide +kernel
theorem dX3_inherit_44 : decode cX3_inherit 44 = .ok (.aload_n 0, 1) := by decide +kernel
theorem dX3_inherit_45 : decode cX3_inherit 45 = .ok (.iload_n 1, 1) := by decide +kernel
theorem dX3_inherit_46 : decode cX3_inherit 46 = .ok (.iconst 1, 1) := by decide +kernel
theorem dX3_inherit_47 : decode cX3_inherit 47 = .ok (.iload_n 2, 1) := by decide +kernel
theorem dX3_inherit_48 : decode cX3_inherit 48 = .ok (.iload 7, 2) := by decide +kernel
theorem dX3_inherit_50 : decode cX3_inherit 50 = .ok (.invokevirtual 49, 3) := by decide +kernel
theorem dX3_inherit_53 : decode cX3_inherit 53 = .ok (.iinc 5 1, 3) := by decide +kernel
theorem dX3_inherit_56 : decode cX3_inherit 56 = .ok (.iinc 6 1, 3) := by decide +kernel
theorem dX3_inherit_59 : decode cX3_inherit 59 = .ok (.goto (-45), 3) := by decide +kernel
theorem dX3_inherit_62 : decode cX3_inherit 62 = .ok (.iload 5, 2) := by decide +kernel
theorem dX3_inherit_64 : decode cX3_inherit 64 = .ok (.ireturn, 1) := by decide +kernel
abbrev nd_X3_inherit : List Nat := [2, 6]
abbrev ld_X3_inherit : List (Nat × Nat) := [(2, 3)]
theorem sn_X3_inherit_X3_quartersOf : ∀ c ∈ nd_X3_quartersOf, c ∈ nd_X3_inherit := by decide
theorem sl_X3_inherit_X3_quartersOf : ∀ q ∈ ld_X3_quartersOf, q ∈ ld_X3_inherit := by decide
theorem sn_X3_inherit_X11_isIn : ∀ c ∈ nd_X11_isIn, c ∈ nd_X3_inherit := by decide
theorem sl_X3_inherit_X11_isIn : ∀ q ∈ ld_X11_isIn, q ∈ ld_X3_inherit := by decide
theorem sn_X3_inherit_X3_move : ∀ c ∈ nd_X3_move, c ∈ nd_X3_inherit := by decide
theorem sl_X3_inherit_X3_move : ∀ q ∈ ld_X3_move, q ∈ ld_X3_inherit := by decide
def f_X3_inherit_62  (x5 : Int32) (h : zH) : zR := (some (x5, h))
def f_X3_inherit_56 (k14 : Int32 → Int32 → Int32 → Int32 → Int32 → Int32 → zH → zR) (x1 : Int32) (x2 : Int32) (x3 : Int32) (x4 : Int32) (x5 : Int32) (x6 : Int32) (h : zH) : zR := (zlt (x6 + (1 : Int32)) fun y6 => (k14 x1 x2 x3 x4 x5 y6 h))
def f_X3_inherit_14  : Nat → Int32 → Int32 → Int32 → Int32 → Int32 → Int32 → zH → zR
  | 0 => fun _ _ _ _ _ _ _ => none
  | n + 1 => fun x1 x2 x3 x4 x5 x6 h => (if (24 : Int32) ≤ x6 then (f_X3_inherit_62  x5 h) else (if x4 ≤ x5 then (f_X3_inherit_62  x5 h) else (zlt (x6 - x6 / (6 : Int32) * (6 : Int32)) fun y3 => (zbd (f_X11_isIn y3 x3 h) fun r4 h5 => (if r4 = 0 then (f_X3_inherit_56 (f_X3_inherit_14  n) x1 x2 x3 x4 x5 x6 h5) else (zbd (f_X3_move x1 (1 : Int32) x2 y3 h5) fun r7 h8 => (zlt (x5 + (1 : Int32)) fun y9 => (f_X3_inherit_56 (f_X3_inherit_14  n) x1 x2 x3 x4 y9 x6 h8))))))))
def f_X3_inherit  (x1 : Int32) (x2 : Int32) (x3 : Int32) (h : zH) : zR := (zbd (f_X3_quartersOf x1 x2 h) fun r1 h2 => (f_X3_inherit_14  zN x1 x2 x3 r1 (0 : Int32) (0 : Int32) h2))
variable {p : Program} {l : Launch} {e : Env} {s : State} {m : MethodId} {args : Array Value} {below : List Frame} {meth : Method} {c : Code} {G : zG} {q : Int32 × zH}
set_option maxHeartbeats 4000000 in
set_option maxRecDepth 100000 in
theorem w_X3_inherit_62  (C : zC G p s m args meth c cX3_inherit 8 RX3 (some .int)) (hm : ∀ c ∈ nd_X3_inherit, c ∈ znm G) (hk : ∀ q ∈ ld_X3_inherit, zlk G q.1 q.2 = true)  : ∀ (ls : Array Slot) (H : Heap) (locs : List Loc) (h : zH) (x5 : Int32), lv_has ls 8 [(5, .int x5)] → zS G h s.heap H locs → f_X3_inherit_62  x5 h = some q → W p l e (zrm (3)) s m args below meth c H locs 0 0 (MQ below (zQI G q.2 q.1) args s 0 0 (zA G)) (F0 m 62 ls []) := by
  intro ls H locs h x5 hl hS hf
  unfold f_X3_inherit_62 at hf
  refine lv_iload C.1 C.2.1 dX3_inherit_62 (lv_at hl 0 rfl) ?_
  exact zretI C hS hf dX3_inherit_64
set_option maxHeartbeats 4000000 in
set_option maxRecDepth 100000 in
theorem w_X3_inherit_56 {k14 : Int32 → Int32 → Int32 → Int32 → Int32 → Int32 → zH → zR} (C : zC G p s m args meth c cX3_inherit 8 RX3 (some .int)) (hm : ∀ c ∈ nd_X3_inherit, c ∈ znm G) (hk : ∀ q ∈ ld_X3_inherit, zlk G q.1 q.2 = true) (hk14 : ∀ (ls : Array Slot) (H : Heap) (locs : List Loc) (h : zH) (x1 : Int32) (x2 : Int32) (x3 : Int32) (x4 : Int32) (x5 : Int32) (x6 : Int32), lv_has ls 8 [(0, .ref (zal G 2)), (1, .int x1), (2, .int x2), (3, .int x3), (4, .int x4), (5, .int x5), (6, .int x6)] → zS G h s.heap H locs → k14 x1 x2 x3 x4 x5 x6 h = some q → W p l e (zrm (3)) s m args below meth c H locs 0 0 (MQ below (zQI G q.2 q.1) args s 0 0 (zA G)) (F0 m 14 ls [])) : ∀ (ls : Array Slot) (H : Heap) (locs : List Loc) (h : zH) (x1 : Int32) (x2 : Int32) (x3 : Int32) (x4 : Int32) (x5 : Int32) (x6 : Int32), lv_has ls 8 [(0, .ref (zal G 2)), (1, .int x1), (2, .int x2), (3, .int x3), (4, .int x4), (5, .int x5), (6, .int x6)] → zS G h s.heap H locs → f_X3_inherit_56 k14 x1 x2 x3 x4 x5 x6 h = some q → W p l e (zrm (3)) s m args below meth c H locs 0 0 (MQ below (zQI G q.2 q.1) args s 0 0 (zA G)) (F0 m 56 ls []) := by
  intro ls H locs h x1 x2 x3 x4 x5 x6 hl hS hf
  unfold f_X3_inherit_56 at hf
  obtain ⟨y6, ey6, hf⟩ := zlt_some hf
  refine lv_iinc (v := y6) (lv' := [(6, .int y6), (0, .ref (zal G 2)), (1, .int x1), (2, .int x2), (3, .int x3), (4, .int x4), (5, .int x5)]) C.1 C.2.1 dX3_inherit_56 hl (k := 6) rfl ey6.symm (by decide) rfl (fun ls hl => ?_)
  refine lv_goto (tgt := 14) C.1 C.2.1 dX3_inherit_59 (by decide) ?_
  exact hk14 _ _ _ _ _ _ _ _ _ _ (lv_sub hl [1, 2, 3, 4, 5, 6, 0] rfl) hS hf
set_option maxHeartbeats 4000000 in
set_option maxRecDepth 100000 in
theorem w_X3_inherit_14  (C : zC G p s m args meth c cX3_inherit 8 RX3 (some .int)) (hm : ∀ c ∈ nd_X3_inherit, c ∈ znm G) (hk : ∀ q ∈ ld_X3_inherit, zlk G q.1 q.2 = true)  : ∀ n, ∀ (ls : Array Slot) (H : Heap) (locs : List Loc) (h : zH) (x1 : Int32) (x2 : Int32) (x3 : Int32) (x4 : Int32) (x5 : Int32) (x6 : Int32), lv_has ls 8 [(0, .ref (zal G 2)), (1, .int x1), (2, .int x2), (3, .int x3), (4, .int x4), (5, .int x5), (6, .int x6)] → zS G h s.heap H locs → f_X3_inherit_14  n x1 x2 x3 x4 x5 x6 h = some q → W p l e (zrm (3)) s m args below meth c H locs 0 0 (MQ below (zQI G q.2 q.1) args s 0 0 (zA G)) (F0 m 14 ls []) := by
  intro n
  induction n with
  | zero => intro ls H locs h x1 x2 x3 x4 x5 x6 hl hS hf; cases hf
  | succ n ih =>
    intro ls H locs h x1 x2 x3 x4 x5 x6 hl hS hf
    rw [f_X3_inherit_14] at hf
    refine lv_iload C.1 C.2.1 dX3_inherit_14 (lv_at hl 6 rfl) ?_
    refine lv_bipush (v := (24 : Int32)) C.1 C.2.1 dX3_inherit_16 rfl ?_
    refine lv_icmp_ge (tgt := 62) C.1 C.2.1 dX3_inherit_18 (by decide) (fun hc => ?_) (fun hc => ?_)
    · have hf := zif_t hc hf
      exact w_X3_inherit_62 C hm hk  _ _ _ _ _ (lv_sub hl [5] rfl) hS hf
    · have hf := zif_f hc hf
      refine lv_iload C.1 C.2.1 dX3_inherit_21 (lv_at hl 5 rfl) ?_
      refine lv_iload C.1 C.2.1 dX3_inherit_23 (lv_at hl 4 rfl) ?_
      refine lv_icmp_ge (tgt := 62) C.1 C.2.1 dX3_inherit_25 (by decide) (fun hc => ?_) (fun hc => ?_)
      · have hf := zif_t hc hf
        exact w_X3_inherit_62 C hm hk  _ _ _ _ _ (lv_sub hl [5] rfl) hS hf
      · have hf := zif_f hc hf
        refine lv_iload C.1 C.2.1 dX3_inherit_28 (lv_at hl 6 rfl) ?_
        refine lv_bipush (v := (6 : Int32)) C.1 C.2.1 dX3_inherit_30 rfl ?_
        refine lv_irem C.1 C.2.1 dX3_inherit_32 (by decide) ?_
        obtain ⟨y3, ey3, hf⟩ := zlt_some hf
        refine ztop ey3 ?_
        refine lv_istore (lv' := [(7, .int y3), (0, .ref (zal G 2)), (1, .int x1), (2, .int x2), (3, .int x3), (4, .int x4), (5, .int x5), (6, .int x6)]) C.1 C.2.1 dX3_inherit_33 hl (by decide) rfl (fun ls hl => ?_)
        refine lv_iload C.1 C.2.1 dX3_inherit_35 (lv_at hl 0 rfl) ?_
        refine lv_iload_n C.1 C.2.1 dX3_inherit_37 rfl (lv_at hl 4 rfl) ?_
        obtain ⟨r4, h5, er4, hf⟩ := zbd_some hf
        refine zcallNI (As := [.int y3, .int x3]) (rest := []) C hS mn_X3_46 (c_X11_isIn l G h y3 x3 (r4, h5) (fun c h => hm c (sn_X3_inherit_X11_isIn c h)) (fun q h => hk q (sl_X3_inherit_X11_isIn q h)) er4) rfl rfl (Nat.le_of_ble_eq_true rfl) hl.1 ⟨Nat.le_of_ble_eq_true rfl, Nat.le_of_ble_eq_true rfl, Nat.le_of_ble_eq_true rfl, Nat.le_of_ble_eq_true rfl⟩ dX3_inherit_38 (fun H locs hS => ?_)
        refine lv_if_eq (tgt := 56) C.1 C.2.1 dX3_inherit_41 (by decide) (fun hc => ?_) (fun hc => ?_)
        · have hf := zif_t hc hf
          exact w_X3_inherit_56 C hm hk ih _ _ _ _ _ _ _ _ _ _ (lv_sub hl [1, 2, 3, 4, 5, 6, 7] rfl) hS hf
        · have hf := zif_f hc hf
          refine lv_aload_n C.1 C.2.1 dX3_inherit_44 rfl (lv_at hl 1 rfl) ?_
          refine lv_iload_n C.1 C.2.1 dX3_inherit_45 rfl (lv_at hl 2 rfl) ?_
          refine lv_iconst (v := (1 : Int32)) C.1 C.2.1 dX3_inherit_46 rfl ?_
          refine lv_iload_n C.1 C.2.1 dX3_inherit_47 rfl (lv_at hl 3 rfl) ?_
          refine lv_iload C.1 C.2.1 dX3_inherit_48 (lv_at hl 0 rfl) ?_
          obtain ⟨r7, h8, er7, hf⟩ := zbd_some hf
          refine zcallVV (As := [.int x1, .int (1 : Int32), .int x2, .int y3]) (rest := []) C hS mv_X3_49 (c_X3_move l G h5 x1 (1 : Int32) x2 y3 (r7, h8) (fun c h => hm c (sn_X3_inherit_X3_move c h)) (fun q h => hk q (sl_X3_inherit_X3_move q h)) er7) (hm 2 (by decide)) ⟨_, _, _, sh_2, rfl, rfl⟩ rfl rfl (Nat.le_of_ble_eq_true rfl) hl.1 ⟨Nat.le_of_ble_eq_true rfl, Nat.le_of_ble_eq_true rfl, Nat.le_of_ble_eq_true rfl, Nat.le_of_ble_eq_true rfl⟩ dX3_inherit_50 (fun H locs hS => ?_)
          obtain ⟨y9, ey9, hf⟩ := zlt_some hf
          refine lv_iinc (v := y9) (lv' := [(5, .int y9), (7, .int y3), (0, .ref (zal G 2)), (1, .int x1), (2, .int x2), (3, .int x3), (4, .int x4), (6, .int x6)]) C.1 C.2.1 dX3_inherit_53 hl (k := 6) rfl ey9.symm (by decide) rfl (fun ls hl => ?_)
          exact w_X3_inherit_56 C hm hk ih _ _ _ _ _ _ _ _ _ _ (lv_sub hl [2, 3, 4, 5, 6, 0, 7] rfl) hS hf
set_option maxHeartbeats 4000000 in
set_option maxRecDepth 100000 in
theorem c_X3_inherit (l : Launch) (G : zG) (h : zH) (x1 : Int32) (x2 : Int32) (x3 : Int32) (q : Int32 × zH) (hm : ∀ c ∈ nd_X3_inherit, c ∈ znm G) (hk : ∀ q ∈ ld_X3_inherit, zlk G q.1 q.2 = true) (hf : f_X3_inherit x1 x2 x3 h = some q) : zCtI l yX3_inherit cX3_inherit 8 (some .int) (3) [.ref (zal G 2), .int x1, .int x2, .int x3] G h q.2 q.1 := by
  refine zMetI (by decide) (Nat.le_of_ble_eq_true rfl) ?_
  intro p e s m below meth c ls C hl hS
  have hl : lv_has ls 8 [(0, .ref (zal G 2)), (1, .int x1), (2, .int x2), (3, .int x3)] := hl
  have C : zC G p s m [.ref (zal G 2), .int x1, .int x2, .int x3].toArray meth c cX3_inherit 8 RX3 (some .int) := C
  unfold f_X3_inherit at hf
  refine lv_aload_n C.1 C.2.1 dX3_inherit_0 rfl (lv_at hl 0 rfl) ?_
  refine lv_iload_n C.1 C.2.1 dX3_inherit_1 rfl (lv_at hl 1 rfl) ?_
  refine lv_iload_n C.1 C.2.1 dX3_inherit_2 rfl (lv_at hl 2 rfl) ?_
  obtain ⟨r1, h2, er1, hf⟩ := zbd_some hf
  refine zcallVI (As := [.int x1, .int x2]) (rest := []) C hS mv_X3_42 (c_X3_quartersOf l G h x1 x2 (r1, h2) (fun c h => hm c (sn_X3_inherit_X3_quartersOf c h)) (fun q h => hk q (sl_X3_inherit_X3_quartersOf q h)) er1) (hm 2 (by decide)) ⟨_, _, _, sh_2, rfl, rfl⟩ rfl rfl (Nat.le_of_ble_eq_true rfl) hl.1 ⟨Nat.le_of_ble_eq_true rfl, Nat.le_of_ble_eq_true rfl, Nat.le_of_ble_eq_true rfl, Nat.le_of_ble_eq_true rfl⟩ dX3_inherit_3 (fun H locs hS => ?_)
  refine lv_istore (lv' := [(4, .int r1), (0, .ref (zal G 2)), (1, .int x1), (2, .int x2), (3, .int x3)]) C.1 C.2.1 dX3_inherit_6 hl (by decide) rfl (fun ls hl => ?_)
  refine lv_iconst (v := (0 : Int32)) C.1 C.2.1 dX3_inherit_8 rfl ?_
  refine lv_istore (lv' := [(5, .int (0 : Int32)), (4, .int r1), (0, .ref (zal G 2)), (1, .int x1), (2, .int x2), (3, .int x3)]) C.1 C.2.1 dX3_inherit_9 hl (by decide) rfl (fun ls hl => ?_)
  refine lv_iconst (v := (0 : Int32)) C.1 C.2.1 dX3_inherit_11 rfl ?_
  refine lv_istore (lv' := [(6, .int (0 : Int32)), (5, .int (0 : Int32)), (4, .int r1), (0, .ref (zal G 2)), (1, .int x1), (2, .int x2), (3, .int x3)]) C.1 C.2.1 dX3_inherit_12 hl (by decide) rfl (fun ls hl => ?_)
  exact w_X3_inherit_14 C hm hk  zN _ _ _ _ _ _ _ _ _ _ (lv_sub hl [3, 4, 5, 6, 2, 1, 0] rfl) hS hf
end
section
theorem dX11_heirs_0 : decode cX11_heirs 0 = .ok (.iload_n 1, 1) := by decide +kernel
theorem dX11_heirs_1 : decode cX11_heirs 1 = .ok (.bipush 6, 2) := by decide +kernel
theorem dX11_heirs_3 : decode cX11_heirs 3 = .ok (.invokestatic 50, 3) := by decide +kernel
theorem dX11_heirs_6 : decode cX11_heirs 6 = .ok (.ifCond .eq 17, 3) := by decide +kernel
theorem dX11_heirs_9 : decode cX11_heirs 9 = .ok (.iload_n 2, 1) := by decide +kernel
theorem dX11_heirs_10 : decode cX11_heirs 10 = .ok (.ifCond .le 13, 3) := by decide +kernel
theorem dX11_heirs_13 : decode cX11_heirs 13 = .ok (.iload_n 2, 1) := by decide +kernel
theorem dX11_heirs_14 : decode cX11_heirs 14 = .ok (.bipush 64, 2) := by decide +kernel
theorem dX11_heirs_16 : decode cX11_heirs 16 = .ok (.if_icmp .ge 7, 3) := by decide +kernel
theorem dX11_heirs_19 : decode cX11_heirs 19 = .ok (.iconst 1, 1) := by decide +kernel
theorem dX11_heirs_20 : decode cX11_heirs 20 = .ok (.goto 4, 3) := by decide +kernel
theorem dX11_heirs_23 : decode cX11_heirs 23 = .ok (.iconst 0, 1) := by decide +kernel
theorem dX11_heirs_24 : decode cX11_heirs 24 = .ok (.istore_n 3, 1) := by decide +kernel
theorem dX11_heirs_25 : decode cX11_heirs 25 = .ok (.iload_n 3, 1) := by decide +kernel
theorem dX11_heirs_26 : decode cX11_heirs 26 = .ok (.ifCond .eq 11, 3) := by decide +kernel
theorem dX11_heirs_29 : decode cX11_heirs 29 = .ok (.iload_n 1, 1) := by decide +kernel
theorem dX11_heirs_30 : decode cX11_heirs 30 = .ok (.iload_n 2, 1) := by decide +kernel
theorem dX11_heirs_31 : decode cX11_heirs 31 = .ok (.invokestatic 79, 3) := by decide +kernel
theorem dX11_heirs_34 : decode cX11_heirs 34 = .ok (.ifCond .eq 5, 3) := by decide +kernel
theorem dX11_heirs_37 : decode cX11_heirs 37 = .ok (.iconst (-1), 1) := by decide +kernel
theorem dX11_heirs_38 : decode cX11_heirs 38 = .ok (.ireturn, 1) := by decide +kernel
theorem dX11_heirs_39 : decode cX11_heirs 39 = .ok (.iconst 0, 1) := by decide +kernel
theorem dX11_heirs_40 : decode cX11_heirs 40 = .ok (.istore 4, 2) := by decide +kernel
theorem dX11_heirs_42 : decode cX11_heirs 42 = .ok (.iconst 0, 1) := by decide +kernel
theorem dX11_heirs_43 : decode cX11_heirs 43 = .ok (.istore 5, 2) := by decide +kernel
theorem dX11_heirs_45 : decode cX11_heirs 45 = .ok (.iload 5, 2) := by decide +kernel
theorem dX11_heirs_47 : decode cX11_heirs 47 = .ok (.aload_n 0, 1) := by decide +kernel
theorem dX11_heirs_48 : decode cX11_heirs 48 = .ok (.getfield 12, 3) := by decide +kernel
theorem dX11_heirs_51 : decode cX11_heirs 51 = .ok (.getfield 54, 3) := by decide +kernel
theorem dX11_heirs_54 : decode cX11_heirs 54 = .ok (.getfield 58, 3) := by decide +kernel
theorem dX11_heirs_57 : decode cX11_heirs 57 = .ok (.if_icmp .ge 28, 3) := by decide +kernel
theorem dX11_heirs_60 : decode cX11_heirs 60 = .ok (.iload 4, 2) := by decide +kernel
theorem dX11_heirs_62 : decode cX11_heirs 62 = .ok (.aload_n 0, 1) := by decide +kernel
theorem dX11_heirs_63 : decode cX11_heirs 63 = .ok (.getfield 12, 3) := by decide +kernel
theorem dX11_heirs_66 : decode cX11_heirs 66 = .ok (.getfield 54, 3) := by decide +kernel
theorem dX11_heirs_69 : decode cX11_heirs 69 = .ok (.iload 5, 2) := by decide +kernel
theorem dX11_heirs_71 : decode cX11_heirs 71 = .ok (.iload_n 1, 1) := by decide +kernel
theorem dX11_heirs_72 : decode cX11_heirs 72 = .ok (.iload_n 2, 1) := by decide +kernel
theorem dX11_heirs_73 : decode cX11_heirs 73 = .ok (.invokevirtual 82, 3) := by decide +kernel
theorem dX11_heirs_76 : decode cX11_heirs 76 = .ok (.iadd, 1) := by decide +kernel
theorem dX11_heirs_77 : decode cX11_heirs 77 = .ok (.istore 4, 2) := by decide +kernel
theorem dX11_heirs_79 : decode cX11_heirs 79 = .ok (.iinc 5 1, 3) := by decide +kernel
theorem dX11_heirs_82 : decode cX11_heirs 82 = .ok (.goto (-37), 3) := by decide +kernel
theorem dX11_heirs_85 : decode cX11_heirs 85 = .ok (.aload_n 0, 1) := by decide +kernel
theorem dX11_heirs_86 : decode cX11_heirs 86 = .ok (.getfield 19, 3) := by decide +kernel
theorem dX11_heirs_89 : decode cX11_heirs 89 = .ok (.invokevirtual 47, 3) := by decide +kernel
theorem dX11_heirs_92 : decode cX11_heirs 92 = .ok (.iload 4, 2) := by decide +kernel
theorem dX11_heirs_94 : decode cX11_heirs 94 = .ok (.ireturn, 1) := by decide +kernel
abbrev nd_X11_heirs : List Nat := [0, 1, 2, 6, 22]
abbrev ld_X11_heirs : List (Nat × Nat) := [(0, 0), (0, 1), (1, 0), (2, 3)]
theorem sn_X11_heirs_X11_isBelow : ∀ c ∈ nd_X11_isBelow, c ∈ nd_X11_heirs := by decide
theorem sl_X11_heirs_X11_isBelow : ∀ q ∈ ld_X11_isBelow, q ∈ ld_X11_heirs := by decide
theorem sn_X11_heirs_X11_isIn : ∀ c ∈ nd_X11_isIn, c ∈ nd_X11_heirs := by decide
theorem sl_X11_heirs_X11_isIn : ∀ q ∈ ld_X11_isIn, q ∈ ld_X11_heirs := by decide
theorem sn_X11_heirs_X6_forget : ∀ c ∈ nd_X6_forget, c ∈ nd_X11_heirs := by decide
theorem sl_X11_heirs_X6_forget : ∀ q ∈ ld_X6_forget, q ∈ ld_X11_heirs := by decide
theorem sn_X11_heirs_X3_inherit : ∀ c ∈ nd_X3_inherit, c ∈ nd_X11_heirs := by decide
theorem sl_X11_heirs_X3_inherit : ∀ q ∈ ld_X3_inherit, q ∈ ld_X11_heirs := by decide
def f_X11_heirs_37  (h : zH) : zR := (some ((-1 : Int32), h))
def f_X11_heirs_45  : Nat → Int32 → Int32 → Int32 → Int32 → zH → zR
  | 0 => fun _ _ _ _ _ => none
  | n + 1 => fun x1 x2 x4 x5 h => (if (h 2 4) ≤ x5 then (zbd (f_X6_forget  h) fun r5 h6 => (some (x4, h6))) else (zbd (f_X3_inherit x5 x1 x2 h) fun r7 h8 => (zlt (x4 + r7) fun y9 => (zlt (x5 + (1 : Int32)) fun y10 => (f_X11_heirs_45  n x1 x2 y9 y10 h8)))))
def f_X11_heirs_24  (x1 : Int32) (x2 : Int32) (s0 : Int32) (h : zH) : zR := (if s0 = 0 then (f_X11_heirs_37   h) else (zbd (f_X11_isIn x1 x2 h) fun r3 h4 => (if r3 = 0 then (f_X11_heirs_45  zN x1 x2 (0 : Int32) (0 : Int32) h4) else (f_X11_heirs_37   h4))))
def f_X11_heirs_23  (x1 : Int32) (x2 : Int32) (h : zH) : zR := (f_X11_heirs_24  x1 x2 (0 : Int32) h)
def f_X11_heirs  (x1 : Int32) (x2 : Int32) (h : zH) : zR := (zbd (f_X11_isBelow x1 (6 : Int32) h) fun r1 h2 => (if r1 = 0 then (f_X11_heirs_23  x1 x2 h2) else (if x2 ≤ 0 then (f_X11_heirs_23  x1 x2 h2) else (if (64 : Int32) ≤ x2 then (f_X11_heirs_23  x1 x2 h2) else (f_X11_heirs_24  x1 x2 (1 : Int32) h2)))))
variable {p : Program} {l : Launch} {e : Env} {s : State} {m : MethodId} {args : Array Value} {below : List Frame} {meth : Method} {c : Code} {G : zG} {q : Int32 × zH}
set_option maxHeartbeats 4000000 in
set_option maxRecDepth 100000 in
theorem w_X11_heirs_37  (C : zC G p s m args meth c cX11_heirs 6 RX11 (some .int)) (hm : ∀ c ∈ nd_X11_heirs, c ∈ znm G) (hk : ∀ q ∈ ld_X11_heirs, zlk G q.1 q.2 = true)  : ∀ (ls : Array Slot) (H : Heap) (locs : List Loc) (h : zH), lv_has ls 6 [] → zS G h s.heap H locs → f_X11_heirs_37  h = some q → W p l e (zrm (4)) s m args below meth c H locs 0 0 (MQ below (zQI G q.2 q.1) args s 0 0 (zA G)) (F0 m 37 ls []) := by
  intro ls H locs h hl hS hf
  unfold f_X11_heirs_37 at hf
  refine lv_iconst (v := (-1 : Int32)) C.1 C.2.1 dX11_heirs_37 rfl ?_
  exact zretI C hS hf dX11_heirs_38
set_option maxHeartbeats 4000000 in
set_option maxRecDepth 100000 in
theorem w_X11_heirs_45  (C : zC G p s m args meth c cX11_heirs 6 RX11 (some .int)) (hm : ∀ c ∈ nd_X11_heirs, c ∈ znm G) (hk : ∀ q ∈ ld_X11_heirs, zlk G q.1 q.2 = true)  : ∀ n, ∀ (ls : Array Slot) (H : Heap) (locs : List Loc) (h : zH) (x1 : Int32) (x2 : Int32) (x4 : Int32) (x5 : Int32), lv_has ls 6 [(0, .ref (zal G 0)), (1, .int x1), (2, .int x2), (4, .int x4), (5, .int x5)] → zS G h s.heap H locs → f_X11_heirs_45  n x1 x2 x4 x5 h = some q → W p l e (zrm (4)) s m args below meth c H locs 0 0 (MQ below (zQI G q.2 q.1) args s 0 0 (zA G)) (F0 m 45 ls []) := by
  intro n
  induction n with
  | zero => intro ls H locs h x1 x2 x4 x5 hl hS hf; cases hf
  | succ n ih =>
    intro ls H locs h x1 x2 x4 x5 hl hS hf
    rw [f_X11_heirs_45] at hf
    refine lv_iload C.1 C.2.1 dX11_heirs_45 (lv_at hl 4 rfl) ?_
    refine lv_aload_n C.1 C.2.1 dX11_heirs_47 rfl (lv_at hl 0 rfl) ?_
    refine zgetR C hS ff_X11_12_0 (hm 0 (by decide)) (hk (0, 0) (by decide)) dX11_heirs_48 ?_
    refine zgetR C hS ff_X11_54_1 (hm 1 (by decide)) (hk (1, 0) (by decide)) dX11_heirs_51 ?_
    refine zgetI C hS ff_X11_58_2 (hm 2 (by decide)) dX11_heirs_54 ?_
    refine lv_icmp_ge (tgt := 85) C.1 C.2.1 dX11_heirs_57 (by decide) (fun hc => ?_) (fun hc => ?_)
    · have hf := zif_t hc hf
      refine lv_aload_n C.1 C.2.1 dX11_heirs_85 rfl (lv_at hl 0 rfl) ?_
      refine zgetR C hS ff_X11_19_0 (hm 0 (by decide)) (hk (0, 1) (by decide)) dX11_heirs_86 ?_
      obtain ⟨r5, h6, er5, hf⟩ := zbd_some hf
      refine zcallVV (As := []) (rest := []) C hS mv_X11_47 (c_X6_forget l G h  (r5, h6) (fun c h => hm c (sn_X11_heirs_X6_forget c h)) (fun q h => hk q (sl_X11_heirs_X6_forget q h)) er5) (hm 22 (by decide)) ⟨_, _, _, sh_22, rfl, rfl⟩ rfl rfl (Nat.le_of_ble_eq_true rfl) hl.1 ⟨Nat.le_of_ble_eq_true rfl, Nat.le_of_ble_eq_true rfl, Nat.le_of_ble_eq_true rfl, Nat.le_of_ble_eq_true rfl⟩ dX11_heirs_89 (fun H locs hS => ?_)
      refine lv_iload C.1 C.2.1 dX11_heirs_92 (lv_at hl 3 rfl) ?_
      exact zretI C hS hf dX11_heirs_94
    · have hf := zif_f hc hf
      refine lv_iload C.1 C.2.1 dX11_heirs_60 (lv_at hl 3 rfl) ?_
      refine lv_aload_n C.1 C.2.1 dX11_heirs_62 rfl (lv_at hl 0 rfl) ?_
      refine zgetR C hS ff_X11_12_0 (hm 0 (by decide)) (hk (0, 0) (by decide)) dX11_heirs_63 ?_
      refine zgetR C hS ff_X11_54_1 (hm 1 (by decide)) (hk (1, 0) (by decide)) dX11_heirs_66 ?_
      refine lv_iload C.1 C.2.1 dX11_heirs_69 (lv_at hl 4 rfl) ?_
      refine lv_iload_n C.1 C.2.1 dX11_heirs_71 rfl (lv_at hl 1 rfl) ?_
      refine lv_iload_n C.1 C.2.1 dX11_heirs_72 rfl (lv_at hl 2 rfl) ?_
      obtain ⟨r7, h8, er7, hf⟩ := zbd_some hf
      refine zcallVI (As := [.int x5, .int x1, .int x2]) (rest := [.int x4]) C hS mv_X11_82 (c_X3_inherit l G h x5 x1 x2 (r7, h8) (fun c h => hm c (sn_X11_heirs_X3_inherit c h)) (fun q h => hk q (sl_X11_heirs_X3_inherit q h)) er7) (hm 2 (by decide)) ⟨_, _, _, sh_2, rfl, rfl⟩ rfl rfl (Nat.le_of_ble_eq_true rfl) hl.1 ⟨Nat.le_of_ble_eq_true rfl, Nat.le_of_ble_eq_true rfl, Nat.le_of_ble_eq_true rfl, Nat.le_of_ble_eq_true rfl⟩ dX11_heirs_73 (fun H locs hS => ?_)
      refine lv_iadd C.1 C.2.1 dX11_heirs_76 ?_
      obtain ⟨y9, ey9, hf⟩ := zlt_some hf
      refine ztop ey9 ?_
      refine lv_istore (lv' := [(4, .int y9), (0, .ref (zal G 0)), (1, .int x1), (2, .int x2), (5, .int x5)]) C.1 C.2.1 dX11_heirs_77 hl (by decide) rfl (fun ls hl => ?_)
      obtain ⟨y10, ey10, hf⟩ := zlt_some hf
      refine lv_iinc (v := y10) (lv' := [(5, .int y10), (4, .int y9), (0, .ref (zal G 0)), (1, .int x1), (2, .int x2)]) C.1 C.2.1 dX11_heirs_79 hl (k := 4) rfl ey10.symm (by decide) rfl (fun ls hl => ?_)
      refine lv_goto (tgt := 45) C.1 C.2.1 dX11_heirs_82 (by decide) ?_
      exact ih _ _ _ _ _ _ _ _ (lv_sub hl [2, 3, 4, 1, 0] rfl) hS hf
set_option maxHeartbeats 4000000 in
set_option maxRecDepth 100000 in
theorem w_X11_heirs_24  (C : zC G p s m args meth c cX11_heirs 6 RX11 (some .int)) (hm : ∀ c ∈ nd_X11_heirs, c ∈ znm G) (hk : ∀ q ∈ ld_X11_heirs, zlk G q.1 q.2 = true)  : ∀ (ls : Array Slot) (H : Heap) (locs : List Loc) (h : zH) (x1 : Int32) (x2 : Int32) (s0 : Int32), lv_has ls 6 [(0, .ref (zal G 0)), (1, .int x1), (2, .int x2)] → zS G h s.heap H locs → f_X11_heirs_24  x1 x2 s0 h = some q → W p l e (zrm (4)) s m args below meth c H locs 0 0 (MQ below (zQI G q.2 q.1) args s 0 0 (zA G)) (F0 m 24 ls [.int s0]) := by
  intro ls H locs h x1 x2 s0 hl hS hf
  unfold f_X11_heirs_24 at hf
  refine lv_istore_n (lv' := [(3, .int s0), (0, .ref (zal G 0)), (1, .int x1), (2, .int x2)]) C.1 C.2.1 dX11_heirs_24 rfl hl (by decide) rfl (fun ls hl => ?_)
  refine lv_iload_n C.1 C.2.1 dX11_heirs_25 rfl (lv_at hl 0 rfl) ?_
  refine lv_if_eq (tgt := 37) C.1 C.2.1 dX11_heirs_26 (by decide) (fun hc => ?_) (fun hc => ?_)
  · have hf := zif_t hc hf
    exact w_X11_heirs_37 C hm hk  _ _ _ _ (lv_sub hl [] rfl) hS hf
  · have hf := zif_f hc hf
    refine lv_iload_n C.1 C.2.1 dX11_heirs_29 rfl (lv_at hl 2 rfl) ?_
    refine lv_iload_n C.1 C.2.1 dX11_heirs_30 rfl (lv_at hl 3 rfl) ?_
    obtain ⟨r3, h4, er3, hf⟩ := zbd_some hf
    refine zcallSI (As := [.int x1, .int x2]) (rest := []) C hS ms_X11_79 (c_X11_isIn l G h x1 x2 (r3, h4) (fun c h => hm c (sn_X11_heirs_X11_isIn c h)) (fun q h => hk q (sl_X11_heirs_X11_isIn q h)) er3) rfl rfl (Nat.le_of_ble_eq_true rfl) hl.1 ⟨Nat.le_of_ble_eq_true rfl, Nat.le_of_ble_eq_true rfl, Nat.le_of_ble_eq_true rfl, Nat.le_of_ble_eq_true rfl⟩ dX11_heirs_31 (fun H locs hS => ?_)
    refine lv_if_eq (tgt := 39) C.1 C.2.1 dX11_heirs_34 (by decide) (fun hc => ?_) (fun hc => ?_)
    · have hf := zif_t hc hf
      refine lv_iconst (v := (0 : Int32)) C.1 C.2.1 dX11_heirs_39 rfl ?_
      refine lv_istore (lv' := [(4, .int (0 : Int32)), (3, .int s0), (0, .ref (zal G 0)), (1, .int x1), (2, .int x2)]) C.1 C.2.1 dX11_heirs_40 hl (by decide) rfl (fun ls hl => ?_)
      refine lv_iconst (v := (0 : Int32)) C.1 C.2.1 dX11_heirs_42 rfl ?_
      refine lv_istore (lv' := [(5, .int (0 : Int32)), (4, .int (0 : Int32)), (3, .int s0), (0, .ref (zal G 0)), (1, .int x1), (2, .int x2)]) C.1 C.2.1 dX11_heirs_43 hl (by decide) rfl (fun ls hl => ?_)
      exact w_X11_heirs_45 C hm hk  zN _ _ _ _ _ _ _ _ (lv_sub hl [3, 4, 5, 1, 0] rfl) hS hf
    · have hf := zif_f hc hf
      exact w_X11_heirs_37 C hm hk  _ _ _ _ (lv_sub hl [] rfl) hS hf
set_option maxHeartbeats 4000000 in
set_option maxRecDepth 100000 in
theorem w_X11_heirs_23  (C : zC G p s m args meth c cX11_heirs 6 RX11 (some .int)) (hm : ∀ c ∈ nd_X11_heirs, c ∈ znm G) (hk : ∀ q ∈ ld_X11_heirs, zlk G q.1 q.2 = true)  : ∀ (ls : Array Slot) (H : Heap) (locs : List Loc) (h : zH) (x1 : Int32) (x2 : Int32), lv_has ls 6 [(0, .ref (zal G 0)), (1, .int x1), (2, .int x2)] → zS G h s.heap H locs → f_X11_heirs_23  x1 x2 h = some q → W p l e (zrm (4)) s m args below meth c H locs 0 0 (MQ below (zQI G q.2 q.1) args s 0 0 (zA G)) (F0 m 23 ls []) := by
  intro ls H locs h x1 x2 hl hS hf
  unfold f_X11_heirs_23 at hf
  refine lv_iconst (v := (0 : Int32)) C.1 C.2.1 dX11_heirs_23 rfl ?_
  exact w_X11_heirs_24 C hm hk  _ _ _ _ _ _ _ (lv_sub hl [0, 1, 2] rfl) hS hf
set_option maxHeartbeats 4000000 in
set_option maxRecDepth 100000 in
theorem c_X11_heirs (l : Launch) (G : zG) (h : zH) (x1 : Int32) (x2 : Int32) (q : Int32 × zH) (hm : ∀ c ∈ nd_X11_heirs, c ∈ znm G) (hk : ∀ q ∈ ld_X11_heirs, zlk G q.1 q.2 = true) (hf : f_X11_heirs x1 x2 h = some q) : zCtI l yX11_heirs cX11_heirs 6 (some .int) (4) [.ref (zal G 0), .int x1, .int x2] G h q.2 q.1 := by
  refine zMetI (by decide) (Nat.le_of_ble_eq_true rfl) ?_
  intro p e s m below meth c ls C hl hS
  have hl : lv_has ls 6 [(0, .ref (zal G 0)), (1, .int x1), (2, .int x2)] := hl
  have C : zC G p s m [.ref (zal G 0), .int x1, .int x2].toArray meth c cX11_heirs 6 RX11 (some .int) := C
  unfold f_X11_heirs at hf
  refine lv_iload_n C.1 C.2.1 dX11_heirs_0 rfl (lv_at hl 1 rfl) ?_
  refine lv_bipush (v := (6 : Int32)) C.1 C.2.1 dX11_heirs_1 rfl ?_
  obtain ⟨r1, h2, er1, hf⟩ := zbd_some hf
  refine zcallSI (As := [.int x1, .int (6 : Int32)]) (rest := []) C hS ms_X11_50 (c_X11_isBelow l G h x1 (6 : Int32) (r1, h2) (fun c h => hm c (sn_X11_heirs_X11_isBelow c h)) (fun q h => hk q (sl_X11_heirs_X11_isBelow q h)) er1) rfl rfl (Nat.le_of_ble_eq_true rfl) hl.1 ⟨Nat.le_of_ble_eq_true rfl, Nat.le_of_ble_eq_true rfl, Nat.le_of_ble_eq_true rfl, Nat.le_of_ble_eq_true rfl⟩ dX11_heirs_3 (fun H locs hS => ?_)
  refine lv_if_eq (tgt := 23) C.1 C.2.1 dX11_heirs_6 (by decide) (fun hc => ?_) (fun hc => ?_)
  · have hf := zif_t hc hf
    exact w_X11_heirs_23 C hm hk  _ _ _ _ _ _ (lv_sub hl [0, 1, 2] rfl) hS hf
  · have hf := zif_f hc hf
    refine lv_iload_n C.1 C.2.1 dX11_heirs_9 rfl (lv_at hl 2 rfl) ?_
    refine lv_if_le (tgt := 23) C.1 C.2.1 dX11_heirs_10 (by decide) (fun hc => ?_) (fun hc => ?_)
    · have hf := zif_t hc hf
      exact w_X11_heirs_23 C hm hk  _ _ _ _ _ _ (lv_sub hl [0, 1, 2] rfl) hS hf
    · have hf := zif_f hc hf
      refine lv_iload_n C.1 C.2.1 dX11_heirs_13 rfl (lv_at hl 2 rfl) ?_
      refine lv_bipush (v := (64 : Int32)) C.1 C.2.1 dX11_heirs_14 rfl ?_
      refine lv_icmp_ge (tgt := 23) C.1 C.2.1 dX11_heirs_16 (by decide) (fun hc => ?_) (fun hc => ?_)
      · have hf := zif_t hc hf
        exact w_X11_heirs_23 C hm hk  _ _ _ _ _ _ (lv_sub hl [0, 1, 2] rfl) hS hf
      · have hf := zif_f hc hf
        refine lv_iconst (v := (1 : Int32)) C.1 C.2.1 dX11_heirs_19 rfl ?_
        refine lv_goto (tgt := 24) C.1 C.2.1 dX11_heirs_20 (by decide) ?_
        exact w_X11_heirs_24 C hm hk  _ _ _ _ _ _ _ (lv_sub hl [0, 1, 2] rfl) hS hf
end
section
theorem dX4_quarrel_0 : decode cX4_quarrel 0 = .ok (.aload_n 0, 1) := by decide +kernel
theorem dX4_quarrel_1 : decode cX4_quarrel 1 = .ok (.getfield 39, 3) := by decide +kernel
theorem dX4_quarrel_4 : decode cX4_quarrel 4 = .ok (.iload_n 1, 1) := by decide +kernel
theorem dX4_quarrel_5 : decode cX4_quarrel 5 = .ok (.iload_n 3, 1) := by decide +kernel
theorem dX4_quarrel_6 : decode cX4_quarrel 6 = .ok (.ifCond .eq 16, 3) := by decide +kernel
theorem dX4_quarrel_9 : decode cX4_quarrel 9 = .ok (.aload_n 0, 1) := by decide +kernel
theorem dX4_quarrel_10 : decode cX4_quarrel 10 = .ok (.getfield 39, 3) := by decide +kernel
theorem dX4_quarrel_13 : decode cX4_quarrel 13 = .ok (.iload_n 1, 1) := by decide +kernel
theorem dX4_quarrel_14 : decode cX4_quarrel 14 = .ok (.iaload, 1) := by decide +kernel
theorem dX4_quarrel_15 : decode cX4_quarrel 15 = .ok (.iconst 1, 1) := by decide +kernel
theorem dX4_quarrel_16 : decode cX4_quarrel 16 = .ok (.iload_n 2, 1) := by decide +kernel
theorem dX4_quarrel_17 : decode cX4_quarrel 17 = .ok (.ishl, 1) := by decide +kernel
theorem dX4_quarrel_18 : decode cX4_quarrel 18 = .ok (.ior, 1) := by decide +kernel
theorem dX4_quarrel_19 : decode cX4_quarrel 19 = .ok (.goto 15, 3) := by decide +kernel
theorem dX4_quarrel_22 : decode cX4_quarrel 22 = .ok (.aload_n 0, 1) := by decide +kernel
theorem dX4_quarrel_23 : decode cX4_quarrel 23 = .ok (.getfield 39, 3) := by decide +kernel
theorem dX4_quarrel_26 : decode cX4_quarrel 26 = .ok (.iload_n 1, 1) := by decide +kernel
theorem dX4_quarrel_27 : decode cX4_quarrel 27 = .ok (.iaload, 1) := by decide +kernel
theorem dX4_quarrel_28 : decode cX4_quarrel 28 = .ok (.iconst 1, 1) := by decide +kernel
theorem dX4_quarrel_29 : decode cX4_quarrel 29 = .ok (.iload_n 2, 1) := by decide +kernel
theorem dX4_quarrel_30 : decode cX4_quarrel 30 = .ok (.ishl, 1) := by decide +kernel
theorem dX4_quarrel_31 : decode cX4_quarrel 31 = .ok (.iconst (-1), 1) := by decide +kernel
theorem dX4_quarrel_32 : decode cX4_quarrel 32 = .ok (.ixor, 1) := by decide +kernel
theorem dX4_quarrel_33 : decode cX4_quarrel 33 = .ok (.iand, 1) := by decide +kernel
theorem dX4_quarrel_34 : decode cX4_quarrel 34 = .ok (.iastore, 1) := by decide +kernel
theorem dX4_quarrel_35 : decode cX4_quarrel 35 = .ok (.aload_n 0, 1) := by decide +kernel
theorem dX4_quarrel_36 : decode cX4_quarrel 36 = .ok (.getfield 39, 3) := by decide +kernel
theorem dX4_quarrel_39 : decode cX4_quarrel 39 = .ok (.iload_n 2, 1) := by decide +kernel
theorem dX4_quarrel_40 : decode cX4_quarrel 40 = .ok (.iload_n 3, 1) := by decide +kernel
theorem dX4_quarrel_41 : decode cX4_quarrel 41 = .ok (.ifCond .eq 16, 3) := by decide +kernel
theorem dX4_quarrel_44 : decode cX4_quarrel 44 = .ok (.aload_n 0, 1) := by decide +kernel
theorem dX4_quarrel_45 : decode cX4_quarrel 45 = .ok (.getfield 39, 3) := by decide +kernel
theorem dX4_quarrel_48 : decode cX4_quarrel 48 = .ok (.iload_n 2, 1) := by decide +kernel
theorem dX4_quarrel_49 : decode cX4_quarrel 49 = .ok (.iaload, 1) := by decide +kernel
theorem dX4_quarrel_50 : decode cX4_quarrel 50 = .ok (.iconst 1, 1) := by decide +kernel
theorem dX4_quarrel_51 : decode cX4_quarrel 51 = .ok (.iload_n 1, 1) := by decide +kernel
theorem dX4_quarrel_52 : decode cX4_quarrel 52 = .ok (.ishl, 1) := by decide +kernel
theorem dX4_quarrel_53 : decode cX4_quarrel 53 = .ok (.ior, 1) := by decide +kernel
theorem dX4_quarrel_54 : decode cX4_quarrel 54 = .ok (.goto 15, 3) := by decide +kernel
theorem dX4_quarrel_57 : decode cX4_quarrel 57 = .ok (.aload_n 0, 1) := by decide +kernel
theorem dX4_quarrel_58 : decode cX4_quarrel 58 = .ok (.getfield 39, 3) := by decide +kernel
theorem dX4_quarrel_61 : decode cX4_quarrel 61 = .ok (.iload_n 2, 1) := by decide +kernel
theorem dX4_quarrel_62 : decode cX4_quarrel 62 = .ok (.iaload, 1) := by decide +kernel
theorem dX4_quarrel_63 : decode cX4_quarrel 63 = .ok (.iconst 1, 1) := by decide +kernel
theorem dX4_quarrel_64 : decode cX4_quarrel 64 = .ok (.iload_n 1, 1) := by decide +kernel
theorem dX4_quarrel_65 : decode cX4_quarrel 65 = .ok (.ishl, 1) := by decide +kernel
theorem dX4_quarrel_66 : decode cX4_quarrel 66 = .ok (.iconst (-1), 1) := by decide +kernel
theorem dX4_quarrel_67 : decode cX4_quarrel 67 = .ok (.ixor, 1) := by decide +kernel
theorem dX4_quarrel_68 : decode cX4_quarrel 68 = .ok (.iand, 1) := by decide +kernel
theorem dX4_quarrel_69 : decode cX4_quarrel 69 = .ok (.iastore, 1) := by decide +kernel
theorem dX4_quarrel_70 : decode cX4_quarrel 70 = .ok (.return_, 1) := by decide +kernel
abbrev nd_X4_quarrel : List Nat := [1, 20]
abbrev ld_X4_quarrel : List (Nat × Nat) := [(1, 4)]
def f_X4_quarrel_69  (s0 : Int32) (s1 : Int32) (h : zH) : zR := (zck s1 6 (zst (zup h 20 (Int32.toNatClampNeg s1) s0) fun h2 => (some (0, h2))))
def f_X4_quarrel_34  (x1 : Int32) (x2 : Int32) (x3 : Int32) (s0 : Int32) (s1 : Int32) (h : zH) : zR := (zck s1 6 (zst (zup h 20 (Int32.toNatClampNeg s1) s0) fun h1 => (if x3 = 0 then (zck x2 6 (f_X4_quarrel_69  ((h1 20 (Int32.toNatClampNeg x2)) &&& (((1 : Int32) <<< (x1 &&& 31)) ^^^ (-1 : Int32))) x2 h1)) else (zck x2 6 (f_X4_quarrel_69  ((h1 20 (Int32.toNatClampNeg x2)) ||| ((1 : Int32) <<< (x1 &&& 31))) x2 h1)))))
def f_X4_quarrel  (x1 : Int32) (x2 : Int32) (x3 : Int32) (h : zH) : zR := (if x3 = 0 then (zck x1 6 (f_X4_quarrel_34  x1 x2 x3 ((h 20 (Int32.toNatClampNeg x1)) &&& (((1 : Int32) <<< (x2 &&& 31)) ^^^ (-1 : Int32))) x1 h)) else (zck x1 6 (f_X4_quarrel_34  x1 x2 x3 ((h 20 (Int32.toNatClampNeg x1)) ||| ((1 : Int32) <<< (x2 &&& 31))) x1 h)))
variable {p : Program} {l : Launch} {e : Env} {s : State} {m : MethodId} {args : Array Value} {below : List Frame} {meth : Method} {c : Code} {G : zG} {q : Int32 × zH}
set_option maxHeartbeats 4000000 in
set_option maxRecDepth 100000 in
theorem w_X4_quarrel_69  (C : zC G p s m args meth c cX4_quarrel 4 RX4 none) (hm : ∀ c ∈ nd_X4_quarrel, c ∈ znm G) (hk : ∀ q ∈ ld_X4_quarrel, zlk G q.1 q.2 = true)  : ∀ (ls : Array Slot) (H : Heap) (locs : List Loc) (h : zH) (s0 : Int32) (s1 : Int32), lv_has ls 4 [] → zS G h s.heap H locs → f_X4_quarrel_69  s0 s1 h = some q → W p l e (zrm (2)) s m args below meth c H locs 0 0 (MQ below (zQV G q.2) args s 0 0 (zA G)) (F0 m 69 ls [.int s0, .int s1, .ref (zal G 20)]) := by
  intro ls H locs h s0 s1 hl hS hf
  unfold f_X4_quarrel_69 at hf
  obtain ⟨hi, hf⟩ := zck_some hf
  refine zast C hS sh_20 (hm 20 (by decide)) hi dX4_quarrel_69 (fun H locs hS => ?_)
  obtain ⟨h2, eh2, hf⟩ := zst_some hf
  have hS : zS G h2 s.heap H locs := by rw [eh2]; exact hS
  exact zretV C hS hf dX4_quarrel_70
set_option maxHeartbeats 4000000 in
set_option maxRecDepth 100000 in
theorem w_X4_quarrel_34  (C : zC G p s m args meth c cX4_quarrel 4 RX4 none) (hm : ∀ c ∈ nd_X4_quarrel, c ∈ znm G) (hk : ∀ q ∈ ld_X4_quarrel, zlk G q.1 q.2 = true)  : ∀ (ls : Array Slot) (H : Heap) (locs : List Loc) (h : zH) (x1 : Int32) (x2 : Int32) (x3 : Int32) (s0 : Int32) (s1 : Int32), lv_has ls 4 [(0, .ref (zal G 1)), (1, .int x1), (2, .int x2), (3, .int x3)] → zS G h s.heap H locs → f_X4_quarrel_34  x1 x2 x3 s0 s1 h = some q → W p l e (zrm (2)) s m args below meth c H locs 0 0 (MQ below (zQV G q.2) args s 0 0 (zA G)) (F0 m 34 ls [.int s0, .int s1, .ref (zal G 20)]) := by
  intro ls H locs h x1 x2 x3 s0 s1 hl hS hf
  unfold f_X4_quarrel_34 at hf
  obtain ⟨hi, hf⟩ := zck_some hf
  refine zast C hS sh_20 (hm 20 (by decide)) hi dX4_quarrel_34 (fun H locs hS => ?_)
  obtain ⟨h1, eh1, hf⟩ := zst_some hf
  have hS : zS G h1 s.heap H locs := by rw [eh1]; exact hS
  refine lv_aload_n C.1 C.2.1 dX4_quarrel_35 rfl (lv_at hl 0 rfl) ?_
  refine zgetR C hS ff_X4_39_1 (hm 1 (by decide)) (hk (1, 4) (by decide)) dX4_quarrel_36 ?_
  refine lv_iload_n C.1 C.2.1 dX4_quarrel_39 rfl (lv_at hl 2 rfl) ?_
  refine lv_iload_n C.1 C.2.1 dX4_quarrel_40 rfl (lv_at hl 3 rfl) ?_
  refine lv_if_eq (tgt := 57) C.1 C.2.1 dX4_quarrel_41 (by decide) (fun hc => ?_) (fun hc => ?_)
  · have hf := zif_t hc hf
    refine lv_aload_n C.1 C.2.1 dX4_quarrel_57 rfl (lv_at hl 0 rfl) ?_
    refine zgetR C hS ff_X4_39_1 (hm 1 (by decide)) (hk (1, 4) (by decide)) dX4_quarrel_58 ?_
    refine lv_iload_n C.1 C.2.1 dX4_quarrel_61 rfl (lv_at hl 2 rfl) ?_
    obtain ⟨hi, hf⟩ := zck_some hf
    refine zald C hS sh_20 (hm 20 (by decide)) hi dX4_quarrel_62 ?_
    refine lv_iconst (v := (1 : Int32)) C.1 C.2.1 dX4_quarrel_63 rfl ?_
    refine lv_iload_n C.1 C.2.1 dX4_quarrel_64 rfl (lv_at hl 1 rfl) ?_
    refine lv_ishl C.1 C.2.1 dX4_quarrel_65 ?_
    refine lv_iconst (v := (-1 : Int32)) C.1 C.2.1 dX4_quarrel_66 rfl ?_
    refine lv_ixor C.1 C.2.1 dX4_quarrel_67 ?_
    refine lv_iand C.1 C.2.1 dX4_quarrel_68 ?_
    exact w_X4_quarrel_69 C hm hk  _ _ _ _ _ _ (lv_sub hl [] rfl) hS hf
  · have hf := zif_f hc hf
    refine lv_aload_n C.1 C.2.1 dX4_quarrel_44 rfl (lv_at hl 0 rfl) ?_
    refine zgetR C hS ff_X4_39_1 (hm 1 (by decide)) (hk (1, 4) (by decide)) dX4_quarrel_45 ?_
    refine lv_iload_n C.1 C.2.1 dX4_quarrel_48 rfl (lv_at hl 2 rfl) ?_
    obtain ⟨hi, hf⟩ := zck_some hf
    refine zald C hS sh_20 (hm 20 (by decide)) hi dX4_quarrel_49 ?_
    refine lv_iconst (v := (1 : Int32)) C.1 C.2.1 dX4_quarrel_50 rfl ?_
    refine lv_iload_n C.1 C.2.1 dX4_quarrel_51 rfl (lv_at hl 1 rfl) ?_
    refine lv_ishl C.1 C.2.1 dX4_quarrel_52 ?_
    refine lv_ior C.1 C.2.1 dX4_quarrel_53 ?_
    refine lv_goto (tgt := 69) C.1 C.2.1 dX4_quarrel_54 (by decide) ?_
    exact w_X4_quarrel_69 C hm hk  _ _ _ _ _ _ (lv_sub hl [] rfl) hS hf
set_option maxHeartbeats 4000000 in
set_option maxRecDepth 100000 in
theorem c_X4_quarrel (l : Launch) (G : zG) (h : zH) (x1 : Int32) (x2 : Int32) (x3 : Int32) (q : Int32 × zH) (hm : ∀ c ∈ nd_X4_quarrel, c ∈ znm G) (hk : ∀ q ∈ ld_X4_quarrel, zlk G q.1 q.2 = true) (hf : f_X4_quarrel x1 x2 x3 h = some q) : zCtV l yX4_quarrel cX4_quarrel 4 none (2) [.ref (zal G 1), .int x1, .int x2, .int x3] G h q.2 := by
  refine zMetV (by decide) (Nat.le_of_ble_eq_true rfl) ?_
  intro p e s m below meth c ls C hl hS
  have hl : lv_has ls 4 [(0, .ref (zal G 1)), (1, .int x1), (2, .int x2), (3, .int x3)] := hl
  have C : zC G p s m [.ref (zal G 1), .int x1, .int x2, .int x3].toArray meth c cX4_quarrel 4 RX4 none := C
  unfold f_X4_quarrel at hf
  refine lv_aload_n C.1 C.2.1 dX4_quarrel_0 rfl (lv_at hl 0 rfl) ?_
  refine zgetR C hS ff_X4_39_1 (hm 1 (by decide)) (hk (1, 4) (by decide)) dX4_quarrel_1 ?_
  refine lv_iload_n C.1 C.2.1 dX4_quarrel_4 rfl (lv_at hl 1 rfl) ?_
  refine lv_iload_n C.1 C.2.1 dX4_quarrel_5 rfl (lv_at hl 3 rfl) ?_
  refine lv_if_eq (tgt := 22) C.1 C.2.1 dX4_quarrel_6 (by decide) (fun hc => ?_) (fun hc => ?_)
  · have hf := zif_t hc hf
    refine lv_aload_n C.1 C.2.1 dX4_quarrel_22 rfl (lv_at hl 0 rfl) ?_
    refine zgetR C hS ff_X4_39_1 (hm 1 (by decide)) (hk (1, 4) (by decide)) dX4_quarrel_23 ?_
    refine lv_iload_n C.1 C.2.1 dX4_quarrel_26 rfl (lv_at hl 1 rfl) ?_
    obtain ⟨hi, hf⟩ := zck_some hf
    refine zald C hS sh_20 (hm 20 (by decide)) hi dX4_quarrel_27 ?_
    refine lv_iconst (v := (1 : Int32)) C.1 C.2.1 dX4_quarrel_28 rfl ?_
    refine lv_iload_n C.1 C.2.1 dX4_quarrel_29 rfl (lv_at hl 2 rfl) ?_
    refine lv_ishl C.1 C.2.1 dX4_quarrel_30 ?_
    refine lv_iconst (v := (-1 : Int32)) C.1 C.2.1 dX4_quarrel_31 rfl ?_
    refine lv_ixor C.1 C.2.1 dX4_quarrel_32 ?_
    refine lv_iand C.1 C.2.1 dX4_quarrel_33 ?_
    exact w_X4_quarrel_34 C hm hk  _ _ _ _ _ _ _ _ _ (lv_sub hl [0, 1, 2, 3] rfl) hS hf
  · have hf := zif_f hc hf
    refine lv_aload_n C.1 C.2.1 dX4_quarrel_9 rfl (lv_at hl 0 rfl) ?_
    refine zgetR C hS ff_X4_39_1 (hm 1 (by decide)) (hk (1, 4) (by decide)) dX4_quarrel_10 ?_
    refine lv_iload_n C.1 C.2.1 dX4_quarrel_13 rfl (lv_at hl 1 rfl) ?_
    obtain ⟨hi, hf⟩ := zck_some hf
    refine zald C hS sh_20 (hm 20 (by decide)) hi dX4_quarrel_14 ?_
    refine lv_iconst (v := (1 : Int32)) C.1 C.2.1 dX4_quarrel_15 rfl ?_
    refine lv_iload_n C.1 C.2.1 dX4_quarrel_16 rfl (lv_at hl 2 rfl) ?_
    refine lv_ishl C.1 C.2.1 dX4_quarrel_17 ?_
    refine lv_ior C.1 C.2.1 dX4_quarrel_18 ?_
    refine lv_goto (tgt := 34) C.1 C.2.1 dX4_quarrel_19 (by decide) ?_
    exact w_X4_quarrel_34 C hm hk  _ _ _ _ _ _ _ _ _ (lv_sub hl [0, 1, 2, 3] rfl) hS hf
end
section
theorem dX11_feud_0 : decode cX11_feud 0 = .ok (.iload_n 1, 1) := by decide +kernel
theorem dX11_feud_1 : decode cX11_feud 1 = .ok (.bipush 6, 2) := by decide +kernel
theorem dX11_feud_3 : decode cX11_feud 3 = .ok (.invokestatic 50, 3) := by decide +kernel
theorem dX11_feud_6 : decode cX11_feud 6 = .ok (.ifCond .eq 17, 3) := by decide +kernel
theorem dX11_feud_9 : decode cX11_feud 9 = .ok (.iload_n 2, 1) := by decide +kernel
theorem dX11_feud_10 : decode cX11_feud 10 = .ok (.bipush 6, 2) := by decide +kernel
theorem dX11_feud_12 : decode cX11_feud 12 = .ok (.invokestatic 50, 3) := by decide +kernel
theorem dX11_feud_15 : decode cX11_feud 15 = .ok (.ifCond .eq 8, 3) := by decide +kernel
theorem dX11_feud_18 : decode cX11_feud 18 = .ok (.iload_n 1, 1) := by decide +kernel
theorem dX11_feud_19 : decode cX11_feud 19 = .ok (.iload_n 2, 1) := by decide +kernel
theorem dX11_feud_20 : decode cX11_feud 20 = .ok (.if_icmp .ne 5, 3) := by decide +kernel
theorem dX11_feud_23 : decode cX11_feud 23 = .ok (.iconst 0, 1) := by decide +kernel
theorem dX11_feud_24 : decode cX11_feud 24 = .ok (.ireturn, 1) := by decide +kernel
theorem dX11_feud_25 : decode cX11_feud 25 = .ok (.aload_n 0, 1) := by decide +kernel
theorem dX11_feud_26 : decode cX11_feud 26 = .ok (.getfield 12, 3) := by decide +kernel
theorem dX11_feud_29 : decode cX11_feud 29 = .ok (.iload_n 1, 1) := by decide +kernel
theorem dX11_feud_30 : decode cX11_feud 30 = .ok (.iload_n 2, 1) := by decide +kernel
theorem dX11_feud_31 : decode cX11_feud 31 = .ok (.iload_n 3, 1) := by decide +kernel
theorem dX11_feud_32 : decode cX11_feud 32 = .ok (.invokevirtual 86, 3) := by decide +kernel
theorem dX11_feud_35 : decode cX11_feud 35 = .ok (.aload_n 0, 1) := by decide +kernel
theorem dX11_feud_36 : decode cX11_feud 36 = .ok (.getfield 19, 3) := by decide +kernel
theorem dX11_feud_39 : decode cX11_feud 39 = .ok (.invokevirtual 47, 3) := by decide +kernel
theorem dX11_feud_42 : decode cX11_feud 42 = .ok (.iconst 1, 1) := by decide +kernel
theorem dX11_feud_43 : decode cX11_feud 43 = .ok (.ireturn, 1) := by decide +kernel
abbrev nd_X11_feud : List Nat := [0, 1, 20, 22]
abbrev ld_X11_feud : List (Nat × Nat) := [(0, 0), (0, 1), (1, 4)]
theorem sn_X11_feud_X11_isBelow : ∀ c ∈ nd_X11_isBelow, c ∈ nd_X11_feud := by decide
theorem sl_X11_feud_X11_isBelow : ∀ q ∈ ld_X11_isBelow, q ∈ ld_X11_feud := by decide
theorem sn_X11_feud_X4_quarrel : ∀ c ∈ nd_X4_quarrel, c ∈ nd_X11_feud := by decide
theorem sl_X11_feud_X4_quarrel : ∀ q ∈ ld_X4_quarrel, q ∈ ld_X11_feud := by decide
theorem sn_X11_feud_X6_forget : ∀ c ∈ nd_X6_forget, c ∈ nd_X11_feud := by decide
theorem sl_X11_feud_X6_forget : ∀ q ∈ ld_X6_forget, q ∈ ld_X11_feud := by decide
def f_X11_feud_23  (h : zH) : zR := (some ((0 : Int32), h))
def f_X11_feud  (x1 : Int32) (x2 : Int32) (x3 : Int32) (h : zH) : zR := (zbd (f_X11_isBelow x1 (6 : Int32) h) fun r1 h2 => (if r1 = 0 then (f_X11_feud_23   h2) else (zbd (f_X11_isBelow x2 (6 : Int32) h2) fun r3 h4 => (if r3 = 0 then (f_X11_feud_23   h4) else (if x1 = x2 then (f_X11_feud_23   h4) else (zbd (f_X4_quarrel x1 x2 x3 h4) fun r5 h6 => (zbd (f_X6_forget  h6) fun r7 h8 => (some ((1 : Int32), h8)))))))))
variable {p : Program} {l : Launch} {e : Env} {s : State} {m : MethodId} {args : Array Value} {below : List Frame} {meth : Method} {c : Code} {G : zG} {q : Int32 × zH}
set_option maxHeartbeats 4000000 in
set_option maxRecDepth 100000 in
theorem w_X11_feud_23  (C : zC G p s m args meth c cX11_feud 4 RX11 (some .boolean)) (hm : ∀ c ∈ nd_X11_feud, c ∈ znm G) (hk : ∀ q ∈ ld_X11_feud, zlk G q.1 q.2 = true)  : ∀ (ls : Array Slot) (H : Heap) (locs : List Loc) (h : zH), lv_has ls 4 [] → zS G h s.heap H locs → f_X11_feud_23  h = some q → W p l e (zrm (3)) s m args below meth c H locs 0 0 (MQ below (zQI G q.2 q.1) args s 0 0 (zA G)) (F0 m 23 ls []) := by
  intro ls H locs h hl hS hf
  unfold f_X11_feud_23 at hf
  refine lv_iconst (v := (0 : Int32)) C.1 C.2.1 dX11_feud_23 rfl ?_
  exact zretZ C hS rfl hf dX11_feud_24
set_option maxHeartbeats 4000000 in
set_option maxRecDepth 100000 in
theorem c_X11_feud (l : Launch) (G : zG) (h : zH) (x1 : Int32) (x2 : Int32) (x3 : Int32) (q : Int32 × zH) (hm : ∀ c ∈ nd_X11_feud, c ∈ znm G) (hk : ∀ q ∈ ld_X11_feud, zlk G q.1 q.2 = true) (hf : f_X11_feud x1 x2 x3 h = some q) : zCtI l yX11_feud cX11_feud 4 (some .boolean) (3) [.ref (zal G 0), .int x1, .int x2, .int x3] G h q.2 q.1 := by
  refine zMetI (by decide) (Nat.le_of_ble_eq_true rfl) ?_
  intro p e s m below meth c ls C hl hS
  have hl : lv_has ls 4 [(0, .ref (zal G 0)), (1, .int x1), (2, .int x2), (3, .int x3)] := hl
  have C : zC G p s m [.ref (zal G 0), .int x1, .int x2, .int x3].toArray meth c cX11_feud 4 RX11 (some .boolean) := C
  unfold f_X11_feud at hf
  refine lv_iload_n C.1 C.2.1 dX11_feud_0 rfl (lv_at hl 1 rfl) ?_
  refine lv_bipush (v := (6 : Int32)) C.1 C.2.1 dX11_feud_1 rfl ?_
  obtain ⟨r1, h2, er1, hf⟩ := zbd_some hf
  refine zcallSI (As := [.int x1, .int (6 : Int32)]) (rest := []) C hS ms_X11_50 (c_X11_isBelow l G h x1 (6 : Int32) (r1, h2) (fun c h => hm c (sn_X11_feud_X11_isBelow c h)) (fun q h => hk q (sl_X11_feud_X11_isBelow q h)) er1) rfl rfl (Nat.le_of_ble_eq_true rfl) hl.1 ⟨Nat.le_of_ble_eq_true rfl, Nat.le_of_ble_eq_true rfl, Nat.le_of_ble_eq_true rfl, Nat.le_of_ble_eq_true rfl⟩ dX11_feud_3 (fun H locs hS => ?_)
  refine lv_if_eq (tgt := 23) C.1 C.2.1 dX11_feud_6 (by decide) (fun hc => ?_) (fun hc => ?_)
  · have hf := zif_t hc hf
    exact w_X11_feud_23 C hm hk  _ _ _ _ (lv_sub hl [] rfl) hS hf
  · have hf := zif_f hc hf
    refine lv_iload_n C.1 C.2.1 dX11_feud_9 rfl (lv_at hl 2 rfl) ?_
    refine lv_bipush (v := (6 : Int32)) C.1 C.2.1 dX11_feud_10 rfl ?_
    obtain ⟨r3, h4, er3, hf⟩ := zbd_some hf
    refine zcallSI (As := [.int x2, .int (6 : Int32)]) (rest := []) C hS ms_X11_50 (c_X11_isBelow l G h2 x2 (6 : Int32) (r3, h4) (fun c h => hm c (sn_X11_feud_X11_isBelow c h)) (fun q h => hk q (sl_X11_feud_X11_isBelow q h)) er3) rfl rfl (Nat.le_of_ble_eq_true rfl) hl.1 ⟨Nat.le_of_ble_eq_true rfl, Nat.le_of_ble_eq_true rfl, Nat.le_of_ble_eq_true rfl, Nat.le_of_ble_eq_true rfl⟩ dX11_feud_12 (fun H locs hS => ?_)
    refine lv_if_eq (tgt := 23) C.1 C.2.1 dX11_feud_15 (by decide) (fun hc => ?_) (fun hc => ?_)
    · have hf := zif_t hc hf
      exact w_X11_feud_23 C hm hk  _ _ _ _ (lv_sub hl [] rfl) hS hf
    · have hf := zif_f hc hf
      refine lv_iload_n C.1 C.2.1 dX11_feud_18 rfl (lv_at hl 1 rfl) ?_
      refine lv_iload_n C.1 C.2.1 dX11_feud_19 rfl (lv_at hl 2 rfl) ?_
      refine lv_icmp_ne (tgt := 25) C.1 C.2.1 dX11_feud_20 (by decide) (fun hc => ?_) (fun hc => ?_)
      · have hf := zif_f hc hf
        refine lv_aload_n C.1 C.2.1 dX11_feud_25 rfl (lv_at hl 0 rfl) ?_
        refine zgetR C hS ff_X11_12_0 (hm 0 (by decide)) (hk (0, 0) (by decide)) dX11_feud_26 ?_
        refine lv_iload_n C.1 C.2.1 dX11_feud_29 rfl (lv_at hl 1 rfl) ?_
        refine lv_iload_n C.1 C.2.1 dX11_feud_30 rfl (lv_at hl 2 rfl) ?_
        refine lv_iload_n C.1 C.2.1 dX11_feud_31 rfl (lv_at hl 3 rfl) ?_
        obtain ⟨r5, h6, er5, hf⟩ := zbd_some hf
        refine zcallVV (As := [.int x1, .int x2, .int x3]) (rest := []) C hS mv_X11_86 (c_X4_quarrel l G h4 x1 x2 x3 (r5, h6) (fun c h => hm c (sn_X11_feud_X4_quarrel c h)) (fun q h => hk q (sl_X11_feud_X4_quarrel q h)) er5) (hm 1 (by decide)) ⟨_, _, _, sh_1, rfl, rfl⟩ rfl rfl (Nat.le_of_ble_eq_true rfl) hl.1 ⟨Nat.le_of_ble_eq_true rfl, Nat.le_of_ble_eq_true rfl, Nat.le_of_ble_eq_true rfl, Nat.le_of_ble_eq_true rfl⟩ dX11_feud_32 (fun H locs hS => ?_)
        refine lv_aload_n C.1 C.2.1 dX11_feud_35 rfl (lv_at hl 0 rfl) ?_
        refine zgetR C hS ff_X11_19_0 (hm 0 (by decide)) (hk (0, 1) (by decide)) dX11_feud_36 ?_
        obtain ⟨r7, h8, er7, hf⟩ := zbd_some hf
        refine zcallVV (As := []) (rest := []) C hS mv_X11_47 (c_X6_forget l G h6  (r7, h8) (fun c h => hm c (sn_X11_feud_X6_forget c h)) (fun q h => hk q (sl_X11_feud_X6_forget q h)) er7) (hm 22 (by decide)) ⟨_, _, _, sh_22, rfl, rfl⟩ rfl rfl (Nat.le_of_ble_eq_true rfl) hl.1 ⟨Nat.le_of_ble_eq_true rfl, Nat.le_of_ble_eq_true rfl, Nat.le_of_ble_eq_true rfl, Nat.le_of_ble_eq_true rfl⟩ dX11_feud_39 (fun H locs hS => ?_)
        refine lv_iconst (v := (1 : Int32)) C.1 C.2.1 dX11_feud_42 rfl ?_
        exact zretZ C hS rfl hf dX11_feud_43
      · have hf := zif_t hc hf
        exact w_X11_feud_23 C hm hk  _ _ _ _ (lv_sub hl [] rfl) hS hf
end
section
theorem dX9_add_0 : decode cX9_add 0 = .ok (.aload_n 0, 1) := by decide +kernel
theorem dX9_add_1 : decode cX9_add 1 = .ok (.getfield 35, 3) := by decide +kernel
theorem dX9_add_4 : decode cX9_add 4 = .ok (.istore_n 2, 1) := by decide +kernel
theorem dX9_add_5 : decode cX9_add 5 = .ok (.aload_n 0, 1) := by decide +kernel
theorem dX9_add_6 : decode cX9_add 6 = .ok (.getfield 9, 3) := by decide +kernel
theorem dX9_add_9 : decode cX9_add 9 = .ok (.iload_n 2, 1) := by decide +kernel
theorem dX9_add_10 : decode cX9_add 10 = .ok (.iload_n 1, 1) := by decide +kernel
theorem dX9_add_11 : decode cX9_add 11 = .ok (.iastore, 1) := by decide +kernel
theorem dX9_add_12 : decode cX9_add 12 = .ok (.aload_n 0, 1) := by decide +kernel
theorem dX9_add_13 : decode cX9_add 13 = .ok (.getfield 15, 3) := by decide +kernel
theorem dX9_add_16 : decode cX9_add 16 = .ok (.iload_n 2, 1) := by decide +kernel
theorem dX9_add_17 : decode cX9_add 17 = .ok (.iconst (-1), 1) := by decide +kernel
theorem dX9_add_18 : decode cX9_add 18 = .ok (.iastore, 1) := by decide +kernel
theorem dX9_add_19 : decode cX9_add 19 = .ok (.aload_n 0, 1) := by decide +kernel
theorem dX9_add_20 : decode cX9_add 20 = .ok (.dup, 1) := by decide +kernel
theorem dX9_add_21 : decode cX9_add 21 = .ok (.getfield 35, 3) := by decide +kernel
theorem dX9_add_24 : decode cX9_add 24 = .ok (.iconst 1, 1) := by decide +kernel
theorem dX9_add_25 : decode cX9_add 25 = .ok (.iadd, 1) := by decide +kernel
theorem dX9_add_26 : decode cX9_add 26 = .ok (.putfield 35, 3) := by decide +kernel
theorem dX9_add_29 : decode cX9_add 29 = .ok (.iload_n 2, 1) := by decide +kernel
theorem dX9_add_30 : decode cX9_add 30 = .ok (.ireturn, 1) := by decide +kernel
abbrev nd_X9_add : List Nat := [7, 8, 9]
abbrev ld_X9_add : List (Nat × Nat) := [(7, 0), (7, 1)]
def f_X9_add  (x1 : Int32) (h : zH) : zR := (zlt (h 7 4) fun y1 => (zck y1 8 (zst (zup h 8 (Int32.toNatClampNeg y1) x1) fun h2 => (zck y1 8 (zst (zup h2 9 (Int32.toNatClampNeg y1) (-1 : Int32)) fun h3 => (zst (zup h3 7 4 ((h3 7 4) + (1 : Int32))) fun h4 => (some (y1, h4))))))))
variable {p : Program} {l : Launch} {e : Env} {s : State} {m : MethodId} {args : Array Value} {below : List Frame} {meth : Method} {c : Code} {G : zG} {q : Int32 × zH}
set_option maxHeartbeats 4000000 in
set_option maxRecDepth 100000 in
theorem c_X9_add (l : Launch) (G : zG) (h : zH) (x1 : Int32) (q : Int32 × zH) (hm : ∀ c ∈ nd_X9_add, c ∈ znm G) (hk : ∀ q ∈ ld_X9_add, zlk G q.1 q.2 = true) (hf : f_X9_add x1 h = some q) : zCtI l yX9_add cX9_add 3 (some .int) (2) [.ref (zal G 7), .int x1] G h q.2 q.1 := by
  refine zMetI (by decide) (Nat.le_of_ble_eq_true rfl) ?_
  intro p e s m below meth c ls C hl hS
  have hl : lv_has ls 3 [(0, .ref (zal G 7)), (1, .int x1)] := hl
  have C : zC G p s m [.ref (zal G 7), .int x1].toArray meth c cX9_add 3 RX9 (some .int) := C
  unfold f_X9_add at hf
  refine lv_aload_n C.1 C.2.1 dX9_add_0 rfl (lv_at hl 0 rfl) ?_
  refine zgetI C hS ff_X9_35_7 (hm 7 (by decide)) dX9_add_1 ?_
  obtain ⟨y1, ey1, hf⟩ := zlt_some hf
  refine ztop ey1 ?_
  refine lv_istore_n (lv' := [(2, .int y1), (0, .ref (zal G 7)), (1, .int x1)]) C.1 C.2.1 dX9_add_4 rfl hl (by decide) rfl (fun ls hl => ?_)
  refine lv_aload_n C.1 C.2.1 dX9_add_5 rfl (lv_at hl 1 rfl) ?_
  refine zgetR C hS ff_X9_9_7 (hm 7 (by decide)) (hk (7, 0) (by decide)) dX9_add_6 ?_
  refine lv_iload_n C.1 C.2.1 dX9_add_9 rfl (lv_at hl 0 rfl) ?_
  refine lv_iload_n C.1 C.2.1 dX9_add_10 rfl (lv_at hl 2 rfl) ?_
  obtain ⟨hi, hf⟩ := zck_some hf
  refine zast C hS sh_8 (hm 8 (by decide)) hi dX9_add_11 (fun H locs hS => ?_)
  obtain ⟨h2, eh2, hf⟩ := zst_some hf
  have hS : zS G h2 s.heap H locs := by rw [eh2]; exact hS
  refine lv_aload_n C.1 C.2.1 dX9_add_12 rfl (lv_at hl 1 rfl) ?_
  refine zgetR C hS ff_X9_15_7 (hm 7 (by decide)) (hk (7, 1) (by decide)) dX9_add_13 ?_
  refine lv_iload_n C.1 C.2.1 dX9_add_16 rfl (lv_at hl 0 rfl) ?_
  refine lv_iconst (v := (-1 : Int32)) C.1 C.2.1 dX9_add_17 rfl ?_
  obtain ⟨hi, hf⟩ := zck_some hf
  refine zast C hS sh_9 (hm 9 (by decide)) hi dX9_add_18 (fun H locs hS => ?_)
  obtain ⟨h3, eh3, hf⟩ := zst_some hf
  have hS : zS G h3 s.heap H locs := by rw [eh3]; exact hS
  refine lv_aload_n C.1 C.2.1 dX9_add_19 rfl (lv_at hl 1 rfl) ?_
  refine lv_dup C.1 C.2.1 dX9_add_20 rfl ?_
  refine zgetI C hS ff_X9_35_7 (hm 7 (by decide)) dX9_add_21 ?_
  refine lv_iconst (v := (1 : Int32)) C.1 C.2.1 dX9_add_24 rfl ?_
  refine lv_iadd C.1 C.2.1 dX9_add_25 ?_
  refine zputI C hS ff_X9_35_7 fw_7_4 (hm 7 (by decide)) dX9_add_26 (fun H locs hS => ?_)
  obtain ⟨h4, eh4, hf⟩ := zst_some hf
  have hS : zS G h4 s.heap H locs := by rw [eh4]; exact hS
  refine lv_iload_n C.1 C.2.1 dX9_add_29 rfl (lv_at hl 0 rfl) ?_
  exact zretI C hS hf dX9_add_30
end
section
theorem dX11_guest_0 : decode cX11_guest 0 = .ok (.iload_n 1, 1) := by decide +kernel
theorem dX11_guest_1 : decode cX11_guest 1 = .ok (.bipush 6, 2) := by decide +kernel
theorem dX11_guest_3 : decode cX11_guest 3 = .ok (.invokestatic 50, 3) := by decide +kernel
theorem dX11_guest_6 : decode cX11_guest 6 = .ok (.ifCond .eq 18, 3) := by decide +kernel
theorem dX11_guest_9 : decode cX11_guest 9 = .ok (.aload_n 0, 1) := by decide +kernel
theorem dX11_guest_10 : decode cX11_guest 10 = .ok (.getfield 12, 3) := by decide +kernel
theorem dX11_guest_13 : decode cX11_guest 13 = .ok (.getfield 90, 3) := by decide +kernel
theorem dX11_guest_16 : decode cX11_guest 16 = .ok (.getfield 94, 3) := by decide +kernel
theorem dX11_guest_19 : decode cX11_guest 19 = .ok (.bipush 8, 2) := by decide +kernel
theorem dX11_guest_21 : decode cX11_guest 21 = .ok (.if_icmp .lt 5, 3) := by decide +kernel
theorem dX11_guest_24 : decode cX11_guest 24 = .ok (.iconst (-1), 1) := by decide +kernel
theorem dX11_guest_25 : decode cX11_guest 25 = .ok (.ireturn, 1) := by decide +kernel
theorem dX11_guest_26 : decode cX11_guest 26 = .ok (.aload_n 0, 1) := by decide +kernel
theorem dX11_guest_27 : decode cX11_guest 27 = .ok (.getfield 19, 3) := by decide +kernel
theorem dX11_guest_30 : decode cX11_guest 30 = .ok (.invokevirtual 47, 3) := by decide +kernel
theorem dX11_guest_33 : decode cX11_guest 33 = .ok (.aload_n 0, 1) := by decide +kernel
theorem dX11_guest_34 : decode cX11_guest 34 = .ok (.getfield 12, 3) := by decide +kernel
theorem dX11_guest_37 : decode cX11_guest 37 = .ok (.getfield 90, 3) := by decide +kernel
theorem dX11_guest_40 : decode cX11_guest 40 = .ok (.iload_n 1, 1) := by decide +kernel
theorem dX11_guest_41 : decode cX11_guest 41 = .ok (.invokevirtual 99, 3) := by decide +kernel
theorem dX11_guest_44 : decode cX11_guest 44 = .ok (.ireturn, 1) := by decide +kernel
abbrev nd_X11_guest : List Nat := [0, 1, 7, 8, 9, 22]
abbrev ld_X11_guest : List (Nat × Nat) := [(0, 0), (0, 1), (1, 1), (7, 0), (7, 1)]
theorem sn_X11_guest_X11_isBelow : ∀ c ∈ nd_X11_isBelow, c ∈ nd_X11_guest := by decide
theorem sl_X11_guest_X11_isBelow : ∀ q ∈ ld_X11_isBelow, q ∈ ld_X11_guest := by decide
theorem sn_X11_guest_X6_forget : ∀ c ∈ nd_X6_forget, c ∈ nd_X11_guest := by decide
theorem sl_X11_guest_X6_forget : ∀ q ∈ ld_X6_forget, q ∈ ld_X11_guest := by decide
theorem sn_X11_guest_X9_add : ∀ c ∈ nd_X9_add, c ∈ nd_X11_guest := by decide
theorem sl_X11_guest_X9_add : ∀ q ∈ ld_X9_add, q ∈ ld_X11_guest := by decide
def f_X11_guest_24  (h : zH) : zR := (some ((-1 : Int32), h))
def f_X11_guest  (x1 : Int32) (h : zH) : zR := (zbd (f_X11_isBelow x1 (6 : Int32) h) fun r1 h2 => (if r1 = 0 then (f_X11_guest_24   h2) else (if (h2 7 4) < (8 : Int32) then (zbd (f_X6_forget  h2) fun r3 h4 => (zbd (f_X9_add x1 h4) fun r5 h6 => (some (r5, h6)))) else (f_X11_guest_24   h2))))
variable {p : Program} {l : Launch} {e : Env} {s : State} {m : MethodId} {args : Array Value} {below : List Frame} {meth : Method} {c : Code} {G : zG} {q : Int32 × zH}
set_option maxHeartbeats 4000000 in
set_option maxRecDepth 100000 in
theorem w_X11_guest_24  (C : zC G p s m args meth c cX11_guest 2 RX11 (some .int)) (hm : ∀ c ∈ nd_X11_guest, c ∈ znm G) (hk : ∀ q ∈ ld_X11_guest, zlk G q.1 q.2 = true)  : ∀ (ls : Array Slot) (H : Heap) (locs : List Loc) (h : zH), lv_has ls 2 [] → zS G h s.heap H locs → f_X11_guest_24  h = some q → W p l e (zrm (3)) s m args below meth c H locs 0 0 (MQ below (zQI G q.2 q.1) args s 0 0 (zA G)) (F0 m 24 ls []) := by
  intro ls H locs h hl hS hf
  unfold f_X11_guest_24 at hf
  refine lv_iconst (v := (-1 : Int32)) C.1 C.2.1 dX11_guest_24 rfl ?_
  exact zretI C hS hf dX11_guest_25
set_option maxHeartbeats 4000000 in
set_option maxRecDepth 100000 in
theorem c_X11_guest (l : Launch) (G : zG) (h : zH) (x1 : Int32) (q : Int32 × zH) (hm : ∀ c ∈ nd_X11_guest, c ∈ znm G) (hk : ∀ q ∈ ld_X11_guest, zlk G q.1 q.2 = true) (hf : f_X11_guest x1 h = some q) : zCtI l yX11_guest cX11_guest 2 (some .int) (3) [.ref (zal G 0), .int x1] G h q.2 q.1 := by
  refine zMetI (by decide) (Nat.le_of_ble_eq_true rfl) ?_
  intro p e s m below meth c ls C hl hS
  have hl : lv_has ls 2 [(0, .ref (zal G 0)), (1, .int x1)] := hl
  have C : zC G p s m [.ref (zal G 0), .int x1].toArray meth c cX11_guest 2 RX11 (some .int) := C
  unfold f_X11_guest at hf
  refine lv_iload_n C.1 C.2.1 dX11_guest_0 rfl (lv_at hl 1 rfl) ?_
  refine lv_bipush (v := (6 : Int32)) C.1 C.2.1 dX11_guest_1 rfl ?_
  obtain ⟨r1, h2, er1, hf⟩ := zbd_some hf
  refine zcallSI (As := [.int x1, .int (6 : Int32)]) (rest := []) C hS ms_X11_50 (c_X11_isBelow l G h x1 (6 : Int32) (r1, h2) (fun c h => hm c (sn_X11_guest_X11_isBelow c h)) (fun q h => hk q (sl_X11_guest_X11_isBelow q h)) er1) rfl rfl (Nat.le_of_ble_eq_true rfl) hl.1 ⟨Nat.le_of_ble_eq_true rfl, Nat.le_of_ble_eq_true rfl, Nat.le_of_ble_eq_true rfl, Nat.le_of_ble_eq_true rfl⟩ dX11_guest_3 (fun H locs hS => ?_)
  refine lv_if_eq (tgt := 24) C.1 C.2.1 dX11_guest_6 (by decide) (fun hc => ?_) (fun hc => ?_)
  · have hf := zif_t hc hf
    exact w_X11_guest_24 C hm hk  _ _ _ _ (lv_sub hl [] rfl) hS hf
  · have hf := zif_f hc hf
    refine lv_aload_n C.1 C.2.1 dX11_guest_9 rfl (lv_at hl 0 rfl) ?_
    refine zgetR C hS ff_X11_12_0 (hm 0 (by decide)) (hk (0, 0) (by decide)) dX11_guest_10 ?_
    refine zgetR C hS ff_X11_90_1 (hm 1 (by decide)) (hk (1, 1) (by decide)) dX11_guest_13 ?_
    refine zgetI C hS ff_X11_94_7 (hm 7 (by decide)) dX11_guest_16 ?_
    refine lv_bipush (v := (8 : Int32)) C.1 C.2.1 dX11_guest_19 rfl ?_
    refine lv_icmp_lt (tgt := 26) C.1 C.2.1 dX11_guest_21 (by decide) (fun hc => ?_) (fun hc => ?_)
    · have hf := zif_t hc hf
      refine lv_aload_n C.1 C.2.1 dX11_guest_26 rfl (lv_at hl 0 rfl) ?_
      refine zgetR C hS ff_X11_19_0 (hm 0 (by decide)) (hk (0, 1) (by decide)) dX11_guest_27 ?_
      obtain ⟨r3, h4, er3, hf⟩ := zbd_some hf
      refine zcallVV (As := []) (rest := []) C hS mv_X11_47 (c_X6_forget l G h2  (r3, h4) (fun c h => hm c (sn_X11_guest_X6_forget c h)) (fun q h => hk q (sl_X11_guest_X6_forget q h)) er3) (hm 22 (by decide)) ⟨_, _, _, sh_22, rfl, rfl⟩ rfl rfl (Nat.le_of_ble_eq_true rfl) hl.1 ⟨Nat.le_of_ble_eq_true rfl, Nat.le_of_ble_eq_true rfl, Nat.le_of_ble_eq_true rfl, Nat.le_of_ble_eq_true rfl⟩ dX11_guest_30 (fun H locs hS => ?_)
      refine lv_aload_n C.1 C.2.1 dX11_guest_33 rfl (lv_at hl 0 rfl) ?_
      refine zgetR C hS ff_X11_12_0 (hm 0 (by decide)) (hk (0, 0) (by decide)) dX11_guest_34 ?_
      refine zgetR C hS ff_X11_90_1 (hm 1 (by decide)) (hk (1, 1) (by decide)) dX11_guest_37 ?_
      refine lv_iload_n C.1 C.2.1 dX11_guest_40 rfl (lv_at hl 1 rfl) ?_
      obtain ⟨r5, h6, er5, hf⟩ := zbd_some hf
      refine zcallVI (As := [.int x1]) (rest := []) C hS mv_X11_99 (c_X9_add l G h4 x1 (r5, h6) (fun c h => hm c (sn_X11_guest_X9_add c h)) (fun q h => hk q (sl_X11_guest_X9_add q h)) er5) (hm 7 (by decide)) ⟨_, _, _, sh_7, rfl, rfl⟩ rfl rfl (Nat.le_of_ble_eq_true rfl) hl.1 ⟨Nat.le_of_ble_eq_true rfl, Nat.le_of_ble_eq_true rfl, Nat.le_of_ble_eq_true rfl, Nat.le_of_ble_eq_true rfl⟩ dX11_guest_41 (fun H locs hS => ?_)
      exact zretI C hS hf dX11_guest_44
    · have hf := zif_f hc hf
      exact w_X11_guest_24 C hm hk  _ _ _ _ (lv_sub hl [] rfl) hS hf
end
section
theorem dX9_canSit_0 : decode cX9_canSit 0 = .ok (.iload_n 1, 1) := by decide +kernel
theorem dX9_canSit_1 : decode cX9_canSit 1 = .ok (.aload_n 0, 1) := by decide +kernel
theorem dX9_canSit_2 : decode cX9_canSit 2 = .ok (.getfield 35, 3) := by decide +kernel
theorem dX9_canSit_5 : decode cX9_canSit 5 = .ok (.invokestatic 38, 3) := by decide +kernel
theorem dX9_canSit_8 : decode cX9_canSit 8 = .ok (.ifCond .ne 5, 3) := by decide +kernel
theorem dX9_canSit_11 : decode cX9_canSit 11 = .ok (.iconst 0, 1) := by decide +kernel
theorem dX9_canSit_12 : decode cX9_canSit 12 = .ok (.ireturn, 1) := by decide +kernel
theorem dX9_canSit_13 : decode cX9_canSit 13 = .ok (.iload_n 2, 1) := by decide +kernel
theorem dX9_canSit_14 : decode cX9_canSit 14 = .ok (.iconst (-1), 1) := by decide +kernel
theorem dX9_canSit_15 : decode cX9_canSit 15 = .ok (.if_icmp .ne 5, 3) := by decide +kernel
theorem dX9_canSit_18 : decode cX9_canSit 18 = .ok (.iconst 1, 1) := by decide +kernel
theorem dX9_canSit_19 : decode cX9_canSit 19 = .ok (.ireturn, 1) := by decide +kernel
theorem dX9_canSit_20 : decode cX9_canSit 20 = .ok (.iload_n 2, 1) := by decide +kernel
theorem dX9_canSit_21 : decode cX9_canSit 21 = .ok (.aload_n 0, 1) := by decide +kernel
theorem dX9_canSit_22 : decode cX9_canSit 22 = .ok (.getfield 31, 3) := by decide +kernel
theorem dX9_canSit_25 : decode cX9_canSit 25 = .ok (.invokestatic 38, 3) := by decide +kernel
theorem dX9_canSit_28 : decode cX9_canSit 28 = .ok (.ifCond .eq 27, 3) := by decide +kernel
theorem dX9_canSit_31 : decode cX9_canSit 31 = .ok (.aload_n 0, 1) := by decide +kernel
theorem dX9_canSit_32 : decode cX9_canSit 32 = .ok (.getfield 18, 3) := by decide +kernel
theorem dX9_canSit_35 : decode cX9_canSit 35 = .ok (.iload_n 2, 1) := by decide +kernel
theorem dX9_canSit_36 : decode cX9_canSit 36 = .ok (.iaload, 1) := by decide +kernel
theorem dX9_canSit_37 : decode cX9_canSit 37 = .ok (.iconst (-1), 1) := by decide +kernel
theorem dX9_canSit_38 : decode cX9_canSit 38 = .ok (.if_icmp .eq 13, 3) := by decide +kernel
theorem dX9_canSit_41 : decode cX9_canSit 41 = .ok (.aload_n 0, 1) := by decide +kernel
theorem dX9_canSit_42 : decode cX9_canSit 42 = .ok (.getfield 18, 3) := by decide +kernel
theorem dX9_canSit_45 : decode cX9_canSit 45 = .ok (.iload_n 2, 1) := by decide +kernel
theorem dX9_canSit_46 : decode cX9_canSit 46 = .ok (.iaload, 1) := by decide +kernel
theorem dX9_canSit_47 : decode cX9_canSit 47 = .ok (.iload_n 1, 1) := by decide +kernel
theorem dX9_canSit_48 : decode cX9_canSit 48 = .ok (.if_icmp .ne 7, 3) := by decide +kernel
theorem dX9_canSit_51 : decode cX9_canSit 51 = .ok (.iconst 1, 1) := by decide +kernel
theorem dX9_canSit_52 : decode cX9_canSit 52 = .ok (.goto 4, 3) := by decide +kernel
theorem dX9_canSit_55 : decode cX9_canSit 55 = .ok (.iconst 0, 1) := by decide +kernel
theorem dX9_canSit_56 : decode cX9_canSit 56 = .ok (.ireturn, 1) := by decide +kernel
abbrev nd_X9_canSit : List Nat := [7, 10]
abbrev ld_X9_canSit : List (Nat × Nat) := [(7, 2)]
theorem sn_X9_canSit_X11_isBelow : ∀ c ∈ nd_X11_isBelow, c ∈ nd_X9_canSit := by decide
theorem sl_X9_canSit_X11_isBelow : ∀ q ∈ ld_X11_isBelow, q ∈ ld_X9_canSit := by decide
def f_X9_canSit_55  (h : zH) : zR := (some ((0 : Int32), h))
def f_X9_canSit_51  (h : zH) : zR := (some ((1 : Int32), h))
def f_X9_canSit  (x1 : Int32) (x2 : Int32) (h : zH) : zR := (zbd (f_X11_isBelow x1 (h 7 4) h) fun r1 h2 => (if r1 = 0 then (some ((0 : Int32), h2)) else (if x2 = (-1 : Int32) then (some ((1 : Int32), h2)) else (zbd (f_X11_isBelow x2 (h2 7 3) h2) fun r3 h4 => (if r3 = 0 then (f_X9_canSit_55   h4) else (zck x2 8 (if (h4 10 (Int32.toNatClampNeg x2)) = (-1 : Int32) then (f_X9_canSit_51   h4) else (zck x2 8 (if (h4 10 (Int32.toNatClampNeg x2)) = x1 then (f_X9_canSit_51   h4) else (f_X9_canSit_55   h4))))))))))
variable {p : Program} {l : Launch} {e : Env} {s : State} {m : MethodId} {args : Array Value} {below : List Frame} {meth : Method} {c : Code} {G : zG} {q : Int32 × zH}
set_option maxHeartbeats 4000000 in
set_option maxRecDepth 100000 in
theorem w_X9_canSit_55  (C : zC G p s m args meth c cX9_canSit 3 RX9 (some .boolean)) (hm : ∀ c ∈ nd_X9_canSit, c ∈ znm G) (hk : ∀ q ∈ ld_X9_canSit, zlk G q.1 q.2 = true)  : ∀ (ls : Array Slot) (H : Heap) (locs : List Loc) (h : zH), lv_has ls 3 [] → zS G h s.heap H locs → f_X9_canSit_55  h = some q → W p l e (zrm (3)) s m args below meth c H locs 0 0 (MQ below (zQI G q.2 q.1) args s 0 0 (zA G)) (F0 m 55 ls []) := by
  intro ls H locs h hl hS hf
  unfold f_X9_canSit_55 at hf
  refine lv_iconst (v := (0 : Int32)) C.1 C.2.1 dX9_canSit_55 rfl ?_
  exact zretZ C hS rfl hf dX9_canSit_56
set_option maxHeartbeats 4000000 in
set_option maxRecDepth 100000 in
theorem w_X9_canSit_51  (C : zC G p s m args meth c cX9_canSit 3 RX9 (some .boolean)) (hm : ∀ c ∈ nd_X9_canSit, c ∈ znm G) (hk : ∀ q ∈ ld_X9_canSit, zlk G q.1 q.2 = true)  : ∀ (ls : Array Slot) (H : Heap) (locs : List Loc) (h : zH), lv_has ls 3 [] → zS G h s.heap H locs → f_X9_canSit_51  h = some q → W p l e (zrm (3)) s m args below meth c H locs 0 0 (MQ below (zQI G q.2 q.1) args s 0 0 (zA G)) (F0 m 51 ls []) := by
  intro ls H locs h hl hS hf
  unfold f_X9_canSit_51 at hf
  refine lv_iconst (v := (1 : Int32)) C.1 C.2.1 dX9_canSit_51 rfl ?_
  refine lv_goto (tgt := 56) C.1 C.2.1 dX9_canSit_52 (by decide) ?_
  exact zretZ C hS rfl hf dX9_canSit_56
set_option maxHeartbeats 4000000 in
set_option maxRecDepth 100000 in
theorem c_X9_canSit (l : Launch) (G : zG) (h : zH) (x1 : Int32) (x2 : Int32) (q : Int32 × zH) (hm : ∀ c ∈ nd_X9_canSit, c ∈ znm G) (hk : ∀ q ∈ ld_X9_canSit, zlk G q.1 q.2 = true) (hf : f_X9_canSit x1 x2 h = some q) : zCtI l yX9_canSit cX9_canSit 3 (some .boolean) (3) [.ref (zal G 7), .int x1, .int x2] G h q.2 q.1 := by
  refine zMetI (by decide) (Nat.le_of_ble_eq_true rfl) ?_
  intro p e s m below meth c ls C hl hS
  have hl : lv_has ls 3 [(0, .ref (zal G 7)), (1, .int x1), (2, .int x2)] := hl
  have C : zC G p s m [.ref (zal G 7), .int x1, .int x2].toArray meth c cX9_canSit 3 RX9 (some .boolean) := C
  unfold f_X9_canSit at hf
  refine lv_iload_n C.1 C.2.1 dX9_canSit_0 rfl (lv_at hl 1 rfl) ?_
  refine lv_aload_n C.1 C.2.1 dX9_canSit_1 rfl (lv_at hl 0 rfl) ?_
  refine zgetI C hS ff_X9_35_7 (hm 7 (by decide)) dX9_canSit_2 ?_
  obtain ⟨r1, h2, er1, hf⟩ := zbd_some hf
  refine zcallNI (As := [.int x1, .int (h 7 4)]) (rest := []) C hS mn_X9_38 (c_X11_isBelow l G h x1 (h 7 4) (r1, h2) (fun c h => hm c (sn_X9_canSit_X11_isBelow c h)) (fun q h => hk q (sl_X9_canSit_X11_isBelow q h)) er1) rfl rfl (Nat.le_of_ble_eq_true rfl) hl.1 ⟨Nat.le_of_ble_eq_true rfl, Nat.le_of_ble_eq_true rfl, Nat.le_of_ble_eq_true rfl, Nat.le_of_ble_eq_true rfl⟩ dX9_canSit_5 (fun H locs hS => ?_)
  refine lv_if_ne (tgt := 13) C.1 C.2.1 dX9_canSit_8 (by decide) (fun hc => ?_) (fun hc => ?_)
  · have hf := zif_f hc hf
    refine lv_iload_n C.1 C.2.1 dX9_canSit_13 rfl (lv_at hl 2 rfl) ?_
    refine lv_iconst (v := (-1 : Int32)) C.1 C.2.1 dX9_canSit_14 rfl ?_
    refine lv_icmp_ne (tgt := 20) C.1 C.2.1 dX9_canSit_15 (by decide) (fun hc => ?_) (fun hc => ?_)
    · have hf := zif_f hc hf
      refine lv_iload_n C.1 C.2.1 dX9_canSit_20 rfl (lv_at hl 2 rfl) ?_
      refine lv_aload_n C.1 C.2.1 dX9_canSit_21 rfl (lv_at hl 0 rfl) ?_
      refine zgetI C hS ff_X9_31_7 (hm 7 (by decide)) dX9_canSit_22 ?_
      obtain ⟨r3, h4, er3, hf⟩ := zbd_some hf
      refine zcallNI (As := [.int x2, .int (h2 7 3)]) (rest := []) C hS mn_X9_38 (c_X11_isBelow l G h2 x2 (h2 7 3) (r3, h4) (fun c h => hm c (sn_X9_canSit_X11_isBelow c h)) (fun q h => hk q (sl_X9_canSit_X11_isBelow q h)) er3) rfl rfl (Nat.le_of_ble_eq_true rfl) hl.1 ⟨Nat.le_of_ble_eq_true rfl, Nat.le_of_ble_eq_true rfl, Nat.le_of_ble_eq_true rfl, Nat.le_of_ble_eq_true rfl⟩ dX9_canSit_25 (fun H locs hS => ?_)
      refine lv_if_eq (tgt := 55) C.1 C.2.1 dX9_canSit_28 (by decide) (fun hc => ?_) (fun hc => ?_)
      · have hf := zif_t hc hf
        exact w_X9_canSit_55 C hm hk  _ _ _ _ (lv_sub hl [] rfl) hS hf
      · have hf := zif_f hc hf
        refine lv_aload_n C.1 C.2.1 dX9_canSit_31 rfl (lv_at hl 0 rfl) ?_
        refine zgetR C hS ff_X9_18_7 (hm 7 (by decide)) (hk (7, 2) (by decide)) dX9_canSit_32 ?_
        refine lv_iload_n C.1 C.2.1 dX9_canSit_35 rfl (lv_at hl 2 rfl) ?_
        obtain ⟨hi, hf⟩ := zck_some hf
        refine zald C hS sh_10 (hm 10 (by decide)) hi dX9_canSit_36 ?_
        refine lv_iconst (v := (-1 : Int32)) C.1 C.2.1 dX9_canSit_37 rfl ?_
        refine lv_icmp_eq (tgt := 51) C.1 C.2.1 dX9_canSit_38 (by decide) (fun hc => ?_) (fun hc => ?_)
        · have hf := zif_t hc hf
          exact w_X9_canSit_51 C hm hk  _ _ _ _ (lv_sub hl [] rfl) hS hf
        · have hf := zif_f hc hf
          refine lv_aload_n C.1 C.2.1 dX9_canSit_41 rfl (lv_at hl 0 rfl) ?_
          refine zgetR C hS ff_X9_18_7 (hm 7 (by decide)) (hk (7, 2) (by decide)) dX9_canSit_42 ?_
          refine lv_iload_n C.1 C.2.1 dX9_canSit_45 rfl (lv_at hl 2 rfl) ?_
          obtain ⟨hi, hf⟩ := zck_some hf
          refine zald C hS sh_10 (hm 10 (by decide)) hi dX9_canSit_46 ?_
          refine lv_iload_n C.1 C.2.1 dX9_canSit_47 rfl (lv_at hl 1 rfl) ?_
          refine lv_icmp_ne (tgt := 55) C.1 C.2.1 dX9_canSit_48 (by decide) (fun hc => ?_) (fun hc => ?_)
          · have hf := zif_f hc hf
            exact w_X9_canSit_55 C hm hk  _ _ _ _ (lv_sub hl [] rfl) hS hf
          · have hf := zif_t hc hf
            exact w_X9_canSit_51 C hm hk  _ _ _ _ (lv_sub hl [] rfl) hS hf
    · have hf := zif_t hc hf
      refine lv_iconst (v := (1 : Int32)) C.1 C.2.1 dX9_canSit_18 rfl ?_
      exact zretZ C hS rfl hf dX9_canSit_19
  · have hf := zif_t hc hf
    refine lv_iconst (v := (0 : Int32)) C.1 C.2.1 dX9_canSit_11 rfl ?_
    exact zretZ C hS rfl hf dX9_canSit_12
end
section
theorem dX9_sit_0 : decode cX9_sit 0 = .ok (.aload_n 0, 1) := by decide +kernel
theorem dX9_sit_1 : decode cX9_sit 1 = .ok (.getfield 15, 3) := by decide +kernel
theorem dX9_sit_4 : decode cX9_sit 4 = .ok (.iload_n 1, 1) := by decide +kernel
theorem dX9_sit_5 : decode cX9_sit 5 = .ok (.iaload, 1) := by decide +kernel
theorem dX9_sit_6 : decode cX9_sit 6 = .ok (.iconst (-1), 1) := by decide +kernel
theorem dX9_sit_7 : decode cX9_sit 7 = .ok (.if_icmp .eq 15, 3) := by decide +kernel
theorem dX9_sit_10 : decode cX9_sit 10 = .ok (.aload_n 0, 1) := by decide +kernel
theorem dX9_sit_11 : decode cX9_sit 11 = .ok (.getfield 18, 3) := by decide +kernel
theorem dX9_sit_14 : decode cX9_sit 14 = .ok (.aload_n 0, 1) := by decide +kernel
theorem dX9_sit_15 : decode cX9_sit 15 = .ok (.getfield 15, 3) := by decide +kernel
theorem dX9_sit_18 : decode cX9_sit 18 = .ok (.iload_n 1, 1) := by decide +kernel
theorem dX9_sit_19 : decode cX9_sit 19 = .ok (.iaload, 1) := by decide +kernel
theorem dX9_sit_20 : decode cX9_sit 20 = .ok (.iconst (-1), 1) := by decide +kernel
theorem dX9_sit_21 : decode cX9_sit 21 = .ok (.iastore, 1) := by decide +kernel
theorem dX9_sit_22 : decode cX9_sit 22 = .ok (.aload_n 0, 1) := by decide +kernel
theorem dX9_sit_23 : decode cX9_sit 23 = .ok (.getfield 15, 3) := by decide +kernel
theorem dX9_sit_26 : decode cX9_sit 26 = .ok (.iload_n 1, 1) := by decide +kernel
theorem dX9_sit_27 : decode cX9_sit 27 = .ok (.iload_n 2, 1) := by decide +kernel
theorem dX9_sit_28 : decode cX9_sit 28 = .ok (.iastore, 1) := by decide +kernel
theorem dX9_sit_29 : decode cX9_sit 29 = .ok (.iload_n 2, 1) := by decide +kernel
theorem dX9_sit_30 : decode cX9_sit 30 = .ok (.iconst (-1), 1) := by decide +kernel
theorem dX9_sit_31 : decode cX9_sit 31 = .ok (.if_icmp .eq 10, 3) := by decide +kernel
theorem dX9_sit_34 : decode cX9_sit 34 = .ok (.aload_n 0, 1) := by decide +kernel
theorem dX9_sit_35 : decode cX9_sit 35 = .ok (.getfield 18, 3) := by decide +kernel
theorem dX9_sit_38 : decode cX9_sit 38 = .ok (.iload_n 2, 1) := by decide +kernel
theorem dX9_sit_39 : decode cX9_sit 39 = .ok (.iload_n 1, 1) := by decide +kernel
theorem dX9_sit_40 : decode cX9_sit 40 = .ok (.iastore, 1) := by decide +kernel
theorem dX9_sit_41 : decode cX9_sit 41 = .ok (.return_, 1) := by decide +kernel
abbrev nd_X9_sit : List Nat := [7, 9, 10]
abbrev ld_X9_sit : List (Nat × Nat) := [(7, 1), (7, 2)]
def f_X9_sit_22  (x1 : Int32) (x2 : Int32) (h : zH) : zR := (zck x1 8 (zst (zup h 9 (Int32.toNatClampNeg x1) x2) fun h1 => (if x2 = (-1 : Int32) then (some (0, h1)) else (zck x2 8 (zst (zup h1 10 (Int32.toNatClampNeg x2) x1) fun h2 => (some (0, h2)))))))
def f_X9_sit  (x1 : Int32) (x2 : Int32) (h : zH) : zR := (zck x1 8 (if (h 9 (Int32.toNatClampNeg x1)) = (-1 : Int32) then (f_X9_sit_22  x1 x2 h) else (zck x1 8 (zck (h 9 (Int32.toNatClampNeg x1)) 8 (zst (zup h 10 (Int32.toNatClampNeg (h 9 (Int32.toNatClampNeg x1))) (-1 : Int32)) fun h3 => (f_X9_sit_22  x1 x2 h3))))))
variable {p : Program} {l : Launch} {e : Env} {s : State} {m : MethodId} {args : Array Value} {below : List Frame} {meth : Method} {c : Code} {G : zG} {q : Int32 × zH}
set_option maxHeartbeats 4000000 in
set_option maxRecDepth 100000 in
theorem w_X9_sit_22  (C : zC G p s m args meth c cX9_sit 3 RX9 none) (hm : ∀ c ∈ nd_X9_sit, c ∈ znm G) (hk : ∀ q ∈ ld_X9_sit, zlk G q.1 q.2 = true)  : ∀ (ls : Array Slot) (H : Heap) (locs : List Loc) (h : zH) (x1 : Int32) (x2 : Int32), lv_has ls 3 [(0, .ref (zal G 7)), (1, .int x1), (2, .int x2)] → zS G h s.heap H locs → f_X9_sit_22  x1 x2 h = some q → W p l e (zrm (2)) s m args below meth c H locs 0 0 (MQ below (zQV G q.2) args s 0 0 (zA G)) (F0 m 22 ls []) := by
  intro ls H locs h x1 x2 hl hS hf
  unfold f_X9_sit_22 at hf
  refine lv_aload_n C.1 C.2.1 dX9_sit_22 rfl (lv_at hl 0 rfl) ?_
  refine zgetR C hS ff_X9_15_7 (hm 7 (by decide)) (hk (7, 1) (by decide)) dX9_sit_23 ?_
  refine lv_iload_n C.1 C.2.1 dX9_sit_26 rfl (lv_at hl 1 rfl) ?_
  refine lv_iload_n C.1 C.2.1 dX9_sit_27 rfl (lv_at hl 2 rfl) ?_
  obtain ⟨hi, hf⟩ := zck_some hf
  refine zast C hS sh_9 (hm 9 (by decide)) hi dX9_sit_28 (fun H locs hS => ?_)
  obtain ⟨h1, eh1, hf⟩ := zst_some hf
  have hS : zS G h1 s.heap H locs := by rw [eh1]; exact hS
  refine lv_iload_n C.1 C.2.1 dX9_sit_29 rfl (lv_at hl 2 rfl) ?_
  refine lv_iconst (v := (-1 : Int32)) C.1 C.2.1 dX9_sit_30 rfl ?_
  refine lv_icmp_eq (tgt := 41) C.1 C.2.1 dX9_sit_31 (by decide) (fun hc => ?_) (fun hc => ?_)
  · have hf := zif_t hc hf
    exact zretV C hS hf dX9_sit_41
  · have hf := zif_f hc hf
    refine lv_aload_n C.1 C.2.1 dX9_sit_34 rfl (lv_at hl 0 rfl) ?_
    refine zgetR C hS ff_X9_18_7 (hm 7 (by decide)) (hk (7, 2) (by decide)) dX9_sit_35 ?_
    refine lv_iload_n C.1 C.2.1 dX9_sit_38 rfl (lv_at hl 2 rfl) ?_
    refine lv_iload_n C.1 C.2.1 dX9_sit_39 rfl (lv_at hl 1 rfl) ?_
    obtain ⟨hi, hf⟩ := zck_some hf
    refine zast C hS sh_10 (hm 10 (by decide)) hi dX9_sit_40 (fun H locs hS => ?_)
    obtain ⟨h2, eh2, hf⟩ := zst_some hf
    have hS : zS G h2 s.heap H locs := by rw [eh2]; exact hS
    exact zretV C hS hf dX9_sit_41
set_option maxHeartbeats 4000000 in
set_option maxRecDepth 100000 in
theorem c_X9_sit (l : Launch) (G : zG) (h : zH) (x1 : Int32) (x2 : Int32) (q : Int32 × zH) (hm : ∀ c ∈ nd_X9_sit, c ∈ znm G) (hk : ∀ q ∈ ld_X9_sit, zlk G q.1 q.2 = true) (hf : f_X9_sit x1 x2 h = some q) : zCtV l yX9_sit cX9_sit 3 none (2) [.ref (zal G 7), .int x1, .int x2] G h q.2 := by
  refine zMetV (by decide) (Nat.le_of_ble_eq_true rfl) ?_
  intro p e s m below meth c ls C hl hS
  have hl : lv_has ls 3 [(0, .ref (zal G 7)), (1, .int x1), (2, .int x2)] := hl
  have C : zC G p s m [.ref (zal G 7), .int x1, .int x2].toArray meth c cX9_sit 3 RX9 none := C
  unfold f_X9_sit at hf
  refine lv_aload_n C.1 C.2.1 dX9_sit_0 rfl (lv_at hl 0 rfl) ?_
  refine zgetR C hS ff_X9_15_7 (hm 7 (by decide)) (hk (7, 1) (by decide)) dX9_sit_1 ?_
  refine lv_iload_n C.1 C.2.1 dX9_sit_4 rfl (lv_at hl 1 rfl) ?_
  obtain ⟨hi, hf⟩ := zck_some hf
  refine zald C hS sh_9 (hm 9 (by decide)) hi dX9_sit_5 ?_
  refine lv_iconst (v := (-1 : Int32)) C.1 C.2.1 dX9_sit_6 rfl ?_
  refine lv_icmp_eq (tgt := 22) C.1 C.2.1 dX9_sit_7 (by decide) (fun hc => ?_) (fun hc => ?_)
  · have hf := zif_t hc hf
    exact w_X9_sit_22 C hm hk  _ _ _ _ _ _ (lv_sub hl [0, 1, 2] rfl) hS hf
  · have hf := zif_f hc hf
    refine lv_aload_n C.1 C.2.1 dX9_sit_10 rfl (lv_at hl 0 rfl) ?_
    refine zgetR C hS ff_X9_18_7 (hm 7 (by decide)) (hk (7, 2) (by decide)) dX9_sit_11 ?_
    refine lv_aload_n C.1 C.2.1 dX9_sit_14 rfl (lv_at hl 0 rfl) ?_
    refine zgetR C hS ff_X9_15_7 (hm 7 (by decide)) (hk (7, 1) (by decide)) dX9_sit_15 ?_
    refine lv_iload_n C.1 C.2.1 dX9_sit_18 rfl (lv_at hl 1 rfl) ?_
    obtain ⟨hi, hf⟩ := zck_some hf
    refine zald C hS sh_9 (hm 9 (by decide)) hi dX9_sit_19 ?_
    refine lv_iconst (v := (-1 : Int32)) C.1 C.2.1 dX9_sit_20 rfl ?_
    obtain ⟨hi, hf⟩ := zck_some hf
    refine zast C hS sh_10 (hm 10 (by decide)) hi dX9_sit_21 (fun H locs hS => ?_)
    obtain ⟨h3, eh3, hf⟩ := zst_some hf
    have hS : zS G h3 s.heap H locs := by rw [eh3]; exact hS
    exact w_X9_sit_22 C hm hk  _ _ _ _ _ _ (lv_sub hl [0, 1, 2] rfl) hS hf
end
section
theorem dX11_seat_0 : decode cX11_seat 0 = .ok (.aload_n 0, 1) := by decide +kernel
theorem dX11_seat_1 : decode cX11_seat 1 = .ok (.getfield 12, 3) := by decide +kernel
theorem dX11_seat_4 : decode cX11_seat 4 = .ok (.getfield 90, 3) := by decide +kernel
theorem dX11_seat_7 : decode cX11_seat 7 = .ok (.iload_n 1, 1) := by decide +kernel
theorem dX11_seat_8 : decode cX11_seat 8 = .ok (.iload_n 2, 1) := by decide +kernel
theorem dX11_seat_9 : decode cX11_seat 9 = .ok (.invokevirtual 102, 3) := by decide +kernel
theorem dX11_seat_12 : decode cX11_seat 12 = .ok (.ifCond .ne 5, 3) := by decide +kernel
theorem dX11_seat_15 : decode cX11_seat 15 = .ok (.iconst 0, 1) := by decide +kernel
theorem dX11_seat_16 : decode cX11_seat 16 = .ok (.ireturn, 1) := by decide +kernel
theorem dX11_seat_17 : decode cX11_seat 17 = .ok (.aload_n 0, 1) := by decide +kernel
theorem dX11_seat_18 : decode cX11_seat 18 = .ok (.getfield 12, 3) := by decide +kernel
theorem dX11_seat_21 : decode cX11_seat 21 = .ok (.getfield 90, 3) := by decide +kernel
theorem dX11_seat_24 : decode cX11_seat 24 = .ok (.iload_n 1, 1) := by decide +kernel
theorem dX11_seat_25 : decode cX11_seat 25 = .ok (.iload_n 2, 1) := by decide +kernel
theorem dX11_seat_26 : decode cX11_seat 26 = .ok (.invokevirtual 105, 3) := by decide +kernel
theorem dX11_seat_29 : decode cX11_seat 29 = .ok (.aload_n 0, 1) := by decide +kernel
theorem dX11_seat_30 : decode cX11_seat 30 = .ok (.getfield 19, 3) := by decide +kernel
theorem dX11_seat_33 : decode cX11_seat 33 = .ok (.invokevirtual 47, 3) := by decide +kernel
theorem dX11_seat_36 : decode cX11_seat 36 = .ok (.iconst 1, 1) := by decide +kernel
theorem dX11_seat_37 : decode cX11_seat 37 = .ok (.ireturn, 1) := by decide +kernel
abbrev nd_X11_seat : List Nat := [0, 1, 7, 9, 10, 22]
abbrev ld_X11_seat : List (Nat × Nat) := [(0, 0), (0, 1), (1, 1), (7, 1), (7, 2)]
theorem sn_X11_seat_X9_canSit : ∀ c ∈ nd_X9_canSit, c ∈ nd_X11_seat := by decide
theorem sl_X11_seat_X9_canSit : ∀ q ∈ ld_X9_canSit, q ∈ ld_X11_seat := by decide
theorem sn_X11_seat_X9_sit : ∀ c ∈ nd_X9_sit, c ∈ nd_X11_seat := by decide
theorem sl_X11_seat_X9_sit : ∀ q ∈ ld_X9_sit, q ∈ ld_X11_seat := by decide
theorem sn_X11_seat_X6_forget : ∀ c ∈ nd_X6_forget, c ∈ nd_X11_seat := by decide
theorem sl_X11_seat_X6_forget : ∀ q ∈ ld_X6_forget, q ∈ ld_X11_seat := by decide
def f_X11_seat  (x1 : Int32) (x2 : Int32) (h : zH) : zR := (zbd (f_X9_canSit x1 x2 h) fun r1 h2 => (if r1 = 0 then (some ((0 : Int32), h2)) else (zbd (f_X9_sit x1 x2 h2) fun r3 h4 => (zbd (f_X6_forget  h4) fun r5 h6 => (some ((1 : Int32), h6))))))
variable {p : Program} {l : Launch} {e : Env} {s : State} {m : MethodId} {args : Array Value} {below : List Frame} {meth : Method} {c : Code} {G : zG} {q : Int32 × zH}
set_option maxHeartbeats 4000000 in
set_option maxRecDepth 100000 in
theorem c_X11_seat (l : Launch) (G : zG) (h : zH) (x1 : Int32) (x2 : Int32) (q : Int32 × zH) (hm : ∀ c ∈ nd_X11_seat, c ∈ znm G) (hk : ∀ q ∈ ld_X11_seat, zlk G q.1 q.2 = true) (hf : f_X11_seat x1 x2 h = some q) : zCtI l yX11_seat cX11_seat 3 (some .boolean) (4) [.ref (zal G 0), .int x1, .int x2] G h q.2 q.1 := by
  refine zMetI (by decide) (Nat.le_of_ble_eq_true rfl) ?_
  intro p e s m below meth c ls C hl hS
  have hl : lv_has ls 3 [(0, .ref (zal G 0)), (1, .int x1), (2, .int x2)] := hl
  have C : zC G p s m [.ref (zal G 0), .int x1, .int x2].toArray meth c cX11_seat 3 RX11 (some .boolean) := C
  unfold f_X11_seat at hf
  refine lv_aload_n C.1 C.2.1 dX11_seat_0 rfl (lv_at hl 0 rfl) ?_
  refine zgetR C hS ff_X11_12_0 (hm 0 (by decide)) (hk (0, 0) (by decide)) dX11_seat_1 ?_
  refine zgetR C hS ff_X11_90_1 (hm 1 (by decide)) (hk (1, 1) (by decide)) dX11_seat_4 ?_
  refine lv_iload_n C.1 C.2.1 dX11_seat_7 rfl (lv_at hl 1 rfl) ?_
  refine lv_iload_n C.1 C.2.1 dX11_seat_8 rfl (lv_at hl 2 rfl) ?_
  obtain ⟨r1, h2, er1, hf⟩ := zbd_some hf
  refine zcallVI (As := [.int x1, .int x2]) (rest := []) C hS mv_X11_102 (c_X9_canSit l G h x1 x2 (r1, h2) (fun c h => hm c (sn_X11_seat_X9_canSit c h)) (fun q h => hk q (sl_X11_seat_X9_canSit q h)) er1) (hm 7 (by decide)) ⟨_, _, _, sh_7, rfl, rfl⟩ rfl rfl (Nat.le_of_ble_eq_true rfl) hl.1 ⟨Nat.le_of_ble_eq_true rfl, Nat.le_of_ble_eq_true rfl, Nat.le_of_ble_eq_true rfl, Nat.le_of_ble_eq_true rfl⟩ dX11_seat_9 (fun H locs hS => ?_)
  refine lv_if_ne (tgt := 17) C.1 C.2.1 dX11_seat_12 (by decide) (fun hc => ?_) (fun hc => ?_)
  · have hf := zif_f hc hf
    refine lv_aload_n C.1 C.2.1 dX11_seat_17 rfl (lv_at hl 0 rfl) ?_
    refine zgetR C hS ff_X11_12_0 (hm 0 (by decide)) (hk (0, 0) (by decide)) dX11_seat_18 ?_
    refine zgetR C hS ff_X11_90_1 (hm 1 (by decide)) (hk (1, 1) (by decide)) dX11_seat_21 ?_
    refine lv_iload_n C.1 C.2.1 dX11_seat_24 rfl (lv_at hl 1 rfl) ?_
    refine lv_iload_n C.1 C.2.1 dX11_seat_25 rfl (lv_at hl 2 rfl) ?_
    obtain ⟨r3, h4, er3, hf⟩ := zbd_some hf
    refine zcallVV (As := [.int x1, .int x2]) (rest := []) C hS mv_X11_105 (c_X9_sit l G h2 x1 x2 (r3, h4) (fun c h => hm c (sn_X11_seat_X9_sit c h)) (fun q h => hk q (sl_X11_seat_X9_sit q h)) er3) (hm 7 (by decide)) ⟨_, _, _, sh_7, rfl, rfl⟩ rfl rfl (Nat.le_of_ble_eq_true rfl) hl.1 ⟨Nat.le_of_ble_eq_true rfl, Nat.le_of_ble_eq_true rfl, Nat.le_of_ble_eq_true rfl, Nat.le_of_ble_eq_true rfl⟩ dX11_seat_26 (fun H locs hS => ?_)
    refine lv_aload_n C.1 C.2.1 dX11_seat_29 rfl (lv_at hl 0 rfl) ?_
    refine zgetR C hS ff_X11_19_0 (hm 0 (by decide)) (hk (0, 1) (by decide)) dX11_seat_30 ?_
    obtain ⟨r5, h6, er5, hf⟩ := zbd_some hf
    refine zcallVV (As := []) (rest := []) C hS mv_X11_47 (c_X6_forget l G h4  (r5, h6) (fun c h => hm c (sn_X11_seat_X6_forget c h)) (fun q h => hk q (sl_X11_seat_X6_forget q h)) er5) (hm 22 (by decide)) ⟨_, _, _, sh_22, rfl, rfl⟩ rfl rfl (Nat.le_of_ble_eq_true rfl) hl.1 ⟨Nat.le_of_ble_eq_true rfl, Nat.le_of_ble_eq_true rfl, Nat.le_of_ble_eq_true rfl, Nat.le_of_ble_eq_true rfl⟩ dX11_seat_33 (fun H locs hS => ?_)
    refine lv_iconst (v := (1 : Int32)) C.1 C.2.1 dX11_seat_36 rfl ?_
    exact zretZ C hS rfl hf dX11_seat_37
  · have hf := zif_t hc hf
    refine lv_iconst (v := (0 : Int32)) C.1 C.2.1 dX11_seat_15 rfl ?_
    exact zretZ C hS rfl hf dX11_seat_16
end
section
theorem dX9_layFor_0 : decode cX9_layFor 0 = .ok (.aload_n 0, 1) := by decide +kernel
theorem dX9_layFor_1 : decode cX9_layFor 1 = .ok (.iload_n 1, 1) := by decide +kernel
theorem dX9_layFor_2 : decode cX9_layFor 2 = .ok (.putfield 31, 3) := by decide +kernel
theorem dX9_layFor_5 : decode cX9_layFor 5 = .ok (.iconst 0, 1) := by decide +kernel
theorem dX9_layFor_6 : decode cX9_layFor 6 = .ok (.istore_n 2, 1) := by decide +kernel
theorem dX9_layFor_7 : decode cX9_layFor 7 = .ok (.iload_n 2, 1) := by decide +kernel
theorem dX9_layFor_8 : decode cX9_layFor 8 = .ok (.bipush 8, 2) := by decide +kernel
theorem dX9_layFor_10 : decode cX9_layFor 10 = .ok (.if_icmp .ge 16, 3) := by decide +kernel
theorem dX9_layFor_13 : decode cX9_layFor 13 = .ok (.aload_n 0, 1) := by decide +kernel
theorem dX9_layFor_14 : decode cX9_layFor 14 = .ok (.getfield 18, 3) := by decide +kernel
theorem dX9_layFor_17 : decode cX9_layFor 17 = .ok (.iload_n 2, 1) := by decide +kernel
theorem dX9_layFor_18 : decode cX9_layFor 18 = .ok (.iconst (-1), 1) := by decide +kernel
theorem dX9_layFor_19 : decode cX9_layFor 19 = .ok (.iastore, 1) := by decide +kernel
theorem dX9_layFor_20 : decode cX9_layFor 20 = .ok (.iinc 2 1, 3) := by decide +kernel
theorem dX9_layFor_23 : decode cX9_layFor 23 = .ok (.goto (-16), 3) := by decide +kernel
theorem dX9_layFor_26 : decode cX9_layFor 26 = .ok (.iconst 0, 1) := by decide +kernel
theorem dX9_layFor_27 : decode cX9_layFor 27 = .ok (.istore_n 2, 1) := by decide +kernel
theorem dX9_layFor_28 : decode cX9_layFor 28 = .ok (.iload_n 2, 1) := by decide +kernel
theorem dX9_layFor_29 : decode cX9_layFor 29 = .ok (.bipush 8, 2) := by decide +kernel
theorem dX9_layFor_31 : decode cX9_layFor 31 = .ok (.if_icmp .ge 16, 3) := by decide +kernel
theorem dX9_layFor_34 : decode cX9_layFor 34 = .ok (.aload_n 0, 1) := by decide +kernel
theorem dX9_layFor_35 : decode cX9_layFor 35 = .ok (.getfield 15, 3) := by decide +kernel
theorem dX9_layFor_38 : decode cX9_layFor 38 = .ok (.iload_n 2, 1) := by decide +kernel
theorem dX9_layFor_39 : decode cX9_layFor 39 = .ok (.iconst (-1), 1) := by decide +kernel
theorem dX9_layFor_40 : decode cX9_layFor 40 = .ok (.iastore, 1) := by decide +kernel
theorem dX9_layFor_41 : decode cX9_layFor 41 = .ok (.iinc 2 1, 3) := by decide +kernel
theorem dX9_layFor_44 : decode cX9_layFor 44 = .ok (.goto (-16), 3) := by decide +kernel
theorem dX9_layFor_47 : decode cX9_layFor 47 = .ok (.return_, 1) := by decide +kernel
abbrev nd_X9_layFor : List Nat := [7, 9, 10]
abbrev ld_X9_layFor : List (Nat × Nat) := [(7, 1), (7, 2)]
def f_X9_layFor_28  : Nat → Int32 → zH → zR
  | 0 => fun _ _ => none
  | n + 1 => fun x2 h => (if (8 : Int32) ≤ x2 then (some (0, h)) else (zck x2 8 (zst (zup h 9 (Int32.toNatClampNeg x2) (-1 : Int32)) fun h2 => (zlt (x2 + (1 : Int32)) fun y3 => (f_X9_layFor_28  n y3 h2)))))
def f_X9_layFor_7  : Nat → Int32 → zH → zR
  | 0 => fun _ _ => none
  | n + 1 => fun x2 h => (if (8 : Int32) ≤ x2 then (f_X9_layFor_28  zN (0 : Int32) h) else (zck x2 8 (zst (zup h 10 (Int32.toNatClampNeg x2) (-1 : Int32)) fun h4 => (zlt (x2 + (1 : Int32)) fun y5 => (f_X9_layFor_7  n y5 h4)))))
def f_X9_layFor  (x1 : Int32) (h : zH) : zR := (zst (zup h 7 3 x1) fun h1 => (f_X9_layFor_7  zN (0 : Int32) h1))
variable {p : Program} {l : Launch} {e : Env} {s : State} {m : MethodId} {args : Array Value} {below : List Frame} {meth : Method} {c : Code} {G : zG} {q : Int32 × zH}
set_option maxHeartbeats 4000000 in
set_option maxRecDepth 100000 in
theorem w_X9_layFor_28  (C : zC G p s m args meth c cX9_layFor 3 RX9 none) (hm : ∀ c ∈ nd_X9_layFor, c ∈ znm G) (hk : ∀ q ∈ ld_X9_layFor, zlk G q.1 q.2 = true)  : ∀ n, ∀ (ls : Array Slot) (H : Heap) (locs : List Loc) (h : zH) (x2 : Int32), lv_has ls 3 [(0, .ref (zal G 7)), (2, .int x2)] → zS G h s.heap H locs → f_X9_layFor_28  n x2 h = some q → W p l e (zrm (2)) s m args below meth c H locs 0 0 (MQ below (zQV G q.2) args s 0 0 (zA G)) (F0 m 28 ls []) := by
  intro n
  induction n with
  | zero => intro ls H locs h x2 hl hS hf; cases hf
  | succ n ih =>
    intro ls H locs h x2 hl hS hf
    rw [f_X9_layFor_28] at hf
    refine lv_iload_n C.1 C.2.1 dX9_layFor_28 rfl (lv_at hl 1 rfl) ?_
    refine lv_bipush (v := (8 : Int32)) C.1 C.2.1 dX9_layFor_29 rfl ?_
    refine lv_icmp_ge (tgt := 47) C.1 C.2.1 dX9_layFor_31 (by decide) (fun hc => ?_) (fun hc => ?_)
    · have hf := zif_t hc hf
      exact zretV C hS hf dX9_layFor_47
    · have hf := zif_f hc hf
      refine lv_aload_n C.1 C.2.1 dX9_layFor_34 rfl (lv_at hl 0 rfl) ?_
      refine zgetR C hS ff_X9_15_7 (hm 7 (by decide)) (hk (7, 1) (by decide)) dX9_layFor_35 ?_
      refine lv_iload_n C.1 C.2.1 dX9_layFor_38 rfl (lv_at hl 1 rfl) ?_
      refine lv_iconst (v := (-1 : Int32)) C.1 C.2.1 dX9_layFor_39 rfl ?_
      obtain ⟨hi, hf⟩ := zck_some hf
      refine zast C hS sh_9 (hm 9 (by decide)) hi dX9_layFor_40 (fun H locs hS => ?_)
      obtain ⟨h2, eh2, hf⟩ := zst_some hf
      have hS : zS G h2 s.heap H locs := by rw [eh2]; exact hS
      obtain ⟨y3, ey3, hf⟩ := zlt_some hf
      refine lv_iinc (v := y3) (lv' := [(2, .int y3), (0, .ref (zal G 7))]) C.1 C.2.1 dX9_layFor_41 hl (k := 1) rfl ey3.symm (by decide) rfl (fun ls hl => ?_)
      refine lv_goto (tgt := 28) C.1 C.2.1 dX9_layFor_44 (by decide) ?_
      exact ih _ _ _ _ _ (lv_sub hl [1, 0] rfl) hS hf
set_option maxHeartbeats 4000000 in
set_option maxRecDepth 100000 in
theorem w_X9_layFor_7  (C : zC G p s m args meth c cX9_layFor 3 RX9 none) (hm : ∀ c ∈ nd_X9_layFor, c ∈ znm G) (hk : ∀ q ∈ ld_X9_layFor, zlk G q.1 q.2 = true)  : ∀ n, ∀ (ls : Array Slot) (H : Heap) (locs : List Loc) (h : zH) (x2 : Int32), lv_has ls 3 [(0, .ref (zal G 7)), (2, .int x2)] → zS G h s.heap H locs → f_X9_layFor_7  n x2 h = some q → W p l e (zrm (2)) s m args below meth c H locs 0 0 (MQ below (zQV G q.2) args s 0 0 (zA G)) (F0 m 7 ls []) := by
  intro n
  induction n with
  | zero => intro ls H locs h x2 hl hS hf; cases hf
  | succ n ih =>
    intro ls H locs h x2 hl hS hf
    rw [f_X9_layFor_7] at hf
    refine lv_iload_n C.1 C.2.1 dX9_layFor_7 rfl (lv_at hl 1 rfl) ?_
    refine lv_bipush (v := (8 : Int32)) C.1 C.2.1 dX9_layFor_8 rfl ?_
    refine lv_icmp_ge (tgt := 26) C.1 C.2.1 dX9_layFor_10 (by decide) (fun hc => ?_) (fun hc => ?_)
    · have hf := zif_t hc hf
      refine lv_iconst (v := (0 : Int32)) C.1 C.2.1 dX9_layFor_26 rfl ?_
      refine lv_istore_n (lv' := [(2, .int (0 : Int32)), (0, .ref (zal G 7))]) C.1 C.2.1 dX9_layFor_27 rfl hl (by decide) rfl (fun ls hl => ?_)
      exact w_X9_layFor_28 C hm hk  zN _ _ _ _ _ (lv_sub hl [1, 0] rfl) hS hf
    · have hf := zif_f hc hf
      refine lv_aload_n C.1 C.2.1 dX9_layFor_13 rfl (lv_at hl 0 rfl) ?_
      refine zgetR C hS ff_X9_18_7 (hm 7 (by decide)) (hk (7, 2) (by decide)) dX9_layFor_14 ?_
      refine lv_iload_n C.1 C.2.1 dX9_layFor_17 rfl (lv_at hl 1 rfl) ?_
      refine lv_iconst (v := (-1 : Int32)) C.1 C.2.1 dX9_layFor_18 rfl ?_
      obtain ⟨hi, hf⟩ := zck_some hf
      refine zast C hS sh_10 (hm 10 (by decide)) hi dX9_layFor_19 (fun H locs hS => ?_)
      obtain ⟨h4, eh4, hf⟩ := zst_some hf
      have hS : zS G h4 s.heap H locs := by rw [eh4]; exact hS
      obtain ⟨y5, ey5, hf⟩ := zlt_some hf
      refine lv_iinc (v := y5) (lv' := [(2, .int y5), (0, .ref (zal G 7))]) C.1 C.2.1 dX9_layFor_20 hl (k := 1) rfl ey5.symm (by decide) rfl (fun ls hl => ?_)
      refine lv_goto (tgt := 7) C.1 C.2.1 dX9_layFor_23 (by decide) ?_
      exact ih _ _ _ _ _ (lv_sub hl [1, 0] rfl) hS hf
set_option maxHeartbeats 4000000 in
set_option maxRecDepth 100000 in
theorem c_X9_layFor (l : Launch) (G : zG) (h : zH) (x1 : Int32) (q : Int32 × zH) (hm : ∀ c ∈ nd_X9_layFor, c ∈ znm G) (hk : ∀ q ∈ ld_X9_layFor, zlk G q.1 q.2 = true) (hf : f_X9_layFor x1 h = some q) : zCtV l yX9_layFor cX9_layFor 3 none (2) [.ref (zal G 7), .int x1] G h q.2 := by
  refine zMetV (by decide) (Nat.le_of_ble_eq_true rfl) ?_
  intro p e s m below meth c ls C hl hS
  have hl : lv_has ls 3 [(0, .ref (zal G 7)), (1, .int x1)] := hl
  have C : zC G p s m [.ref (zal G 7), .int x1].toArray meth c cX9_layFor 3 RX9 none := C
  unfold f_X9_layFor at hf
  refine lv_aload_n C.1 C.2.1 dX9_layFor_0 rfl (lv_at hl 0 rfl) ?_
  refine lv_iload_n C.1 C.2.1 dX9_layFor_1 rfl (lv_at hl 1 rfl) ?_
  refine zputI C hS ff_X9_31_7 fw_7_3 (hm 7 (by decide)) dX9_layFor_2 (fun H locs hS => ?_)
  obtain ⟨h1, eh1, hf⟩ := zst_some hf
  have hS : zS G h1 s.heap H locs := by rw [eh1]; exact hS
  refine lv_iconst (v := (0 : Int32)) C.1 C.2.1 dX9_layFor_5 rfl ?_
  refine lv_istore_n (lv' := [(2, .int (0 : Int32)), (0, .ref (zal G 7)), (1, .int x1)]) C.1 C.2.1 dX9_layFor_6 rfl hl (by decide) rfl (fun ls hl => ?_)
  exact w_X9_layFor_7 C hm hk  zN _ _ _ _ _ (lv_sub hl [1, 0] rfl) hS hf
end
section
theorem dX11_set_0 : decode cX11_set 0 = .ok (.iload_n 1, 1) := by decide +kernel
theorem dX11_set_1 : decode cX11_set 1 = .ok (.ifCond .ne 28, 3) := by decide +kernel
theorem dX11_set_4 : decode cX11_set 4 = .ok (.iload_n 2, 1) := by decide +kernel
theorem dX11_set_5 : decode cX11_set 5 = .ok (.iconst 3, 1) := by decide +kernel
theorem dX11_set_6 : decode cX11_set 6 = .ok (.if_icmp .lt 23, 3) := by decide +kernel
theorem dX11_set_9 : decode cX11_set 9 = .ok (.iload_n 2, 1) := by decide +kernel
theorem dX11_set_10 : decode cX11_set 10 = .ok (.bipush 8, 2) := by decide +kernel
theorem dX11_set_12 : decode cX11_set 12 = .ok (.if_icmp .gt 17, 3) := by decide +kernel
theorem dX11_set_15 : decode cX11_set 15 = .ok (.aload_n 0, 1) := by decide +kernel
theorem dX11_set_16 : decode cX11_set 16 = .ok (.getfield 12, 3) := by decide +kernel
theorem dX11_set_19 : decode cX11_set 19 = .ok (.getfield 90, 3) := by decide +kernel
theorem dX11_set_22 : decode cX11_set 22 = .ok (.iload_n 2, 1) := by decide +kernel
theorem dX11_set_23 : decode cX11_set 23 = .ok (.invokevirtual 109, 3) := by decide +kernel
theorem dX11_set_26 : decode cX11_set 26 = .ok (.goto 58, 3) := by decide +kernel
theorem dX11_set_29 : decode cX11_set 29 = .ok (.iload_n 1, 1) := by decide +kernel
theorem dX11_set_30 : decode cX11_set 30 = .ok (.iconst 1, 1) := by decide +kernel
theorem dX11_set_31 : decode cX11_set 31 = .ok (.if_icmp .ne 24, 3) := by decide +kernel
theorem dX11_set_34 : decode cX11_set 34 = .ok (.iload_n 2, 1) := by decide +kernel
theorem dX11_set_35 : decode cX11_set 35 = .ok (.iconst 1, 1) := by decide +kernel
theorem dX11_set_36 : decode cX11_set 36 = .ok (.if_icmp .lt 19, 3) := by decide +kernel
theorem dX11_set_39 : decode cX11_set 39 = .ok (.iload_n 2, 1) := by decide +kernel
theorem dX11_set_40 : decode cX11_set 40 = .ok (.iconst 4, 1) := by decide +kernel
theorem dX11_set_41 : decode cX11_set 41 = .ok (.if_icmp .gt 14, 3) := by decide +kernel
theorem dX11_set_44 : decode cX11_set 44 = .ok (.aload_n 0, 1) := by decide +kernel
theorem dX11_set_45 : decode cX11_set 45 = .ok (.getfield 12, 3) := by decide +kernel
theorem dX11_set_48 : decode cX11_set 48 = .ok (.iload_n 2, 1) := by decide +kernel
theorem dX11_set_49 : decode cX11_set 49 = .ok (.putfield 113, 3) := by decide +kernel
theorem dX11_set_52 : decode cX11_set 52 = .ok (.goto 32, 3) := by decide +kernel
theorem dX11_set_55 : decode cX11_set 55 = .ok (.iload_n 1, 1) := by decide +kernel
theorem dX11_set_56 : decode cX11_set 56 = .ok (.iconst 2, 1) := by decide +kernel
theorem dX11_set_57 : decode cX11_set 57 = .ok (.if_icmp .ne 25, 3) := by decide +kernel
theorem dX11_set_60 : decode cX11_set 60 = .ok (.iload_n 2, 1) := by decide +kernel
theorem dX11_set_61 : decode cX11_set 61 = .ok (.ifCond .lt 21, 3) := by decide +kernel
theorem dX11_set_64 : decode cX11_set 64 = .ok (.iload_n 2, 1) := by decide +kernel
theorem dX11_set_65 : decode cX11_set 65 = .ok (.sipush 1000, 3) := by decide +kernel
theorem dX11_set_68 : decode cX11_set 68 = .ok (.if_icmp .gt 14, 3) := by decide +kernel
theorem dX11_set_71 : decode cX11_set 71 = .ok (.aload_n 0, 1) := by decide +kernel
theorem dX11_set_72 : decode cX11_set 72 = .ok (.getfield 12, 3) := by decide +kernel
theorem dX11_set_75 : decode cX11_set 75 = .ok (.iload_n 2, 1) := by decide +kernel
theorem dX11_set_76 : decode cX11_set 76 = .ok (.putfield 116, 3) := by decide +kernel
theorem dX11_set_79 : decode cX11_set 79 = .ok (.goto 5, 3) := by decide +kernel
theorem dX11_set_82 : decode cX11_set 82 = .ok (.iconst 0, 1) := by decide +kernel
theorem dX11_set_83 : decode cX11_set 83 = .ok (.ireturn, 1) := by decide +kernel
theorem dX11_set_84 : decode cX11_set 84 = .ok (.aload_n 0, 1) := by decide +kernel
theorem dX11_set_85 : decode cX11_set 85 = .ok (.getfield 19, 3) := by decide +kernel
theorem dX11_set_88 : decode cX11_set 88 = .ok (.invokevirtual 47, 3) := by decide +kernel
theorem dX11_set_91 : decode cX11_set 91 = .ok (.iconst 1, 1) := by decide +kernel
theorem dX11_set_92 : decode cX11_set 92 = .ok (.ireturn, 1) := by decide +kernel
abbrev nd_X11_set : List Nat := [0, 1, 7, 9, 10, 22]
abbrev ld_X11_set : List (Nat × Nat) := [(0, 0), (0, 1), (1, 1), (7, 1), (7, 2)]
theorem sn_X11_set_X6_forget : ∀ c ∈ nd_X6_forget, c ∈ nd_X11_set := by decide
theorem sl_X11_set_X6_forget : ∀ q ∈ ld_X6_forget, q ∈ ld_X11_set := by decide
theorem sn_X11_set_X9_layFor : ∀ c ∈ nd_X9_layFor, c ∈ nd_X11_set := by decide
theorem sl_X11_set_X9_layFor : ∀ q ∈ ld_X9_layFor, q ∈ ld_X11_set := by decide
def f_X11_set_82  (h : zH) : zR := (some ((0 : Int32), h))
def f_X11_set_84  (h : zH) : zR := (zbd (f_X6_forget  h) fun r2 h3 => (some ((1 : Int32), h3)))
def f_X11_set_55  (x1 : Int32) (x2 : Int32) (h : zH) : zR := (if x1 = (2 : Int32) then (if x2 < 0 then (f_X11_set_82   h) else (if (1000 : Int32) < x2 then (f_X11_set_82   h) else (zst (zup h 1 7 x2) fun h1 => (f_X11_set_84   h1)))) else (f_X11_set_82   h))
def f_X11_set_29  (x1 : Int32) (x2 : Int32) (h : zH) : zR := (if x1 = (1 : Int32) then (if x2 < (1 : Int32) then (f_X11_set_55  x1 x2 h) else (if (4 : Int32) < x2 then (f_X11_set_55  x1 x2 h) else (zst (zup h 1 6 x2) fun h4 => (f_X11_set_84   h4)))) else (f_X11_set_55  x1 x2 h))
def f_X11_set  (x1 : Int32) (x2 : Int32) (h : zH) : zR := (if x1 = 0 then (if x2 < (3 : Int32) then (f_X11_set_29  x1 x2 h) else (if (8 : Int32) < x2 then (f_X11_set_29  x1 x2 h) else (zbd (f_X9_layFor x2 h) fun r5 h6 => (f_X11_set_84   h6)))) else (f_X11_set_29  x1 x2 h))
variable {p : Program} {l : Launch} {e : Env} {s : State} {m : MethodId} {args : Array Value} {below : List Frame} {meth : Method} {c : Code} {G : zG} {q : Int32 × zH}
set_option maxHeartbeats 4000000 in
set_option maxRecDepth 100000 in
theorem w_X11_set_82  (C : zC G p s m args meth c cX11_set 3 RX11 (some .boolean)) (hm : ∀ c ∈ nd_X11_set, c ∈ znm G) (hk : ∀ q ∈ ld_X11_set, zlk G q.1 q.2 = true)  : ∀ (ls : Array Slot) (H : Heap) (locs : List Loc) (h : zH), lv_has ls 3 [] → zS G h s.heap H locs → f_X11_set_82  h = some q → W p l e (zrm (3)) s m args below meth c H locs 0 0 (MQ below (zQI G q.2 q.1) args s 0 0 (zA G)) (F0 m 82 ls []) := by
  intro ls H locs h hl hS hf
  unfold f_X11_set_82 at hf
  refine lv_iconst (v := (0 : Int32)) C.1 C.2.1 dX11_set_82 rfl ?_
  exact zretZ C hS rfl hf dX11_set_83
set_option maxHeartbeats 4000000 in
set_option maxRecDepth 100000 in
theorem w_X11_set_84  (C : zC G p s m args meth c cX11_set 3 RX11 (some .boolean)) (hm : ∀ c ∈ nd_X11_set, c ∈ znm G) (hk : ∀ q ∈ ld_X11_set, zlk G q.1 q.2 = true)  : ∀ (ls : Array Slot) (H : Heap) (locs : List Loc) (h : zH), lv_has ls 3 [(0, .ref (zal G 0))] → zS G h s.heap H locs → f_X11_set_84  h = some q → W p l e (zrm (3)) s m args below meth c H locs 0 0 (MQ below (zQI G q.2 q.1) args s 0 0 (zA G)) (F0 m 84 ls []) := by
  intro ls H locs h hl hS hf
  unfold f_X11_set_84 at hf
  refine lv_aload_n C.1 C.2.1 dX11_set_84 rfl (lv_at hl 0 rfl) ?_
  refine zgetR C hS ff_X11_19_0 (hm 0 (by decide)) (hk (0, 1) (by decide)) dX11_set_85 ?_
  obtain ⟨r2, h3, er2, hf⟩ := zbd_some hf
  refine zcallVV (As := []) (rest := []) C hS mv_X11_47 (c_X6_forget l G h  (r2, h3) (fun c h => hm c (sn_X11_set_X6_forget c h)) (fun q h => hk q (sl_X11_set_X6_forget q h)) er2) (hm 22 (by decide)) ⟨_, _, _, sh_22, rfl, rfl⟩ rfl rfl (Nat.le_of_ble_eq_true rfl) hl.1 ⟨Nat.le_of_ble_eq_true rfl, Nat.le_of_ble_eq_true rfl, Nat.le_of_ble_eq_true rfl, Nat.le_of_ble_eq_true rfl⟩ dX11_set_88 (fun H locs hS => ?_)
  refine lv_iconst (v := (1 : Int32)) C.1 C.2.1 dX11_set_91 rfl ?_
  exact zretZ C hS rfl hf dX11_set_92
set_option maxHeartbeats 4000000 in
set_option maxRecDepth 100000 in
theorem w_X11_set_55  (C : zC G p s m args meth c cX11_set 3 RX11 (some .boolean)) (hm : ∀ c ∈ nd_X11_set, c ∈ znm G) (hk : ∀ q ∈ ld_X11_set, zlk G q.1 q.2 = true)  : ∀ (ls : Array Slot) (H : Heap) (locs : List Loc) (h : zH) (x1 : Int32) (x2 : Int32), lv_has ls 3 [(0, .ref (zal G 0)), (1, .int x1), (2, .int x2)] → zS G h s.heap H locs → f_X11_set_55  x1 x2 h = some q → W p l e (zrm (3)) s m args below meth c H locs 0 0 (MQ below (zQI G q.2 q.1) args s 0 0 (zA G)) (F0 m 55 ls []) := by
  intro ls H locs h x1 x2 hl hS hf
  unfold f_X11_set_55 at hf
  refine lv_iload_n C.1 C.2.1 dX11_set_55 rfl (lv_at hl 1 rfl) ?_
  refine lv_iconst (v := (2 : Int32)) C.1 C.2.1 dX11_set_56 rfl ?_
  refine lv_icmp_ne (tgt := 82) C.1 C.2.1 dX11_set_57 (by decide) (fun hc => ?_) (fun hc => ?_)
  · have hf := zif_f hc hf
    exact w_X11_set_82 C hm hk  _ _ _ _ (lv_sub hl [] rfl) hS hf
  · have hf := zif_t hc hf
    refine lv_iload_n C.1 C.2.1 dX11_set_60 rfl (lv_at hl 2 rfl) ?_
    refine lv_if_lt (tgt := 82) C.1 C.2.1 dX11_set_61 (by decide) (fun hc => ?_) (fun hc => ?_)
    · have hf := zif_t hc hf
      exact w_X11_set_82 C hm hk  _ _ _ _ (lv_sub hl [] rfl) hS hf
    · have hf := zif_f hc hf
      refine lv_iload_n C.1 C.2.1 dX11_set_64 rfl (lv_at hl 2 rfl) ?_
      refine lv_sipush (v := (1000 : Int32)) C.1 C.2.1 dX11_set_65 rfl ?_
      refine lv_icmp_gt (tgt := 82) C.1 C.2.1 dX11_set_68 (by decide) (fun hc => ?_) (fun hc => ?_)
      · have hf := zif_t hc hf
        exact w_X11_set_82 C hm hk  _ _ _ _ (lv_sub hl [] rfl) hS hf
      · have hf := zif_f hc hf
        refine lv_aload_n C.1 C.2.1 dX11_set_71 rfl (lv_at hl 0 rfl) ?_
        refine zgetR C hS ff_X11_12_0 (hm 0 (by decide)) (hk (0, 0) (by decide)) dX11_set_72 ?_
        refine lv_iload_n C.1 C.2.1 dX11_set_75 rfl (lv_at hl 2 rfl) ?_
        refine zputI C hS ff_X11_116_1 fw_1_7 (hm 1 (by decide)) dX11_set_76 (fun H locs hS => ?_)
        obtain ⟨h1, eh1, hf⟩ := zst_some hf
        have hS : zS G h1 s.heap H locs := by rw [eh1]; exact hS
        refine lv_goto (tgt := 84) C.1 C.2.1 dX11_set_79 (by decide) ?_
        exact w_X11_set_84 C hm hk  _ _ _ _ (lv_sub hl [0] rfl) hS hf
set_option maxHeartbeats 4000000 in
set_option maxRecDepth 100000 in
theorem w_X11_set_29  (C : zC G p s m args meth c cX11_set 3 RX11 (some .boolean)) (hm : ∀ c ∈ nd_X11_set, c ∈ znm G) (hk : ∀ q ∈ ld_X11_set, zlk G q.1 q.2 = true)  : ∀ (ls : Array Slot) (H : Heap) (locs : List Loc) (h : zH) (x1 : Int32) (x2 : Int32), lv_has ls 3 [(0, .ref (zal G 0)), (1, .int x1), (2, .int x2)] → zS G h s.heap H locs → f_X11_set_29  x1 x2 h = some q → W p l e (zrm (3)) s m args below meth c H locs 0 0 (MQ below (zQI G q.2 q.1) args s 0 0 (zA G)) (F0 m 29 ls []) := by
  intro ls H locs h x1 x2 hl hS hf
  unfold f_X11_set_29 at hf
  refine lv_iload_n C.1 C.2.1 dX11_set_29 rfl (lv_at hl 1 rfl) ?_
  refine lv_iconst (v := (1 : Int32)) C.1 C.2.1 dX11_set_30 rfl ?_
  refine lv_icmp_ne (tgt := 55) C.1 C.2.1 dX11_set_31 (by decide) (fun hc => ?_) (fun hc => ?_)
  · have hf := zif_f hc hf
    exact w_X11_set_55 C hm hk  _ _ _ _ _ _ (lv_sub hl [0, 1, 2] rfl) hS hf
  · have hf := zif_t hc hf
    refine lv_iload_n C.1 C.2.1 dX11_set_34 rfl (lv_at hl 2 rfl) ?_
    refine lv_iconst (v := (1 : Int32)) C.1 C.2.1 dX11_set_35 rfl ?_
    refine lv_icmp_lt (tgt := 55) C.1 C.2.1 dX11_set_36 (by decide) (fun hc => ?_) (fun hc => ?_)
    · have hf := zif_t hc hf
      exact w_X11_set_55 C hm hk  _ _ _ _ _ _ (lv_sub hl [0, 1, 2] rfl) hS hf
    · have hf := zif_f hc hf
      refine lv_iload_n C.1 C.2.1 dX11_set_39 rfl (lv_at hl 2 rfl) ?_
      refine lv_iconst (v := (4 : Int32)) C.1 C.2.1 dX11_set_40 rfl ?_
      refine lv_icmp_gt (tgt := 55) C.1 C.2.1 dX11_set_41 (by decide) (fun hc => ?_) (fun hc => ?_)
      · have hf := zif_t hc hf
        exact w_X11_set_55 C hm hk  _ _ _ _ _ _ (lv_sub hl [0, 1, 2] rfl) hS hf
      · have hf := zif_f hc hf
        refine lv_aload_n C.1 C.2.1 dX11_set_44 rfl (lv_at hl 0 rfl) ?_
        refine zgetR C hS ff_X11_12_0 (hm 0 (by decide)) (hk (0, 0) (by decide)) dX11_set_45 ?_
        refine lv_iload_n C.1 C.2.1 dX11_set_48 rfl (lv_at hl 2 rfl) ?_
        refine zputI C hS ff_X11_113_1 fw_1_6 (hm 1 (by decide)) dX11_set_49 (fun H locs hS => ?_)
        obtain ⟨h4, eh4, hf⟩ := zst_some hf
        have hS : zS G h4 s.heap H locs := by rw [eh4]; exact hS
        refine lv_goto (tgt := 84) C.1 C.2.1 dX11_set_52 (by decide) ?_
        exact w_X11_set_84 C hm hk  _ _ _ _ (lv_sub hl [0] rfl) hS hf
set_option maxHeartbeats 4000000 in
set_option maxRecDepth 100000 in
theorem c_X11_set (l : Launch) (G : zG) (h : zH) (x1 : Int32) (x2 : Int32) (q : Int32 × zH) (hm : ∀ c ∈ nd_X11_set, c ∈ znm G) (hk : ∀ q ∈ ld_X11_set, zlk G q.1 q.2 = true) (hf : f_X11_set x1 x2 h = some q) : zCtI l yX11_set cX11_set 3 (some .boolean) (3) [.ref (zal G 0), .int x1, .int x2] G h q.2 q.1 := by
  refine zMetI (by decide) (Nat.le_of_ble_eq_true rfl) ?_
  intro p e s m below meth c ls C hl hS
  have hl : lv_has ls 3 [(0, .ref (zal G 0)), (1, .int x1), (2, .int x2)] := hl
  have C : zC G p s m [.ref (zal G 0), .int x1, .int x2].toArray meth c cX11_set 3 RX11 (some .boolean) := C
  unfold f_X11_set at hf
  refine lv_iload_n C.1 C.2.1 dX11_set_0 rfl (lv_at hl 1 rfl) ?_
  refine lv_if_ne (tgt := 29) C.1 C.2.1 dX11_set_1 (by decide) (fun hc => ?_) (fun hc => ?_)
  · have hf := zif_f hc hf
    exact w_X11_set_29 C hm hk  _ _ _ _ _ _ (lv_sub hl [0, 1, 2] rfl) hS hf
  · have hf := zif_t hc hf
    refine lv_iload_n C.1 C.2.1 dX11_set_4 rfl (lv_at hl 2 rfl) ?_
    refine lv_iconst (v := (3 : Int32)) C.1 C.2.1 dX11_set_5 rfl ?_
    refine lv_icmp_lt (tgt := 29) C.1 C.2.1 dX11_set_6 (by decide) (fun hc => ?_) (fun hc => ?_)
    · have hf := zif_t hc hf
      exact w_X11_set_29 C hm hk  _ _ _ _ _ _ (lv_sub hl [0, 1, 2] rfl) hS hf
    · have hf := zif_f hc hf
      refine lv_iload_n C.1 C.2.1 dX11_set_9 rfl (lv_at hl 2 rfl) ?_
      refine lv_bipush (v := (8 : Int32)) C.1 C.2.1 dX11_set_10 rfl ?_
      refine lv_icmp_gt (tgt := 29) C.1 C.2.1 dX11_set_12 (by decide) (fun hc => ?_) (fun hc => ?_)
      · have hf := zif_t hc hf
        exact w_X11_set_29 C hm hk  _ _ _ _ _ _ (lv_sub hl [0, 1, 2] rfl) hS hf
      · have hf := zif_f hc hf
        refine lv_aload_n C.1 C.2.1 dX11_set_15 rfl (lv_at hl 0 rfl) ?_
        refine zgetR C hS ff_X11_12_0 (hm 0 (by decide)) (hk (0, 0) (by decide)) dX11_set_16 ?_
        refine zgetR C hS ff_X11_90_1 (hm 1 (by decide)) (hk (1, 1) (by decide)) dX11_set_19 ?_
        refine lv_iload_n C.1 C.2.1 dX11_set_22 rfl (lv_at hl 2 rfl) ?_
        obtain ⟨r5, h6, er5, hf⟩ := zbd_some hf
        refine zcallVV (As := [.int x2]) (rest := []) C hS mv_X11_109 (c_X9_layFor l G h x2 (r5, h6) (fun c h => hm c (sn_X11_set_X9_layFor c h)) (fun q h => hk q (sl_X11_set_X9_layFor q h)) er5) (hm 7 (by decide)) ⟨_, _, _, sh_7, rfl, rfl⟩ rfl rfl (Nat.le_of_ble_eq_true rfl) hl.1 ⟨Nat.le_of_ble_eq_true rfl, Nat.le_of_ble_eq_true rfl, Nat.le_of_ble_eq_true rfl, Nat.le_of_ble_eq_true rfl⟩ dX11_set_23 (fun H locs hS => ?_)
        refine lv_goto (tgt := 84) C.1 C.2.1 dX11_set_26 (by decide) ?_
        exact w_X11_set_84 C hm hk  _ _ _ _ (lv_sub hl [0] rfl) hS hf
end
section
theorem dX7_hasRoom_0 : decode cX7_hasRoom 0 = .ok (.aload_n 0, 1) := by decide +kernel
theorem dX7_hasRoom_1 : decode cX7_hasRoom 1 = .ok (.getfield 36, 3) := by decide +kernel
theorem dX7_hasRoom_4 : decode cX7_hasRoom 4 = .ok (.iload_n 1, 1) := by decide +kernel
theorem dX7_hasRoom_5 : decode cX7_hasRoom 5 = .ok (.iadd, 1) := by decide +kernel
theorem dX7_hasRoom_6 : decode cX7_hasRoom 6 = .ok (.sipush 400, 3) := by decide +kernel
theorem dX7_hasRoom_9 : decode cX7_hasRoom 9 = .ok (.if_icmp .gt 7, 3) := by decide +kernel
theorem dX7_hasRoom_12 : decode cX7_hasRoom 12 = .ok (.iconst 1, 1) := by decide +kernel
theorem dX7_hasRoom_13 : decode cX7_hasRoom 13 = .ok (.goto 4, 3) := by decide +kernel
theorem dX7_hasRoom_16 : decode cX7_hasRoom 16 = .ok (.iconst 0, 1) := by decide +kernel
theorem dX7_hasRoom_17 : decode cX7_hasRoom 17 = .ok (.ireturn, 1) := by decide +kernel
abbrev nd_X7_hasRoom : List Nat := [29]
abbrev ld_X7_hasRoom : List (Nat × Nat) := []
def f_X7_hasRoom  (x1 : Int32) (h : zH) : zR := (if (400 : Int32) < ((h 29 5) + x1) then (some ((0 : Int32), h)) else (some ((1 : Int32), h)))
variable {p : Program} {l : Launch} {e : Env} {s : State} {m : MethodId} {args : Array Value} {below : List Frame} {meth : Method} {c : Code} {G : zG} {q : Int32 × zH}
set_option maxHeartbeats 4000000 in
set_option maxRecDepth 100000 in
theorem c_X7_hasRoom (l : Launch) (G : zG) (h : zH) (x1 : Int32) (q : Int32 × zH) (hm : ∀ c ∈ nd_X7_hasRoom, c ∈ znm G) (hk : ∀ q ∈ ld_X7_hasRoom, zlk G q.1 q.2 = true) (hf : f_X7_hasRoom x1 h = some q) : zCtI l yX7_hasRoom cX7_hasRoom 2 (some .boolean) (2) [.ref (zal G 29), .int x1] G h q.2 q.1 := by
  refine zMetI (by decide) (Nat.le_of_ble_eq_true rfl) ?_
  intro p e s m below meth c ls C hl hS
  have hl : lv_has ls 2 [(0, .ref (zal G 29)), (1, .int x1)] := hl
  have C : zC G p s m [.ref (zal G 29), .int x1].toArray meth c cX7_hasRoom 2 RX7 (some .boolean) := C
  unfold f_X7_hasRoom at hf
  refine lv_aload_n C.1 C.2.1 dX7_hasRoom_0 rfl (lv_at hl 0 rfl) ?_
  refine zgetI C hS ff_X7_36_29 (hm 29 (by decide)) dX7_hasRoom_1 ?_
  refine lv_iload_n C.1 C.2.1 dX7_hasRoom_4 rfl (lv_at hl 1 rfl) ?_
  refine lv_iadd C.1 C.2.1 dX7_hasRoom_5 ?_
  refine lv_sipush (v := (400 : Int32)) C.1 C.2.1 dX7_hasRoom_6 rfl ?_
  refine lv_icmp_gt (tgt := 16) C.1 C.2.1 dX7_hasRoom_9 (by decide) (fun hc => ?_) (fun hc => ?_)
  · have hf := zif_t hc hf
    refine lv_iconst (v := (0 : Int32)) C.1 C.2.1 dX7_hasRoom_16 rfl ?_
    exact zretZ C hS rfl hf dX7_hasRoom_17
  · have hf := zif_f hc hf
    refine lv_iconst (v := (1 : Int32)) C.1 C.2.1 dX7_hasRoom_12 rfl ?_
    refine lv_goto (tgt := 17) C.1 C.2.1 dX7_hasRoom_13 (by decide) ?_
    exact zretZ C hS rfl hf dX7_hasRoom_17
end
section
theorem dX7_put_0 : decode cX7_put 0 = .ok (.bipush 24, 2) := by decide +kernel
theorem dX7_put_2 : decode cX7_put 2 = .ok (.istore_n 2, 1) := by decide +kernel
theorem dX7_put_3 : decode cX7_put 3 = .ok (.iload_n 2, 1) := by decide +kernel
theorem dX7_put_4 : decode cX7_put 4 = .ok (.ifCond .lt 46, 3) := by decide +kernel
theorem dX7_put_7 : decode cX7_put 7 = .ok (.aload_n 0, 1) := by decide +kernel
theorem dX7_put_8 : decode cX7_put 8 = .ok (.getfield 36, 3) := by decide +kernel
theorem dX7_put_11 : decode cX7_put 11 = .ok (.sipush 400, 3) := by decide +kernel
theorem dX7_put_14 : decode cX7_put 14 = .ok (.if_icmp .ge 36, 3) := by decide +kernel
theorem dX7_put_17 : decode cX7_put 17 = .ok (.aload_n 0, 1) := by decide +kernel
theorem dX7_put_18 : decode cX7_put 18 = .ok (.getfield 9, 3) := by decide +kernel
theorem dX7_put_21 : decode cX7_put 21 = .ok (.aload_n 0, 1) := by decide +kernel
theorem dX7_put_22 : decode cX7_put 22 = .ok (.getfield 36, 3) := by decide +kernel
theorem dX7_put_25 : decode cX7_put 25 = .ok (.iload_n 1, 1) := by decide +kernel
theorem dX7_put_26 : decode cX7_put 26 = .ok (.iload_n 2, 1) := by decide +kernel
theorem dX7_put_27 : decode cX7_put 27 = .ok (.iushr, 1) := by decide +kernel
theorem dX7_put_28 : decode cX7_put 28 = .ok (.sipush 255, 3) := by decide +kernel
theorem dX7_put_31 : decode cX7_put 31 = .ok (.iand, 1) := by decide +kernel
theorem dX7_put_32 : decode cX7_put 32 = .ok (.i2c, 1) := by decide +kernel
theorem dX7_put_33 : decode cX7_put 33 = .ok (.castore, 1) := by decide +kernel
theorem dX7_put_34 : decode cX7_put 34 = .ok (.aload_n 0, 1) := by decide +kernel
theorem dX7_put_35 : decode cX7_put 35 = .ok (.dup, 1) := by decide +kernel
theorem dX7_put_36 : decode cX7_put 36 = .ok (.getfield 36, 3) := by decide +kernel
theorem dX7_put_39 : decode cX7_put 39 = .ok (.iconst 1, 1) := by decide +kernel
theorem dX7_put_40 : decode cX7_put 40 = .ok (.iadd, 1) := by decide +kernel
theorem dX7_put_41 : decode cX7_put 41 = .ok (.putfield 36, 3) := by decide +kernel
theorem dX7_put_44 : decode cX7_put 44 = .ok (.iinc 2 (-8), 3) := by decide +kernel
theorem dX7_put_47 : decode cX7_put 47 = .ok (.goto (-44), 3) := by decide +kernel
theorem dX7_put_50 : decode cX7_put 50 = .ok (.return_, 1) := by decide +kernel
abbrev nd_X7_put : List Nat := [29, 30]
abbrev ld_X7_put : List (Nat × Nat) := [(29, 0)]
def f_X7_put_3  : Nat → Int32 → Int32 → zH → zR
  | 0 => fun _ _ _ => none
  | n + 1 => fun x1 x2 h => (if x2 < 0 then (some (0, h)) else (if (400 : Int32) ≤ (h 29 5) then (some (0, h)) else (zck (h 29 5) 400 (zst (zup h 30 (Int32.toNatClampNeg (h 29 5)) (vp_nar .char (Int32.toUInt32 ((Int32.toUInt32 x1 >>> (Int32.toUInt32 x2 &&& Int32.toUInt32 31)).toInt32 &&& (255 : Int32)) % 65536).toInt32)) fun h1 => (zst (zup h1 29 5 ((h1 29 5) + (1 : Int32))) fun h2 => (zlt (x2 + (-8 : Int32)) fun y3 => (f_X7_put_3  n x1 y3 h2)))))))
def f_X7_put  (x1 : Int32) (h : zH) : zR := (f_X7_put_3  zN x1 (24 : Int32) h)
variable {p : Program} {l : Launch} {e : Env} {s : State} {m : MethodId} {args : Array Value} {below : List Frame} {meth : Method} {c : Code} {G : zG} {q : Int32 × zH}
set_option maxHeartbeats 4000000 in
set_option maxRecDepth 100000 in
theorem w_X7_put_3  (C : zC G p s m args meth c cX7_put 3 RX7 none) (hm : ∀ c ∈ nd_X7_put, c ∈ znm G) (hk : ∀ q ∈ ld_X7_put, zlk G q.1 q.2 = true)  : ∀ n, ∀ (ls : Array Slot) (H : Heap) (locs : List Loc) (h : zH) (x1 : Int32) (x2 : Int32), lv_has ls 3 [(0, .ref (zal G 29)), (1, .int x1), (2, .int x2)] → zS G h s.heap H locs → f_X7_put_3  n x1 x2 h = some q → W p l e (zrm (2)) s m args below meth c H locs 0 0 (MQ below (zQV G q.2) args s 0 0 (zA G)) (F0 m 3 ls []) := by
  intro n
  induction n with
  | zero => intro ls H locs h x1 x2 hl hS hf; cases hf
  | succ n ih =>
    intro ls H locs h x1 x2 hl hS hf
    rw [f_X7_put_3] at hf
    refine lv_iload_n C.1 C.2.1 dX7_put_3 rfl (lv_at hl 2 rfl) ?_
    refine lv_if_lt (tgt := 50) C.1 C.2.1 dX7_put_4 (by decide) (fun hc => ?_) (fun hc => ?_)
    · have hf := zif_t hc hf
      exact zretV C hS hf dX7_put_50
    · have hf := zif_f hc hf
      refine lv_aload_n C.1 C.2.1 dX7_put_7 rfl (lv_at hl 0 rfl) ?_
      refine zgetI C hS ff_X7_36_29 (hm 29 (by decide)) dX7_put_8 ?_
      refine lv_sipush (v := (400 : Int32)) C.1 C.2.1 dX7_put_11 rfl ?_
      refine lv_icmp_ge (tgt := 50) C.1 C.2.1 dX7_put_14 (by decide) (fun hc => ?_) (fun hc => ?_)
      · have hf := zif_t hc hf
        exact zretV C hS hf dX7_put_50
      · have hf := zif_f hc hf
        refine lv_aload_n C.1 C.2.1 dX7_put_17 rfl (lv_at hl 0 rfl) ?_
        refine zgetR C hS ff_X7_9_29 (hm 29 (by decide)) (hk (29, 0) (by decide)) dX7_put_18 ?_
        refine lv_aload_n C.1 C.2.1 dX7_put_21 rfl (lv_at hl 0 rfl) ?_
        refine zgetI C hS ff_X7_36_29 (hm 29 (by decide)) dX7_put_22 ?_
        refine lv_iload_n C.1 C.2.1 dX7_put_25 rfl (lv_at hl 1 rfl) ?_
        refine lv_iload_n C.1 C.2.1 dX7_put_26 rfl (lv_at hl 2 rfl) ?_
        refine lv_iushr C.1 C.2.1 dX7_put_27 rfl ?_
        refine lv_sipush (v := (255 : Int32)) C.1 C.2.1 dX7_put_28 rfl ?_
        refine lv_iand C.1 C.2.1 dX7_put_31 ?_
        refine lv_i2c C.1 C.2.1 dX7_put_32 rfl ?_
        obtain ⟨hi, hf⟩ := zck_some hf
        refine zastC C hS sh_30 (hm 30 (by decide)) hi dX7_put_33 (fun H locs hS => ?_)
        obtain ⟨h1, eh1, hf⟩ := zst_some hf
        have hS : zS G h1 s.heap H locs := by rw [eh1]; exact hS
        refine lv_aload_n C.1 C.2.1 dX7_put_34 rfl (lv_at hl 0 rfl) ?_
        refine lv_dup C.1 C.2.1 dX7_put_35 rfl ?_
        refine zgetI C hS ff_X7_36_29 (hm 29 (by decide)) dX7_put_36 ?_
        refine lv_iconst (v := (1 : Int32)) C.1 C.2.1 dX7_put_39 rfl ?_
        refine lv_iadd C.1 C.2.1 dX7_put_40 ?_
        refine zputI C hS ff_X7_36_29 fw_29_5 (hm 29 (by decide)) dX7_put_41 (fun H locs hS => ?_)
        obtain ⟨h2, eh2, hf⟩ := zst_some hf
        have hS : zS G h2 s.heap H locs := by rw [eh2]; exact hS
        obtain ⟨y3, ey3, hf⟩ := zlt_some hf
        refine lv_iinc (v := y3) (lv' := [(2, .int y3), (0, .ref (zal G 29)), (1, .int x1)]) C.1 C.2.1 dX7_put_44 hl (k := 2) rfl ey3.symm (by decide) rfl (fun ls hl => ?_)
        refine lv_goto (tgt := 3) C.1 C.2.1 dX7_put_47 (by decide) ?_
        exact ih _ _ _ _ _ _ (lv_sub hl [1, 2, 0] rfl) hS hf
set_option maxHeartbeats 4000000 in
set_option maxRecDepth 100000 in
theorem c_X7_put (l : Launch) (G : zG) (h : zH) (x1 : Int32) (q : Int32 × zH) (hm : ∀ c ∈ nd_X7_put, c ∈ znm G) (hk : ∀ q ∈ ld_X7_put, zlk G q.1 q.2 = true) (hf : f_X7_put x1 h = some q) : zCtV l yX7_put cX7_put 3 none (2) [.ref (zal G 29), .int x1] G h q.2 := by
  refine zMetV (by decide) (Nat.le_of_ble_eq_true rfl) ?_
  intro p e s m below meth c ls C hl hS
  have hl : lv_has ls 3 [(0, .ref (zal G 29)), (1, .int x1)] := hl
  have C : zC G p s m [.ref (zal G 29), .int x1].toArray meth c cX7_put 3 RX7 none := C
  unfold f_X7_put at hf
  refine lv_bipush (v := (24 : Int32)) C.1 C.2.1 dX7_put_0 rfl ?_
  refine lv_istore_n (lv' := [(2, .int (24 : Int32)), (0, .ref (zal G 29)), (1, .int x1)]) C.1 C.2.1 dX7_put_2 rfl hl (by decide) rfl (fun ls hl => ?_)
  exact w_X7_put_3 C hm hk  zN _ _ _ _ _ _ (lv_sub hl [1, 2, 0] rfl) hS hf
end
section
theorem dX11_feed_0 : decode cX11_feed 0 = .ok (.aload_n 0, 1) := by decide +kernel
theorem dX11_feed_1 : decode cX11_feed 1 = .ok (.getfield 26, 3) := by decide +kernel
theorem dX11_feed_4 : decode cX11_feed 4 = .ok (.bipush 20, 2) := by decide +kernel
theorem dX11_feed_6 : decode cX11_feed 6 = .ok (.invokevirtual 119, 3) := by decide +kernel
theorem dX11_feed_9 : decode cX11_feed 9 = .ok (.ifCond .ne 5, 3) := by decide +kernel
theorem dX11_feed_12 : decode cX11_feed 12 = .ok (.iconst (-1), 1) := by decide +kernel
theorem dX11_feed_13 : decode cX11_feed 13 = .ok (.ireturn, 1) := by decide +kernel
theorem dX11_feed_14 : decode cX11_feed 14 = .ok (.aload_n 0, 1) := by decide +kernel
theorem dX11_feed_15 : decode cX11_feed 15 = .ok (.getfield 26, 3) := by decide +kernel
theorem dX11_feed_18 : decode cX11_feed 18 = .ok (.iload_n 1, 1) := by decide +kernel
theorem dX11_feed_19 : decode cX11_feed 19 = .ok (.invokevirtual 122, 3) := by decide +kernel
theorem dX11_feed_22 : decode cX11_feed 22 = .ok (.aload_n 0, 1) := by decide +kernel
theorem dX11_feed_23 : decode cX11_feed 23 = .ok (.getfield 26, 3) := by decide +kernel
theorem dX11_feed_26 : decode cX11_feed 26 = .ok (.iload_n 2, 1) := by decide +kernel
theorem dX11_feed_27 : decode cX11_feed 27 = .ok (.invokevirtual 122, 3) := by decide +kernel
theorem dX11_feed_30 : decode cX11_feed 30 = .ok (.aload_n 0, 1) := by decide +kernel
theorem dX11_feed_31 : decode cX11_feed 31 = .ok (.getfield 26, 3) := by decide +kernel
theorem dX11_feed_34 : decode cX11_feed 34 = .ok (.iload_n 3, 1) := by decide +kernel
theorem dX11_feed_35 : decode cX11_feed 35 = .ok (.invokevirtual 122, 3) := by decide +kernel
theorem dX11_feed_38 : decode cX11_feed 38 = .ok (.aload_n 0, 1) := by decide +kernel
theorem dX11_feed_39 : decode cX11_feed 39 = .ok (.getfield 26, 3) := by decide +kernel
theorem dX11_feed_42 : decode cX11_feed 42 = .ok (.iload 4, 2) := by decide +kernel
theorem dX11_feed_44 : decode cX11_feed 44 = .ok (.invokevirtual 122, 3) := by decide +kernel
theorem dX11_feed_47 : decode cX11_feed 47 = .ok (.aload_n 0, 1) := by decide +kernel
theorem dX11_feed_48 : decode cX11_feed 48 = .ok (.getfield 26, 3) := by decide +kernel
theorem dX11_feed_51 : decode cX11_feed 51 = .ok (.iload 5, 2) := by decide +kernel
theorem dX11_feed_53 : decode cX11_feed 53 = .ok (.invokevirtual 122, 3) := by decide +kernel
theorem dX11_feed_56 : decode cX11_feed 56 = .ok (.aload_n 0, 1) := by decide +kernel
theorem dX11_feed_57 : decode cX11_feed 57 = .ok (.getfield 26, 3) := by decide +kernel
theorem dX11_feed_60 : decode cX11_feed 60 = .ok (.getfield 125, 3) := by decide +kernel
theorem dX11_feed_63 : decode cX11_feed 63 = .ok (.ireturn, 1) := by decide +kernel
abbrev nd_X11_feed : List Nat := [0, 29, 30]
abbrev ld_X11_feed : List (Nat × Nat) := [(0, 2), (29, 0)]
theorem sn_X11_feed_X7_hasRoom : ∀ c ∈ nd_X7_hasRoom, c ∈ nd_X11_feed := by decide
theorem sl_X11_feed_X7_hasRoom : ∀ q ∈ ld_X7_hasRoom, q ∈ ld_X11_feed := by decide
theorem sn_X11_feed_X7_put : ∀ c ∈ nd_X7_put, c ∈ nd_X11_feed := by decide
theorem sl_X11_feed_X7_put : ∀ q ∈ ld_X7_put, q ∈ ld_X11_feed := by decide
def f_X11_feed  (x1 : Int32) (x2 : Int32) (x3 : Int32) (x4 : Int32) (x5 : Int32) (h : zH) : zR := (zbd (f_X7_hasRoom (20 : Int32) h) fun r1 h2 => (if r1 = 0 then (some ((-1 : Int32), h2)) else (zbd (f_X7_put x1 h2) fun r3 h4 => (zbd (f_X7_put x2 h4) fun r5 h6 => (zbd (f_X7_put x3 h6) fun r7 h8 => (zbd (f_X7_put x4 h8) fun r9 h10 => (zbd (f_X7_put x5 h10) fun r11 h12 => (some ((h12 29 5), h12)))))))))
variable {p : Program} {l : Launch} {e : Env} {s : State} {m : MethodId} {args : Array Value} {below : List Frame} {meth : Method} {c : Code} {G : zG} {q : Int32 × zH}
set_option maxHeartbeats 4000000 in
set_option maxRecDepth 100000 in
theorem c_X11_feed (l : Launch) (G : zG) (h : zH) (x1 : Int32) (x2 : Int32) (x3 : Int32) (x4 : Int32) (x5 : Int32) (q : Int32 × zH) (hm : ∀ c ∈ nd_X11_feed, c ∈ znm G) (hk : ∀ q ∈ ld_X11_feed, zlk G q.1 q.2 = true) (hf : f_X11_feed x1 x2 x3 x4 x5 h = some q) : zCtI l yX11_feed cX11_feed 6 (some .int) (3) [.ref (zal G 0), .int x1, .int x2, .int x3, .int x4, .int x5] G h q.2 q.1 := by
  refine zMetI (by decide) (Nat.le_of_ble_eq_true rfl) ?_
  intro p e s m below meth c ls C hl hS
  have hl : lv_has ls 6 [(0, .ref (zal G 0)), (1, .int x1), (2, .int x2), (3, .int x3), (4, .int x4), (5, .int x5)] := hl
  have C : zC G p s m [.ref (zal G 0), .int x1, .int x2, .int x3, .int x4, .int x5].toArray meth c cX11_feed 6 RX11 (some .int) := C
  unfold f_X11_feed at hf
  refine lv_aload_n C.1 C.2.1 dX11_feed_0 rfl (lv_at hl 0 rfl) ?_
  refine zgetR C hS ff_X11_26_0 (hm 0 (by decide)) (hk (0, 2) (by decide)) dX11_feed_1 ?_
  refine lv_bipush (v := (20 : Int32)) C.1 C.2.1 dX11_feed_4 rfl ?_
  obtain ⟨r1, h2, er1, hf⟩ := zbd_some hf
  refine zcallVI (As := [.int (20 : Int32)]) (rest := []) C hS mv_X11_119 (c_X7_hasRoom l G h (20 : Int32) (r1, h2) (fun c h => hm c (sn_X11_feed_X7_hasRoom c h)) (fun q h => hk q (sl_X11_feed_X7_hasRoom q h)) er1) (hm 29 (by decide)) ⟨_, _, _, sh_29, rfl, rfl⟩ rfl rfl (Nat.le_of_ble_eq_true rfl) hl.1 ⟨Nat.le_of_ble_eq_true rfl, Nat.le_of_ble_eq_true rfl, Nat.le_of_ble_eq_true rfl, Nat.le_of_ble_eq_true rfl⟩ dX11_feed_6 (fun H locs hS => ?_)
  refine lv_if_ne (tgt := 14) C.1 C.2.1 dX11_feed_9 (by decide) (fun hc => ?_) (fun hc => ?_)
  · have hf := zif_f hc hf
    refine lv_aload_n C.1 C.2.1 dX11_feed_14 rfl (lv_at hl 0 rfl) ?_
    refine zgetR C hS ff_X11_26_0 (hm 0 (by decide)) (hk (0, 2) (by decide)) dX11_feed_15 ?_
    refine lv_iload_n C.1 C.2.1 dX11_feed_18 rfl (lv_at hl 1 rfl) ?_
    obtain ⟨r3, h4, er3, hf⟩ := zbd_some hf
    refine zcallVV (As := [.int x1]) (rest := []) C hS mv_X11_122 (c_X7_put l G h2 x1 (r3, h4) (fun c h => hm c (sn_X11_feed_X7_put c h)) (fun q h => hk q (sl_X11_feed_X7_put q h)) er3) (hm 29 (by decide)) ⟨_, _, _, sh_29, rfl, rfl⟩ rfl rfl (Nat.le_of_ble_eq_true rfl) hl.1 ⟨Nat.le_of_ble_eq_true rfl, Nat.le_of_ble_eq_true rfl, Nat.le_of_ble_eq_true rfl, Nat.le_of_ble_eq_true rfl⟩ dX11_feed_19 (fun H locs hS => ?_)
    refine lv_aload_n C.1 C.2.1 dX11_feed_22 rfl (lv_at hl 0 rfl) ?_
    refine zgetR C hS ff_X11_26_0 (hm 0 (by decide)) (hk (0, 2) (by decide)) dX11_feed_23 ?_
    refine lv_iload_n C.1 C.2.1 dX11_feed_26 rfl (lv_at hl 2 rfl) ?_
    obtain ⟨r5, h6, er5, hf⟩ := zbd_some hf
    refine zcallVV (As := [.int x2]) (rest := []) C hS mv_X11_122 (c_X7_put l G h4 x2 (r5, h6) (fun c h => hm c (sn_X11_feed_X7_put c h)) (fun q h => hk q (sl_X11_feed_X7_put q h)) er5) (hm 29 (by decide)) ⟨_, _, _, sh_29, rfl, rfl⟩ rfl rfl (Nat.le_of_ble_eq_true rfl) hl.1 ⟨Nat.le_of_ble_eq_true rfl, Nat.le_of_ble_eq_true rfl, Nat.le_of_ble_eq_true rfl, Nat.le_of_ble_eq_true rfl⟩ dX11_feed_27 (fun H locs hS => ?_)
    refine lv_aload_n C.1 C.2.1 dX11_feed_30 rfl (lv_at hl 0 rfl) ?_
    refine zgetR C hS ff_X11_26_0 (hm 0 (by decide)) (hk (0, 2) (by decide)) dX11_feed_31 ?_
    refine lv_iload_n C.1 C.2.1 dX11_feed_34 rfl (lv_at hl 3 rfl) ?_
    obtain ⟨r7, h8, er7, hf⟩ := zbd_some hf
    refine zcallVV (As := [.int x3]) (rest := []) C hS mv_X11_122 (c_X7_put l G h6 x3 (r7, h8) (fun c h => hm c (sn_X11_feed_X7_put c h)) (fun q h => hk q (sl_X11_feed_X7_put q h)) er7) (hm 29 (by decide)) ⟨_, _, _, sh_29, rfl, rfl⟩ rfl rfl (Nat.le_of_ble_eq_true rfl) hl.1 ⟨Nat.le_of_ble_eq_true rfl, Nat.le_of_ble_eq_true rfl, Nat.le_of_ble_eq_true rfl, Nat.le_of_ble_eq_true rfl⟩ dX11_feed_35 (fun H locs hS => ?_)
    refine lv_aload_n C.1 C.2.1 dX11_feed_38 rfl (lv_at hl 0 rfl) ?_
    refine zgetR C hS ff_X11_26_0 (hm 0 (by decide)) (hk (0, 2) (by decide)) dX11_feed_39 ?_
    refine lv_iload C.1 C.2.1 dX11_feed_42 (lv_at hl 4 rfl) ?_
    obtain ⟨r9, h10, er9, hf⟩ := zbd_some hf
    refine zcallVV (As := [.int x4]) (rest := []) C hS mv_X11_122 (c_X7_put l G h8 x4 (r9, h10) (fun c h => hm c (sn_X11_feed_X7_put c h)) (fun q h => hk q (sl_X11_feed_X7_put q h)) er9) (hm 29 (by decide)) ⟨_, _, _, sh_29, rfl, rfl⟩ rfl rfl (Nat.le_of_ble_eq_true rfl) hl.1 ⟨Nat.le_of_ble_eq_true rfl, Nat.le_of_ble_eq_true rfl, Nat.le_of_ble_eq_true rfl, Nat.le_of_ble_eq_true rfl⟩ dX11_feed_44 (fun H locs hS => ?_)
    refine lv_aload_n C.1 C.2.1 dX11_feed_47 rfl (lv_at hl 0 rfl) ?_
    refine zgetR C hS ff_X11_26_0 (hm 0 (by decide)) (hk (0, 2) (by decide)) dX11_feed_48 ?_
    refine lv_iload C.1 C.2.1 dX11_feed_51 (lv_at hl 5 rfl) ?_
    obtain ⟨r11, h12, er11, hf⟩ := zbd_some hf
    refine zcallVV (As := [.int x5]) (rest := []) C hS mv_X11_122 (c_X7_put l G h10 x5 (r11, h12) (fun c h => hm c (sn_X11_feed_X7_put c h)) (fun q h => hk q (sl_X11_feed_X7_put q h)) er11) (hm 29 (by decide)) ⟨_, _, _, sh_29, rfl, rfl⟩ rfl rfl (Nat.le_of_ble_eq_true rfl) hl.1 ⟨Nat.le_of_ble_eq_true rfl, Nat.le_of_ble_eq_true rfl, Nat.le_of_ble_eq_true rfl, Nat.le_of_ble_eq_true rfl⟩ dX11_feed_53 (fun H locs hS => ?_)
    refine lv_aload_n C.1 C.2.1 dX11_feed_56 rfl (lv_at hl 0 rfl) ?_
    refine zgetR C hS ff_X11_26_0 (hm 0 (by decide)) (hk (0, 2) (by decide)) dX11_feed_57 ?_
    refine zgetI C hS ff_X11_125_29 (hm 29 (by decide)) dX11_feed_60 ?_
    exact zretI C hS hf dX11_feed_63
  · have hf := zif_t hc hf
    refine lv_iconst (v := (-1 : Int32)) C.1 C.2.1 dX11_feed_12 rfl ?_
    exact zretI C hS hf dX11_feed_13
end
section
theorem dX11_end_0 : decode cX11_end 0 = .ok (.iload_n 1, 1) := by decide +kernel
theorem dX11_end_1 : decode cX11_end 1 = .ok (.ifCond .lt 14, 3) := by decide +kernel
theorem dX11_end_4 : decode cX11_end 4 = .ok (.iload_n 1, 1) := by decide +kernel
theorem dX11_end_5 : decode cX11_end 5 = .ok (.aload_n 0, 1) := by decide +kernel
theorem dX11_end_6 : decode cX11_end 6 = .ok (.getfield 26, 3) := by decide +kernel
theorem dX11_end_9 : decode cX11_end 9 = .ok (.getfield 125, 3) := by decide +kernel
theorem dX11_end_12 : decode cX11_end 12 = .ok (.if_icmp .le 5, 3) := by decide +kernel
theorem dX11_end_15 : decode cX11_end 15 = .ok (.iconst 0, 1) := by decide +kernel
theorem dX11_end_16 : decode cX11_end 16 = .ok (.ireturn, 1) := by decide +kernel
theorem dX11_end_17 : decode cX11_end 17 = .ok (.aload_n 0, 1) := by decide +kernel
theorem dX11_end_18 : decode cX11_end 18 = .ok (.getfield 26, 3) := by decide +kernel
theorem dX11_end_21 : decode cX11_end 21 = .ok (.iload_n 1, 1) := by decide +kernel
theorem dX11_end_22 : decode cX11_end 22 = .ok (.putfield 125, 3) := by decide +kernel
theorem dX11_end_25 : decode cX11_end 25 = .ok (.iconst 1, 1) := by decide +kernel
theorem dX11_end_26 : decode cX11_end 26 = .ok (.ireturn, 1) := by decide +kernel
abbrev nd_X11_end : List Nat := [0, 29]
abbrev ld_X11_end : List (Nat × Nat) := [(0, 2)]
def f_X11_end_15  (h : zH) : zR := (some ((0 : Int32), h))
def f_X11_end  (x1 : Int32) (h : zH) : zR := (if x1 < 0 then (f_X11_end_15   h) else (if x1 ≤ (h 29 5) then (zst (zup h 29 5 x1) fun h1 => (some ((1 : Int32), h1))) else (f_X11_end_15   h)))
variable {p : Program} {l : Launch} {e : Env} {s : State} {m : MethodId} {args : Array Value} {below : List Frame} {meth : Method} {c : Code} {G : zG} {q : Int32 × zH}
set_option maxHeartbeats 4000000 in
set_option maxRecDepth 100000 in
theorem w_X11_end_15  (C : zC G p s m args meth c cX11_end 2 RX11 (some .boolean)) (hm : ∀ c ∈ nd_X11_end, c ∈ znm G) (hk : ∀ q ∈ ld_X11_end, zlk G q.1 q.2 = true)  : ∀ (ls : Array Slot) (H : Heap) (locs : List Loc) (h : zH), lv_has ls 2 [] → zS G h s.heap H locs → f_X11_end_15  h = some q → W p l e (zrm (2)) s m args below meth c H locs 0 0 (MQ below (zQI G q.2 q.1) args s 0 0 (zA G)) (F0 m 15 ls []) := by
  intro ls H locs h hl hS hf
  unfold f_X11_end_15 at hf
  refine lv_iconst (v := (0 : Int32)) C.1 C.2.1 dX11_end_15 rfl ?_
  exact zretZ C hS rfl hf dX11_end_16
set_option maxHeartbeats 4000000 in
set_option maxRecDepth 100000 in
theorem c_X11_end (l : Launch) (G : zG) (h : zH) (x1 : Int32) (q : Int32 × zH) (hm : ∀ c ∈ nd_X11_end, c ∈ znm G) (hk : ∀ q ∈ ld_X11_end, zlk G q.1 q.2 = true) (hf : f_X11_end x1 h = some q) : zCtI l yX11_end cX11_end 2 (some .boolean) (2) [.ref (zal G 0), .int x1] G h q.2 q.1 := by
  refine zMetI (by decide) (Nat.le_of_ble_eq_true rfl) ?_
  intro p e s m below meth c ls C hl hS
  have hl : lv_has ls 2 [(0, .ref (zal G 0)), (1, .int x1)] := hl
  have C : zC G p s m [.ref (zal G 0), .int x1].toArray meth c cX11_end 2 RX11 (some .boolean) := C
  unfold f_X11_end at hf
  refine lv_iload_n C.1 C.2.1 dX11_end_0 rfl (lv_at hl 1 rfl) ?_
  refine lv_if_lt (tgt := 15) C.1 C.2.1 dX11_end_1 (by decide) (fun hc => ?_) (fun hc => ?_)
  · have hf := zif_t hc hf
    exact w_X11_end_15 C hm hk  _ _ _ _ (lv_sub hl [] rfl) hS hf
  · have hf := zif_f hc hf
    refine lv_iload_n C.1 C.2.1 dX11_end_4 rfl (lv_at hl 1 rfl) ?_
    refine lv_aload_n C.1 C.2.1 dX11_end_5 rfl (lv_at hl 0 rfl) ?_
    refine zgetR C hS ff_X11_26_0 (hm 0 (by decide)) (hk (0, 2) (by decide)) dX11_end_6 ?_
    refine zgetI C hS ff_X11_125_29 (hm 29 (by decide)) dX11_end_9 ?_
    refine lv_icmp_le (tgt := 17) C.1 C.2.1 dX11_end_12 (by decide) (fun hc => ?_) (fun hc => ?_)
    · have hf := zif_t hc hf
      refine lv_aload_n C.1 C.2.1 dX11_end_17 rfl (lv_at hl 0 rfl) ?_
      refine zgetR C hS ff_X11_26_0 (hm 0 (by decide)) (hk (0, 2) (by decide)) dX11_end_18 ?_
      refine lv_iload_n C.1 C.2.1 dX11_end_21 rfl (lv_at hl 1 rfl) ?_
      refine zputI C hS ff_X11_125_29 fw_29_5 (hm 29 (by decide)) dX11_end_22 (fun H locs hS => ?_)
      obtain ⟨h1, eh1, hf⟩ := zst_some hf
      have hS : zS G h1 s.heap H locs := by rw [eh1]; exact hS
      refine lv_iconst (v := (1 : Int32)) C.1 C.2.1 dX11_end_25 rfl ?_
      exact zretZ C hS rfl hf dX11_end_26
    · have hf := zif_f hc hf
      exact w_X11_end_15 C hm hk  _ _ _ _ (lv_sub hl [] rfl) hS hf
end
section
theorem dX11_fault_0 : decode cX11_fault 0 = .ok (.iload_n 1, 1) := by decide +kernel
theorem dX11_fault_1 : decode cX11_fault 1 = .ok (.ifCond .ne 11, 3) := by decide +kernel
theorem dX11_fault_4 : decode cX11_fault 4 = .ok (.aload_n 0, 1) := by decide +kernel
theorem dX11_fault_5 : decode cX11_fault 5 = .ok (.getfield 26, 3) := by decide +kernel
theorem dX11_fault_8 : decode cX11_fault 8 = .ok (.getfield 148, 3) := by decide +kernel
theorem dX11_fault_11 : decode cX11_fault 11 = .ok (.ireturn, 1) := by decide +kernel
theorem dX11_fault_12 : decode cX11_fault 12 = .ok (.iload_n 1, 1) := by decide +kernel
theorem dX11_fault_13 : decode cX11_fault 13 = .ok (.iconst 1, 1) := by decide +kernel
theorem dX11_fault_14 : decode cX11_fault 14 = .ok (.if_icmp .ne 13, 3) := by decide +kernel
theorem dX11_fault_17 : decode cX11_fault 17 = .ok (.aload_n 0, 1) := by decide +kernel
theorem dX11_fault_18 : decode cX11_fault 18 = .ok (.getfield 26, 3) := by decide +kernel
theorem dX11_fault_21 : decode cX11_fault 21 = .ok (.getfield 151, 3) := by decide +kernel
theorem dX11_fault_24 : decode cX11_fault 24 = .ok (.goto 4, 3) := by decide +kernel
theorem dX11_fault_27 : decode cX11_fault 27 = .ok (.iconst (-1), 1) := by decide +kernel
theorem dX11_fault_28 : decode cX11_fault 28 = .ok (.ireturn, 1) := by decide +kernel
abbrev nd_X11_fault : List Nat := [0, 29]
abbrev ld_X11_fault : List (Nat × Nat) := [(0, 2)]
def f_X11_fault  (x1 : Int32) (h : zH) : zR := (if x1 = 0 then (some ((h 29 6), h)) else (if x1 = (1 : Int32) then (some ((h 29 7), h)) else (some ((-1 : Int32), h))))
variable {p : Program} {l : Launch} {e : Env} {s : State} {m : MethodId} {args : Array Value} {below : List Frame} {meth : Method} {c : Code} {G : zG} {q : Int32 × zH}
set_option maxHeartbeats 4000000 in
set_option maxRecDepth 100000 in
theorem c_X11_fault (l : Launch) (G : zG) (h : zH) (x1 : Int32) (q : Int32 × zH) (hm : ∀ c ∈ nd_X11_fault, c ∈ znm G) (hk : ∀ q ∈ ld_X11_fault, zlk G q.1 q.2 = true) (hf : f_X11_fault x1 h = some q) : zCtI l yX11_fault cX11_fault 2 (some .int) (2) [.ref (zal G 0), .int x1] G h q.2 q.1 := by
  refine zMetI (by decide) (Nat.le_of_ble_eq_true rfl) ?_
  intro p e s m below meth c ls C hl hS
  have hl : lv_has ls 2 [(0, .ref (zal G 0)), (1, .int x1)] := hl
  have C : zC G p s m [.ref (zal G 0), .int x1].toArray meth c cX11_fault 2 RX11 (some .int) := C
  unfold f_X11_fault at hf
  refine lv_iload_n C.1 C.2.1 dX11_fault_0 rfl (lv_at hl 1 rfl) ?_
  refine lv_if_ne (tgt := 12) C.1 C.2.1 dX11_fault_1 (by decide) (fun hc => ?_) (fun hc => ?_)
  · have hf := zif_f hc hf
    refine lv_iload_n C.1 C.2.1 dX11_fault_12 rfl (lv_at hl 1 rfl) ?_
    refine lv_iconst (v := (1 : Int32)) C.1 C.2.1 dX11_fault_13 rfl ?_
    refine lv_icmp_ne (tgt := 27) C.1 C.2.1 dX11_fault_14 (by decide) (fun hc => ?_) (fun hc => ?_)
    · have hf := zif_f hc hf
      refine lv_iconst (v := (-1 : Int32)) C.1 C.2.1 dX11_fault_27 rfl ?_
      exact zretI C hS hf dX11_fault_28
    · have hf := zif_t hc hf
      refine lv_aload_n C.1 C.2.1 dX11_fault_17 rfl (lv_at hl 0 rfl) ?_
      refine zgetR C hS ff_X11_26_0 (hm 0 (by decide)) (hk (0, 2) (by decide)) dX11_fault_18 ?_
      refine zgetI C hS ff_X11_151_29 (hm 29 (by decide)) dX11_fault_21 ?_
      refine lv_goto (tgt := 28) C.1 C.2.1 dX11_fault_24 (by decide) ?_
      exact zretI C hS hf dX11_fault_28
  · have hf := zif_t hc hf
    refine lv_aload_n C.1 C.2.1 dX11_fault_4 rfl (lv_at hl 0 rfl) ?_
    refine zgetR C hS ff_X11_26_0 (hm 0 (by decide)) (hk (0, 2) (by decide)) dX11_fault_5 ?_
    refine zgetI C hS ff_X11_148_29 (hm 29 (by decide)) dX11_fault_8 ?_
    exact zretI C hS hf dX11_fault_11
end
section
theorem dX11_of_0 : decode cX11_of 0 = .ok (.aload_n 0, 1) := by decide +kernel
theorem dX11_of_1 : decode cX11_of 1 = .ok (.getfield 12, 3) := by decide +kernel
theorem dX11_of_4 : decode cX11_of 4 = .ok (.getfield 54, 3) := by decide +kernel
theorem dX11_of_7 : decode cX11_of 7 = .ok (.iload_n 1, 1) := by decide +kernel
theorem dX11_of_8 : decode cX11_of 8 = .ok (.invokevirtual 67, 3) := by decide +kernel
theorem dX11_of_11 : decode cX11_of 11 = .ok (.ifCond .ne 5, 3) := by decide +kernel
theorem dX11_of_14 : decode cX11_of 14 = .ok (.iconst (-1), 1) := by decide +kernel
theorem dX11_of_15 : decode cX11_of 15 = .ok (.ireturn, 1) := by decide +kernel
theorem dX11_of_16 : decode cX11_of 16 = .ok (.iload_n 2, 1) := by decide +kernel
theorem dX11_of_17 : decode cX11_of 17 = .ok (.tableswitch 66 0 2 #[27, 40, 53], 27) := by decide +kernel
theorem dX11_of_44 : decode cX11_of 44 = .ok (.aload_n 0, 1) := by decide +kernel
theorem dX11_of_45 : decode cX11_of 45 = .ok (.getfield 12, 3) := by decide +kernel
theorem dX11_of_48 : decode cX11_of 48 = .ok (.getfield 54, 3) := by decide +kernel
theorem dX11_of_51 : decode cX11_of 51 = .ok (.getfield 167, 3) := by decide +kernel
theorem dX11_of_54 : decode cX11_of 54 = .ok (.iload_n 1, 1) := by decide +kernel
theorem dX11_of_55 : decode cX11_of 55 = .ok (.iaload, 1) := by decide +kernel
theorem dX11_of_56 : decode cX11_of 56 = .ok (.ireturn, 1) := by decide +kernel
theorem dX11_of_57 : decode cX11_of 57 = .ok (.aload_n 0, 1) := by decide +kernel
theorem dX11_of_58 : decode cX11_of 58 = .ok (.getfield 12, 3) := by decide +kernel
theorem dX11_of_61 : decode cX11_of 61 = .ok (.getfield 54, 3) := by decide +kernel
theorem dX11_of_64 : decode cX11_of 64 = .ok (.getfield 170, 3) := by decide +kernel
theorem dX11_of_67 : decode cX11_of 67 = .ok (.iload_n 1, 1) := by decide +kernel
theorem dX11_of_68 : decode cX11_of 68 = .ok (.iaload, 1) := by decide +kernel
theorem dX11_of_69 : decode cX11_of 69 = .ok (.ireturn, 1) := by decide +kernel
theorem dX11_of_70 : decode cX11_of 70 = .ok (.aload_n 0, 1) := by decide +kernel
theorem dX11_of_71 : decode cX11_of 71 = .ok (.getfield 12, 3) := by decide +kernel
theorem dX11_of_74 : decode cX11_of 74 = .ok (.getfield 54, 3) := by decide +kernel
theorem dX11_of_77 : decode cX11_of 77 = .ok (.getfield 173, 3) := by decide +kernel
theorem dX11_of_80 : decode cX11_of 80 = .ok (.iload_n 1, 1) := by decide +kernel
theorem dX11_of_81 : decode cX11_of 81 = .ok (.iaload, 1) := by decide +kernel
theorem dX11_of_82 : decode cX11_of 82 = .ok (.ireturn, 1) := by decide +kernel
theorem dX11_of_83 : decode cX11_of 83 = .ok (.iload_n 2, 1) := by decide +kernel
theorem dX11_of_84 : decode cX11_of 84 = .ok (.bipush 10, 2) := by decide +kernel
theorem dX11_of_86 : decode cX11_of 86 = .ok (.if_icmp .lt 27, 3) := by decide +kernel
theorem dX11_of_89 : decode cX11_of 89 = .ok (.iload_n 2, 1) := by decide +kernel
theorem dX11_of_90 : decode cX11_of 90 = .ok (.bipush 16, 2) := by decide +kernel
theorem dX11_of_92 : decode cX11_of 92 = .ok (.if_icmp .ge 21, 3) := by decide +kernel
theorem dX11_of_95 : decode cX11_of 95 = .ok (.aload_n 0, 1) := by decide +kernel
theorem dX11_of_96 : decode cX11_of 96 = .ok (.getfield 12, 3) := by decide +kernel
theorem dX11_of_99 : decode cX11_of 99 = .ok (.getfield 54, 3) := by decide +kernel
theorem dX11_of_102 : decode cX11_of 102 = .ok (.iload_n 1, 1) := by decide +kernel
theorem dX11_of_103 : decode cX11_of 103 = .ok (.iload_n 2, 1) := by decide +kernel
theorem dX11_of_104 : decode cX11_of 104 = .ok (.bipush 10, 2) := by decide +kernel
theorem dX11_of_106 : decode cX11_of 106 = .ok (.isub, 1) := by decide +kernel
theorem dX11_of_107 : decode cX11_of 107 = .ok (.invokevirtual 71, 3) := by decide +kernel
theorem dX11_of_110 : decode cX11_of 110 = .ok (.goto 4, 3) := by decide +kernel
theorem dX11_of_113 : decode cX11_of 113 = .ok (.iconst (-1), 1) := by decide +kernel
theorem dX11_of_114 : decode cX11_of 114 = .ok (.ireturn, 1) := by decide +kernel
abbrev nd_X11_of : List Nat := [0, 1, 2, 3, 4, 5, 6]
abbrev ld_X11_of : List (Nat × Nat) := [(0, 0), (1, 0), (2, 0), (2, 1), (2, 2), (2, 3)]
theorem sn_X11_of_X3_has : ∀ c ∈ nd_X3_has, c ∈ nd_X11_of := by decide
theorem sl_X11_of_X3_has : ∀ q ∈ ld_X3_has, q ∈ ld_X11_of := by decide
theorem sn_X11_of_X3_quartersOf : ∀ c ∈ nd_X3_quartersOf, c ∈ nd_X11_of := by decide
theorem sl_X11_of_X3_quartersOf : ∀ q ∈ ld_X3_quartersOf, q ∈ ld_X11_of := by decide
def f_X11_of_113  (h : zH) : zR := (some ((-1 : Int32), h))
def f_X11_of  (x1 : Int32) (x2 : Int32) (h : zH) : zR := (zbd (f_X3_has x1 h) fun r1 h2 => (if r1 = 0 then (some ((-1 : Int32), h2)) else (if x2 = (0 : Int32) then (zck x1 16 (some ((h2 3 (Int32.toNatClampNeg x1)), h2))) else (if x2 = (1 : Int32) then (zck x1 16 (some ((h2 4 (Int32.toNatClampNeg x1)), h2))) else (if x2 = (2 : Int32) then (zck x1 16 (some ((h2 5 (Int32.toNatClampNeg x1)), h2))) else (if x2 < (10 : Int32) then (f_X11_of_113   h2) else (if (16 : Int32) ≤ x2 then (f_X11_of_113   h2) else (zbd (f_X3_quartersOf x1 (x2 - (10 : Int32)) h2) fun r3 h4 => (some (r3, h4))))))))))
variable {p : Program} {l : Launch} {e : Env} {s : State} {m : MethodId} {args : Array Value} {below : List Frame} {meth : Method} {c : Code} {G : zG} {q : Int32 × zH}
set_option maxHeartbeats 4000000 in
set_option maxRecDepth 100000 in
theorem w_X11_of_113  (C : zC G p s m args meth c cX11_of 3 RX11 (some .int)) (hm : ∀ c ∈ nd_X11_of, c ∈ znm G) (hk : ∀ q ∈ ld_X11_of, zlk G q.1 q.2 = true)  : ∀ (ls : Array Slot) (H : Heap) (locs : List Loc) (h : zH), lv_has ls 3 [] → zS G h s.heap H locs → f_X11_of_113  h = some q → W p l e (zrm (4)) s m args below meth c H locs 0 0 (MQ below (zQI G q.2 q.1) args s 0 0 (zA G)) (F0 m 113 ls []) := by
  intro ls H locs h hl hS hf
  unfold f_X11_of_113 at hf
  refine lv_iconst (v := (-1 : Int32)) C.1 C.2.1 dX11_of_113 rfl ?_
  exact zretI C hS hf dX11_of_114
set_option maxHeartbeats 4000000 in
set_option maxRecDepth 100000 in
theorem c_X11_of (l : Launch) (G : zG) (h : zH) (x1 : Int32) (x2 : Int32) (q : Int32 × zH) (hm : ∀ c ∈ nd_X11_of, c ∈ znm G) (hk : ∀ q ∈ ld_X11_of, zlk G q.1 q.2 = true) (hf : f_X11_of x1 x2 h = some q) : zCtI l yX11_of cX11_of 3 (some .int) (4) [.ref (zal G 0), .int x1, .int x2] G h q.2 q.1 := by
  refine zMetI (by decide) (Nat.le_of_ble_eq_true rfl) ?_
  intro p e s m below meth c ls C hl hS
  have hl : lv_has ls 3 [(0, .ref (zal G 0)), (1, .int x1), (2, .int x2)] := hl
  have C : zC G p s m [.ref (zal G 0), .int x1, .int x2].toArray meth c cX11_of 3 RX11 (some .int) := C
  unfold f_X11_of at hf
  refine lv_aload_n C.1 C.2.1 dX11_of_0 rfl (lv_at hl 0 rfl) ?_
  refine zgetR C hS ff_X11_12_0 (hm 0 (by decide)) (hk (0, 0) (by decide)) dX11_of_1 ?_
  refine zgetR C hS ff_X11_54_1 (hm 1 (by decide)) (hk (1, 0) (by decide)) dX11_of_4 ?_
  refine lv_iload_n C.1 C.2.1 dX11_of_7 rfl (lv_at hl 1 rfl) ?_
  obtain ⟨r1, h2, er1, hf⟩ := zbd_some hf
  refine zcallVI (As := [.int x1]) (rest := []) C hS mv_X11_67 (c_X3_has l G h x1 (r1, h2) (fun c h => hm c (sn_X11_of_X3_has c h)) (fun q h => hk q (sl_X11_of_X3_has q h)) er1) (hm 2 (by decide)) ⟨_, _, _, sh_2, rfl, rfl⟩ rfl rfl (Nat.le_of_ble_eq_true rfl) hl.1 ⟨Nat.le_of_ble_eq_true rfl, Nat.le_of_ble_eq_true rfl, Nat.le_of_ble_eq_true rfl, Nat.le_of_ble_eq_true rfl⟩ dX11_of_8 (fun H locs hS => ?_)
  refine lv_if_ne (tgt := 16) C.1 C.2.1 dX11_of_11 (by decide) (fun hc => ?_) (fun hc => ?_)
  · have hf := zif_f hc hf
    refine lv_iload_n C.1 C.2.1 dX11_of_16 rfl (lv_at hl 2 rfl) ?_
    by_cases hc0 : x2 = (0 : Int32)
    · have hf := zif_t hc0 hf
      refine lv_tableIn (off := 27) (tgt := 44) C.1 C.2.1 dX11_of_17 (by rw [hc0]; decide) (by rw [hc0]; decide) (by rw [hc0]; rfl) (by decide) ?_
      refine lv_aload_n C.1 C.2.1 dX11_of_44 rfl (lv_at hl 0 rfl) ?_
      refine zgetR C hS ff_X11_12_0 (hm 0 (by decide)) (hk (0, 0) (by decide)) dX11_of_45 ?_
      refine zgetR C hS ff_X11_54_1 (hm 1 (by decide)) (hk (1, 0) (by decide)) dX11_of_48 ?_
      refine zgetR C hS ff_X11_167_2 (hm 2 (by decide)) (hk (2, 0) (by decide)) dX11_of_51 ?_
      refine lv_iload_n C.1 C.2.1 dX11_of_54 rfl (lv_at hl 1 rfl) ?_
      obtain ⟨hi, hf⟩ := zck_some hf
      refine zald C hS sh_3 (hm 3 (by decide)) hi dX11_of_55 ?_
      exact zretI C hS hf dX11_of_56
    have hf := zif_f hc0 hf
    by_cases hc1 : x2 = (1 : Int32)
    · have hf := zif_t hc1 hf
      refine lv_tableIn (off := 40) (tgt := 57) C.1 C.2.1 dX11_of_17 (by rw [hc1]; decide) (by rw [hc1]; decide) (by rw [hc1]; rfl) (by decide) ?_
      refine lv_aload_n C.1 C.2.1 dX11_of_57 rfl (lv_at hl 0 rfl) ?_
      refine zgetR C hS ff_X11_12_0 (hm 0 (by decide)) (hk (0, 0) (by decide)) dX11_of_58 ?_
      refine zgetR C hS ff_X11_54_1 (hm 1 (by decide)) (hk (1, 0) (by decide)) dX11_of_61 ?_
      refine zgetR C hS ff_X11_170_2 (hm 2 (by decide)) (hk (2, 1) (by decide)) dX11_of_64 ?_
      refine lv_iload_n C.1 C.2.1 dX11_of_67 rfl (lv_at hl 1 rfl) ?_
      obtain ⟨hi, hf⟩ := zck_some hf
      refine zald C hS sh_4 (hm 4 (by decide)) hi dX11_of_68 ?_
      exact zretI C hS hf dX11_of_69
    have hf := zif_f hc1 hf
    by_cases hc2 : x2 = (2 : Int32)
    · have hf := zif_t hc2 hf
      refine lv_tableIn (off := 53) (tgt := 70) C.1 C.2.1 dX11_of_17 (by rw [hc2]; decide) (by rw [hc2]; decide) (by rw [hc2]; rfl) (by decide) ?_
      refine lv_aload_n C.1 C.2.1 dX11_of_70 rfl (lv_at hl 0 rfl) ?_
      refine zgetR C hS ff_X11_12_0 (hm 0 (by decide)) (hk (0, 0) (by decide)) dX11_of_71 ?_
      refine zgetR C hS ff_X11_54_1 (hm 1 (by decide)) (hk (1, 0) (by decide)) dX11_of_74 ?_
      refine zgetR C hS ff_X11_173_2 (hm 2 (by decide)) (hk (2, 2) (by decide)) dX11_of_77 ?_
      refine lv_iload_n C.1 C.2.1 dX11_of_80 rfl (lv_at hl 1 rfl) ?_
      obtain ⟨hi, hf⟩ := zck_some hf
      refine zald C hS sh_5 (hm 5 (by decide)) hi dX11_of_81 ?_
      exact zretI C hS hf dX11_of_82
    have hf := zif_f hc2 hf
    refine lv_tableOut (tgt := 83) C.1 C.2.1 dX11_of_17 (zso 0 3 (fun k hk => by match k, hk with | 0, _ => exact hc0 | 1, _ => exact hc1 | 2, _ => exact hc2)) (by decide) ?_
    refine lv_iload_n C.1 C.2.1 dX11_of_83 rfl (lv_at hl 2 rfl) ?_
    refine lv_bipush (v := (10 : Int32)) C.1 C.2.1 dX11_of_84 rfl ?_
    refine lv_icmp_lt (tgt := 113) C.1 C.2.1 dX11_of_86 (by decide) (fun hc => ?_) (fun hc => ?_)
    · have hf := zif_t hc hf
      exact w_X11_of_113 C hm hk  _ _ _ _ (lv_sub hl [] rfl) hS hf
    · have hf := zif_f hc hf
      refine lv_iload_n C.1 C.2.1 dX11_of_89 rfl (lv_at hl 2 rfl) ?_
      refine lv_bipush (v := (16 : Int32)) C.1 C.2.1 dX11_of_90 rfl ?_
      refine lv_icmp_ge (tgt := 113) C.1 C.2.1 dX11_of_92 (by decide) (fun hc => ?_) (fun hc => ?_)
      · have hf := zif_t hc hf
        exact w_X11_of_113 C hm hk  _ _ _ _ (lv_sub hl [] rfl) hS hf
      · have hf := zif_f hc hf
        refine lv_aload_n C.1 C.2.1 dX11_of_95 rfl (lv_at hl 0 rfl) ?_
        refine zgetR C hS ff_X11_12_0 (hm 0 (by decide)) (hk (0, 0) (by decide)) dX11_of_96 ?_
        refine zgetR C hS ff_X11_54_1 (hm 1 (by decide)) (hk (1, 0) (by decide)) dX11_of_99 ?_
        refine lv_iload_n C.1 C.2.1 dX11_of_102 rfl (lv_at hl 1 rfl) ?_
        refine lv_iload_n C.1 C.2.1 dX11_of_103 rfl (lv_at hl 2 rfl) ?_
        refine lv_bipush (v := (10 : Int32)) C.1 C.2.1 dX11_of_104 rfl ?_
        refine lv_isub C.1 C.2.1 dX11_of_106 ?_
        obtain ⟨r3, h4, er3, hf⟩ := zbd_some hf
        refine zcallVI (As := [.int x1, .int (x2 - (10 : Int32))]) (rest := []) C hS mv_X11_71 (c_X3_quartersOf l G h2 x1 (x2 - (10 : Int32)) (r3, h4) (fun c h => hm c (sn_X11_of_X3_quartersOf c h)) (fun q h => hk q (sl_X11_of_X3_quartersOf q h)) er3) (hm 2 (by decide)) ⟨_, _, _, sh_2, rfl, rfl⟩ rfl rfl (Nat.le_of_ble_eq_true rfl) hl.1 ⟨Nat.le_of_ble_eq_true rfl, Nat.le_of_ble_eq_true rfl, Nat.le_of_ble_eq_true rfl, Nat.le_of_ble_eq_true rfl⟩ dX11_of_107 (fun H locs hS => ?_)
        refine lv_goto (tgt := 114) C.1 C.2.1 dX11_of_110 (by decide) ?_
        exact zretI C hS hf dX11_of_114
  · have hf := zif_t hc hf
    refine lv_iconst (v := (-1 : Int32)) C.1 C.2.1 dX11_of_14 rfl ?_
    exact zretI C hS hf dX11_of_15
end
section
theorem dX11_who_0 : decode cX11_who 0 = .ok (.iload_n 1, 1) := by decide +kernel
theorem dX11_who_1 : decode cX11_who 1 = .ok (.aload_n 0, 1) := by decide +kernel
theorem dX11_who_2 : decode cX11_who 2 = .ok (.getfield 12, 3) := by decide +kernel
theorem dX11_who_5 : decode cX11_who 5 = .ok (.getfield 90, 3) := by decide +kernel
theorem dX11_who_8 : decode cX11_who 8 = .ok (.getfield 94, 3) := by decide +kernel
theorem dX11_who_11 : decode cX11_who 11 = .ok (.invokestatic 50, 3) := by decide +kernel
theorem dX11_who_14 : decode cX11_who 14 = .ok (.istore_n 3, 1) := by decide +kernel
theorem dX11_who_15 : decode cX11_who 15 = .ok (.iload_n 3, 1) := by decide +kernel
theorem dX11_who_16 : decode cX11_who 16 = .ok (.ifCond .eq 12, 3) := by decide +kernel
theorem dX11_who_19 : decode cX11_who 19 = .ok (.iload_n 2, 1) := by decide +kernel
theorem dX11_who_20 : decode cX11_who 20 = .ok (.ifCond .lt 8, 3) := by decide +kernel
theorem dX11_who_23 : decode cX11_who 23 = .ok (.iload_n 2, 1) := by decide +kernel
theorem dX11_who_24 : decode cX11_who 24 = .ok (.iconst 1, 1) := by decide +kernel
theorem dX11_who_25 : decode cX11_who 25 = .ok (.if_icmp .le 6, 3) := by decide +kernel
theorem dX11_who_28 : decode cX11_who 28 = .ok (.bipush (-2), 2) := by decide +kernel
theorem dX11_who_30 : decode cX11_who 30 = .ok (.ireturn, 1) := by decide +kernel
theorem dX11_who_31 : decode cX11_who 31 = .ok (.iload_n 2, 1) := by decide +kernel
theorem dX11_who_32 : decode cX11_who 32 = .ok (.ifCond .ne 18, 3) := by decide +kernel
theorem dX11_who_35 : decode cX11_who 35 = .ok (.aload_n 0, 1) := by decide +kernel
theorem dX11_who_36 : decode cX11_who 36 = .ok (.getfield 12, 3) := by decide +kernel
theorem dX11_who_39 : decode cX11_who 39 = .ok (.getfield 90, 3) := by decide +kernel
theorem dX11_who_42 : decode cX11_who 42 = .ok (.getfield 176, 3) := by decide +kernel
theorem dX11_who_45 : decode cX11_who 45 = .ok (.iload_n 1, 1) := by decide +kernel
theorem dX11_who_46 : decode cX11_who 46 = .ok (.iaload, 1) := by decide +kernel
theorem dX11_who_47 : decode cX11_who 47 = .ok (.goto 15, 3) := by decide +kernel
theorem dX11_who_50 : decode cX11_who 50 = .ok (.aload_n 0, 1) := by decide +kernel
theorem dX11_who_51 : decode cX11_who 51 = .ok (.getfield 12, 3) := by decide +kernel
theorem dX11_who_54 : decode cX11_who 54 = .ok (.getfield 90, 3) := by decide +kernel
theorem dX11_who_57 : decode cX11_who 57 = .ok (.getfield 179, 3) := by decide +kernel
theorem dX11_who_60 : decode cX11_who 60 = .ok (.iload_n 1, 1) := by decide +kernel
theorem dX11_who_61 : decode cX11_who 61 = .ok (.iaload, 1) := by decide +kernel
theorem dX11_who_62 : decode cX11_who 62 = .ok (.ireturn, 1) := by decide +kernel
abbrev nd_X11_who : List Nat := [0, 1, 7, 8, 9]
abbrev ld_X11_who : List (Nat × Nat) := [(0, 0), (1, 1), (7, 0), (7, 1)]
theorem sn_X11_who_X11_isBelow : ∀ c ∈ nd_X11_isBelow, c ∈ nd_X11_who := by decide
theorem sl_X11_who_X11_isBelow : ∀ q ∈ ld_X11_isBelow, q ∈ ld_X11_who := by decide
def f_X11_who_28  (h : zH) : zR := (some ((-2 : Int32), h))
def f_X11_who  (x1 : Int32) (x2 : Int32) (h : zH) : zR := (zbd (f_X11_isBelow x1 (h 7 4) h) fun r1 h2 => (if r1 = 0 then (f_X11_who_28   h2) else (if x2 < 0 then (f_X11_who_28   h2) else (if x2 ≤ (1 : Int32) then (if x2 = 0 then (zck x1 8 (some ((h2 8 (Int32.toNatClampNeg x1)), h2))) else (zck x1 8 (some ((h2 9 (Int32.toNatClampNeg x1)), h2)))) else (f_X11_who_28   h2)))))
variable {p : Program} {l : Launch} {e : Env} {s : State} {m : MethodId} {args : Array Value} {below : List Frame} {meth : Method} {c : Code} {G : zG} {q : Int32 × zH}
set_option maxHeartbeats 4000000 in
set_option maxRecDepth 100000 in
theorem w_X11_who_28  (C : zC G p s m args meth c cX11_who 4 RX11 (some .int)) (hm : ∀ c ∈ nd_X11_who, c ∈ znm G) (hk : ∀ q ∈ ld_X11_who, zlk G q.1 q.2 = true)  : ∀ (ls : Array Slot) (H : Heap) (locs : List Loc) (h : zH), lv_has ls 4 [] → zS G h s.heap H locs → f_X11_who_28  h = some q → W p l e (zrm (3)) s m args below meth c H locs 0 0 (MQ below (zQI G q.2 q.1) args s 0 0 (zA G)) (F0 m 28 ls []) := by
  intro ls H locs h hl hS hf
  unfold f_X11_who_28 at hf
  refine lv_bipush (v := (-2 : Int32)) C.1 C.2.1 dX11_who_28 rfl ?_
  exact zretI C hS hf dX11_who_30
set_option maxHeartbeats 4000000 in
set_option maxRecDepth 100000 in
theorem c_X11_who (l : Launch) (G : zG) (h : zH) (x1 : Int32) (x2 : Int32) (q : Int32 × zH) (hm : ∀ c ∈ nd_X11_who, c ∈ znm G) (hk : ∀ q ∈ ld_X11_who, zlk G q.1 q.2 = true) (hf : f_X11_who x1 x2 h = some q) : zCtI l yX11_who cX11_who 4 (some .int) (3) [.ref (zal G 0), .int x1, .int x2] G h q.2 q.1 := by
  refine zMetI (by decide) (Nat.le_of_ble_eq_true rfl) ?_
  intro p e s m below meth c ls C hl hS
  have hl : lv_has ls 4 [(0, .ref (zal G 0)), (1, .int x1), (2, .int x2)] := hl
  have C : zC G p s m [.ref (zal G 0), .int x1, .int x2].toArray meth c cX11_who 4 RX11 (some .int) := C
  unfold f_X11_who at hf
  refine lv_iload_n C.1 C.2.1 dX11_who_0 rfl (lv_at hl 1 rfl) ?_
  refine lv_aload_n C.1 C.2.1 dX11_who_1 rfl (lv_at hl 0 rfl) ?_
  refine zgetR C hS ff_X11_12_0 (hm 0 (by decide)) (hk (0, 0) (by decide)) dX11_who_2 ?_
  refine zgetR C hS ff_X11_90_1 (hm 1 (by decide)) (hk (1, 1) (by decide)) dX11_who_5 ?_
  refine zgetI C hS ff_X11_94_7 (hm 7 (by decide)) dX11_who_8 ?_
  obtain ⟨r1, h2, er1, hf⟩ := zbd_some hf
  refine zcallSI (As := [.int x1, .int (h 7 4)]) (rest := []) C hS ms_X11_50 (c_X11_isBelow l G h x1 (h 7 4) (r1, h2) (fun c h => hm c (sn_X11_who_X11_isBelow c h)) (fun q h => hk q (sl_X11_who_X11_isBelow q h)) er1) rfl rfl (Nat.le_of_ble_eq_true rfl) hl.1 ⟨Nat.le_of_ble_eq_true rfl, Nat.le_of_ble_eq_true rfl, Nat.le_of_ble_eq_true rfl, Nat.le_of_ble_eq_true rfl⟩ dX11_who_11 (fun H locs hS => ?_)
  refine lv_istore_n (lv' := [(3, .int r1), (0, .ref (zal G 0)), (1, .int x1), (2, .int x2)]) C.1 C.2.1 dX11_who_14 rfl hl (by decide) rfl (fun ls hl => ?_)
  refine lv_iload_n C.1 C.2.1 dX11_who_15 rfl (lv_at hl 0 rfl) ?_
  refine lv_if_eq (tgt := 28) C.1 C.2.1 dX11_who_16 (by decide) (fun hc => ?_) (fun hc => ?_)
  · have hf := zif_t hc hf
    exact w_X11_who_28 C hm hk  _ _ _ _ (lv_sub hl [] rfl) hS hf
  · have hf := zif_f hc hf
    refine lv_iload_n C.1 C.2.1 dX11_who_19 rfl (lv_at hl 3 rfl) ?_
    refine lv_if_lt (tgt := 28) C.1 C.2.1 dX11_who_20 (by decide) (fun hc => ?_) (fun hc => ?_)
    · have hf := zif_t hc hf
      exact w_X11_who_28 C hm hk  _ _ _ _ (lv_sub hl [] rfl) hS hf
    · have hf := zif_f hc hf
      refine lv_iload_n C.1 C.2.1 dX11_who_23 rfl (lv_at hl 3 rfl) ?_
      refine lv_iconst (v := (1 : Int32)) C.1 C.2.1 dX11_who_24 rfl ?_
      refine lv_icmp_le (tgt := 31) C.1 C.2.1 dX11_who_25 (by decide) (fun hc => ?_) (fun hc => ?_)
      · have hf := zif_t hc hf
        refine lv_iload_n C.1 C.2.1 dX11_who_31 rfl (lv_at hl 3 rfl) ?_
        refine lv_if_ne (tgt := 50) C.1 C.2.1 dX11_who_32 (by decide) (fun hc => ?_) (fun hc => ?_)
        · have hf := zif_f hc hf
          refine lv_aload_n C.1 C.2.1 dX11_who_50 rfl (lv_at hl 1 rfl) ?_
          refine zgetR C hS ff_X11_12_0 (hm 0 (by decide)) (hk (0, 0) (by decide)) dX11_who_51 ?_
          refine zgetR C hS ff_X11_90_1 (hm 1 (by decide)) (hk (1, 1) (by decide)) dX11_who_54 ?_
          refine zgetR C hS ff_X11_179_7 (hm 7 (by decide)) (hk (7, 1) (by decide)) dX11_who_57 ?_
          refine lv_iload_n C.1 C.2.1 dX11_who_60 rfl (lv_at hl 2 rfl) ?_
          obtain ⟨hi, hf⟩ := zck_some hf
          refine zald C hS sh_9 (hm 9 (by decide)) hi dX11_who_61 ?_
          exact zretI C hS hf dX11_who_62
        · have hf := zif_t hc hf
          refine lv_aload_n C.1 C.2.1 dX11_who_35 rfl (lv_at hl 1 rfl) ?_
          refine zgetR C hS ff_X11_12_0 (hm 0 (by decide)) (hk (0, 0) (by decide)) dX11_who_36 ?_
          refine zgetR C hS ff_X11_90_1 (hm 1 (by decide)) (hk (1, 1) (by decide)) dX11_who_39 ?_
          refine zgetR C hS ff_X11_176_7 (hm 7 (by decide)) (hk (7, 0) (by decide)) dX11_who_42 ?_
          refine lv_iload_n C.1 C.2.1 dX11_who_45 rfl (lv_at hl 2 rfl) ?_
          obtain ⟨hi, hf⟩ := zck_some hf
          refine zald C hS sh_8 (hm 8 (by decide)) hi dX11_who_46 ?_
          refine lv_goto (tgt := 62) C.1 C.2.1 dX11_who_47 (by decide) ?_
          exact zretI C hS hf dX11_who_62
      · have hf := zif_f hc hf
        exact w_X11_who_28 C hm hk  _ _ _ _ (lv_sub hl [] rfl) hS hf
end
section
theorem dX3_isOn_0 : decode cX3_isOn 0 = .ok (.aload_n 0, 1) := by decide +kernel
theorem dX3_isOn_1 : decode cX3_isOn 1 = .ok (.iload_n 1, 1) := by decide +kernel
theorem dX3_isOn_2 : decode cX3_isOn 2 = .ok (.invokevirtual 38, 3) := by decide +kernel
theorem dX3_isOn_5 : decode cX3_isOn 5 = .ok (.ifCond .eq 17, 3) := by decide +kernel
theorem dX3_isOn_8 : decode cX3_isOn 8 = .ok (.aload_n 0, 1) := by decide +kernel
theorem dX3_isOn_9 : decode cX3_isOn 9 = .ok (.getfield 9, 3) := by decide +kernel
theorem dX3_isOn_12 : decode cX3_isOn 12 = .ok (.iload_n 1, 1) := by decide +kernel
theorem dX3_isOn_13 : decode cX3_isOn 13 = .ok (.iaload, 1) := by decide +kernel
theorem dX3_isOn_14 : decode cX3_isOn 14 = .ok (.iload_n 2, 1) := by decide +kernel
theorem dX3_isOn_15 : decode cX3_isOn 15 = .ok (.if_icmp .ne 7, 3) := by decide +kernel
theorem dX3_isOn_18 : decode cX3_isOn 18 = .ok (.iconst 1, 1) := by decide +kernel
theorem dX3_isOn_19 : decode cX3_isOn 19 = .ok (.goto 4, 3) := by decide +kernel
theorem dX3_isOn_22 : decode cX3_isOn 22 = .ok (.iconst 0, 1) := by decide +kernel
theorem dX3_isOn_23 : decode cX3_isOn 23 = .ok (.ireturn, 1) := by decide +kernel
abbrev nd_X3_isOn : List Nat := [2, 3]
abbrev ld_X3_isOn : List (Nat × Nat) := [(2, 0)]
theorem sn_X3_isOn_X3_has : ∀ c ∈ nd_X3_has, c ∈ nd_X3_isOn := by decide
theorem sl_X3_isOn_X3_has : ∀ q ∈ ld_X3_has, q ∈ ld_X3_isOn := by decide
def f_X3_isOn_22  (h : zH) : zR := (some ((0 : Int32), h))
def f_X3_isOn  (x1 : Int32) (x2 : Int32) (h : zH) : zR := (zbd (f_X3_has x1 h) fun r1 h2 => (if r1 = 0 then (f_X3_isOn_22   h2) else (zck x1 16 (if (h2 3 (Int32.toNatClampNeg x1)) = x2 then (some ((1 : Int32), h2)) else (f_X3_isOn_22   h2)))))
variable {p : Program} {l : Launch} {e : Env} {s : State} {m : MethodId} {args : Array Value} {below : List Frame} {meth : Method} {c : Code} {G : zG} {q : Int32 × zH}
set_option maxHeartbeats 4000000 in
set_option maxRecDepth 100000 in
theorem w_X3_isOn_22  (C : zC G p s m args meth c cX3_isOn 3 RX3 (some .boolean)) (hm : ∀ c ∈ nd_X3_isOn, c ∈ znm G) (hk : ∀ q ∈ ld_X3_isOn, zlk G q.1 q.2 = true)  : ∀ (ls : Array Slot) (H : Heap) (locs : List Loc) (h : zH), lv_has ls 3 [] → zS G h s.heap H locs → f_X3_isOn_22  h = some q → W p l e (zrm (4)) s m args below meth c H locs 0 0 (MQ below (zQI G q.2 q.1) args s 0 0 (zA G)) (F0 m 22 ls []) := by
  intro ls H locs h hl hS hf
  unfold f_X3_isOn_22 at hf
  refine lv_iconst (v := (0 : Int32)) C.1 C.2.1 dX3_isOn_22 rfl ?_
  exact zretZ C hS rfl hf dX3_isOn_23
set_option maxHeartbeats 4000000 in
set_option maxRecDepth 100000 in
theorem c_X3_isOn (l : Launch) (G : zG) (h : zH) (x1 : Int32) (x2 : Int32) (q : Int32 × zH) (hm : ∀ c ∈ nd_X3_isOn, c ∈ znm G) (hk : ∀ q ∈ ld_X3_isOn, zlk G q.1 q.2 = true) (hf : f_X3_isOn x1 x2 h = some q) : zCtI l yX3_isOn cX3_isOn 3 (some .boolean) (4) [.ref (zal G 2), .int x1, .int x2] G h q.2 q.1 := by
  refine zMetI (by decide) (Nat.le_of_ble_eq_true rfl) ?_
  intro p e s m below meth c ls C hl hS
  have hl : lv_has ls 3 [(0, .ref (zal G 2)), (1, .int x1), (2, .int x2)] := hl
  have C : zC G p s m [.ref (zal G 2), .int x1, .int x2].toArray meth c cX3_isOn 3 RX3 (some .boolean) := C
  unfold f_X3_isOn at hf
  refine lv_aload_n C.1 C.2.1 dX3_isOn_0 rfl (lv_at hl 0 rfl) ?_
  refine lv_iload_n C.1 C.2.1 dX3_isOn_1 rfl (lv_at hl 1 rfl) ?_
  obtain ⟨r1, h2, er1, hf⟩ := zbd_some hf
  refine zcallVI (As := [.int x1]) (rest := []) C hS mv_X3_38 (c_X3_has l G h x1 (r1, h2) (fun c h => hm c (sn_X3_isOn_X3_has c h)) (fun q h => hk q (sl_X3_isOn_X3_has q h)) er1) (hm 2 (by decide)) ⟨_, _, _, sh_2, rfl, rfl⟩ rfl rfl (Nat.le_of_ble_eq_true rfl) hl.1 ⟨Nat.le_of_ble_eq_true rfl, Nat.le_of_ble_eq_true rfl, Nat.le_of_ble_eq_true rfl, Nat.le_of_ble_eq_true rfl⟩ dX3_isOn_2 (fun H locs hS => ?_)
  refine lv_if_eq (tgt := 22) C.1 C.2.1 dX3_isOn_5 (by decide) (fun hc => ?_) (fun hc => ?_)
  · have hf := zif_t hc hf
    exact w_X3_isOn_22 C hm hk  _ _ _ _ (lv_sub hl [] rfl) hS hf
  · have hf := zif_f hc hf
    refine lv_aload_n C.1 C.2.1 dX3_isOn_8 rfl (lv_at hl 0 rfl) ?_
    refine zgetR C hS ff_X3_9_2 (hm 2 (by decide)) (hk (2, 0) (by decide)) dX3_isOn_9 ?_
    refine lv_iload_n C.1 C.2.1 dX3_isOn_12 rfl (lv_at hl 1 rfl) ?_
    obtain ⟨hi, hf⟩ := zck_some hf
    refine zald C hS sh_3 (hm 3 (by decide)) hi dX3_isOn_13 ?_
    refine lv_iload_n C.1 C.2.1 dX3_isOn_14 rfl (lv_at hl 2 rfl) ?_
    refine lv_icmp_ne (tgt := 22) C.1 C.2.1 dX3_isOn_15 (by decide) (fun hc => ?_) (fun hc => ?_)
    · have hf := zif_f hc hf
      exact w_X3_isOn_22 C hm hk  _ _ _ _ (lv_sub hl [] rfl) hS hf
    · have hf := zif_t hc hf
      refine lv_iconst (v := (1 : Int32)) C.1 C.2.1 dX3_isOn_18 rfl ?_
      refine lv_goto (tgt := 23) C.1 C.2.1 dX3_isOn_19 (by decide) ?_
      exact zretZ C hS rfl hf dX3_isOn_23
end
section
theorem dX11_arePair_0 : decode cX11_arePair 0 = .ok (.aload_n 0, 1) := by decide +kernel
theorem dX11_arePair_1 : decode cX11_arePair 1 = .ok (.getfield 12, 3) := by decide +kernel
theorem dX11_arePair_4 : decode cX11_arePair 4 = .ok (.getfield 54, 3) := by decide +kernel
theorem dX11_arePair_7 : decode cX11_arePair 7 = .ok (.iload_n 1, 1) := by decide +kernel
theorem dX11_arePair_8 : decode cX11_arePair 8 = .ok (.iconst 0, 1) := by decide +kernel
theorem dX11_arePair_9 : decode cX11_arePair 9 = .ok (.invokevirtual 316, 3) := by decide +kernel
theorem dX11_arePair_12 : decode cX11_arePair 12 = .ok (.ifCond .eq 22, 3) := by decide +kernel
theorem dX11_arePair_15 : decode cX11_arePair 15 = .ok (.aload_n 0, 1) := by decide +kernel
theorem dX11_arePair_16 : decode cX11_arePair 16 = .ok (.getfield 12, 3) := by decide +kernel
theorem dX11_arePair_19 : decode cX11_arePair 19 = .ok (.getfield 54, 3) := by decide +kernel
theorem dX11_arePair_22 : decode cX11_arePair 22 = .ok (.iload_n 2, 1) := by decide +kernel
theorem dX11_arePair_23 : decode cX11_arePair 23 = .ok (.iconst 1, 1) := by decide +kernel
theorem dX11_arePair_24 : decode cX11_arePair 24 = .ok (.invokevirtual 316, 3) := by decide +kernel
theorem dX11_arePair_27 : decode cX11_arePair 27 = .ok (.ifCond .eq 7, 3) := by decide +kernel
theorem dX11_arePair_30 : decode cX11_arePair 30 = .ok (.iconst 1, 1) := by decide +kernel
theorem dX11_arePair_31 : decode cX11_arePair 31 = .ok (.goto 4, 3) := by decide +kernel
theorem dX11_arePair_34 : decode cX11_arePair 34 = .ok (.iconst 0, 1) := by decide +kernel
theorem dX11_arePair_35 : decode cX11_arePair 35 = .ok (.ireturn, 1) := by decide +kernel
abbrev nd_X11_arePair : List Nat := [0, 1, 2, 3]
abbrev ld_X11_arePair : List (Nat × Nat) := [(0, 0), (1, 0), (2, 0)]
theorem sn_X11_arePair_X3_isOn : ∀ c ∈ nd_X3_isOn, c ∈ nd_X11_arePair := by decide
theorem sl_X11_arePair_X3_isOn : ∀ q ∈ ld_X3_isOn, q ∈ ld_X11_arePair := by decide
def f_X11_arePair_34  (h : zH) : zR := (some ((0 : Int32), h))
def f_X11_arePair  (x1 : Int32) (x2 : Int32) (h : zH) : zR := (zbd (f_X3_isOn x1 (0 : Int32) h) fun r1 h2 => (if r1 = 0 then (f_X11_arePair_34   h2) else (zbd (f_X3_isOn x2 (1 : Int32) h2) fun r3 h4 => (if r3 = 0 then (f_X11_arePair_34   h4) else (some ((1 : Int32), h4))))))
variable {p : Program} {l : Launch} {e : Env} {s : State} {m : MethodId} {args : Array Value} {below : List Frame} {meth : Method} {c : Code} {G : zG} {q : Int32 × zH}
set_option maxHeartbeats 4000000 in
set_option maxRecDepth 100000 in
theorem w_X11_arePair_34  (C : zC G p s m args meth c cX11_arePair 3 RX11 (some .boolean)) (hm : ∀ c ∈ nd_X11_arePair, c ∈ znm G) (hk : ∀ q ∈ ld_X11_arePair, zlk G q.1 q.2 = true)  : ∀ (ls : Array Slot) (H : Heap) (locs : List Loc) (h : zH), lv_has ls 3 [] → zS G h s.heap H locs → f_X11_arePair_34  h = some q → W p l e (zrm (5)) s m args below meth c H locs 0 0 (MQ below (zQI G q.2 q.1) args s 0 0 (zA G)) (F0 m 34 ls []) := by
  intro ls H locs h hl hS hf
  unfold f_X11_arePair_34 at hf
  refine lv_iconst (v := (0 : Int32)) C.1 C.2.1 dX11_arePair_34 rfl ?_
  exact zretZ C hS rfl hf dX11_arePair_35
set_option maxHeartbeats 4000000 in
set_option maxRecDepth 100000 in
theorem c_X11_arePair (l : Launch) (G : zG) (h : zH) (x1 : Int32) (x2 : Int32) (q : Int32 × zH) (hm : ∀ c ∈ nd_X11_arePair, c ∈ znm G) (hk : ∀ q ∈ ld_X11_arePair, zlk G q.1 q.2 = true) (hf : f_X11_arePair x1 x2 h = some q) : zCtI l yX11_arePair cX11_arePair 3 (some .boolean) (5) [.ref (zal G 0), .int x1, .int x2] G h q.2 q.1 := by
  refine zMetI (by decide) (Nat.le_of_ble_eq_true rfl) ?_
  intro p e s m below meth c ls C hl hS
  have hl : lv_has ls 3 [(0, .ref (zal G 0)), (1, .int x1), (2, .int x2)] := hl
  have C : zC G p s m [.ref (zal G 0), .int x1, .int x2].toArray meth c cX11_arePair 3 RX11 (some .boolean) := C
  unfold f_X11_arePair at hf
  refine lv_aload_n C.1 C.2.1 dX11_arePair_0 rfl (lv_at hl 0 rfl) ?_
  refine zgetR C hS ff_X11_12_0 (hm 0 (by decide)) (hk (0, 0) (by decide)) dX11_arePair_1 ?_
  refine zgetR C hS ff_X11_54_1 (hm 1 (by decide)) (hk (1, 0) (by decide)) dX11_arePair_4 ?_
  refine lv_iload_n C.1 C.2.1 dX11_arePair_7 rfl (lv_at hl 1 rfl) ?_
  refine lv_iconst (v := (0 : Int32)) C.1 C.2.1 dX11_arePair_8 rfl ?_
  obtain ⟨r1, h2, er1, hf⟩ := zbd_some hf
  refine zcallVI (As := [.int x1, .int (0 : Int32)]) (rest := []) C hS mv_X11_316 (c_X3_isOn l G h x1 (0 : Int32) (r1, h2) (fun c h => hm c (sn_X11_arePair_X3_isOn c h)) (fun q h => hk q (sl_X11_arePair_X3_isOn q h)) er1) (hm 2 (by decide)) ⟨_, _, _, sh_2, rfl, rfl⟩ rfl rfl (Nat.le_of_ble_eq_true rfl) hl.1 ⟨Nat.le_of_ble_eq_true rfl, Nat.le_of_ble_eq_true rfl, Nat.le_of_ble_eq_true rfl, Nat.le_of_ble_eq_true rfl⟩ dX11_arePair_9 (fun H locs hS => ?_)
  refine lv_if_eq (tgt := 34) C.1 C.2.1 dX11_arePair_12 (by decide) (fun hc => ?_) (fun hc => ?_)
  · have hf := zif_t hc hf
    exact w_X11_arePair_34 C hm hk  _ _ _ _ (lv_sub hl [] rfl) hS hf
  · have hf := zif_f hc hf
    refine lv_aload_n C.1 C.2.1 dX11_arePair_15 rfl (lv_at hl 0 rfl) ?_
    refine zgetR C hS ff_X11_12_0 (hm 0 (by decide)) (hk (0, 0) (by decide)) dX11_arePair_16 ?_
    refine zgetR C hS ff_X11_54_1 (hm 1 (by decide)) (hk (1, 0) (by decide)) dX11_arePair_19 ?_
    refine lv_iload_n C.1 C.2.1 dX11_arePair_22 rfl (lv_at hl 2 rfl) ?_
    refine lv_iconst (v := (1 : Int32)) C.1 C.2.1 dX11_arePair_23 rfl ?_
    obtain ⟨r3, h4, er3, hf⟩ := zbd_some hf
    refine zcallVI (As := [.int x2, .int (1 : Int32)]) (rest := []) C hS mv_X11_316 (c_X3_isOn l G h2 x2 (1 : Int32) (r3, h4) (fun c h => hm c (sn_X11_arePair_X3_isOn c h)) (fun q h => hk q (sl_X11_arePair_X3_isOn q h)) er3) (hm 2 (by decide)) ⟨_, _, _, sh_2, rfl, rfl⟩ rfl rfl (Nat.le_of_ble_eq_true rfl) hl.1 ⟨Nat.le_of_ble_eq_true rfl, Nat.le_of_ble_eq_true rfl, Nat.le_of_ble_eq_true rfl, Nat.le_of_ble_eq_true rfl⟩ dX11_arePair_24 (fun H locs hS => ?_)
    refine lv_if_eq (tgt := 34) C.1 C.2.1 dX11_arePair_27 (by decide) (fun hc => ?_) (fun hc => ?_)
    · have hf := zif_t hc hf
      exact w_X11_arePair_34 C hm hk  _ _ _ _ (lv_sub hl [] rfl) hS hf
    · have hf := zif_f hc hf
      refine lv_iconst (v := (1 : Int32)) C.1 C.2.1 dX11_arePair_30 rfl ?_
      refine lv_goto (tgt := 35) C.1 C.2.1 dX11_arePair_31 (by decide) ?_
      exact zretZ C hS rfl hf dX11_arePair_35
end
section
theorem dX11_pairOf_0 : decode cX11_pairOf 0 = .ok (.iload_n 0, 1) := by decide +kernel
theorem dX11_pairOf_1 : decode cX11_pairOf 1 = .ok (.bipush 16, 2) := by decide +kernel
theorem dX11_pairOf_3 : decode cX11_pairOf 3 = .ok (.imul, 1) := by decide +kernel
theorem dX11_pairOf_4 : decode cX11_pairOf 4 = .ok (.iload_n 1, 1) := by decide +kernel
theorem dX11_pairOf_5 : decode cX11_pairOf 5 = .ok (.iadd, 1) := by decide +kernel
theorem dX11_pairOf_6 : decode cX11_pairOf 6 = .ok (.ireturn, 1) := by decide +kernel
abbrev nd_X11_pairOf : List Nat := []
abbrev ld_X11_pairOf : List (Nat × Nat) := []
def f_X11_pairOf  (x0 : Int32) (x1 : Int32) (h : zH) : zR := (some (((x0 * (16 : Int32)) + x1), h))
variable {p : Program} {l : Launch} {e : Env} {s : State} {m : MethodId} {args : Array Value} {below : List Frame} {meth : Method} {c : Code} {G : zG} {q : Int32 × zH}
set_option maxHeartbeats 4000000 in
set_option maxRecDepth 100000 in
theorem c_X11_pairOf (l : Launch) (G : zG) (h : zH) (x0 : Int32) (x1 : Int32) (q : Int32 × zH) (hm : ∀ c ∈ nd_X11_pairOf, c ∈ znm G) (hk : ∀ q ∈ ld_X11_pairOf, zlk G q.1 q.2 = true) (hf : f_X11_pairOf x0 x1 h = some q) : zCtI l yX11_pairOf cX11_pairOf 2 (some .int) (2) [.int x0, .int x1] G h q.2 q.1 := by
  refine zMetI (by decide) (Nat.le_of_ble_eq_true rfl) ?_
  intro p e s m below meth c ls C hl hS
  have hl : lv_has ls 2 [(0, .int x0), (1, .int x1)] := hl
  have C : zC G p s m [.int x0, .int x1].toArray meth c cX11_pairOf 2 RX11 (some .int) := C
  unfold f_X11_pairOf at hf
  refine lv_iload_n C.1 C.2.1 dX11_pairOf_0 rfl (lv_at hl 0 rfl) ?_
  refine lv_bipush (v := (16 : Int32)) C.1 C.2.1 dX11_pairOf_1 rfl ?_
  refine lv_imul C.1 C.2.1 dX11_pairOf_3 ?_
  refine lv_iload_n C.1 C.2.1 dX11_pairOf_4 rfl (lv_at hl 1 rfl) ?_
  refine lv_iadd C.1 C.2.1 dX11_pairOf_5 ?_
  exact zretI C hS hf dX11_pairOf_6
end
section
theorem dX11_told_0 : decode cX11_told 0 = .ok (.aload_n 0, 1) := by decide +kernel
theorem dX11_told_1 : decode cX11_told 1 = .ok (.iload_n 1, 1) := by decide +kernel
theorem dX11_told_2 : decode cX11_told 2 = .ok (.iload_n 2, 1) := by decide +kernel
theorem dX11_told_3 : decode cX11_told 3 = .ok (.invokevirtual 182, 3) := by decide +kernel
theorem dX11_told_6 : decode cX11_told 6 = .ok (.ifCond .eq 22, 3) := by decide +kernel
theorem dX11_told_9 : decode cX11_told 9 = .ok (.aload_n 0, 1) := by decide +kernel
theorem dX11_told_10 : decode cX11_told 10 = .ok (.getfield 12, 3) := by decide +kernel
theorem dX11_told_13 : decode cX11_told 13 = .ok (.getfield 154, 3) := by decide +kernel
theorem dX11_told_16 : decode cX11_told 16 = .ok (.getfield 188, 3) := by decide +kernel
theorem dX11_told_19 : decode cX11_told 19 = .ok (.iload_n 1, 1) := by decide +kernel
theorem dX11_told_20 : decode cX11_told 20 = .ok (.iload_n 2, 1) := by decide +kernel
theorem dX11_told_21 : decode cX11_told 21 = .ok (.invokestatic 191, 3) := by decide +kernel
theorem dX11_told_24 : decode cX11_told 24 = .ok (.iaload, 1) := by decide +kernel
theorem dX11_told_25 : decode cX11_told 25 = .ok (.goto 4, 3) := by decide +kernel
theorem dX11_told_28 : decode cX11_told 28 = .ok (.iconst (-1), 1) := by decide +kernel
theorem dX11_told_29 : decode cX11_told 29 = .ok (.ireturn, 1) := by decide +kernel
abbrev nd_X11_told : List Nat := [0, 1, 2, 3, 11, 12]
abbrev ld_X11_told : List (Nat × Nat) := [(0, 0), (1, 0), (1, 2), (2, 0), (11, 0)]
theorem sn_X11_told_X11_arePair : ∀ c ∈ nd_X11_arePair, c ∈ nd_X11_told := by decide
theorem sl_X11_told_X11_arePair : ∀ q ∈ ld_X11_arePair, q ∈ ld_X11_told := by decide
theorem sn_X11_told_X11_pairOf : ∀ c ∈ nd_X11_pairOf, c ∈ nd_X11_told := by decide
theorem sl_X11_told_X11_pairOf : ∀ q ∈ ld_X11_pairOf, q ∈ ld_X11_told := by decide
def f_X11_told  (x1 : Int32) (x2 : Int32) (h : zH) : zR := (zbd (f_X11_arePair x1 x2 h) fun r1 h2 => (if r1 = 0 then (some ((-1 : Int32), h2)) else (zbd (f_X11_pairOf x1 x2 h2) fun r3 h4 => (zck r3 256 (some ((h4 12 (Int32.toNatClampNeg r3)), h4))))))
variable {p : Program} {l : Launch} {e : Env} {s : State} {m : MethodId} {args : Array Value} {below : List Frame} {meth : Method} {c : Code} {G : zG} {q : Int32 × zH}
set_option maxHeartbeats 4000000 in
set_option maxRecDepth 100000 in
theorem c_X11_told (l : Launch) (G : zG) (h : zH) (x1 : Int32) (x2 : Int32) (q : Int32 × zH) (hm : ∀ c ∈ nd_X11_told, c ∈ znm G) (hk : ∀ q ∈ ld_X11_told, zlk G q.1 q.2 = true) (hf : f_X11_told x1 x2 h = some q) : zCtI l yX11_told cX11_told 3 (some .int) (6) [.ref (zal G 0), .int x1, .int x2] G h q.2 q.1 := by
  refine zMetI (by decide) (Nat.le_of_ble_eq_true rfl) ?_
  intro p e s m below meth c ls C hl hS
  have hl : lv_has ls 3 [(0, .ref (zal G 0)), (1, .int x1), (2, .int x2)] := hl
  have C : zC G p s m [.ref (zal G 0), .int x1, .int x2].toArray meth c cX11_told 3 RX11 (some .int) := C
  unfold f_X11_told at hf
  refine lv_aload_n C.1 C.2.1 dX11_told_0 rfl (lv_at hl 0 rfl) ?_
  refine lv_iload_n C.1 C.2.1 dX11_told_1 rfl (lv_at hl 1 rfl) ?_
  refine lv_iload_n C.1 C.2.1 dX11_told_2 rfl (lv_at hl 2 rfl) ?_
  obtain ⟨r1, h2, er1, hf⟩ := zbd_some hf
  refine zcallVI (As := [.int x1, .int x2]) (rest := []) C hS mv_X11_182 (c_X11_arePair l G h x1 x2 (r1, h2) (fun c h => hm c (sn_X11_told_X11_arePair c h)) (fun q h => hk q (sl_X11_told_X11_arePair q h)) er1) (hm 0 (by decide)) ⟨_, _, _, sh_0, rfl, rfl⟩ rfl rfl (Nat.le_of_ble_eq_true rfl) hl.1 ⟨Nat.le_of_ble_eq_true rfl, Nat.le_of_ble_eq_true rfl, Nat.le_of_ble_eq_true rfl, Nat.le_of_ble_eq_true rfl⟩ dX11_told_3 (fun H locs hS => ?_)
  refine lv_if_eq (tgt := 28) C.1 C.2.1 dX11_told_6 (by decide) (fun hc => ?_) (fun hc => ?_)
  · have hf := zif_t hc hf
    refine lv_iconst (v := (-1 : Int32)) C.1 C.2.1 dX11_told_28 rfl ?_
    exact zretI C hS hf dX11_told_29
  · have hf := zif_f hc hf
    refine lv_aload_n C.1 C.2.1 dX11_told_9 rfl (lv_at hl 0 rfl) ?_
    refine zgetR C hS ff_X11_12_0 (hm 0 (by decide)) (hk (0, 0) (by decide)) dX11_told_10 ?_
    refine zgetR C hS ff_X11_154_1 (hm 1 (by decide)) (hk (1, 2) (by decide)) dX11_told_13 ?_
    refine zgetR C hS ff_X11_188_11 (hm 11 (by decide)) (hk (11, 0) (by decide)) dX11_told_16 ?_
    refine lv_iload_n C.1 C.2.1 dX11_told_19 rfl (lv_at hl 1 rfl) ?_
    refine lv_iload_n C.1 C.2.1 dX11_told_20 rfl (lv_at hl 2 rfl) ?_
    obtain ⟨r3, h4, er3, hf⟩ := zbd_some hf
    refine zcallSI (As := [.int x1, .int x2]) (rest := [.ref (zal G 12)]) C hS ms_X11_191 (c_X11_pairOf l G h2 x1 x2 (r3, h4) (fun c h => hm c (sn_X11_told_X11_pairOf c h)) (fun q h => hk q (sl_X11_told_X11_pairOf q h)) er3) rfl rfl (Nat.le_of_ble_eq_true rfl) hl.1 ⟨Nat.le_of_ble_eq_true rfl, Nat.le_of_ble_eq_true rfl, Nat.le_of_ble_eq_true rfl, Nat.le_of_ble_eq_true rfl⟩ dX11_told_21 (fun H locs hS => ?_)
    obtain ⟨hi, hf⟩ := zck_some hf
    refine zald C hS sh_12 (hm 12 (by decide)) hi dX11_told_24 ?_
    refine lv_goto (tgt := 29) C.1 C.2.1 dX11_told_25 (by decide) ?_
    exact zretI C hS hf dX11_told_29
end
section
theorem dX11_book_0 : decode cX11_book 0 = .ok (.iload_n 1, 1) := by decide +kernel
theorem dX11_book_1 : decode cX11_book 1 = .ok (.aload_n 0, 1) := by decide +kernel
theorem dX11_book_2 : decode cX11_book 2 = .ok (.getfield 12, 3) := by decide +kernel
theorem dX11_book_5 : decode cX11_book 5 = .ok (.getfield 154, 3) := by decide +kernel
theorem dX11_book_8 : decode cX11_book 8 = .ok (.getfield 221, 3) := by decide +kernel
theorem dX11_book_11 : decode cX11_book 11 = .ok (.invokestatic 50, 3) := by decide +kernel
theorem dX11_book_14 : decode cX11_book 14 = .ok (.ifCond .eq 16, 3) := by decide +kernel
theorem dX11_book_17 : decode cX11_book 17 = .ok (.iload_n 2, 1) := by decide +kernel
theorem dX11_book_18 : decode cX11_book 18 = .ok (.bipush 6, 2) := by decide +kernel
theorem dX11_book_20 : decode cX11_book 20 = .ok (.invokestatic 50, 3) := by decide +kernel
theorem dX11_book_23 : decode cX11_book 23 = .ok (.ifCond .eq 7, 3) := by decide +kernel
theorem dX11_book_26 : decode cX11_book 26 = .ok (.iconst 1, 1) := by decide +kernel
theorem dX11_book_27 : decode cX11_book 27 = .ok (.goto 4, 3) := by decide +kernel
theorem dX11_book_30 : decode cX11_book 30 = .ok (.iconst 0, 1) := by decide +kernel
theorem dX11_book_31 : decode cX11_book 31 = .ok (.istore_n 3, 1) := by decide +kernel
theorem dX11_book_32 : decode cX11_book 32 = .ok (.iload_n 3, 1) := by decide +kernel
theorem dX11_book_33 : decode cX11_book 33 = .ok (.ifCond .eq 23, 3) := by decide +kernel
theorem dX11_book_36 : decode cX11_book 36 = .ok (.aload_n 0, 1) := by decide +kernel
theorem dX11_book_37 : decode cX11_book 37 = .ok (.getfield 12, 3) := by decide +kernel
theorem dX11_book_40 : decode cX11_book 40 = .ok (.getfield 154, 3) := by decide +kernel
theorem dX11_book_43 : decode cX11_book 43 = .ok (.getfield 222, 3) := by decide +kernel
theorem dX11_book_46 : decode cX11_book 46 = .ok (.iload_n 1, 1) := by decide +kernel
theorem dX11_book_47 : decode cX11_book 47 = .ok (.bipush 6, 2) := by decide +kernel
theorem dX11_book_49 : decode cX11_book 49 = .ok (.imul, 1) := by decide +kernel
theorem dX11_book_50 : decode cX11_book 50 = .ok (.iload_n 2, 1) := by decide +kernel
theorem dX11_book_51 : decode cX11_book 51 = .ok (.iadd, 1) := by decide +kernel
theorem dX11_book_52 : decode cX11_book 52 = .ok (.iaload, 1) := by decide +kernel
theorem dX11_book_53 : decode cX11_book 53 = .ok (.goto 4, 3) := by decide +kernel
theorem dX11_book_56 : decode cX11_book 56 = .ok (.iconst (-1), 1) := by decide +kernel
theorem dX11_book_57 : decode cX11_book 57 = .ok (.ireturn, 1) := by decide +kernel
abbrev nd_X11_book : List Nat := [0, 1, 11, 15]
abbrev ld_X11_book : List (Nat × Nat) := [(0, 0), (1, 2), (11, 3)]
theorem sn_X11_book_X11_isBelow : ∀ c ∈ nd_X11_isBelow, c ∈ nd_X11_book := by decide
theorem sl_X11_book_X11_isBelow : ∀ q ∈ ld_X11_isBelow, q ∈ ld_X11_book := by decide
def f_X11_book_31  (x1 : Int32) (x2 : Int32) (s0 : Int32) (h : zH) : zR := (if s0 = 0 then (some ((-1 : Int32), h)) else (zck ((x1 * (6 : Int32)) + x2) 600 (some ((h 15 (Int32.toNatClampNeg ((x1 * (6 : Int32)) + x2))), h))))
def f_X11_book_30  (x1 : Int32) (x2 : Int32) (h : zH) : zR := (f_X11_book_31  x1 x2 (0 : Int32) h)
def f_X11_book  (x1 : Int32) (x2 : Int32) (h : zH) : zR := (zbd (f_X11_isBelow x1 (h 11 4) h) fun r1 h2 => (if r1 = 0 then (f_X11_book_30  x1 x2 h2) else (zbd (f_X11_isBelow x2 (6 : Int32) h2) fun r3 h4 => (if r3 = 0 then (f_X11_book_30  x1 x2 h4) else (f_X11_book_31  x1 x2 (1 : Int32) h4)))))
variable {p : Program} {l : Launch} {e : Env} {s : State} {m : MethodId} {args : Array Value} {below : List Frame} {meth : Method} {c : Code} {G : zG} {q : Int32 × zH}
set_option maxHeartbeats 4000000 in
set_option maxRecDepth 100000 in
theorem w_X11_book_31  (C : zC G p s m args meth c cX11_book 4 RX11 (some .int)) (hm : ∀ c ∈ nd_X11_book, c ∈ znm G) (hk : ∀ q ∈ ld_X11_book, zlk G q.1 q.2 = true)  : ∀ (ls : Array Slot) (H : Heap) (locs : List Loc) (h : zH) (x1 : Int32) (x2 : Int32) (s0 : Int32), lv_has ls 4 [(0, .ref (zal G 0)), (1, .int x1), (2, .int x2)] → zS G h s.heap H locs → f_X11_book_31  x1 x2 s0 h = some q → W p l e (zrm (3)) s m args below meth c H locs 0 0 (MQ below (zQI G q.2 q.1) args s 0 0 (zA G)) (F0 m 31 ls [.int s0]) := by
  intro ls H locs h x1 x2 s0 hl hS hf
  unfold f_X11_book_31 at hf
  refine lv_istore_n (lv' := [(3, .int s0), (0, .ref (zal G 0)), (1, .int x1), (2, .int x2)]) C.1 C.2.1 dX11_book_31 rfl hl (by decide) rfl (fun ls hl => ?_)
  refine lv_iload_n C.1 C.2.1 dX11_book_32 rfl (lv_at hl 0 rfl) ?_
  refine lv_if_eq (tgt := 56) C.1 C.2.1 dX11_book_33 (by decide) (fun hc => ?_) (fun hc => ?_)
  · have hf := zif_t hc hf
    refine lv_iconst (v := (-1 : Int32)) C.1 C.2.1 dX11_book_56 rfl ?_
    exact zretI C hS hf dX11_book_57
  · have hf := zif_f hc hf
    refine lv_aload_n C.1 C.2.1 dX11_book_36 rfl (lv_at hl 1 rfl) ?_
    refine zgetR C hS ff_X11_12_0 (hm 0 (by decide)) (hk (0, 0) (by decide)) dX11_book_37 ?_
    refine zgetR C hS ff_X11_154_1 (hm 1 (by decide)) (hk (1, 2) (by decide)) dX11_book_40 ?_
    refine zgetR C hS ff_X11_222_11 (hm 11 (by decide)) (hk (11, 3) (by decide)) dX11_book_43 ?_
    refine lv_iload_n C.1 C.2.1 dX11_book_46 rfl (lv_at hl 2 rfl) ?_
    refine lv_bipush (v := (6 : Int32)) C.1 C.2.1 dX11_book_47 rfl ?_
    refine lv_imul C.1 C.2.1 dX11_book_49 ?_
    refine lv_iload_n C.1 C.2.1 dX11_book_50 rfl (lv_at hl 3 rfl) ?_
    refine lv_iadd C.1 C.2.1 dX11_book_51 ?_
    obtain ⟨hi, hf⟩ := zck_some hf
    refine zald C hS sh_15 (hm 15 (by decide)) hi dX11_book_52 ?_
    refine lv_goto (tgt := 57) C.1 C.2.1 dX11_book_53 (by decide) ?_
    exact zretI C hS hf dX11_book_57
set_option maxHeartbeats 4000000 in
set_option maxRecDepth 100000 in
theorem w_X11_book_30  (C : zC G p s m args meth c cX11_book 4 RX11 (some .int)) (hm : ∀ c ∈ nd_X11_book, c ∈ znm G) (hk : ∀ q ∈ ld_X11_book, zlk G q.1 q.2 = true)  : ∀ (ls : Array Slot) (H : Heap) (locs : List Loc) (h : zH) (x1 : Int32) (x2 : Int32), lv_has ls 4 [(0, .ref (zal G 0)), (1, .int x1), (2, .int x2)] → zS G h s.heap H locs → f_X11_book_30  x1 x2 h = some q → W p l e (zrm (3)) s m args below meth c H locs 0 0 (MQ below (zQI G q.2 q.1) args s 0 0 (zA G)) (F0 m 30 ls []) := by
  intro ls H locs h x1 x2 hl hS hf
  unfold f_X11_book_30 at hf
  refine lv_iconst (v := (0 : Int32)) C.1 C.2.1 dX11_book_30 rfl ?_
  exact w_X11_book_31 C hm hk  _ _ _ _ _ _ _ (lv_sub hl [0, 1, 2] rfl) hS hf
set_option maxHeartbeats 4000000 in
set_option maxRecDepth 100000 in
theorem c_X11_book (l : Launch) (G : zG) (h : zH) (x1 : Int32) (x2 : Int32) (q : Int32 × zH) (hm : ∀ c ∈ nd_X11_book, c ∈ znm G) (hk : ∀ q ∈ ld_X11_book, zlk G q.1 q.2 = true) (hf : f_X11_book x1 x2 h = some q) : zCtI l yX11_book cX11_book 4 (some .int) (3) [.ref (zal G 0), .int x1, .int x2] G h q.2 q.1 := by
  refine zMetI (by decide) (Nat.le_of_ble_eq_true rfl) ?_
  intro p e s m below meth c ls C hl hS
  have hl : lv_has ls 4 [(0, .ref (zal G 0)), (1, .int x1), (2, .int x2)] := hl
  have C : zC G p s m [.ref (zal G 0), .int x1, .int x2].toArray meth c cX11_book 4 RX11 (some .int) := C
  unfold f_X11_book at hf
  refine lv_iload_n C.1 C.2.1 dX11_book_0 rfl (lv_at hl 1 rfl) ?_
  refine lv_aload_n C.1 C.2.1 dX11_book_1 rfl (lv_at hl 0 rfl) ?_
  refine zgetR C hS ff_X11_12_0 (hm 0 (by decide)) (hk (0, 0) (by decide)) dX11_book_2 ?_
  refine zgetR C hS ff_X11_154_1 (hm 1 (by decide)) (hk (1, 2) (by decide)) dX11_book_5 ?_
  refine zgetI C hS ff_X11_221_11 (hm 11 (by decide)) dX11_book_8 ?_
  obtain ⟨r1, h2, er1, hf⟩ := zbd_some hf
  refine zcallSI (As := [.int x1, .int (h 11 4)]) (rest := []) C hS ms_X11_50 (c_X11_isBelow l G h x1 (h 11 4) (r1, h2) (fun c h => hm c (sn_X11_book_X11_isBelow c h)) (fun q h => hk q (sl_X11_book_X11_isBelow q h)) er1) rfl rfl (Nat.le_of_ble_eq_true rfl) hl.1 ⟨Nat.le_of_ble_eq_true rfl, Nat.le_of_ble_eq_true rfl, Nat.le_of_ble_eq_true rfl, Nat.le_of_ble_eq_true rfl⟩ dX11_book_11 (fun H locs hS => ?_)
  refine lv_if_eq (tgt := 30) C.1 C.2.1 dX11_book_14 (by decide) (fun hc => ?_) (fun hc => ?_)
  · have hf := zif_t hc hf
    exact w_X11_book_30 C hm hk  _ _ _ _ _ _ (lv_sub hl [0, 1, 2] rfl) hS hf
  · have hf := zif_f hc hf
    refine lv_iload_n C.1 C.2.1 dX11_book_17 rfl (lv_at hl 2 rfl) ?_
    refine lv_bipush (v := (6 : Int32)) C.1 C.2.1 dX11_book_18 rfl ?_
    obtain ⟨r3, h4, er3, hf⟩ := zbd_some hf
    refine zcallSI (As := [.int x2, .int (6 : Int32)]) (rest := []) C hS ms_X11_50 (c_X11_isBelow l G h2 x2 (6 : Int32) (r3, h4) (fun c h => hm c (sn_X11_book_X11_isBelow c h)) (fun q h => hk q (sl_X11_book_X11_isBelow q h)) er3) rfl rfl (Nat.le_of_ble_eq_true rfl) hl.1 ⟨Nat.le_of_ble_eq_true rfl, Nat.le_of_ble_eq_true rfl, Nat.le_of_ble_eq_true rfl, Nat.le_of_ble_eq_true rfl⟩ dX11_book_20 (fun H locs hS => ?_)
    refine lv_if_eq (tgt := 30) C.1 C.2.1 dX11_book_23 (by decide) (fun hc => ?_) (fun hc => ?_)
    · have hf := zif_t hc hf
      exact w_X11_book_30 C hm hk  _ _ _ _ _ _ (lv_sub hl [0, 1, 2] rfl) hS hf
    · have hf := zif_f hc hf
      refine lv_iconst (v := (1 : Int32)) C.1 C.2.1 dX11_book_26 rfl ?_
      refine lv_goto (tgt := 31) C.1 C.2.1 dX11_book_27 (by decide) ?_
      exact w_X11_book_31 C hm hk  _ _ _ _ _ _ _ (lv_sub hl [0, 1, 2] rfl) hS hf
end
section
theorem dX11_fame_0 : decode cX11_fame 0 = .ok (.iload_n 1, 1) := by decide +kernel
theorem dX11_fame_1 : decode cX11_fame 1 = .ok (.bipush 6, 2) := by decide +kernel
theorem dX11_fame_3 : decode cX11_fame 3 = .ok (.invokestatic 50, 3) := by decide +kernel
theorem dX11_fame_6 : decode cX11_fame 6 = .ok (.ifCond .eq 18, 3) := by decide +kernel
theorem dX11_fame_9 : decode cX11_fame 9 = .ok (.aload_n 0, 1) := by decide +kernel
theorem dX11_fame_10 : decode cX11_fame 10 = .ok (.getfield 12, 3) := by decide +kernel
theorem dX11_fame_13 : decode cX11_fame 13 = .ok (.getfield 154, 3) := by decide +kernel
theorem dX11_fame_16 : decode cX11_fame 16 = .ok (.getfield 225, 3) := by decide +kernel
theorem dX11_fame_19 : decode cX11_fame 19 = .ok (.iload_n 1, 1) := by decide +kernel
theorem dX11_fame_20 : decode cX11_fame 20 = .ok (.iaload, 1) := by decide +kernel
theorem dX11_fame_21 : decode cX11_fame 21 = .ok (.goto 4, 3) := by decide +kernel
theorem dX11_fame_24 : decode cX11_fame 24 = .ok (.iconst (-1), 1) := by decide +kernel
theorem dX11_fame_25 : decode cX11_fame 25 = .ok (.ireturn, 1) := by decide +kernel
abbrev nd_X11_fame : List Nat := [0, 1, 11, 14]
abbrev ld_X11_fame : List (Nat × Nat) := [(0, 0), (1, 2), (11, 2)]
theorem sn_X11_fame_X11_isBelow : ∀ c ∈ nd_X11_isBelow, c ∈ nd_X11_fame := by decide
theorem sl_X11_fame_X11_isBelow : ∀ q ∈ ld_X11_isBelow, q ∈ ld_X11_fame := by decide
def f_X11_fame  (x1 : Int32) (h : zH) : zR := (zbd (f_X11_isBelow x1 (6 : Int32) h) fun r1 h2 => (if r1 = 0 then (some ((-1 : Int32), h2)) else (zck x1 6 (some ((h2 14 (Int32.toNatClampNeg x1)), h2)))))
variable {p : Program} {l : Launch} {e : Env} {s : State} {m : MethodId} {args : Array Value} {below : List Frame} {meth : Method} {c : Code} {G : zG} {q : Int32 × zH}
set_option maxHeartbeats 4000000 in
set_option maxRecDepth 100000 in
theorem c_X11_fame (l : Launch) (G : zG) (h : zH) (x1 : Int32) (q : Int32 × zH) (hm : ∀ c ∈ nd_X11_fame, c ∈ znm G) (hk : ∀ q ∈ ld_X11_fame, zlk G q.1 q.2 = true) (hf : f_X11_fame x1 h = some q) : zCtI l yX11_fame cX11_fame 2 (some .int) (3) [.ref (zal G 0), .int x1] G h q.2 q.1 := by
  refine zMetI (by decide) (Nat.le_of_ble_eq_true rfl) ?_
  intro p e s m below meth c ls C hl hS
  have hl : lv_has ls 2 [(0, .ref (zal G 0)), (1, .int x1)] := hl
  have C : zC G p s m [.ref (zal G 0), .int x1].toArray meth c cX11_fame 2 RX11 (some .int) := C
  unfold f_X11_fame at hf
  refine lv_iload_n C.1 C.2.1 dX11_fame_0 rfl (lv_at hl 1 rfl) ?_
  refine lv_bipush (v := (6 : Int32)) C.1 C.2.1 dX11_fame_1 rfl ?_
  obtain ⟨r1, h2, er1, hf⟩ := zbd_some hf
  refine zcallSI (As := [.int x1, .int (6 : Int32)]) (rest := []) C hS ms_X11_50 (c_X11_isBelow l G h x1 (6 : Int32) (r1, h2) (fun c h => hm c (sn_X11_fame_X11_isBelow c h)) (fun q h => hk q (sl_X11_fame_X11_isBelow q h)) er1) rfl rfl (Nat.le_of_ble_eq_true rfl) hl.1 ⟨Nat.le_of_ble_eq_true rfl, Nat.le_of_ble_eq_true rfl, Nat.le_of_ble_eq_true rfl, Nat.le_of_ble_eq_true rfl⟩ dX11_fame_3 (fun H locs hS => ?_)
  refine lv_if_eq (tgt := 24) C.1 C.2.1 dX11_fame_6 (by decide) (fun hc => ?_) (fun hc => ?_)
  · have hf := zif_t hc hf
    refine lv_iconst (v := (-1 : Int32)) C.1 C.2.1 dX11_fame_24 rfl ?_
    exact zretI C hS hf dX11_fame_25
  · have hf := zif_f hc hf
    refine lv_aload_n C.1 C.2.1 dX11_fame_9 rfl (lv_at hl 0 rfl) ?_
    refine zgetR C hS ff_X11_12_0 (hm 0 (by decide)) (hk (0, 0) (by decide)) dX11_fame_10 ?_
    refine zgetR C hS ff_X11_154_1 (hm 1 (by decide)) (hk (1, 2) (by decide)) dX11_fame_13 ?_
    refine zgetR C hS ff_X11_225_11 (hm 11 (by decide)) (hk (11, 2) (by decide)) dX11_fame_16 ?_
    refine lv_iload_n C.1 C.2.1 dX11_fame_19 rfl (lv_at hl 1 rfl) ?_
    obtain ⟨hi, hf⟩ := zck_some hf
    refine zald C hS sh_14 (hm 14 (by decide)) hi dX11_fame_20 ?_
    refine lv_goto (tgt := 25) C.1 C.2.1 dX11_fame_21 (by decide) ?_
    exact zretI C hS hf dX11_fame_25
end
section
theorem dX3_isLike_0 : decode cX3_isLike 0 = .ok (.iload_n 2, 1) := by decide +kernel
theorem dX3_isLike_1 : decode cX3_isLike 1 = .ok (.iload_n 1, 1) := by decide +kernel
theorem dX3_isLike_2 : decode cX3_isLike 2 = .ok (.if_icmp .eq 38, 3) := by decide +kernel
theorem dX3_isLike_5 : decode cX3_isLike 5 = .ok (.aload_n 0, 1) := by decide +kernel
theorem dX3_isLike_6 : decode cX3_isLike 6 = .ok (.getfield 9, 3) := by decide +kernel
theorem dX3_isLike_9 : decode cX3_isLike 9 = .ok (.iload_n 2, 1) := by decide +kernel
theorem dX3_isLike_10 : decode cX3_isLike 10 = .ok (.iaload, 1) := by decide +kernel
theorem dX3_isLike_11 : decode cX3_isLike 11 = .ok (.aload_n 0, 1) := by decide +kernel
theorem dX3_isLike_12 : decode cX3_isLike 12 = .ok (.getfield 9, 3) := by decide +kernel
theorem dX3_isLike_15 : decode cX3_isLike 15 = .ok (.iload_n 1, 1) := by decide +kernel
theorem dX3_isLike_16 : decode cX3_isLike 16 = .ok (.iaload, 1) := by decide +kernel
theorem dX3_isLike_17 : decode cX3_isLike 17 = .ok (.if_icmp .ne 23, 3) := by decide +kernel
theorem dX3_isLike_20 : decode cX3_isLike 20 = .ok (.aload_n 0, 1) := by decide +kernel
theorem dX3_isLike_21 : decode cX3_isLike 21 = .ok (.getfield 18, 3) := by decide +kernel
theorem dX3_isLike_24 : decode cX3_isLike 24 = .ok (.iload_n 2, 1) := by decide +kernel
theorem dX3_isLike_25 : decode cX3_isLike 25 = .ok (.iaload, 1) := by decide +kernel
theorem dX3_isLike_26 : decode cX3_isLike 26 = .ok (.aload_n 0, 1) := by decide +kernel
theorem dX3_isLike_27 : decode cX3_isLike 27 = .ok (.getfield 18, 3) := by decide +kernel
theorem dX3_isLike_30 : decode cX3_isLike 30 = .ok (.iload_n 1, 1) := by decide +kernel
theorem dX3_isLike_31 : decode cX3_isLike 31 = .ok (.iaload, 1) := by decide +kernel
theorem dX3_isLike_32 : decode cX3_isLike 32 = .ok (.isub, 1) := by decide +kernel
theorem dX3_isLike_33 : decode cX3_isLike 33 = .ok (.invokestatic 53, 3) := by decide +kernel
theorem dX3_isLike_36 : decode cX3_isLike 36 = .ok (.iload_n 3, 1) := by decide +kernel
theorem dX3_isLike_37 : decode cX3_isLike 37 = .ok (.if_icmp .le 5, 3) := by decide +kernel
theorem dX3_isLike_40 : decode cX3_isLike 40 = .ok (.iconst 0, 1) := by decide +kernel
theorem dX3_isLike_41 : decode cX3_isLike 41 = .ok (.ireturn, 1) := by decide +kernel
theorem dX3_isLike_42 : decode cX3_isLike 42 = .ok (.iconst 0, 1) := by decide +kernel
theorem dX3_isLike_43 : decode cX3_isLike 43 = .ok (.istore 4, 2) := by decide +kernel
theorem dX3_isLike_45 : decode cX3_isLike 45 = .ok (.iload 4, 2) := by decide +kernel
theorem dX3_isLike_47 : decode cX3_isLike 47 = .ok (.bipush 6, 2) := by decide +kernel
theorem dX3_isLike_49 : decode cX3_isLike 49 = .ok (.if_icmp .ge 31, 3) := by decide +kernel
theorem dX3_isLike_52 : decode cX3_isLike 52 = .ok (.aload_n 0, 1) := by decide +kernel
theorem dX3_isLike_53 : decode cX3_isLike 53 = .ok (.iload_n 2, 1) := by decide +kernel
theorem dX3_isLike_54 : decode cX3_isLike 54 = .ok (.iload 4, 2) := by decide +kernel
theorem dX3_isLike_56 : decode cX3_isLike 56 = .ok (.invokevirtual 42, 3) := by decide +kernel
theorem dX3_isLike_59 : decode cX3_isLike 59 = .ok (.ifCond .le 15, 3) := by decide +kernel
theorem dX3_isLike_62 : decode cX3_isLike 62 = .ok (.aload_n 0, 1) := by decide +kernel
theorem dX3_isLike_63 : decode cX3_isLike 63 = .ok (.iload_n 1, 1) := by decide +kernel
theorem dX3_isLike_64 : decode cX3_isLike 64 = .ok (.iload 4, 2) := by decide +kernel
theorem dX3_isLike_66 : decode cX3_isLike 66 = .ok (.invokevirtual 42, 3) := by decide +kernel
theorem dX3_isLike_69 : decode cX3_isLike 69 = .ok (.ifCond .ne 5, 3) := by decide +kernel
theorem dX3_isLike_72 : decode cX3_isLike 72 = .ok (.iconst 1, 1) := by decide +kernel
theorem dX3_isLike_73 : decode cX3_isLike 73 = .ok (.ireturn, 1) := by decide +kernel
theorem dX3_isLike_74 : decode cX3_isLike 74 = .ok (.iinc 4 1, 3) := by decide +kernel
theorem dX3_isLike_77 : decode cX3_isLike 77 = .ok (.goto (-32), 3) := by decide +kernel
theorem dX3_isLike_80 : decode cX3_isLike 80 = .ok (.iconst 0, 1) := by decide +kernel
theorem dX3_isLike_81 : decode cX3_isLike 81 = .ok (.ireturn, 1) := by decide +kernel
abbrev nd_X3_isLike : List Nat := [2, 3, 5, 6]
abbrev ld_X3_isLike : List (Nat × Nat) := [(2, 0), (2, 2), (2, 3)]
theorem sn_X3_isLike_X3_quartersOf : ∀ c ∈ nd_X3_quartersOf, c ∈ nd_X3_isLike := by decide
theorem sl_X3_isLike_X3_quartersOf : ∀ q ∈ ld_X3_quartersOf, q ∈ ld_X3_isLike := by decide
def f_X3_isLike_40  (h : zH) : zR := (some ((0 : Int32), h))
def f_X3_isLike_74 (k45 : Int32 → Int32 → Int32 → zH → zR) (x1 : Int32) (x2 : Int32) (x4 : Int32) (h : zH) : zR := (zlt (x4 + (1 : Int32)) fun y3 => (k45 x1 x2 y3 h))
def f_X3_isLike_45  : Nat → Int32 → Int32 → Int32 → zH → zR
  | 0 => fun _ _ _ _ => none
  | n + 1 => fun x1 x2 x4 h => (if (6 : Int32) ≤ x4 then (some ((0 : Int32), h)) else (zbd (f_X3_quartersOf x2 x4 h) fun r1 h2 => (if r1 ≤ 0 then (f_X3_isLike_74 (f_X3_isLike_45  n) x1 x2 x4 h2) else (zbd (f_X3_quartersOf x1 x4 h2) fun r4 h5 => (if r4 = 0 then (some ((1 : Int32), h5)) else (f_X3_isLike_74 (f_X3_isLike_45  n) x1 x2 x4 h5))))))
def f_X3_isLike  (x1 : Int32) (x2 : Int32) (x3 : Int32) (h : zH) : zR := (if x2 = x1 then (f_X3_isLike_40   h) else (zck x2 16 (zck x1 16 (if (h 3 (Int32.toNatClampNeg x2)) = (h 3 (Int32.toNatClampNeg x1)) then (zck x2 16 (zck x1 16 (if (if 0 ≤ ((h 5 (Int32.toNatClampNeg x2)) - (h 5 (Int32.toNatClampNeg x1))) then ((h 5 (Int32.toNatClampNeg x2)) - (h 5 (Int32.toNatClampNeg x1))) else 0 - ((h 5 (Int32.toNatClampNeg x2)) - (h 5 (Int32.toNatClampNeg x1)))) ≤ x3 then (f_X3_isLike_45  zN x1 x2 (0 : Int32) h) else (f_X3_isLike_40   h)))) else (f_X3_isLike_40   h)))))
variable {p : Program} {l : Launch} {e : Env} {s : State} {m : MethodId} {args : Array Value} {below : List Frame} {meth : Method} {c : Code} {G : zG} {q : Int32 × zH}
set_option maxHeartbeats 4000000 in
set_option maxRecDepth 100000 in
theorem w_X3_isLike_40  (C : zC G p s m args meth c cX3_isLike 5 RX3 (some .boolean)) (hm : ∀ c ∈ nd_X3_isLike, c ∈ znm G) (hk : ∀ q ∈ ld_X3_isLike, zlk G q.1 q.2 = true)  : ∀ (ls : Array Slot) (H : Heap) (locs : List Loc) (h : zH), lv_has ls 5 [] → zS G h s.heap H locs → f_X3_isLike_40  h = some q → W p l e (zrm (3)) s m args below meth c H locs 0 0 (MQ below (zQI G q.2 q.1) args s 0 0 (zA G)) (F0 m 40 ls []) := by
  intro ls H locs h hl hS hf
  unfold f_X3_isLike_40 at hf
  refine lv_iconst (v := (0 : Int32)) C.1 C.2.1 dX3_isLike_40 rfl ?_
  exact zretZ C hS rfl hf dX3_isLike_41
set_option maxHeartbeats 4000000 in
set_option maxRecDepth 100000 in
theorem w_X3_isLike_74 {k45 : Int32 → Int32 → Int32 → zH → zR} (C : zC G p s m args meth c cX3_isLike 5 RX3 (some .boolean)) (hm : ∀ c ∈ nd_X3_isLike, c ∈ znm G) (hk : ∀ q ∈ ld_X3_isLike, zlk G q.1 q.2 = true) (hk45 : ∀ (ls : Array Slot) (H : Heap) (locs : List Loc) (h : zH) (x1 : Int32) (x2 : Int32) (x4 : Int32), lv_has ls 5 [(0, .ref (zal G 2)), (1, .int x1), (2, .int x2), (4, .int x4)] → zS G h s.heap H locs → k45 x1 x2 x4 h = some q → W p l e (zrm (3)) s m args below meth c H locs 0 0 (MQ below (zQI G q.2 q.1) args s 0 0 (zA G)) (F0 m 45 ls [])) : ∀ (ls : Array Slot) (H : Heap) (locs : List Loc) (h : zH) (x1 : Int32) (x2 : Int32) (x4 : Int32), lv_has ls 5 [(0, .ref (zal G 2)), (1, .int x1), (2, .int x2), (4, .int x4)] → zS G h s.heap H locs → f_X3_isLike_74 k45 x1 x2 x4 h = some q → W p l e (zrm (3)) s m args below meth c H locs 0 0 (MQ below (zQI G q.2 q.1) args s 0 0 (zA G)) (F0 m 74 ls []) := by
  intro ls H locs h x1 x2 x4 hl hS hf
  unfold f_X3_isLike_74 at hf
  obtain ⟨y3, ey3, hf⟩ := zlt_some hf
  refine lv_iinc (v := y3) (lv' := [(4, .int y3), (0, .ref (zal G 2)), (1, .int x1), (2, .int x2)]) C.1 C.2.1 dX3_isLike_74 hl (k := 3) rfl ey3.symm (by decide) rfl (fun ls hl => ?_)
  refine lv_goto (tgt := 45) C.1 C.2.1 dX3_isLike_77 (by decide) ?_
  exact hk45 _ _ _ _ _ _ _ (lv_sub hl [1, 2, 3, 0] rfl) hS hf
set_option maxHeartbeats 4000000 in
set_option maxRecDepth 100000 in
theorem w_X3_isLike_45  (C : zC G p s m args meth c cX3_isLike 5 RX3 (some .boolean)) (hm : ∀ c ∈ nd_X3_isLike, c ∈ znm G) (hk : ∀ q ∈ ld_X3_isLike, zlk G q.1 q.2 = true)  : ∀ n, ∀ (ls : Array Slot) (H : Heap) (locs : List Loc) (h : zH) (x1 : Int32) (x2 : Int32) (x4 : Int32), lv_has ls 5 [(0, .ref (zal G 2)), (1, .int x1), (2, .int x2), (4, .int x4)] → zS G h s.heap H locs → f_X3_isLike_45  n x1 x2 x4 h = some q → W p l e (zrm (3)) s m args below meth c H locs 0 0 (MQ below (zQI G q.2 q.1) args s 0 0 (zA G)) (F0 m 45 ls []) := by
  intro n
  induction n with
  | zero => intro ls H locs h x1 x2 x4 hl hS hf; cases hf
  | succ n ih =>
    intro ls H locs h x1 x2 x4 hl hS hf
    rw [f_X3_isLike_45] at hf
    refine lv_iload C.1 C.2.1 dX3_isLike_45 (lv_at hl 3 rfl) ?_
    refine lv_bipush (v := (6 : Int32)) C.1 C.2.1 dX3_isLike_47 rfl ?_
    refine lv_icmp_ge (tgt := 80) C.1 C.2.1 dX3_isLike_49 (by decide) (fun hc => ?_) (fun hc => ?_)
    · have hf := zif_t hc hf
      refine lv_iconst (v := (0 : Int32)) C.1 C.2.1 dX3_isLike_80 rfl ?_
      exact zretZ C hS rfl hf dX3_isLike_81
    · have hf := zif_f hc hf
      refine lv_aload_n C.1 C.2.1 dX3_isLike_52 rfl (lv_at hl 0 rfl) ?_
      refine lv_iload_n C.1 C.2.1 dX3_isLike_53 rfl (lv_at hl 2 rfl) ?_
      refine lv_iload C.1 C.2.1 dX3_isLike_54 (lv_at hl 3 rfl) ?_
      obtain ⟨r1, h2, er1, hf⟩ := zbd_some hf
      refine zcallVI (As := [.int x2, .int x4]) (rest := []) C hS mv_X3_42 (c_X3_quartersOf l G h x2 x4 (r1, h2) (fun c h => hm c (sn_X3_isLike_X3_quartersOf c h)) (fun q h => hk q (sl_X3_isLike_X3_quartersOf q h)) er1) (hm 2 (by decide)) ⟨_, _, _, sh_2, rfl, rfl⟩ rfl rfl (Nat.le_of_ble_eq_true rfl) hl.1 ⟨Nat.le_of_ble_eq_true rfl, Nat.le_of_ble_eq_true rfl, Nat.le_of_ble_eq_true rfl, Nat.le_of_ble_eq_true rfl⟩ dX3_isLike_56 (fun H locs hS => ?_)
      refine lv_if_le (tgt := 74) C.1 C.2.1 dX3_isLike_59 (by decide) (fun hc => ?_) (fun hc => ?_)
      · have hf := zif_t hc hf
        exact w_X3_isLike_74 C hm hk ih _ _ _ _ _ _ _ (lv_sub hl [0, 1, 2, 3] rfl) hS hf
      · have hf := zif_f hc hf
        refine lv_aload_n C.1 C.2.1 dX3_isLike_62 rfl (lv_at hl 0 rfl) ?_
        refine lv_iload_n C.1 C.2.1 dX3_isLike_63 rfl (lv_at hl 1 rfl) ?_
        refine lv_iload C.1 C.2.1 dX3_isLike_64 (lv_at hl 3 rfl) ?_
        obtain ⟨r4, h5, er4, hf⟩ := zbd_some hf
        refine zcallVI (As := [.int x1, .int x4]) (rest := []) C hS mv_X3_42 (c_X3_quartersOf l G h2 x1 x4 (r4, h5) (fun c h => hm c (sn_X3_isLike_X3_quartersOf c h)) (fun q h => hk q (sl_X3_isLike_X3_quartersOf q h)) er4) (hm 2 (by decide)) ⟨_, _, _, sh_2, rfl, rfl⟩ rfl rfl (Nat.le_of_ble_eq_true rfl) hl.1 ⟨Nat.le_of_ble_eq_true rfl, Nat.le_of_ble_eq_true rfl, Nat.le_of_ble_eq_true rfl, Nat.le_of_ble_eq_true rfl⟩ dX3_isLike_66 (fun H locs hS => ?_)
        refine lv_if_ne (tgt := 74) C.1 C.2.1 dX3_isLike_69 (by decide) (fun hc => ?_) (fun hc => ?_)
        · have hf := zif_f hc hf
          exact w_X3_isLike_74 C hm hk ih _ _ _ _ _ _ _ (lv_sub hl [0, 1, 2, 3] rfl) hS hf
        · have hf := zif_t hc hf
          refine lv_iconst (v := (1 : Int32)) C.1 C.2.1 dX3_isLike_72 rfl ?_
          exact zretZ C hS rfl hf dX3_isLike_73
set_option maxHeartbeats 4000000 in
set_option maxRecDepth 100000 in
theorem c_X3_isLike (l : Launch) (G : zG) (h : zH) (x1 : Int32) (x2 : Int32) (x3 : Int32) (q : Int32 × zH) (hm : ∀ c ∈ nd_X3_isLike, c ∈ znm G) (hk : ∀ q ∈ ld_X3_isLike, zlk G q.1 q.2 = true) (hf : f_X3_isLike x1 x2 x3 h = some q) : zCtI l yX3_isLike cX3_isLike 5 (some .boolean) (3) [.ref (zal G 2), .int x1, .int x2, .int x3] G h q.2 q.1 := by
  refine zMetI (by decide) (Nat.le_of_ble_eq_true rfl) ?_
  intro p e s m below meth c ls C hl hS
  have hl : lv_has ls 5 [(0, .ref (zal G 2)), (1, .int x1), (2, .int x2), (3, .int x3)] := hl
  have C : zC G p s m [.ref (zal G 2), .int x1, .int x2, .int x3].toArray meth c cX3_isLike 5 RX3 (some .boolean) := C
  unfold f_X3_isLike at hf
  refine lv_iload_n C.1 C.2.1 dX3_isLike_0 rfl (lv_at hl 2 rfl) ?_
  refine lv_iload_n C.1 C.2.1 dX3_isLike_1 rfl (lv_at hl 1 rfl) ?_
  refine lv_icmp_eq (tgt := 40) C.1 C.2.1 dX3_isLike_2 (by decide) (fun hc => ?_) (fun hc => ?_)
  · have hf := zif_t hc hf
    exact w_X3_isLike_40 C hm hk  _ _ _ _ (lv_sub hl [] rfl) hS hf
  · have hf := zif_f hc hf
    refine lv_aload_n C.1 C.2.1 dX3_isLike_5 rfl (lv_at hl 0 rfl) ?_
    refine zgetR C hS ff_X3_9_2 (hm 2 (by decide)) (hk (2, 0) (by decide)) dX3_isLike_6 ?_
    refine lv_iload_n C.1 C.2.1 dX3_isLike_9 rfl (lv_at hl 2 rfl) ?_
    obtain ⟨hi, hf⟩ := zck_some hf
    refine zald C hS sh_3 (hm 3 (by decide)) hi dX3_isLike_10 ?_
    refine lv_aload_n C.1 C.2.1 dX3_isLike_11 rfl (lv_at hl 0 rfl) ?_
    refine zgetR C hS ff_X3_9_2 (hm 2 (by decide)) (hk (2, 0) (by decide)) dX3_isLike_12 ?_
    refine lv_iload_n C.1 C.2.1 dX3_isLike_15 rfl (lv_at hl 1 rfl) ?_
    obtain ⟨hi, hf⟩ := zck_some hf
    refine zald C hS sh_3 (hm 3 (by decide)) hi dX3_isLike_16 ?_
    refine lv_icmp_ne (tgt := 40) C.1 C.2.1 dX3_isLike_17 (by decide) (fun hc => ?_) (fun hc => ?_)
    · have hf := zif_f hc hf
      exact w_X3_isLike_40 C hm hk  _ _ _ _ (lv_sub hl [] rfl) hS hf
    · have hf := zif_t hc hf
      refine lv_aload_n C.1 C.2.1 dX3_isLike_20 rfl (lv_at hl 0 rfl) ?_
      refine zgetR C hS ff_X3_18_2 (hm 2 (by decide)) (hk (2, 2) (by decide)) dX3_isLike_21 ?_
      refine lv_iload_n C.1 C.2.1 dX3_isLike_24 rfl (lv_at hl 2 rfl) ?_
      obtain ⟨hi, hf⟩ := zck_some hf
      refine zald C hS sh_5 (hm 5 (by decide)) hi dX3_isLike_25 ?_
      refine lv_aload_n C.1 C.2.1 dX3_isLike_26 rfl (lv_at hl 0 rfl) ?_
      refine zgetR C hS ff_X3_18_2 (hm 2 (by decide)) (hk (2, 2) (by decide)) dX3_isLike_27 ?_
      refine lv_iload_n C.1 C.2.1 dX3_isLike_30 rfl (lv_at hl 1 rfl) ?_
      obtain ⟨hi, hf⟩ := zck_some hf
      refine zald C hS sh_5 (hm 5 (by decide)) hi dX3_isLike_31 ?_
      refine lv_isub C.1 C.2.1 dX3_isLike_32 ?_
      refine zabs C kw_1021 (Nat.le_of_ble_eq_true rfl) hl.1 ⟨Nat.le_of_ble_eq_true rfl, Nat.le_of_ble_eq_true rfl, Nat.le_of_ble_eq_true rfl, Nat.le_of_ble_eq_true rfl⟩ dX3_isLike_33 ?_
      refine lv_iload_n C.1 C.2.1 dX3_isLike_36 rfl (lv_at hl 3 rfl) ?_
      refine lv_icmp_le (tgt := 42) C.1 C.2.1 dX3_isLike_37 (by decide) (fun hc => ?_) (fun hc => ?_)
      · have hf := zif_t hc hf
        refine lv_iconst (v := (0 : Int32)) C.1 C.2.1 dX3_isLike_42 rfl ?_
        refine lv_istore (lv' := [(4, .int (0 : Int32)), (0, .ref (zal G 2)), (1, .int x1), (2, .int x2), (3, .int x3)]) C.1 C.2.1 dX3_isLike_43 hl (by decide) rfl (fun ls hl => ?_)
        exact w_X3_isLike_45 C hm hk  zN _ _ _ _ _ _ _ (lv_sub hl [1, 2, 3, 0] rfl) hS hf
      · have hf := zif_f hc hf
        exact w_X3_isLike_40 C hm hk  _ _ _ _ (lv_sub hl [] rfl) hS hf
end
section
theorem dX11_like_0 : decode cX11_like 0 = .ok (.aload_n 0, 1) := by decide +kernel
theorem dX11_like_1 : decode cX11_like 1 = .ok (.getfield 12, 3) := by decide +kernel
theorem dX11_like_4 : decode cX11_like 4 = .ok (.getfield 54, 3) := by decide +kernel
theorem dX11_like_7 : decode cX11_like 7 = .ok (.iload_n 1, 1) := by decide +kernel
theorem dX11_like_8 : decode cX11_like 8 = .ok (.invokevirtual 67, 3) := by decide +kernel
theorem dX11_like_11 : decode cX11_like 11 = .ok (.ifCond .eq 12, 3) := by decide +kernel
theorem dX11_like_14 : decode cX11_like 14 = .ok (.iload_n 2, 1) := by decide +kernel
theorem dX11_like_15 : decode cX11_like 15 = .ok (.bipush 100, 2) := by decide +kernel
theorem dX11_like_17 : decode cX11_like 17 = .ok (.invokestatic 50, 3) := by decide +kernel
theorem dX11_like_20 : decode cX11_like 20 = .ok (.ifCond .ne 5, 3) := by decide +kernel
theorem dX11_like_23 : decode cX11_like 23 = .ok (.iconst (-1), 1) := by decide +kernel
theorem dX11_like_24 : decode cX11_like 24 = .ok (.ireturn, 1) := by decide +kernel
theorem dX11_like_25 : decode cX11_like 25 = .ok (.iconst 0, 1) := by decide +kernel
theorem dX11_like_26 : decode cX11_like 26 = .ok (.istore_n 3, 1) := by decide +kernel
theorem dX11_like_27 : decode cX11_like 27 = .ok (.iconst 0, 1) := by decide +kernel
theorem dX11_like_28 : decode cX11_like 28 = .ok (.istore 4, 2) := by decide +kernel
theorem dX11_like_30 : decode cX11_like 30 = .ok (.iload 4, 2) := by decide +kernel
theorem dX11_like_32 : decode cX11_like 32 = .ok (.aload_n 0, 1) := by decide +kernel
theorem dX11_like_33 : decode cX11_like 33 = .ok (.getfield 12, 3) := by decide +kernel
theorem dX11_like_36 : decode cX11_like 36 = .ok (.getfield 54, 3) := by decide +kernel
theorem dX11_like_39 : decode cX11_like 39 = .ok (.getfield 58, 3) := by decide +kernel
theorem dX11_like_42 : decode cX11_like 42 = .ok (.if_icmp .ge 33, 3) := by decide +kernel
theorem dX11_like_45 : decode cX11_like 45 = .ok (.aload_n 0, 1) := by decide +kernel
theorem dX11_like_46 : decode cX11_like 46 = .ok (.getfield 12, 3) := by decide +kernel
theorem dX11_like_49 : decode cX11_like 49 = .ok (.getfield 54, 3) := by decide +kernel
theorem dX11_like_52 : decode cX11_like 52 = .ok (.iload_n 1, 1) := by decide +kernel
theorem dX11_like_53 : decode cX11_like 53 = .ok (.iload 4, 2) := by decide +kernel
theorem dX11_like_55 : decode cX11_like 55 = .ok (.iload_n 2, 1) := by decide +kernel
theorem dX11_like_56 : decode cX11_like 56 = .ok (.invokevirtual 269, 3) := by decide +kernel
theorem dX11_like_59 : decode cX11_like 59 = .ok (.ifCond .eq 10, 3) := by decide +kernel
theorem dX11_like_62 : decode cX11_like 62 = .ok (.iload_n 3, 1) := by decide +kernel
theorem dX11_like_63 : decode cX11_like 63 = .ok (.iconst 1, 1) := by decide +kernel
theorem dX11_like_64 : decode cX11_like 64 = .ok (.iload 4, 2) := by decide +kernel
theorem dX11_like_66 : decode cX11_like 66 = .ok (.ishl, 1) := by decide +kernel
theorem dX11_like_67 : decode cX11_like 67 = .ok (.ior, 1) := by decide +kernel
theorem dX11_like_68 : decode cX11_like 68 = .ok (.istore_n 3, 1) := by decide +kernel
theorem dX11_like_69 : decode cX11_like 69 = .ok (.iinc 4 1, 3) := by decide +kernel
theorem dX11_like_72 : decode cX11_like 72 = .ok (.goto (-42), 3) := by decide +kernel
theorem dX11_like_75 : decode cX11_like 75 = .ok (.iload_n 3, 1) := by decide +kernel
theorem dX11_like_76 : decode cX11_like 76 = .ok (.ireturn, 1) := by decide +kernel
abbrev nd_X11_like : List Nat := [0, 1, 2, 3, 5, 6]
abbrev ld_X11_like : List (Nat × Nat) := [(0, 0), (1, 0), (2, 0), (2, 2), (2, 3)]
theorem sn_X11_like_X3_has : ∀ c ∈ nd_X3_has, c ∈ nd_X11_like := by decide
theorem sl_X11_like_X3_has : ∀ q ∈ ld_X3_has, q ∈ ld_X11_like := by decide
theorem sn_X11_like_X11_isBelow : ∀ c ∈ nd_X11_isBelow, c ∈ nd_X11_like := by decide
theorem sl_X11_like_X11_isBelow : ∀ q ∈ ld_X11_isBelow, q ∈ ld_X11_like := by decide
theorem sn_X11_like_X3_isLike : ∀ c ∈ nd_X3_isLike, c ∈ nd_X11_like := by decide
theorem sl_X11_like_X3_isLike : ∀ q ∈ ld_X3_isLike, q ∈ ld_X11_like := by decide
def f_X11_like_23  (h : zH) : zR := (some ((-1 : Int32), h))
def f_X11_like_69 (k30 : Int32 → Int32 → Int32 → Int32 → zH → zR) (x1 : Int32) (x2 : Int32) (x3 : Int32) (x4 : Int32) (h : zH) : zR := (zlt (x4 + (1 : Int32)) fun y7 => (k30 x1 x2 x3 y7 h))
def f_X11_like_30  : Nat → Int32 → Int32 → Int32 → Int32 → zH → zR
  | 0 => fun _ _ _ _ _ => none
  | n + 1 => fun x1 x2 x3 x4 h => (if (h 2 4) ≤ x4 then (some (x3, h)) else (zbd (f_X3_isLike x1 x4 x2 h) fun r5 h6 => (if r5 = 0 then (f_X11_like_69 (f_X11_like_30  n) x1 x2 x3 x4 h6) else (zlt (x3 ||| ((1 : Int32) <<< (x4 &&& 31))) fun y8 => (f_X11_like_69 (f_X11_like_30  n) x1 x2 y8 x4 h6)))))
def f_X11_like  (x1 : Int32) (x2 : Int32) (h : zH) : zR := (zbd (f_X3_has x1 h) fun r1 h2 => (if r1 = 0 then (f_X11_like_23   h2) else (zbd (f_X11_isBelow x2 (100 : Int32) h2) fun r3 h4 => (if r3 = 0 then (f_X11_like_23   h4) else (f_X11_like_30  zN x1 x2 (0 : Int32) (0 : Int32) h4)))))
variable {p : Program} {l : Launch} {e : Env} {s : State} {m : MethodId} {args : Array Value} {below : List Frame} {meth : Method} {c : Code} {G : zG} {q : Int32 × zH}
set_option maxHeartbeats 4000000 in
set_option maxRecDepth 100000 in
theorem w_X11_like_23  (C : zC G p s m args meth c cX11_like 5 RX11 (some .int)) (hm : ∀ c ∈ nd_X11_like, c ∈ znm G) (hk : ∀ q ∈ ld_X11_like, zlk G q.1 q.2 = true)  : ∀ (ls : Array Slot) (H : Heap) (locs : List Loc) (h : zH), lv_has ls 5 [] → zS G h s.heap H locs → f_X11_like_23  h = some q → W p l e (zrm (4)) s m args below meth c H locs 0 0 (MQ below (zQI G q.2 q.1) args s 0 0 (zA G)) (F0 m 23 ls []) := by
  intro ls H locs h hl hS hf
  unfold f_X11_like_23 at hf
  refine lv_iconst (v := (-1 : Int32)) C.1 C.2.1 dX11_like_23 rfl ?_
  exact zretI C hS hf dX11_like_24
set_option maxHeartbeats 4000000 in
set_option maxRecDepth 100000 in
theorem w_X11_like_69 {k30 : Int32 → Int32 → Int32 → Int32 → zH → zR} (C : zC G p s m args meth c cX11_like 5 RX11 (some .int)) (hm : ∀ c ∈ nd_X11_like, c ∈ znm G) (hk : ∀ q ∈ ld_X11_like, zlk G q.1 q.2 = true) (hk30 : ∀ (ls : Array Slot) (H : Heap) (locs : List Loc) (h : zH) (x1 : Int32) (x2 : Int32) (x3 : Int32) (x4 : Int32), lv_has ls 5 [(0, .ref (zal G 0)), (1, .int x1), (2, .int x2), (3, .int x3), (4, .int x4)] → zS G h s.heap H locs → k30 x1 x2 x3 x4 h = some q → W p l e (zrm (4)) s m args below meth c H locs 0 0 (MQ below (zQI G q.2 q.1) args s 0 0 (zA G)) (F0 m 30 ls [])) : ∀ (ls : Array Slot) (H : Heap) (locs : List Loc) (h : zH) (x1 : Int32) (x2 : Int32) (x3 : Int32) (x4 : Int32), lv_has ls 5 [(0, .ref (zal G 0)), (1, .int x1), (2, .int x2), (3, .int x3), (4, .int x4)] → zS G h s.heap H locs → f_X11_like_69 k30 x1 x2 x3 x4 h = some q → W p l e (zrm (4)) s m args below meth c H locs 0 0 (MQ below (zQI G q.2 q.1) args s 0 0 (zA G)) (F0 m 69 ls []) := by
  intro ls H locs h x1 x2 x3 x4 hl hS hf
  unfold f_X11_like_69 at hf
  obtain ⟨y7, ey7, hf⟩ := zlt_some hf
  refine lv_iinc (v := y7) (lv' := [(4, .int y7), (0, .ref (zal G 0)), (1, .int x1), (2, .int x2), (3, .int x3)]) C.1 C.2.1 dX11_like_69 hl (k := 4) rfl ey7.symm (by decide) rfl (fun ls hl => ?_)
  refine lv_goto (tgt := 30) C.1 C.2.1 dX11_like_72 (by decide) ?_
  exact hk30 _ _ _ _ _ _ _ _ (lv_sub hl [1, 2, 3, 4, 0] rfl) hS hf
set_option maxHeartbeats 4000000 in
set_option maxRecDepth 100000 in
theorem w_X11_like_30  (C : zC G p s m args meth c cX11_like 5 RX11 (some .int)) (hm : ∀ c ∈ nd_X11_like, c ∈ znm G) (hk : ∀ q ∈ ld_X11_like, zlk G q.1 q.2 = true)  : ∀ n, ∀ (ls : Array Slot) (H : Heap) (locs : List Loc) (h : zH) (x1 : Int32) (x2 : Int32) (x3 : Int32) (x4 : Int32), lv_has ls 5 [(0, .ref (zal G 0)), (1, .int x1), (2, .int x2), (3, .int x3), (4, .int x4)] → zS G h s.heap H locs → f_X11_like_30  n x1 x2 x3 x4 h = some q → W p l e (zrm (4)) s m args below meth c H locs 0 0 (MQ below (zQI G q.2 q.1) args s 0 0 (zA G)) (F0 m 30 ls []) := by
  intro n
  induction n with
  | zero => intro ls H locs h x1 x2 x3 x4 hl hS hf; cases hf
  | succ n ih =>
    intro ls H locs h x1 x2 x3 x4 hl hS hf
    rw [f_X11_like_30] at hf
    refine lv_iload C.1 C.2.1 dX11_like_30 (lv_at hl 4 rfl) ?_
    refine lv_aload_n C.1 C.2.1 dX11_like_32 rfl (lv_at hl 0 rfl) ?_
    refine zgetR C hS ff_X11_12_0 (hm 0 (by decide)) (hk (0, 0) (by decide)) dX11_like_33 ?_
    refine zgetR C hS ff_X11_54_1 (hm 1 (by decide)) (hk (1, 0) (by decide)) dX11_like_36 ?_
    refine zgetI C hS ff_X11_58_2 (hm 2 (by decide)) dX11_like_39 ?_
    refine lv_icmp_ge (tgt := 75) C.1 C.2.1 dX11_like_42 (by decide) (fun hc => ?_) (fun hc => ?_)
    · have hf := zif_t hc hf
      refine lv_iload_n C.1 C.2.1 dX11_like_75 rfl (lv_at hl 3 rfl) ?_
      exact zretI C hS hf dX11_like_76
    · have hf := zif_f hc hf
      refine lv_aload_n C.1 C.2.1 dX11_like_45 rfl (lv_at hl 0 rfl) ?_
      refine zgetR C hS ff_X11_12_0 (hm 0 (by decide)) (hk (0, 0) (by decide)) dX11_like_46 ?_
      refine zgetR C hS ff_X11_54_1 (hm 1 (by decide)) (hk (1, 0) (by decide)) dX11_like_49 ?_
      refine lv_iload_n C.1 C.2.1 dX11_like_52 rfl (lv_at hl 1 rfl) ?_
      refine lv_iload C.1 C.2.1 dX11_like_53 (lv_at hl 4 rfl) ?_
      refine lv_iload_n C.1 C.2.1 dX11_like_55 rfl (lv_at hl 2 rfl) ?_
      obtain ⟨r5, h6, er5, hf⟩ := zbd_some hf
      refine zcallVI (As := [.int x1, .int x4, .int x2]) (rest := []) C hS mv_X11_269 (c_X3_isLike l G h x1 x4 x2 (r5, h6) (fun c h => hm c (sn_X11_like_X3_isLike c h)) (fun q h => hk q (sl_X11_like_X3_isLike q h)) er5) (hm 2 (by decide)) ⟨_, _, _, sh_2, rfl, rfl⟩ rfl rfl (Nat.le_of_ble_eq_true rfl) hl.1 ⟨Nat.le_of_ble_eq_true rfl, Nat.le_of_ble_eq_true rfl, Nat.le_of_ble_eq_true rfl, Nat.le_of_ble_eq_true rfl⟩ dX11_like_56 (fun H locs hS => ?_)
      refine lv_if_eq (tgt := 69) C.1 C.2.1 dX11_like_59 (by decide) (fun hc => ?_) (fun hc => ?_)
      · have hf := zif_t hc hf
        exact w_X11_like_69 C hm hk ih _ _ _ _ _ _ _ _ (lv_sub hl [0, 1, 2, 3, 4] rfl) hS hf
      · have hf := zif_f hc hf
        refine lv_iload_n C.1 C.2.1 dX11_like_62 rfl (lv_at hl 3 rfl) ?_
        refine lv_iconst (v := (1 : Int32)) C.1 C.2.1 dX11_like_63 rfl ?_
        refine lv_iload C.1 C.2.1 dX11_like_64 (lv_at hl 4 rfl) ?_
        refine lv_ishl C.1 C.2.1 dX11_like_66 ?_
        refine lv_ior C.1 C.2.1 dX11_like_67 ?_
        obtain ⟨y8, ey8, hf⟩ := zlt_some hf
        refine ztop ey8 ?_
        refine lv_istore_n (lv' := [(3, .int y8), (0, .ref (zal G 0)), (1, .int x1), (2, .int x2), (4, .int x4)]) C.1 C.2.1 dX11_like_68 rfl hl (by decide) rfl (fun ls hl => ?_)
        exact w_X11_like_69 C hm hk ih _ _ _ _ _ _ _ _ (lv_sub hl [1, 2, 3, 0, 4] rfl) hS hf
set_option maxHeartbeats 4000000 in
set_option maxRecDepth 100000 in
theorem c_X11_like (l : Launch) (G : zG) (h : zH) (x1 : Int32) (x2 : Int32) (q : Int32 × zH) (hm : ∀ c ∈ nd_X11_like, c ∈ znm G) (hk : ∀ q ∈ ld_X11_like, zlk G q.1 q.2 = true) (hf : f_X11_like x1 x2 h = some q) : zCtI l yX11_like cX11_like 5 (some .int) (4) [.ref (zal G 0), .int x1, .int x2] G h q.2 q.1 := by
  refine zMetI (by decide) (Nat.le_of_ble_eq_true rfl) ?_
  intro p e s m below meth c ls C hl hS
  have hl : lv_has ls 5 [(0, .ref (zal G 0)), (1, .int x1), (2, .int x2)] := hl
  have C : zC G p s m [.ref (zal G 0), .int x1, .int x2].toArray meth c cX11_like 5 RX11 (some .int) := C
  unfold f_X11_like at hf
  refine lv_aload_n C.1 C.2.1 dX11_like_0 rfl (lv_at hl 0 rfl) ?_
  refine zgetR C hS ff_X11_12_0 (hm 0 (by decide)) (hk (0, 0) (by decide)) dX11_like_1 ?_
  refine zgetR C hS ff_X11_54_1 (hm 1 (by decide)) (hk (1, 0) (by decide)) dX11_like_4 ?_
  refine lv_iload_n C.1 C.2.1 dX11_like_7 rfl (lv_at hl 1 rfl) ?_
  obtain ⟨r1, h2, er1, hf⟩ := zbd_some hf
  refine zcallVI (As := [.int x1]) (rest := []) C hS mv_X11_67 (c_X3_has l G h x1 (r1, h2) (fun c h => hm c (sn_X11_like_X3_has c h)) (fun q h => hk q (sl_X11_like_X3_has q h)) er1) (hm 2 (by decide)) ⟨_, _, _, sh_2, rfl, rfl⟩ rfl rfl (Nat.le_of_ble_eq_true rfl) hl.1 ⟨Nat.le_of_ble_eq_true rfl, Nat.le_of_ble_eq_true rfl, Nat.le_of_ble_eq_true rfl, Nat.le_of_ble_eq_true rfl⟩ dX11_like_8 (fun H locs hS => ?_)
  refine lv_if_eq (tgt := 23) C.1 C.2.1 dX11_like_11 (by decide) (fun hc => ?_) (fun hc => ?_)
  · have hf := zif_t hc hf
    exact w_X11_like_23 C hm hk  _ _ _ _ (lv_sub hl [] rfl) hS hf
  · have hf := zif_f hc hf
    refine lv_iload_n C.1 C.2.1 dX11_like_14 rfl (lv_at hl 2 rfl) ?_
    refine lv_bipush (v := (100 : Int32)) C.1 C.2.1 dX11_like_15 rfl ?_
    obtain ⟨r3, h4, er3, hf⟩ := zbd_some hf
    refine zcallSI (As := [.int x2, .int (100 : Int32)]) (rest := []) C hS ms_X11_50 (c_X11_isBelow l G h2 x2 (100 : Int32) (r3, h4) (fun c h => hm c (sn_X11_like_X11_isBelow c h)) (fun q h => hk q (sl_X11_like_X11_isBelow q h)) er3) rfl rfl (Nat.le_of_ble_eq_true rfl) hl.1 ⟨Nat.le_of_ble_eq_true rfl, Nat.le_of_ble_eq_true rfl, Nat.le_of_ble_eq_true rfl, Nat.le_of_ble_eq_true rfl⟩ dX11_like_17 (fun H locs hS => ?_)
    refine lv_if_ne (tgt := 25) C.1 C.2.1 dX11_like_20 (by decide) (fun hc => ?_) (fun hc => ?_)
    · have hf := zif_f hc hf
      refine lv_iconst (v := (0 : Int32)) C.1 C.2.1 dX11_like_25 rfl ?_
      refine lv_istore_n (lv' := [(3, .int (0 : Int32)), (0, .ref (zal G 0)), (1, .int x1), (2, .int x2)]) C.1 C.2.1 dX11_like_26 rfl hl (by decide) rfl (fun ls hl => ?_)
      refine lv_iconst (v := (0 : Int32)) C.1 C.2.1 dX11_like_27 rfl ?_
      refine lv_istore (lv' := [(4, .int (0 : Int32)), (3, .int (0 : Int32)), (0, .ref (zal G 0)), (1, .int x1), (2, .int x2)]) C.1 C.2.1 dX11_like_28 hl (by decide) rfl (fun ls hl => ?_)
      exact w_X11_like_30 C hm hk  zN _ _ _ _ _ _ _ _ (lv_sub hl [2, 3, 4, 1, 0] rfl) hS hf
    · have hf := zif_t hc hf
      exact w_X11_like_23 C hm hk  _ _ _ _ (lv_sub hl [] rfl) hS hf
end
section
theorem dX6_goBack_0 : decode cX6_goBack 0 = .ok (.aload_n 0, 1) := by decide +kernel
theorem dX6_goBack_1 : decode cX6_goBack 1 = .ok (.getfield 30, 3) := by decide +kernel
theorem dX6_goBack_4 : decode cX6_goBack 4 = .ok (.ifCond .ne 5, 3) := by decide +kernel
theorem dX6_goBack_7 : decode cX6_goBack 7 = .ok (.iconst 0, 1) := by decide +kernel
theorem dX6_goBack_8 : decode cX6_goBack 8 = .ok (.ireturn, 1) := by decide +kernel
theorem dX6_goBack_9 : decode cX6_goBack 9 = .ok (.aload_n 1, 1) := by decide +kernel
theorem dX6_goBack_10 : decode cX6_goBack 10 = .ok (.getfield 43, 3) := by decide +kernel
theorem dX6_goBack_13 : decode cX6_goBack 13 = .ok (.astore_n 2, 1) := by decide +kernel
theorem dX6_goBack_14 : decode cX6_goBack 14 = .ok (.aload_n 0, 1) := by decide +kernel
theorem dX6_goBack_15 : decode cX6_goBack 15 = .ok (.getfield 11, 3) := by decide +kernel
theorem dX6_goBack_18 : decode cX6_goBack 18 = .ok (.aload_n 0, 1) := by decide +kernel
theorem dX6_goBack_19 : decode cX6_goBack 19 = .ok (.getfield 34, 3) := by decide +kernel
theorem dX6_goBack_22 : decode cX6_goBack 22 = .ok (.iaload, 1) := by decide +kernel
theorem dX6_goBack_23 : decode cX6_goBack 23 = .ok (.iconst 1, 1) := by decide +kernel
theorem dX6_goBack_24 : decode cX6_goBack 24 = .ok (.isub, 1) := by decide +kernel
theorem dX6_goBack_25 : decode cX6_goBack 25 = .ok (.istore_n 3, 1) := by decide +kernel
theorem dX6_goBack_26 : decode cX6_goBack 26 = .ok (.iload_n 3, 1) := by decide +kernel
theorem dX6_goBack_27 : decode cX6_goBack 27 = .ok (.ifCond .lt 57, 3) := by decide +kernel
theorem dX6_goBack_30 : decode cX6_goBack 30 = .ok (.aload_n 0, 1) := by decide +kernel
theorem dX6_goBack_31 : decode cX6_goBack 31 = .ok (.getfield 15, 3) := by decide +kernel
theorem dX6_goBack_34 : decode cX6_goBack 34 = .ok (.aload_n 0, 1) := by decide +kernel
theorem dX6_goBack_35 : decode cX6_goBack 35 = .ok (.getfield 34, 3) := by decide +kernel
theorem dX6_goBack_38 : decode cX6_goBack 38 = .ok (.bipush 8, 2) := by decide +kernel
theorem dX6_goBack_40 : decode cX6_goBack 40 = .ok (.imul, 1) := by decide +kernel
theorem dX6_goBack_41 : decode cX6_goBack 41 = .ok (.iload_n 3, 1) := by decide +kernel
theorem dX6_goBack_42 : decode cX6_goBack 42 = .ok (.iadd, 1) := by decide +kernel
theorem dX6_goBack_43 : decode cX6_goBack 43 = .ok (.iaload, 1) := by decide +kernel
theorem dX6_goBack_44 : decode cX6_goBack 44 = .ok (.istore 4, 2) := by decide +kernel
theorem dX6_goBack_46 : decode cX6_goBack 46 = .ok (.aload_n 2, 1) := by decide +kernel
theorem dX6_goBack_47 : decode cX6_goBack 47 = .ok (.getfield 64, 3) := by decide +kernel
theorem dX6_goBack_50 : decode cX6_goBack 50 = .ok (.iload 4, 2) := by decide +kernel
theorem dX6_goBack_52 : decode cX6_goBack 52 = .ok (.dup2, 1) := by decide +kernel
theorem dX6_goBack_53 : decode cX6_goBack 53 = .ok (.iaload, 1) := by decide +kernel
theorem dX6_goBack_54 : decode cX6_goBack 54 = .ok (.iconst 1, 1) := by decide +kernel
theorem dX6_goBack_55 : decode cX6_goBack 55 = .ok (.isub, 1) := by decide +kernel
theorem dX6_goBack_56 : decode cX6_goBack 56 = .ok (.iastore, 1) := by decide +kernel
theorem dX6_goBack_57 : decode cX6_goBack 57 = .ok (.aload_n 2, 1) := by decide +kernel
theorem dX6_goBack_58 : decode cX6_goBack 58 = .ok (.getfield 67, 3) := by decide +kernel
theorem dX6_goBack_61 : decode cX6_goBack 61 = .ok (.iload 4, 2) := by decide +kernel
theorem dX6_goBack_63 : decode cX6_goBack 63 = .ok (.aload_n 0, 1) := by decide +kernel
theorem dX6_goBack_64 : decode cX6_goBack 64 = .ok (.getfield 18, 3) := by decide +kernel
theorem dX6_goBack_67 : decode cX6_goBack 67 = .ok (.aload_n 0, 1) := by decide +kernel
theorem dX6_goBack_68 : decode cX6_goBack 68 = .ok (.getfield 34, 3) := by decide +kernel
theorem dX6_goBack_71 : decode cX6_goBack 71 = .ok (.bipush 8, 2) := by decide +kernel
theorem dX6_goBack_73 : decode cX6_goBack 73 = .ok (.imul, 1) := by decide +kernel
theorem dX6_goBack_74 : decode cX6_goBack 74 = .ok (.iload_n 3, 1) := by decide +kernel
theorem dX6_goBack_75 : decode cX6_goBack 75 = .ok (.iadd, 1) := by decide +kernel
theorem dX6_goBack_76 : decode cX6_goBack 76 = .ok (.iaload, 1) := by decide +kernel
theorem dX6_goBack_77 : decode cX6_goBack 77 = .ok (.iastore, 1) := by decide +kernel
theorem dX6_goBack_78 : decode cX6_goBack 78 = .ok (.iinc 3 (-1), 3) := by decide +kernel
theorem dX6_goBack_81 : decode cX6_goBack 81 = .ok (.goto (-55), 3) := by decide +kernel
theorem dX6_goBack_84 : decode cX6_goBack 84 = .ok (.aload_n 0, 1) := by decide +kernel
theorem dX6_goBack_85 : decode cX6_goBack 85 = .ok (.getfield 21, 3) := by decide +kernel
theorem dX6_goBack_88 : decode cX6_goBack 88 = .ok (.aload_n 0, 1) := by decide +kernel
theorem dX6_goBack_89 : decode cX6_goBack 89 = .ok (.getfield 34, 3) := by decide +kernel
theorem dX6_goBack_92 : decode cX6_goBack 92 = .ok (.bipush 6, 2) := by decide +kernel
theorem dX6_goBack_94 : decode cX6_goBack 94 = .ok (.imul, 1) := by decide +kernel
theorem dX6_goBack_95 : decode cX6_goBack 95 = .ok (.aload_n 2, 1) := by decide +kernel
theorem dX6_goBack_96 : decode cX6_goBack 96 = .ok (.getfield 55, 3) := by decide +kernel
theorem dX6_goBack_99 : decode cX6_goBack 99 = .ok (.iconst 0, 1) := by decide +kernel
theorem dX6_goBack_100 : decode cX6_goBack 100 = .ok (.bipush 6, 2) := by decide +kernel
theorem dX6_goBack_102 : decode cX6_goBack 102 = .ok (.invokestatic 58, 3) := by decide +kernel
theorem dX6_goBack_105 : decode cX6_goBack 105 = .ok (.aload_n 2, 1) := by decide +kernel
theorem dX6_goBack_106 : decode cX6_goBack 106 = .ok (.aload_n 0, 1) := by decide +kernel
theorem dX6_goBack_107 : decode cX6_goBack 107 = .ok (.getfield 24, 3) := by decide +kernel
theorem dX6_goBack_110 : decode cX6_goBack 110 = .ok (.aload_n 0, 1) := by decide +kernel
theorem dX6_goBack_111 : decode cX6_goBack 111 = .ok (.getfield 34, 3) := by decide +kernel
theorem dX6_goBack_114 : decode cX6_goBack 114 = .ok (.iaload, 1) := by decide +kernel
theorem dX6_goBack_115 : decode cX6_goBack 115 = .ok (.putfield 49, 3) := by decide +kernel
theorem dX6_goBack_118 : decode cX6_goBack 118 = .ok (.aload_n 2, 1) := by decide +kernel
theorem dX6_goBack_119 : decode cX6_goBack 119 = .ok (.dup, 1) := by decide +kernel
theorem dX6_goBack_120 : decode cX6_goBack 120 = .ok (.getfield 70, 3) := by decide +kernel
theorem dX6_goBack_123 : decode cX6_goBack 123 = .ok (.iconst 1, 1) := by decide +kernel
theorem dX6_goBack_124 : decode cX6_goBack 124 = .ok (.isub, 1) := by decide +kernel
theorem dX6_goBack_125 : decode cX6_goBack 125 = .ok (.putfield 70, 3) := by decide +kernel
theorem dX6_goBack_128 : decode cX6_goBack 128 = .ok (.aload_n 1, 1) := by decide +kernel
theorem dX6_goBack_129 : decode cX6_goBack 129 = .ok (.aload_n 0, 1) := by decide +kernel
theorem dX6_goBack_130 : decode cX6_goBack 130 = .ok (.getfield 27, 3) := by decide +kernel
theorem dX6_goBack_133 : decode cX6_goBack 133 = .ok (.aload_n 0, 1) := by decide +kernel
theorem dX6_goBack_134 : decode cX6_goBack 134 = .ok (.getfield 34, 3) := by decide +kernel
theorem dX6_goBack_137 : decode cX6_goBack 137 = .ok (.iaload, 1) := by decide +kernel
theorem dX6_goBack_138 : decode cX6_goBack 138 = .ok (.putfield 53, 3) := by decide +kernel
theorem dX6_goBack_141 : decode cX6_goBack 141 = .ok (.aload_n 0, 1) := by decide +kernel
theorem dX6_goBack_142 : decode cX6_goBack 142 = .ok (.aload_n 0, 1) := by decide +kernel
theorem dX6_goBack_143 : decode cX6_goBack 143 = .ok (.getfield 34, 3) := by decide +kernel
theorem dX6_goBack_146 : decode cX6_goBack 146 = .ok (.bipush 6, 2) := by decide +kernel
theorem dX6_goBack_148 : decode cX6_goBack 148 = .ok (.iadd, 1) := by decide +kernel
theorem dX6_goBack_149 : decode cX6_goBack 149 = .ok (.iconst 1, 1) := by decide +kernel
theorem dX6_goBack_150 : decode cX6_goBack 150 = .ok (.isub, 1) := by decide +kernel
theorem dX6_goBack_151 : decode cX6_goBack 151 = .ok (.bipush 6, 2) := by decide +kernel
theorem dX6_goBack_153 : decode cX6_goBack 153 = .ok (.irem, 1) := by decide +kernel
theorem dX6_goBack_154 : decode cX6_goBack 154 = .ok (.putfield 34, 3) := by decide +kernel
theorem dX6_goBack_157 : decode cX6_goBack 157 = .ok (.aload_n 0, 1) := by decide +kernel
theorem dX6_goBack_158 : decode cX6_goBack 158 = .ok (.dup, 1) := by decide +kernel
theorem dX6_goBack_159 : decode cX6_goBack 159 = .ok (.getfield 30, 3) := by decide +kernel
theorem dX6_goBack_162 : decode cX6_goBack 162 = .ok (.iconst 1, 1) := by decide +kernel
theorem dX6_goBack_163 : decode cX6_goBack 163 = .ok (.isub, 1) := by decide +kernel
theorem dX6_goBack_164 : decode cX6_goBack 164 = .ok (.putfield 30, 3) := by decide +kernel
theorem dX6_goBack_167 : decode cX6_goBack 167 = .ok (.iconst 1, 1) := by decide +kernel
theorem dX6_goBack_168 : decode cX6_goBack 168 = .ok (.ireturn, 1) := by decide +kernel
abbrev nd_X6_goBack_r1 : List Nat := [1, 11, 12, 13, 14, 22, 23, 24, 25, 26, 27, 28]
abbrev ld_X6_goBack_r1 : List (Nat × Nat) := [(1, 2), (11, 0), (11, 1), (11, 2), (22, 0), (22, 1), (22, 2), (22, 3), (22, 4), (22, 5)]
def f_X6_goBack_r1_26  : Nat → Int32 → zH → zR
  | 0 => fun _ _ => none
  | n + 1 => fun x3 h => (if x3 < 0 then (zcc 36 6 ((h 22 6) * (6 : Int32)) (0 : Int32) (6 : Int32) (zst (zcp h 26 14 ((h 22 6) * (6 : Int32)) (0 : Int32) (6 : Int32)) fun h2 => (zck (h2 22 6) 6 (zst (zup h2 11 4 (h2 27 (Int32.toNatClampNeg (h2 22 6)))) fun h3 => (zst (zup h3 11 5 ((h3 11 5) - (1 : Int32))) fun h4 => (zck (h4 22 6) 6 (zst (zup h4 1 8 (h4 28 (Int32.toNatClampNeg (h4 22 6)))) fun h5 => (zst (zup h5 22 6 ((((h5 22 6) + (6 : Int32)) - (1 : Int32)) - (((h5 22 6) + (6 : Int32)) - (1 : Int32)) / (6 : Int32) * (6 : Int32))) fun h6 => (zst (zup h6 22 7 ((h6 22 7) - (1 : Int32))) fun h7 => (some ((1 : Int32), h7))))))))))) else (zck (((h 22 6) * (8 : Int32)) + x3) 48 (zlt (h 24 (Int32.toNatClampNeg (((h 22 6) * (8 : Int32)) + x3))) fun y8 => (zck y8 256 (zck y8 256 (zst (zup h 12 (Int32.toNatClampNeg y8) ((h 12 (Int32.toNatClampNeg y8)) - (1 : Int32))) fun h9 => (zck (((h9 22 6) * (8 : Int32)) + x3) 48 (zck y8 256 (zst (zup h9 13 (Int32.toNatClampNeg y8) (h9 25 (Int32.toNatClampNeg (((h9 22 6) * (8 : Int32)) + x3)))) fun h10 => (zlt (x3 + (-1 : Int32)) fun y11 => (f_X6_goBack_r1_26  n y11 h10)))))))))))
def f_X6_goBack_r1  (h : zH) : zR := (if (h 22 7) = 0 then (some ((0 : Int32), h)) else (zck (h 22 6) 6 (zlt ((h 23 (Int32.toNatClampNeg (h 22 6))) - (1 : Int32)) fun y1 => (f_X6_goBack_r1_26  zN y1 h))))
variable {p : Program} {l : Launch} {e : Env} {s : State} {m : MethodId} {args : Array Value} {below : List Frame} {meth : Method} {c : Code} {G : zG} {q : Int32 × zH}
set_option maxHeartbeats 4000000 in
set_option maxRecDepth 100000 in
theorem w_X6_goBack_r1_26  (C : zC G p s m args meth c cX6_goBack 5 RX6 (some .boolean)) (hm : ∀ c ∈ nd_X6_goBack_r1, c ∈ znm G) (hk : ∀ q ∈ ld_X6_goBack_r1, zlk G q.1 q.2 = true)  : ∀ n, ∀ (ls : Array Slot) (H : Heap) (locs : List Loc) (h : zH) (x3 : Int32), lv_has ls 5 [(0, .ref (zal G 22)), (1, .ref (zal G 1)), (2, .ref (zal G 11)), (3, .int x3)] → zS G h s.heap H locs → f_X6_goBack_r1_26  n x3 h = some q → W p l e (zrm (2)) s m args below meth c H locs 0 0 (MQ below (zQI G q.2 q.1) args s 0 0 (zA G)) (F0 m 26 ls []) := by
  intro n
  induction n with
  | zero => intro ls H locs h x3 hl hS hf; cases hf
  | succ n ih =>
    intro ls H locs h x3 hl hS hf
    rw [f_X6_goBack_r1_26] at hf
    refine lv_iload_n C.1 C.2.1 dX6_goBack_26 rfl (lv_at hl 3 rfl) ?_
    refine lv_if_lt (tgt := 84) C.1 C.2.1 dX6_goBack_27 (by decide) (fun hc => ?_) (fun hc => ?_)
    · have hf := zif_t hc hf
      refine lv_aload_n C.1 C.2.1 dX6_goBack_84 rfl (lv_at hl 0 rfl) ?_
      refine zgetR C hS ff_X6_21_22 (hm 22 (by decide)) (hk (22, 3) (by decide)) dX6_goBack_85 ?_
      refine lv_aload_n C.1 C.2.1 dX6_goBack_88 rfl (lv_at hl 0 rfl) ?_
      refine zgetI C hS ff_X6_34_22 (hm 22 (by decide)) dX6_goBack_89 ?_
      refine lv_bipush (v := (6 : Int32)) C.1 C.2.1 dX6_goBack_92 rfl ?_
      refine lv_imul C.1 C.2.1 dX6_goBack_94 ?_
      refine lv_aload_n C.1 C.2.1 dX6_goBack_95 rfl (lv_at hl 2 rfl) ?_
      refine zgetR C hS ff_X6_55_11 (hm 11 (by decide)) (hk (11, 2) (by decide)) dX6_goBack_96 ?_
      refine lv_iconst (v := (0 : Int32)) C.1 C.2.1 dX6_goBack_99 rfl ?_
      refine lv_bipush (v := (6 : Int32)) C.1 C.2.1 dX6_goBack_100 rfl ?_
      obtain ⟨hi, hf⟩ := zcc_some hf
      refine zacp C hS kw_769 sh_26 sh_14 (hm 26 (by decide)) (hm 14 (by decide)) hi (Nat.le_of_ble_eq_true rfl) hl.1 ⟨Nat.le_of_ble_eq_true rfl, Nat.le_of_ble_eq_true rfl⟩ dX6_goBack_102 (fun H locs hS => ?_)
      obtain ⟨h2, eh2, hf⟩ := zst_some hf
      have hS : zS G h2 s.heap H locs := by rw [eh2]; exact hS
      refine lv_aload_n C.1 C.2.1 dX6_goBack_105 rfl (lv_at hl 2 rfl) ?_
      refine lv_aload_n C.1 C.2.1 dX6_goBack_106 rfl (lv_at hl 0 rfl) ?_
      refine zgetR C hS ff_X6_24_22 (hm 22 (by decide)) (hk (22, 4) (by decide)) dX6_goBack_107 ?_
      refine lv_aload_n C.1 C.2.1 dX6_goBack_110 rfl (lv_at hl 0 rfl) ?_
      refine zgetI C hS ff_X6_34_22 (hm 22 (by decide)) dX6_goBack_111 ?_
      obtain ⟨hi, hf⟩ := zck_some hf
      refine zald C hS sh_27 (hm 27 (by decide)) hi dX6_goBack_114 ?_
      refine zputI C hS ff_X6_49_11 fw_11_4 (hm 11 (by decide)) dX6_goBack_115 (fun H locs hS => ?_)
      obtain ⟨h3, eh3, hf⟩ := zst_some hf
      have hS : zS G h3 s.heap H locs := by rw [eh3]; exact hS
      refine lv_aload_n C.1 C.2.1 dX6_goBack_118 rfl (lv_at hl 2 rfl) ?_
      refine lv_dup C.1 C.2.1 dX6_goBack_119 rfl ?_
      refine zgetI C hS ff_X6_70_11 (hm 11 (by decide)) dX6_goBack_120 ?_
      refine lv_iconst (v := (1 : Int32)) C.1 C.2.1 dX6_goBack_123 rfl ?_
      refine lv_isub C.1 C.2.1 dX6_goBack_124 ?_
      refine zputI C hS ff_X6_70_11 fw_11_5 (hm 11 (by decide)) dX6_goBack_125 (fun H locs hS => ?_)
      obtain ⟨h4, eh4, hf⟩ := zst_some hf
      have hS : zS G h4 s.heap H locs := by rw [eh4]; exact hS
      refine lv_aload_n C.1 C.2.1 dX6_goBack_128 rfl (lv_at hl 1 rfl) ?_
      refine lv_aload_n C.1 C.2.1 dX6_goBack_129 rfl (lv_at hl 0 rfl) ?_
      refine zgetR C hS ff_X6_27_22 (hm 22 (by decide)) (hk (22, 5) (by decide)) dX6_goBack_130 ?_
      refine lv_aload_n C.1 C.2.1 dX6_goBack_133 rfl (lv_at hl 0 rfl) ?_
      refine zgetI C hS ff_X6_34_22 (hm 22 (by decide)) dX6_goBack_134 ?_
      obtain ⟨hi, hf⟩ := zck_some hf
      refine zald C hS sh_28 (hm 28 (by decide)) hi dX6_goBack_137 ?_
      refine zputI C hS ff_X6_53_1 fw_1_8 (hm 1 (by decide)) dX6_goBack_138 (fun H locs hS => ?_)
      obtain ⟨h5, eh5, hf⟩ := zst_some hf
      have hS : zS G h5 s.heap H locs := by rw [eh5]; exact hS
      refine lv_aload_n C.1 C.2.1 dX6_goBack_141 rfl (lv_at hl 0 rfl) ?_
      refine lv_aload_n C.1 C.2.1 dX6_goBack_142 rfl (lv_at hl 0 rfl) ?_
      refine zgetI C hS ff_X6_34_22 (hm 22 (by decide)) dX6_goBack_143 ?_
      refine lv_bipush (v := (6 : Int32)) C.1 C.2.1 dX6_goBack_146 rfl ?_
      refine lv_iadd C.1 C.2.1 dX6_goBack_148 ?_
      refine lv_iconst (v := (1 : Int32)) C.1 C.2.1 dX6_goBack_149 rfl ?_
      refine lv_isub C.1 C.2.1 dX6_goBack_150 ?_
      refine lv_bipush (v := (6 : Int32)) C.1 C.2.1 dX6_goBack_151 rfl ?_
      refine lv_irem C.1 C.2.1 dX6_goBack_153 (by decide) ?_
      refine zputI C hS ff_X6_34_22 fw_22_6 (hm 22 (by decide)) dX6_goBack_154 (fun H locs hS => ?_)
      obtain ⟨h6, eh6, hf⟩ := zst_some hf
      have hS : zS G h6 s.heap H locs := by rw [eh6]; exact hS
      refine lv_aload_n C.1 C.2.1 dX6_goBack_157 rfl (lv_at hl 0 rfl) ?_
      refine lv_dup C.1 C.2.1 dX6_goBack_158 rfl ?_
      refine zgetI C hS ff_X6_30_22 (hm 22 (by decide)) dX6_goBack_159 ?_
      refine lv_iconst (v := (1 : Int32)) C.1 C.2.1 dX6_goBack_162 rfl ?_
      refine lv_isub C.1 C.2.1 dX6_goBack_163 ?_
      refine zputI C hS ff_X6_30_22 fw_22_7 (hm 22 (by decide)) dX6_goBack_164 (fun H locs hS => ?_)
      obtain ⟨h7, eh7, hf⟩ := zst_some hf
      have hS : zS G h7 s.heap H locs := by rw [eh7]; exact hS
      refine lv_iconst (v := (1 : Int32)) C.1 C.2.1 dX6_goBack_167 rfl ?_
      exact zretZ C hS rfl hf dX6_goBack_168
    · have hf := zif_f hc hf
      refine lv_aload_n C.1 C.2.1 dX6_goBack_30 rfl (lv_at hl 0 rfl) ?_
      refine zgetR C hS ff_X6_15_22 (hm 22 (by decide)) (hk (22, 1) (by decide)) dX6_goBack_31 ?_
      refine lv_aload_n C.1 C.2.1 dX6_goBack_34 rfl (lv_at hl 0 rfl) ?_
      refine zgetI C hS ff_X6_34_22 (hm 22 (by decide)) dX6_goBack_35 ?_
      refine lv_bipush (v := (8 : Int32)) C.1 C.2.1 dX6_goBack_38 rfl ?_
      refine lv_imul C.1 C.2.1 dX6_goBack_40 ?_
      refine lv_iload_n C.1 C.2.1 dX6_goBack_41 rfl (lv_at hl 3 rfl) ?_
      refine lv_iadd C.1 C.2.1 dX6_goBack_42 ?_
      obtain ⟨hi, hf⟩ := zck_some hf
      refine zald C hS sh_24 (hm 24 (by decide)) hi dX6_goBack_43 ?_
      obtain ⟨y8, ey8, hf⟩ := zlt_some hf
      refine ztop ey8 ?_
      refine lv_istore (lv' := [(4, .int y8), (0, .ref (zal G 22)), (1, .ref (zal G 1)), (2, .ref (zal G 11)), (3, .int x3)]) C.1 C.2.1 dX6_goBack_44 hl (by decide) rfl (fun ls hl => ?_)
      refine lv_aload_n C.1 C.2.1 dX6_goBack_46 rfl (lv_at hl 3 rfl) ?_
      refine zgetR C hS ff_X6_64_11 (hm 11 (by decide)) (hk (11, 0) (by decide)) dX6_goBack_47 ?_
      refine lv_iload C.1 C.2.1 dX6_goBack_50 (lv_at hl 0 rfl) ?_
      refine lv_dup2_11 C.1 C.2.1 dX6_goBack_52 rfl rfl ?_
      obtain ⟨hi, hf⟩ := zck_some hf
      refine zald C hS sh_12 (hm 12 (by decide)) hi dX6_goBack_53 ?_
      refine lv_iconst (v := (1 : Int32)) C.1 C.2.1 dX6_goBack_54 rfl ?_
      refine lv_isub C.1 C.2.1 dX6_goBack_55 ?_
      obtain ⟨hi, hf⟩ := zck_some hf
      refine zast C hS sh_12 (hm 12 (by decide)) hi dX6_goBack_56 (fun H locs hS => ?_)
      obtain ⟨h9, eh9, hf⟩ := zst_some hf
      have hS : zS G h9 s.heap H locs := by rw [eh9]; exact hS
      refine lv_aload_n C.1 C.2.1 dX6_goBack_57 rfl (lv_at hl 3 rfl) ?_
      refine zgetR C hS ff_X6_67_11 (hm 11 (by decide)) (hk (11, 1) (by decide)) dX6_goBack_58 ?_
      refine lv_iload C.1 C.2.1 dX6_goBack_61 (lv_at hl 0 rfl) ?_
      refine lv_aload_n C.1 C.2.1 dX6_goBack_63 rfl (lv_at hl 1 rfl) ?_
      refine zgetR C hS ff_X6_18_22 (hm 22 (by decide)) (hk (22, 2) (by decide)) dX6_goBack_64 ?_
      refine lv_aload_n C.1 C.2.1 dX6_goBack_67 rfl (lv_at hl 1 rfl) ?_
      refine zgetI C hS ff_X6_34_22 (hm 22 (by decide)) dX6_goBack_68 ?_
      refine lv_bipush (v := (8 : Int32)) C.1 C.2.1 dX6_goBack_71 rfl ?_
      refine lv_imul C.1 C.2.1 dX6_goBack_73 ?_
      refine lv_iload_n C.1 C.2.1 dX6_goBack_74 rfl (lv_at hl 4 rfl) ?_
      refine lv_iadd C.1 C.2.1 dX6_goBack_75 ?_
      obtain ⟨hi, hf⟩ := zck_some hf
      refine zald C hS sh_25 (hm 25 (by decide)) hi dX6_goBack_76 ?_
      obtain ⟨hi, hf⟩ := zck_some hf
      refine zast C hS sh_13 (hm 13 (by decide)) hi dX6_goBack_77 (fun H locs hS => ?_)
      obtain ⟨h10, eh10, hf⟩ := zst_some hf
      have hS : zS G h10 s.heap H locs := by rw [eh10]; exact hS
      obtain ⟨y11, ey11, hf⟩ := zlt_some hf
      refine lv_iinc (v := y11) (lv' := [(3, .int y11), (4, .int y8), (0, .ref (zal G 22)), (1, .ref (zal G 1)), (2, .ref (zal G 11))]) C.1 C.2.1 dX6_goBack_78 hl (k := 4) rfl ey11.symm (by decide) rfl (fun ls hl => ?_)
      refine lv_goto (tgt := 26) C.1 C.2.1 dX6_goBack_81 (by decide) ?_
      exact ih _ _ _ _ _ (lv_sub hl [2, 3, 4, 0] rfl) hS hf
set_option maxHeartbeats 4000000 in
set_option maxRecDepth 100000 in
theorem c_X6_goBack_r1 (l : Launch) (G : zG) (h : zH) (q : Int32 × zH) (hm : ∀ c ∈ nd_X6_goBack_r1, c ∈ znm G) (hk : ∀ q ∈ ld_X6_goBack_r1, zlk G q.1 q.2 = true) (hf : f_X6_goBack_r1 h = some q) : zCtI l yX6_goBack cX6_goBack 5 (some .boolean) (2) [.ref (zal G 22), .ref (zal G 1)] G h q.2 q.1 := by
  refine zMetI (by decide) (Nat.le_of_ble_eq_true rfl) ?_
  intro p e s m below meth c ls C hl hS
  have hl : lv_has ls 5 [(0, .ref (zal G 22)), (1, .ref (zal G 1))] := hl
  have C : zC G p s m [.ref (zal G 22), .ref (zal G 1)].toArray meth c cX6_goBack 5 RX6 (some .boolean) := C
  unfold f_X6_goBack_r1 at hf
  refine lv_aload_n C.1 C.2.1 dX6_goBack_0 rfl (lv_at hl 0 rfl) ?_
  refine zgetI C hS ff_X6_30_22 (hm 22 (by decide)) dX6_goBack_1 ?_
  refine lv_if_ne (tgt := 9) C.1 C.2.1 dX6_goBack_4 (by decide) (fun hc => ?_) (fun hc => ?_)
  · have hf := zif_f hc hf
    refine lv_aload_n C.1 C.2.1 dX6_goBack_9 rfl (lv_at hl 1 rfl) ?_
    refine zgetR C hS ff_X6_43_1 (hm 1 (by decide)) (hk (1, 2) (by decide)) dX6_goBack_10 ?_
    refine lv_astore_n (lv' := [(2, .ref (zal G 11)), (0, .ref (zal G 22)), (1, .ref (zal G 1))]) C.1 C.2.1 dX6_goBack_13 rfl hl (by decide) rfl (fun ls hl => ?_)
    refine lv_aload_n C.1 C.2.1 dX6_goBack_14 rfl (lv_at hl 1 rfl) ?_
    refine zgetR C hS ff_X6_11_22 (hm 22 (by decide)) (hk (22, 0) (by decide)) dX6_goBack_15 ?_
    refine lv_aload_n C.1 C.2.1 dX6_goBack_18 rfl (lv_at hl 1 rfl) ?_
    refine zgetI C hS ff_X6_34_22 (hm 22 (by decide)) dX6_goBack_19 ?_
    obtain ⟨hi, hf⟩ := zck_some hf
    refine zald C hS sh_23 (hm 23 (by decide)) hi dX6_goBack_22 ?_
    refine lv_iconst (v := (1 : Int32)) C.1 C.2.1 dX6_goBack_23 rfl ?_
    refine lv_isub C.1 C.2.1 dX6_goBack_24 ?_
    obtain ⟨y1, ey1, hf⟩ := zlt_some hf
    refine ztop ey1 ?_
    refine lv_istore_n (lv' := [(3, .int y1), (2, .ref (zal G 11)), (0, .ref (zal G 22)), (1, .ref (zal G 1))]) C.1 C.2.1 dX6_goBack_25 rfl hl (by decide) rfl (fun ls hl => ?_)
    exact w_X6_goBack_r1_26 C hm hk  zN _ _ _ _ _ (lv_sub hl [2, 3, 1, 0] rfl) hS hf
  · have hf := zif_t hc hf
    refine lv_iconst (v := (0 : Int32)) C.1 C.2.1 dX6_goBack_7 rfl ?_
    exact zretZ C hS rfl hf dX6_goBack_8
end
section
theorem dX11_undo_0 : decode cX11_undo 0 = .ok (.aload_n 0, 1) := by decide +kernel
theorem dX11_undo_1 : decode cX11_undo 1 = .ok (.getfield 19, 3) := by decide +kernel
theorem dX11_undo_4 : decode cX11_undo 4 = .ok (.aload_n 0, 1) := by decide +kernel
theorem dX11_undo_5 : decode cX11_undo 5 = .ok (.getfield 12, 3) := by decide +kernel
theorem dX11_undo_8 : decode cX11_undo 8 = .ok (.invokevirtual 301, 3) := by decide +kernel
theorem dX11_undo_11 : decode cX11_undo 11 = .ok (.ireturn, 1) := by decide +kernel
abbrev nd_X11_undo : List Nat := [0, 1, 11, 12, 13, 14, 22, 23, 24, 25, 26, 27, 28]
abbrev ld_X11_undo : List (Nat × Nat) := [(0, 0), (0, 1), (1, 2), (11, 0), (11, 1), (11, 2), (22, 0), (22, 1), (22, 2), (22, 3), (22, 4), (22, 5)]
theorem sn_X11_undo_X6_goBack_r1 : ∀ c ∈ nd_X6_goBack_r1, c ∈ nd_X11_undo := by decide
theorem sl_X11_undo_X6_goBack_r1 : ∀ q ∈ ld_X6_goBack_r1, q ∈ ld_X11_undo := by decide
def f_X11_undo  (h : zH) : zR := (zbd (f_X6_goBack_r1  h) fun r1 h2 => (zbo r1 (some (r1, h2))))
variable {p : Program} {l : Launch} {e : Env} {s : State} {m : MethodId} {args : Array Value} {below : List Frame} {meth : Method} {c : Code} {G : zG} {q : Int32 × zH}
set_option maxHeartbeats 4000000 in
set_option maxRecDepth 100000 in
theorem c_X11_undo (l : Launch) (G : zG) (h : zH) (q : Int32 × zH) (hm : ∀ c ∈ nd_X11_undo, c ∈ znm G) (hk : ∀ q ∈ ld_X11_undo, zlk G q.1 q.2 = true) (hf : f_X11_undo h = some q) : zCtI l yX11_undo cX11_undo 1 (some .boolean) (3) [.ref (zal G 0)] G h q.2 q.1 := by
  refine zMetI (by decide) (Nat.le_of_ble_eq_true rfl) ?_
  intro p e s m below meth c ls C hl hS
  have hl : lv_has ls 1 [(0, .ref (zal G 0))] := hl
  have C : zC G p s m [.ref (zal G 0)].toArray meth c cX11_undo 1 RX11 (some .boolean) := C
  unfold f_X11_undo at hf
  refine lv_aload_n C.1 C.2.1 dX11_undo_0 rfl (lv_at hl 0 rfl) ?_
  refine zgetR C hS ff_X11_19_0 (hm 0 (by decide)) (hk (0, 1) (by decide)) dX11_undo_1 ?_
  refine lv_aload_n C.1 C.2.1 dX11_undo_4 rfl (lv_at hl 0 rfl) ?_
  refine zgetR C hS ff_X11_12_0 (hm 0 (by decide)) (hk (0, 0) (by decide)) dX11_undo_5 ?_
  obtain ⟨r1, h2, er1, hf⟩ := zbd_some hf
  refine zcallVI (As := [.ref (zal G 1)]) (rest := []) C hS mv_X11_301 (c_X6_goBack_r1 l G h  (r1, h2) (fun c h => hm c (sn_X11_undo_X6_goBack_r1 c h)) (fun q h => hk q (sl_X11_undo_X6_goBack_r1 q h)) er1) (hm 22 (by decide)) ⟨_, _, _, sh_22, rfl, rfl⟩ rfl rfl (Nat.le_of_ble_eq_true rfl) hl.1 ⟨Nat.le_of_ble_eq_true rfl, Nat.le_of_ble_eq_true rfl, Nat.le_of_ble_eq_true rfl, Nat.le_of_ble_eq_true rfl⟩ dX11_undo_8 (fun H locs hS => ?_)
  obtain ⟨hb, hf⟩ := zbo_some hf
  exact zretZ C hS hb hf dX11_undo_11
end
section
theorem dX11_lookInRows_0 : decode cX11_lookInRows 0 = .ok (.iload_n 1, 1) := by decide +kernel
theorem dX11_lookInRows_1 : decode cX11_lookInRows 1 = .ok (.bipush 10, 2) := by decide +kernel
theorem dX11_lookInRows_3 : decode cX11_lookInRows 3 = .ok (.if_icmp .lt 36, 3) := by decide +kernel
theorem dX11_lookInRows_6 : decode cX11_lookInRows 6 = .ok (.iload_n 1, 1) := by decide +kernel
theorem dX11_lookInRows_7 : decode cX11_lookInRows 7 = .ok (.bipush 10, 2) := by decide +kernel
theorem dX11_lookInRows_9 : decode cX11_lookInRows 9 = .ok (.aload_n 0, 1) := by decide +kernel
theorem dX11_lookInRows_10 : decode cX11_lookInRows 10 = .ok (.getfield 12, 3) := by decide +kernel
theorem dX11_lookInRows_13 : decode cX11_lookInRows 13 = .ok (.getfield 90, 3) := by decide +kernel
theorem dX11_lookInRows_16 : decode cX11_lookInRows 16 = .ok (.getfield 194, 3) := by decide +kernel
theorem dX11_lookInRows_19 : decode cX11_lookInRows 19 = .ok (.iadd, 1) := by decide +kernel
theorem dX11_lookInRows_20 : decode cX11_lookInRows 20 = .ok (.if_icmp .ge 19, 3) := by decide +kernel
theorem dX11_lookInRows_23 : decode cX11_lookInRows 23 = .ok (.aload_n 0, 1) := by decide +kernel
theorem dX11_lookInRows_24 : decode cX11_lookInRows 24 = .ok (.getfield 12, 3) := by decide +kernel
theorem dX11_lookInRows_27 : decode cX11_lookInRows 27 = .ok (.getfield 90, 3) := by decide +kernel
theorem dX11_lookInRows_30 : decode cX11_lookInRows 30 = .ok (.getfield 200, 3) := by decide +kernel
theorem dX11_lookInRows_33 : decode cX11_lookInRows 33 = .ok (.iload_n 1, 1) := by decide +kernel
theorem dX11_lookInRows_34 : decode cX11_lookInRows 34 = .ok (.bipush 10, 2) := by decide +kernel
theorem dX11_lookInRows_36 : decode cX11_lookInRows 36 = .ok (.isub, 1) := by decide +kernel
theorem dX11_lookInRows_37 : decode cX11_lookInRows 37 = .ok (.iaload, 1) := by decide +kernel
theorem dX11_lookInRows_38 : decode cX11_lookInRows 38 = .ok (.ireturn, 1) := by decide +kernel
theorem dX11_lookInRows_39 : decode cX11_lookInRows 39 = .ok (.iload_n 1, 1) := by decide +kernel
theorem dX11_lookInRows_40 : decode cX11_lookInRows 40 = .ok (.bipush 20, 2) := by decide +kernel
theorem dX11_lookInRows_42 : decode cX11_lookInRows 42 = .ok (.if_icmp .lt 24, 3) := by decide +kernel
theorem dX11_lookInRows_45 : decode cX11_lookInRows 45 = .ok (.iload_n 1, 1) := by decide +kernel
theorem dX11_lookInRows_46 : decode cX11_lookInRows 46 = .ok (.bipush 26, 2) := by decide +kernel
theorem dX11_lookInRows_48 : decode cX11_lookInRows 48 = .ok (.if_icmp .ge 18, 3) := by decide +kernel
theorem dX11_lookInRows_51 : decode cX11_lookInRows 51 = .ok (.aload_n 0, 1) := by decide +kernel
theorem dX11_lookInRows_52 : decode cX11_lookInRows 52 = .ok (.getfield 12, 3) := by decide +kernel
theorem dX11_lookInRows_55 : decode cX11_lookInRows 55 = .ok (.getfield 313, 3) := by decide +kernel
theorem dX11_lookInRows_58 : decode cX11_lookInRows 58 = .ok (.iload_n 1, 1) := by decide +kernel
theorem dX11_lookInRows_59 : decode cX11_lookInRows 59 = .ok (.bipush 20, 2) := by decide +kernel
theorem dX11_lookInRows_61 : decode cX11_lookInRows 61 = .ok (.isub, 1) := by decide +kernel
theorem dX11_lookInRows_62 : decode cX11_lookInRows 62 = .ok (.iaload, 1) := by decide +kernel
theorem dX11_lookInRows_63 : decode cX11_lookInRows 63 = .ok (.goto 4, 3) := by decide +kernel
theorem dX11_lookInRows_66 : decode cX11_lookInRows 66 = .ok (.iconst (-1), 1) := by decide +kernel
theorem dX11_lookInRows_67 : decode cX11_lookInRows 67 = .ok (.ireturn, 1) := by decide +kernel
abbrev nd_X11_lookInRows : List Nat := [0, 1, 7, 10, 20]
abbrev ld_X11_lookInRows : List (Nat × Nat) := [(0, 0), (1, 1), (1, 4), (7, 2)]
def f_X11_lookInRows_66  (h : zH) : zR := (some ((-1 : Int32), h))
def f_X11_lookInRows_39  (x1 : Int32) (h : zH) : zR := (if x1 < (20 : Int32) then (f_X11_lookInRows_66   h) else (if (26 : Int32) ≤ x1 then (f_X11_lookInRows_66   h) else (zck (x1 - (20 : Int32)) 6 (some ((h 20 (Int32.toNatClampNeg (x1 - (20 : Int32)))), h)))))
def f_X11_lookInRows  (x1 : Int32) (h : zH) : zR := (if x1 < (10 : Int32) then (f_X11_lookInRows_39  x1 h) else (if ((10 : Int32) + (h 7 3)) ≤ x1 then (f_X11_lookInRows_39  x1 h) else (zck (x1 - (10 : Int32)) 8 (some ((h 10 (Int32.toNatClampNeg (x1 - (10 : Int32)))), h)))))
variable {p : Program} {l : Launch} {e : Env} {s : State} {m : MethodId} {args : Array Value} {below : List Frame} {meth : Method} {c : Code} {G : zG} {q : Int32 × zH}
set_option maxHeartbeats 4000000 in
set_option maxRecDepth 100000 in
theorem w_X11_lookInRows_66  (C : zC G p s m args meth c cX11_lookInRows 2 RX11 (some .int)) (hm : ∀ c ∈ nd_X11_lookInRows, c ∈ znm G) (hk : ∀ q ∈ ld_X11_lookInRows, zlk G q.1 q.2 = true)  : ∀ (ls : Array Slot) (H : Heap) (locs : List Loc) (h : zH), lv_has ls 2 [] → zS G h s.heap H locs → f_X11_lookInRows_66  h = some q → W p l e (zrm (2)) s m args below meth c H locs 0 0 (MQ below (zQI G q.2 q.1) args s 0 0 (zA G)) (F0 m 66 ls []) := by
  intro ls H locs h hl hS hf
  unfold f_X11_lookInRows_66 at hf
  refine lv_iconst (v := (-1 : Int32)) C.1 C.2.1 dX11_lookInRows_66 rfl ?_
  exact zretI C hS hf dX11_lookInRows_67
set_option maxHeartbeats 4000000 in
set_option maxRecDepth 100000 in
theorem w_X11_lookInRows_39  (C : zC G p s m args meth c cX11_lookInRows 2 RX11 (some .int)) (hm : ∀ c ∈ nd_X11_lookInRows, c ∈ znm G) (hk : ∀ q ∈ ld_X11_lookInRows, zlk G q.1 q.2 = true)  : ∀ (ls : Array Slot) (H : Heap) (locs : List Loc) (h : zH) (x1 : Int32), lv_has ls 2 [(0, .ref (zal G 0)), (1, .int x1)] → zS G h s.heap H locs → f_X11_lookInRows_39  x1 h = some q → W p l e (zrm (2)) s m args below meth c H locs 0 0 (MQ below (zQI G q.2 q.1) args s 0 0 (zA G)) (F0 m 39 ls []) := by
  intro ls H locs h x1 hl hS hf
  unfold f_X11_lookInRows_39 at hf
  refine lv_iload_n C.1 C.2.1 dX11_lookInRows_39 rfl (lv_at hl 1 rfl) ?_
  refine lv_bipush (v := (20 : Int32)) C.1 C.2.1 dX11_lookInRows_40 rfl ?_
  refine lv_icmp_lt (tgt := 66) C.1 C.2.1 dX11_lookInRows_42 (by decide) (fun hc => ?_) (fun hc => ?_)
  · have hf := zif_t hc hf
    exact w_X11_lookInRows_66 C hm hk  _ _ _ _ (lv_sub hl [] rfl) hS hf
  · have hf := zif_f hc hf
    refine lv_iload_n C.1 C.2.1 dX11_lookInRows_45 rfl (lv_at hl 1 rfl) ?_
    refine lv_bipush (v := (26 : Int32)) C.1 C.2.1 dX11_lookInRows_46 rfl ?_
    refine lv_icmp_ge (tgt := 66) C.1 C.2.1 dX11_lookInRows_48 (by decide) (fun hc => ?_) (fun hc => ?_)
    · have hf := zif_t hc hf
      exact w_X11_lookInRows_66 C hm hk  _ _ _ _ (lv_sub hl [] rfl) hS hf
    · have hf := zif_f hc hf
      refine lv_aload_n C.1 C.2.1 dX11_lookInRows_51 rfl (lv_at hl 0 rfl) ?_
      refine zgetR C hS ff_X11_12_0 (hm 0 (by decide)) (hk (0, 0) (by decide)) dX11_lookInRows_52 ?_
      refine zgetR C hS ff_X11_313_1 (hm 1 (by decide)) (hk (1, 4) (by decide)) dX11_lookInRows_55 ?_
      refine lv_iload_n C.1 C.2.1 dX11_lookInRows_58 rfl (lv_at hl 1 rfl) ?_
      refine lv_bipush (v := (20 : Int32)) C.1 C.2.1 dX11_lookInRows_59 rfl ?_
      refine lv_isub C.1 C.2.1 dX11_lookInRows_61 ?_
      obtain ⟨hi, hf⟩ := zck_some hf
      refine zald C hS sh_20 (hm 20 (by decide)) hi dX11_lookInRows_62 ?_
      refine lv_goto (tgt := 67) C.1 C.2.1 dX11_lookInRows_63 (by decide) ?_
      exact zretI C hS hf dX11_lookInRows_67
set_option maxHeartbeats 4000000 in
set_option maxRecDepth 100000 in
theorem c_X11_lookInRows (l : Launch) (G : zG) (h : zH) (x1 : Int32) (q : Int32 × zH) (hm : ∀ c ∈ nd_X11_lookInRows, c ∈ znm G) (hk : ∀ q ∈ ld_X11_lookInRows, zlk G q.1 q.2 = true) (hf : f_X11_lookInRows x1 h = some q) : zCtI l yX11_lookInRows cX11_lookInRows 2 (some .int) (2) [.ref (zal G 0), .int x1] G h q.2 q.1 := by
  refine zMetI (by decide) (Nat.le_of_ble_eq_true rfl) ?_
  intro p e s m below meth c ls C hl hS
  have hl : lv_has ls 2 [(0, .ref (zal G 0)), (1, .int x1)] := hl
  have C : zC G p s m [.ref (zal G 0), .int x1].toArray meth c cX11_lookInRows 2 RX11 (some .int) := C
  unfold f_X11_lookInRows at hf
  refine lv_iload_n C.1 C.2.1 dX11_lookInRows_0 rfl (lv_at hl 1 rfl) ?_
  refine lv_bipush (v := (10 : Int32)) C.1 C.2.1 dX11_lookInRows_1 rfl ?_
  refine lv_icmp_lt (tgt := 39) C.1 C.2.1 dX11_lookInRows_3 (by decide) (fun hc => ?_) (fun hc => ?_)
  · have hf := zif_t hc hf
    exact w_X11_lookInRows_39 C hm hk  _ _ _ _ _ (lv_sub hl [0, 1] rfl) hS hf
  · have hf := zif_f hc hf
    refine lv_iload_n C.1 C.2.1 dX11_lookInRows_6 rfl (lv_at hl 1 rfl) ?_
    refine lv_bipush (v := (10 : Int32)) C.1 C.2.1 dX11_lookInRows_7 rfl ?_
    refine lv_aload_n C.1 C.2.1 dX11_lookInRows_9 rfl (lv_at hl 0 rfl) ?_
    refine zgetR C hS ff_X11_12_0 (hm 0 (by decide)) (hk (0, 0) (by decide)) dX11_lookInRows_10 ?_
    refine zgetR C hS ff_X11_90_1 (hm 1 (by decide)) (hk (1, 1) (by decide)) dX11_lookInRows_13 ?_
    refine zgetI C hS ff_X11_194_7 (hm 7 (by decide)) dX11_lookInRows_16 ?_
    refine lv_iadd C.1 C.2.1 dX11_lookInRows_19 ?_
    refine lv_icmp_ge (tgt := 39) C.1 C.2.1 dX11_lookInRows_20 (by decide) (fun hc => ?_) (fun hc => ?_)
    · have hf := zif_t hc hf
      exact w_X11_lookInRows_39 C hm hk  _ _ _ _ _ (lv_sub hl [0, 1] rfl) hS hf
    · have hf := zif_f hc hf
      refine lv_aload_n C.1 C.2.1 dX11_lookInRows_23 rfl (lv_at hl 0 rfl) ?_
      refine zgetR C hS ff_X11_12_0 (hm 0 (by decide)) (hk (0, 0) (by decide)) dX11_lookInRows_24 ?_
      refine zgetR C hS ff_X11_90_1 (hm 1 (by decide)) (hk (1, 1) (by decide)) dX11_lookInRows_27 ?_
      refine zgetR C hS ff_X11_200_7 (hm 7 (by decide)) (hk (7, 2) (by decide)) dX11_lookInRows_30 ?_
      refine lv_iload_n C.1 C.2.1 dX11_lookInRows_33 rfl (lv_at hl 1 rfl) ?_
      refine lv_bipush (v := (10 : Int32)) C.1 C.2.1 dX11_lookInRows_34 rfl ?_
      refine lv_isub C.1 C.2.1 dX11_lookInRows_36 ?_
      obtain ⟨hi, hf⟩ := zck_some hf
      refine zald C hS sh_10 (hm 10 (by decide)) hi dX11_lookInRows_37 ?_
      exact zretI C hS hf dX11_lookInRows_38
end
section
theorem dX11_look_0 : decode cX11_look 0 = .ok (.iload_n 1, 1) := by decide +kernel
theorem dX11_look_1 : decode cX11_look 1 = .ok (.tableswitch 153 0 9 #[55, 66, 74, 82, 93, 104, 115, 126, 134, 145], 55) := by decide +kernel
theorem dX11_look_56 : decode cX11_look 56 = .ok (.aload_n 0, 1) := by decide +kernel
theorem dX11_look_57 : decode cX11_look 57 = .ok (.getfield 12, 3) := by decide +kernel
theorem dX11_look_60 : decode cX11_look 60 = .ok (.getfield 90, 3) := by decide +kernel
theorem dX11_look_63 : decode cX11_look 63 = .ok (.getfield 194, 3) := by decide +kernel
theorem dX11_look_66 : decode cX11_look 66 = .ok (.ireturn, 1) := by decide +kernel
theorem dX11_look_67 : decode cX11_look 67 = .ok (.aload_n 0, 1) := by decide +kernel
theorem dX11_look_68 : decode cX11_look 68 = .ok (.getfield 12, 3) := by decide +kernel
theorem dX11_look_71 : decode cX11_look 71 = .ok (.getfield 113, 3) := by decide +kernel
theorem dX11_look_74 : decode cX11_look 74 = .ok (.ireturn, 1) := by decide +kernel
theorem dX11_look_75 : decode cX11_look 75 = .ok (.aload_n 0, 1) := by decide +kernel
theorem dX11_look_76 : decode cX11_look 76 = .ok (.getfield 12, 3) := by decide +kernel
theorem dX11_look_79 : decode cX11_look 79 = .ok (.getfield 116, 3) := by decide +kernel
theorem dX11_look_82 : decode cX11_look 82 = .ok (.ireturn, 1) := by decide +kernel
theorem dX11_look_83 : decode cX11_look 83 = .ok (.aload_n 0, 1) := by decide +kernel
theorem dX11_look_84 : decode cX11_look 84 = .ok (.getfield 12, 3) := by decide +kernel
theorem dX11_look_87 : decode cX11_look 87 = .ok (.getfield 54, 3) := by decide +kernel
theorem dX11_look_90 : decode cX11_look 90 = .ok (.getfield 58, 3) := by decide +kernel
theorem dX11_look_93 : decode cX11_look 93 = .ok (.ireturn, 1) := by decide +kernel
theorem dX11_look_94 : decode cX11_look 94 = .ok (.aload_n 0, 1) := by decide +kernel
theorem dX11_look_95 : decode cX11_look 95 = .ok (.getfield 12, 3) := by decide +kernel
theorem dX11_look_98 : decode cX11_look 98 = .ok (.getfield 90, 3) := by decide +kernel
theorem dX11_look_101 : decode cX11_look 101 = .ok (.getfield 94, 3) := by decide +kernel
theorem dX11_look_104 : decode cX11_look 104 = .ok (.ireturn, 1) := by decide +kernel
theorem dX11_look_105 : decode cX11_look 105 = .ok (.aload_n 0, 1) := by decide +kernel
theorem dX11_look_106 : decode cX11_look 106 = .ok (.getfield 12, 3) := by decide +kernel
theorem dX11_look_109 : decode cX11_look 109 = .ok (.getfield 154, 3) := by decide +kernel
theorem dX11_look_112 : decode cX11_look 112 = .ok (.getfield 158, 3) := by decide +kernel
theorem dX11_look_115 : decode cX11_look 115 = .ok (.ireturn, 1) := by decide +kernel
theorem dX11_look_116 : decode cX11_look 116 = .ok (.aload_n 0, 1) := by decide +kernel
theorem dX11_look_117 : decode cX11_look 117 = .ok (.getfield 12, 3) := by decide +kernel
theorem dX11_look_120 : decode cX11_look 120 = .ok (.getfield 154, 3) := by decide +kernel
theorem dX11_look_123 : decode cX11_look 123 = .ok (.getfield 221, 3) := by decide +kernel
theorem dX11_look_126 : decode cX11_look 126 = .ok (.ireturn, 1) := by decide +kernel
theorem dX11_look_127 : decode cX11_look 127 = .ok (.aload_n 0, 1) := by decide +kernel
theorem dX11_look_128 : decode cX11_look 128 = .ok (.getfield 12, 3) := by decide +kernel
theorem dX11_look_131 : decode cX11_look 131 = .ok (.getfield 43, 3) := by decide +kernel
theorem dX11_look_134 : decode cX11_look 134 = .ok (.ireturn, 1) := by decide +kernel
theorem dX11_look_135 : decode cX11_look 135 = .ok (.aload_n 0, 1) := by decide +kernel
theorem dX11_look_136 : decode cX11_look 136 = .ok (.getfield 12, 3) := by decide +kernel
theorem dX11_look_139 : decode cX11_look 139 = .ok (.getfield 132, 3) := by decide +kernel
theorem dX11_look_142 : decode cX11_look 142 = .ok (.getfield 145, 3) := by decide +kernel
theorem dX11_look_145 : decode cX11_look 145 = .ok (.ireturn, 1) := by decide +kernel
theorem dX11_look_146 : decode cX11_look 146 = .ok (.aload_n 0, 1) := by decide +kernel
theorem dX11_look_147 : decode cX11_look 147 = .ok (.getfield 19, 3) := by decide +kernel
theorem dX11_look_150 : decode cX11_look 150 = .ok (.getfield 309, 3) := by decide +kernel
theorem dX11_look_153 : decode cX11_look 153 = .ok (.ireturn, 1) := by decide +kernel
theorem dX11_look_154 : decode cX11_look 154 = .ok (.aload_n 0, 1) := by decide +kernel
theorem dX11_look_155 : decode cX11_look 155 = .ok (.iload_n 1, 1) := by decide +kernel
theorem dX11_look_156 : decode cX11_look 156 = .ok (.invokevirtual 310, 3) := by decide +kernel
theorem dX11_look_159 : decode cX11_look 159 = .ok (.ireturn, 1) := by decide +kernel
abbrev nd_X11_look : List Nat := [0, 1, 2, 7, 10, 11, 16, 20, 22]
abbrev ld_X11_look : List (Nat × Nat) := [(0, 0), (0, 1), (1, 0), (1, 1), (1, 2), (1, 3), (1, 4), (7, 2)]
theorem sn_X11_look_X11_lookInRows : ∀ c ∈ nd_X11_lookInRows, c ∈ nd_X11_look := by decide
theorem sl_X11_look_X11_lookInRows : ∀ q ∈ ld_X11_lookInRows, q ∈ ld_X11_look := by decide
def f_X11_look  (x1 : Int32) (h : zH) : zR := (if x1 = (0 : Int32) then (some ((h 7 3), h)) else (if x1 = (1 : Int32) then (some ((h 1 6), h)) else (if x1 = (2 : Int32) then (some ((h 1 7), h)) else (if x1 = (3 : Int32) then (some ((h 2 4), h)) else (if x1 = (4 : Int32) then (some ((h 7 4), h)) else (if x1 = (5 : Int32) then (some ((h 11 5), h)) else (if x1 = (6 : Int32) then (some ((h 11 4), h)) else (if x1 = (7 : Int32) then (some ((h 1 8), h)) else (if x1 = (8 : Int32) then (some ((h 16 4), h)) else (if x1 = (9 : Int32) then (some ((h 22 7), h)) else (zbd (f_X11_lookInRows x1 h) fun r1 h2 => (some (r1, h2)))))))))))))
variable {p : Program} {l : Launch} {e : Env} {s : State} {m : MethodId} {args : Array Value} {below : List Frame} {meth : Method} {c : Code} {G : zG} {q : Int32 × zH}
set_option maxHeartbeats 4000000 in
set_option maxRecDepth 100000 in
theorem c_X11_look (l : Launch) (G : zG) (h : zH) (x1 : Int32) (q : Int32 × zH) (hm : ∀ c ∈ nd_X11_look, c ∈ znm G) (hk : ∀ q ∈ ld_X11_look, zlk G q.1 q.2 = true) (hf : f_X11_look x1 h = some q) : zCtI l yX11_look cX11_look 2 (some .int) (3) [.ref (zal G 0), .int x1] G h q.2 q.1 := by
  refine zMetI (by decide) (Nat.le_of_ble_eq_true rfl) ?_
  intro p e s m below meth c ls C hl hS
  have hl : lv_has ls 2 [(0, .ref (zal G 0)), (1, .int x1)] := hl
  have C : zC G p s m [.ref (zal G 0), .int x1].toArray meth c cX11_look 2 RX11 (some .int) := C
  unfold f_X11_look at hf
  refine lv_iload_n C.1 C.2.1 dX11_look_0 rfl (lv_at hl 1 rfl) ?_
  by_cases hc0 : x1 = (0 : Int32)
  · have hf := zif_t hc0 hf
    refine lv_tableIn (off := 55) (tgt := 56) C.1 C.2.1 dX11_look_1 (by rw [hc0]; decide) (by rw [hc0]; decide) (by rw [hc0]; rfl) (by decide) ?_
    refine lv_aload_n C.1 C.2.1 dX11_look_56 rfl (lv_at hl 0 rfl) ?_
    refine zgetR C hS ff_X11_12_0 (hm 0 (by decide)) (hk (0, 0) (by decide)) dX11_look_57 ?_
    refine zgetR C hS ff_X11_90_1 (hm 1 (by decide)) (hk (1, 1) (by decide)) dX11_look_60 ?_
    refine zgetI C hS ff_X11_194_7 (hm 7 (by decide)) dX11_look_63 ?_
    exact zretI C hS hf dX11_look_66
  have hf := zif_f hc0 hf
  by_cases hc1 : x1 = (1 : Int32)
  · have hf := zif_t hc1 hf
    refine lv_tableIn (off := 66) (tgt := 67) C.1 C.2.1 dX11_look_1 (by rw [hc1]; decide) (by rw [hc1]; decide) (by rw [hc1]; rfl) (by decide) ?_
    refine lv_aload_n C.1 C.2.1 dX11_look_67 rfl (lv_at hl 0 rfl) ?_
    refine zgetR C hS ff_X11_12_0 (hm 0 (by decide)) (hk (0, 0) (by decide)) dX11_look_68 ?_
    refine zgetI C hS ff_X11_113_1 (hm 1 (by decide)) dX11_look_71 ?_
    exact zretI C hS hf dX11_look_74
  have hf := zif_f hc1 hf
  by_cases hc2 : x1 = (2 : Int32)
  · have hf := zif_t hc2 hf
    refine lv_tableIn (off := 74) (tgt := 75) C.1 C.2.1 dX11_look_1 (by rw [hc2]; decide) (by rw [hc2]; decide) (by rw [hc2]; rfl) (by decide) ?_
    refine lv_aload_n C.1 C.2.1 dX11_look_75 rfl (lv_at hl 0 rfl) ?_
    refine zgetR C hS ff_X11_12_0 (hm 0 (by decide)) (hk (0, 0) (by decide)) dX11_look_76 ?_
    refine zgetI C hS ff_X11_116_1 (hm 1 (by decide)) dX11_look_79 ?_
    exact zretI C hS hf dX11_look_82
  have hf := zif_f hc2 hf
  by_cases hc3 : x1 = (3 : Int32)
  · have hf := zif_t hc3 hf
    refine lv_tableIn (off := 82) (tgt := 83) C.1 C.2.1 dX11_look_1 (by rw [hc3]; decide) (by rw [hc3]; decide) (by rw [hc3]; rfl) (by decide) ?_
    refine lv_aload_n C.1 C.2.1 dX11_look_83 rfl (lv_at hl 0 rfl) ?_
    refine zgetR C hS ff_X11_12_0 (hm 0 (by decide)) (hk (0, 0) (by decide)) dX11_look_84 ?_
    refine zgetR C hS ff_X11_54_1 (hm 1 (by decide)) (hk (1, 0) (by decide)) dX11_look_87 ?_
    refine zgetI C hS ff_X11_58_2 (hm 2 (by decide)) dX11_look_90 ?_
    exact zretI C hS hf dX11_look_93
  have hf := zif_f hc3 hf
  by_cases hc4 : x1 = (4 : Int32)
  · have hf := zif_t hc4 hf
    refine lv_tableIn (off := 93) (tgt := 94) C.1 C.2.1 dX11_look_1 (by rw [hc4]; decide) (by rw [hc4]; decide) (by rw [hc4]; rfl) (by decide) ?_
    refine lv_aload_n C.1 C.2.1 dX11_look_94 rfl (lv_at hl 0 rfl) ?_
    refine zgetR C hS ff_X11_12_0 (hm 0 (by decide)) (hk (0, 0) (by decide)) dX11_look_95 ?_
    refine zgetR C hS ff_X11_90_1 (hm 1 (by decide)) (hk (1, 1) (by decide)) dX11_look_98 ?_
    refine zgetI C hS ff_X11_94_7 (hm 7 (by decide)) dX11_look_101 ?_
    exact zretI C hS hf dX11_look_104
  have hf := zif_f hc4 hf
  by_cases hc5 : x1 = (5 : Int32)
  · have hf := zif_t hc5 hf
    refine lv_tableIn (off := 104) (tgt := 105) C.1 C.2.1 dX11_look_1 (by rw [hc5]; decide) (by rw [hc5]; decide) (by rw [hc5]; rfl) (by decide) ?_
    refine lv_aload_n C.1 C.2.1 dX11_look_105 rfl (lv_at hl 0 rfl) ?_
    refine zgetR C hS ff_X11_12_0 (hm 0 (by decide)) (hk (0, 0) (by decide)) dX11_look_106 ?_
    refine zgetR C hS ff_X11_154_1 (hm 1 (by decide)) (hk (1, 2) (by decide)) dX11_look_109 ?_
    refine zgetI C hS ff_X11_158_11 (hm 11 (by decide)) dX11_look_112 ?_
    exact zretI C hS hf dX11_look_115
  have hf := zif_f hc5 hf
  by_cases hc6 : x1 = (6 : Int32)
  · have hf := zif_t hc6 hf
    refine lv_tableIn (off := 115) (tgt := 116) C.1 C.2.1 dX11_look_1 (by rw [hc6]; decide) (by rw [hc6]; decide) (by rw [hc6]; rfl) (by decide) ?_
    refine lv_aload_n C.1 C.2.1 dX11_look_116 rfl (lv_at hl 0 rfl) ?_
    refine zgetR C hS ff_X11_12_0 (hm 0 (by decide)) (hk (0, 0) (by decide)) dX11_look_117 ?_
    refine zgetR C hS ff_X11_154_1 (hm 1 (by decide)) (hk (1, 2) (by decide)) dX11_look_120 ?_
    refine zgetI C hS ff_X11_221_11 (hm 11 (by decide)) dX11_look_123 ?_
    exact zretI C hS hf dX11_look_126
  have hf := zif_f hc6 hf
  by_cases hc7 : x1 = (7 : Int32)
  · have hf := zif_t hc7 hf
    refine lv_tableIn (off := 126) (tgt := 127) C.1 C.2.1 dX11_look_1 (by rw [hc7]; decide) (by rw [hc7]; decide) (by rw [hc7]; rfl) (by decide) ?_
    refine lv_aload_n C.1 C.2.1 dX11_look_127 rfl (lv_at hl 0 rfl) ?_
    refine zgetR C hS ff_X11_12_0 (hm 0 (by decide)) (hk (0, 0) (by decide)) dX11_look_128 ?_
    refine zgetI C hS ff_X11_43_1 (hm 1 (by decide)) dX11_look_131 ?_
    exact zretI C hS hf dX11_look_134
  have hf := zif_f hc7 hf
  by_cases hc8 : x1 = (8 : Int32)
  · have hf := zif_t hc8 hf
    refine lv_tableIn (off := 134) (tgt := 135) C.1 C.2.1 dX11_look_1 (by rw [hc8]; decide) (by rw [hc8]; decide) (by rw [hc8]; rfl) (by decide) ?_
    refine lv_aload_n C.1 C.2.1 dX11_look_135 rfl (lv_at hl 0 rfl) ?_
    refine zgetR C hS ff_X11_12_0 (hm 0 (by decide)) (hk (0, 0) (by decide)) dX11_look_136 ?_
    refine zgetR C hS ff_X11_132_1 (hm 1 (by decide)) (hk (1, 3) (by decide)) dX11_look_139 ?_
    refine zgetI C hS ff_X11_145_16 (hm 16 (by decide)) dX11_look_142 ?_
    exact zretI C hS hf dX11_look_145
  have hf := zif_f hc8 hf
  by_cases hc9 : x1 = (9 : Int32)
  · have hf := zif_t hc9 hf
    refine lv_tableIn (off := 145) (tgt := 146) C.1 C.2.1 dX11_look_1 (by rw [hc9]; decide) (by rw [hc9]; decide) (by rw [hc9]; rfl) (by decide) ?_
    refine lv_aload_n C.1 C.2.1 dX11_look_146 rfl (lv_at hl 0 rfl) ?_
    refine zgetR C hS ff_X11_19_0 (hm 0 (by decide)) (hk (0, 1) (by decide)) dX11_look_147 ?_
    refine zgetI C hS ff_X11_309_22 (hm 22 (by decide)) dX11_look_150 ?_
    exact zretI C hS hf dX11_look_153
  have hf := zif_f hc9 hf
  refine lv_tableOut (tgt := 154) C.1 C.2.1 dX11_look_1 (zso 0 10 (fun k hk => by match k, hk with | 0, _ => exact hc0 | 1, _ => exact hc1 | 2, _ => exact hc2 | 3, _ => exact hc3 | 4, _ => exact hc4 | 5, _ => exact hc5 | 6, _ => exact hc6 | 7, _ => exact hc7 | 8, _ => exact hc8 | 9, _ => exact hc9)) (by decide) ?_
  refine lv_aload_n C.1 C.2.1 dX11_look_154 rfl (lv_at hl 0 rfl) ?_
  refine lv_iload_n C.1 C.2.1 dX11_look_155 rfl (lv_at hl 1 rfl) ?_
  obtain ⟨r1, h2, er1, hf⟩ := zbd_some hf
  refine zcallVI (As := [.int x1]) (rest := []) C hS mv_X11_310 (c_X11_lookInRows l G h x1 (r1, h2) (fun c h => hm c (sn_X11_look_X11_lookInRows c h)) (fun q h => hk q (sl_X11_look_X11_lookInRows q h)) er1) (hm 0 (by decide)) ⟨_, _, _, sh_0, rfl, rfl⟩ rfl rfl (Nat.le_of_ble_eq_true rfl) hl.1 ⟨Nat.le_of_ble_eq_true rfl, Nat.le_of_ble_eq_true rfl, Nat.le_of_ble_eq_true rfl, Nat.le_of_ble_eq_true rfl⟩ dX11_look_156 (fun H locs hS => ?_)
  exact zretI C hS hf dX11_look_159
end
