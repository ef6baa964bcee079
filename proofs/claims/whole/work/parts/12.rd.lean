theorem kw_601 : Cond.fieldLink RJ0 1053 "jdk/internal/util/Preconditions" "SIOOBE_FORMATTER" "Ljava/util/function/BiFunction;" ∈ zg := zg_of (List.mem_of_getElem? (i := 601) (by decide +kernel)) (by decide +kernel)
theorem kw_96 : Cond.initialized RJ3 ∈ zg := zg_of (List.mem_of_getElem? (i := 96) (by decide +kernel)) (by decide +kernel)
theorem kw_605 : Cond.code yJ3_checkIndex_8e157 cJ3_checkIndex_8e157 3 (some .int) ∈ zg := zg_of (List.mem_of_getElem? (i := 605) (by decide +kernel)) (by decide +kernel)
theorem kw_603 : Cond.methodLink RJ0 1059 yJ3_checkIndex_8e157 ∈ zg := zg_of (List.mem_of_getElem? (i := 603) (by decide +kernel)) (by decide +kernel)
theorem kw_604 : Cond.static yJ3_checkIndex_8e157 ∈ zg := zg_of (List.mem_of_getElem? (i := 604) (by decide +kernel)) (by decide +kernel)
theorem ms_J0_1059 : zMS RJ0 1059 yJ3_checkIndex_8e157 cJ3_checkIndex_8e157 3 (some .int) 3 := ⟨⟨kw_603, kw_604, kw_96, kw_605⟩, ⟨by decide, by decide, by decide +kernel⟩, by decide⟩
theorem kw_564 : Cond.code yX7_readLaw cX7_readLaw 2 (some .boolean) ∈ zg := zg_of (List.mem_of_getElem? (i := 564) (by decide +kernel)) (by decide +kernel)
theorem kw_561 : Cond.methodLink RX11 128 yX7_readLaw ∈ zg := zg_of (List.mem_of_getElem? (i := 561) (by decide +kernel)) (by decide +kernel)
theorem kw_562 : Cond.instanceMethod yX7_readLaw ∈ zg := zg_of (List.mem_of_getElem? (i := 562) (by decide +kernel)) (by decide +kernel)
theorem kw_563 : Cond.selects RX7 yX7_readLaw yX7_readLaw ∈ zg := zg_of (List.mem_of_getElem? (i := 563) (by decide +kernel)) (by decide +kernel)
theorem mv_X11_128 : zMV RX11 128 yX7_readLaw cX7_readLaw 2 (some .boolean) 0 := ⟨⟨kw_561, kw_562, kw_563, kw_91, kw_564⟩, ⟨by decide, by decide, by decide +kernel⟩, by decide⟩
theorem kw_568 : Cond.code yX7_split cX7_split 2 none ∈ zg := zg_of (List.mem_of_getElem? (i := 568) (by decide +kernel)) (by decide +kernel)
theorem kw_565 : Cond.methodLink RX7 39 yX7_split ∈ zg := zg_of (List.mem_of_getElem? (i := 565) (by decide +kernel)) (by decide +kernel)
theorem kw_567 : Cond.instanceMethod yX7_split ∈ zg := zg_of (List.mem_of_getElem? (i := 567) (by decide +kernel)) (by decide +kernel)
theorem kw_0 : Cond.selects RX7 yX7_split yX7_split ∈ zg := zg_of (List.mem_of_getElem? (i := 0) (by decide +kernel)) (by decide +kernel)
theorem mv_X7_39 : zMV RX7 39 yX7_split cX7_split 2 none 0 := ⟨⟨kw_565, kw_567, kw_0, kw_91, kw_568⟩, ⟨by decide, by decide, by decide +kernel⟩, by decide⟩
theorem kw_344 : Cond.fieldLink RX7 57 "HalfAJoke$Reader" "tokens" "I" ∈ zg := zg_of (List.mem_of_getElem? (i := 344) (by decide +kernel)) (by decide +kernel)
theorem ff_X7_57_29 : zFc RX7 57 29 8 none := ⟨_, _, _, tyX7, sh_29, rfl, by decide, iz_X7, kw_344, rfl, tyX7_ok, nmX7⟩
theorem fw_29_8 : ∀ q : vw_C, ∀ ci fl, zsh 29 = .inr (ci, fl) → zcl[ci]? = some q → (q.2.1 8).2.2.2 = false ∧ (q.2.1 8).2.2.1 = "I" := zfin sh_29 rfl ⟨rfl, rfl⟩
theorem kw_628 : Cond.code yX7_addToken cX7_addToken 4 none ∈ zg := zg_of (List.mem_of_getElem? (i := 628) (by decide +kernel)) (by decide +kernel)
theorem kw_625 : Cond.methodLink RX7 70 yX7_addToken ∈ zg := zg_of (List.mem_of_getElem? (i := 625) (by decide +kernel)) (by decide +kernel)
theorem kw_627 : Cond.instanceMethod yX7_addToken ∈ zg := zg_of (List.mem_of_getElem? (i := 627) (by decide +kernel)) (by decide +kernel)
theorem kw_4 : Cond.selects RX7 yX7_addToken yX7_addToken ∈ zg := zg_of (List.mem_of_getElem? (i := 4) (by decide +kernel)) (by decide +kernel)
theorem mv_X7_70 : zMV RX7 70 yX7_addToken cX7_addToken 4 none 3 := ⟨⟨kw_625, kw_627, kw_4, kw_91, kw_628⟩, ⟨by decide, by decide, by decide +kernel⟩, by decide⟩
theorem kw_333 : Cond.fieldLink RX7 15 "HalfAJoke$Reader" "kinds" "[I" ∈ zg := zg_of (List.mem_of_getElem? (i := 333) (by decide +kernel)) (by decide +kernel)
theorem ff_X7_15_29 : zFc RX7 15 29 1 (some (31, false)) := ⟨_, _, _, tyX7, sh_29, rfl, by decide, iz_X7, kw_333, rfl, tyX7_ok, nmX7⟩
theorem kw_334 : Cond.fieldLink RX7 19 "HalfAJoke$Reader" "values" "[I" ∈ zg := zg_of (List.mem_of_getElem? (i := 334) (by decide +kernel)) (by decide +kernel)
theorem ff_X7_19_29 : zFc RX7 19 29 2 (some (32, false)) := ⟨_, _, _, tyX7, sh_29, rfl, by decide, iz_X7, kw_334, rfl, tyX7_ok, nmX7⟩
theorem kw_335 : Cond.fieldLink RX7 22 "HalfAJoke$Reader" "places" "[I" ∈ zg := zg_of (List.mem_of_getElem? (i := 335) (by decide +kernel)) (by decide +kernel)
theorem ff_X7_22_29 : zFc RX7 22 29 3 (some (33, false)) := ⟨_, _, _, tyX7, sh_29, rfl, by decide, iz_X7, kw_335, rfl, tyX7_ok, nmX7⟩
theorem kw_572 : Cond.code yX7_takeToken cX7_takeToken 4 (some .int) ∈ zg := zg_of (List.mem_of_getElem? (i := 572) (by decide +kernel)) (by decide +kernel)
theorem kw_569 : Cond.methodLink RX7 60 yX7_takeToken ∈ zg := zg_of (List.mem_of_getElem? (i := 569) (by decide +kernel)) (by decide +kernel)
theorem kw_571 : Cond.instanceMethod yX7_takeToken ∈ zg := zg_of (List.mem_of_getElem? (i := 571) (by decide +kernel)) (by decide +kernel)
theorem kw_1 : Cond.selects RX7 yX7_takeToken yX7_takeToken ∈ zg := zg_of (List.mem_of_getElem? (i := 1) (by decide +kernel)) (by decide +kernel)
theorem mv_X7_60 : zMV RX7 60 yX7_takeToken cX7_takeToken 4 (some .int) 1 := ⟨⟨kw_569, kw_571, kw_1, kw_91, kw_572⟩, ⟨by decide, by decide, by decide +kernel⟩, by decide⟩
theorem kw_575 : Cond.code yX7_isLetter cX7_isLetter 1 (some .boolean) ∈ zg := zg_of (List.mem_of_getElem? (i := 575) (by decide +kernel)) (by decide +kernel)
theorem kw_573 : Cond.methodLink RX7 74 yX7_isLetter ∈ zg := zg_of (List.mem_of_getElem? (i := 573) (by decide +kernel)) (by decide +kernel)
theorem kw_574 : Cond.static yX7_isLetter ∈ zg := zg_of (List.mem_of_getElem? (i := 574) (by decide +kernel)) (by decide +kernel)
theorem ms_X7_74 : zMS RX7 74 yX7_isLetter cX7_isLetter 1 (some .boolean) 1 := ⟨⟨kw_573, kw_574, kw_91, kw_575⟩, ⟨by decide, by decide, by decide +kernel⟩, by decide⟩
theorem kw_631 : Cond.code yX7_isDigit cX7_isDigit 1 (some .boolean) ∈ zg := zg_of (List.mem_of_getElem? (i := 631) (by decide +kernel)) (by decide +kernel)
theorem kw_629 : Cond.methodLink RX7 81 yX7_isDigit ∈ zg := zg_of (List.mem_of_getElem? (i := 629) (by decide +kernel)) (by decide +kernel)
theorem kw_630 : Cond.static yX7_isDigit ∈ zg := zg_of (List.mem_of_getElem? (i := 630) (by decide +kernel)) (by decide +kernel)
theorem ms_X7_81 : zMS RX7 81 yX7_isDigit cX7_isDigit 1 (some .boolean) 1 := ⟨⟨kw_629, kw_630, kw_91, kw_631⟩, ⟨by decide, by decide, by decide +kernel⟩, by decide⟩
theorem kw_94 : Cond.initialized RJ0 ∈ zg := zg_of (List.mem_of_getElem? (i := 94) (by decide +kernel)) (by decide +kernel)
theorem kw_640 : Cond.code yJ0_indexOf_0f7a4 cJ0_indexOf_0f7a4 2 (some .int) ∈ zg := zg_of (List.mem_of_getElem? (i := 640) (by decide +kernel)) (by decide +kernel)
theorem kw_637 : Cond.methodLink RX7 89 yJ0_indexOf_0f7a4 ∈ zg := zg_of (List.mem_of_getElem? (i := 637) (by decide +kernel)) (by decide +kernel)
theorem kw_638 : Cond.instanceMethod yJ0_indexOf_0f7a4 ∈ zg := zg_of (List.mem_of_getElem? (i := 638) (by decide +kernel)) (by decide +kernel)
theorem kw_639 : Cond.selects RJ0 yJ0_indexOf_0f7a4 yJ0_indexOf_0f7a4 ∈ zg := zg_of (List.mem_of_getElem? (i := 639) (by decide +kernel)) (by decide +kernel)
theorem mv_X7_89 : zMV RX7 89 yJ0_indexOf_0f7a4 cJ0_indexOf_0f7a4 2 (some .int) 1 := ⟨⟨kw_637, kw_638, kw_639, kw_94, kw_640⟩, ⟨by decide, by decide, by decide +kernel⟩, by decide⟩
theorem kw_644 : Cond.code yJ0_indexOf_7cf53 cJ0_indexOf_7cf53 3 (some .int) ∈ zg := zg_of (List.mem_of_getElem? (i := 644) (by decide +kernel)) (by decide +kernel)
theorem kw_641 : Cond.methodLink RJ0 633 yJ0_indexOf_7cf53 ∈ zg := zg_of (List.mem_of_getElem? (i := 641) (by decide +kernel)) (by decide +kernel)
theorem kw_642 : Cond.instanceMethod yJ0_indexOf_7cf53 ∈ zg := zg_of (List.mem_of_getElem? (i := 642) (by decide +kernel)) (by decide +kernel)
theorem kw_643 : Cond.selects RJ0 yJ0_indexOf_7cf53 yJ0_indexOf_7cf53 ∈ zg := zg_of (List.mem_of_getElem? (i := 643) (by decide +kernel)) (by decide +kernel)
theorem mv_J0_633 : zMV RJ0 633 yJ0_indexOf_7cf53 cJ0_indexOf_7cf53 3 (some .int) 2 := ⟨⟨kw_641, kw_642, kw_643, kw_94, kw_644⟩, ⟨by decide, by decide, by decide +kernel⟩, by decide⟩
theorem kw_592 : Cond.code yJ0_isLatin1_aae02 cJ0_isLatin1_aae02 1 (some .boolean) ∈ zg := zg_of (List.mem_of_getElem? (i := 592) (by decide +kernel)) (by decide +kernel)
theorem kw_589 : Cond.methodLink RJ0 492 yJ0_isLatin1_aae02 ∈ zg := zg_of (List.mem_of_getElem? (i := 589) (by decide +kernel)) (by decide +kernel)
theorem kw_590 : Cond.instanceMethod yJ0_isLatin1_aae02 ∈ zg := zg_of (List.mem_of_getElem? (i := 590) (by decide +kernel)) (by decide +kernel)
theorem kw_591 : Cond.selects RJ0 yJ0_isLatin1_aae02 yJ0_isLatin1_aae02 ∈ zg := zg_of (List.mem_of_getElem? (i := 591) (by decide +kernel)) (by decide +kernel)
theorem mv_J0_492 : zMV RJ0 492 yJ0_isLatin1_aae02 cJ0_isLatin1_aae02 1 (some .boolean) 0 := ⟨⟨kw_589, kw_590, kw_591, kw_94, kw_592⟩, ⟨by decide, by decide, by decide +kernel⟩, by decide⟩
theorem kw_593 : Cond.fieldLink RJ0 38 "java/lang/String" "COMPACT_STRINGS" "Z" ∈ zg := zg_of (List.mem_of_getElem? (i := 593) (by decide +kernel)) (by decide +kernel)
theorem kw_1620 : Cond.fieldLink RJ0 15 "java/lang/String" "coder" "B" ∈ zg := zg_of (List.mem_of_getElem? (i := 1620) (by decide +kernel)) (by decide +kernel)
theorem kw_1621 : Cond.fieldLink RJ0 9 "java/lang/String" "value" "[B" ∈ zg := zg_of (List.mem_of_getElem? (i := 1621) (by decide +kernel)) (by decide +kernel)
theorem kw_648 : Cond.code yJ0_length_8abf5 cJ0_length_8abf5 1 (some .int) ∈ zg := zg_of (List.mem_of_getElem? (i := 648) (by decide +kernel)) (by decide +kernel)
theorem kw_645 : Cond.methodLink RJ0 505 yJ0_length_8abf5 ∈ zg := zg_of (List.mem_of_getElem? (i := 645) (by decide +kernel)) (by decide +kernel)
theorem kw_646 : Cond.instanceMethod yJ0_length_8abf5 ∈ zg := zg_of (List.mem_of_getElem? (i := 646) (by decide +kernel)) (by decide +kernel)
theorem kw_647 : Cond.selects RJ0 yJ0_length_8abf5 yJ0_length_8abf5 ∈ zg := zg_of (List.mem_of_getElem? (i := 647) (by decide +kernel)) (by decide +kernel)
theorem mv_J0_505 : zMV RJ0 505 yJ0_length_8abf5 cJ0_length_8abf5 1 (some .int) 0 := ⟨⟨kw_645, kw_646, kw_647, kw_94, kw_648⟩, ⟨by decide, by decide, by decide +kernel⟩, by decide⟩
theorem kw_652 : Cond.code yJ0_coder_7d493 cJ0_coder_7d493 1 (some .byte) ∈ zg := zg_of (List.mem_of_getElem? (i := 652) (by decide +kernel)) (by decide +kernel)
theorem kw_649 : Cond.methodLink RJ0 335 yJ0_coder_7d493 ∈ zg := zg_of (List.mem_of_getElem? (i := 649) (by decide +kernel)) (by decide +kernel)
theorem kw_650 : Cond.instanceMethod yJ0_coder_7d493 ∈ zg := zg_of (List.mem_of_getElem? (i := 650) (by decide +kernel)) (by decide +kernel)
theorem kw_651 : Cond.selects RJ0 yJ0_coder_7d493 yJ0_coder_7d493 ∈ zg := zg_of (List.mem_of_getElem? (i := 651) (by decide +kernel)) (by decide +kernel)
theorem mv_J0_335 : zMV RJ0 335 yJ0_coder_7d493 cJ0_coder_7d493 1 (some .byte) 0 := ⟨⟨kw_649, kw_650, kw_651, kw_94, kw_652⟩, ⟨by decide, by decide, by decide +kernel⟩, by decide⟩
theorem kw_95 : Cond.initialized RJ1 ∈ zg := zg_of (List.mem_of_getElem? (i := 95) (by decide +kernel)) (by decide +kernel)
theorem kw_655 : Cond.code yJ1_indexOf_4cfef cJ1_indexOf_4cfef 4 (some .int) ∈ zg := zg_of (List.mem_of_getElem? (i := 655) (by decide +kernel)) (by decide +kernel)
theorem kw_653 : Cond.methodLink RJ0 637 yJ1_indexOf_4cfef ∈ zg := zg_of (List.mem_of_getElem? (i := 653) (by decide +kernel)) (by decide +kernel)
theorem kw_654 : Cond.static yJ1_indexOf_4cfef ∈ zg := zg_of (List.mem_of_getElem? (i := 654) (by decide +kernel)) (by decide +kernel)
theorem ms_J0_637 : zMS RJ0 637 yJ1_indexOf_4cfef cJ1_indexOf_4cfef 4 (some .int) 4 := ⟨⟨kw_653, kw_654, kw_95, kw_655⟩, ⟨by decide, by decide, by decide +kernel⟩, by decide⟩
theorem kw_658 : Cond.code yJ1_canEncode_9a6ad cJ1_canEncode_9a6ad 1 (some .boolean) ∈ zg := zg_of (List.mem_of_getElem? (i := 658) (by decide +kernel)) (by decide +kernel)
theorem kw_656 : Cond.methodLink RJ1 88 yJ1_canEncode_9a6ad ∈ zg := zg_of (List.mem_of_getElem? (i := 656) (by decide +kernel)) (by decide +kernel)
theorem kw_657 : Cond.static yJ1_canEncode_9a6ad ∈ zg := zg_of (List.mem_of_getElem? (i := 657) (by decide +kernel)) (by decide +kernel)
theorem ms_J1_88 : zMS RJ1 88 yJ1_canEncode_9a6ad cJ1_canEncode_9a6ad 1 (some .boolean) 1 := ⟨⟨kw_656, kw_657, kw_95, kw_658⟩, ⟨by decide, by decide, by decide +kernel⟩, by decide⟩
theorem kw_659 : Cond.methodLink RJ1 92 Lib.Math.max.name ∈ zg := zg_of (List.mem_of_getElem? (i := 659) (by decide +kernel)) (by decide +kernel)
theorem kw_662 : Cond.methodLink RJ1 38 Lib.Math.min.name ∈ zg := zg_of (List.mem_of_getElem? (i := 662) (by decide +kernel)) (by decide +kernel)
theorem kw_667 : Cond.code yJ1_indexOfChar_4cfef cJ1_indexOfChar_4cfef 6 (some .int) ∈ zg := zg_of (List.mem_of_getElem? (i := 667) (by decide +kernel)) (by decide +kernel)
theorem kw_665 : Cond.methodLink RJ1 95 yJ1_indexOfChar_4cfef ∈ zg := zg_of (List.mem_of_getElem? (i := 665) (by decide +kernel)) (by decide +kernel)
theorem kw_666 : Cond.static yJ1_indexOfChar_4cfef ∈ zg := zg_of (List.mem_of_getElem? (i := 666) (by decide +kernel)) (by decide +kernel)
theorem ms_J1_95 : zMS RJ1 95 yJ1_indexOfChar_4cfef cJ1_indexOfChar_4cfef 6 (some .int) 4 := ⟨⟨kw_665, kw_666, kw_95, kw_667⟩, ⟨by decide, by decide, by decide +kernel⟩, by decide⟩
theorem kw_635 : Cond.code yX7_takeNumber cX7_takeNumber 4 (some .int) ∈ zg := zg_of (List.mem_of_getElem? (i := 635) (by decide +kernel)) (by decide +kernel)
theorem kw_632 : Cond.methodLink RX7 84 yX7_takeNumber ∈ zg := zg_of (List.mem_of_getElem? (i := 632) (by decide +kernel)) (by decide +kernel)
theorem kw_634 : Cond.instanceMethod yX7_takeNumber ∈ zg := zg_of (List.mem_of_getElem? (i := 634) (by decide +kernel)) (by decide +kernel)
theorem kw_5 : Cond.selects RX7 yX7_takeNumber yX7_takeNumber ∈ zg := zg_of (List.mem_of_getElem? (i := 5) (by decide +kernel)) (by decide +kernel)
theorem mv_X7_84 : zMV RX7 84 yX7_takeNumber cX7_takeNumber 4 (some .int) 1 := ⟨⟨kw_632, kw_634, kw_5, kw_91, kw_635⟩, ⟨by decide, by decide, by decide +kernel⟩, by decide⟩
theorem kw_579 : Cond.code yX7_takeWord cX7_takeWord 5 (some .int) ∈ zg := zg_of (List.mem_of_getElem? (i := 579) (by decide +kernel)) (by decide +kernel)
theorem kw_576 : Cond.methodLink RX7 78 yX7_takeWord ∈ zg := zg_of (List.mem_of_getElem? (i := 576) (by decide +kernel)) (by decide +kernel)
theorem kw_578 : Cond.instanceMethod yX7_takeWord ∈ zg := zg_of (List.mem_of_getElem? (i := 578) (by decide +kernel)) (by decide +kernel)
theorem kw_2 : Cond.selects RX7 yX7_takeWord yX7_takeWord ∈ zg := zg_of (List.mem_of_getElem? (i := 2) (by decide +kernel)) (by decide +kernel)
theorem mv_X7_78 : zMV RX7 78 yX7_takeWord cX7_takeWord 5 (some .int) 1 := ⟨⟨kw_576, kw_578, kw_2, kw_91, kw_579⟩, ⟨by decide, by decide, by decide +kernel⟩, by decide⟩
theorem kw_583 : Cond.code yX7_isWord cX7_isWord 6 (some .boolean) ∈ zg := zg_of (List.mem_of_getElem? (i := 583) (by decide +kernel)) (by decide +kernel)
theorem kw_580 : Cond.methodLink RX7 94 yX7_isWord ∈ zg := zg_of (List.mem_of_getElem? (i := 580) (by decide +kernel)) (by decide +kernel)
theorem kw_582 : Cond.instanceMethod yX7_isWord ∈ zg := zg_of (List.mem_of_getElem? (i := 582) (by decide +kernel)) (by decide +kernel)
theorem kw_3 : Cond.selects RX7 yX7_isWord yX7_isWord ∈ zg := zg_of (List.mem_of_getElem? (i := 3) (by decide +kernel)) (by decide +kernel)
theorem mv_X7_94 : zMV RX7 94 yX7_isWord cX7_isWord 6 (some .boolean) 3 := ⟨⟨kw_580, kw_582, kw_3, kw_91, kw_583⟩, ⟨by decide, by decide, by decide +kernel⟩, by decide⟩
theorem kw_588 : Cond.code yJ0_charAt_5068e cJ0_charAt_5068e 2 (some .char) ∈ zg := zg_of (List.mem_of_getElem? (i := 588) (by decide +kernel)) (by decide +kernel)
theorem kw_585 : Cond.methodLink RX7 100 yJ0_charAt_5068e ∈ zg := zg_of (List.mem_of_getElem? (i := 585) (by decide +kernel)) (by decide +kernel)
theorem kw_586 : Cond.instanceMethod yJ0_charAt_5068e ∈ zg := zg_of (List.mem_of_getElem? (i := 586) (by decide +kernel)) (by decide +kernel)
theorem kw_587 : Cond.selects RJ0 yJ0_charAt_5068e yJ0_charAt_5068e ∈ zg := zg_of (List.mem_of_getElem? (i := 587) (by decide +kernel)) (by decide +kernel)
theorem mv_X7_100 : zMV RX7 100 yJ0_charAt_5068e cJ0_charAt_5068e 2 (some .char) 1 := ⟨⟨kw_585, kw_586, kw_587, kw_94, kw_588⟩, ⟨by decide, by decide, by decide +kernel⟩, by decide⟩
theorem kw_597 : Cond.code yJ1_charAt_3b067 cJ1_charAt_3b067 2 (some .char) ∈ zg := zg_of (List.mem_of_getElem? (i := 597) (by decide +kernel)) (by decide +kernel)
theorem kw_595 : Cond.methodLink RJ0 495 yJ1_charAt_3b067 ∈ zg := zg_of (List.mem_of_getElem? (i := 595) (by decide +kernel)) (by decide +kernel)
theorem kw_596 : Cond.static yJ1_charAt_3b067 ∈ zg := zg_of (List.mem_of_getElem? (i := 596) (by decide +kernel)) (by decide +kernel)
theorem ms_J0_495 : zMS RJ0 495 yJ1_charAt_3b067 cJ1_charAt_3b067 2 (some .char) 2 := ⟨⟨kw_595, kw_596, kw_95, kw_597⟩, ⟨by decide, by decide, by decide +kernel⟩, by decide⟩
theorem kw_600 : Cond.code yJ0_checkIndex_df160 cJ0_checkIndex_df160 2 none ∈ zg := zg_of (List.mem_of_getElem? (i := 600) (by decide +kernel)) (by decide +kernel)
theorem kw_598 : Cond.methodLink RJ1 9 yJ0_checkIndex_df160 ∈ zg := zg_of (List.mem_of_getElem? (i := 598) (by decide +kernel)) (by decide +kernel)
theorem kw_599 : Cond.static yJ0_checkIndex_df160 ∈ zg := zg_of (List.mem_of_getElem? (i := 599) (by decide +kernel)) (by decide +kernel)
theorem ms_J1_9 : zMS RJ1 9 yJ0_checkIndex_df160 cJ0_checkIndex_df160 2 none 2 := ⟨⟨kw_598, kw_599, kw_94, kw_600⟩, ⟨by decide, by decide, by decide +kernel⟩, by decide⟩
theorem kw_703 : Cond.methodLink RX7 64 Lib.Math.max.name ∈ zg := zg_of (List.mem_of_getElem? (i := 703) (by decide +kernel)) (by decide +kernel)
theorem kw_336 : Cond.fieldLink RX7 28 "HalfAJoke$Reader" "draft" "LHalfAJoke$Law;" ∈ zg := zg_of (List.mem_of_getElem? (i := 336) (by decide +kernel)) (by decide +kernel)
theorem ff_X7_28_29 : zFc RX7 28 29 4 (some (34, false)) := ⟨_, _, _, tyX7, sh_29, rfl, by decide, iz_X7, kw_336, rfl, tyX7_ok, nmX7⟩
theorem kw_707 : Cond.code yX5_clear cX5_clear 1 none ∈ zg := zg_of (List.mem_of_getElem? (i := 707) (by decide +kernel)) (by decide +kernel)
theorem kw_704 : Cond.methodLink RX7 42 yX5_clear ∈ zg := zg_of (List.mem_of_getElem? (i := 704) (by decide +kernel)) (by decide +kernel)
theorem kw_705 : Cond.instanceMethod yX5_clear ∈ zg := zg_of (List.mem_of_getElem? (i := 705) (by decide +kernel)) (by decide +kernel)
theorem kw_706 : Cond.selects RX5 yX5_clear yX5_clear ∈ zg := zg_of (List.mem_of_getElem? (i := 706) (by decide +kernel)) (by decide +kernel)
theorem mv_X7_42 : zMV RX7 42 yX5_clear cX5_clear 1 none 0 := ⟨⟨kw_704, kw_705, kw_706, kw_89, kw_707⟩, ⟨by decide, by decide, by decide +kernel⟩, by decide⟩
theorem fw_34_3 : ∀ q : vw_C, ∀ ci fl, zsh 34 = .inr (ci, fl) → zcl[ci]? = some q → (q.2.1 3).2.2.2 = false ∧ (q.2.1 3).2.2.1 = "I" := zfin sh_34 rfl ⟨rfl, rfl⟩
theorem fw_34_4 : ∀ q : vw_C, ∀ ci fl, zsh 34 = .inr (ci, fl) → zcl[ci]? = some q → (q.2.1 4).2.2.2 = false ∧ (q.2.1 4).2.2.1 = "I" := zfin sh_34 rfl ⟨rfl, rfl⟩
theorem kw_340 : Cond.fieldLink RX7 45 "HalfAJoke$Reader" "fault" "I" ∈ zg := zg_of (List.mem_of_getElem? (i := 340) (by decide +kernel)) (by decide +kernel)
theorem ff_X7_45_29 : zFc RX7 45 29 6 none := ⟨_, _, _, tyX7, sh_29, rfl, by decide, iz_X7, kw_340, rfl, tyX7_ok, nmX7⟩
theorem fw_29_6 : ∀ q : vw_C, ∀ ci fl, zsh 29 = .inr (ci, fl) → zcl[ci]? = some q → (q.2.1 6).2.2.2 = false ∧ (q.2.1 6).2.2.1 = "I" := zfin sh_29 rfl ⟨rfl, rfl⟩
theorem kw_342 : Cond.fieldLink RX7 32 "HalfAJoke$Reader" "faultPlace" "I" ∈ zg := zg_of (List.mem_of_getElem? (i := 342) (by decide +kernel)) (by decide +kernel)
theorem ff_X7_32_29 : zFc RX7 32 29 7 none := ⟨_, _, _, tyX7, sh_29, rfl, by decide, iz_X7, kw_342, rfl, tyX7_ok, nmX7⟩
theorem fw_29_7 : ∀ q : vw_C, ∀ ci fl, zsh 29 = .inr (ci, fl) → zcl[ci]? = some q → (q.2.1 7).2.2.2 = false ∧ (q.2.1 7).2.2.1 = "I" := zfin sh_29 rfl ⟨rfl, rfl⟩
theorem kw_345 : Cond.fieldLink RX7 48 "HalfAJoke$Reader" "at" "I" ∈ zg := zg_of (List.mem_of_getElem? (i := 345) (by decide +kernel)) (by decide +kernel)
theorem ff_X7_48_29 : zFc RX7 48 29 9 none := ⟨_, _, _, tyX7, sh_29, rfl, by decide, iz_X7, kw_345, rfl, tyX7_ok, nmX7⟩
theorem fw_29_9 : ∀ q : vw_C, ∀ ci fl, zsh 29 = .inr (ci, fl) → zcl[ci]? = some q → (q.2.1 9).2.2.2 = false ∧ (q.2.1 9).2.2.1 = "I" := zfin sh_29 rfl ⟨rfl, rfl⟩
theorem kw_346 : Cond.fieldLink RX7 51 "HalfAJoke$Reader" "kind" "I" ∈ zg := zg_of (List.mem_of_getElem? (i := 346) (by decide +kernel)) (by decide +kernel)
theorem ff_X7_51_29 : zFc RX7 51 29 10 none := ⟨_, _, _, tyX7, sh_29, rfl, by decide, iz_X7, kw_346, rfl, tyX7_ok, nmX7⟩
theorem fw_29_10 : ∀ q : vw_C, ∀ ci fl, zsh 29 = .inr (ci, fl) → zcl[ci]? = some q → (q.2.1 10).2.2.2 = false ∧ (q.2.1 10).2.2.1 = "I" := zfin sh_29 rfl ⟨rfl, rfl⟩
theorem kw_711 : Cond.code yX7_readLine cX7_readLine 2 none ∈ zg := zg_of (List.mem_of_getElem? (i := 711) (by decide +kernel)) (by decide +kernel)
theorem kw_708 : Cond.methodLink RX7 54 yX7_readLine ∈ zg := zg_of (List.mem_of_getElem? (i := 708) (by decide +kernel)) (by decide +kernel)
theorem kw_710 : Cond.instanceMethod yX7_readLine ∈ zg := zg_of (List.mem_of_getElem? (i := 710) (by decide +kernel)) (by decide +kernel)
theorem kw_6 : Cond.selects RX7 yX7_readLine yX7_readLine ∈ zg := zg_of (List.mem_of_getElem? (i := 6) (by decide +kernel)) (by decide +kernel)
theorem mv_X7_54 : zMV RX7 54 yX7_readLine cX7_readLine 2 none 0 := ⟨⟨kw_708, kw_710, kw_6, kw_91, kw_711⟩, ⟨by decide, by decide, by decide +kernel⟩, by decide⟩
theorem kw_719 : Cond.code yX7_expect cX7_expect 3 none ∈ zg := zg_of (List.mem_of_getElem? (i := 719) (by decide +kernel)) (by decide +kernel)
theorem kw_716 : Cond.methodLink RX7 114 yX7_expect ∈ zg := zg_of (List.mem_of_getElem? (i := 716) (by decide +kernel)) (by decide +kernel)
theorem kw_718 : Cond.instanceMethod yX7_expect ∈ zg := zg_of (List.mem_of_getElem? (i := 718) (by decide +kernel)) (by decide +kernel)
theorem kw_8 : Cond.selects RX7 yX7_expect yX7_expect ∈ zg := zg_of (List.mem_of_getElem? (i := 8) (by decide +kernel)) (by decide +kernel)
theorem mv_X7_114 : zMV RX7 114 yX7_expect cX7_expect 3 none 2 := ⟨⟨kw_716, kw_718, kw_8, kw_91, kw_719⟩, ⟨by decide, by decide, by decide +kernel⟩, by decide⟩
theorem kw_715 : Cond.code yX7_blame cX7_blame 2 none ∈ zg := zg_of (List.mem_of_getElem? (i := 715) (by decide +kernel)) (by decide +kernel)
theorem kw_712 : Cond.methodLink RX7 107 yX7_blame ∈ zg := zg_of (List.mem_of_getElem? (i := 712) (by decide +kernel)) (by decide +kernel)
theorem kw_714 : Cond.instanceMethod yX7_blame ∈ zg := zg_of (List.mem_of_getElem? (i := 714) (by decide +kernel)) (by decide +kernel)
theorem kw_7 : Cond.selects RX7 yX7_blame yX7_blame ∈ zg := zg_of (List.mem_of_getElem? (i := 7) (by decide +kernel)) (by decide +kernel)
theorem mv_X7_107 : zMV RX7 107 yX7_blame cX7_blame 2 none 1 := ⟨⟨kw_712, kw_714, kw_7, kw_91, kw_715⟩, ⟨by decide, by decide, by decide +kernel⟩, by decide⟩
theorem kw_723 : Cond.code yX7_step cX7_step 1 none ∈ zg := zg_of (List.mem_of_getElem? (i := 723) (by decide +kernel)) (by decide +kernel)
theorem kw_720 : Cond.methodLink RX7 104 yX7_step ∈ zg := zg_of (List.mem_of_getElem? (i := 720) (by decide +kernel)) (by decide +kernel)
theorem kw_722 : Cond.instanceMethod yX7_step ∈ zg := zg_of (List.mem_of_getElem? (i := 722) (by decide +kernel)) (by decide +kernel)
theorem kw_9 : Cond.selects RX7 yX7_step yX7_step ∈ zg := zg_of (List.mem_of_getElem? (i := 9) (by decide +kernel)) (by decide +kernel)
theorem mv_X7_104 : zMV RX7 104 yX7_step cX7_step 1 none 0 := ⟨⟨kw_720, kw_722, kw_9, kw_91, kw_723⟩, ⟨by decide, by decide, by decide +kernel⟩, by decide⟩
theorem kw_727 : Cond.code yX7_readSum cX7_readSum 6 none ∈ zg := zg_of (List.mem_of_getElem? (i := 727) (by decide +kernel)) (by decide +kernel)
theorem kw_724 : Cond.methodLink RX7 118 yX7_readSum ∈ zg := zg_of (List.mem_of_getElem? (i := 724) (by decide +kernel)) (by decide +kernel)
theorem kw_726 : Cond.instanceMethod yX7_readSum ∈ zg := zg_of (List.mem_of_getElem? (i := 726) (by decide +kernel)) (by decide +kernel)
theorem kw_10 : Cond.selects RX7 yX7_readSum yX7_readSum ∈ zg := zg_of (List.mem_of_getElem? (i := 10) (by decide +kernel)) (by decide +kernel)
theorem mv_X7_118 : zMV RX7 118 yX7_readSum cX7_readSum 6 none 0 := ⟨⟨kw_724, kw_726, kw_10, kw_91, kw_727⟩, ⟨by decide, by decide, by decide +kernel⟩, by decide⟩
theorem kw_731 : Cond.code yX7_readUnit cX7_readUnit 4 none ∈ zg := zg_of (List.mem_of_getElem? (i := 731) (by decide +kernel)) (by decide +kernel)
theorem kw_728 : Cond.methodLink RX7 130 yX7_readUnit ∈ zg := zg_of (List.mem_of_getElem? (i := 728) (by decide +kernel)) (by decide +kernel)
theorem kw_730 : Cond.instanceMethod yX7_readUnit ∈ zg := zg_of (List.mem_of_getElem? (i := 730) (by decide +kernel)) (by decide +kernel)
theorem kw_11 : Cond.selects RX7 yX7_readUnit yX7_readUnit ∈ zg := zg_of (List.mem_of_getElem? (i := 11) (by decide +kernel)) (by decide +kernel)
theorem mv_X7_130 : zMV RX7 130 yX7_readUnit cX7_readUnit 4 none 1 := ⟨⟨kw_728, kw_730, kw_11, kw_91, kw_731⟩, ⟨by decide, by decide, by decide +kernel⟩, by decide⟩
theorem kw_735 : Cond.code yX5_add cX5_add 3 none ∈ zg := zg_of (List.mem_of_getElem? (i := 735) (by decide +kernel)) (by decide +kernel)
theorem kw_732 : Cond.methodLink RX7 124 yX5_add ∈ zg := zg_of (List.mem_of_getElem? (i := 732) (by decide +kernel)) (by decide +kernel)
theorem kw_733 : Cond.instanceMethod yX5_add ∈ zg := zg_of (List.mem_of_getElem? (i := 733) (by decide +kernel)) (by decide +kernel)
theorem kw_734 : Cond.selects RX5 yX5_add yX5_add ∈ zg := zg_of (List.mem_of_getElem? (i := 734) (by decide +kernel)) (by decide +kernel)
theorem mv_X7_124 : zMV RX7 124 yX5_add cX5_add 3 none 2 := ⟨⟨kw_732, kw_733, kw_734, kw_89, kw_735⟩, ⟨by decide, by decide, by decide +kernel⟩, by decide⟩
theorem kw_236 : Cond.fieldLink RX7 111 "HalfAJoke$Law" "lines" "I" ∈ zg := zg_of (List.mem_of_getElem? (i := 236) (by decide +kernel)) (by decide +kernel)
theorem ff_X7_111_34 : zFc RX7 111 34 4 none := ⟨_, _, _, tyX5, sh_34, rfl, by decide, iz_X5, kw_236, rfl, tyX5_ok, nmX5⟩
theorem kw_739 : Cond.code yX7_readCondition cX7_readCondition 6 none ∈ zg := zg_of (List.mem_of_getElem? (i := 739) (by decide +kernel)) (by decide +kernel)
theorem kw_736 : Cond.methodLink RX7 121 yX7_readCondition ∈ zg := zg_of (List.mem_of_getElem? (i := 736) (by decide +kernel)) (by decide +kernel)
theorem kw_738 : Cond.instanceMethod yX7_readCondition ∈ zg := zg_of (List.mem_of_getElem? (i := 738) (by decide +kernel)) (by decide +kernel)
theorem kw_12 : Cond.selects RX7 yX7_readCondition yX7_readCondition ∈ zg := zg_of (List.mem_of_getElem? (i := 12) (by decide +kernel)) (by decide +kernel)
theorem mv_X7_121 : zMV RX7 121 yX7_readCondition cX7_readCondition 6 none 1 := ⟨⟨kw_736, kw_738, kw_12, kw_91, kw_739⟩, ⟨by decide, by decide, by decide +kernel⟩, by decide⟩
theorem kw_743 : Cond.code yX7_readClause cX7_readClause 4 none ∈ zg := zg_of (List.mem_of_getElem? (i := 743) (by decide +kernel)) (by decide +kernel)
theorem kw_740 : Cond.methodLink RX7 127 yX7_readClause ∈ zg := zg_of (List.mem_of_getElem? (i := 740) (by decide +kernel)) (by decide +kernel)
theorem kw_742 : Cond.instanceMethod yX7_readClause ∈ zg := zg_of (List.mem_of_getElem? (i := 742) (by decide +kernel)) (by decide +kernel)
theorem kw_13 : Cond.selects RX7 yX7_readClause yX7_readClause ∈ zg := zg_of (List.mem_of_getElem? (i := 13) (by decide +kernel)) (by decide +kernel)
theorem mv_X7_127 : zMV RX7 127 yX7_readClause cX7_readClause 4 none 1 := ⟨⟨kw_740, kw_742, kw_13, kw_91, kw_743⟩, ⟨by decide, by decide, by decide +kernel⟩, by decide⟩
theorem kw_337 : Cond.fieldLink RX11 136 "HalfAJoke$Reader" "draft" "LHalfAJoke$Law;" ∈ zg := zg_of (List.mem_of_getElem? (i := 337) (by decide +kernel)) (by decide +kernel)
theorem ff_X11_136_29 : zFc RX11 136 29 4 (some (34, false)) := ⟨_, _, _, tyX7, sh_29, rfl, by decide, iz_X7, kw_337, rfl, tyX7_ok, nmX7⟩
theorem kw_744 : Cond.methodLink RX11 139 yX5_copyFrom ∈ zg := zg_of (List.mem_of_getElem? (i := 744) (by decide +kernel)) (by decide +kernel)
theorem mv_X11_139 : zMV RX11 139 yX5_copyFrom cX5_copyFrom 2 none 1 := ⟨⟨kw_744, kw_745, kw_746, kw_89, kw_747⟩, ⟨by decide, by decide, by decide +kernel⟩, by decide⟩
theorem dJ3_checkIndex_8e157_0 : decode cJ3_checkIndex_8e157 0 = .ok (.iload_n 0, 1) := by decide +kernel
theorem dJ3_checkIndex_8e157_1 : decode cJ3_checkIndex_8e157 1 = .ok (.ifCond .lt 8, 3) := by decide +kernel
theorem dJ3_checkIndex_8e157_4 : decode cJ3_checkIndex_8e157 4 = .ok (.iload_n 0, 1) := by decide +kernel
theorem dJ3_checkIndex_8e157_5 : decode cJ3_checkIndex_8e157 5 = .ok (.iload_n 1, 1) := by decide +kernel
theorem dJ3_checkIndex_8e157_6 : decode cJ3_checkIndex_8e157 6 = .ok (.if_icmp .lt 10, 3) := by decide +kernel
theorem dJ3_checkIndex_8e157_9 : decode cJ3_checkIndex_8e157 9 = .ok (.aload_n 2, 1) := by decide +kernel
theorem dJ3_checkIndex_8e157_10 : decode cJ3_checkIndex_8e157 10 = .ok (.iload_n 0, 1) := by decide +kernel
theorem dJ3_checkIndex_8e157_11 : decode cJ3_checkIndex_8e157 11 = .ok (.iload_n 1, 1) := by decide +kernel
theorem dJ3_checkIndex_8e157_12 : decode cJ3_checkIndex_8e157 12 = .ok (.invokestatic 95, 3) := by decide +kernel
theorem dJ3_checkIndex_8e157_15 : decode cJ3_checkIndex_8e157 15 = .ok (.athrow, 1) := by decide +kernel
theorem dJ3_checkIndex_8e157_16 : decode cJ3_checkIndex_8e157 16 = .ok (.iload_n 0, 1) := by decide +kernel
theorem dJ3_checkIndex_8e157_17 : decode cJ3_checkIndex_8e157 17 = .ok (.ireturn, 1) := by decide +kernel
theorem dJ0_checkIndex_df160_0 : decode cJ0_checkIndex_df160 0 = .ok (.iload_n 0, 1) := by decide +kernel
theorem dJ0_checkIndex_df160_1 : decode cJ0_checkIndex_df160 1 = .ok (.iload_n 1, 1) := by decide +kernel
theorem dJ0_checkIndex_df160_2 : decode cJ0_checkIndex_df160 2 = .ok (.getstatic 1053, 3) := by decide +kernel
theorem dJ0_checkIndex_df160_5 : decode cJ0_checkIndex_df160 5 = .ok (.invokestatic 1059, 3) := by decide +kernel
theorem dJ0_checkIndex_df160_8 : decode cJ0_checkIndex_df160 8 = .ok (.pop, 1) := by decide +kernel
theorem dJ0_checkIndex_df160_9 : decode cJ0_checkIndex_df160 9 = .ok (.return_, 1) := by decide +kernel
def f_J3_checkIndex_8e157 (x0 x1 : Int32) (h : zH) : zR := if x0 < 0 then none else if x0 < x1 then some (x0, h) else none
theorem c_J3_checkIndex_8e157 (l : Launch) (G : zG) (h : zH) (x0 x1 : Int32) (v : Value) (hv : v.category = 1) (q : Int32 × zH) (hf : f_J3_checkIndex_8e157 x0 x1 h = some q) : zCtI l yJ3_checkIndex_8e157 cJ3_checkIndex_8e157 3 (some .int) 2 [.int x0, .int x1, v] G h q.2 q.1 := by
  refine zMetI (by decide) (by rw [show lg_sl [Value.int x0, Value.int x1, v] = [Slot.val (.int x0), Slot.val (.int x1), Slot.val v] from by unfold lg_sl; simp only [List.flatMap_cons, List.flatMap_nil, hv]; rfl]; exact Nat.le_of_ble_eq_true rfl) ?_
  intro p e s m below meth c ls C hl hS
  have hl : lv_has ls 3 [(0, .int x0), (1, .int x1), (2, v)] := hl
  have C : zC G p s m [.int x0, .int x1, v].toArray meth c cJ3_checkIndex_8e157 3 RJ3 (some .int) := C
  unfold f_J3_checkIndex_8e157 at hf
  refine lv_iload_n C.1 C.2.1 dJ3_checkIndex_8e157_0 rfl (lv_at hl 0 rfl) ?_
  refine lv_if_lt (tgt := 9) C.1 C.2.1 dJ3_checkIndex_8e157_1 (by decide) (fun hc => ?_) (fun hc => ?_)
  · have hf := zif_t hc hf
    cases hf
  · have hf := zif_f hc hf
    refine lv_iload_n C.1 C.2.1 dJ3_checkIndex_8e157_4 rfl (lv_at hl 0 rfl) ?_
    refine lv_iload_n C.1 C.2.1 dJ3_checkIndex_8e157_5 rfl (lv_at hl 1 rfl) ?_
    refine lv_icmp_lt (tgt := 16) C.1 C.2.1 dJ3_checkIndex_8e157_6 (by decide) (fun hc => ?_) (fun hc => ?_)
    · have hf := zif_t hc hf
      refine lv_iload_n C.1 C.2.1 dJ3_checkIndex_8e157_16 rfl (lv_at hl 0 rfl) ?_
      exact zretI C hS hf dJ3_checkIndex_8e157_17
    · have hf := zif_f hc hf
      cases hf
abbrev nd_J0_checkIndex_df160 : List Nat := []
abbrev ld_J0_checkIndex_df160 : List (Nat × Nat) := []
def f_J0_checkIndex_df160 (x0 x1 : Int32) (h : zH) : zR := zbd (f_J3_checkIndex_8e157 x0 x1 h) fun _ h1 => some (0, h1)
theorem c_J0_checkIndex_df160 (l : Launch) (G : zG) (h : zH) (x0 x1 : Int32) (q : Int32 × zH) (hm : ∀ c ∈ nd_J0_checkIndex_df160, c ∈ znm G) (hk : ∀ q ∈ ld_J0_checkIndex_df160, zlk G q.1 q.2 = true) (hf : f_J0_checkIndex_df160 x0 x1 h = some q) : zCtV l yJ0_checkIndex_df160 cJ0_checkIndex_df160 2 none 3 [.int x0, .int x1] G h q.2 := by
  refine zMetV (by decide) (Nat.le_of_ble_eq_true rfl) ?_
  intro p e s m below meth c ls C hl hS
  have hl : lv_has ls 2 [(0, .int x0), (1, .int x1)] := hl
  have C : zC G p s m [.int x0, .int x1].toArray meth c cJ0_checkIndex_df160 2 RJ0 none := C
  unfold f_J0_checkIndex_df160 at hf
  refine lv_iload_n C.1 C.2.1 dJ0_checkIndex_df160_0 rfl (lv_at hl 0 rfl) ?_
  refine lv_iload_n C.1 C.2.1 dJ0_checkIndex_df160_1 rfl (lv_at hl 1 rfl) ?_
  obtain ⟨r1, h1, er1, hf⟩ := zbd_some hf
  rcases C.2.2.2.2.2.2.1.2.2 with hZ | ⟨t, hZ⟩
  · refine va_gets C.1 C.2.1 hZ hS.2.2 C.2.2.2.1 (C.2.2.2.2.1 _ kw_601) (fun _ h9 => h9) dJ0_checkIndex_df160_2 ?_
    refine zcallSI (As := [.int x0, .int x1, .null]) (rest := []) C hS ms_J0_1059 (c_J3_checkIndex_8e157 l G h x0 x1 .null rfl (r1, h1) er1) rfl rfl (Nat.le_of_ble_eq_true rfl) hl.1 ⟨Nat.le_of_ble_eq_true rfl, Nat.le_of_ble_eq_true rfl, Nat.le_of_ble_eq_true rfl, Nat.le_of_ble_eq_true rfl⟩ dJ0_checkIndex_df160_5 (fun H locs hS => ?_)
    refine lv_pop C.1 C.2.1 dJ0_checkIndex_df160_8 rfl ?_
    exact zretV C hS hf dJ0_checkIndex_df160_9
  · refine va_gets C.1 C.2.1 hZ hS.2.2 C.2.2.2.1 (C.2.2.2.2.1 _ kw_601) (fun _ h9 => h9) dJ0_checkIndex_df160_2 ?_
    refine zcallSI (As := [.int x0, .int x1, .ref t]) (rest := []) C hS ms_J0_1059 (c_J3_checkIndex_8e157 l G h x0 x1 (.ref t) rfl (r1, h1) er1) rfl rfl (Nat.le_of_ble_eq_true rfl) hl.1 ⟨Nat.le_of_ble_eq_true rfl, Nat.le_of_ble_eq_true rfl, Nat.le_of_ble_eq_true rfl, Nat.le_of_ble_eq_true rfl⟩ dJ0_checkIndex_df160_5 (fun H locs hS => ?_)
    refine lv_pop C.1 C.2.1 dJ0_checkIndex_df160_8 rfl ?_
    exact zretV C hS hf dJ0_checkIndex_df160_9
section
theorem dX7_addToken_0 : decode cX7_addToken 0 = .ok (.aload_n 0, 1) := by decide +kernel
theorem dX7_addToken_1 : decode cX7_addToken 1 = .ok (.getfield 57, 3) := by decide +kernel
theorem dX7_addToken_4 : decode cX7_addToken 4 = .ok (.sipush 400, 3) := by decide +kernel
theorem dX7_addToken_7 : decode cX7_addToken 7 = .ok (.if_icmp .gt 43, 3) := by decide +kernel
theorem dX7_addToken_10 : decode cX7_addToken 10 = .ok (.aload_n 0, 1) := by decide +kernel
theorem dX7_addToken_11 : decode cX7_addToken 11 = .ok (.getfield 15, 3) := by decide +kernel
theorem dX7_addToken_14 : decode cX7_addToken 14 = .ok (.aload_n 0, 1) := by decide +kernel
theorem dX7_addToken_15 : decode cX7_addToken 15 = .ok (.getfield 57, 3) := by decide +kernel
theorem dX7_addToken_18 : decode cX7_addToken 18 = .ok (.iload_n 1, 1) := by decide +kernel
theorem dX7_addToken_19 : decode cX7_addToken 19 = .ok (.iastore, 1) := by decide +kernel
theorem dX7_addToken_20 : decode cX7_addToken 20 = .ok (.aload_n 0, 1) := by decide +kernel
theorem dX7_addToken_21 : decode cX7_addToken 21 = .ok (.getfield 19, 3) := by decide +kernel
theorem dX7_addToken_24 : decode cX7_addToken 24 = .ok (.aload_n 0, 1) := by decide +kernel
theorem dX7_addToken_25 : decode cX7_addToken 25 = .ok (.getfield 57, 3) := by decide +kernel
theorem dX7_addToken_28 : decode cX7_addToken 28 = .ok (.iload_n 2, 1) := by decide +kernel
theorem dX7_addToken_29 : decode cX7_addToken 29 = .ok (.iastore, 1) := by decide +kernel
theorem dX7_addToken_30 : decode cX7_addToken 30 = .ok (.aload_n 0, 1) := by decide +kernel
theorem dX7_addToken_31 : decode cX7_addToken 31 = .ok (.getfield 22, 3) := by decide +kernel
theorem dX7_addToken_34 : decode cX7_addToken 34 = .ok (.aload_n 0, 1) := by decide +kernel
theorem dX7_addToken_35 : decode cX7_addToken 35 = .ok (.getfield 57, 3) := by decide +kernel
theorem dX7_addToken_38 : decode cX7_addToken 38 = .ok (.iload_n 3, 1) := by decide +kernel
theorem dX7_addToken_39 : decode cX7_addToken 39 = .ok (.iastore, 1) := by decide +kernel
theorem dX7_addToken_40 : decode cX7_addToken 40 = .ok (.aload_n 0, 1) := by decide +kernel
theorem dX7_addToken_41 : decode cX7_addToken 41 = .ok (.dup, 1) := by decide +kernel
theorem dX7_addToken_42 : decode cX7_addToken 42 = .ok (.getfield 57, 3) := by decide +kernel
theorem dX7_addToken_45 : decode cX7_addToken 45 = .ok (.iconst 1, 1) := by decide +kernel
theorem dX7_addToken_46 : decode cX7_addToken 46 = .ok (.iadd, 1) := by decide +kernel
theorem dX7_addToken_47 : decode cX7_addToken 47 = .ok (.putfield 57, 3) := by decide +kernel
theorem dX7_addToken_50 : decode cX7_addToken 50 = .ok (.return_, 1) := by decide +kernel
abbrev nd_X7_addToken : List Nat := [29, 31, 32, 33]
abbrev ld_X7_addToken : List (Nat × Nat) := [(29, 1), (29, 2), (29, 3)]
def f_X7_addToken  (x1 : Int32) (x2 : Int32) (x3 : Int32) (h : zH) : zR := (if (400 : Int32) < (h 29 8) then (some (0, h)) else (zck (h 29 8) 401 (zst (zup h 31 (Int32.toNatClampNeg (h 29 8)) x1) fun h1 => (zck (h1 29 8) 401 (zst (zup h1 32 (Int32.toNatClampNeg (h1 29 8)) x2) fun h2 => (zck (h2 29 8) 401 (zst (zup h2 33 (Int32.toNatClampNeg (h2 29 8)) x3) fun h3 => (zst (zup h3 29 8 ((h3 29 8) + (1 : Int32))) fun h4 => (some (0, h4))))))))))
variable {p : Program} {l : Launch} {e : Env} {s : State} {m : MethodId} {args : Array Value} {below : List Frame} {meth : Method} {c : Code} {G : zG} {q : Int32 × zH}
set_option maxHeartbeats 4000000 in
set_option maxRecDepth 100000 in
theorem c_X7_addToken (l : Launch) (G : zG) (h : zH) (x1 : Int32) (x2 : Int32) (x3 : Int32) (q : Int32 × zH) (hm : ∀ c ∈ nd_X7_addToken, c ∈ znm G) (hk : ∀ q ∈ ld_X7_addToken, zlk G q.1 q.2 = true) (hf : f_X7_addToken x1 x2 x3 h = some q) : zCtV l yX7_addToken cX7_addToken 4 none (2) [.ref (zal G 29), .int x1, .int x2, .int x3] G h q.2 := by
  refine zMetV (by decide) (Nat.le_of_ble_eq_true rfl) ?_
  intro p e s m below meth c ls C hl hS
  have hl : lv_has ls 4 [(0, .ref (zal G 29)), (1, .int x1), (2, .int x2), (3, .int x3)] := hl
  have C : zC G p s m [.ref (zal G 29), .int x1, .int x2, .int x3].toArray meth c cX7_addToken 4 RX7 none := C
  unfold f_X7_addToken at hf
  refine lv_aload_n C.1 C.2.1 dX7_addToken_0 rfl (lv_at hl 0 rfl) ?_
  refine zgetI C hS ff_X7_57_29 (hm 29 (by decide)) dX7_addToken_1 ?_
  refine lv_sipush (v := (400 : Int32)) C.1 C.2.1 dX7_addToken_4 rfl ?_
  refine lv_icmp_gt (tgt := 50) C.1 C.2.1 dX7_addToken_7 (by decide) (fun hc => ?_) (fun hc => ?_)
  · have hf := zif_t hc hf
    exact zretV C hS hf dX7_addToken_50
  · have hf := zif_f hc hf
    refine lv_aload_n C.1 C.2.1 dX7_addToken_10 rfl (lv_at hl 0 rfl) ?_
    refine zgetR C hS ff_X7_15_29 (hm 29 (by decide)) (hk (29, 1) (by decide)) dX7_addToken_11 ?_
    refine lv_aload_n C.1 C.2.1 dX7_addToken_14 rfl (lv_at hl 0 rfl) ?_
    refine zgetI C hS ff_X7_57_29 (hm 29 (by decide)) dX7_addToken_15 ?_
    refine lv_iload_n C.1 C.2.1 dX7_addToken_18 rfl (lv_at hl 1 rfl) ?_
    obtain ⟨hi, hf⟩ := zck_some hf
    refine zast C hS sh_31 (hm 31 (by decide)) hi dX7_addToken_19 (fun H locs hS => ?_)
    obtain ⟨h1, eh1, hf⟩ := zst_some hf
    have hS : zS G h1 s.heap H locs := by rw [eh1]; exact hS
    refine lv_aload_n C.1 C.2.1 dX7_addToken_20 rfl (lv_at hl 0 rfl) ?_
    refine zgetR C hS ff_X7_19_29 (hm 29 (by decide)) (hk (29, 2) (by decide)) dX7_addToken_21 ?_
    refine lv_aload_n C.1 C.2.1 dX7_addToken_24 rfl (lv_at hl 0 rfl) ?_
    refine zgetI C hS ff_X7_57_29 (hm 29 (by decide)) dX7_addToken_25 ?_
    refine lv_iload_n C.1 C.2.1 dX7_addToken_28 rfl (lv_at hl 2 rfl) ?_
    obtain ⟨hi, hf⟩ := zck_some hf
    refine zast C hS sh_32 (hm 32 (by decide)) hi dX7_addToken_29 (fun H locs hS => ?_)
    obtain ⟨h2, eh2, hf⟩ := zst_some hf
    have hS : zS G h2 s.heap H locs := by rw [eh2]; exact hS
    refine lv_aload_n C.1 C.2.1 dX7_addToken_30 rfl (lv_at hl 0 rfl) ?_
    refine zgetR C hS ff_X7_22_29 (hm 29 (by decide)) (hk (29, 3) (by decide)) dX7_addToken_31 ?_
    refine lv_aload_n C.1 C.2.1 dX7_addToken_34 rfl (lv_at hl 0 rfl) ?_
    refine zgetI C hS ff_X7_57_29 (hm 29 (by decide)) dX7_addToken_35 ?_
    refine lv_iload_n C.1 C.2.1 dX7_addToken_38 rfl (lv_at hl 3 rfl) ?_
    obtain ⟨hi, hf⟩ := zck_some hf
    refine zast C hS sh_33 (hm 33 (by decide)) hi dX7_addToken_39 (fun H locs hS => ?_)
    obtain ⟨h3, eh3, hf⟩ := zst_some hf
    have hS : zS G h3 s.heap H locs := by rw [eh3]; exact hS
    refine lv_aload_n C.1 C.2.1 dX7_addToken_40 rfl (lv_at hl 0 rfl) ?_
    refine lv_dup C.1 C.2.1 dX7_addToken_41 rfl ?_
    refine zgetI C hS ff_X7_57_29 (hm 29 (by decide)) dX7_addToken_42 ?_
    refine lv_iconst (v := (1 : Int32)) C.1 C.2.1 dX7_addToken_45 rfl ?_
    refine lv_iadd C.1 C.2.1 dX7_addToken_46 ?_
    refine zputI C hS ff_X7_57_29 fw_29_8 (hm 29 (by decide)) dX7_addToken_47 (fun H locs hS => ?_)
    obtain ⟨h4, eh4, hf⟩ := zst_some hf
    have hS : zS G h4 s.heap H locs := by rw [eh4]; exact hS
    exact zretV C hS hf dX7_addToken_50
end
section
theorem dX7_isLetter_0 : decode cX7_isLetter 0 = .ok (.iload_n 0, 1) := by decide +kernel
theorem dX7_isLetter_1 : decode cX7_isLetter 1 = .ok (.bipush 97, 2) := by decide +kernel
theorem dX7_isLetter_3 : decode cX7_isLetter 3 = .ok (.if_icmp .lt 9, 3) := by decide +kernel
theorem dX7_isLetter_6 : decode cX7_isLetter 6 = .ok (.iload_n 0, 1) := by decide +kernel
theorem dX7_isLetter_7 : decode cX7_isLetter 7 = .ok (.bipush 122, 2) := by decide +kernel
theorem dX7_isLetter_9 : decode cX7_isLetter 9 = .ok (.if_icmp .le 15, 3) := by decide +kernel
theorem dX7_isLetter_12 : decode cX7_isLetter 12 = .ok (.iload_n 0, 1) := by decide +kernel
theorem dX7_isLetter_13 : decode cX7_isLetter 13 = .ok (.bipush 65, 2) := by decide +kernel
theorem dX7_isLetter_15 : decode cX7_isLetter 15 = .ok (.if_icmp .lt 13, 3) := by decide +kernel
theorem dX7_isLetter_18 : decode cX7_isLetter 18 = .ok (.iload_n 0, 1) := by decide +kernel
theorem dX7_isLetter_19 : decode cX7_isLetter 19 = .ok (.bipush 90, 2) := by decide +kernel
theorem dX7_isLetter_21 : decode cX7_isLetter 21 = .ok (.if_icmp .gt 7, 3) := by decide +kernel
theorem dX7_isLetter_24 : decode cX7_isLetter 24 = .ok (.iconst 1, 1) := by decide +kernel
theorem dX7_isLetter_25 : decode cX7_isLetter 25 = .ok (.goto 4, 3) := by decide +kernel
theorem dX7_isLetter_28 : decode cX7_isLetter 28 = .ok (.iconst 0, 1) := by decide +kernel
theorem dX7_isLetter_29 : decode cX7_isLetter 29 = .ok (.ireturn, 1) := by decide +kernel
abbrev nd_X7_isLetter : List Nat := []
abbrev ld_X7_isLetter : List (Nat × Nat) := []
def f_X7_isLetter_28  (h : zH) : zR := (some ((0 : Int32), h))
def f_X7_isLetter_24  (h : zH) : zR := (some ((1 : Int32), h))
def f_X7_isLetter_12  (x0 : Int32) (h : zH) : zR := (if x0 < (65 : Int32) then (f_X7_isLetter_28   h) else (if (90 : Int32) < x0 then (f_X7_isLetter_28   h) else (f_X7_isLetter_24   h)))
def f_X7_isLetter  (x0 : Int32) (h : zH) : zR := (if x0 < (97 : Int32) then (f_X7_isLetter_12  x0 h) else (if x0 ≤ (122 : Int32) then (f_X7_isLetter_24   h) else (f_X7_isLetter_12  x0 h)))
variable {p : Program} {l : Launch} {e : Env} {s : State} {m : MethodId} {args : Array Value} {below : List Frame} {meth : Method} {c : Code} {G : zG} {q : Int32 × zH}
set_option maxHeartbeats 4000000 in
set_option maxRecDepth 100000 in
theorem w_X7_isLetter_28  (C : zC G p s m args meth c cX7_isLetter 1 RX7 (some .boolean)) (hm : ∀ c ∈ nd_X7_isLetter, c ∈ znm G) (hk : ∀ q ∈ ld_X7_isLetter, zlk G q.1 q.2 = true)  : ∀ (ls : Array Slot) (H : Heap) (locs : List Loc) (h : zH), lv_has ls 1 [] → zS G h s.heap H locs → f_X7_isLetter_28  h = some q → W p l e (zrm (2)) s m args below meth c H locs 0 0 (MQ below (zQI G q.2 q.1) args s 0 0 (zA G)) (F0 m 28 ls []) := by
  intro ls H locs h hl hS hf
  unfold f_X7_isLetter_28 at hf
  refine lv_iconst (v := (0 : Int32)) C.1 C.2.1 dX7_isLetter_28 rfl ?_
  exact zretZ C hS rfl hf dX7_isLetter_29
set_option maxHeartbeats 4000000 in
set_option maxRecDepth 100000 in
theorem w_X7_isLetter_24  (C : zC G p s m args meth c cX7_isLetter 1 RX7 (some .boolean)) (hm : ∀ c ∈ nd_X7_isLetter, c ∈ znm G) (hk : ∀ q ∈ ld_X7_isLetter, zlk G q.1 q.2 = true)  : ∀ (ls : Array Slot) (H : Heap) (locs : List Loc) (h : zH), lv_has ls 1 [] → zS G h s.heap H locs → f_X7_isLetter_24  h = some q → W p l e (zrm (2)) s m args below meth c H locs 0 0 (MQ below (zQI G q.2 q.1) args s 0 0 (zA G)) (F0 m 24 ls []) := by
  intro ls H locs h hl hS hf
  unfold f_X7_isLetter_24 at hf
  refine lv_iconst (v := (1 : Int32)) C.1 C.2.1 dX7_isLetter_24 rfl ?_
  refine lv_goto (tgt := 29) C.1 C.2.1 dX7_isLetter_25 (by decide) ?_
  exact zretZ C hS rfl hf dX7_isLetter_29
set_option maxHeartbeats 4000000 in
set_option maxRecDepth 100000 in
theorem w_X7_isLetter_12  (C : zC G p s m args meth c cX7_isLetter 1 RX7 (some .boolean)) (hm : ∀ c ∈ nd_X7_isLetter, c ∈ znm G) (hk : ∀ q ∈ ld_X7_isLetter, zlk G q.1 q.2 = true)  : ∀ (ls : Array Slot) (H : Heap) (locs : List Loc) (h : zH) (x0 : Int32), lv_has ls 1 [(0, .int x0)] → zS G h s.heap H locs → f_X7_isLetter_12  x0 h = some q → W p l e (zrm (2)) s m args below meth c H locs 0 0 (MQ below (zQI G q.2 q.1) args s 0 0 (zA G)) (F0 m 12 ls []) := by
  intro ls H locs h x0 hl hS hf
  unfold f_X7_isLetter_12 at hf
  refine lv_iload_n C.1 C.2.1 dX7_isLetter_12 rfl (lv_at hl 0 rfl) ?_
  refine lv_bipush (v := (65 : Int32)) C.1 C.2.1 dX7_isLetter_13 rfl ?_
  refine lv_icmp_lt (tgt := 28) C.1 C.2.1 dX7_isLetter_15 (by decide) (fun hc => ?_) (fun hc => ?_)
  · have hf := zif_t hc hf
    exact w_X7_isLetter_28 C hm hk  _ _ _ _ (lv_sub hl [] rfl) hS hf
  · have hf := zif_f hc hf
    refine lv_iload_n C.1 C.2.1 dX7_isLetter_18 rfl (lv_at hl 0 rfl) ?_
    refine lv_bipush (v := (90 : Int32)) C.1 C.2.1 dX7_isLetter_19 rfl ?_
    refine lv_icmp_gt (tgt := 28) C.1 C.2.1 dX7_isLetter_21 (by decide) (fun hc => ?_) (fun hc => ?_)
    · have hf := zif_t hc hf
      exact w_X7_isLetter_28 C hm hk  _ _ _ _ (lv_sub hl [] rfl) hS hf
    · have hf := zif_f hc hf
      exact w_X7_isLetter_24 C hm hk  _ _ _ _ (lv_sub hl [] rfl) hS hf
set_option maxHeartbeats 4000000 in
set_option maxRecDepth 100000 in
theorem c_X7_isLetter (l : Launch) (G : zG) (h : zH) (x0 : Int32) (q : Int32 × zH) (hm : ∀ c ∈ nd_X7_isLetter, c ∈ znm G) (hk : ∀ q ∈ ld_X7_isLetter, zlk G q.1 q.2 = true) (hf : f_X7_isLetter x0 h = some q) : zCtI l yX7_isLetter cX7_isLetter 1 (some .boolean) (2) [.int x0] G h q.2 q.1 := by
  refine zMetI (by decide) (Nat.le_of_ble_eq_true rfl) ?_
  intro p e s m below meth c ls C hl hS
  have hl : lv_has ls 1 [(0, .int x0)] := hl
  have C : zC G p s m [.int x0].toArray meth c cX7_isLetter 1 RX7 (some .boolean) := C
  unfold f_X7_isLetter at hf
  refine lv_iload_n C.1 C.2.1 dX7_isLetter_0 rfl (lv_at hl 0 rfl) ?_
  refine lv_bipush (v := (97 : Int32)) C.1 C.2.1 dX7_isLetter_1 rfl ?_
  refine lv_icmp_lt (tgt := 12) C.1 C.2.1 dX7_isLetter_3 (by decide) (fun hc => ?_) (fun hc => ?_)
  · have hf := zif_t hc hf
    exact w_X7_isLetter_12 C hm hk  _ _ _ _ _ (lv_sub hl [0] rfl) hS hf
  · have hf := zif_f hc hf
    refine lv_iload_n C.1 C.2.1 dX7_isLetter_6 rfl (lv_at hl 0 rfl) ?_
    refine lv_bipush (v := (122 : Int32)) C.1 C.2.1 dX7_isLetter_7 rfl ?_
    refine lv_icmp_le (tgt := 24) C.1 C.2.1 dX7_isLetter_9 (by decide) (fun hc => ?_) (fun hc => ?_)
    · have hf := zif_t hc hf
      exact w_X7_isLetter_24 C hm hk  _ _ _ _ (lv_sub hl [] rfl) hS hf
    · have hf := zif_f hc hf
      exact w_X7_isLetter_12 C hm hk  _ _ _ _ _ (lv_sub hl [0] rfl) hS hf
end
section
theorem dX7_isDigit_0 : decode cX7_isDigit 0 = .ok (.iload_n 0, 1) := by decide +kernel
theorem dX7_isDigit_1 : decode cX7_isDigit 1 = .ok (.bipush 48, 2) := by decide +kernel
theorem dX7_isDigit_3 : decode cX7_isDigit 3 = .ok (.if_icmp .lt 13, 3) := by decide +kernel
theorem dX7_isDigit_6 : decode cX7_isDigit 6 = .ok (.iload_n 0, 1) := by decide +kernel
theorem dX7_isDigit_7 : decode cX7_isDigit 7 = .ok (.bipush 57, 2) := by decide +kernel
theorem dX7_isDigit_9 : decode cX7_isDigit 9 = .ok (.if_icmp .gt 7, 3) := by decide +kernel
theorem dX7_isDigit_12 : decode cX7_isDigit 12 = .ok (.iconst 1, 1) := by decide +kernel
theorem dX7_isDigit_13 : decode cX7_isDigit 13 = .ok (.goto 4, 3) := by decide +kernel
theorem dX7_isDigit_16 : decode cX7_isDigit 16 = .ok (.iconst 0, 1) := by decide +kernel
theorem dX7_isDigit_17 : decode cX7_isDigit 17 = .ok (.ireturn, 1) := by decide +kernel
abbrev nd_X7_isDigit : List Nat := []
abbrev ld_X7_isDigit : List (Nat × Nat) := []
def f_X7_isDigit_16  (h : zH) : zR := (some ((0 : Int32), h))
def f_X7_isDigit  (x0 : Int32) (h : zH) : zR := (if x0 < (48 : Int32) then (f_X7_isDigit_16   h) else (if (57 : Int32) < x0 then (f_X7_isDigit_16   h) else (some ((1 : Int32), h))))
variable {p : Program} {l : Launch} {e : Env} {s : State} {m : MethodId} {args : Array Value} {below : List Frame} {meth : Method} {c : Code} {G : zG} {q : Int32 × zH}
set_option maxHeartbeats 4000000 in
set_option maxRecDepth 100000 in
theorem w_X7_isDigit_16  (C : zC G p s m args meth c cX7_isDigit 1 RX7 (some .boolean)) (hm : ∀ c ∈ nd_X7_isDigit, c ∈ znm G) (hk : ∀ q ∈ ld_X7_isDigit, zlk G q.1 q.2 = true)  : ∀ (ls : Array Slot) (H : Heap) (locs : List Loc) (h : zH), lv_has ls 1 [] → zS G h s.heap H locs → f_X7_isDigit_16  h = some q → W p l e (zrm (2)) s m args below meth c H locs 0 0 (MQ below (zQI G q.2 q.1) args s 0 0 (zA G)) (F0 m 16 ls []) := by
  intro ls H locs h hl hS hf
  unfold f_X7_isDigit_16 at hf
  refine lv_iconst (v := (0 : Int32)) C.1 C.2.1 dX7_isDigit_16 rfl ?_
  exact zretZ C hS rfl hf dX7_isDigit_17
set_option maxHeartbeats 4000000 in
set_option maxRecDepth 100000 in
theorem c_X7_isDigit (l : Launch) (G : zG) (h : zH) (x0 : Int32) (q : Int32 × zH) (hm : ∀ c ∈ nd_X7_isDigit, c ∈ znm G) (hk : ∀ q ∈ ld_X7_isDigit, zlk G q.1 q.2 = true) (hf : f_X7_isDigit x0 h = some q) : zCtI l yX7_isDigit cX7_isDigit 1 (some .boolean) (2) [.int x0] G h q.2 q.1 := by
  refine zMetI (by decide) (Nat.le_of_ble_eq_true rfl) ?_
  intro p e s m below meth c ls C hl hS
  have hl : lv_has ls 1 [(0, .int x0)] := hl
  have C : zC G p s m [.int x0].toArray meth c cX7_isDigit 1 RX7 (some .boolean) := C
  unfold f_X7_isDigit at hf
  refine lv_iload_n C.1 C.2.1 dX7_isDigit_0 rfl (lv_at hl 0 rfl) ?_
  refine lv_bipush (v := (48 : Int32)) C.1 C.2.1 dX7_isDigit_1 rfl ?_
  refine lv_icmp_lt (tgt := 16) C.1 C.2.1 dX7_isDigit_3 (by decide) (fun hc => ?_) (fun hc => ?_)
  · have hf := zif_t hc hf
    exact w_X7_isDigit_16 C hm hk  _ _ _ _ (lv_sub hl [] rfl) hS hf
  · have hf := zif_f hc hf
    refine lv_iload_n C.1 C.2.1 dX7_isDigit_6 rfl (lv_at hl 0 rfl) ?_
    refine lv_bipush (v := (57 : Int32)) C.1 C.2.1 dX7_isDigit_7 rfl ?_
    refine lv_icmp_gt (tgt := 16) C.1 C.2.1 dX7_isDigit_9 (by decide) (fun hc => ?_) (fun hc => ?_)
    · have hf := zif_t hc hf
      exact w_X7_isDigit_16 C hm hk  _ _ _ _ (lv_sub hl [] rfl) hS hf
    · have hf := zif_f hc hf
      refine lv_iconst (v := (1 : Int32)) C.1 C.2.1 dX7_isDigit_12 rfl ?_
      refine lv_goto (tgt := 17) C.1 C.2.1 dX7_isDigit_13 (by decide) ?_
      exact zretZ C hS rfl hf dX7_isDigit_17
end
section
theorem dJ0_isLatin1_aae02_0 : decode cJ0_isLatin1_aae02 0 = .ok (.getstatic 38, 3) := by decide +kernel
theorem dJ0_isLatin1_aae02_3 : decode cJ0_isLatin1_aae02 3 = .ok (.ifCond .eq 14, 3) := by decide +kernel
theorem dJ0_isLatin1_aae02_6 : decode cJ0_isLatin1_aae02 6 = .ok (.aload_n 0, 1) := by decide +kernel
theorem dJ0_isLatin1_aae02_7 : decode cJ0_isLatin1_aae02 7 = .ok (.getfield 15, 3) := by decide +kernel
theorem dJ0_isLatin1_aae02_10 : decode cJ0_isLatin1_aae02 10 = .ok (.ifCond .ne 7, 3) := by decide +kernel
theorem dJ0_isLatin1_aae02_13 : decode cJ0_isLatin1_aae02 13 = .ok (.iconst 1, 1) := by decide +kernel
theorem dJ0_isLatin1_aae02_14 : decode cJ0_isLatin1_aae02 14 = .ok (.goto 4, 3) := by decide +kernel
theorem dJ0_isLatin1_aae02_17 : decode cJ0_isLatin1_aae02 17 = .ok (.iconst 0, 1) := by decide +kernel
theorem dJ0_isLatin1_aae02_18 : decode cJ0_isLatin1_aae02 18 = .ok (.ireturn, 1) := by decide +kernel
abbrev nd_J0_isLatin1_aae02 : List Nat := []
abbrev ld_J0_isLatin1_aae02 : List (Nat × Nat) := []
def f_J0_isLatin1_aae02_17  (h : zH) : zR := (some ((0 : Int32), h))
def f_J0_isLatin1_aae02  (i0 : Nat) (h : zH) : zR := (if (1 : Int32) = 0 then (f_J0_isLatin1_aae02_17   h) else (if (0 : Int32) = 0 then (some ((1 : Int32), h)) else (f_J0_isLatin1_aae02_17   h)))
variable {p : Program} {l : Launch} {e : Env} {s : State} {m : MethodId} {args : Array Value} {below : List Frame} {meth : Method} {c : Code} {G : zG} {q : Int32 × zH}
set_option maxHeartbeats 4000000 in
set_option maxRecDepth 100000 in
theorem w_J0_isLatin1_aae02_17  (C : zC G p s m args meth c cJ0_isLatin1_aae02 1 RJ0 (some .boolean)) (hm : ∀ c ∈ nd_J0_isLatin1_aae02, c ∈ znm G) (hk : ∀ q ∈ ld_J0_isLatin1_aae02, zlk G q.1 q.2 = true)  : ∀ (ls : Array Slot) (H : Heap) (locs : List Loc) (h : zH), lv_has ls 1 [] → zS G h s.heap H locs → f_J0_isLatin1_aae02_17  h = some q → W p l e (zrm (2)) s m args below meth c H locs 0 0 (MQ below (zQI G q.2 q.1) args s 0 0 (zA G)) (F0 m 17 ls []) := by
  intro ls H locs h hl hS hf
  unfold f_J0_isLatin1_aae02_17 at hf
  refine lv_iconst (v := (0 : Int32)) C.1 C.2.1 dJ0_isLatin1_aae02_17 rfl ?_
  exact zretZ C hS rfl hf dJ0_isLatin1_aae02_18
set_option maxHeartbeats 4000000 in
set_option maxRecDepth 100000 in
theorem c_J0_isLatin1_aae02 (l : Launch) (G : zG) (h : zH) (i0 : Nat) (q : Int32 × zH) (hi_i0 : i0 < znS) (hm : ∀ c ∈ nd_J0_isLatin1_aae02, c ∈ znm G) (hk : ∀ q ∈ ld_J0_isLatin1_aae02, zlk G q.1 q.2 = true) (hf : f_J0_isLatin1_aae02 i0 h = some q) : zCtI l yJ0_isLatin1_aae02 cJ0_isLatin1_aae02 1 (some .boolean) (2) [.ref (zaK G i0)] G h q.2 q.1 := by
  refine zMetI (by decide) (Nat.le_of_ble_eq_true rfl) ?_
  intro p e s m below meth c ls C hl hS
  have hl : lv_has ls 1 [(0, .ref (zaK G i0))] := hl
  have C : zC G p s m [.ref (zaK G i0)].toArray meth c cJ0_isLatin1_aae02 1 RJ0 (some .boolean) := C
  unfold f_J0_isLatin1_aae02 at hf
  refine zcomp C hS kw_593 dJ0_isLatin1_aae02_0 ?_
  refine lv_if_eq (tgt := 17) C.1 C.2.1 dJ0_isLatin1_aae02_3 (by decide) (fun hc => ?_) (fun hc => ?_)
  · have hf := zif_t hc hf
    exact w_J0_isLatin1_aae02_17 C hm hk  _ _ _ _ (lv_sub hl [] rfl) hS hf
  · have hf := zif_f hc hf
    refine lv_aload_n C.1 C.2.1 dJ0_isLatin1_aae02_6 rfl (lv_at hl 0 rfl) ?_
    refine zstrC (i := i0) C hS hi_i0 kw_1620 dJ0_isLatin1_aae02_7 ?_
    refine lv_if_ne (tgt := 17) C.1 C.2.1 dJ0_isLatin1_aae02_10 (by decide) (fun hc => ?_) (fun hc => ?_)
    · have hf := zif_f hc hf
      exact w_J0_isLatin1_aae02_17 C hm hk  _ _ _ _ (lv_sub hl [] rfl) hS hf
    · have hf := zif_t hc hf
      refine lv_iconst (v := (1 : Int32)) C.1 C.2.1 dJ0_isLatin1_aae02_13 rfl ?_
      refine lv_goto (tgt := 18) C.1 C.2.1 dJ0_isLatin1_aae02_14 (by decide) ?_
      exact zretZ C hS rfl hf dJ0_isLatin1_aae02_18
end
section
theorem dJ0_coder_7d493_0 : decode cJ0_coder_7d493 0 = .ok (.getstatic 38, 3) := by decide +kernel
theorem dJ0_coder_7d493_3 : decode cJ0_coder_7d493 3 = .ok (.ifCond .eq 10, 3) := by decide +kernel
theorem dJ0_coder_7d493_6 : decode cJ0_coder_7d493 6 = .ok (.aload_n 0, 1) := by decide +kernel
theorem dJ0_coder_7d493_7 : decode cJ0_coder_7d493 7 = .ok (.getfield 15, 3) := by decide +kernel
theorem dJ0_coder_7d493_10 : decode cJ0_coder_7d493 10 = .ok (.goto 4, 3) := by decide +kernel
theorem dJ0_coder_7d493_13 : decode cJ0_coder_7d493 13 = .ok (.iconst 1, 1) := by decide +kernel
theorem dJ0_coder_7d493_14 : decode cJ0_coder_7d493 14 = .ok (.ireturn, 1) := by decide +kernel
abbrev nd_J0_coder_7d493 : List Nat := []
abbrev ld_J0_coder_7d493 : List (Nat × Nat) := []
def f_J0_coder_7d493  (i0 : Nat) (h : zH) : zR := (if (1 : Int32) = 0 then (some ((1 : Int32), h)) else (some ((0 : Int32), h)))
variable {p : Program} {l : Launch} {e : Env} {s : State} {m : MethodId} {args : Array Value} {below : List Frame} {meth : Method} {c : Code} {G : zG} {q : Int32 × zH}
set_option maxHeartbeats 4000000 in
set_option maxRecDepth 100000 in
theorem c_J0_coder_7d493 (l : Launch) (G : zG) (h : zH) (i0 : Nat) (q : Int32 × zH) (hi_i0 : i0 < znS) (hm : ∀ c ∈ nd_J0_coder_7d493, c ∈ znm G) (hk : ∀ q ∈ ld_J0_coder_7d493, zlk G q.1 q.2 = true) (hf : f_J0_coder_7d493 i0 h = some q) : zCtI l yJ0_coder_7d493 cJ0_coder_7d493 1 (some .byte) (2) [.ref (zaK G i0)] G h q.2 q.1 := by
  refine zMetI (by decide) (Nat.le_of_ble_eq_true rfl) ?_
  intro p e s m below meth c ls C hl hS
  have hl : lv_has ls 1 [(0, .ref (zaK G i0))] := hl
  have C : zC G p s m [.ref (zaK G i0)].toArray meth c cJ0_coder_7d493 1 RJ0 (some .byte) := C
  unfold f_J0_coder_7d493 at hf
  refine zcomp C hS kw_593 dJ0_coder_7d493_0 ?_
  refine lv_if_eq (tgt := 13) C.1 C.2.1 dJ0_coder_7d493_3 (by decide) (fun hc => ?_) (fun hc => ?_)
  · have hf := zif_t hc hf
    refine lv_iconst (v := (1 : Int32)) C.1 C.2.1 dJ0_coder_7d493_13 rfl ?_
    exact zretN C hS rfl hf dJ0_coder_7d493_14
  · have hf := zif_f hc hf
    refine lv_aload_n C.1 C.2.1 dJ0_coder_7d493_6 rfl (lv_at hl 0 rfl) ?_
    refine zstrC (i := i0) C hS hi_i0 kw_1620 dJ0_coder_7d493_7 ?_
    refine lv_goto (tgt := 14) C.1 C.2.1 dJ0_coder_7d493_10 (by decide) ?_
    exact zretN C hS rfl hf dJ0_coder_7d493_14
end
section
theorem dJ0_length_8abf5_0 : decode cJ0_length_8abf5 0 = .ok (.aload_n 0, 1) := by decide +kernel
theorem dJ0_length_8abf5_1 : decode cJ0_length_8abf5 1 = .ok (.getfield 9, 3) := by decide +kernel
theorem dJ0_length_8abf5_4 : decode cJ0_length_8abf5 4 = .ok (.arraylength, 1) := by decide +kernel
theorem dJ0_length_8abf5_5 : decode cJ0_length_8abf5 5 = .ok (.aload_n 0, 1) := by decide +kernel
theorem dJ0_length_8abf5_6 : decode cJ0_length_8abf5 6 = .ok (.invokevirtual 335, 3) := by decide +kernel
theorem dJ0_length_8abf5_9 : decode cJ0_length_8abf5 9 = .ok (.ishr, 1) := by decide +kernel
theorem dJ0_length_8abf5_10 : decode cJ0_length_8abf5 10 = .ok (.ireturn, 1) := by decide +kernel
abbrev nd_J0_length_8abf5 : List Nat := []
abbrev ld_J0_length_8abf5 : List (Nat × Nat) := []
theorem sn_J0_length_8abf5_J0_coder_7d493 : ∀ c ∈ nd_J0_coder_7d493, c ∈ nd_J0_length_8abf5 := by decide
theorem sl_J0_length_8abf5_J0_coder_7d493 : ∀ q ∈ ld_J0_coder_7d493, q ∈ ld_J0_length_8abf5 := by decide
def f_J0_length_8abf5  (i0 : Nat) (h : zH) : zR := (zbd (f_J0_coder_7d493 i0 h) fun r1 h2 => (some (((Int32.ofNat (zlen.getD i0 0)) >>> (r1 &&& 31)), h2)))
variable {p : Program} {l : Launch} {e : Env} {s : State} {m : MethodId} {args : Array Value} {below : List Frame} {meth : Method} {c : Code} {G : zG} {q : Int32 × zH}
set_option maxHeartbeats 4000000 in
set_option maxRecDepth 100000 in
theorem c_J0_length_8abf5 (l : Launch) (G : zG) (h : zH) (i0 : Nat) (q : Int32 × zH) (hi_i0 : i0 < znS) (hm : ∀ c ∈ nd_J0_length_8abf5, c ∈ znm G) (hk : ∀ q ∈ ld_J0_length_8abf5, zlk G q.1 q.2 = true) (hf : f_J0_length_8abf5 i0 h = some q) : zCtI l yJ0_length_8abf5 cJ0_length_8abf5 1 (some .int) (3) [.ref (zaK G i0)] G h q.2 q.1 := by
  refine zMetI (by decide) (Nat.le_of_ble_eq_true rfl) ?_
  intro p e s m below meth c ls C hl hS
  have hl : lv_has ls 1 [(0, .ref (zaK G i0))] := hl
  have C : zC G p s m [.ref (zaK G i0)].toArray meth c cJ0_length_8abf5 1 RJ0 (some .int) := C
  unfold f_J0_length_8abf5 at hf
  refine lv_aload_n C.1 C.2.1 dJ0_length_8abf5_0 rfl (lv_at hl 0 rfl) ?_
  refine zstrV (i := i0) C hS hi_i0 kw_1621 dJ0_length_8abf5_1 ?_
  refine zblen (i := i0) C hS hi_i0 dJ0_length_8abf5_4 ?_
  refine lv_aload_n C.1 C.2.1 dJ0_length_8abf5_5 rfl (lv_at hl 0 rfl) ?_
  obtain ⟨r1, h2, er1, hf⟩ := zbd_some hf
  refine zcallTI (i := i0) (As := []) (rest := [.int (Int32.ofNat (zlen.getD i0 0))]) C hS mv_J0_335 (c_J0_coder_7d493 l G h i0 (r1, h2) hi_i0 (fun c h => hm c (sn_J0_length_8abf5_J0_coder_7d493 c h)) (fun q h => hk q (sl_J0_length_8abf5_J0_coder_7d493 q h)) er1) hi_i0 rfl rfl rfl (Nat.le_of_ble_eq_true rfl) hl.1 ⟨Nat.le_of_ble_eq_true rfl, Nat.le_of_ble_eq_true rfl, Nat.le_of_ble_eq_true rfl, Nat.le_of_ble_eq_true rfl⟩ dJ0_length_8abf5_6 (fun H locs hS => ?_)
  refine lv_ishr C.1 C.2.1 dJ0_length_8abf5_9 ?_
  exact zretI C hS hf dJ0_length_8abf5_10
end
section
theorem dJ1_canEncode_9a6ad_0 : decode cJ1_canEncode_9a6ad 0 = .ok (.iload_n 0, 1) := by decide +kernel
theorem dJ1_canEncode_9a6ad_1 : decode cJ1_canEncode_9a6ad 1 = .ok (.ifCond .lt 14, 3) := by decide +kernel
theorem dJ1_canEncode_9a6ad_4 : decode cJ1_canEncode_9a6ad 4 = .ok (.iload_n 0, 1) := by decide +kernel
theorem dJ1_canEncode_9a6ad_5 : decode cJ1_canEncode_9a6ad 5 = .ok (.sipush 255, 3) := by decide +kernel
theorem dJ1_canEncode_9a6ad_8 : decode cJ1_canEncode_9a6ad 8 = .ok (.if_icmp .gt 7, 3) := by decide +kernel
theorem dJ1_canEncode_9a6ad_11 : decode cJ1_canEncode_9a6ad 11 = .ok (.iconst 1, 1) := by decide +kernel
theorem dJ1_canEncode_9a6ad_12 : decode cJ1_canEncode_9a6ad 12 = .ok (.goto 4, 3) := by decide +kernel
theorem dJ1_canEncode_9a6ad_15 : decode cJ1_canEncode_9a6ad 15 = .ok (.iconst 0, 1) := by decide +kernel
theorem dJ1_canEncode_9a6ad_16 : decode cJ1_canEncode_9a6ad 16 = .ok (.ireturn, 1) := by decide +kernel
abbrev nd_J1_canEncode_9a6ad : List Nat := []
abbrev ld_J1_canEncode_9a6ad : List (Nat × Nat) := []
def f_J1_canEncode_9a6ad_15  (h : zH) : zR := (some ((0 : Int32), h))
def f_J1_canEncode_9a6ad  (x0 : Int32) (h : zH) : zR := (if x0 < 0 then (f_J1_canEncode_9a6ad_15   h) else (if (255 : Int32) < x0 then (f_J1_canEncode_9a6ad_15   h) else (some ((1 : Int32), h))))
variable {p : Program} {l : Launch} {e : Env} {s : State} {m : MethodId} {args : Array Value} {below : List Frame} {meth : Method} {c : Code} {G : zG} {q : Int32 × zH}
set_option maxHeartbeats 4000000 in
set_option maxRecDepth 100000 in
theorem w_J1_canEncode_9a6ad_15  (C : zC G p s m args meth c cJ1_canEncode_9a6ad 1 RJ1 (some .boolean)) (hm : ∀ c ∈ nd_J1_canEncode_9a6ad, c ∈ znm G) (hk : ∀ q ∈ ld_J1_canEncode_9a6ad, zlk G q.1 q.2 = true)  : ∀ (ls : Array Slot) (H : Heap) (locs : List Loc) (h : zH), lv_has ls 1 [] → zS G h s.heap H locs → f_J1_canEncode_9a6ad_15  h = some q → W p l e (zrm (2)) s m args below meth c H locs 0 0 (MQ below (zQI G q.2 q.1) args s 0 0 (zA G)) (F0 m 15 ls []) := by
  intro ls H locs h hl hS hf
  unfold f_J1_canEncode_9a6ad_15 at hf
  refine lv_iconst (v := (0 : Int32)) C.1 C.2.1 dJ1_canEncode_9a6ad_15 rfl ?_
  exact zretZ C hS rfl hf dJ1_canEncode_9a6ad_16
set_option maxHeartbeats 4000000 in
set_option maxRecDepth 100000 in
theorem c_J1_canEncode_9a6ad (l : Launch) (G : zG) (h : zH) (x0 : Int32) (q : Int32 × zH) (hm : ∀ c ∈ nd_J1_canEncode_9a6ad, c ∈ znm G) (hk : ∀ q ∈ ld_J1_canEncode_9a6ad, zlk G q.1 q.2 = true) (hf : f_J1_canEncode_9a6ad x0 h = some q) : zCtI l yJ1_canEncode_9a6ad cJ1_canEncode_9a6ad 1 (some .boolean) (2) [.int x0] G h q.2 q.1 := by
  refine zMetI (by decide) (Nat.le_of_ble_eq_true rfl) ?_
  intro p e s m below meth c ls C hl hS
  have hl : lv_has ls 1 [(0, .int x0)] := hl
  have C : zC G p s m [.int x0].toArray meth c cJ1_canEncode_9a6ad 1 RJ1 (some .boolean) := C
  unfold f_J1_canEncode_9a6ad at hf
  refine lv_iload_n C.1 C.2.1 dJ1_canEncode_9a6ad_0 rfl (lv_at hl 0 rfl) ?_
  refine lv_if_lt (tgt := 15) C.1 C.2.1 dJ1_canEncode_9a6ad_1 (by decide) (fun hc => ?_) (fun hc => ?_)
  · have hf := zif_t hc hf
    exact w_J1_canEncode_9a6ad_15 C hm hk  _ _ _ _ (lv_sub hl [] rfl) hS hf
  · have hf := zif_f hc hf
    refine lv_iload_n C.1 C.2.1 dJ1_canEncode_9a6ad_4 rfl (lv_at hl 0 rfl) ?_
    refine lv_sipush (v := (255 : Int32)) C.1 C.2.1 dJ1_canEncode_9a6ad_5 rfl ?_
    refine lv_icmp_gt (tgt := 15) C.1 C.2.1 dJ1_canEncode_9a6ad_8 (by decide) (fun hc => ?_) (fun hc => ?_)
    · have hf := zif_t hc hf
      exact w_J1_canEncode_9a6ad_15 C hm hk  _ _ _ _ (lv_sub hl [] rfl) hS hf
    · have hf := zif_f hc hf
      refine lv_iconst (v := (1 : Int32)) C.1 C.2.1 dJ1_canEncode_9a6ad_11 rfl ?_
      refine lv_goto (tgt := 16) C.1 C.2.1 dJ1_canEncode_9a6ad_12 (by decide) ?_
      exact zretZ C hS rfl hf dJ1_canEncode_9a6ad_16
end
section
theorem dJ1_indexOfChar_4cfef_0 : decode cJ1_indexOfChar_4cfef 0 = .ok (.iload_n 1, 1) := by decide +kernel
theorem dJ1_indexOfChar_4cfef_1 : decode cJ1_indexOfChar_4cfef 1 = .ok (.i2b, 1) := by decide +kernel
theorem dJ1_indexOfChar_4cfef_2 : decode cJ1_indexOfChar_4cfef 2 = .ok (.istore 4, 2) := by decide +kernel
theorem dJ1_indexOfChar_4cfef_4 : decode cJ1_indexOfChar_4cfef 4 = .ok (.iload_n 2, 1) := by decide +kernel
theorem dJ1_indexOfChar_4cfef_5 : decode cJ1_indexOfChar_4cfef 5 = .ok (.istore 5, 2) := by decide +kernel
theorem dJ1_indexOfChar_4cfef_7 : decode cJ1_indexOfChar_4cfef 7 = .ok (.iload 5, 2) := by decide +kernel
theorem dJ1_indexOfChar_4cfef_9 : decode cJ1_indexOfChar_4cfef 9 = .ok (.iload_n 3, 1) := by decide +kernel
theorem dJ1_indexOfChar_4cfef_10 : decode cJ1_indexOfChar_4cfef 10 = .ok (.if_icmp .ge 21, 3) := by decide +kernel
theorem dJ1_indexOfChar_4cfef_13 : decode cJ1_indexOfChar_4cfef 13 = .ok (.aload_n 0, 1) := by decide +kernel
theorem dJ1_indexOfChar_4cfef_14 : decode cJ1_indexOfChar_4cfef 14 = .ok (.iload 5, 2) := by decide +kernel
theorem dJ1_indexOfChar_4cfef_16 : decode cJ1_indexOfChar_4cfef 16 = .ok (.baload, 1) := by decide +kernel
theorem dJ1_indexOfChar_4cfef_17 : decode cJ1_indexOfChar_4cfef 17 = .ok (.iload 4, 2) := by decide +kernel
theorem dJ1_indexOfChar_4cfef_19 : decode cJ1_indexOfChar_4cfef 19 = .ok (.if_icmp .ne 6, 3) := by decide +kernel
theorem dJ1_indexOfChar_4cfef_22 : decode cJ1_indexOfChar_4cfef 22 = .ok (.iload 5, 2) := by decide +kernel
theorem dJ1_indexOfChar_4cfef_24 : decode cJ1_indexOfChar_4cfef 24 = .ok (.ireturn, 1) := by decide +kernel
theorem dJ1_indexOfChar_4cfef_25 : decode cJ1_indexOfChar_4cfef 25 = .ok (.iinc 5 1, 3) := by decide +kernel
theorem dJ1_indexOfChar_4cfef_28 : decode cJ1_indexOfChar_4cfef 28 = .ok (.goto (-21), 3) := by decide +kernel
theorem dJ1_indexOfChar_4cfef_31 : decode cJ1_indexOfChar_4cfef 31 = .ok (.iconst (-1), 1) := by decide +kernel
theorem dJ1_indexOfChar_4cfef_32 : decode cJ1_indexOfChar_4cfef 32 = .ok (.ireturn, 1) := by decide +kernel
abbrev nd_J1_indexOfChar_4cfef : List Nat := []
abbrev ld_J1_indexOfChar_4cfef : List (Nat × Nat) := []
def f_J1_indexOfChar_4cfef_7  : Nat → Nat → Int32 → Int32 → Int32 → zH → zR
  | 0 => fun _ _ _ _ _ => none
  | n + 1 => fun i0 x3 x4 x5 h => (if x3 ≤ x5 then (some ((-1 : Int32), h)) else (zck x5 (zlen.getD i0 0) (if ((zbyt.getD i0 []).getD (Int32.toNatClampNeg x5) 0) = x4 then (some (x5, h)) else (zlt (x5 + (1 : Int32)) fun y2 => (f_J1_indexOfChar_4cfef_7  n i0 x3 x4 y2 h)))))
def f_J1_indexOfChar_4cfef  (i0 : Nat) (x1 : Int32) (x2 : Int32) (x3 : Int32) (h : zH) : zR := (zlt (Int32.toInt8 x1).toInt32 fun y1 => (f_J1_indexOfChar_4cfef_7  zN i0 x3 y1 x2 h))
variable {p : Program} {l : Launch} {e : Env} {s : State} {m : MethodId} {args : Array Value} {below : List Frame} {meth : Method} {c : Code} {G : zG} {q : Int32 × zH}
set_option maxHeartbeats 4000000 in
set_option maxRecDepth 100000 in
theorem w_J1_indexOfChar_4cfef_7  (C : zC G p s m args meth c cJ1_indexOfChar_4cfef 6 RJ1 (some .int)) (hm : ∀ c ∈ nd_J1_indexOfChar_4cfef, c ∈ znm G) (hk : ∀ q ∈ ld_J1_indexOfChar_4cfef, zlk G q.1 q.2 = true)  : ∀ n, ∀ (ls : Array Slot) (H : Heap) (locs : List Loc) (h : zH) (i0 : Nat) (x3 : Int32) (x4 : Int32) (x5 : Int32), i0 < znS → lv_has ls 6 [(0, .ref (zaV G i0)), (3, .int x3), (4, .int x4), (5, .int x5)] → zS G h s.heap H locs → f_J1_indexOfChar_4cfef_7  n i0 x3 x4 x5 h = some q → W p l e (zrm (2)) s m args below meth c H locs 0 0 (MQ below (zQI G q.2 q.1) args s 0 0 (zA G)) (F0 m 7 ls []) := by
  intro n
  induction n with
  | zero => intro ls H locs h i0 x3 x4 x5 hi_i0 hl hS hf; cases hf
  | succ n ih =>
    intro ls H locs h i0 x3 x4 x5 hi_i0 hl hS hf
    rw [f_J1_indexOfChar_4cfef_7] at hf
    refine lv_iload C.1 C.2.1 dJ1_indexOfChar_4cfef_7 (lv_at hl 3 rfl) ?_
    refine lv_iload_n C.1 C.2.1 dJ1_indexOfChar_4cfef_9 rfl (lv_at hl 1 rfl) ?_
    refine lv_icmp_ge (tgt := 31) C.1 C.2.1 dJ1_indexOfChar_4cfef_10 (by decide) (fun hc => ?_) (fun hc => ?_)
    · have hf := zif_t hc hf
      refine lv_iconst (v := (-1 : Int32)) C.1 C.2.1 dJ1_indexOfChar_4cfef_31 rfl ?_
      exact zretI C hS hf dJ1_indexOfChar_4cfef_32
    · have hf := zif_f hc hf
      refine lv_aload_n C.1 C.2.1 dJ1_indexOfChar_4cfef_13 rfl (lv_at hl 0 rfl) ?_
      refine lv_iload C.1 C.2.1 dJ1_indexOfChar_4cfef_14 (lv_at hl 3 rfl) ?_
      obtain ⟨hi, hf⟩ := zck_some hf
      refine zbald (i := i0) C hS hi_i0 hi dJ1_indexOfChar_4cfef_16 ?_
      refine lv_iload C.1 C.2.1 dJ1_indexOfChar_4cfef_17 (lv_at hl 2 rfl) ?_
      refine lv_icmp_ne (tgt := 25) C.1 C.2.1 dJ1_indexOfChar_4cfef_19 (by decide) (fun hc => ?_) (fun hc => ?_)
      · have hf := zif_f hc hf
        obtain ⟨y2, ey2, hf⟩ := zlt_some hf
        refine lv_iinc (v := y2) (lv' := [(5, .int y2), (0, .ref (zaV G i0)), (3, .int x3), (4, .int x4)]) C.1 C.2.1 dJ1_indexOfChar_4cfef_25 hl (k := 3) rfl ey2.symm (by decide) rfl (fun ls hl => ?_)
        refine lv_goto (tgt := 7) C.1 C.2.1 dJ1_indexOfChar_4cfef_28 (by decide) ?_
        exact ih _ _ _ _ _ _ _ _ hi_i0 (lv_sub hl [1, 2, 3, 0] rfl) hS hf
      · have hf := zif_t hc hf
        refine lv_iload C.1 C.2.1 dJ1_indexOfChar_4cfef_22 (lv_at hl 3 rfl) ?_
        exact zretI C hS hf dJ1_indexOfChar_4cfef_24
set_option maxHeartbeats 4000000 in
set_option maxRecDepth 100000 in
theorem c_J1_indexOfChar_4cfef (l : Launch) (G : zG) (h : zH) (i0 : Nat) (x1 : Int32) (x2 : Int32) (x3 : Int32) (q : Int32 × zH) (hi_i0 : i0 < znS) (hm : ∀ c ∈ nd_J1_indexOfChar_4cfef, c ∈ znm G) (hk : ∀ q ∈ ld_J1_indexOfChar_4cfef, zlk G q.1 q.2 = true) (hf : f_J1_indexOfChar_4cfef i0 x1 x2 x3 h = some q) : zCtI l yJ1_indexOfChar_4cfef cJ1_indexOfChar_4cfef 6 (some .int) (2) [.ref (zaV G i0), .int x1, .int x2, .int x3] G h q.2 q.1 := by
  refine zMetI (by decide) (Nat.le_of_ble_eq_true rfl) ?_
  intro p e s m below meth c ls C hl hS
  have hl : lv_has ls 6 [(0, .ref (zaV G i0)), (1, .int x1), (2, .int x2), (3, .int x3)] := hl
  have C : zC G p s m [.ref (zaV G i0), .int x1, .int x2, .int x3].toArray meth c cJ1_indexOfChar_4cfef 6 RJ1 (some .int) := C
  unfold f_J1_indexOfChar_4cfef at hf
  refine lv_iload_n C.1 C.2.1 dJ1_indexOfChar_4cfef_0 rfl (lv_at hl 1 rfl) ?_
  refine lv_i2b C.1 C.2.1 dJ1_indexOfChar_4cfef_1 rfl ?_
  obtain ⟨y1, ey1, hf⟩ := zlt_some hf
  refine ztop ey1 ?_
  refine lv_istore (lv' := [(4, .int y1), (0, .ref (zaV G i0)), (1, .int x1), (2, .int x2), (3, .int x3)]) C.1 C.2.1 dJ1_indexOfChar_4cfef_2 hl (by decide) rfl (fun ls hl => ?_)
  refine lv_iload_n C.1 C.2.1 dJ1_indexOfChar_4cfef_4 rfl (lv_at hl 3 rfl) ?_
  refine lv_istore (lv' := [(5, .int x2), (4, .int y1), (0, .ref (zaV G i0)), (1, .int x1), (2, .int x2), (3, .int x3)]) C.1 C.2.1 dJ1_indexOfChar_4cfef_5 hl (by decide) rfl (fun ls hl => ?_)
  exact w_J1_indexOfChar_4cfef_7 C hm hk  zN _ _ _ _ _ _ _ _ hi_i0 (lv_sub hl [2, 5, 1, 0] rfl) hS hf
end
section
theorem dJ1_indexOf_4cfef_0 : decode cJ1_indexOf_4cfef 0 = .ok (.iload_n 1, 1) := by decide +kernel
theorem dJ1_indexOf_4cfef_1 : decode cJ1_indexOf_4cfef 1 = .ok (.invokestatic 88, 3) := by decide +kernel
theorem dJ1_indexOf_4cfef_4 : decode cJ1_indexOf_4cfef 4 = .ok (.ifCond .ne 5, 3) := by decide +kernel
theorem dJ1_indexOf_4cfef_7 : decode cJ1_indexOf_4cfef 7 = .ok (.iconst (-1), 1) := by decide +kernel
theorem dJ1_indexOf_4cfef_8 : decode cJ1_indexOf_4cfef 8 = .ok (.ireturn, 1) := by decide +kernel
theorem dJ1_indexOf_4cfef_9 : decode cJ1_indexOf_4cfef 9 = .ok (.iload_n 2, 1) := by decide +kernel
theorem dJ1_indexOf_4cfef_10 : decode cJ1_indexOf_4cfef 10 = .ok (.iconst 0, 1) := by decide +kernel
theorem dJ1_indexOf_4cfef_11 : decode cJ1_indexOf_4cfef 11 = .ok (.invokestatic 92, 3) := by decide +kernel
theorem dJ1_indexOf_4cfef_14 : decode cJ1_indexOf_4cfef 14 = .ok (.istore_n 2, 1) := by decide +kernel
theorem dJ1_indexOf_4cfef_15 : decode cJ1_indexOf_4cfef 15 = .ok (.iload_n 3, 1) := by decide +kernel
theorem dJ1_indexOf_4cfef_16 : decode cJ1_indexOf_4cfef 16 = .ok (.aload_n 0, 1) := by decide +kernel
theorem dJ1_indexOf_4cfef_17 : decode cJ1_indexOf_4cfef 17 = .ok (.arraylength, 1) := by decide +kernel
theorem dJ1_indexOf_4cfef_18 : decode cJ1_indexOf_4cfef 18 = .ok (.invokestatic 38, 3) := by decide +kernel
theorem dJ1_indexOf_4cfef_21 : decode cJ1_indexOf_4cfef 21 = .ok (.istore_n 3, 1) := by decide +kernel
theorem dJ1_indexOf_4cfef_22 : decode cJ1_indexOf_4cfef 22 = .ok (.iload_n 2, 1) := by decide +kernel
theorem dJ1_indexOf_4cfef_23 : decode cJ1_indexOf_4cfef 23 = .ok (.iload_n 3, 1) := by decide +kernel
theorem dJ1_indexOf_4cfef_24 : decode cJ1_indexOf_4cfef 24 = .ok (.if_icmp .lt 5, 3) := by decide +kernel
theorem dJ1_indexOf_4cfef_27 : decode cJ1_indexOf_4cfef 27 = .ok (.iconst (-1), 1) := by decide +kernel
theorem dJ1_indexOf_4cfef_28 : decode cJ1_indexOf_4cfef 28 = .ok (.ireturn, 1) := by decide +kernel
theorem dJ1_indexOf_4cfef_29 : decode cJ1_indexOf_4cfef 29 = .ok (.aload_n 0, 1) := by decide +kernel
theorem dJ1_indexOf_4cfef_30 : decode cJ1_indexOf_4cfef 30 = .ok (.iload_n 1, 1) := by decide +kernel
theorem dJ1_indexOf_4cfef_31 : decode cJ1_indexOf_4cfef 31 = .ok (.iload_n 2, 1) := by decide +kernel
theorem dJ1_indexOf_4cfef_32 : decode cJ1_indexOf_4cfef 32 = .ok (.iload_n 3, 1) := by decide +kernel
theorem dJ1_indexOf_4cfef_33 : decode cJ1_indexOf_4cfef 33 = .ok (.invokestatic 95, 3) := by decide +kernel
theorem dJ1_indexOf_4cfef_36 : decode cJ1_indexOf_4cfef 36 = .ok (.ireturn, 1) := by decide +kernel
abbrev nd_J1_indexOf_4cfef : List Nat := []
abbrev ld_J1_indexOf_4cfef : List (Nat × Nat) := []
theorem sn_J1_indexOf_4cfef_J1_canEncode_9a6ad : ∀ c ∈ nd_J1_canEncode_9a6ad, c ∈ nd_J1_indexOf_4cfef := by decide
theorem sl_J1_indexOf_4cfef_J1_canEncode_9a6ad : ∀ q ∈ ld_J1_canEncode_9a6ad, q ∈ ld_J1_indexOf_4cfef := by decide
theorem sn_J1_indexOf_4cfef_J1_indexOfChar_4cfef : ∀ c ∈ nd_J1_indexOfChar_4cfef, c ∈ nd_J1_indexOf_4cfef := by decide
theorem sl_J1_indexOf_4cfef_J1_indexOfChar_4cfef : ∀ q ∈ ld_J1_indexOfChar_4cfef, q ∈ ld_J1_indexOf_4cfef := by decide
def f_J1_indexOf_4cfef  (i0 : Nat) (x1 : Int32) (x2 : Int32) (x3 : Int32) (h : zH) : zR := (zbd (f_J1_canEncode_9a6ad x1 h) fun r1 h2 => (if r1 = 0 then (some ((-1 : Int32), h2)) else (zlt (if x2 < (0 : Int32) then (0 : Int32) else x2) fun y3 => (zlt (if (Int32.ofNat (zlen.getD i0 0)) < x3 then (Int32.ofNat (zlen.getD i0 0)) else x3) fun y4 => (if y3 < y4 then (zbd (f_J1_indexOfChar_4cfef i0 x1 y3 y4 h2) fun r5 h6 => (some (r5, h6))) else (some ((-1 : Int32), h2)))))))
variable {p : Program} {l : Launch} {e : Env} {s : State} {m : MethodId} {args : Array Value} {below : List Frame} {meth : Method} {c : Code} {G : zG} {q : Int32 × zH}
set_option maxHeartbeats 4000000 in
set_option maxRecDepth 100000 in
theorem c_J1_indexOf_4cfef (l : Launch) (G : zG) (h : zH) (i0 : Nat) (x1 : Int32) (x2 : Int32) (x3 : Int32) (q : Int32 × zH) (hi_i0 : i0 < znS) (hm : ∀ c ∈ nd_J1_indexOf_4cfef, c ∈ znm G) (hk : ∀ q ∈ ld_J1_indexOf_4cfef, zlk G q.1 q.2 = true) (hf : f_J1_indexOf_4cfef i0 x1 x2 x3 h = some q) : zCtI l yJ1_indexOf_4cfef cJ1_indexOf_4cfef 4 (some .int) (3) [.ref (zaV G i0), .int x1, .int x2, .int x3] G h q.2 q.1 := by
  refine zMetI (by decide) (Nat.le_of_ble_eq_true rfl) ?_
  intro p e s m below meth c ls C hl hS
  have hl : lv_has ls 4 [(0, .ref (zaV G i0)), (1, .int x1), (2, .int x2), (3, .int x3)] := hl
  have C : zC G p s m [.ref (zaV G i0), .int x1, .int x2, .int x3].toArray meth c cJ1_indexOf_4cfef 4 RJ1 (some .int) := C
  unfold f_J1_indexOf_4cfef at hf
  refine lv_iload_n C.1 C.2.1 dJ1_indexOf_4cfef_0 rfl (lv_at hl 1 rfl) ?_
  obtain ⟨r1, h2, er1, hf⟩ := zbd_some hf
  refine zcallSI (As := [.int x1]) (rest := []) C hS ms_J1_88 (c_J1_canEncode_9a6ad l G h x1 (r1, h2) (fun c h => hm c (sn_J1_indexOf_4cfef_J1_canEncode_9a6ad c h)) (fun q h => hk q (sl_J1_indexOf_4cfef_J1_canEncode_9a6ad q h)) er1) rfl rfl (Nat.le_of_ble_eq_true rfl) hl.1 ⟨Nat.le_of_ble_eq_true rfl, Nat.le_of_ble_eq_true rfl, Nat.le_of_ble_eq_true rfl, Nat.le_of_ble_eq_true rfl⟩ dJ1_indexOf_4cfef_1 (fun H locs hS => ?_)
  refine lv_if_ne (tgt := 9) C.1 C.2.1 dJ1_indexOf_4cfef_4 (by decide) (fun hc => ?_) (fun hc => ?_)
  · have hf := zif_f hc hf
    refine lv_iload_n C.1 C.2.1 dJ1_indexOf_4cfef_9 rfl (lv_at hl 2 rfl) ?_
    refine lv_iconst (v := (0 : Int32)) C.1 C.2.1 dJ1_indexOf_4cfef_10 rfl ?_
    refine zmax C kw_659 (Nat.le_of_ble_eq_true rfl) hl.1 ⟨Nat.le_of_ble_eq_true rfl, Nat.le_of_ble_eq_true rfl, Nat.le_of_ble_eq_true rfl, Nat.le_of_ble_eq_true rfl⟩ dJ1_indexOf_4cfef_11 ?_
    obtain ⟨y3, ey3, hf⟩ := zlt_some hf
    refine ztop ey3 ?_
    refine lv_istore_n (lv' := [(2, .int y3), (0, .ref (zaV G i0)), (1, .int x1), (3, .int x3)]) C.1 C.2.1 dJ1_indexOf_4cfef_14 rfl hl (by decide) rfl (fun ls hl => ?_)
    refine lv_iload_n C.1 C.2.1 dJ1_indexOf_4cfef_15 rfl (lv_at hl 3 rfl) ?_
    refine lv_aload_n C.1 C.2.1 dJ1_indexOf_4cfef_16 rfl (lv_at hl 1 rfl) ?_
    refine zblen (i := i0) C hS hi_i0 dJ1_indexOf_4cfef_17 ?_
    refine zmin C kw_662 (Nat.le_of_ble_eq_true rfl) hl.1 ⟨Nat.le_of_ble_eq_true rfl, Nat.le_of_ble_eq_true rfl, Nat.le_of_ble_eq_true rfl, Nat.le_of_ble_eq_true rfl⟩ dJ1_indexOf_4cfef_18 ?_
    obtain ⟨y4, ey4, hf⟩ := zlt_some hf
    refine ztop ey4 ?_
    refine lv_istore_n (lv' := [(3, .int y4), (2, .int y3), (0, .ref (zaV G i0)), (1, .int x1)]) C.1 C.2.1 dJ1_indexOf_4cfef_21 rfl hl (by decide) rfl (fun ls hl => ?_)
    refine lv_iload_n C.1 C.2.1 dJ1_indexOf_4cfef_22 rfl (lv_at hl 1 rfl) ?_
    refine lv_iload_n C.1 C.2.1 dJ1_indexOf_4cfef_23 rfl (lv_at hl 0 rfl) ?_
    refine lv_icmp_lt (tgt := 29) C.1 C.2.1 dJ1_indexOf_4cfef_24 (by decide) (fun hc => ?_) (fun hc => ?_)
    · have hf := zif_t hc hf
      refine lv_aload_n C.1 C.2.1 dJ1_indexOf_4cfef_29 rfl (lv_at hl 2 rfl) ?_
      refine lv_iload_n C.1 C.2.1 dJ1_indexOf_4cfef_30 rfl (lv_at hl 3 rfl) ?_
      refine lv_iload_n C.1 C.2.1 dJ1_indexOf_4cfef_31 rfl (lv_at hl 1 rfl) ?_
      refine lv_iload_n C.1 C.2.1 dJ1_indexOf_4cfef_32 rfl (lv_at hl 0 rfl) ?_
      obtain ⟨r5, h6, er5, hf⟩ := zbd_some hf
      refine zcallSI (As := [.ref (zaV G i0), .int x1, .int y3, .int y4]) (rest := []) C hS ms_J1_95 (c_J1_indexOfChar_4cfef l G h2 i0 x1 y3 y4 (r5, h6) hi_i0 (fun c h => hm c (sn_J1_indexOf_4cfef_J1_indexOfChar_4cfef c h)) (fun q h => hk q (sl_J1_indexOf_4cfef_J1_indexOfChar_4cfef q h)) er5) rfl rfl (Nat.le_of_ble_eq_true rfl) hl.1 ⟨Nat.le_of_ble_eq_true rfl, Nat.le_of_ble_eq_true rfl, Nat.le_of_ble_eq_true rfl, Nat.le_of_ble_eq_true rfl⟩ dJ1_indexOf_4cfef_33 (fun H locs hS => ?_)
      exact zretI C hS hf dJ1_indexOf_4cfef_36
    · have hf := zif_f hc hf
      refine lv_iconst (v := (-1 : Int32)) C.1 C.2.1 dJ1_indexOf_4cfef_27 rfl ?_
      exact zretI C hS hf dJ1_indexOf_4cfef_28
  · have hf := zif_t hc hf
    refine lv_iconst (v := (-1 : Int32)) C.1 C.2.1 dJ1_indexOf_4cfef_7 rfl ?_
    exact zretI C hS hf dJ1_indexOf_4cfef_8
end
section
theorem dJ0_indexOf_7cf53_0 : decode cJ0_indexOf_7cf53 0 = .ok (.aload_n 0, 1) := by decide +kernel
theorem dJ0_indexOf_7cf53_1 : decode cJ0_indexOf_7cf53 1 = .ok (.invokevirtual 492, 3) := by decide +kernel
theorem dJ0_indexOf_7cf53_4 : decode cJ0_indexOf_7cf53 4 = .ok (.ifCond .eq 19, 3) := by decide +kernel
theorem dJ0_indexOf_7cf53_7 : decode cJ0_indexOf_7cf53 7 = .ok (.aload_n 0, 1) := by decide +kernel
theorem dJ0_indexOf_7cf53_8 : decode cJ0_indexOf_7cf53 8 = .ok (.getfield 9, 3) := by decide +kernel
theorem dJ0_indexOf_7cf53_11 : decode cJ0_indexOf_7cf53 11 = .ok (.iload_n 1, 1) := by decide +kernel
theorem dJ0_indexOf_7cf53_12 : decode cJ0_indexOf_7cf53 12 = .ok (.iload_n 2, 1) := by decide +kernel
theorem dJ0_indexOf_7cf53_13 : decode cJ0_indexOf_7cf53 13 = .ok (.aload_n 0, 1) := by decide +kernel
theorem dJ0_indexOf_7cf53_14 : decode cJ0_indexOf_7cf53 14 = .ok (.invokevirtual 505, 3) := by decide +kernel
theorem dJ0_indexOf_7cf53_17 : decode cJ0_indexOf_7cf53 17 = .ok (.invokestatic 637, 3) := by decide +kernel
theorem dJ0_indexOf_7cf53_20 : decode cJ0_indexOf_7cf53 20 = .ok (.goto 16, 3) := by decide +kernel
theorem dJ0_indexOf_7cf53_23 : decode cJ0_indexOf_7cf53 23 = .ok (.aload_n 0, 1) := by decide +kernel
theorem dJ0_indexOf_7cf53_24 : decode cJ0_indexOf_7cf53 24 = .ok (.getfield 9, 3) := by decide +kernel
theorem dJ0_indexOf_7cf53_27 : decode cJ0_indexOf_7cf53 27 = .ok (.iload_n 1, 1) := by decide +kernel
theorem dJ0_indexOf_7cf53_28 : decode cJ0_indexOf_7cf53 28 = .ok (.iload_n 2, 1) := by decide +kernel
theorem dJ0_indexOf_7cf53_29 : decode cJ0_indexOf_7cf53 29 = .ok (.aload_n 0, 1) := by decide +kernel
theorem dJ0_indexOf_7cf53_30 : decode cJ0_indexOf_7cf53 30 = .ok (.invokevirtual 505, 3) := by decide +kernel
theorem dJ0_indexOf_7cf53_36 : decode cJ0_indexOf_7cf53 36 = .ok (.ireturn, 1) := by decide +kernel
abbrev nd_J0_indexOf_7cf53 : List Nat := []
abbrev ld_J0_indexOf_7cf53 : List (Nat × Nat) := []
theorem sn_J0_indexOf_7cf53_J0_isLatin1_aae02 : ∀ c ∈ nd_J0_isLatin1_aae02, c ∈ nd_J0_indexOf_7cf53 := by decide
theorem sl_J0_indexOf_7cf53_J0_isLatin1_aae02 : ∀ q ∈ ld_J0_isLatin1_aae02, q ∈ ld_J0_indexOf_7cf53 := by decide
theorem sn_J0_indexOf_7cf53_J0_length_8abf5 : ∀ c ∈ nd_J0_length_8abf5, c ∈ nd_J0_indexOf_7cf53 := by decide
theorem sl_J0_indexOf_7cf53_J0_length_8abf5 : ∀ q ∈ ld_J0_length_8abf5, q ∈ ld_J0_indexOf_7cf53 := by decide
theorem sn_J0_indexOf_7cf53_J1_indexOf_4cfef : ∀ c ∈ nd_J1_indexOf_4cfef, c ∈ nd_J0_indexOf_7cf53 := by decide
theorem sl_J0_indexOf_7cf53_J1_indexOf_4cfef : ∀ q ∈ ld_J1_indexOf_4cfef, q ∈ ld_J0_indexOf_7cf53 := by decide
def f_J0_indexOf_7cf53  (i0 : Nat) (x1 : Int32) (x2 : Int32) (h : zH) : zR := (zbd (f_J0_isLatin1_aae02 i0 h) fun r1 h2 => (if r1 = 0 then (zbd (f_J0_length_8abf5 i0 h2) fun r3 h4 => none) else (zbd (f_J0_length_8abf5 i0 h2) fun r5 h6 => (zbd (f_J1_indexOf_4cfef i0 x1 x2 r5 h6) fun r7 h8 => (some (r7, h8))))))
variable {p : Program} {l : Launch} {e : Env} {s : State} {m : MethodId} {args : Array Value} {below : List Frame} {meth : Method} {c : Code} {G : zG} {q : Int32 × zH}
set_option maxHeartbeats 4000000 in
set_option maxRecDepth 100000 in
theorem c_J0_indexOf_7cf53 (l : Launch) (G : zG) (h : zH) (i0 : Nat) (x1 : Int32) (x2 : Int32) (q : Int32 × zH) (hi_i0 : i0 < znS) (hm : ∀ c ∈ nd_J0_indexOf_7cf53, c ∈ znm G) (hk : ∀ q ∈ ld_J0_indexOf_7cf53, zlk G q.1 q.2 = true) (hf : f_J0_indexOf_7cf53 i0 x1 x2 h = some q) : zCtI l yJ0_indexOf_7cf53 cJ0_indexOf_7cf53 3 (some .int) (4) [.ref (zaK G i0), .int x1, .int x2] G h q.2 q.1 := by
  refine zMetI (by decide) (Nat.le_of_ble_eq_true rfl) ?_
  intro p e s m below meth c ls C hl hS
  have hl : lv_has ls 3 [(0, .ref (zaK G i0)), (1, .int x1), (2, .int x2)] := hl
  have C : zC G p s m [.ref (zaK G i0), .int x1, .int x2].toArray meth c cJ0_indexOf_7cf53 3 RJ0 (some .int) := C
  unfold f_J0_indexOf_7cf53 at hf
  refine lv_aload_n C.1 C.2.1 dJ0_indexOf_7cf53_0 rfl (lv_at hl 0 rfl) ?_
  obtain ⟨r1, h2, er1, hf⟩ := zbd_some hf
  refine zcallTI (i := i0) (As := []) (rest := []) C hS mv_J0_492 (c_J0_isLatin1_aae02 l G h i0 (r1, h2) hi_i0 (fun c h => hm c (sn_J0_indexOf_7cf53_J0_isLatin1_aae02 c h)) (fun q h => hk q (sl_J0_indexOf_7cf53_J0_isLatin1_aae02 q h)) er1) hi_i0 rfl rfl rfl (Nat.le_of_ble_eq_true rfl) hl.1 ⟨Nat.le_of_ble_eq_true rfl, Nat.le_of_ble_eq_true rfl, Nat.le_of_ble_eq_true rfl, Nat.le_of_ble_eq_true rfl⟩ dJ0_indexOf_7cf53_1 (fun H locs hS => ?_)
  refine lv_if_eq (tgt := 23) C.1 C.2.1 dJ0_indexOf_7cf53_4 (by decide) (fun hc => ?_) (fun hc => ?_)
  · have hf := zif_t hc hf
    refine lv_aload_n C.1 C.2.1 dJ0_indexOf_7cf53_23 rfl (lv_at hl 0 rfl) ?_
    refine zstrV (i := i0) C hS hi_i0 kw_1621 dJ0_indexOf_7cf53_24 ?_
    refine lv_iload_n C.1 C.2.1 dJ0_indexOf_7cf53_27 rfl (lv_at hl 1 rfl) ?_
    refine lv_iload_n C.1 C.2.1 dJ0_indexOf_7cf53_28 rfl (lv_at hl 2 rfl) ?_
    refine lv_aload_n C.1 C.2.1 dJ0_indexOf_7cf53_29 rfl (lv_at hl 0 rfl) ?_
    obtain ⟨r3, h4, er3, hf⟩ := zbd_some hf
    refine zcallTI (i := i0) (As := []) (rest := [.int x2, .int x1, .ref (zaV G i0)]) C hS mv_J0_505 (c_J0_length_8abf5 l G h2 i0 (r3, h4) hi_i0 (fun c h => hm c (sn_J0_indexOf_7cf53_J0_length_8abf5 c h)) (fun q h => hk q (sl_J0_indexOf_7cf53_J0_length_8abf5 q h)) er3) hi_i0 rfl rfl rfl (Nat.le_of_ble_eq_true rfl) hl.1 ⟨Nat.le_of_ble_eq_true rfl, Nat.le_of_ble_eq_true rfl, Nat.le_of_ble_eq_true rfl, Nat.le_of_ble_eq_true rfl⟩ dJ0_indexOf_7cf53_30 (fun H locs hS => ?_)
    cases hf
  · have hf := zif_f hc hf
    refine lv_aload_n C.1 C.2.1 dJ0_indexOf_7cf53_7 rfl (lv_at hl 0 rfl) ?_
    refine zstrV (i := i0) C hS hi_i0 kw_1621 dJ0_indexOf_7cf53_8 ?_
    refine lv_iload_n C.1 C.2.1 dJ0_indexOf_7cf53_11 rfl (lv_at hl 1 rfl) ?_
    refine lv_iload_n C.1 C.2.1 dJ0_indexOf_7cf53_12 rfl (lv_at hl 2 rfl) ?_
    refine lv_aload_n C.1 C.2.1 dJ0_indexOf_7cf53_13 rfl (lv_at hl 0 rfl) ?_
    obtain ⟨r5, h6, er5, hf⟩ := zbd_some hf
    refine zcallTI (i := i0) (As := []) (rest := [.int x2, .int x1, .ref (zaV G i0)]) C hS mv_J0_505 (c_J0_length_8abf5 l G h2 i0 (r5, h6) hi_i0 (fun c h => hm c (sn_J0_indexOf_7cf53_J0_length_8abf5 c h)) (fun q h => hk q (sl_J0_indexOf_7cf53_J0_length_8abf5 q h)) er5) hi_i0 rfl rfl rfl (Nat.le_of_ble_eq_true rfl) hl.1 ⟨Nat.le_of_ble_eq_true rfl, Nat.le_of_ble_eq_true rfl, Nat.le_of_ble_eq_true rfl, Nat.le_of_ble_eq_true rfl⟩ dJ0_indexOf_7cf53_14 (fun H locs hS => ?_)
    obtain ⟨r7, h8, er7, hf⟩ := zbd_some hf
    refine zcallSI (As := [.ref (zaV G i0), .int x1, .int x2, .int r5]) (rest := []) C hS ms_J0_637 (c_J1_indexOf_4cfef l G h6 i0 x1 x2 r5 (r7, h8) hi_i0 (fun c h => hm c (sn_J0_indexOf_7cf53_J1_indexOf_4cfef c h)) (fun q h => hk q (sl_J0_indexOf_7cf53_J1_indexOf_4cfef q h)) er7) rfl rfl (Nat.le_of_ble_eq_true rfl) hl.1 ⟨Nat.le_of_ble_eq_true rfl, Nat.le_of_ble_eq_true rfl, Nat.le_of_ble_eq_true rfl, Nat.le_of_ble_eq_true rfl⟩ dJ0_indexOf_7cf53_17 (fun H locs hS => ?_)
    refine lv_goto (tgt := 36) C.1 C.2.1 dJ0_indexOf_7cf53_20 (by decide) ?_
    exact zretI C hS hf dJ0_indexOf_7cf53_36
end
section
theorem dJ0_indexOf_0f7a4_0 : decode cJ0_indexOf_0f7a4 0 = .ok (.aload_n 0, 1) := by decide +kernel
theorem dJ0_indexOf_0f7a4_1 : decode cJ0_indexOf_0f7a4 1 = .ok (.iload_n 1, 1) := by decide +kernel
theorem dJ0_indexOf_0f7a4_2 : decode cJ0_indexOf_0f7a4 2 = .ok (.iconst 0, 1) := by decide +kernel
theorem dJ0_indexOf_0f7a4_3 : decode cJ0_indexOf_0f7a4 3 = .ok (.invokevirtual 633, 3) := by decide +kernel
theorem dJ0_indexOf_0f7a4_6 : decode cJ0_indexOf_0f7a4 6 = .ok (.ireturn, 1) := by decide +kernel
abbrev nd_J0_indexOf_0f7a4 : List Nat := []
abbrev ld_J0_indexOf_0f7a4 : List (Nat × Nat) := []
theorem sn_J0_indexOf_0f7a4_J0_indexOf_7cf53 : ∀ c ∈ nd_J0_indexOf_7cf53, c ∈ nd_J0_indexOf_0f7a4 := by decide
theorem sl_J0_indexOf_0f7a4_J0_indexOf_7cf53 : ∀ q ∈ ld_J0_indexOf_7cf53, q ∈ ld_J0_indexOf_0f7a4 := by decide
def f_J0_indexOf_0f7a4  (i0 : Nat) (x1 : Int32) (h : zH) : zR := (zbd (f_J0_indexOf_7cf53 i0 x1 (0 : Int32) h) fun r1 h2 => (some (r1, h2)))
variable {p : Program} {l : Launch} {e : Env} {s : State} {m : MethodId} {args : Array Value} {below : List Frame} {meth : Method} {c : Code} {G : zG} {q : Int32 × zH}
set_option maxHeartbeats 4000000 in
set_option maxRecDepth 100000 in
theorem c_J0_indexOf_0f7a4 (l : Launch) (G : zG) (h : zH) (i0 : Nat) (x1 : Int32) (q : Int32 × zH) (hi_i0 : i0 < znS) (hm : ∀ c ∈ nd_J0_indexOf_0f7a4, c ∈ znm G) (hk : ∀ q ∈ ld_J0_indexOf_0f7a4, zlk G q.1 q.2 = true) (hf : f_J0_indexOf_0f7a4 i0 x1 h = some q) : zCtI l yJ0_indexOf_0f7a4 cJ0_indexOf_0f7a4 2 (some .int) (5) [.ref (zaK G i0), .int x1] G h q.2 q.1 := by
  refine zMetI (by decide) (Nat.le_of_ble_eq_true rfl) ?_
  intro p e s m below meth c ls C hl hS
  have hl : lv_has ls 2 [(0, .ref (zaK G i0)), (1, .int x1)] := hl
  have C : zC G p s m [.ref (zaK G i0), .int x1].toArray meth c cJ0_indexOf_0f7a4 2 RJ0 (some .int) := C
  unfold f_J0_indexOf_0f7a4 at hf
  refine lv_aload_n C.1 C.2.1 dJ0_indexOf_0f7a4_0 rfl (lv_at hl 0 rfl) ?_
  refine lv_iload_n C.1 C.2.1 dJ0_indexOf_0f7a4_1 rfl (lv_at hl 1 rfl) ?_
  refine lv_iconst (v := (0 : Int32)) C.1 C.2.1 dJ0_indexOf_0f7a4_2 rfl ?_
  obtain ⟨r1, h2, er1, hf⟩ := zbd_some hf
  refine zcallTI (i := i0) (As := [.int x1, .int (0 : Int32)]) (rest := []) C hS mv_J0_633 (c_J0_indexOf_7cf53 l G h i0 x1 (0 : Int32) (r1, h2) hi_i0 (fun c h => hm c (sn_J0_indexOf_0f7a4_J0_indexOf_7cf53 c h)) (fun q h => hk q (sl_J0_indexOf_0f7a4_J0_indexOf_7cf53 q h)) er1) hi_i0 rfl rfl rfl (Nat.le_of_ble_eq_true rfl) hl.1 ⟨Nat.le_of_ble_eq_true rfl, Nat.le_of_ble_eq_true rfl, Nat.le_of_ble_eq_true rfl, Nat.le_of_ble_eq_true rfl⟩ dJ0_indexOf_0f7a4_3 (fun H locs hS => ?_)
  exact zretI C hS hf dJ0_indexOf_0f7a4_6
end
section
theorem dX7_takeNumber_0 : decode cX7_takeNumber 0 = .ok (.iload_n 1, 1) := by decide +kernel
theorem dX7_takeNumber_1 : decode cX7_takeNumber 1 = .ok (.istore_n 2, 1) := by decide +kernel
theorem dX7_takeNumber_2 : decode cX7_takeNumber 2 = .ok (.iconst 0, 1) := by decide +kernel
theorem dX7_takeNumber_3 : decode cX7_takeNumber 3 = .ok (.istore_n 3, 1) := by decide +kernel
theorem dX7_takeNumber_4 : decode cX7_takeNumber 4 = .ok (.iload_n 2, 1) := by decide +kernel
theorem dX7_takeNumber_5 : decode cX7_takeNumber 5 = .ok (.aload_n 0, 1) := by decide +kernel
theorem dX7_takeNumber_6 : decode cX7_takeNumber 6 = .ok (.getfield 36, 3) := by decide +kernel
theorem dX7_takeNumber_9 : decode cX7_takeNumber 9 = .ok (.if_icmp .ge 36, 3) := by decide +kernel
theorem dX7_takeNumber_12 : decode cX7_takeNumber 12 = .ok (.aload_n 0, 1) := by decide +kernel
theorem dX7_takeNumber_13 : decode cX7_takeNumber 13 = .ok (.getfield 9, 3) := by decide +kernel
theorem dX7_takeNumber_16 : decode cX7_takeNumber 16 = .ok (.iload_n 2, 1) := by decide +kernel
theorem dX7_takeNumber_17 : decode cX7_takeNumber 17 = .ok (.caload, 1) := by decide +kernel
theorem dX7_takeNumber_18 : decode cX7_takeNumber 18 = .ok (.invokestatic 81, 3) := by decide +kernel
theorem dX7_takeNumber_21 : decode cX7_takeNumber 21 = .ok (.ifCond .eq 24, 3) := by decide +kernel
theorem dX7_takeNumber_24 : decode cX7_takeNumber 24 = .ok (.iload_n 3, 1) := by decide +kernel
theorem dX7_takeNumber_25 : decode cX7_takeNumber 25 = .ok (.bipush 10, 2) := by decide +kernel
theorem dX7_takeNumber_27 : decode cX7_takeNumber 27 = .ok (.imul, 1) := by decide +kernel
theorem dX7_takeNumber_28 : decode cX7_takeNumber 28 = .ok (.aload_n 0, 1) := by decide +kernel
theorem dX7_takeNumber_29 : decode cX7_takeNumber 29 = .ok (.getfield 9, 3) := by decide +kernel
theorem dX7_takeNumber_32 : decode cX7_takeNumber 32 = .ok (.iload_n 2, 1) := by decide +kernel
theorem dX7_takeNumber_33 : decode cX7_takeNumber 33 = .ok (.caload, 1) := by decide +kernel
theorem dX7_takeNumber_34 : decode cX7_takeNumber 34 = .ok (.iadd, 1) := by decide +kernel
theorem dX7_takeNumber_35 : decode cX7_takeNumber 35 = .ok (.bipush 48, 2) := by decide +kernel
theorem dX7_takeNumber_37 : decode cX7_takeNumber 37 = .ok (.isub, 1) := by decide +kernel
theorem dX7_takeNumber_38 : decode cX7_takeNumber 38 = .ok (.istore_n 3, 1) := by decide +kernel
theorem dX7_takeNumber_39 : decode cX7_takeNumber 39 = .ok (.iinc 2 1, 3) := by decide +kernel
theorem dX7_takeNumber_42 : decode cX7_takeNumber 42 = .ok (.goto (-38), 3) := by decide +kernel
theorem dX7_takeNumber_45 : decode cX7_takeNumber 45 = .ok (.aload_n 0, 1) := by decide +kernel
theorem dX7_takeNumber_46 : decode cX7_takeNumber 46 = .ok (.iload_n 2, 1) := by decide +kernel
theorem dX7_takeNumber_47 : decode cX7_takeNumber 47 = .ok (.iload_n 1, 1) := by decide +kernel
theorem dX7_takeNumber_48 : decode cX7_takeNumber 48 = .ok (.isub, 1) := by decide +kernel
theorem dX7_takeNumber_49 : decode cX7_takeNumber 49 = .ok (.iconst 4, 1) := by decide +kernel
theorem dX7_takeNumber_50 : decode cX7_takeNumber 50 = .ok (.if_icmp .le 7, 3) := by decide +kernel
theorem dX7_takeNumber_53 : decode cX7_takeNumber 53 = .ok (.iconst 1, 1) := by decide +kernel
theorem dX7_takeNumber_54 : decode cX7_takeNumber 54 = .ok (.goto 4, 3) := by decide +kernel
theorem dX7_takeNumber_57 : decode cX7_takeNumber 57 = .ok (.iconst 2, 1) := by decide +kernel
theorem dX7_takeNumber_58 : decode cX7_takeNumber 58 = .ok (.iload_n 3, 1) := by decide +kernel
theorem dX7_takeNumber_59 : decode cX7_takeNumber 59 = .ok (.iload_n 1, 1) := by decide +kernel
theorem dX7_takeNumber_60 : decode cX7_takeNumber 60 = .ok (.invokevirtual 70, 3) := by decide +kernel
theorem dX7_takeNumber_63 : decode cX7_takeNumber 63 = .ok (.iload_n 2, 1) := by decide +kernel
theorem dX7_takeNumber_64 : decode cX7_takeNumber 64 = .ok (.ireturn, 1) := by decide +kernel
abbrev nd_X7_takeNumber : List Nat := [29, 30, 31, 32, 33]
abbrev ld_X7_takeNumber : List (Nat × Nat) := [(29, 0), (29, 1), (29, 2), (29, 3)]
theorem sn_X7_takeNumber_X7_addToken : ∀ c ∈ nd_X7_addToken, c ∈ nd_X7_takeNumber := by decide
theorem sl_X7_takeNumber_X7_addToken : ∀ q ∈ ld_X7_addToken, q ∈ ld_X7_takeNumber := by decide
theorem sn_X7_takeNumber_X7_isDigit : ∀ c ∈ nd_X7_isDigit, c ∈ nd_X7_takeNumber := by decide
theorem sl_X7_takeNumber_X7_isDigit : ∀ q ∈ ld_X7_isDigit, q ∈ ld_X7_takeNumber := by decide
def f_X7_takeNumber_58  (x1 : Int32) (x2 : Int32) (x3 : Int32) (s0 : Int32) (h : zH) : zR := (zbd (f_X7_addToken s0 x3 x1 h) fun r1 h2 => (some (x2, h2)))
def f_X7_takeNumber_45  (x1 : Int32) (x2 : Int32) (x3 : Int32) (h : zH) : zR := (if (x2 - x1) ≤ (4 : Int32) then (f_X7_takeNumber_58  x1 x2 x3 (2 : Int32) h) else (f_X7_takeNumber_58  x1 x2 x3 (1 : Int32) h))
def f_X7_takeNumber_4  : Nat → Int32 → Int32 → Int32 → zH → zR
  | 0 => fun _ _ _ _ => none
  | n + 1 => fun x1 x2 x3 h => (if (h 29 5) ≤ x2 then (f_X7_takeNumber_45  x1 x2 x3 h) else (zck x2 400 (zbd (f_X7_isDigit (h 30 (Int32.toNatClampNeg x2)) h) fun r3 h4 => (if r3 = 0 then (f_X7_takeNumber_45  x1 x2 x3 h4) else (zck x2 400 (zlt (((x3 * (10 : Int32)) + (h4 30 (Int32.toNatClampNeg x2))) - (48 : Int32)) fun y5 => (zlt (x2 + (1 : Int32)) fun y6 => (f_X7_takeNumber_4  n x1 y6 y5 h4))))))))
def f_X7_takeNumber  (x1 : Int32) (h : zH) : zR := (f_X7_takeNumber_4  zN x1 x1 (0 : Int32) h)
variable {p : Program} {l : Launch} {e : Env} {s : State} {m : MethodId} {args : Array Value} {below : List Frame} {meth : Method} {c : Code} {G : zG} {q : Int32 × zH}
set_option maxHeartbeats 4000000 in
set_option maxRecDepth 100000 in
theorem w_X7_takeNumber_58  (C : zC G p s m args meth c cX7_takeNumber 4 RX7 (some .int)) (hm : ∀ c ∈ nd_X7_takeNumber, c ∈ znm G) (hk : ∀ q ∈ ld_X7_takeNumber, zlk G q.1 q.2 = true)  : ∀ (ls : Array Slot) (H : Heap) (locs : List Loc) (h : zH) (x1 : Int32) (x2 : Int32) (x3 : Int32) (s0 : Int32), lv_has ls 4 [(1, .int x1), (2, .int x2), (3, .int x3)] → zS G h s.heap H locs → f_X7_takeNumber_58  x1 x2 x3 s0 h = some q → W p l e (zrm (3)) s m args below meth c H locs 0 0 (MQ below (zQI G q.2 q.1) args s 0 0 (zA G)) (F0 m 58 ls [.int s0, .ref (zal G 29)]) := by
  intro ls H locs h x1 x2 x3 s0 hl hS hf
  unfold f_X7_takeNumber_58 at hf
  refine lv_iload_n C.1 C.2.1 dX7_takeNumber_58 rfl (lv_at hl 2 rfl) ?_
  refine lv_iload_n C.1 C.2.1 dX7_takeNumber_59 rfl (lv_at hl 0 rfl) ?_
  obtain ⟨r1, h2, er1, hf⟩ := zbd_some hf
  refine zcallVV (As := [.int s0, .int x3, .int x1]) (rest := []) C hS mv_X7_70 (c_X7_addToken l G h s0 x3 x1 (r1, h2) (fun c h => hm c (sn_X7_takeNumber_X7_addToken c h)) (fun q h => hk q (sl_X7_takeNumber_X7_addToken q h)) er1) (hm 29 (by decide)) ⟨_, _, _, sh_29, rfl, rfl⟩ rfl rfl (Nat.le_of_ble_eq_true rfl) hl.1 ⟨Nat.le_of_ble_eq_true rfl, Nat.le_of_ble_eq_true rfl, Nat.le_of_ble_eq_true rfl, Nat.le_of_ble_eq_true rfl⟩ dX7_takeNumber_60 (fun H locs hS => ?_)
  refine lv_iload_n C.1 C.2.1 dX7_takeNumber_63 rfl (lv_at hl 1 rfl) ?_
  exact zretI C hS hf dX7_takeNumber_64
set_option maxHeartbeats 4000000 in
set_option maxRecDepth 100000 in
theorem w_X7_takeNumber_45  (C : zC G p s m args meth c cX7_takeNumber 4 RX7 (some .int)) (hm : ∀ c ∈ nd_X7_takeNumber, c ∈ znm G) (hk : ∀ q ∈ ld_X7_takeNumber, zlk G q.1 q.2 = true)  : ∀ (ls : Array Slot) (H : Heap) (locs : List Loc) (h : zH) (x1 : Int32) (x2 : Int32) (x3 : Int32), lv_has ls 4 [(0, .ref (zal G 29)), (1, .int x1), (2, .int x2), (3, .int x3)] → zS G h s.heap H locs → f_X7_takeNumber_45  x1 x2 x3 h = some q → W p l e (zrm (3)) s m args below meth c H locs 0 0 (MQ below (zQI G q.2 q.1) args s 0 0 (zA G)) (F0 m 45 ls []) := by
  intro ls H locs h x1 x2 x3 hl hS hf
  unfold f_X7_takeNumber_45 at hf
  refine lv_aload_n C.1 C.2.1 dX7_takeNumber_45 rfl (lv_at hl 0 rfl) ?_
  refine lv_iload_n C.1 C.2.1 dX7_takeNumber_46 rfl (lv_at hl 2 rfl) ?_
  refine lv_iload_n C.1 C.2.1 dX7_takeNumber_47 rfl (lv_at hl 1 rfl) ?_
  refine lv_isub C.1 C.2.1 dX7_takeNumber_48 ?_
  refine lv_iconst (v := (4 : Int32)) C.1 C.2.1 dX7_takeNumber_49 rfl ?_
  refine lv_icmp_le (tgt := 57) C.1 C.2.1 dX7_takeNumber_50 (by decide) (fun hc => ?_) (fun hc => ?_)
  · have hf := zif_t hc hf
    refine lv_iconst (v := (2 : Int32)) C.1 C.2.1 dX7_takeNumber_57 rfl ?_
    exact w_X7_takeNumber_58 C hm hk  _ _ _ _ _ _ _ _ (lv_sub hl [1, 2, 3] rfl) hS hf
  · have hf := zif_f hc hf
    refine lv_iconst (v := (1 : Int32)) C.1 C.2.1 dX7_takeNumber_53 rfl ?_
    refine lv_goto (tgt := 58) C.1 C.2.1 dX7_takeNumber_54 (by decide) ?_
    exact w_X7_takeNumber_58 C hm hk  _ _ _ _ _ _ _ _ (lv_sub hl [1, 2, 3] rfl) hS hf
set_option maxHeartbeats 4000000 in
set_option maxRecDepth 100000 in
theorem w_X7_takeNumber_4  (C : zC G p s m args meth c cX7_takeNumber 4 RX7 (some .int)) (hm : ∀ c ∈ nd_X7_takeNumber, c ∈ znm G) (hk : ∀ q ∈ ld_X7_takeNumber, zlk G q.1 q.2 = true)  : ∀ n, ∀ (ls : Array Slot) (H : Heap) (locs : List Loc) (h : zH) (x1 : Int32) (x2 : Int32) (x3 : Int32), lv_has ls 4 [(0, .ref (zal G 29)), (1, .int x1), (2, .int x2), (3, .int x3)] → zS G h s.heap H locs → f_X7_takeNumber_4  n x1 x2 x3 h = some q → W p l e (zrm (3)) s m args below meth c H locs 0 0 (MQ below (zQI G q.2 q.1) args s 0 0 (zA G)) (F0 m 4 ls []) := by
  intro n
  induction n with
  | zero => intro ls H locs h x1 x2 x3 hl hS hf; cases hf
  | succ n ih =>
    intro ls H locs h x1 x2 x3 hl hS hf
    rw [f_X7_takeNumber_4] at hf
    refine lv_iload_n C.1 C.2.1 dX7_takeNumber_4 rfl (lv_at hl 2 rfl) ?_
    refine lv_aload_n C.1 C.2.1 dX7_takeNumber_5 rfl (lv_at hl 0 rfl) ?_
    refine zgetI C hS ff_X7_36_29 (hm 29 (by decide)) dX7_takeNumber_6 ?_
    refine lv_icmp_ge (tgt := 45) C.1 C.2.1 dX7_takeNumber_9 (by decide) (fun hc => ?_) (fun hc => ?_)
    · have hf := zif_t hc hf
      exact w_X7_takeNumber_45 C hm hk  _ _ _ _ _ _ _ (lv_sub hl [0, 1, 2, 3] rfl) hS hf
    · have hf := zif_f hc hf
      refine lv_aload_n C.1 C.2.1 dX7_takeNumber_12 rfl (lv_at hl 0 rfl) ?_
      refine zgetR C hS ff_X7_9_29 (hm 29 (by decide)) (hk (29, 0) (by decide)) dX7_takeNumber_13 ?_
      refine lv_iload_n C.1 C.2.1 dX7_takeNumber_16 rfl (lv_at hl 2 rfl) ?_
      obtain ⟨hi, hf⟩ := zck_some hf
      refine zaldC C hS sh_30 (hm 30 (by decide)) hi dX7_takeNumber_17 ?_
      obtain ⟨r3, h4, er3, hf⟩ := zbd_some hf
      refine zcallSI (As := [.int (h 30 (Int32.toNatClampNeg x2))]) (rest := []) C hS ms_X7_81 (c_X7_isDigit l G h (h 30 (Int32.toNatClampNeg x2)) (r3, h4) (fun c h => hm c (sn_X7_takeNumber_X7_isDigit c h)) (fun q h => hk q (sl_X7_takeNumber_X7_isDigit q h)) er3) rfl rfl (Nat.le_of_ble_eq_true rfl) hl.1 ⟨Nat.le_of_ble_eq_true rfl, Nat.le_of_ble_eq_true rfl, Nat.le_of_ble_eq_true rfl, Nat.le_of_ble_eq_true rfl⟩ dX7_takeNumber_18 (fun H locs hS => ?_)
      refine lv_if_eq (tgt := 45) C.1 C.2.1 dX7_takeNumber_21 (by decide) (fun hc => ?_) (fun hc => ?_)
      · have hf := zif_t hc hf
        exact w_X7_takeNumber_45 C hm hk  _ _ _ _ _ _ _ (lv_sub hl [0, 1, 2, 3] rfl) hS hf
      · have hf := zif_f hc hf
        refine lv_iload_n C.1 C.2.1 dX7_takeNumber_24 rfl (lv_at hl 3 rfl) ?_
        refine lv_bipush (v := (10 : Int32)) C.1 C.2.1 dX7_takeNumber_25 rfl ?_
        refine lv_imul C.1 C.2.1 dX7_takeNumber_27 ?_
        refine lv_aload_n C.1 C.2.1 dX7_takeNumber_28 rfl (lv_at hl 0 rfl) ?_
        refine zgetR C hS ff_X7_9_29 (hm 29 (by decide)) (hk (29, 0) (by decide)) dX7_takeNumber_29 ?_
        refine lv_iload_n C.1 C.2.1 dX7_takeNumber_32 rfl (lv_at hl 2 rfl) ?_
        obtain ⟨hi, hf⟩ := zck_some hf
        refine zaldC C hS sh_30 (hm 30 (by decide)) hi dX7_takeNumber_33 ?_
        refine lv_iadd C.1 C.2.1 dX7_takeNumber_34 ?_
        refine lv_bipush (v := (48 : Int32)) C.1 C.2.1 dX7_takeNumber_35 rfl ?_
        refine lv_isub C.1 C.2.1 dX7_takeNumber_37 ?_
        obtain ⟨y5, ey5, hf⟩ := zlt_some hf
        refine ztop ey5 ?_
        refine lv_istore_n (lv' := [(3, .int y5), (0, .ref (zal G 29)), (1, .int x1), (2, .int x2)]) C.1 C.2.1 dX7_takeNumber_38 rfl hl (by decide) rfl (fun ls hl => ?_)
        obtain ⟨y6, ey6, hf⟩ := zlt_some hf
        refine lv_iinc (v := y6) (lv' := [(2, .int y6), (3, .int y5), (0, .ref (zal G 29)), (1, .int x1)]) C.1 C.2.1 dX7_takeNumber_39 hl (k := 3) rfl ey6.symm (by decide) rfl (fun ls hl => ?_)
        refine lv_goto (tgt := 4) C.1 C.2.1 dX7_takeNumber_42 (by decide) ?_
        exact ih _ _ _ _ _ _ _ (lv_sub hl [2, 3, 0, 1] rfl) hS hf
set_option maxHeartbeats 4000000 in
set_option maxRecDepth 100000 in
theorem c_X7_takeNumber (l : Launch) (G : zG) (h : zH) (x1 : Int32) (q : Int32 × zH) (hm : ∀ c ∈ nd_X7_takeNumber, c ∈ znm G) (hk : ∀ q ∈ ld_X7_takeNumber, zlk G q.1 q.2 = true) (hf : f_X7_takeNumber x1 h = some q) : zCtI l yX7_takeNumber cX7_takeNumber 4 (some .int) (3) [.ref (zal G 29), .int x1] G h q.2 q.1 := by
  refine zMetI (by decide) (Nat.le_of_ble_eq_true rfl) ?_
  intro p e s m below meth c ls C hl hS
  have hl : lv_has ls 4 [(0, .ref (zal G 29)), (1, .int x1)] := hl
  have C : zC G p s m [.ref (zal G 29), .int x1].toArray meth c cX7_takeNumber 4 RX7 (some .int) := C
  unfold f_X7_takeNumber at hf
  refine lv_iload_n C.1 C.2.1 dX7_takeNumber_0 rfl (lv_at hl 1 rfl) ?_
  refine lv_istore_n (lv' := [(2, .int x1), (0, .ref (zal G 29)), (1, .int x1)]) C.1 C.2.1 dX7_takeNumber_1 rfl hl (by decide) rfl (fun ls hl => ?_)
  refine lv_iconst (v := (0 : Int32)) C.1 C.2.1 dX7_takeNumber_2 rfl ?_
  refine lv_istore_n (lv' := [(3, .int (0 : Int32)), (2, .int x1), (0, .ref (zal G 29)), (1, .int x1)]) C.1 C.2.1 dX7_takeNumber_3 rfl hl (by decide) rfl (fun ls hl => ?_)
  exact w_X7_takeNumber_4 C hm hk  zN _ _ _ _ _ _ _ (lv_sub hl [2, 3, 1, 0] rfl) hS hf
end
section
theorem dJ1_charAt_3b067_0 : decode cJ1_charAt_3b067 0 = .ok (.iload_n 1, 1) := by decide +kernel
theorem dJ1_charAt_3b067_1 : decode cJ1_charAt_3b067 1 = .ok (.aload_n 0, 1) := by decide +kernel
theorem dJ1_charAt_3b067_2 : decode cJ1_charAt_3b067 2 = .ok (.arraylength, 1) := by decide +kernel
theorem dJ1_charAt_3b067_3 : decode cJ1_charAt_3b067 3 = .ok (.invokestatic 9, 3) := by decide +kernel
theorem dJ1_charAt_3b067_6 : decode cJ1_charAt_3b067 6 = .ok (.aload_n 0, 1) := by decide +kernel
theorem dJ1_charAt_3b067_7 : decode cJ1_charAt_3b067 7 = .ok (.iload_n 1, 1) := by decide +kernel
theorem dJ1_charAt_3b067_8 : decode cJ1_charAt_3b067 8 = .ok (.baload, 1) := by decide +kernel
theorem dJ1_charAt_3b067_9 : decode cJ1_charAt_3b067 9 = .ok (.sipush 255, 3) := by decide +kernel
theorem dJ1_charAt_3b067_12 : decode cJ1_charAt_3b067 12 = .ok (.iand, 1) := by decide +kernel
theorem dJ1_charAt_3b067_13 : decode cJ1_charAt_3b067 13 = .ok (.i2c, 1) := by decide +kernel
theorem dJ1_charAt_3b067_14 : decode cJ1_charAt_3b067 14 = .ok (.ireturn, 1) := by decide +kernel
abbrev nd_J1_charAt_3b067 : List Nat := []
abbrev ld_J1_charAt_3b067 : List (Nat × Nat) := []
theorem sn_J1_charAt_3b067_J0_checkIndex_df160 : ∀ c ∈ nd_J0_checkIndex_df160, c ∈ nd_J1_charAt_3b067 := by decide
theorem sl_J1_charAt_3b067_J0_checkIndex_df160 : ∀ q ∈ ld_J0_checkIndex_df160, q ∈ ld_J1_charAt_3b067 := by decide
def f_J1_charAt_3b067  (i0 : Nat) (x1 : Int32) (h : zH) : zR := (zbd (f_J0_checkIndex_df160 x1 (Int32.ofNat (zlen.getD i0 0)) h) fun r1 h2 => (zck x1 (zlen.getD i0 0) (some ((Int32.toUInt32 (((zbyt.getD i0 []).getD (Int32.toNatClampNeg x1) 0) &&& (255 : Int32)) % 65536).toInt32, h2))))
variable {p : Program} {l : Launch} {e : Env} {s : State} {m : MethodId} {args : Array Value} {below : List Frame} {meth : Method} {c : Code} {G : zG} {q : Int32 × zH}
set_option maxHeartbeats 4000000 in
set_option maxRecDepth 100000 in
theorem c_J1_charAt_3b067 (l : Launch) (G : zG) (h : zH) (i0 : Nat) (x1 : Int32) (q : Int32 × zH) (hi_i0 : i0 < znS) (hm : ∀ c ∈ nd_J1_charAt_3b067, c ∈ znm G) (hk : ∀ q ∈ ld_J1_charAt_3b067, zlk G q.1 q.2 = true) (hf : f_J1_charAt_3b067 i0 x1 h = some q) : zCtI l yJ1_charAt_3b067 cJ1_charAt_3b067 2 (some .char) (4) [.ref (zaV G i0), .int x1] G h q.2 q.1 := by
  refine zMetI (by decide) (Nat.le_of_ble_eq_true rfl) ?_
  intro p e s m below meth c ls C hl hS
  have hl : lv_has ls 2 [(0, .ref (zaV G i0)), (1, .int x1)] := hl
  have C : zC G p s m [.ref (zaV G i0), .int x1].toArray meth c cJ1_charAt_3b067 2 RJ1 (some .char) := C
  unfold f_J1_charAt_3b067 at hf
  refine lv_iload_n C.1 C.2.1 dJ1_charAt_3b067_0 rfl (lv_at hl 1 rfl) ?_
  refine lv_aload_n C.1 C.2.1 dJ1_charAt_3b067_1 rfl (lv_at hl 0 rfl) ?_
  refine zblen (i := i0) C hS hi_i0 dJ1_charAt_3b067_2 ?_
  obtain ⟨r1, h2, er1, hf⟩ := zbd_some hf
  refine zcallSV (As := [.int x1, .int (Int32.ofNat (zlen.getD i0 0))]) (rest := []) C hS ms_J1_9 (c_J0_checkIndex_df160 l G h x1 (Int32.ofNat (zlen.getD i0 0)) (r1, h2) (fun c h => hm c (sn_J1_charAt_3b067_J0_checkIndex_df160 c h)) (fun q h => hk q (sl_J1_charAt_3b067_J0_checkIndex_df160 q h)) er1) rfl rfl (Nat.le_of_ble_eq_true rfl) hl.1 ⟨Nat.le_of_ble_eq_true rfl, Nat.le_of_ble_eq_true rfl, Nat.le_of_ble_eq_true rfl, Nat.le_of_ble_eq_true rfl⟩ dJ1_charAt_3b067_3 (fun H locs hS => ?_)
  refine lv_aload_n C.1 C.2.1 dJ1_charAt_3b067_6 rfl (lv_at hl 0 rfl) ?_
  refine lv_iload_n C.1 C.2.1 dJ1_charAt_3b067_7 rfl (lv_at hl 1 rfl) ?_
  obtain ⟨hi, hf⟩ := zck_some hf
  refine zbald (i := i0) C hS hi_i0 hi dJ1_charAt_3b067_8 ?_
  refine lv_sipush (v := (255 : Int32)) C.1 C.2.1 dJ1_charAt_3b067_9 rfl ?_
  refine lv_iand C.1 C.2.1 dJ1_charAt_3b067_12 ?_
  refine lv_i2c C.1 C.2.1 dJ1_charAt_3b067_13 rfl ?_
  exact zretN C hS (pk_nc _) hf dJ1_charAt_3b067_14
end
section
theorem dJ0_charAt_5068e_0 : decode cJ0_charAt_5068e 0 = .ok (.aload_n 0, 1) := by decide +kernel
theorem dJ0_charAt_5068e_1 : decode cJ0_charAt_5068e 1 = .ok (.invokevirtual 492, 3) := by decide +kernel
theorem dJ0_charAt_5068e_4 : decode cJ0_charAt_5068e 4 = .ok (.ifCond .eq 12, 3) := by decide +kernel
theorem dJ0_charAt_5068e_7 : decode cJ0_charAt_5068e 7 = .ok (.aload_n 0, 1) := by decide +kernel
theorem dJ0_charAt_5068e_8 : decode cJ0_charAt_5068e 8 = .ok (.getfield 9, 3) := by decide +kernel
theorem dJ0_charAt_5068e_11 : decode cJ0_charAt_5068e 11 = .ok (.iload_n 1, 1) := by decide +kernel
theorem dJ0_charAt_5068e_12 : decode cJ0_charAt_5068e 12 = .ok (.invokestatic 495, 3) := by decide +kernel
theorem dJ0_charAt_5068e_15 : decode cJ0_charAt_5068e 15 = .ok (.ireturn, 1) := by decide +kernel
theorem dJ0_charAt_5068e_16 : decode cJ0_charAt_5068e 16 = .ok (.aload_n 0, 1) := by decide +kernel
theorem dJ0_charAt_5068e_17 : decode cJ0_charAt_5068e 17 = .ok (.getfield 9, 3) := by decide +kernel
theorem dJ0_charAt_5068e_20 : decode cJ0_charAt_5068e 20 = .ok (.iload_n 1, 1) := by decide +kernel
abbrev nd_J0_charAt_5068e : List Nat := []
abbrev ld_J0_charAt_5068e : List (Nat × Nat) := []
theorem sn_J0_charAt_5068e_J0_isLatin1_aae02 : ∀ c ∈ nd_J0_isLatin1_aae02, c ∈ nd_J0_charAt_5068e := by decide
theorem sl_J0_charAt_5068e_J0_isLatin1_aae02 : ∀ q ∈ ld_J0_isLatin1_aae02, q ∈ ld_J0_charAt_5068e := by decide
theorem sn_J0_charAt_5068e_J1_charAt_3b067 : ∀ c ∈ nd_J1_charAt_3b067, c ∈ nd_J0_charAt_5068e := by decide
theorem sl_J0_charAt_5068e_J1_charAt_3b067 : ∀ q ∈ ld_J1_charAt_3b067, q ∈ ld_J0_charAt_5068e := by decide
def f_J0_charAt_5068e  (i0 : Nat) (x1 : Int32) (h : zH) : zR := (zbd (f_J0_isLatin1_aae02 i0 h) fun r1 h2 => (if r1 = 0 then none else (zbd (f_J1_charAt_3b067 i0 x1 h2) fun r3 h4 => (zch r3 (some (r3, h4))))))
variable {p : Program} {l : Launch} {e : Env} {s : State} {m : MethodId} {args : Array Value} {below : List Frame} {meth : Method} {c : Code} {G : zG} {q : Int32 × zH}
set_option maxHeartbeats 4000000 in
set_option maxRecDepth 100000 in
theorem c_J0_charAt_5068e (l : Launch) (G : zG) (h : zH) (i0 : Nat) (x1 : Int32) (q : Int32 × zH) (hi_i0 : i0 < znS) (hm : ∀ c ∈ nd_J0_charAt_5068e, c ∈ znm G) (hk : ∀ q ∈ ld_J0_charAt_5068e, zlk G q.1 q.2 = true) (hf : f_J0_charAt_5068e i0 x1 h = some q) : zCtI l yJ0_charAt_5068e cJ0_charAt_5068e 2 (some .char) (5) [.ref (zaK G i0), .int x1] G h q.2 q.1 := by
  refine zMetI (by decide) (Nat.le_of_ble_eq_true rfl) ?_
  intro p e s m below meth c ls C hl hS
  have hl : lv_has ls 2 [(0, .ref (zaK G i0)), (1, .int x1)] := hl
  have C : zC G p s m [.ref (zaK G i0), .int x1].toArray meth c cJ0_charAt_5068e 2 RJ0 (some .char) := C
  unfold f_J0_charAt_5068e at hf
  refine lv_aload_n C.1 C.2.1 dJ0_charAt_5068e_0 rfl (lv_at hl 0 rfl) ?_
  obtain ⟨r1, h2, er1, hf⟩ := zbd_some hf
  refine zcallTI (i := i0) (As := []) (rest := []) C hS mv_J0_492 (c_J0_isLatin1_aae02 l G h i0 (r1, h2) hi_i0 (fun c h => hm c (sn_J0_charAt_5068e_J0_isLatin1_aae02 c h)) (fun q h => hk q (sl_J0_charAt_5068e_J0_isLatin1_aae02 q h)) er1) hi_i0 rfl rfl rfl (Nat.le_of_ble_eq_true rfl) hl.1 ⟨Nat.le_of_ble_eq_true rfl, Nat.le_of_ble_eq_true rfl, Nat.le_of_ble_eq_true rfl, Nat.le_of_ble_eq_true rfl⟩ dJ0_charAt_5068e_1 (fun H locs hS => ?_)
  refine lv_if_eq (tgt := 16) C.1 C.2.1 dJ0_charAt_5068e_4 (by decide) (fun hc => ?_) (fun hc => ?_)
  · have hf := zif_t hc hf
    refine lv_aload_n C.1 C.2.1 dJ0_charAt_5068e_16 rfl (lv_at hl 0 rfl) ?_
    refine zstrV (i := i0) C hS hi_i0 kw_1621 dJ0_charAt_5068e_17 ?_
    refine lv_iload_n C.1 C.2.1 dJ0_charAt_5068e_20 rfl (lv_at hl 1 rfl) ?_
    cases hf
  · have hf := zif_f hc hf
    refine lv_aload_n C.1 C.2.1 dJ0_charAt_5068e_7 rfl (lv_at hl 0 rfl) ?_
    refine zstrV (i := i0) C hS hi_i0 kw_1621 dJ0_charAt_5068e_8 ?_
    refine lv_iload_n C.1 C.2.1 dJ0_charAt_5068e_11 rfl (lv_at hl 1 rfl) ?_
    obtain ⟨r3, h4, er3, hf⟩ := zbd_some hf
    refine zcallSI (As := [.ref (zaV G i0), .int x1]) (rest := []) C hS ms_J0_495 (c_J1_charAt_3b067 l G h2 i0 x1 (r3, h4) hi_i0 (fun c h => hm c (sn_J0_charAt_5068e_J1_charAt_3b067 c h)) (fun q h => hk q (sl_J0_charAt_5068e_J1_charAt_3b067 q h)) er3) rfl rfl (Nat.le_of_ble_eq_true rfl) hl.1 ⟨Nat.le_of_ble_eq_true rfl, Nat.le_of_ble_eq_true rfl, Nat.le_of_ble_eq_true rfl, Nat.le_of_ble_eq_true rfl⟩ dJ0_charAt_5068e_12 (fun H locs hS => ?_)
    obtain ⟨hb, hf⟩ := zch_some hf
    exact zretN C hS hb hf dJ0_charAt_5068e_15
end
section
theorem dX7_isWord_0 : decode cX7_isWord 0 = .ok (.iload_n 3, 1) := by decide +kernel
theorem dX7_isWord_1 : decode cX7_isWord 1 = .ok (.iload_n 2, 1) := by decide +kernel
theorem dX7_isWord_2 : decode cX7_isWord 2 = .ok (.isub, 1) := by decide +kernel
theorem dX7_isWord_3 : decode cX7_isWord 3 = .ok (.iconst 5, 1) := by decide +kernel
theorem dX7_isWord_4 : decode cX7_isWord 4 = .ok (.if_icmp .le 5, 3) := by decide +kernel
theorem dX7_isWord_7 : decode cX7_isWord 7 = .ok (.iconst 0, 1) := by decide +kernel
theorem dX7_isWord_8 : decode cX7_isWord 8 = .ok (.ireturn, 1) := by decide +kernel
theorem dX7_isWord_9 : decode cX7_isWord 9 = .ok (.iconst 0, 1) := by decide +kernel
theorem dX7_isWord_10 : decode cX7_isWord 10 = .ok (.istore 4, 2) := by decide +kernel
theorem dX7_isWord_12 : decode cX7_isWord 12 = .ok (.iload 4, 2) := by decide +kernel
theorem dX7_isWord_14 : decode cX7_isWord 14 = .ok (.iconst 5, 1) := by decide +kernel
theorem dX7_isWord_15 : decode cX7_isWord 15 = .ok (.if_icmp .ge 51, 3) := by decide +kernel
theorem dX7_isWord_18 : decode cX7_isWord 18 = .ok (.iload_n 2, 1) := by decide +kernel
theorem dX7_isWord_19 : decode cX7_isWord 19 = .ok (.iload 4, 2) := by decide +kernel
theorem dX7_isWord_21 : decode cX7_isWord 21 = .ok (.iadd, 1) := by decide +kernel
theorem dX7_isWord_22 : decode cX7_isWord 22 = .ok (.iload_n 3, 1) := by decide +kernel
theorem dX7_isWord_23 : decode cX7_isWord 23 = .ok (.if_icmp .ge 15, 3) := by decide +kernel
theorem dX7_isWord_26 : decode cX7_isWord 26 = .ok (.aload_n 0, 1) := by decide +kernel
theorem dX7_isWord_27 : decode cX7_isWord 27 = .ok (.getfield 9, 3) := by decide +kernel
theorem dX7_isWord_30 : decode cX7_isWord 30 = .ok (.iload_n 2, 1) := by decide +kernel
theorem dX7_isWord_31 : decode cX7_isWord 31 = .ok (.iload 4, 2) := by decide +kernel
theorem dX7_isWord_33 : decode cX7_isWord 33 = .ok (.iadd, 1) := by decide +kernel
theorem dX7_isWord_34 : decode cX7_isWord 34 = .ok (.caload, 1) := by decide +kernel
theorem dX7_isWord_35 : decode cX7_isWord 35 = .ok (.goto 5, 3) := by decide +kernel
theorem dX7_isWord_38 : decode cX7_isWord 38 = .ok (.bipush 32, 2) := by decide +kernel
theorem dX7_isWord_40 : decode cX7_isWord 40 = .ok (.istore 5, 2) := by decide +kernel
theorem dX7_isWord_42 : decode cX7_isWord 42 = .ok (.iload 5, 2) := by decide +kernel
theorem dX7_isWord_44 : decode cX7_isWord 44 = .ok (.ldc 98, 2) := by decide +kernel
theorem dX7_isWord_46 : decode cX7_isWord 46 = .ok (.iload_n 1, 1) := by decide +kernel
theorem dX7_isWord_47 : decode cX7_isWord 47 = .ok (.iconst 5, 1) := by decide +kernel
theorem dX7_isWord_48 : decode cX7_isWord 48 = .ok (.imul, 1) := by decide +kernel
theorem dX7_isWord_49 : decode cX7_isWord 49 = .ok (.iload 4, 2) := by decide +kernel
theorem dX7_isWord_51 : decode cX7_isWord 51 = .ok (.iadd, 1) := by decide +kernel
theorem dX7_isWord_52 : decode cX7_isWord 52 = .ok (.invokevirtual 100, 3) := by decide +kernel
theorem dX7_isWord_55 : decode cX7_isWord 55 = .ok (.if_icmp .eq 5, 3) := by decide +kernel
theorem dX7_isWord_58 : decode cX7_isWord 58 = .ok (.iconst 0, 1) := by decide +kernel
theorem dX7_isWord_59 : decode cX7_isWord 59 = .ok (.ireturn, 1) := by decide +kernel
theorem dX7_isWord_60 : decode cX7_isWord 60 = .ok (.iinc 4 1, 3) := by decide +kernel
theorem dX7_isWord_63 : decode cX7_isWord 63 = .ok (.goto (-51), 3) := by decide +kernel
theorem dX7_isWord_66 : decode cX7_isWord 66 = .ok (.iconst 1, 1) := by decide +kernel
theorem dX7_isWord_67 : decode cX7_isWord 67 = .ok (.ireturn, 1) := by decide +kernel
abbrev nd_X7_isWord : List Nat := [29, 30]
abbrev ld_X7_isWord : List (Nat × Nat) := [(29, 0)]
theorem sn_X7_isWord_J0_charAt_5068e : ∀ c ∈ nd_J0_charAt_5068e, c ∈ nd_X7_isWord := by decide
theorem sl_X7_isWord_J0_charAt_5068e : ∀ q ∈ ld_J0_charAt_5068e, q ∈ ld_X7_isWord := by decide
def f_X7_isWord_40 (k12 : Int32 → Int32 → Int32 → Int32 → zH → zR) (x1 : Int32) (x2 : Int32) (x3 : Int32) (x4 : Int32) (s0 : Int32) (h : zH) : zR := (zbd (f_J0_charAt_5068e 0 ((x1 * (5 : Int32)) + x4) h) fun r1 h2 => (if s0 = r1 then (zlt (x4 + (1 : Int32)) fun y3 => (k12 x1 x2 x3 y3 h2)) else (some ((0 : Int32), h2))))
def f_X7_isWord_12  : Nat → Int32 → Int32 → Int32 → Int32 → zH → zR
  | 0 => fun _ _ _ _ _ => none
  | n + 1 => fun x1 x2 x3 x4 h => (if (5 : Int32) ≤ x4 then (some ((1 : Int32), h)) else (if x3 ≤ (x2 + x4) then (f_X7_isWord_40 (f_X7_isWord_12  n) x1 x2 x3 x4 (32 : Int32) h) else (zck (x2 + x4) 400 (f_X7_isWord_40 (f_X7_isWord_12  n) x1 x2 x3 x4 (h 30 (Int32.toNatClampNeg (x2 + x4))) h))))
def f_X7_isWord  (x1 : Int32) (x2 : Int32) (x3 : Int32) (h : zH) : zR := (if (x3 - x2) ≤ (5 : Int32) then (f_X7_isWord_12  zN x1 x2 x3 (0 : Int32) h) else (some ((0 : Int32), h)))
variable {p : Program} {l : Launch} {e : Env} {s : State} {m : MethodId} {args : Array Value} {below : List Frame} {meth : Method} {c : Code} {G : zG} {q : Int32 × zH}
set_option maxHeartbeats 4000000 in
set_option maxRecDepth 100000 in
theorem w_X7_isWord_40 {k12 : Int32 → Int32 → Int32 → Int32 → zH → zR} (C : zC G p s m args meth c cX7_isWord 6 RX7 (some .boolean)) (hm : ∀ c ∈ nd_X7_isWord, c ∈ znm G) (hk : ∀ q ∈ ld_X7_isWord, zlk G q.1 q.2 = true) (hk12 : ∀ (ls : Array Slot) (H : Heap) (locs : List Loc) (h : zH) (x1 : Int32) (x2 : Int32) (x3 : Int32) (x4 : Int32), lv_has ls 6 [(0, .ref (zal G 29)), (1, .int x1), (2, .int x2), (3, .int x3), (4, .int x4)] → zS G h s.heap H locs → k12 x1 x2 x3 x4 h = some q → W p l e (zrm (6)) s m args below meth c H locs 0 0 (MQ below (zQI G q.2 q.1) args s 0 0 (zA G)) (F0 m 12 ls [])) : ∀ (ls : Array Slot) (H : Heap) (locs : List Loc) (h : zH) (x1 : Int32) (x2 : Int32) (x3 : Int32) (x4 : Int32) (s0 : Int32), lv_has ls 6 [(0, .ref (zal G 29)), (1, .int x1), (2, .int x2), (3, .int x3), (4, .int x4)] → zS G h s.heap H locs → f_X7_isWord_40 k12 x1 x2 x3 x4 s0 h = some q → W p l e (zrm (6)) s m args below meth c H locs 0 0 (MQ below (zQI G q.2 q.1) args s 0 0 (zA G)) (F0 m 40 ls [.int s0]) := by
  intro ls H locs h x1 x2 x3 x4 s0 hl hS hf
  unfold f_X7_isWord_40 at hf
  refine lv_istore (lv' := [(5, .int s0), (0, .ref (zal G 29)), (1, .int x1), (2, .int x2), (3, .int x3), (4, .int x4)]) C.1 C.2.1 dX7_isWord_40 hl (by decide) rfl (fun ls hl => ?_)
  refine lv_iload C.1 C.2.1 dX7_isWord_42 (lv_at hl 0 rfl) ?_
  refine zldcS (i := 0) (tx := "laughwhen or   and  not  frontend  same told sincenightjoke ") C (by decide) dX7_isWord_44 ?_
  refine lv_iload_n C.1 C.2.1 dX7_isWord_46 rfl (lv_at hl 2 rfl) ?_
  refine lv_iconst (v := (5 : Int32)) C.1 C.2.1 dX7_isWord_47 rfl ?_
  refine lv_imul C.1 C.2.1 dX7_isWord_48 ?_
  refine lv_iload C.1 C.2.1 dX7_isWord_49 (lv_at hl 5 rfl) ?_
  refine lv_iadd C.1 C.2.1 dX7_isWord_51 ?_
  obtain ⟨r1, h2, er1, hf⟩ := zbd_some hf
  refine zcallTI (i := 0) (As := [.int ((x1 * (5 : Int32)) + x4)]) (rest := [.int s0]) C hS mv_X7_100 (c_J0_charAt_5068e l G h 0 ((x1 * (5 : Int32)) + x4) (r1, h2) (by decide) (fun c h => hm c (sn_X7_isWord_J0_charAt_5068e c h)) (fun q h => hk q (sl_X7_isWord_J0_charAt_5068e q h)) er1) (by decide) rfl rfl rfl (Nat.le_of_ble_eq_true rfl) hl.1 ⟨Nat.le_of_ble_eq_true rfl, Nat.le_of_ble_eq_true rfl, Nat.le_of_ble_eq_true rfl, Nat.le_of_ble_eq_true rfl⟩ dX7_isWord_52 (fun H locs hS => ?_)
  refine lv_icmp_eq (tgt := 60) C.1 C.2.1 dX7_isWord_55 (by decide) (fun hc => ?_) (fun hc => ?_)
  · have hf := zif_t hc hf
    obtain ⟨y3, ey3, hf⟩ := zlt_some hf
    refine lv_iinc (v := y3) (lv' := [(4, .int y3), (5, .int s0), (0, .ref (zal G 29)), (1, .int x1), (2, .int x2), (3, .int x3)]) C.1 C.2.1 dX7_isWord_60 hl (k := 5) rfl ey3.symm (by decide) rfl (fun ls hl => ?_)
    refine lv_goto (tgt := 12) C.1 C.2.1 dX7_isWord_63 (by decide) ?_
    exact hk12 _ _ _ _ _ _ _ _ (lv_sub hl [2, 3, 4, 5, 0] rfl) hS hf
  · have hf := zif_f hc hf
    refine lv_iconst (v := (0 : Int32)) C.1 C.2.1 dX7_isWord_58 rfl ?_
    exact zretZ C hS rfl hf dX7_isWord_59
set_option maxHeartbeats 4000000 in
set_option maxRecDepth 100000 in
theorem w_X7_isWord_12  (C : zC G p s m args meth c cX7_isWord 6 RX7 (some .boolean)) (hm : ∀ c ∈ nd_X7_isWord, c ∈ znm G) (hk : ∀ q ∈ ld_X7_isWord, zlk G q.1 q.2 = true)  : ∀ n, ∀ (ls : Array Slot) (H : Heap) (locs : List Loc) (h : zH) (x1 : Int32) (x2 : Int32) (x3 : Int32) (x4 : Int32), lv_has ls 6 [(0, .ref (zal G 29)), (1, .int x1), (2, .int x2), (3, .int x3), (4, .int x4)] → zS G h s.heap H locs → f_X7_isWord_12  n x1 x2 x3 x4 h = some q → W p l e (zrm (6)) s m args below meth c H locs 0 0 (MQ below (zQI G q.2 q.1) args s 0 0 (zA G)) (F0 m 12 ls []) := by
  intro n
  induction n with
  | zero => intro ls H locs h x1 x2 x3 x4 hl hS hf; cases hf
  | succ n ih =>
    intro ls H locs h x1 x2 x3 x4 hl hS hf
    rw [f_X7_isWord_12] at hf
    refine lv_iload C.1 C.2.1 dX7_isWord_12 (lv_at hl 4 rfl) ?_
    refine lv_iconst (v := (5 : Int32)) C.1 C.2.1 dX7_isWord_14 rfl ?_
    refine lv_icmp_ge (tgt := 66) C.1 C.2.1 dX7_isWord_15 (by decide) (fun hc => ?_) (fun hc => ?_)
    · have hf := zif_t hc hf
      refine lv_iconst (v := (1 : Int32)) C.1 C.2.1 dX7_isWord_66 rfl ?_
      exact zretZ C hS rfl hf dX7_isWord_67
    · have hf := zif_f hc hf
      refine lv_iload_n C.1 C.2.1 dX7_isWord_18 rfl (lv_at hl 2 rfl) ?_
      refine lv_iload C.1 C.2.1 dX7_isWord_19 (lv_at hl 4 rfl) ?_
      refine lv_iadd C.1 C.2.1 dX7_isWord_21 ?_
      refine lv_iload_n C.1 C.2.1 dX7_isWord_22 rfl (lv_at hl 3 rfl) ?_
      refine lv_icmp_ge (tgt := 38) C.1 C.2.1 dX7_isWord_23 (by decide) (fun hc => ?_) (fun hc => ?_)
      · have hf := zif_t hc hf
        refine lv_bipush (v := (32 : Int32)) C.1 C.2.1 dX7_isWord_38 rfl ?_
        exact w_X7_isWord_40 C hm hk ih _ _ _ _ _ _ _ _ _ (lv_sub hl [0, 1, 2, 3, 4] rfl) hS hf
      · have hf := zif_f hc hf
        refine lv_aload_n C.1 C.2.1 dX7_isWord_26 rfl (lv_at hl 0 rfl) ?_
        refine zgetR C hS ff_X7_9_29 (hm 29 (by decide)) (hk (29, 0) (by decide)) dX7_isWord_27 ?_
        refine lv_iload_n C.1 C.2.1 dX7_isWord_30 rfl (lv_at hl 2 rfl) ?_
        refine lv_iload C.1 C.2.1 dX7_isWord_31 (lv_at hl 4 rfl) ?_
        refine lv_iadd C.1 C.2.1 dX7_isWord_33 ?_
        obtain ⟨hi, hf⟩ := zck_some hf
        refine zaldC C hS sh_30 (hm 30 (by decide)) hi dX7_isWord_34 ?_
        refine lv_goto (tgt := 40) C.1 C.2.1 dX7_isWord_35 (by decide) ?_
        exact w_X7_isWord_40 C hm hk ih _ _ _ _ _ _ _ _ _ (lv_sub hl [0, 1, 2, 3, 4] rfl) hS hf
set_option maxHeartbeats 4000000 in
set_option maxRecDepth 100000 in
theorem c_X7_isWord (l : Launch) (G : zG) (h : zH) (x1 : Int32) (x2 : Int32) (x3 : Int32) (q : Int32 × zH) (hm : ∀ c ∈ nd_X7_isWord, c ∈ znm G) (hk : ∀ q ∈ ld_X7_isWord, zlk G q.1 q.2 = true) (hf : f_X7_isWord x1 x2 x3 h = some q) : zCtI l yX7_isWord cX7_isWord 6 (some .boolean) (6) [.ref (zal G 29), .int x1, .int x2, .int x3] G h q.2 q.1 := by
  refine zMetI (by decide) (Nat.le_of_ble_eq_true rfl) ?_
  intro p e s m below meth c ls C hl hS
  have hl : lv_has ls 6 [(0, .ref (zal G 29)), (1, .int x1), (2, .int x2), (3, .int x3)] := hl
  have C : zC G p s m [.ref (zal G 29), .int x1, .int x2, .int x3].toArray meth c cX7_isWord 6 RX7 (some .boolean) := C
  unfold f_X7_isWord at hf
  refine lv_iload_n C.1 C.2.1 dX7_isWord_0 rfl (lv_at hl 3 rfl) ?_
  refine lv_iload_n C.1 C.2.1 dX7_isWord_1 rfl (lv_at hl 2 rfl) ?_
  refine lv_isub C.1 C.2.1 dX7_isWord_2 ?_
  refine lv_iconst (v := (5 : Int32)) C.1 C.2.1 dX7_isWord_3 rfl ?_
  refine lv_icmp_le (tgt := 9) C.1 C.2.1 dX7_isWord_4 (by decide) (fun hc => ?_) (fun hc => ?_)
  · have hf := zif_t hc hf
    refine lv_iconst (v := (0 : Int32)) C.1 C.2.1 dX7_isWord_9 rfl ?_
    refine lv_istore (lv' := [(4, .int (0 : Int32)), (0, .ref (zal G 29)), (1, .int x1), (2, .int x2), (3, .int x3)]) C.1 C.2.1 dX7_isWord_10 hl (by decide) rfl (fun ls hl => ?_)
    exact w_X7_isWord_12 C hm hk  zN _ _ _ _ _ _ _ _ (lv_sub hl [1, 2, 3, 4, 0] rfl) hS hf
  · have hf := zif_f hc hf
    refine lv_iconst (v := (0 : Int32)) C.1 C.2.1 dX7_isWord_7 rfl ?_
    exact zretZ C hS rfl hf dX7_isWord_8
end
section
theorem dX7_takeWord_0 : decode cX7_takeWord 0 = .ok (.iload_n 1, 1) := by decide +kernel
theorem dX7_takeWord_1 : decode cX7_takeWord 1 = .ok (.istore_n 2, 1) := by decide +kernel
theorem dX7_takeWord_2 : decode cX7_takeWord 2 = .ok (.iload_n 2, 1) := by decide +kernel
theorem dX7_takeWord_3 : decode cX7_takeWord 3 = .ok (.aload_n 0, 1) := by decide +kernel
theorem dX7_takeWord_4 : decode cX7_takeWord 4 = .ok (.getfield 36, 3) := by decide +kernel
theorem dX7_takeWord_7 : decode cX7_takeWord 7 = .ok (.if_icmp .ge 21, 3) := by decide +kernel
theorem dX7_takeWord_10 : decode cX7_takeWord 10 = .ok (.aload_n 0, 1) := by decide +kernel
theorem dX7_takeWord_11 : decode cX7_takeWord 11 = .ok (.getfield 9, 3) := by decide +kernel
theorem dX7_takeWord_14 : decode cX7_takeWord 14 = .ok (.iload_n 2, 1) := by decide +kernel
theorem dX7_takeWord_15 : decode cX7_takeWord 15 = .ok (.caload, 1) := by decide +kernel
theorem dX7_takeWord_16 : decode cX7_takeWord 16 = .ok (.invokestatic 74, 3) := by decide +kernel
theorem dX7_takeWord_19 : decode cX7_takeWord 19 = .ok (.ifCond .eq 9, 3) := by decide +kernel
theorem dX7_takeWord_22 : decode cX7_takeWord 22 = .ok (.iinc 2 1, 3) := by decide +kernel
theorem dX7_takeWord_25 : decode cX7_takeWord 25 = .ok (.goto (-23), 3) := by decide +kernel
theorem dX7_takeWord_28 : decode cX7_takeWord 28 = .ok (.iconst 1, 1) := by decide +kernel
theorem dX7_takeWord_29 : decode cX7_takeWord 29 = .ok (.istore_n 3, 1) := by decide +kernel
theorem dX7_takeWord_30 : decode cX7_takeWord 30 = .ok (.iconst 0, 1) := by decide +kernel
theorem dX7_takeWord_31 : decode cX7_takeWord 31 = .ok (.istore 4, 2) := by decide +kernel
theorem dX7_takeWord_33 : decode cX7_takeWord 33 = .ok (.iload 4, 2) := by decide +kernel
theorem dX7_takeWord_35 : decode cX7_takeWord 35 = .ok (.bipush 12, 2) := by decide +kernel
theorem dX7_takeWord_37 : decode cX7_takeWord 37 = .ok (.if_icmp .ge 25, 3) := by decide +kernel
theorem dX7_takeWord_40 : decode cX7_takeWord 40 = .ok (.aload_n 0, 1) := by decide +kernel
theorem dX7_takeWord_41 : decode cX7_takeWord 41 = .ok (.iload 4, 2) := by decide +kernel
theorem dX7_takeWord_43 : decode cX7_takeWord 43 = .ok (.iload_n 1, 1) := by decide +kernel
theorem dX7_takeWord_44 : decode cX7_takeWord 44 = .ok (.iload_n 2, 1) := by decide +kernel
theorem dX7_takeWord_45 : decode cX7_takeWord 45 = .ok (.invokevirtual 94, 3) := by decide +kernel
theorem dX7_takeWord_48 : decode cX7_takeWord 48 = .ok (.ifCond .eq 8, 3) := by decide +kernel
theorem dX7_takeWord_51 : decode cX7_takeWord 51 = .ok (.iconst 3, 1) := by decide +kernel
theorem dX7_takeWord_52 : decode cX7_takeWord 52 = .ok (.iload 4, 2) := by decide +kernel
theorem dX7_takeWord_54 : decode cX7_takeWord 54 = .ok (.iadd, 1) := by decide +kernel
theorem dX7_takeWord_55 : decode cX7_takeWord 55 = .ok (.istore_n 3, 1) := by decide +kernel
theorem dX7_takeWord_56 : decode cX7_takeWord 56 = .ok (.iinc 4 1, 3) := by decide +kernel
theorem dX7_takeWord_59 : decode cX7_takeWord 59 = .ok (.goto (-26), 3) := by decide +kernel
theorem dX7_takeWord_62 : decode cX7_takeWord 62 = .ok (.aload_n 0, 1) := by decide +kernel
theorem dX7_takeWord_63 : decode cX7_takeWord 63 = .ok (.iload_n 3, 1) := by decide +kernel
theorem dX7_takeWord_64 : decode cX7_takeWord 64 = .ok (.iconst 0, 1) := by decide +kernel
theorem dX7_takeWord_65 : decode cX7_takeWord 65 = .ok (.iload_n 1, 1) := by decide +kernel
theorem dX7_takeWord_66 : decode cX7_takeWord 66 = .ok (.invokevirtual 70, 3) := by decide +kernel
theorem dX7_takeWord_69 : decode cX7_takeWord 69 = .ok (.iload_n 2, 1) := by decide +kernel
theorem dX7_takeWord_70 : decode cX7_takeWord 70 = .ok (.ireturn, 1) := by decide +kernel
abbrev nd_X7_takeWord : List Nat := [29, 30, 31, 32, 33]
abbrev ld_X7_takeWord : List (Nat × Nat) := [(29, 0), (29, 1), (29, 2), (29, 3)]
theorem sn_X7_takeWord_X7_addToken : ∀ c ∈ nd_X7_addToken, c ∈ nd_X7_takeWord := by decide
theorem sl_X7_takeWord_X7_addToken : ∀ q ∈ ld_X7_addToken, q ∈ ld_X7_takeWord := by decide
theorem sn_X7_takeWord_X7_isWord : ∀ c ∈ nd_X7_isWord, c ∈ nd_X7_takeWord := by decide
theorem sl_X7_takeWord_X7_isWord : ∀ q ∈ ld_X7_isWord, q ∈ ld_X7_takeWord := by decide
theorem sn_X7_takeWord_X7_isLetter : ∀ c ∈ nd_X7_isLetter, c ∈ nd_X7_takeWord := by decide
theorem sl_X7_takeWord_X7_isLetter : ∀ q ∈ ld_X7_isLetter, q ∈ ld_X7_takeWord := by decide
def f_X7_takeWord_56 (k33 : Int32 → Int32 → Int32 → Int32 → zH → zR) (x1 : Int32) (x2 : Int32) (x3 : Int32) (x4 : Int32) (h : zH) : zR := (zlt (x4 + (1 : Int32)) fun y5 => (k33 x1 x2 x3 y5 h))
def f_X7_takeWord_33  : Nat → Int32 → Int32 → Int32 → Int32 → zH → zR
  | 0 => fun _ _ _ _ _ => none
  | n + 1 => fun x1 x2 x3 x4 h => (if (12 : Int32) ≤ x4 then (zbd (f_X7_addToken x3 (0 : Int32) x1 h) fun r1 h2 => (some (x2, h2))) else (zbd (f_X7_isWord x4 x1 x2 h) fun r3 h4 => (if r3 = 0 then (f_X7_takeWord_56 (f_X7_takeWord_33  n) x1 x2 x3 x4 h4) else (zlt ((3 : Int32) + x4) fun y6 => (f_X7_takeWord_56 (f_X7_takeWord_33  n) x1 x2 y6 x4 h4)))))
def f_X7_takeWord_28  (x1 : Int32) (x2 : Int32) (h : zH) : zR := (f_X7_takeWord_33  zN x1 x2 (1 : Int32) (0 : Int32) h)
def f_X7_takeWord_2  : Nat → Int32 → Int32 → zH → zR
  | 0 => fun _ _ _ => none
  | n + 1 => fun x1 x2 h => (if (h 29 5) ≤ x2 then (f_X7_takeWord_28  x1 x2 h) else (zck x2 400 (zbd (f_X7_isLetter (h 30 (Int32.toNatClampNeg x2)) h) fun r7 h8 => (if r7 = 0 then (f_X7_takeWord_28  x1 x2 h8) else (zlt (x2 + (1 : Int32)) fun y9 => (f_X7_takeWord_2  n x1 y9 h8))))))
def f_X7_takeWord  (x1 : Int32) (h : zH) : zR := (f_X7_takeWord_2  zN x1 x1 h)
variable {p : Program} {l : Launch} {e : Env} {s : State} {m : MethodId} {args : Array Value} {below : List Frame} {meth : Method} {c : Code} {G : zG} {q : Int32 × zH}
set_option maxHeartbeats 4000000 in
set_option maxRecDepth 100000 in
theorem w_X7_takeWord_56 {k33 : Int32 → Int32 → Int32 → Int32 → zH → zR} (C : zC G p s m args meth c cX7_takeWord 5 RX7 (some .int)) (hm : ∀ c ∈ nd_X7_takeWord, c ∈ znm G) (hk : ∀ q ∈ ld_X7_takeWord, zlk G q.1 q.2 = true) (hk33 : ∀ (ls : Array Slot) (H : Heap) (locs : List Loc) (h : zH) (x1 : Int32) (x2 : Int32) (x3 : Int32) (x4 : Int32), lv_has ls 5 [(0, .ref (zal G 29)), (1, .int x1), (2, .int x2), (3, .int x3), (4, .int x4)] → zS G h s.heap H locs → k33 x1 x2 x3 x4 h = some q → W p l e (zrm (7)) s m args below meth c H locs 0 0 (MQ below (zQI G q.2 q.1) args s 0 0 (zA G)) (F0 m 33 ls [])) : ∀ (ls : Array Slot) (H : Heap) (locs : List Loc) (h : zH) (x1 : Int32) (x2 : Int32) (x3 : Int32) (x4 : Int32), lv_has ls 5 [(0, .ref (zal G 29)), (1, .int x1), (2, .int x2), (3, .int x3), (4, .int x4)] → zS G h s.heap H locs → f_X7_takeWord_56 k33 x1 x2 x3 x4 h = some q → W p l e (zrm (7)) s m args below meth c H locs 0 0 (MQ below (zQI G q.2 q.1) args s 0 0 (zA G)) (F0 m 56 ls []) := by
  intro ls H locs h x1 x2 x3 x4 hl hS hf
  unfold f_X7_takeWord_56 at hf
  obtain ⟨y5, ey5, hf⟩ := zlt_some hf
  refine lv_iinc (v := y5) (lv' := [(4, .int y5), (0, .ref (zal G 29)), (1, .int x1), (2, .int x2), (3, .int x3)]) C.1 C.2.1 dX7_takeWord_56 hl (k := 4) rfl ey5.symm (by decide) rfl (fun ls hl => ?_)
  refine lv_goto (tgt := 33) C.1 C.2.1 dX7_takeWord_59 (by decide) ?_
  exact hk33 _ _ _ _ _ _ _ _ (lv_sub hl [1, 2, 3, 4, 0] rfl) hS hf
set_option maxHeartbeats 4000000 in
set_option maxRecDepth 100000 in
theorem w_X7_takeWord_33  (C : zC G p s m args meth c cX7_takeWord 5 RX7 (some .int)) (hm : ∀ c ∈ nd_X7_takeWord, c ∈ znm G) (hk : ∀ q ∈ ld_X7_takeWord, zlk G q.1 q.2 = true)  : ∀ n, ∀ (ls : Array Slot) (H : Heap) (locs : List Loc) (h : zH) (x1 : Int32) (x2 : Int32) (x3 : Int32) (x4 : Int32), lv_has ls 5 [(0, .ref (zal G 29)), (1, .int x1), (2, .int x2), (3, .int x3), (4, .int x4)] → zS G h s.heap H locs → f_X7_takeWord_33  n x1 x2 x3 x4 h = some q → W p l e (zrm (7)) s m args below meth c H locs 0 0 (MQ below (zQI G q.2 q.1) args s 0 0 (zA G)) (F0 m 33 ls []) := by
  intro n
  induction n with
  | zero => intro ls H locs h x1 x2 x3 x4 hl hS hf; cases hf
  | succ n ih =>
    intro ls H locs h x1 x2 x3 x4 hl hS hf
    rw [f_X7_takeWord_33] at hf
    refine lv_iload C.1 C.2.1 dX7_takeWord_33 (lv_at hl 4 rfl) ?_
    refine lv_bipush (v := (12 : Int32)) C.1 C.2.1 dX7_takeWord_35 rfl ?_
    refine lv_icmp_ge (tgt := 62) C.1 C.2.1 dX7_takeWord_37 (by decide) (fun hc => ?_) (fun hc => ?_)
    · have hf := zif_t hc hf
      refine lv_aload_n C.1 C.2.1 dX7_takeWord_62 rfl (lv_at hl 0 rfl) ?_
      refine lv_iload_n C.1 C.2.1 dX7_takeWord_63 rfl (lv_at hl 3 rfl) ?_
      refine lv_iconst (v := (0 : Int32)) C.1 C.2.1 dX7_takeWord_64 rfl ?_
      refine lv_iload_n C.1 C.2.1 dX7_takeWord_65 rfl (lv_at hl 1 rfl) ?_
      obtain ⟨r1, h2, er1, hf⟩ := zbd_some hf
      refine zcallVV (As := [.int x3, .int (0 : Int32), .int x1]) (rest := []) C hS mv_X7_70 (c_X7_addToken l G h x3 (0 : Int32) x1 (r1, h2) (fun c h => hm c (sn_X7_takeWord_X7_addToken c h)) (fun q h => hk q (sl_X7_takeWord_X7_addToken q h)) er1) (hm 29 (by decide)) ⟨_, _, _, sh_29, rfl, rfl⟩ rfl rfl (Nat.le_of_ble_eq_true rfl) hl.1 ⟨Nat.le_of_ble_eq_true rfl, Nat.le_of_ble_eq_true rfl, Nat.le_of_ble_eq_true rfl, Nat.le_of_ble_eq_true rfl⟩ dX7_takeWord_66 (fun H locs hS => ?_)
      refine lv_iload_n C.1 C.2.1 dX7_takeWord_69 rfl (lv_at hl 2 rfl) ?_
      exact zretI C hS hf dX7_takeWord_70
    · have hf := zif_f hc hf
      refine lv_aload_n C.1 C.2.1 dX7_takeWord_40 rfl (lv_at hl 0 rfl) ?_
      refine lv_iload C.1 C.2.1 dX7_takeWord_41 (lv_at hl 4 rfl) ?_
      refine lv_iload_n C.1 C.2.1 dX7_takeWord_43 rfl (lv_at hl 1 rfl) ?_
      refine lv_iload_n C.1 C.2.1 dX7_takeWord_44 rfl (lv_at hl 2 rfl) ?_
      obtain ⟨r3, h4, er3, hf⟩ := zbd_some hf
      refine zcallVI (As := [.int x4, .int x1, .int x2]) (rest := []) C hS mv_X7_94 (c_X7_isWord l G h x4 x1 x2 (r3, h4) (fun c h => hm c (sn_X7_takeWord_X7_isWord c h)) (fun q h => hk q (sl_X7_takeWord_X7_isWord q h)) er3) (hm 29 (by decide)) ⟨_, _, _, sh_29, rfl, rfl⟩ rfl rfl (Nat.le_of_ble_eq_true rfl) hl.1 ⟨Nat.le_of_ble_eq_true rfl, Nat.le_of_ble_eq_true rfl, Nat.le_of_ble_eq_true rfl, Nat.le_of_ble_eq_true rfl⟩ dX7_takeWord_45 (fun H locs hS => ?_)
      refine lv_if_eq (tgt := 56) C.1 C.2.1 dX7_takeWord_48 (by decide) (fun hc => ?_) (fun hc => ?_)
      · have hf := zif_t hc hf
        exact w_X7_takeWord_56 C hm hk ih _ _ _ _ _ _ _ _ (lv_sub hl [0, 1, 2, 3, 4] rfl) hS hf
      · have hf := zif_f hc hf
        refine lv_iconst (v := (3 : Int32)) C.1 C.2.1 dX7_takeWord_51 rfl ?_
        refine lv_iload C.1 C.2.1 dX7_takeWord_52 (lv_at hl 4 rfl) ?_
        refine lv_iadd C.1 C.2.1 dX7_takeWord_54 ?_
        obtain ⟨y6, ey6, hf⟩ := zlt_some hf
        refine ztop ey6 ?_
        refine lv_istore_n (lv' := [(3, .int y6), (0, .ref (zal G 29)), (1, .int x1), (2, .int x2), (4, .int x4)]) C.1 C.2.1 dX7_takeWord_55 rfl hl (by decide) rfl (fun ls hl => ?_)
        exact w_X7_takeWord_56 C hm hk ih _ _ _ _ _ _ _ _ (lv_sub hl [1, 2, 3, 0, 4] rfl) hS hf
set_option maxHeartbeats 4000000 in
set_option maxRecDepth 100000 in
theorem w_X7_takeWord_28  (C : zC G p s m args meth c cX7_takeWord 5 RX7 (some .int)) (hm : ∀ c ∈ nd_X7_takeWord, c ∈ znm G) (hk : ∀ q ∈ ld_X7_takeWord, zlk G q.1 q.2 = true)  : ∀ (ls : Array Slot) (H : Heap) (locs : List Loc) (h : zH) (x1 : Int32) (x2 : Int32), lv_has ls 5 [(0, .ref (zal G 29)), (1, .int x1), (2, .int x2)] → zS G h s.heap H locs → f_X7_takeWord_28  x1 x2 h = some q → W p l e (zrm (7)) s m args below meth c H locs 0 0 (MQ below (zQI G q.2 q.1) args s 0 0 (zA G)) (F0 m 28 ls []) := by
  intro ls H locs h x1 x2 hl hS hf
  unfold f_X7_takeWord_28 at hf
  refine lv_iconst (v := (1 : Int32)) C.1 C.2.1 dX7_takeWord_28 rfl ?_
  refine lv_istore_n (lv' := [(3, .int (1 : Int32)), (0, .ref (zal G 29)), (1, .int x1), (2, .int x2)]) C.1 C.2.1 dX7_takeWord_29 rfl hl (by decide) rfl (fun ls hl => ?_)
  refine lv_iconst (v := (0 : Int32)) C.1 C.2.1 dX7_takeWord_30 rfl ?_
  refine lv_istore (lv' := [(4, .int (0 : Int32)), (3, .int (1 : Int32)), (0, .ref (zal G 29)), (1, .int x1), (2, .int x2)]) C.1 C.2.1 dX7_takeWord_31 hl (by decide) rfl (fun ls hl => ?_)
  exact w_X7_takeWord_33 C hm hk  zN _ _ _ _ _ _ _ _ (lv_sub hl [2, 3, 4, 1, 0] rfl) hS hf
set_option maxHeartbeats 4000000 in
set_option maxRecDepth 100000 in
theorem w_X7_takeWord_2  (C : zC G p s m args meth c cX7_takeWord 5 RX7 (some .int)) (hm : ∀ c ∈ nd_X7_takeWord, c ∈ znm G) (hk : ∀ q ∈ ld_X7_takeWord, zlk G q.1 q.2 = true)  : ∀ n, ∀ (ls : Array Slot) (H : Heap) (locs : List Loc) (h : zH) (x1 : Int32) (x2 : Int32), lv_has ls 5 [(0, .ref (zal G 29)), (1, .int x1), (2, .int x2)] → zS G h s.heap H locs → f_X7_takeWord_2  n x1 x2 h = some q → W p l e (zrm (7)) s m args below meth c H locs 0 0 (MQ below (zQI G q.2 q.1) args s 0 0 (zA G)) (F0 m 2 ls []) := by
  intro n
  induction n with
  | zero => intro ls H locs h x1 x2 hl hS hf; cases hf
  | succ n ih =>
    intro ls H locs h x1 x2 hl hS hf
    rw [f_X7_takeWord_2] at hf
    refine lv_iload_n C.1 C.2.1 dX7_takeWord_2 rfl (lv_at hl 2 rfl) ?_
    refine lv_aload_n C.1 C.2.1 dX7_takeWord_3 rfl (lv_at hl 0 rfl) ?_
    refine zgetI C hS ff_X7_36_29 (hm 29 (by decide)) dX7_takeWord_4 ?_
    refine lv_icmp_ge (tgt := 28) C.1 C.2.1 dX7_takeWord_7 (by decide) (fun hc => ?_) (fun hc => ?_)
    · have hf := zif_t hc hf
      exact w_X7_takeWord_28 C hm hk  _ _ _ _ _ _ (lv_sub hl [0, 1, 2] rfl) hS hf
    · have hf := zif_f hc hf
      refine lv_aload_n C.1 C.2.1 dX7_takeWord_10 rfl (lv_at hl 0 rfl) ?_
      refine zgetR C hS ff_X7_9_29 (hm 29 (by decide)) (hk (29, 0) (by decide)) dX7_takeWord_11 ?_
      refine lv_iload_n C.1 C.2.1 dX7_takeWord_14 rfl (lv_at hl 2 rfl) ?_
      obtain ⟨hi, hf⟩ := zck_some hf
      refine zaldC C hS sh_30 (hm 30 (by decide)) hi dX7_takeWord_15 ?_
      obtain ⟨r7, h8, er7, hf⟩ := zbd_some hf
      refine zcallSI (As := [.int (h 30 (Int32.toNatClampNeg x2))]) (rest := []) C hS ms_X7_74 (c_X7_isLetter l G h (h 30 (Int32.toNatClampNeg x2)) (r7, h8) (fun c h => hm c (sn_X7_takeWord_X7_isLetter c h)) (fun q h => hk q (sl_X7_takeWord_X7_isLetter q h)) er7) rfl rfl (Nat.le_of_ble_eq_true rfl) hl.1 ⟨Nat.le_of_ble_eq_true rfl, Nat.le_of_ble_eq_true rfl, Nat.le_of_ble_eq_true rfl, Nat.le_of_ble_eq_true rfl⟩ dX7_takeWord_16 (fun H locs hS => ?_)
      refine lv_if_eq (tgt := 28) C.1 C.2.1 dX7_takeWord_19 (by decide) (fun hc => ?_) (fun hc => ?_)
      · have hf := zif_t hc hf
        exact w_X7_takeWord_28 C hm hk  _ _ _ _ _ _ (lv_sub hl [0, 1, 2] rfl) hS hf
      · have hf := zif_f hc hf
        obtain ⟨y9, ey9, hf⟩ := zlt_some hf
        refine lv_iinc (v := y9) (lv' := [(2, .int y9), (0, .ref (zal G 29)), (1, .int x1)]) C.1 C.2.1 dX7_takeWord_22 hl (k := 2) rfl ey9.symm (by decide) rfl (fun ls hl => ?_)
        refine lv_goto (tgt := 2) C.1 C.2.1 dX7_takeWord_25 (by decide) ?_
        exact ih _ _ _ _ _ _ (lv_sub hl [1, 2, 0] rfl) hS hf
set_option maxHeartbeats 4000000 in
set_option maxRecDepth 100000 in
theorem c_X7_takeWord (l : Launch) (G : zG) (h : zH) (x1 : Int32) (q : Int32 × zH) (hm : ∀ c ∈ nd_X7_takeWord, c ∈ znm G) (hk : ∀ q ∈ ld_X7_takeWord, zlk G q.1 q.2 = true) (hf : f_X7_takeWord x1 h = some q) : zCtI l yX7_takeWord cX7_takeWord 5 (some .int) (7) [.ref (zal G 29), .int x1] G h q.2 q.1 := by
  refine zMetI (by decide) (Nat.le_of_ble_eq_true rfl) ?_
  intro p e s m below meth c ls C hl hS
  have hl : lv_has ls 5 [(0, .ref (zal G 29)), (1, .int x1)] := hl
  have C : zC G p s m [.ref (zal G 29), .int x1].toArray meth c cX7_takeWord 5 RX7 (some .int) := C
  unfold f_X7_takeWord at hf
  refine lv_iload_n C.1 C.2.1 dX7_takeWord_0 rfl (lv_at hl 1 rfl) ?_
  refine lv_istore_n (lv' := [(2, .int x1), (0, .ref (zal G 29)), (1, .int x1)]) C.1 C.2.1 dX7_takeWord_1 rfl hl (by decide) rfl (fun ls hl => ?_)
  exact w_X7_takeWord_2 C hm hk  zN _ _ _ _ _ _ (lv_sub hl [1, 2, 0] rfl) hS hf
end
section
theorem dX7_takeToken_0 : decode cX7_takeToken 0 = .ok (.aload_n 0, 1) := by decide +kernel
theorem dX7_takeToken_1 : decode cX7_takeToken 1 = .ok (.getfield 9, 3) := by decide +kernel
theorem dX7_takeToken_4 : decode cX7_takeToken 4 = .ok (.iload_n 1, 1) := by decide +kernel
theorem dX7_takeToken_5 : decode cX7_takeToken 5 = .ok (.caload, 1) := by decide +kernel
theorem dX7_takeToken_6 : decode cX7_takeToken 6 = .ok (.istore_n 2, 1) := by decide +kernel
theorem dX7_takeToken_7 : decode cX7_takeToken 7 = .ok (.iload_n 2, 1) := by decide +kernel
theorem dX7_takeToken_8 : decode cX7_takeToken 8 = .ok (.bipush 32, 2) := by decide +kernel
theorem dX7_takeToken_10 : decode cX7_takeToken 10 = .ok (.if_icmp .eq 9, 3) := by decide +kernel
theorem dX7_takeToken_13 : decode cX7_takeToken 13 = .ok (.iload_n 2, 1) := by decide +kernel
theorem dX7_takeToken_14 : decode cX7_takeToken 14 = .ok (.bipush 10, 2) := by decide +kernel
theorem dX7_takeToken_16 : decode cX7_takeToken 16 = .ok (.if_icmp .ne 7, 3) := by decide +kernel
theorem dX7_takeToken_19 : decode cX7_takeToken 19 = .ok (.iload_n 1, 1) := by decide +kernel
theorem dX7_takeToken_20 : decode cX7_takeToken 20 = .ok (.iconst 1, 1) := by decide +kernel
theorem dX7_takeToken_21 : decode cX7_takeToken 21 = .ok (.iadd, 1) := by decide +kernel
theorem dX7_takeToken_22 : decode cX7_takeToken 22 = .ok (.ireturn, 1) := by decide +kernel
theorem dX7_takeToken_23 : decode cX7_takeToken 23 = .ok (.iload_n 2, 1) := by decide +kernel
theorem dX7_takeToken_24 : decode cX7_takeToken 24 = .ok (.invokestatic 74, 3) := by decide +kernel
theorem dX7_takeToken_27 : decode cX7_takeToken 27 = .ok (.ifCond .eq 9, 3) := by decide +kernel
theorem dX7_takeToken_30 : decode cX7_takeToken 30 = .ok (.aload_n 0, 1) := by decide +kernel
theorem dX7_takeToken_31 : decode cX7_takeToken 31 = .ok (.iload_n 1, 1) := by decide +kernel
theorem dX7_takeToken_32 : decode cX7_takeToken 32 = .ok (.invokevirtual 78, 3) := by decide +kernel
theorem dX7_takeToken_35 : decode cX7_takeToken 35 = .ok (.ireturn, 1) := by decide +kernel
theorem dX7_takeToken_36 : decode cX7_takeToken 36 = .ok (.iload_n 2, 1) := by decide +kernel
theorem dX7_takeToken_37 : decode cX7_takeToken 37 = .ok (.invokestatic 81, 3) := by decide +kernel
theorem dX7_takeToken_40 : decode cX7_takeToken 40 = .ok (.ifCond .eq 9, 3) := by decide +kernel
theorem dX7_takeToken_43 : decode cX7_takeToken 43 = .ok (.aload_n 0, 1) := by decide +kernel
theorem dX7_takeToken_44 : decode cX7_takeToken 44 = .ok (.iload_n 1, 1) := by decide +kernel
theorem dX7_takeToken_45 : decode cX7_takeToken 45 = .ok (.invokevirtual 84, 3) := by decide +kernel
theorem dX7_takeToken_48 : decode cX7_takeToken 48 = .ok (.ireturn, 1) := by decide +kernel
theorem dX7_takeToken_49 : decode cX7_takeToken 49 = .ok (.ldc 87, 2) := by decide +kernel
theorem dX7_takeToken_51 : decode cX7_takeToken 51 = .ok (.iload_n 2, 1) := by decide +kernel
theorem dX7_takeToken_52 : decode cX7_takeToken 52 = .ok (.invokevirtual 89, 3) := by decide +kernel
theorem dX7_takeToken_55 : decode cX7_takeToken 55 = .ok (.istore_n 3, 1) := by decide +kernel
theorem dX7_takeToken_56 : decode cX7_takeToken 56 = .ok (.aload_n 0, 1) := by decide +kernel
theorem dX7_takeToken_57 : decode cX7_takeToken 57 = .ok (.iload_n 3, 1) := by decide +kernel
theorem dX7_takeToken_58 : decode cX7_takeToken 58 = .ok (.ifCond .ge 7, 3) := by decide +kernel
theorem dX7_takeToken_61 : decode cX7_takeToken 61 = .ok (.iconst 1, 1) := by decide +kernel
theorem dX7_takeToken_62 : decode cX7_takeToken 62 = .ok (.goto 7, 3) := by decide +kernel
theorem dX7_takeToken_65 : decode cX7_takeToken 65 = .ok (.bipush 15, 2) := by decide +kernel
theorem dX7_takeToken_67 : decode cX7_takeToken 67 = .ok (.iload_n 3, 1) := by decide +kernel
theorem dX7_takeToken_68 : decode cX7_takeToken 68 = .ok (.iadd, 1) := by decide +kernel
theorem dX7_takeToken_69 : decode cX7_takeToken 69 = .ok (.iconst 0, 1) := by decide +kernel
theorem dX7_takeToken_70 : decode cX7_takeToken 70 = .ok (.iload_n 1, 1) := by decide +kernel
theorem dX7_takeToken_71 : decode cX7_takeToken 71 = .ok (.invokevirtual 70, 3) := by decide +kernel
theorem dX7_takeToken_74 : decode cX7_takeToken 74 = .ok (.iload_n 1, 1) := by decide +kernel
theorem dX7_takeToken_75 : decode cX7_takeToken 75 = .ok (.iconst 1, 1) := by decide +kernel
theorem dX7_takeToken_76 : decode cX7_takeToken 76 = .ok (.iadd, 1) := by decide +kernel
theorem dX7_takeToken_77 : decode cX7_takeToken 77 = .ok (.ireturn, 1) := by decide +kernel
abbrev nd_X7_takeToken : List Nat := [29, 30, 31, 32, 33]
abbrev ld_X7_takeToken : List (Nat × Nat) := [(29, 0), (29, 1), (29, 2), (29, 3)]
theorem sn_X7_takeToken_X7_isLetter : ∀ c ∈ nd_X7_isLetter, c ∈ nd_X7_takeToken := by decide
theorem sl_X7_takeToken_X7_isLetter : ∀ q ∈ ld_X7_isLetter, q ∈ ld_X7_takeToken := by decide
theorem sn_X7_takeToken_X7_isDigit : ∀ c ∈ nd_X7_isDigit, c ∈ nd_X7_takeToken := by decide
theorem sl_X7_takeToken_X7_isDigit : ∀ q ∈ ld_X7_isDigit, q ∈ ld_X7_takeToken := by decide
theorem sn_X7_takeToken_J0_indexOf_0f7a4 : ∀ c ∈ nd_J0_indexOf_0f7a4, c ∈ nd_X7_takeToken := by decide
theorem sl_X7_takeToken_J0_indexOf_0f7a4 : ∀ q ∈ ld_J0_indexOf_0f7a4, q ∈ ld_X7_takeToken := by decide
theorem sn_X7_takeToken_X7_addToken : ∀ c ∈ nd_X7_addToken, c ∈ nd_X7_takeToken := by decide
theorem sl_X7_takeToken_X7_addToken : ∀ q ∈ ld_X7_addToken, q ∈ ld_X7_takeToken := by decide
theorem sn_X7_takeToken_X7_takeNumber : ∀ c ∈ nd_X7_takeNumber, c ∈ nd_X7_takeToken := by decide
theorem sl_X7_takeToken_X7_takeNumber : ∀ q ∈ ld_X7_takeNumber, q ∈ ld_X7_takeToken := by decide
theorem sn_X7_takeToken_X7_takeWord : ∀ c ∈ nd_X7_takeWord, c ∈ nd_X7_takeToken := by decide
theorem sl_X7_takeToken_X7_takeWord : ∀ q ∈ ld_X7_takeWord, q ∈ ld_X7_takeToken := by decide
def f_X7_takeToken_19  (x1 : Int32) (h : zH) : zR := (some ((x1 + (1 : Int32)), h))
def f_X7_takeToken_69  (x1 : Int32) (s0 : Int32) (h : zH) : zR := (zbd (f_X7_addToken s0 (0 : Int32) x1 h) fun r8 h9 => (some ((x1 + (1 : Int32)), h9)))
def f_X7_takeToken  (x1 : Int32) (h : zH) : zR := (zck x1 400 (zlt (h 30 (Int32.toNatClampNeg x1)) fun y1 => (if y1 = (32 : Int32) then (f_X7_takeToken_19  x1 h) else (if y1 = (10 : Int32) then (f_X7_takeToken_19  x1 h) else (zbd (f_X7_isLetter y1 h) fun r2 h3 => (if r2 = 0 then (zbd (f_X7_isDigit y1 h3) fun r4 h5 => (if r4 = 0 then (zbd (f_J0_indexOf_0f7a4 1 y1 h5) fun r6 h7 => (if 0 ≤ r6 then (f_X7_takeToken_69  x1 ((15 : Int32) + r6) h7) else (f_X7_takeToken_69  x1 (1 : Int32) h7))) else (zbd (f_X7_takeNumber x1 h5) fun r10 h11 => (some (r10, h11))))) else (zbd (f_X7_takeWord x1 h3) fun r12 h13 => (some (r12, h13)))))))))
variable {p : Program} {l : Launch} {e : Env} {s : State} {m : MethodId} {args : Array Value} {below : List Frame} {meth : Method} {c : Code} {G : zG} {q : Int32 × zH}
set_option maxHeartbeats 4000000 in
set_option maxRecDepth 100000 in
theorem w_X7_takeToken_19  (C : zC G p s m args meth c cX7_takeToken 4 RX7 (some .int)) (hm : ∀ c ∈ nd_X7_takeToken, c ∈ znm G) (hk : ∀ q ∈ ld_X7_takeToken, zlk G q.1 q.2 = true)  : ∀ (ls : Array Slot) (H : Heap) (locs : List Loc) (h : zH) (x1 : Int32), lv_has ls 4 [(1, .int x1)] → zS G h s.heap H locs → f_X7_takeToken_19  x1 h = some q → W p l e (zrm (8)) s m args below meth c H locs 0 0 (MQ below (zQI G q.2 q.1) args s 0 0 (zA G)) (F0 m 19 ls []) := by
  intro ls H locs h x1 hl hS hf
  unfold f_X7_takeToken_19 at hf
  refine lv_iload_n C.1 C.2.1 dX7_takeToken_19 rfl (lv_at hl 0 rfl) ?_
  refine lv_iconst (v := (1 : Int32)) C.1 C.2.1 dX7_takeToken_20 rfl ?_
  refine lv_iadd C.1 C.2.1 dX7_takeToken_21 ?_
  exact zretI C hS hf dX7_takeToken_22
set_option maxHeartbeats 4000000 in
set_option maxRecDepth 100000 in
theorem w_X7_takeToken_69  (C : zC G p s m args meth c cX7_takeToken 4 RX7 (some .int)) (hm : ∀ c ∈ nd_X7_takeToken, c ∈ znm G) (hk : ∀ q ∈ ld_X7_takeToken, zlk G q.1 q.2 = true)  : ∀ (ls : Array Slot) (H : Heap) (locs : List Loc) (h : zH) (x1 : Int32) (s0 : Int32), lv_has ls 4 [(1, .int x1)] → zS G h s.heap H locs → f_X7_takeToken_69  x1 s0 h = some q → W p l e (zrm (8)) s m args below meth c H locs 0 0 (MQ below (zQI G q.2 q.1) args s 0 0 (zA G)) (F0 m 69 ls [.int s0, .ref (zal G 29)]) := by
  intro ls H locs h x1 s0 hl hS hf
  unfold f_X7_takeToken_69 at hf
  refine lv_iconst (v := (0 : Int32)) C.1 C.2.1 dX7_takeToken_69 rfl ?_
  refine lv_iload_n C.1 C.2.1 dX7_takeToken_70 rfl (lv_at hl 0 rfl) ?_
  obtain ⟨r8, h9, er8, hf⟩ := zbd_some hf
  refine zcallVV (As := [.int s0, .int (0 : Int32), .int x1]) (rest := []) C hS mv_X7_70 (c_X7_addToken l G h s0 (0 : Int32) x1 (r8, h9) (fun c h => hm c (sn_X7_takeToken_X7_addToken c h)) (fun q h => hk q (sl_X7_takeToken_X7_addToken q h)) er8) (hm 29 (by decide)) ⟨_, _, _, sh_29, rfl, rfl⟩ rfl rfl (Nat.le_of_ble_eq_true rfl) hl.1 ⟨Nat.le_of_ble_eq_true rfl, Nat.le_of_ble_eq_true rfl, Nat.le_of_ble_eq_true rfl, Nat.le_of_ble_eq_true rfl⟩ dX7_takeToken_71 (fun H locs hS => ?_)
  refine lv_iload_n C.1 C.2.1 dX7_takeToken_74 rfl (lv_at hl 0 rfl) ?_
  refine lv_iconst (v := (1 : Int32)) C.1 C.2.1 dX7_takeToken_75 rfl ?_
  refine lv_iadd C.1 C.2.1 dX7_takeToken_76 ?_
  exact zretI C hS hf dX7_takeToken_77
set_option maxHeartbeats 4000000 in
set_option maxRecDepth 100000 in
theorem c_X7_takeToken (l : Launch) (G : zG) (h : zH) (x1 : Int32) (q : Int32 × zH) (hm : ∀ c ∈ nd_X7_takeToken, c ∈ znm G) (hk : ∀ q ∈ ld_X7_takeToken, zlk G q.1 q.2 = true) (hf : f_X7_takeToken x1 h = some q) : zCtI l yX7_takeToken cX7_takeToken 4 (some .int) (8) [.ref (zal G 29), .int x1] G h q.2 q.1 := by
  refine zMetI (by decide) (Nat.le_of_ble_eq_true rfl) ?_
  intro p e s m below meth c ls C hl hS
  have hl : lv_has ls 4 [(0, .ref (zal G 29)), (1, .int x1)] := hl
  have C : zC G p s m [.ref (zal G 29), .int x1].toArray meth c cX7_takeToken 4 RX7 (some .int) := C
  unfold f_X7_takeToken at hf
  refine lv_aload_n C.1 C.2.1 dX7_takeToken_0 rfl (lv_at hl 0 rfl) ?_
  refine zgetR C hS ff_X7_9_29 (hm 29 (by decide)) (hk (29, 0) (by decide)) dX7_takeToken_1 ?_
  refine lv_iload_n C.1 C.2.1 dX7_takeToken_4 rfl (lv_at hl 1 rfl) ?_
  obtain ⟨hi, hf⟩ := zck_some hf
  refine zaldC C hS sh_30 (hm 30 (by decide)) hi dX7_takeToken_5 ?_
  obtain ⟨y1, ey1, hf⟩ := zlt_some hf
  refine ztop ey1 ?_
  refine lv_istore_n (lv' := [(2, .int y1), (0, .ref (zal G 29)), (1, .int x1)]) C.1 C.2.1 dX7_takeToken_6 rfl hl (by decide) rfl (fun ls hl => ?_)
  refine lv_iload_n C.1 C.2.1 dX7_takeToken_7 rfl (lv_at hl 0 rfl) ?_
  refine lv_bipush (v := (32 : Int32)) C.1 C.2.1 dX7_takeToken_8 rfl ?_
  refine lv_icmp_eq (tgt := 19) C.1 C.2.1 dX7_takeToken_10 (by decide) (fun hc => ?_) (fun hc => ?_)
  · have hf := zif_t hc hf
    exact w_X7_takeToken_19 C hm hk  _ _ _ _ _ (lv_sub hl [2] rfl) hS hf
  · have hf := zif_f hc hf
    refine lv_iload_n C.1 C.2.1 dX7_takeToken_13 rfl (lv_at hl 0 rfl) ?_
    refine lv_bipush (v := (10 : Int32)) C.1 C.2.1 dX7_takeToken_14 rfl ?_
    refine lv_icmp_ne (tgt := 23) C.1 C.2.1 dX7_takeToken_16 (by decide) (fun hc => ?_) (fun hc => ?_)
    · have hf := zif_f hc hf
      refine lv_iload_n C.1 C.2.1 dX7_takeToken_23 rfl (lv_at hl 0 rfl) ?_
      obtain ⟨r2, h3, er2, hf⟩ := zbd_some hf
      refine zcallSI (As := [.int y1]) (rest := []) C hS ms_X7_74 (c_X7_isLetter l G h y1 (r2, h3) (fun c h => hm c (sn_X7_takeToken_X7_isLetter c h)) (fun q h => hk q (sl_X7_takeToken_X7_isLetter q h)) er2) rfl rfl (Nat.le_of_ble_eq_true rfl) hl.1 ⟨Nat.le_of_ble_eq_true rfl, Nat.le_of_ble_eq_true rfl, Nat.le_of_ble_eq_true rfl, Nat.le_of_ble_eq_true rfl⟩ dX7_takeToken_24 (fun H locs hS => ?_)
      refine lv_if_eq (tgt := 36) C.1 C.2.1 dX7_takeToken_27 (by decide) (fun hc => ?_) (fun hc => ?_)
      · have hf := zif_t hc hf
        refine lv_iload_n C.1 C.2.1 dX7_takeToken_36 rfl (lv_at hl 0 rfl) ?_
        obtain ⟨r4, h5, er4, hf⟩ := zbd_some hf
        refine zcallSI (As := [.int y1]) (rest := []) C hS ms_X7_81 (c_X7_isDigit l G h3 y1 (r4, h5) (fun c h => hm c (sn_X7_takeToken_X7_isDigit c h)) (fun q h => hk q (sl_X7_takeToken_X7_isDigit q h)) er4) rfl rfl (Nat.le_of_ble_eq_true rfl) hl.1 ⟨Nat.le_of_ble_eq_true rfl, Nat.le_of_ble_eq_true rfl, Nat.le_of_ble_eq_true rfl, Nat.le_of_ble_eq_true rfl⟩ dX7_takeToken_37 (fun H locs hS => ?_)
        refine lv_if_eq (tgt := 49) C.1 C.2.1 dX7_takeToken_40 (by decide) (fun hc => ?_) (fun hc => ?_)
        · have hf := zif_t hc hf
          refine zldcS (i := 1) (tx := ";+-*/()<=>") C (by decide) dX7_takeToken_49 ?_
          refine lv_iload_n C.1 C.2.1 dX7_takeToken_51 rfl (lv_at hl 0 rfl) ?_
          obtain ⟨r6, h7, er6, hf⟩ := zbd_some hf
          refine zcallTI (i := 1) (As := [.int y1]) (rest := []) C hS mv_X7_89 (c_J0_indexOf_0f7a4 l G h5 1 y1 (r6, h7) (by decide) (fun c h => hm c (sn_X7_takeToken_J0_indexOf_0f7a4 c h)) (fun q h => hk q (sl_X7_takeToken_J0_indexOf_0f7a4 q h)) er6) (by decide) rfl rfl rfl (Nat.le_of_ble_eq_true rfl) hl.1 ⟨Nat.le_of_ble_eq_true rfl, Nat.le_of_ble_eq_true rfl, Nat.le_of_ble_eq_true rfl, Nat.le_of_ble_eq_true rfl⟩ dX7_takeToken_52 (fun H locs hS => ?_)
          refine lv_istore_n (lv' := [(3, .int r6), (2, .int y1), (0, .ref (zal G 29)), (1, .int x1)]) C.1 C.2.1 dX7_takeToken_55 rfl hl (by decide) rfl (fun ls hl => ?_)
          refine lv_aload_n C.1 C.2.1 dX7_takeToken_56 rfl (lv_at hl 2 rfl) ?_
          refine lv_iload_n C.1 C.2.1 dX7_takeToken_57 rfl (lv_at hl 0 rfl) ?_
          refine lv_if_ge (tgt := 65) C.1 C.2.1 dX7_takeToken_58 (by decide) (fun hc => ?_) (fun hc => ?_)
          · have hf := zif_t hc hf
            refine lv_bipush (v := (15 : Int32)) C.1 C.2.1 dX7_takeToken_65 rfl ?_
            refine lv_iload_n C.1 C.2.1 dX7_takeToken_67 rfl (lv_at hl 0 rfl) ?_
            refine lv_iadd C.1 C.2.1 dX7_takeToken_68 ?_
            exact w_X7_takeToken_69 C hm hk  _ _ _ _ _ _ (lv_sub hl [3] rfl) hS hf
          · have hf := zif_f hc hf
            refine lv_iconst (v := (1 : Int32)) C.1 C.2.1 dX7_takeToken_61 rfl ?_
            refine lv_goto (tgt := 69) C.1 C.2.1 dX7_takeToken_62 (by decide) ?_
            exact w_X7_takeToken_69 C hm hk  _ _ _ _ _ _ (lv_sub hl [3] rfl) hS hf
        · have hf := zif_f hc hf
          refine lv_aload_n C.1 C.2.1 dX7_takeToken_43 rfl (lv_at hl 1 rfl) ?_
          refine lv_iload_n C.1 C.2.1 dX7_takeToken_44 rfl (lv_at hl 2 rfl) ?_
          obtain ⟨r10, h11, er10, hf⟩ := zbd_some hf
          refine zcallVI (As := [.int x1]) (rest := []) C hS mv_X7_84 (c_X7_takeNumber l G h5 x1 (r10, h11) (fun c h => hm c (sn_X7_takeToken_X7_takeNumber c h)) (fun q h => hk q (sl_X7_takeToken_X7_takeNumber q h)) er10) (hm 29 (by decide)) ⟨_, _, _, sh_29, rfl, rfl⟩ rfl rfl (Nat.le_of_ble_eq_true rfl) hl.1 ⟨Nat.le_of_ble_eq_true rfl, Nat.le_of_ble_eq_true rfl, Nat.le_of_ble_eq_true rfl, Nat.le_of_ble_eq_true rfl⟩ dX7_takeToken_45 (fun H locs hS => ?_)
          exact zretI C hS hf dX7_takeToken_48
      · have hf := zif_f hc hf
        refine lv_aload_n C.1 C.2.1 dX7_takeToken_30 rfl (lv_at hl 1 rfl) ?_
        refine lv_iload_n C.1 C.2.1 dX7_takeToken_31 rfl (lv_at hl 2 rfl) ?_
        obtain ⟨r12, h13, er12, hf⟩ := zbd_some hf
        refine zcallVI (As := [.int x1]) (rest := []) C hS mv_X7_78 (c_X7_takeWord l G h3 x1 (r12, h13) (fun c h => hm c (sn_X7_takeToken_X7_takeWord c h)) (fun q h => hk q (sl_X7_takeToken_X7_takeWord q h)) er12) (hm 29 (by decide)) ⟨_, _, _, sh_29, rfl, rfl⟩ rfl rfl (Nat.le_of_ble_eq_true rfl) hl.1 ⟨Nat.le_of_ble_eq_true rfl, Nat.le_of_ble_eq_true rfl, Nat.le_of_ble_eq_true rfl, Nat.le_of_ble_eq_true rfl⟩ dX7_takeToken_32 (fun H locs hS => ?_)
        exact zretI C hS hf dX7_takeToken_35
    · have hf := zif_t hc hf
      exact w_X7_takeToken_19 C hm hk  _ _ _ _ _ (lv_sub hl [2] rfl) hS hf
end
section
theorem dX7_split_0 : decode cX7_split 0 = .ok (.aload_n 0, 1) := by decide +kernel
theorem dX7_split_1 : decode cX7_split 1 = .ok (.iconst 0, 1) := by decide +kernel
theorem dX7_split_2 : decode cX7_split 2 = .ok (.putfield 57, 3) := by decide +kernel
theorem dX7_split_5 : decode cX7_split 5 = .ok (.iconst 0, 1) := by decide +kernel
theorem dX7_split_6 : decode cX7_split 6 = .ok (.istore_n 1, 1) := by decide +kernel
theorem dX7_split_7 : decode cX7_split 7 = .ok (.iload_n 1, 1) := by decide +kernel
theorem dX7_split_8 : decode cX7_split 8 = .ok (.aload_n 0, 1) := by decide +kernel
theorem dX7_split_9 : decode cX7_split 9 = .ok (.getfield 36, 3) := by decide +kernel
theorem dX7_split_12 : decode cX7_split 12 = .ok (.if_icmp .ge 18, 3) := by decide +kernel
theorem dX7_split_15 : decode cX7_split 15 = .ok (.iload_n 1, 1) := by decide +kernel
theorem dX7_split_16 : decode cX7_split 16 = .ok (.iconst 1, 1) := by decide +kernel
theorem dX7_split_17 : decode cX7_split 17 = .ok (.iadd, 1) := by decide +kernel
theorem dX7_split_18 : decode cX7_split 18 = .ok (.aload_n 0, 1) := by decide +kernel
theorem dX7_split_19 : decode cX7_split 19 = .ok (.iload_n 1, 1) := by decide +kernel
theorem dX7_split_20 : decode cX7_split 20 = .ok (.invokevirtual 60, 3) := by decide +kernel
theorem dX7_split_23 : decode cX7_split 23 = .ok (.invokestatic 64, 3) := by decide +kernel
theorem dX7_split_26 : decode cX7_split 26 = .ok (.istore_n 1, 1) := by decide +kernel
theorem dX7_split_27 : decode cX7_split 27 = .ok (.goto (-20), 3) := by decide +kernel
theorem dX7_split_30 : decode cX7_split 30 = .ok (.aload_n 0, 1) := by decide +kernel
theorem dX7_split_31 : decode cX7_split 31 = .ok (.iconst 0, 1) := by decide +kernel
theorem dX7_split_32 : decode cX7_split 32 = .ok (.iconst 0, 1) := by decide +kernel
theorem dX7_split_33 : decode cX7_split 33 = .ok (.aload_n 0, 1) := by decide +kernel
theorem dX7_split_34 : decode cX7_split 34 = .ok (.getfield 36, 3) := by decide +kernel
theorem dX7_split_37 : decode cX7_split 37 = .ok (.invokevirtual 70, 3) := by decide +kernel
theorem dX7_split_40 : decode cX7_split 40 = .ok (.return_, 1) := by decide +kernel
abbrev nd_X7_split : List Nat := [29, 30, 31, 32, 33]
abbrev ld_X7_split : List (Nat × Nat) := [(29, 0), (29, 1), (29, 2), (29, 3)]
theorem sn_X7_split_X7_addToken : ∀ c ∈ nd_X7_addToken, c ∈ nd_X7_split := by decide
theorem sl_X7_split_X7_addToken : ∀ q ∈ ld_X7_addToken, q ∈ ld_X7_split := by decide
theorem sn_X7_split_X7_takeToken : ∀ c ∈ nd_X7_takeToken, c ∈ nd_X7_split := by decide
theorem sl_X7_split_X7_takeToken : ∀ q ∈ ld_X7_takeToken, q ∈ ld_X7_split := by decide
def f_X7_split_7  : Nat → Int32 → zH → zR
  | 0 => fun _ _ => none
  | n + 1 => fun x1 h => (if (h 29 5) ≤ x1 then (zbd (f_X7_addToken (0 : Int32) (0 : Int32) (h 29 5) h) fun r2 h3 => (some (0, h3))) else (zbd (f_X7_takeToken x1 h) fun r4 h5 => (zlt (if (x1 + (1 : Int32)) < r4 then r4 else (x1 + (1 : Int32))) fun y6 => (f_X7_split_7  n y6 h5))))
def f_X7_split  (h : zH) : zR := (zst (zup h 29 8 (0 : Int32)) fun h1 => (f_X7_split_7  zN (0 : Int32) h1))
variable {p : Program} {l : Launch} {e : Env} {s : State} {m : MethodId} {args : Array Value} {below : List Frame} {meth : Method} {c : Code} {G : zG} {q : Int32 × zH}
set_option maxHeartbeats 4000000 in
set_option maxRecDepth 100000 in
theorem w_X7_split_7  (C : zC G p s m args meth c cX7_split 2 RX7 none) (hm : ∀ c ∈ nd_X7_split, c ∈ znm G) (hk : ∀ q ∈ ld_X7_split, zlk G q.1 q.2 = true)  : ∀ n, ∀ (ls : Array Slot) (H : Heap) (locs : List Loc) (h : zH) (x1 : Int32), lv_has ls 2 [(0, .ref (zal G 29)), (1, .int x1)] → zS G h s.heap H locs → f_X7_split_7  n x1 h = some q → W p l e (zrm (9)) s m args below meth c H locs 0 0 (MQ below (zQV G q.2) args s 0 0 (zA G)) (F0 m 7 ls []) := by
  intro n
  induction n with
  | zero => intro ls H locs h x1 hl hS hf; cases hf
  | succ n ih =>
    intro ls H locs h x1 hl hS hf
    rw [f_X7_split_7] at hf
    refine lv_iload_n C.1 C.2.1 dX7_split_7 rfl (lv_at hl 1 rfl) ?_
    refine lv_aload_n C.1 C.2.1 dX7_split_8 rfl (lv_at hl 0 rfl) ?_
    refine zgetI C hS ff_X7_36_29 (hm 29 (by decide)) dX7_split_9 ?_
    refine lv_icmp_ge (tgt := 30) C.1 C.2.1 dX7_split_12 (by decide) (fun hc => ?_) (fun hc => ?_)
    · have hf := zif_t hc hf
      refine lv_aload_n C.1 C.2.1 dX7_split_30 rfl (lv_at hl 0 rfl) ?_
      refine lv_iconst (v := (0 : Int32)) C.1 C.2.1 dX7_split_31 rfl ?_
      refine lv_iconst (v := (0 : Int32)) C.1 C.2.1 dX7_split_32 rfl ?_
      refine lv_aload_n C.1 C.2.1 dX7_split_33 rfl (lv_at hl 0 rfl) ?_
      refine zgetI C hS ff_X7_36_29 (hm 29 (by decide)) dX7_split_34 ?_
      obtain ⟨r2, h3, er2, hf⟩ := zbd_some hf
      refine zcallVV (As := [.int (0 : Int32), .int (0 : Int32), .int (h 29 5)]) (rest := []) C hS mv_X7_70 (c_X7_addToken l G h (0 : Int32) (0 : Int32) (h 29 5) (r2, h3) (fun c h => hm c (sn_X7_split_X7_addToken c h)) (fun q h => hk q (sl_X7_split_X7_addToken q h)) er2) (hm 29 (by decide)) ⟨_, _, _, sh_29, rfl, rfl⟩ rfl rfl (Nat.le_of_ble_eq_true rfl) hl.1 ⟨Nat.le_of_ble_eq_true rfl, Nat.le_of_ble_eq_true rfl, Nat.le_of_ble_eq_true rfl, Nat.le_of_ble_eq_true rfl⟩ dX7_split_37 (fun H locs hS => ?_)
      exact zretV C hS hf dX7_split_40
    · have hf := zif_f hc hf
      refine lv_iload_n C.1 C.2.1 dX7_split_15 rfl (lv_at hl 1 rfl) ?_
      refine lv_iconst (v := (1 : Int32)) C.1 C.2.1 dX7_split_16 rfl ?_
      refine lv_iadd C.1 C.2.1 dX7_split_17 ?_
      refine lv_aload_n C.1 C.2.1 dX7_split_18 rfl (lv_at hl 0 rfl) ?_
      refine lv_iload_n C.1 C.2.1 dX7_split_19 rfl (lv_at hl 1 rfl) ?_
      obtain ⟨r4, h5, er4, hf⟩ := zbd_some hf
      refine zcallVI (As := [.int x1]) (rest := [.int (x1 + (1 : Int32))]) C hS mv_X7_60 (c_X7_takeToken l G h x1 (r4, h5) (fun c h => hm c (sn_X7_split_X7_takeToken c h)) (fun q h => hk q (sl_X7_split_X7_takeToken q h)) er4) (hm 29 (by decide)) ⟨_, _, _, sh_29, rfl, rfl⟩ rfl rfl (Nat.le_of_ble_eq_true rfl) hl.1 ⟨Nat.le_of_ble_eq_true rfl, Nat.le_of_ble_eq_true rfl, Nat.le_of_ble_eq_true rfl, Nat.le_of_ble_eq_true rfl⟩ dX7_split_20 (fun H locs hS => ?_)
      refine zmax C kw_703 (Nat.le_of_ble_eq_true rfl) hl.1 ⟨Nat.le_of_ble_eq_true rfl, Nat.le_of_ble_eq_true rfl, Nat.le_of_ble_eq_true rfl, Nat.le_of_ble_eq_true rfl⟩ dX7_split_23 ?_
      obtain ⟨y6, ey6, hf⟩ := zlt_some hf
      refine ztop ey6 ?_
      refine lv_istore_n (lv' := [(1, .int y6), (0, .ref (zal G 29))]) C.1 C.2.1 dX7_split_26 rfl hl (by decide) rfl (fun ls hl => ?_)
      refine lv_goto (tgt := 7) C.1 C.2.1 dX7_split_27 (by decide) ?_
      exact ih _ _ _ _ _ (lv_sub hl [1, 0] rfl) hS hf
set_option maxHeartbeats 4000000 in
set_option maxRecDepth 100000 in
theorem c_X7_split (l : Launch) (G : zG) (h : zH) (q : Int32 × zH) (hm : ∀ c ∈ nd_X7_split, c ∈ znm G) (hk : ∀ q ∈ ld_X7_split, zlk G q.1 q.2 = true) (hf : f_X7_split h = some q) : zCtV l yX7_split cX7_split 2 none (9) [.ref (zal G 29)] G h q.2 := by
  refine zMetV (by decide) (Nat.le_of_ble_eq_true rfl) ?_
  intro p e s m below meth c ls C hl hS
  have hl : lv_has ls 2 [(0, .ref (zal G 29))] := hl
  have C : zC G p s m [.ref (zal G 29)].toArray meth c cX7_split 2 RX7 none := C
  unfold f_X7_split at hf
  refine lv_aload_n C.1 C.2.1 dX7_split_0 rfl (lv_at hl 0 rfl) ?_
  refine lv_iconst (v := (0 : Int32)) C.1 C.2.1 dX7_split_1 rfl ?_
  refine zputI C hS ff_X7_57_29 fw_29_8 (hm 29 (by decide)) dX7_split_2 (fun H locs hS => ?_)
  obtain ⟨h1, eh1, hf⟩ := zst_some hf
  have hS : zS G h1 s.heap H locs := by rw [eh1]; exact hS
  refine lv_iconst (v := (0 : Int32)) C.1 C.2.1 dX7_split_5 rfl ?_
  refine lv_istore_n (lv' := [(1, .int (0 : Int32)), (0, .ref (zal G 29))]) C.1 C.2.1 dX7_split_6 rfl hl (by decide) rfl (fun ls hl => ?_)
  exact w_X7_split_7 C hm hk  zN _ _ _ _ _ (lv_sub hl [1, 0] rfl) hS hf
end
section
theorem dX5_clear_0 : decode cX5_clear 0 = .ok (.aload_n 0, 1) := by decide +kernel
theorem dX5_clear_1 : decode cX5_clear 1 = .ok (.iconst 0, 1) := by decide +kernel
theorem dX5_clear_2 : decode cX5_clear 2 = .ok (.putfield 21, 3) := by decide +kernel
theorem dX5_clear_5 : decode cX5_clear 5 = .ok (.aload_n 0, 1) := by decide +kernel
theorem dX5_clear_6 : decode cX5_clear 6 = .ok (.iconst 0, 1) := by decide +kernel
theorem dX5_clear_7 : decode cX5_clear 7 = .ok (.putfield 25, 3) := by decide +kernel
theorem dX5_clear_10 : decode cX5_clear 10 = .ok (.return_, 1) := by decide +kernel
abbrev nd_X5_clear_t34 : List Nat := [34]
abbrev ld_X5_clear_t34 : List (Nat × Nat) := []
def f_X5_clear_t34  (h : zH) : zR := (zst (zup h 34 3 (0 : Int32)) fun h1 => (zst (zup h1 34 4 (0 : Int32)) fun h2 => (some (0, h2))))
variable {p : Program} {l : Launch} {e : Env} {s : State} {m : MethodId} {args : Array Value} {below : List Frame} {meth : Method} {c : Code} {G : zG} {q : Int32 × zH}
set_option maxHeartbeats 4000000 in
set_option maxRecDepth 100000 in
theorem c_X5_clear_t34 (l : Launch) (G : zG) (h : zH) (q : Int32 × zH) (hm : ∀ c ∈ nd_X5_clear_t34, c ∈ znm G) (hk : ∀ q ∈ ld_X5_clear_t34, zlk G q.1 q.2 = true) (hf : f_X5_clear_t34 h = some q) : zCtV l yX5_clear cX5_clear 1 none (2) [.ref (zal G 34)] G h q.2 := by
  refine zMetV (by decide) (Nat.le_of_ble_eq_true rfl) ?_
  intro p e s m below meth c ls C hl hS
  have hl : lv_has ls 1 [(0, .ref (zal G 34))] := hl
  have C : zC G p s m [.ref (zal G 34)].toArray meth c cX5_clear 1 RX5 none := C
  unfold f_X5_clear_t34 at hf
  refine lv_aload_n C.1 C.2.1 dX5_clear_0 rfl (lv_at hl 0 rfl) ?_
  refine lv_iconst (v := (0 : Int32)) C.1 C.2.1 dX5_clear_1 rfl ?_
  refine zputI C hS ff_X5_21_34 fw_34_3 (hm 34 (by decide)) dX5_clear_2 (fun H locs hS => ?_)
  obtain ⟨h1, eh1, hf⟩ := zst_some hf
  have hS : zS G h1 s.heap H locs := by rw [eh1]; exact hS
  refine lv_aload_n C.1 C.2.1 dX5_clear_5 rfl (lv_at hl 0 rfl) ?_
  refine lv_iconst (v := (0 : Int32)) C.1 C.2.1 dX5_clear_6 rfl ?_
  refine zputI C hS ff_X5_25_34 fw_34_4 (hm 34 (by decide)) dX5_clear_7 (fun H locs hS => ?_)
  obtain ⟨h2, eh2, hf⟩ := zst_some hf
  have hS : zS G h2 s.heap H locs := by rw [eh2]; exact hS
  exact zretV C hS hf dX5_clear_10
end
section
theorem dX7_blame_0 : decode cX7_blame 0 = .ok (.aload_n 0, 1) := by decide +kernel
theorem dX7_blame_1 : decode cX7_blame 1 = .ok (.getfield 45, 3) := by decide +kernel
theorem dX7_blame_4 : decode cX7_blame 4 = .ok (.ifCond .ne 26, 3) := by decide +kernel
theorem dX7_blame_7 : decode cX7_blame 7 = .ok (.aload_n 0, 1) := by decide +kernel
theorem dX7_blame_8 : decode cX7_blame 8 = .ok (.iload_n 1, 1) := by decide +kernel
theorem dX7_blame_9 : decode cX7_blame 9 = .ok (.putfield 45, 3) := by decide +kernel
theorem dX7_blame_12 : decode cX7_blame 12 = .ok (.aload_n 0, 1) := by decide +kernel
theorem dX7_blame_13 : decode cX7_blame 13 = .ok (.aload_n 0, 1) := by decide +kernel
theorem dX7_blame_14 : decode cX7_blame 14 = .ok (.getfield 22, 3) := by decide +kernel
theorem dX7_blame_17 : decode cX7_blame 17 = .ok (.aload_n 0, 1) := by decide +kernel
theorem dX7_blame_18 : decode cX7_blame 18 = .ok (.getfield 48, 3) := by decide +kernel
theorem dX7_blame_21 : decode cX7_blame 21 = .ok (.iaload, 1) := by decide +kernel
theorem dX7_blame_22 : decode cX7_blame 22 = .ok (.putfield 32, 3) := by decide +kernel
theorem dX7_blame_25 : decode cX7_blame 25 = .ok (.aload_n 0, 1) := by decide +kernel
theorem dX7_blame_26 : decode cX7_blame 26 = .ok (.iconst 1, 1) := by decide +kernel
theorem dX7_blame_27 : decode cX7_blame 27 = .ok (.putfield 51, 3) := by decide +kernel
theorem dX7_blame_30 : decode cX7_blame 30 = .ok (.return_, 1) := by decide +kernel
abbrev nd_X7_blame : List Nat := [29, 33]
abbrev ld_X7_blame : List (Nat × Nat) := [(29, 3)]
def f_X7_blame  (x1 : Int32) (h : zH) : zR := (if (h 29 6) = 0 then (zst (zup h 29 6 x1) fun h1 => (zck (h1 29 9) 401 (zst (zup h1 29 7 (h1 33 (Int32.toNatClampNeg (h1 29 9)))) fun h2 => (zst (zup h2 29 10 (1 : Int32)) fun h3 => (some (0, h3)))))) else (some (0, h)))
variable {p : Program} {l : Launch} {e : Env} {s : State} {m : MethodId} {args : Array Value} {below : List Frame} {meth : Method} {c : Code} {G : zG} {q : Int32 × zH}
set_option maxHeartbeats 4000000 in
set_option maxRecDepth 100000 in
theorem c_X7_blame (l : Launch) (G : zG) (h : zH) (x1 : Int32) (q : Int32 × zH) (hm : ∀ c ∈ nd_X7_blame, c ∈ znm G) (hk : ∀ q ∈ ld_X7_blame, zlk G q.1 q.2 = true) (hf : f_X7_blame x1 h = some q) : zCtV l yX7_blame cX7_blame 2 none (2) [.ref (zal G 29), .int x1] G h q.2 := by
  refine zMetV (by decide) (Nat.le_of_ble_eq_true rfl) ?_
  intro p e s m below meth c ls C hl hS
  have hl : lv_has ls 2 [(0, .ref (zal G 29)), (1, .int x1)] := hl
  have C : zC G p s m [.ref (zal G 29), .int x1].toArray meth c cX7_blame 2 RX7 none := C
  unfold f_X7_blame at hf
  refine lv_aload_n C.1 C.2.1 dX7_blame_0 rfl (lv_at hl 0 rfl) ?_
  refine zgetI C hS ff_X7_45_29 (hm 29 (by decide)) dX7_blame_1 ?_
  refine lv_if_ne (tgt := 30) C.1 C.2.1 dX7_blame_4 (by decide) (fun hc => ?_) (fun hc => ?_)
  · have hf := zif_f hc hf
    exact zretV C hS hf dX7_blame_30
  · have hf := zif_t hc hf
    refine lv_aload_n C.1 C.2.1 dX7_blame_7 rfl (lv_at hl 0 rfl) ?_
    refine lv_iload_n C.1 C.2.1 dX7_blame_8 rfl (lv_at hl 1 rfl) ?_
    refine zputI C hS ff_X7_45_29 fw_29_6 (hm 29 (by decide)) dX7_blame_9 (fun H locs hS => ?_)
    obtain ⟨h1, eh1, hf⟩ := zst_some hf
    have hS : zS G h1 s.heap H locs := by rw [eh1]; exact hS
    refine lv_aload_n C.1 C.2.1 dX7_blame_12 rfl (lv_at hl 0 rfl) ?_
    refine lv_aload_n C.1 C.2.1 dX7_blame_13 rfl (lv_at hl 0 rfl) ?_
    refine zgetR C hS ff_X7_22_29 (hm 29 (by decide)) (hk (29, 3) (by decide)) dX7_blame_14 ?_
    refine lv_aload_n C.1 C.2.1 dX7_blame_17 rfl (lv_at hl 0 rfl) ?_
    refine zgetI C hS ff_X7_48_29 (hm 29 (by decide)) dX7_blame_18 ?_
    obtain ⟨hi, hf⟩ := zck_some hf
    refine zald C hS sh_33 (hm 33 (by decide)) hi dX7_blame_21 ?_
    refine zputI C hS ff_X7_32_29 fw_29_7 (hm 29 (by decide)) dX7_blame_22 (fun H locs hS => ?_)
    obtain ⟨h2, eh2, hf⟩ := zst_some hf
    have hS : zS G h2 s.heap H locs := by rw [eh2]; exact hS
    refine lv_aload_n C.1 C.2.1 dX7_blame_25 rfl (lv_at hl 0 rfl) ?_
    refine lv_iconst (v := (1 : Int32)) C.1 C.2.1 dX7_blame_26 rfl ?_
    refine zputI C hS ff_X7_51_29 fw_29_10 (hm 29 (by decide)) dX7_blame_27 (fun H locs hS => ?_)
    obtain ⟨h3, eh3, hf⟩ := zst_some hf
    have hS : zS G h3 s.heap H locs := by rw [eh3]; exact hS
    exact zretV C hS hf dX7_blame_30
end
section
theorem dX7_step_0 : decode cX7_step 0 = .ok (.aload_n 0, 1) := by decide +kernel
theorem dX7_step_1 : decode cX7_step 1 = .ok (.getfield 45, 3) := by decide +kernel
theorem dX7_step_4 : decode cX7_step 4 = .ok (.ifCond .ne 39, 3) := by decide +kernel
theorem dX7_step_7 : decode cX7_step 7 = .ok (.aload_n 0, 1) := by decide +kernel
theorem dX7_step_8 : decode cX7_step 8 = .ok (.getfield 48, 3) := by decide +kernel
theorem dX7_step_11 : decode cX7_step 11 = .ok (.iconst 1, 1) := by decide +kernel
theorem dX7_step_12 : decode cX7_step 12 = .ok (.iadd, 1) := by decide +kernel
theorem dX7_step_13 : decode cX7_step 13 = .ok (.aload_n 0, 1) := by decide +kernel
theorem dX7_step_14 : decode cX7_step 14 = .ok (.getfield 57, 3) := by decide +kernel
theorem dX7_step_17 : decode cX7_step 17 = .ok (.if_icmp .ge 26, 3) := by decide +kernel
theorem dX7_step_20 : decode cX7_step 20 = .ok (.aload_n 0, 1) := by decide +kernel
theorem dX7_step_21 : decode cX7_step 21 = .ok (.dup, 1) := by decide +kernel
theorem dX7_step_22 : decode cX7_step 22 = .ok (.getfield 48, 3) := by decide +kernel
theorem dX7_step_25 : decode cX7_step 25 = .ok (.iconst 1, 1) := by decide +kernel
theorem dX7_step_26 : decode cX7_step 26 = .ok (.iadd, 1) := by decide +kernel
theorem dX7_step_27 : decode cX7_step 27 = .ok (.putfield 48, 3) := by decide +kernel
theorem dX7_step_30 : decode cX7_step 30 = .ok (.aload_n 0, 1) := by decide +kernel
theorem dX7_step_31 : decode cX7_step 31 = .ok (.aload_n 0, 1) := by decide +kernel
theorem dX7_step_32 : decode cX7_step 32 = .ok (.getfield 15, 3) := by decide +kernel
theorem dX7_step_35 : decode cX7_step 35 = .ok (.aload_n 0, 1) := by decide +kernel
theorem dX7_step_36 : decode cX7_step 36 = .ok (.getfield 48, 3) := by decide +kernel
theorem dX7_step_39 : decode cX7_step 39 = .ok (.iaload, 1) := by decide +kernel
theorem dX7_step_40 : decode cX7_step 40 = .ok (.putfield 51, 3) := by decide +kernel
theorem dX7_step_43 : decode cX7_step 43 = .ok (.return_, 1) := by decide +kernel
abbrev nd_X7_step : List Nat := [29, 31]
abbrev ld_X7_step : List (Nat × Nat) := [(29, 1)]
def f_X7_step  (h : zH) : zR := (if (h 29 6) = 0 then (if (h 29 8) ≤ ((h 29 9) + (1 : Int32)) then (some (0, h)) else (zst (zup h 29 9 ((h 29 9) + (1 : Int32))) fun h1 => (zck (h1 29 9) 401 (zst (zup h1 29 10 (h1 31 (Int32.toNatClampNeg (h1 29 9)))) fun h2 => (some (0, h2)))))) else (some (0, h)))
variable {p : Program} {l : Launch} {e : Env} {s : State} {m : MethodId} {args : Array Value} {below : List Frame} {meth : Method} {c : Code} {G : zG} {q : Int32 × zH}
set_option maxHeartbeats 4000000 in
set_option maxRecDepth 100000 in
theorem c_X7_step (l : Launch) (G : zG) (h : zH) (q : Int32 × zH) (hm : ∀ c ∈ nd_X7_step, c ∈ znm G) (hk : ∀ q ∈ ld_X7_step, zlk G q.1 q.2 = true) (hf : f_X7_step h = some q) : zCtV l yX7_step cX7_step 1 none (2) [.ref (zal G 29)] G h q.2 := by
  refine zMetV (by decide) (Nat.le_of_ble_eq_true rfl) ?_
  intro p e s m below meth c ls C hl hS
  have hl : lv_has ls 1 [(0, .ref (zal G 29))] := hl
  have C : zC G p s m [.ref (zal G 29)].toArray meth c cX7_step 1 RX7 none := C
  unfold f_X7_step at hf
  refine lv_aload_n C.1 C.2.1 dX7_step_0 rfl (lv_at hl 0 rfl) ?_
  refine zgetI C hS ff_X7_45_29 (hm 29 (by decide)) dX7_step_1 ?_
  refine lv_if_ne (tgt := 43) C.1 C.2.1 dX7_step_4 (by decide) (fun hc => ?_) (fun hc => ?_)
  · have hf := zif_f hc hf
    exact zretV C hS hf dX7_step_43
  · have hf := zif_t hc hf
    refine lv_aload_n C.1 C.2.1 dX7_step_7 rfl (lv_at hl 0 rfl) ?_
    refine zgetI C hS ff_X7_48_29 (hm 29 (by decide)) dX7_step_8 ?_
    refine lv_iconst (v := (1 : Int32)) C.1 C.2.1 dX7_step_11 rfl ?_
    refine lv_iadd C.1 C.2.1 dX7_step_12 ?_
    refine lv_aload_n C.1 C.2.1 dX7_step_13 rfl (lv_at hl 0 rfl) ?_
    refine zgetI C hS ff_X7_57_29 (hm 29 (by decide)) dX7_step_14 ?_
    refine lv_icmp_ge (tgt := 43) C.1 C.2.1 dX7_step_17 (by decide) (fun hc => ?_) (fun hc => ?_)
    · have hf := zif_t hc hf
      exact zretV C hS hf dX7_step_43
    · have hf := zif_f hc hf
      refine lv_aload_n C.1 C.2.1 dX7_step_20 rfl (lv_at hl 0 rfl) ?_
      refine lv_dup C.1 C.2.1 dX7_step_21 rfl ?_
      refine zgetI C hS ff_X7_48_29 (hm 29 (by decide)) dX7_step_22 ?_
      refine lv_iconst (v := (1 : Int32)) C.1 C.2.1 dX7_step_25 rfl ?_
      refine lv_iadd C.1 C.2.1 dX7_step_26 ?_
      refine zputI C hS ff_X7_48_29 fw_29_9 (hm 29 (by decide)) dX7_step_27 (fun H locs hS => ?_)
      obtain ⟨h1, eh1, hf⟩ := zst_some hf
      have hS : zS G h1 s.heap H locs := by rw [eh1]; exact hS
      refine lv_aload_n C.1 C.2.1 dX7_step_30 rfl (lv_at hl 0 rfl) ?_
      refine lv_aload_n C.1 C.2.1 dX7_step_31 rfl (lv_at hl 0 rfl) ?_
      refine zgetR C hS ff_X7_15_29 (hm 29 (by decide)) (hk (29, 1) (by decide)) dX7_step_32 ?_
      refine lv_aload_n C.1 C.2.1 dX7_step_35 rfl (lv_at hl 0 rfl) ?_
      refine zgetI C hS ff_X7_48_29 (hm 29 (by decide)) dX7_step_36 ?_
      obtain ⟨hi, hf⟩ := zck_some hf
      refine zald C hS sh_31 (hm 31 (by decide)) hi dX7_step_39 ?_
      refine zputI C hS ff_X7_51_29 fw_29_10 (hm 29 (by decide)) dX7_step_40 (fun H locs hS => ?_)
      obtain ⟨h2, eh2, hf⟩ := zst_some hf
      have hS : zS G h2 s.heap H locs := by rw [eh2]; exact hS
      exact zretV C hS hf dX7_step_43
end
section
theorem dX7_expect_0 : decode cX7_expect 0 = .ok (.aload_n 0, 1) := by decide +kernel
theorem dX7_expect_1 : decode cX7_expect 1 = .ok (.getfield 51, 3) := by decide +kernel
theorem dX7_expect_4 : decode cX7_expect 4 = .ok (.iload_n 1, 1) := by decide +kernel
theorem dX7_expect_5 : decode cX7_expect 5 = .ok (.if_icmp .lt 18, 3) := by decide +kernel
theorem dX7_expect_8 : decode cX7_expect 8 = .ok (.aload_n 0, 1) := by decide +kernel
theorem dX7_expect_9 : decode cX7_expect 9 = .ok (.getfield 51, 3) := by decide +kernel
theorem dX7_expect_12 : decode cX7_expect 12 = .ok (.iload_n 2, 1) := by decide +kernel
theorem dX7_expect_13 : decode cX7_expect 13 = .ok (.if_icmp .gt 10, 3) := by decide +kernel
theorem dX7_expect_16 : decode cX7_expect 16 = .ok (.aload_n 0, 1) := by decide +kernel
theorem dX7_expect_17 : decode cX7_expect 17 = .ok (.invokevirtual 104, 3) := by decide +kernel
theorem dX7_expect_20 : decode cX7_expect 20 = .ok (.goto 8, 3) := by decide +kernel
theorem dX7_expect_23 : decode cX7_expect 23 = .ok (.aload_n 0, 1) := by decide +kernel
theorem dX7_expect_24 : decode cX7_expect 24 = .ok (.iconst 1, 1) := by decide +kernel
theorem dX7_expect_25 : decode cX7_expect 25 = .ok (.invokevirtual 107, 3) := by decide +kernel
theorem dX7_expect_28 : decode cX7_expect 28 = .ok (.return_, 1) := by decide +kernel
abbrev nd_X7_expect : List Nat := [29, 31, 33]
abbrev ld_X7_expect : List (Nat × Nat) := [(29, 1), (29, 3)]
theorem sn_X7_expect_X7_blame : ∀ c ∈ nd_X7_blame, c ∈ nd_X7_expect := by decide
theorem sl_X7_expect_X7_blame : ∀ q ∈ ld_X7_blame, q ∈ ld_X7_expect := by decide
theorem sn_X7_expect_X7_step : ∀ c ∈ nd_X7_step, c ∈ nd_X7_expect := by decide
theorem sl_X7_expect_X7_step : ∀ q ∈ ld_X7_step, q ∈ ld_X7_expect := by decide
def f_X7_expect_23  (h : zH) : zR := (zbd (f_X7_blame (1 : Int32) h) fun r1 h2 => (some (0, h2)))
def f_X7_expect  (x1 : Int32) (x2 : Int32) (h : zH) : zR := (if (h 29 10) < x1 then (f_X7_expect_23   h) else (if x2 < (h 29 10) then (f_X7_expect_23   h) else (zbd (f_X7_step  h) fun r3 h4 => (some (0, h4)))))
variable {p : Program} {l : Launch} {e : Env} {s : State} {m : MethodId} {args : Array Value} {below : List Frame} {meth : Method} {c : Code} {G : zG} {q : Int32 × zH}
set_option maxHeartbeats 4000000 in
set_option maxRecDepth 100000 in
theorem w_X7_expect_23  (C : zC G p s m args meth c cX7_expect 3 RX7 none) (hm : ∀ c ∈ nd_X7_expect, c ∈ znm G) (hk : ∀ q ∈ ld_X7_expect, zlk G q.1 q.2 = true)  : ∀ (ls : Array Slot) (H : Heap) (locs : List Loc) (h : zH), lv_has ls 3 [(0, .ref (zal G 29))] → zS G h s.heap H locs → f_X7_expect_23  h = some q → W p l e (zrm (3)) s m args below meth c H locs 0 0 (MQ below (zQV G q.2) args s 0 0 (zA G)) (F0 m 23 ls []) := by
  intro ls H locs h hl hS hf
  unfold f_X7_expect_23 at hf
  refine lv_aload_n C.1 C.2.1 dX7_expect_23 rfl (lv_at hl 0 rfl) ?_
  refine lv_iconst (v := (1 : Int32)) C.1 C.2.1 dX7_expect_24 rfl ?_
  obtain ⟨r1, h2, er1, hf⟩ := zbd_some hf
  refine zcallVV (As := [.int (1 : Int32)]) (rest := []) C hS mv_X7_107 (c_X7_blame l G h (1 : Int32) (r1, h2) (fun c h => hm c (sn_X7_expect_X7_blame c h)) (fun q h => hk q (sl_X7_expect_X7_blame q h)) er1) (hm 29 (by decide)) ⟨_, _, _, sh_29, rfl, rfl⟩ rfl rfl (Nat.le_of_ble_eq_true rfl) hl.1 ⟨Nat.le_of_ble_eq_true rfl, Nat.le_of_ble_eq_true rfl, Nat.le_of_ble_eq_true rfl, Nat.le_of_ble_eq_true rfl⟩ dX7_expect_25 (fun H locs hS => ?_)
  exact zretV C hS hf dX7_expect_28
set_option maxHeartbeats 4000000 in
set_option maxRecDepth 100000 in
theorem c_X7_expect (l : Launch) (G : zG) (h : zH) (x1 : Int32) (x2 : Int32) (q : Int32 × zH) (hm : ∀ c ∈ nd_X7_expect, c ∈ znm G) (hk : ∀ q ∈ ld_X7_expect, zlk G q.1 q.2 = true) (hf : f_X7_expect x1 x2 h = some q) : zCtV l yX7_expect cX7_expect 3 none (3) [.ref (zal G 29), .int x1, .int x2] G h q.2 := by
  refine zMetV (by decide) (Nat.le_of_ble_eq_true rfl) ?_
  intro p e s m below meth c ls C hl hS
  have hl : lv_has ls 3 [(0, .ref (zal G 29)), (1, .int x1), (2, .int x2)] := hl
  have C : zC G p s m [.ref (zal G 29), .int x1, .int x2].toArray meth c cX7_expect 3 RX7 none := C
  unfold f_X7_expect at hf
  refine lv_aload_n C.1 C.2.1 dX7_expect_0 rfl (lv_at hl 0 rfl) ?_
  refine zgetI C hS ff_X7_51_29 (hm 29 (by decide)) dX7_expect_1 ?_
  refine lv_iload_n C.1 C.2.1 dX7_expect_4 rfl (lv_at hl 1 rfl) ?_
  refine lv_icmp_lt (tgt := 23) C.1 C.2.1 dX7_expect_5 (by decide) (fun hc => ?_) (fun hc => ?_)
  · have hf := zif_t hc hf
    exact w_X7_expect_23 C hm hk  _ _ _ _ (lv_sub hl [0] rfl) hS hf
  · have hf := zif_f hc hf
    refine lv_aload_n C.1 C.2.1 dX7_expect_8 rfl (lv_at hl 0 rfl) ?_
    refine zgetI C hS ff_X7_51_29 (hm 29 (by decide)) dX7_expect_9 ?_
    refine lv_iload_n C.1 C.2.1 dX7_expect_12 rfl (lv_at hl 2 rfl) ?_
    refine lv_icmp_gt (tgt := 23) C.1 C.2.1 dX7_expect_13 (by decide) (fun hc => ?_) (fun hc => ?_)
    · have hf := zif_t hc hf
      exact w_X7_expect_23 C hm hk  _ _ _ _ (lv_sub hl [0] rfl) hS hf
    · have hf := zif_f hc hf
      refine lv_aload_n C.1 C.2.1 dX7_expect_16 rfl (lv_at hl 0 rfl) ?_
      obtain ⟨r3, h4, er3, hf⟩ := zbd_some hf
      refine zcallVV (As := []) (rest := []) C hS mv_X7_104 (c_X7_step l G h  (r3, h4) (fun c h => hm c (sn_X7_expect_X7_step c h)) (fun q h => hk q (sl_X7_expect_X7_step q h)) er3) (hm 29 (by decide)) ⟨_, _, _, sh_29, rfl, rfl⟩ rfl rfl (Nat.le_of_ble_eq_true rfl) hl.1 ⟨Nat.le_of_ble_eq_true rfl, Nat.le_of_ble_eq_true rfl, Nat.le_of_ble_eq_true rfl, Nat.le_of_ble_eq_true rfl⟩ dX7_expect_17 (fun H locs hS => ?_)
      refine lv_goto (tgt := 28) C.1 C.2.1 dX7_expect_20 (by decide) ?_
      exact zretV C hS hf dX7_expect_28
end
section
theorem dX5_add_0 : decode cX5_add 0 = .ok (.aload_n 0, 1) := by decide +kernel
theorem dX5_add_1 : decode cX5_add 1 = .ok (.getfield 21, 3) := by decide +kernel
theorem dX5_add_4 : decode cX5_add 4 = .ok (.sipush 400, 3) := by decide +kernel
theorem dX5_add_7 : decode cX5_add 7 = .ok (.if_icmp .ge 33, 3) := by decide +kernel
theorem dX5_add_10 : decode cX5_add 10 = .ok (.aload_n 0, 1) := by decide +kernel
theorem dX5_add_11 : decode cX5_add 11 = .ok (.getfield 11, 3) := by decide +kernel
theorem dX5_add_14 : decode cX5_add 14 = .ok (.aload_n 0, 1) := by decide +kernel
theorem dX5_add_15 : decode cX5_add 15 = .ok (.getfield 21, 3) := by decide +kernel
theorem dX5_add_18 : decode cX5_add 18 = .ok (.iload_n 1, 1) := by decide +kernel
theorem dX5_add_19 : decode cX5_add 19 = .ok (.iastore, 1) := by decide +kernel
theorem dX5_add_20 : decode cX5_add 20 = .ok (.aload_n 0, 1) := by decide +kernel
theorem dX5_add_21 : decode cX5_add 21 = .ok (.getfield 15, 3) := by decide +kernel
theorem dX5_add_24 : decode cX5_add 24 = .ok (.aload_n 0, 1) := by decide +kernel
theorem dX5_add_25 : decode cX5_add 25 = .ok (.getfield 21, 3) := by decide +kernel
theorem dX5_add_28 : decode cX5_add 28 = .ok (.iload_n 2, 1) := by decide +kernel
theorem dX5_add_29 : decode cX5_add 29 = .ok (.iastore, 1) := by decide +kernel
theorem dX5_add_30 : decode cX5_add 30 = .ok (.aload_n 0, 1) := by decide +kernel
theorem dX5_add_31 : decode cX5_add 31 = .ok (.dup, 1) := by decide +kernel
theorem dX5_add_32 : decode cX5_add 32 = .ok (.getfield 21, 3) := by decide +kernel
theorem dX5_add_35 : decode cX5_add 35 = .ok (.iconst 1, 1) := by decide +kernel
theorem dX5_add_36 : decode cX5_add 36 = .ok (.iadd, 1) := by decide +kernel
theorem dX5_add_37 : decode cX5_add 37 = .ok (.putfield 21, 3) := by decide +kernel
theorem dX5_add_40 : decode cX5_add 40 = .ok (.return_, 1) := by decide +kernel
abbrev nd_X5_add_t34 : List Nat := [34, 35, 36]
abbrev ld_X5_add_t34 : List (Nat × Nat) := [(34, 0), (34, 1)]
def f_X5_add_t34  (x1 : Int32) (x2 : Int32) (h : zH) : zR := (if (400 : Int32) ≤ (h 34 3) then (some (0, h)) else (zck (h 34 3) 400 (zst (zup h 35 (Int32.toNatClampNeg (h 34 3)) x1) fun h1 => (zck (h1 34 3) 400 (zst (zup h1 36 (Int32.toNatClampNeg (h1 34 3)) x2) fun h2 => (zst (zup h2 34 3 ((h2 34 3) + (1 : Int32))) fun h3 => (some (0, h3))))))))
variable {p : Program} {l : Launch} {e : Env} {s : State} {m : MethodId} {args : Array Value} {below : List Frame} {meth : Method} {c : Code} {G : zG} {q : Int32 × zH}
set_option maxHeartbeats 4000000 in
set_option maxRecDepth 100000 in
theorem c_X5_add_t34 (l : Launch) (G : zG) (h : zH) (x1 : Int32) (x2 : Int32) (q : Int32 × zH) (hm : ∀ c ∈ nd_X5_add_t34, c ∈ znm G) (hk : ∀ q ∈ ld_X5_add_t34, zlk G q.1 q.2 = true) (hf : f_X5_add_t34 x1 x2 h = some q) : zCtV l yX5_add cX5_add 3 none (2) [.ref (zal G 34), .int x1, .int x2] G h q.2 := by
  refine zMetV (by decide) (Nat.le_of_ble_eq_true rfl) ?_
  intro p e s m below meth c ls C hl hS
  have hl : lv_has ls 3 [(0, .ref (zal G 34)), (1, .int x1), (2, .int x2)] := hl
  have C : zC G p s m [.ref (zal G 34), .int x1, .int x2].toArray meth c cX5_add 3 RX5 none := C
  unfold f_X5_add_t34 at hf
  refine lv_aload_n C.1 C.2.1 dX5_add_0 rfl (lv_at hl 0 rfl) ?_
  refine zgetI C hS ff_X5_21_34 (hm 34 (by decide)) dX5_add_1 ?_
  refine lv_sipush (v := (400 : Int32)) C.1 C.2.1 dX5_add_4 rfl ?_
  refine lv_icmp_ge (tgt := 40) C.1 C.2.1 dX5_add_7 (by decide) (fun hc => ?_) (fun hc => ?_)
  · have hf := zif_t hc hf
    exact zretV C hS hf dX5_add_40
  · have hf := zif_f hc hf
    refine lv_aload_n C.1 C.2.1 dX5_add_10 rfl (lv_at hl 0 rfl) ?_
    refine zgetR C hS ff_X5_11_34 (hm 34 (by decide)) (hk (34, 0) (by decide)) dX5_add_11 ?_
    refine lv_aload_n C.1 C.2.1 dX5_add_14 rfl (lv_at hl 0 rfl) ?_
    refine zgetI C hS ff_X5_21_34 (hm 34 (by decide)) dX5_add_15 ?_
    refine lv_iload_n C.1 C.2.1 dX5_add_18 rfl (lv_at hl 1 rfl) ?_
    obtain ⟨hi, hf⟩ := zck_some hf
    refine zast C hS sh_35 (hm 35 (by decide)) hi dX5_add_19 (fun H locs hS => ?_)
    obtain ⟨h1, eh1, hf⟩ := zst_some hf
    have hS : zS G h1 s.heap H locs := by rw [eh1]; exact hS
    refine lv_aload_n C.1 C.2.1 dX5_add_20 rfl (lv_at hl 0 rfl) ?_
    refine zgetR C hS ff_X5_15_34 (hm 34 (by decide)) (hk (34, 1) (by decide)) dX5_add_21 ?_
    refine lv_aload_n C.1 C.2.1 dX5_add_24 rfl (lv_at hl 0 rfl) ?_
    refine zgetI C hS ff_X5_21_34 (hm 34 (by decide)) dX5_add_25 ?_
    refine lv_iload_n C.1 C.2.1 dX5_add_28 rfl (lv_at hl 2 rfl) ?_
    obtain ⟨hi, hf⟩ := zck_some hf
    refine zast C hS sh_36 (hm 36 (by decide)) hi dX5_add_29 (fun H locs hS => ?_)
    obtain ⟨h2, eh2, hf⟩ := zst_some hf
    have hS : zS G h2 s.heap H locs := by rw [eh2]; exact hS
    refine lv_aload_n C.1 C.2.1 dX5_add_30 rfl (lv_at hl 0 rfl) ?_
    refine lv_dup C.1 C.2.1 dX5_add_31 rfl ?_
    refine zgetI C hS ff_X5_21_34 (hm 34 (by decide)) dX5_add_32 ?_
    refine lv_iconst (v := (1 : Int32)) C.1 C.2.1 dX5_add_35 rfl ?_
    refine lv_iadd C.1 C.2.1 dX5_add_36 ?_
    refine zputI C hS ff_X5_21_34 fw_34_3 (hm 34 (by decide)) dX5_add_37 (fun H locs hS => ?_)
    obtain ⟨h3, eh3, hf⟩ := zst_some hf
    have hS : zS G h3 s.heap H locs := by rw [eh3]; exact hS
    exact zretV C hS hf dX5_add_40
end
section
theorem dX7_readUnit_0 : decode cX7_readUnit 0 = .ok (.aload_n 0, 1) := by decide +kernel
theorem dX7_readUnit_1 : decode cX7_readUnit 1 = .ok (.getfield 51, 3) := by decide +kernel
theorem dX7_readUnit_4 : decode cX7_readUnit 4 = .ok (.iconst 2, 1) := by decide +kernel
theorem dX7_readUnit_5 : decode cX7_readUnit 5 = .ok (.if_icmp .ne 7, 3) := by decide +kernel
theorem dX7_readUnit_8 : decode cX7_readUnit 8 = .ok (.iconst 1, 1) := by decide +kernel
theorem dX7_readUnit_9 : decode cX7_readUnit 9 = .ok (.goto 4, 3) := by decide +kernel
theorem dX7_readUnit_12 : decode cX7_readUnit 12 = .ok (.iconst 0, 1) := by decide +kernel
theorem dX7_readUnit_13 : decode cX7_readUnit 13 = .ok (.istore_n 2, 1) := by decide +kernel
theorem dX7_readUnit_14 : decode cX7_readUnit 14 = .ok (.aload_n 0, 1) := by decide +kernel
theorem dX7_readUnit_15 : decode cX7_readUnit 15 = .ok (.getfield 51, 3) := by decide +kernel
theorem dX7_readUnit_18 : decode cX7_readUnit 18 = .ok (.bipush 8, 2) := by decide +kernel
theorem dX7_readUnit_20 : decode cX7_readUnit 20 = .ok (.if_icmp .lt 16, 3) := by decide +kernel
theorem dX7_readUnit_23 : decode cX7_readUnit 23 = .ok (.aload_n 0, 1) := by decide +kernel
theorem dX7_readUnit_24 : decode cX7_readUnit 24 = .ok (.getfield 51, 3) := by decide +kernel
theorem dX7_readUnit_27 : decode cX7_readUnit 27 = .ok (.bipush 14, 2) := by decide +kernel
theorem dX7_readUnit_29 : decode cX7_readUnit 29 = .ok (.if_icmp .gt 7, 3) := by decide +kernel
theorem dX7_readUnit_32 : decode cX7_readUnit 32 = .ok (.iconst 1, 1) := by decide +kernel
theorem dX7_readUnit_33 : decode cX7_readUnit 33 = .ok (.goto 4, 3) := by decide +kernel
theorem dX7_readUnit_36 : decode cX7_readUnit 36 = .ok (.iconst 0, 1) := by decide +kernel
theorem dX7_readUnit_37 : decode cX7_readUnit 37 = .ok (.istore_n 3, 1) := by decide +kernel
theorem dX7_readUnit_38 : decode cX7_readUnit 38 = .ok (.iload_n 2, 1) := by decide +kernel
theorem dX7_readUnit_39 : decode cX7_readUnit 39 = .ok (.ifCond .ne 19, 3) := by decide +kernel
theorem dX7_readUnit_42 : decode cX7_readUnit 42 = .ok (.iload_n 3, 1) := by decide +kernel
theorem dX7_readUnit_43 : decode cX7_readUnit 43 = .ok (.ifCond .eq 9, 3) := by decide +kernel
theorem dX7_readUnit_46 : decode cX7_readUnit 46 = .ok (.iload_n 1, 1) := by decide +kernel
theorem dX7_readUnit_47 : decode cX7_readUnit 47 = .ok (.bipush 19, 2) := by decide +kernel
theorem dX7_readUnit_49 : decode cX7_readUnit 49 = .ok (.if_icmp .ne 9, 3) := by decide +kernel
theorem dX7_readUnit_52 : decode cX7_readUnit 52 = .ok (.aload_n 0, 1) := by decide +kernel
theorem dX7_readUnit_53 : decode cX7_readUnit 53 = .ok (.iconst 1, 1) := by decide +kernel
theorem dX7_readUnit_54 : decode cX7_readUnit 54 = .ok (.invokevirtual 107, 3) := by decide +kernel
theorem dX7_readUnit_57 : decode cX7_readUnit 57 = .ok (.return_, 1) := by decide +kernel
theorem dX7_readUnit_58 : decode cX7_readUnit 58 = .ok (.iload_n 1, 1) := by decide +kernel
theorem dX7_readUnit_59 : decode cX7_readUnit 59 = .ok (.bipush 19, 2) := by decide +kernel
theorem dX7_readUnit_61 : decode cX7_readUnit 61 = .ok (.if_icmp .ne 21, 3) := by decide +kernel
theorem dX7_readUnit_64 : decode cX7_readUnit 64 = .ok (.aload_n 0, 1) := by decide +kernel
theorem dX7_readUnit_65 : decode cX7_readUnit 65 = .ok (.getfield 19, 3) := by decide +kernel
theorem dX7_readUnit_68 : decode cX7_readUnit 68 = .ok (.aload_n 0, 1) := by decide +kernel
theorem dX7_readUnit_69 : decode cX7_readUnit 69 = .ok (.getfield 48, 3) := by decide +kernel
theorem dX7_readUnit_72 : decode cX7_readUnit 72 = .ok (.iaload, 1) := by decide +kernel
theorem dX7_readUnit_73 : decode cX7_readUnit 73 = .ok (.ifCond .ne 9, 3) := by decide +kernel
theorem dX7_readUnit_76 : decode cX7_readUnit 76 = .ok (.aload_n 0, 1) := by decide +kernel
theorem dX7_readUnit_77 : decode cX7_readUnit 77 = .ok (.iconst 2, 1) := by decide +kernel
theorem dX7_readUnit_78 : decode cX7_readUnit 78 = .ok (.invokevirtual 107, 3) := by decide +kernel
theorem dX7_readUnit_81 : decode cX7_readUnit 81 = .ok (.return_, 1) := by decide +kernel
theorem dX7_readUnit_82 : decode cX7_readUnit 82 = .ok (.aload_n 0, 1) := by decide +kernel
theorem dX7_readUnit_83 : decode cX7_readUnit 83 = .ok (.getfield 28, 3) := by decide +kernel
theorem dX7_readUnit_86 : decode cX7_readUnit 86 = .ok (.iload_n 1, 1) := by decide +kernel
theorem dX7_readUnit_87 : decode cX7_readUnit 87 = .ok (.bipush 19, 2) := by decide +kernel
theorem dX7_readUnit_89 : decode cX7_readUnit 89 = .ok (.if_icmp .ne 8, 3) := by decide +kernel
theorem dX7_readUnit_92 : decode cX7_readUnit 92 = .ok (.bipush 19, 2) := by decide +kernel
theorem dX7_readUnit_94 : decode cX7_readUnit 94 = .ok (.goto 7, 3) := by decide +kernel
theorem dX7_readUnit_97 : decode cX7_readUnit 97 = .ok (.aload_n 0, 1) := by decide +kernel
theorem dX7_readUnit_98 : decode cX7_readUnit 98 = .ok (.getfield 51, 3) := by decide +kernel
theorem dX7_readUnit_101 : decode cX7_readUnit 101 = .ok (.aload_n 0, 1) := by decide +kernel
theorem dX7_readUnit_102 : decode cX7_readUnit 102 = .ok (.getfield 19, 3) := by decide +kernel
theorem dX7_readUnit_105 : decode cX7_readUnit 105 = .ok (.aload_n 0, 1) := by decide +kernel
theorem dX7_readUnit_106 : decode cX7_readUnit 106 = .ok (.getfield 48, 3) := by decide +kernel
theorem dX7_readUnit_109 : decode cX7_readUnit 109 = .ok (.iaload, 1) := by decide +kernel
theorem dX7_readUnit_110 : decode cX7_readUnit 110 = .ok (.invokevirtual 124, 3) := by decide +kernel
theorem dX7_readUnit_113 : decode cX7_readUnit 113 = .ok (.iload_n 1, 1) := by decide +kernel
theorem dX7_readUnit_114 : decode cX7_readUnit 114 = .ok (.bipush 18, 2) := by decide +kernel
theorem dX7_readUnit_116 : decode cX7_readUnit 116 = .ok (.if_icmp .ne 13, 3) := by decide +kernel
theorem dX7_readUnit_119 : decode cX7_readUnit 119 = .ok (.aload_n 0, 1) := by decide +kernel
theorem dX7_readUnit_120 : decode cX7_readUnit 120 = .ok (.getfield 28, 3) := by decide +kernel
theorem dX7_readUnit_123 : decode cX7_readUnit 123 = .ok (.bipush 18, 2) := by decide +kernel
theorem dX7_readUnit_125 : decode cX7_readUnit 125 = .ok (.iconst 0, 1) := by decide +kernel
theorem dX7_readUnit_126 : decode cX7_readUnit 126 = .ok (.invokevirtual 124, 3) := by decide +kernel
theorem dX7_readUnit_129 : decode cX7_readUnit 129 = .ok (.aload_n 0, 1) := by decide +kernel
theorem dX7_readUnit_130 : decode cX7_readUnit 130 = .ok (.invokevirtual 104, 3) := by decide +kernel
theorem dX7_readUnit_133 : decode cX7_readUnit 133 = .ok (.return_, 1) := by decide +kernel
abbrev nd_X7_readUnit : List Nat := [29, 31, 32, 33, 34, 35, 36]
abbrev ld_X7_readUnit : List (Nat × Nat) := [(29, 1), (29, 2), (29, 3), (29, 4), (34, 0), (34, 1)]
theorem sn_X7_readUnit_X5_add_t34 : ∀ c ∈ nd_X5_add_t34, c ∈ nd_X7_readUnit := by decide
theorem sl_X7_readUnit_X5_add_t34 : ∀ q ∈ ld_X5_add_t34, q ∈ ld_X7_readUnit := by decide
theorem sn_X7_readUnit_X7_step : ∀ c ∈ nd_X7_step, c ∈ nd_X7_readUnit := by decide
theorem sl_X7_readUnit_X7_step : ∀ q ∈ ld_X7_step, q ∈ ld_X7_readUnit := by decide
theorem sn_X7_readUnit_X7_blame : ∀ c ∈ nd_X7_blame, c ∈ nd_X7_readUnit := by decide
theorem sl_X7_readUnit_X7_blame : ∀ q ∈ ld_X7_blame, q ∈ ld_X7_readUnit := by decide
def f_X7_readUnit_129  (h : zH) : zR := (zbd (f_X7_step  h) fun r3 h4 => (some (0, h4)))
def f_X7_readUnit_101  (x1 : Int32) (s0 : Int32) (h : zH) : zR := (zck (h 29 9) 401 (zbd (f_X5_add_t34 s0 (h 32 (Int32.toNatClampNeg (h 29 9))) h) fun r1 h2 => (if x1 = (18 : Int32) then (zbd (f_X5_add_t34 (18 : Int32) (0 : Int32) h2) fun r5 h6 => (f_X7_readUnit_129   h6)) else (f_X7_readUnit_129   h2))))
def f_X7_readUnit_82  (x1 : Int32) (h : zH) : zR := (if x1 = (19 : Int32) then (f_X7_readUnit_101  x1 (19 : Int32) h) else (f_X7_readUnit_101  x1 (h 29 10) h))
def f_X7_readUnit_58  (x1 : Int32) (h : zH) : zR := (if x1 = (19 : Int32) then (zck (h 29 9) 401 (if (h 32 (Int32.toNatClampNeg (h 29 9))) = 0 then (zbd (f_X7_blame (2 : Int32) h) fun r7 h8 => (some (0, h8))) else (f_X7_readUnit_82  x1 h))) else (f_X7_readUnit_82  x1 h))
def f_X7_readUnit_52  (h : zH) : zR := (zbd (f_X7_blame (1 : Int32) h) fun r9 h10 => (some (0, h10)))
def f_X7_readUnit_37  (x1 : Int32) (x2 : Int32) (s0 : Int32) (h : zH) : zR := (if x2 = 0 then (if s0 = 0 then (f_X7_readUnit_52   h) else (if x1 = (19 : Int32) then (f_X7_readUnit_52   h) else (f_X7_readUnit_58  x1 h))) else (f_X7_readUnit_58  x1 h))
def f_X7_readUnit_36  (x1 : Int32) (x2 : Int32) (h : zH) : zR := (f_X7_readUnit_37  x1 x2 (0 : Int32) h)
def f_X7_readUnit_13  (x1 : Int32) (s0 : Int32) (h : zH) : zR := (if (h 29 10) < (8 : Int32) then (f_X7_readUnit_36  x1 s0 h) else (if (14 : Int32) < (h 29 10) then (f_X7_readUnit_36  x1 s0 h) else (f_X7_readUnit_37  x1 s0 (1 : Int32) h)))
def f_X7_readUnit  (x1 : Int32) (h : zH) : zR := (if (h 29 10) = (2 : Int32) then (f_X7_readUnit_13  x1 (1 : Int32) h) else (f_X7_readUnit_13  x1 (0 : Int32) h))
variable {p : Program} {l : Launch} {e : Env} {s : State} {m : MethodId} {args : Array Value} {below : List Frame} {meth : Method} {c : Code} {G : zG} {q : Int32 × zH}
set_option maxHeartbeats 4000000 in
set_option maxRecDepth 100000 in
theorem w_X7_readUnit_129  (C : zC G p s m args meth c cX7_readUnit 4 RX7 none) (hm : ∀ c ∈ nd_X7_readUnit, c ∈ znm G) (hk : ∀ q ∈ ld_X7_readUnit, zlk G q.1 q.2 = true)  : ∀ (ls : Array Slot) (H : Heap) (locs : List Loc) (h : zH), lv_has ls 4 [(0, .ref (zal G 29))] → zS G h s.heap H locs → f_X7_readUnit_129  h = some q → W p l e (zrm (3)) s m args below meth c H locs 0 0 (MQ below (zQV G q.2) args s 0 0 (zA G)) (F0 m 129 ls []) := by
  intro ls H locs h hl hS hf
  unfold f_X7_readUnit_129 at hf
  refine lv_aload_n C.1 C.2.1 dX7_readUnit_129 rfl (lv_at hl 0 rfl) ?_
  obtain ⟨r3, h4, er3, hf⟩ := zbd_some hf
  refine zcallVV (As := []) (rest := []) C hS mv_X7_104 (c_X7_step l G h  (r3, h4) (fun c h => hm c (sn_X7_readUnit_X7_step c h)) (fun q h => hk q (sl_X7_readUnit_X7_step q h)) er3) (hm 29 (by decide)) ⟨_, _, _, sh_29, rfl, rfl⟩ rfl rfl (Nat.le_of_ble_eq_true rfl) hl.1 ⟨Nat.le_of_ble_eq_true rfl, Nat.le_of_ble_eq_true rfl, Nat.le_of_ble_eq_true rfl, Nat.le_of_ble_eq_true rfl⟩ dX7_readUnit_130 (fun H locs hS => ?_)
  exact zretV C hS hf dX7_readUnit_133
set_option maxHeartbeats 4000000 in
set_option maxRecDepth 100000 in
theorem w_X7_readUnit_101  (C : zC G p s m args meth c cX7_readUnit 4 RX7 none) (hm : ∀ c ∈ nd_X7_readUnit, c ∈ znm G) (hk : ∀ q ∈ ld_X7_readUnit, zlk G q.1 q.2 = true)  : ∀ (ls : Array Slot) (H : Heap) (locs : List Loc) (h : zH) (x1 : Int32) (s0 : Int32), lv_has ls 4 [(0, .ref (zal G 29)), (1, .int x1)] → zS G h s.heap H locs → f_X7_readUnit_101  x1 s0 h = some q → W p l e (zrm (3)) s m args below meth c H locs 0 0 (MQ below (zQV G q.2) args s 0 0 (zA G)) (F0 m 101 ls [.int s0, .ref (zal G 34)]) := by
  intro ls H locs h x1 s0 hl hS hf
  unfold f_X7_readUnit_101 at hf
  refine lv_aload_n C.1 C.2.1 dX7_readUnit_101 rfl (lv_at hl 0 rfl) ?_
  refine zgetR C hS ff_X7_19_29 (hm 29 (by decide)) (hk (29, 2) (by decide)) dX7_readUnit_102 ?_
  refine lv_aload_n C.1 C.2.1 dX7_readUnit_105 rfl (lv_at hl 0 rfl) ?_
  refine zgetI C hS ff_X7_48_29 (hm 29 (by decide)) dX7_readUnit_106 ?_
  obtain ⟨hi, hf⟩ := zck_some hf
  refine zald C hS sh_32 (hm 32 (by decide)) hi dX7_readUnit_109 ?_
  obtain ⟨r1, h2, er1, hf⟩ := zbd_some hf
  refine zcallVV (As := [.int s0, .int (h 32 (Int32.toNatClampNeg (h 29 9)))]) (rest := []) C hS mv_X7_124 (c_X5_add_t34 l G h s0 (h 32 (Int32.toNatClampNeg (h 29 9))) (r1, h2) (fun c h => hm c (sn_X7_readUnit_X5_add_t34 c h)) (fun q h => hk q (sl_X7_readUnit_X5_add_t34 q h)) er1) (hm 34 (by decide)) ⟨_, _, _, sh_34, rfl, rfl⟩ rfl rfl (Nat.le_of_ble_eq_true rfl) hl.1 ⟨Nat.le_of_ble_eq_true rfl, Nat.le_of_ble_eq_true rfl, Nat.le_of_ble_eq_true rfl, Nat.le_of_ble_eq_true rfl⟩ dX7_readUnit_110 (fun H locs hS => ?_)
  refine lv_iload_n C.1 C.2.1 dX7_readUnit_113 rfl (lv_at hl 1 rfl) ?_
  refine lv_bipush (v := (18 : Int32)) C.1 C.2.1 dX7_readUnit_114 rfl ?_
  refine lv_icmp_ne (tgt := 129) C.1 C.2.1 dX7_readUnit_116 (by decide) (fun hc => ?_) (fun hc => ?_)
  · have hf := zif_f hc hf
    exact w_X7_readUnit_129 C hm hk  _ _ _ _ (lv_sub hl [0] rfl) hS hf
  · have hf := zif_t hc hf
    refine lv_aload_n C.1 C.2.1 dX7_readUnit_119 rfl (lv_at hl 0 rfl) ?_
    refine zgetR C hS ff_X7_28_29 (hm 29 (by decide)) (hk (29, 4) (by decide)) dX7_readUnit_120 ?_
    refine lv_bipush (v := (18 : Int32)) C.1 C.2.1 dX7_readUnit_123 rfl ?_
    refine lv_iconst (v := (0 : Int32)) C.1 C.2.1 dX7_readUnit_125 rfl ?_
    obtain ⟨r5, h6, er5, hf⟩ := zbd_some hf
    refine zcallVV (As := [.int (18 : Int32), .int (0 : Int32)]) (rest := []) C hS mv_X7_124 (c_X5_add_t34 l G h2 (18 : Int32) (0 : Int32) (r5, h6) (fun c h => hm c (sn_X7_readUnit_X5_add_t34 c h)) (fun q h => hk q (sl_X7_readUnit_X5_add_t34 q h)) er5) (hm 34 (by decide)) ⟨_, _, _, sh_34, rfl, rfl⟩ rfl rfl (Nat.le_of_ble_eq_true rfl) hl.1 ⟨Nat.le_of_ble_eq_true rfl, Nat.le_of_ble_eq_true rfl, Nat.le_of_ble_eq_true rfl, Nat.le_of_ble_eq_true rfl⟩ dX7_readUnit_126 (fun H locs hS => ?_)
    exact w_X7_readUnit_129 C hm hk  _ _ _ _ (lv_sub hl [0] rfl) hS hf
set_option maxHeartbeats 4000000 in
set_option maxRecDepth 100000 in
theorem w_X7_readUnit_82  (C : zC G p s m args meth c cX7_readUnit 4 RX7 none) (hm : ∀ c ∈ nd_X7_readUnit, c ∈ znm G) (hk : ∀ q ∈ ld_X7_readUnit, zlk G q.1 q.2 = true)  : ∀ (ls : Array Slot) (H : Heap) (locs : List Loc) (h : zH) (x1 : Int32), lv_has ls 4 [(0, .ref (zal G 29)), (1, .int x1)] → zS G h s.heap H locs → f_X7_readUnit_82  x1 h = some q → W p l e (zrm (3)) s m args below meth c H locs 0 0 (MQ below (zQV G q.2) args s 0 0 (zA G)) (F0 m 82 ls []) := by
  intro ls H locs h x1 hl hS hf
  unfold f_X7_readUnit_82 at hf
  refine lv_aload_n C.1 C.2.1 dX7_readUnit_82 rfl (lv_at hl 0 rfl) ?_
  refine zgetR C hS ff_X7_28_29 (hm 29 (by decide)) (hk (29, 4) (by decide)) dX7_readUnit_83 ?_
  refine lv_iload_n C.1 C.2.1 dX7_readUnit_86 rfl (lv_at hl 1 rfl) ?_
  refine lv_bipush (v := (19 : Int32)) C.1 C.2.1 dX7_readUnit_87 rfl ?_
  refine lv_icmp_ne (tgt := 97) C.1 C.2.1 dX7_readUnit_89 (by decide) (fun hc => ?_) (fun hc => ?_)
  · have hf := zif_f hc hf
    refine lv_aload_n C.1 C.2.1 dX7_readUnit_97 rfl (lv_at hl 0 rfl) ?_
    refine zgetI C hS ff_X7_51_29 (hm 29 (by decide)) dX7_readUnit_98 ?_
    exact w_X7_readUnit_101 C hm hk  _ _ _ _ _ _ (lv_sub hl [0, 1] rfl) hS hf
  · have hf := zif_t hc hf
    refine lv_bipush (v := (19 : Int32)) C.1 C.2.1 dX7_readUnit_92 rfl ?_
    refine lv_goto (tgt := 101) C.1 C.2.1 dX7_readUnit_94 (by decide) ?_
    exact w_X7_readUnit_101 C hm hk  _ _ _ _ _ _ (lv_sub hl [0, 1] rfl) hS hf
set_option maxHeartbeats 4000000 in
set_option maxRecDepth 100000 in
theorem w_X7_readUnit_58  (C : zC G p s m args meth c cX7_readUnit 4 RX7 none) (hm : ∀ c ∈ nd_X7_readUnit, c ∈ znm G) (hk : ∀ q ∈ ld_X7_readUnit, zlk G q.1 q.2 = true)  : ∀ (ls : Array Slot) (H : Heap) (locs : List Loc) (h : zH) (x1 : Int32), lv_has ls 4 [(0, .ref (zal G 29)), (1, .int x1)] → zS G h s.heap H locs → f_X7_readUnit_58  x1 h = some q → W p l e (zrm (3)) s m args below meth c H locs 0 0 (MQ below (zQV G q.2) args s 0 0 (zA G)) (F0 m 58 ls []) := by
  intro ls H locs h x1 hl hS hf
  unfold f_X7_readUnit_58 at hf
  refine lv_iload_n C.1 C.2.1 dX7_readUnit_58 rfl (lv_at hl 1 rfl) ?_
  refine lv_bipush (v := (19 : Int32)) C.1 C.2.1 dX7_readUnit_59 rfl ?_
  refine lv_icmp_ne (tgt := 82) C.1 C.2.1 dX7_readUnit_61 (by decide) (fun hc => ?_) (fun hc => ?_)
  · have hf := zif_f hc hf
    exact w_X7_readUnit_82 C hm hk  _ _ _ _ _ (lv_sub hl [0, 1] rfl) hS hf
  · have hf := zif_t hc hf
    refine lv_aload_n C.1 C.2.1 dX7_readUnit_64 rfl (lv_at hl 0 rfl) ?_
    refine zgetR C hS ff_X7_19_29 (hm 29 (by decide)) (hk (29, 2) (by decide)) dX7_readUnit_65 ?_
    refine lv_aload_n C.1 C.2.1 dX7_readUnit_68 rfl (lv_at hl 0 rfl) ?_
    refine zgetI C hS ff_X7_48_29 (hm 29 (by decide)) dX7_readUnit_69 ?_
    obtain ⟨hi, hf⟩ := zck_some hf
    refine zald C hS sh_32 (hm 32 (by decide)) hi dX7_readUnit_72 ?_
    refine lv_if_ne (tgt := 82) C.1 C.2.1 dX7_readUnit_73 (by decide) (fun hc => ?_) (fun hc => ?_)
    · have hf := zif_f hc hf
      exact w_X7_readUnit_82 C hm hk  _ _ _ _ _ (lv_sub hl [0, 1] rfl) hS hf
    · have hf := zif_t hc hf
      refine lv_aload_n C.1 C.2.1 dX7_readUnit_76 rfl (lv_at hl 0 rfl) ?_
      refine lv_iconst (v := (2 : Int32)) C.1 C.2.1 dX7_readUnit_77 rfl ?_
      obtain ⟨r7, h8, er7, hf⟩ := zbd_some hf
      refine zcallVV (As := [.int (2 : Int32)]) (rest := []) C hS mv_X7_107 (c_X7_blame l G h (2 : Int32) (r7, h8) (fun c h => hm c (sn_X7_readUnit_X7_blame c h)) (fun q h => hk q (sl_X7_readUnit_X7_blame q h)) er7) (hm 29 (by decide)) ⟨_, _, _, sh_29, rfl, rfl⟩ rfl rfl (Nat.le_of_ble_eq_true rfl) hl.1 ⟨Nat.le_of_ble_eq_true rfl, Nat.le_of_ble_eq_true rfl, Nat.le_of_ble_eq_true rfl, Nat.le_of_ble_eq_true rfl⟩ dX7_readUnit_78 (fun H locs hS => ?_)
      exact zretV C hS hf dX7_readUnit_81
set_option maxHeartbeats 4000000 in
set_option maxRecDepth 100000 in
theorem w_X7_readUnit_52  (C : zC G p s m args meth c cX7_readUnit 4 RX7 none) (hm : ∀ c ∈ nd_X7_readUnit, c ∈ znm G) (hk : ∀ q ∈ ld_X7_readUnit, zlk G q.1 q.2 = true)  : ∀ (ls : Array Slot) (H : Heap) (locs : List Loc) (h : zH), lv_has ls 4 [(0, .ref (zal G 29))] → zS G h s.heap H locs → f_X7_readUnit_52  h = some q → W p l e (zrm (3)) s m args below meth c H locs 0 0 (MQ below (zQV G q.2) args s 0 0 (zA G)) (F0 m 52 ls []) := by
  intro ls H locs h hl hS hf
  unfold f_X7_readUnit_52 at hf
  refine lv_aload_n C.1 C.2.1 dX7_readUnit_52 rfl (lv_at hl 0 rfl) ?_
  refine lv_iconst (v := (1 : Int32)) C.1 C.2.1 dX7_readUnit_53 rfl ?_
  obtain ⟨r9, h10, er9, hf⟩ := zbd_some hf
  refine zcallVV (As := [.int (1 : Int32)]) (rest := []) C hS mv_X7_107 (c_X7_blame l G h (1 : Int32) (r9, h10) (fun c h => hm c (sn_X7_readUnit_X7_blame c h)) (fun q h => hk q (sl_X7_readUnit_X7_blame q h)) er9) (hm 29 (by decide)) ⟨_, _, _, sh_29, rfl, rfl⟩ rfl rfl (Nat.le_of_ble_eq_true rfl) hl.1 ⟨Nat.le_of_ble_eq_true rfl, Nat.le_of_ble_eq_true rfl, Nat.le_of_ble_eq_true rfl, Nat.le_of_ble_eq_true rfl⟩ dX7_readUnit_54 (fun H locs hS => ?_)
  exact zretV C hS hf dX7_readUnit_57
set_option maxHeartbeats 4000000 in
set_option maxRecDepth 100000 in
theorem w_X7_readUnit_37  (C : zC G p s m args meth c cX7_readUnit 4 RX7 none) (hm : ∀ c ∈ nd_X7_readUnit, c ∈ znm G) (hk : ∀ q ∈ ld_X7_readUnit, zlk G q.1 q.2 = true)  : ∀ (ls : Array Slot) (H : Heap) (locs : List Loc) (h : zH) (x1 : Int32) (x2 : Int32) (s0 : Int32), lv_has ls 4 [(0, .ref (zal G 29)), (1, .int x1), (2, .int x2)] → zS G h s.heap H locs → f_X7_readUnit_37  x1 x2 s0 h = some q → W p l e (zrm (3)) s m args below meth c H locs 0 0 (MQ below (zQV G q.2) args s 0 0 (zA G)) (F0 m 37 ls [.int s0]) := by
  intro ls H locs h x1 x2 s0 hl hS hf
  unfold f_X7_readUnit_37 at hf
  refine lv_istore_n (lv' := [(3, .int s0), (0, .ref (zal G 29)), (1, .int x1), (2, .int x2)]) C.1 C.2.1 dX7_readUnit_37 rfl hl (by decide) rfl (fun ls hl => ?_)
  refine lv_iload_n C.1 C.2.1 dX7_readUnit_38 rfl (lv_at hl 3 rfl) ?_
  refine lv_if_ne (tgt := 58) C.1 C.2.1 dX7_readUnit_39 (by decide) (fun hc => ?_) (fun hc => ?_)
  · have hf := zif_f hc hf
    exact w_X7_readUnit_58 C hm hk  _ _ _ _ _ (lv_sub hl [1, 2] rfl) hS hf
  · have hf := zif_t hc hf
    refine lv_iload_n C.1 C.2.1 dX7_readUnit_42 rfl (lv_at hl 0 rfl) ?_
    refine lv_if_eq (tgt := 52) C.1 C.2.1 dX7_readUnit_43 (by decide) (fun hc => ?_) (fun hc => ?_)
    · have hf := zif_t hc hf
      exact w_X7_readUnit_52 C hm hk  _ _ _ _ (lv_sub hl [1] rfl) hS hf
    · have hf := zif_f hc hf
      refine lv_iload_n C.1 C.2.1 dX7_readUnit_46 rfl (lv_at hl 2 rfl) ?_
      refine lv_bipush (v := (19 : Int32)) C.1 C.2.1 dX7_readUnit_47 rfl ?_
      refine lv_icmp_ne (tgt := 58) C.1 C.2.1 dX7_readUnit_49 (by decide) (fun hc => ?_) (fun hc => ?_)
      · have hf := zif_f hc hf
        exact w_X7_readUnit_58 C hm hk  _ _ _ _ _ (lv_sub hl [1, 2] rfl) hS hf
      · have hf := zif_t hc hf
        exact w_X7_readUnit_52 C hm hk  _ _ _ _ (lv_sub hl [1] rfl) hS hf
set_option maxHeartbeats 4000000 in
set_option maxRecDepth 100000 in
theorem w_X7_readUnit_36  (C : zC G p s m args meth c cX7_readUnit 4 RX7 none) (hm : ∀ c ∈ nd_X7_readUnit, c ∈ znm G) (hk : ∀ q ∈ ld_X7_readUnit, zlk G q.1 q.2 = true)  : ∀ (ls : Array Slot) (H : Heap) (locs : List Loc) (h : zH) (x1 : Int32) (x2 : Int32), lv_has ls 4 [(0, .ref (zal G 29)), (1, .int x1), (2, .int x2)] → zS G h s.heap H locs → f_X7_readUnit_36  x1 x2 h = some q → W p l e (zrm (3)) s m args below meth c H locs 0 0 (MQ below (zQV G q.2) args s 0 0 (zA G)) (F0 m 36 ls []) := by
  intro ls H locs h x1 x2 hl hS hf
  unfold f_X7_readUnit_36 at hf
  refine lv_iconst (v := (0 : Int32)) C.1 C.2.1 dX7_readUnit_36 rfl ?_
  exact w_X7_readUnit_37 C hm hk  _ _ _ _ _ _ _ (lv_sub hl [0, 1, 2] rfl) hS hf
set_option maxHeartbeats 4000000 in
set_option maxRecDepth 100000 in
theorem w_X7_readUnit_13  (C : zC G p s m args meth c cX7_readUnit 4 RX7 none) (hm : ∀ c ∈ nd_X7_readUnit, c ∈ znm G) (hk : ∀ q ∈ ld_X7_readUnit, zlk G q.1 q.2 = true)  : ∀ (ls : Array Slot) (H : Heap) (locs : List Loc) (h : zH) (x1 : Int32) (s0 : Int32), lv_has ls 4 [(0, .ref (zal G 29)), (1, .int x1)] → zS G h s.heap H locs → f_X7_readUnit_13  x1 s0 h = some q → W p l e (zrm (3)) s m args below meth c H locs 0 0 (MQ below (zQV G q.2) args s 0 0 (zA G)) (F0 m 13 ls [.int s0]) := by
  intro ls H locs h x1 s0 hl hS hf
  unfold f_X7_readUnit_13 at hf
  refine lv_istore_n (lv' := [(2, .int s0), (0, .ref (zal G 29)), (1, .int x1)]) C.1 C.2.1 dX7_readUnit_13 rfl hl (by decide) rfl (fun ls hl => ?_)
  refine lv_aload_n C.1 C.2.1 dX7_readUnit_14 rfl (lv_at hl 1 rfl) ?_
  refine zgetI C hS ff_X7_51_29 (hm 29 (by decide)) dX7_readUnit_15 ?_
  refine lv_bipush (v := (8 : Int32)) C.1 C.2.1 dX7_readUnit_18 rfl ?_
  refine lv_icmp_lt (tgt := 36) C.1 C.2.1 dX7_readUnit_20 (by decide) (fun hc => ?_) (fun hc => ?_)
  · have hf := zif_t hc hf
    exact w_X7_readUnit_36 C hm hk  _ _ _ _ _ _ (lv_sub hl [1, 2, 0] rfl) hS hf
  · have hf := zif_f hc hf
    refine lv_aload_n C.1 C.2.1 dX7_readUnit_23 rfl (lv_at hl 1 rfl) ?_
    refine zgetI C hS ff_X7_51_29 (hm 29 (by decide)) dX7_readUnit_24 ?_
    refine lv_bipush (v := (14 : Int32)) C.1 C.2.1 dX7_readUnit_27 rfl ?_
    refine lv_icmp_gt (tgt := 36) C.1 C.2.1 dX7_readUnit_29 (by decide) (fun hc => ?_) (fun hc => ?_)
    · have hf := zif_t hc hf
      exact w_X7_readUnit_36 C hm hk  _ _ _ _ _ _ (lv_sub hl [1, 2, 0] rfl) hS hf
    · have hf := zif_f hc hf
      refine lv_iconst (v := (1 : Int32)) C.1 C.2.1 dX7_readUnit_32 rfl ?_
      refine lv_goto (tgt := 37) C.1 C.2.1 dX7_readUnit_33 (by decide) ?_
      exact w_X7_readUnit_37 C hm hk  _ _ _ _ _ _ _ (lv_sub hl [1, 2, 0] rfl) hS hf
set_option maxHeartbeats 4000000 in
set_option maxRecDepth 100000 in
theorem c_X7_readUnit (l : Launch) (G : zG) (h : zH) (x1 : Int32) (q : Int32 × zH) (hm : ∀ c ∈ nd_X7_readUnit, c ∈ znm G) (hk : ∀ q ∈ ld_X7_readUnit, zlk G q.1 q.2 = true) (hf : f_X7_readUnit x1 h = some q) : zCtV l yX7_readUnit cX7_readUnit 4 none (3) [.ref (zal G 29), .int x1] G h q.2 := by
  refine zMetV (by decide) (Nat.le_of_ble_eq_true rfl) ?_
  intro p e s m below meth c ls C hl hS
  have hl : lv_has ls 4 [(0, .ref (zal G 29)), (1, .int x1)] := hl
  have C : zC G p s m [.ref (zal G 29), .int x1].toArray meth c cX7_readUnit 4 RX7 none := C
  unfold f_X7_readUnit at hf
  refine lv_aload_n C.1 C.2.1 dX7_readUnit_0 rfl (lv_at hl 0 rfl) ?_
  refine zgetI C hS ff_X7_51_29 (hm 29 (by decide)) dX7_readUnit_1 ?_
  refine lv_iconst (v := (2 : Int32)) C.1 C.2.1 dX7_readUnit_4 rfl ?_
  refine lv_icmp_ne (tgt := 12) C.1 C.2.1 dX7_readUnit_5 (by decide) (fun hc => ?_) (fun hc => ?_)
  · have hf := zif_f hc hf
    refine lv_iconst (v := (0 : Int32)) C.1 C.2.1 dX7_readUnit_12 rfl ?_
    exact w_X7_readUnit_13 C hm hk  _ _ _ _ _ _ (lv_sub hl [0, 1] rfl) hS hf
  · have hf := zif_t hc hf
    refine lv_iconst (v := (1 : Int32)) C.1 C.2.1 dX7_readUnit_8 rfl ?_
    refine lv_goto (tgt := 13) C.1 C.2.1 dX7_readUnit_9 (by decide) ?_
    exact w_X7_readUnit_13 C hm hk  _ _ _ _ _ _ (lv_sub hl [0, 1] rfl) hS hf
end
section
theorem dX7_readSum_0 : decode cX7_readSum 0 = .ok (.iconst 1, 1) := by decide +kernel
theorem dX7_readSum_1 : decode cX7_readSum 1 = .ok (.istore_n 1, 1) := by decide +kernel
theorem dX7_readSum_2 : decode cX7_readSum 2 = .ok (.iconst 1, 1) := by decide +kernel
theorem dX7_readSum_3 : decode cX7_readSum 3 = .ok (.istore_n 2, 1) := by decide +kernel
theorem dX7_readSum_4 : decode cX7_readSum 4 = .ok (.iconst 0, 1) := by decide +kernel
theorem dX7_readSum_5 : decode cX7_readSum 5 = .ok (.istore_n 3, 1) := by decide +kernel
theorem dX7_readSum_6 : decode cX7_readSum 6 = .ok (.iload_n 3, 1) := by decide +kernel
theorem dX7_readSum_7 : decode cX7_readSum 7 = .ok (.sipush 400, 3) := by decide +kernel
theorem dX7_readSum_10 : decode cX7_readSum 10 = .ok (.if_icmp .ge 127, 3) := by decide +kernel
theorem dX7_readSum_13 : decode cX7_readSum 13 = .ok (.iload_n 1, 1) := by decide +kernel
theorem dX7_readSum_14 : decode cX7_readSum 14 = .ok (.ifCond .eq 123, 3) := by decide +kernel
theorem dX7_readSum_17 : decode cX7_readSum 17 = .ok (.aload_n 0, 1) := by decide +kernel
theorem dX7_readSum_18 : decode cX7_readSum 18 = .ok (.iconst 1, 1) := by decide +kernel
theorem dX7_readSum_19 : decode cX7_readSum 19 = .ok (.invokevirtual 130, 3) := by decide +kernel
theorem dX7_readSum_22 : decode cX7_readSum 22 = .ok (.iconst 0, 1) := by decide +kernel
theorem dX7_readSum_23 : decode cX7_readSum 23 = .ok (.istore 4, 2) := by decide +kernel
theorem dX7_readSum_25 : decode cX7_readSum 25 = .ok (.iload 4, 2) := by decide +kernel
theorem dX7_readSum_27 : decode cX7_readSum 27 = .ok (.sipush 400, 3) := by decide +kernel
theorem dX7_readSum_30 : decode cX7_readSum 30 = .ok (.if_icmp .ge 43, 3) := by decide +kernel
theorem dX7_readSum_33 : decode cX7_readSum 33 = .ok (.aload_n 0, 1) := by decide +kernel
theorem dX7_readSum_34 : decode cX7_readSum 34 = .ok (.getfield 51, 3) := by decide +kernel
theorem dX7_readSum_37 : decode cX7_readSum 37 = .ok (.bipush 18, 2) := by decide +kernel
theorem dX7_readSum_39 : decode cX7_readSum 39 = .ok (.if_icmp .eq 12, 3) := by decide +kernel
theorem dX7_readSum_42 : decode cX7_readSum 42 = .ok (.aload_n 0, 1) := by decide +kernel
theorem dX7_readSum_43 : decode cX7_readSum 43 = .ok (.getfield 51, 3) := by decide +kernel
theorem dX7_readSum_46 : decode cX7_readSum 46 = .ok (.bipush 19, 2) := by decide +kernel
theorem dX7_readSum_48 : decode cX7_readSum 48 = .ok (.if_icmp .ne 25, 3) := by decide +kernel
theorem dX7_readSum_51 : decode cX7_readSum 51 = .ok (.aload_n 0, 1) := by decide +kernel
theorem dX7_readSum_52 : decode cX7_readSum 52 = .ok (.getfield 51, 3) := by decide +kernel
theorem dX7_readSum_55 : decode cX7_readSum 55 = .ok (.istore 5, 2) := by decide +kernel
theorem dX7_readSum_57 : decode cX7_readSum 57 = .ok (.aload_n 0, 1) := by decide +kernel
theorem dX7_readSum_58 : decode cX7_readSum 58 = .ok (.invokevirtual 104, 3) := by decide +kernel
theorem dX7_readSum_61 : decode cX7_readSum 61 = .ok (.aload_n 0, 1) := by decide +kernel
theorem dX7_readSum_62 : decode cX7_readSum 62 = .ok (.iload 5, 2) := by decide +kernel
theorem dX7_readSum_64 : decode cX7_readSum 64 = .ok (.invokevirtual 130, 3) := by decide +kernel
theorem dX7_readSum_67 : decode cX7_readSum 67 = .ok (.iinc 4 1, 3) := by decide +kernel
theorem dX7_readSum_70 : decode cX7_readSum 70 = .ok (.goto (-45), 3) := by decide +kernel
theorem dX7_readSum_73 : decode cX7_readSum 73 = .ok (.iload_n 2, 1) := by decide +kernel
theorem dX7_readSum_74 : decode cX7_readSum 74 = .ok (.bipush 16, 2) := by decide +kernel
theorem dX7_readSum_76 : decode cX7_readSum 76 = .ok (.if_icmp .eq 9, 3) := by decide +kernel
theorem dX7_readSum_79 : decode cX7_readSum 79 = .ok (.iload_n 2, 1) := by decide +kernel
theorem dX7_readSum_80 : decode cX7_readSum 80 = .ok (.bipush 17, 2) := by decide +kernel
theorem dX7_readSum_82 : decode cX7_readSum 82 = .ok (.if_icmp .ne 12, 3) := by decide +kernel
theorem dX7_readSum_85 : decode cX7_readSum 85 = .ok (.aload_n 0, 1) := by decide +kernel
theorem dX7_readSum_86 : decode cX7_readSum 86 = .ok (.getfield 28, 3) := by decide +kernel
theorem dX7_readSum_89 : decode cX7_readSum 89 = .ok (.iload_n 2, 1) := by decide +kernel
theorem dX7_readSum_90 : decode cX7_readSum 90 = .ok (.iconst 0, 1) := by decide +kernel
theorem dX7_readSum_91 : decode cX7_readSum 91 = .ok (.invokevirtual 124, 3) := by decide +kernel
theorem dX7_readSum_94 : decode cX7_readSum 94 = .ok (.aload_n 0, 1) := by decide +kernel
theorem dX7_readSum_95 : decode cX7_readSum 95 = .ok (.getfield 51, 3) := by decide +kernel
theorem dX7_readSum_98 : decode cX7_readSum 98 = .ok (.istore_n 2, 1) := by decide +kernel
theorem dX7_readSum_99 : decode cX7_readSum 99 = .ok (.aload_n 0, 1) := by decide +kernel
theorem dX7_readSum_100 : decode cX7_readSum 100 = .ok (.getfield 51, 3) := by decide +kernel
theorem dX7_readSum_103 : decode cX7_readSum 103 = .ok (.bipush 16, 2) := by decide +kernel
theorem dX7_readSum_105 : decode cX7_readSum 105 = .ok (.if_icmp .eq 12, 3) := by decide +kernel
theorem dX7_readSum_108 : decode cX7_readSum 108 = .ok (.aload_n 0, 1) := by decide +kernel
theorem dX7_readSum_109 : decode cX7_readSum 109 = .ok (.getfield 51, 3) := by decide +kernel
theorem dX7_readSum_112 : decode cX7_readSum 112 = .ok (.bipush 17, 2) := by decide +kernel
theorem dX7_readSum_114 : decode cX7_readSum 114 = .ok (.if_icmp .ne 7, 3) := by decide +kernel
theorem dX7_readSum_117 : decode cX7_readSum 117 = .ok (.iconst 1, 1) := by decide +kernel
theorem dX7_readSum_118 : decode cX7_readSum 118 = .ok (.goto 4, 3) := by decide +kernel
theorem dX7_readSum_121 : decode cX7_readSum 121 = .ok (.iconst 0, 1) := by decide +kernel
theorem dX7_readSum_122 : decode cX7_readSum 122 = .ok (.istore_n 1, 1) := by decide +kernel
theorem dX7_readSum_123 : decode cX7_readSum 123 = .ok (.iload_n 1, 1) := by decide +kernel
theorem dX7_readSum_124 : decode cX7_readSum 124 = .ok (.ifCond .eq 7, 3) := by decide +kernel
theorem dX7_readSum_127 : decode cX7_readSum 127 = .ok (.aload_n 0, 1) := by decide +kernel
theorem dX7_readSum_128 : decode cX7_readSum 128 = .ok (.invokevirtual 104, 3) := by decide +kernel
theorem dX7_readSum_131 : decode cX7_readSum 131 = .ok (.iinc 3 1, 3) := by decide +kernel
theorem dX7_readSum_134 : decode cX7_readSum 134 = .ok (.goto (-128), 3) := by decide +kernel
theorem dX7_readSum_137 : decode cX7_readSum 137 = .ok (.return_, 1) := by decide +kernel
abbrev nd_X7_readSum : List Nat := [29, 31, 32, 33, 34, 35, 36]
abbrev ld_X7_readSum : List (Nat × Nat) := [(29, 1), (29, 2), (29, 3), (29, 4), (34, 0), (34, 1)]
theorem sn_X7_readSum_X7_readUnit : ∀ c ∈ nd_X7_readUnit, c ∈ nd_X7_readSum := by decide
theorem sl_X7_readSum_X7_readUnit : ∀ q ∈ ld_X7_readUnit, q ∈ ld_X7_readSum := by decide
theorem sn_X7_readSum_X5_add_t34 : ∀ c ∈ nd_X5_add_t34, c ∈ nd_X7_readSum := by decide
theorem sl_X7_readSum_X5_add_t34 : ∀ q ∈ ld_X5_add_t34, q ∈ ld_X7_readSum := by decide
theorem sn_X7_readSum_X7_step : ∀ c ∈ nd_X7_step, c ∈ nd_X7_readSum := by decide
theorem sl_X7_readSum_X7_step : ∀ q ∈ ld_X7_step, q ∈ ld_X7_readSum := by decide
def f_X7_readSum_131 (k6 : Int32 → Int32 → Int32 → zH → zR) (x1 : Int32) (x2 : Int32) (x3 : Int32) (h : zH) : zR := (zlt (x3 + (1 : Int32)) fun y6 => (k6 x1 x2 y6 h))
def f_X7_readSum_122 (k6 : Int32 → Int32 → Int32 → zH → zR) (x2 : Int32) (x3 : Int32) (s0 : Int32) (h : zH) : zR := (if s0 = 0 then (f_X7_readSum_131 k6 s0 x2 x3 h) else (zbd (f_X7_step  h) fun r7 h8 => (f_X7_readSum_131 k6 s0 x2 x3 h8)))
def f_X7_readSum_117 (k6 : Int32 → Int32 → Int32 → zH → zR) (x2 : Int32) (x3 : Int32) (h : zH) : zR := (f_X7_readSum_122 k6 x2 x3 (1 : Int32) h)
def f_X7_readSum_94 (k6 : Int32 → Int32 → Int32 → zH → zR) (x3 : Int32) (h : zH) : zR := (zlt (h 29 10) fun y5 => (if (h 29 10) = (16 : Int32) then (f_X7_readSum_117 k6 y5 x3 h) else (if (h 29 10) = (17 : Int32) then (f_X7_readSum_117 k6 y5 x3 h) else (f_X7_readSum_122 k6 y5 x3 (0 : Int32) h))))
def f_X7_readSum_85 (k6 : Int32 → Int32 → Int32 → zH → zR) (x2 : Int32) (x3 : Int32) (h : zH) : zR := (zbd (f_X5_add_t34 x2 (0 : Int32) h) fun r3 h4 => (f_X7_readSum_94 k6 x3 h4))
def f_X7_readSum_73 (k6 : Int32 → Int32 → Int32 → zH → zR) (x2 : Int32) (x3 : Int32) (h : zH) : zR := (if x2 = (16 : Int32) then (f_X7_readSum_85 k6 x2 x3 h) else (if x2 = (17 : Int32) then (f_X7_readSum_85 k6 x2 x3 h) else (f_X7_readSum_94 k6 x3 h)))
def f_X7_readSum_51 (k6 : Int32 → Int32 → Int32 → zH → zR) (k25 : Int32 → Int32 → Int32 → zH → zR) (x2 : Int32) (x3 : Int32) (x4 : Int32) (h : zH) : zR := (zlt (h 29 10) fun y9 => (zbd (f_X7_step  h) fun r10 h11 => (zbd (f_X7_readUnit y9 h11) fun r12 h13 => (zlt (x4 + (1 : Int32)) fun y14 => (k25 x2 x3 y14 h13)))))
def f_X7_readSum_25 (k6 : Int32 → Int32 → Int32 → zH → zR) : Nat → Int32 → Int32 → Int32 → zH → zR
  | 0 => fun _ _ _ _ => none
  | n + 1 => fun x2 x3 x4 h => (if (400 : Int32) ≤ x4 then (f_X7_readSum_73 k6 x2 x3 h) else (if (h 29 10) = (18 : Int32) then (f_X7_readSum_51 k6 (f_X7_readSum_25 k6 n) x2 x3 x4 h) else (if (h 29 10) = (19 : Int32) then (f_X7_readSum_51 k6 (f_X7_readSum_25 k6 n) x2 x3 x4 h) else (f_X7_readSum_73 k6 x2 x3 h))))
def f_X7_readSum_6  : Nat → Int32 → Int32 → Int32 → zH → zR
  | 0 => fun _ _ _ _ => none
  | n + 1 => fun x1 x2 x3 h => (if (400 : Int32) ≤ x3 then (some (0, h)) else (if x1 = 0 then (some (0, h)) else (zbd (f_X7_readUnit (1 : Int32) h) fun r1 h2 => (f_X7_readSum_25 (f_X7_readSum_6  n) zN x2 x3 (0 : Int32) h2))))
def f_X7_readSum  (h : zH) : zR := (f_X7_readSum_6  zN (1 : Int32) (1 : Int32) (0 : Int32) h)
variable {p : Program} {l : Launch} {e : Env} {s : State} {m : MethodId} {args : Array Value} {below : List Frame} {meth : Method} {c : Code} {G : zG} {q : Int32 × zH}
set_option maxHeartbeats 4000000 in
set_option maxRecDepth 100000 in
theorem w_X7_readSum_131 {k6 : Int32 → Int32 → Int32 → zH → zR} (C : zC G p s m args meth c cX7_readSum 6 RX7 none) (hm : ∀ c ∈ nd_X7_readSum, c ∈ znm G) (hk : ∀ q ∈ ld_X7_readSum, zlk G q.1 q.2 = true) (hk6 : ∀ (ls : Array Slot) (H : Heap) (locs : List Loc) (h : zH) (x1 : Int32) (x2 : Int32) (x3 : Int32), lv_has ls 6 [(0, .ref (zal G 29)), (1, .int x1), (2, .int x2), (3, .int x3)] → zS G h s.heap H locs → k6 x1 x2 x3 h = some q → W p l e (zrm (4)) s m args below meth c H locs 0 0 (MQ below (zQV G q.2) args s 0 0 (zA G)) (F0 m 6 ls [])) : ∀ (ls : Array Slot) (H : Heap) (locs : List Loc) (h : zH) (x1 : Int32) (x2 : Int32) (x3 : Int32), lv_has ls 6 [(0, .ref (zal G 29)), (1, .int x1), (2, .int x2), (3, .int x3)] → zS G h s.heap H locs → f_X7_readSum_131 k6 x1 x2 x3 h = some q → W p l e (zrm (4)) s m args below meth c H locs 0 0 (MQ below (zQV G q.2) args s 0 0 (zA G)) (F0 m 131 ls []) := by
  intro ls H locs h x1 x2 x3 hl hS hf
  unfold f_X7_readSum_131 at hf
  obtain ⟨y6, ey6, hf⟩ := zlt_some hf
  refine lv_iinc (v := y6) (lv' := [(3, .int y6), (0, .ref (zal G 29)), (1, .int x1), (2, .int x2)]) C.1 C.2.1 dX7_readSum_131 hl (k := 3) rfl ey6.symm (by decide) rfl (fun ls hl => ?_)
  refine lv_goto (tgt := 6) C.1 C.2.1 dX7_readSum_134 (by decide) ?_
  exact hk6 _ _ _ _ _ _ _ (lv_sub hl [1, 2, 3, 0] rfl) hS hf
set_option maxHeartbeats 4000000 in
set_option maxRecDepth 100000 in
theorem w_X7_readSum_122 {k6 : Int32 → Int32 → Int32 → zH → zR} (C : zC G p s m args meth c cX7_readSum 6 RX7 none) (hm : ∀ c ∈ nd_X7_readSum, c ∈ znm G) (hk : ∀ q ∈ ld_X7_readSum, zlk G q.1 q.2 = true) (hk6 : ∀ (ls : Array Slot) (H : Heap) (locs : List Loc) (h : zH) (x1 : Int32) (x2 : Int32) (x3 : Int32), lv_has ls 6 [(0, .ref (zal G 29)), (1, .int x1), (2, .int x2), (3, .int x3)] → zS G h s.heap H locs → k6 x1 x2 x3 h = some q → W p l e (zrm (4)) s m args below meth c H locs 0 0 (MQ below (zQV G q.2) args s 0 0 (zA G)) (F0 m 6 ls [])) : ∀ (ls : Array Slot) (H : Heap) (locs : List Loc) (h : zH) (x2 : Int32) (x3 : Int32) (s0 : Int32), lv_has ls 6 [(0, .ref (zal G 29)), (2, .int x2), (3, .int x3)] → zS G h s.heap H locs → f_X7_readSum_122 k6 x2 x3 s0 h = some q → W p l e (zrm (4)) s m args below meth c H locs 0 0 (MQ below (zQV G q.2) args s 0 0 (zA G)) (F0 m 122 ls [.int s0]) := by
  intro ls H locs h x2 x3 s0 hl hS hf
  unfold f_X7_readSum_122 at hf
  refine lv_istore_n (lv' := [(1, .int s0), (0, .ref (zal G 29)), (2, .int x2), (3, .int x3)]) C.1 C.2.1 dX7_readSum_122 rfl hl (by decide) rfl (fun ls hl => ?_)
  refine lv_iload_n C.1 C.2.1 dX7_readSum_123 rfl (lv_at hl 0 rfl) ?_
  refine lv_if_eq (tgt := 131) C.1 C.2.1 dX7_readSum_124 (by decide) (fun hc => ?_) (fun hc => ?_)
  · have hf := zif_t hc hf
    exact w_X7_readSum_131 C hm hk hk6 _ _ _ _ _ _ _ (lv_sub hl [1, 0, 2, 3] rfl) hS hf
  · have hf := zif_f hc hf
    refine lv_aload_n C.1 C.2.1 dX7_readSum_127 rfl (lv_at hl 1 rfl) ?_
    obtain ⟨r7, h8, er7, hf⟩ := zbd_some hf
    refine zcallVV (As := []) (rest := []) C hS mv_X7_104 (c_X7_step l G h  (r7, h8) (fun c h => hm c (sn_X7_readSum_X7_step c h)) (fun q h => hk q (sl_X7_readSum_X7_step q h)) er7) (hm 29 (by decide)) ⟨_, _, _, sh_29, rfl, rfl⟩ rfl rfl (Nat.le_of_ble_eq_true rfl) hl.1 ⟨Nat.le_of_ble_eq_true rfl, Nat.le_of_ble_eq_true rfl, Nat.le_of_ble_eq_true rfl, Nat.le_of_ble_eq_true rfl⟩ dX7_readSum_128 (fun H locs hS => ?_)
    exact w_X7_readSum_131 C hm hk hk6 _ _ _ _ _ _ _ (lv_sub hl [1, 0, 2, 3] rfl) hS hf
set_option maxHeartbeats 4000000 in
set_option maxRecDepth 100000 in
theorem w_X7_readSum_117 {k6 : Int32 → Int32 → Int32 → zH → zR} (C : zC G p s m args meth c cX7_readSum 6 RX7 none) (hm : ∀ c ∈ nd_X7_readSum, c ∈ znm G) (hk : ∀ q ∈ ld_X7_readSum, zlk G q.1 q.2 = true) (hk6 : ∀ (ls : Array Slot) (H : Heap) (locs : List Loc) (h : zH) (x1 : Int32) (x2 : Int32) (x3 : Int32), lv_has ls 6 [(0, .ref (zal G 29)), (1, .int x1), (2, .int x2), (3, .int x3)] → zS G h s.heap H locs → k6 x1 x2 x3 h = some q → W p l e (zrm (4)) s m args below meth c H locs 0 0 (MQ below (zQV G q.2) args s 0 0 (zA G)) (F0 m 6 ls [])) : ∀ (ls : Array Slot) (H : Heap) (locs : List Loc) (h : zH) (x2 : Int32) (x3 : Int32), lv_has ls 6 [(0, .ref (zal G 29)), (2, .int x2), (3, .int x3)] → zS G h s.heap H locs → f_X7_readSum_117 k6 x2 x3 h = some q → W p l e (zrm (4)) s m args below meth c H locs 0 0 (MQ below (zQV G q.2) args s 0 0 (zA G)) (F0 m 117 ls []) := by
  intro ls H locs h x2 x3 hl hS hf
  unfold f_X7_readSum_117 at hf
  refine lv_iconst (v := (1 : Int32)) C.1 C.2.1 dX7_readSum_117 rfl ?_
  refine lv_goto (tgt := 122) C.1 C.2.1 dX7_readSum_118 (by decide) ?_
  exact w_X7_readSum_122 C hm hk hk6 _ _ _ _ _ _ _ (lv_sub hl [0, 1, 2] rfl) hS hf
set_option maxHeartbeats 4000000 in
set_option maxRecDepth 100000 in
theorem w_X7_readSum_94 {k6 : Int32 → Int32 → Int32 → zH → zR} (C : zC G p s m args meth c cX7_readSum 6 RX7 none) (hm : ∀ c ∈ nd_X7_readSum, c ∈ znm G) (hk : ∀ q ∈ ld_X7_readSum, zlk G q.1 q.2 = true) (hk6 : ∀ (ls : Array Slot) (H : Heap) (locs : List Loc) (h : zH) (x1 : Int32) (x2 : Int32) (x3 : Int32), lv_has ls 6 [(0, .ref (zal G 29)), (1, .int x1), (2, .int x2), (3, .int x3)] → zS G h s.heap H locs → k6 x1 x2 x3 h = some q → W p l e (zrm (4)) s m args below meth c H locs 0 0 (MQ below (zQV G q.2) args s 0 0 (zA G)) (F0 m 6 ls [])) : ∀ (ls : Array Slot) (H : Heap) (locs : List Loc) (h : zH) (x3 : Int32), lv_has ls 6 [(0, .ref (zal G 29)), (3, .int x3)] → zS G h s.heap H locs → f_X7_readSum_94 k6 x3 h = some q → W p l e (zrm (4)) s m args below meth c H locs 0 0 (MQ below (zQV G q.2) args s 0 0 (zA G)) (F0 m 94 ls []) := by
  intro ls H locs h x3 hl hS hf
  unfold f_X7_readSum_94 at hf
  refine lv_aload_n C.1 C.2.1 dX7_readSum_94 rfl (lv_at hl 0 rfl) ?_
  refine zgetI C hS ff_X7_51_29 (hm 29 (by decide)) dX7_readSum_95 ?_
  obtain ⟨y5, ey5, hf⟩ := zlt_some hf
  refine ztop ey5 ?_
  refine lv_istore_n (lv' := [(2, .int y5), (0, .ref (zal G 29)), (3, .int x3)]) C.1 C.2.1 dX7_readSum_98 rfl hl (by decide) rfl (fun ls hl => ?_)
  refine lv_aload_n C.1 C.2.1 dX7_readSum_99 rfl (lv_at hl 1 rfl) ?_
  refine zgetI C hS ff_X7_51_29 (hm 29 (by decide)) dX7_readSum_100 ?_
  refine lv_bipush (v := (16 : Int32)) C.1 C.2.1 dX7_readSum_103 rfl ?_
  refine lv_icmp_eq (tgt := 117) C.1 C.2.1 dX7_readSum_105 (by decide) (fun hc => ?_) (fun hc => ?_)
  · have hf := zif_t hc hf
    exact w_X7_readSum_117 C hm hk hk6 _ _ _ _ _ _ (lv_sub hl [1, 0, 2] rfl) hS hf
  · have hf := zif_f hc hf
    refine lv_aload_n C.1 C.2.1 dX7_readSum_108 rfl (lv_at hl 1 rfl) ?_
    refine zgetI C hS ff_X7_51_29 (hm 29 (by decide)) dX7_readSum_109 ?_
    refine lv_bipush (v := (17 : Int32)) C.1 C.2.1 dX7_readSum_112 rfl ?_
    refine lv_icmp_ne (tgt := 121) C.1 C.2.1 dX7_readSum_114 (by decide) (fun hc => ?_) (fun hc => ?_)
    · have hf := zif_f hc hf
      refine lv_iconst (v := (0 : Int32)) C.1 C.2.1 dX7_readSum_121 rfl ?_
      exact w_X7_readSum_122 C hm hk hk6 _ _ _ _ _ _ _ (lv_sub hl [1, 0, 2] rfl) hS hf
    · have hf := zif_t hc hf
      exact w_X7_readSum_117 C hm hk hk6 _ _ _ _ _ _ (lv_sub hl [1, 0, 2] rfl) hS hf
set_option maxHeartbeats 4000000 in
set_option maxRecDepth 100000 in
theorem w_X7_readSum_85 {k6 : Int32 → Int32 → Int32 → zH → zR} (C : zC G p s m args meth c cX7_readSum 6 RX7 none) (hm : ∀ c ∈ nd_X7_readSum, c ∈ znm G) (hk : ∀ q ∈ ld_X7_readSum, zlk G q.1 q.2 = true) (hk6 : ∀ (ls : Array Slot) (H : Heap) (locs : List Loc) (h : zH) (x1 : Int32) (x2 : Int32) (x3 : Int32), lv_has ls 6 [(0, .ref (zal G 29)), (1, .int x1), (2, .int x2), (3, .int x3)] → zS G h s.heap H locs → k6 x1 x2 x3 h = some q → W p l e (zrm (4)) s m args below meth c H locs 0 0 (MQ below (zQV G q.2) args s 0 0 (zA G)) (F0 m 6 ls [])) : ∀ (ls : Array Slot) (H : Heap) (locs : List Loc) (h : zH) (x2 : Int32) (x3 : Int32), lv_has ls 6 [(0, .ref (zal G 29)), (2, .int x2), (3, .int x3)] → zS G h s.heap H locs → f_X7_readSum_85 k6 x2 x3 h = some q → W p l e (zrm (4)) s m args below meth c H locs 0 0 (MQ below (zQV G q.2) args s 0 0 (zA G)) (F0 m 85 ls []) := by
  intro ls H locs h x2 x3 hl hS hf
  unfold f_X7_readSum_85 at hf
  refine lv_aload_n C.1 C.2.1 dX7_readSum_85 rfl (lv_at hl 0 rfl) ?_
  refine zgetR C hS ff_X7_28_29 (hm 29 (by decide)) (hk (29, 4) (by decide)) dX7_readSum_86 ?_
  refine lv_iload_n C.1 C.2.1 dX7_readSum_89 rfl (lv_at hl 1 rfl) ?_
  refine lv_iconst (v := (0 : Int32)) C.1 C.2.1 dX7_readSum_90 rfl ?_
  obtain ⟨r3, h4, er3, hf⟩ := zbd_some hf
  refine zcallVV (As := [.int x2, .int (0 : Int32)]) (rest := []) C hS mv_X7_124 (c_X5_add_t34 l G h x2 (0 : Int32) (r3, h4) (fun c h => hm c (sn_X7_readSum_X5_add_t34 c h)) (fun q h => hk q (sl_X7_readSum_X5_add_t34 q h)) er3) (hm 34 (by decide)) ⟨_, _, _, sh_34, rfl, rfl⟩ rfl rfl (Nat.le_of_ble_eq_true rfl) hl.1 ⟨Nat.le_of_ble_eq_true rfl, Nat.le_of_ble_eq_true rfl, Nat.le_of_ble_eq_true rfl, Nat.le_of_ble_eq_true rfl⟩ dX7_readSum_91 (fun H locs hS => ?_)
  exact w_X7_readSum_94 C hm hk hk6 _ _ _ _ _ (lv_sub hl [0, 2] rfl) hS hf
set_option maxHeartbeats 4000000 in
set_option maxRecDepth 100000 in
theorem w_X7_readSum_73 {k6 : Int32 → Int32 → Int32 → zH → zR} (C : zC G p s m args meth c cX7_readSum 6 RX7 none) (hm : ∀ c ∈ nd_X7_readSum, c ∈ znm G) (hk : ∀ q ∈ ld_X7_readSum, zlk G q.1 q.2 = true) (hk6 : ∀ (ls : Array Slot) (H : Heap) (locs : List Loc) (h : zH) (x1 : Int32) (x2 : Int32) (x3 : Int32), lv_has ls 6 [(0, .ref (zal G 29)), (1, .int x1), (2, .int x2), (3, .int x3)] → zS G h s.heap H locs → k6 x1 x2 x3 h = some q → W p l e (zrm (4)) s m args below meth c H locs 0 0 (MQ below (zQV G q.2) args s 0 0 (zA G)) (F0 m 6 ls [])) : ∀ (ls : Array Slot) (H : Heap) (locs : List Loc) (h : zH) (x2 : Int32) (x3 : Int32), lv_has ls 6 [(0, .ref (zal G 29)), (2, .int x2), (3, .int x3)] → zS G h s.heap H locs → f_X7_readSum_73 k6 x2 x3 h = some q → W p l e (zrm (4)) s m args below meth c H locs 0 0 (MQ below (zQV G q.2) args s 0 0 (zA G)) (F0 m 73 ls []) := by
  intro ls H locs h x2 x3 hl hS hf
  unfold f_X7_readSum_73 at hf
  refine lv_iload_n C.1 C.2.1 dX7_readSum_73 rfl (lv_at hl 1 rfl) ?_
  refine lv_bipush (v := (16 : Int32)) C.1 C.2.1 dX7_readSum_74 rfl ?_
  refine lv_icmp_eq (tgt := 85) C.1 C.2.1 dX7_readSum_76 (by decide) (fun hc => ?_) (fun hc => ?_)
  · have hf := zif_t hc hf
    exact w_X7_readSum_85 C hm hk hk6 _ _ _ _ _ _ (lv_sub hl [0, 1, 2] rfl) hS hf
  · have hf := zif_f hc hf
    refine lv_iload_n C.1 C.2.1 dX7_readSum_79 rfl (lv_at hl 1 rfl) ?_
    refine lv_bipush (v := (17 : Int32)) C.1 C.2.1 dX7_readSum_80 rfl ?_
    refine lv_icmp_ne (tgt := 94) C.1 C.2.1 dX7_readSum_82 (by decide) (fun hc => ?_) (fun hc => ?_)
    · have hf := zif_f hc hf
      exact w_X7_readSum_94 C hm hk hk6 _ _ _ _ _ (lv_sub hl [0, 2] rfl) hS hf
    · have hf := zif_t hc hf
      exact w_X7_readSum_85 C hm hk hk6 _ _ _ _ _ _ (lv_sub hl [0, 1, 2] rfl) hS hf
set_option maxHeartbeats 4000000 in
set_option maxRecDepth 100000 in
theorem w_X7_readSum_51 {k6 : Int32 → Int32 → Int32 → zH → zR} {k25 : Int32 → Int32 → Int32 → zH → zR} (C : zC G p s m args meth c cX7_readSum 6 RX7 none) (hm : ∀ c ∈ nd_X7_readSum, c ∈ znm G) (hk : ∀ q ∈ ld_X7_readSum, zlk G q.1 q.2 = true) (hk6 : ∀ (ls : Array Slot) (H : Heap) (locs : List Loc) (h : zH) (x1 : Int32) (x2 : Int32) (x3 : Int32), lv_has ls 6 [(0, .ref (zal G 29)), (1, .int x1), (2, .int x2), (3, .int x3)] → zS G h s.heap H locs → k6 x1 x2 x3 h = some q → W p l e (zrm (4)) s m args below meth c H locs 0 0 (MQ below (zQV G q.2) args s 0 0 (zA G)) (F0 m 6 ls [])) (hk25 : ∀ (ls : Array Slot) (H : Heap) (locs : List Loc) (h : zH) (x2 : Int32) (x3 : Int32) (x4 : Int32), lv_has ls 6 [(0, .ref (zal G 29)), (2, .int x2), (3, .int x3), (4, .int x4)] → zS G h s.heap H locs → k25 x2 x3 x4 h = some q → W p l e (zrm (4)) s m args below meth c H locs 0 0 (MQ below (zQV G q.2) args s 0 0 (zA G)) (F0 m 25 ls [])) : ∀ (ls : Array Slot) (H : Heap) (locs : List Loc) (h : zH) (x2 : Int32) (x3 : Int32) (x4 : Int32), lv_has ls 6 [(0, .ref (zal G 29)), (2, .int x2), (3, .int x3), (4, .int x4)] → zS G h s.heap H locs → f_X7_readSum_51 k6 k25 x2 x3 x4 h = some q → W p l e (zrm (4)) s m args below meth c H locs 0 0 (MQ below (zQV G q.2) args s 0 0 (zA G)) (F0 m 51 ls []) := by
  intro ls H locs h x2 x3 x4 hl hS hf
  unfold f_X7_readSum_51 at hf
  refine lv_aload_n C.1 C.2.1 dX7_readSum_51 rfl (lv_at hl 0 rfl) ?_
  refine zgetI C hS ff_X7_51_29 (hm 29 (by decide)) dX7_readSum_52 ?_
  obtain ⟨y9, ey9, hf⟩ := zlt_some hf
  refine ztop ey9 ?_
  refine lv_istore (lv' := [(5, .int y9), (0, .ref (zal G 29)), (2, .int x2), (3, .int x3), (4, .int x4)]) C.1 C.2.1 dX7_readSum_55 hl (by decide) rfl (fun ls hl => ?_)
  refine lv_aload_n C.1 C.2.1 dX7_readSum_57 rfl (lv_at hl 1 rfl) ?_
  obtain ⟨r10, h11, er10, hf⟩ := zbd_some hf
  refine zcallVV (As := []) (rest := []) C hS mv_X7_104 (c_X7_step l G h  (r10, h11) (fun c h => hm c (sn_X7_readSum_X7_step c h)) (fun q h => hk q (sl_X7_readSum_X7_step q h)) er10) (hm 29 (by decide)) ⟨_, _, _, sh_29, rfl, rfl⟩ rfl rfl (Nat.le_of_ble_eq_true rfl) hl.1 ⟨Nat.le_of_ble_eq_true rfl, Nat.le_of_ble_eq_true rfl, Nat.le_of_ble_eq_true rfl, Nat.le_of_ble_eq_true rfl⟩ dX7_readSum_58 (fun H locs hS => ?_)
  refine lv_aload_n C.1 C.2.1 dX7_readSum_61 rfl (lv_at hl 1 rfl) ?_
  refine lv_iload C.1 C.2.1 dX7_readSum_62 (lv_at hl 0 rfl) ?_
  obtain ⟨r12, h13, er12, hf⟩ := zbd_some hf
  refine zcallVV (As := [.int y9]) (rest := []) C hS mv_X7_130 (c_X7_readUnit l G h11 y9 (r12, h13) (fun c h => hm c (sn_X7_readSum_X7_readUnit c h)) (fun q h => hk q (sl_X7_readSum_X7_readUnit q h)) er12) (hm 29 (by decide)) ⟨_, _, _, sh_29, rfl, rfl⟩ rfl rfl (Nat.le_of_ble_eq_true rfl) hl.1 ⟨Nat.le_of_ble_eq_true rfl, Nat.le_of_ble_eq_true rfl, Nat.le_of_ble_eq_true rfl, Nat.le_of_ble_eq_true rfl⟩ dX7_readSum_64 (fun H locs hS => ?_)
  obtain ⟨y14, ey14, hf⟩ := zlt_some hf
  refine lv_iinc (v := y14) (lv' := [(4, .int y14), (5, .int y9), (0, .ref (zal G 29)), (2, .int x2), (3, .int x3)]) C.1 C.2.1 dX7_readSum_67 hl (k := 4) rfl ey14.symm (by decide) rfl (fun ls hl => ?_)
  refine lv_goto (tgt := 25) C.1 C.2.1 dX7_readSum_70 (by decide) ?_
  exact hk25 _ _ _ _ _ _ _ (lv_sub hl [2, 3, 4, 0] rfl) hS hf
set_option maxHeartbeats 4000000 in
set_option maxRecDepth 100000 in
theorem w_X7_readSum_25 {k6 : Int32 → Int32 → Int32 → zH → zR} (C : zC G p s m args meth c cX7_readSum 6 RX7 none) (hm : ∀ c ∈ nd_X7_readSum, c ∈ znm G) (hk : ∀ q ∈ ld_X7_readSum, zlk G q.1 q.2 = true) (hk6 : ∀ (ls : Array Slot) (H : Heap) (locs : List Loc) (h : zH) (x1 : Int32) (x2 : Int32) (x3 : Int32), lv_has ls 6 [(0, .ref (zal G 29)), (1, .int x1), (2, .int x2), (3, .int x3)] → zS G h s.heap H locs → k6 x1 x2 x3 h = some q → W p l e (zrm (4)) s m args below meth c H locs 0 0 (MQ below (zQV G q.2) args s 0 0 (zA G)) (F0 m 6 ls [])) : ∀ n, ∀ (ls : Array Slot) (H : Heap) (locs : List Loc) (h : zH) (x2 : Int32) (x3 : Int32) (x4 : Int32), lv_has ls 6 [(0, .ref (zal G 29)), (2, .int x2), (3, .int x3), (4, .int x4)] → zS G h s.heap H locs → f_X7_readSum_25 k6 n x2 x3 x4 h = some q → W p l e (zrm (4)) s m args below meth c H locs 0 0 (MQ below (zQV G q.2) args s 0 0 (zA G)) (F0 m 25 ls []) := by
  intro n
  induction n with
  | zero => intro ls H locs h x2 x3 x4 hl hS hf; cases hf
  | succ n ih =>
    intro ls H locs h x2 x3 x4 hl hS hf
    rw [f_X7_readSum_25] at hf
    refine lv_iload C.1 C.2.1 dX7_readSum_25 (lv_at hl 3 rfl) ?_
    refine lv_sipush (v := (400 : Int32)) C.1 C.2.1 dX7_readSum_27 rfl ?_
    refine lv_icmp_ge (tgt := 73) C.1 C.2.1 dX7_readSum_30 (by decide) (fun hc => ?_) (fun hc => ?_)
    · have hf := zif_t hc hf
      exact w_X7_readSum_73 C hm hk hk6 _ _ _ _ _ _ (lv_sub hl [0, 1, 2] rfl) hS hf
    · have hf := zif_f hc hf
      refine lv_aload_n C.1 C.2.1 dX7_readSum_33 rfl (lv_at hl 0 rfl) ?_
      refine zgetI C hS ff_X7_51_29 (hm 29 (by decide)) dX7_readSum_34 ?_
      refine lv_bipush (v := (18 : Int32)) C.1 C.2.1 dX7_readSum_37 rfl ?_
      refine lv_icmp_eq (tgt := 51) C.1 C.2.1 dX7_readSum_39 (by decide) (fun hc => ?_) (fun hc => ?_)
      · have hf := zif_t hc hf
        exact w_X7_readSum_51 C hm hk hk6 ih _ _ _ _ _ _ _ (lv_sub hl [0, 1, 2, 3] rfl) hS hf
      · have hf := zif_f hc hf
        refine lv_aload_n C.1 C.2.1 dX7_readSum_42 rfl (lv_at hl 0 rfl) ?_
        refine zgetI C hS ff_X7_51_29 (hm 29 (by decide)) dX7_readSum_43 ?_
        refine lv_bipush (v := (19 : Int32)) C.1 C.2.1 dX7_readSum_46 rfl ?_
        refine lv_icmp_ne (tgt := 73) C.1 C.2.1 dX7_readSum_48 (by decide) (fun hc => ?_) (fun hc => ?_)
        · have hf := zif_f hc hf
          exact w_X7_readSum_73 C hm hk hk6 _ _ _ _ _ _ (lv_sub hl [0, 1, 2] rfl) hS hf
        · have hf := zif_t hc hf
          exact w_X7_readSum_51 C hm hk hk6 ih _ _ _ _ _ _ _ (lv_sub hl [0, 1, 2, 3] rfl) hS hf
set_option maxHeartbeats 4000000 in
set_option maxRecDepth 100000 in
theorem w_X7_readSum_6  (C : zC G p s m args meth c cX7_readSum 6 RX7 none) (hm : ∀ c ∈ nd_X7_readSum, c ∈ znm G) (hk : ∀ q ∈ ld_X7_readSum, zlk G q.1 q.2 = true)  : ∀ n, ∀ (ls : Array Slot) (H : Heap) (locs : List Loc) (h : zH) (x1 : Int32) (x2 : Int32) (x3 : Int32), lv_has ls 6 [(0, .ref (zal G 29)), (1, .int x1), (2, .int x2), (3, .int x3)] → zS G h s.heap H locs → f_X7_readSum_6  n x1 x2 x3 h = some q → W p l e (zrm (4)) s m args below meth c H locs 0 0 (MQ below (zQV G q.2) args s 0 0 (zA G)) (F0 m 6 ls []) := by
  intro n
  induction n with
  | zero => intro ls H locs h x1 x2 x3 hl hS hf; cases hf
  | succ n ih =>
    intro ls H locs h x1 x2 x3 hl hS hf
    rw [f_X7_readSum_6] at hf
    refine lv_iload_n C.1 C.2.1 dX7_readSum_6 rfl (lv_at hl 3 rfl) ?_
    refine lv_sipush (v := (400 : Int32)) C.1 C.2.1 dX7_readSum_7 rfl ?_
    refine lv_icmp_ge (tgt := 137) C.1 C.2.1 dX7_readSum_10 (by decide) (fun hc => ?_) (fun hc => ?_)
    · have hf := zif_t hc hf
      exact zretV C hS hf dX7_readSum_137
    · have hf := zif_f hc hf
      refine lv_iload_n C.1 C.2.1 dX7_readSum_13 rfl (lv_at hl 1 rfl) ?_
      refine lv_if_eq (tgt := 137) C.1 C.2.1 dX7_readSum_14 (by decide) (fun hc => ?_) (fun hc => ?_)
      · have hf := zif_t hc hf
        exact zretV C hS hf dX7_readSum_137
      · have hf := zif_f hc hf
        refine lv_aload_n C.1 C.2.1 dX7_readSum_17 rfl (lv_at hl 0 rfl) ?_
        refine lv_iconst (v := (1 : Int32)) C.1 C.2.1 dX7_readSum_18 rfl ?_
        obtain ⟨r1, h2, er1, hf⟩ := zbd_some hf
        refine zcallVV (As := [.int (1 : Int32)]) (rest := []) C hS mv_X7_130 (c_X7_readUnit l G h (1 : Int32) (r1, h2) (fun c h => hm c (sn_X7_readSum_X7_readUnit c h)) (fun q h => hk q (sl_X7_readSum_X7_readUnit q h)) er1) (hm 29 (by decide)) ⟨_, _, _, sh_29, rfl, rfl⟩ rfl rfl (Nat.le_of_ble_eq_true rfl) hl.1 ⟨Nat.le_of_ble_eq_true rfl, Nat.le_of_ble_eq_true rfl, Nat.le_of_ble_eq_true rfl, Nat.le_of_ble_eq_true rfl⟩ dX7_readSum_19 (fun H locs hS => ?_)
        refine lv_iconst (v := (0 : Int32)) C.1 C.2.1 dX7_readSum_22 rfl ?_
        refine lv_istore (lv' := [(4, .int (0 : Int32)), (0, .ref (zal G 29)), (1, .int x1), (2, .int x2), (3, .int x3)]) C.1 C.2.1 dX7_readSum_23 hl (by decide) rfl (fun ls hl => ?_)
        exact w_X7_readSum_25 C hm hk ih zN _ _ _ _ _ _ _ (lv_sub hl [1, 3, 4, 0] rfl) hS hf
set_option maxHeartbeats 4000000 in
set_option maxRecDepth 100000 in
theorem c_X7_readSum (l : Launch) (G : zG) (h : zH) (q : Int32 × zH) (hm : ∀ c ∈ nd_X7_readSum, c ∈ znm G) (hk : ∀ q ∈ ld_X7_readSum, zlk G q.1 q.2 = true) (hf : f_X7_readSum h = some q) : zCtV l yX7_readSum cX7_readSum 6 none (4) [.ref (zal G 29)] G h q.2 := by
  refine zMetV (by decide) (Nat.le_of_ble_eq_true rfl) ?_
  intro p e s m below meth c ls C hl hS
  have hl : lv_has ls 6 [(0, .ref (zal G 29))] := hl
  have C : zC G p s m [.ref (zal G 29)].toArray meth c cX7_readSum 6 RX7 none := C
  unfold f_X7_readSum at hf
  refine lv_iconst (v := (1 : Int32)) C.1 C.2.1 dX7_readSum_0 rfl ?_
  refine lv_istore_n (lv' := [(1, .int (1 : Int32)), (0, .ref (zal G 29))]) C.1 C.2.1 dX7_readSum_1 rfl hl (by decide) rfl (fun ls hl => ?_)
  refine lv_iconst (v := (1 : Int32)) C.1 C.2.1 dX7_readSum_2 rfl ?_
  refine lv_istore_n (lv' := [(2, .int (1 : Int32)), (1, .int (1 : Int32)), (0, .ref (zal G 29))]) C.1 C.2.1 dX7_readSum_3 rfl hl (by decide) rfl (fun ls hl => ?_)
  refine lv_iconst (v := (0 : Int32)) C.1 C.2.1 dX7_readSum_4 rfl ?_
  refine lv_istore_n (lv' := [(3, .int (0 : Int32)), (2, .int (1 : Int32)), (1, .int (1 : Int32)), (0, .ref (zal G 29))]) C.1 C.2.1 dX7_readSum_5 rfl hl (by decide) rfl (fun ls hl => ?_)
  exact w_X7_readSum_6 C hm hk  zN _ _ _ _ _ _ _ (lv_sub hl [3, 2, 1, 0] rfl) hS hf
end
section
theorem dX7_readCondition_0 : decode cX7_readCondition 0 = .ok (.iconst 1, 1) := by decide +kernel
theorem dX7_readCondition_1 : decode cX7_readCondition 1 = .ok (.istore_n 2, 1) := by decide +kernel
theorem dX7_readCondition_2 : decode cX7_readCondition 2 = .ok (.iconst 1, 1) := by decide +kernel
theorem dX7_readCondition_3 : decode cX7_readCondition 3 = .ok (.istore_n 3, 1) := by decide +kernel
theorem dX7_readCondition_4 : decode cX7_readCondition 4 = .ok (.iconst 0, 1) := by decide +kernel
theorem dX7_readCondition_5 : decode cX7_readCondition 5 = .ok (.istore 4, 2) := by decide +kernel
theorem dX7_readCondition_7 : decode cX7_readCondition 7 = .ok (.iload 4, 2) := by decide +kernel
theorem dX7_readCondition_9 : decode cX7_readCondition 9 = .ok (.sipush 400, 3) := by decide +kernel
theorem dX7_readCondition_12 : decode cX7_readCondition 12 = .ok (.if_icmp .ge 104, 3) := by decide +kernel
theorem dX7_readCondition_15 : decode cX7_readCondition 15 = .ok (.iload_n 2, 1) := by decide +kernel
theorem dX7_readCondition_16 : decode cX7_readCondition 16 = .ok (.ifCond .eq 100, 3) := by decide +kernel
theorem dX7_readCondition_19 : decode cX7_readCondition 19 = .ok (.aload_n 0, 1) := by decide +kernel
theorem dX7_readCondition_20 : decode cX7_readCondition 20 = .ok (.iload_n 1, 1) := by decide +kernel
theorem dX7_readCondition_21 : decode cX7_readCondition 21 = .ok (.invokevirtual 127, 3) := by decide +kernel
theorem dX7_readCondition_24 : decode cX7_readCondition 24 = .ok (.iconst 0, 1) := by decide +kernel
theorem dX7_readCondition_25 : decode cX7_readCondition 25 = .ok (.istore 5, 2) := by decide +kernel
theorem dX7_readCondition_27 : decode cX7_readCondition 27 = .ok (.iload 5, 2) := by decide +kernel
theorem dX7_readCondition_29 : decode cX7_readCondition 29 = .ok (.sipush 400, 3) := by decide +kernel
theorem dX7_readCondition_32 : decode cX7_readCondition 32 = .ok (.if_icmp .ge 37, 3) := by decide +kernel
theorem dX7_readCondition_35 : decode cX7_readCondition 35 = .ok (.aload_n 0, 1) := by decide +kernel
theorem dX7_readCondition_36 : decode cX7_readCondition 36 = .ok (.getfield 51, 3) := by decide +kernel
theorem dX7_readCondition_39 : decode cX7_readCondition 39 = .ok (.bipush 6, 2) := by decide +kernel
theorem dX7_readCondition_41 : decode cX7_readCondition 41 = .ok (.if_icmp .ne 28, 3) := by decide +kernel
theorem dX7_readCondition_44 : decode cX7_readCondition 44 = .ok (.aload_n 0, 1) := by decide +kernel
theorem dX7_readCondition_45 : decode cX7_readCondition 45 = .ok (.invokevirtual 104, 3) := by decide +kernel
theorem dX7_readCondition_48 : decode cX7_readCondition 48 = .ok (.aload_n 0, 1) := by decide +kernel
theorem dX7_readCondition_49 : decode cX7_readCondition 49 = .ok (.iload_n 1, 1) := by decide +kernel
theorem dX7_readCondition_50 : decode cX7_readCondition 50 = .ok (.invokevirtual 127, 3) := by decide +kernel
theorem dX7_readCondition_53 : decode cX7_readCondition 53 = .ok (.aload_n 0, 1) := by decide +kernel
theorem dX7_readCondition_54 : decode cX7_readCondition 54 = .ok (.getfield 28, 3) := by decide +kernel
theorem dX7_readCondition_57 : decode cX7_readCondition 57 = .ok (.bipush 6, 2) := by decide +kernel
theorem dX7_readCondition_59 : decode cX7_readCondition 59 = .ok (.iconst 0, 1) := by decide +kernel
theorem dX7_readCondition_60 : decode cX7_readCondition 60 = .ok (.invokevirtual 124, 3) := by decide +kernel
theorem dX7_readCondition_63 : decode cX7_readCondition 63 = .ok (.iinc 5 1, 3) := by decide +kernel
theorem dX7_readCondition_66 : decode cX7_readCondition 66 = .ok (.goto (-39), 3) := by decide +kernel
theorem dX7_readCondition_69 : decode cX7_readCondition 69 = .ok (.iload_n 3, 1) := by decide +kernel
theorem dX7_readCondition_70 : decode cX7_readCondition 70 = .ok (.iconst 5, 1) := by decide +kernel
theorem dX7_readCondition_71 : decode cX7_readCondition 71 = .ok (.if_icmp .ne 12, 3) := by decide +kernel
theorem dX7_readCondition_74 : decode cX7_readCondition 74 = .ok (.aload_n 0, 1) := by decide +kernel
theorem dX7_readCondition_75 : decode cX7_readCondition 75 = .ok (.getfield 28, 3) := by decide +kernel
theorem dX7_readCondition_78 : decode cX7_readCondition 78 = .ok (.iconst 5, 1) := by decide +kernel
theorem dX7_readCondition_79 : decode cX7_readCondition 79 = .ok (.iconst 0, 1) := by decide +kernel
theorem dX7_readCondition_80 : decode cX7_readCondition 80 = .ok (.invokevirtual 124, 3) := by decide +kernel
theorem dX7_readCondition_83 : decode cX7_readCondition 83 = .ok (.aload_n 0, 1) := by decide +kernel
theorem dX7_readCondition_84 : decode cX7_readCondition 84 = .ok (.getfield 51, 3) := by decide +kernel
theorem dX7_readCondition_87 : decode cX7_readCondition 87 = .ok (.istore_n 3, 1) := by decide +kernel
theorem dX7_readCondition_88 : decode cX7_readCondition 88 = .ok (.aload_n 0, 1) := by decide +kernel
theorem dX7_readCondition_89 : decode cX7_readCondition 89 = .ok (.getfield 51, 3) := by decide +kernel
theorem dX7_readCondition_92 : decode cX7_readCondition 92 = .ok (.iconst 5, 1) := by decide +kernel
theorem dX7_readCondition_93 : decode cX7_readCondition 93 = .ok (.if_icmp .ne 7, 3) := by decide +kernel
theorem dX7_readCondition_96 : decode cX7_readCondition 96 = .ok (.iconst 1, 1) := by decide +kernel
theorem dX7_readCondition_97 : decode cX7_readCondition 97 = .ok (.goto 4, 3) := by decide +kernel
theorem dX7_readCondition_100 : decode cX7_readCondition 100 = .ok (.iconst 0, 1) := by decide +kernel
theorem dX7_readCondition_101 : decode cX7_readCondition 101 = .ok (.istore_n 2, 1) := by decide +kernel
theorem dX7_readCondition_102 : decode cX7_readCondition 102 = .ok (.iload_n 2, 1) := by decide +kernel
theorem dX7_readCondition_103 : decode cX7_readCondition 103 = .ok (.ifCond .eq 7, 3) := by decide +kernel
theorem dX7_readCondition_106 : decode cX7_readCondition 106 = .ok (.aload_n 0, 1) := by decide +kernel
theorem dX7_readCondition_107 : decode cX7_readCondition 107 = .ok (.invokevirtual 104, 3) := by decide +kernel
theorem dX7_readCondition_110 : decode cX7_readCondition 110 = .ok (.iinc 4 1, 3) := by decide +kernel
theorem dX7_readCondition_113 : decode cX7_readCondition 113 = .ok (.goto (-106), 3) := by decide +kernel
theorem dX7_readCondition_116 : decode cX7_readCondition 116 = .ok (.return_, 1) := by decide +kernel
abbrev nd_X7_readCondition : List Nat := [29, 31, 34, 35, 36]
abbrev ld_X7_readCondition : List (Nat × Nat) := [(29, 1), (29, 4), (34, 0), (34, 1)]
theorem sn_X7_readCondition_X7_step : ∀ c ∈ nd_X7_step, c ∈ nd_X7_readCondition := by decide
theorem sl_X7_readCondition_X7_step : ∀ q ∈ ld_X7_step, q ∈ ld_X7_readCondition := by decide
theorem sn_X7_readCondition_X5_add_t34 : ∀ c ∈ nd_X5_add_t34, c ∈ nd_X7_readCondition := by decide
theorem sl_X7_readCondition_X5_add_t34 : ∀ q ∈ ld_X5_add_t34, q ∈ ld_X7_readCondition := by decide
def f_X7_readCondition_110 (F : Int32 → zH → zR) (k7 : Int32 → Int32 → Int32 → Int32 → zH → zR) (x1 : Int32) (x2 : Int32) (x3 : Int32) (x4 : Int32) (h : zH) : zR := (zlt (x4 + (1 : Int32)) fun y4 => (k7 x1 x2 x3 y4 h))
def f_X7_readCondition_101 (F : Int32 → zH → zR) (k7 : Int32 → Int32 → Int32 → Int32 → zH → zR) (x1 : Int32) (x3 : Int32) (x4 : Int32) (s0 : Int32) (h : zH) : zR := (if s0 = 0 then (f_X7_readCondition_110 F k7 x1 s0 x3 x4 h) else (zbd (f_X7_step  h) fun r5 h6 => (f_X7_readCondition_110 F k7 x1 s0 x3 x4 h6)))
def f_X7_readCondition_83 (F : Int32 → zH → zR) (k7 : Int32 → Int32 → Int32 → Int32 → zH → zR) (x1 : Int32) (x4 : Int32) (h : zH) : zR := (zlt (h 29 10) fun y3 => (if (h 29 10) = (5 : Int32) then (f_X7_readCondition_101 F k7 x1 y3 x4 (1 : Int32) h) else (f_X7_readCondition_101 F k7 x1 y3 x4 (0 : Int32) h)))
def f_X7_readCondition_69 (F : Int32 → zH → zR) (k7 : Int32 → Int32 → Int32 → Int32 → zH → zR) (x1 : Int32) (x3 : Int32) (x4 : Int32) (h : zH) : zR := (if x3 = (5 : Int32) then (zbd (f_X5_add_t34 (5 : Int32) (0 : Int32) h) fun r7 h8 => (f_X7_readCondition_83 F k7 x1 x4 h8)) else (f_X7_readCondition_83 F k7 x1 x4 h))
def f_X7_readCondition_27 (F : Int32 → zH → zR) (k7 : Int32 → Int32 → Int32 → Int32 → zH → zR) : Nat → Int32 → Int32 → Int32 → Int32 → zH → zR
  | 0 => fun _ _ _ _ _ => none
  | n + 1 => fun x1 x3 x4 x5 h => (if (400 : Int32) ≤ x5 then (f_X7_readCondition_69 F k7 x1 x3 x4 h) else (if (h 29 10) = (6 : Int32) then (zbd (f_X7_step  h) fun r9 h10 => (zbd (F x1 h10) fun r11 h12 => (zbd (f_X5_add_t34 (6 : Int32) (0 : Int32) h12) fun r13 h14 => (zlt (x5 + (1 : Int32)) fun y15 => (f_X7_readCondition_27 F k7 n x1 x3 x4 y15 h14))))) else (f_X7_readCondition_69 F k7 x1 x3 x4 h)))
def f_X7_readCondition_7 (F : Int32 → zH → zR)  : Nat → Int32 → Int32 → Int32 → Int32 → zH → zR
  | 0 => fun _ _ _ _ _ => none
  | n + 1 => fun x1 x2 x3 x4 h => (if (400 : Int32) ≤ x4 then (some (0, h)) else (if x2 = 0 then (some (0, h)) else (zbd (F x1 h) fun r1 h2 => (f_X7_readCondition_27 F (f_X7_readCondition_7 F  n) zN x1 x3 x4 (0 : Int32) h2))))
def f_X7_readCondition (F : Int32 → zH → zR)  (x1 : Int32) (h : zH) : zR := (f_X7_readCondition_7 F  zN x1 (1 : Int32) (1 : Int32) (0 : Int32) h)
variable {p : Program} {l : Launch} {e : Env} {s : State} {m : MethodId} {args : Array Value} {below : List Frame} {meth : Method} {c : Code} {G : zG} {q : Int32 × zH}
set_option maxHeartbeats 4000000 in
set_option maxRecDepth 100000 in
theorem w_X7_readCondition_110 {F : Int32 → zH → zR} {nq : Nat} {k7 : Int32 → Int32 → Int32 → Int32 → zH → zR} (C : zC G p s m args meth c cX7_readCondition 6 RX7 none) (hm : ∀ c ∈ nd_X7_readCondition, c ∈ znm G) (hk : ∀ q ∈ ld_X7_readCondition, zlk G q.1 q.2 = true) (hn : 4 ≤ nq) (hF : ∀ (h : zH) (x1 : Int32) (q : Int32 × zH), F x1 h = some q → zCtV l yX7_readClause cX7_readClause 4 none nq [.ref (zal G 29), .int x1] G h q.2) (hk7 : ∀ (ls : Array Slot) (H : Heap) (locs : List Loc) (h : zH) (x1 : Int32) (x2 : Int32) (x3 : Int32) (x4 : Int32), lv_has ls 6 [(0, .ref (zal G 29)), (1, .int x1), (2, .int x2), (3, .int x3), (4, .int x4)] → zS G h s.heap H locs → k7 x1 x2 x3 x4 h = some q → W p l e (zrm (nq + 1)) s m args below meth c H locs 0 0 (MQ below (zQV G q.2) args s 0 0 (zA G)) (F0 m 7 ls [])) : ∀ (ls : Array Slot) (H : Heap) (locs : List Loc) (h : zH) (x1 : Int32) (x2 : Int32) (x3 : Int32) (x4 : Int32), lv_has ls 6 [(0, .ref (zal G 29)), (1, .int x1), (2, .int x2), (3, .int x3), (4, .int x4)] → zS G h s.heap H locs → f_X7_readCondition_110 F k7 x1 x2 x3 x4 h = some q → W p l e (zrm (nq + 1)) s m args below meth c H locs 0 0 (MQ below (zQV G q.2) args s 0 0 (zA G)) (F0 m 110 ls []) := by
  intro ls H locs h x1 x2 x3 x4 hl hS hf
  unfold f_X7_readCondition_110 at hf
  obtain ⟨y4, ey4, hf⟩ := zlt_some hf
  refine lv_iinc (v := y4) (lv' := [(4, .int y4), (0, .ref (zal G 29)), (1, .int x1), (2, .int x2), (3, .int x3)]) C.1 C.2.1 dX7_readCondition_110 hl (k := 4) rfl ey4.symm (by decide) rfl (fun ls hl => ?_)
  refine lv_goto (tgt := 7) C.1 C.2.1 dX7_readCondition_113 (by decide) ?_
  exact hk7 _ _ _ _ _ _ _ _ (lv_sub hl [1, 2, 3, 4, 0] rfl) hS hf
set_option maxHeartbeats 4000000 in
set_option maxRecDepth 100000 in
theorem w_X7_readCondition_101 {F : Int32 → zH → zR} {nq : Nat} {k7 : Int32 → Int32 → Int32 → Int32 → zH → zR} (C : zC G p s m args meth c cX7_readCondition 6 RX7 none) (hm : ∀ c ∈ nd_X7_readCondition, c ∈ znm G) (hk : ∀ q ∈ ld_X7_readCondition, zlk G q.1 q.2 = true) (hn : 4 ≤ nq) (hF : ∀ (h : zH) (x1 : Int32) (q : Int32 × zH), F x1 h = some q → zCtV l yX7_readClause cX7_readClause 4 none nq [.ref (zal G 29), .int x1] G h q.2) (hk7 : ∀ (ls : Array Slot) (H : Heap) (locs : List Loc) (h : zH) (x1 : Int32) (x2 : Int32) (x3 : Int32) (x4 : Int32), lv_has ls 6 [(0, .ref (zal G 29)), (1, .int x1), (2, .int x2), (3, .int x3), (4, .int x4)] → zS G h s.heap H locs → k7 x1 x2 x3 x4 h = some q → W p l e (zrm (nq + 1)) s m args below meth c H locs 0 0 (MQ below (zQV G q.2) args s 0 0 (zA G)) (F0 m 7 ls [])) : ∀ (ls : Array Slot) (H : Heap) (locs : List Loc) (h : zH) (x1 : Int32) (x3 : Int32) (x4 : Int32) (s0 : Int32), lv_has ls 6 [(0, .ref (zal G 29)), (1, .int x1), (3, .int x3), (4, .int x4)] → zS G h s.heap H locs → f_X7_readCondition_101 F k7 x1 x3 x4 s0 h = some q → W p l e (zrm (nq + 1)) s m args below meth c H locs 0 0 (MQ below (zQV G q.2) args s 0 0 (zA G)) (F0 m 101 ls [.int s0]) := by
  intro ls H locs h x1 x3 x4 s0 hl hS hf
  unfold f_X7_readCondition_101 at hf
  refine lv_istore_n (lv' := [(2, .int s0), (0, .ref (zal G 29)), (1, .int x1), (3, .int x3), (4, .int x4)]) C.1 C.2.1 dX7_readCondition_101 rfl hl (by decide) rfl (fun ls hl => ?_)
  refine lv_iload_n C.1 C.2.1 dX7_readCondition_102 rfl (lv_at hl 0 rfl) ?_
  refine lv_if_eq (tgt := 110) C.1 C.2.1 dX7_readCondition_103 (by decide) (fun hc => ?_) (fun hc => ?_)
  · have hf := zif_t hc hf
    exact w_X7_readCondition_110 C hm hk hn hF hk7 _ _ _ _ _ _ _ _ (lv_sub hl [1, 2, 0, 3, 4] rfl) hS hf
  · have hf := zif_f hc hf
    refine lv_aload_n C.1 C.2.1 dX7_readCondition_106 rfl (lv_at hl 1 rfl) ?_
    obtain ⟨r5, h6, er5, hf⟩ := zbd_some hf
    refine zcallVV (As := []) (rest := []) C hS mv_X7_104 (c_X7_step l G h  (r5, h6) (fun c h => hm c (sn_X7_readCondition_X7_step c h)) (fun q h => hk q (sl_X7_readCondition_X7_step q h)) er5) (hm 29 (by decide)) ⟨_, _, _, sh_29, rfl, rfl⟩ rfl rfl (Nat.le_of_ble_eq_true rfl) hl.1 ⟨by show 2 + 1 ≤ nq + 1; omega, by show 60 + 60 * (2) ≤ 60 * (nq + 1); omega, Nat.le_of_ble_eq_true rfl, Nat.le_of_ble_eq_true rfl⟩ dX7_readCondition_107 (fun H locs hS => ?_)
    exact w_X7_readCondition_110 C hm hk hn hF hk7 _ _ _ _ _ _ _ _ (lv_sub hl [1, 2, 0, 3, 4] rfl) hS hf
set_option maxHeartbeats 4000000 in
set_option maxRecDepth 100000 in
theorem w_X7_readCondition_83 {F : Int32 → zH → zR} {nq : Nat} {k7 : Int32 → Int32 → Int32 → Int32 → zH → zR} (C : zC G p s m args meth c cX7_readCondition 6 RX7 none) (hm : ∀ c ∈ nd_X7_readCondition, c ∈ znm G) (hk : ∀ q ∈ ld_X7_readCondition, zlk G q.1 q.2 = true) (hn : 4 ≤ nq) (hF : ∀ (h : zH) (x1 : Int32) (q : Int32 × zH), F x1 h = some q → zCtV l yX7_readClause cX7_readClause 4 none nq [.ref (zal G 29), .int x1] G h q.2) (hk7 : ∀ (ls : Array Slot) (H : Heap) (locs : List Loc) (h : zH) (x1 : Int32) (x2 : Int32) (x3 : Int32) (x4 : Int32), lv_has ls 6 [(0, .ref (zal G 29)), (1, .int x1), (2, .int x2), (3, .int x3), (4, .int x4)] → zS G h s.heap H locs → k7 x1 x2 x3 x4 h = some q → W p l e (zrm (nq + 1)) s m args below meth c H locs 0 0 (MQ below (zQV G q.2) args s 0 0 (zA G)) (F0 m 7 ls [])) : ∀ (ls : Array Slot) (H : Heap) (locs : List Loc) (h : zH) (x1 : Int32) (x4 : Int32), lv_has ls 6 [(0, .ref (zal G 29)), (1, .int x1), (4, .int x4)] → zS G h s.heap H locs → f_X7_readCondition_83 F k7 x1 x4 h = some q → W p l e (zrm (nq + 1)) s m args below meth c H locs 0 0 (MQ below (zQV G q.2) args s 0 0 (zA G)) (F0 m 83 ls []) := by
  intro ls H locs h x1 x4 hl hS hf
  unfold f_X7_readCondition_83 at hf
  refine lv_aload_n C.1 C.2.1 dX7_readCondition_83 rfl (lv_at hl 0 rfl) ?_
  refine zgetI C hS ff_X7_51_29 (hm 29 (by decide)) dX7_readCondition_84 ?_
  obtain ⟨y3, ey3, hf⟩ := zlt_some hf
  refine ztop ey3 ?_
  refine lv_istore_n (lv' := [(3, .int y3), (0, .ref (zal G 29)), (1, .int x1), (4, .int x4)]) C.1 C.2.1 dX7_readCondition_87 rfl hl (by decide) rfl (fun ls hl => ?_)
  refine lv_aload_n C.1 C.2.1 dX7_readCondition_88 rfl (lv_at hl 1 rfl) ?_
  refine zgetI C hS ff_X7_51_29 (hm 29 (by decide)) dX7_readCondition_89 ?_
  refine lv_iconst (v := (5 : Int32)) C.1 C.2.1 dX7_readCondition_92 rfl ?_
  refine lv_icmp_ne (tgt := 100) C.1 C.2.1 dX7_readCondition_93 (by decide) (fun hc => ?_) (fun hc => ?_)
  · have hf := zif_f hc hf
    refine lv_iconst (v := (0 : Int32)) C.1 C.2.1 dX7_readCondition_100 rfl ?_
    exact w_X7_readCondition_101 C hm hk hn hF hk7 _ _ _ _ _ _ _ _ (lv_sub hl [1, 2, 0, 3] rfl) hS hf
  · have hf := zif_t hc hf
    refine lv_iconst (v := (1 : Int32)) C.1 C.2.1 dX7_readCondition_96 rfl ?_
    refine lv_goto (tgt := 101) C.1 C.2.1 dX7_readCondition_97 (by decide) ?_
    exact w_X7_readCondition_101 C hm hk hn hF hk7 _ _ _ _ _ _ _ _ (lv_sub hl [1, 2, 0, 3] rfl) hS hf
set_option maxHeartbeats 4000000 in
set_option maxRecDepth 100000 in
theorem w_X7_readCondition_69 {F : Int32 → zH → zR} {nq : Nat} {k7 : Int32 → Int32 → Int32 → Int32 → zH → zR} (C : zC G p s m args meth c cX7_readCondition 6 RX7 none) (hm : ∀ c ∈ nd_X7_readCondition, c ∈ znm G) (hk : ∀ q ∈ ld_X7_readCondition, zlk G q.1 q.2 = true) (hn : 4 ≤ nq) (hF : ∀ (h : zH) (x1 : Int32) (q : Int32 × zH), F x1 h = some q → zCtV l yX7_readClause cX7_readClause 4 none nq [.ref (zal G 29), .int x1] G h q.2) (hk7 : ∀ (ls : Array Slot) (H : Heap) (locs : List Loc) (h : zH) (x1 : Int32) (x2 : Int32) (x3 : Int32) (x4 : Int32), lv_has ls 6 [(0, .ref (zal G 29)), (1, .int x1), (2, .int x2), (3, .int x3), (4, .int x4)] → zS G h s.heap H locs → k7 x1 x2 x3 x4 h = some q → W p l e (zrm (nq + 1)) s m args below meth c H locs 0 0 (MQ below (zQV G q.2) args s 0 0 (zA G)) (F0 m 7 ls [])) : ∀ (ls : Array Slot) (H : Heap) (locs : List Loc) (h : zH) (x1 : Int32) (x3 : Int32) (x4 : Int32), lv_has ls 6 [(0, .ref (zal G 29)), (1, .int x1), (3, .int x3), (4, .int x4)] → zS G h s.heap H locs → f_X7_readCondition_69 F k7 x1 x3 x4 h = some q → W p l e (zrm (nq + 1)) s m args below meth c H locs 0 0 (MQ below (zQV G q.2) args s 0 0 (zA G)) (F0 m 69 ls []) := by
  intro ls H locs h x1 x3 x4 hl hS hf
  unfold f_X7_readCondition_69 at hf
  refine lv_iload_n C.1 C.2.1 dX7_readCondition_69 rfl (lv_at hl 2 rfl) ?_
  refine lv_iconst (v := (5 : Int32)) C.1 C.2.1 dX7_readCondition_70 rfl ?_
  refine lv_icmp_ne (tgt := 83) C.1 C.2.1 dX7_readCondition_71 (by decide) (fun hc => ?_) (fun hc => ?_)
  · have hf := zif_f hc hf
    exact w_X7_readCondition_83 C hm hk hn hF hk7 _ _ _ _ _ _ (lv_sub hl [0, 1, 3] rfl) hS hf
  · have hf := zif_t hc hf
    refine lv_aload_n C.1 C.2.1 dX7_readCondition_74 rfl (lv_at hl 0 rfl) ?_
    refine zgetR C hS ff_X7_28_29 (hm 29 (by decide)) (hk (29, 4) (by decide)) dX7_readCondition_75 ?_
    refine lv_iconst (v := (5 : Int32)) C.1 C.2.1 dX7_readCondition_78 rfl ?_
    refine lv_iconst (v := (0 : Int32)) C.1 C.2.1 dX7_readCondition_79 rfl ?_
    obtain ⟨r7, h8, er7, hf⟩ := zbd_some hf
    refine zcallVV (As := [.int (5 : Int32), .int (0 : Int32)]) (rest := []) C hS mv_X7_124 (c_X5_add_t34 l G h (5 : Int32) (0 : Int32) (r7, h8) (fun c h => hm c (sn_X7_readCondition_X5_add_t34 c h)) (fun q h => hk q (sl_X7_readCondition_X5_add_t34 q h)) er7) (hm 34 (by decide)) ⟨_, _, _, sh_34, rfl, rfl⟩ rfl rfl (Nat.le_of_ble_eq_true rfl) hl.1 ⟨by show 2 + 1 ≤ nq + 1; omega, by show 60 + 60 * (2) ≤ 60 * (nq + 1); omega, Nat.le_of_ble_eq_true rfl, Nat.le_of_ble_eq_true rfl⟩ dX7_readCondition_80 (fun H locs hS => ?_)
    exact w_X7_readCondition_83 C hm hk hn hF hk7 _ _ _ _ _ _ (lv_sub hl [0, 1, 3] rfl) hS hf
set_option maxHeartbeats 4000000 in
set_option maxRecDepth 100000 in
theorem w_X7_readCondition_27 {F : Int32 → zH → zR} {nq : Nat} {k7 : Int32 → Int32 → Int32 → Int32 → zH → zR} (C : zC G p s m args meth c cX7_readCondition 6 RX7 none) (hm : ∀ c ∈ nd_X7_readCondition, c ∈ znm G) (hk : ∀ q ∈ ld_X7_readCondition, zlk G q.1 q.2 = true) (hn : 4 ≤ nq) (hF : ∀ (h : zH) (x1 : Int32) (q : Int32 × zH), F x1 h = some q → zCtV l yX7_readClause cX7_readClause 4 none nq [.ref (zal G 29), .int x1] G h q.2) (hk7 : ∀ (ls : Array Slot) (H : Heap) (locs : List Loc) (h : zH) (x1 : Int32) (x2 : Int32) (x3 : Int32) (x4 : Int32), lv_has ls 6 [(0, .ref (zal G 29)), (1, .int x1), (2, .int x2), (3, .int x3), (4, .int x4)] → zS G h s.heap H locs → k7 x1 x2 x3 x4 h = some q → W p l e (zrm (nq + 1)) s m args below meth c H locs 0 0 (MQ below (zQV G q.2) args s 0 0 (zA G)) (F0 m 7 ls [])) : ∀ n, ∀ (ls : Array Slot) (H : Heap) (locs : List Loc) (h : zH) (x1 : Int32) (x3 : Int32) (x4 : Int32) (x5 : Int32), lv_has ls 6 [(0, .ref (zal G 29)), (1, .int x1), (3, .int x3), (4, .int x4), (5, .int x5)] → zS G h s.heap H locs → f_X7_readCondition_27 F k7 n x1 x3 x4 x5 h = some q → W p l e (zrm (nq + 1)) s m args below meth c H locs 0 0 (MQ below (zQV G q.2) args s 0 0 (zA G)) (F0 m 27 ls []) := by
  intro n
  induction n with
  | zero => intro ls H locs h x1 x3 x4 x5 hl hS hf; cases hf
  | succ n ih =>
    intro ls H locs h x1 x3 x4 x5 hl hS hf
    rw [f_X7_readCondition_27] at hf
    refine lv_iload C.1 C.2.1 dX7_readCondition_27 (lv_at hl 4 rfl) ?_
    refine lv_sipush (v := (400 : Int32)) C.1 C.2.1 dX7_readCondition_29 rfl ?_
    refine lv_icmp_ge (tgt := 69) C.1 C.2.1 dX7_readCondition_32 (by decide) (fun hc => ?_) (fun hc => ?_)
    · have hf := zif_t hc hf
      exact w_X7_readCondition_69 C hm hk hn hF hk7 _ _ _ _ _ _ _ (lv_sub hl [0, 1, 2, 3] rfl) hS hf
    · have hf := zif_f hc hf
      refine lv_aload_n C.1 C.2.1 dX7_readCondition_35 rfl (lv_at hl 0 rfl) ?_
      refine zgetI C hS ff_X7_51_29 (hm 29 (by decide)) dX7_readCondition_36 ?_
      refine lv_bipush (v := (6 : Int32)) C.1 C.2.1 dX7_readCondition_39 rfl ?_
      refine lv_icmp_ne (tgt := 69) C.1 C.2.1 dX7_readCondition_41 (by decide) (fun hc => ?_) (fun hc => ?_)
      · have hf := zif_f hc hf
        exact w_X7_readCondition_69 C hm hk hn hF hk7 _ _ _ _ _ _ _ (lv_sub hl [0, 1, 2, 3] rfl) hS hf
      · have hf := zif_t hc hf
        refine lv_aload_n C.1 C.2.1 dX7_readCondition_44 rfl (lv_at hl 0 rfl) ?_
        obtain ⟨r9, h10, er9, hf⟩ := zbd_some hf
        refine zcallVV (As := []) (rest := []) C hS mv_X7_104 (c_X7_step l G h  (r9, h10) (fun c h => hm c (sn_X7_readCondition_X7_step c h)) (fun q h => hk q (sl_X7_readCondition_X7_step q h)) er9) (hm 29 (by decide)) ⟨_, _, _, sh_29, rfl, rfl⟩ rfl rfl (Nat.le_of_ble_eq_true rfl) hl.1 ⟨by show 2 + 1 ≤ nq + 1; omega, by show 60 + 60 * (2) ≤ 60 * (nq + 1); omega, Nat.le_of_ble_eq_true rfl, Nat.le_of_ble_eq_true rfl⟩ dX7_readCondition_45 (fun H locs hS => ?_)
        refine lv_aload_n C.1 C.2.1 dX7_readCondition_48 rfl (lv_at hl 0 rfl) ?_
        refine lv_iload_n C.1 C.2.1 dX7_readCondition_49 rfl (lv_at hl 1 rfl) ?_
        obtain ⟨r11, h12, er11, hf⟩ := zbd_some hf
        refine zcallVV (As := [.int x1]) (rest := []) C hS mv_X7_127 (hF h10 x1 (r11, h12) er11) (hm 29 (by decide)) ⟨_, _, _, sh_29, rfl, rfl⟩ rfl rfl (Nat.le_of_ble_eq_true rfl) hl.1 ⟨by show nq + 1 ≤ nq + 1; omega, by show 60 + 60 * (nq) ≤ 60 * (nq + 1); omega, Nat.le_of_ble_eq_true rfl, Nat.le_of_ble_eq_true rfl⟩ dX7_readCondition_50 (fun H locs hS => ?_)
        refine lv_aload_n C.1 C.2.1 dX7_readCondition_53 rfl (lv_at hl 0 rfl) ?_
        refine zgetR C hS ff_X7_28_29 (hm 29 (by decide)) (hk (29, 4) (by decide)) dX7_readCondition_54 ?_
        refine lv_bipush (v := (6 : Int32)) C.1 C.2.1 dX7_readCondition_57 rfl ?_
        refine lv_iconst (v := (0 : Int32)) C.1 C.2.1 dX7_readCondition_59 rfl ?_
        obtain ⟨r13, h14, er13, hf⟩ := zbd_some hf
        refine zcallVV (As := [.int (6 : Int32), .int (0 : Int32)]) (rest := []) C hS mv_X7_124 (c_X5_add_t34 l G h12 (6 : Int32) (0 : Int32) (r13, h14) (fun c h => hm c (sn_X7_readCondition_X5_add_t34 c h)) (fun q h => hk q (sl_X7_readCondition_X5_add_t34 q h)) er13) (hm 34 (by decide)) ⟨_, _, _, sh_34, rfl, rfl⟩ rfl rfl (Nat.le_of_ble_eq_true rfl) hl.1 ⟨by show 2 + 1 ≤ nq + 1; omega, by show 60 + 60 * (2) ≤ 60 * (nq + 1); omega, Nat.le_of_ble_eq_true rfl, Nat.le_of_ble_eq_true rfl⟩ dX7_readCondition_60 (fun H locs hS => ?_)
        obtain ⟨y15, ey15, hf⟩ := zlt_some hf
        refine lv_iinc (v := y15) (lv' := [(5, .int y15), (0, .ref (zal G 29)), (1, .int x1), (3, .int x3), (4, .int x4)]) C.1 C.2.1 dX7_readCondition_63 hl (k := 4) rfl ey15.symm (by decide) rfl (fun ls hl => ?_)
        refine lv_goto (tgt := 27) C.1 C.2.1 dX7_readCondition_66 (by decide) ?_
        exact ih _ _ _ _ _ _ _ _ (lv_sub hl [1, 2, 3, 4, 0] rfl) hS hf
set_option maxHeartbeats 4000000 in
set_option maxRecDepth 100000 in
theorem w_X7_readCondition_7 {F : Int32 → zH → zR} {nq : Nat}  (C : zC G p s m args meth c cX7_readCondition 6 RX7 none) (hm : ∀ c ∈ nd_X7_readCondition, c ∈ znm G) (hk : ∀ q ∈ ld_X7_readCondition, zlk G q.1 q.2 = true) (hn : 4 ≤ nq) (hF : ∀ (h : zH) (x1 : Int32) (q : Int32 × zH), F x1 h = some q → zCtV l yX7_readClause cX7_readClause 4 none nq [.ref (zal G 29), .int x1] G h q.2)  : ∀ n, ∀ (ls : Array Slot) (H : Heap) (locs : List Loc) (h : zH) (x1 : Int32) (x2 : Int32) (x3 : Int32) (x4 : Int32), lv_has ls 6 [(0, .ref (zal G 29)), (1, .int x1), (2, .int x2), (3, .int x3), (4, .int x4)] → zS G h s.heap H locs → f_X7_readCondition_7 F  n x1 x2 x3 x4 h = some q → W p l e (zrm (nq + 1)) s m args below meth c H locs 0 0 (MQ below (zQV G q.2) args s 0 0 (zA G)) (F0 m 7 ls []) := by
  intro n
  induction n with
  | zero => intro ls H locs h x1 x2 x3 x4 hl hS hf; cases hf
  | succ n ih =>
    intro ls H locs h x1 x2 x3 x4 hl hS hf
    rw [f_X7_readCondition_7] at hf
    refine lv_iload C.1 C.2.1 dX7_readCondition_7 (lv_at hl 4 rfl) ?_
    refine lv_sipush (v := (400 : Int32)) C.1 C.2.1 dX7_readCondition_9 rfl ?_
    refine lv_icmp_ge (tgt := 116) C.1 C.2.1 dX7_readCondition_12 (by decide) (fun hc => ?_) (fun hc => ?_)
    · have hf := zif_t hc hf
      exact zretV C hS hf dX7_readCondition_116
    · have hf := zif_f hc hf
      refine lv_iload_n C.1 C.2.1 dX7_readCondition_15 rfl (lv_at hl 2 rfl) ?_
      refine lv_if_eq (tgt := 116) C.1 C.2.1 dX7_readCondition_16 (by decide) (fun hc => ?_) (fun hc => ?_)
      · have hf := zif_t hc hf
        exact zretV C hS hf dX7_readCondition_116
      · have hf := zif_f hc hf
        refine lv_aload_n C.1 C.2.1 dX7_readCondition_19 rfl (lv_at hl 0 rfl) ?_
        refine lv_iload_n C.1 C.2.1 dX7_readCondition_20 rfl (lv_at hl 1 rfl) ?_
        obtain ⟨r1, h2, er1, hf⟩ := zbd_some hf
        refine zcallVV (As := [.int x1]) (rest := []) C hS mv_X7_127 (hF h x1 (r1, h2) er1) (hm 29 (by decide)) ⟨_, _, _, sh_29, rfl, rfl⟩ rfl rfl (Nat.le_of_ble_eq_true rfl) hl.1 ⟨by show nq + 1 ≤ nq + 1; omega, by show 60 + 60 * (nq) ≤ 60 * (nq + 1); omega, Nat.le_of_ble_eq_true rfl, Nat.le_of_ble_eq_true rfl⟩ dX7_readCondition_21 (fun H locs hS => ?_)
        refine lv_iconst (v := (0 : Int32)) C.1 C.2.1 dX7_readCondition_24 rfl ?_
        refine lv_istore (lv' := [(5, .int (0 : Int32)), (0, .ref (zal G 29)), (1, .int x1), (2, .int x2), (3, .int x3), (4, .int x4)]) C.1 C.2.1 dX7_readCondition_25 hl (by decide) rfl (fun ls hl => ?_)
        exact w_X7_readCondition_27 C hm hk hn hF ih zN _ _ _ _ _ _ _ _ (lv_sub hl [1, 2, 4, 5, 0] rfl) hS hf
set_option maxHeartbeats 4000000 in
set_option maxRecDepth 100000 in
theorem c_X7_readCondition (l : Launch) (G : zG) (h : zH) (F : Int32 → zH → zR) (nq : Nat) (hn : 4 ≤ nq) (hF : ∀ (h : zH) (x1 : Int32) (q : Int32 × zH), F x1 h = some q → zCtV l yX7_readClause cX7_readClause 4 none nq [.ref (zal G 29), .int x1] G h q.2)  (x1 : Int32) (q : Int32 × zH) (hm : ∀ c ∈ nd_X7_readCondition, c ∈ znm G) (hk : ∀ q ∈ ld_X7_readCondition, zlk G q.1 q.2 = true) (hf : f_X7_readCondition F x1 h = some q) : zCtV l yX7_readCondition cX7_readCondition 6 none (nq + 1) [.ref (zal G 29), .int x1] G h q.2 := by
  refine zMetV (by decide) (Nat.le_of_ble_eq_true rfl) ?_
  intro p e s m below meth c ls C hl hS
  have hl : lv_has ls 6 [(0, .ref (zal G 29)), (1, .int x1)] := hl
  have C : zC G p s m [.ref (zal G 29), .int x1].toArray meth c cX7_readCondition 6 RX7 none := C
  unfold f_X7_readCondition at hf
  refine lv_iconst (v := (1 : Int32)) C.1 C.2.1 dX7_readCondition_0 rfl ?_
  refine lv_istore_n (lv' := [(2, .int (1 : Int32)), (0, .ref (zal G 29)), (1, .int x1)]) C.1 C.2.1 dX7_readCondition_1 rfl hl (by decide) rfl (fun ls hl => ?_)
  refine lv_iconst (v := (1 : Int32)) C.1 C.2.1 dX7_readCondition_2 rfl ?_
  refine lv_istore_n (lv' := [(3, .int (1 : Int32)), (2, .int (1 : Int32)), (0, .ref (zal G 29)), (1, .int x1)]) C.1 C.2.1 dX7_readCondition_3 rfl hl (by decide) rfl (fun ls hl => ?_)
  refine lv_iconst (v := (0 : Int32)) C.1 C.2.1 dX7_readCondition_4 rfl ?_
  refine lv_istore (lv' := [(4, .int (0 : Int32)), (3, .int (1 : Int32)), (2, .int (1 : Int32)), (0, .ref (zal G 29)), (1, .int x1)]) C.1 C.2.1 dX7_readCondition_5 hl (by decide) rfl (fun ls hl => ?_)
  exact w_X7_readCondition_7 C hm hk hn hF  zN _ _ _ _ _ _ _ _ (lv_sub hl [3, 4, 2, 1, 0] rfl) hS hf
end
section
theorem dX7_readClause_0 : decode cX7_readClause 0 = .ok (.aload_n 0, 1) := by decide +kernel
theorem dX7_readClause_1 : decode cX7_readClause 1 = .ok (.getfield 51, 3) := by decide +kernel
theorem dX7_readClause_4 : decode cX7_readClause 4 = .ok (.istore_n 2, 1) := by decide +kernel
theorem dX7_readClause_5 : decode cX7_readClause 5 = .ok (.iload_n 2, 1) := by decide +kernel
theorem dX7_readClause_6 : decode cX7_readClause 6 = .ok (.bipush 7, 2) := by decide +kernel
theorem dX7_readClause_8 : decode cX7_readClause 8 = .ok (.if_icmp .eq 9, 3) := by decide +kernel
theorem dX7_readClause_11 : decode cX7_readClause 11 = .ok (.iload_n 2, 1) := by decide +kernel
theorem dX7_readClause_12 : decode cX7_readClause 12 = .ok (.bipush 20, 2) := by decide +kernel
theorem dX7_readClause_14 : decode cX7_readClause 14 = .ok (.if_icmp .ne 17, 3) := by decide +kernel
theorem dX7_readClause_17 : decode cX7_readClause 17 = .ok (.iload_n 1, 1) := by decide +kernel
theorem dX7_readClause_18 : decode cX7_readClause 18 = .ok (.bipush 8, 2) := by decide +kernel
theorem dX7_readClause_20 : decode cX7_readClause 20 = .ok (.if_icmp .lt 11, 3) := by decide +kernel
theorem dX7_readClause_23 : decode cX7_readClause 23 = .ok (.aload_n 0, 1) := by decide +kernel
theorem dX7_readClause_24 : decode cX7_readClause 24 = .ok (.iconst 3, 1) := by decide +kernel
theorem dX7_readClause_25 : decode cX7_readClause 25 = .ok (.invokevirtual 107, 3) := by decide +kernel
theorem dX7_readClause_28 : decode cX7_readClause 28 = .ok (.goto 91, 3) := by decide +kernel
theorem dX7_readClause_31 : decode cX7_readClause 31 = .ok (.iload_n 2, 1) := by decide +kernel
theorem dX7_readClause_32 : decode cX7_readClause 32 = .ok (.bipush 7, 2) := by decide +kernel
theorem dX7_readClause_34 : decode cX7_readClause 34 = .ok (.if_icmp .ne 27, 3) := by decide +kernel
theorem dX7_readClause_37 : decode cX7_readClause 37 = .ok (.aload_n 0, 1) := by decide +kernel
theorem dX7_readClause_38 : decode cX7_readClause 38 = .ok (.invokevirtual 104, 3) := by decide +kernel
theorem dX7_readClause_41 : decode cX7_readClause 41 = .ok (.aload_n 0, 1) := by decide +kernel
theorem dX7_readClause_42 : decode cX7_readClause 42 = .ok (.iload_n 1, 1) := by decide +kernel
theorem dX7_readClause_43 : decode cX7_readClause 43 = .ok (.iconst 1, 1) := by decide +kernel
theorem dX7_readClause_44 : decode cX7_readClause 44 = .ok (.iadd, 1) := by decide +kernel
theorem dX7_readClause_45 : decode cX7_readClause 45 = .ok (.invokevirtual 127, 3) := by decide +kernel
theorem dX7_readClause_48 : decode cX7_readClause 48 = .ok (.aload_n 0, 1) := by decide +kernel
theorem dX7_readClause_49 : decode cX7_readClause 49 = .ok (.getfield 28, 3) := by decide +kernel
theorem dX7_readClause_52 : decode cX7_readClause 52 = .ok (.bipush 7, 2) := by decide +kernel
theorem dX7_readClause_54 : decode cX7_readClause 54 = .ok (.iconst 0, 1) := by decide +kernel
theorem dX7_readClause_55 : decode cX7_readClause 55 = .ok (.invokevirtual 124, 3) := by decide +kernel
theorem dX7_readClause_58 : decode cX7_readClause 58 = .ok (.goto 61, 3) := by decide +kernel
theorem dX7_readClause_61 : decode cX7_readClause 61 = .ok (.iload_n 2, 1) := by decide +kernel
theorem dX7_readClause_62 : decode cX7_readClause 62 = .ok (.bipush 20, 2) := by decide +kernel
theorem dX7_readClause_64 : decode cX7_readClause 64 = .ok (.if_icmp .ne 25, 3) := by decide +kernel
theorem dX7_readClause_67 : decode cX7_readClause 67 = .ok (.aload_n 0, 1) := by decide +kernel
theorem dX7_readClause_68 : decode cX7_readClause 68 = .ok (.invokevirtual 104, 3) := by decide +kernel
theorem dX7_readClause_71 : decode cX7_readClause 71 = .ok (.aload_n 0, 1) := by decide +kernel
theorem dX7_readClause_72 : decode cX7_readClause 72 = .ok (.iload_n 1, 1) := by decide +kernel
theorem dX7_readClause_73 : decode cX7_readClause 73 = .ok (.iconst 1, 1) := by decide +kernel
theorem dX7_readClause_74 : decode cX7_readClause 74 = .ok (.iadd, 1) := by decide +kernel
theorem dX7_readClause_75 : decode cX7_readClause 75 = .ok (.invokevirtual 121, 3) := by decide +kernel
theorem dX7_readClause_78 : decode cX7_readClause 78 = .ok (.aload_n 0, 1) := by decide +kernel
theorem dX7_readClause_79 : decode cX7_readClause 79 = .ok (.bipush 21, 2) := by decide +kernel
theorem dX7_readClause_81 : decode cX7_readClause 81 = .ok (.bipush 21, 2) := by decide +kernel
theorem dX7_readClause_83 : decode cX7_readClause 83 = .ok (.invokevirtual 114, 3) := by decide +kernel
theorem dX7_readClause_86 : decode cX7_readClause 86 = .ok (.goto 33, 3) := by decide +kernel
theorem dX7_readClause_89 : decode cX7_readClause 89 = .ok (.aload_n 0, 1) := by decide +kernel
theorem dX7_readClause_90 : decode cX7_readClause 90 = .ok (.invokevirtual 118, 3) := by decide +kernel
theorem dX7_readClause_93 : decode cX7_readClause 93 = .ok (.aload_n 0, 1) := by decide +kernel
theorem dX7_readClause_94 : decode cX7_readClause 94 = .ok (.getfield 51, 3) := by decide +kernel
theorem dX7_readClause_97 : decode cX7_readClause 97 = .ok (.istore_n 3, 1) := by decide +kernel
theorem dX7_readClause_98 : decode cX7_readClause 98 = .ok (.aload_n 0, 1) := by decide +kernel
theorem dX7_readClause_99 : decode cX7_readClause 99 = .ok (.bipush 22, 2) := by decide +kernel
theorem dX7_readClause_101 : decode cX7_readClause 101 = .ok (.bipush 24, 2) := by decide +kernel
theorem dX7_readClause_103 : decode cX7_readClause 103 = .ok (.invokevirtual 114, 3) := by decide +kernel
theorem dX7_readClause_106 : decode cX7_readClause 106 = .ok (.aload_n 0, 1) := by decide +kernel
theorem dX7_readClause_107 : decode cX7_readClause 107 = .ok (.invokevirtual 118, 3) := by decide +kernel
theorem dX7_readClause_110 : decode cX7_readClause 110 = .ok (.aload_n 0, 1) := by decide +kernel
theorem dX7_readClause_111 : decode cX7_readClause 111 = .ok (.getfield 28, 3) := by decide +kernel
theorem dX7_readClause_114 : decode cX7_readClause 114 = .ok (.iload_n 3, 1) := by decide +kernel
theorem dX7_readClause_115 : decode cX7_readClause 115 = .ok (.iconst 0, 1) := by decide +kernel
theorem dX7_readClause_116 : decode cX7_readClause 116 = .ok (.invokevirtual 124, 3) := by decide +kernel
theorem dX7_readClause_119 : decode cX7_readClause 119 = .ok (.return_, 1) := by decide +kernel
abbrev nd_X7_readClause_b : List Nat := [29, 31, 32, 33, 34, 35, 36]
abbrev ld_X7_readClause_b : List (Nat × Nat) := [(29, 1), (29, 2), (29, 3), (29, 4), (34, 0), (34, 1)]
theorem sn_X7_readClause_b_X7_readSum : ∀ c ∈ nd_X7_readSum, c ∈ nd_X7_readClause_b := by decide
theorem sl_X7_readClause_b_X7_readSum : ∀ q ∈ ld_X7_readSum, q ∈ ld_X7_readClause_b := by decide
theorem sn_X7_readClause_b_X7_expect : ∀ c ∈ nd_X7_expect, c ∈ nd_X7_readClause_b := by decide
theorem sl_X7_readClause_b_X7_expect : ∀ q ∈ ld_X7_expect, q ∈ ld_X7_readClause_b := by decide
theorem sn_X7_readClause_b_X5_add_t34 : ∀ c ∈ nd_X5_add_t34, c ∈ nd_X7_readClause_b := by decide
theorem sl_X7_readClause_b_X5_add_t34 : ∀ q ∈ ld_X5_add_t34, q ∈ ld_X7_readClause_b := by decide
theorem sn_X7_readClause_b_X7_step : ∀ c ∈ nd_X7_step, c ∈ nd_X7_readClause_b := by decide
theorem sl_X7_readClause_b_X7_step : ∀ q ∈ ld_X7_step, q ∈ ld_X7_readClause_b := by decide
theorem sn_X7_readClause_b_X7_readCondition : ∀ c ∈ nd_X7_readCondition, c ∈ nd_X7_readClause_b := by decide
theorem sl_X7_readClause_b_X7_readCondition : ∀ q ∈ ld_X7_readCondition, q ∈ ld_X7_readClause_b := by decide
theorem sn_X7_readClause_b_X7_blame : ∀ c ∈ nd_X7_blame, c ∈ nd_X7_readClause_b := by decide
theorem sl_X7_readClause_b_X7_blame : ∀ q ∈ ld_X7_blame, q ∈ ld_X7_readClause_b := by decide
def f_X7_readClause_b_31 (F : Int32 → zH → zR)  (x1 : Int32) (x2 : Int32) (h : zH) : zR := (if x2 = (7 : Int32) then (zbd (f_X7_step  h) fun r17 h18 => (zbd (F (x1 + (1 : Int32)) h18) fun r19 h20 => (zbd (f_X5_add_t34 (7 : Int32) (0 : Int32) h20) fun r21 h22 => (some (0, h22))))) else (if x2 = (20 : Int32) then (zbd (f_X7_step  h) fun r11 h12 => (zbd (f_X7_readCondition F (x1 + (1 : Int32)) h12) fun r13 h14 => (zbd (f_X7_expect (21 : Int32) (21 : Int32) h14) fun r15 h16 => (some (0, h16))))) else (zbd (f_X7_readSum  h) fun r2 h3 => (zlt (h3 29 10) fun y4 => (zbd (f_X7_expect (22 : Int32) (24 : Int32) h3) fun r5 h6 => (zbd (f_X7_readSum  h6) fun r7 h8 => (zbd (f_X5_add_t34 y4 (0 : Int32) h8) fun r9 h10 => (some (0, h10)))))))))
def f_X7_readClause_b_17 (F : Int32 → zH → zR)  (x1 : Int32) (x2 : Int32) (h : zH) : zR := (if x1 < (8 : Int32) then (f_X7_readClause_b_31 F  x1 x2 h) else (zbd (f_X7_blame (3 : Int32) h) fun r23 h24 => (some (0, h24))))
def f_X7_readClause_b (F : Int32 → zH → zR)  (x1 : Int32) (h : zH) : zR := (zlt (h 29 10) fun y1 => (if y1 = (7 : Int32) then (f_X7_readClause_b_17 F  x1 y1 h) else (if y1 = (20 : Int32) then (f_X7_readClause_b_17 F  x1 y1 h) else (f_X7_readClause_b_31 F  x1 y1 h))))
variable {p : Program} {l : Launch} {e : Env} {s : State} {m : MethodId} {args : Array Value} {below : List Frame} {meth : Method} {c : Code} {G : zG} {q : Int32 × zH}
set_option maxHeartbeats 4000000 in
set_option maxRecDepth 100000 in
theorem w_X7_readClause_b_31 {F : Int32 → zH → zR} {nq : Nat}  (C : zC G p s m args meth c cX7_readClause 4 RX7 none) (hm : ∀ c ∈ nd_X7_readClause_b, c ∈ znm G) (hk : ∀ q ∈ ld_X7_readClause_b, zlk G q.1 q.2 = true) (hn : 4 ≤ nq) (hF : ∀ (h : zH) (x1 : Int32) (q : Int32 × zH), F x1 h = some q → zCtV l yX7_readClause cX7_readClause 4 none nq [.ref (zal G 29), .int x1] G h q.2)  : ∀ (ls : Array Slot) (H : Heap) (locs : List Loc) (h : zH) (x1 : Int32) (x2 : Int32), lv_has ls 4 [(0, .ref (zal G 29)), (1, .int x1), (2, .int x2)] → zS G h s.heap H locs → f_X7_readClause_b_31 F  x1 x2 h = some q → W p l e (zrm (nq + 2)) s m args below meth c H locs 0 0 (MQ below (zQV G q.2) args s 0 0 (zA G)) (F0 m 31 ls []) := by
  intro ls H locs h x1 x2 hl hS hf
  unfold f_X7_readClause_b_31 at hf
  refine lv_iload_n C.1 C.2.1 dX7_readClause_31 rfl (lv_at hl 2 rfl) ?_
  refine lv_bipush (v := (7 : Int32)) C.1 C.2.1 dX7_readClause_32 rfl ?_
  refine lv_icmp_ne (tgt := 61) C.1 C.2.1 dX7_readClause_34 (by decide) (fun hc => ?_) (fun hc => ?_)
  · have hf := zif_f hc hf
    refine lv_iload_n C.1 C.2.1 dX7_readClause_61 rfl (lv_at hl 2 rfl) ?_
    refine lv_bipush (v := (20 : Int32)) C.1 C.2.1 dX7_readClause_62 rfl ?_
    refine lv_icmp_ne (tgt := 89) C.1 C.2.1 dX7_readClause_64 (by decide) (fun hc => ?_) (fun hc => ?_)
    · have hf := zif_f hc hf
      refine lv_aload_n C.1 C.2.1 dX7_readClause_89 rfl (lv_at hl 0 rfl) ?_
      obtain ⟨r2, h3, er2, hf⟩ := zbd_some hf
      refine zcallVV (As := []) (rest := []) C hS mv_X7_118 (c_X7_readSum l G h  (r2, h3) (fun c h => hm c (sn_X7_readClause_b_X7_readSum c h)) (fun q h => hk q (sl_X7_readClause_b_X7_readSum q h)) er2) (hm 29 (by decide)) ⟨_, _, _, sh_29, rfl, rfl⟩ rfl rfl (Nat.le_of_ble_eq_true rfl) hl.1 ⟨by show 4 + 1 ≤ nq + 2; omega, by show 60 + 60 * (4) ≤ 60 * (nq + 2); omega, Nat.le_of_ble_eq_true rfl, Nat.le_of_ble_eq_true rfl⟩ dX7_readClause_90 (fun H locs hS => ?_)
      refine lv_aload_n C.1 C.2.1 dX7_readClause_93 rfl (lv_at hl 0 rfl) ?_
      refine zgetI C hS ff_X7_51_29 (hm 29 (by decide)) dX7_readClause_94 ?_
      obtain ⟨y4, ey4, hf⟩ := zlt_some hf
      refine ztop ey4 ?_
      refine lv_istore_n (lv' := [(3, .int y4), (0, .ref (zal G 29)), (1, .int x1), (2, .int x2)]) C.1 C.2.1 dX7_readClause_97 rfl hl (by decide) rfl (fun ls hl => ?_)
      refine lv_aload_n C.1 C.2.1 dX7_readClause_98 rfl (lv_at hl 1 rfl) ?_
      refine lv_bipush (v := (22 : Int32)) C.1 C.2.1 dX7_readClause_99 rfl ?_
      refine lv_bipush (v := (24 : Int32)) C.1 C.2.1 dX7_readClause_101 rfl ?_
      obtain ⟨r5, h6, er5, hf⟩ := zbd_some hf
      refine zcallVV (As := [.int (22 : Int32), .int (24 : Int32)]) (rest := []) C hS mv_X7_114 (c_X7_expect l G h3 (22 : Int32) (24 : Int32) (r5, h6) (fun c h => hm c (sn_X7_readClause_b_X7_expect c h)) (fun q h => hk q (sl_X7_readClause_b_X7_expect q h)) er5) (hm 29 (by decide)) ⟨_, _, _, sh_29, rfl, rfl⟩ rfl rfl (Nat.le_of_ble_eq_true rfl) hl.1 ⟨by show 3 + 1 ≤ nq + 2; omega, by show 60 + 60 * (3) ≤ 60 * (nq + 2); omega, Nat.le_of_ble_eq_true rfl, Nat.le_of_ble_eq_true rfl⟩ dX7_readClause_103 (fun H locs hS => ?_)
      refine lv_aload_n C.1 C.2.1 dX7_readClause_106 rfl (lv_at hl 1 rfl) ?_
      obtain ⟨r7, h8, er7, hf⟩ := zbd_some hf
      refine zcallVV (As := []) (rest := []) C hS mv_X7_118 (c_X7_readSum l G h6  (r7, h8) (fun c h => hm c (sn_X7_readClause_b_X7_readSum c h)) (fun q h => hk q (sl_X7_readClause_b_X7_readSum q h)) er7) (hm 29 (by decide)) ⟨_, _, _, sh_29, rfl, rfl⟩ rfl rfl (Nat.le_of_ble_eq_true rfl) hl.1 ⟨by show 4 + 1 ≤ nq + 2; omega, by show 60 + 60 * (4) ≤ 60 * (nq + 2); omega, Nat.le_of_ble_eq_true rfl, Nat.le_of_ble_eq_true rfl⟩ dX7_readClause_107 (fun H locs hS => ?_)
      refine lv_aload_n C.1 C.2.1 dX7_readClause_110 rfl (lv_at hl 1 rfl) ?_
      refine zgetR C hS ff_X7_28_29 (hm 29 (by decide)) (hk (29, 4) (by decide)) dX7_readClause_111 ?_
      refine lv_iload_n C.1 C.2.1 dX7_readClause_114 rfl (lv_at hl 0 rfl) ?_
      refine lv_iconst (v := (0 : Int32)) C.1 C.2.1 dX7_readClause_115 rfl ?_
      obtain ⟨r9, h10, er9, hf⟩ := zbd_some hf
      refine zcallVV (As := [.int y4, .int (0 : Int32)]) (rest := []) C hS mv_X7_124 (c_X5_add_t34 l G h8 y4 (0 : Int32) (r9, h10) (fun c h => hm c (sn_X7_readClause_b_X5_add_t34 c h)) (fun q h => hk q (sl_X7_readClause_b_X5_add_t34 q h)) er9) (hm 34 (by decide)) ⟨_, _, _, sh_34, rfl, rfl⟩ rfl rfl (Nat.le_of_ble_eq_true rfl) hl.1 ⟨by show 2 + 1 ≤ nq + 2; omega, by show 60 + 60 * (2) ≤ 60 * (nq + 2); omega, Nat.le_of_ble_eq_true rfl, Nat.le_of_ble_eq_true rfl⟩ dX7_readClause_116 (fun H locs hS => ?_)
      exact zretV C hS hf dX7_readClause_119
    · have hf := zif_t hc hf
      refine lv_aload_n C.1 C.2.1 dX7_readClause_67 rfl (lv_at hl 0 rfl) ?_
      obtain ⟨r11, h12, er11, hf⟩ := zbd_some hf
      refine zcallVV (As := []) (rest := []) C hS mv_X7_104 (c_X7_step l G h  (r11, h12) (fun c h => hm c (sn_X7_readClause_b_X7_step c h)) (fun q h => hk q (sl_X7_readClause_b_X7_step q h)) er11) (hm 29 (by decide)) ⟨_, _, _, sh_29, rfl, rfl⟩ rfl rfl (Nat.le_of_ble_eq_true rfl) hl.1 ⟨by show 2 + 1 ≤ nq + 2; omega, by show 60 + 60 * (2) ≤ 60 * (nq + 2); omega, Nat.le_of_ble_eq_true rfl, Nat.le_of_ble_eq_true rfl⟩ dX7_readClause_68 (fun H locs hS => ?_)
      refine lv_aload_n C.1 C.2.1 dX7_readClause_71 rfl (lv_at hl 0 rfl) ?_
      refine lv_iload_n C.1 C.2.1 dX7_readClause_72 rfl (lv_at hl 1 rfl) ?_
      refine lv_iconst (v := (1 : Int32)) C.1 C.2.1 dX7_readClause_73 rfl ?_
      refine lv_iadd C.1 C.2.1 dX7_readClause_74 ?_
      obtain ⟨r13, h14, er13, hf⟩ := zbd_some hf
      refine zcallVV (As := [.int (x1 + (1 : Int32))]) (rest := []) C hS mv_X7_121 (c_X7_readCondition l G h12 F nq hn hF (x1 + (1 : Int32)) (r13, h14) (fun c h => hm c (sn_X7_readClause_b_X7_readCondition c h)) (fun q h => hk q (sl_X7_readClause_b_X7_readCondition q h)) er13) (hm 29 (by decide)) ⟨_, _, _, sh_29, rfl, rfl⟩ rfl rfl (Nat.le_of_ble_eq_true rfl) hl.1 ⟨by show nq + 1 + 1 ≤ nq + 2; omega, by show 60 + 60 * (nq + 1) ≤ 60 * (nq + 2); omega, Nat.le_of_ble_eq_true rfl, Nat.le_of_ble_eq_true rfl⟩ dX7_readClause_75 (fun H locs hS => ?_)
      refine lv_aload_n C.1 C.2.1 dX7_readClause_78 rfl (lv_at hl 0 rfl) ?_
      refine lv_bipush (v := (21 : Int32)) C.1 C.2.1 dX7_readClause_79 rfl ?_
      refine lv_bipush (v := (21 : Int32)) C.1 C.2.1 dX7_readClause_81 rfl ?_
      obtain ⟨r15, h16, er15, hf⟩ := zbd_some hf
      refine zcallVV (As := [.int (21 : Int32), .int (21 : Int32)]) (rest := []) C hS mv_X7_114 (c_X7_expect l G h14 (21 : Int32) (21 : Int32) (r15, h16) (fun c h => hm c (sn_X7_readClause_b_X7_expect c h)) (fun q h => hk q (sl_X7_readClause_b_X7_expect q h)) er15) (hm 29 (by decide)) ⟨_, _, _, sh_29, rfl, rfl⟩ rfl rfl (Nat.le_of_ble_eq_true rfl) hl.1 ⟨by show 3 + 1 ≤ nq + 2; omega, by show 60 + 60 * (3) ≤ 60 * (nq + 2); omega, Nat.le_of_ble_eq_true rfl, Nat.le_of_ble_eq_true rfl⟩ dX7_readClause_83 (fun H locs hS => ?_)
      refine lv_goto (tgt := 119) C.1 C.2.1 dX7_readClause_86 (by decide) ?_
      exact zretV C hS hf dX7_readClause_119
  · have hf := zif_t hc hf
    refine lv_aload_n C.1 C.2.1 dX7_readClause_37 rfl (lv_at hl 0 rfl) ?_
    obtain ⟨r17, h18, er17, hf⟩ := zbd_some hf
    refine zcallVV (As := []) (rest := []) C hS mv_X7_104 (c_X7_step l G h  (r17, h18) (fun c h => hm c (sn_X7_readClause_b_X7_step c h)) (fun q h => hk q (sl_X7_readClause_b_X7_step q h)) er17) (hm 29 (by decide)) ⟨_, _, _, sh_29, rfl, rfl⟩ rfl rfl (Nat.le_of_ble_eq_true rfl) hl.1 ⟨by show 2 + 1 ≤ nq + 2; omega, by show 60 + 60 * (2) ≤ 60 * (nq + 2); omega, Nat.le_of_ble_eq_true rfl, Nat.le_of_ble_eq_true rfl⟩ dX7_readClause_38 (fun H locs hS => ?_)
    refine lv_aload_n C.1 C.2.1 dX7_readClause_41 rfl (lv_at hl 0 rfl) ?_
    refine lv_iload_n C.1 C.2.1 dX7_readClause_42 rfl (lv_at hl 1 rfl) ?_
    refine lv_iconst (v := (1 : Int32)) C.1 C.2.1 dX7_readClause_43 rfl ?_
    refine lv_iadd C.1 C.2.1 dX7_readClause_44 ?_
    obtain ⟨r19, h20, er19, hf⟩ := zbd_some hf
    refine zcallVV (As := [.int (x1 + (1 : Int32))]) (rest := []) C hS mv_X7_127 (hF h18 (x1 + (1 : Int32)) (r19, h20) er19) (hm 29 (by decide)) ⟨_, _, _, sh_29, rfl, rfl⟩ rfl rfl (Nat.le_of_ble_eq_true rfl) hl.1 ⟨by show nq + 1 ≤ nq + 2; omega, by show 60 + 60 * (nq) ≤ 60 * (nq + 2); omega, Nat.le_of_ble_eq_true rfl, Nat.le_of_ble_eq_true rfl⟩ dX7_readClause_45 (fun H locs hS => ?_)
    refine lv_aload_n C.1 C.2.1 dX7_readClause_48 rfl (lv_at hl 0 rfl) ?_
    refine zgetR C hS ff_X7_28_29 (hm 29 (by decide)) (hk (29, 4) (by decide)) dX7_readClause_49 ?_
    refine lv_bipush (v := (7 : Int32)) C.1 C.2.1 dX7_readClause_52 rfl ?_
    refine lv_iconst (v := (0 : Int32)) C.1 C.2.1 dX7_readClause_54 rfl ?_
    obtain ⟨r21, h22, er21, hf⟩ := zbd_some hf
    refine zcallVV (As := [.int (7 : Int32), .int (0 : Int32)]) (rest := []) C hS mv_X7_124 (c_X5_add_t34 l G h20 (7 : Int32) (0 : Int32) (r21, h22) (fun c h => hm c (sn_X7_readClause_b_X5_add_t34 c h)) (fun q h => hk q (sl_X7_readClause_b_X5_add_t34 q h)) er21) (hm 34 (by decide)) ⟨_, _, _, sh_34, rfl, rfl⟩ rfl rfl (Nat.le_of_ble_eq_true rfl) hl.1 ⟨by show 2 + 1 ≤ nq + 2; omega, by show 60 + 60 * (2) ≤ 60 * (nq + 2); omega, Nat.le_of_ble_eq_true rfl, Nat.le_of_ble_eq_true rfl⟩ dX7_readClause_55 (fun H locs hS => ?_)
    refine lv_goto (tgt := 119) C.1 C.2.1 dX7_readClause_58 (by decide) ?_
    exact zretV C hS hf dX7_readClause_119
set_option maxHeartbeats 4000000 in
set_option maxRecDepth 100000 in
theorem w_X7_readClause_b_17 {F : Int32 → zH → zR} {nq : Nat}  (C : zC G p s m args meth c cX7_readClause 4 RX7 none) (hm : ∀ c ∈ nd_X7_readClause_b, c ∈ znm G) (hk : ∀ q ∈ ld_X7_readClause_b, zlk G q.1 q.2 = true) (hn : 4 ≤ nq) (hF : ∀ (h : zH) (x1 : Int32) (q : Int32 × zH), F x1 h = some q → zCtV l yX7_readClause cX7_readClause 4 none nq [.ref (zal G 29), .int x1] G h q.2)  : ∀ (ls : Array Slot) (H : Heap) (locs : List Loc) (h : zH) (x1 : Int32) (x2 : Int32), lv_has ls 4 [(0, .ref (zal G 29)), (1, .int x1), (2, .int x2)] → zS G h s.heap H locs → f_X7_readClause_b_17 F  x1 x2 h = some q → W p l e (zrm (nq + 2)) s m args below meth c H locs 0 0 (MQ below (zQV G q.2) args s 0 0 (zA G)) (F0 m 17 ls []) := by
  intro ls H locs h x1 x2 hl hS hf
  unfold f_X7_readClause_b_17 at hf
  refine lv_iload_n C.1 C.2.1 dX7_readClause_17 rfl (lv_at hl 1 rfl) ?_
  refine lv_bipush (v := (8 : Int32)) C.1 C.2.1 dX7_readClause_18 rfl ?_
  refine lv_icmp_lt (tgt := 31) C.1 C.2.1 dX7_readClause_20 (by decide) (fun hc => ?_) (fun hc => ?_)
  · have hf := zif_t hc hf
    exact w_X7_readClause_b_31 C hm hk hn hF  _ _ _ _ _ _ (lv_sub hl [0, 1, 2] rfl) hS hf
  · have hf := zif_f hc hf
    refine lv_aload_n C.1 C.2.1 dX7_readClause_23 rfl (lv_at hl 0 rfl) ?_
    refine lv_iconst (v := (3 : Int32)) C.1 C.2.1 dX7_readClause_24 rfl ?_
    obtain ⟨r23, h24, er23, hf⟩ := zbd_some hf
    refine zcallVV (As := [.int (3 : Int32)]) (rest := []) C hS mv_X7_107 (c_X7_blame l G h (3 : Int32) (r23, h24) (fun c h => hm c (sn_X7_readClause_b_X7_blame c h)) (fun q h => hk q (sl_X7_readClause_b_X7_blame q h)) er23) (hm 29 (by decide)) ⟨_, _, _, sh_29, rfl, rfl⟩ rfl rfl (Nat.le_of_ble_eq_true rfl) hl.1 ⟨by show 2 + 1 ≤ nq + 2; omega, by show 60 + 60 * (2) ≤ 60 * (nq + 2); omega, Nat.le_of_ble_eq_true rfl, Nat.le_of_ble_eq_true rfl⟩ dX7_readClause_25 (fun H locs hS => ?_)
    refine lv_goto (tgt := 119) C.1 C.2.1 dX7_readClause_28 (by decide) ?_
    exact zretV C hS hf dX7_readClause_119
set_option maxHeartbeats 4000000 in
set_option maxRecDepth 100000 in
theorem c_X7_readClause_b (l : Launch) (G : zG) (h : zH) (F : Int32 → zH → zR) (nq : Nat) (hn : 4 ≤ nq) (hF : ∀ (h : zH) (x1 : Int32) (q : Int32 × zH), F x1 h = some q → zCtV l yX7_readClause cX7_readClause 4 none nq [.ref (zal G 29), .int x1] G h q.2)  (x1 : Int32) (q : Int32 × zH) (hm : ∀ c ∈ nd_X7_readClause_b, c ∈ znm G) (hk : ∀ q ∈ ld_X7_readClause_b, zlk G q.1 q.2 = true) (hf : f_X7_readClause_b F x1 h = some q) : zCtV l yX7_readClause cX7_readClause 4 none (nq + 2) [.ref (zal G 29), .int x1] G h q.2 := by
  refine zMetV (by decide) (Nat.le_of_ble_eq_true rfl) ?_
  intro p e s m below meth c ls C hl hS
  have hl : lv_has ls 4 [(0, .ref (zal G 29)), (1, .int x1)] := hl
  have C : zC G p s m [.ref (zal G 29), .int x1].toArray meth c cX7_readClause 4 RX7 none := C
  unfold f_X7_readClause_b at hf
  refine lv_aload_n C.1 C.2.1 dX7_readClause_0 rfl (lv_at hl 0 rfl) ?_
  refine zgetI C hS ff_X7_51_29 (hm 29 (by decide)) dX7_readClause_1 ?_
  obtain ⟨y1, ey1, hf⟩ := zlt_some hf
  refine ztop ey1 ?_
  refine lv_istore_n (lv' := [(2, .int y1), (0, .ref (zal G 29)), (1, .int x1)]) C.1 C.2.1 dX7_readClause_4 rfl hl (by decide) rfl (fun ls hl => ?_)
  refine lv_iload_n C.1 C.2.1 dX7_readClause_5 rfl (lv_at hl 0 rfl) ?_
  refine lv_bipush (v := (7 : Int32)) C.1 C.2.1 dX7_readClause_6 rfl ?_
  refine lv_icmp_eq (tgt := 17) C.1 C.2.1 dX7_readClause_8 (by decide) (fun hc => ?_) (fun hc => ?_)
  · have hf := zif_t hc hf
    exact w_X7_readClause_b_17 C hm hk hn hF  _ _ _ _ _ _ (lv_sub hl [1, 2, 0] rfl) hS hf
  · have hf := zif_f hc hf
    refine lv_iload_n C.1 C.2.1 dX7_readClause_11 rfl (lv_at hl 0 rfl) ?_
    refine lv_bipush (v := (20 : Int32)) C.1 C.2.1 dX7_readClause_12 rfl ?_
    refine lv_icmp_ne (tgt := 31) C.1 C.2.1 dX7_readClause_14 (by decide) (fun hc => ?_) (fun hc => ?_)
    · have hf := zif_f hc hf
      exact w_X7_readClause_b_31 C hm hk hn hF  _ _ _ _ _ _ (lv_sub hl [1, 2, 0] rfl) hS hf
    · have hf := zif_t hc hf
      exact w_X7_readClause_b_17 C hm hk hn hF  _ _ _ _ _ _ (lv_sub hl [1, 2, 0] rfl) hS hf
def f_X7_readClause : Nat → Int32 → zH → zR
  | 0 => fun _ _ => none
  | d + 1 => fun x1 h => f_X7_readClause_b (f_X7_readClause d) x1 h
theorem c_X7_readClause (l : Launch) (G : zG) (hm : ∀ c ∈ nd_X7_readClause_b, c ∈ znm G) (hk : ∀ q ∈ ld_X7_readClause_b, zlk G q.1 q.2 = true) : ∀ (d : Nat) (h : zH) (x1 : Int32) (q : Int32 × zH), f_X7_readClause d x1 h = some q → zCtV l yX7_readClause cX7_readClause 4 none (4 + 2 * d) [.ref (zal G 29), .int x1] G h q.2 := by
  intro d
  induction d with
  | zero => intro h x1 q hf; cases hf
  | succ d ih =>
    intro h x1 q hf
    have e := c_X7_readClause_b l G h (f_X7_readClause d) (4 + 2 * d) (Nat.le_add_right _ _) ih x1 q hm hk hf
    rw [show 4 + 2 * d + 2 = 4 + 2 * (d + 1) by omega] at e
    exact e
end
section
theorem dX7_readLine_0 : decode cX7_readLine 0 = .ok (.aload_n 0, 1) := by decide +kernel
theorem dX7_readLine_1 : decode cX7_readLine 1 = .ok (.getfield 51, 3) := by decide +kernel
theorem dX7_readLine_4 : decode cX7_readLine 4 = .ok (.iconst 3, 1) := by decide +kernel
theorem dX7_readLine_5 : decode cX7_readLine 5 = .ok (.if_icmp .ne 21, 3) := by decide +kernel
theorem dX7_readLine_8 : decode cX7_readLine 8 = .ok (.aload_n 0, 1) := by decide +kernel
theorem dX7_readLine_9 : decode cX7_readLine 9 = .ok (.getfield 28, 3) := by decide +kernel
theorem dX7_readLine_12 : decode cX7_readLine 12 = .ok (.getfield 111, 3) := by decide +kernel
theorem dX7_readLine_15 : decode cX7_readLine 15 = .ok (.bipush 16, 2) := by decide +kernel
theorem dX7_readLine_17 : decode cX7_readLine 17 = .ok (.if_icmp .lt 9, 3) := by decide +kernel
theorem dX7_readLine_20 : decode cX7_readLine 20 = .ok (.aload_n 0, 1) := by decide +kernel
theorem dX7_readLine_21 : decode cX7_readLine 21 = .ok (.iconst 3, 1) := by decide +kernel
theorem dX7_readLine_22 : decode cX7_readLine 22 = .ok (.invokevirtual 107, 3) := by decide +kernel
theorem dX7_readLine_25 : decode cX7_readLine 25 = .ok (.return_, 1) := by decide +kernel
theorem dX7_readLine_26 : decode cX7_readLine 26 = .ok (.aload_n 0, 1) := by decide +kernel
theorem dX7_readLine_27 : decode cX7_readLine 27 = .ok (.iconst 3, 1) := by decide +kernel
theorem dX7_readLine_28 : decode cX7_readLine 28 = .ok (.iconst 3, 1) := by decide +kernel
theorem dX7_readLine_29 : decode cX7_readLine 29 = .ok (.invokevirtual 114, 3) := by decide +kernel
theorem dX7_readLine_32 : decode cX7_readLine 32 = .ok (.aload_n 0, 1) := by decide +kernel
theorem dX7_readLine_33 : decode cX7_readLine 33 = .ok (.invokevirtual 118, 3) := by decide +kernel
theorem dX7_readLine_36 : decode cX7_readLine 36 = .ok (.aload_n 0, 1) := by decide +kernel
theorem dX7_readLine_37 : decode cX7_readLine 37 = .ok (.getfield 51, 3) := by decide +kernel
theorem dX7_readLine_40 : decode cX7_readLine 40 = .ok (.istore_n 1, 1) := by decide +kernel
theorem dX7_readLine_41 : decode cX7_readLine 41 = .ok (.iload_n 1, 1) := by decide +kernel
theorem dX7_readLine_42 : decode cX7_readLine 42 = .ok (.iconst 4, 1) := by decide +kernel
theorem dX7_readLine_43 : decode cX7_readLine 43 = .ok (.if_icmp .ne 12, 3) := by decide +kernel
theorem dX7_readLine_46 : decode cX7_readLine 46 = .ok (.aload_n 0, 1) := by decide +kernel
theorem dX7_readLine_47 : decode cX7_readLine 47 = .ok (.invokevirtual 104, 3) := by decide +kernel
theorem dX7_readLine_50 : decode cX7_readLine 50 = .ok (.aload_n 0, 1) := by decide +kernel
theorem dX7_readLine_51 : decode cX7_readLine 51 = .ok (.iconst 0, 1) := by decide +kernel
theorem dX7_readLine_52 : decode cX7_readLine 52 = .ok (.invokevirtual 121, 3) := by decide +kernel
theorem dX7_readLine_55 : decode cX7_readLine 55 = .ok (.aload_n 0, 1) := by decide +kernel
theorem dX7_readLine_56 : decode cX7_readLine 56 = .ok (.bipush 15, 2) := by decide +kernel
theorem dX7_readLine_58 : decode cX7_readLine 58 = .ok (.bipush 15, 2) := by decide +kernel
theorem dX7_readLine_60 : decode cX7_readLine 60 = .ok (.invokevirtual 114, 3) := by decide +kernel
theorem dX7_readLine_63 : decode cX7_readLine 63 = .ok (.aload_n 0, 1) := by decide +kernel
theorem dX7_readLine_64 : decode cX7_readLine 64 = .ok (.getfield 28, 3) := by decide +kernel
theorem dX7_readLine_67 : decode cX7_readLine 67 = .ok (.iload_n 1, 1) := by decide +kernel
theorem dX7_readLine_68 : decode cX7_readLine 68 = .ok (.iconst 0, 1) := by decide +kernel
theorem dX7_readLine_69 : decode cX7_readLine 69 = .ok (.invokevirtual 124, 3) := by decide +kernel
theorem dX7_readLine_72 : decode cX7_readLine 72 = .ok (.aload_n 0, 1) := by decide +kernel
theorem dX7_readLine_73 : decode cX7_readLine 73 = .ok (.getfield 28, 3) := by decide +kernel
theorem dX7_readLine_76 : decode cX7_readLine 76 = .ok (.dup, 1) := by decide +kernel
theorem dX7_readLine_77 : decode cX7_readLine 77 = .ok (.getfield 111, 3) := by decide +kernel
theorem dX7_readLine_80 : decode cX7_readLine 80 = .ok (.iconst 1, 1) := by decide +kernel
theorem dX7_readLine_81 : decode cX7_readLine 81 = .ok (.iadd, 1) := by decide +kernel
theorem dX7_readLine_82 : decode cX7_readLine 82 = .ok (.putfield 111, 3) := by decide +kernel
theorem dX7_readLine_85 : decode cX7_readLine 85 = .ok (.return_, 1) := by decide +kernel
abbrev nd_X7_readLine : List Nat := [29, 31, 32, 33, 34, 35, 36]
abbrev ld_X7_readLine : List (Nat × Nat) := [(29, 1), (29, 2), (29, 3), (29, 4), (34, 0), (34, 1)]
theorem sn_X7_readLine_X7_expect : ∀ c ∈ nd_X7_expect, c ∈ nd_X7_readLine := by decide
theorem sl_X7_readLine_X7_expect : ∀ q ∈ ld_X7_expect, q ∈ ld_X7_readLine := by decide
theorem sn_X7_readLine_X7_readSum : ∀ c ∈ nd_X7_readSum, c ∈ nd_X7_readLine := by decide
theorem sl_X7_readLine_X7_readSum : ∀ q ∈ ld_X7_readSum, q ∈ ld_X7_readLine := by decide
theorem sn_X7_readLine_X5_add_t34 : ∀ c ∈ nd_X5_add_t34, c ∈ nd_X7_readLine := by decide
theorem sl_X7_readLine_X5_add_t34 : ∀ q ∈ ld_X5_add_t34, q ∈ ld_X7_readLine := by decide
theorem sn_X7_readLine_X7_step : ∀ c ∈ nd_X7_step, c ∈ nd_X7_readLine := by decide
theorem sl_X7_readLine_X7_step : ∀ q ∈ ld_X7_step, q ∈ ld_X7_readLine := by decide
theorem sn_X7_readLine_X7_readCondition : ∀ c ∈ nd_X7_readCondition, c ∈ nd_X7_readLine := by decide
theorem sl_X7_readLine_X7_readCondition : ∀ q ∈ ld_X7_readCondition, q ∈ ld_X7_readLine := by decide
theorem sn_X7_readLine_X7_readClause_b : ∀ c ∈ nd_X7_readClause_b, c ∈ nd_X7_readLine := by decide
theorem sl_X7_readLine_X7_readClause_b : ∀ q ∈ ld_X7_readClause_b, q ∈ ld_X7_readLine := by decide
theorem sn_X7_readLine_X7_blame : ∀ c ∈ nd_X7_blame, c ∈ nd_X7_readLine := by decide
theorem sl_X7_readLine_X7_blame : ∀ q ∈ ld_X7_blame, q ∈ ld_X7_readLine := by decide
def f_X7_readLine_55  (x1 : Int32) (h : zH) : zR := (zbd (f_X7_expect (15 : Int32) (15 : Int32) h) fun r6 h7 => (zbd (f_X5_add_t34 x1 (0 : Int32) h7) fun r8 h9 => (zst (zup h9 34 4 ((h9 34 4) + (1 : Int32))) fun h10 => (some (0, h10)))))
def f_X7_readLine_26  (h : zH) : zR := (zbd (f_X7_expect (3 : Int32) (3 : Int32) h) fun r1 h2 => (zbd (f_X7_readSum  h2) fun r3 h4 => (zlt (h4 29 10) fun y5 => (if y5 = (4 : Int32) then (zbd (f_X7_step  h4) fun r11 h12 => (zbd (f_X7_readCondition (f_X7_readClause 12) (0 : Int32) h12) fun r13 h14 => (f_X7_readLine_55  y5 h14))) else (f_X7_readLine_55  y5 h4)))))
def f_X7_readLine  (h : zH) : zR := (if (h 29 10) = (3 : Int32) then (if (h 34 4) < (16 : Int32) then (f_X7_readLine_26   h) else (zbd (f_X7_blame (3 : Int32) h) fun r15 h16 => (some (0, h16)))) else (f_X7_readLine_26   h))
variable {p : Program} {l : Launch} {e : Env} {s : State} {m : MethodId} {args : Array Value} {below : List Frame} {meth : Method} {c : Code} {G : zG} {q : Int32 × zH}
set_option maxHeartbeats 4000000 in
set_option maxRecDepth 100000 in
theorem w_X7_readLine_55  (C : zC G p s m args meth c cX7_readLine 2 RX7 none) (hm : ∀ c ∈ nd_X7_readLine, c ∈ znm G) (hk : ∀ q ∈ ld_X7_readLine, zlk G q.1 q.2 = true)  : ∀ (ls : Array Slot) (H : Heap) (locs : List Loc) (h : zH) (x1 : Int32), lv_has ls 2 [(0, .ref (zal G 29)), (1, .int x1)] → zS G h s.heap H locs → f_X7_readLine_55  x1 h = some q → W p l e (zrm (30)) s m args below meth c H locs 0 0 (MQ below (zQV G q.2) args s 0 0 (zA G)) (F0 m 55 ls []) := by
  intro ls H locs h x1 hl hS hf
  unfold f_X7_readLine_55 at hf
  refine lv_aload_n C.1 C.2.1 dX7_readLine_55 rfl (lv_at hl 0 rfl) ?_
  refine lv_bipush (v := (15 : Int32)) C.1 C.2.1 dX7_readLine_56 rfl ?_
  refine lv_bipush (v := (15 : Int32)) C.1 C.2.1 dX7_readLine_58 rfl ?_
  obtain ⟨r6, h7, er6, hf⟩ := zbd_some hf
  refine zcallVV (As := [.int (15 : Int32), .int (15 : Int32)]) (rest := []) C hS mv_X7_114 (c_X7_expect l G h (15 : Int32) (15 : Int32) (r6, h7) (fun c h => hm c (sn_X7_readLine_X7_expect c h)) (fun q h => hk q (sl_X7_readLine_X7_expect q h)) er6) (hm 29 (by decide)) ⟨_, _, _, sh_29, rfl, rfl⟩ rfl rfl (Nat.le_of_ble_eq_true rfl) hl.1 ⟨Nat.le_of_ble_eq_true rfl, Nat.le_of_ble_eq_true rfl, Nat.le_of_ble_eq_true rfl, Nat.le_of_ble_eq_true rfl⟩ dX7_readLine_60 (fun H locs hS => ?_)
  refine lv_aload_n C.1 C.2.1 dX7_readLine_63 rfl (lv_at hl 0 rfl) ?_
  refine zgetR C hS ff_X7_28_29 (hm 29 (by decide)) (hk (29, 4) (by decide)) dX7_readLine_64 ?_
  refine lv_iload_n C.1 C.2.1 dX7_readLine_67 rfl (lv_at hl 1 rfl) ?_
  refine lv_iconst (v := (0 : Int32)) C.1 C.2.1 dX7_readLine_68 rfl ?_
  obtain ⟨r8, h9, er8, hf⟩ := zbd_some hf
  refine zcallVV (As := [.int x1, .int (0 : Int32)]) (rest := []) C hS mv_X7_124 (c_X5_add_t34 l G h7 x1 (0 : Int32) (r8, h9) (fun c h => hm c (sn_X7_readLine_X5_add_t34 c h)) (fun q h => hk q (sl_X7_readLine_X5_add_t34 q h)) er8) (hm 34 (by decide)) ⟨_, _, _, sh_34, rfl, rfl⟩ rfl rfl (Nat.le_of_ble_eq_true rfl) hl.1 ⟨Nat.le_of_ble_eq_true rfl, Nat.le_of_ble_eq_true rfl, Nat.le_of_ble_eq_true rfl, Nat.le_of_ble_eq_true rfl⟩ dX7_readLine_69 (fun H locs hS => ?_)
  refine lv_aload_n C.1 C.2.1 dX7_readLine_72 rfl (lv_at hl 0 rfl) ?_
  refine zgetR C hS ff_X7_28_29 (hm 29 (by decide)) (hk (29, 4) (by decide)) dX7_readLine_73 ?_
  refine lv_dup C.1 C.2.1 dX7_readLine_76 rfl ?_
  refine zgetI C hS ff_X7_111_34 (hm 34 (by decide)) dX7_readLine_77 ?_
  refine lv_iconst (v := (1 : Int32)) C.1 C.2.1 dX7_readLine_80 rfl ?_
  refine lv_iadd C.1 C.2.1 dX7_readLine_81 ?_
  refine zputI C hS ff_X7_111_34 fw_34_4 (hm 34 (by decide)) dX7_readLine_82 (fun H locs hS => ?_)
  obtain ⟨h10, eh10, hf⟩ := zst_some hf
  have hS : zS G h10 s.heap H locs := by rw [eh10]; exact hS
  exact zretV C hS hf dX7_readLine_85
set_option maxHeartbeats 4000000 in
set_option maxRecDepth 100000 in
theorem w_X7_readLine_26  (C : zC G p s m args meth c cX7_readLine 2 RX7 none) (hm : ∀ c ∈ nd_X7_readLine, c ∈ znm G) (hk : ∀ q ∈ ld_X7_readLine, zlk G q.1 q.2 = true)  : ∀ (ls : Array Slot) (H : Heap) (locs : List Loc) (h : zH), lv_has ls 2 [(0, .ref (zal G 29))] → zS G h s.heap H locs → f_X7_readLine_26  h = some q → W p l e (zrm (30)) s m args below meth c H locs 0 0 (MQ below (zQV G q.2) args s 0 0 (zA G)) (F0 m 26 ls []) := by
  intro ls H locs h hl hS hf
  unfold f_X7_readLine_26 at hf
  refine lv_aload_n C.1 C.2.1 dX7_readLine_26 rfl (lv_at hl 0 rfl) ?_
  refine lv_iconst (v := (3 : Int32)) C.1 C.2.1 dX7_readLine_27 rfl ?_
  refine lv_iconst (v := (3 : Int32)) C.1 C.2.1 dX7_readLine_28 rfl ?_
  obtain ⟨r1, h2, er1, hf⟩ := zbd_some hf
  refine zcallVV (As := [.int (3 : Int32), .int (3 : Int32)]) (rest := []) C hS mv_X7_114 (c_X7_expect l G h (3 : Int32) (3 : Int32) (r1, h2) (fun c h => hm c (sn_X7_readLine_X7_expect c h)) (fun q h => hk q (sl_X7_readLine_X7_expect q h)) er1) (hm 29 (by decide)) ⟨_, _, _, sh_29, rfl, rfl⟩ rfl rfl (Nat.le_of_ble_eq_true rfl) hl.1 ⟨Nat.le_of_ble_eq_true rfl, Nat.le_of_ble_eq_true rfl, Nat.le_of_ble_eq_true rfl, Nat.le_of_ble_eq_true rfl⟩ dX7_readLine_29 (fun H locs hS => ?_)
  refine lv_aload_n C.1 C.2.1 dX7_readLine_32 rfl (lv_at hl 0 rfl) ?_
  obtain ⟨r3, h4, er3, hf⟩ := zbd_some hf
  refine zcallVV (As := []) (rest := []) C hS mv_X7_118 (c_X7_readSum l G h2  (r3, h4) (fun c h => hm c (sn_X7_readLine_X7_readSum c h)) (fun q h => hk q (sl_X7_readLine_X7_readSum q h)) er3) (hm 29 (by decide)) ⟨_, _, _, sh_29, rfl, rfl⟩ rfl rfl (Nat.le_of_ble_eq_true rfl) hl.1 ⟨Nat.le_of_ble_eq_true rfl, Nat.le_of_ble_eq_true rfl, Nat.le_of_ble_eq_true rfl, Nat.le_of_ble_eq_true rfl⟩ dX7_readLine_33 (fun H locs hS => ?_)
  refine lv_aload_n C.1 C.2.1 dX7_readLine_36 rfl (lv_at hl 0 rfl) ?_
  refine zgetI C hS ff_X7_51_29 (hm 29 (by decide)) dX7_readLine_37 ?_
  obtain ⟨y5, ey5, hf⟩ := zlt_some hf
  refine ztop ey5 ?_
  refine lv_istore_n (lv' := [(1, .int y5), (0, .ref (zal G 29))]) C.1 C.2.1 dX7_readLine_40 rfl hl (by decide) rfl (fun ls hl => ?_)
  refine lv_iload_n C.1 C.2.1 dX7_readLine_41 rfl (lv_at hl 0 rfl) ?_
  refine lv_iconst (v := (4 : Int32)) C.1 C.2.1 dX7_readLine_42 rfl ?_
  refine lv_icmp_ne (tgt := 55) C.1 C.2.1 dX7_readLine_43 (by decide) (fun hc => ?_) (fun hc => ?_)
  · have hf := zif_f hc hf
    exact w_X7_readLine_55 C hm hk  _ _ _ _ _ (lv_sub hl [1, 0] rfl) hS hf
  · have hf := zif_t hc hf
    refine lv_aload_n C.1 C.2.1 dX7_readLine_46 rfl (lv_at hl 1 rfl) ?_
    obtain ⟨r11, h12, er11, hf⟩ := zbd_some hf
    refine zcallVV (As := []) (rest := []) C hS mv_X7_104 (c_X7_step l G h4  (r11, h12) (fun c h => hm c (sn_X7_readLine_X7_step c h)) (fun q h => hk q (sl_X7_readLine_X7_step q h)) er11) (hm 29 (by decide)) ⟨_, _, _, sh_29, rfl, rfl⟩ rfl rfl (Nat.le_of_ble_eq_true rfl) hl.1 ⟨Nat.le_of_ble_eq_true rfl, Nat.le_of_ble_eq_true rfl, Nat.le_of_ble_eq_true rfl, Nat.le_of_ble_eq_true rfl⟩ dX7_readLine_47 (fun H locs hS => ?_)
    refine lv_aload_n C.1 C.2.1 dX7_readLine_50 rfl (lv_at hl 1 rfl) ?_
    refine lv_iconst (v := (0 : Int32)) C.1 C.2.1 dX7_readLine_51 rfl ?_
    obtain ⟨r13, h14, er13, hf⟩ := zbd_some hf
    refine zcallVV (As := [.int (0 : Int32)]) (rest := []) C hS mv_X7_121 (c_X7_readCondition l G h12 (f_X7_readClause 12) 28 (by decide) (c_X7_readClause l G (fun c h => hm c (sn_X7_readLine_X7_readClause_b c h)) (fun q h => hk q (sl_X7_readLine_X7_readClause_b q h)) 12) (0 : Int32) (r13, h14) (fun c h => hm c (sn_X7_readLine_X7_readCondition c h)) (fun q h => hk q (sl_X7_readLine_X7_readCondition q h)) er13) (hm 29 (by decide)) ⟨_, _, _, sh_29, rfl, rfl⟩ rfl rfl (Nat.le_of_ble_eq_true rfl) hl.1 ⟨Nat.le_of_ble_eq_true rfl, Nat.le_of_ble_eq_true rfl, Nat.le_of_ble_eq_true rfl, Nat.le_of_ble_eq_true rfl⟩ dX7_readLine_52 (fun H locs hS => ?_)
    exact w_X7_readLine_55 C hm hk  _ _ _ _ _ (lv_sub hl [1, 0] rfl) hS hf
set_option maxHeartbeats 4000000 in
set_option maxRecDepth 100000 in
theorem c_X7_readLine (l : Launch) (G : zG) (h : zH) (q : Int32 × zH) (hm : ∀ c ∈ nd_X7_readLine, c ∈ znm G) (hk : ∀ q ∈ ld_X7_readLine, zlk G q.1 q.2 = true) (hf : f_X7_readLine h = some q) : zCtV l yX7_readLine cX7_readLine 2 none (30) [.ref (zal G 29)] G h q.2 := by
  refine zMetV (by decide) (Nat.le_of_ble_eq_true rfl) ?_
  intro p e s m below meth c ls C hl hS
  have hl : lv_has ls 2 [(0, .ref (zal G 29))] := hl
  have C : zC G p s m [.ref (zal G 29)].toArray meth c cX7_readLine 2 RX7 none := C
  unfold f_X7_readLine at hf
  refine lv_aload_n C.1 C.2.1 dX7_readLine_0 rfl (lv_at hl 0 rfl) ?_
  refine zgetI C hS ff_X7_51_29 (hm 29 (by decide)) dX7_readLine_1 ?_
  refine lv_iconst (v := (3 : Int32)) C.1 C.2.1 dX7_readLine_4 rfl ?_
  refine lv_icmp_ne (tgt := 26) C.1 C.2.1 dX7_readLine_5 (by decide) (fun hc => ?_) (fun hc => ?_)
  · have hf := zif_f hc hf
    exact w_X7_readLine_26 C hm hk  _ _ _ _ (lv_sub hl [0] rfl) hS hf
  · have hf := zif_t hc hf
    refine lv_aload_n C.1 C.2.1 dX7_readLine_8 rfl (lv_at hl 0 rfl) ?_
    refine zgetR C hS ff_X7_28_29 (hm 29 (by decide)) (hk (29, 4) (by decide)) dX7_readLine_9 ?_
    refine zgetI C hS ff_X7_111_34 (hm 34 (by decide)) dX7_readLine_12 ?_
    refine lv_bipush (v := (16 : Int32)) C.1 C.2.1 dX7_readLine_15 rfl ?_
    refine lv_icmp_lt (tgt := 26) C.1 C.2.1 dX7_readLine_17 (by decide) (fun hc => ?_) (fun hc => ?_)
    · have hf := zif_t hc hf
      exact w_X7_readLine_26 C hm hk  _ _ _ _ (lv_sub hl [0] rfl) hS hf
    · have hf := zif_f hc hf
      refine lv_aload_n C.1 C.2.1 dX7_readLine_20 rfl (lv_at hl 0 rfl) ?_
      refine lv_iconst (v := (3 : Int32)) C.1 C.2.1 dX7_readLine_21 rfl ?_
      obtain ⟨r15, h16, er15, hf⟩ := zbd_some hf
      refine zcallVV (As := [.int (3 : Int32)]) (rest := []) C hS mv_X7_107 (c_X7_blame l G h (3 : Int32) (r15, h16) (fun c h => hm c (sn_X7_readLine_X7_blame c h)) (fun q h => hk q (sl_X7_readLine_X7_blame q h)) er15) (hm 29 (by decide)) ⟨_, _, _, sh_29, rfl, rfl⟩ rfl rfl (Nat.le_of_ble_eq_true rfl) hl.1 ⟨Nat.le_of_ble_eq_true rfl, Nat.le_of_ble_eq_true rfl, Nat.le_of_ble_eq_true rfl, Nat.le_of_ble_eq_true rfl⟩ dX7_readLine_22 (fun H locs hS => ?_)
      exact zretV C hS hf dX7_readLine_25
end
section
theorem dX7_readLaw_0 : decode cX7_readLaw 0 = .ok (.aload_n 0, 1) := by decide +kernel
theorem dX7_readLaw_1 : decode cX7_readLaw 1 = .ok (.invokevirtual 39, 3) := by decide +kernel
theorem dX7_readLaw_4 : decode cX7_readLaw 4 = .ok (.aload_n 0, 1) := by decide +kernel
theorem dX7_readLaw_5 : decode cX7_readLaw 5 = .ok (.getfield 28, 3) := by decide +kernel
theorem dX7_readLaw_8 : decode cX7_readLaw 8 = .ok (.invokevirtual 42, 3) := by decide +kernel
theorem dX7_readLaw_11 : decode cX7_readLaw 11 = .ok (.aload_n 0, 1) := by decide +kernel
theorem dX7_readLaw_12 : decode cX7_readLaw 12 = .ok (.iconst 0, 1) := by decide +kernel
theorem dX7_readLaw_13 : decode cX7_readLaw 13 = .ok (.putfield 45, 3) := by decide +kernel
theorem dX7_readLaw_16 : decode cX7_readLaw 16 = .ok (.aload_n 0, 1) := by decide +kernel
theorem dX7_readLaw_17 : decode cX7_readLaw 17 = .ok (.iconst (-1), 1) := by decide +kernel
theorem dX7_readLaw_18 : decode cX7_readLaw 18 = .ok (.putfield 32, 3) := by decide +kernel
theorem dX7_readLaw_21 : decode cX7_readLaw 21 = .ok (.aload_n 0, 1) := by decide +kernel
theorem dX7_readLaw_22 : decode cX7_readLaw 22 = .ok (.iconst 0, 1) := by decide +kernel
theorem dX7_readLaw_23 : decode cX7_readLaw 23 = .ok (.putfield 48, 3) := by decide +kernel
theorem dX7_readLaw_26 : decode cX7_readLaw 26 = .ok (.aload_n 0, 1) := by decide +kernel
theorem dX7_readLaw_27 : decode cX7_readLaw 27 = .ok (.aload_n 0, 1) := by decide +kernel
theorem dX7_readLaw_28 : decode cX7_readLaw 28 = .ok (.getfield 15, 3) := by decide +kernel
theorem dX7_readLaw_31 : decode cX7_readLaw 31 = .ok (.iconst 0, 1) := by decide +kernel
theorem dX7_readLaw_32 : decode cX7_readLaw 32 = .ok (.iaload, 1) := by decide +kernel
theorem dX7_readLaw_33 : decode cX7_readLaw 33 = .ok (.putfield 51, 3) := by decide +kernel
theorem dX7_readLaw_36 : decode cX7_readLaw 36 = .ok (.iconst 0, 1) := by decide +kernel
theorem dX7_readLaw_37 : decode cX7_readLaw 37 = .ok (.istore_n 1, 1) := by decide +kernel
theorem dX7_readLaw_38 : decode cX7_readLaw 38 = .ok (.iload_n 1, 1) := by decide +kernel
theorem dX7_readLaw_39 : decode cX7_readLaw 39 = .ok (.sipush 400, 3) := by decide +kernel
theorem dX7_readLaw_42 : decode cX7_readLaw 42 = .ok (.if_icmp .gt 27, 3) := by decide +kernel
theorem dX7_readLaw_45 : decode cX7_readLaw 45 = .ok (.aload_n 0, 1) := by decide +kernel
theorem dX7_readLaw_46 : decode cX7_readLaw 46 = .ok (.getfield 51, 3) := by decide +kernel
theorem dX7_readLaw_49 : decode cX7_readLaw 49 = .ok (.ifCond .eq 20, 3) := by decide +kernel
theorem dX7_readLaw_52 : decode cX7_readLaw 52 = .ok (.aload_n 0, 1) := by decide +kernel
theorem dX7_readLaw_53 : decode cX7_readLaw 53 = .ok (.getfield 45, 3) := by decide +kernel
theorem dX7_readLaw_56 : decode cX7_readLaw 56 = .ok (.ifCond .ne 13, 3) := by decide +kernel
theorem dX7_readLaw_59 : decode cX7_readLaw 59 = .ok (.aload_n 0, 1) := by decide +kernel
theorem dX7_readLaw_60 : decode cX7_readLaw 60 = .ok (.invokevirtual 54, 3) := by decide +kernel
theorem dX7_readLaw_63 : decode cX7_readLaw 63 = .ok (.iinc 1 1, 3) := by decide +kernel
theorem dX7_readLaw_66 : decode cX7_readLaw 66 = .ok (.goto (-28), 3) := by decide +kernel
theorem dX7_readLaw_69 : decode cX7_readLaw 69 = .ok (.aload_n 0, 1) := by decide +kernel
theorem dX7_readLaw_70 : decode cX7_readLaw 70 = .ok (.getfield 45, 3) := by decide +kernel
theorem dX7_readLaw_73 : decode cX7_readLaw 73 = .ok (.ifCond .ne 7, 3) := by decide +kernel
theorem dX7_readLaw_76 : decode cX7_readLaw 76 = .ok (.iconst 1, 1) := by decide +kernel
theorem dX7_readLaw_77 : decode cX7_readLaw 77 = .ok (.goto 4, 3) := by decide +kernel
theorem dX7_readLaw_80 : decode cX7_readLaw 80 = .ok (.iconst 0, 1) := by decide +kernel
theorem dX7_readLaw_81 : decode cX7_readLaw 81 = .ok (.ireturn, 1) := by decide +kernel
abbrev nd_X7_readLaw : List Nat := [29, 30, 31, 32, 33, 34, 35, 36]
abbrev ld_X7_readLaw : List (Nat × Nat) := [(29, 0), (29, 1), (29, 2), (29, 3), (29, 4), (34, 0), (34, 1)]
theorem sn_X7_readLaw_X7_split : ∀ c ∈ nd_X7_split, c ∈ nd_X7_readLaw := by decide
theorem sl_X7_readLaw_X7_split : ∀ q ∈ ld_X7_split, q ∈ ld_X7_readLaw := by decide
theorem sn_X7_readLaw_X5_clear_t34 : ∀ c ∈ nd_X5_clear_t34, c ∈ nd_X7_readLaw := by decide
theorem sl_X7_readLaw_X5_clear_t34 : ∀ q ∈ ld_X5_clear_t34, q ∈ ld_X7_readLaw := by decide
theorem sn_X7_readLaw_X7_readLine : ∀ c ∈ nd_X7_readLine, c ∈ nd_X7_readLaw := by decide
theorem sl_X7_readLaw_X7_readLine : ∀ q ∈ ld_X7_readLine, q ∈ ld_X7_readLaw := by decide
def f_X7_readLaw_69  (h : zH) : zR := (if (h 29 6) = 0 then (some ((1 : Int32), h)) else (some ((0 : Int32), h)))
def f_X7_readLaw_38  : Nat → Int32 → zH → zR
  | 0 => fun _ _ => none
  | n + 1 => fun x1 h => (if (400 : Int32) < x1 then (f_X7_readLaw_69   h) else (if (h 29 10) = 0 then (f_X7_readLaw_69   h) else (if (h 29 6) = 0 then (zbd (f_X7_readLine  h) fun r9 h10 => (zlt (x1 + (1 : Int32)) fun y11 => (f_X7_readLaw_38  n y11 h10))) else (f_X7_readLaw_69   h))))
def f_X7_readLaw  (h : zH) : zR := (zbd (f_X7_split  h) fun r1 h2 => (zbd (f_X5_clear_t34  h2) fun r3 h4 => (zst (zup h4 29 6 (0 : Int32)) fun h5 => (zst (zup h5 29 7 (-1 : Int32)) fun h6 => (zst (zup h6 29 9 (0 : Int32)) fun h7 => (zst (zup h7 29 10 (h7 31 0)) fun h8 => (f_X7_readLaw_38  zN (0 : Int32) h8)))))))
variable {p : Program} {l : Launch} {e : Env} {s : State} {m : MethodId} {args : Array Value} {below : List Frame} {meth : Method} {c : Code} {G : zG} {q : Int32 × zH}
set_option maxHeartbeats 4000000 in
set_option maxRecDepth 100000 in
theorem w_X7_readLaw_69  (C : zC G p s m args meth c cX7_readLaw 2 RX7 (some .boolean)) (hm : ∀ c ∈ nd_X7_readLaw, c ∈ znm G) (hk : ∀ q ∈ ld_X7_readLaw, zlk G q.1 q.2 = true)  : ∀ (ls : Array Slot) (H : Heap) (locs : List Loc) (h : zH), lv_has ls 2 [(0, .ref (zal G 29))] → zS G h s.heap H locs → f_X7_readLaw_69  h = some q → W p l e (zrm (31)) s m args below meth c H locs 0 0 (MQ below (zQI G q.2 q.1) args s 0 0 (zA G)) (F0 m 69 ls []) := by
  intro ls H locs h hl hS hf
  unfold f_X7_readLaw_69 at hf
  refine lv_aload_n C.1 C.2.1 dX7_readLaw_69 rfl (lv_at hl 0 rfl) ?_
  refine zgetI C hS ff_X7_45_29 (hm 29 (by decide)) dX7_readLaw_70 ?_
  refine lv_if_ne (tgt := 80) C.1 C.2.1 dX7_readLaw_73 (by decide) (fun hc => ?_) (fun hc => ?_)
  · have hf := zif_f hc hf
    refine lv_iconst (v := (0 : Int32)) C.1 C.2.1 dX7_readLaw_80 rfl ?_
    exact zretZ C hS rfl hf dX7_readLaw_81
  · have hf := zif_t hc hf
    refine lv_iconst (v := (1 : Int32)) C.1 C.2.1 dX7_readLaw_76 rfl ?_
    refine lv_goto (tgt := 81) C.1 C.2.1 dX7_readLaw_77 (by decide) ?_
    exact zretZ C hS rfl hf dX7_readLaw_81
set_option maxHeartbeats 4000000 in
set_option maxRecDepth 100000 in
theorem w_X7_readLaw_38  (C : zC G p s m args meth c cX7_readLaw 2 RX7 (some .boolean)) (hm : ∀ c ∈ nd_X7_readLaw, c ∈ znm G) (hk : ∀ q ∈ ld_X7_readLaw, zlk G q.1 q.2 = true)  : ∀ n, ∀ (ls : Array Slot) (H : Heap) (locs : List Loc) (h : zH) (x1 : Int32), lv_has ls 2 [(0, .ref (zal G 29)), (1, .int x1)] → zS G h s.heap H locs → f_X7_readLaw_38  n x1 h = some q → W p l e (zrm (31)) s m args below meth c H locs 0 0 (MQ below (zQI G q.2 q.1) args s 0 0 (zA G)) (F0 m 38 ls []) := by
  intro n
  induction n with
  | zero => intro ls H locs h x1 hl hS hf; cases hf
  | succ n ih =>
    intro ls H locs h x1 hl hS hf
    rw [f_X7_readLaw_38] at hf
    refine lv_iload_n C.1 C.2.1 dX7_readLaw_38 rfl (lv_at hl 1 rfl) ?_
    refine lv_sipush (v := (400 : Int32)) C.1 C.2.1 dX7_readLaw_39 rfl ?_
    refine lv_icmp_gt (tgt := 69) C.1 C.2.1 dX7_readLaw_42 (by decide) (fun hc => ?_) (fun hc => ?_)
    · have hf := zif_t hc hf
      exact w_X7_readLaw_69 C hm hk  _ _ _ _ (lv_sub hl [0] rfl) hS hf
    · have hf := zif_f hc hf
      refine lv_aload_n C.1 C.2.1 dX7_readLaw_45 rfl (lv_at hl 0 rfl) ?_
      refine zgetI C hS ff_X7_51_29 (hm 29 (by decide)) dX7_readLaw_46 ?_
      refine lv_if_eq (tgt := 69) C.1 C.2.1 dX7_readLaw_49 (by decide) (fun hc => ?_) (fun hc => ?_)
      · have hf := zif_t hc hf
        exact w_X7_readLaw_69 C hm hk  _ _ _ _ (lv_sub hl [0] rfl) hS hf
      · have hf := zif_f hc hf
        refine lv_aload_n C.1 C.2.1 dX7_readLaw_52 rfl (lv_at hl 0 rfl) ?_
        refine zgetI C hS ff_X7_45_29 (hm 29 (by decide)) dX7_readLaw_53 ?_
        refine lv_if_ne (tgt := 69) C.1 C.2.1 dX7_readLaw_56 (by decide) (fun hc => ?_) (fun hc => ?_)
        · have hf := zif_f hc hf
          exact w_X7_readLaw_69 C hm hk  _ _ _ _ (lv_sub hl [0] rfl) hS hf
        · have hf := zif_t hc hf
          refine lv_aload_n C.1 C.2.1 dX7_readLaw_59 rfl (lv_at hl 0 rfl) ?_
          obtain ⟨r9, h10, er9, hf⟩ := zbd_some hf
          refine zcallVV (As := []) (rest := []) C hS mv_X7_54 (c_X7_readLine l G h  (r9, h10) (fun c h => hm c (sn_X7_readLaw_X7_readLine c h)) (fun q h => hk q (sl_X7_readLaw_X7_readLine q h)) er9) (hm 29 (by decide)) ⟨_, _, _, sh_29, rfl, rfl⟩ rfl rfl (Nat.le_of_ble_eq_true rfl) hl.1 ⟨Nat.le_of_ble_eq_true rfl, Nat.le_of_ble_eq_true rfl, Nat.le_of_ble_eq_true rfl, Nat.le_of_ble_eq_true rfl⟩ dX7_readLaw_60 (fun H locs hS => ?_)
          obtain ⟨y11, ey11, hf⟩ := zlt_some hf
          refine lv_iinc (v := y11) (lv' := [(1, .int y11), (0, .ref (zal G 29))]) C.1 C.2.1 dX7_readLaw_63 hl (k := 1) rfl ey11.symm (by decide) rfl (fun ls hl => ?_)
          refine lv_goto (tgt := 38) C.1 C.2.1 dX7_readLaw_66 (by decide) ?_
          exact ih _ _ _ _ _ (lv_sub hl [1, 0] rfl) hS hf
set_option maxHeartbeats 4000000 in
set_option maxRecDepth 100000 in
theorem c_X7_readLaw (l : Launch) (G : zG) (h : zH) (q : Int32 × zH) (hm : ∀ c ∈ nd_X7_readLaw, c ∈ znm G) (hk : ∀ q ∈ ld_X7_readLaw, zlk G q.1 q.2 = true) (hf : f_X7_readLaw h = some q) : zCtI l yX7_readLaw cX7_readLaw 2 (some .boolean) (31) [.ref (zal G 29)] G h q.2 q.1 := by
  refine zMetI (by decide) (Nat.le_of_ble_eq_true rfl) ?_
  intro p e s m below meth c ls C hl hS
  have hl : lv_has ls 2 [(0, .ref (zal G 29))] := hl
  have C : zC G p s m [.ref (zal G 29)].toArray meth c cX7_readLaw 2 RX7 (some .boolean) := C
  unfold f_X7_readLaw at hf
  refine lv_aload_n C.1 C.2.1 dX7_readLaw_0 rfl (lv_at hl 0 rfl) ?_
  obtain ⟨r1, h2, er1, hf⟩ := zbd_some hf
  refine zcallVV (As := []) (rest := []) C hS mv_X7_39 (c_X7_split l G h  (r1, h2) (fun c h => hm c (sn_X7_readLaw_X7_split c h)) (fun q h => hk q (sl_X7_readLaw_X7_split q h)) er1) (hm 29 (by decide)) ⟨_, _, _, sh_29, rfl, rfl⟩ rfl rfl (Nat.le_of_ble_eq_true rfl) hl.1 ⟨Nat.le_of_ble_eq_true rfl, Nat.le_of_ble_eq_true rfl, Nat.le_of_ble_eq_true rfl, Nat.le_of_ble_eq_true rfl⟩ dX7_readLaw_1 (fun H locs hS => ?_)
  refine lv_aload_n C.1 C.2.1 dX7_readLaw_4 rfl (lv_at hl 0 rfl) ?_
  refine zgetR C hS ff_X7_28_29 (hm 29 (by decide)) (hk (29, 4) (by decide)) dX7_readLaw_5 ?_
  obtain ⟨r3, h4, er3, hf⟩ := zbd_some hf
  refine zcallVV (As := []) (rest := []) C hS mv_X7_42 (c_X5_clear_t34 l G h2  (r3, h4) (fun c h => hm c (sn_X7_readLaw_X5_clear_t34 c h)) (fun q h => hk q (sl_X7_readLaw_X5_clear_t34 q h)) er3) (hm 34 (by decide)) ⟨_, _, _, sh_34, rfl, rfl⟩ rfl rfl (Nat.le_of_ble_eq_true rfl) hl.1 ⟨Nat.le_of_ble_eq_true rfl, Nat.le_of_ble_eq_true rfl, Nat.le_of_ble_eq_true rfl, Nat.le_of_ble_eq_true rfl⟩ dX7_readLaw_8 (fun H locs hS => ?_)
  refine lv_aload_n C.1 C.2.1 dX7_readLaw_11 rfl (lv_at hl 0 rfl) ?_
  refine lv_iconst (v := (0 : Int32)) C.1 C.2.1 dX7_readLaw_12 rfl ?_
  refine zputI C hS ff_X7_45_29 fw_29_6 (hm 29 (by decide)) dX7_readLaw_13 (fun H locs hS => ?_)
  obtain ⟨h5, eh5, hf⟩ := zst_some hf
  have hS : zS G h5 s.heap H locs := by rw [eh5]; exact hS
  refine lv_aload_n C.1 C.2.1 dX7_readLaw_16 rfl (lv_at hl 0 rfl) ?_
  refine lv_iconst (v := (-1 : Int32)) C.1 C.2.1 dX7_readLaw_17 rfl ?_
  refine zputI C hS ff_X7_32_29 fw_29_7 (hm 29 (by decide)) dX7_readLaw_18 (fun H locs hS => ?_)
  obtain ⟨h6, eh6, hf⟩ := zst_some hf
  have hS : zS G h6 s.heap H locs := by rw [eh6]; exact hS
  refine lv_aload_n C.1 C.2.1 dX7_readLaw_21 rfl (lv_at hl 0 rfl) ?_
  refine lv_iconst (v := (0 : Int32)) C.1 C.2.1 dX7_readLaw_22 rfl ?_
  refine zputI C hS ff_X7_48_29 fw_29_9 (hm 29 (by decide)) dX7_readLaw_23 (fun H locs hS => ?_)
  obtain ⟨h7, eh7, hf⟩ := zst_some hf
  have hS : zS G h7 s.heap H locs := by rw [eh7]; exact hS
  refine lv_aload_n C.1 C.2.1 dX7_readLaw_26 rfl (lv_at hl 0 rfl) ?_
  refine lv_aload_n C.1 C.2.1 dX7_readLaw_27 rfl (lv_at hl 0 rfl) ?_
  refine zgetR C hS ff_X7_15_29 (hm 29 (by decide)) (hk (29, 1) (by decide)) dX7_readLaw_28 ?_
  refine lv_iconst (v := (0 : Int32)) C.1 C.2.1 dX7_readLaw_31 rfl ?_
  refine zald C hS sh_31 (hm 31 (by decide)) (vp_in_iff.mpr (by decide)) dX7_readLaw_32 ?_
  refine zputI C hS ff_X7_51_29 fw_29_10 (hm 29 (by decide)) dX7_readLaw_33 (fun H locs hS => ?_)
  obtain ⟨h8, eh8, hf⟩ := zst_some hf
  have hS : zS G h8 s.heap H locs := by rw [eh8]; exact hS
  refine lv_iconst (v := (0 : Int32)) C.1 C.2.1 dX7_readLaw_36 rfl ?_
  refine lv_istore_n (lv' := [(1, .int (0 : Int32)), (0, .ref (zal G 29))]) C.1 C.2.1 dX7_readLaw_37 rfl hl (by decide) rfl (fun ls hl => ?_)
  exact w_X7_readLaw_38 C hm hk  zN _ _ _ _ _ (lv_sub hl [1, 0] rfl) hS hf
end
section
theorem dX11_text_0 : decode cX11_text 0 = .ok (.aload_n 0, 1) := by decide +kernel
theorem dX11_text_1 : decode cX11_text 1 = .ok (.getfield 26, 3) := by decide +kernel
theorem dX11_text_4 : decode cX11_text 4 = .ok (.invokevirtual 128, 3) := by decide +kernel
theorem dX11_text_7 : decode cX11_text 7 = .ok (.istore_n 1, 1) := by decide +kernel
theorem dX11_text_8 : decode cX11_text 8 = .ok (.aload_n 0, 1) := by decide +kernel
theorem dX11_text_9 : decode cX11_text 9 = .ok (.getfield 26, 3) := by decide +kernel
theorem dX11_text_12 : decode cX11_text 12 = .ok (.iconst 0, 1) := by decide +kernel
theorem dX11_text_13 : decode cX11_text 13 = .ok (.putfield 125, 3) := by decide +kernel
theorem dX11_text_16 : decode cX11_text 16 = .ok (.iload_n 1, 1) := by decide +kernel
theorem dX11_text_17 : decode cX11_text 17 = .ok (.ifCond .ne 5, 3) := by decide +kernel
theorem dX11_text_20 : decode cX11_text 20 = .ok (.iconst (-1), 1) := by decide +kernel
theorem dX11_text_21 : decode cX11_text 21 = .ok (.ireturn, 1) := by decide +kernel
theorem dX11_text_22 : decode cX11_text 22 = .ok (.aload_n 0, 1) := by decide +kernel
theorem dX11_text_23 : decode cX11_text 23 = .ok (.getfield 12, 3) := by decide +kernel
theorem dX11_text_26 : decode cX11_text 26 = .ok (.getfield 132, 3) := by decide +kernel
theorem dX11_text_29 : decode cX11_text 29 = .ok (.aload_n 0, 1) := by decide +kernel
theorem dX11_text_30 : decode cX11_text 30 = .ok (.getfield 26, 3) := by decide +kernel
theorem dX11_text_33 : decode cX11_text 33 = .ok (.getfield 136, 3) := by decide +kernel
theorem dX11_text_36 : decode cX11_text 36 = .ok (.invokevirtual 139, 3) := by decide +kernel
theorem dX11_text_39 : decode cX11_text 39 = .ok (.aload_n 0, 1) := by decide +kernel
theorem dX11_text_40 : decode cX11_text 40 = .ok (.getfield 12, 3) := by decide +kernel
theorem dX11_text_43 : decode cX11_text 43 = .ok (.getfield 132, 3) := by decide +kernel
theorem dX11_text_46 : decode cX11_text 46 = .ok (.getfield 145, 3) := by decide +kernel
theorem dX11_text_49 : decode cX11_text 49 = .ok (.ireturn, 1) := by decide +kernel
abbrev nd_X11_text : List Nat := [0, 1, 16, 17, 18, 29, 30, 31, 32, 33, 34, 35, 36]
abbrev ld_X11_text : List (Nat × Nat) := [(0, 0), (0, 2), (1, 3), (16, 0), (16, 1), (29, 0), (29, 1), (29, 2), (29, 3), (29, 4), (34, 0), (34, 1)]
theorem sn_X11_text_X7_readLaw : ∀ c ∈ nd_X7_readLaw, c ∈ nd_X11_text := by decide
theorem sl_X11_text_X7_readLaw : ∀ q ∈ ld_X7_readLaw, q ∈ ld_X11_text := by decide
theorem sn_X11_text_X5_copyFrom_r34 : ∀ c ∈ nd_X5_copyFrom_r34, c ∈ nd_X11_text := by decide
theorem sl_X11_text_X5_copyFrom_r34 : ∀ q ∈ ld_X5_copyFrom_r34, q ∈ ld_X11_text := by decide
def f_X11_text  (h : zH) : zR := (zbd (f_X7_readLaw  h) fun r1 h2 => (zst (zup h2 29 5 (0 : Int32)) fun h3 => (if r1 = 0 then (some ((-1 : Int32), h3)) else (zbd (f_X5_copyFrom_r34  h3) fun r4 h5 => (some ((h5 16 4), h5))))))
variable {p : Program} {l : Launch} {e : Env} {s : State} {m : MethodId} {args : Array Value} {below : List Frame} {meth : Method} {c : Code} {G : zG} {q : Int32 × zH}
set_option maxHeartbeats 4000000 in
set_option maxRecDepth 100000 in
theorem c_X11_text (l : Launch) (G : zG) (h : zH) (q : Int32 × zH) (hm : ∀ c ∈ nd_X11_text, c ∈ znm G) (hk : ∀ q ∈ ld_X11_text, zlk G q.1 q.2 = true) (hf : f_X11_text h = some q) : zCtI l yX11_text cX11_text 2 (some .int) (32) [.ref (zal G 0)] G h q.2 q.1 := by
  refine zMetI (by decide) (Nat.le_of_ble_eq_true rfl) ?_
  intro p e s m below meth c ls C hl hS
  have hl : lv_has ls 2 [(0, .ref (zal G 0))] := hl
  have C : zC G p s m [.ref (zal G 0)].toArray meth c cX11_text 2 RX11 (some .int) := C
  unfold f_X11_text at hf
  refine lv_aload_n C.1 C.2.1 dX11_text_0 rfl (lv_at hl 0 rfl) ?_
  refine zgetR C hS ff_X11_26_0 (hm 0 (by decide)) (hk (0, 2) (by decide)) dX11_text_1 ?_
  obtain ⟨r1, h2, er1, hf⟩ := zbd_some hf
  refine zcallVI (As := []) (rest := []) C hS mv_X11_128 (c_X7_readLaw l G h  (r1, h2) (fun c h => hm c (sn_X11_text_X7_readLaw c h)) (fun q h => hk q (sl_X11_text_X7_readLaw q h)) er1) (hm 29 (by decide)) ⟨_, _, _, sh_29, rfl, rfl⟩ rfl rfl (Nat.le_of_ble_eq_true rfl) hl.1 ⟨Nat.le_of_ble_eq_true rfl, Nat.le_of_ble_eq_true rfl, Nat.le_of_ble_eq_true rfl, Nat.le_of_ble_eq_true rfl⟩ dX11_text_4 (fun H locs hS => ?_)
  refine lv_istore_n (lv' := [(1, .int r1), (0, .ref (zal G 0))]) C.1 C.2.1 dX11_text_7 rfl hl (by decide) rfl (fun ls hl => ?_)
  refine lv_aload_n C.1 C.2.1 dX11_text_8 rfl (lv_at hl 1 rfl) ?_
  refine zgetR C hS ff_X11_26_0 (hm 0 (by decide)) (hk (0, 2) (by decide)) dX11_text_9 ?_
  refine lv_iconst (v := (0 : Int32)) C.1 C.2.1 dX11_text_12 rfl ?_
  refine zputI C hS ff_X11_125_29 fw_29_5 (hm 29 (by decide)) dX11_text_13 (fun H locs hS => ?_)
  obtain ⟨h3, eh3, hf⟩ := zst_some hf
  have hS : zS G h3 s.heap H locs := by rw [eh3]; exact hS
  refine lv_iload_n C.1 C.2.1 dX11_text_16 rfl (lv_at hl 0 rfl) ?_
  refine lv_if_ne (tgt := 22) C.1 C.2.1 dX11_text_17 (by decide) (fun hc => ?_) (fun hc => ?_)
  · have hf := zif_f hc hf
    refine lv_aload_n C.1 C.2.1 dX11_text_22 rfl (lv_at hl 1 rfl) ?_
    refine zgetR C hS ff_X11_12_0 (hm 0 (by decide)) (hk (0, 0) (by decide)) dX11_text_23 ?_
    refine zgetR C hS ff_X11_132_1 (hm 1 (by decide)) (hk (1, 3) (by decide)) dX11_text_26 ?_
    refine lv_aload_n C.1 C.2.1 dX11_text_29 rfl (lv_at hl 1 rfl) ?_
    refine zgetR C hS ff_X11_26_0 (hm 0 (by decide)) (hk (0, 2) (by decide)) dX11_text_30 ?_
    refine zgetR C hS ff_X11_136_29 (hm 29 (by decide)) (hk (29, 4) (by decide)) dX11_text_33 ?_
    obtain ⟨r4, h5, er4, hf⟩ := zbd_some hf
    refine zcallVV (As := [.ref (zal G 34)]) (rest := []) C hS mv_X11_139 (c_X5_copyFrom_r34 l G h3  (r4, h5) (fun c h => hm c (sn_X11_text_X5_copyFrom_r34 c h)) (fun q h => hk q (sl_X11_text_X5_copyFrom_r34 q h)) er4) (hm 16 (by decide)) ⟨_, _, _, sh_16, rfl, rfl⟩ rfl rfl (Nat.le_of_ble_eq_true rfl) hl.1 ⟨Nat.le_of_ble_eq_true rfl, Nat.le_of_ble_eq_true rfl, Nat.le_of_ble_eq_true rfl, Nat.le_of_ble_eq_true rfl⟩ dX11_text_36 (fun H locs hS => ?_)
    refine lv_aload_n C.1 C.2.1 dX11_text_39 rfl (lv_at hl 1 rfl) ?_
    refine zgetR C hS ff_X11_12_0 (hm 0 (by decide)) (hk (0, 0) (by decide)) dX11_text_40 ?_
    refine zgetR C hS ff_X11_132_1 (hm 1 (by decide)) (hk (1, 3) (by decide)) dX11_text_43 ?_
    refine zgetI C hS ff_X11_145_16 (hm 16 (by decide)) dX11_text_46 ?_
    exact zretI C hS hf dX11_text_49
  · have hf := zif_t hc hf
    refine lv_iconst (v := (-1 : Int32)) C.1 C.2.1 dX11_text_20 rfl ?_
    exact zretI C hS hf dX11_text_21
end
