theorem kw_806 : Cond.code yX4_laughOf cX4_laughOf 7 (some .int) ∈ zg := zg_of (List.mem_of_getElem? (i := 806) (by decide +kernel)) (by decide +kernel)
theorem kw_857 : Cond.methodLink RX11 185 yX4_laughOf ∈ zg := zg_of (List.mem_of_getElem? (i := 857) (by decide +kernel)) (by decide +kernel)
theorem kw_804 : Cond.instanceMethod yX4_laughOf ∈ zg := zg_of (List.mem_of_getElem? (i := 804) (by decide +kernel)) (by decide +kernel)
theorem kw_805 : Cond.selects RX4 yX4_laughOf yX4_laughOf ∈ zg := zg_of (List.mem_of_getElem? (i := 805) (by decide +kernel)) (by decide +kernel)
theorem mv_X11_185 : zMV RX11 185 yX4_laughOf cX4_laughOf 7 (some .int) 3 := ⟨⟨kw_857, kw_804, kw_805, kw_85, kw_806⟩, ⟨by decide, by decide, by decide +kernel⟩, by decide⟩
theorem mn_X4_77 : zMN RX4 77 yX11_pairOf cX11_pairOf 2 (some .int) 2 := ⟨⟨(by decide +kernel), kw_801, kw_84, kw_802⟩, ⟨by decide, by decide, by decide +kernel⟩, by decide⟩
theorem kw_256 : Cond.fieldLink RX4 28 "HalfAJoke$House" "book" "LHalfAJoke$Book;" ∈ zg := zg_of (List.mem_of_getElem? (i := 256) (by decide +kernel)) (by decide +kernel)
theorem ff_X4_28_1 : zFc RX4 28 1 2 (some (11, false)) := ⟨_, _, _, tyX4, sh_1, rfl, by decide, iz_X4, kw_256, rfl, tyX4_ok, nmX4⟩
theorem kw_192 : Cond.fieldLink RX4 81 "HalfAJoke$Book" "told" "[I" ∈ zg := zg_of (List.mem_of_getElem? (i := 192) (by decide +kernel)) (by decide +kernel)
theorem ff_X4_81_11 : zFc RX4 81 11 0 (some (12, false)) := ⟨_, _, _, tyX0, sh_11, rfl, by decide, iz_X0, kw_192, rfl, tyX0_ok, nmX0⟩
theorem kw_208 : Cond.fieldLink RX4 84 "HalfAJoke$Book" "night" "I" ∈ zg := zg_of (List.mem_of_getElem? (i := 208) (by decide +kernel)) (by decide +kernel)
theorem ff_X4_84_11 : zFc RX4 84 11 5 none := ⟨_, _, _, tyX0, sh_11, rfl, by decide, iz_X0, kw_208, rfl, tyX0_ok, nmX0⟩
theorem kw_196 : Cond.fieldLink RX4 87 "HalfAJoke$Book" "last" "[I" ∈ zg := zg_of (List.mem_of_getElem? (i := 196) (by decide +kernel)) (by decide +kernel)
theorem ff_X4_87_11 : zFc RX4 87 11 1 (some (13, false)) := ⟨_, _, _, tyX0, sh_11, rfl, by decide, iz_X0, kw_196, rfl, tyX0_ok, nmX0⟩
theorem kw_264 : Cond.fieldLink RX4 43 "HalfAJoke$House" "facts" "[I" ∈ zg := zg_of (List.mem_of_getElem? (i := 264) (by decide +kernel)) (by decide +kernel)
theorem ff_X4_43_1 : zFc RX4 43 1 5 (some (21, false)) := ⟨_, _, _, tyX4, sh_1, rfl, by decide, iz_X4, kw_264, rfl, tyX4_ok, nmX4⟩
theorem kw_248 : Cond.fieldLink RX4 12 "HalfAJoke$House" "halves" "LHalfAJoke$Halves;" ∈ zg := zg_of (List.mem_of_getElem? (i := 248) (by decide +kernel)) (by decide +kernel)
theorem ff_X4_12_1 : zFc RX4 12 1 0 (some (2, false)) := ⟨_, _, _, tyX4, sh_1, rfl, by decide, iz_X4, kw_248, rfl, tyX4_ok, nmX4⟩
theorem kw_133 : Cond.fieldLink RX4 90 "HalfAJoke$Halves" "wit" "[I" ∈ zg := zg_of (List.mem_of_getElem? (i := 133) (by decide +kernel)) (by decide +kernel)
theorem ff_X4_90_2 : zFc RX4 90 2 2 (some (5, false)) := ⟨_, _, _, tyX3, sh_2, rfl, by decide, iz_X3, kw_133, rfl, tyX3_ok, nmX3⟩
theorem kw_129 : Cond.fieldLink RX4 93 "HalfAJoke$Halves" "joke" "[I" ∈ zg := zg_of (List.mem_of_getElem? (i := 129) (by decide +kernel)) (by decide +kernel)
theorem ff_X4_93_2 : zFc RX4 93 2 1 (some (4, false)) := ⟨_, _, _, tyX3, sh_2, rfl, by decide, iz_X3, kw_129, rfl, tyX3_ok, nmX3⟩
theorem kw_259 : Cond.fieldLink RX4 35 "HalfAJoke$House" "law" "LHalfAJoke$Law;" ∈ zg := zg_of (List.mem_of_getElem? (i := 259) (by decide +kernel)) (by decide +kernel)
theorem ff_X4_35_1 : zFc RX4 35 1 3 (some (16, false)) := ⟨_, _, _, tyX4, sh_1, rfl, by decide, iz_X4, kw_259, rfl, tyX4_ok, nmX4⟩
theorem kw_89 : Cond.initialized RX5 ∈ zg := zg_of (List.mem_of_getElem? (i := 89) (by decide +kernel)) (by decide +kernel)
theorem kw_811 : Cond.code yX5_valueOf cX5_valueOf 5 (some .int) ∈ zg := zg_of (List.mem_of_getElem? (i := 811) (by decide +kernel)) (by decide +kernel)
theorem kw_808 : Cond.methodLink RX4 96 yX5_valueOf ∈ zg := zg_of (List.mem_of_getElem? (i := 808) (by decide +kernel)) (by decide +kernel)
theorem kw_809 : Cond.instanceMethod yX5_valueOf ∈ zg := zg_of (List.mem_of_getElem? (i := 809) (by decide +kernel)) (by decide +kernel)
theorem kw_810 : Cond.selects RX5 yX5_valueOf yX5_valueOf ∈ zg := zg_of (List.mem_of_getElem? (i := 810) (by decide +kernel)) (by decide +kernel)
theorem mv_X4_96 : zMV RX4 96 yX5_valueOf cX5_valueOf 5 (some .int) 1 := ⟨⟨kw_808, kw_809, kw_810, kw_89, kw_811⟩, ⟨by decide, by decide, by decide +kernel⟩, by decide⟩
theorem kw_233 : Cond.fieldLink RX5 21 "HalfAJoke$Law" "size" "I" ∈ zg := zg_of (List.mem_of_getElem? (i := 233) (by decide +kernel)) (by decide +kernel)
theorem ff_X5_21_16 : zFc RX5 21 16 3 none := ⟨_, _, _, tyX5, sh_16, rfl, by decide, iz_X5, kw_233, rfl, tyX5_ok, nmX5⟩
theorem kw_230 : Cond.fieldLink RX5 11 "HalfAJoke$Law" "steps" "[I" ∈ zg := zg_of (List.mem_of_getElem? (i := 230) (by decide +kernel)) (by decide +kernel)
theorem ff_X5_11_16 : zFc RX5 11 16 0 (some (17, false)) := ⟨_, _, _, tyX5, sh_16, rfl, by decide, iz_X5, kw_230, rfl, tyX5_ok, nmX5⟩
theorem kw_232 : Cond.fieldLink RX5 18 "HalfAJoke$Law" "stack" "[I" ∈ zg := zg_of (List.mem_of_getElem? (i := 232) (by decide +kernel)) (by decide +kernel)
theorem ff_X5_18_16 : zFc RX5 18 16 2 (some (19, false)) := ⟨_, _, _, tyX5, sh_16, rfl, by decide, iz_X5, kw_232, rfl, tyX5_ok, nmX5⟩
theorem kw_816 : Cond.code yX5_joined cX5_joined 3 (some .int) ∈ zg := zg_of (List.mem_of_getElem? (i := 816) (by decide +kernel)) (by decide +kernel)
theorem kw_814 : Cond.methodLink RX5 43 yX5_joined ∈ zg := zg_of (List.mem_of_getElem? (i := 814) (by decide +kernel)) (by decide +kernel)
theorem kw_815 : Cond.static yX5_joined ∈ zg := zg_of (List.mem_of_getElem? (i := 815) (by decide +kernel)) (by decide +kernel)
theorem ms_X5_43 : zMS RX5 43 yX5_joined cX5_joined 3 (some .int) 3 := ⟨⟨kw_814, kw_815, kw_89, kw_816⟩, ⟨by decide, by decide, by decide +kernel⟩, by decide⟩
theorem kw_812 : Cond.methodLink RX5 34 Lib.Math.min.name ∈ zg := zg_of (List.mem_of_getElem? (i := 812) (by decide +kernel)) (by decide +kernel)
theorem kw_813 : Cond.methodLink RX5 40 Lib.Math.max.name ∈ zg := zg_of (List.mem_of_getElem? (i := 813) (by decide +kernel)) (by decide +kernel)
theorem kw_231 : Cond.fieldLink RX5 15 "HalfAJoke$Law" "numbers" "[I" ∈ zg := zg_of (List.mem_of_getElem? (i := 231) (by decide +kernel)) (by decide +kernel)
theorem ff_X5_15_16 : zFc RX5 15 16 1 (some (18, false)) := ⟨_, _, _, tyX5, sh_16, rfl, by decide, iz_X5, kw_231, rfl, tyX5_ok, nmX5⟩
theorem kw_432 : Cond.fieldLink RX11 35 "HalfAJoke" "evening" "LHalfAJoke$Evening;" ∈ zg := zg_of (List.mem_of_getElem? (i := 432) (by decide +kernel)) (by decide +kernel)
theorem ff_X11_35_0 : zFc RX11 35 0 3 (some (38, false)) := ⟨_, _, _, tyX11, sh_0, rfl, by decide, iz_X11, kw_432, rfl, tyX11_ok, nmX11⟩
theorem kw_92 : Cond.initialized RX1 ∈ zg := zg_of (List.mem_of_getElem? (i := 92) (by decide +kernel)) (by decide +kernel)
theorem kw_773 : Cond.code yX1_begin cX1_begin 2 none ∈ zg := zg_of (List.mem_of_getElem? (i := 773) (by decide +kernel)) (by decide +kernel)
theorem kw_770 : Cond.methodLink RX11 197 yX1_begin ∈ zg := zg_of (List.mem_of_getElem? (i := 770) (by decide +kernel)) (by decide +kernel)
theorem kw_771 : Cond.instanceMethod yX1_begin ∈ zg := zg_of (List.mem_of_getElem? (i := 771) (by decide +kernel)) (by decide +kernel)
theorem kw_772 : Cond.selects RX1 yX1_begin yX1_begin ∈ zg := zg_of (List.mem_of_getElem? (i := 772) (by decide +kernel)) (by decide +kernel)
theorem mv_X11_197 : zMV RX11 197 yX1_begin cX1_begin 2 none 0 := ⟨⟨kw_770, kw_771, kw_772, kw_92, kw_773⟩, ⟨by decide, by decide, by decide +kernel⟩, by decide⟩
theorem kw_377 : Cond.fieldLink RX1 27 "HalfAJoke$Evening" "house" "LHalfAJoke$House;" ∈ zg := zg_of (List.mem_of_getElem? (i := 377) (by decide +kernel)) (by decide +kernel)
theorem iz_X1 : ∀ w ∈ u_ws RX1 TX1 14, w ∈ zg := by decide +kernel
theorem ff_X1_27_38 : zFc RX1 27 38 0 (some (1, false)) := ⟨_, _, _, tyX1, sh_38, rfl, by decide, iz_X1, kw_377, rfl, tyX1_ok, nmX1⟩
theorem kw_251 : Cond.fieldLink RX1 31 "HalfAJoke$House" "halves" "LHalfAJoke$Halves;" ∈ zg := zg_of (List.mem_of_getElem? (i := 251) (by decide +kernel)) (by decide +kernel)
theorem ff_X1_31_1 : zFc RX1 31 1 0 (some (2, false)) := ⟨_, _, _, tyX4, sh_1, rfl, by decide, iz_X4, kw_251, rfl, tyX4_ok, nmX4⟩
theorem kw_777 : Cond.code yX3_setOn cX3_setOn 4 (some .int) ∈ zg := zg_of (List.mem_of_getElem? (i := 777) (by decide +kernel)) (by decide +kernel)
theorem kw_774 : Cond.methodLink RX1 37 yX3_setOn ∈ zg := zg_of (List.mem_of_getElem? (i := 774) (by decide +kernel)) (by decide +kernel)
theorem kw_775 : Cond.instanceMethod yX3_setOn ∈ zg := zg_of (List.mem_of_getElem? (i := 775) (by decide +kernel)) (by decide +kernel)
theorem kw_776 : Cond.selects RX3 yX3_setOn yX3_setOn ∈ zg := zg_of (List.mem_of_getElem? (i := 776) (by decide +kernel)) (by decide +kernel)
theorem mv_X1_37 : zMV RX1 37 yX3_setOn cX3_setOn 4 (some .int) 1 := ⟨⟨kw_774, kw_775, kw_776, kw_86, kw_777⟩, ⟨by decide, by decide, by decide +kernel⟩, by decide⟩
theorem kw_385 : Cond.fieldLink RX1 43 "HalfAJoke$Evening" "fronts" "I" ∈ zg := zg_of (List.mem_of_getElem? (i := 385) (by decide +kernel)) (by decide +kernel)
theorem ff_X1_43_38 : zFc RX1 43 38 7 none := ⟨_, _, _, tyX1, sh_38, rfl, by decide, iz_X1, kw_385, rfl, tyX1_ok, nmX1⟩
theorem fw_38_7 : ∀ q : vw_C, ∀ ci fl, zsh 38 = .inr (ci, fl) → zcl[ci]? = some q → (q.2.1 7).2.2.2 = false ∧ (q.2.1 7).2.2.1 = "I" := zfin sh_38 rfl ⟨rfl, rfl⟩
theorem kw_386 : Cond.fieldLink RX1 47 "HalfAJoke$Evening" "ends" "I" ∈ zg := zg_of (List.mem_of_getElem? (i := 386) (by decide +kernel)) (by decide +kernel)
theorem ff_X1_47_38 : zFc RX1 47 38 8 none := ⟨_, _, _, tyX1, sh_38, rfl, by decide, iz_X1, kw_386, rfl, tyX1_ok, nmX1⟩
theorem fw_38_8 : ∀ q : vw_C, ∀ ci fl, zsh 38 = .inr (ci, fl) → zcl[ci]? = some q → (q.2.1 8).2.2.2 = false ∧ (q.2.1 8).2.2.1 = "I" := zfin sh_38 rfl ⟨rfl, rfl⟩
theorem kw_381 : Cond.fieldLink RX1 18 "HalfAJoke$Evening" "can" "[I" ∈ zg := zg_of (List.mem_of_getElem? (i := 381) (by decide +kernel)) (by decide +kernel)
theorem ff_X1_18_38 : zFc RX1 18 38 3 (some (41, false)) := ⟨_, _, _, tyX1, sh_38, rfl, by decide, iz_X1, kw_381, rfl, tyX1_ok, nmX1⟩
theorem kw_781 : Cond.code yX1_tellable cX1_tellable 6 (some .int) ∈ zg := zg_of (List.mem_of_getElem? (i := 781) (by decide +kernel)) (by decide +kernel)
theorem kw_778 : Cond.methodLink RX1 50 yX1_tellable ∈ zg := zg_of (List.mem_of_getElem? (i := 778) (by decide +kernel)) (by decide +kernel)
theorem kw_780 : Cond.instanceMethod yX1_tellable ∈ zg := zg_of (List.mem_of_getElem? (i := 780) (by decide +kernel)) (by decide +kernel)
theorem kw_15 : Cond.selects RX1 yX1_tellable yX1_tellable ∈ zg := zg_of (List.mem_of_getElem? (i := 15) (by decide +kernel)) (by decide +kernel)
theorem mv_X1_50 : zMV RX1 50 yX1_tellable cX1_tellable 6 (some .int) 2 := ⟨⟨kw_778, kw_780, kw_15, kw_92, kw_781⟩, ⟨by decide, by decide, by decide +kernel⟩, by decide⟩
theorem kw_138 : Cond.fieldLink RX1 54 "HalfAJoke$Halves" "count" "I" ∈ zg := zg_of (List.mem_of_getElem? (i := 138) (by decide +kernel)) (by decide +kernel)
theorem ff_X1_54_2 : zFc RX1 54 2 4 none := ⟨_, _, _, tyX3, sh_2, rfl, by decide, iz_X3, kw_138, rfl, tyX3_ok, nmX3⟩
theorem kw_782 : Cond.methodLink RX1 57 yX3_quartersOf ∈ zg := zg_of (List.mem_of_getElem? (i := 782) (by decide +kernel)) (by decide +kernel)
theorem mv_X1_57 : zMV RX1 57 yX3_quartersOf cX3_quartersOf 3 (some .int) 2 := ⟨⟨kw_782, kw_486, kw_487, kw_86, kw_488⟩, ⟨by decide, by decide, by decide +kernel⟩, by decide⟩
theorem kw_266 : Cond.fieldLink RX1 60 "HalfAJoke$House" "need" "I" ∈ zg := zg_of (List.mem_of_getElem? (i := 266) (by decide +kernel)) (by decide +kernel)
theorem ff_X1_60_1 : zFc RX1 60 1 6 none := ⟨_, _, _, tyX4, sh_1, rfl, by decide, iz_X4, kw_266, rfl, tyX4_ok, nmX4⟩
theorem kw_378 : Cond.fieldLink RX1 9 "HalfAJoke$Evening" "laughs" "[I" ∈ zg := zg_of (List.mem_of_getElem? (i := 378) (by decide +kernel)) (by decide +kernel)
theorem ff_X1_9_38 : zFc RX1 9 38 1 (some (39, false)) := ⟨_, _, _, tyX1, sh_38, rfl, by decide, iz_X1, kw_378, rfl, tyX1_ok, nmX1⟩
theorem kw_786 : Cond.code yX9_beside cX9_beside 2 (some .int) ∈ zg := zg_of (List.mem_of_getElem? (i := 786) (by decide +kernel)) (by decide +kernel)
theorem kw_783 : Cond.methodLink RX11 203 yX9_beside ∈ zg := zg_of (List.mem_of_getElem? (i := 783) (by decide +kernel)) (by decide +kernel)
theorem kw_784 : Cond.instanceMethod yX9_beside ∈ zg := zg_of (List.mem_of_getElem? (i := 784) (by decide +kernel)) (by decide +kernel)
theorem kw_785 : Cond.selects RX9 yX9_beside yX9_beside ∈ zg := zg_of (List.mem_of_getElem? (i := 785) (by decide +kernel)) (by decide +kernel)
theorem mv_X11_203 : zMV RX11 203 yX9_beside cX9_beside 2 (some .int) 1 := ⟨⟨kw_783, kw_784, kw_785, kw_87, kw_786⟩, ⟨by decide, by decide, by decide +kernel⟩, by decide⟩
theorem kw_790 : Cond.code yX1_findBetween cX1_findBetween 6 (some .boolean) ∈ zg := zg_of (List.mem_of_getElem? (i := 790) (by decide +kernel)) (by decide +kernel)
theorem kw_787 : Cond.methodLink RX11 206 yX1_findBetween ∈ zg := zg_of (List.mem_of_getElem? (i := 787) (by decide +kernel)) (by decide +kernel)
theorem kw_788 : Cond.instanceMethod yX1_findBetween ∈ zg := zg_of (List.mem_of_getElem? (i := 788) (by decide +kernel)) (by decide +kernel)
theorem kw_789 : Cond.selects RX1 yX1_findBetween yX1_findBetween ∈ zg := zg_of (List.mem_of_getElem? (i := 789) (by decide +kernel)) (by decide +kernel)
theorem mv_X11_206 : zMV RX11 206 yX1_findBetween cX1_findBetween 6 (some .boolean) 2 := ⟨⟨kw_787, kw_788, kw_789, kw_92, kw_790⟩, ⟨by decide, by decide, by decide +kernel⟩, by decide⟩
theorem kw_254 : Cond.fieldLink RX1 63 "HalfAJoke$House" "table" "LHalfAJoke$Table;" ∈ zg := zg_of (List.mem_of_getElem? (i := 254) (by decide +kernel)) (by decide +kernel)
theorem ff_X1_63_1 : zFc RX1 63 1 1 (some (7, false)) := ⟨_, _, _, tyX4, sh_1, rfl, by decide, iz_X4, kw_254, rfl, tyX4_ok, nmX4⟩
theorem kw_164 : Cond.fieldLink RX1 67 "HalfAJoke$Table" "family" "[I" ∈ zg := zg_of (List.mem_of_getElem? (i := 164) (by decide +kernel)) (by decide +kernel)
theorem ff_X1_67_7 : zFc RX1 67 7 0 (some (8, false)) := ⟨_, _, _, tyX9, sh_7, rfl, by decide, iz_X9, kw_164, rfl, tyX9_ok, nmX9⟩
theorem kw_794 : Cond.code yX1_findOf cX1_findOf 8 (some .boolean) ∈ zg := zg_of (List.mem_of_getElem? (i := 794) (by decide +kernel)) (by decide +kernel)
theorem kw_791 : Cond.methodLink RX1 72 yX1_findOf ∈ zg := zg_of (List.mem_of_getElem? (i := 791) (by decide +kernel)) (by decide +kernel)
theorem kw_792 : Cond.instanceMethod yX1_findOf ∈ zg := zg_of (List.mem_of_getElem? (i := 792) (by decide +kernel)) (by decide +kernel)
theorem kw_793 : Cond.selects RX1 yX1_findOf yX1_findOf ∈ zg := zg_of (List.mem_of_getElem? (i := 793) (by decide +kernel)) (by decide +kernel)
theorem mv_X1_72 : zMV RX1 72 yX1_findOf cX1_findOf 8 (some .boolean) 2 := ⟨⟨kw_791, kw_792, kw_793, kw_92, kw_794⟩, ⟨by decide, by decide, by decide +kernel⟩, by decide⟩
theorem kw_393 : Cond.fieldLink RX1 91 "HalfAJoke$Evening" "laugh" "I" ∈ zg := zg_of (List.mem_of_getElem? (i := 393) (by decide +kernel)) (by decide +kernel)
theorem ff_X1_91_38 : zFc RX1 91 38 11 none := ⟨_, _, _, tyX1, sh_38, rfl, by decide, iz_X1, kw_393, rfl, tyX1_ok, nmX1⟩
theorem fw_38_11 : ∀ q : vw_C, ∀ ci fl, zsh 38 = .inr (ci, fl) → zcl[ci]? = some q → (q.2.1 11).2.2.2 = false ∧ (q.2.1 11).2.2.1 = "I" := zfin sh_38 rfl ⟨rfl, rfl⟩
theorem kw_262 : Cond.fieldLink RX1 94 "HalfAJoke$House" "feuds" "[I" ∈ zg := zg_of (List.mem_of_getElem? (i := 262) (by decide +kernel)) (by decide +kernel)
theorem ff_X1_94_1 : zFc RX1 94 1 4 (some (20, false)) := ⟨_, _, _, tyX4, sh_1, rfl, by decide, iz_X4, kw_262, rfl, tyX4_ok, nmX4⟩
theorem mn_X1_79 : zMN RX1 79 yX11_isIn cX11_isIn 2 (some .boolean) 2 := ⟨⟨(by decide +kernel), kw_498, kw_84, kw_499⟩, ⟨by decide, by decide, by decide +kernel⟩, by decide⟩
theorem kw_799 : Cond.code yX1_partnersOf cX1_partnersOf 4 (some .int) ∈ zg := zg_of (List.mem_of_getElem? (i := 799) (by decide +kernel)) (by decide +kernel)
theorem kw_796 : Cond.methodLink RX1 97 yX1_partnersOf ∈ zg := zg_of (List.mem_of_getElem? (i := 796) (by decide +kernel)) (by decide +kernel)
theorem kw_798 : Cond.instanceMethod yX1_partnersOf ∈ zg := zg_of (List.mem_of_getElem? (i := 798) (by decide +kernel)) (by decide +kernel)
theorem kw_16 : Cond.selects RX1 yX1_partnersOf yX1_partnersOf ∈ zg := zg_of (List.mem_of_getElem? (i := 16) (by decide +kernel)) (by decide +kernel)
theorem mv_X1_97 : zMV RX1 97 yX1_partnersOf cX1_partnersOf 4 (some .int) 3 := ⟨⟨kw_796, kw_798, kw_16, kw_92, kw_799⟩, ⟨by decide, by decide, by decide +kernel⟩, by decide⟩
theorem mn_X1_101 : zMN RX1 101 yX11_pairOf cX11_pairOf 2 (some .int) 2 := ⟨⟨(by decide +kernel), kw_801, kw_84, kw_802⟩, ⟨by decide, by decide, by decide +kernel⟩, by decide⟩
theorem kw_388 : Cond.fieldLink RX1 76 "HalfAJoke$Evening" "front" "I" ∈ zg := zg_of (List.mem_of_getElem? (i := 388) (by decide +kernel)) (by decide +kernel)
theorem ff_X1_76_38 : zFc RX1 76 38 9 none := ⟨_, _, _, tyX1, sh_38, rfl, by decide, iz_X1, kw_388, rfl, tyX1_ok, nmX1⟩
theorem fw_38_9 : ∀ q : vw_C, ∀ ci fl, zsh 38 = .inr (ci, fl) → zcl[ci]? = some q → (q.2.1 9).2.2.2 = false ∧ (q.2.1 9).2.2.1 = "I" := zfin sh_38 rfl ⟨rfl, rfl⟩
theorem kw_391 : Cond.fieldLink RX1 82 "HalfAJoke$Evening" "end" "I" ∈ zg := zg_of (List.mem_of_getElem? (i := 391) (by decide +kernel)) (by decide +kernel)
theorem ff_X1_82_38 : zFc RX1 82 38 10 none := ⟨_, _, _, tyX1, sh_38, rfl, by decide, iz_X1, kw_391, rfl, tyX1_ok, nmX1⟩
theorem fw_38_10 : ∀ q : vw_C, ∀ ci fl, zsh 38 = .inr (ci, fl) → zcl[ci]? = some q → (q.2.1 10).2.2.2 = false ∧ (q.2.1 10).2.2.1 = "I" := zfin sh_38 rfl ⟨rfl, rfl⟩
theorem kw_380 : Cond.fieldLink RX1 15 "HalfAJoke$Evening" "more" "[I" ∈ zg := zg_of (List.mem_of_getElem? (i := 380) (by decide +kernel)) (by decide +kernel)
theorem ff_X1_15_38 : zFc RX1 15 38 2 (some (40, false)) := ⟨_, _, _, tyX1, sh_38, rfl, by decide, iz_X1, kw_380, rfl, tyX1_ok, nmX1⟩
theorem kw_803 : Cond.methodLink RX1 104 yX4_laughOf ∈ zg := zg_of (List.mem_of_getElem? (i := 803) (by decide +kernel)) (by decide +kernel)
theorem mv_X1_104 : zMV RX1 104 yX4_laughOf cX4_laughOf 7 (some .int) 3 := ⟨⟨kw_803, kw_804, kw_805, kw_85, kw_806⟩, ⟨by decide, by decide, by decide +kernel⟩, by decide⟩
theorem kw_396 : Cond.fieldLink RX1 85 "HalfAJoke$Evening" "opener" "I" ∈ zg := zg_of (List.mem_of_getElem? (i := 396) (by decide +kernel)) (by decide +kernel)
theorem ff_X1_85_38 : zFc RX1 85 38 12 none := ⟨_, _, _, tyX1, sh_38, rfl, by decide, iz_X1, kw_396, rfl, tyX1_ok, nmX1⟩
theorem fw_38_12 : ∀ q : vw_C, ∀ ci fl, zsh 38 = .inr (ci, fl) → zcl[ci]? = some q → (q.2.1 12).2.2.2 = false ∧ (q.2.1 12).2.2.1 = "I" := zfin sh_38 rfl ⟨rfl, rfl⟩
theorem kw_399 : Cond.fieldLink RX1 88 "HalfAJoke$Evening" "closer" "I" ∈ zg := zg_of (List.mem_of_getElem? (i := 399) (by decide +kernel)) (by decide +kernel)
theorem ff_X1_88_38 : zFc RX1 88 38 13 none := ⟨_, _, _, tyX1, sh_38, rfl, by decide, iz_X1, kw_399, rfl, tyX1_ok, nmX1⟩
theorem fw_38_13 : ∀ q : vw_C, ∀ ci fl, zsh 38 = .inr (ci, fl) → zcl[ci]? = some q → (q.2.1 13).2.2.2 = false ∧ (q.2.1 13).2.2.1 = "I" := zfin sh_38 rfl ⟨rfl, rfl⟩
theorem kw_389 : Cond.fieldLink RX11 209 "HalfAJoke$Evening" "front" "I" ∈ zg := zg_of (List.mem_of_getElem? (i := 389) (by decide +kernel)) (by decide +kernel)
theorem ff_X11_209_38 : zFc RX11 209 38 9 none := ⟨_, _, _, tyX1, sh_38, rfl, by decide, iz_X1, kw_389, rfl, tyX1_ok, nmX1⟩
theorem kw_392 : Cond.fieldLink RX11 212 "HalfAJoke$Evening" "end" "I" ∈ zg := zg_of (List.mem_of_getElem? (i := 392) (by decide +kernel)) (by decide +kernel)
theorem ff_X11_212_38 : zFc RX11 212 38 10 none := ⟨_, _, _, tyX1, sh_38, rfl, by decide, iz_X1, kw_392, rfl, tyX1_ok, nmX1⟩
theorem kw_397 : Cond.fieldLink RX11 215 "HalfAJoke$Evening" "opener" "I" ∈ zg := zg_of (List.mem_of_getElem? (i := 397) (by decide +kernel)) (by decide +kernel)
theorem ff_X11_215_38 : zFc RX11 215 38 12 none := ⟨_, _, _, tyX1, sh_38, rfl, by decide, iz_X1, kw_397, rfl, tyX1_ok, nmX1⟩
theorem kw_394 : Cond.fieldLink RX11 218 "HalfAJoke$Evening" "laugh" "I" ∈ zg := zg_of (List.mem_of_getElem? (i := 394) (by decide +kernel)) (by decide +kernel)
theorem ff_X11_218_38 : zFc RX11 218 38 11 none := ⟨_, _, _, tyX1, sh_38, rfl, by decide, iz_X1, kw_394, rfl, tyX1_ok, nmX1⟩
theorem kw_881 : Cond.code yX1_merryOf cX1_merryOf 5 (some .int) ∈ zg := zg_of (List.mem_of_getElem? (i := 881) (by decide +kernel)) (by decide +kernel)
theorem kw_878 : Cond.methodLink RX11 228 yX1_merryOf ∈ zg := zg_of (List.mem_of_getElem? (i := 878) (by decide +kernel)) (by decide +kernel)
theorem kw_879 : Cond.instanceMethod yX1_merryOf ∈ zg := zg_of (List.mem_of_getElem? (i := 879) (by decide +kernel)) (by decide +kernel)
theorem kw_880 : Cond.selects RX1 yX1_merryOf yX1_merryOf ∈ zg := zg_of (List.mem_of_getElem? (i := 880) (by decide +kernel)) (by decide +kernel)
theorem mv_X11_228 : zMV RX11 228 yX1_merryOf cX1_merryOf 5 (some .int) 2 := ⟨⟨kw_878, kw_879, kw_880, kw_92, kw_881⟩, ⟨by decide, by decide, by decide +kernel⟩, by decide⟩
theorem kw_889 : Cond.code yX1_untell cX1_untell 2 none ∈ zg := zg_of (List.mem_of_getElem? (i := 889) (by decide +kernel)) (by decide +kernel)
theorem kw_886 : Cond.methodLink RX1 113 yX1_untell ∈ zg := zg_of (List.mem_of_getElem? (i := 886) (by decide +kernel)) (by decide +kernel)
theorem kw_887 : Cond.instanceMethod yX1_untell ∈ zg := zg_of (List.mem_of_getElem? (i := 887) (by decide +kernel)) (by decide +kernel)
theorem kw_888 : Cond.selects RX1 yX1_untell yX1_untell ∈ zg := zg_of (List.mem_of_getElem? (i := 888) (by decide +kernel)) (by decide +kernel)
theorem mv_X1_113 : zMV RX1 113 yX1_untell cX1_untell 2 none 0 := ⟨⟨kw_886, kw_887, kw_888, kw_92, kw_889⟩, ⟨by decide, by decide, by decide +kernel⟩, by decide⟩
theorem kw_384 : Cond.fieldLink RX1 107 "HalfAJoke$Evening" "trail" "I" ∈ zg := zg_of (List.mem_of_getElem? (i := 384) (by decide +kernel)) (by decide +kernel)
theorem ff_X1_107_38 : zFc RX1 107 38 6 none := ⟨_, _, _, tyX1, sh_38, rfl, by decide, iz_X1, kw_384, rfl, tyX1_ok, nmX1⟩
theorem fw_38_6 : ∀ q : vw_C, ∀ ci fl, zsh 38 = .inr (ci, fl) → zcl[ci]? = some q → (q.2.1 6).2.2.2 = false ∧ (q.2.1 6).2.2.1 = "I" := zfin sh_38 rfl ⟨rfl, rfl⟩
theorem kw_382 : Cond.fieldLink RX1 21 "HalfAJoke$Evening" "trailPair" "[I" ∈ zg := zg_of (List.mem_of_getElem? (i := 382) (by decide +kernel)) (by decide +kernel)
theorem ff_X1_21_38 : zFc RX1 21 38 4 (some (42, false)) := ⟨_, _, _, tyX1, sh_38, rfl, by decide, iz_X1, kw_382, rfl, tyX1_ok, nmX1⟩
theorem kw_383 : Cond.fieldLink RX1 24 "HalfAJoke$Evening" "trailLaugh" "[I" ∈ zg := zg_of (List.mem_of_getElem? (i := 383) (by decide +kernel)) (by decide +kernel)
theorem ff_X1_24_38 : zFc RX1 24 38 5 (some (43, false)) := ⟨_, _, _, tyX1, sh_38, rfl, by decide, iz_X1, kw_383, rfl, tyX1_ok, nmX1⟩
theorem kw_885 : Cond.code yX1_tellBetween cX1_tellBetween 4 (some .int) ∈ zg := zg_of (List.mem_of_getElem? (i := 885) (by decide +kernel)) (by decide +kernel)
theorem kw_882 : Cond.methodLink RX1 110 yX1_tellBetween ∈ zg := zg_of (List.mem_of_getElem? (i := 882) (by decide +kernel)) (by decide +kernel)
theorem kw_883 : Cond.instanceMethod yX1_tellBetween ∈ zg := zg_of (List.mem_of_getElem? (i := 883) (by decide +kernel)) (by decide +kernel)
theorem kw_884 : Cond.selects RX1 yX1_tellBetween yX1_tellBetween ∈ zg := zg_of (List.mem_of_getElem? (i := 884) (by decide +kernel)) (by decide +kernel)
theorem mv_X1_110 : zMV RX1 110 yX1_tellBetween cX1_tellBetween 4 (some .int) 2 := ⟨⟨kw_882, kw_883, kw_884, kw_92, kw_885⟩, ⟨by decide, by decide, by decide +kernel⟩, by decide⟩
theorem kw_1028 : Cond.methodLink RX11 273 yX1_findOf ∈ zg := zg_of (List.mem_of_getElem? (i := 1028) (by decide +kernel)) (by decide +kernel)
theorem mv_X11_273 : zMV RX11 273 yX1_findOf cX1_findOf 8 (some .boolean) 2 := ⟨⟨kw_1028, kw_792, kw_793, kw_92, kw_794⟩, ⟨by decide, by decide, by decide +kernel⟩, by decide⟩
theorem kw_763 : Cond.code yX11_spendEvening cX11_spendEvening 4 (some .int) ∈ zg := zg_of (List.mem_of_getElem? (i := 763) (by decide +kernel)) (by decide +kernel)
theorem kw_760 : Cond.methodLink RX11 163 yX11_spendEvening ∈ zg := zg_of (List.mem_of_getElem? (i := 760) (by decide +kernel)) (by decide +kernel)
theorem kw_762 : Cond.instanceMethod yX11_spendEvening ∈ zg := zg_of (List.mem_of_getElem? (i := 762) (by decide +kernel)) (by decide +kernel)
theorem kw_14 : Cond.selects RX11 yX11_spendEvening yX11_spendEvening ∈ zg := zg_of (List.mem_of_getElem? (i := 14) (by decide +kernel)) (by decide +kernel)
theorem mv_X11_163 : zMV RX11 163 yX11_spendEvening cX11_spendEvening 4 (some .int) 0 := ⟨⟨kw_760, kw_762, kw_14, kw_84, kw_763⟩, ⟨by decide, by decide, by decide +kernel⟩, by decide⟩
theorem kw_767 : Cond.code yX6_keep cX6_keep 2 none ∈ zg := zg_of (List.mem_of_getElem? (i := 767) (by decide +kernel)) (by decide +kernel)
theorem kw_764 : Cond.methodLink RX11 319 yX6_keep ∈ zg := zg_of (List.mem_of_getElem? (i := 764) (by decide +kernel)) (by decide +kernel)
theorem kw_765 : Cond.instanceMethod yX6_keep ∈ zg := zg_of (List.mem_of_getElem? (i := 765) (by decide +kernel)) (by decide +kernel)
theorem kw_766 : Cond.selects RX6 yX6_keep yX6_keep ∈ zg := zg_of (List.mem_of_getElem? (i := 766) (by decide +kernel)) (by decide +kernel)
theorem mv_X11_319 : zMV RX11 319 yX6_keep cX6_keep 2 none 1 := ⟨⟨kw_764, kw_765, kw_766, kw_90, kw_767⟩, ⟨by decide, by decide, by decide +kernel⟩, by decide⟩
theorem kw_768 : Cond.methodLink RX6 37 Lib.Math.min.name ∈ zg := zg_of (List.mem_of_getElem? (i := 768) (by decide +kernel)) (by decide +kernel)
theorem kw_820 : Cond.code yX11_tellFound cX11_tellFound 7 (some .int) ∈ zg := zg_of (List.mem_of_getElem? (i := 820) (by decide +kernel)) (by decide +kernel)
theorem kw_817 : Cond.methodLink RX11 322 yX11_tellFound ∈ zg := zg_of (List.mem_of_getElem? (i := 817) (by decide +kernel)) (by decide +kernel)
theorem kw_819 : Cond.instanceMethod yX11_tellFound ∈ zg := zg_of (List.mem_of_getElem? (i := 819) (by decide +kernel)) (by decide +kernel)
theorem kw_17 : Cond.selects RX11 yX11_tellFound yX11_tellFound ∈ zg := zg_of (List.mem_of_getElem? (i := 17) (by decide +kernel)) (by decide +kernel)
theorem mv_X11_322 : zMV RX11 322 yX11_tellFound cX11_tellFound 7 (some .int) 0 := ⟨⟨kw_817, kw_819, kw_17, kw_84, kw_820⟩, ⟨by decide, by decide, by decide +kernel⟩, by decide⟩
theorem kw_198 : Cond.fieldLink RX11 325 "HalfAJoke$Book" "last" "[I" ∈ zg := zg_of (List.mem_of_getElem? (i := 198) (by decide +kernel)) (by decide +kernel)
theorem ff_X11_325_11 : zFc RX11 325 11 1 (some (13, false)) := ⟨_, _, _, tyX0, sh_11, rfl, by decide, iz_X0, kw_198, rfl, tyX0_ok, nmX0⟩
theorem kw_825 : Cond.code yX6_note cX6_note 4 none ∈ zg := zg_of (List.mem_of_getElem? (i := 825) (by decide +kernel)) (by decide +kernel)
theorem kw_822 : Cond.methodLink RX11 328 yX6_note ∈ zg := zg_of (List.mem_of_getElem? (i := 822) (by decide +kernel)) (by decide +kernel)
theorem kw_823 : Cond.instanceMethod yX6_note ∈ zg := zg_of (List.mem_of_getElem? (i := 823) (by decide +kernel)) (by decide +kernel)
theorem kw_824 : Cond.selects RX6 yX6_note yX6_note ∈ zg := zg_of (List.mem_of_getElem? (i := 824) (by decide +kernel)) (by decide +kernel)
theorem mv_X11_328 : zMV RX11 328 yX6_note cX6_note 4 none 2 := ⟨⟨kw_822, kw_823, kw_824, kw_90, kw_825⟩, ⟨by decide, by decide, by decide +kernel⟩, by decide⟩
theorem kw_379 : Cond.fieldLink RX11 331 "HalfAJoke$Evening" "laughs" "[I" ∈ zg := zg_of (List.mem_of_getElem? (i := 379) (by decide +kernel)) (by decide +kernel)
theorem ff_X11_331_38 : zFc RX11 331 38 1 (some (39, false)) := ⟨_, _, _, tyX1, sh_38, rfl, by decide, iz_X1, kw_379, rfl, tyX1_ok, nmX1⟩
theorem kw_88 : Cond.initialized RX0 ∈ zg := zg_of (List.mem_of_getElem? (i := 88) (by decide +kernel)) (by decide +kernel)
theorem kw_835 : Cond.code yX0_write cX0_write 4 none ∈ zg := zg_of (List.mem_of_getElem? (i := 835) (by decide +kernel)) (by decide +kernel)
theorem kw_832 : Cond.methodLink RX11 337 yX0_write ∈ zg := zg_of (List.mem_of_getElem? (i := 832) (by decide +kernel)) (by decide +kernel)
theorem kw_833 : Cond.instanceMethod yX0_write ∈ zg := zg_of (List.mem_of_getElem? (i := 833) (by decide +kernel)) (by decide +kernel)
theorem kw_834 : Cond.selects RX0 yX0_write yX0_write ∈ zg := zg_of (List.mem_of_getElem? (i := 834) (by decide +kernel)) (by decide +kernel)
theorem mv_X11_337 : zMV RX11 337 yX0_write cX0_write 4 none 2 := ⟨⟨kw_832, kw_833, kw_834, kw_88, kw_835⟩, ⟨by decide, by decide, by decide +kernel⟩, by decide⟩
theorem kw_204 : Cond.fieldLink RX0 30 "HalfAJoke$Book" "lines" "I" ∈ zg := zg_of (List.mem_of_getElem? (i := 204) (by decide +kernel)) (by decide +kernel)
theorem ff_X0_30_11 : zFc RX0 30 11 4 none := ⟨_, _, _, tyX0, sh_11, rfl, by decide, iz_X0, kw_204, rfl, tyX0_ok, nmX0⟩
theorem kw_202 : Cond.fieldLink RX0 21 "HalfAJoke$Book" "rows" "[I" ∈ zg := zg_of (List.mem_of_getElem? (i := 202) (by decide +kernel)) (by decide +kernel)
theorem ff_X0_21_11 : zFc RX0 21 11 3 (some (15, false)) := ⟨_, _, _, tyX0, sh_11, rfl, by decide, iz_X0, kw_202, rfl, tyX0_ok, nmX0⟩
theorem kw_387 : Cond.fieldLink RX0 37 "HalfAJoke$Evening" "front" "I" ∈ zg := zg_of (List.mem_of_getElem? (i := 387) (by decide +kernel)) (by decide +kernel)
theorem ff_X0_37_38 : zFc RX0 37 38 9 none := ⟨_, _, _, tyX1, sh_38, rfl, by decide, iz_X1, kw_387, rfl, tyX1_ok, nmX1⟩
theorem kw_390 : Cond.fieldLink RX0 42 "HalfAJoke$Evening" "end" "I" ∈ zg := zg_of (List.mem_of_getElem? (i := 390) (by decide +kernel)) (by decide +kernel)
theorem ff_X0_42_38 : zFc RX0 42 38 10 none := ⟨_, _, _, tyX1, sh_38, rfl, by decide, iz_X1, kw_390, rfl, tyX1_ok, nmX1⟩
theorem kw_395 : Cond.fieldLink RX0 45 "HalfAJoke$Evening" "opener" "I" ∈ zg := zg_of (List.mem_of_getElem? (i := 395) (by decide +kernel)) (by decide +kernel)
theorem ff_X0_45_38 : zFc RX0 45 38 12 none := ⟨_, _, _, tyX1, sh_38, rfl, by decide, iz_X1, kw_395, rfl, tyX1_ok, nmX1⟩
theorem kw_398 : Cond.fieldLink RX0 48 "HalfAJoke$Evening" "closer" "I" ∈ zg := zg_of (List.mem_of_getElem? (i := 398) (by decide +kernel)) (by decide +kernel)
theorem ff_X0_48_38 : zFc RX0 48 38 13 none := ⟨_, _, _, tyX1, sh_38, rfl, by decide, iz_X1, kw_398, rfl, tyX1_ok, nmX1⟩
theorem kw_207 : Cond.fieldLink RX0 34 "HalfAJoke$Book" "night" "I" ∈ zg := zg_of (List.mem_of_getElem? (i := 207) (by decide +kernel)) (by decide +kernel)
theorem ff_X0_34_11 : zFc RX0 34 11 5 none := ⟨_, _, _, tyX0, sh_11, rfl, by decide, iz_X0, kw_207, rfl, tyX0_ok, nmX0⟩
theorem kw_829 : Cond.code yX4_draw cX4_draw 2 (some .int) ∈ zg := zg_of (List.mem_of_getElem? (i := 829) (by decide +kernel)) (by decide +kernel)
theorem kw_826 : Cond.methodLink RX11 334 yX4_draw ∈ zg := zg_of (List.mem_of_getElem? (i := 826) (by decide +kernel)) (by decide +kernel)
theorem kw_827 : Cond.instanceMethod yX4_draw ∈ zg := zg_of (List.mem_of_getElem? (i := 827) (by decide +kernel)) (by decide +kernel)
theorem kw_828 : Cond.selects RX4 yX4_draw yX4_draw ∈ zg := zg_of (List.mem_of_getElem? (i := 828) (by decide +kernel)) (by decide +kernel)
theorem mv_X11_334 : zMV RX11 334 yX4_draw cX4_draw 2 (some .int) 1 := ⟨⟨kw_826, kw_827, kw_828, kw_85, kw_829⟩, ⟨by decide, by decide, by decide +kernel⟩, by decide⟩
theorem kw_830 : Cond.constant RX4 75 (1664525 : Int32) ∈ zg := zg_of (List.mem_of_getElem? (i := 830) (by decide +kernel)) (by decide +kernel)
theorem kw_271 : Cond.fieldLink RX4 72 "HalfAJoke$House" "draws" "I" ∈ zg := zg_of (List.mem_of_getElem? (i := 271) (by decide +kernel)) (by decide +kernel)
theorem ff_X4_72_1 : zFc RX4 72 1 8 none := ⟨_, _, _, tyX4, sh_1, rfl, by decide, iz_X4, kw_271, rfl, tyX4_ok, nmX4⟩
theorem kw_831 : Cond.constant RX4 76 (1013904223 : Int32) ∈ zg := zg_of (List.mem_of_getElem? (i := 831) (by decide +kernel)) (by decide +kernel)
section
theorem dX5_joined_0 : decode cX5_joined 0 = .ok (.iload_n 0, 1) := by decide +kernel
theorem dX5_joined_1 : decode cX5_joined 1 = .ok (.tableswitch 148 5 24 #[144, 140, 148, 148, 148, 148, 148, 148, 148, 148, 148, 95, 99, 103, 148, 148, 148, 107, 118, 129], 95) := by decide +kernel
theorem dX5_joined_96 : decode cX5_joined 96 = .ok (.iload_n 1, 1) := by decide +kernel
theorem dX5_joined_97 : decode cX5_joined 97 = .ok (.iload_n 2, 1) := by decide +kernel
theorem dX5_joined_98 : decode cX5_joined 98 = .ok (.iadd, 1) := by decide +kernel
theorem dX5_joined_99 : decode cX5_joined 99 = .ok (.ireturn, 1) := by decide +kernel
theorem dX5_joined_100 : decode cX5_joined 100 = .ok (.iload_n 1, 1) := by decide +kernel
theorem dX5_joined_101 : decode cX5_joined 101 = .ok (.iload_n 2, 1) := by decide +kernel
theorem dX5_joined_102 : decode cX5_joined 102 = .ok (.isub, 1) := by decide +kernel
theorem dX5_joined_103 : decode cX5_joined 103 = .ok (.ireturn, 1) := by decide +kernel
theorem dX5_joined_104 : decode cX5_joined 104 = .ok (.iload_n 1, 1) := by decide +kernel
theorem dX5_joined_105 : decode cX5_joined 105 = .ok (.iload_n 2, 1) := by decide +kernel
theorem dX5_joined_106 : decode cX5_joined 106 = .ok (.imul, 1) := by decide +kernel
theorem dX5_joined_107 : decode cX5_joined 107 = .ok (.ireturn, 1) := by decide +kernel
theorem dX5_joined_108 : decode cX5_joined 108 = .ok (.iload_n 1, 1) := by decide +kernel
theorem dX5_joined_109 : decode cX5_joined 109 = .ok (.iload_n 2, 1) := by decide +kernel
theorem dX5_joined_110 : decode cX5_joined 110 = .ok (.if_icmp .ge 7, 3) := by decide +kernel
theorem dX5_joined_113 : decode cX5_joined 113 = .ok (.iconst 1, 1) := by decide +kernel
theorem dX5_joined_114 : decode cX5_joined 114 = .ok (.goto 4, 3) := by decide +kernel
theorem dX5_joined_117 : decode cX5_joined 117 = .ok (.iconst 0, 1) := by decide +kernel
theorem dX5_joined_118 : decode cX5_joined 118 = .ok (.ireturn, 1) := by decide +kernel
theorem dX5_joined_119 : decode cX5_joined 119 = .ok (.iload_n 1, 1) := by decide +kernel
theorem dX5_joined_120 : decode cX5_joined 120 = .ok (.iload_n 2, 1) := by decide +kernel
theorem dX5_joined_121 : decode cX5_joined 121 = .ok (.if_icmp .ne 7, 3) := by decide +kernel
theorem dX5_joined_124 : decode cX5_joined 124 = .ok (.iconst 1, 1) := by decide +kernel
theorem dX5_joined_125 : decode cX5_joined 125 = .ok (.goto 4, 3) := by decide +kernel
theorem dX5_joined_128 : decode cX5_joined 128 = .ok (.iconst 0, 1) := by decide +kernel
theorem dX5_joined_129 : decode cX5_joined 129 = .ok (.ireturn, 1) := by decide +kernel
theorem dX5_joined_130 : decode cX5_joined 130 = .ok (.iload_n 1, 1) := by decide +kernel
theorem dX5_joined_131 : decode cX5_joined 131 = .ok (.iload_n 2, 1) := by decide +kernel
theorem dX5_joined_132 : decode cX5_joined 132 = .ok (.if_icmp .le 7, 3) := by decide +kernel
theorem dX5_joined_135 : decode cX5_joined 135 = .ok (.iconst 1, 1) := by decide +kernel
theorem dX5_joined_136 : decode cX5_joined 136 = .ok (.goto 4, 3) := by decide +kernel
theorem dX5_joined_139 : decode cX5_joined 139 = .ok (.iconst 0, 1) := by decide +kernel
theorem dX5_joined_140 : decode cX5_joined 140 = .ok (.ireturn, 1) := by decide +kernel
theorem dX5_joined_141 : decode cX5_joined 141 = .ok (.iload_n 1, 1) := by decide +kernel
theorem dX5_joined_142 : decode cX5_joined 142 = .ok (.iload_n 2, 1) := by decide +kernel
theorem dX5_joined_143 : decode cX5_joined 143 = .ok (.iand, 1) := by decide +kernel
theorem dX5_joined_144 : decode cX5_joined 144 = .ok (.ireturn, 1) := by decide +kernel
theorem dX5_joined_145 : decode cX5_joined 145 = .ok (.iload_n 1, 1) := by decide +kernel
theorem dX5_joined_146 : decode cX5_joined 146 = .ok (.iload_n 2, 1) := by decide +kernel
theorem dX5_joined_147 : decode cX5_joined 147 = .ok (.ior, 1) := by decide +kernel
theorem dX5_joined_148 : decode cX5_joined 148 = .ok (.ireturn, 1) := by decide +kernel
theorem dX5_joined_149 : decode cX5_joined 149 = .ok (.iconst 0, 1) := by decide +kernel
theorem dX5_joined_150 : decode cX5_joined 150 = .ok (.ireturn, 1) := by decide +kernel
abbrev nd_X5_joined : List Nat := []
abbrev ld_X5_joined : List (Nat × Nat) := []
def f_X5_joined_149  (h : zH) : zR := (some ((0 : Int32), h))
def f_X5_joined  (x0 : Int32) (x1 : Int32) (x2 : Int32) (h : zH) : zR := (if x0 = (5 : Int32) then (some ((x1 ||| x2), h)) else (if x0 = (6 : Int32) then (some ((x1 &&& x2), h)) else (if x0 = (7 : Int32) then (f_X5_joined_149   h) else (if x0 = (8 : Int32) then (f_X5_joined_149   h) else (if x0 = (9 : Int32) then (f_X5_joined_149   h) else (if x0 = (10 : Int32) then (f_X5_joined_149   h) else (if x0 = (11 : Int32) then (f_X5_joined_149   h) else (if x0 = (12 : Int32) then (f_X5_joined_149   h) else (if x0 = (13 : Int32) then (f_X5_joined_149   h) else (if x0 = (14 : Int32) then (f_X5_joined_149   h) else (if x0 = (15 : Int32) then (f_X5_joined_149   h) else (if x0 = (16 : Int32) then (some ((x1 + x2), h)) else (if x0 = (17 : Int32) then (some ((x1 - x2), h)) else (if x0 = (18 : Int32) then (some ((x1 * x2), h)) else (if x0 = (19 : Int32) then (f_X5_joined_149   h) else (if x0 = (20 : Int32) then (f_X5_joined_149   h) else (if x0 = (21 : Int32) then (f_X5_joined_149   h) else (if x0 = (22 : Int32) then (if x2 ≤ x1 then (some ((0 : Int32), h)) else (some ((1 : Int32), h))) else (if x0 = (23 : Int32) then (if x1 = x2 then (some ((1 : Int32), h)) else (some ((0 : Int32), h))) else (if x0 = (24 : Int32) then (if x1 ≤ x2 then (some ((0 : Int32), h)) else (some ((1 : Int32), h))) else (f_X5_joined_149   h)))))))))))))))))))))
variable {p : Program} {l : Launch} {e : Env} {s : State} {m : MethodId} {args : Array Value} {below : List Frame} {meth : Method} {c : Code} {G : zG} {q : Int32 × zH}
set_option maxHeartbeats 4000000 in
set_option maxRecDepth 100000 in
theorem w_X5_joined_149  (C : zC G p s m args meth c cX5_joined 3 RX5 (some .int)) (hm : ∀ c ∈ nd_X5_joined, c ∈ znm G) (hk : ∀ q ∈ ld_X5_joined, zlk G q.1 q.2 = true)  : ∀ (ls : Array Slot) (H : Heap) (locs : List Loc) (h : zH), lv_has ls 3 [] → zS G h s.heap H locs → f_X5_joined_149  h = some q → W p l e (zrm (2)) s m args below meth c H locs 0 0 (MQ below (zQI G q.2 q.1) args s 0 0 (zA G)) (F0 m 149 ls []) := by
  intro ls H locs h hl hS hf
  unfold f_X5_joined_149 at hf
  refine lv_iconst (v := (0 : Int32)) C.1 C.2.1 dX5_joined_149 rfl ?_
  exact zretI C hS hf dX5_joined_150
set_option maxHeartbeats 4000000 in
set_option maxRecDepth 100000 in
theorem c_X5_joined (l : Launch) (G : zG) (h : zH) (x0 : Int32) (x1 : Int32) (x2 : Int32) (q : Int32 × zH) (hm : ∀ c ∈ nd_X5_joined, c ∈ znm G) (hk : ∀ q ∈ ld_X5_joined, zlk G q.1 q.2 = true) (hf : f_X5_joined x0 x1 x2 h = some q) : zCtI l yX5_joined cX5_joined 3 (some .int) (2) [.int x0, .int x1, .int x2] G h q.2 q.1 := by
  refine zMetI (by decide) (Nat.le_of_ble_eq_true rfl) ?_
  intro p e s m below meth c ls C hl hS
  have hl : lv_has ls 3 [(0, .int x0), (1, .int x1), (2, .int x2)] := hl
  have C : zC G p s m [.int x0, .int x1, .int x2].toArray meth c cX5_joined 3 RX5 (some .int) := C
  unfold f_X5_joined at hf
  refine lv_iload_n C.1 C.2.1 dX5_joined_0 rfl (lv_at hl 0 rfl) ?_
  by_cases hc5 : x0 = (5 : Int32)
  · have hf := zif_t hc5 hf
    refine lv_tableIn (off := 144) (tgt := 145) C.1 C.2.1 dX5_joined_1 (by rw [hc5]; decide) (by rw [hc5]; decide) (by rw [hc5]; rfl) (by decide) ?_
    refine lv_iload_n C.1 C.2.1 dX5_joined_145 rfl (lv_at hl 1 rfl) ?_
    refine lv_iload_n C.1 C.2.1 dX5_joined_146 rfl (lv_at hl 2 rfl) ?_
    refine lv_ior C.1 C.2.1 dX5_joined_147 ?_
    exact zretI C hS hf dX5_joined_148
  have hf := zif_f hc5 hf
  by_cases hc6 : x0 = (6 : Int32)
  · have hf := zif_t hc6 hf
    refine lv_tableIn (off := 140) (tgt := 141) C.1 C.2.1 dX5_joined_1 (by rw [hc6]; decide) (by rw [hc6]; decide) (by rw [hc6]; rfl) (by decide) ?_
    refine lv_iload_n C.1 C.2.1 dX5_joined_141 rfl (lv_at hl 1 rfl) ?_
    refine lv_iload_n C.1 C.2.1 dX5_joined_142 rfl (lv_at hl 2 rfl) ?_
    refine lv_iand C.1 C.2.1 dX5_joined_143 ?_
    exact zretI C hS hf dX5_joined_144
  have hf := zif_f hc6 hf
  by_cases hc7 : x0 = (7 : Int32)
  · have hf := zif_t hc7 hf
    refine lv_tableIn (off := 148) (tgt := 149) C.1 C.2.1 dX5_joined_1 (by rw [hc7]; decide) (by rw [hc7]; decide) (by rw [hc7]; rfl) (by decide) ?_
    exact w_X5_joined_149 C hm hk  _ _ _ _ (lv_sub hl [] rfl) hS hf
  have hf := zif_f hc7 hf
  by_cases hc8 : x0 = (8 : Int32)
  · have hf := zif_t hc8 hf
    refine lv_tableIn (off := 148) (tgt := 149) C.1 C.2.1 dX5_joined_1 (by rw [hc8]; decide) (by rw [hc8]; decide) (by rw [hc8]; rfl) (by decide) ?_
    exact w_X5_joined_149 C hm hk  _ _ _ _ (lv_sub hl [] rfl) hS hf
  have hf := zif_f hc8 hf
  by_cases hc9 : x0 = (9 : Int32)
  · have hf := zif_t hc9 hf
    refine lv_tableIn (off := 148) (tgt := 149) C.1 C.2.1 dX5_joined_1 (by rw [hc9]; decide) (by rw [hc9]; decide) (by rw [hc9]; rfl) (by decide) ?_
    exact w_X5_joined_149 C hm hk  _ _ _ _ (lv_sub hl [] rfl) hS hf
  have hf := zif_f hc9 hf
  by_cases hc10 : x0 = (10 : Int32)
  · have hf := zif_t hc10 hf
    refine lv_tableIn (off := 148) (tgt := 149) C.1 C.2.1 dX5_joined_1 (by rw [hc10]; decide) (by rw [hc10]; decide) (by rw [hc10]; rfl) (by decide) ?_
    exact w_X5_joined_149 C hm hk  _ _ _ _ (lv_sub hl [] rfl) hS hf
  have hf := zif_f hc10 hf
  by_cases hc11 : x0 = (11 : Int32)
  · have hf := zif_t hc11 hf
    refine lv_tableIn (off := 148) (tgt := 149) C.1 C.2.1 dX5_joined_1 (by rw [hc11]; decide) (by rw [hc11]; decide) (by rw [hc11]; rfl) (by decide) ?_
    exact w_X5_joined_149 C hm hk  _ _ _ _ (lv_sub hl [] rfl) hS hf
  have hf := zif_f hc11 hf
  by_cases hc12 : x0 = (12 : Int32)
  · have hf := zif_t hc12 hf
    refine lv_tableIn (off := 148) (tgt := 149) C.1 C.2.1 dX5_joined_1 (by rw [hc12]; decide) (by rw [hc12]; decide) (by rw [hc12]; rfl) (by decide) ?_
    exact w_X5_joined_149 C hm hk  _ _ _ _ (lv_sub hl [] rfl) hS hf
  have hf := zif_f hc12 hf
  by_cases hc13 : x0 = (13 : Int32)
  · have hf := zif_t hc13 hf
    refine lv_tableIn (off := 148) (tgt := 149) C.1 C.2.1 dX5_joined_1 (by rw [hc13]; decide) (by rw [hc13]; decide) (by rw [hc13]; rfl) (by decide) ?_
    exact w_X5_joined_149 C hm hk  _ _ _ _ (lv_sub hl [] rfl) hS hf
  have hf := zif_f hc13 hf
  by_cases hc14 : x0 = (14 : Int32)
  · have hf := zif_t hc14 hf
    refine lv_tableIn (off := 148) (tgt := 149) C.1 C.2.1 dX5_joined_1 (by rw [hc14]; decide) (by rw [hc14]; decide) (by rw [hc14]; rfl) (by decide) ?_
    exact w_X5_joined_149 C hm hk  _ _ _ _ (lv_sub hl [] rfl) hS hf
  have hf := zif_f hc14 hf
  by_cases hc15 : x0 = (15 : Int32)
  · have hf := zif_t hc15 hf
    refine lv_tableIn (off := 148) (tgt := 149) C.1 C.2.1 dX5_joined_1 (by rw [hc15]; decide) (by rw [hc15]; decide) (by rw [hc15]; rfl) (by decide) ?_
    exact w_X5_joined_149 C hm hk  _ _ _ _ (lv_sub hl [] rfl) hS hf
  have hf := zif_f hc15 hf
  by_cases hc16 : x0 = (16 : Int32)
  · have hf := zif_t hc16 hf
    refine lv_tableIn (off := 95) (tgt := 96) C.1 C.2.1 dX5_joined_1 (by rw [hc16]; decide) (by rw [hc16]; decide) (by rw [hc16]; rfl) (by decide) ?_
    refine lv_iload_n C.1 C.2.1 dX5_joined_96 rfl (lv_at hl 1 rfl) ?_
    refine lv_iload_n C.1 C.2.1 dX5_joined_97 rfl (lv_at hl 2 rfl) ?_
    refine lv_iadd C.1 C.2.1 dX5_joined_98 ?_
    exact zretI C hS hf dX5_joined_99
  have hf := zif_f hc16 hf
  by_cases hc17 : x0 = (17 : Int32)
  · have hf := zif_t hc17 hf
    refine lv_tableIn (off := 99) (tgt := 100) C.1 C.2.1 dX5_joined_1 (by rw [hc17]; decide) (by rw [hc17]; decide) (by rw [hc17]; rfl) (by decide) ?_
    refine lv_iload_n C.1 C.2.1 dX5_joined_100 rfl (lv_at hl 1 rfl) ?_
    refine lv_iload_n C.1 C.2.1 dX5_joined_101 rfl (lv_at hl 2 rfl) ?_
    refine lv_isub C.1 C.2.1 dX5_joined_102 ?_
    exact zretI C hS hf dX5_joined_103
  have hf := zif_f hc17 hf
  by_cases hc18 : x0 = (18 : Int32)
  · have hf := zif_t hc18 hf
    refine lv_tableIn (off := 103) (tgt := 104) C.1 C.2.1 dX5_joined_1 (by rw [hc18]; decide) (by rw [hc18]; decide) (by rw [hc18]; rfl) (by decide) ?_
    refine lv_iload_n C.1 C.2.1 dX5_joined_104 rfl (lv_at hl 1 rfl) ?_
    refine lv_iload_n C.1 C.2.1 dX5_joined_105 rfl (lv_at hl 2 rfl) ?_
    refine lv_imul C.1 C.2.1 dX5_joined_106 ?_
    exact zretI C hS hf dX5_joined_107
  have hf := zif_f hc18 hf
  by_cases hc19 : x0 = (19 : Int32)
  · have hf := zif_t hc19 hf
    refine lv_tableIn (off := 148) (tgt := 149) C.1 C.2.1 dX5_joined_1 (by rw [hc19]; decide) (by rw [hc19]; decide) (by rw [hc19]; rfl) (by decide) ?_
    exact w_X5_joined_149 C hm hk  _ _ _ _ (lv_sub hl [] rfl) hS hf
  have hf := zif_f hc19 hf
  by_cases hc20 : x0 = (20 : Int32)
  · have hf := zif_t hc20 hf
    refine lv_tableIn (off := 148) (tgt := 149) C.1 C.2.1 dX5_joined_1 (by rw [hc20]; decide) (by rw [hc20]; decide) (by rw [hc20]; rfl) (by decide) ?_
    exact w_X5_joined_149 C hm hk  _ _ _ _ (lv_sub hl [] rfl) hS hf
  have hf := zif_f hc20 hf
  by_cases hc21 : x0 = (21 : Int32)
  · have hf := zif_t hc21 hf
    refine lv_tableIn (off := 148) (tgt := 149) C.1 C.2.1 dX5_joined_1 (by rw [hc21]; decide) (by rw [hc21]; decide) (by rw [hc21]; rfl) (by decide) ?_
    exact w_X5_joined_149 C hm hk  _ _ _ _ (lv_sub hl [] rfl) hS hf
  have hf := zif_f hc21 hf
  by_cases hc22 : x0 = (22 : Int32)
  · have hf := zif_t hc22 hf
    refine lv_tableIn (off := 107) (tgt := 108) C.1 C.2.1 dX5_joined_1 (by rw [hc22]; decide) (by rw [hc22]; decide) (by rw [hc22]; rfl) (by decide) ?_
    refine lv_iload_n C.1 C.2.1 dX5_joined_108 rfl (lv_at hl 1 rfl) ?_
    refine lv_iload_n C.1 C.2.1 dX5_joined_109 rfl (lv_at hl 2 rfl) ?_
    refine lv_icmp_ge (tgt := 117) C.1 C.2.1 dX5_joined_110 (by decide) (fun hc => ?_) (fun hc => ?_)
    · have hf := zif_t hc hf
      refine lv_iconst (v := (0 : Int32)) C.1 C.2.1 dX5_joined_117 rfl ?_
      exact zretI C hS hf dX5_joined_118
    · have hf := zif_f hc hf
      refine lv_iconst (v := (1 : Int32)) C.1 C.2.1 dX5_joined_113 rfl ?_
      refine lv_goto (tgt := 118) C.1 C.2.1 dX5_joined_114 (by decide) ?_
      exact zretI C hS hf dX5_joined_118
  have hf := zif_f hc22 hf
  by_cases hc23 : x0 = (23 : Int32)
  · have hf := zif_t hc23 hf
    refine lv_tableIn (off := 118) (tgt := 119) C.1 C.2.1 dX5_joined_1 (by rw [hc23]; decide) (by rw [hc23]; decide) (by rw [hc23]; rfl) (by decide) ?_
    refine lv_iload_n C.1 C.2.1 dX5_joined_119 rfl (lv_at hl 1 rfl) ?_
    refine lv_iload_n C.1 C.2.1 dX5_joined_120 rfl (lv_at hl 2 rfl) ?_
    refine lv_icmp_ne (tgt := 128) C.1 C.2.1 dX5_joined_121 (by decide) (fun hc => ?_) (fun hc => ?_)
    · have hf := zif_f hc hf
      refine lv_iconst (v := (0 : Int32)) C.1 C.2.1 dX5_joined_128 rfl ?_
      exact zretI C hS hf dX5_joined_129
    · have hf := zif_t hc hf
      refine lv_iconst (v := (1 : Int32)) C.1 C.2.1 dX5_joined_124 rfl ?_
      refine lv_goto (tgt := 129) C.1 C.2.1 dX5_joined_125 (by decide) ?_
      exact zretI C hS hf dX5_joined_129
  have hf := zif_f hc23 hf
  by_cases hc24 : x0 = (24 : Int32)
  · have hf := zif_t hc24 hf
    refine lv_tableIn (off := 129) (tgt := 130) C.1 C.2.1 dX5_joined_1 (by rw [hc24]; decide) (by rw [hc24]; decide) (by rw [hc24]; rfl) (by decide) ?_
    refine lv_iload_n C.1 C.2.1 dX5_joined_130 rfl (lv_at hl 1 rfl) ?_
    refine lv_iload_n C.1 C.2.1 dX5_joined_131 rfl (lv_at hl 2 rfl) ?_
    refine lv_icmp_le (tgt := 139) C.1 C.2.1 dX5_joined_132 (by decide) (fun hc => ?_) (fun hc => ?_)
    · have hf := zif_t hc hf
      refine lv_iconst (v := (0 : Int32)) C.1 C.2.1 dX5_joined_139 rfl ?_
      exact zretI C hS hf dX5_joined_140
    · have hf := zif_f hc hf
      refine lv_iconst (v := (1 : Int32)) C.1 C.2.1 dX5_joined_135 rfl ?_
      refine lv_goto (tgt := 140) C.1 C.2.1 dX5_joined_136 (by decide) ?_
      exact zretI C hS hf dX5_joined_140
  have hf := zif_f hc24 hf
  refine lv_tableOut (tgt := 149) C.1 C.2.1 dX5_joined_1 (zso 5 20 (fun k hk => by match k, hk with | 0, _ => exact hc5 | 1, _ => exact hc6 | 2, _ => exact hc7 | 3, _ => exact hc8 | 4, _ => exact hc9 | 5, _ => exact hc10 | 6, _ => exact hc11 | 7, _ => exact hc12 | 8, _ => exact hc13 | 9, _ => exact hc14 | 10, _ => exact hc15 | 11, _ => exact hc16 | 12, _ => exact hc17 | 13, _ => exact hc18 | 14, _ => exact hc19 | 15, _ => exact hc20 | 16, _ => exact hc21 | 17, _ => exact hc22 | 18, _ => exact hc23 | 19, _ => exact hc24 | k + 20, h9 => exact absurd h9 (by omega))) (by decide) ?_
  exact w_X5_joined_149 C hm hk  _ _ _ _ (lv_sub hl [] rfl) hS hf
end
section
theorem dX5_valueOf_0 : decode cX5_valueOf 0 = .ok (.iconst 2, 1) := by decide +kernel
theorem dX5_valueOf_1 : decode cX5_valueOf 1 = .ok (.istore_n 2, 1) := by decide +kernel
theorem dX5_valueOf_2 : decode cX5_valueOf 2 = .ok (.iconst 0, 1) := by decide +kernel
theorem dX5_valueOf_3 : decode cX5_valueOf 3 = .ok (.istore_n 3, 1) := by decide +kernel
theorem dX5_valueOf_4 : decode cX5_valueOf 4 = .ok (.iload_n 3, 1) := by decide +kernel
theorem dX5_valueOf_5 : decode cX5_valueOf 5 = .ok (.aload_n 0, 1) := by decide +kernel
theorem dX5_valueOf_6 : decode cX5_valueOf 6 = .ok (.getfield 21, 3) := by decide +kernel
theorem dX5_valueOf_9 : decode cX5_valueOf 9 = .ok (.if_icmp .ge 258, 3) := by decide +kernel
theorem dX5_valueOf_12 : decode cX5_valueOf 12 = .ok (.iload_n 2, 1) := by decide +kernel
theorem dX5_valueOf_13 : decode cX5_valueOf 13 = .ok (.iconst 2, 1) := by decide +kernel
theorem dX5_valueOf_14 : decode cX5_valueOf 14 = .ok (.if_icmp .lt 9, 3) := by decide +kernel
theorem dX5_valueOf_17 : decode cX5_valueOf 17 = .ok (.iload_n 2, 1) := by decide +kernel
theorem dX5_valueOf_18 : decode cX5_valueOf 18 = .ok (.bipush 40, 2) := by decide +kernel
theorem dX5_valueOf_20 : decode cX5_valueOf 20 = .ok (.if_icmp .lt 5, 3) := by decide +kernel
theorem dX5_valueOf_23 : decode cX5_valueOf 23 = .ok (.iconst 0, 1) := by decide +kernel
theorem dX5_valueOf_24 : decode cX5_valueOf 24 = .ok (.ireturn, 1) := by decide +kernel
theorem dX5_valueOf_25 : decode cX5_valueOf 25 = .ok (.aload_n 0, 1) := by decide +kernel
theorem dX5_valueOf_26 : decode cX5_valueOf 26 = .ok (.getfield 11, 3) := by decide +kernel
theorem dX5_valueOf_29 : decode cX5_valueOf 29 = .ok (.iload_n 3, 1) := by decide +kernel
theorem dX5_valueOf_30 : decode cX5_valueOf 30 = .ok (.iaload, 1) := by decide +kernel
theorem dX5_valueOf_31 : decode cX5_valueOf 31 = .ok (.istore 4, 2) := by decide +kernel
theorem dX5_valueOf_33 : decode cX5_valueOf 33 = .ok (.iload 4, 2) := by decide +kernel
theorem dX5_valueOf_35 : decode cX5_valueOf 35 = .ok (.iconst 2, 1) := by decide +kernel
theorem dX5_valueOf_36 : decode cX5_valueOf 36 = .ok (.if_icmp .ne 21, 3) := by decide +kernel
theorem dX5_valueOf_39 : decode cX5_valueOf 39 = .ok (.aload_n 0, 1) := by decide +kernel
theorem dX5_valueOf_40 : decode cX5_valueOf 40 = .ok (.getfield 18, 3) := by decide +kernel
theorem dX5_valueOf_43 : decode cX5_valueOf 43 = .ok (.iload_n 2, 1) := by decide +kernel
theorem dX5_valueOf_44 : decode cX5_valueOf 44 = .ok (.aload_n 0, 1) := by decide +kernel
theorem dX5_valueOf_45 : decode cX5_valueOf 45 = .ok (.getfield 15, 3) := by decide +kernel
theorem dX5_valueOf_48 : decode cX5_valueOf 48 = .ok (.iload_n 3, 1) := by decide +kernel
theorem dX5_valueOf_49 : decode cX5_valueOf 49 = .ok (.iaload, 1) := by decide +kernel
theorem dX5_valueOf_50 : decode cX5_valueOf 50 = .ok (.iastore, 1) := by decide +kernel
theorem dX5_valueOf_51 : decode cX5_valueOf 51 = .ok (.iinc 2 1, 3) := by decide +kernel
theorem dX5_valueOf_54 : decode cX5_valueOf 54 = .ok (.goto 207, 3) := by decide +kernel
theorem dX5_valueOf_57 : decode cX5_valueOf 57 = .ok (.iload 4, 2) := by decide +kernel
theorem dX5_valueOf_59 : decode cX5_valueOf 59 = .ok (.bipush 8, 2) := by decide +kernel
theorem dX5_valueOf_61 : decode cX5_valueOf 61 = .ok (.if_icmp .lt 29, 3) := by decide +kernel
theorem dX5_valueOf_64 : decode cX5_valueOf 64 = .ok (.iload 4, 2) := by decide +kernel
theorem dX5_valueOf_66 : decode cX5_valueOf 66 = .ok (.bipush 14, 2) := by decide +kernel
theorem dX5_valueOf_68 : decode cX5_valueOf 68 = .ok (.if_icmp .gt 22, 3) := by decide +kernel
theorem dX5_valueOf_71 : decode cX5_valueOf 71 = .ok (.aload_n 0, 1) := by decide +kernel
theorem dX5_valueOf_72 : decode cX5_valueOf 72 = .ok (.getfield 18, 3) := by decide +kernel
theorem dX5_valueOf_75 : decode cX5_valueOf 75 = .ok (.iload_n 2, 1) := by decide +kernel
theorem dX5_valueOf_76 : decode cX5_valueOf 76 = .ok (.aload_n 1, 1) := by decide +kernel
theorem dX5_valueOf_77 : decode cX5_valueOf 77 = .ok (.iload 4, 2) := by decide +kernel
theorem dX5_valueOf_79 : decode cX5_valueOf 79 = .ok (.bipush 8, 2) := by decide +kernel
theorem dX5_valueOf_81 : decode cX5_valueOf 81 = .ok (.isub, 1) := by decide +kernel
theorem dX5_valueOf_82 : decode cX5_valueOf 82 = .ok (.iaload, 1) := by decide +kernel
theorem dX5_valueOf_83 : decode cX5_valueOf 83 = .ok (.iastore, 1) := by decide +kernel
theorem dX5_valueOf_84 : decode cX5_valueOf 84 = .ok (.iinc 2 1, 3) := by decide +kernel
theorem dX5_valueOf_87 : decode cX5_valueOf 87 = .ok (.goto 174, 3) := by decide +kernel
theorem dX5_valueOf_90 : decode cX5_valueOf 90 = .ok (.iload 4, 2) := by decide +kernel
theorem dX5_valueOf_92 : decode cX5_valueOf 92 = .ok (.bipush 7, 2) := by decide +kernel
theorem dX5_valueOf_94 : decode cX5_valueOf 94 = .ok (.if_icmp .ne 24, 3) := by decide +kernel
theorem dX5_valueOf_97 : decode cX5_valueOf 97 = .ok (.aload_n 0, 1) := by decide +kernel
theorem dX5_valueOf_98 : decode cX5_valueOf 98 = .ok (.getfield 18, 3) := by decide +kernel
theorem dX5_valueOf_101 : decode cX5_valueOf 101 = .ok (.iload_n 2, 1) := by decide +kernel
theorem dX5_valueOf_102 : decode cX5_valueOf 102 = .ok (.iconst 1, 1) := by decide +kernel
theorem dX5_valueOf_103 : decode cX5_valueOf 103 = .ok (.isub, 1) := by decide +kernel
theorem dX5_valueOf_104 : decode cX5_valueOf 104 = .ok (.iconst 1, 1) := by decide +kernel
theorem dX5_valueOf_105 : decode cX5_valueOf 105 = .ok (.aload_n 0, 1) := by decide +kernel
theorem dX5_valueOf_106 : decode cX5_valueOf 106 = .ok (.getfield 18, 3) := by decide +kernel
theorem dX5_valueOf_109 : decode cX5_valueOf 109 = .ok (.iload_n 2, 1) := by decide +kernel
theorem dX5_valueOf_110 : decode cX5_valueOf 110 = .ok (.iconst 1, 1) := by decide +kernel
theorem dX5_valueOf_111 : decode cX5_valueOf 111 = .ok (.isub, 1) := by decide +kernel
theorem dX5_valueOf_112 : decode cX5_valueOf 112 = .ok (.iaload, 1) := by decide +kernel
theorem dX5_valueOf_113 : decode cX5_valueOf 113 = .ok (.isub, 1) := by decide +kernel
theorem dX5_valueOf_114 : decode cX5_valueOf 114 = .ok (.iastore, 1) := by decide +kernel
theorem dX5_valueOf_115 : decode cX5_valueOf 115 = .ok (.goto 146, 3) := by decide +kernel
theorem dX5_valueOf_118 : decode cX5_valueOf 118 = .ok (.iload 4, 2) := by decide +kernel
theorem dX5_valueOf_120 : decode cX5_valueOf 120 = .ok (.bipush 19, 2) := by decide +kernel
theorem dX5_valueOf_122 : decode cX5_valueOf 122 = .ok (.if_icmp .ne 42, 3) := by decide +kernel
theorem dX5_valueOf_125 : decode cX5_valueOf 125 = .ok (.aload_n 0, 1) := by decide +kernel
theorem dX5_valueOf_126 : decode cX5_valueOf 126 = .ok (.getfield 18, 3) := by decide +kernel
theorem dX5_valueOf_129 : decode cX5_valueOf 129 = .ok (.iload_n 2, 1) := by decide +kernel
theorem dX5_valueOf_130 : decode cX5_valueOf 130 = .ok (.iconst 1, 1) := by decide +kernel
theorem dX5_valueOf_131 : decode cX5_valueOf 131 = .ok (.isub, 1) := by decide +kernel
theorem dX5_valueOf_132 : decode cX5_valueOf 132 = .ok (.aload_n 0, 1) := by decide +kernel
theorem dX5_valueOf_133 : decode cX5_valueOf 133 = .ok (.getfield 15, 3) := by decide +kernel
theorem dX5_valueOf_136 : decode cX5_valueOf 136 = .ok (.iload_n 3, 1) := by decide +kernel
theorem dX5_valueOf_137 : decode cX5_valueOf 137 = .ok (.iaload, 1) := by decide +kernel
theorem dX5_valueOf_138 : decode cX5_valueOf 138 = .ok (.ifCond .le 21, 3) := by decide +kernel
theorem dX5_valueOf_141 : decode cX5_valueOf 141 = .ok (.aload_n 0, 1) := by decide +kernel
theorem dX5_valueOf_142 : decode cX5_valueOf 142 = .ok (.getfield 18, 3) := by decide +kernel
theorem dX5_valueOf_145 : decode cX5_valueOf 145 = .ok (.iload_n 2, 1) := by decide +kernel
theorem dX5_valueOf_146 : decode cX5_valueOf 146 = .ok (.iconst 1, 1) := by decide +kernel
theorem dX5_valueOf_147 : decode cX5_valueOf 147 = .ok (.isub, 1) := by decide +kernel
theorem dX5_valueOf_148 : decode cX5_valueOf 148 = .ok (.iaload, 1) := by decide +kernel
theorem dX5_valueOf_149 : decode cX5_valueOf 149 = .ok (.aload_n 0, 1) := by decide +kernel
theorem dX5_valueOf_150 : decode cX5_valueOf 150 = .ok (.getfield 15, 3) := by decide +kernel
theorem dX5_valueOf_153 : decode cX5_valueOf 153 = .ok (.iload_n 3, 1) := by decide +kernel
theorem dX5_valueOf_154 : decode cX5_valueOf 154 = .ok (.iaload, 1) := by decide +kernel
theorem dX5_valueOf_155 : decode cX5_valueOf 155 = .ok (.idiv, 1) := by decide +kernel
theorem dX5_valueOf_156 : decode cX5_valueOf 156 = .ok (.goto 4, 3) := by decide +kernel
theorem dX5_valueOf_159 : decode cX5_valueOf 159 = .ok (.iconst 0, 1) := by decide +kernel
theorem dX5_valueOf_160 : decode cX5_valueOf 160 = .ok (.iastore, 1) := by decide +kernel
theorem dX5_valueOf_161 : decode cX5_valueOf 161 = .ok (.goto 100, 3) := by decide +kernel
theorem dX5_valueOf_164 : decode cX5_valueOf 164 = .ok (.iload 4, 2) := by decide +kernel
theorem dX5_valueOf_166 : decode cX5_valueOf 166 = .ok (.bipush 15, 2) := by decide +kernel
theorem dX5_valueOf_168 : decode cX5_valueOf 168 = .ok (.if_icmp .ne 22, 3) := by decide +kernel
theorem dX5_valueOf_171 : decode cX5_valueOf 171 = .ok (.iconst 0, 1) := by decide +kernel
theorem dX5_valueOf_172 : decode cX5_valueOf 172 = .ok (.sipush 999, 3) := by decide +kernel
theorem dX5_valueOf_175 : decode cX5_valueOf 175 = .ok (.aload_n 0, 1) := by decide +kernel
theorem dX5_valueOf_176 : decode cX5_valueOf 176 = .ok (.getfield 18, 3) := by decide +kernel
theorem dX5_valueOf_179 : decode cX5_valueOf 179 = .ok (.iload_n 2, 1) := by decide +kernel
theorem dX5_valueOf_180 : decode cX5_valueOf 180 = .ok (.iconst 1, 1) := by decide +kernel
theorem dX5_valueOf_181 : decode cX5_valueOf 181 = .ok (.isub, 1) := by decide +kernel
theorem dX5_valueOf_182 : decode cX5_valueOf 182 = .ok (.iaload, 1) := by decide +kernel
theorem dX5_valueOf_183 : decode cX5_valueOf 183 = .ok (.invokestatic 34, 3) := by decide +kernel
theorem dX5_valueOf_186 : decode cX5_valueOf 186 = .ok (.invokestatic 40, 3) := by decide +kernel
theorem dX5_valueOf_189 : decode cX5_valueOf 189 = .ok (.ireturn, 1) := by decide +kernel
theorem dX5_valueOf_190 : decode cX5_valueOf 190 = .ok (.iload 4, 2) := by decide +kernel
theorem dX5_valueOf_192 : decode cX5_valueOf 192 = .ok (.iconst 4, 1) := by decide +kernel
theorem dX5_valueOf_193 : decode cX5_valueOf 193 = .ok (.if_icmp .ne 38, 3) := by decide +kernel
theorem dX5_valueOf_196 : decode cX5_valueOf 196 = .ok (.aload_n 0, 1) := by decide +kernel
theorem dX5_valueOf_197 : decode cX5_valueOf 197 = .ok (.getfield 18, 3) := by decide +kernel
theorem dX5_valueOf_200 : decode cX5_valueOf 200 = .ok (.iload_n 2, 1) := by decide +kernel
theorem dX5_valueOf_201 : decode cX5_valueOf 201 = .ok (.iconst 1, 1) := by decide +kernel
theorem dX5_valueOf_202 : decode cX5_valueOf 202 = .ok (.isub, 1) := by decide +kernel
theorem dX5_valueOf_203 : decode cX5_valueOf 203 = .ok (.iaload, 1) := by decide +kernel
theorem dX5_valueOf_204 : decode cX5_valueOf 204 = .ok (.ifCond .eq 22, 3) := by decide +kernel
theorem dX5_valueOf_207 : decode cX5_valueOf 207 = .ok (.iconst 0, 1) := by decide +kernel
theorem dX5_valueOf_208 : decode cX5_valueOf 208 = .ok (.sipush 999, 3) := by decide +kernel
theorem dX5_valueOf_211 : decode cX5_valueOf 211 = .ok (.aload_n 0, 1) := by decide +kernel
theorem dX5_valueOf_212 : decode cX5_valueOf 212 = .ok (.getfield 18, 3) := by decide +kernel
theorem dX5_valueOf_215 : decode cX5_valueOf 215 = .ok (.iload_n 2, 1) := by decide +kernel
theorem dX5_valueOf_216 : decode cX5_valueOf 216 = .ok (.iconst 2, 1) := by decide +kernel
theorem dX5_valueOf_217 : decode cX5_valueOf 217 = .ok (.isub, 1) := by decide +kernel
theorem dX5_valueOf_218 : decode cX5_valueOf 218 = .ok (.iaload, 1) := by decide +kernel
theorem dX5_valueOf_219 : decode cX5_valueOf 219 = .ok (.invokestatic 34, 3) := by decide +kernel
theorem dX5_valueOf_222 : decode cX5_valueOf 222 = .ok (.invokestatic 40, 3) := by decide +kernel
theorem dX5_valueOf_225 : decode cX5_valueOf 225 = .ok (.ireturn, 1) := by decide +kernel
theorem dX5_valueOf_226 : decode cX5_valueOf 226 = .ok (.iconst 2, 1) := by decide +kernel
theorem dX5_valueOf_227 : decode cX5_valueOf 227 = .ok (.istore_n 2, 1) := by decide +kernel
theorem dX5_valueOf_228 : decode cX5_valueOf 228 = .ok (.goto 33, 3) := by decide +kernel
theorem dX5_valueOf_231 : decode cX5_valueOf 231 = .ok (.iinc 2 (-1), 3) := by decide +kernel
theorem dX5_valueOf_234 : decode cX5_valueOf 234 = .ok (.aload_n 0, 1) := by decide +kernel
theorem dX5_valueOf_235 : decode cX5_valueOf 235 = .ok (.getfield 18, 3) := by decide +kernel
theorem dX5_valueOf_238 : decode cX5_valueOf 238 = .ok (.iload_n 2, 1) := by decide +kernel
theorem dX5_valueOf_239 : decode cX5_valueOf 239 = .ok (.iconst 1, 1) := by decide +kernel
theorem dX5_valueOf_240 : decode cX5_valueOf 240 = .ok (.isub, 1) := by decide +kernel
theorem dX5_valueOf_241 : decode cX5_valueOf 241 = .ok (.iload 4, 2) := by decide +kernel
theorem dX5_valueOf_243 : decode cX5_valueOf 243 = .ok (.aload_n 0, 1) := by decide +kernel
theorem dX5_valueOf_244 : decode cX5_valueOf 244 = .ok (.getfield 18, 3) := by decide +kernel
theorem dX5_valueOf_247 : decode cX5_valueOf 247 = .ok (.iload_n 2, 1) := by decide +kernel
theorem dX5_valueOf_248 : decode cX5_valueOf 248 = .ok (.iconst 1, 1) := by decide +kernel
theorem dX5_valueOf_249 : decode cX5_valueOf 249 = .ok (.isub, 1) := by decide +kernel
theorem dX5_valueOf_250 : decode cX5_valueOf 250 = .ok (.iaload, 1) := by decide +kernel
theorem dX5_valueOf_251 : decode cX5_valueOf 251 = .ok (.aload_n 0, 1) := by decide +kernel
theorem dX5_valueOf_252 : decode cX5_valueOf 252 = .ok (.getfield 18, 3) := by decide +kernel
theorem dX5_valueOf_255 : decode cX5_valueOf 255 = .ok (.iload_n 2, 1) := by decide +kernel
theorem dX5_valueOf_256 : decode cX5_valueOf 256 = .ok (.iaload, 1) := by decide +kernel
theorem dX5_valueOf_257 : decode cX5_valueOf 257 = .ok (.invokestatic 43, 3) := by decide +kernel
theorem dX5_valueOf_260 : decode cX5_valueOf 260 = .ok (.iastore, 1) := by decide +kernel
theorem dX5_valueOf_261 : decode cX5_valueOf 261 = .ok (.iinc 3 1, 3) := by decide +kernel
theorem dX5_valueOf_264 : decode cX5_valueOf 264 = .ok (.goto (-260), 3) := by decide +kernel
theorem dX5_valueOf_267 : decode cX5_valueOf 267 = .ok (.iconst 0, 1) := by decide +kernel
theorem dX5_valueOf_268 : decode cX5_valueOf 268 = .ok (.ireturn, 1) := by decide +kernel
abbrev nd_X5_valueOf_r21 : List Nat := [16, 17, 18, 19, 21]
abbrev ld_X5_valueOf_r21 : List (Nat × Nat) := [(16, 0), (16, 1), (16, 2)]
theorem sn_X5_valueOf_r21_X5_joined : ∀ c ∈ nd_X5_joined, c ∈ nd_X5_valueOf_r21 := by decide
theorem sl_X5_valueOf_r21_X5_joined : ∀ q ∈ ld_X5_joined, q ∈ ld_X5_valueOf_r21 := by decide
def f_X5_valueOf_r21_23  (h : zH) : zR := (some ((0 : Int32), h))
def f_X5_valueOf_r21_261 (k4 : Int32 → Int32 → zH → zR) (x2 : Int32) (x3 : Int32) (h : zH) : zR := (zlt (x3 + (1 : Int32)) fun y6 => (k4 x2 y6 h))
def f_X5_valueOf_r21_160 (k4 : Int32 → Int32 → zH → zR) (x2 : Int32) (x3 : Int32) (s0 : Int32) (s1 : Int32) (h : zH) : zR := (zck s1 40 (zst (zup h 19 (Int32.toNatClampNeg s1) s0) fun h7 => (f_X5_valueOf_r21_261 k4 x2 x3 h7)))
def f_X5_valueOf_r21_90 (k4 : Int32 → Int32 → zH → zR) (x2 : Int32) (x3 : Int32) (x4 : Int32) (h : zH) : zR := (if x4 = (7 : Int32) then (zck (x2 - (1 : Int32)) 40 (zck (x2 - (1 : Int32)) 40 (zst (zup h 19 (Int32.toNatClampNeg (x2 - (1 : Int32))) ((1 : Int32) - (h 19 (Int32.toNatClampNeg (x2 - (1 : Int32)))))) fun h8 => (f_X5_valueOf_r21_261 k4 x2 x3 h8)))) else (if x4 = (19 : Int32) then (zck x3 400 (if (h 18 (Int32.toNatClampNeg x3)) ≤ 0 then (f_X5_valueOf_r21_160 k4 x2 x3 (0 : Int32) (x2 - (1 : Int32)) h) else (zck (x2 - (1 : Int32)) 40 (zck x3 400 (znz (h 18 (Int32.toNatClampNeg x3)) (f_X5_valueOf_r21_160 k4 x2 x3 ((h 19 (Int32.toNatClampNeg (x2 - (1 : Int32)))) / (h 18 (Int32.toNatClampNeg x3))) (x2 - (1 : Int32)) h)))))) else (if x4 = (15 : Int32) then (zck (x2 - (1 : Int32)) 40 (some ((if (0 : Int32) < (if (h 19 (Int32.toNatClampNeg (x2 - (1 : Int32)))) < (999 : Int32) then (h 19 (Int32.toNatClampNeg (x2 - (1 : Int32)))) else (999 : Int32)) then (if (h 19 (Int32.toNatClampNeg (x2 - (1 : Int32)))) < (999 : Int32) then (h 19 (Int32.toNatClampNeg (x2 - (1 : Int32)))) else (999 : Int32)) else (0 : Int32)), h))) else (if x4 = (4 : Int32) then (zck (x2 - (1 : Int32)) 40 (if (h 19 (Int32.toNatClampNeg (x2 - (1 : Int32)))) = 0 then (f_X5_valueOf_r21_261 k4 (2 : Int32) x3 h) else (zck (x2 - (2 : Int32)) 40 (some ((if (0 : Int32) < (if (h 19 (Int32.toNatClampNeg (x2 - (2 : Int32)))) < (999 : Int32) then (h 19 (Int32.toNatClampNeg (x2 - (2 : Int32)))) else (999 : Int32)) then (if (h 19 (Int32.toNatClampNeg (x2 - (2 : Int32)))) < (999 : Int32) then (h 19 (Int32.toNatClampNeg (x2 - (2 : Int32)))) else (999 : Int32)) else (0 : Int32)), h))))) else (zlt (x2 + (-1 : Int32)) fun y2 => (zck (y2 - (1 : Int32)) 40 (zck y2 40 (zbd (f_X5_joined x4 (h 19 (Int32.toNatClampNeg (y2 - (1 : Int32)))) (h 19 (Int32.toNatClampNeg y2)) h) fun r3 h4 => (zck (y2 - (1 : Int32)) 40 (zst (zup h4 19 (Int32.toNatClampNeg (y2 - (1 : Int32))) r3) fun h5 => (f_X5_valueOf_r21_261 k4 y2 x3 h5)))))))))))
def f_X5_valueOf_r21_4  : Nat → Int32 → Int32 → zH → zR
  | 0 => fun _ _ _ => none
  | n + 1 => fun x2 x3 h => (if (h 16 3) ≤ x3 then (some ((0 : Int32), h)) else (if x2 < (2 : Int32) then (f_X5_valueOf_r21_23   h) else (if x2 < (40 : Int32) then (zck x3 400 (zlt (h 17 (Int32.toNatClampNeg x3)) fun y1 => (if y1 = (2 : Int32) then (zck x3 400 (zck x2 40 (zst (zup h 19 (Int32.toNatClampNeg x2) (h 18 (Int32.toNatClampNeg x3))) fun h11 => (zlt (x2 + (1 : Int32)) fun y12 => (f_X5_valueOf_r21_261 (f_X5_valueOf_r21_4  n) y12 x3 h11))))) else (if y1 < (8 : Int32) then (f_X5_valueOf_r21_90 (f_X5_valueOf_r21_4  n) x2 x3 y1 h) else (if (14 : Int32) < y1 then (f_X5_valueOf_r21_90 (f_X5_valueOf_r21_4  n) x2 x3 y1 h) else (zck (y1 - (8 : Int32)) 7 (zck x2 40 (zst (zup h 19 (Int32.toNatClampNeg x2) (h 21 (Int32.toNatClampNeg (y1 - (8 : Int32))))) fun h9 => (zlt (x2 + (1 : Int32)) fun y10 => (f_X5_valueOf_r21_261 (f_X5_valueOf_r21_4  n) y10 x3 h9)))))))))) else (f_X5_valueOf_r21_23   h))))
def f_X5_valueOf_r21  (h : zH) : zR := (f_X5_valueOf_r21_4  zN (2 : Int32) (0 : Int32) h)
variable {p : Program} {l : Launch} {e : Env} {s : State} {m : MethodId} {args : Array Value} {below : List Frame} {meth : Method} {c : Code} {G : zG} {q : Int32 × zH}
set_option maxHeartbeats 4000000 in
set_option maxRecDepth 100000 in
theorem w_X5_valueOf_r21_23  (C : zC G p s m args meth c cX5_valueOf 5 RX5 (some .int)) (hm : ∀ c ∈ nd_X5_valueOf_r21, c ∈ znm G) (hk : ∀ q ∈ ld_X5_valueOf_r21, zlk G q.1 q.2 = true)  : ∀ (ls : Array Slot) (H : Heap) (locs : List Loc) (h : zH), lv_has ls 5 [] → zS G h s.heap H locs → f_X5_valueOf_r21_23  h = some q → W p l e (zrm (3)) s m args below meth c H locs 0 0 (MQ below (zQI G q.2 q.1) args s 0 0 (zA G)) (F0 m 23 ls []) := by
  intro ls H locs h hl hS hf
  unfold f_X5_valueOf_r21_23 at hf
  refine lv_iconst (v := (0 : Int32)) C.1 C.2.1 dX5_valueOf_23 rfl ?_
  exact zretI C hS hf dX5_valueOf_24
set_option maxHeartbeats 4000000 in
set_option maxRecDepth 100000 in
theorem w_X5_valueOf_r21_261 {k4 : Int32 → Int32 → zH → zR} (C : zC G p s m args meth c cX5_valueOf 5 RX5 (some .int)) (hm : ∀ c ∈ nd_X5_valueOf_r21, c ∈ znm G) (hk : ∀ q ∈ ld_X5_valueOf_r21, zlk G q.1 q.2 = true) (hk4 : ∀ (ls : Array Slot) (H : Heap) (locs : List Loc) (h : zH) (x2 : Int32) (x3 : Int32), lv_has ls 5 [(0, .ref (zal G 16)), (1, .ref (zal G 21)), (2, .int x2), (3, .int x3)] → zS G h s.heap H locs → k4 x2 x3 h = some q → W p l e (zrm (3)) s m args below meth c H locs 0 0 (MQ below (zQI G q.2 q.1) args s 0 0 (zA G)) (F0 m 4 ls [])) : ∀ (ls : Array Slot) (H : Heap) (locs : List Loc) (h : zH) (x2 : Int32) (x3 : Int32), lv_has ls 5 [(0, .ref (zal G 16)), (1, .ref (zal G 21)), (2, .int x2), (3, .int x3)] → zS G h s.heap H locs → f_X5_valueOf_r21_261 k4 x2 x3 h = some q → W p l e (zrm (3)) s m args below meth c H locs 0 0 (MQ below (zQI G q.2 q.1) args s 0 0 (zA G)) (F0 m 261 ls []) := by
  intro ls H locs h x2 x3 hl hS hf
  unfold f_X5_valueOf_r21_261 at hf
  obtain ⟨y6, ey6, hf⟩ := zlt_some hf
  refine lv_iinc (v := y6) (lv' := [(3, .int y6), (0, .ref (zal G 16)), (1, .ref (zal G 21)), (2, .int x2)]) C.1 C.2.1 dX5_valueOf_261 hl (k := 3) rfl ey6.symm (by decide) rfl (fun ls hl => ?_)
  refine lv_goto (tgt := 4) C.1 C.2.1 dX5_valueOf_264 (by decide) ?_
  exact hk4 _ _ _ _ _ _ (lv_sub hl [1, 2, 3, 0] rfl) hS hf
set_option maxHeartbeats 4000000 in
set_option maxRecDepth 100000 in
theorem w_X5_valueOf_r21_160 {k4 : Int32 → Int32 → zH → zR} (C : zC G p s m args meth c cX5_valueOf 5 RX5 (some .int)) (hm : ∀ c ∈ nd_X5_valueOf_r21, c ∈ znm G) (hk : ∀ q ∈ ld_X5_valueOf_r21, zlk G q.1 q.2 = true) (hk4 : ∀ (ls : Array Slot) (H : Heap) (locs : List Loc) (h : zH) (x2 : Int32) (x3 : Int32), lv_has ls 5 [(0, .ref (zal G 16)), (1, .ref (zal G 21)), (2, .int x2), (3, .int x3)] → zS G h s.heap H locs → k4 x2 x3 h = some q → W p l e (zrm (3)) s m args below meth c H locs 0 0 (MQ below (zQI G q.2 q.1) args s 0 0 (zA G)) (F0 m 4 ls [])) : ∀ (ls : Array Slot) (H : Heap) (locs : List Loc) (h : zH) (x2 : Int32) (x3 : Int32) (s0 : Int32) (s1 : Int32), lv_has ls 5 [(0, .ref (zal G 16)), (1, .ref (zal G 21)), (2, .int x2), (3, .int x3)] → zS G h s.heap H locs → f_X5_valueOf_r21_160 k4 x2 x3 s0 s1 h = some q → W p l e (zrm (3)) s m args below meth c H locs 0 0 (MQ below (zQI G q.2 q.1) args s 0 0 (zA G)) (F0 m 160 ls [.int s0, .int s1, .ref (zal G 19)]) := by
  intro ls H locs h x2 x3 s0 s1 hl hS hf
  unfold f_X5_valueOf_r21_160 at hf
  obtain ⟨hi, hf⟩ := zck_some hf
  refine zast C hS sh_19 (hm 19 (by decide)) hi dX5_valueOf_160 (fun H locs hS => ?_)
  obtain ⟨h7, eh7, hf⟩ := zst_some hf
  have hS : zS G h7 s.heap H locs := by rw [eh7]; exact hS
  refine lv_goto (tgt := 261) C.1 C.2.1 dX5_valueOf_161 (by decide) ?_
  exact w_X5_valueOf_r21_261 C hm hk hk4 _ _ _ _ _ _ (lv_sub hl [0, 1, 2, 3] rfl) hS hf
set_option maxHeartbeats 4000000 in
set_option maxRecDepth 100000 in
theorem w_X5_valueOf_r21_90 {k4 : Int32 → Int32 → zH → zR} (C : zC G p s m args meth c cX5_valueOf 5 RX5 (some .int)) (hm : ∀ c ∈ nd_X5_valueOf_r21, c ∈ znm G) (hk : ∀ q ∈ ld_X5_valueOf_r21, zlk G q.1 q.2 = true) (hk4 : ∀ (ls : Array Slot) (H : Heap) (locs : List Loc) (h : zH) (x2 : Int32) (x3 : Int32), lv_has ls 5 [(0, .ref (zal G 16)), (1, .ref (zal G 21)), (2, .int x2), (3, .int x3)] → zS G h s.heap H locs → k4 x2 x3 h = some q → W p l e (zrm (3)) s m args below meth c H locs 0 0 (MQ below (zQI G q.2 q.1) args s 0 0 (zA G)) (F0 m 4 ls [])) : ∀ (ls : Array Slot) (H : Heap) (locs : List Loc) (h : zH) (x2 : Int32) (x3 : Int32) (x4 : Int32), lv_has ls 5 [(0, .ref (zal G 16)), (1, .ref (zal G 21)), (2, .int x2), (3, .int x3), (4, .int x4)] → zS G h s.heap H locs → f_X5_valueOf_r21_90 k4 x2 x3 x4 h = some q → W p l e (zrm (3)) s m args below meth c H locs 0 0 (MQ below (zQI G q.2 q.1) args s 0 0 (zA G)) (F0 m 90 ls []) := by
  intro ls H locs h x2 x3 x4 hl hS hf
  unfold f_X5_valueOf_r21_90 at hf
  refine lv_iload C.1 C.2.1 dX5_valueOf_90 (lv_at hl 4 rfl) ?_
  refine lv_bipush (v := (7 : Int32)) C.1 C.2.1 dX5_valueOf_92 rfl ?_
  refine lv_icmp_ne (tgt := 118) C.1 C.2.1 dX5_valueOf_94 (by decide) (fun hc => ?_) (fun hc => ?_)
  · have hf := zif_f hc hf
    refine lv_iload C.1 C.2.1 dX5_valueOf_118 (lv_at hl 4 rfl) ?_
    refine lv_bipush (v := (19 : Int32)) C.1 C.2.1 dX5_valueOf_120 rfl ?_
    refine lv_icmp_ne (tgt := 164) C.1 C.2.1 dX5_valueOf_122 (by decide) (fun hc => ?_) (fun hc => ?_)
    · have hf := zif_f hc hf
      refine lv_iload C.1 C.2.1 dX5_valueOf_164 (lv_at hl 4 rfl) ?_
      refine lv_bipush (v := (15 : Int32)) C.1 C.2.1 dX5_valueOf_166 rfl ?_
      refine lv_icmp_ne (tgt := 190) C.1 C.2.1 dX5_valueOf_168 (by decide) (fun hc => ?_) (fun hc => ?_)
      · have hf := zif_f hc hf
        refine lv_iload C.1 C.2.1 dX5_valueOf_190 (lv_at hl 4 rfl) ?_
        refine lv_iconst (v := (4 : Int32)) C.1 C.2.1 dX5_valueOf_192 rfl ?_
        refine lv_icmp_ne (tgt := 231) C.1 C.2.1 dX5_valueOf_193 (by decide) (fun hc => ?_) (fun hc => ?_)
        · have hf := zif_f hc hf
          obtain ⟨y2, ey2, hf⟩ := zlt_some hf
          refine lv_iinc (v := y2) (lv' := [(2, .int y2), (0, .ref (zal G 16)), (1, .ref (zal G 21)), (3, .int x3), (4, .int x4)]) C.1 C.2.1 dX5_valueOf_231 hl (k := 2) rfl ey2.symm (by decide) rfl (fun ls hl => ?_)
          refine lv_aload_n C.1 C.2.1 dX5_valueOf_234 rfl (lv_at hl 1 rfl) ?_
          refine zgetR C hS ff_X5_18_16 (hm 16 (by decide)) (hk (16, 2) (by decide)) dX5_valueOf_235 ?_
          refine lv_iload_n C.1 C.2.1 dX5_valueOf_238 rfl (lv_at hl 0 rfl) ?_
          refine lv_iconst (v := (1 : Int32)) C.1 C.2.1 dX5_valueOf_239 rfl ?_
          refine lv_isub C.1 C.2.1 dX5_valueOf_240 ?_
          refine lv_iload C.1 C.2.1 dX5_valueOf_241 (lv_at hl 4 rfl) ?_
          refine lv_aload_n C.1 C.2.1 dX5_valueOf_243 rfl (lv_at hl 1 rfl) ?_
          refine zgetR C hS ff_X5_18_16 (hm 16 (by decide)) (hk (16, 2) (by decide)) dX5_valueOf_244 ?_
          refine lv_iload_n C.1 C.2.1 dX5_valueOf_247 rfl (lv_at hl 0 rfl) ?_
          refine lv_iconst (v := (1 : Int32)) C.1 C.2.1 dX5_valueOf_248 rfl ?_
          refine lv_isub C.1 C.2.1 dX5_valueOf_249 ?_
          obtain ⟨hi, hf⟩ := zck_some hf
          refine zald C hS sh_19 (hm 19 (by decide)) hi dX5_valueOf_250 ?_
          refine lv_aload_n C.1 C.2.1 dX5_valueOf_251 rfl (lv_at hl 1 rfl) ?_
          refine zgetR C hS ff_X5_18_16 (hm 16 (by decide)) (hk (16, 2) (by decide)) dX5_valueOf_252 ?_
          refine lv_iload_n C.1 C.2.1 dX5_valueOf_255 rfl (lv_at hl 0 rfl) ?_
          obtain ⟨hi, hf⟩ := zck_some hf
          refine zald C hS sh_19 (hm 19 (by decide)) hi dX5_valueOf_256 ?_
          obtain ⟨r3, h4, er3, hf⟩ := zbd_some hf
          refine zcallSI (As := [.int x4, .int (h 19 (Int32.toNatClampNeg (y2 - (1 : Int32)))), .int (h 19 (Int32.toNatClampNeg y2))]) (rest := [.int (y2 - (1 : Int32)), .ref (zal G 19)]) C hS ms_X5_43 (c_X5_joined l G h x4 (h 19 (Int32.toNatClampNeg (y2 - (1 : Int32)))) (h 19 (Int32.toNatClampNeg y2)) (r3, h4) (fun c h => hm c (sn_X5_valueOf_r21_X5_joined c h)) (fun q h => hk q (sl_X5_valueOf_r21_X5_joined q h)) er3) rfl rfl (Nat.le_of_ble_eq_true rfl) hl.1 ⟨Nat.le_of_ble_eq_true rfl, Nat.le_of_ble_eq_true rfl, Nat.le_of_ble_eq_true rfl, Nat.le_of_ble_eq_true rfl⟩ dX5_valueOf_257 (fun H locs hS => ?_)
          obtain ⟨hi, hf⟩ := zck_some hf
          refine zast C hS sh_19 (hm 19 (by decide)) hi dX5_valueOf_260 (fun H locs hS => ?_)
          obtain ⟨h5, eh5, hf⟩ := zst_some hf
          have hS : zS G h5 s.heap H locs := by rw [eh5]; exact hS
          exact w_X5_valueOf_r21_261 C hm hk hk4 _ _ _ _ _ _ (lv_sub hl [1, 2, 0, 3] rfl) hS hf
        · have hf := zif_t hc hf
          refine lv_aload_n C.1 C.2.1 dX5_valueOf_196 rfl (lv_at hl 0 rfl) ?_
          refine zgetR C hS ff_X5_18_16 (hm 16 (by decide)) (hk (16, 2) (by decide)) dX5_valueOf_197 ?_
          refine lv_iload_n C.1 C.2.1 dX5_valueOf_200 rfl (lv_at hl 2 rfl) ?_
          refine lv_iconst (v := (1 : Int32)) C.1 C.2.1 dX5_valueOf_201 rfl ?_
          refine lv_isub C.1 C.2.1 dX5_valueOf_202 ?_
          obtain ⟨hi, hf⟩ := zck_some hf
          refine zald C hS sh_19 (hm 19 (by decide)) hi dX5_valueOf_203 ?_
          refine lv_if_eq (tgt := 226) C.1 C.2.1 dX5_valueOf_204 (by decide) (fun hc => ?_) (fun hc => ?_)
          · have hf := zif_t hc hf
            refine lv_iconst (v := (2 : Int32)) C.1 C.2.1 dX5_valueOf_226 rfl ?_
            refine lv_istore_n (lv' := [(2, .int (2 : Int32)), (0, .ref (zal G 16)), (1, .ref (zal G 21)), (3, .int x3), (4, .int x4)]) C.1 C.2.1 dX5_valueOf_227 rfl hl (by decide) rfl (fun ls hl => ?_)
            refine lv_goto (tgt := 261) C.1 C.2.1 dX5_valueOf_228 (by decide) ?_
            exact w_X5_valueOf_r21_261 C hm hk hk4 _ _ _ _ _ _ (lv_sub hl [1, 2, 0, 3] rfl) hS hf
          · have hf := zif_f hc hf
            refine lv_iconst (v := (0 : Int32)) C.1 C.2.1 dX5_valueOf_207 rfl ?_
            refine lv_sipush (v := (999 : Int32)) C.1 C.2.1 dX5_valueOf_208 rfl ?_
            refine lv_aload_n C.1 C.2.1 dX5_valueOf_211 rfl (lv_at hl 0 rfl) ?_
            refine zgetR C hS ff_X5_18_16 (hm 16 (by decide)) (hk (16, 2) (by decide)) dX5_valueOf_212 ?_
            refine lv_iload_n C.1 C.2.1 dX5_valueOf_215 rfl (lv_at hl 2 rfl) ?_
            refine lv_iconst (v := (2 : Int32)) C.1 C.2.1 dX5_valueOf_216 rfl ?_
            refine lv_isub C.1 C.2.1 dX5_valueOf_217 ?_
            obtain ⟨hi, hf⟩ := zck_some hf
            refine zald C hS sh_19 (hm 19 (by decide)) hi dX5_valueOf_218 ?_
            refine zmin C kw_812 (Nat.le_of_ble_eq_true rfl) hl.1 ⟨Nat.le_of_ble_eq_true rfl, Nat.le_of_ble_eq_true rfl, Nat.le_of_ble_eq_true rfl, Nat.le_of_ble_eq_true rfl⟩ dX5_valueOf_219 ?_
            refine zmax C kw_813 (Nat.le_of_ble_eq_true rfl) hl.1 ⟨Nat.le_of_ble_eq_true rfl, Nat.le_of_ble_eq_true rfl, Nat.le_of_ble_eq_true rfl, Nat.le_of_ble_eq_true rfl⟩ dX5_valueOf_222 ?_
            exact zretI C hS hf dX5_valueOf_225
      · have hf := zif_t hc hf
        refine lv_iconst (v := (0 : Int32)) C.1 C.2.1 dX5_valueOf_171 rfl ?_
        refine lv_sipush (v := (999 : Int32)) C.1 C.2.1 dX5_valueOf_172 rfl ?_
        refine lv_aload_n C.1 C.2.1 dX5_valueOf_175 rfl (lv_at hl 0 rfl) ?_
        refine zgetR C hS ff_X5_18_16 (hm 16 (by decide)) (hk (16, 2) (by decide)) dX5_valueOf_176 ?_
        refine lv_iload_n C.1 C.2.1 dX5_valueOf_179 rfl (lv_at hl 2 rfl) ?_
        refine lv_iconst (v := (1 : Int32)) C.1 C.2.1 dX5_valueOf_180 rfl ?_
        refine lv_isub C.1 C.2.1 dX5_valueOf_181 ?_
        obtain ⟨hi, hf⟩ := zck_some hf
        refine zald C hS sh_19 (hm 19 (by decide)) hi dX5_valueOf_182 ?_
        refine zmin C kw_812 (Nat.le_of_ble_eq_true rfl) hl.1 ⟨Nat.le_of_ble_eq_true rfl, Nat.le_of_ble_eq_true rfl, Nat.le_of_ble_eq_true rfl, Nat.le_of_ble_eq_true rfl⟩ dX5_valueOf_183 ?_
        refine zmax C kw_813 (Nat.le_of_ble_eq_true rfl) hl.1 ⟨Nat.le_of_ble_eq_true rfl, Nat.le_of_ble_eq_true rfl, Nat.le_of_ble_eq_true rfl, Nat.le_of_ble_eq_true rfl⟩ dX5_valueOf_186 ?_
        exact zretI C hS hf dX5_valueOf_189
    · have hf := zif_t hc hf
      refine lv_aload_n C.1 C.2.1 dX5_valueOf_125 rfl (lv_at hl 0 rfl) ?_
      refine zgetR C hS ff_X5_18_16 (hm 16 (by decide)) (hk (16, 2) (by decide)) dX5_valueOf_126 ?_
      refine lv_iload_n C.1 C.2.1 dX5_valueOf_129 rfl (lv_at hl 2 rfl) ?_
      refine lv_iconst (v := (1 : Int32)) C.1 C.2.1 dX5_valueOf_130 rfl ?_
      refine lv_isub C.1 C.2.1 dX5_valueOf_131 ?_
      refine lv_aload_n C.1 C.2.1 dX5_valueOf_132 rfl (lv_at hl 0 rfl) ?_
      refine zgetR C hS ff_X5_15_16 (hm 16 (by decide)) (hk (16, 1) (by decide)) dX5_valueOf_133 ?_
      refine lv_iload_n C.1 C.2.1 dX5_valueOf_136 rfl (lv_at hl 3 rfl) ?_
      obtain ⟨hi, hf⟩ := zck_some hf
      refine zald C hS sh_18 (hm 18 (by decide)) hi dX5_valueOf_137 ?_
      refine lv_if_le (tgt := 159) C.1 C.2.1 dX5_valueOf_138 (by decide) (fun hc => ?_) (fun hc => ?_)
      · have hf := zif_t hc hf
        refine lv_iconst (v := (0 : Int32)) C.1 C.2.1 dX5_valueOf_159 rfl ?_
        exact w_X5_valueOf_r21_160 C hm hk hk4 _ _ _ _ _ _ _ _ (lv_sub hl [0, 1, 2, 3] rfl) hS hf
      · have hf := zif_f hc hf
        refine lv_aload_n C.1 C.2.1 dX5_valueOf_141 rfl (lv_at hl 0 rfl) ?_
        refine zgetR C hS ff_X5_18_16 (hm 16 (by decide)) (hk (16, 2) (by decide)) dX5_valueOf_142 ?_
        refine lv_iload_n C.1 C.2.1 dX5_valueOf_145 rfl (lv_at hl 2 rfl) ?_
        refine lv_iconst (v := (1 : Int32)) C.1 C.2.1 dX5_valueOf_146 rfl ?_
        refine lv_isub C.1 C.2.1 dX5_valueOf_147 ?_
        obtain ⟨hi, hf⟩ := zck_some hf
        refine zald C hS sh_19 (hm 19 (by decide)) hi dX5_valueOf_148 ?_
        refine lv_aload_n C.1 C.2.1 dX5_valueOf_149 rfl (lv_at hl 0 rfl) ?_
        refine zgetR C hS ff_X5_15_16 (hm 16 (by decide)) (hk (16, 1) (by decide)) dX5_valueOf_150 ?_
        refine lv_iload_n C.1 C.2.1 dX5_valueOf_153 rfl (lv_at hl 3 rfl) ?_
        obtain ⟨hi, hf⟩ := zck_some hf
        refine zald C hS sh_18 (hm 18 (by decide)) hi dX5_valueOf_154 ?_
        obtain ⟨hz, hf⟩ := znz_some hf
        refine lv_idiv C.1 C.2.1 dX5_valueOf_155 hz ?_
        refine lv_goto (tgt := 160) C.1 C.2.1 dX5_valueOf_156 (by decide) ?_
        exact w_X5_valueOf_r21_160 C hm hk hk4 _ _ _ _ _ _ _ _ (lv_sub hl [0, 1, 2, 3] rfl) hS hf
  · have hf := zif_t hc hf
    refine lv_aload_n C.1 C.2.1 dX5_valueOf_97 rfl (lv_at hl 0 rfl) ?_
    refine zgetR C hS ff_X5_18_16 (hm 16 (by decide)) (hk (16, 2) (by decide)) dX5_valueOf_98 ?_
    refine lv_iload_n C.1 C.2.1 dX5_valueOf_101 rfl (lv_at hl 2 rfl) ?_
    refine lv_iconst (v := (1 : Int32)) C.1 C.2.1 dX5_valueOf_102 rfl ?_
    refine lv_isub C.1 C.2.1 dX5_valueOf_103 ?_
    refine lv_iconst (v := (1 : Int32)) C.1 C.2.1 dX5_valueOf_104 rfl ?_
    refine lv_aload_n C.1 C.2.1 dX5_valueOf_105 rfl (lv_at hl 0 rfl) ?_
    refine zgetR C hS ff_X5_18_16 (hm 16 (by decide)) (hk (16, 2) (by decide)) dX5_valueOf_106 ?_
    refine lv_iload_n C.1 C.2.1 dX5_valueOf_109 rfl (lv_at hl 2 rfl) ?_
    refine lv_iconst (v := (1 : Int32)) C.1 C.2.1 dX5_valueOf_110 rfl ?_
    refine lv_isub C.1 C.2.1 dX5_valueOf_111 ?_
    obtain ⟨hi, hf⟩ := zck_some hf
    refine zald C hS sh_19 (hm 19 (by decide)) hi dX5_valueOf_112 ?_
    refine lv_isub C.1 C.2.1 dX5_valueOf_113 ?_
    obtain ⟨hi, hf⟩ := zck_some hf
    refine zast C hS sh_19 (hm 19 (by decide)) hi dX5_valueOf_114 (fun H locs hS => ?_)
    obtain ⟨h8, eh8, hf⟩ := zst_some hf
    have hS : zS G h8 s.heap H locs := by rw [eh8]; exact hS
    refine lv_goto (tgt := 261) C.1 C.2.1 dX5_valueOf_115 (by decide) ?_
    exact w_X5_valueOf_r21_261 C hm hk hk4 _ _ _ _ _ _ (lv_sub hl [0, 1, 2, 3] rfl) hS hf
set_option maxHeartbeats 4000000 in
set_option maxRecDepth 100000 in
theorem w_X5_valueOf_r21_4  (C : zC G p s m args meth c cX5_valueOf 5 RX5 (some .int)) (hm : ∀ c ∈ nd_X5_valueOf_r21, c ∈ znm G) (hk : ∀ q ∈ ld_X5_valueOf_r21, zlk G q.1 q.2 = true)  : ∀ n, ∀ (ls : Array Slot) (H : Heap) (locs : List Loc) (h : zH) (x2 : Int32) (x3 : Int32), lv_has ls 5 [(0, .ref (zal G 16)), (1, .ref (zal G 21)), (2, .int x2), (3, .int x3)] → zS G h s.heap H locs → f_X5_valueOf_r21_4  n x2 x3 h = some q → W p l e (zrm (3)) s m args below meth c H locs 0 0 (MQ below (zQI G q.2 q.1) args s 0 0 (zA G)) (F0 m 4 ls []) := by
  intro n
  induction n with
  | zero => intro ls H locs h x2 x3 hl hS hf; cases hf
  | succ n ih =>
    intro ls H locs h x2 x3 hl hS hf
    rw [f_X5_valueOf_r21_4] at hf
    refine lv_iload_n C.1 C.2.1 dX5_valueOf_4 rfl (lv_at hl 3 rfl) ?_
    refine lv_aload_n C.1 C.2.1 dX5_valueOf_5 rfl (lv_at hl 0 rfl) ?_
    refine zgetI C hS ff_X5_21_16 (hm 16 (by decide)) dX5_valueOf_6 ?_
    refine lv_icmp_ge (tgt := 267) C.1 C.2.1 dX5_valueOf_9 (by decide) (fun hc => ?_) (fun hc => ?_)
    · have hf := zif_t hc hf
      refine lv_iconst (v := (0 : Int32)) C.1 C.2.1 dX5_valueOf_267 rfl ?_
      exact zretI C hS hf dX5_valueOf_268
    · have hf := zif_f hc hf
      refine lv_iload_n C.1 C.2.1 dX5_valueOf_12 rfl (lv_at hl 2 rfl) ?_
      refine lv_iconst (v := (2 : Int32)) C.1 C.2.1 dX5_valueOf_13 rfl ?_
      refine lv_icmp_lt (tgt := 23) C.1 C.2.1 dX5_valueOf_14 (by decide) (fun hc => ?_) (fun hc => ?_)
      · have hf := zif_t hc hf
        exact w_X5_valueOf_r21_23 C hm hk  _ _ _ _ (lv_sub hl [] rfl) hS hf
      · have hf := zif_f hc hf
        refine lv_iload_n C.1 C.2.1 dX5_valueOf_17 rfl (lv_at hl 2 rfl) ?_
        refine lv_bipush (v := (40 : Int32)) C.1 C.2.1 dX5_valueOf_18 rfl ?_
        refine lv_icmp_lt (tgt := 25) C.1 C.2.1 dX5_valueOf_20 (by decide) (fun hc => ?_) (fun hc => ?_)
        · have hf := zif_t hc hf
          refine lv_aload_n C.1 C.2.1 dX5_valueOf_25 rfl (lv_at hl 0 rfl) ?_
          refine zgetR C hS ff_X5_11_16 (hm 16 (by decide)) (hk (16, 0) (by decide)) dX5_valueOf_26 ?_
          refine lv_iload_n C.1 C.2.1 dX5_valueOf_29 rfl (lv_at hl 3 rfl) ?_
          obtain ⟨hi, hf⟩ := zck_some hf
          refine zald C hS sh_17 (hm 17 (by decide)) hi dX5_valueOf_30 ?_
          obtain ⟨y1, ey1, hf⟩ := zlt_some hf
          refine ztop ey1 ?_
          refine lv_istore (lv' := [(4, .int y1), (0, .ref (zal G 16)), (1, .ref (zal G 21)), (2, .int x2), (3, .int x3)]) C.1 C.2.1 dX5_valueOf_31 hl (by decide) rfl (fun ls hl => ?_)
          refine lv_iload C.1 C.2.1 dX5_valueOf_33 (lv_at hl 0 rfl) ?_
          refine lv_iconst (v := (2 : Int32)) C.1 C.2.1 dX5_valueOf_35 rfl ?_
          refine lv_icmp_ne (tgt := 57) C.1 C.2.1 dX5_valueOf_36 (by decide) (fun hc => ?_) (fun hc => ?_)
          · have hf := zif_f hc hf
            refine lv_iload C.1 C.2.1 dX5_valueOf_57 (lv_at hl 0 rfl) ?_
            refine lv_bipush (v := (8 : Int32)) C.1 C.2.1 dX5_valueOf_59 rfl ?_
            refine lv_icmp_lt (tgt := 90) C.1 C.2.1 dX5_valueOf_61 (by decide) (fun hc => ?_) (fun hc => ?_)
            · have hf := zif_t hc hf
              exact w_X5_valueOf_r21_90 C hm hk ih _ _ _ _ _ _ _ (lv_sub hl [1, 2, 3, 4, 0] rfl) hS hf
            · have hf := zif_f hc hf
              refine lv_iload C.1 C.2.1 dX5_valueOf_64 (lv_at hl 0 rfl) ?_
              refine lv_bipush (v := (14 : Int32)) C.1 C.2.1 dX5_valueOf_66 rfl ?_
              refine lv_icmp_gt (tgt := 90) C.1 C.2.1 dX5_valueOf_68 (by decide) (fun hc => ?_) (fun hc => ?_)
              · have hf := zif_t hc hf
                exact w_X5_valueOf_r21_90 C hm hk ih _ _ _ _ _ _ _ (lv_sub hl [1, 2, 3, 4, 0] rfl) hS hf
              · have hf := zif_f hc hf
                refine lv_aload_n C.1 C.2.1 dX5_valueOf_71 rfl (lv_at hl 1 rfl) ?_
                refine zgetR C hS ff_X5_18_16 (hm 16 (by decide)) (hk (16, 2) (by decide)) dX5_valueOf_72 ?_
                refine lv_iload_n C.1 C.2.1 dX5_valueOf_75 rfl (lv_at hl 3 rfl) ?_
                refine lv_aload_n C.1 C.2.1 dX5_valueOf_76 rfl (lv_at hl 2 rfl) ?_
                refine lv_iload C.1 C.2.1 dX5_valueOf_77 (lv_at hl 0 rfl) ?_
                refine lv_bipush (v := (8 : Int32)) C.1 C.2.1 dX5_valueOf_79 rfl ?_
                refine lv_isub C.1 C.2.1 dX5_valueOf_81 ?_
                obtain ⟨hi, hf⟩ := zck_some hf
                refine zald C hS sh_21 (hm 21 (by decide)) hi dX5_valueOf_82 ?_
                obtain ⟨hi, hf⟩ := zck_some hf
                refine zast C hS sh_19 (hm 19 (by decide)) hi dX5_valueOf_83 (fun H locs hS => ?_)
                obtain ⟨h9, eh9, hf⟩ := zst_some hf
                have hS : zS G h9 s.heap H locs := by rw [eh9]; exact hS
                obtain ⟨y10, ey10, hf⟩ := zlt_some hf
                refine lv_iinc (v := y10) (lv' := [(2, .int y10), (4, .int y1), (0, .ref (zal G 16)), (1, .ref (zal G 21)), (3, .int x3)]) C.1 C.2.1 dX5_valueOf_84 hl (k := 3) rfl ey10.symm (by decide) rfl (fun ls hl => ?_)
                refine lv_goto (tgt := 261) C.1 C.2.1 dX5_valueOf_87 (by decide) ?_
                exact w_X5_valueOf_r21_261 C hm hk ih _ _ _ _ _ _ (lv_sub hl [2, 3, 0, 4] rfl) hS hf
          · have hf := zif_t hc hf
            refine lv_aload_n C.1 C.2.1 dX5_valueOf_39 rfl (lv_at hl 1 rfl) ?_
            refine zgetR C hS ff_X5_18_16 (hm 16 (by decide)) (hk (16, 2) (by decide)) dX5_valueOf_40 ?_
            refine lv_iload_n C.1 C.2.1 dX5_valueOf_43 rfl (lv_at hl 3 rfl) ?_
            refine lv_aload_n C.1 C.2.1 dX5_valueOf_44 rfl (lv_at hl 1 rfl) ?_
            refine zgetR C hS ff_X5_15_16 (hm 16 (by decide)) (hk (16, 1) (by decide)) dX5_valueOf_45 ?_
            refine lv_iload_n C.1 C.2.1 dX5_valueOf_48 rfl (lv_at hl 4 rfl) ?_
            obtain ⟨hi, hf⟩ := zck_some hf
            refine zald C hS sh_18 (hm 18 (by decide)) hi dX5_valueOf_49 ?_
            obtain ⟨hi, hf⟩ := zck_some hf
            refine zast C hS sh_19 (hm 19 (by decide)) hi dX5_valueOf_50 (fun H locs hS => ?_)
            obtain ⟨h11, eh11, hf⟩ := zst_some hf
            have hS : zS G h11 s.heap H locs := by rw [eh11]; exact hS
            obtain ⟨y12, ey12, hf⟩ := zlt_some hf
            refine lv_iinc (v := y12) (lv' := [(2, .int y12), (4, .int y1), (0, .ref (zal G 16)), (1, .ref (zal G 21)), (3, .int x3)]) C.1 C.2.1 dX5_valueOf_51 hl (k := 3) rfl ey12.symm (by decide) rfl (fun ls hl => ?_)
            refine lv_goto (tgt := 261) C.1 C.2.1 dX5_valueOf_54 (by decide) ?_
            exact w_X5_valueOf_r21_261 C hm hk ih _ _ _ _ _ _ (lv_sub hl [2, 3, 0, 4] rfl) hS hf
        · have hf := zif_f hc hf
          exact w_X5_valueOf_r21_23 C hm hk  _ _ _ _ (lv_sub hl [] rfl) hS hf
set_option maxHeartbeats 4000000 in
set_option maxRecDepth 100000 in
theorem c_X5_valueOf_r21 (l : Launch) (G : zG) (h : zH) (q : Int32 × zH) (hm : ∀ c ∈ nd_X5_valueOf_r21, c ∈ znm G) (hk : ∀ q ∈ ld_X5_valueOf_r21, zlk G q.1 q.2 = true) (hf : f_X5_valueOf_r21 h = some q) : zCtI l yX5_valueOf cX5_valueOf 5 (some .int) (3) [.ref (zal G 16), .ref (zal G 21)] G h q.2 q.1 := by
  refine zMetI (by decide) (Nat.le_of_ble_eq_true rfl) ?_
  intro p e s m below meth c ls C hl hS
  have hl : lv_has ls 5 [(0, .ref (zal G 16)), (1, .ref (zal G 21))] := hl
  have C : zC G p s m [.ref (zal G 16), .ref (zal G 21)].toArray meth c cX5_valueOf 5 RX5 (some .int) := C
  unfold f_X5_valueOf_r21 at hf
  refine lv_iconst (v := (2 : Int32)) C.1 C.2.1 dX5_valueOf_0 rfl ?_
  refine lv_istore_n (lv' := [(2, .int (2 : Int32)), (0, .ref (zal G 16)), (1, .ref (zal G 21))]) C.1 C.2.1 dX5_valueOf_1 rfl hl (by decide) rfl (fun ls hl => ?_)
  refine lv_iconst (v := (0 : Int32)) C.1 C.2.1 dX5_valueOf_2 rfl ?_
  refine lv_istore_n (lv' := [(3, .int (0 : Int32)), (2, .int (2 : Int32)), (0, .ref (zal G 16)), (1, .ref (zal G 21))]) C.1 C.2.1 dX5_valueOf_3 rfl hl (by decide) rfl (fun ls hl => ?_)
  exact w_X5_valueOf_r21_4 C hm hk  zN _ _ _ _ _ _ (lv_sub hl [2, 3, 1, 0] rfl) hS hf
end
section
theorem dX4_laughOf_0 : decode cX4_laughOf 0 = .ok (.iload_n 1, 1) := by decide +kernel
theorem dX4_laughOf_1 : decode cX4_laughOf 1 = .ok (.iload_n 2, 1) := by decide +kernel
theorem dX4_laughOf_2 : decode cX4_laughOf 2 = .ok (.invokestatic 77, 3) := by decide +kernel
theorem dX4_laughOf_5 : decode cX4_laughOf 5 = .ok (.istore 4, 2) := by decide +kernel
theorem dX4_laughOf_7 : decode cX4_laughOf 7 = .ok (.aload_n 0, 1) := by decide +kernel
theorem dX4_laughOf_8 : decode cX4_laughOf 8 = .ok (.getfield 28, 3) := by decide +kernel
theorem dX4_laughOf_11 : decode cX4_laughOf 11 = .ok (.getfield 81, 3) := by decide +kernel
theorem dX4_laughOf_14 : decode cX4_laughOf 14 = .ok (.iload 4, 2) := by decide +kernel
theorem dX4_laughOf_16 : decode cX4_laughOf 16 = .ok (.iaload, 1) := by decide +kernel
theorem dX4_laughOf_17 : decode cX4_laughOf 17 = .ok (.iload_n 3, 1) := by decide +kernel
theorem dX4_laughOf_18 : decode cX4_laughOf 18 = .ok (.iadd, 1) := by decide +kernel
theorem dX4_laughOf_19 : decode cX4_laughOf 19 = .ok (.istore 5, 2) := by decide +kernel
theorem dX4_laughOf_21 : decode cX4_laughOf 21 = .ok (.iload_n 3, 1) := by decide +kernel
theorem dX4_laughOf_22 : decode cX4_laughOf 22 = .ok (.ifCond .le 7, 3) := by decide +kernel
theorem dX4_laughOf_25 : decode cX4_laughOf 25 = .ok (.iconst 0, 1) := by decide +kernel
theorem dX4_laughOf_26 : decode cX4_laughOf 26 = .ok (.goto 21, 3) := by decide +kernel
theorem dX4_laughOf_29 : decode cX4_laughOf 29 = .ok (.aload_n 0, 1) := by decide +kernel
theorem dX4_laughOf_30 : decode cX4_laughOf 30 = .ok (.getfield 28, 3) := by decide +kernel
theorem dX4_laughOf_33 : decode cX4_laughOf 33 = .ok (.getfield 84, 3) := by decide +kernel
theorem dX4_laughOf_36 : decode cX4_laughOf 36 = .ok (.aload_n 0, 1) := by decide +kernel
theorem dX4_laughOf_37 : decode cX4_laughOf 37 = .ok (.getfield 28, 3) := by decide +kernel
theorem dX4_laughOf_40 : decode cX4_laughOf 40 = .ok (.getfield 87, 3) := by decide +kernel
theorem dX4_laughOf_43 : decode cX4_laughOf 43 = .ok (.iload 4, 2) := by decide +kernel
theorem dX4_laughOf_45 : decode cX4_laughOf 45 = .ok (.iaload, 1) := by decide +kernel
theorem dX4_laughOf_46 : decode cX4_laughOf 46 = .ok (.isub, 1) := by decide +kernel
theorem dX4_laughOf_47 : decode cX4_laughOf 47 = .ok (.istore 6, 2) := by decide +kernel
theorem dX4_laughOf_49 : decode cX4_laughOf 49 = .ok (.aload_n 0, 1) := by decide +kernel
theorem dX4_laughOf_50 : decode cX4_laughOf 50 = .ok (.getfield 43, 3) := by decide +kernel
theorem dX4_laughOf_53 : decode cX4_laughOf 53 = .ok (.iconst 0, 1) := by decide +kernel
theorem dX4_laughOf_54 : decode cX4_laughOf 54 = .ok (.aload_n 0, 1) := by decide +kernel
theorem dX4_laughOf_55 : decode cX4_laughOf 55 = .ok (.getfield 12, 3) := by decide +kernel
theorem dX4_laughOf_58 : decode cX4_laughOf 58 = .ok (.getfield 90, 3) := by decide +kernel
theorem dX4_laughOf_61 : decode cX4_laughOf 61 = .ok (.iload_n 1, 1) := by decide +kernel
theorem dX4_laughOf_62 : decode cX4_laughOf 62 = .ok (.iaload, 1) := by decide +kernel
theorem dX4_laughOf_63 : decode cX4_laughOf 63 = .ok (.iastore, 1) := by decide +kernel
theorem dX4_laughOf_64 : decode cX4_laughOf 64 = .ok (.aload_n 0, 1) := by decide +kernel
theorem dX4_laughOf_65 : decode cX4_laughOf 65 = .ok (.getfield 43, 3) := by decide +kernel
theorem dX4_laughOf_68 : decode cX4_laughOf 68 = .ok (.iconst 1, 1) := by decide +kernel
theorem dX4_laughOf_69 : decode cX4_laughOf 69 = .ok (.aload_n 0, 1) := by decide +kernel
theorem dX4_laughOf_70 : decode cX4_laughOf 70 = .ok (.getfield 12, 3) := by decide +kernel
theorem dX4_laughOf_73 : decode cX4_laughOf 73 = .ok (.getfield 90, 3) := by decide +kernel
theorem dX4_laughOf_76 : decode cX4_laughOf 76 = .ok (.iload_n 2, 1) := by decide +kernel
theorem dX4_laughOf_77 : decode cX4_laughOf 77 = .ok (.iaload, 1) := by decide +kernel
theorem dX4_laughOf_78 : decode cX4_laughOf 78 = .ok (.iastore, 1) := by decide +kernel
theorem dX4_laughOf_79 : decode cX4_laughOf 79 = .ok (.aload_n 0, 1) := by decide +kernel
theorem dX4_laughOf_80 : decode cX4_laughOf 80 = .ok (.getfield 43, 3) := by decide +kernel
theorem dX4_laughOf_83 : decode cX4_laughOf 83 = .ok (.iconst 2, 1) := by decide +kernel
theorem dX4_laughOf_84 : decode cX4_laughOf 84 = .ok (.aload_n 0, 1) := by decide +kernel
theorem dX4_laughOf_85 : decode cX4_laughOf 85 = .ok (.getfield 12, 3) := by decide +kernel
theorem dX4_laughOf_88 : decode cX4_laughOf 88 = .ok (.getfield 93, 3) := by decide +kernel
theorem dX4_laughOf_91 : decode cX4_laughOf 91 = .ok (.iload_n 1, 1) := by decide +kernel
theorem dX4_laughOf_92 : decode cX4_laughOf 92 = .ok (.iaload, 1) := by decide +kernel
theorem dX4_laughOf_93 : decode cX4_laughOf 93 = .ok (.aload_n 0, 1) := by decide +kernel
theorem dX4_laughOf_94 : decode cX4_laughOf 94 = .ok (.getfield 12, 3) := by decide +kernel
theorem dX4_laughOf_97 : decode cX4_laughOf 97 = .ok (.getfield 93, 3) := by decide +kernel
theorem dX4_laughOf_100 : decode cX4_laughOf 100 = .ok (.iload_n 2, 1) := by decide +kernel
theorem dX4_laughOf_101 : decode cX4_laughOf 101 = .ok (.iaload, 1) := by decide +kernel
theorem dX4_laughOf_102 : decode cX4_laughOf 102 = .ok (.if_icmp .ne 7, 3) := by decide +kernel
theorem dX4_laughOf_105 : decode cX4_laughOf 105 = .ok (.iconst 1, 1) := by decide +kernel
theorem dX4_laughOf_106 : decode cX4_laughOf 106 = .ok (.goto 4, 3) := by decide +kernel
theorem dX4_laughOf_109 : decode cX4_laughOf 109 = .ok (.iconst 0, 1) := by decide +kernel
theorem dX4_laughOf_110 : decode cX4_laughOf 110 = .ok (.iastore, 1) := by decide +kernel
theorem dX4_laughOf_111 : decode cX4_laughOf 111 = .ok (.aload_n 0, 1) := by decide +kernel
theorem dX4_laughOf_112 : decode cX4_laughOf 112 = .ok (.getfield 43, 3) := by decide +kernel
theorem dX4_laughOf_115 : decode cX4_laughOf 115 = .ok (.iconst 3, 1) := by decide +kernel
theorem dX4_laughOf_116 : decode cX4_laughOf 116 = .ok (.iload 5, 2) := by decide +kernel
theorem dX4_laughOf_118 : decode cX4_laughOf 118 = .ok (.iastore, 1) := by decide +kernel
theorem dX4_laughOf_119 : decode cX4_laughOf 119 = .ok (.aload_n 0, 1) := by decide +kernel
theorem dX4_laughOf_120 : decode cX4_laughOf 120 = .ok (.getfield 43, 3) := by decide +kernel
theorem dX4_laughOf_123 : decode cX4_laughOf 123 = .ok (.iconst 4, 1) := by decide +kernel
theorem dX4_laughOf_124 : decode cX4_laughOf 124 = .ok (.iload 5, 2) := by decide +kernel
theorem dX4_laughOf_126 : decode cX4_laughOf 126 = .ok (.ifCond .ne 9, 3) := by decide +kernel
theorem dX4_laughOf_129 : decode cX4_laughOf 129 = .ok (.sipush 9999, 3) := by decide +kernel
theorem dX4_laughOf_132 : decode cX4_laughOf 132 = .ok (.goto 5, 3) := by decide +kernel
theorem dX4_laughOf_135 : decode cX4_laughOf 135 = .ok (.iload 6, 2) := by decide +kernel
theorem dX4_laughOf_137 : decode cX4_laughOf 137 = .ok (.iastore, 1) := by decide +kernel
theorem dX4_laughOf_138 : decode cX4_laughOf 138 = .ok (.aload_n 0, 1) := by decide +kernel
theorem dX4_laughOf_139 : decode cX4_laughOf 139 = .ok (.getfield 43, 3) := by decide +kernel
theorem dX4_laughOf_142 : decode cX4_laughOf 142 = .ok (.iconst 5, 1) := by decide +kernel
theorem dX4_laughOf_143 : decode cX4_laughOf 143 = .ok (.aload_n 0, 1) := by decide +kernel
theorem dX4_laughOf_144 : decode cX4_laughOf 144 = .ok (.getfield 28, 3) := by decide +kernel
theorem dX4_laughOf_147 : decode cX4_laughOf 147 = .ok (.getfield 84, 3) := by decide +kernel
theorem dX4_laughOf_150 : decode cX4_laughOf 150 = .ok (.iastore, 1) := by decide +kernel
theorem dX4_laughOf_151 : decode cX4_laughOf 151 = .ok (.aload_n 0, 1) := by decide +kernel
theorem dX4_laughOf_152 : decode cX4_laughOf 152 = .ok (.getfield 43, 3) := by decide +kernel
theorem dX4_laughOf_155 : decode cX4_laughOf 155 = .ok (.bipush 6, 2) := by decide +kernel
theorem dX4_laughOf_157 : decode cX4_laughOf 157 = .ok (.aload_n 0, 1) := by decide +kernel
theorem dX4_laughOf_158 : decode cX4_laughOf 158 = .ok (.getfield 12, 3) := by decide +kernel
theorem dX4_laughOf_161 : decode cX4_laughOf 161 = .ok (.getfield 93, 3) := by decide +kernel
theorem dX4_laughOf_164 : decode cX4_laughOf 164 = .ok (.iload_n 1, 1) := by decide +kernel
theorem dX4_laughOf_165 : decode cX4_laughOf 165 = .ok (.iaload, 1) := by decide +kernel
theorem dX4_laughOf_166 : decode cX4_laughOf 166 = .ok (.iastore, 1) := by decide +kernel
theorem dX4_laughOf_167 : decode cX4_laughOf 167 = .ok (.aload_n 0, 1) := by decide +kernel
theorem dX4_laughOf_168 : decode cX4_laughOf 168 = .ok (.getfield 35, 3) := by decide +kernel
theorem dX4_laughOf_171 : decode cX4_laughOf 171 = .ok (.aload_n 0, 1) := by decide +kernel
theorem dX4_laughOf_172 : decode cX4_laughOf 172 = .ok (.getfield 43, 3) := by decide +kernel
theorem dX4_laughOf_175 : decode cX4_laughOf 175 = .ok (.invokevirtual 96, 3) := by decide +kernel
theorem dX4_laughOf_178 : decode cX4_laughOf 178 = .ok (.ireturn, 1) := by decide +kernel
abbrev nd_X4_laughOf : List Nat := [1, 2, 4, 5, 11, 12, 13, 16, 17, 18, 19, 21]
abbrev ld_X4_laughOf : List (Nat × Nat) := [(1, 0), (1, 2), (1, 3), (1, 5), (2, 1), (2, 2), (11, 0), (11, 1), (16, 0), (16, 1), (16, 2)]
theorem sn_X4_laughOf_X11_pairOf : ∀ c ∈ nd_X11_pairOf, c ∈ nd_X4_laughOf := by decide
theorem sl_X4_laughOf_X11_pairOf : ∀ q ∈ ld_X11_pairOf, q ∈ ld_X4_laughOf := by decide
theorem sn_X4_laughOf_X5_valueOf_r21 : ∀ c ∈ nd_X5_valueOf_r21, c ∈ nd_X4_laughOf := by decide
theorem sl_X4_laughOf_X5_valueOf_r21 : ∀ q ∈ ld_X5_valueOf_r21, q ∈ ld_X4_laughOf := by decide
def f_X4_laughOf_137  (x1 : Int32) (s0 : Int32) (s1 : Int32) (h : zH) : zR := (zck s1 7 (zst (zup h 21 (Int32.toNatClampNeg s1) s0) fun h8 => (zst (zup h8 21 5 (h8 11 5)) fun h9 => (zck x1 16 (zst (zup h9 21 6 (h9 4 (Int32.toNatClampNeg x1))) fun h10 => (zbd (f_X5_valueOf_r21  h10) fun r11 h12 => (some (r11, h12))))))))
def f_X4_laughOf_110  (x1 : Int32) (x5 : Int32) (x6 : Int32) (s0 : Int32) (s1 : Int32) (h : zH) : zR := (zck s1 7 (zst (zup h 21 (Int32.toNatClampNeg s1) s0) fun h6 => (zst (zup h6 21 3 x5) fun h7 => (if x5 = 0 then (f_X4_laughOf_137  x1 (9999 : Int32) (4 : Int32) h7) else (f_X4_laughOf_137  x1 x6 (4 : Int32) h7)))))
def f_X4_laughOf_47  (x1 : Int32) (x2 : Int32) (x5 : Int32) (s0 : Int32) (h : zH) : zR := (zck x1 16 (zst (zup h 21 0 (h 5 (Int32.toNatClampNeg x1))) fun h4 => (zck x2 16 (zst (zup h4 21 1 (h4 5 (Int32.toNatClampNeg x2))) fun h5 => (zck x1 16 (zck x2 16 (if (h5 4 (Int32.toNatClampNeg x1)) = (h5 4 (Int32.toNatClampNeg x2)) then (f_X4_laughOf_110  x1 x5 s0 (1 : Int32) (2 : Int32) h5) else (f_X4_laughOf_110  x1 x5 s0 (0 : Int32) (2 : Int32) h5))))))))
def f_X4_laughOf  (x1 : Int32) (x2 : Int32) (x3 : Int32) (h : zH) : zR := (zbd (f_X11_pairOf x1 x2 h) fun r1 h2 => (zck r1 256 (zlt ((h2 12 (Int32.toNatClampNeg r1)) + x3) fun y3 => (if x3 ≤ 0 then (zck r1 256 (f_X4_laughOf_47  x1 x2 y3 ((h2 11 5) - (h2 13 (Int32.toNatClampNeg r1))) h2)) else (f_X4_laughOf_47  x1 x2 y3 (0 : Int32) h2)))))
variable {p : Program} {l : Launch} {e : Env} {s : State} {m : MethodId} {args : Array Value} {below : List Frame} {meth : Method} {c : Code} {G : zG} {q : Int32 × zH}
set_option maxHeartbeats 4000000 in
set_option maxRecDepth 100000 in
theorem w_X4_laughOf_137  (C : zC G p s m args meth c cX4_laughOf 7 RX4 (some .int)) (hm : ∀ c ∈ nd_X4_laughOf, c ∈ znm G) (hk : ∀ q ∈ ld_X4_laughOf, zlk G q.1 q.2 = true)  : ∀ (ls : Array Slot) (H : Heap) (locs : List Loc) (h : zH) (x1 : Int32) (s0 : Int32) (s1 : Int32), lv_has ls 7 [(0, .ref (zal G 1)), (1, .int x1)] → zS G h s.heap H locs → f_X4_laughOf_137  x1 s0 s1 h = some q → W p l e (zrm (4)) s m args below meth c H locs 0 0 (MQ below (zQI G q.2 q.1) args s 0 0 (zA G)) (F0 m 137 ls [.int s0, .int s1, .ref (zal G 21)]) := by
  intro ls H locs h x1 s0 s1 hl hS hf
  unfold f_X4_laughOf_137 at hf
  obtain ⟨hi, hf⟩ := zck_some hf
  refine zast C hS sh_21 (hm 21 (by decide)) hi dX4_laughOf_137 (fun H locs hS => ?_)
  obtain ⟨h8, eh8, hf⟩ := zst_some hf
  have hS : zS G h8 s.heap H locs := by rw [eh8]; exact hS
  refine lv_aload_n C.1 C.2.1 dX4_laughOf_138 rfl (lv_at hl 0 rfl) ?_
  refine zgetR C hS ff_X4_43_1 (hm 1 (by decide)) (hk (1, 5) (by decide)) dX4_laughOf_139 ?_
  refine lv_iconst (v := (5 : Int32)) C.1 C.2.1 dX4_laughOf_142 rfl ?_
  refine lv_aload_n C.1 C.2.1 dX4_laughOf_143 rfl (lv_at hl 0 rfl) ?_
  refine zgetR C hS ff_X4_28_1 (hm 1 (by decide)) (hk (1, 2) (by decide)) dX4_laughOf_144 ?_
  refine zgetI C hS ff_X4_84_11 (hm 11 (by decide)) dX4_laughOf_147 ?_
  refine zast C hS sh_21 (hm 21 (by decide)) (vp_in_iff.mpr (by decide)) dX4_laughOf_150 (fun H locs hS => ?_)
  obtain ⟨h9, eh9, hf⟩ := zst_some hf
  have hS : zS G h9 s.heap H locs := by rw [eh9]; exact hS
  refine lv_aload_n C.1 C.2.1 dX4_laughOf_151 rfl (lv_at hl 0 rfl) ?_
  refine zgetR C hS ff_X4_43_1 (hm 1 (by decide)) (hk (1, 5) (by decide)) dX4_laughOf_152 ?_
  refine lv_bipush (v := (6 : Int32)) C.1 C.2.1 dX4_laughOf_155 rfl ?_
  refine lv_aload_n C.1 C.2.1 dX4_laughOf_157 rfl (lv_at hl 0 rfl) ?_
  refine zgetR C hS ff_X4_12_1 (hm 1 (by decide)) (hk (1, 0) (by decide)) dX4_laughOf_158 ?_
  refine zgetR C hS ff_X4_93_2 (hm 2 (by decide)) (hk (2, 1) (by decide)) dX4_laughOf_161 ?_
  refine lv_iload_n C.1 C.2.1 dX4_laughOf_164 rfl (lv_at hl 1 rfl) ?_
  obtain ⟨hi, hf⟩ := zck_some hf
  refine zald C hS sh_4 (hm 4 (by decide)) hi dX4_laughOf_165 ?_
  refine zast C hS sh_21 (hm 21 (by decide)) (vp_in_iff.mpr (by decide)) dX4_laughOf_166 (fun H locs hS => ?_)
  obtain ⟨h10, eh10, hf⟩ := zst_some hf
  have hS : zS G h10 s.heap H locs := by rw [eh10]; exact hS
  refine lv_aload_n C.1 C.2.1 dX4_laughOf_167 rfl (lv_at hl 0 rfl) ?_
  refine zgetR C hS ff_X4_35_1 (hm 1 (by decide)) (hk (1, 3) (by decide)) dX4_laughOf_168 ?_
  refine lv_aload_n C.1 C.2.1 dX4_laughOf_171 rfl (lv_at hl 0 rfl) ?_
  refine zgetR C hS ff_X4_43_1 (hm 1 (by decide)) (hk (1, 5) (by decide)) dX4_laughOf_172 ?_
  obtain ⟨r11, h12, er11, hf⟩ := zbd_some hf
  refine zcallVI (As := [.ref (zal G 21)]) (rest := []) C hS mv_X4_96 (c_X5_valueOf_r21 l G h10  (r11, h12) (fun c h => hm c (sn_X4_laughOf_X5_valueOf_r21 c h)) (fun q h => hk q (sl_X4_laughOf_X5_valueOf_r21 q h)) er11) (hm 16 (by decide)) ⟨_, _, _, sh_16, rfl, rfl⟩ rfl rfl (Nat.le_of_ble_eq_true rfl) hl.1 ⟨Nat.le_of_ble_eq_true rfl, Nat.le_of_ble_eq_true rfl, Nat.le_of_ble_eq_true rfl, Nat.le_of_ble_eq_true rfl⟩ dX4_laughOf_175 (fun H locs hS => ?_)
  exact zretI C hS hf dX4_laughOf_178
set_option maxHeartbeats 4000000 in
set_option maxRecDepth 100000 in
theorem w_X4_laughOf_110  (C : zC G p s m args meth c cX4_laughOf 7 RX4 (some .int)) (hm : ∀ c ∈ nd_X4_laughOf, c ∈ znm G) (hk : ∀ q ∈ ld_X4_laughOf, zlk G q.1 q.2 = true)  : ∀ (ls : Array Slot) (H : Heap) (locs : List Loc) (h : zH) (x1 : Int32) (x5 : Int32) (x6 : Int32) (s0 : Int32) (s1 : Int32), lv_has ls 7 [(0, .ref (zal G 1)), (1, .int x1), (5, .int x5), (6, .int x6)] → zS G h s.heap H locs → f_X4_laughOf_110  x1 x5 x6 s0 s1 h = some q → W p l e (zrm (4)) s m args below meth c H locs 0 0 (MQ below (zQI G q.2 q.1) args s 0 0 (zA G)) (F0 m 110 ls [.int s0, .int s1, .ref (zal G 21)]) := by
  intro ls H locs h x1 x5 x6 s0 s1 hl hS hf
  unfold f_X4_laughOf_110 at hf
  obtain ⟨hi, hf⟩ := zck_some hf
  refine zast C hS sh_21 (hm 21 (by decide)) hi dX4_laughOf_110 (fun H locs hS => ?_)
  obtain ⟨h6, eh6, hf⟩ := zst_some hf
  have hS : zS G h6 s.heap H locs := by rw [eh6]; exact hS
  refine lv_aload_n C.1 C.2.1 dX4_laughOf_111 rfl (lv_at hl 0 rfl) ?_
  refine zgetR C hS ff_X4_43_1 (hm 1 (by decide)) (hk (1, 5) (by decide)) dX4_laughOf_112 ?_
  refine lv_iconst (v := (3 : Int32)) C.1 C.2.1 dX4_laughOf_115 rfl ?_
  refine lv_iload C.1 C.2.1 dX4_laughOf_116 (lv_at hl 2 rfl) ?_
  refine zast C hS sh_21 (hm 21 (by decide)) (vp_in_iff.mpr (by decide)) dX4_laughOf_118 (fun H locs hS => ?_)
  obtain ⟨h7, eh7, hf⟩ := zst_some hf
  have hS : zS G h7 s.heap H locs := by rw [eh7]; exact hS
  refine lv_aload_n C.1 C.2.1 dX4_laughOf_119 rfl (lv_at hl 0 rfl) ?_
  refine zgetR C hS ff_X4_43_1 (hm 1 (by decide)) (hk (1, 5) (by decide)) dX4_laughOf_120 ?_
  refine lv_iconst (v := (4 : Int32)) C.1 C.2.1 dX4_laughOf_123 rfl ?_
  refine lv_iload C.1 C.2.1 dX4_laughOf_124 (lv_at hl 2 rfl) ?_
  refine lv_if_ne (tgt := 135) C.1 C.2.1 dX4_laughOf_126 (by decide) (fun hc => ?_) (fun hc => ?_)
  · have hf := zif_f hc hf
    refine lv_iload C.1 C.2.1 dX4_laughOf_135 (lv_at hl 3 rfl) ?_
    exact w_X4_laughOf_137 C hm hk  _ _ _ _ _ _ _ (lv_sub hl [0, 1] rfl) hS hf
  · have hf := zif_t hc hf
    refine lv_sipush (v := (9999 : Int32)) C.1 C.2.1 dX4_laughOf_129 rfl ?_
    refine lv_goto (tgt := 137) C.1 C.2.1 dX4_laughOf_132 (by decide) ?_
    exact w_X4_laughOf_137 C hm hk  _ _ _ _ _ _ _ (lv_sub hl [0, 1] rfl) hS hf
set_option maxHeartbeats 4000000 in
set_option maxRecDepth 100000 in
theorem w_X4_laughOf_47  (C : zC G p s m args meth c cX4_laughOf 7 RX4 (some .int)) (hm : ∀ c ∈ nd_X4_laughOf, c ∈ znm G) (hk : ∀ q ∈ ld_X4_laughOf, zlk G q.1 q.2 = true)  : ∀ (ls : Array Slot) (H : Heap) (locs : List Loc) (h : zH) (x1 : Int32) (x2 : Int32) (x5 : Int32) (s0 : Int32), lv_has ls 7 [(0, .ref (zal G 1)), (1, .int x1), (2, .int x2), (5, .int x5)] → zS G h s.heap H locs → f_X4_laughOf_47  x1 x2 x5 s0 h = some q → W p l e (zrm (4)) s m args below meth c H locs 0 0 (MQ below (zQI G q.2 q.1) args s 0 0 (zA G)) (F0 m 47 ls [.int s0]) := by
  intro ls H locs h x1 x2 x5 s0 hl hS hf
  unfold f_X4_laughOf_47 at hf
  refine lv_istore (lv' := [(6, .int s0), (0, .ref (zal G 1)), (1, .int x1), (2, .int x2), (5, .int x5)]) C.1 C.2.1 dX4_laughOf_47 hl (by decide) rfl (fun ls hl => ?_)
  refine lv_aload_n C.1 C.2.1 dX4_laughOf_49 rfl (lv_at hl 1 rfl) ?_
  refine zgetR C hS ff_X4_43_1 (hm 1 (by decide)) (hk (1, 5) (by decide)) dX4_laughOf_50 ?_
  refine lv_iconst (v := (0 : Int32)) C.1 C.2.1 dX4_laughOf_53 rfl ?_
  refine lv_aload_n C.1 C.2.1 dX4_laughOf_54 rfl (lv_at hl 1 rfl) ?_
  refine zgetR C hS ff_X4_12_1 (hm 1 (by decide)) (hk (1, 0) (by decide)) dX4_laughOf_55 ?_
  refine zgetR C hS ff_X4_90_2 (hm 2 (by decide)) (hk (2, 2) (by decide)) dX4_laughOf_58 ?_
  refine lv_iload_n C.1 C.2.1 dX4_laughOf_61 rfl (lv_at hl 2 rfl) ?_
  obtain ⟨hi, hf⟩ := zck_some hf
  refine zald C hS sh_5 (hm 5 (by decide)) hi dX4_laughOf_62 ?_
  refine zast C hS sh_21 (hm 21 (by decide)) (vp_in_iff.mpr (by decide)) dX4_laughOf_63 (fun H locs hS => ?_)
  obtain ⟨h4, eh4, hf⟩ := zst_some hf
  have hS : zS G h4 s.heap H locs := by rw [eh4]; exact hS
  refine lv_aload_n C.1 C.2.1 dX4_laughOf_64 rfl (lv_at hl 1 rfl) ?_
  refine zgetR C hS ff_X4_43_1 (hm 1 (by decide)) (hk (1, 5) (by decide)) dX4_laughOf_65 ?_
  refine lv_iconst (v := (1 : Int32)) C.1 C.2.1 dX4_laughOf_68 rfl ?_
  refine lv_aload_n C.1 C.2.1 dX4_laughOf_69 rfl (lv_at hl 1 rfl) ?_
  refine zgetR C hS ff_X4_12_1 (hm 1 (by decide)) (hk (1, 0) (by decide)) dX4_laughOf_70 ?_
  refine zgetR C hS ff_X4_90_2 (hm 2 (by decide)) (hk (2, 2) (by decide)) dX4_laughOf_73 ?_
  refine lv_iload_n C.1 C.2.1 dX4_laughOf_76 rfl (lv_at hl 3 rfl) ?_
  obtain ⟨hi, hf⟩ := zck_some hf
  refine zald C hS sh_5 (hm 5 (by decide)) hi dX4_laughOf_77 ?_
  refine zast C hS sh_21 (hm 21 (by decide)) (vp_in_iff.mpr (by decide)) dX4_laughOf_78 (fun H locs hS => ?_)
  obtain ⟨h5, eh5, hf⟩ := zst_some hf
  have hS : zS G h5 s.heap H locs := by rw [eh5]; exact hS
  refine lv_aload_n C.1 C.2.1 dX4_laughOf_79 rfl (lv_at hl 1 rfl) ?_
  refine zgetR C hS ff_X4_43_1 (hm 1 (by decide)) (hk (1, 5) (by decide)) dX4_laughOf_80 ?_
  refine lv_iconst (v := (2 : Int32)) C.1 C.2.1 dX4_laughOf_83 rfl ?_
  refine lv_aload_n C.1 C.2.1 dX4_laughOf_84 rfl (lv_at hl 1 rfl) ?_
  refine zgetR C hS ff_X4_12_1 (hm 1 (by decide)) (hk (1, 0) (by decide)) dX4_laughOf_85 ?_
  refine zgetR C hS ff_X4_93_2 (hm 2 (by decide)) (hk (2, 1) (by decide)) dX4_laughOf_88 ?_
  refine lv_iload_n C.1 C.2.1 dX4_laughOf_91 rfl (lv_at hl 2 rfl) ?_
  obtain ⟨hi, hf⟩ := zck_some hf
  refine zald C hS sh_4 (hm 4 (by decide)) hi dX4_laughOf_92 ?_
  refine lv_aload_n C.1 C.2.1 dX4_laughOf_93 rfl (lv_at hl 1 rfl) ?_
  refine zgetR C hS ff_X4_12_1 (hm 1 (by decide)) (hk (1, 0) (by decide)) dX4_laughOf_94 ?_
  refine zgetR C hS ff_X4_93_2 (hm 2 (by decide)) (hk (2, 1) (by decide)) dX4_laughOf_97 ?_
  refine lv_iload_n C.1 C.2.1 dX4_laughOf_100 rfl (lv_at hl 3 rfl) ?_
  obtain ⟨hi, hf⟩ := zck_some hf
  refine zald C hS sh_4 (hm 4 (by decide)) hi dX4_laughOf_101 ?_
  refine lv_icmp_ne (tgt := 109) C.1 C.2.1 dX4_laughOf_102 (by decide) (fun hc => ?_) (fun hc => ?_)
  · have hf := zif_f hc hf
    refine lv_iconst (v := (0 : Int32)) C.1 C.2.1 dX4_laughOf_109 rfl ?_
    exact w_X4_laughOf_110 C hm hk  _ _ _ _ _ _ _ _ _ (lv_sub hl [1, 2, 4, 0] rfl) hS hf
  · have hf := zif_t hc hf
    refine lv_iconst (v := (1 : Int32)) C.1 C.2.1 dX4_laughOf_105 rfl ?_
    refine lv_goto (tgt := 110) C.1 C.2.1 dX4_laughOf_106 (by decide) ?_
    exact w_X4_laughOf_110 C hm hk  _ _ _ _ _ _ _ _ _ (lv_sub hl [1, 2, 4, 0] rfl) hS hf
set_option maxHeartbeats 4000000 in
set_option maxRecDepth 100000 in
theorem c_X4_laughOf (l : Launch) (G : zG) (h : zH) (x1 : Int32) (x2 : Int32) (x3 : Int32) (q : Int32 × zH) (hm : ∀ c ∈ nd_X4_laughOf, c ∈ znm G) (hk : ∀ q ∈ ld_X4_laughOf, zlk G q.1 q.2 = true) (hf : f_X4_laughOf x1 x2 x3 h = some q) : zCtI l yX4_laughOf cX4_laughOf 7 (some .int) (4) [.ref (zal G 1), .int x1, .int x2, .int x3] G h q.2 q.1 := by
  refine zMetI (by decide) (Nat.le_of_ble_eq_true rfl) ?_
  intro p e s m below meth c ls C hl hS
  have hl : lv_has ls 7 [(0, .ref (zal G 1)), (1, .int x1), (2, .int x2), (3, .int x3)] := hl
  have C : zC G p s m [.ref (zal G 1), .int x1, .int x2, .int x3].toArray meth c cX4_laughOf 7 RX4 (some .int) := C
  unfold f_X4_laughOf at hf
  refine lv_iload_n C.1 C.2.1 dX4_laughOf_0 rfl (lv_at hl 1 rfl) ?_
  refine lv_iload_n C.1 C.2.1 dX4_laughOf_1 rfl (lv_at hl 2 rfl) ?_
  obtain ⟨r1, h2, er1, hf⟩ := zbd_some hf
  refine zcallNI (As := [.int x1, .int x2]) (rest := []) C hS mn_X4_77 (c_X11_pairOf l G h x1 x2 (r1, h2) (fun c h => hm c (sn_X4_laughOf_X11_pairOf c h)) (fun q h => hk q (sl_X4_laughOf_X11_pairOf q h)) er1) rfl rfl (Nat.le_of_ble_eq_true rfl) hl.1 ⟨Nat.le_of_ble_eq_true rfl, Nat.le_of_ble_eq_true rfl, Nat.le_of_ble_eq_true rfl, Nat.le_of_ble_eq_true rfl⟩ dX4_laughOf_2 (fun H locs hS => ?_)
  refine lv_istore (lv' := [(4, .int r1), (0, .ref (zal G 1)), (1, .int x1), (2, .int x2), (3, .int x3)]) C.1 C.2.1 dX4_laughOf_5 hl (by decide) rfl (fun ls hl => ?_)
  refine lv_aload_n C.1 C.2.1 dX4_laughOf_7 rfl (lv_at hl 1 rfl) ?_
  refine zgetR C hS ff_X4_28_1 (hm 1 (by decide)) (hk (1, 2) (by decide)) dX4_laughOf_8 ?_
  refine zgetR C hS ff_X4_81_11 (hm 11 (by decide)) (hk (11, 0) (by decide)) dX4_laughOf_11 ?_
  refine lv_iload C.1 C.2.1 dX4_laughOf_14 (lv_at hl 0 rfl) ?_
  obtain ⟨hi, hf⟩ := zck_some hf
  refine zald C hS sh_12 (hm 12 (by decide)) hi dX4_laughOf_16 ?_
  refine lv_iload_n C.1 C.2.1 dX4_laughOf_17 rfl (lv_at hl 4 rfl) ?_
  refine lv_iadd C.1 C.2.1 dX4_laughOf_18 ?_
  obtain ⟨y3, ey3, hf⟩ := zlt_some hf
  refine ztop ey3 ?_
  refine lv_istore (lv' := [(5, .int y3), (4, .int r1), (0, .ref (zal G 1)), (1, .int x1), (2, .int x2), (3, .int x3)]) C.1 C.2.1 dX4_laughOf_19 hl (by decide) rfl (fun ls hl => ?_)
  refine lv_iload_n C.1 C.2.1 dX4_laughOf_21 rfl (lv_at hl 5 rfl) ?_
  refine lv_if_le (tgt := 29) C.1 C.2.1 dX4_laughOf_22 (by decide) (fun hc => ?_) (fun hc => ?_)
  · have hf := zif_t hc hf
    refine lv_aload_n C.1 C.2.1 dX4_laughOf_29 rfl (lv_at hl 2 rfl) ?_
    refine zgetR C hS ff_X4_28_1 (hm 1 (by decide)) (hk (1, 2) (by decide)) dX4_laughOf_30 ?_
    refine zgetI C hS ff_X4_84_11 (hm 11 (by decide)) dX4_laughOf_33 ?_
    refine lv_aload_n C.1 C.2.1 dX4_laughOf_36 rfl (lv_at hl 2 rfl) ?_
    refine zgetR C hS ff_X4_28_1 (hm 1 (by decide)) (hk (1, 2) (by decide)) dX4_laughOf_37 ?_
    refine zgetR C hS ff_X4_87_11 (hm 11 (by decide)) (hk (11, 1) (by decide)) dX4_laughOf_40 ?_
    refine lv_iload C.1 C.2.1 dX4_laughOf_43 (lv_at hl 1 rfl) ?_
    obtain ⟨hi, hf⟩ := zck_some hf
    refine zald C hS sh_13 (hm 13 (by decide)) hi dX4_laughOf_45 ?_
    refine lv_isub C.1 C.2.1 dX4_laughOf_46 ?_
    exact w_X4_laughOf_47 C hm hk  _ _ _ _ _ _ _ _ (lv_sub hl [2, 3, 4, 0] rfl) hS hf
  · have hf := zif_f hc hf
    refine lv_iconst (v := (0 : Int32)) C.1 C.2.1 dX4_laughOf_25 rfl ?_
    refine lv_goto (tgt := 47) C.1 C.2.1 dX4_laughOf_26 (by decide) ?_
    exact w_X4_laughOf_47 C hm hk  _ _ _ _ _ _ _ _ (lv_sub hl [2, 3, 4, 0] rfl) hS hf
end
section
theorem dX11_laugh_0 : decode cX11_laugh 0 = .ok (.aload_n 0, 1) := by decide +kernel
theorem dX11_laugh_1 : decode cX11_laugh 1 = .ok (.iload_n 1, 1) := by decide +kernel
theorem dX11_laugh_2 : decode cX11_laugh 2 = .ok (.iload_n 2, 1) := by decide +kernel
theorem dX11_laugh_3 : decode cX11_laugh 3 = .ok (.invokevirtual 182, 3) := by decide +kernel
theorem dX11_laugh_6 : decode cX11_laugh 6 = .ok (.ifCond .eq 16, 3) := by decide +kernel
theorem dX11_laugh_9 : decode cX11_laugh 9 = .ok (.aload_n 0, 1) := by decide +kernel
theorem dX11_laugh_10 : decode cX11_laugh 10 = .ok (.getfield 12, 3) := by decide +kernel
theorem dX11_laugh_13 : decode cX11_laugh 13 = .ok (.iload_n 1, 1) := by decide +kernel
theorem dX11_laugh_14 : decode cX11_laugh 14 = .ok (.iload_n 2, 1) := by decide +kernel
theorem dX11_laugh_15 : decode cX11_laugh 15 = .ok (.iconst 0, 1) := by decide +kernel
theorem dX11_laugh_16 : decode cX11_laugh 16 = .ok (.invokevirtual 185, 3) := by decide +kernel
theorem dX11_laugh_19 : decode cX11_laugh 19 = .ok (.goto 4, 3) := by decide +kernel
theorem dX11_laugh_22 : decode cX11_laugh 22 = .ok (.iconst (-1), 1) := by decide +kernel
theorem dX11_laugh_23 : decode cX11_laugh 23 = .ok (.ireturn, 1) := by decide +kernel
abbrev nd_X11_laugh : List Nat := [0, 1, 2, 3, 4, 5, 11, 12, 13, 16, 17, 18, 19, 21]
abbrev ld_X11_laugh : List (Nat × Nat) := [(0, 0), (1, 0), (1, 2), (1, 3), (1, 5), (2, 0), (2, 1), (2, 2), (11, 0), (11, 1), (16, 0), (16, 1), (16, 2)]
theorem sn_X11_laugh_X11_arePair : ∀ c ∈ nd_X11_arePair, c ∈ nd_X11_laugh := by decide
theorem sl_X11_laugh_X11_arePair : ∀ q ∈ ld_X11_arePair, q ∈ ld_X11_laugh := by decide
theorem sn_X11_laugh_X4_laughOf : ∀ c ∈ nd_X4_laughOf, c ∈ nd_X11_laugh := by decide
theorem sl_X11_laugh_X4_laughOf : ∀ q ∈ ld_X4_laughOf, q ∈ ld_X11_laugh := by decide
def f_X11_laugh  (x1 : Int32) (x2 : Int32) (h : zH) : zR := (zbd (f_X11_arePair x1 x2 h) fun r1 h2 => (if r1 = 0 then (some ((-1 : Int32), h2)) else (zbd (f_X4_laughOf x1 x2 (0 : Int32) h2) fun r3 h4 => (some (r3, h4)))))
variable {p : Program} {l : Launch} {e : Env} {s : State} {m : MethodId} {args : Array Value} {below : List Frame} {meth : Method} {c : Code} {G : zG} {q : Int32 × zH}
set_option maxHeartbeats 4000000 in
set_option maxRecDepth 100000 in
theorem c_X11_laugh (l : Launch) (G : zG) (h : zH) (x1 : Int32) (x2 : Int32) (q : Int32 × zH) (hm : ∀ c ∈ nd_X11_laugh, c ∈ znm G) (hk : ∀ q ∈ ld_X11_laugh, zlk G q.1 q.2 = true) (hf : f_X11_laugh x1 x2 h = some q) : zCtI l yX11_laugh cX11_laugh 3 (some .int) (6) [.ref (zal G 0), .int x1, .int x2] G h q.2 q.1 := by
  refine zMetI (by decide) (Nat.le_of_ble_eq_true rfl) ?_
  intro p e s m below meth c ls C hl hS
  have hl : lv_has ls 3 [(0, .ref (zal G 0)), (1, .int x1), (2, .int x2)] := hl
  have C : zC G p s m [.ref (zal G 0), .int x1, .int x2].toArray meth c cX11_laugh 3 RX11 (some .int) := C
  unfold f_X11_laugh at hf
  refine lv_aload_n C.1 C.2.1 dX11_laugh_0 rfl (lv_at hl 0 rfl) ?_
  refine lv_iload_n C.1 C.2.1 dX11_laugh_1 rfl (lv_at hl 1 rfl) ?_
  refine lv_iload_n C.1 C.2.1 dX11_laugh_2 rfl (lv_at hl 2 rfl) ?_
  obtain ⟨r1, h2, er1, hf⟩ := zbd_some hf
  refine zcallVI (As := [.int x1, .int x2]) (rest := []) C hS mv_X11_182 (c_X11_arePair l G h x1 x2 (r1, h2) (fun c h => hm c (sn_X11_laugh_X11_arePair c h)) (fun q h => hk q (sl_X11_laugh_X11_arePair q h)) er1) (hm 0 (by decide)) ⟨_, _, _, sh_0, rfl, rfl⟩ rfl rfl (Nat.le_of_ble_eq_true rfl) hl.1 ⟨Nat.le_of_ble_eq_true rfl, Nat.le_of_ble_eq_true rfl, Nat.le_of_ble_eq_true rfl, Nat.le_of_ble_eq_true rfl⟩ dX11_laugh_3 (fun H locs hS => ?_)
  refine lv_if_eq (tgt := 22) C.1 C.2.1 dX11_laugh_6 (by decide) (fun hc => ?_) (fun hc => ?_)
  · have hf := zif_t hc hf
    refine lv_iconst (v := (-1 : Int32)) C.1 C.2.1 dX11_laugh_22 rfl ?_
    exact zretI C hS hf dX11_laugh_23
  · have hf := zif_f hc hf
    refine lv_aload_n C.1 C.2.1 dX11_laugh_9 rfl (lv_at hl 0 rfl) ?_
    refine zgetR C hS ff_X11_12_0 (hm 0 (by decide)) (hk (0, 0) (by decide)) dX11_laugh_10 ?_
    refine lv_iload_n C.1 C.2.1 dX11_laugh_13 rfl (lv_at hl 1 rfl) ?_
    refine lv_iload_n C.1 C.2.1 dX11_laugh_14 rfl (lv_at hl 2 rfl) ?_
    refine lv_iconst (v := (0 : Int32)) C.1 C.2.1 dX11_laugh_15 rfl ?_
    obtain ⟨r3, h4, er3, hf⟩ := zbd_some hf
    refine zcallVI (As := [.int x1, .int x2, .int (0 : Int32)]) (rest := []) C hS mv_X11_185 (c_X4_laughOf l G h2 x1 x2 (0 : Int32) (r3, h4) (fun c h => hm c (sn_X11_laugh_X4_laughOf c h)) (fun q h => hk q (sl_X11_laugh_X4_laughOf q h)) er3) (hm 1 (by decide)) ⟨_, _, _, sh_1, rfl, rfl⟩ rfl rfl (Nat.le_of_ble_eq_true rfl) hl.1 ⟨Nat.le_of_ble_eq_true rfl, Nat.le_of_ble_eq_true rfl, Nat.le_of_ble_eq_true rfl, Nat.le_of_ble_eq_true rfl⟩ dX11_laugh_16 (fun H locs hS => ?_)
    refine lv_goto (tgt := 23) C.1 C.2.1 dX11_laugh_19 (by decide) ?_
    exact zretI C hS hf dX11_laugh_23
end
section
theorem dX3_setOn_0 : decode cX3_setOn 0 = .ok (.iconst 0, 1) := by decide +kernel
theorem dX3_setOn_1 : decode cX3_setOn 1 = .ok (.istore_n 2, 1) := by decide +kernel
theorem dX3_setOn_2 : decode cX3_setOn 2 = .ok (.iconst 0, 1) := by decide +kernel
theorem dX3_setOn_3 : decode cX3_setOn 3 = .ok (.istore_n 3, 1) := by decide +kernel
theorem dX3_setOn_4 : decode cX3_setOn 4 = .ok (.iload_n 3, 1) := by decide +kernel
theorem dX3_setOn_5 : decode cX3_setOn 5 = .ok (.aload_n 0, 1) := by decide +kernel
theorem dX3_setOn_6 : decode cX3_setOn 6 = .ok (.getfield 30, 3) := by decide +kernel
theorem dX3_setOn_9 : decode cX3_setOn 9 = .ok (.if_icmp .ge 25, 3) := by decide +kernel
theorem dX3_setOn_12 : decode cX3_setOn 12 = .ok (.aload_n 0, 1) := by decide +kernel
theorem dX3_setOn_13 : decode cX3_setOn 13 = .ok (.getfield 9, 3) := by decide +kernel
theorem dX3_setOn_16 : decode cX3_setOn 16 = .ok (.iload_n 3, 1) := by decide +kernel
theorem dX3_setOn_17 : decode cX3_setOn 17 = .ok (.iaload, 1) := by decide +kernel
theorem dX3_setOn_18 : decode cX3_setOn 18 = .ok (.iload_n 1, 1) := by decide +kernel
theorem dX3_setOn_19 : decode cX3_setOn 19 = .ok (.if_icmp .ne 9, 3) := by decide +kernel
theorem dX3_setOn_22 : decode cX3_setOn 22 = .ok (.iload_n 2, 1) := by decide +kernel
theorem dX3_setOn_23 : decode cX3_setOn 23 = .ok (.iconst 1, 1) := by decide +kernel
theorem dX3_setOn_24 : decode cX3_setOn 24 = .ok (.iload_n 3, 1) := by decide +kernel
theorem dX3_setOn_25 : decode cX3_setOn 25 = .ok (.ishl, 1) := by decide +kernel
theorem dX3_setOn_26 : decode cX3_setOn 26 = .ok (.ior, 1) := by decide +kernel
theorem dX3_setOn_27 : decode cX3_setOn 27 = .ok (.istore_n 2, 1) := by decide +kernel
theorem dX3_setOn_28 : decode cX3_setOn 28 = .ok (.iinc 3 1, 3) := by decide +kernel
theorem dX3_setOn_31 : decode cX3_setOn 31 = .ok (.goto (-27), 3) := by decide +kernel
theorem dX3_setOn_34 : decode cX3_setOn 34 = .ok (.iload_n 2, 1) := by decide +kernel
theorem dX3_setOn_35 : decode cX3_setOn 35 = .ok (.ireturn, 1) := by decide +kernel
abbrev nd_X3_setOn : List Nat := [2, 3]
abbrev ld_X3_setOn : List (Nat × Nat) := [(2, 0)]
def f_X3_setOn_28 (k4 : Int32 → Int32 → Int32 → zH → zR) (x1 : Int32) (x2 : Int32) (x3 : Int32) (h : zH) : zR := (zlt (x3 + (1 : Int32)) fun y1 => (k4 x1 x2 y1 h))
def f_X3_setOn_4  : Nat → Int32 → Int32 → Int32 → zH → zR
  | 0 => fun _ _ _ _ => none
  | n + 1 => fun x1 x2 x3 h => (if (h 2 4) ≤ x3 then (some (x2, h)) else (zck x3 16 (if (h 3 (Int32.toNatClampNeg x3)) = x1 then (zlt (x2 ||| ((1 : Int32) <<< (x3 &&& 31))) fun y2 => (f_X3_setOn_28 (f_X3_setOn_4  n) x1 y2 x3 h)) else (f_X3_setOn_28 (f_X3_setOn_4  n) x1 x2 x3 h))))
def f_X3_setOn  (x1 : Int32) (h : zH) : zR := (f_X3_setOn_4  zN x1 (0 : Int32) (0 : Int32) h)
variable {p : Program} {l : Launch} {e : Env} {s : State} {m : MethodId} {args : Array Value} {below : List Frame} {meth : Method} {c : Code} {G : zG} {q : Int32 × zH}
set_option maxHeartbeats 4000000 in
set_option maxRecDepth 100000 in
theorem w_X3_setOn_28 {k4 : Int32 → Int32 → Int32 → zH → zR} (C : zC G p s m args meth c cX3_setOn 4 RX3 (some .int)) (hm : ∀ c ∈ nd_X3_setOn, c ∈ znm G) (hk : ∀ q ∈ ld_X3_setOn, zlk G q.1 q.2 = true) (hk4 : ∀ (ls : Array Slot) (H : Heap) (locs : List Loc) (h : zH) (x1 : Int32) (x2 : Int32) (x3 : Int32), lv_has ls 4 [(0, .ref (zal G 2)), (1, .int x1), (2, .int x2), (3, .int x3)] → zS G h s.heap H locs → k4 x1 x2 x3 h = some q → W p l e (zrm (2)) s m args below meth c H locs 0 0 (MQ below (zQI G q.2 q.1) args s 0 0 (zA G)) (F0 m 4 ls [])) : ∀ (ls : Array Slot) (H : Heap) (locs : List Loc) (h : zH) (x1 : Int32) (x2 : Int32) (x3 : Int32), lv_has ls 4 [(0, .ref (zal G 2)), (1, .int x1), (2, .int x2), (3, .int x3)] → zS G h s.heap H locs → f_X3_setOn_28 k4 x1 x2 x3 h = some q → W p l e (zrm (2)) s m args below meth c H locs 0 0 (MQ below (zQI G q.2 q.1) args s 0 0 (zA G)) (F0 m 28 ls []) := by
  intro ls H locs h x1 x2 x3 hl hS hf
  unfold f_X3_setOn_28 at hf
  obtain ⟨y1, ey1, hf⟩ := zlt_some hf
  refine lv_iinc (v := y1) (lv' := [(3, .int y1), (0, .ref (zal G 2)), (1, .int x1), (2, .int x2)]) C.1 C.2.1 dX3_setOn_28 hl (k := 3) rfl ey1.symm (by decide) rfl (fun ls hl => ?_)
  refine lv_goto (tgt := 4) C.1 C.2.1 dX3_setOn_31 (by decide) ?_
  exact hk4 _ _ _ _ _ _ _ (lv_sub hl [1, 2, 3, 0] rfl) hS hf
set_option maxHeartbeats 4000000 in
set_option maxRecDepth 100000 in
theorem w_X3_setOn_4  (C : zC G p s m args meth c cX3_setOn 4 RX3 (some .int)) (hm : ∀ c ∈ nd_X3_setOn, c ∈ znm G) (hk : ∀ q ∈ ld_X3_setOn, zlk G q.1 q.2 = true)  : ∀ n, ∀ (ls : Array Slot) (H : Heap) (locs : List Loc) (h : zH) (x1 : Int32) (x2 : Int32) (x3 : Int32), lv_has ls 4 [(0, .ref (zal G 2)), (1, .int x1), (2, .int x2), (3, .int x3)] → zS G h s.heap H locs → f_X3_setOn_4  n x1 x2 x3 h = some q → W p l e (zrm (2)) s m args below meth c H locs 0 0 (MQ below (zQI G q.2 q.1) args s 0 0 (zA G)) (F0 m 4 ls []) := by
  intro n
  induction n with
  | zero => intro ls H locs h x1 x2 x3 hl hS hf; cases hf
  | succ n ih =>
    intro ls H locs h x1 x2 x3 hl hS hf
    rw [f_X3_setOn_4] at hf
    refine lv_iload_n C.1 C.2.1 dX3_setOn_4 rfl (lv_at hl 3 rfl) ?_
    refine lv_aload_n C.1 C.2.1 dX3_setOn_5 rfl (lv_at hl 0 rfl) ?_
    refine zgetI C hS ff_X3_30_2 (hm 2 (by decide)) dX3_setOn_6 ?_
    refine lv_icmp_ge (tgt := 34) C.1 C.2.1 dX3_setOn_9 (by decide) (fun hc => ?_) (fun hc => ?_)
    · have hf := zif_t hc hf
      refine lv_iload_n C.1 C.2.1 dX3_setOn_34 rfl (lv_at hl 2 rfl) ?_
      exact zretI C hS hf dX3_setOn_35
    · have hf := zif_f hc hf
      refine lv_aload_n C.1 C.2.1 dX3_setOn_12 rfl (lv_at hl 0 rfl) ?_
      refine zgetR C hS ff_X3_9_2 (hm 2 (by decide)) (hk (2, 0) (by decide)) dX3_setOn_13 ?_
      refine lv_iload_n C.1 C.2.1 dX3_setOn_16 rfl (lv_at hl 3 rfl) ?_
      obtain ⟨hi, hf⟩ := zck_some hf
      refine zald C hS sh_3 (hm 3 (by decide)) hi dX3_setOn_17 ?_
      refine lv_iload_n C.1 C.2.1 dX3_setOn_18 rfl (lv_at hl 1 rfl) ?_
      refine lv_icmp_ne (tgt := 28) C.1 C.2.1 dX3_setOn_19 (by decide) (fun hc => ?_) (fun hc => ?_)
      · have hf := zif_f hc hf
        exact w_X3_setOn_28 C hm hk ih _ _ _ _ _ _ _ (lv_sub hl [0, 1, 2, 3] rfl) hS hf
      · have hf := zif_t hc hf
        refine lv_iload_n C.1 C.2.1 dX3_setOn_22 rfl (lv_at hl 2 rfl) ?_
        refine lv_iconst (v := (1 : Int32)) C.1 C.2.1 dX3_setOn_23 rfl ?_
        refine lv_iload_n C.1 C.2.1 dX3_setOn_24 rfl (lv_at hl 3 rfl) ?_
        refine lv_ishl C.1 C.2.1 dX3_setOn_25 ?_
        refine lv_ior C.1 C.2.1 dX3_setOn_26 ?_
        obtain ⟨y2, ey2, hf⟩ := zlt_some hf
        refine ztop ey2 ?_
        refine lv_istore_n (lv' := [(2, .int y2), (0, .ref (zal G 2)), (1, .int x1), (3, .int x3)]) C.1 C.2.1 dX3_setOn_27 rfl hl (by decide) rfl (fun ls hl => ?_)
        exact w_X3_setOn_28 C hm hk ih _ _ _ _ _ _ _ (lv_sub hl [1, 2, 0, 3] rfl) hS hf
set_option maxHeartbeats 4000000 in
set_option maxRecDepth 100000 in
theorem c_X3_setOn (l : Launch) (G : zG) (h : zH) (x1 : Int32) (q : Int32 × zH) (hm : ∀ c ∈ nd_X3_setOn, c ∈ znm G) (hk : ∀ q ∈ ld_X3_setOn, zlk G q.1 q.2 = true) (hf : f_X3_setOn x1 h = some q) : zCtI l yX3_setOn cX3_setOn 4 (some .int) (2) [.ref (zal G 2), .int x1] G h q.2 q.1 := by
  refine zMetI (by decide) (Nat.le_of_ble_eq_true rfl) ?_
  intro p e s m below meth c ls C hl hS
  have hl : lv_has ls 4 [(0, .ref (zal G 2)), (1, .int x1)] := hl
  have C : zC G p s m [.ref (zal G 2), .int x1].toArray meth c cX3_setOn 4 RX3 (some .int) := C
  unfold f_X3_setOn at hf
  refine lv_iconst (v := (0 : Int32)) C.1 C.2.1 dX3_setOn_0 rfl ?_
  refine lv_istore_n (lv' := [(2, .int (0 : Int32)), (0, .ref (zal G 2)), (1, .int x1)]) C.1 C.2.1 dX3_setOn_1 rfl hl (by decide) rfl (fun ls hl => ?_)
  refine lv_iconst (v := (0 : Int32)) C.1 C.2.1 dX3_setOn_2 rfl ?_
  refine lv_istore_n (lv' := [(3, .int (0 : Int32)), (2, .int (0 : Int32)), (0, .ref (zal G 2)), (1, .int x1)]) C.1 C.2.1 dX3_setOn_3 rfl hl (by decide) rfl (fun ls hl => ?_)
  exact w_X3_setOn_4 C hm hk  zN _ _ _ _ _ _ _ (lv_sub hl [2, 3, 1, 0] rfl) hS hf
end
section
theorem dX1_tellable_0 : decode cX1_tellable 0 = .ok (.iconst 0, 1) := by decide +kernel
theorem dX1_tellable_1 : decode cX1_tellable 1 = .ok (.istore_n 3, 1) := by decide +kernel
theorem dX1_tellable_2 : decode cX1_tellable 2 = .ok (.iconst 0, 1) := by decide +kernel
theorem dX1_tellable_3 : decode cX1_tellable 3 = .ok (.istore 4, 2) := by decide +kernel
theorem dX1_tellable_5 : decode cX1_tellable 5 = .ok (.iload 4, 2) := by decide +kernel
theorem dX1_tellable_7 : decode cX1_tellable 7 = .ok (.aload_n 0, 1) := by decide +kernel
theorem dX1_tellable_8 : decode cX1_tellable 8 = .ok (.getfield 27, 3) := by decide +kernel
theorem dX1_tellable_11 : decode cX1_tellable 11 = .ok (.getfield 31, 3) := by decide +kernel
theorem dX1_tellable_14 : decode cX1_tellable 14 = .ok (.getfield 54, 3) := by decide +kernel
theorem dX1_tellable_17 : decode cX1_tellable 17 = .ok (.if_icmp .ge 66, 3) := by decide +kernel
theorem dX1_tellable_20 : decode cX1_tellable 20 = .ok (.aload_n 0, 1) := by decide +kernel
theorem dX1_tellable_21 : decode cX1_tellable 21 = .ok (.getfield 27, 3) := by decide +kernel
theorem dX1_tellable_24 : decode cX1_tellable 24 = .ok (.getfield 31, 3) := by decide +kernel
theorem dX1_tellable_27 : decode cX1_tellable 27 = .ok (.iload 4, 2) := by decide +kernel
theorem dX1_tellable_29 : decode cX1_tellable 29 = .ok (.iload_n 1, 1) := by decide +kernel
theorem dX1_tellable_30 : decode cX1_tellable 30 = .ok (.invokevirtual 57, 3) := by decide +kernel
theorem dX1_tellable_33 : decode cX1_tellable 33 = .ok (.istore 5, 2) := by decide +kernel
theorem dX1_tellable_35 : decode cX1_tellable 35 = .ok (.iload_n 2, 1) := by decide +kernel
theorem dX1_tellable_36 : decode cX1_tellable 36 = .ok (.iload_n 1, 1) := by decide +kernel
theorem dX1_tellable_37 : decode cX1_tellable 37 = .ok (.if_icmp .eq 21, 3) := by decide +kernel
theorem dX1_tellable_40 : decode cX1_tellable 40 = .ok (.iload 5, 2) := by decide +kernel
theorem dX1_tellable_42 : decode cX1_tellable 42 = .ok (.aload_n 0, 1) := by decide +kernel
theorem dX1_tellable_43 : decode cX1_tellable 43 = .ok (.getfield 27, 3) := by decide +kernel
theorem dX1_tellable_46 : decode cX1_tellable 46 = .ok (.getfield 31, 3) := by decide +kernel
theorem dX1_tellable_49 : decode cX1_tellable 49 = .ok (.iload 4, 2) := by decide +kernel
theorem dX1_tellable_51 : decode cX1_tellable 51 = .ok (.iload_n 2, 1) := by decide +kernel
theorem dX1_tellable_52 : decode cX1_tellable 52 = .ok (.invokevirtual 57, 3) := by decide +kernel
theorem dX1_tellable_55 : decode cX1_tellable 55 = .ok (.iadd, 1) := by decide +kernel
theorem dX1_tellable_56 : decode cX1_tellable 56 = .ok (.istore 5, 2) := by decide +kernel
theorem dX1_tellable_58 : decode cX1_tellable 58 = .ok (.iload 5, 2) := by decide +kernel
theorem dX1_tellable_60 : decode cX1_tellable 60 = .ok (.aload_n 0, 1) := by decide +kernel
theorem dX1_tellable_61 : decode cX1_tellable 61 = .ok (.getfield 27, 3) := by decide +kernel
theorem dX1_tellable_64 : decode cX1_tellable 64 = .ok (.getfield 60, 3) := by decide +kernel
theorem dX1_tellable_67 : decode cX1_tellable 67 = .ok (.if_icmp .lt 10, 3) := by decide +kernel
theorem dX1_tellable_70 : decode cX1_tellable 70 = .ok (.iload_n 3, 1) := by decide +kernel
theorem dX1_tellable_71 : decode cX1_tellable 71 = .ok (.iconst 1, 1) := by decide +kernel
theorem dX1_tellable_72 : decode cX1_tellable 72 = .ok (.iload 4, 2) := by decide +kernel
theorem dX1_tellable_74 : decode cX1_tellable 74 = .ok (.ishl, 1) := by decide +kernel
theorem dX1_tellable_75 : decode cX1_tellable 75 = .ok (.ior, 1) := by decide +kernel
theorem dX1_tellable_76 : decode cX1_tellable 76 = .ok (.istore_n 3, 1) := by decide +kernel
theorem dX1_tellable_77 : decode cX1_tellable 77 = .ok (.iinc 4 1, 3) := by decide +kernel
theorem dX1_tellable_80 : decode cX1_tellable 80 = .ok (.goto (-75), 3) := by decide +kernel
theorem dX1_tellable_83 : decode cX1_tellable 83 = .ok (.iload_n 3, 1) := by decide +kernel
theorem dX1_tellable_84 : decode cX1_tellable 84 = .ok (.ireturn, 1) := by decide +kernel
abbrev nd_X1_tellable : List Nat := [1, 2, 6, 38]
abbrev ld_X1_tellable : List (Nat × Nat) := [(1, 0), (2, 3), (38, 0)]
theorem sn_X1_tellable_X3_quartersOf : ∀ c ∈ nd_X3_quartersOf, c ∈ nd_X1_tellable := by decide
theorem sl_X1_tellable_X3_quartersOf : ∀ q ∈ ld_X3_quartersOf, q ∈ ld_X1_tellable := by decide
def f_X1_tellable_77 (k5 : Int32 → Int32 → Int32 → Int32 → zH → zR) (x1 : Int32) (x2 : Int32) (x3 : Int32) (x4 : Int32) (h : zH) : zR := (zlt (x4 + (1 : Int32)) fun y3 => (k5 x1 x2 x3 y3 h))
def f_X1_tellable_58 (k5 : Int32 → Int32 → Int32 → Int32 → zH → zR) (x1 : Int32) (x2 : Int32) (x3 : Int32) (x4 : Int32) (x5 : Int32) (h : zH) : zR := (if x5 < (h 1 6) then (f_X1_tellable_77 k5 x1 x2 x3 x4 h) else (zlt (x3 ||| ((1 : Int32) <<< (x4 &&& 31))) fun y4 => (f_X1_tellable_77 k5 x1 x2 y4 x4 h)))
def f_X1_tellable_5  : Nat → Int32 → Int32 → Int32 → Int32 → zH → zR
  | 0 => fun _ _ _ _ _ => none
  | n + 1 => fun x1 x2 x3 x4 h => (if (h 2 4) ≤ x4 then (some (x3, h)) else (zbd (f_X3_quartersOf x4 x1 h) fun r1 h2 => (if x2 = x1 then (f_X1_tellable_58 (f_X1_tellable_5  n) x1 x2 x3 x4 r1 h2) else (zbd (f_X3_quartersOf x4 x2 h2) fun r5 h6 => (zlt (r1 + r5) fun y7 => (f_X1_tellable_58 (f_X1_tellable_5  n) x1 x2 x3 x4 y7 h6))))))
def f_X1_tellable  (x1 : Int32) (x2 : Int32) (h : zH) : zR := (f_X1_tellable_5  zN x1 x2 (0 : Int32) (0 : Int32) h)
variable {p : Program} {l : Launch} {e : Env} {s : State} {m : MethodId} {args : Array Value} {below : List Frame} {meth : Method} {c : Code} {G : zG} {q : Int32 × zH}
set_option maxHeartbeats 4000000 in
set_option maxRecDepth 100000 in
theorem w_X1_tellable_77 {k5 : Int32 → Int32 → Int32 → Int32 → zH → zR} (C : zC G p s m args meth c cX1_tellable 6 RX1 (some .int)) (hm : ∀ c ∈ nd_X1_tellable, c ∈ znm G) (hk : ∀ q ∈ ld_X1_tellable, zlk G q.1 q.2 = true) (hk5 : ∀ (ls : Array Slot) (H : Heap) (locs : List Loc) (h : zH) (x1 : Int32) (x2 : Int32) (x3 : Int32) (x4 : Int32), lv_has ls 6 [(0, .ref (zal G 38)), (1, .int x1), (2, .int x2), (3, .int x3), (4, .int x4)] → zS G h s.heap H locs → k5 x1 x2 x3 x4 h = some q → W p l e (zrm (3)) s m args below meth c H locs 0 0 (MQ below (zQI G q.2 q.1) args s 0 0 (zA G)) (F0 m 5 ls [])) : ∀ (ls : Array Slot) (H : Heap) (locs : List Loc) (h : zH) (x1 : Int32) (x2 : Int32) (x3 : Int32) (x4 : Int32), lv_has ls 6 [(0, .ref (zal G 38)), (1, .int x1), (2, .int x2), (3, .int x3), (4, .int x4)] → zS G h s.heap H locs → f_X1_tellable_77 k5 x1 x2 x3 x4 h = some q → W p l e (zrm (3)) s m args below meth c H locs 0 0 (MQ below (zQI G q.2 q.1) args s 0 0 (zA G)) (F0 m 77 ls []) := by
  intro ls H locs h x1 x2 x3 x4 hl hS hf
  unfold f_X1_tellable_77 at hf
  obtain ⟨y3, ey3, hf⟩ := zlt_some hf
  refine lv_iinc (v := y3) (lv' := [(4, .int y3), (0, .ref (zal G 38)), (1, .int x1), (2, .int x2), (3, .int x3)]) C.1 C.2.1 dX1_tellable_77 hl (k := 4) rfl ey3.symm (by decide) rfl (fun ls hl => ?_)
  refine lv_goto (tgt := 5) C.1 C.2.1 dX1_tellable_80 (by decide) ?_
  exact hk5 _ _ _ _ _ _ _ _ (lv_sub hl [1, 2, 3, 4, 0] rfl) hS hf
set_option maxHeartbeats 4000000 in
set_option maxRecDepth 100000 in
theorem w_X1_tellable_58 {k5 : Int32 → Int32 → Int32 → Int32 → zH → zR} (C : zC G p s m args meth c cX1_tellable 6 RX1 (some .int)) (hm : ∀ c ∈ nd_X1_tellable, c ∈ znm G) (hk : ∀ q ∈ ld_X1_tellable, zlk G q.1 q.2 = true) (hk5 : ∀ (ls : Array Slot) (H : Heap) (locs : List Loc) (h : zH) (x1 : Int32) (x2 : Int32) (x3 : Int32) (x4 : Int32), lv_has ls 6 [(0, .ref (zal G 38)), (1, .int x1), (2, .int x2), (3, .int x3), (4, .int x4)] → zS G h s.heap H locs → k5 x1 x2 x3 x4 h = some q → W p l e (zrm (3)) s m args below meth c H locs 0 0 (MQ below (zQI G q.2 q.1) args s 0 0 (zA G)) (F0 m 5 ls [])) : ∀ (ls : Array Slot) (H : Heap) (locs : List Loc) (h : zH) (x1 : Int32) (x2 : Int32) (x3 : Int32) (x4 : Int32) (x5 : Int32), lv_has ls 6 [(0, .ref (zal G 38)), (1, .int x1), (2, .int x2), (3, .int x3), (4, .int x4), (5, .int x5)] → zS G h s.heap H locs → f_X1_tellable_58 k5 x1 x2 x3 x4 x5 h = some q → W p l e (zrm (3)) s m args below meth c H locs 0 0 (MQ below (zQI G q.2 q.1) args s 0 0 (zA G)) (F0 m 58 ls []) := by
  intro ls H locs h x1 x2 x3 x4 x5 hl hS hf
  unfold f_X1_tellable_58 at hf
  refine lv_iload C.1 C.2.1 dX1_tellable_58 (lv_at hl 5 rfl) ?_
  refine lv_aload_n C.1 C.2.1 dX1_tellable_60 rfl (lv_at hl 0 rfl) ?_
  refine zgetR C hS ff_X1_27_38 (hm 38 (by decide)) (hk (38, 0) (by decide)) dX1_tellable_61 ?_
  refine zgetI C hS ff_X1_60_1 (hm 1 (by decide)) dX1_tellable_64 ?_
  refine lv_icmp_lt (tgt := 77) C.1 C.2.1 dX1_tellable_67 (by decide) (fun hc => ?_) (fun hc => ?_)
  · have hf := zif_t hc hf
    exact w_X1_tellable_77 C hm hk hk5 _ _ _ _ _ _ _ _ (lv_sub hl [0, 1, 2, 3, 4] rfl) hS hf
  · have hf := zif_f hc hf
    refine lv_iload_n C.1 C.2.1 dX1_tellable_70 rfl (lv_at hl 3 rfl) ?_
    refine lv_iconst (v := (1 : Int32)) C.1 C.2.1 dX1_tellable_71 rfl ?_
    refine lv_iload C.1 C.2.1 dX1_tellable_72 (lv_at hl 4 rfl) ?_
    refine lv_ishl C.1 C.2.1 dX1_tellable_74 ?_
    refine lv_ior C.1 C.2.1 dX1_tellable_75 ?_
    obtain ⟨y4, ey4, hf⟩ := zlt_some hf
    refine ztop ey4 ?_
    refine lv_istore_n (lv' := [(3, .int y4), (0, .ref (zal G 38)), (1, .int x1), (2, .int x2), (4, .int x4), (5, .int x5)]) C.1 C.2.1 dX1_tellable_76 rfl hl (by decide) rfl (fun ls hl => ?_)
    exact w_X1_tellable_77 C hm hk hk5 _ _ _ _ _ _ _ _ (lv_sub hl [1, 2, 3, 0, 4] rfl) hS hf
set_option maxHeartbeats 4000000 in
set_option maxRecDepth 100000 in
theorem w_X1_tellable_5  (C : zC G p s m args meth c cX1_tellable 6 RX1 (some .int)) (hm : ∀ c ∈ nd_X1_tellable, c ∈ znm G) (hk : ∀ q ∈ ld_X1_tellable, zlk G q.1 q.2 = true)  : ∀ n, ∀ (ls : Array Slot) (H : Heap) (locs : List Loc) (h : zH) (x1 : Int32) (x2 : Int32) (x3 : Int32) (x4 : Int32), lv_has ls 6 [(0, .ref (zal G 38)), (1, .int x1), (2, .int x2), (3, .int x3), (4, .int x4)] → zS G h s.heap H locs → f_X1_tellable_5  n x1 x2 x3 x4 h = some q → W p l e (zrm (3)) s m args below meth c H locs 0 0 (MQ below (zQI G q.2 q.1) args s 0 0 (zA G)) (F0 m 5 ls []) := by
  intro n
  induction n with
  | zero => intro ls H locs h x1 x2 x3 x4 hl hS hf; cases hf
  | succ n ih =>
    intro ls H locs h x1 x2 x3 x4 hl hS hf
    rw [f_X1_tellable_5] at hf
    refine lv_iload C.1 C.2.1 dX1_tellable_5 (lv_at hl 4 rfl) ?_
    refine lv_aload_n C.1 C.2.1 dX1_tellable_7 rfl (lv_at hl 0 rfl) ?_
    refine zgetR C hS ff_X1_27_38 (hm 38 (by decide)) (hk (38, 0) (by decide)) dX1_tellable_8 ?_
    refine zgetR C hS ff_X1_31_1 (hm 1 (by decide)) (hk (1, 0) (by decide)) dX1_tellable_11 ?_
    refine zgetI C hS ff_X1_54_2 (hm 2 (by decide)) dX1_tellable_14 ?_
    refine lv_icmp_ge (tgt := 83) C.1 C.2.1 dX1_tellable_17 (by decide) (fun hc => ?_) (fun hc => ?_)
    · have hf := zif_t hc hf
      refine lv_iload_n C.1 C.2.1 dX1_tellable_83 rfl (lv_at hl 3 rfl) ?_
      exact zretI C hS hf dX1_tellable_84
    · have hf := zif_f hc hf
      refine lv_aload_n C.1 C.2.1 dX1_tellable_20 rfl (lv_at hl 0 rfl) ?_
      refine zgetR C hS ff_X1_27_38 (hm 38 (by decide)) (hk (38, 0) (by decide)) dX1_tellable_21 ?_
      refine zgetR C hS ff_X1_31_1 (hm 1 (by decide)) (hk (1, 0) (by decide)) dX1_tellable_24 ?_
      refine lv_iload C.1 C.2.1 dX1_tellable_27 (lv_at hl 4 rfl) ?_
      refine lv_iload_n C.1 C.2.1 dX1_tellable_29 rfl (lv_at hl 1 rfl) ?_
      obtain ⟨r1, h2, er1, hf⟩ := zbd_some hf
      refine zcallVI (As := [.int x4, .int x1]) (rest := []) C hS mv_X1_57 (c_X3_quartersOf l G h x4 x1 (r1, h2) (fun c h => hm c (sn_X1_tellable_X3_quartersOf c h)) (fun q h => hk q (sl_X1_tellable_X3_quartersOf q h)) er1) (hm 2 (by decide)) ⟨_, _, _, sh_2, rfl, rfl⟩ rfl rfl (Nat.le_of_ble_eq_true rfl) hl.1 ⟨Nat.le_of_ble_eq_true rfl, Nat.le_of_ble_eq_true rfl, Nat.le_of_ble_eq_true rfl, Nat.le_of_ble_eq_true rfl⟩ dX1_tellable_30 (fun H locs hS => ?_)
      refine lv_istore (lv' := [(5, .int r1), (0, .ref (zal G 38)), (1, .int x1), (2, .int x2), (3, .int x3), (4, .int x4)]) C.1 C.2.1 dX1_tellable_33 hl (by decide) rfl (fun ls hl => ?_)
      refine lv_iload_n C.1 C.2.1 dX1_tellable_35 rfl (lv_at hl 3 rfl) ?_
      refine lv_iload_n C.1 C.2.1 dX1_tellable_36 rfl (lv_at hl 2 rfl) ?_
      refine lv_icmp_eq (tgt := 58) C.1 C.2.1 dX1_tellable_37 (by decide) (fun hc => ?_) (fun hc => ?_)
      · have hf := zif_t hc hf
        exact w_X1_tellable_58 C hm hk ih _ _ _ _ _ _ _ _ _ (lv_sub hl [1, 2, 3, 4, 5, 0] rfl) hS hf
      · have hf := zif_f hc hf
        refine lv_iload C.1 C.2.1 dX1_tellable_40 (lv_at hl 0 rfl) ?_
        refine lv_aload_n C.1 C.2.1 dX1_tellable_42 rfl (lv_at hl 1 rfl) ?_
        refine zgetR C hS ff_X1_27_38 (hm 38 (by decide)) (hk (38, 0) (by decide)) dX1_tellable_43 ?_
        refine zgetR C hS ff_X1_31_1 (hm 1 (by decide)) (hk (1, 0) (by decide)) dX1_tellable_46 ?_
        refine lv_iload C.1 C.2.1 dX1_tellable_49 (lv_at hl 5 rfl) ?_
        refine lv_iload_n C.1 C.2.1 dX1_tellable_51 rfl (lv_at hl 3 rfl) ?_
        obtain ⟨r5, h6, er5, hf⟩ := zbd_some hf
        refine zcallVI (As := [.int x4, .int x2]) (rest := [.int r1]) C hS mv_X1_57 (c_X3_quartersOf l G h2 x4 x2 (r5, h6) (fun c h => hm c (sn_X1_tellable_X3_quartersOf c h)) (fun q h => hk q (sl_X1_tellable_X3_quartersOf q h)) er5) (hm 2 (by decide)) ⟨_, _, _, sh_2, rfl, rfl⟩ rfl rfl (Nat.le_of_ble_eq_true rfl) hl.1 ⟨Nat.le_of_ble_eq_true rfl, Nat.le_of_ble_eq_true rfl, Nat.le_of_ble_eq_true rfl, Nat.le_of_ble_eq_true rfl⟩ dX1_tellable_52 (fun H locs hS => ?_)
        refine lv_iadd C.1 C.2.1 dX1_tellable_55 ?_
        obtain ⟨y7, ey7, hf⟩ := zlt_some hf
        refine ztop ey7 ?_
        refine lv_istore (lv' := [(5, .int y7), (0, .ref (zal G 38)), (1, .int x1), (2, .int x2), (3, .int x3), (4, .int x4)]) C.1 C.2.1 dX1_tellable_56 hl (by decide) rfl (fun ls hl => ?_)
        exact w_X1_tellable_58 C hm hk ih _ _ _ _ _ _ _ _ _ (lv_sub hl [1, 2, 3, 4, 5, 0] rfl) hS hf
set_option maxHeartbeats 4000000 in
set_option maxRecDepth 100000 in
theorem c_X1_tellable (l : Launch) (G : zG) (h : zH) (x1 : Int32) (x2 : Int32) (q : Int32 × zH) (hm : ∀ c ∈ nd_X1_tellable, c ∈ znm G) (hk : ∀ q ∈ ld_X1_tellable, zlk G q.1 q.2 = true) (hf : f_X1_tellable x1 x2 h = some q) : zCtI l yX1_tellable cX1_tellable 6 (some .int) (3) [.ref (zal G 38), .int x1, .int x2] G h q.2 q.1 := by
  refine zMetI (by decide) (Nat.le_of_ble_eq_true rfl) ?_
  intro p e s m below meth c ls C hl hS
  have hl : lv_has ls 6 [(0, .ref (zal G 38)), (1, .int x1), (2, .int x2)] := hl
  have C : zC G p s m [.ref (zal G 38), .int x1, .int x2].toArray meth c cX1_tellable 6 RX1 (some .int) := C
  unfold f_X1_tellable at hf
  refine lv_iconst (v := (0 : Int32)) C.1 C.2.1 dX1_tellable_0 rfl ?_
  refine lv_istore_n (lv' := [(3, .int (0 : Int32)), (0, .ref (zal G 38)), (1, .int x1), (2, .int x2)]) C.1 C.2.1 dX1_tellable_1 rfl hl (by decide) rfl (fun ls hl => ?_)
  refine lv_iconst (v := (0 : Int32)) C.1 C.2.1 dX1_tellable_2 rfl ?_
  refine lv_istore (lv' := [(4, .int (0 : Int32)), (3, .int (0 : Int32)), (0, .ref (zal G 38)), (1, .int x1), (2, .int x2)]) C.1 C.2.1 dX1_tellable_3 hl (by decide) rfl (fun ls hl => ?_)
  exact w_X1_tellable_5 C hm hk  zN _ _ _ _ _ _ _ _ (lv_sub hl [2, 3, 4, 1, 0] rfl) hS hf
end
section
theorem dX1_begin_0 : decode cX1_begin 0 = .ok (.iconst 0, 1) := by decide +kernel
theorem dX1_begin_1 : decode cX1_begin 1 = .ok (.istore_n 1, 1) := by decide +kernel
theorem dX1_begin_2 : decode cX1_begin 2 = .ok (.iload_n 1, 1) := by decide +kernel
theorem dX1_begin_3 : decode cX1_begin 3 = .ok (.sipush 256, 3) := by decide +kernel
theorem dX1_begin_6 : decode cX1_begin 6 = .ok (.if_icmp .ge 16, 3) := by decide +kernel
theorem dX1_begin_9 : decode cX1_begin 9 = .ok (.aload_n 0, 1) := by decide +kernel
theorem dX1_begin_10 : decode cX1_begin 10 = .ok (.getfield 9, 3) := by decide +kernel
theorem dX1_begin_13 : decode cX1_begin 13 = .ok (.iload_n 1, 1) := by decide +kernel
theorem dX1_begin_14 : decode cX1_begin 14 = .ok (.iconst (-1), 1) := by decide +kernel
theorem dX1_begin_15 : decode cX1_begin 15 = .ok (.iastore, 1) := by decide +kernel
theorem dX1_begin_16 : decode cX1_begin 16 = .ok (.iinc 1 1, 3) := by decide +kernel
theorem dX1_begin_19 : decode cX1_begin 19 = .ok (.goto (-17), 3) := by decide +kernel
theorem dX1_begin_22 : decode cX1_begin 22 = .ok (.aload_n 0, 1) := by decide +kernel
theorem dX1_begin_23 : decode cX1_begin 23 = .ok (.aload_n 0, 1) := by decide +kernel
theorem dX1_begin_24 : decode cX1_begin 24 = .ok (.getfield 27, 3) := by decide +kernel
theorem dX1_begin_27 : decode cX1_begin 27 = .ok (.getfield 31, 3) := by decide +kernel
theorem dX1_begin_30 : decode cX1_begin 30 = .ok (.iconst 0, 1) := by decide +kernel
theorem dX1_begin_31 : decode cX1_begin 31 = .ok (.invokevirtual 37, 3) := by decide +kernel
theorem dX1_begin_34 : decode cX1_begin 34 = .ok (.putfield 43, 3) := by decide +kernel
theorem dX1_begin_37 : decode cX1_begin 37 = .ok (.aload_n 0, 1) := by decide +kernel
theorem dX1_begin_38 : decode cX1_begin 38 = .ok (.aload_n 0, 1) := by decide +kernel
theorem dX1_begin_39 : decode cX1_begin 39 = .ok (.getfield 27, 3) := by decide +kernel
theorem dX1_begin_42 : decode cX1_begin 42 = .ok (.getfield 31, 3) := by decide +kernel
theorem dX1_begin_45 : decode cX1_begin 45 = .ok (.iconst 1, 1) := by decide +kernel
theorem dX1_begin_46 : decode cX1_begin 46 = .ok (.invokevirtual 37, 3) := by decide +kernel
theorem dX1_begin_49 : decode cX1_begin 49 = .ok (.putfield 47, 3) := by decide +kernel
theorem dX1_begin_52 : decode cX1_begin 52 = .ok (.iconst 0, 1) := by decide +kernel
theorem dX1_begin_53 : decode cX1_begin 53 = .ok (.istore_n 1, 1) := by decide +kernel
theorem dX1_begin_54 : decode cX1_begin 54 = .ok (.iload_n 1, 1) := by decide +kernel
theorem dX1_begin_55 : decode cX1_begin 55 = .ok (.bipush 6, 2) := by decide +kernel
theorem dX1_begin_57 : decode cX1_begin 57 = .ok (.if_icmp .ge 21, 3) := by decide +kernel
theorem dX1_begin_60 : decode cX1_begin 60 = .ok (.aload_n 0, 1) := by decide +kernel
theorem dX1_begin_61 : decode cX1_begin 61 = .ok (.getfield 18, 3) := by decide +kernel
theorem dX1_begin_64 : decode cX1_begin 64 = .ok (.iload_n 1, 1) := by decide +kernel
theorem dX1_begin_65 : decode cX1_begin 65 = .ok (.aload_n 0, 1) := by decide +kernel
theorem dX1_begin_66 : decode cX1_begin 66 = .ok (.iload_n 1, 1) := by decide +kernel
theorem dX1_begin_67 : decode cX1_begin 67 = .ok (.iload_n 1, 1) := by decide +kernel
theorem dX1_begin_68 : decode cX1_begin 68 = .ok (.invokevirtual 50, 3) := by decide +kernel
theorem dX1_begin_71 : decode cX1_begin 71 = .ok (.iastore, 1) := by decide +kernel
theorem dX1_begin_72 : decode cX1_begin 72 = .ok (.iinc 1 1, 3) := by decide +kernel
theorem dX1_begin_75 : decode cX1_begin 75 = .ok (.goto (-21), 3) := by decide +kernel
theorem dX1_begin_78 : decode cX1_begin 78 = .ok (.return_, 1) := by decide +kernel
abbrev nd_X1_begin : List Nat := [1, 2, 3, 6, 38, 39, 41]
abbrev ld_X1_begin : List (Nat × Nat) := [(1, 0), (2, 0), (2, 3), (38, 0), (38, 1), (38, 3)]
theorem sn_X1_begin_X3_setOn : ∀ c ∈ nd_X3_setOn, c ∈ nd_X1_begin := by decide
theorem sl_X1_begin_X3_setOn : ∀ q ∈ ld_X3_setOn, q ∈ ld_X1_begin := by decide
theorem sn_X1_begin_X1_tellable : ∀ c ∈ nd_X1_tellable, c ∈ nd_X1_begin := by decide
theorem sl_X1_begin_X1_tellable : ∀ q ∈ ld_X1_tellable, q ∈ ld_X1_begin := by decide
def f_X1_begin_54  : Nat → Int32 → zH → zR
  | 0 => fun _ _ => none
  | n + 1 => fun x1 h => (if (6 : Int32) ≤ x1 then (some (0, h)) else (zbd (f_X1_tellable x1 x1 h) fun r7 h8 => (zck x1 6 (zst (zup h8 41 (Int32.toNatClampNeg x1) r7) fun h9 => (zlt (x1 + (1 : Int32)) fun y10 => (f_X1_begin_54  n y10 h9))))))
def f_X1_begin_2  : Nat → Int32 → zH → zR
  | 0 => fun _ _ => none
  | n + 1 => fun x1 h => (if (256 : Int32) ≤ x1 then (zbd (f_X3_setOn (0 : Int32) h) fun r1 h2 => (zst (zup h2 38 7 r1) fun h3 => (zbd (f_X3_setOn (1 : Int32) h3) fun r4 h5 => (zst (zup h5 38 8 r4) fun h6 => (f_X1_begin_54  zN (0 : Int32) h6))))) else (zck x1 256 (zst (zup h 39 (Int32.toNatClampNeg x1) (-1 : Int32)) fun h11 => (zlt (x1 + (1 : Int32)) fun y12 => (f_X1_begin_2  n y12 h11)))))
def f_X1_begin  (h : zH) : zR := (f_X1_begin_2  zN (0 : Int32) h)
variable {p : Program} {l : Launch} {e : Env} {s : State} {m : MethodId} {args : Array Value} {below : List Frame} {meth : Method} {c : Code} {G : zG} {q : Int32 × zH}
set_option maxHeartbeats 4000000 in
set_option maxRecDepth 100000 in
theorem w_X1_begin_54  (C : zC G p s m args meth c cX1_begin 2 RX1 none) (hm : ∀ c ∈ nd_X1_begin, c ∈ znm G) (hk : ∀ q ∈ ld_X1_begin, zlk G q.1 q.2 = true)  : ∀ n, ∀ (ls : Array Slot) (H : Heap) (locs : List Loc) (h : zH) (x1 : Int32), lv_has ls 2 [(0, .ref (zal G 38)), (1, .int x1)] → zS G h s.heap H locs → f_X1_begin_54  n x1 h = some q → W p l e (zrm (4)) s m args below meth c H locs 0 0 (MQ below (zQV G q.2) args s 0 0 (zA G)) (F0 m 54 ls []) := by
  intro n
  induction n with
  | zero => intro ls H locs h x1 hl hS hf; cases hf
  | succ n ih =>
    intro ls H locs h x1 hl hS hf
    rw [f_X1_begin_54] at hf
    refine lv_iload_n C.1 C.2.1 dX1_begin_54 rfl (lv_at hl 1 rfl) ?_
    refine lv_bipush (v := (6 : Int32)) C.1 C.2.1 dX1_begin_55 rfl ?_
    refine lv_icmp_ge (tgt := 78) C.1 C.2.1 dX1_begin_57 (by decide) (fun hc => ?_) (fun hc => ?_)
    · have hf := zif_t hc hf
      exact zretV C hS hf dX1_begin_78
    · have hf := zif_f hc hf
      refine lv_aload_n C.1 C.2.1 dX1_begin_60 rfl (lv_at hl 0 rfl) ?_
      refine zgetR C hS ff_X1_18_38 (hm 38 (by decide)) (hk (38, 3) (by decide)) dX1_begin_61 ?_
      refine lv_iload_n C.1 C.2.1 dX1_begin_64 rfl (lv_at hl 1 rfl) ?_
      refine lv_aload_n C.1 C.2.1 dX1_begin_65 rfl (lv_at hl 0 rfl) ?_
      refine lv_iload_n C.1 C.2.1 dX1_begin_66 rfl (lv_at hl 1 rfl) ?_
      refine lv_iload_n C.1 C.2.1 dX1_begin_67 rfl (lv_at hl 1 rfl) ?_
      obtain ⟨r7, h8, er7, hf⟩ := zbd_some hf
      refine zcallVI (As := [.int x1, .int x1]) (rest := [.int x1, .ref (zal G 41)]) C hS mv_X1_50 (c_X1_tellable l G h x1 x1 (r7, h8) (fun c h => hm c (sn_X1_begin_X1_tellable c h)) (fun q h => hk q (sl_X1_begin_X1_tellable q h)) er7) (hm 38 (by decide)) ⟨_, _, _, sh_38, rfl, rfl⟩ rfl rfl (Nat.le_of_ble_eq_true rfl) hl.1 ⟨Nat.le_of_ble_eq_true rfl, Nat.le_of_ble_eq_true rfl, Nat.le_of_ble_eq_true rfl, Nat.le_of_ble_eq_true rfl⟩ dX1_begin_68 (fun H locs hS => ?_)
      obtain ⟨hi, hf⟩ := zck_some hf
      refine zast C hS sh_41 (hm 41 (by decide)) hi dX1_begin_71 (fun H locs hS => ?_)
      obtain ⟨h9, eh9, hf⟩ := zst_some hf
      have hS : zS G h9 s.heap H locs := by rw [eh9]; exact hS
      obtain ⟨y10, ey10, hf⟩ := zlt_some hf
      refine lv_iinc (v := y10) (lv' := [(1, .int y10), (0, .ref (zal G 38))]) C.1 C.2.1 dX1_begin_72 hl (k := 1) rfl ey10.symm (by decide) rfl (fun ls hl => ?_)
      refine lv_goto (tgt := 54) C.1 C.2.1 dX1_begin_75 (by decide) ?_
      exact ih _ _ _ _ _ (lv_sub hl [1, 0] rfl) hS hf
set_option maxHeartbeats 4000000 in
set_option maxRecDepth 100000 in
theorem w_X1_begin_2  (C : zC G p s m args meth c cX1_begin 2 RX1 none) (hm : ∀ c ∈ nd_X1_begin, c ∈ znm G) (hk : ∀ q ∈ ld_X1_begin, zlk G q.1 q.2 = true)  : ∀ n, ∀ (ls : Array Slot) (H : Heap) (locs : List Loc) (h : zH) (x1 : Int32), lv_has ls 2 [(0, .ref (zal G 38)), (1, .int x1)] → zS G h s.heap H locs → f_X1_begin_2  n x1 h = some q → W p l e (zrm (4)) s m args below meth c H locs 0 0 (MQ below (zQV G q.2) args s 0 0 (zA G)) (F0 m 2 ls []) := by
  intro n
  induction n with
  | zero => intro ls H locs h x1 hl hS hf; cases hf
  | succ n ih =>
    intro ls H locs h x1 hl hS hf
    rw [f_X1_begin_2] at hf
    refine lv_iload_n C.1 C.2.1 dX1_begin_2 rfl (lv_at hl 1 rfl) ?_
    refine lv_sipush (v := (256 : Int32)) C.1 C.2.1 dX1_begin_3 rfl ?_
    refine lv_icmp_ge (tgt := 22) C.1 C.2.1 dX1_begin_6 (by decide) (fun hc => ?_) (fun hc => ?_)
    · have hf := zif_t hc hf
      refine lv_aload_n C.1 C.2.1 dX1_begin_22 rfl (lv_at hl 0 rfl) ?_
      refine lv_aload_n C.1 C.2.1 dX1_begin_23 rfl (lv_at hl 0 rfl) ?_
      refine zgetR C hS ff_X1_27_38 (hm 38 (by decide)) (hk (38, 0) (by decide)) dX1_begin_24 ?_
      refine zgetR C hS ff_X1_31_1 (hm 1 (by decide)) (hk (1, 0) (by decide)) dX1_begin_27 ?_
      refine lv_iconst (v := (0 : Int32)) C.1 C.2.1 dX1_begin_30 rfl ?_
      obtain ⟨r1, h2, er1, hf⟩ := zbd_some hf
      refine zcallVI (As := [.int (0 : Int32)]) (rest := [.ref (zal G 38)]) C hS mv_X1_37 (c_X3_setOn l G h (0 : Int32) (r1, h2) (fun c h => hm c (sn_X1_begin_X3_setOn c h)) (fun q h => hk q (sl_X1_begin_X3_setOn q h)) er1) (hm 2 (by decide)) ⟨_, _, _, sh_2, rfl, rfl⟩ rfl rfl (Nat.le_of_ble_eq_true rfl) hl.1 ⟨Nat.le_of_ble_eq_true rfl, Nat.le_of_ble_eq_true rfl, Nat.le_of_ble_eq_true rfl, Nat.le_of_ble_eq_true rfl⟩ dX1_begin_31 (fun H locs hS => ?_)
      refine zputI C hS ff_X1_43_38 fw_38_7 (hm 38 (by decide)) dX1_begin_34 (fun H locs hS => ?_)
      obtain ⟨h3, eh3, hf⟩ := zst_some hf
      have hS : zS G h3 s.heap H locs := by rw [eh3]; exact hS
      refine lv_aload_n C.1 C.2.1 dX1_begin_37 rfl (lv_at hl 0 rfl) ?_
      refine lv_aload_n C.1 C.2.1 dX1_begin_38 rfl (lv_at hl 0 rfl) ?_
      refine zgetR C hS ff_X1_27_38 (hm 38 (by decide)) (hk (38, 0) (by decide)) dX1_begin_39 ?_
      refine zgetR C hS ff_X1_31_1 (hm 1 (by decide)) (hk (1, 0) (by decide)) dX1_begin_42 ?_
      refine lv_iconst (v := (1 : Int32)) C.1 C.2.1 dX1_begin_45 rfl ?_
      obtain ⟨r4, h5, er4, hf⟩ := zbd_some hf
      refine zcallVI (As := [.int (1 : Int32)]) (rest := [.ref (zal G 38)]) C hS mv_X1_37 (c_X3_setOn l G h3 (1 : Int32) (r4, h5) (fun c h => hm c (sn_X1_begin_X3_setOn c h)) (fun q h => hk q (sl_X1_begin_X3_setOn q h)) er4) (hm 2 (by decide)) ⟨_, _, _, sh_2, rfl, rfl⟩ rfl rfl (Nat.le_of_ble_eq_true rfl) hl.1 ⟨Nat.le_of_ble_eq_true rfl, Nat.le_of_ble_eq_true rfl, Nat.le_of_ble_eq_true rfl, Nat.le_of_ble_eq_true rfl⟩ dX1_begin_46 (fun H locs hS => ?_)
      refine zputI C hS ff_X1_47_38 fw_38_8 (hm 38 (by decide)) dX1_begin_49 (fun H locs hS => ?_)
      obtain ⟨h6, eh6, hf⟩ := zst_some hf
      have hS : zS G h6 s.heap H locs := by rw [eh6]; exact hS
      refine lv_iconst (v := (0 : Int32)) C.1 C.2.1 dX1_begin_52 rfl ?_
      refine lv_istore_n (lv' := [(1, .int (0 : Int32)), (0, .ref (zal G 38))]) C.1 C.2.1 dX1_begin_53 rfl hl (by decide) rfl (fun ls hl => ?_)
      exact w_X1_begin_54 C hm hk  zN _ _ _ _ _ (lv_sub hl [1, 0] rfl) hS hf
    · have hf := zif_f hc hf
      refine lv_aload_n C.1 C.2.1 dX1_begin_9 rfl (lv_at hl 0 rfl) ?_
      refine zgetR C hS ff_X1_9_38 (hm 38 (by decide)) (hk (38, 1) (by decide)) dX1_begin_10 ?_
      refine lv_iload_n C.1 C.2.1 dX1_begin_13 rfl (lv_at hl 1 rfl) ?_
      refine lv_iconst (v := (-1 : Int32)) C.1 C.2.1 dX1_begin_14 rfl ?_
      obtain ⟨hi, hf⟩ := zck_some hf
      refine zast C hS sh_39 (hm 39 (by decide)) hi dX1_begin_15 (fun H locs hS => ?_)
      obtain ⟨h11, eh11, hf⟩ := zst_some hf
      have hS : zS G h11 s.heap H locs := by rw [eh11]; exact hS
      obtain ⟨y12, ey12, hf⟩ := zlt_some hf
      refine lv_iinc (v := y12) (lv' := [(1, .int y12), (0, .ref (zal G 38))]) C.1 C.2.1 dX1_begin_16 hl (k := 1) rfl ey12.symm (by decide) rfl (fun ls hl => ?_)
      refine lv_goto (tgt := 2) C.1 C.2.1 dX1_begin_19 (by decide) ?_
      exact ih _ _ _ _ _ (lv_sub hl [1, 0] rfl) hS hf
set_option maxHeartbeats 4000000 in
set_option maxRecDepth 100000 in
theorem c_X1_begin (l : Launch) (G : zG) (h : zH) (q : Int32 × zH) (hm : ∀ c ∈ nd_X1_begin, c ∈ znm G) (hk : ∀ q ∈ ld_X1_begin, zlk G q.1 q.2 = true) (hf : f_X1_begin h = some q) : zCtV l yX1_begin cX1_begin 2 none (4) [.ref (zal G 38)] G h q.2 := by
  refine zMetV (by decide) (Nat.le_of_ble_eq_true rfl) ?_
  intro p e s m below meth c ls C hl hS
  have hl : lv_has ls 2 [(0, .ref (zal G 38))] := hl
  have C : zC G p s m [.ref (zal G 38)].toArray meth c cX1_begin 2 RX1 none := C
  unfold f_X1_begin at hf
  refine lv_iconst (v := (0 : Int32)) C.1 C.2.1 dX1_begin_0 rfl ?_
  refine lv_istore_n (lv' := [(1, .int (0 : Int32)), (0, .ref (zal G 38))]) C.1 C.2.1 dX1_begin_1 rfl hl (by decide) rfl (fun ls hl => ?_)
  exact w_X1_begin_2 C hm hk  zN _ _ _ _ _ (lv_sub hl [1, 0] rfl) hS hf
end
section
theorem dX9_beside_0 : decode cX9_beside 0 = .ok (.iload_n 1, 1) := by decide +kernel
theorem dX9_beside_1 : decode cX9_beside 1 = .ok (.iconst 1, 1) := by decide +kernel
theorem dX9_beside_2 : decode cX9_beside 2 = .ok (.iadd, 1) := by decide +kernel
theorem dX9_beside_3 : decode cX9_beside 3 = .ok (.aload_n 0, 1) := by decide +kernel
theorem dX9_beside_4 : decode cX9_beside 4 = .ok (.getfield 31, 3) := by decide +kernel
theorem dX9_beside_7 : decode cX9_beside 7 = .ok (.if_icmp .ge 9, 3) := by decide +kernel
theorem dX9_beside_10 : decode cX9_beside 10 = .ok (.iload_n 1, 1) := by decide +kernel
theorem dX9_beside_11 : decode cX9_beside 11 = .ok (.iconst 1, 1) := by decide +kernel
theorem dX9_beside_12 : decode cX9_beside 12 = .ok (.iadd, 1) := by decide +kernel
theorem dX9_beside_13 : decode cX9_beside 13 = .ok (.goto 4, 3) := by decide +kernel
theorem dX9_beside_16 : decode cX9_beside 16 = .ok (.iconst 0, 1) := by decide +kernel
theorem dX9_beside_17 : decode cX9_beside 17 = .ok (.ireturn, 1) := by decide +kernel
abbrev nd_X9_beside : List Nat := [7]
abbrev ld_X9_beside : List (Nat × Nat) := []
def f_X9_beside  (x1 : Int32) (h : zH) : zR := (if (h 7 3) ≤ (x1 + (1 : Int32)) then (some ((0 : Int32), h)) else (some ((x1 + (1 : Int32)), h)))
variable {p : Program} {l : Launch} {e : Env} {s : State} {m : MethodId} {args : Array Value} {below : List Frame} {meth : Method} {c : Code} {G : zG} {q : Int32 × zH}
set_option maxHeartbeats 4000000 in
set_option maxRecDepth 100000 in
theorem c_X9_beside (l : Launch) (G : zG) (h : zH) (x1 : Int32) (q : Int32 × zH) (hm : ∀ c ∈ nd_X9_beside, c ∈ znm G) (hk : ∀ q ∈ ld_X9_beside, zlk G q.1 q.2 = true) (hf : f_X9_beside x1 h = some q) : zCtI l yX9_beside cX9_beside 2 (some .int) (2) [.ref (zal G 7), .int x1] G h q.2 q.1 := by
  refine zMetI (by decide) (Nat.le_of_ble_eq_true rfl) ?_
  intro p e s m below meth c ls C hl hS
  have hl : lv_has ls 2 [(0, .ref (zal G 7)), (1, .int x1)] := hl
  have C : zC G p s m [.ref (zal G 7), .int x1].toArray meth c cX9_beside 2 RX9 (some .int) := C
  unfold f_X9_beside at hf
  refine lv_iload_n C.1 C.2.1 dX9_beside_0 rfl (lv_at hl 1 rfl) ?_
  refine lv_iconst (v := (1 : Int32)) C.1 C.2.1 dX9_beside_1 rfl ?_
  refine lv_iadd C.1 C.2.1 dX9_beside_2 ?_
  refine lv_aload_n C.1 C.2.1 dX9_beside_3 rfl (lv_at hl 0 rfl) ?_
  refine zgetI C hS ff_X9_31_7 (hm 7 (by decide)) dX9_beside_4 ?_
  refine lv_icmp_ge (tgt := 16) C.1 C.2.1 dX9_beside_7 (by decide) (fun hc => ?_) (fun hc => ?_)
  · have hf := zif_t hc hf
    refine lv_iconst (v := (0 : Int32)) C.1 C.2.1 dX9_beside_16 rfl ?_
    exact zretI C hS hf dX9_beside_17
  · have hf := zif_f hc hf
    refine lv_iload_n C.1 C.2.1 dX9_beside_10 rfl (lv_at hl 1 rfl) ?_
    refine lv_iconst (v := (1 : Int32)) C.1 C.2.1 dX9_beside_11 rfl ?_
    refine lv_iadd C.1 C.2.1 dX9_beside_12 ?_
    refine lv_goto (tgt := 17) C.1 C.2.1 dX9_beside_13 (by decide) ?_
    exact zretI C hS hf dX9_beside_17
end
section
theorem dX1_partnersOf_0 : decode cX1_partnersOf 0 = .ok (.iload_n 1, 1) := by decide +kernel
theorem dX1_partnersOf_1 : decode cX1_partnersOf 1 = .ok (.aload_n 0, 1) := by decide +kernel
theorem dX1_partnersOf_2 : decode cX1_partnersOf 2 = .ok (.getfield 43, 3) := by decide +kernel
theorem dX1_partnersOf_5 : decode cX1_partnersOf 5 = .ok (.invokestatic 79, 3) := by decide +kernel
theorem dX1_partnersOf_8 : decode cX1_partnersOf 8 = .ok (.ifCond .ne 5, 3) := by decide +kernel
theorem dX1_partnersOf_11 : decode cX1_partnersOf 11 = .ok (.iconst 0, 1) := by decide +kernel
theorem dX1_partnersOf_12 : decode cX1_partnersOf 12 = .ok (.ireturn, 1) := by decide +kernel
theorem dX1_partnersOf_13 : decode cX1_partnersOf 13 = .ok (.iload_n 1, 1) := by decide +kernel
theorem dX1_partnersOf_14 : decode cX1_partnersOf 14 = .ok (.iload_n 2, 1) := by decide +kernel
theorem dX1_partnersOf_15 : decode cX1_partnersOf 15 = .ok (.invokestatic 79, 3) := by decide +kernel
theorem dX1_partnersOf_18 : decode cX1_partnersOf 18 = .ok (.ifCond .eq 7, 3) := by decide +kernel
theorem dX1_partnersOf_21 : decode cX1_partnersOf 21 = .ok (.iload_n 3, 1) := by decide +kernel
theorem dX1_partnersOf_22 : decode cX1_partnersOf 22 = .ok (.goto 4, 3) := by decide +kernel
theorem dX1_partnersOf_25 : decode cX1_partnersOf 25 = .ok (.iconst 0, 1) := by decide +kernel
theorem dX1_partnersOf_26 : decode cX1_partnersOf 26 = .ok (.iload_n 1, 1) := by decide +kernel
theorem dX1_partnersOf_27 : decode cX1_partnersOf 27 = .ok (.iload_n 3, 1) := by decide +kernel
theorem dX1_partnersOf_28 : decode cX1_partnersOf 28 = .ok (.invokestatic 79, 3) := by decide +kernel
theorem dX1_partnersOf_31 : decode cX1_partnersOf 31 = .ok (.ifCond .eq 7, 3) := by decide +kernel
theorem dX1_partnersOf_34 : decode cX1_partnersOf 34 = .ok (.iload_n 2, 1) := by decide +kernel
theorem dX1_partnersOf_35 : decode cX1_partnersOf 35 = .ok (.goto 4, 3) := by decide +kernel
theorem dX1_partnersOf_38 : decode cX1_partnersOf 38 = .ok (.iconst 0, 1) := by decide +kernel
theorem dX1_partnersOf_39 : decode cX1_partnersOf 39 = .ok (.ior, 1) := by decide +kernel
theorem dX1_partnersOf_40 : decode cX1_partnersOf 40 = .ok (.aload_n 0, 1) := by decide +kernel
theorem dX1_partnersOf_41 : decode cX1_partnersOf 41 = .ok (.getfield 47, 3) := by decide +kernel
theorem dX1_partnersOf_44 : decode cX1_partnersOf 44 = .ok (.iand, 1) := by decide +kernel
theorem dX1_partnersOf_45 : decode cX1_partnersOf 45 = .ok (.ireturn, 1) := by decide +kernel
abbrev nd_X1_partnersOf : List Nat := [38]
abbrev ld_X1_partnersOf : List (Nat × Nat) := []
theorem sn_X1_partnersOf_X11_isIn : ∀ c ∈ nd_X11_isIn, c ∈ nd_X1_partnersOf := by decide
theorem sl_X1_partnersOf_X11_isIn : ∀ q ∈ ld_X11_isIn, q ∈ ld_X1_partnersOf := by decide
def f_X1_partnersOf_39  (s0 : Int32) (s1 : Int32) (h : zH) : zR := (some (((s1 ||| s0) &&& (h 38 8)), h))
def f_X1_partnersOf_26  (x1 : Int32) (x2 : Int32) (x3 : Int32) (s0 : Int32) (h : zH) : zR := (zbd (f_X11_isIn x1 x3 h) fun r5 h6 => (if r5 = 0 then (f_X1_partnersOf_39  (0 : Int32) s0 h6) else (f_X1_partnersOf_39  x2 s0 h6)))
def f_X1_partnersOf  (x1 : Int32) (x2 : Int32) (x3 : Int32) (h : zH) : zR := (zbd (f_X11_isIn x1 (h 38 7) h) fun r1 h2 => (if r1 = 0 then (some ((0 : Int32), h2)) else (zbd (f_X11_isIn x1 x2 h2) fun r3 h4 => (if r3 = 0 then (f_X1_partnersOf_26  x1 x2 x3 (0 : Int32) h4) else (f_X1_partnersOf_26  x1 x2 x3 x3 h4)))))
variable {p : Program} {l : Launch} {e : Env} {s : State} {m : MethodId} {args : Array Value} {below : List Frame} {meth : Method} {c : Code} {G : zG} {q : Int32 × zH}
set_option maxHeartbeats 4000000 in
set_option maxRecDepth 100000 in
theorem w_X1_partnersOf_39  (C : zC G p s m args meth c cX1_partnersOf 4 RX1 (some .int)) (hm : ∀ c ∈ nd_X1_partnersOf, c ∈ znm G) (hk : ∀ q ∈ ld_X1_partnersOf, zlk G q.1 q.2 = true)  : ∀ (ls : Array Slot) (H : Heap) (locs : List Loc) (h : zH) (s0 : Int32) (s1 : Int32), lv_has ls 4 [(0, .ref (zal G 38))] → zS G h s.heap H locs → f_X1_partnersOf_39  s0 s1 h = some q → W p l e (zrm (3)) s m args below meth c H locs 0 0 (MQ below (zQI G q.2 q.1) args s 0 0 (zA G)) (F0 m 39 ls [.int s0, .int s1]) := by
  intro ls H locs h s0 s1 hl hS hf
  unfold f_X1_partnersOf_39 at hf
  refine lv_ior C.1 C.2.1 dX1_partnersOf_39 ?_
  refine lv_aload_n C.1 C.2.1 dX1_partnersOf_40 rfl (lv_at hl 0 rfl) ?_
  refine zgetI C hS ff_X1_47_38 (hm 38 (by decide)) dX1_partnersOf_41 ?_
  refine lv_iand C.1 C.2.1 dX1_partnersOf_44 ?_
  exact zretI C hS hf dX1_partnersOf_45
set_option maxHeartbeats 4000000 in
set_option maxRecDepth 100000 in
theorem w_X1_partnersOf_26  (C : zC G p s m args meth c cX1_partnersOf 4 RX1 (some .int)) (hm : ∀ c ∈ nd_X1_partnersOf, c ∈ znm G) (hk : ∀ q ∈ ld_X1_partnersOf, zlk G q.1 q.2 = true)  : ∀ (ls : Array Slot) (H : Heap) (locs : List Loc) (h : zH) (x1 : Int32) (x2 : Int32) (x3 : Int32) (s0 : Int32), lv_has ls 4 [(0, .ref (zal G 38)), (1, .int x1), (2, .int x2), (3, .int x3)] → zS G h s.heap H locs → f_X1_partnersOf_26  x1 x2 x3 s0 h = some q → W p l e (zrm (3)) s m args below meth c H locs 0 0 (MQ below (zQI G q.2 q.1) args s 0 0 (zA G)) (F0 m 26 ls [.int s0]) := by
  intro ls H locs h x1 x2 x3 s0 hl hS hf
  unfold f_X1_partnersOf_26 at hf
  refine lv_iload_n C.1 C.2.1 dX1_partnersOf_26 rfl (lv_at hl 1 rfl) ?_
  refine lv_iload_n C.1 C.2.1 dX1_partnersOf_27 rfl (lv_at hl 3 rfl) ?_
  obtain ⟨r5, h6, er5, hf⟩ := zbd_some hf
  refine zcallNI (As := [.int x1, .int x3]) (rest := [.int s0]) C hS mn_X1_79 (c_X11_isIn l G h x1 x3 (r5, h6) (fun c h => hm c (sn_X1_partnersOf_X11_isIn c h)) (fun q h => hk q (sl_X1_partnersOf_X11_isIn q h)) er5) rfl rfl (Nat.le_of_ble_eq_true rfl) hl.1 ⟨Nat.le_of_ble_eq_true rfl, Nat.le_of_ble_eq_true rfl, Nat.le_of_ble_eq_true rfl, Nat.le_of_ble_eq_true rfl⟩ dX1_partnersOf_28 (fun H locs hS => ?_)
  refine lv_if_eq (tgt := 38) C.1 C.2.1 dX1_partnersOf_31 (by decide) (fun hc => ?_) (fun hc => ?_)
  · have hf := zif_t hc hf
    refine lv_iconst (v := (0 : Int32)) C.1 C.2.1 dX1_partnersOf_38 rfl ?_
    exact w_X1_partnersOf_39 C hm hk  _ _ _ _ _ _ (lv_sub hl [0] rfl) hS hf
  · have hf := zif_f hc hf
    refine lv_iload_n C.1 C.2.1 dX1_partnersOf_34 rfl (lv_at hl 2 rfl) ?_
    refine lv_goto (tgt := 39) C.1 C.2.1 dX1_partnersOf_35 (by decide) ?_
    exact w_X1_partnersOf_39 C hm hk  _ _ _ _ _ _ (lv_sub hl [0] rfl) hS hf
set_option maxHeartbeats 4000000 in
set_option maxRecDepth 100000 in
theorem c_X1_partnersOf (l : Launch) (G : zG) (h : zH) (x1 : Int32) (x2 : Int32) (x3 : Int32) (q : Int32 × zH) (hm : ∀ c ∈ nd_X1_partnersOf, c ∈ znm G) (hk : ∀ q ∈ ld_X1_partnersOf, zlk G q.1 q.2 = true) (hf : f_X1_partnersOf x1 x2 x3 h = some q) : zCtI l yX1_partnersOf cX1_partnersOf 4 (some .int) (3) [.ref (zal G 38), .int x1, .int x2, .int x3] G h q.2 q.1 := by
  refine zMetI (by decide) (Nat.le_of_ble_eq_true rfl) ?_
  intro p e s m below meth c ls C hl hS
  have hl : lv_has ls 4 [(0, .ref (zal G 38)), (1, .int x1), (2, .int x2), (3, .int x3)] := hl
  have C : zC G p s m [.ref (zal G 38), .int x1, .int x2, .int x3].toArray meth c cX1_partnersOf 4 RX1 (some .int) := C
  unfold f_X1_partnersOf at hf
  refine lv_iload_n C.1 C.2.1 dX1_partnersOf_0 rfl (lv_at hl 1 rfl) ?_
  refine lv_aload_n C.1 C.2.1 dX1_partnersOf_1 rfl (lv_at hl 0 rfl) ?_
  refine zgetI C hS ff_X1_43_38 (hm 38 (by decide)) dX1_partnersOf_2 ?_
  obtain ⟨r1, h2, er1, hf⟩ := zbd_some hf
  refine zcallNI (As := [.int x1, .int (h 38 7)]) (rest := []) C hS mn_X1_79 (c_X11_isIn l G h x1 (h 38 7) (r1, h2) (fun c h => hm c (sn_X1_partnersOf_X11_isIn c h)) (fun q h => hk q (sl_X1_partnersOf_X11_isIn q h)) er1) rfl rfl (Nat.le_of_ble_eq_true rfl) hl.1 ⟨Nat.le_of_ble_eq_true rfl, Nat.le_of_ble_eq_true rfl, Nat.le_of_ble_eq_true rfl, Nat.le_of_ble_eq_true rfl⟩ dX1_partnersOf_5 (fun H locs hS => ?_)
  refine lv_if_ne (tgt := 13) C.1 C.2.1 dX1_partnersOf_8 (by decide) (fun hc => ?_) (fun hc => ?_)
  · have hf := zif_f hc hf
    refine lv_iload_n C.1 C.2.1 dX1_partnersOf_13 rfl (lv_at hl 1 rfl) ?_
    refine lv_iload_n C.1 C.2.1 dX1_partnersOf_14 rfl (lv_at hl 2 rfl) ?_
    obtain ⟨r3, h4, er3, hf⟩ := zbd_some hf
    refine zcallNI (As := [.int x1, .int x2]) (rest := []) C hS mn_X1_79 (c_X11_isIn l G h2 x1 x2 (r3, h4) (fun c h => hm c (sn_X1_partnersOf_X11_isIn c h)) (fun q h => hk q (sl_X1_partnersOf_X11_isIn q h)) er3) rfl rfl (Nat.le_of_ble_eq_true rfl) hl.1 ⟨Nat.le_of_ble_eq_true rfl, Nat.le_of_ble_eq_true rfl, Nat.le_of_ble_eq_true rfl, Nat.le_of_ble_eq_true rfl⟩ dX1_partnersOf_15 (fun H locs hS => ?_)
    refine lv_if_eq (tgt := 25) C.1 C.2.1 dX1_partnersOf_18 (by decide) (fun hc => ?_) (fun hc => ?_)
    · have hf := zif_t hc hf
      refine lv_iconst (v := (0 : Int32)) C.1 C.2.1 dX1_partnersOf_25 rfl ?_
      exact w_X1_partnersOf_26 C hm hk  _ _ _ _ _ _ _ _ (lv_sub hl [0, 1, 2, 3] rfl) hS hf
    · have hf := zif_f hc hf
      refine lv_iload_n C.1 C.2.1 dX1_partnersOf_21 rfl (lv_at hl 3 rfl) ?_
      refine lv_goto (tgt := 26) C.1 C.2.1 dX1_partnersOf_22 (by decide) ?_
      exact w_X1_partnersOf_26 C hm hk  _ _ _ _ _ _ _ _ (lv_sub hl [0, 1, 2, 3] rfl) hS hf
  · have hf := zif_t hc hf
    refine lv_iconst (v := (0 : Int32)) C.1 C.2.1 dX1_partnersOf_11 rfl ?_
    exact zretI C hS hf dX1_partnersOf_12
end
section
theorem dX1_findOf_0 : decode cX1_findOf 0 = .ok (.aload_n 0, 1) := by decide +kernel
theorem dX1_findOf_1 : decode cX1_findOf 1 = .ok (.iconst 0, 1) := by decide +kernel
theorem dX1_findOf_2 : decode cX1_findOf 2 = .ok (.putfield 91, 3) := by decide +kernel
theorem dX1_findOf_5 : decode cX1_findOf 5 = .ok (.iload_n 1, 1) := by decide +kernel
theorem dX1_findOf_6 : decode cX1_findOf 6 = .ok (.iload_n 2, 1) := by decide +kernel
theorem dX1_findOf_7 : decode cX1_findOf 7 = .ok (.if_icmp .eq 19, 3) := by decide +kernel
theorem dX1_findOf_10 : decode cX1_findOf 10 = .ok (.iload_n 2, 1) := by decide +kernel
theorem dX1_findOf_11 : decode cX1_findOf 11 = .ok (.aload_n 0, 1) := by decide +kernel
theorem dX1_findOf_12 : decode cX1_findOf 12 = .ok (.getfield 27, 3) := by decide +kernel
theorem dX1_findOf_15 : decode cX1_findOf 15 = .ok (.getfield 94, 3) := by decide +kernel
theorem dX1_findOf_18 : decode cX1_findOf 18 = .ok (.iload_n 1, 1) := by decide +kernel
theorem dX1_findOf_19 : decode cX1_findOf 19 = .ok (.iaload, 1) := by decide +kernel
theorem dX1_findOf_20 : decode cX1_findOf 20 = .ok (.invokestatic 79, 3) := by decide +kernel
theorem dX1_findOf_23 : decode cX1_findOf 23 = .ok (.ifCond .eq 5, 3) := by decide +kernel
theorem dX1_findOf_26 : decode cX1_findOf 26 = .ok (.iconst 0, 1) := by decide +kernel
theorem dX1_findOf_27 : decode cX1_findOf 27 = .ok (.ireturn, 1) := by decide +kernel
theorem dX1_findOf_28 : decode cX1_findOf 28 = .ok (.aload_n 0, 1) := by decide +kernel
theorem dX1_findOf_29 : decode cX1_findOf 29 = .ok (.getfield 27, 3) := by decide +kernel
theorem dX1_findOf_32 : decode cX1_findOf 32 = .ok (.getfield 31, 3) := by decide +kernel
theorem dX1_findOf_35 : decode cX1_findOf 35 = .ok (.getfield 54, 3) := by decide +kernel
theorem dX1_findOf_38 : decode cX1_findOf 38 = .ok (.istore_n 3, 1) := by decide +kernel
theorem dX1_findOf_39 : decode cX1_findOf 39 = .ok (.iconst 0, 1) := by decide +kernel
theorem dX1_findOf_40 : decode cX1_findOf 40 = .ok (.istore 4, 2) := by decide +kernel
theorem dX1_findOf_42 : decode cX1_findOf 42 = .ok (.iload 4, 2) := by decide +kernel
theorem dX1_findOf_44 : decode cX1_findOf 44 = .ok (.iload_n 3, 1) := by decide +kernel
theorem dX1_findOf_45 : decode cX1_findOf 45 = .ok (.if_icmp .ge 141, 3) := by decide +kernel
theorem dX1_findOf_48 : decode cX1_findOf 48 = .ok (.aload_n 0, 1) := by decide +kernel
theorem dX1_findOf_49 : decode cX1_findOf 49 = .ok (.iload 4, 2) := by decide +kernel
theorem dX1_findOf_51 : decode cX1_findOf 51 = .ok (.aload_n 0, 1) := by decide +kernel
theorem dX1_findOf_52 : decode cX1_findOf 52 = .ok (.getfield 18, 3) := by decide +kernel
theorem dX1_findOf_55 : decode cX1_findOf 55 = .ok (.iload_n 1, 1) := by decide +kernel
theorem dX1_findOf_56 : decode cX1_findOf 56 = .ok (.iaload, 1) := by decide +kernel
theorem dX1_findOf_57 : decode cX1_findOf 57 = .ok (.aload_n 0, 1) := by decide +kernel
theorem dX1_findOf_58 : decode cX1_findOf 58 = .ok (.getfield 18, 3) := by decide +kernel
theorem dX1_findOf_61 : decode cX1_findOf 61 = .ok (.iload_n 2, 1) := by decide +kernel
theorem dX1_findOf_62 : decode cX1_findOf 62 = .ok (.iaload, 1) := by decide +kernel
theorem dX1_findOf_63 : decode cX1_findOf 63 = .ok (.invokevirtual 97, 3) := by decide +kernel
theorem dX1_findOf_66 : decode cX1_findOf 66 = .ok (.istore 5, 2) := by decide +kernel
theorem dX1_findOf_68 : decode cX1_findOf 68 = .ok (.iconst 0, 1) := by decide +kernel
theorem dX1_findOf_69 : decode cX1_findOf 69 = .ok (.istore 6, 2) := by decide +kernel
theorem dX1_findOf_71 : decode cX1_findOf 71 = .ok (.iload 6, 2) := by decide +kernel
theorem dX1_findOf_73 : decode cX1_findOf 73 = .ok (.iload_n 3, 1) := by decide +kernel
theorem dX1_findOf_74 : decode cX1_findOf 74 = .ok (.if_icmp .ge 106, 3) := by decide +kernel
theorem dX1_findOf_77 : decode cX1_findOf 77 = .ok (.iload 5, 2) := by decide +kernel
theorem dX1_findOf_79 : decode cX1_findOf 79 = .ok (.ifCond .eq 101, 3) := by decide +kernel
theorem dX1_findOf_82 : decode cX1_findOf 82 = .ok (.iload 6, 2) := by decide +kernel
theorem dX1_findOf_84 : decode cX1_findOf 84 = .ok (.iload 5, 2) := by decide +kernel
theorem dX1_findOf_86 : decode cX1_findOf 86 = .ok (.invokestatic 79, 3) := by decide +kernel
theorem dX1_findOf_89 : decode cX1_findOf 89 = .ok (.ifCond .eq 85, 3) := by decide +kernel
theorem dX1_findOf_92 : decode cX1_findOf 92 = .ok (.iload 4, 2) := by decide +kernel
theorem dX1_findOf_94 : decode cX1_findOf 94 = .ok (.iload 6, 2) := by decide +kernel
theorem dX1_findOf_96 : decode cX1_findOf 96 = .ok (.invokestatic 101, 3) := by decide +kernel
theorem dX1_findOf_99 : decode cX1_findOf 99 = .ok (.istore 7, 2) := by decide +kernel
theorem dX1_findOf_101 : decode cX1_findOf 101 = .ok (.aload_n 0, 1) := by decide +kernel
theorem dX1_findOf_102 : decode cX1_findOf 102 = .ok (.getfield 9, 3) := by decide +kernel
theorem dX1_findOf_105 : decode cX1_findOf 105 = .ok (.iload 7, 2) := by decide +kernel
theorem dX1_findOf_107 : decode cX1_findOf 107 = .ok (.iaload, 1) := by decide +kernel
theorem dX1_findOf_108 : decode cX1_findOf 108 = .ok (.iconst (-1), 1) := by decide +kernel
theorem dX1_findOf_109 : decode cX1_findOf 109 = .ok (.if_icmp .ne 28, 3) := by decide +kernel
theorem dX1_findOf_112 : decode cX1_findOf 112 = .ok (.aload_n 0, 1) := by decide +kernel
theorem dX1_findOf_113 : decode cX1_findOf 113 = .ok (.getfield 9, 3) := by decide +kernel
theorem dX1_findOf_116 : decode cX1_findOf 116 = .ok (.iload 7, 2) := by decide +kernel
theorem dX1_findOf_118 : decode cX1_findOf 118 = .ok (.aload_n 0, 1) := by decide +kernel
theorem dX1_findOf_119 : decode cX1_findOf 119 = .ok (.getfield 27, 3) := by decide +kernel
theorem dX1_findOf_122 : decode cX1_findOf 122 = .ok (.iload 4, 2) := by decide +kernel
theorem dX1_findOf_124 : decode cX1_findOf 124 = .ok (.iload 6, 2) := by decide +kernel
theorem dX1_findOf_126 : decode cX1_findOf 126 = .ok (.aload_n 0, 1) := by decide +kernel
theorem dX1_findOf_127 : decode cX1_findOf 127 = .ok (.getfield 15, 3) := by decide +kernel
theorem dX1_findOf_130 : decode cX1_findOf 130 = .ok (.iload 7, 2) := by decide +kernel
theorem dX1_findOf_132 : decode cX1_findOf 132 = .ok (.iaload, 1) := by decide +kernel
theorem dX1_findOf_133 : decode cX1_findOf 133 = .ok (.invokevirtual 104, 3) := by decide +kernel
theorem dX1_findOf_136 : decode cX1_findOf 136 = .ok (.iastore, 1) := by decide +kernel
theorem dX1_findOf_137 : decode cX1_findOf 137 = .ok (.aload_n 0, 1) := by decide +kernel
theorem dX1_findOf_138 : decode cX1_findOf 138 = .ok (.getfield 9, 3) := by decide +kernel
theorem dX1_findOf_141 : decode cX1_findOf 141 = .ok (.iload 7, 2) := by decide +kernel
theorem dX1_findOf_143 : decode cX1_findOf 143 = .ok (.iaload, 1) := by decide +kernel
theorem dX1_findOf_144 : decode cX1_findOf 144 = .ok (.aload_n 0, 1) := by decide +kernel
theorem dX1_findOf_145 : decode cX1_findOf 145 = .ok (.getfield 91, 3) := by decide +kernel
theorem dX1_findOf_148 : decode cX1_findOf 148 = .ok (.if_icmp .le 26, 3) := by decide +kernel
theorem dX1_findOf_151 : decode cX1_findOf 151 = .ok (.aload_n 0, 1) := by decide +kernel
theorem dX1_findOf_152 : decode cX1_findOf 152 = .ok (.aload_n 0, 1) := by decide +kernel
theorem dX1_findOf_153 : decode cX1_findOf 153 = .ok (.getfield 9, 3) := by decide +kernel
theorem dX1_findOf_156 : decode cX1_findOf 156 = .ok (.iload 7, 2) := by decide +kernel
theorem dX1_findOf_158 : decode cX1_findOf 158 = .ok (.iaload, 1) := by decide +kernel
theorem dX1_findOf_159 : decode cX1_findOf 159 = .ok (.putfield 91, 3) := by decide +kernel
theorem dX1_findOf_162 : decode cX1_findOf 162 = .ok (.aload_n 0, 1) := by decide +kernel
theorem dX1_findOf_163 : decode cX1_findOf 163 = .ok (.iload 4, 2) := by decide +kernel
theorem dX1_findOf_165 : decode cX1_findOf 165 = .ok (.putfield 76, 3) := by decide +kernel
theorem dX1_findOf_168 : decode cX1_findOf 168 = .ok (.aload_n 0, 1) := by decide +kernel
theorem dX1_findOf_169 : decode cX1_findOf 169 = .ok (.iload 6, 2) := by decide +kernel
theorem dX1_findOf_171 : decode cX1_findOf 171 = .ok (.putfield 82, 3) := by decide +kernel
theorem dX1_findOf_174 : decode cX1_findOf 174 = .ok (.iinc 6 1, 3) := by decide +kernel
theorem dX1_findOf_177 : decode cX1_findOf 177 = .ok (.goto (-106), 3) := by decide +kernel
theorem dX1_findOf_180 : decode cX1_findOf 180 = .ok (.iinc 4 1, 3) := by decide +kernel
theorem dX1_findOf_183 : decode cX1_findOf 183 = .ok (.goto (-141), 3) := by decide +kernel
theorem dX1_findOf_186 : decode cX1_findOf 186 = .ok (.aload_n 0, 1) := by decide +kernel
theorem dX1_findOf_187 : decode cX1_findOf 187 = .ok (.getfield 91, 3) := by decide +kernel
theorem dX1_findOf_190 : decode cX1_findOf 190 = .ok (.ifCond .le 7, 3) := by decide +kernel
theorem dX1_findOf_193 : decode cX1_findOf 193 = .ok (.iconst 1, 1) := by decide +kernel
theorem dX1_findOf_194 : decode cX1_findOf 194 = .ok (.goto 4, 3) := by decide +kernel
theorem dX1_findOf_197 : decode cX1_findOf 197 = .ok (.iconst 0, 1) := by decide +kernel
theorem dX1_findOf_198 : decode cX1_findOf 198 = .ok (.ireturn, 1) := by decide +kernel
abbrev nd_X1_findOf : List Nat := [1, 2, 4, 5, 11, 12, 13, 16, 17, 18, 19, 20, 21, 38, 39, 40, 41]
abbrev ld_X1_findOf : List (Nat × Nat) := [(1, 0), (1, 2), (1, 3), (1, 4), (1, 5), (2, 1), (2, 2), (11, 0), (11, 1), (16, 0), (16, 1), (16, 2), (38, 0), (38, 1), (38, 2), (38, 3)]
theorem sn_X1_findOf_X11_isIn : ∀ c ∈ nd_X11_isIn, c ∈ nd_X1_findOf := by decide
theorem sl_X1_findOf_X11_isIn : ∀ q ∈ ld_X11_isIn, q ∈ ld_X1_findOf := by decide
theorem sn_X1_findOf_X1_partnersOf : ∀ c ∈ nd_X1_partnersOf, c ∈ nd_X1_findOf := by decide
theorem sl_X1_findOf_X1_partnersOf : ∀ q ∈ ld_X1_partnersOf, q ∈ ld_X1_findOf := by decide
theorem sn_X1_findOf_X11_pairOf : ∀ c ∈ nd_X11_pairOf, c ∈ nd_X1_findOf := by decide
theorem sl_X1_findOf_X11_pairOf : ∀ q ∈ ld_X11_pairOf, q ∈ ld_X1_findOf := by decide
theorem sn_X1_findOf_X4_laughOf : ∀ c ∈ nd_X4_laughOf, c ∈ nd_X1_findOf := by decide
theorem sl_X1_findOf_X4_laughOf : ∀ q ∈ ld_X4_laughOf, q ∈ ld_X1_findOf := by decide
def f_X1_findOf_26  (h : zH) : zR := (some ((0 : Int32), h))
def f_X1_findOf_180 (k42 : Int32 → Int32 → Int32 → Int32 → zH → zR) (x1 : Int32) (x2 : Int32) (x3 : Int32) (x4 : Int32) (h : zH) : zR := (zlt (x4 + (1 : Int32)) fun y7 => (k42 x1 x2 x3 y7 h))
def f_X1_findOf_174 (k42 : Int32 → Int32 → Int32 → Int32 → zH → zR) (k71 : Int32 → Int32 → Int32 → Int32 → Int32 → Int32 → zH → zR) (x1 : Int32) (x2 : Int32) (x3 : Int32) (x4 : Int32) (x5 : Int32) (x6 : Int32) (h : zH) : zR := (zlt (x6 + (1 : Int32)) fun y10 => (k71 x1 x2 x3 x4 x5 y10 h))
def f_X1_findOf_137 (k42 : Int32 → Int32 → Int32 → Int32 → zH → zR) (k71 : Int32 → Int32 → Int32 → Int32 → Int32 → Int32 → zH → zR) (x1 : Int32) (x2 : Int32) (x3 : Int32) (x4 : Int32) (x5 : Int32) (x6 : Int32) (x7 : Int32) (h : zH) : zR := (zck x7 256 (if (h 39 (Int32.toNatClampNeg x7)) ≤ (h 38 11) then (f_X1_findOf_174 k42 k71 x1 x2 x3 x4 x5 x6 h) else (zck x7 256 (zst (zup h 38 11 (h 39 (Int32.toNatClampNeg x7))) fun h13 => (zst (zup h13 38 9 x4) fun h14 => (zst (zup h14 38 10 x6) fun h15 => (f_X1_findOf_174 k42 k71 x1 x2 x3 x4 x5 x6 h15)))))))
def f_X1_findOf_71 (k42 : Int32 → Int32 → Int32 → Int32 → zH → zR) : Nat → Int32 → Int32 → Int32 → Int32 → Int32 → Int32 → zH → zR
  | 0 => fun _ _ _ _ _ _ _ => none
  | n + 1 => fun x1 x2 x3 x4 x5 x6 h => (if x3 ≤ x6 then (f_X1_findOf_180 k42 x1 x2 x3 x4 h) else (if x5 = 0 then (f_X1_findOf_180 k42 x1 x2 x3 x4 h) else (zbd (f_X11_isIn x6 x5 h) fun r8 h9 => (if r8 = 0 then (f_X1_findOf_174 k42 (f_X1_findOf_71 k42 n) x1 x2 x3 x4 x5 x6 h9) else (zbd (f_X11_pairOf x4 x6 h9) fun r11 h12 => (zck r11 256 (if (h12 39 (Int32.toNatClampNeg r11)) = (-1 : Int32) then (zck r11 256 (zbd (f_X4_laughOf x4 x6 (h12 40 (Int32.toNatClampNeg r11)) h12) fun r16 h17 => (zck r11 256 (zst (zup h17 39 (Int32.toNatClampNeg r11) r16) fun h18 => (f_X1_findOf_137 k42 (f_X1_findOf_71 k42 n) x1 x2 x3 x4 x5 x6 r11 h18))))) else (f_X1_findOf_137 k42 (f_X1_findOf_71 k42 n) x1 x2 x3 x4 x5 x6 r11 h12))))))))
def f_X1_findOf_42  : Nat → Int32 → Int32 → Int32 → Int32 → zH → zR
  | 0 => fun _ _ _ _ _ => none
  | n + 1 => fun x1 x2 x3 x4 h => (if x3 ≤ x4 then (if (h 38 11) ≤ 0 then (some ((0 : Int32), h)) else (some ((1 : Int32), h))) else (zck x1 6 (zck x2 6 (zbd (f_X1_partnersOf x4 (h 41 (Int32.toNatClampNeg x1)) (h 41 (Int32.toNatClampNeg x2)) h) fun r5 h6 => (f_X1_findOf_71 (f_X1_findOf_42  n) zN x1 x2 x3 x4 r5 (0 : Int32) h6)))))
def f_X1_findOf  (x1 : Int32) (x2 : Int32) (h : zH) : zR := (zst (zup h 38 11 (0 : Int32)) fun h1 => (if x1 = x2 then (f_X1_findOf_26   h1) else (zck x1 6 (zbd (f_X11_isIn x2 (h1 20 (Int32.toNatClampNeg x1)) h1) fun r2 h3 => (if r2 = 0 then (zlt (h3 2 4) fun y4 => (f_X1_findOf_42  zN x1 x2 y4 (0 : Int32) h3)) else (f_X1_findOf_26   h3))))))
variable {p : Program} {l : Launch} {e : Env} {s : State} {m : MethodId} {args : Array Value} {below : List Frame} {meth : Method} {c : Code} {G : zG} {q : Int32 × zH}
set_option maxHeartbeats 4000000 in
set_option maxRecDepth 100000 in
theorem w_X1_findOf_26  (C : zC G p s m args meth c cX1_findOf 8 RX1 (some .boolean)) (hm : ∀ c ∈ nd_X1_findOf, c ∈ znm G) (hk : ∀ q ∈ ld_X1_findOf, zlk G q.1 q.2 = true)  : ∀ (ls : Array Slot) (H : Heap) (locs : List Loc) (h : zH), lv_has ls 8 [] → zS G h s.heap H locs → f_X1_findOf_26  h = some q → W p l e (zrm (5)) s m args below meth c H locs 0 0 (MQ below (zQI G q.2 q.1) args s 0 0 (zA G)) (F0 m 26 ls []) := by
  intro ls H locs h hl hS hf
  unfold f_X1_findOf_26 at hf
  refine lv_iconst (v := (0 : Int32)) C.1 C.2.1 dX1_findOf_26 rfl ?_
  exact zretZ C hS rfl hf dX1_findOf_27
set_option maxHeartbeats 4000000 in
set_option maxRecDepth 100000 in
theorem w_X1_findOf_180 {k42 : Int32 → Int32 → Int32 → Int32 → zH → zR} (C : zC G p s m args meth c cX1_findOf 8 RX1 (some .boolean)) (hm : ∀ c ∈ nd_X1_findOf, c ∈ znm G) (hk : ∀ q ∈ ld_X1_findOf, zlk G q.1 q.2 = true) (hk42 : ∀ (ls : Array Slot) (H : Heap) (locs : List Loc) (h : zH) (x1 : Int32) (x2 : Int32) (x3 : Int32) (x4 : Int32), lv_has ls 8 [(0, .ref (zal G 38)), (1, .int x1), (2, .int x2), (3, .int x3), (4, .int x4)] → zS G h s.heap H locs → k42 x1 x2 x3 x4 h = some q → W p l e (zrm (5)) s m args below meth c H locs 0 0 (MQ below (zQI G q.2 q.1) args s 0 0 (zA G)) (F0 m 42 ls [])) : ∀ (ls : Array Slot) (H : Heap) (locs : List Loc) (h : zH) (x1 : Int32) (x2 : Int32) (x3 : Int32) (x4 : Int32), lv_has ls 8 [(0, .ref (zal G 38)), (1, .int x1), (2, .int x2), (3, .int x3), (4, .int x4)] → zS G h s.heap H locs → f_X1_findOf_180 k42 x1 x2 x3 x4 h = some q → W p l e (zrm (5)) s m args below meth c H locs 0 0 (MQ below (zQI G q.2 q.1) args s 0 0 (zA G)) (F0 m 180 ls []) := by
  intro ls H locs h x1 x2 x3 x4 hl hS hf
  unfold f_X1_findOf_180 at hf
  obtain ⟨y7, ey7, hf⟩ := zlt_some hf
  refine lv_iinc (v := y7) (lv' := [(4, .int y7), (0, .ref (zal G 38)), (1, .int x1), (2, .int x2), (3, .int x3)]) C.1 C.2.1 dX1_findOf_180 hl (k := 4) rfl ey7.symm (by decide) rfl (fun ls hl => ?_)
  refine lv_goto (tgt := 42) C.1 C.2.1 dX1_findOf_183 (by decide) ?_
  exact hk42 _ _ _ _ _ _ _ _ (lv_sub hl [1, 2, 3, 4, 0] rfl) hS hf
set_option maxHeartbeats 4000000 in
set_option maxRecDepth 100000 in
theorem w_X1_findOf_174 {k42 : Int32 → Int32 → Int32 → Int32 → zH → zR} {k71 : Int32 → Int32 → Int32 → Int32 → Int32 → Int32 → zH → zR} (C : zC G p s m args meth c cX1_findOf 8 RX1 (some .boolean)) (hm : ∀ c ∈ nd_X1_findOf, c ∈ znm G) (hk : ∀ q ∈ ld_X1_findOf, zlk G q.1 q.2 = true) (hk42 : ∀ (ls : Array Slot) (H : Heap) (locs : List Loc) (h : zH) (x1 : Int32) (x2 : Int32) (x3 : Int32) (x4 : Int32), lv_has ls 8 [(0, .ref (zal G 38)), (1, .int x1), (2, .int x2), (3, .int x3), (4, .int x4)] → zS G h s.heap H locs → k42 x1 x2 x3 x4 h = some q → W p l e (zrm (5)) s m args below meth c H locs 0 0 (MQ below (zQI G q.2 q.1) args s 0 0 (zA G)) (F0 m 42 ls [])) (hk71 : ∀ (ls : Array Slot) (H : Heap) (locs : List Loc) (h : zH) (x1 : Int32) (x2 : Int32) (x3 : Int32) (x4 : Int32) (x5 : Int32) (x6 : Int32), lv_has ls 8 [(0, .ref (zal G 38)), (1, .int x1), (2, .int x2), (3, .int x3), (4, .int x4), (5, .int x5), (6, .int x6)] → zS G h s.heap H locs → k71 x1 x2 x3 x4 x5 x6 h = some q → W p l e (zrm (5)) s m args below meth c H locs 0 0 (MQ below (zQI G q.2 q.1) args s 0 0 (zA G)) (F0 m 71 ls [])) : ∀ (ls : Array Slot) (H : Heap) (locs : List Loc) (h : zH) (x1 : Int32) (x2 : Int32) (x3 : Int32) (x4 : Int32) (x5 : Int32) (x6 : Int32), lv_has ls 8 [(0, .ref (zal G 38)), (1, .int x1), (2, .int x2), (3, .int x3), (4, .int x4), (5, .int x5), (6, .int x6)] → zS G h s.heap H locs → f_X1_findOf_174 k42 k71 x1 x2 x3 x4 x5 x6 h = some q → W p l e (zrm (5)) s m args below meth c H locs 0 0 (MQ below (zQI G q.2 q.1) args s 0 0 (zA G)) (F0 m 174 ls []) := by
  intro ls H locs h x1 x2 x3 x4 x5 x6 hl hS hf
  unfold f_X1_findOf_174 at hf
  obtain ⟨y10, ey10, hf⟩ := zlt_some hf
  refine lv_iinc (v := y10) (lv' := [(6, .int y10), (0, .ref (zal G 38)), (1, .int x1), (2, .int x2), (3, .int x3), (4, .int x4), (5, .int x5)]) C.1 C.2.1 dX1_findOf_174 hl (k := 6) rfl ey10.symm (by decide) rfl (fun ls hl => ?_)
  refine lv_goto (tgt := 71) C.1 C.2.1 dX1_findOf_177 (by decide) ?_
  exact hk71 _ _ _ _ _ _ _ _ _ _ (lv_sub hl [1, 2, 3, 4, 5, 6, 0] rfl) hS hf
set_option maxHeartbeats 4000000 in
set_option maxRecDepth 100000 in
theorem w_X1_findOf_137 {k42 : Int32 → Int32 → Int32 → Int32 → zH → zR} {k71 : Int32 → Int32 → Int32 → Int32 → Int32 → Int32 → zH → zR} (C : zC G p s m args meth c cX1_findOf 8 RX1 (some .boolean)) (hm : ∀ c ∈ nd_X1_findOf, c ∈ znm G) (hk : ∀ q ∈ ld_X1_findOf, zlk G q.1 q.2 = true) (hk42 : ∀ (ls : Array Slot) (H : Heap) (locs : List Loc) (h : zH) (x1 : Int32) (x2 : Int32) (x3 : Int32) (x4 : Int32), lv_has ls 8 [(0, .ref (zal G 38)), (1, .int x1), (2, .int x2), (3, .int x3), (4, .int x4)] → zS G h s.heap H locs → k42 x1 x2 x3 x4 h = some q → W p l e (zrm (5)) s m args below meth c H locs 0 0 (MQ below (zQI G q.2 q.1) args s 0 0 (zA G)) (F0 m 42 ls [])) (hk71 : ∀ (ls : Array Slot) (H : Heap) (locs : List Loc) (h : zH) (x1 : Int32) (x2 : Int32) (x3 : Int32) (x4 : Int32) (x5 : Int32) (x6 : Int32), lv_has ls 8 [(0, .ref (zal G 38)), (1, .int x1), (2, .int x2), (3, .int x3), (4, .int x4), (5, .int x5), (6, .int x6)] → zS G h s.heap H locs → k71 x1 x2 x3 x4 x5 x6 h = some q → W p l e (zrm (5)) s m args below meth c H locs 0 0 (MQ below (zQI G q.2 q.1) args s 0 0 (zA G)) (F0 m 71 ls [])) : ∀ (ls : Array Slot) (H : Heap) (locs : List Loc) (h : zH) (x1 : Int32) (x2 : Int32) (x3 : Int32) (x4 : Int32) (x5 : Int32) (x6 : Int32) (x7 : Int32), lv_has ls 8 [(0, .ref (zal G 38)), (1, .int x1), (2, .int x2), (3, .int x3), (4, .int x4), (5, .int x5), (6, .int x6), (7, .int x7)] → zS G h s.heap H locs → f_X1_findOf_137 k42 k71 x1 x2 x3 x4 x5 x6 x7 h = some q → W p l e (zrm (5)) s m args below meth c H locs 0 0 (MQ below (zQI G q.2 q.1) args s 0 0 (zA G)) (F0 m 137 ls []) := by
  intro ls H locs h x1 x2 x3 x4 x5 x6 x7 hl hS hf
  unfold f_X1_findOf_137 at hf
  refine lv_aload_n C.1 C.2.1 dX1_findOf_137 rfl (lv_at hl 0 rfl) ?_
  refine zgetR C hS ff_X1_9_38 (hm 38 (by decide)) (hk (38, 1) (by decide)) dX1_findOf_138 ?_
  refine lv_iload C.1 C.2.1 dX1_findOf_141 (lv_at hl 7 rfl) ?_
  obtain ⟨hi, hf⟩ := zck_some hf
  refine zald C hS sh_39 (hm 39 (by decide)) hi dX1_findOf_143 ?_
  refine lv_aload_n C.1 C.2.1 dX1_findOf_144 rfl (lv_at hl 0 rfl) ?_
  refine zgetI C hS ff_X1_91_38 (hm 38 (by decide)) dX1_findOf_145 ?_
  refine lv_icmp_le (tgt := 174) C.1 C.2.1 dX1_findOf_148 (by decide) (fun hc => ?_) (fun hc => ?_)
  · have hf := zif_t hc hf
    exact w_X1_findOf_174 C hm hk hk42 hk71 _ _ _ _ _ _ _ _ _ _ (lv_sub hl [0, 1, 2, 3, 4, 5, 6] rfl) hS hf
  · have hf := zif_f hc hf
    refine lv_aload_n C.1 C.2.1 dX1_findOf_151 rfl (lv_at hl 0 rfl) ?_
    refine lv_aload_n C.1 C.2.1 dX1_findOf_152 rfl (lv_at hl 0 rfl) ?_
    refine zgetR C hS ff_X1_9_38 (hm 38 (by decide)) (hk (38, 1) (by decide)) dX1_findOf_153 ?_
    refine lv_iload C.1 C.2.1 dX1_findOf_156 (lv_at hl 7 rfl) ?_
    obtain ⟨hi, hf⟩ := zck_some hf
    refine zald C hS sh_39 (hm 39 (by decide)) hi dX1_findOf_158 ?_
    refine zputI C hS ff_X1_91_38 fw_38_11 (hm 38 (by decide)) dX1_findOf_159 (fun H locs hS => ?_)
    obtain ⟨h13, eh13, hf⟩ := zst_some hf
    have hS : zS G h13 s.heap H locs := by rw [eh13]; exact hS
    refine lv_aload_n C.1 C.2.1 dX1_findOf_162 rfl (lv_at hl 0 rfl) ?_
    refine lv_iload C.1 C.2.1 dX1_findOf_163 (lv_at hl 4 rfl) ?_
    refine zputI C hS ff_X1_76_38 fw_38_9 (hm 38 (by decide)) dX1_findOf_165 (fun H locs hS => ?_)
    obtain ⟨h14, eh14, hf⟩ := zst_some hf
    have hS : zS G h14 s.heap H locs := by rw [eh14]; exact hS
    refine lv_aload_n C.1 C.2.1 dX1_findOf_168 rfl (lv_at hl 0 rfl) ?_
    refine lv_iload C.1 C.2.1 dX1_findOf_169 (lv_at hl 6 rfl) ?_
    refine zputI C hS ff_X1_82_38 fw_38_10 (hm 38 (by decide)) dX1_findOf_171 (fun H locs hS => ?_)
    obtain ⟨h15, eh15, hf⟩ := zst_some hf
    have hS : zS G h15 s.heap H locs := by rw [eh15]; exact hS
    exact w_X1_findOf_174 C hm hk hk42 hk71 _ _ _ _ _ _ _ _ _ _ (lv_sub hl [0, 1, 2, 3, 4, 5, 6] rfl) hS hf
set_option maxHeartbeats 4000000 in
set_option maxRecDepth 100000 in
theorem w_X1_findOf_71 {k42 : Int32 → Int32 → Int32 → Int32 → zH → zR} (C : zC G p s m args meth c cX1_findOf 8 RX1 (some .boolean)) (hm : ∀ c ∈ nd_X1_findOf, c ∈ znm G) (hk : ∀ q ∈ ld_X1_findOf, zlk G q.1 q.2 = true) (hk42 : ∀ (ls : Array Slot) (H : Heap) (locs : List Loc) (h : zH) (x1 : Int32) (x2 : Int32) (x3 : Int32) (x4 : Int32), lv_has ls 8 [(0, .ref (zal G 38)), (1, .int x1), (2, .int x2), (3, .int x3), (4, .int x4)] → zS G h s.heap H locs → k42 x1 x2 x3 x4 h = some q → W p l e (zrm (5)) s m args below meth c H locs 0 0 (MQ below (zQI G q.2 q.1) args s 0 0 (zA G)) (F0 m 42 ls [])) : ∀ n, ∀ (ls : Array Slot) (H : Heap) (locs : List Loc) (h : zH) (x1 : Int32) (x2 : Int32) (x3 : Int32) (x4 : Int32) (x5 : Int32) (x6 : Int32), lv_has ls 8 [(0, .ref (zal G 38)), (1, .int x1), (2, .int x2), (3, .int x3), (4, .int x4), (5, .int x5), (6, .int x6)] → zS G h s.heap H locs → f_X1_findOf_71 k42 n x1 x2 x3 x4 x5 x6 h = some q → W p l e (zrm (5)) s m args below meth c H locs 0 0 (MQ below (zQI G q.2 q.1) args s 0 0 (zA G)) (F0 m 71 ls []) := by
  intro n
  induction n with
  | zero => intro ls H locs h x1 x2 x3 x4 x5 x6 hl hS hf; cases hf
  | succ n ih =>
    intro ls H locs h x1 x2 x3 x4 x5 x6 hl hS hf
    rw [f_X1_findOf_71] at hf
    refine lv_iload C.1 C.2.1 dX1_findOf_71 (lv_at hl 6 rfl) ?_
    refine lv_iload_n C.1 C.2.1 dX1_findOf_73 rfl (lv_at hl 3 rfl) ?_
    refine lv_icmp_ge (tgt := 180) C.1 C.2.1 dX1_findOf_74 (by decide) (fun hc => ?_) (fun hc => ?_)
    · have hf := zif_t hc hf
      exact w_X1_findOf_180 C hm hk hk42 _ _ _ _ _ _ _ _ (lv_sub hl [0, 1, 2, 3, 4] rfl) hS hf
    · have hf := zif_f hc hf
      refine lv_iload C.1 C.2.1 dX1_findOf_77 (lv_at hl 5 rfl) ?_
      refine lv_if_eq (tgt := 180) C.1 C.2.1 dX1_findOf_79 (by decide) (fun hc => ?_) (fun hc => ?_)
      · have hf := zif_t hc hf
        exact w_X1_findOf_180 C hm hk hk42 _ _ _ _ _ _ _ _ (lv_sub hl [0, 1, 2, 3, 4] rfl) hS hf
      · have hf := zif_f hc hf
        refine lv_iload C.1 C.2.1 dX1_findOf_82 (lv_at hl 6 rfl) ?_
        refine lv_iload C.1 C.2.1 dX1_findOf_84 (lv_at hl 5 rfl) ?_
        obtain ⟨r8, h9, er8, hf⟩ := zbd_some hf
        refine zcallNI (As := [.int x6, .int x5]) (rest := []) C hS mn_X1_79 (c_X11_isIn l G h x6 x5 (r8, h9) (fun c h => hm c (sn_X1_findOf_X11_isIn c h)) (fun q h => hk q (sl_X1_findOf_X11_isIn q h)) er8) rfl rfl (Nat.le_of_ble_eq_true rfl) hl.1 ⟨Nat.le_of_ble_eq_true rfl, Nat.le_of_ble_eq_true rfl, Nat.le_of_ble_eq_true rfl, Nat.le_of_ble_eq_true rfl⟩ dX1_findOf_86 (fun H locs hS => ?_)
        refine lv_if_eq (tgt := 174) C.1 C.2.1 dX1_findOf_89 (by decide) (fun hc => ?_) (fun hc => ?_)
        · have hf := zif_t hc hf
          exact w_X1_findOf_174 C hm hk hk42 ih _ _ _ _ _ _ _ _ _ _ (lv_sub hl [0, 1, 2, 3, 4, 5, 6] rfl) hS hf
        · have hf := zif_f hc hf
          refine lv_iload C.1 C.2.1 dX1_findOf_92 (lv_at hl 4 rfl) ?_
          refine lv_iload C.1 C.2.1 dX1_findOf_94 (lv_at hl 6 rfl) ?_
          obtain ⟨r11, h12, er11, hf⟩ := zbd_some hf
          refine zcallNI (As := [.int x4, .int x6]) (rest := []) C hS mn_X1_101 (c_X11_pairOf l G h9 x4 x6 (r11, h12) (fun c h => hm c (sn_X1_findOf_X11_pairOf c h)) (fun q h => hk q (sl_X1_findOf_X11_pairOf q h)) er11) rfl rfl (Nat.le_of_ble_eq_true rfl) hl.1 ⟨Nat.le_of_ble_eq_true rfl, Nat.le_of_ble_eq_true rfl, Nat.le_of_ble_eq_true rfl, Nat.le_of_ble_eq_true rfl⟩ dX1_findOf_96 (fun H locs hS => ?_)
          refine lv_istore (lv' := [(7, .int r11), (0, .ref (zal G 38)), (1, .int x1), (2, .int x2), (3, .int x3), (4, .int x4), (5, .int x5), (6, .int x6)]) C.1 C.2.1 dX1_findOf_99 hl (by decide) rfl (fun ls hl => ?_)
          refine lv_aload_n C.1 C.2.1 dX1_findOf_101 rfl (lv_at hl 1 rfl) ?_
          refine zgetR C hS ff_X1_9_38 (hm 38 (by decide)) (hk (38, 1) (by decide)) dX1_findOf_102 ?_
          refine lv_iload C.1 C.2.1 dX1_findOf_105 (lv_at hl 0 rfl) ?_
          obtain ⟨hi, hf⟩ := zck_some hf
          refine zald C hS sh_39 (hm 39 (by decide)) hi dX1_findOf_107 ?_
          refine lv_iconst (v := (-1 : Int32)) C.1 C.2.1 dX1_findOf_108 rfl ?_
          refine lv_icmp_ne (tgt := 137) C.1 C.2.1 dX1_findOf_109 (by decide) (fun hc => ?_) (fun hc => ?_)
          · have hf := zif_f hc hf
            exact w_X1_findOf_137 C hm hk hk42 ih _ _ _ _ _ _ _ _ _ _ _ (lv_sub hl [1, 2, 3, 4, 5, 6, 7, 0] rfl) hS hf
          · have hf := zif_t hc hf
            refine lv_aload_n C.1 C.2.1 dX1_findOf_112 rfl (lv_at hl 1 rfl) ?_
            refine zgetR C hS ff_X1_9_38 (hm 38 (by decide)) (hk (38, 1) (by decide)) dX1_findOf_113 ?_
            refine lv_iload C.1 C.2.1 dX1_findOf_116 (lv_at hl 0 rfl) ?_
            refine lv_aload_n C.1 C.2.1 dX1_findOf_118 rfl (lv_at hl 1 rfl) ?_
            refine zgetR C hS ff_X1_27_38 (hm 38 (by decide)) (hk (38, 0) (by decide)) dX1_findOf_119 ?_
            refine lv_iload C.1 C.2.1 dX1_findOf_122 (lv_at hl 5 rfl) ?_
            refine lv_iload C.1 C.2.1 dX1_findOf_124 (lv_at hl 7 rfl) ?_
            refine lv_aload_n C.1 C.2.1 dX1_findOf_126 rfl (lv_at hl 1 rfl) ?_
            refine zgetR C hS ff_X1_15_38 (hm 38 (by decide)) (hk (38, 2) (by decide)) dX1_findOf_127 ?_
            refine lv_iload C.1 C.2.1 dX1_findOf_130 (lv_at hl 0 rfl) ?_
            obtain ⟨hi, hf⟩ := zck_some hf
            refine zald C hS sh_40 (hm 40 (by decide)) hi dX1_findOf_132 ?_
            obtain ⟨r16, h17, er16, hf⟩ := zbd_some hf
            refine zcallVI (As := [.int x4, .int x6, .int (h12 40 (Int32.toNatClampNeg r11))]) (rest := [.int r11, .ref (zal G 39)]) C hS mv_X1_104 (c_X4_laughOf l G h12 x4 x6 (h12 40 (Int32.toNatClampNeg r11)) (r16, h17) (fun c h => hm c (sn_X1_findOf_X4_laughOf c h)) (fun q h => hk q (sl_X1_findOf_X4_laughOf q h)) er16) (hm 1 (by decide)) ⟨_, _, _, sh_1, rfl, rfl⟩ rfl rfl (Nat.le_of_ble_eq_true rfl) hl.1 ⟨Nat.le_of_ble_eq_true rfl, Nat.le_of_ble_eq_true rfl, Nat.le_of_ble_eq_true rfl, Nat.le_of_ble_eq_true rfl⟩ dX1_findOf_133 (fun H locs hS => ?_)
            obtain ⟨hi, hf⟩ := zck_some hf
            refine zast C hS sh_39 (hm 39 (by decide)) hi dX1_findOf_136 (fun H locs hS => ?_)
            obtain ⟨h18, eh18, hf⟩ := zst_some hf
            have hS : zS G h18 s.heap H locs := by rw [eh18]; exact hS
            exact w_X1_findOf_137 C hm hk hk42 ih _ _ _ _ _ _ _ _ _ _ _ (lv_sub hl [1, 2, 3, 4, 5, 6, 7, 0] rfl) hS hf
set_option maxHeartbeats 4000000 in
set_option maxRecDepth 100000 in
theorem w_X1_findOf_42  (C : zC G p s m args meth c cX1_findOf 8 RX1 (some .boolean)) (hm : ∀ c ∈ nd_X1_findOf, c ∈ znm G) (hk : ∀ q ∈ ld_X1_findOf, zlk G q.1 q.2 = true)  : ∀ n, ∀ (ls : Array Slot) (H : Heap) (locs : List Loc) (h : zH) (x1 : Int32) (x2 : Int32) (x3 : Int32) (x4 : Int32), lv_has ls 8 [(0, .ref (zal G 38)), (1, .int x1), (2, .int x2), (3, .int x3), (4, .int x4)] → zS G h s.heap H locs → f_X1_findOf_42  n x1 x2 x3 x4 h = some q → W p l e (zrm (5)) s m args below meth c H locs 0 0 (MQ below (zQI G q.2 q.1) args s 0 0 (zA G)) (F0 m 42 ls []) := by
  intro n
  induction n with
  | zero => intro ls H locs h x1 x2 x3 x4 hl hS hf; cases hf
  | succ n ih =>
    intro ls H locs h x1 x2 x3 x4 hl hS hf
    rw [f_X1_findOf_42] at hf
    refine lv_iload C.1 C.2.1 dX1_findOf_42 (lv_at hl 4 rfl) ?_
    refine lv_iload_n C.1 C.2.1 dX1_findOf_44 rfl (lv_at hl 3 rfl) ?_
    refine lv_icmp_ge (tgt := 186) C.1 C.2.1 dX1_findOf_45 (by decide) (fun hc => ?_) (fun hc => ?_)
    · have hf := zif_t hc hf
      refine lv_aload_n C.1 C.2.1 dX1_findOf_186 rfl (lv_at hl 0 rfl) ?_
      refine zgetI C hS ff_X1_91_38 (hm 38 (by decide)) dX1_findOf_187 ?_
      refine lv_if_le (tgt := 197) C.1 C.2.1 dX1_findOf_190 (by decide) (fun hc => ?_) (fun hc => ?_)
      · have hf := zif_t hc hf
        refine lv_iconst (v := (0 : Int32)) C.1 C.2.1 dX1_findOf_197 rfl ?_
        exact zretZ C hS rfl hf dX1_findOf_198
      · have hf := zif_f hc hf
        refine lv_iconst (v := (1 : Int32)) C.1 C.2.1 dX1_findOf_193 rfl ?_
        refine lv_goto (tgt := 198) C.1 C.2.1 dX1_findOf_194 (by decide) ?_
        exact zretZ C hS rfl hf dX1_findOf_198
    · have hf := zif_f hc hf
      refine lv_aload_n C.1 C.2.1 dX1_findOf_48 rfl (lv_at hl 0 rfl) ?_
      refine lv_iload C.1 C.2.1 dX1_findOf_49 (lv_at hl 4 rfl) ?_
      refine lv_aload_n C.1 C.2.1 dX1_findOf_51 rfl (lv_at hl 0 rfl) ?_
      refine zgetR C hS ff_X1_18_38 (hm 38 (by decide)) (hk (38, 3) (by decide)) dX1_findOf_52 ?_
      refine lv_iload_n C.1 C.2.1 dX1_findOf_55 rfl (lv_at hl 1 rfl) ?_
      obtain ⟨hi, hf⟩ := zck_some hf
      refine zald C hS sh_41 (hm 41 (by decide)) hi dX1_findOf_56 ?_
      refine lv_aload_n C.1 C.2.1 dX1_findOf_57 rfl (lv_at hl 0 rfl) ?_
      refine zgetR C hS ff_X1_18_38 (hm 38 (by decide)) (hk (38, 3) (by decide)) dX1_findOf_58 ?_
      refine lv_iload_n C.1 C.2.1 dX1_findOf_61 rfl (lv_at hl 2 rfl) ?_
      obtain ⟨hi, hf⟩ := zck_some hf
      refine zald C hS sh_41 (hm 41 (by decide)) hi dX1_findOf_62 ?_
      obtain ⟨r5, h6, er5, hf⟩ := zbd_some hf
      refine zcallVI (As := [.int x4, .int (h 41 (Int32.toNatClampNeg x1)), .int (h 41 (Int32.toNatClampNeg x2))]) (rest := []) C hS mv_X1_97 (c_X1_partnersOf l G h x4 (h 41 (Int32.toNatClampNeg x1)) (h 41 (Int32.toNatClampNeg x2)) (r5, h6) (fun c h => hm c (sn_X1_findOf_X1_partnersOf c h)) (fun q h => hk q (sl_X1_findOf_X1_partnersOf q h)) er5) (hm 38 (by decide)) ⟨_, _, _, sh_38, rfl, rfl⟩ rfl rfl (Nat.le_of_ble_eq_true rfl) hl.1 ⟨Nat.le_of_ble_eq_true rfl, Nat.le_of_ble_eq_true rfl, Nat.le_of_ble_eq_true rfl, Nat.le_of_ble_eq_true rfl⟩ dX1_findOf_63 (fun H locs hS => ?_)
      refine lv_istore (lv' := [(5, .int r5), (0, .ref (zal G 38)), (1, .int x1), (2, .int x2), (3, .int x3), (4, .int x4)]) C.1 C.2.1 dX1_findOf_66 hl (by decide) rfl (fun ls hl => ?_)
      refine lv_iconst (v := (0 : Int32)) C.1 C.2.1 dX1_findOf_68 rfl ?_
      refine lv_istore (lv' := [(6, .int (0 : Int32)), (5, .int r5), (0, .ref (zal G 38)), (1, .int x1), (2, .int x2), (3, .int x3), (4, .int x4)]) C.1 C.2.1 dX1_findOf_69 hl (by decide) rfl (fun ls hl => ?_)
      exact w_X1_findOf_71 C hm hk ih zN _ _ _ _ _ _ _ _ _ _ (lv_sub hl [2, 3, 4, 5, 6, 1, 0] rfl) hS hf
set_option maxHeartbeats 4000000 in
set_option maxRecDepth 100000 in
theorem c_X1_findOf (l : Launch) (G : zG) (h : zH) (x1 : Int32) (x2 : Int32) (q : Int32 × zH) (hm : ∀ c ∈ nd_X1_findOf, c ∈ znm G) (hk : ∀ q ∈ ld_X1_findOf, zlk G q.1 q.2 = true) (hf : f_X1_findOf x1 x2 h = some q) : zCtI l yX1_findOf cX1_findOf 8 (some .boolean) (5) [.ref (zal G 38), .int x1, .int x2] G h q.2 q.1 := by
  refine zMetI (by decide) (Nat.le_of_ble_eq_true rfl) ?_
  intro p e s m below meth c ls C hl hS
  have hl : lv_has ls 8 [(0, .ref (zal G 38)), (1, .int x1), (2, .int x2)] := hl
  have C : zC G p s m [.ref (zal G 38), .int x1, .int x2].toArray meth c cX1_findOf 8 RX1 (some .boolean) := C
  unfold f_X1_findOf at hf
  refine lv_aload_n C.1 C.2.1 dX1_findOf_0 rfl (lv_at hl 0 rfl) ?_
  refine lv_iconst (v := (0 : Int32)) C.1 C.2.1 dX1_findOf_1 rfl ?_
  refine zputI C hS ff_X1_91_38 fw_38_11 (hm 38 (by decide)) dX1_findOf_2 (fun H locs hS => ?_)
  obtain ⟨h1, eh1, hf⟩ := zst_some hf
  have hS : zS G h1 s.heap H locs := by rw [eh1]; exact hS
  refine lv_iload_n C.1 C.2.1 dX1_findOf_5 rfl (lv_at hl 1 rfl) ?_
  refine lv_iload_n C.1 C.2.1 dX1_findOf_6 rfl (lv_at hl 2 rfl) ?_
  refine lv_icmp_eq (tgt := 26) C.1 C.2.1 dX1_findOf_7 (by decide) (fun hc => ?_) (fun hc => ?_)
  · have hf := zif_t hc hf
    exact w_X1_findOf_26 C hm hk  _ _ _ _ (lv_sub hl [] rfl) hS hf
  · have hf := zif_f hc hf
    refine lv_iload_n C.1 C.2.1 dX1_findOf_10 rfl (lv_at hl 2 rfl) ?_
    refine lv_aload_n C.1 C.2.1 dX1_findOf_11 rfl (lv_at hl 0 rfl) ?_
    refine zgetR C hS ff_X1_27_38 (hm 38 (by decide)) (hk (38, 0) (by decide)) dX1_findOf_12 ?_
    refine zgetR C hS ff_X1_94_1 (hm 1 (by decide)) (hk (1, 4) (by decide)) dX1_findOf_15 ?_
    refine lv_iload_n C.1 C.2.1 dX1_findOf_18 rfl (lv_at hl 1 rfl) ?_
    obtain ⟨hi, hf⟩ := zck_some hf
    refine zald C hS sh_20 (hm 20 (by decide)) hi dX1_findOf_19 ?_
    obtain ⟨r2, h3, er2, hf⟩ := zbd_some hf
    refine zcallNI (As := [.int x2, .int (h1 20 (Int32.toNatClampNeg x1))]) (rest := []) C hS mn_X1_79 (c_X11_isIn l G h1 x2 (h1 20 (Int32.toNatClampNeg x1)) (r2, h3) (fun c h => hm c (sn_X1_findOf_X11_isIn c h)) (fun q h => hk q (sl_X1_findOf_X11_isIn q h)) er2) rfl rfl (Nat.le_of_ble_eq_true rfl) hl.1 ⟨Nat.le_of_ble_eq_true rfl, Nat.le_of_ble_eq_true rfl, Nat.le_of_ble_eq_true rfl, Nat.le_of_ble_eq_true rfl⟩ dX1_findOf_20 (fun H locs hS => ?_)
    refine lv_if_eq (tgt := 28) C.1 C.2.1 dX1_findOf_23 (by decide) (fun hc => ?_) (fun hc => ?_)
    · have hf := zif_t hc hf
      refine lv_aload_n C.1 C.2.1 dX1_findOf_28 rfl (lv_at hl 0 rfl) ?_
      refine zgetR C hS ff_X1_27_38 (hm 38 (by decide)) (hk (38, 0) (by decide)) dX1_findOf_29 ?_
      refine zgetR C hS ff_X1_31_1 (hm 1 (by decide)) (hk (1, 0) (by decide)) dX1_findOf_32 ?_
      refine zgetI C hS ff_X1_54_2 (hm 2 (by decide)) dX1_findOf_35 ?_
      obtain ⟨y4, ey4, hf⟩ := zlt_some hf
      refine ztop ey4 ?_
      refine lv_istore_n (lv' := [(3, .int y4), (0, .ref (zal G 38)), (1, .int x1), (2, .int x2)]) C.1 C.2.1 dX1_findOf_38 rfl hl (by decide) rfl (fun ls hl => ?_)
      refine lv_iconst (v := (0 : Int32)) C.1 C.2.1 dX1_findOf_39 rfl ?_
      refine lv_istore (lv' := [(4, .int (0 : Int32)), (3, .int y4), (0, .ref (zal G 38)), (1, .int x1), (2, .int x2)]) C.1 C.2.1 dX1_findOf_40 hl (by decide) rfl (fun ls hl => ?_)
      exact w_X1_findOf_42 C hm hk  zN _ _ _ _ _ _ _ _ (lv_sub hl [2, 3, 4, 1, 0] rfl) hS hf
    · have hf := zif_f hc hf
      exact w_X1_findOf_26 C hm hk  _ _ _ _ (lv_sub hl [] rfl) hS hf
end
section
theorem dX1_findBetween_0 : decode cX1_findBetween 0 = .ok (.iload_n 1, 1) := by decide +kernel
theorem dX1_findBetween_1 : decode cX1_findBetween 1 = .ok (.iconst (-1), 1) := by decide +kernel
theorem dX1_findBetween_2 : decode cX1_findBetween 2 = .ok (.if_icmp .eq 8, 3) := by decide +kernel
theorem dX1_findBetween_5 : decode cX1_findBetween 5 = .ok (.iload_n 2, 1) := by decide +kernel
theorem dX1_findBetween_6 : decode cX1_findBetween 6 = .ok (.iconst (-1), 1) := by decide +kernel
theorem dX1_findBetween_7 : decode cX1_findBetween 7 = .ok (.if_icmp .ne 5, 3) := by decide +kernel
theorem dX1_findBetween_10 : decode cX1_findBetween 10 = .ok (.iconst 0, 1) := by decide +kernel
theorem dX1_findBetween_11 : decode cX1_findBetween 11 = .ok (.ireturn, 1) := by decide +kernel
theorem dX1_findBetween_12 : decode cX1_findBetween 12 = .ok (.aload_n 0, 1) := by decide +kernel
theorem dX1_findBetween_13 : decode cX1_findBetween 13 = .ok (.getfield 27, 3) := by decide +kernel
theorem dX1_findBetween_16 : decode cX1_findBetween 16 = .ok (.getfield 63, 3) := by decide +kernel
theorem dX1_findBetween_19 : decode cX1_findBetween 19 = .ok (.getfield 67, 3) := by decide +kernel
theorem dX1_findBetween_22 : decode cX1_findBetween 22 = .ok (.iload_n 1, 1) := by decide +kernel
theorem dX1_findBetween_23 : decode cX1_findBetween 23 = .ok (.iaload, 1) := by decide +kernel
theorem dX1_findBetween_24 : decode cX1_findBetween 24 = .ok (.istore_n 3, 1) := by decide +kernel
theorem dX1_findBetween_25 : decode cX1_findBetween 25 = .ok (.aload_n 0, 1) := by decide +kernel
theorem dX1_findBetween_26 : decode cX1_findBetween 26 = .ok (.getfield 27, 3) := by decide +kernel
theorem dX1_findBetween_29 : decode cX1_findBetween 29 = .ok (.getfield 63, 3) := by decide +kernel
theorem dX1_findBetween_32 : decode cX1_findBetween 32 = .ok (.getfield 67, 3) := by decide +kernel
theorem dX1_findBetween_35 : decode cX1_findBetween 35 = .ok (.iload_n 2, 1) := by decide +kernel
theorem dX1_findBetween_36 : decode cX1_findBetween 36 = .ok (.iaload, 1) := by decide +kernel
theorem dX1_findBetween_37 : decode cX1_findBetween 37 = .ok (.istore 4, 2) := by decide +kernel
theorem dX1_findBetween_39 : decode cX1_findBetween 39 = .ok (.aload_n 0, 1) := by decide +kernel
theorem dX1_findBetween_40 : decode cX1_findBetween 40 = .ok (.iload_n 3, 1) := by decide +kernel
theorem dX1_findBetween_41 : decode cX1_findBetween 41 = .ok (.iload 4, 2) := by decide +kernel
theorem dX1_findBetween_43 : decode cX1_findBetween 43 = .ok (.invokevirtual 72, 3) := by decide +kernel
theorem dX1_findBetween_46 : decode cX1_findBetween 46 = .ok (.ifCond .ne 5, 3) := by decide +kernel
theorem dX1_findBetween_49 : decode cX1_findBetween 49 = .ok (.iconst 0, 1) := by decide +kernel
theorem dX1_findBetween_50 : decode cX1_findBetween 50 = .ok (.ireturn, 1) := by decide +kernel
theorem dX1_findBetween_51 : decode cX1_findBetween 51 = .ok (.aload_n 0, 1) := by decide +kernel
theorem dX1_findBetween_52 : decode cX1_findBetween 52 = .ok (.getfield 76, 3) := by decide +kernel
theorem dX1_findBetween_55 : decode cX1_findBetween 55 = .ok (.aload_n 0, 1) := by decide +kernel
theorem dX1_findBetween_56 : decode cX1_findBetween 56 = .ok (.getfield 18, 3) := by decide +kernel
theorem dX1_findBetween_59 : decode cX1_findBetween 59 = .ok (.iload_n 3, 1) := by decide +kernel
theorem dX1_findBetween_60 : decode cX1_findBetween 60 = .ok (.iaload, 1) := by decide +kernel
theorem dX1_findBetween_61 : decode cX1_findBetween 61 = .ok (.invokestatic 79, 3) := by decide +kernel
theorem dX1_findBetween_64 : decode cX1_findBetween 64 = .ok (.ifCond .eq 24, 3) := by decide +kernel
theorem dX1_findBetween_67 : decode cX1_findBetween 67 = .ok (.aload_n 0, 1) := by decide +kernel
theorem dX1_findBetween_68 : decode cX1_findBetween 68 = .ok (.getfield 82, 3) := by decide +kernel
theorem dX1_findBetween_71 : decode cX1_findBetween 71 = .ok (.aload_n 0, 1) := by decide +kernel
theorem dX1_findBetween_72 : decode cX1_findBetween 72 = .ok (.getfield 18, 3) := by decide +kernel
theorem dX1_findBetween_75 : decode cX1_findBetween 75 = .ok (.iload 4, 2) := by decide +kernel
theorem dX1_findBetween_77 : decode cX1_findBetween 77 = .ok (.iaload, 1) := by decide +kernel
theorem dX1_findBetween_78 : decode cX1_findBetween 78 = .ok (.invokestatic 79, 3) := by decide +kernel
theorem dX1_findBetween_81 : decode cX1_findBetween 81 = .ok (.ifCond .eq 7, 3) := by decide +kernel
theorem dX1_findBetween_84 : decode cX1_findBetween 84 = .ok (.iconst 1, 1) := by decide +kernel
theorem dX1_findBetween_85 : decode cX1_findBetween 85 = .ok (.goto 4, 3) := by decide +kernel
theorem dX1_findBetween_88 : decode cX1_findBetween 88 = .ok (.iconst 0, 1) := by decide +kernel
theorem dX1_findBetween_89 : decode cX1_findBetween 89 = .ok (.istore 5, 2) := by decide +kernel
theorem dX1_findBetween_91 : decode cX1_findBetween 91 = .ok (.aload_n 0, 1) := by decide +kernel
theorem dX1_findBetween_92 : decode cX1_findBetween 92 = .ok (.iload 5, 2) := by decide +kernel
theorem dX1_findBetween_94 : decode cX1_findBetween 94 = .ok (.ifCond .eq 7, 3) := by decide +kernel
theorem dX1_findBetween_97 : decode cX1_findBetween 97 = .ok (.iload_n 1, 1) := by decide +kernel
theorem dX1_findBetween_98 : decode cX1_findBetween 98 = .ok (.goto 4, 3) := by decide +kernel
theorem dX1_findBetween_101 : decode cX1_findBetween 101 = .ok (.iload_n 2, 1) := by decide +kernel
theorem dX1_findBetween_102 : decode cX1_findBetween 102 = .ok (.putfield 85, 3) := by decide +kernel
theorem dX1_findBetween_105 : decode cX1_findBetween 105 = .ok (.aload_n 0, 1) := by decide +kernel
theorem dX1_findBetween_106 : decode cX1_findBetween 106 = .ok (.iload 5, 2) := by decide +kernel
theorem dX1_findBetween_108 : decode cX1_findBetween 108 = .ok (.ifCond .eq 7, 3) := by decide +kernel
theorem dX1_findBetween_111 : decode cX1_findBetween 111 = .ok (.iload_n 2, 1) := by decide +kernel
theorem dX1_findBetween_112 : decode cX1_findBetween 112 = .ok (.goto 4, 3) := by decide +kernel
theorem dX1_findBetween_115 : decode cX1_findBetween 115 = .ok (.iload_n 1, 1) := by decide +kernel
theorem dX1_findBetween_116 : decode cX1_findBetween 116 = .ok (.putfield 88, 3) := by decide +kernel
theorem dX1_findBetween_119 : decode cX1_findBetween 119 = .ok (.iconst 1, 1) := by decide +kernel
theorem dX1_findBetween_120 : decode cX1_findBetween 120 = .ok (.ireturn, 1) := by decide +kernel
abbrev nd_X1_findBetween : List Nat := [1, 2, 4, 5, 7, 8, 11, 12, 13, 16, 17, 18, 19, 20, 21, 38, 39, 40, 41]
abbrev ld_X1_findBetween : List (Nat × Nat) := [(1, 0), (1, 1), (1, 2), (1, 3), (1, 4), (1, 5), (2, 1), (2, 2), (7, 0), (11, 0), (11, 1), (16, 0), (16, 1), (16, 2), (38, 0), (38, 1), (38, 2), (38, 3)]
theorem sn_X1_findBetween_X1_findOf : ∀ c ∈ nd_X1_findOf, c ∈ nd_X1_findBetween := by decide
theorem sl_X1_findBetween_X1_findOf : ∀ q ∈ ld_X1_findOf, q ∈ ld_X1_findBetween := by decide
theorem sn_X1_findBetween_X11_isIn : ∀ c ∈ nd_X11_isIn, c ∈ nd_X1_findBetween := by decide
theorem sl_X1_findBetween_X11_isIn : ∀ q ∈ ld_X11_isIn, q ∈ ld_X1_findBetween := by decide
def f_X1_findBetween_10  (h : zH) : zR := (some ((0 : Int32), h))
def f_X1_findBetween_116  (s0 : Int32) (h : zH) : zR := (zst (zup h 38 13 s0) fun h8 => (some ((1 : Int32), h8)))
def f_X1_findBetween_102  (x1 : Int32) (x2 : Int32) (x5 : Int32) (s0 : Int32) (h : zH) : zR := (zst (zup h 38 12 s0) fun h7 => (if x5 = 0 then (f_X1_findBetween_116  x1 h7) else (f_X1_findBetween_116  x2 h7)))
def f_X1_findBetween_89  (x1 : Int32) (x2 : Int32) (s0 : Int32) (h : zH) : zR := (if s0 = 0 then (f_X1_findBetween_102  x1 x2 s0 x2 h) else (f_X1_findBetween_102  x1 x2 s0 x1 h))
def f_X1_findBetween_88  (x1 : Int32) (x2 : Int32) (h : zH) : zR := (f_X1_findBetween_89  x1 x2 (0 : Int32) h)
def f_X1_findBetween  (x1 : Int32) (x2 : Int32) (h : zH) : zR := (if x1 = (-1 : Int32) then (f_X1_findBetween_10   h) else (if x2 = (-1 : Int32) then (f_X1_findBetween_10   h) else (zck x1 8 (zlt (h 8 (Int32.toNatClampNeg x1)) fun y1 => (zck x2 8 (zlt (h 8 (Int32.toNatClampNeg x2)) fun y2 => (zbd (f_X1_findOf y1 y2 h) fun r3 h4 => (if r3 = 0 then (some ((0 : Int32), h4)) else (zck y1 6 (zbd (f_X11_isIn (h4 38 9) (h4 41 (Int32.toNatClampNeg y1)) h4) fun r5 h6 => (if r5 = 0 then (f_X1_findBetween_88  x1 x2 h6) else (zck y2 6 (zbd (f_X11_isIn (h6 38 10) (h6 41 (Int32.toNatClampNeg y2)) h6) fun r9 h10 => (if r9 = 0 then (f_X1_findBetween_88  x1 x2 h10) else (f_X1_findBetween_89  x1 x2 (1 : Int32) h10)))))))))))))))
variable {p : Program} {l : Launch} {e : Env} {s : State} {m : MethodId} {args : Array Value} {below : List Frame} {meth : Method} {c : Code} {G : zG} {q : Int32 × zH}
set_option maxHeartbeats 4000000 in
set_option maxRecDepth 100000 in
theorem w_X1_findBetween_10  (C : zC G p s m args meth c cX1_findBetween 6 RX1 (some .boolean)) (hm : ∀ c ∈ nd_X1_findBetween, c ∈ znm G) (hk : ∀ q ∈ ld_X1_findBetween, zlk G q.1 q.2 = true)  : ∀ (ls : Array Slot) (H : Heap) (locs : List Loc) (h : zH), lv_has ls 6 [] → zS G h s.heap H locs → f_X1_findBetween_10  h = some q → W p l e (zrm (6)) s m args below meth c H locs 0 0 (MQ below (zQI G q.2 q.1) args s 0 0 (zA G)) (F0 m 10 ls []) := by
  intro ls H locs h hl hS hf
  unfold f_X1_findBetween_10 at hf
  refine lv_iconst (v := (0 : Int32)) C.1 C.2.1 dX1_findBetween_10 rfl ?_
  exact zretZ C hS rfl hf dX1_findBetween_11
set_option maxHeartbeats 4000000 in
set_option maxRecDepth 100000 in
theorem w_X1_findBetween_116  (C : zC G p s m args meth c cX1_findBetween 6 RX1 (some .boolean)) (hm : ∀ c ∈ nd_X1_findBetween, c ∈ znm G) (hk : ∀ q ∈ ld_X1_findBetween, zlk G q.1 q.2 = true)  : ∀ (ls : Array Slot) (H : Heap) (locs : List Loc) (h : zH) (s0 : Int32), lv_has ls 6 [] → zS G h s.heap H locs → f_X1_findBetween_116  s0 h = some q → W p l e (zrm (6)) s m args below meth c H locs 0 0 (MQ below (zQI G q.2 q.1) args s 0 0 (zA G)) (F0 m 116 ls [.int s0, .ref (zal G 38)]) := by
  intro ls H locs h s0 hl hS hf
  unfold f_X1_findBetween_116 at hf
  refine zputI C hS ff_X1_88_38 fw_38_13 (hm 38 (by decide)) dX1_findBetween_116 (fun H locs hS => ?_)
  obtain ⟨h8, eh8, hf⟩ := zst_some hf
  have hS : zS G h8 s.heap H locs := by rw [eh8]; exact hS
  refine lv_iconst (v := (1 : Int32)) C.1 C.2.1 dX1_findBetween_119 rfl ?_
  exact zretZ C hS rfl hf dX1_findBetween_120
set_option maxHeartbeats 4000000 in
set_option maxRecDepth 100000 in
theorem w_X1_findBetween_102  (C : zC G p s m args meth c cX1_findBetween 6 RX1 (some .boolean)) (hm : ∀ c ∈ nd_X1_findBetween, c ∈ znm G) (hk : ∀ q ∈ ld_X1_findBetween, zlk G q.1 q.2 = true)  : ∀ (ls : Array Slot) (H : Heap) (locs : List Loc) (h : zH) (x1 : Int32) (x2 : Int32) (x5 : Int32) (s0 : Int32), lv_has ls 6 [(0, .ref (zal G 38)), (1, .int x1), (2, .int x2), (5, .int x5)] → zS G h s.heap H locs → f_X1_findBetween_102  x1 x2 x5 s0 h = some q → W p l e (zrm (6)) s m args below meth c H locs 0 0 (MQ below (zQI G q.2 q.1) args s 0 0 (zA G)) (F0 m 102 ls [.int s0, .ref (zal G 38)]) := by
  intro ls H locs h x1 x2 x5 s0 hl hS hf
  unfold f_X1_findBetween_102 at hf
  refine zputI C hS ff_X1_85_38 fw_38_12 (hm 38 (by decide)) dX1_findBetween_102 (fun H locs hS => ?_)
  obtain ⟨h7, eh7, hf⟩ := zst_some hf
  have hS : zS G h7 s.heap H locs := by rw [eh7]; exact hS
  refine lv_aload_n C.1 C.2.1 dX1_findBetween_105 rfl (lv_at hl 0 rfl) ?_
  refine lv_iload C.1 C.2.1 dX1_findBetween_106 (lv_at hl 3 rfl) ?_
  refine lv_if_eq (tgt := 115) C.1 C.2.1 dX1_findBetween_108 (by decide) (fun hc => ?_) (fun hc => ?_)
  · have hf := zif_t hc hf
    refine lv_iload_n C.1 C.2.1 dX1_findBetween_115 rfl (lv_at hl 1 rfl) ?_
    exact w_X1_findBetween_116 C hm hk  _ _ _ _ _ (lv_sub hl [] rfl) hS hf
  · have hf := zif_f hc hf
    refine lv_iload_n C.1 C.2.1 dX1_findBetween_111 rfl (lv_at hl 2 rfl) ?_
    refine lv_goto (tgt := 116) C.1 C.2.1 dX1_findBetween_112 (by decide) ?_
    exact w_X1_findBetween_116 C hm hk  _ _ _ _ _ (lv_sub hl [] rfl) hS hf
set_option maxHeartbeats 4000000 in
set_option maxRecDepth 100000 in
theorem w_X1_findBetween_89  (C : zC G p s m args meth c cX1_findBetween 6 RX1 (some .boolean)) (hm : ∀ c ∈ nd_X1_findBetween, c ∈ znm G) (hk : ∀ q ∈ ld_X1_findBetween, zlk G q.1 q.2 = true)  : ∀ (ls : Array Slot) (H : Heap) (locs : List Loc) (h : zH) (x1 : Int32) (x2 : Int32) (s0 : Int32), lv_has ls 6 [(0, .ref (zal G 38)), (1, .int x1), (2, .int x2)] → zS G h s.heap H locs → f_X1_findBetween_89  x1 x2 s0 h = some q → W p l e (zrm (6)) s m args below meth c H locs 0 0 (MQ below (zQI G q.2 q.1) args s 0 0 (zA G)) (F0 m 89 ls [.int s0]) := by
  intro ls H locs h x1 x2 s0 hl hS hf
  unfold f_X1_findBetween_89 at hf
  refine lv_istore (lv' := [(5, .int s0), (0, .ref (zal G 38)), (1, .int x1), (2, .int x2)]) C.1 C.2.1 dX1_findBetween_89 hl (by decide) rfl (fun ls hl => ?_)
  refine lv_aload_n C.1 C.2.1 dX1_findBetween_91 rfl (lv_at hl 1 rfl) ?_
  refine lv_iload C.1 C.2.1 dX1_findBetween_92 (lv_at hl 0 rfl) ?_
  refine lv_if_eq (tgt := 101) C.1 C.2.1 dX1_findBetween_94 (by decide) (fun hc => ?_) (fun hc => ?_)
  · have hf := zif_t hc hf
    refine lv_iload_n C.1 C.2.1 dX1_findBetween_101 rfl (lv_at hl 3 rfl) ?_
    exact w_X1_findBetween_102 C hm hk  _ _ _ _ _ _ _ _ (lv_sub hl [1, 2, 3, 0] rfl) hS hf
  · have hf := zif_f hc hf
    refine lv_iload_n C.1 C.2.1 dX1_findBetween_97 rfl (lv_at hl 2 rfl) ?_
    refine lv_goto (tgt := 102) C.1 C.2.1 dX1_findBetween_98 (by decide) ?_
    exact w_X1_findBetween_102 C hm hk  _ _ _ _ _ _ _ _ (lv_sub hl [1, 2, 3, 0] rfl) hS hf
set_option maxHeartbeats 4000000 in
set_option maxRecDepth 100000 in
theorem w_X1_findBetween_88  (C : zC G p s m args meth c cX1_findBetween 6 RX1 (some .boolean)) (hm : ∀ c ∈ nd_X1_findBetween, c ∈ znm G) (hk : ∀ q ∈ ld_X1_findBetween, zlk G q.1 q.2 = true)  : ∀ (ls : Array Slot) (H : Heap) (locs : List Loc) (h : zH) (x1 : Int32) (x2 : Int32), lv_has ls 6 [(0, .ref (zal G 38)), (1, .int x1), (2, .int x2)] → zS G h s.heap H locs → f_X1_findBetween_88  x1 x2 h = some q → W p l e (zrm (6)) s m args below meth c H locs 0 0 (MQ below (zQI G q.2 q.1) args s 0 0 (zA G)) (F0 m 88 ls []) := by
  intro ls H locs h x1 x2 hl hS hf
  unfold f_X1_findBetween_88 at hf
  refine lv_iconst (v := (0 : Int32)) C.1 C.2.1 dX1_findBetween_88 rfl ?_
  exact w_X1_findBetween_89 C hm hk  _ _ _ _ _ _ _ (lv_sub hl [0, 1, 2] rfl) hS hf
set_option maxHeartbeats 4000000 in
set_option maxRecDepth 100000 in
theorem c_X1_findBetween (l : Launch) (G : zG) (h : zH) (x1 : Int32) (x2 : Int32) (q : Int32 × zH) (hm : ∀ c ∈ nd_X1_findBetween, c ∈ znm G) (hk : ∀ q ∈ ld_X1_findBetween, zlk G q.1 q.2 = true) (hf : f_X1_findBetween x1 x2 h = some q) : zCtI l yX1_findBetween cX1_findBetween 6 (some .boolean) (6) [.ref (zal G 38), .int x1, .int x2] G h q.2 q.1 := by
  refine zMetI (by decide) (Nat.le_of_ble_eq_true rfl) ?_
  intro p e s m below meth c ls C hl hS
  have hl : lv_has ls 6 [(0, .ref (zal G 38)), (1, .int x1), (2, .int x2)] := hl
  have C : zC G p s m [.ref (zal G 38), .int x1, .int x2].toArray meth c cX1_findBetween 6 RX1 (some .boolean) := C
  unfold f_X1_findBetween at hf
  refine lv_iload_n C.1 C.2.1 dX1_findBetween_0 rfl (lv_at hl 1 rfl) ?_
  refine lv_iconst (v := (-1 : Int32)) C.1 C.2.1 dX1_findBetween_1 rfl ?_
  refine lv_icmp_eq (tgt := 10) C.1 C.2.1 dX1_findBetween_2 (by decide) (fun hc => ?_) (fun hc => ?_)
  · have hf := zif_t hc hf
    exact w_X1_findBetween_10 C hm hk  _ _ _ _ (lv_sub hl [] rfl) hS hf
  · have hf := zif_f hc hf
    refine lv_iload_n C.1 C.2.1 dX1_findBetween_5 rfl (lv_at hl 2 rfl) ?_
    refine lv_iconst (v := (-1 : Int32)) C.1 C.2.1 dX1_findBetween_6 rfl ?_
    refine lv_icmp_ne (tgt := 12) C.1 C.2.1 dX1_findBetween_7 (by decide) (fun hc => ?_) (fun hc => ?_)
    · have hf := zif_f hc hf
      refine lv_aload_n C.1 C.2.1 dX1_findBetween_12 rfl (lv_at hl 0 rfl) ?_
      refine zgetR C hS ff_X1_27_38 (hm 38 (by decide)) (hk (38, 0) (by decide)) dX1_findBetween_13 ?_
      refine zgetR C hS ff_X1_63_1 (hm 1 (by decide)) (hk (1, 1) (by decide)) dX1_findBetween_16 ?_
      refine zgetR C hS ff_X1_67_7 (hm 7 (by decide)) (hk (7, 0) (by decide)) dX1_findBetween_19 ?_
      refine lv_iload_n C.1 C.2.1 dX1_findBetween_22 rfl (lv_at hl 1 rfl) ?_
      obtain ⟨hi, hf⟩ := zck_some hf
      refine zald C hS sh_8 (hm 8 (by decide)) hi dX1_findBetween_23 ?_
      obtain ⟨y1, ey1, hf⟩ := zlt_some hf
      refine ztop ey1 ?_
      refine lv_istore_n (lv' := [(3, .int y1), (0, .ref (zal G 38)), (1, .int x1), (2, .int x2)]) C.1 C.2.1 dX1_findBetween_24 rfl hl (by decide) rfl (fun ls hl => ?_)
      refine lv_aload_n C.1 C.2.1 dX1_findBetween_25 rfl (lv_at hl 1 rfl) ?_
      refine zgetR C hS ff_X1_27_38 (hm 38 (by decide)) (hk (38, 0) (by decide)) dX1_findBetween_26 ?_
      refine zgetR C hS ff_X1_63_1 (hm 1 (by decide)) (hk (1, 1) (by decide)) dX1_findBetween_29 ?_
      refine zgetR C hS ff_X1_67_7 (hm 7 (by decide)) (hk (7, 0) (by decide)) dX1_findBetween_32 ?_
      refine lv_iload_n C.1 C.2.1 dX1_findBetween_35 rfl (lv_at hl 3 rfl) ?_
      obtain ⟨hi, hf⟩ := zck_some hf
      refine zald C hS sh_8 (hm 8 (by decide)) hi dX1_findBetween_36 ?_
      obtain ⟨y2, ey2, hf⟩ := zlt_some hf
      refine ztop ey2 ?_
      refine lv_istore (lv' := [(4, .int y2), (3, .int y1), (0, .ref (zal G 38)), (1, .int x1), (2, .int x2)]) C.1 C.2.1 dX1_findBetween_37 hl (by decide) rfl (fun ls hl => ?_)
      refine lv_aload_n C.1 C.2.1 dX1_findBetween_39 rfl (lv_at hl 2 rfl) ?_
      refine lv_iload_n C.1 C.2.1 dX1_findBetween_40 rfl (lv_at hl 1 rfl) ?_
      refine lv_iload C.1 C.2.1 dX1_findBetween_41 (lv_at hl 0 rfl) ?_
      obtain ⟨r3, h4, er3, hf⟩ := zbd_some hf
      refine zcallVI (As := [.int y1, .int y2]) (rest := []) C hS mv_X1_72 (c_X1_findOf l G h y1 y2 (r3, h4) (fun c h => hm c (sn_X1_findBetween_X1_findOf c h)) (fun q h => hk q (sl_X1_findBetween_X1_findOf q h)) er3) (hm 38 (by decide)) ⟨_, _, _, sh_38, rfl, rfl⟩ rfl rfl (Nat.le_of_ble_eq_true rfl) hl.1 ⟨Nat.le_of_ble_eq_true rfl, Nat.le_of_ble_eq_true rfl, Nat.le_of_ble_eq_true rfl, Nat.le_of_ble_eq_true rfl⟩ dX1_findBetween_43 (fun H locs hS => ?_)
      refine lv_if_ne (tgt := 51) C.1 C.2.1 dX1_findBetween_46 (by decide) (fun hc => ?_) (fun hc => ?_)
      · have hf := zif_f hc hf
        refine lv_aload_n C.1 C.2.1 dX1_findBetween_51 rfl (lv_at hl 2 rfl) ?_
        refine zgetI C hS ff_X1_76_38 (hm 38 (by decide)) dX1_findBetween_52 ?_
        refine lv_aload_n C.1 C.2.1 dX1_findBetween_55 rfl (lv_at hl 2 rfl) ?_
        refine zgetR C hS ff_X1_18_38 (hm 38 (by decide)) (hk (38, 3) (by decide)) dX1_findBetween_56 ?_
        refine lv_iload_n C.1 C.2.1 dX1_findBetween_59 rfl (lv_at hl 1 rfl) ?_
        obtain ⟨hi, hf⟩ := zck_some hf
        refine zald C hS sh_41 (hm 41 (by decide)) hi dX1_findBetween_60 ?_
        obtain ⟨r5, h6, er5, hf⟩ := zbd_some hf
        refine zcallNI (As := [.int (h4 38 9), .int (h4 41 (Int32.toNatClampNeg y1))]) (rest := []) C hS mn_X1_79 (c_X11_isIn l G h4 (h4 38 9) (h4 41 (Int32.toNatClampNeg y1)) (r5, h6) (fun c h => hm c (sn_X1_findBetween_X11_isIn c h)) (fun q h => hk q (sl_X1_findBetween_X11_isIn q h)) er5) rfl rfl (Nat.le_of_ble_eq_true rfl) hl.1 ⟨Nat.le_of_ble_eq_true rfl, Nat.le_of_ble_eq_true rfl, Nat.le_of_ble_eq_true rfl, Nat.le_of_ble_eq_true rfl⟩ dX1_findBetween_61 (fun H locs hS => ?_)
        refine lv_if_eq (tgt := 88) C.1 C.2.1 dX1_findBetween_64 (by decide) (fun hc => ?_) (fun hc => ?_)
        · have hf := zif_t hc hf
          exact w_X1_findBetween_88 C hm hk  _ _ _ _ _ _ (lv_sub hl [2, 3, 4] rfl) hS hf
        · have hf := zif_f hc hf
          refine lv_aload_n C.1 C.2.1 dX1_findBetween_67 rfl (lv_at hl 2 rfl) ?_
          refine zgetI C hS ff_X1_82_38 (hm 38 (by decide)) dX1_findBetween_68 ?_
          refine lv_aload_n C.1 C.2.1 dX1_findBetween_71 rfl (lv_at hl 2 rfl) ?_
          refine zgetR C hS ff_X1_18_38 (hm 38 (by decide)) (hk (38, 3) (by decide)) dX1_findBetween_72 ?_
          refine lv_iload C.1 C.2.1 dX1_findBetween_75 (lv_at hl 0 rfl) ?_
          obtain ⟨hi, hf⟩ := zck_some hf
          refine zald C hS sh_41 (hm 41 (by decide)) hi dX1_findBetween_77 ?_
          obtain ⟨r9, h10, er9, hf⟩ := zbd_some hf
          refine zcallNI (As := [.int (h6 38 10), .int (h6 41 (Int32.toNatClampNeg y2))]) (rest := []) C hS mn_X1_79 (c_X11_isIn l G h6 (h6 38 10) (h6 41 (Int32.toNatClampNeg y2)) (r9, h10) (fun c h => hm c (sn_X1_findBetween_X11_isIn c h)) (fun q h => hk q (sl_X1_findBetween_X11_isIn q h)) er9) rfl rfl (Nat.le_of_ble_eq_true rfl) hl.1 ⟨Nat.le_of_ble_eq_true rfl, Nat.le_of_ble_eq_true rfl, Nat.le_of_ble_eq_true rfl, Nat.le_of_ble_eq_true rfl⟩ dX1_findBetween_78 (fun H locs hS => ?_)
          refine lv_if_eq (tgt := 88) C.1 C.2.1 dX1_findBetween_81 (by decide) (fun hc => ?_) (fun hc => ?_)
          · have hf := zif_t hc hf
            exact w_X1_findBetween_88 C hm hk  _ _ _ _ _ _ (lv_sub hl [2, 3, 4] rfl) hS hf
          · have hf := zif_f hc hf
            refine lv_iconst (v := (1 : Int32)) C.1 C.2.1 dX1_findBetween_84 rfl ?_
            refine lv_goto (tgt := 89) C.1 C.2.1 dX1_findBetween_85 (by decide) ?_
            exact w_X1_findBetween_89 C hm hk  _ _ _ _ _ _ _ (lv_sub hl [2, 3, 4] rfl) hS hf
      · have hf := zif_t hc hf
        refine lv_iconst (v := (0 : Int32)) C.1 C.2.1 dX1_findBetween_49 rfl ?_
        exact zretZ C hS rfl hf dX1_findBetween_50
    · have hf := zif_t hc hf
      exact w_X1_findBetween_10 C hm hk  _ _ _ _ (lv_sub hl [] rfl) hS hf
end
section
theorem dX11_telling_0 : decode cX11_telling 0 = .ok (.iload_n 1, 1) := by decide +kernel
theorem dX11_telling_1 : decode cX11_telling 1 = .ok (.aload_n 0, 1) := by decide +kernel
theorem dX11_telling_2 : decode cX11_telling 2 = .ok (.getfield 12, 3) := by decide +kernel
theorem dX11_telling_5 : decode cX11_telling 5 = .ok (.getfield 90, 3) := by decide +kernel
theorem dX11_telling_8 : decode cX11_telling 8 = .ok (.getfield 194, 3) := by decide +kernel
theorem dX11_telling_11 : decode cX11_telling 11 = .ok (.invokestatic 50, 3) := by decide +kernel
theorem dX11_telling_14 : decode cX11_telling 14 = .ok (.ifCond .ne 5, 3) := by decide +kernel
theorem dX11_telling_17 : decode cX11_telling 17 = .ok (.iconst (-1), 1) := by decide +kernel
theorem dX11_telling_18 : decode cX11_telling 18 = .ok (.ireturn, 1) := by decide +kernel
theorem dX11_telling_19 : decode cX11_telling 19 = .ok (.aload_n 0, 1) := by decide +kernel
theorem dX11_telling_20 : decode cX11_telling 20 = .ok (.getfield 35, 3) := by decide +kernel
theorem dX11_telling_23 : decode cX11_telling 23 = .ok (.invokevirtual 197, 3) := by decide +kernel
theorem dX11_telling_26 : decode cX11_telling 26 = .ok (.aload_n 0, 1) := by decide +kernel
theorem dX11_telling_27 : decode cX11_telling 27 = .ok (.getfield 35, 3) := by decide +kernel
theorem dX11_telling_30 : decode cX11_telling 30 = .ok (.aload_n 0, 1) := by decide +kernel
theorem dX11_telling_31 : decode cX11_telling 31 = .ok (.getfield 12, 3) := by decide +kernel
theorem dX11_telling_34 : decode cX11_telling 34 = .ok (.getfield 90, 3) := by decide +kernel
theorem dX11_telling_37 : decode cX11_telling 37 = .ok (.getfield 200, 3) := by decide +kernel
theorem dX11_telling_40 : decode cX11_telling 40 = .ok (.iload_n 1, 1) := by decide +kernel
theorem dX11_telling_41 : decode cX11_telling 41 = .ok (.iaload, 1) := by decide +kernel
theorem dX11_telling_42 : decode cX11_telling 42 = .ok (.aload_n 0, 1) := by decide +kernel
theorem dX11_telling_43 : decode cX11_telling 43 = .ok (.getfield 12, 3) := by decide +kernel
theorem dX11_telling_46 : decode cX11_telling 46 = .ok (.getfield 90, 3) := by decide +kernel
theorem dX11_telling_49 : decode cX11_telling 49 = .ok (.getfield 200, 3) := by decide +kernel
theorem dX11_telling_52 : decode cX11_telling 52 = .ok (.aload_n 0, 1) := by decide +kernel
theorem dX11_telling_53 : decode cX11_telling 53 = .ok (.getfield 12, 3) := by decide +kernel
theorem dX11_telling_56 : decode cX11_telling 56 = .ok (.getfield 90, 3) := by decide +kernel
theorem dX11_telling_59 : decode cX11_telling 59 = .ok (.iload_n 1, 1) := by decide +kernel
theorem dX11_telling_60 : decode cX11_telling 60 = .ok (.invokevirtual 203, 3) := by decide +kernel
theorem dX11_telling_63 : decode cX11_telling 63 = .ok (.iaload, 1) := by decide +kernel
theorem dX11_telling_64 : decode cX11_telling 64 = .ok (.invokevirtual 206, 3) := by decide +kernel
theorem dX11_telling_67 : decode cX11_telling 67 = .ok (.ifCond .ne 5, 3) := by decide +kernel
theorem dX11_telling_70 : decode cX11_telling 70 = .ok (.iconst (-1), 1) := by decide +kernel
theorem dX11_telling_71 : decode cX11_telling 71 = .ok (.ireturn, 1) := by decide +kernel
theorem dX11_telling_72 : decode cX11_telling 72 = .ok (.iload_n 2, 1) := by decide +kernel
theorem dX11_telling_73 : decode cX11_telling 73 = .ok (.tableswitch 63 0 3 #[31, 39, 47, 55], 31) := by decide +kernel
theorem dX11_telling_104 : decode cX11_telling 104 = .ok (.aload_n 0, 1) := by decide +kernel
theorem dX11_telling_105 : decode cX11_telling 105 = .ok (.getfield 35, 3) := by decide +kernel
theorem dX11_telling_108 : decode cX11_telling 108 = .ok (.getfield 209, 3) := by decide +kernel
theorem dX11_telling_111 : decode cX11_telling 111 = .ok (.ireturn, 1) := by decide +kernel
theorem dX11_telling_112 : decode cX11_telling 112 = .ok (.aload_n 0, 1) := by decide +kernel
theorem dX11_telling_113 : decode cX11_telling 113 = .ok (.getfield 35, 3) := by decide +kernel
theorem dX11_telling_116 : decode cX11_telling 116 = .ok (.getfield 212, 3) := by decide +kernel
theorem dX11_telling_119 : decode cX11_telling 119 = .ok (.ireturn, 1) := by decide +kernel
theorem dX11_telling_120 : decode cX11_telling 120 = .ok (.aload_n 0, 1) := by decide +kernel
theorem dX11_telling_121 : decode cX11_telling 121 = .ok (.getfield 35, 3) := by decide +kernel
theorem dX11_telling_124 : decode cX11_telling 124 = .ok (.getfield 215, 3) := by decide +kernel
theorem dX11_telling_127 : decode cX11_telling 127 = .ok (.ireturn, 1) := by decide +kernel
theorem dX11_telling_128 : decode cX11_telling 128 = .ok (.aload_n 0, 1) := by decide +kernel
theorem dX11_telling_129 : decode cX11_telling 129 = .ok (.getfield 35, 3) := by decide +kernel
theorem dX11_telling_132 : decode cX11_telling 132 = .ok (.getfield 218, 3) := by decide +kernel
theorem dX11_telling_135 : decode cX11_telling 135 = .ok (.ireturn, 1) := by decide +kernel
theorem dX11_telling_136 : decode cX11_telling 136 = .ok (.iconst (-1), 1) := by decide +kernel
theorem dX11_telling_137 : decode cX11_telling 137 = .ok (.ireturn, 1) := by decide +kernel
abbrev nd_X11_telling : List Nat := [0, 1, 2, 3, 4, 5, 6, 7, 8, 10, 11, 12, 13, 16, 17, 18, 19, 20, 21, 38, 39, 40, 41]
abbrev ld_X11_telling : List (Nat × Nat) := [(0, 0), (0, 3), (1, 0), (1, 1), (1, 2), (1, 3), (1, 4), (1, 5), (2, 0), (2, 1), (2, 2), (2, 3), (7, 0), (7, 2), (11, 0), (11, 1), (16, 0), (16, 1), (16, 2), (38, 0), (38, 1), (38, 2), (38, 3)]
theorem sn_X11_telling_X11_isBelow : ∀ c ∈ nd_X11_isBelow, c ∈ nd_X11_telling := by decide
theorem sl_X11_telling_X11_isBelow : ∀ q ∈ ld_X11_isBelow, q ∈ ld_X11_telling := by decide
theorem sn_X11_telling_X1_begin : ∀ c ∈ nd_X1_begin, c ∈ nd_X11_telling := by decide
theorem sl_X11_telling_X1_begin : ∀ q ∈ ld_X1_begin, q ∈ ld_X11_telling := by decide
theorem sn_X11_telling_X9_beside : ∀ c ∈ nd_X9_beside, c ∈ nd_X11_telling := by decide
theorem sl_X11_telling_X9_beside : ∀ q ∈ ld_X9_beside, q ∈ ld_X11_telling := by decide
theorem sn_X11_telling_X1_findBetween : ∀ c ∈ nd_X1_findBetween, c ∈ nd_X11_telling := by decide
theorem sl_X11_telling_X1_findBetween : ∀ q ∈ ld_X1_findBetween, q ∈ ld_X11_telling := by decide
def f_X11_telling  (x1 : Int32) (x2 : Int32) (h : zH) : zR := (zbd (f_X11_isBelow x1 (h 7 3) h) fun r1 h2 => (if r1 = 0 then (some ((-1 : Int32), h2)) else (zbd (f_X1_begin  h2) fun r3 h4 => (zck x1 8 (zbd (f_X9_beside x1 h4) fun r5 h6 => (zck r5 8 (zbd (f_X1_findBetween (h4 10 (Int32.toNatClampNeg x1)) (h6 10 (Int32.toNatClampNeg r5)) h6) fun r7 h8 => (if r7 = 0 then (some ((-1 : Int32), h8)) else (if x2 = (0 : Int32) then (some ((h8 38 9), h8)) else (if x2 = (1 : Int32) then (some ((h8 38 10), h8)) else (if x2 = (2 : Int32) then (some ((h8 38 12), h8)) else (if x2 = (3 : Int32) then (some ((h8 38 11), h8)) else (some ((-1 : Int32), h8))))))))))))))
variable {p : Program} {l : Launch} {e : Env} {s : State} {m : MethodId} {args : Array Value} {below : List Frame} {meth : Method} {c : Code} {G : zG} {q : Int32 × zH}
set_option maxHeartbeats 4000000 in
set_option maxRecDepth 100000 in
theorem c_X11_telling (l : Launch) (G : zG) (h : zH) (x1 : Int32) (x2 : Int32) (q : Int32 × zH) (hm : ∀ c ∈ nd_X11_telling, c ∈ znm G) (hk : ∀ q ∈ ld_X11_telling, zlk G q.1 q.2 = true) (hf : f_X11_telling x1 x2 h = some q) : zCtI l yX11_telling cX11_telling 3 (some .int) (7) [.ref (zal G 0), .int x1, .int x2] G h q.2 q.1 := by
  refine zMetI (by decide) (Nat.le_of_ble_eq_true rfl) ?_
  intro p e s m below meth c ls C hl hS
  have hl : lv_has ls 3 [(0, .ref (zal G 0)), (1, .int x1), (2, .int x2)] := hl
  have C : zC G p s m [.ref (zal G 0), .int x1, .int x2].toArray meth c cX11_telling 3 RX11 (some .int) := C
  unfold f_X11_telling at hf
  refine lv_iload_n C.1 C.2.1 dX11_telling_0 rfl (lv_at hl 1 rfl) ?_
  refine lv_aload_n C.1 C.2.1 dX11_telling_1 rfl (lv_at hl 0 rfl) ?_
  refine zgetR C hS ff_X11_12_0 (hm 0 (by decide)) (hk (0, 0) (by decide)) dX11_telling_2 ?_
  refine zgetR C hS ff_X11_90_1 (hm 1 (by decide)) (hk (1, 1) (by decide)) dX11_telling_5 ?_
  refine zgetI C hS ff_X11_194_7 (hm 7 (by decide)) dX11_telling_8 ?_
  obtain ⟨r1, h2, er1, hf⟩ := zbd_some hf
  refine zcallSI (As := [.int x1, .int (h 7 3)]) (rest := []) C hS ms_X11_50 (c_X11_isBelow l G h x1 (h 7 3) (r1, h2) (fun c h => hm c (sn_X11_telling_X11_isBelow c h)) (fun q h => hk q (sl_X11_telling_X11_isBelow q h)) er1) rfl rfl (Nat.le_of_ble_eq_true rfl) hl.1 ⟨Nat.le_of_ble_eq_true rfl, Nat.le_of_ble_eq_true rfl, Nat.le_of_ble_eq_true rfl, Nat.le_of_ble_eq_true rfl⟩ dX11_telling_11 (fun H locs hS => ?_)
  refine lv_if_ne (tgt := 19) C.1 C.2.1 dX11_telling_14 (by decide) (fun hc => ?_) (fun hc => ?_)
  · have hf := zif_f hc hf
    refine lv_aload_n C.1 C.2.1 dX11_telling_19 rfl (lv_at hl 0 rfl) ?_
    refine zgetR C hS ff_X11_35_0 (hm 0 (by decide)) (hk (0, 3) (by decide)) dX11_telling_20 ?_
    obtain ⟨r3, h4, er3, hf⟩ := zbd_some hf
    refine zcallVV (As := []) (rest := []) C hS mv_X11_197 (c_X1_begin l G h2  (r3, h4) (fun c h => hm c (sn_X11_telling_X1_begin c h)) (fun q h => hk q (sl_X11_telling_X1_begin q h)) er3) (hm 38 (by decide)) ⟨_, _, _, sh_38, rfl, rfl⟩ rfl rfl (Nat.le_of_ble_eq_true rfl) hl.1 ⟨Nat.le_of_ble_eq_true rfl, Nat.le_of_ble_eq_true rfl, Nat.le_of_ble_eq_true rfl, Nat.le_of_ble_eq_true rfl⟩ dX11_telling_23 (fun H locs hS => ?_)
    refine lv_aload_n C.1 C.2.1 dX11_telling_26 rfl (lv_at hl 0 rfl) ?_
    refine zgetR C hS ff_X11_35_0 (hm 0 (by decide)) (hk (0, 3) (by decide)) dX11_telling_27 ?_
    refine lv_aload_n C.1 C.2.1 dX11_telling_30 rfl (lv_at hl 0 rfl) ?_
    refine zgetR C hS ff_X11_12_0 (hm 0 (by decide)) (hk (0, 0) (by decide)) dX11_telling_31 ?_
    refine zgetR C hS ff_X11_90_1 (hm 1 (by decide)) (hk (1, 1) (by decide)) dX11_telling_34 ?_
    refine zgetR C hS ff_X11_200_7 (hm 7 (by decide)) (hk (7, 2) (by decide)) dX11_telling_37 ?_
    refine lv_iload_n C.1 C.2.1 dX11_telling_40 rfl (lv_at hl 1 rfl) ?_
    obtain ⟨hi, hf⟩ := zck_some hf
    refine zald C hS sh_10 (hm 10 (by decide)) hi dX11_telling_41 ?_
    refine lv_aload_n C.1 C.2.1 dX11_telling_42 rfl (lv_at hl 0 rfl) ?_
    refine zgetR C hS ff_X11_12_0 (hm 0 (by decide)) (hk (0, 0) (by decide)) dX11_telling_43 ?_
    refine zgetR C hS ff_X11_90_1 (hm 1 (by decide)) (hk (1, 1) (by decide)) dX11_telling_46 ?_
    refine zgetR C hS ff_X11_200_7 (hm 7 (by decide)) (hk (7, 2) (by decide)) dX11_telling_49 ?_
    refine lv_aload_n C.1 C.2.1 dX11_telling_52 rfl (lv_at hl 0 rfl) ?_
    refine zgetR C hS ff_X11_12_0 (hm 0 (by decide)) (hk (0, 0) (by decide)) dX11_telling_53 ?_
    refine zgetR C hS ff_X11_90_1 (hm 1 (by decide)) (hk (1, 1) (by decide)) dX11_telling_56 ?_
    refine lv_iload_n C.1 C.2.1 dX11_telling_59 rfl (lv_at hl 1 rfl) ?_
    obtain ⟨r5, h6, er5, hf⟩ := zbd_some hf
    refine zcallVI (As := [.int x1]) (rest := [.ref (zal G 10), .int (h4 10 (Int32.toNatClampNeg x1)), .ref (zal G 38)]) C hS mv_X11_203 (c_X9_beside l G h4 x1 (r5, h6) (fun c h => hm c (sn_X11_telling_X9_beside c h)) (fun q h => hk q (sl_X11_telling_X9_beside q h)) er5) (hm 7 (by decide)) ⟨_, _, _, sh_7, rfl, rfl⟩ rfl rfl (Nat.le_of_ble_eq_true rfl) hl.1 ⟨Nat.le_of_ble_eq_true rfl, Nat.le_of_ble_eq_true rfl, Nat.le_of_ble_eq_true rfl, Nat.le_of_ble_eq_true rfl⟩ dX11_telling_60 (fun H locs hS => ?_)
    obtain ⟨hi, hf⟩ := zck_some hf
    refine zald C hS sh_10 (hm 10 (by decide)) hi dX11_telling_63 ?_
    obtain ⟨r7, h8, er7, hf⟩ := zbd_some hf
    refine zcallVI (As := [.int (h4 10 (Int32.toNatClampNeg x1)), .int (h6 10 (Int32.toNatClampNeg r5))]) (rest := []) C hS mv_X11_206 (c_X1_findBetween l G h6 (h4 10 (Int32.toNatClampNeg x1)) (h6 10 (Int32.toNatClampNeg r5)) (r7, h8) (fun c h => hm c (sn_X11_telling_X1_findBetween c h)) (fun q h => hk q (sl_X11_telling_X1_findBetween q h)) er7) (hm 38 (by decide)) ⟨_, _, _, sh_38, rfl, rfl⟩ rfl rfl (Nat.le_of_ble_eq_true rfl) hl.1 ⟨Nat.le_of_ble_eq_true rfl, Nat.le_of_ble_eq_true rfl, Nat.le_of_ble_eq_true rfl, Nat.le_of_ble_eq_true rfl⟩ dX11_telling_64 (fun H locs hS => ?_)
    refine lv_if_ne (tgt := 72) C.1 C.2.1 dX11_telling_67 (by decide) (fun hc => ?_) (fun hc => ?_)
    · have hf := zif_f hc hf
      refine lv_iload_n C.1 C.2.1 dX11_telling_72 rfl (lv_at hl 2 rfl) ?_
      by_cases hc0 : x2 = (0 : Int32)
      · have hf := zif_t hc0 hf
        refine lv_tableIn (off := 31) (tgt := 104) C.1 C.2.1 dX11_telling_73 (by rw [hc0]; decide) (by rw [hc0]; decide) (by rw [hc0]; rfl) (by decide) ?_
        refine lv_aload_n C.1 C.2.1 dX11_telling_104 rfl (lv_at hl 0 rfl) ?_
        refine zgetR C hS ff_X11_35_0 (hm 0 (by decide)) (hk (0, 3) (by decide)) dX11_telling_105 ?_
        refine zgetI C hS ff_X11_209_38 (hm 38 (by decide)) dX11_telling_108 ?_
        exact zretI C hS hf dX11_telling_111
      have hf := zif_f hc0 hf
      by_cases hc1 : x2 = (1 : Int32)
      · have hf := zif_t hc1 hf
        refine lv_tableIn (off := 39) (tgt := 112) C.1 C.2.1 dX11_telling_73 (by rw [hc1]; decide) (by rw [hc1]; decide) (by rw [hc1]; rfl) (by decide) ?_
        refine lv_aload_n C.1 C.2.1 dX11_telling_112 rfl (lv_at hl 0 rfl) ?_
        refine zgetR C hS ff_X11_35_0 (hm 0 (by decide)) (hk (0, 3) (by decide)) dX11_telling_113 ?_
        refine zgetI C hS ff_X11_212_38 (hm 38 (by decide)) dX11_telling_116 ?_
        exact zretI C hS hf dX11_telling_119
      have hf := zif_f hc1 hf
      by_cases hc2 : x2 = (2 : Int32)
      · have hf := zif_t hc2 hf
        refine lv_tableIn (off := 47) (tgt := 120) C.1 C.2.1 dX11_telling_73 (by rw [hc2]; decide) (by rw [hc2]; decide) (by rw [hc2]; rfl) (by decide) ?_
        refine lv_aload_n C.1 C.2.1 dX11_telling_120 rfl (lv_at hl 0 rfl) ?_
        refine zgetR C hS ff_X11_35_0 (hm 0 (by decide)) (hk (0, 3) (by decide)) dX11_telling_121 ?_
        refine zgetI C hS ff_X11_215_38 (hm 38 (by decide)) dX11_telling_124 ?_
        exact zretI C hS hf dX11_telling_127
      have hf := zif_f hc2 hf
      by_cases hc3 : x2 = (3 : Int32)
      · have hf := zif_t hc3 hf
        refine lv_tableIn (off := 55) (tgt := 128) C.1 C.2.1 dX11_telling_73 (by rw [hc3]; decide) (by rw [hc3]; decide) (by rw [hc3]; rfl) (by decide) ?_
        refine lv_aload_n C.1 C.2.1 dX11_telling_128 rfl (lv_at hl 0 rfl) ?_
        refine zgetR C hS ff_X11_35_0 (hm 0 (by decide)) (hk (0, 3) (by decide)) dX11_telling_129 ?_
        refine zgetI C hS ff_X11_218_38 (hm 38 (by decide)) dX11_telling_132 ?_
        exact zretI C hS hf dX11_telling_135
      have hf := zif_f hc3 hf
      refine lv_tableOut (tgt := 136) C.1 C.2.1 dX11_telling_73 (zso 0 4 (fun k hk => by match k, hk with | 0, _ => exact hc0 | 1, _ => exact hc1 | 2, _ => exact hc2 | 3, _ => exact hc3)) (by decide) ?_
      refine lv_iconst (v := (-1 : Int32)) C.1 C.2.1 dX11_telling_136 rfl ?_
      exact zretI C hS hf dX11_telling_137
    · have hf := zif_t hc hf
      refine lv_iconst (v := (-1 : Int32)) C.1 C.2.1 dX11_telling_70 rfl ?_
      exact zretI C hS hf dX11_telling_71
  · have hf := zif_t hc hf
    refine lv_iconst (v := (-1 : Int32)) C.1 C.2.1 dX11_telling_17 rfl ?_
    exact zretI C hS hf dX11_telling_18
end
section
theorem dX1_untell_0 : decode cX1_untell 0 = .ok (.aload_n 0, 1) := by decide +kernel
theorem dX1_untell_1 : decode cX1_untell 1 = .ok (.getfield 107, 3) := by decide +kernel
theorem dX1_untell_4 : decode cX1_untell 4 = .ok (.ifCond .le 48, 3) := by decide +kernel
theorem dX1_untell_7 : decode cX1_untell 7 = .ok (.aload_n 0, 1) := by decide +kernel
theorem dX1_untell_8 : decode cX1_untell 8 = .ok (.dup, 1) := by decide +kernel
theorem dX1_untell_9 : decode cX1_untell 9 = .ok (.getfield 107, 3) := by decide +kernel
theorem dX1_untell_12 : decode cX1_untell 12 = .ok (.iconst 1, 1) := by decide +kernel
theorem dX1_untell_13 : decode cX1_untell 13 = .ok (.isub, 1) := by decide +kernel
theorem dX1_untell_14 : decode cX1_untell 14 = .ok (.putfield 107, 3) := by decide +kernel
theorem dX1_untell_17 : decode cX1_untell 17 = .ok (.aload_n 0, 1) := by decide +kernel
theorem dX1_untell_18 : decode cX1_untell 18 = .ok (.getfield 21, 3) := by decide +kernel
theorem dX1_untell_21 : decode cX1_untell 21 = .ok (.aload_n 0, 1) := by decide +kernel
theorem dX1_untell_22 : decode cX1_untell 22 = .ok (.getfield 107, 3) := by decide +kernel
theorem dX1_untell_25 : decode cX1_untell 25 = .ok (.iaload, 1) := by decide +kernel
theorem dX1_untell_26 : decode cX1_untell 26 = .ok (.istore_n 1, 1) := by decide +kernel
theorem dX1_untell_27 : decode cX1_untell 27 = .ok (.aload_n 0, 1) := by decide +kernel
theorem dX1_untell_28 : decode cX1_untell 28 = .ok (.getfield 15, 3) := by decide +kernel
theorem dX1_untell_31 : decode cX1_untell 31 = .ok (.iload_n 1, 1) := by decide +kernel
theorem dX1_untell_32 : decode cX1_untell 32 = .ok (.dup2, 1) := by decide +kernel
theorem dX1_untell_33 : decode cX1_untell 33 = .ok (.iaload, 1) := by decide +kernel
theorem dX1_untell_34 : decode cX1_untell 34 = .ok (.iconst 1, 1) := by decide +kernel
theorem dX1_untell_35 : decode cX1_untell 35 = .ok (.isub, 1) := by decide +kernel
theorem dX1_untell_36 : decode cX1_untell 36 = .ok (.iastore, 1) := by decide +kernel
theorem dX1_untell_37 : decode cX1_untell 37 = .ok (.aload_n 0, 1) := by decide +kernel
theorem dX1_untell_38 : decode cX1_untell 38 = .ok (.getfield 9, 3) := by decide +kernel
theorem dX1_untell_41 : decode cX1_untell 41 = .ok (.iload_n 1, 1) := by decide +kernel
theorem dX1_untell_42 : decode cX1_untell 42 = .ok (.aload_n 0, 1) := by decide +kernel
theorem dX1_untell_43 : decode cX1_untell 43 = .ok (.getfield 24, 3) := by decide +kernel
theorem dX1_untell_46 : decode cX1_untell 46 = .ok (.aload_n 0, 1) := by decide +kernel
theorem dX1_untell_47 : decode cX1_untell 47 = .ok (.getfield 107, 3) := by decide +kernel
theorem dX1_untell_50 : decode cX1_untell 50 = .ok (.iaload, 1) := by decide +kernel
theorem dX1_untell_51 : decode cX1_untell 51 = .ok (.iastore, 1) := by decide +kernel
theorem dX1_untell_52 : decode cX1_untell 52 = .ok (.return_, 1) := by decide +kernel
abbrev nd_X1_untell : List Nat := [38, 39, 40, 42, 43]
abbrev ld_X1_untell : List (Nat × Nat) := [(38, 1), (38, 2), (38, 4), (38, 5)]
def f_X1_untell  (h : zH) : zR := (if (h 38 6) ≤ 0 then (some (0, h)) else (zst (zup h 38 6 ((h 38 6) - (1 : Int32))) fun h1 => (zck (h1 38 6) 8 (zlt (h1 42 (Int32.toNatClampNeg (h1 38 6))) fun y2 => (zck y2 256 (zck y2 256 (zst (zup h1 40 (Int32.toNatClampNeg y2) ((h1 40 (Int32.toNatClampNeg y2)) - (1 : Int32))) fun h3 => (zck (h3 38 6) 8 (zck y2 256 (zst (zup h3 39 (Int32.toNatClampNeg y2) (h3 43 (Int32.toNatClampNeg (h3 38 6)))) fun h4 => (some (0, h4))))))))))))
variable {p : Program} {l : Launch} {e : Env} {s : State} {m : MethodId} {args : Array Value} {below : List Frame} {meth : Method} {c : Code} {G : zG} {q : Int32 × zH}
set_option maxHeartbeats 4000000 in
set_option maxRecDepth 100000 in
theorem c_X1_untell (l : Launch) (G : zG) (h : zH) (q : Int32 × zH) (hm : ∀ c ∈ nd_X1_untell, c ∈ znm G) (hk : ∀ q ∈ ld_X1_untell, zlk G q.1 q.2 = true) (hf : f_X1_untell h = some q) : zCtV l yX1_untell cX1_untell 2 none (2) [.ref (zal G 38)] G h q.2 := by
  refine zMetV (by decide) (Nat.le_of_ble_eq_true rfl) ?_
  intro p e s m below meth c ls C hl hS
  have hl : lv_has ls 2 [(0, .ref (zal G 38))] := hl
  have C : zC G p s m [.ref (zal G 38)].toArray meth c cX1_untell 2 RX1 none := C
  unfold f_X1_untell at hf
  refine lv_aload_n C.1 C.2.1 dX1_untell_0 rfl (lv_at hl 0 rfl) ?_
  refine zgetI C hS ff_X1_107_38 (hm 38 (by decide)) dX1_untell_1 ?_
  refine lv_if_le (tgt := 52) C.1 C.2.1 dX1_untell_4 (by decide) (fun hc => ?_) (fun hc => ?_)
  · have hf := zif_t hc hf
    exact zretV C hS hf dX1_untell_52
  · have hf := zif_f hc hf
    refine lv_aload_n C.1 C.2.1 dX1_untell_7 rfl (lv_at hl 0 rfl) ?_
    refine lv_dup C.1 C.2.1 dX1_untell_8 rfl ?_
    refine zgetI C hS ff_X1_107_38 (hm 38 (by decide)) dX1_untell_9 ?_
    refine lv_iconst (v := (1 : Int32)) C.1 C.2.1 dX1_untell_12 rfl ?_
    refine lv_isub C.1 C.2.1 dX1_untell_13 ?_
    refine zputI C hS ff_X1_107_38 fw_38_6 (hm 38 (by decide)) dX1_untell_14 (fun H locs hS => ?_)
    obtain ⟨h1, eh1, hf⟩ := zst_some hf
    have hS : zS G h1 s.heap H locs := by rw [eh1]; exact hS
    refine lv_aload_n C.1 C.2.1 dX1_untell_17 rfl (lv_at hl 0 rfl) ?_
    refine zgetR C hS ff_X1_21_38 (hm 38 (by decide)) (hk (38, 4) (by decide)) dX1_untell_18 ?_
    refine lv_aload_n C.1 C.2.1 dX1_untell_21 rfl (lv_at hl 0 rfl) ?_
    refine zgetI C hS ff_X1_107_38 (hm 38 (by decide)) dX1_untell_22 ?_
    obtain ⟨hi, hf⟩ := zck_some hf
    refine zald C hS sh_42 (hm 42 (by decide)) hi dX1_untell_25 ?_
    obtain ⟨y2, ey2, hf⟩ := zlt_some hf
    refine ztop ey2 ?_
    refine lv_istore_n (lv' := [(1, .int y2), (0, .ref (zal G 38))]) C.1 C.2.1 dX1_untell_26 rfl hl (by decide) rfl (fun ls hl => ?_)
    refine lv_aload_n C.1 C.2.1 dX1_untell_27 rfl (lv_at hl 1 rfl) ?_
    refine zgetR C hS ff_X1_15_38 (hm 38 (by decide)) (hk (38, 2) (by decide)) dX1_untell_28 ?_
    refine lv_iload_n C.1 C.2.1 dX1_untell_31 rfl (lv_at hl 0 rfl) ?_
    refine lv_dup2_11 C.1 C.2.1 dX1_untell_32 rfl rfl ?_
    obtain ⟨hi, hf⟩ := zck_some hf
    refine zald C hS sh_40 (hm 40 (by decide)) hi dX1_untell_33 ?_
    refine lv_iconst (v := (1 : Int32)) C.1 C.2.1 dX1_untell_34 rfl ?_
    refine lv_isub C.1 C.2.1 dX1_untell_35 ?_
    obtain ⟨hi, hf⟩ := zck_some hf
    refine zast C hS sh_40 (hm 40 (by decide)) hi dX1_untell_36 (fun H locs hS => ?_)
    obtain ⟨h3, eh3, hf⟩ := zst_some hf
    have hS : zS G h3 s.heap H locs := by rw [eh3]; exact hS
    refine lv_aload_n C.1 C.2.1 dX1_untell_37 rfl (lv_at hl 1 rfl) ?_
    refine zgetR C hS ff_X1_9_38 (hm 38 (by decide)) (hk (38, 1) (by decide)) dX1_untell_38 ?_
    refine lv_iload_n C.1 C.2.1 dX1_untell_41 rfl (lv_at hl 0 rfl) ?_
    refine lv_aload_n C.1 C.2.1 dX1_untell_42 rfl (lv_at hl 1 rfl) ?_
    refine zgetR C hS ff_X1_24_38 (hm 38 (by decide)) (hk (38, 5) (by decide)) dX1_untell_43 ?_
    refine lv_aload_n C.1 C.2.1 dX1_untell_46 rfl (lv_at hl 1 rfl) ?_
    refine zgetI C hS ff_X1_107_38 (hm 38 (by decide)) dX1_untell_47 ?_
    obtain ⟨hi, hf⟩ := zck_some hf
    refine zald C hS sh_43 (hm 43 (by decide)) hi dX1_untell_50 ?_
    obtain ⟨hi, hf⟩ := zck_some hf
    refine zast C hS sh_39 (hm 39 (by decide)) hi dX1_untell_51 (fun H locs hS => ?_)
    obtain ⟨h4, eh4, hf⟩ := zst_some hf
    have hS : zS G h4 s.heap H locs := by rw [eh4]; exact hS
    exact zretV C hS hf dX1_untell_52
end
section
theorem dX1_tellBetween_0 : decode cX1_tellBetween 0 = .ok (.aload_n 0, 1) := by decide +kernel
theorem dX1_tellBetween_1 : decode cX1_tellBetween 1 = .ok (.getfield 107, 3) := by decide +kernel
theorem dX1_tellBetween_4 : decode cX1_tellBetween 4 = .ok (.bipush 8, 2) := by decide +kernel
theorem dX1_tellBetween_6 : decode cX1_tellBetween 6 = .ok (.if_icmp .ge 13, 3) := by decide +kernel
theorem dX1_tellBetween_9 : decode cX1_tellBetween 9 = .ok (.iload_n 1, 1) := by decide +kernel
theorem dX1_tellBetween_10 : decode cX1_tellBetween 10 = .ok (.iconst (-1), 1) := by decide +kernel
theorem dX1_tellBetween_11 : decode cX1_tellBetween 11 = .ok (.if_icmp .eq 8, 3) := by decide +kernel
theorem dX1_tellBetween_14 : decode cX1_tellBetween 14 = .ok (.iload_n 2, 1) := by decide +kernel
theorem dX1_tellBetween_15 : decode cX1_tellBetween 15 = .ok (.iconst (-1), 1) := by decide +kernel
theorem dX1_tellBetween_16 : decode cX1_tellBetween 16 = .ok (.if_icmp .ne 5, 3) := by decide +kernel
theorem dX1_tellBetween_19 : decode cX1_tellBetween 19 = .ok (.iconst 0, 1) := by decide +kernel
theorem dX1_tellBetween_20 : decode cX1_tellBetween 20 = .ok (.ireturn, 1) := by decide +kernel
theorem dX1_tellBetween_21 : decode cX1_tellBetween 21 = .ok (.aload_n 0, 1) := by decide +kernel
theorem dX1_tellBetween_22 : decode cX1_tellBetween 22 = .ok (.aload_n 0, 1) := by decide +kernel
theorem dX1_tellBetween_23 : decode cX1_tellBetween 23 = .ok (.getfield 27, 3) := by decide +kernel
theorem dX1_tellBetween_26 : decode cX1_tellBetween 26 = .ok (.getfield 63, 3) := by decide +kernel
theorem dX1_tellBetween_29 : decode cX1_tellBetween 29 = .ok (.getfield 67, 3) := by decide +kernel
theorem dX1_tellBetween_32 : decode cX1_tellBetween 32 = .ok (.iload_n 1, 1) := by decide +kernel
theorem dX1_tellBetween_33 : decode cX1_tellBetween 33 = .ok (.iaload, 1) := by decide +kernel
theorem dX1_tellBetween_34 : decode cX1_tellBetween 34 = .ok (.aload_n 0, 1) := by decide +kernel
theorem dX1_tellBetween_35 : decode cX1_tellBetween 35 = .ok (.getfield 27, 3) := by decide +kernel
theorem dX1_tellBetween_38 : decode cX1_tellBetween 38 = .ok (.getfield 63, 3) := by decide +kernel
theorem dX1_tellBetween_41 : decode cX1_tellBetween 41 = .ok (.getfield 67, 3) := by decide +kernel
theorem dX1_tellBetween_44 : decode cX1_tellBetween 44 = .ok (.iload_n 2, 1) := by decide +kernel
theorem dX1_tellBetween_45 : decode cX1_tellBetween 45 = .ok (.iaload, 1) := by decide +kernel
theorem dX1_tellBetween_46 : decode cX1_tellBetween 46 = .ok (.invokevirtual 72, 3) := by decide +kernel
theorem dX1_tellBetween_49 : decode cX1_tellBetween 49 = .ok (.ifCond .ne 5, 3) := by decide +kernel
theorem dX1_tellBetween_52 : decode cX1_tellBetween 52 = .ok (.iconst 0, 1) := by decide +kernel
theorem dX1_tellBetween_53 : decode cX1_tellBetween 53 = .ok (.ireturn, 1) := by decide +kernel
theorem dX1_tellBetween_54 : decode cX1_tellBetween 54 = .ok (.aload_n 0, 1) := by decide +kernel
theorem dX1_tellBetween_55 : decode cX1_tellBetween 55 = .ok (.getfield 76, 3) := by decide +kernel
theorem dX1_tellBetween_58 : decode cX1_tellBetween 58 = .ok (.aload_n 0, 1) := by decide +kernel
theorem dX1_tellBetween_59 : decode cX1_tellBetween 59 = .ok (.getfield 82, 3) := by decide +kernel
theorem dX1_tellBetween_62 : decode cX1_tellBetween 62 = .ok (.invokestatic 101, 3) := by decide +kernel
theorem dX1_tellBetween_65 : decode cX1_tellBetween 65 = .ok (.istore_n 3, 1) := by decide +kernel
theorem dX1_tellBetween_66 : decode cX1_tellBetween 66 = .ok (.aload_n 0, 1) := by decide +kernel
theorem dX1_tellBetween_67 : decode cX1_tellBetween 67 = .ok (.getfield 21, 3) := by decide +kernel
theorem dX1_tellBetween_70 : decode cX1_tellBetween 70 = .ok (.aload_n 0, 1) := by decide +kernel
theorem dX1_tellBetween_71 : decode cX1_tellBetween 71 = .ok (.getfield 107, 3) := by decide +kernel
theorem dX1_tellBetween_74 : decode cX1_tellBetween 74 = .ok (.iload_n 3, 1) := by decide +kernel
theorem dX1_tellBetween_75 : decode cX1_tellBetween 75 = .ok (.iastore, 1) := by decide +kernel
theorem dX1_tellBetween_76 : decode cX1_tellBetween 76 = .ok (.aload_n 0, 1) := by decide +kernel
theorem dX1_tellBetween_77 : decode cX1_tellBetween 77 = .ok (.getfield 24, 3) := by decide +kernel
theorem dX1_tellBetween_80 : decode cX1_tellBetween 80 = .ok (.aload_n 0, 1) := by decide +kernel
theorem dX1_tellBetween_81 : decode cX1_tellBetween 81 = .ok (.getfield 107, 3) := by decide +kernel
theorem dX1_tellBetween_84 : decode cX1_tellBetween 84 = .ok (.aload_n 0, 1) := by decide +kernel
theorem dX1_tellBetween_85 : decode cX1_tellBetween 85 = .ok (.getfield 91, 3) := by decide +kernel
theorem dX1_tellBetween_88 : decode cX1_tellBetween 88 = .ok (.iastore, 1) := by decide +kernel
theorem dX1_tellBetween_89 : decode cX1_tellBetween 89 = .ok (.aload_n 0, 1) := by decide +kernel
theorem dX1_tellBetween_90 : decode cX1_tellBetween 90 = .ok (.dup, 1) := by decide +kernel
theorem dX1_tellBetween_91 : decode cX1_tellBetween 91 = .ok (.getfield 107, 3) := by decide +kernel
theorem dX1_tellBetween_94 : decode cX1_tellBetween 94 = .ok (.iconst 1, 1) := by decide +kernel
theorem dX1_tellBetween_95 : decode cX1_tellBetween 95 = .ok (.iadd, 1) := by decide +kernel
theorem dX1_tellBetween_96 : decode cX1_tellBetween 96 = .ok (.putfield 107, 3) := by decide +kernel
theorem dX1_tellBetween_99 : decode cX1_tellBetween 99 = .ok (.aload_n 0, 1) := by decide +kernel
theorem dX1_tellBetween_100 : decode cX1_tellBetween 100 = .ok (.getfield 15, 3) := by decide +kernel
theorem dX1_tellBetween_103 : decode cX1_tellBetween 103 = .ok (.iload_n 3, 1) := by decide +kernel
theorem dX1_tellBetween_104 : decode cX1_tellBetween 104 = .ok (.dup2, 1) := by decide +kernel
theorem dX1_tellBetween_105 : decode cX1_tellBetween 105 = .ok (.iaload, 1) := by decide +kernel
theorem dX1_tellBetween_106 : decode cX1_tellBetween 106 = .ok (.iconst 1, 1) := by decide +kernel
theorem dX1_tellBetween_107 : decode cX1_tellBetween 107 = .ok (.iadd, 1) := by decide +kernel
theorem dX1_tellBetween_108 : decode cX1_tellBetween 108 = .ok (.iastore, 1) := by decide +kernel
theorem dX1_tellBetween_109 : decode cX1_tellBetween 109 = .ok (.aload_n 0, 1) := by decide +kernel
theorem dX1_tellBetween_110 : decode cX1_tellBetween 110 = .ok (.getfield 9, 3) := by decide +kernel
theorem dX1_tellBetween_113 : decode cX1_tellBetween 113 = .ok (.iload_n 3, 1) := by decide +kernel
theorem dX1_tellBetween_114 : decode cX1_tellBetween 114 = .ok (.iconst (-1), 1) := by decide +kernel
theorem dX1_tellBetween_115 : decode cX1_tellBetween 115 = .ok (.iastore, 1) := by decide +kernel
theorem dX1_tellBetween_116 : decode cX1_tellBetween 116 = .ok (.aload_n 0, 1) := by decide +kernel
theorem dX1_tellBetween_117 : decode cX1_tellBetween 117 = .ok (.getfield 91, 3) := by decide +kernel
theorem dX1_tellBetween_120 : decode cX1_tellBetween 120 = .ok (.ireturn, 1) := by decide +kernel
abbrev nd_X1_tellBetween : List Nat := [1, 2, 4, 5, 7, 8, 11, 12, 13, 16, 17, 18, 19, 20, 21, 38, 39, 40, 41, 42, 43]
abbrev ld_X1_tellBetween : List (Nat × Nat) := [(1, 0), (1, 1), (1, 2), (1, 3), (1, 4), (1, 5), (2, 1), (2, 2), (7, 0), (11, 0), (11, 1), (16, 0), (16, 1), (16, 2), (38, 0), (38, 1), (38, 2), (38, 3), (38, 4), (38, 5)]
theorem sn_X1_tellBetween_X1_findOf : ∀ c ∈ nd_X1_findOf, c ∈ nd_X1_tellBetween := by decide
theorem sl_X1_tellBetween_X1_findOf : ∀ q ∈ ld_X1_findOf, q ∈ ld_X1_tellBetween := by decide
theorem sn_X1_tellBetween_X11_pairOf : ∀ c ∈ nd_X11_pairOf, c ∈ nd_X1_tellBetween := by decide
theorem sl_X1_tellBetween_X11_pairOf : ∀ q ∈ ld_X11_pairOf, q ∈ ld_X1_tellBetween := by decide
def f_X1_tellBetween_19  (h : zH) : zR := (some ((0 : Int32), h))
def f_X1_tellBetween  (x1 : Int32) (x2 : Int32) (h : zH) : zR := (if (8 : Int32) ≤ (h 38 6) then (f_X1_tellBetween_19   h) else (if x1 = (-1 : Int32) then (f_X1_tellBetween_19   h) else (if x2 = (-1 : Int32) then (f_X1_tellBetween_19   h) else (zck x1 8 (zck x2 8 (zbd (f_X1_findOf (h 8 (Int32.toNatClampNeg x1)) (h 8 (Int32.toNatClampNeg x2)) h) fun r1 h2 => (if r1 = 0 then (some ((0 : Int32), h2)) else (zbd (f_X11_pairOf (h2 38 9) (h2 38 10) h2) fun r3 h4 => (zck (h4 38 6) 8 (zst (zup h4 42 (Int32.toNatClampNeg (h4 38 6)) r3) fun h5 => (zck (h5 38 6) 8 (zst (zup h5 43 (Int32.toNatClampNeg (h5 38 6)) (h5 38 11)) fun h6 => (zst (zup h6 38 6 ((h6 38 6) + (1 : Int32))) fun h7 => (zck r3 256 (zck r3 256 (zst (zup h7 40 (Int32.toNatClampNeg r3) ((h7 40 (Int32.toNatClampNeg r3)) + (1 : Int32))) fun h8 => (zck r3 256 (zst (zup h8 39 (Int32.toNatClampNeg r3) (-1 : Int32)) fun h9 => (some ((h9 38 11), h9))))))))))))))))))))
variable {p : Program} {l : Launch} {e : Env} {s : State} {m : MethodId} {args : Array Value} {below : List Frame} {meth : Method} {c : Code} {G : zG} {q : Int32 × zH}
set_option maxHeartbeats 4000000 in
set_option maxRecDepth 100000 in
theorem w_X1_tellBetween_19  (C : zC G p s m args meth c cX1_tellBetween 4 RX1 (some .int)) (hm : ∀ c ∈ nd_X1_tellBetween, c ∈ znm G) (hk : ∀ q ∈ ld_X1_tellBetween, zlk G q.1 q.2 = true)  : ∀ (ls : Array Slot) (H : Heap) (locs : List Loc) (h : zH), lv_has ls 4 [] → zS G h s.heap H locs → f_X1_tellBetween_19  h = some q → W p l e (zrm (6)) s m args below meth c H locs 0 0 (MQ below (zQI G q.2 q.1) args s 0 0 (zA G)) (F0 m 19 ls []) := by
  intro ls H locs h hl hS hf
  unfold f_X1_tellBetween_19 at hf
  refine lv_iconst (v := (0 : Int32)) C.1 C.2.1 dX1_tellBetween_19 rfl ?_
  exact zretI C hS hf dX1_tellBetween_20
set_option maxHeartbeats 4000000 in
set_option maxRecDepth 100000 in
theorem c_X1_tellBetween (l : Launch) (G : zG) (h : zH) (x1 : Int32) (x2 : Int32) (q : Int32 × zH) (hm : ∀ c ∈ nd_X1_tellBetween, c ∈ znm G) (hk : ∀ q ∈ ld_X1_tellBetween, zlk G q.1 q.2 = true) (hf : f_X1_tellBetween x1 x2 h = some q) : zCtI l yX1_tellBetween cX1_tellBetween 4 (some .int) (6) [.ref (zal G 38), .int x1, .int x2] G h q.2 q.1 := by
  refine zMetI (by decide) (Nat.le_of_ble_eq_true rfl) ?_
  intro p e s m below meth c ls C hl hS
  have hl : lv_has ls 4 [(0, .ref (zal G 38)), (1, .int x1), (2, .int x2)] := hl
  have C : zC G p s m [.ref (zal G 38), .int x1, .int x2].toArray meth c cX1_tellBetween 4 RX1 (some .int) := C
  unfold f_X1_tellBetween at hf
  refine lv_aload_n C.1 C.2.1 dX1_tellBetween_0 rfl (lv_at hl 0 rfl) ?_
  refine zgetI C hS ff_X1_107_38 (hm 38 (by decide)) dX1_tellBetween_1 ?_
  refine lv_bipush (v := (8 : Int32)) C.1 C.2.1 dX1_tellBetween_4 rfl ?_
  refine lv_icmp_ge (tgt := 19) C.1 C.2.1 dX1_tellBetween_6 (by decide) (fun hc => ?_) (fun hc => ?_)
  · have hf := zif_t hc hf
    exact w_X1_tellBetween_19 C hm hk  _ _ _ _ (lv_sub hl [] rfl) hS hf
  · have hf := zif_f hc hf
    refine lv_iload_n C.1 C.2.1 dX1_tellBetween_9 rfl (lv_at hl 1 rfl) ?_
    refine lv_iconst (v := (-1 : Int32)) C.1 C.2.1 dX1_tellBetween_10 rfl ?_
    refine lv_icmp_eq (tgt := 19) C.1 C.2.1 dX1_tellBetween_11 (by decide) (fun hc => ?_) (fun hc => ?_)
    · have hf := zif_t hc hf
      exact w_X1_tellBetween_19 C hm hk  _ _ _ _ (lv_sub hl [] rfl) hS hf
    · have hf := zif_f hc hf
      refine lv_iload_n C.1 C.2.1 dX1_tellBetween_14 rfl (lv_at hl 2 rfl) ?_
      refine lv_iconst (v := (-1 : Int32)) C.1 C.2.1 dX1_tellBetween_15 rfl ?_
      refine lv_icmp_ne (tgt := 21) C.1 C.2.1 dX1_tellBetween_16 (by decide) (fun hc => ?_) (fun hc => ?_)
      · have hf := zif_f hc hf
        refine lv_aload_n C.1 C.2.1 dX1_tellBetween_21 rfl (lv_at hl 0 rfl) ?_
        refine lv_aload_n C.1 C.2.1 dX1_tellBetween_22 rfl (lv_at hl 0 rfl) ?_
        refine zgetR C hS ff_X1_27_38 (hm 38 (by decide)) (hk (38, 0) (by decide)) dX1_tellBetween_23 ?_
        refine zgetR C hS ff_X1_63_1 (hm 1 (by decide)) (hk (1, 1) (by decide)) dX1_tellBetween_26 ?_
        refine zgetR C hS ff_X1_67_7 (hm 7 (by decide)) (hk (7, 0) (by decide)) dX1_tellBetween_29 ?_
        refine lv_iload_n C.1 C.2.1 dX1_tellBetween_32 rfl (lv_at hl 1 rfl) ?_
        obtain ⟨hi, hf⟩ := zck_some hf
        refine zald C hS sh_8 (hm 8 (by decide)) hi dX1_tellBetween_33 ?_
        refine lv_aload_n C.1 C.2.1 dX1_tellBetween_34 rfl (lv_at hl 0 rfl) ?_
        refine zgetR C hS ff_X1_27_38 (hm 38 (by decide)) (hk (38, 0) (by decide)) dX1_tellBetween_35 ?_
        refine zgetR C hS ff_X1_63_1 (hm 1 (by decide)) (hk (1, 1) (by decide)) dX1_tellBetween_38 ?_
        refine zgetR C hS ff_X1_67_7 (hm 7 (by decide)) (hk (7, 0) (by decide)) dX1_tellBetween_41 ?_
        refine lv_iload_n C.1 C.2.1 dX1_tellBetween_44 rfl (lv_at hl 2 rfl) ?_
        obtain ⟨hi, hf⟩ := zck_some hf
        refine zald C hS sh_8 (hm 8 (by decide)) hi dX1_tellBetween_45 ?_
        obtain ⟨r1, h2, er1, hf⟩ := zbd_some hf
        refine zcallVI (As := [.int (h 8 (Int32.toNatClampNeg x1)), .int (h 8 (Int32.toNatClampNeg x2))]) (rest := []) C hS mv_X1_72 (c_X1_findOf l G h (h 8 (Int32.toNatClampNeg x1)) (h 8 (Int32.toNatClampNeg x2)) (r1, h2) (fun c h => hm c (sn_X1_tellBetween_X1_findOf c h)) (fun q h => hk q (sl_X1_tellBetween_X1_findOf q h)) er1) (hm 38 (by decide)) ⟨_, _, _, sh_38, rfl, rfl⟩ rfl rfl (Nat.le_of_ble_eq_true rfl) hl.1 ⟨Nat.le_of_ble_eq_true rfl, Nat.le_of_ble_eq_true rfl, Nat.le_of_ble_eq_true rfl, Nat.le_of_ble_eq_true rfl⟩ dX1_tellBetween_46 (fun H locs hS => ?_)
        refine lv_if_ne (tgt := 54) C.1 C.2.1 dX1_tellBetween_49 (by decide) (fun hc => ?_) (fun hc => ?_)
        · have hf := zif_f hc hf
          refine lv_aload_n C.1 C.2.1 dX1_tellBetween_54 rfl (lv_at hl 0 rfl) ?_
          refine zgetI C hS ff_X1_76_38 (hm 38 (by decide)) dX1_tellBetween_55 ?_
          refine lv_aload_n C.1 C.2.1 dX1_tellBetween_58 rfl (lv_at hl 0 rfl) ?_
          refine zgetI C hS ff_X1_82_38 (hm 38 (by decide)) dX1_tellBetween_59 ?_
          obtain ⟨r3, h4, er3, hf⟩ := zbd_some hf
          refine zcallNI (As := [.int (h2 38 9), .int (h2 38 10)]) (rest := []) C hS mn_X1_101 (c_X11_pairOf l G h2 (h2 38 9) (h2 38 10) (r3, h4) (fun c h => hm c (sn_X1_tellBetween_X11_pairOf c h)) (fun q h => hk q (sl_X1_tellBetween_X11_pairOf q h)) er3) rfl rfl (Nat.le_of_ble_eq_true rfl) hl.1 ⟨Nat.le_of_ble_eq_true rfl, Nat.le_of_ble_eq_true rfl, Nat.le_of_ble_eq_true rfl, Nat.le_of_ble_eq_true rfl⟩ dX1_tellBetween_62 (fun H locs hS => ?_)
          refine lv_istore_n (lv' := [(3, .int r3), (0, .ref (zal G 38)), (1, .int x1), (2, .int x2)]) C.1 C.2.1 dX1_tellBetween_65 rfl hl (by decide) rfl (fun ls hl => ?_)
          refine lv_aload_n C.1 C.2.1 dX1_tellBetween_66 rfl (lv_at hl 1 rfl) ?_
          refine zgetR C hS ff_X1_21_38 (hm 38 (by decide)) (hk (38, 4) (by decide)) dX1_tellBetween_67 ?_
          refine lv_aload_n C.1 C.2.1 dX1_tellBetween_70 rfl (lv_at hl 1 rfl) ?_
          refine zgetI C hS ff_X1_107_38 (hm 38 (by decide)) dX1_tellBetween_71 ?_
          refine lv_iload_n C.1 C.2.1 dX1_tellBetween_74 rfl (lv_at hl 0 rfl) ?_
          obtain ⟨hi, hf⟩ := zck_some hf
          refine zast C hS sh_42 (hm 42 (by decide)) hi dX1_tellBetween_75 (fun H locs hS => ?_)
          obtain ⟨h5, eh5, hf⟩ := zst_some hf
          have hS : zS G h5 s.heap H locs := by rw [eh5]; exact hS
          refine lv_aload_n C.1 C.2.1 dX1_tellBetween_76 rfl (lv_at hl 1 rfl) ?_
          refine zgetR C hS ff_X1_24_38 (hm 38 (by decide)) (hk (38, 5) (by decide)) dX1_tellBetween_77 ?_
          refine lv_aload_n C.1 C.2.1 dX1_tellBetween_80 rfl (lv_at hl 1 rfl) ?_
          refine zgetI C hS ff_X1_107_38 (hm 38 (by decide)) dX1_tellBetween_81 ?_
          refine lv_aload_n C.1 C.2.1 dX1_tellBetween_84 rfl (lv_at hl 1 rfl) ?_
          refine zgetI C hS ff_X1_91_38 (hm 38 (by decide)) dX1_tellBetween_85 ?_
          obtain ⟨hi, hf⟩ := zck_some hf
          refine zast C hS sh_43 (hm 43 (by decide)) hi dX1_tellBetween_88 (fun H locs hS => ?_)
          obtain ⟨h6, eh6, hf⟩ := zst_some hf
          have hS : zS G h6 s.heap H locs := by rw [eh6]; exact hS
          refine lv_aload_n C.1 C.2.1 dX1_tellBetween_89 rfl (lv_at hl 1 rfl) ?_
          refine lv_dup C.1 C.2.1 dX1_tellBetween_90 rfl ?_
          refine zgetI C hS ff_X1_107_38 (hm 38 (by decide)) dX1_tellBetween_91 ?_
          refine lv_iconst (v := (1 : Int32)) C.1 C.2.1 dX1_tellBetween_94 rfl ?_
          refine lv_iadd C.1 C.2.1 dX1_tellBetween_95 ?_
          refine zputI C hS ff_X1_107_38 fw_38_6 (hm 38 (by decide)) dX1_tellBetween_96 (fun H locs hS => ?_)
          obtain ⟨h7, eh7, hf⟩ := zst_some hf
          have hS : zS G h7 s.heap H locs := by rw [eh7]; exact hS
          refine lv_aload_n C.1 C.2.1 dX1_tellBetween_99 rfl (lv_at hl 1 rfl) ?_
          refine zgetR C hS ff_X1_15_38 (hm 38 (by decide)) (hk (38, 2) (by decide)) dX1_tellBetween_100 ?_
          refine lv_iload_n C.1 C.2.1 dX1_tellBetween_103 rfl (lv_at hl 0 rfl) ?_
          refine lv_dup2_11 C.1 C.2.1 dX1_tellBetween_104 rfl rfl ?_
          obtain ⟨hi, hf⟩ := zck_some hf
          refine zald C hS sh_40 (hm 40 (by decide)) hi dX1_tellBetween_105 ?_
          refine lv_iconst (v := (1 : Int32)) C.1 C.2.1 dX1_tellBetween_106 rfl ?_
          refine lv_iadd C.1 C.2.1 dX1_tellBetween_107 ?_
          obtain ⟨hi, hf⟩ := zck_some hf
          refine zast C hS sh_40 (hm 40 (by decide)) hi dX1_tellBetween_108 (fun H locs hS => ?_)
          obtain ⟨h8, eh8, hf⟩ := zst_some hf
          have hS : zS G h8 s.heap H locs := by rw [eh8]; exact hS
          refine lv_aload_n C.1 C.2.1 dX1_tellBetween_109 rfl (lv_at hl 1 rfl) ?_
          refine zgetR C hS ff_X1_9_38 (hm 38 (by decide)) (hk (38, 1) (by decide)) dX1_tellBetween_110 ?_
          refine lv_iload_n C.1 C.2.1 dX1_tellBetween_113 rfl (lv_at hl 0 rfl) ?_
          refine lv_iconst (v := (-1 : Int32)) C.1 C.2.1 dX1_tellBetween_114 rfl ?_
          obtain ⟨hi, hf⟩ := zck_some hf
          refine zast C hS sh_39 (hm 39 (by decide)) hi dX1_tellBetween_115 (fun H locs hS => ?_)
          obtain ⟨h9, eh9, hf⟩ := zst_some hf
          have hS : zS G h9 s.heap H locs := by rw [eh9]; exact hS
          refine lv_aload_n C.1 C.2.1 dX1_tellBetween_116 rfl (lv_at hl 1 rfl) ?_
          refine zgetI C hS ff_X1_91_38 (hm 38 (by decide)) dX1_tellBetween_117 ?_
          exact zretI C hS hf dX1_tellBetween_120
        · have hf := zif_t hc hf
          refine lv_iconst (v := (0 : Int32)) C.1 C.2.1 dX1_tellBetween_52 rfl ?_
          exact zretI C hS hf dX1_tellBetween_53
      · have hf := zif_t hc hf
        exact w_X1_tellBetween_19 C hm hk  _ _ _ _ (lv_sub hl [] rfl) hS hf
end
section
theorem dX1_merryOf_0 : decode cX1_merryOf 0 = .ok (.iconst 0, 1) := by decide +kernel
theorem dX1_merryOf_1 : decode cX1_merryOf 1 = .ok (.istore_n 3, 1) := by decide +kernel
theorem dX1_merryOf_2 : decode cX1_merryOf 2 = .ok (.iconst 0, 1) := by decide +kernel
theorem dX1_merryOf_3 : decode cX1_merryOf 3 = .ok (.istore 4, 2) := by decide +kernel
theorem dX1_merryOf_5 : decode cX1_merryOf 5 = .ok (.iload 4, 2) := by decide +kernel
theorem dX1_merryOf_7 : decode cX1_merryOf 7 = .ok (.iload_n 2, 1) := by decide +kernel
theorem dX1_merryOf_8 : decode cX1_merryOf 8 = .ok (.if_icmp .ge 38, 3) := by decide +kernel
theorem dX1_merryOf_11 : decode cX1_merryOf 11 = .ok (.iload_n 3, 1) := by decide +kernel
theorem dX1_merryOf_12 : decode cX1_merryOf 12 = .ok (.aload_n 0, 1) := by decide +kernel
theorem dX1_merryOf_13 : decode cX1_merryOf 13 = .ok (.aload_n 1, 1) := by decide +kernel
theorem dX1_merryOf_14 : decode cX1_merryOf 14 = .ok (.iload 4, 2) := by decide +kernel
theorem dX1_merryOf_16 : decode cX1_merryOf 16 = .ok (.iaload, 1) := by decide +kernel
theorem dX1_merryOf_17 : decode cX1_merryOf 17 = .ok (.aload_n 1, 1) := by decide +kernel
theorem dX1_merryOf_18 : decode cX1_merryOf 18 = .ok (.iload 4, 2) := by decide +kernel
theorem dX1_merryOf_20 : decode cX1_merryOf 20 = .ok (.iconst 1, 1) := by decide +kernel
theorem dX1_merryOf_21 : decode cX1_merryOf 21 = .ok (.iadd, 1) := by decide +kernel
theorem dX1_merryOf_22 : decode cX1_merryOf 22 = .ok (.iload_n 2, 1) := by decide +kernel
theorem dX1_merryOf_23 : decode cX1_merryOf 23 = .ok (.if_icmp .ge 10, 3) := by decide +kernel
theorem dX1_merryOf_26 : decode cX1_merryOf 26 = .ok (.iload 4, 2) := by decide +kernel
theorem dX1_merryOf_28 : decode cX1_merryOf 28 = .ok (.iconst 1, 1) := by decide +kernel
theorem dX1_merryOf_29 : decode cX1_merryOf 29 = .ok (.iadd, 1) := by decide +kernel
theorem dX1_merryOf_30 : decode cX1_merryOf 30 = .ok (.goto 4, 3) := by decide +kernel
theorem dX1_merryOf_33 : decode cX1_merryOf 33 = .ok (.iconst 0, 1) := by decide +kernel
theorem dX1_merryOf_34 : decode cX1_merryOf 34 = .ok (.iaload, 1) := by decide +kernel
theorem dX1_merryOf_35 : decode cX1_merryOf 35 = .ok (.invokevirtual 110, 3) := by decide +kernel
theorem dX1_merryOf_38 : decode cX1_merryOf 38 = .ok (.iadd, 1) := by decide +kernel
theorem dX1_merryOf_39 : decode cX1_merryOf 39 = .ok (.istore_n 3, 1) := by decide +kernel
theorem dX1_merryOf_40 : decode cX1_merryOf 40 = .ok (.iinc 4 1, 3) := by decide +kernel
theorem dX1_merryOf_43 : decode cX1_merryOf 43 = .ok (.goto (-38), 3) := by decide +kernel
theorem dX1_merryOf_46 : decode cX1_merryOf 46 = .ok (.iconst 0, 1) := by decide +kernel
theorem dX1_merryOf_47 : decode cX1_merryOf 47 = .ok (.istore 4, 2) := by decide +kernel
theorem dX1_merryOf_49 : decode cX1_merryOf 49 = .ok (.iload 4, 2) := by decide +kernel
theorem dX1_merryOf_51 : decode cX1_merryOf 51 = .ok (.iload_n 2, 1) := by decide +kernel
theorem dX1_merryOf_52 : decode cX1_merryOf 52 = .ok (.if_icmp .ge 13, 3) := by decide +kernel
theorem dX1_merryOf_55 : decode cX1_merryOf 55 = .ok (.aload_n 0, 1) := by decide +kernel
theorem dX1_merryOf_56 : decode cX1_merryOf 56 = .ok (.invokevirtual 113, 3) := by decide +kernel
theorem dX1_merryOf_59 : decode cX1_merryOf 59 = .ok (.iinc 4 1, 3) := by decide +kernel
theorem dX1_merryOf_62 : decode cX1_merryOf 62 = .ok (.goto (-13), 3) := by decide +kernel
theorem dX1_merryOf_65 : decode cX1_merryOf 65 = .ok (.iload_n 3, 1) := by decide +kernel
theorem dX1_merryOf_66 : decode cX1_merryOf 66 = .ok (.ireturn, 1) := by decide +kernel
abbrev nd_X1_merryOf_r10 : List Nat := [1, 2, 4, 5, 7, 8, 10, 11, 12, 13, 16, 17, 18, 19, 20, 21, 38, 39, 40, 41, 42, 43]
abbrev ld_X1_merryOf_r10 : List (Nat × Nat) := [(1, 0), (1, 1), (1, 2), (1, 3), (1, 4), (1, 5), (2, 1), (2, 2), (7, 0), (11, 0), (11, 1), (16, 0), (16, 1), (16, 2), (38, 0), (38, 1), (38, 2), (38, 3), (38, 4), (38, 5)]
theorem sn_X1_merryOf_r10_X1_untell : ∀ c ∈ nd_X1_untell, c ∈ nd_X1_merryOf_r10 := by decide
theorem sl_X1_merryOf_r10_X1_untell : ∀ q ∈ ld_X1_untell, q ∈ ld_X1_merryOf_r10 := by decide
theorem sn_X1_merryOf_r10_X1_tellBetween : ∀ c ∈ nd_X1_tellBetween, c ∈ nd_X1_merryOf_r10 := by decide
theorem sl_X1_merryOf_r10_X1_tellBetween : ∀ q ∈ ld_X1_tellBetween, q ∈ ld_X1_merryOf_r10 := by decide
def f_X1_merryOf_r10_49  : Nat → Int32 → Int32 → Int32 → zH → zR
  | 0 => fun _ _ _ _ => none
  | n + 1 => fun x2 x3 x4 h => (if x2 ≤ x4 then (some (x3, h)) else (zbd (f_X1_untell  h) fun r1 h2 => (zlt (x4 + (1 : Int32)) fun y3 => (f_X1_merryOf_r10_49  n x2 x3 y3 h2))))
def f_X1_merryOf_r10_34 (k5 : Int32 → Int32 → Int32 → zH → zR) (x2 : Int32) (x4 : Int32) (s0 : Int32) (s2 : Int32) (s4 : Int32) (h : zH) : zR := (zck s0 8 (zbd (f_X1_tellBetween s2 (h 10 (Int32.toNatClampNeg s0)) h) fun r4 h5 => (zlt (s4 + r4) fun y6 => (zlt (x4 + (1 : Int32)) fun y7 => (k5 x2 y6 y7 h5)))))
def f_X1_merryOf_r10_5  : Nat → Int32 → Int32 → Int32 → zH → zR
  | 0 => fun _ _ _ _ => none
  | n + 1 => fun x2 x3 x4 h => (if x2 ≤ x4 then (f_X1_merryOf_r10_49  zN x2 x3 (0 : Int32) h) else (zck x4 8 (if x2 ≤ (x4 + (1 : Int32)) then (f_X1_merryOf_r10_34 (f_X1_merryOf_r10_5  n) x2 x4 (0 : Int32) (h 10 (Int32.toNatClampNeg x4)) x3 h) else (f_X1_merryOf_r10_34 (f_X1_merryOf_r10_5  n) x2 x4 (x4 + (1 : Int32)) (h 10 (Int32.toNatClampNeg x4)) x3 h))))
def f_X1_merryOf_r10  (x2 : Int32) (h : zH) : zR := (f_X1_merryOf_r10_5  zN x2 (0 : Int32) (0 : Int32) h)
variable {p : Program} {l : Launch} {e : Env} {s : State} {m : MethodId} {args : Array Value} {below : List Frame} {meth : Method} {c : Code} {G : zG} {q : Int32 × zH}
set_option maxHeartbeats 4000000 in
set_option maxRecDepth 100000 in
theorem w_X1_merryOf_r10_49  (C : zC G p s m args meth c cX1_merryOf 5 RX1 (some .int)) (hm : ∀ c ∈ nd_X1_merryOf_r10, c ∈ znm G) (hk : ∀ q ∈ ld_X1_merryOf_r10, zlk G q.1 q.2 = true)  : ∀ n, ∀ (ls : Array Slot) (H : Heap) (locs : List Loc) (h : zH) (x2 : Int32) (x3 : Int32) (x4 : Int32), lv_has ls 5 [(0, .ref (zal G 38)), (2, .int x2), (3, .int x3), (4, .int x4)] → zS G h s.heap H locs → f_X1_merryOf_r10_49  n x2 x3 x4 h = some q → W p l e (zrm (7)) s m args below meth c H locs 0 0 (MQ below (zQI G q.2 q.1) args s 0 0 (zA G)) (F0 m 49 ls []) := by
  intro n
  induction n with
  | zero => intro ls H locs h x2 x3 x4 hl hS hf; cases hf
  | succ n ih =>
    intro ls H locs h x2 x3 x4 hl hS hf
    rw [f_X1_merryOf_r10_49] at hf
    refine lv_iload C.1 C.2.1 dX1_merryOf_49 (lv_at hl 3 rfl) ?_
    refine lv_iload_n C.1 C.2.1 dX1_merryOf_51 rfl (lv_at hl 1 rfl) ?_
    refine lv_icmp_ge (tgt := 65) C.1 C.2.1 dX1_merryOf_52 (by decide) (fun hc => ?_) (fun hc => ?_)
    · have hf := zif_t hc hf
      refine lv_iload_n C.1 C.2.1 dX1_merryOf_65 rfl (lv_at hl 2 rfl) ?_
      exact zretI C hS hf dX1_merryOf_66
    · have hf := zif_f hc hf
      refine lv_aload_n C.1 C.2.1 dX1_merryOf_55 rfl (lv_at hl 0 rfl) ?_
      obtain ⟨r1, h2, er1, hf⟩ := zbd_some hf
      refine zcallVV (As := []) (rest := []) C hS mv_X1_113 (c_X1_untell l G h  (r1, h2) (fun c h => hm c (sn_X1_merryOf_r10_X1_untell c h)) (fun q h => hk q (sl_X1_merryOf_r10_X1_untell q h)) er1) (hm 38 (by decide)) ⟨_, _, _, sh_38, rfl, rfl⟩ rfl rfl (Nat.le_of_ble_eq_true rfl) hl.1 ⟨Nat.le_of_ble_eq_true rfl, Nat.le_of_ble_eq_true rfl, Nat.le_of_ble_eq_true rfl, Nat.le_of_ble_eq_true rfl⟩ dX1_merryOf_56 (fun H locs hS => ?_)
      obtain ⟨y3, ey3, hf⟩ := zlt_some hf
      refine lv_iinc (v := y3) (lv' := [(4, .int y3), (0, .ref (zal G 38)), (2, .int x2), (3, .int x3)]) C.1 C.2.1 dX1_merryOf_59 hl (k := 3) rfl ey3.symm (by decide) rfl (fun ls hl => ?_)
      refine lv_goto (tgt := 49) C.1 C.2.1 dX1_merryOf_62 (by decide) ?_
      exact ih _ _ _ _ _ _ _ (lv_sub hl [1, 2, 3, 0] rfl) hS hf
set_option maxHeartbeats 4000000 in
set_option maxRecDepth 100000 in
theorem w_X1_merryOf_r10_34 {k5 : Int32 → Int32 → Int32 → zH → zR} (C : zC G p s m args meth c cX1_merryOf 5 RX1 (some .int)) (hm : ∀ c ∈ nd_X1_merryOf_r10, c ∈ znm G) (hk : ∀ q ∈ ld_X1_merryOf_r10, zlk G q.1 q.2 = true) (hk5 : ∀ (ls : Array Slot) (H : Heap) (locs : List Loc) (h : zH) (x2 : Int32) (x3 : Int32) (x4 : Int32), lv_has ls 5 [(0, .ref (zal G 38)), (1, .ref (zal G 10)), (2, .int x2), (3, .int x3), (4, .int x4)] → zS G h s.heap H locs → k5 x2 x3 x4 h = some q → W p l e (zrm (7)) s m args below meth c H locs 0 0 (MQ below (zQI G q.2 q.1) args s 0 0 (zA G)) (F0 m 5 ls [])) : ∀ (ls : Array Slot) (H : Heap) (locs : List Loc) (h : zH) (x2 : Int32) (x4 : Int32) (s0 : Int32) (s2 : Int32) (s4 : Int32), lv_has ls 5 [(0, .ref (zal G 38)), (1, .ref (zal G 10)), (2, .int x2), (4, .int x4)] → zS G h s.heap H locs → f_X1_merryOf_r10_34 k5 x2 x4 s0 s2 s4 h = some q → W p l e (zrm (7)) s m args below meth c H locs 0 0 (MQ below (zQI G q.2 q.1) args s 0 0 (zA G)) (F0 m 34 ls [.int s0, .ref (zal G 10), .int s2, .ref (zal G 38), .int s4]) := by
  intro ls H locs h x2 x4 s0 s2 s4 hl hS hf
  unfold f_X1_merryOf_r10_34 at hf
  obtain ⟨hi, hf⟩ := zck_some hf
  refine zald C hS sh_10 (hm 10 (by decide)) hi dX1_merryOf_34 ?_
  obtain ⟨r4, h5, er4, hf⟩ := zbd_some hf
  refine zcallVI (As := [.int s2, .int (h 10 (Int32.toNatClampNeg s0))]) (rest := [.int s4]) C hS mv_X1_110 (c_X1_tellBetween l G h s2 (h 10 (Int32.toNatClampNeg s0)) (r4, h5) (fun c h => hm c (sn_X1_merryOf_r10_X1_tellBetween c h)) (fun q h => hk q (sl_X1_merryOf_r10_X1_tellBetween q h)) er4) (hm 38 (by decide)) ⟨_, _, _, sh_38, rfl, rfl⟩ rfl rfl (Nat.le_of_ble_eq_true rfl) hl.1 ⟨Nat.le_of_ble_eq_true rfl, Nat.le_of_ble_eq_true rfl, Nat.le_of_ble_eq_true rfl, Nat.le_of_ble_eq_true rfl⟩ dX1_merryOf_35 (fun H locs hS => ?_)
  refine lv_iadd C.1 C.2.1 dX1_merryOf_38 ?_
  obtain ⟨y6, ey6, hf⟩ := zlt_some hf
  refine ztop ey6 ?_
  refine lv_istore_n (lv' := [(3, .int y6), (0, .ref (zal G 38)), (1, .ref (zal G 10)), (2, .int x2), (4, .int x4)]) C.1 C.2.1 dX1_merryOf_39 rfl hl (by decide) rfl (fun ls hl => ?_)
  obtain ⟨y7, ey7, hf⟩ := zlt_some hf
  refine lv_iinc (v := y7) (lv' := [(4, .int y7), (3, .int y6), (0, .ref (zal G 38)), (1, .ref (zal G 10)), (2, .int x2)]) C.1 C.2.1 dX1_merryOf_40 hl (k := 4) rfl ey7.symm (by decide) rfl (fun ls hl => ?_)
  refine lv_goto (tgt := 5) C.1 C.2.1 dX1_merryOf_43 (by decide) ?_
  exact hk5 _ _ _ _ _ _ _ (lv_sub hl [2, 3, 4, 1, 0] rfl) hS hf
set_option maxHeartbeats 4000000 in
set_option maxRecDepth 100000 in
theorem w_X1_merryOf_r10_5  (C : zC G p s m args meth c cX1_merryOf 5 RX1 (some .int)) (hm : ∀ c ∈ nd_X1_merryOf_r10, c ∈ znm G) (hk : ∀ q ∈ ld_X1_merryOf_r10, zlk G q.1 q.2 = true)  : ∀ n, ∀ (ls : Array Slot) (H : Heap) (locs : List Loc) (h : zH) (x2 : Int32) (x3 : Int32) (x4 : Int32), lv_has ls 5 [(0, .ref (zal G 38)), (1, .ref (zal G 10)), (2, .int x2), (3, .int x3), (4, .int x4)] → zS G h s.heap H locs → f_X1_merryOf_r10_5  n x2 x3 x4 h = some q → W p l e (zrm (7)) s m args below meth c H locs 0 0 (MQ below (zQI G q.2 q.1) args s 0 0 (zA G)) (F0 m 5 ls []) := by
  intro n
  induction n with
  | zero => intro ls H locs h x2 x3 x4 hl hS hf; cases hf
  | succ n ih =>
    intro ls H locs h x2 x3 x4 hl hS hf
    rw [f_X1_merryOf_r10_5] at hf
    refine lv_iload C.1 C.2.1 dX1_merryOf_5 (lv_at hl 4 rfl) ?_
    refine lv_iload_n C.1 C.2.1 dX1_merryOf_7 rfl (lv_at hl 2 rfl) ?_
    refine lv_icmp_ge (tgt := 46) C.1 C.2.1 dX1_merryOf_8 (by decide) (fun hc => ?_) (fun hc => ?_)
    · have hf := zif_t hc hf
      refine lv_iconst (v := (0 : Int32)) C.1 C.2.1 dX1_merryOf_46 rfl ?_
      refine lv_istore (lv' := [(4, .int (0 : Int32)), (0, .ref (zal G 38)), (1, .ref (zal G 10)), (2, .int x2), (3, .int x3)]) C.1 C.2.1 dX1_merryOf_47 hl (by decide) rfl (fun ls hl => ?_)
      exact w_X1_merryOf_r10_49 C hm hk  zN _ _ _ _ _ _ _ (lv_sub hl [1, 3, 4, 0] rfl) hS hf
    · have hf := zif_f hc hf
      refine lv_iload_n C.1 C.2.1 dX1_merryOf_11 rfl (lv_at hl 3 rfl) ?_
      refine lv_aload_n C.1 C.2.1 dX1_merryOf_12 rfl (lv_at hl 0 rfl) ?_
      refine lv_aload_n C.1 C.2.1 dX1_merryOf_13 rfl (lv_at hl 1 rfl) ?_
      refine lv_iload C.1 C.2.1 dX1_merryOf_14 (lv_at hl 4 rfl) ?_
      obtain ⟨hi, hf⟩ := zck_some hf
      refine zald C hS sh_10 (hm 10 (by decide)) hi dX1_merryOf_16 ?_
      refine lv_aload_n C.1 C.2.1 dX1_merryOf_17 rfl (lv_at hl 1 rfl) ?_
      refine lv_iload C.1 C.2.1 dX1_merryOf_18 (lv_at hl 4 rfl) ?_
      refine lv_iconst (v := (1 : Int32)) C.1 C.2.1 dX1_merryOf_20 rfl ?_
      refine lv_iadd C.1 C.2.1 dX1_merryOf_21 ?_
      refine lv_iload_n C.1 C.2.1 dX1_merryOf_22 rfl (lv_at hl 2 rfl) ?_
      refine lv_icmp_ge (tgt := 33) C.1 C.2.1 dX1_merryOf_23 (by decide) (fun hc => ?_) (fun hc => ?_)
      · have hf := zif_t hc hf
        refine lv_iconst (v := (0 : Int32)) C.1 C.2.1 dX1_merryOf_33 rfl ?_
        exact w_X1_merryOf_r10_34 C hm hk ih _ _ _ _ _ _ _ _ _ (lv_sub hl [0, 1, 2, 4] rfl) hS hf
      · have hf := zif_f hc hf
        refine lv_iload C.1 C.2.1 dX1_merryOf_26 (lv_at hl 4 rfl) ?_
        refine lv_iconst (v := (1 : Int32)) C.1 C.2.1 dX1_merryOf_28 rfl ?_
        refine lv_iadd C.1 C.2.1 dX1_merryOf_29 ?_
        refine lv_goto (tgt := 34) C.1 C.2.1 dX1_merryOf_30 (by decide) ?_
        exact w_X1_merryOf_r10_34 C hm hk ih _ _ _ _ _ _ _ _ _ (lv_sub hl [0, 1, 2, 4] rfl) hS hf
set_option maxHeartbeats 4000000 in
set_option maxRecDepth 100000 in
theorem c_X1_merryOf_r10 (l : Launch) (G : zG) (h : zH) (x2 : Int32) (q : Int32 × zH) (hm : ∀ c ∈ nd_X1_merryOf_r10, c ∈ znm G) (hk : ∀ q ∈ ld_X1_merryOf_r10, zlk G q.1 q.2 = true) (hf : f_X1_merryOf_r10 x2 h = some q) : zCtI l yX1_merryOf cX1_merryOf 5 (some .int) (7) [.ref (zal G 38), .ref (zal G 10), .int x2] G h q.2 q.1 := by
  refine zMetI (by decide) (Nat.le_of_ble_eq_true rfl) ?_
  intro p e s m below meth c ls C hl hS
  have hl : lv_has ls 5 [(0, .ref (zal G 38)), (1, .ref (zal G 10)), (2, .int x2)] := hl
  have C : zC G p s m [.ref (zal G 38), .ref (zal G 10), .int x2].toArray meth c cX1_merryOf 5 RX1 (some .int) := C
  unfold f_X1_merryOf_r10 at hf
  refine lv_iconst (v := (0 : Int32)) C.1 C.2.1 dX1_merryOf_0 rfl ?_
  refine lv_istore_n (lv' := [(3, .int (0 : Int32)), (0, .ref (zal G 38)), (1, .ref (zal G 10)), (2, .int x2)]) C.1 C.2.1 dX1_merryOf_1 rfl hl (by decide) rfl (fun ls hl => ?_)
  refine lv_iconst (v := (0 : Int32)) C.1 C.2.1 dX1_merryOf_2 rfl ?_
  refine lv_istore (lv' := [(4, .int (0 : Int32)), (3, .int (0 : Int32)), (0, .ref (zal G 38)), (1, .ref (zal G 10)), (2, .int x2)]) C.1 C.2.1 dX1_merryOf_3 hl (by decide) rfl (fun ls hl => ?_)
  exact w_X1_merryOf_r10_5 C hm hk  zN _ _ _ _ _ _ _ (lv_sub hl [2, 3, 4, 1, 0] rfl) hS hf
end
section
theorem dX11_merry_0 : decode cX11_merry 0 = .ok (.aload_n 0, 1) := by decide +kernel
theorem dX11_merry_1 : decode cX11_merry 1 = .ok (.getfield 35, 3) := by decide +kernel
theorem dX11_merry_4 : decode cX11_merry 4 = .ok (.invokevirtual 197, 3) := by decide +kernel
theorem dX11_merry_7 : decode cX11_merry 7 = .ok (.aload_n 0, 1) := by decide +kernel
theorem dX11_merry_8 : decode cX11_merry 8 = .ok (.getfield 35, 3) := by decide +kernel
theorem dX11_merry_11 : decode cX11_merry 11 = .ok (.aload_n 0, 1) := by decide +kernel
theorem dX11_merry_12 : decode cX11_merry 12 = .ok (.getfield 12, 3) := by decide +kernel
theorem dX11_merry_15 : decode cX11_merry 15 = .ok (.getfield 90, 3) := by decide +kernel
theorem dX11_merry_18 : decode cX11_merry 18 = .ok (.getfield 200, 3) := by decide +kernel
theorem dX11_merry_21 : decode cX11_merry 21 = .ok (.aload_n 0, 1) := by decide +kernel
theorem dX11_merry_22 : decode cX11_merry 22 = .ok (.getfield 12, 3) := by decide +kernel
theorem dX11_merry_25 : decode cX11_merry 25 = .ok (.getfield 90, 3) := by decide +kernel
theorem dX11_merry_28 : decode cX11_merry 28 = .ok (.getfield 194, 3) := by decide +kernel
theorem dX11_merry_31 : decode cX11_merry 31 = .ok (.invokevirtual 228, 3) := by decide +kernel
theorem dX11_merry_34 : decode cX11_merry 34 = .ok (.ireturn, 1) := by decide +kernel
abbrev nd_X11_merry : List Nat := [0, 1, 2, 3, 4, 5, 6, 7, 8, 10, 11, 12, 13, 16, 17, 18, 19, 20, 21, 38, 39, 40, 41, 42, 43]
abbrev ld_X11_merry : List (Nat × Nat) := [(0, 0), (0, 3), (1, 0), (1, 1), (1, 2), (1, 3), (1, 4), (1, 5), (2, 0), (2, 1), (2, 2), (2, 3), (7, 0), (7, 2), (11, 0), (11, 1), (16, 0), (16, 1), (16, 2), (38, 0), (38, 1), (38, 2), (38, 3), (38, 4), (38, 5)]
theorem sn_X11_merry_X1_begin : ∀ c ∈ nd_X1_begin, c ∈ nd_X11_merry := by decide
theorem sl_X11_merry_X1_begin : ∀ q ∈ ld_X1_begin, q ∈ ld_X11_merry := by decide
theorem sn_X11_merry_X1_merryOf_r10 : ∀ c ∈ nd_X1_merryOf_r10, c ∈ nd_X11_merry := by decide
theorem sl_X11_merry_X1_merryOf_r10 : ∀ q ∈ ld_X1_merryOf_r10, q ∈ ld_X11_merry := by decide
def f_X11_merry  (h : zH) : zR := (zbd (f_X1_begin  h) fun r1 h2 => (zbd (f_X1_merryOf_r10 (h2 7 3) h2) fun r3 h4 => (some (r3, h4))))
variable {p : Program} {l : Launch} {e : Env} {s : State} {m : MethodId} {args : Array Value} {below : List Frame} {meth : Method} {c : Code} {G : zG} {q : Int32 × zH}
set_option maxHeartbeats 4000000 in
set_option maxRecDepth 100000 in
theorem c_X11_merry (l : Launch) (G : zG) (h : zH) (q : Int32 × zH) (hm : ∀ c ∈ nd_X11_merry, c ∈ znm G) (hk : ∀ q ∈ ld_X11_merry, zlk G q.1 q.2 = true) (hf : f_X11_merry h = some q) : zCtI l yX11_merry cX11_merry 1 (some .int) (8) [.ref (zal G 0)] G h q.2 q.1 := by
  refine zMetI (by decide) (Nat.le_of_ble_eq_true rfl) ?_
  intro p e s m below meth c ls C hl hS
  have hl : lv_has ls 1 [(0, .ref (zal G 0))] := hl
  have C : zC G p s m [.ref (zal G 0)].toArray meth c cX11_merry 1 RX11 (some .int) := C
  unfold f_X11_merry at hf
  refine lv_aload_n C.1 C.2.1 dX11_merry_0 rfl (lv_at hl 0 rfl) ?_
  refine zgetR C hS ff_X11_35_0 (hm 0 (by decide)) (hk (0, 3) (by decide)) dX11_merry_1 ?_
  obtain ⟨r1, h2, er1, hf⟩ := zbd_some hf
  refine zcallVV (As := []) (rest := []) C hS mv_X11_197 (c_X1_begin l G h  (r1, h2) (fun c h => hm c (sn_X11_merry_X1_begin c h)) (fun q h => hk q (sl_X11_merry_X1_begin q h)) er1) (hm 38 (by decide)) ⟨_, _, _, sh_38, rfl, rfl⟩ rfl rfl (Nat.le_of_ble_eq_true rfl) hl.1 ⟨Nat.le_of_ble_eq_true rfl, Nat.le_of_ble_eq_true rfl, Nat.le_of_ble_eq_true rfl, Nat.le_of_ble_eq_true rfl⟩ dX11_merry_4 (fun H locs hS => ?_)
  refine lv_aload_n C.1 C.2.1 dX11_merry_7 rfl (lv_at hl 0 rfl) ?_
  refine zgetR C hS ff_X11_35_0 (hm 0 (by decide)) (hk (0, 3) (by decide)) dX11_merry_8 ?_
  refine lv_aload_n C.1 C.2.1 dX11_merry_11 rfl (lv_at hl 0 rfl) ?_
  refine zgetR C hS ff_X11_12_0 (hm 0 (by decide)) (hk (0, 0) (by decide)) dX11_merry_12 ?_
  refine zgetR C hS ff_X11_90_1 (hm 1 (by decide)) (hk (1, 1) (by decide)) dX11_merry_15 ?_
  refine zgetR C hS ff_X11_200_7 (hm 7 (by decide)) (hk (7, 2) (by decide)) dX11_merry_18 ?_
  refine lv_aload_n C.1 C.2.1 dX11_merry_21 rfl (lv_at hl 0 rfl) ?_
  refine zgetR C hS ff_X11_12_0 (hm 0 (by decide)) (hk (0, 0) (by decide)) dX11_merry_22 ?_
  refine zgetR C hS ff_X11_90_1 (hm 1 (by decide)) (hk (1, 1) (by decide)) dX11_merry_25 ?_
  refine zgetI C hS ff_X11_194_7 (hm 7 (by decide)) dX11_merry_28 ?_
  obtain ⟨r3, h4, er3, hf⟩ := zbd_some hf
  refine zcallVI (As := [.ref (zal G 10), .int (h2 7 3)]) (rest := []) C hS mv_X11_228 (c_X1_merryOf_r10 l G h2 (h2 7 3) (r3, h4) (fun c h => hm c (sn_X11_merry_X1_merryOf_r10 c h)) (fun q h => hk q (sl_X11_merry_X1_merryOf_r10 q h)) er3) (hm 38 (by decide)) ⟨_, _, _, sh_38, rfl, rfl⟩ rfl rfl (Nat.le_of_ble_eq_true rfl) hl.1 ⟨Nat.le_of_ble_eq_true rfl, Nat.le_of_ble_eq_true rfl, Nat.le_of_ble_eq_true rfl, Nat.le_of_ble_eq_true rfl⟩ dX11_merry_31 (fun H locs hS => ?_)
  exact zretI C hS hf dX11_merry_34
end
section
theorem dX11_silent_0 : decode cX11_silent 0 = .ok (.iload_n 1, 1) := by decide +kernel
theorem dX11_silent_1 : decode cX11_silent 1 = .ok (.bipush 6, 2) := by decide +kernel
theorem dX11_silent_3 : decode cX11_silent 3 = .ok (.invokestatic 50, 3) := by decide +kernel
theorem dX11_silent_6 : decode cX11_silent 6 = .ok (.ifCond .ne 5, 3) := by decide +kernel
theorem dX11_silent_9 : decode cX11_silent 9 = .ok (.iconst (-1), 1) := by decide +kernel
theorem dX11_silent_10 : decode cX11_silent 10 = .ok (.ireturn, 1) := by decide +kernel
theorem dX11_silent_11 : decode cX11_silent 11 = .ok (.aload_n 0, 1) := by decide +kernel
theorem dX11_silent_12 : decode cX11_silent 12 = .ok (.getfield 35, 3) := by decide +kernel
theorem dX11_silent_15 : decode cX11_silent 15 = .ok (.invokevirtual 197, 3) := by decide +kernel
theorem dX11_silent_18 : decode cX11_silent 18 = .ok (.iconst 0, 1) := by decide +kernel
theorem dX11_silent_19 : decode cX11_silent 19 = .ok (.istore_n 2, 1) := by decide +kernel
theorem dX11_silent_20 : decode cX11_silent 20 = .ok (.iconst 0, 1) := by decide +kernel
theorem dX11_silent_21 : decode cX11_silent 21 = .ok (.istore_n 3, 1) := by decide +kernel
theorem dX11_silent_22 : decode cX11_silent 22 = .ok (.iload_n 3, 1) := by decide +kernel
theorem dX11_silent_23 : decode cX11_silent 23 = .ok (.bipush 6, 2) := by decide +kernel
theorem dX11_silent_25 : decode cX11_silent 25 = .ok (.if_icmp .ge 32, 3) := by decide +kernel
theorem dX11_silent_28 : decode cX11_silent 28 = .ok (.iload_n 3, 1) := by decide +kernel
theorem dX11_silent_29 : decode cX11_silent 29 = .ok (.iload_n 1, 1) := by decide +kernel
theorem dX11_silent_30 : decode cX11_silent 30 = .ok (.if_icmp .eq 21, 3) := by decide +kernel
theorem dX11_silent_33 : decode cX11_silent 33 = .ok (.aload_n 0, 1) := by decide +kernel
theorem dX11_silent_34 : decode cX11_silent 34 = .ok (.getfield 35, 3) := by decide +kernel
theorem dX11_silent_37 : decode cX11_silent 37 = .ok (.iload_n 1, 1) := by decide +kernel
theorem dX11_silent_38 : decode cX11_silent 38 = .ok (.iload_n 3, 1) := by decide +kernel
theorem dX11_silent_39 : decode cX11_silent 39 = .ok (.invokevirtual 273, 3) := by decide +kernel
theorem dX11_silent_42 : decode cX11_silent 42 = .ok (.ifCond .ne 9, 3) := by decide +kernel
theorem dX11_silent_45 : decode cX11_silent 45 = .ok (.iload_n 2, 1) := by decide +kernel
theorem dX11_silent_46 : decode cX11_silent 46 = .ok (.iconst 1, 1) := by decide +kernel
theorem dX11_silent_47 : decode cX11_silent 47 = .ok (.iload_n 3, 1) := by decide +kernel
theorem dX11_silent_48 : decode cX11_silent 48 = .ok (.ishl, 1) := by decide +kernel
theorem dX11_silent_49 : decode cX11_silent 49 = .ok (.ior, 1) := by decide +kernel
theorem dX11_silent_50 : decode cX11_silent 50 = .ok (.istore_n 2, 1) := by decide +kernel
theorem dX11_silent_51 : decode cX11_silent 51 = .ok (.iinc 3 1, 3) := by decide +kernel
theorem dX11_silent_54 : decode cX11_silent 54 = .ok (.goto (-32), 3) := by decide +kernel
theorem dX11_silent_57 : decode cX11_silent 57 = .ok (.iload_n 2, 1) := by decide +kernel
theorem dX11_silent_58 : decode cX11_silent 58 = .ok (.ireturn, 1) := by decide +kernel
abbrev nd_X11_silent : List Nat := [0, 1, 2, 3, 4, 5, 6, 11, 12, 13, 16, 17, 18, 19, 20, 21, 38, 39, 40, 41]
abbrev ld_X11_silent : List (Nat × Nat) := [(0, 3), (1, 0), (1, 2), (1, 3), (1, 4), (1, 5), (2, 0), (2, 1), (2, 2), (2, 3), (11, 0), (11, 1), (16, 0), (16, 1), (16, 2), (38, 0), (38, 1), (38, 2), (38, 3)]
theorem sn_X11_silent_X11_isBelow : ∀ c ∈ nd_X11_isBelow, c ∈ nd_X11_silent := by decide
theorem sl_X11_silent_X11_isBelow : ∀ q ∈ ld_X11_isBelow, q ∈ ld_X11_silent := by decide
theorem sn_X11_silent_X1_begin : ∀ c ∈ nd_X1_begin, c ∈ nd_X11_silent := by decide
theorem sl_X11_silent_X1_begin : ∀ q ∈ ld_X1_begin, q ∈ ld_X11_silent := by decide
theorem sn_X11_silent_X1_findOf : ∀ c ∈ nd_X1_findOf, c ∈ nd_X11_silent := by decide
theorem sl_X11_silent_X1_findOf : ∀ q ∈ ld_X1_findOf, q ∈ ld_X11_silent := by decide
def f_X11_silent_51 (k22 : Int32 → Int32 → Int32 → zH → zR) (x1 : Int32) (x2 : Int32) (x3 : Int32) (h : zH) : zR := (zlt (x3 + (1 : Int32)) fun y5 => (k22 x1 x2 y5 h))
def f_X11_silent_22  : Nat → Int32 → Int32 → Int32 → zH → zR
  | 0 => fun _ _ _ _ => none
  | n + 1 => fun x1 x2 x3 h => (if (6 : Int32) ≤ x3 then (some (x2, h)) else (if x3 = x1 then (f_X11_silent_51 (f_X11_silent_22  n) x1 x2 x3 h) else (zbd (f_X1_findOf x1 x3 h) fun r6 h7 => (if r6 = 0 then (zlt (x2 ||| ((1 : Int32) <<< (x3 &&& 31))) fun y8 => (f_X11_silent_51 (f_X11_silent_22  n) x1 y8 x3 h7)) else (f_X11_silent_51 (f_X11_silent_22  n) x1 x2 x3 h7)))))
def f_X11_silent  (x1 : Int32) (h : zH) : zR := (zbd (f_X11_isBelow x1 (6 : Int32) h) fun r1 h2 => (if r1 = 0 then (some ((-1 : Int32), h2)) else (zbd (f_X1_begin  h2) fun r3 h4 => (f_X11_silent_22  zN x1 (0 : Int32) (0 : Int32) h4))))
variable {p : Program} {l : Launch} {e : Env} {s : State} {m : MethodId} {args : Array Value} {below : List Frame} {meth : Method} {c : Code} {G : zG} {q : Int32 × zH}
set_option maxHeartbeats 4000000 in
set_option maxRecDepth 100000 in
theorem w_X11_silent_51 {k22 : Int32 → Int32 → Int32 → zH → zR} (C : zC G p s m args meth c cX11_silent 4 RX11 (some .int)) (hm : ∀ c ∈ nd_X11_silent, c ∈ znm G) (hk : ∀ q ∈ ld_X11_silent, zlk G q.1 q.2 = true) (hk22 : ∀ (ls : Array Slot) (H : Heap) (locs : List Loc) (h : zH) (x1 : Int32) (x2 : Int32) (x3 : Int32), lv_has ls 4 [(0, .ref (zal G 0)), (1, .int x1), (2, .int x2), (3, .int x3)] → zS G h s.heap H locs → k22 x1 x2 x3 h = some q → W p l e (zrm (6)) s m args below meth c H locs 0 0 (MQ below (zQI G q.2 q.1) args s 0 0 (zA G)) (F0 m 22 ls [])) : ∀ (ls : Array Slot) (H : Heap) (locs : List Loc) (h : zH) (x1 : Int32) (x2 : Int32) (x3 : Int32), lv_has ls 4 [(0, .ref (zal G 0)), (1, .int x1), (2, .int x2), (3, .int x3)] → zS G h s.heap H locs → f_X11_silent_51 k22 x1 x2 x3 h = some q → W p l e (zrm (6)) s m args below meth c H locs 0 0 (MQ below (zQI G q.2 q.1) args s 0 0 (zA G)) (F0 m 51 ls []) := by
  intro ls H locs h x1 x2 x3 hl hS hf
  unfold f_X11_silent_51 at hf
  obtain ⟨y5, ey5, hf⟩ := zlt_some hf
  refine lv_iinc (v := y5) (lv' := [(3, .int y5), (0, .ref (zal G 0)), (1, .int x1), (2, .int x2)]) C.1 C.2.1 dX11_silent_51 hl (k := 3) rfl ey5.symm (by decide) rfl (fun ls hl => ?_)
  refine lv_goto (tgt := 22) C.1 C.2.1 dX11_silent_54 (by decide) ?_
  exact hk22 _ _ _ _ _ _ _ (lv_sub hl [1, 2, 3, 0] rfl) hS hf
set_option maxHeartbeats 4000000 in
set_option maxRecDepth 100000 in
theorem w_X11_silent_22  (C : zC G p s m args meth c cX11_silent 4 RX11 (some .int)) (hm : ∀ c ∈ nd_X11_silent, c ∈ znm G) (hk : ∀ q ∈ ld_X11_silent, zlk G q.1 q.2 = true)  : ∀ n, ∀ (ls : Array Slot) (H : Heap) (locs : List Loc) (h : zH) (x1 : Int32) (x2 : Int32) (x3 : Int32), lv_has ls 4 [(0, .ref (zal G 0)), (1, .int x1), (2, .int x2), (3, .int x3)] → zS G h s.heap H locs → f_X11_silent_22  n x1 x2 x3 h = some q → W p l e (zrm (6)) s m args below meth c H locs 0 0 (MQ below (zQI G q.2 q.1) args s 0 0 (zA G)) (F0 m 22 ls []) := by
  intro n
  induction n with
  | zero => intro ls H locs h x1 x2 x3 hl hS hf; cases hf
  | succ n ih =>
    intro ls H locs h x1 x2 x3 hl hS hf
    rw [f_X11_silent_22] at hf
    refine lv_iload_n C.1 C.2.1 dX11_silent_22 rfl (lv_at hl 3 rfl) ?_
    refine lv_bipush (v := (6 : Int32)) C.1 C.2.1 dX11_silent_23 rfl ?_
    refine lv_icmp_ge (tgt := 57) C.1 C.2.1 dX11_silent_25 (by decide) (fun hc => ?_) (fun hc => ?_)
    · have hf := zif_t hc hf
      refine lv_iload_n C.1 C.2.1 dX11_silent_57 rfl (lv_at hl 2 rfl) ?_
      exact zretI C hS hf dX11_silent_58
    · have hf := zif_f hc hf
      refine lv_iload_n C.1 C.2.1 dX11_silent_28 rfl (lv_at hl 3 rfl) ?_
      refine lv_iload_n C.1 C.2.1 dX11_silent_29 rfl (lv_at hl 1 rfl) ?_
      refine lv_icmp_eq (tgt := 51) C.1 C.2.1 dX11_silent_30 (by decide) (fun hc => ?_) (fun hc => ?_)
      · have hf := zif_t hc hf
        exact w_X11_silent_51 C hm hk ih _ _ _ _ _ _ _ (lv_sub hl [0, 1, 2, 3] rfl) hS hf
      · have hf := zif_f hc hf
        refine lv_aload_n C.1 C.2.1 dX11_silent_33 rfl (lv_at hl 0 rfl) ?_
        refine zgetR C hS ff_X11_35_0 (hm 0 (by decide)) (hk (0, 3) (by decide)) dX11_silent_34 ?_
        refine lv_iload_n C.1 C.2.1 dX11_silent_37 rfl (lv_at hl 1 rfl) ?_
        refine lv_iload_n C.1 C.2.1 dX11_silent_38 rfl (lv_at hl 3 rfl) ?_
        obtain ⟨r6, h7, er6, hf⟩ := zbd_some hf
        refine zcallVI (As := [.int x1, .int x3]) (rest := []) C hS mv_X11_273 (c_X1_findOf l G h x1 x3 (r6, h7) (fun c h => hm c (sn_X11_silent_X1_findOf c h)) (fun q h => hk q (sl_X11_silent_X1_findOf q h)) er6) (hm 38 (by decide)) ⟨_, _, _, sh_38, rfl, rfl⟩ rfl rfl (Nat.le_of_ble_eq_true rfl) hl.1 ⟨Nat.le_of_ble_eq_true rfl, Nat.le_of_ble_eq_true rfl, Nat.le_of_ble_eq_true rfl, Nat.le_of_ble_eq_true rfl⟩ dX11_silent_39 (fun H locs hS => ?_)
        refine lv_if_ne (tgt := 51) C.1 C.2.1 dX11_silent_42 (by decide) (fun hc => ?_) (fun hc => ?_)
        · have hf := zif_f hc hf
          exact w_X11_silent_51 C hm hk ih _ _ _ _ _ _ _ (lv_sub hl [0, 1, 2, 3] rfl) hS hf
        · have hf := zif_t hc hf
          refine lv_iload_n C.1 C.2.1 dX11_silent_45 rfl (lv_at hl 2 rfl) ?_
          refine lv_iconst (v := (1 : Int32)) C.1 C.2.1 dX11_silent_46 rfl ?_
          refine lv_iload_n C.1 C.2.1 dX11_silent_47 rfl (lv_at hl 3 rfl) ?_
          refine lv_ishl C.1 C.2.1 dX11_silent_48 ?_
          refine lv_ior C.1 C.2.1 dX11_silent_49 ?_
          obtain ⟨y8, ey8, hf⟩ := zlt_some hf
          refine ztop ey8 ?_
          refine lv_istore_n (lv' := [(2, .int y8), (0, .ref (zal G 0)), (1, .int x1), (3, .int x3)]) C.1 C.2.1 dX11_silent_50 rfl hl (by decide) rfl (fun ls hl => ?_)
          exact w_X11_silent_51 C hm hk ih _ _ _ _ _ _ _ (lv_sub hl [1, 2, 0, 3] rfl) hS hf
set_option maxHeartbeats 4000000 in
set_option maxRecDepth 100000 in
theorem c_X11_silent (l : Launch) (G : zG) (h : zH) (x1 : Int32) (q : Int32 × zH) (hm : ∀ c ∈ nd_X11_silent, c ∈ znm G) (hk : ∀ q ∈ ld_X11_silent, zlk G q.1 q.2 = true) (hf : f_X11_silent x1 h = some q) : zCtI l yX11_silent cX11_silent 4 (some .int) (6) [.ref (zal G 0), .int x1] G h q.2 q.1 := by
  refine zMetI (by decide) (Nat.le_of_ble_eq_true rfl) ?_
  intro p e s m below meth c ls C hl hS
  have hl : lv_has ls 4 [(0, .ref (zal G 0)), (1, .int x1)] := hl
  have C : zC G p s m [.ref (zal G 0), .int x1].toArray meth c cX11_silent 4 RX11 (some .int) := C
  unfold f_X11_silent at hf
  refine lv_iload_n C.1 C.2.1 dX11_silent_0 rfl (lv_at hl 1 rfl) ?_
  refine lv_bipush (v := (6 : Int32)) C.1 C.2.1 dX11_silent_1 rfl ?_
  obtain ⟨r1, h2, er1, hf⟩ := zbd_some hf
  refine zcallSI (As := [.int x1, .int (6 : Int32)]) (rest := []) C hS ms_X11_50 (c_X11_isBelow l G h x1 (6 : Int32) (r1, h2) (fun c h => hm c (sn_X11_silent_X11_isBelow c h)) (fun q h => hk q (sl_X11_silent_X11_isBelow q h)) er1) rfl rfl (Nat.le_of_ble_eq_true rfl) hl.1 ⟨Nat.le_of_ble_eq_true rfl, Nat.le_of_ble_eq_true rfl, Nat.le_of_ble_eq_true rfl, Nat.le_of_ble_eq_true rfl⟩ dX11_silent_3 (fun H locs hS => ?_)
  refine lv_if_ne (tgt := 11) C.1 C.2.1 dX11_silent_6 (by decide) (fun hc => ?_) (fun hc => ?_)
  · have hf := zif_f hc hf
    refine lv_aload_n C.1 C.2.1 dX11_silent_11 rfl (lv_at hl 0 rfl) ?_
    refine zgetR C hS ff_X11_35_0 (hm 0 (by decide)) (hk (0, 3) (by decide)) dX11_silent_12 ?_
    obtain ⟨r3, h4, er3, hf⟩ := zbd_some hf
    refine zcallVV (As := []) (rest := []) C hS mv_X11_197 (c_X1_begin l G h2  (r3, h4) (fun c h => hm c (sn_X11_silent_X1_begin c h)) (fun q h => hk q (sl_X11_silent_X1_begin q h)) er3) (hm 38 (by decide)) ⟨_, _, _, sh_38, rfl, rfl⟩ rfl rfl (Nat.le_of_ble_eq_true rfl) hl.1 ⟨Nat.le_of_ble_eq_true rfl, Nat.le_of_ble_eq_true rfl, Nat.le_of_ble_eq_true rfl, Nat.le_of_ble_eq_true rfl⟩ dX11_silent_15 (fun H locs hS => ?_)
    refine lv_iconst (v := (0 : Int32)) C.1 C.2.1 dX11_silent_18 rfl ?_
    refine lv_istore_n (lv' := [(2, .int (0 : Int32)), (0, .ref (zal G 0)), (1, .int x1)]) C.1 C.2.1 dX11_silent_19 rfl hl (by decide) rfl (fun ls hl => ?_)
    refine lv_iconst (v := (0 : Int32)) C.1 C.2.1 dX11_silent_20 rfl ?_
    refine lv_istore_n (lv' := [(3, .int (0 : Int32)), (2, .int (0 : Int32)), (0, .ref (zal G 0)), (1, .int x1)]) C.1 C.2.1 dX11_silent_21 rfl hl (by decide) rfl (fun ls hl => ?_)
    exact w_X11_silent_22 C hm hk  zN _ _ _ _ _ _ _ (lv_sub hl [2, 3, 1, 0] rfl) hS hf
  · have hf := zif_t hc hf
    refine lv_iconst (v := (-1 : Int32)) C.1 C.2.1 dX11_silent_9 rfl ?_
    exact zretI C hS hf dX11_silent_10
end
section
theorem dX6_keep_0 : decode cX6_keep 0 = .ok (.aload_n 0, 1) := by decide +kernel
theorem dX6_keep_1 : decode cX6_keep 1 = .ok (.aload_n 0, 1) := by decide +kernel
theorem dX6_keep_2 : decode cX6_keep 2 = .ok (.getfield 34, 3) := by decide +kernel
theorem dX6_keep_5 : decode cX6_keep 5 = .ok (.iconst 1, 1) := by decide +kernel
theorem dX6_keep_6 : decode cX6_keep 6 = .ok (.iadd, 1) := by decide +kernel
theorem dX6_keep_7 : decode cX6_keep 7 = .ok (.bipush 6, 2) := by decide +kernel
theorem dX6_keep_9 : decode cX6_keep 9 = .ok (.irem, 1) := by decide +kernel
theorem dX6_keep_10 : decode cX6_keep 10 = .ok (.putfield 34, 3) := by decide +kernel
theorem dX6_keep_13 : decode cX6_keep 13 = .ok (.aload_n 0, 1) := by decide +kernel
theorem dX6_keep_14 : decode cX6_keep 14 = .ok (.aload_n 0, 1) := by decide +kernel
theorem dX6_keep_15 : decode cX6_keep 15 = .ok (.getfield 30, 3) := by decide +kernel
theorem dX6_keep_18 : decode cX6_keep 18 = .ok (.iconst 1, 1) := by decide +kernel
theorem dX6_keep_19 : decode cX6_keep 19 = .ok (.iadd, 1) := by decide +kernel
theorem dX6_keep_20 : decode cX6_keep 20 = .ok (.bipush 6, 2) := by decide +kernel
theorem dX6_keep_22 : decode cX6_keep 22 = .ok (.invokestatic 37, 3) := by decide +kernel
theorem dX6_keep_25 : decode cX6_keep 25 = .ok (.putfield 30, 3) := by decide +kernel
theorem dX6_keep_28 : decode cX6_keep 28 = .ok (.aload_n 0, 1) := by decide +kernel
theorem dX6_keep_29 : decode cX6_keep 29 = .ok (.getfield 11, 3) := by decide +kernel
theorem dX6_keep_32 : decode cX6_keep 32 = .ok (.aload_n 0, 1) := by decide +kernel
theorem dX6_keep_33 : decode cX6_keep 33 = .ok (.getfield 34, 3) := by decide +kernel
theorem dX6_keep_36 : decode cX6_keep 36 = .ok (.iconst 0, 1) := by decide +kernel
theorem dX6_keep_37 : decode cX6_keep 37 = .ok (.iastore, 1) := by decide +kernel
theorem dX6_keep_38 : decode cX6_keep 38 = .ok (.aload_n 0, 1) := by decide +kernel
theorem dX6_keep_39 : decode cX6_keep 39 = .ok (.getfield 24, 3) := by decide +kernel
theorem dX6_keep_42 : decode cX6_keep 42 = .ok (.aload_n 0, 1) := by decide +kernel
theorem dX6_keep_43 : decode cX6_keep 43 = .ok (.getfield 34, 3) := by decide +kernel
theorem dX6_keep_46 : decode cX6_keep 46 = .ok (.aload_n 1, 1) := by decide +kernel
theorem dX6_keep_47 : decode cX6_keep 47 = .ok (.getfield 43, 3) := by decide +kernel
theorem dX6_keep_50 : decode cX6_keep 50 = .ok (.getfield 49, 3) := by decide +kernel
theorem dX6_keep_53 : decode cX6_keep 53 = .ok (.iastore, 1) := by decide +kernel
theorem dX6_keep_54 : decode cX6_keep 54 = .ok (.aload_n 0, 1) := by decide +kernel
theorem dX6_keep_55 : decode cX6_keep 55 = .ok (.getfield 27, 3) := by decide +kernel
theorem dX6_keep_58 : decode cX6_keep 58 = .ok (.aload_n 0, 1) := by decide +kernel
theorem dX6_keep_59 : decode cX6_keep 59 = .ok (.getfield 34, 3) := by decide +kernel
theorem dX6_keep_62 : decode cX6_keep 62 = .ok (.aload_n 1, 1) := by decide +kernel
theorem dX6_keep_63 : decode cX6_keep 63 = .ok (.getfield 53, 3) := by decide +kernel
theorem dX6_keep_66 : decode cX6_keep 66 = .ok (.iastore, 1) := by decide +kernel
theorem dX6_keep_67 : decode cX6_keep 67 = .ok (.aload_n 1, 1) := by decide +kernel
theorem dX6_keep_68 : decode cX6_keep 68 = .ok (.getfield 43, 3) := by decide +kernel
theorem dX6_keep_71 : decode cX6_keep 71 = .ok (.getfield 55, 3) := by decide +kernel
theorem dX6_keep_74 : decode cX6_keep 74 = .ok (.iconst 0, 1) := by decide +kernel
theorem dX6_keep_75 : decode cX6_keep 75 = .ok (.aload_n 0, 1) := by decide +kernel
theorem dX6_keep_76 : decode cX6_keep 76 = .ok (.getfield 21, 3) := by decide +kernel
theorem dX6_keep_79 : decode cX6_keep 79 = .ok (.aload_n 0, 1) := by decide +kernel
theorem dX6_keep_80 : decode cX6_keep 80 = .ok (.getfield 34, 3) := by decide +kernel
theorem dX6_keep_83 : decode cX6_keep 83 = .ok (.bipush 6, 2) := by decide +kernel
theorem dX6_keep_85 : decode cX6_keep 85 = .ok (.imul, 1) := by decide +kernel
theorem dX6_keep_86 : decode cX6_keep 86 = .ok (.bipush 6, 2) := by decide +kernel
theorem dX6_keep_88 : decode cX6_keep 88 = .ok (.invokestatic 58, 3) := by decide +kernel
theorem dX6_keep_91 : decode cX6_keep 91 = .ok (.return_, 1) := by decide +kernel
abbrev nd_X6_keep_r1 : List Nat := [1, 11, 14, 22, 23, 26, 27, 28]
abbrev ld_X6_keep_r1 : List (Nat × Nat) := [(1, 2), (11, 2), (22, 0), (22, 3), (22, 4), (22, 5)]
def f_X6_keep_r1  (h : zH) : zR := (zst (zup h 22 6 (((h 22 6) + (1 : Int32)) - ((h 22 6) + (1 : Int32)) / (6 : Int32) * (6 : Int32))) fun h1 => (zst (zup h1 22 7 (if (6 : Int32) < ((h1 22 7) + (1 : Int32)) then (6 : Int32) else ((h1 22 7) + (1 : Int32)))) fun h2 => (zck (h2 22 6) 6 (zst (zup h2 23 (Int32.toNatClampNeg (h2 22 6)) (0 : Int32)) fun h3 => (zck (h3 22 6) 6 (zst (zup h3 27 (Int32.toNatClampNeg (h3 22 6)) (h3 11 4)) fun h4 => (zck (h4 22 6) 6 (zst (zup h4 28 (Int32.toNatClampNeg (h4 22 6)) (h4 1 8)) fun h5 => (zcc 6 36 (0 : Int32) ((h5 22 6) * (6 : Int32)) (6 : Int32) (zst (zcp h5 14 26 (0 : Int32) ((h5 22 6) * (6 : Int32)) (6 : Int32)) fun h6 => (some (0, h6))))))))))))
variable {p : Program} {l : Launch} {e : Env} {s : State} {m : MethodId} {args : Array Value} {below : List Frame} {meth : Method} {c : Code} {G : zG} {q : Int32 × zH}
set_option maxHeartbeats 4000000 in
set_option maxRecDepth 100000 in
theorem c_X6_keep_r1 (l : Launch) (G : zG) (h : zH) (q : Int32 × zH) (hm : ∀ c ∈ nd_X6_keep_r1, c ∈ znm G) (hk : ∀ q ∈ ld_X6_keep_r1, zlk G q.1 q.2 = true) (hf : f_X6_keep_r1 h = some q) : zCtV l yX6_keep cX6_keep 2 none (2) [.ref (zal G 22), .ref (zal G 1)] G h q.2 := by
  refine zMetV (by decide) (Nat.le_of_ble_eq_true rfl) ?_
  intro p e s m below meth c ls C hl hS
  have hl : lv_has ls 2 [(0, .ref (zal G 22)), (1, .ref (zal G 1))] := hl
  have C : zC G p s m [.ref (zal G 22), .ref (zal G 1)].toArray meth c cX6_keep 2 RX6 none := C
  unfold f_X6_keep_r1 at hf
  refine lv_aload_n C.1 C.2.1 dX6_keep_0 rfl (lv_at hl 0 rfl) ?_
  refine lv_aload_n C.1 C.2.1 dX6_keep_1 rfl (lv_at hl 0 rfl) ?_
  refine zgetI C hS ff_X6_34_22 (hm 22 (by decide)) dX6_keep_2 ?_
  refine lv_iconst (v := (1 : Int32)) C.1 C.2.1 dX6_keep_5 rfl ?_
  refine lv_iadd C.1 C.2.1 dX6_keep_6 ?_
  refine lv_bipush (v := (6 : Int32)) C.1 C.2.1 dX6_keep_7 rfl ?_
  refine lv_irem C.1 C.2.1 dX6_keep_9 (by decide) ?_
  refine zputI C hS ff_X6_34_22 fw_22_6 (hm 22 (by decide)) dX6_keep_10 (fun H locs hS => ?_)
  obtain ⟨h1, eh1, hf⟩ := zst_some hf
  have hS : zS G h1 s.heap H locs := by rw [eh1]; exact hS
  refine lv_aload_n C.1 C.2.1 dX6_keep_13 rfl (lv_at hl 0 rfl) ?_
  refine lv_aload_n C.1 C.2.1 dX6_keep_14 rfl (lv_at hl 0 rfl) ?_
  refine zgetI C hS ff_X6_30_22 (hm 22 (by decide)) dX6_keep_15 ?_
  refine lv_iconst (v := (1 : Int32)) C.1 C.2.1 dX6_keep_18 rfl ?_
  refine lv_iadd C.1 C.2.1 dX6_keep_19 ?_
  refine lv_bipush (v := (6 : Int32)) C.1 C.2.1 dX6_keep_20 rfl ?_
  refine zmin C kw_768 (Nat.le_of_ble_eq_true rfl) hl.1 ⟨Nat.le_of_ble_eq_true rfl, Nat.le_of_ble_eq_true rfl, Nat.le_of_ble_eq_true rfl, Nat.le_of_ble_eq_true rfl⟩ dX6_keep_22 ?_
  refine zputI C hS ff_X6_30_22 fw_22_7 (hm 22 (by decide)) dX6_keep_25 (fun H locs hS => ?_)
  obtain ⟨h2, eh2, hf⟩ := zst_some hf
  have hS : zS G h2 s.heap H locs := by rw [eh2]; exact hS
  refine lv_aload_n C.1 C.2.1 dX6_keep_28 rfl (lv_at hl 0 rfl) ?_
  refine zgetR C hS ff_X6_11_22 (hm 22 (by decide)) (hk (22, 0) (by decide)) dX6_keep_29 ?_
  refine lv_aload_n C.1 C.2.1 dX6_keep_32 rfl (lv_at hl 0 rfl) ?_
  refine zgetI C hS ff_X6_34_22 (hm 22 (by decide)) dX6_keep_33 ?_
  refine lv_iconst (v := (0 : Int32)) C.1 C.2.1 dX6_keep_36 rfl ?_
  obtain ⟨hi, hf⟩ := zck_some hf
  refine zast C hS sh_23 (hm 23 (by decide)) hi dX6_keep_37 (fun H locs hS => ?_)
  obtain ⟨h3, eh3, hf⟩ := zst_some hf
  have hS : zS G h3 s.heap H locs := by rw [eh3]; exact hS
  refine lv_aload_n C.1 C.2.1 dX6_keep_38 rfl (lv_at hl 0 rfl) ?_
  refine zgetR C hS ff_X6_24_22 (hm 22 (by decide)) (hk (22, 4) (by decide)) dX6_keep_39 ?_
  refine lv_aload_n C.1 C.2.1 dX6_keep_42 rfl (lv_at hl 0 rfl) ?_
  refine zgetI C hS ff_X6_34_22 (hm 22 (by decide)) dX6_keep_43 ?_
  refine lv_aload_n C.1 C.2.1 dX6_keep_46 rfl (lv_at hl 1 rfl) ?_
  refine zgetR C hS ff_X6_43_1 (hm 1 (by decide)) (hk (1, 2) (by decide)) dX6_keep_47 ?_
  refine zgetI C hS ff_X6_49_11 (hm 11 (by decide)) dX6_keep_50 ?_
  obtain ⟨hi, hf⟩ := zck_some hf
  refine zast C hS sh_27 (hm 27 (by decide)) hi dX6_keep_53 (fun H locs hS => ?_)
  obtain ⟨h4, eh4, hf⟩ := zst_some hf
  have hS : zS G h4 s.heap H locs := by rw [eh4]; exact hS
  refine lv_aload_n C.1 C.2.1 dX6_keep_54 rfl (lv_at hl 0 rfl) ?_
  refine zgetR C hS ff_X6_27_22 (hm 22 (by decide)) (hk (22, 5) (by decide)) dX6_keep_55 ?_
  refine lv_aload_n C.1 C.2.1 dX6_keep_58 rfl (lv_at hl 0 rfl) ?_
  refine zgetI C hS ff_X6_34_22 (hm 22 (by decide)) dX6_keep_59 ?_
  refine lv_aload_n C.1 C.2.1 dX6_keep_62 rfl (lv_at hl 1 rfl) ?_
  refine zgetI C hS ff_X6_53_1 (hm 1 (by decide)) dX6_keep_63 ?_
  obtain ⟨hi, hf⟩ := zck_some hf
  refine zast C hS sh_28 (hm 28 (by decide)) hi dX6_keep_66 (fun H locs hS => ?_)
  obtain ⟨h5, eh5, hf⟩ := zst_some hf
  have hS : zS G h5 s.heap H locs := by rw [eh5]; exact hS
  refine lv_aload_n C.1 C.2.1 dX6_keep_67 rfl (lv_at hl 1 rfl) ?_
  refine zgetR C hS ff_X6_43_1 (hm 1 (by decide)) (hk (1, 2) (by decide)) dX6_keep_68 ?_
  refine zgetR C hS ff_X6_55_11 (hm 11 (by decide)) (hk (11, 2) (by decide)) dX6_keep_71 ?_
  refine lv_iconst (v := (0 : Int32)) C.1 C.2.1 dX6_keep_74 rfl ?_
  refine lv_aload_n C.1 C.2.1 dX6_keep_75 rfl (lv_at hl 0 rfl) ?_
  refine zgetR C hS ff_X6_21_22 (hm 22 (by decide)) (hk (22, 3) (by decide)) dX6_keep_76 ?_
  refine lv_aload_n C.1 C.2.1 dX6_keep_79 rfl (lv_at hl 0 rfl) ?_
  refine zgetI C hS ff_X6_34_22 (hm 22 (by decide)) dX6_keep_80 ?_
  refine lv_bipush (v := (6 : Int32)) C.1 C.2.1 dX6_keep_83 rfl ?_
  refine lv_imul C.1 C.2.1 dX6_keep_85 ?_
  refine lv_bipush (v := (6 : Int32)) C.1 C.2.1 dX6_keep_86 rfl ?_
  obtain ⟨hi, hf⟩ := zcc_some hf
  refine zacp C hS kw_769 sh_14 sh_26 (hm 14 (by decide)) (hm 26 (by decide)) hi (Nat.le_of_ble_eq_true rfl) hl.1 ⟨Nat.le_of_ble_eq_true rfl, Nat.le_of_ble_eq_true rfl⟩ dX6_keep_88 (fun H locs hS => ?_)
  obtain ⟨h6, eh6, hf⟩ := zst_some hf
  have hS : zS G h6 s.heap H locs := by rw [eh6]; exact hS
  exact zretV C hS hf dX6_keep_91
end
section
theorem dX6_note_0 : decode cX6_note 0 = .ok (.aload_n 0, 1) := by decide +kernel
theorem dX6_note_1 : decode cX6_note 1 = .ok (.getfield 11, 3) := by decide +kernel
theorem dX6_note_4 : decode cX6_note 4 = .ok (.aload_n 0, 1) := by decide +kernel
theorem dX6_note_5 : decode cX6_note 5 = .ok (.getfield 34, 3) := by decide +kernel
theorem dX6_note_8 : decode cX6_note 8 = .ok (.iaload, 1) := by decide +kernel
theorem dX6_note_9 : decode cX6_note 9 = .ok (.bipush 8, 2) := by decide +kernel
theorem dX6_note_11 : decode cX6_note 11 = .ok (.if_icmp .lt 4, 3) := by decide +kernel
theorem dX6_note_14 : decode cX6_note 14 = .ok (.return_, 1) := by decide +kernel
theorem dX6_note_15 : decode cX6_note 15 = .ok (.aload_n 0, 1) := by decide +kernel
theorem dX6_note_16 : decode cX6_note 16 = .ok (.getfield 34, 3) := by decide +kernel
theorem dX6_note_19 : decode cX6_note 19 = .ok (.bipush 8, 2) := by decide +kernel
theorem dX6_note_21 : decode cX6_note 21 = .ok (.imul, 1) := by decide +kernel
theorem dX6_note_22 : decode cX6_note 22 = .ok (.aload_n 0, 1) := by decide +kernel
theorem dX6_note_23 : decode cX6_note 23 = .ok (.getfield 11, 3) := by decide +kernel
theorem dX6_note_26 : decode cX6_note 26 = .ok (.aload_n 0, 1) := by decide +kernel
theorem dX6_note_27 : decode cX6_note 27 = .ok (.getfield 34, 3) := by decide +kernel
theorem dX6_note_30 : decode cX6_note 30 = .ok (.iaload, 1) := by decide +kernel
theorem dX6_note_31 : decode cX6_note 31 = .ok (.iadd, 1) := by decide +kernel
theorem dX6_note_32 : decode cX6_note 32 = .ok (.istore_n 3, 1) := by decide +kernel
theorem dX6_note_33 : decode cX6_note 33 = .ok (.aload_n 0, 1) := by decide +kernel
theorem dX6_note_34 : decode cX6_note 34 = .ok (.getfield 15, 3) := by decide +kernel
theorem dX6_note_37 : decode cX6_note 37 = .ok (.iload_n 3, 1) := by decide +kernel
theorem dX6_note_38 : decode cX6_note 38 = .ok (.iload_n 1, 1) := by decide +kernel
theorem dX6_note_39 : decode cX6_note 39 = .ok (.iastore, 1) := by decide +kernel
theorem dX6_note_40 : decode cX6_note 40 = .ok (.aload_n 0, 1) := by decide +kernel
theorem dX6_note_41 : decode cX6_note 41 = .ok (.getfield 18, 3) := by decide +kernel
theorem dX6_note_44 : decode cX6_note 44 = .ok (.iload_n 3, 1) := by decide +kernel
theorem dX6_note_45 : decode cX6_note 45 = .ok (.iload_n 2, 1) := by decide +kernel
theorem dX6_note_46 : decode cX6_note 46 = .ok (.iastore, 1) := by decide +kernel
theorem dX6_note_47 : decode cX6_note 47 = .ok (.aload_n 0, 1) := by decide +kernel
theorem dX6_note_48 : decode cX6_note 48 = .ok (.getfield 11, 3) := by decide +kernel
theorem dX6_note_51 : decode cX6_note 51 = .ok (.aload_n 0, 1) := by decide +kernel
theorem dX6_note_52 : decode cX6_note 52 = .ok (.getfield 34, 3) := by decide +kernel
theorem dX6_note_55 : decode cX6_note 55 = .ok (.dup2, 1) := by decide +kernel
theorem dX6_note_56 : decode cX6_note 56 = .ok (.iaload, 1) := by decide +kernel
theorem dX6_note_57 : decode cX6_note 57 = .ok (.iconst 1, 1) := by decide +kernel
theorem dX6_note_58 : decode cX6_note 58 = .ok (.iadd, 1) := by decide +kernel
theorem dX6_note_59 : decode cX6_note 59 = .ok (.iastore, 1) := by decide +kernel
theorem dX6_note_60 : decode cX6_note 60 = .ok (.return_, 1) := by decide +kernel
abbrev nd_X6_note : List Nat := [22, 23, 24, 25]
abbrev ld_X6_note : List (Nat × Nat) := [(22, 0), (22, 1), (22, 2)]
def f_X6_note  (x1 : Int32) (x2 : Int32) (h : zH) : zR := (zck (h 22 6) 6 (if (h 23 (Int32.toNatClampNeg (h 22 6))) < (8 : Int32) then (zck (h 22 6) 6 (zlt (((h 22 6) * (8 : Int32)) + (h 23 (Int32.toNatClampNeg (h 22 6)))) fun y1 => (zck y1 48 (zst (zup h 24 (Int32.toNatClampNeg y1) x1) fun h2 => (zck y1 48 (zst (zup h2 25 (Int32.toNatClampNeg y1) x2) fun h3 => (zck (h3 22 6) 6 (zck (h3 22 6) 6 (zst (zup h3 23 (Int32.toNatClampNeg (h3 22 6)) ((h3 23 (Int32.toNatClampNeg (h3 22 6))) + (1 : Int32))) fun h4 => (some (0, h4))))))))))) else (some (0, h))))
variable {p : Program} {l : Launch} {e : Env} {s : State} {m : MethodId} {args : Array Value} {below : List Frame} {meth : Method} {c : Code} {G : zG} {q : Int32 × zH}
set_option maxHeartbeats 4000000 in
set_option maxRecDepth 100000 in
theorem c_X6_note (l : Launch) (G : zG) (h : zH) (x1 : Int32) (x2 : Int32) (q : Int32 × zH) (hm : ∀ c ∈ nd_X6_note, c ∈ znm G) (hk : ∀ q ∈ ld_X6_note, zlk G q.1 q.2 = true) (hf : f_X6_note x1 x2 h = some q) : zCtV l yX6_note cX6_note 4 none (2) [.ref (zal G 22), .int x1, .int x2] G h q.2 := by
  refine zMetV (by decide) (Nat.le_of_ble_eq_true rfl) ?_
  intro p e s m below meth c ls C hl hS
  have hl : lv_has ls 4 [(0, .ref (zal G 22)), (1, .int x1), (2, .int x2)] := hl
  have C : zC G p s m [.ref (zal G 22), .int x1, .int x2].toArray meth c cX6_note 4 RX6 none := C
  unfold f_X6_note at hf
  refine lv_aload_n C.1 C.2.1 dX6_note_0 rfl (lv_at hl 0 rfl) ?_
  refine zgetR C hS ff_X6_11_22 (hm 22 (by decide)) (hk (22, 0) (by decide)) dX6_note_1 ?_
  refine lv_aload_n C.1 C.2.1 dX6_note_4 rfl (lv_at hl 0 rfl) ?_
  refine zgetI C hS ff_X6_34_22 (hm 22 (by decide)) dX6_note_5 ?_
  obtain ⟨hi, hf⟩ := zck_some hf
  refine zald C hS sh_23 (hm 23 (by decide)) hi dX6_note_8 ?_
  refine lv_bipush (v := (8 : Int32)) C.1 C.2.1 dX6_note_9 rfl ?_
  refine lv_icmp_lt (tgt := 15) C.1 C.2.1 dX6_note_11 (by decide) (fun hc => ?_) (fun hc => ?_)
  · have hf := zif_t hc hf
    refine lv_aload_n C.1 C.2.1 dX6_note_15 rfl (lv_at hl 0 rfl) ?_
    refine zgetI C hS ff_X6_34_22 (hm 22 (by decide)) dX6_note_16 ?_
    refine lv_bipush (v := (8 : Int32)) C.1 C.2.1 dX6_note_19 rfl ?_
    refine lv_imul C.1 C.2.1 dX6_note_21 ?_
    refine lv_aload_n C.1 C.2.1 dX6_note_22 rfl (lv_at hl 0 rfl) ?_
    refine zgetR C hS ff_X6_11_22 (hm 22 (by decide)) (hk (22, 0) (by decide)) dX6_note_23 ?_
    refine lv_aload_n C.1 C.2.1 dX6_note_26 rfl (lv_at hl 0 rfl) ?_
    refine zgetI C hS ff_X6_34_22 (hm 22 (by decide)) dX6_note_27 ?_
    obtain ⟨hi, hf⟩ := zck_some hf
    refine zald C hS sh_23 (hm 23 (by decide)) hi dX6_note_30 ?_
    refine lv_iadd C.1 C.2.1 dX6_note_31 ?_
    obtain ⟨y1, ey1, hf⟩ := zlt_some hf
    refine ztop ey1 ?_
    refine lv_istore_n (lv' := [(3, .int y1), (0, .ref (zal G 22)), (1, .int x1), (2, .int x2)]) C.1 C.2.1 dX6_note_32 rfl hl (by decide) rfl (fun ls hl => ?_)
    refine lv_aload_n C.1 C.2.1 dX6_note_33 rfl (lv_at hl 1 rfl) ?_
    refine zgetR C hS ff_X6_15_22 (hm 22 (by decide)) (hk (22, 1) (by decide)) dX6_note_34 ?_
    refine lv_iload_n C.1 C.2.1 dX6_note_37 rfl (lv_at hl 0 rfl) ?_
    refine lv_iload_n C.1 C.2.1 dX6_note_38 rfl (lv_at hl 2 rfl) ?_
    obtain ⟨hi, hf⟩ := zck_some hf
    refine zast C hS sh_24 (hm 24 (by decide)) hi dX6_note_39 (fun H locs hS => ?_)
    obtain ⟨h2, eh2, hf⟩ := zst_some hf
    have hS : zS G h2 s.heap H locs := by rw [eh2]; exact hS
    refine lv_aload_n C.1 C.2.1 dX6_note_40 rfl (lv_at hl 1 rfl) ?_
    refine zgetR C hS ff_X6_18_22 (hm 22 (by decide)) (hk (22, 2) (by decide)) dX6_note_41 ?_
    refine lv_iload_n C.1 C.2.1 dX6_note_44 rfl (lv_at hl 0 rfl) ?_
    refine lv_iload_n C.1 C.2.1 dX6_note_45 rfl (lv_at hl 3 rfl) ?_
    obtain ⟨hi, hf⟩ := zck_some hf
    refine zast C hS sh_25 (hm 25 (by decide)) hi dX6_note_46 (fun H locs hS => ?_)
    obtain ⟨h3, eh3, hf⟩ := zst_some hf
    have hS : zS G h3 s.heap H locs := by rw [eh3]; exact hS
    refine lv_aload_n C.1 C.2.1 dX6_note_47 rfl (lv_at hl 1 rfl) ?_
    refine zgetR C hS ff_X6_11_22 (hm 22 (by decide)) (hk (22, 0) (by decide)) dX6_note_48 ?_
    refine lv_aload_n C.1 C.2.1 dX6_note_51 rfl (lv_at hl 1 rfl) ?_
    refine zgetI C hS ff_X6_34_22 (hm 22 (by decide)) dX6_note_52 ?_
    refine lv_dup2_11 C.1 C.2.1 dX6_note_55 rfl rfl ?_
    obtain ⟨hi, hf⟩ := zck_some hf
    refine zald C hS sh_23 (hm 23 (by decide)) hi dX6_note_56 ?_
    refine lv_iconst (v := (1 : Int32)) C.1 C.2.1 dX6_note_57 rfl ?_
    refine lv_iadd C.1 C.2.1 dX6_note_58 ?_
    obtain ⟨hi, hf⟩ := zck_some hf
    refine zast C hS sh_23 (hm 23 (by decide)) hi dX6_note_59 (fun H locs hS => ?_)
    obtain ⟨h4, eh4, hf⟩ := zst_some hf
    have hS : zS G h4 s.heap H locs := by rw [eh4]; exact hS
    exact zretV C hS hf dX6_note_60
  · have hf := zif_f hc hf
    exact zretV C hS hf dX6_note_14
end
section
theorem dX0_write_0 : decode cX0_write 0 = .ok (.aload_n 0, 1) := by decide +kernel
theorem dX0_write_1 : decode cX0_write 1 = .ok (.getfield 30, 3) := by decide +kernel
theorem dX0_write_4 : decode cX0_write 4 = .ok (.bipush 100, 2) := by decide +kernel
theorem dX0_write_6 : decode cX0_write 6 = .ok (.if_icmp .lt 4, 3) := by decide +kernel
theorem dX0_write_9 : decode cX0_write 9 = .ok (.return_, 1) := by decide +kernel
theorem dX0_write_10 : decode cX0_write 10 = .ok (.aload_n 0, 1) := by decide +kernel
theorem dX0_write_11 : decode cX0_write 11 = .ok (.getfield 30, 3) := by decide +kernel
theorem dX0_write_14 : decode cX0_write 14 = .ok (.bipush 6, 2) := by decide +kernel
theorem dX0_write_16 : decode cX0_write 16 = .ok (.imul, 1) := by decide +kernel
theorem dX0_write_17 : decode cX0_write 17 = .ok (.istore_n 3, 1) := by decide +kernel
theorem dX0_write_18 : decode cX0_write 18 = .ok (.aload_n 0, 1) := by decide +kernel
theorem dX0_write_19 : decode cX0_write 19 = .ok (.getfield 21, 3) := by decide +kernel
theorem dX0_write_22 : decode cX0_write 22 = .ok (.iload_n 3, 1) := by decide +kernel
theorem dX0_write_23 : decode cX0_write 23 = .ok (.aload_n 1, 1) := by decide +kernel
theorem dX0_write_24 : decode cX0_write 24 = .ok (.getfield 37, 3) := by decide +kernel
theorem dX0_write_27 : decode cX0_write 27 = .ok (.iastore, 1) := by decide +kernel
theorem dX0_write_28 : decode cX0_write 28 = .ok (.aload_n 0, 1) := by decide +kernel
theorem dX0_write_29 : decode cX0_write 29 = .ok (.getfield 21, 3) := by decide +kernel
theorem dX0_write_32 : decode cX0_write 32 = .ok (.iload_n 3, 1) := by decide +kernel
theorem dX0_write_33 : decode cX0_write 33 = .ok (.iconst 1, 1) := by decide +kernel
theorem dX0_write_34 : decode cX0_write 34 = .ok (.iadd, 1) := by decide +kernel
theorem dX0_write_35 : decode cX0_write 35 = .ok (.aload_n 1, 1) := by decide +kernel
theorem dX0_write_36 : decode cX0_write 36 = .ok (.getfield 42, 3) := by decide +kernel
theorem dX0_write_39 : decode cX0_write 39 = .ok (.iastore, 1) := by decide +kernel
theorem dX0_write_40 : decode cX0_write 40 = .ok (.aload_n 0, 1) := by decide +kernel
theorem dX0_write_41 : decode cX0_write 41 = .ok (.getfield 21, 3) := by decide +kernel
theorem dX0_write_44 : decode cX0_write 44 = .ok (.iload_n 3, 1) := by decide +kernel
theorem dX0_write_45 : decode cX0_write 45 = .ok (.iconst 2, 1) := by decide +kernel
theorem dX0_write_46 : decode cX0_write 46 = .ok (.iadd, 1) := by decide +kernel
theorem dX0_write_47 : decode cX0_write 47 = .ok (.aload_n 1, 1) := by decide +kernel
theorem dX0_write_48 : decode cX0_write 48 = .ok (.getfield 45, 3) := by decide +kernel
theorem dX0_write_51 : decode cX0_write 51 = .ok (.iastore, 1) := by decide +kernel
theorem dX0_write_52 : decode cX0_write 52 = .ok (.aload_n 0, 1) := by decide +kernel
theorem dX0_write_53 : decode cX0_write 53 = .ok (.getfield 21, 3) := by decide +kernel
theorem dX0_write_56 : decode cX0_write 56 = .ok (.iload_n 3, 1) := by decide +kernel
theorem dX0_write_57 : decode cX0_write 57 = .ok (.iconst 3, 1) := by decide +kernel
theorem dX0_write_58 : decode cX0_write 58 = .ok (.iadd, 1) := by decide +kernel
theorem dX0_write_59 : decode cX0_write 59 = .ok (.aload_n 1, 1) := by decide +kernel
theorem dX0_write_60 : decode cX0_write 60 = .ok (.getfield 48, 3) := by decide +kernel
theorem dX0_write_63 : decode cX0_write 63 = .ok (.iastore, 1) := by decide +kernel
theorem dX0_write_64 : decode cX0_write 64 = .ok (.aload_n 0, 1) := by decide +kernel
theorem dX0_write_65 : decode cX0_write 65 = .ok (.getfield 21, 3) := by decide +kernel
theorem dX0_write_68 : decode cX0_write 68 = .ok (.iload_n 3, 1) := by decide +kernel
theorem dX0_write_69 : decode cX0_write 69 = .ok (.iconst 4, 1) := by decide +kernel
theorem dX0_write_70 : decode cX0_write 70 = .ok (.iadd, 1) := by decide +kernel
theorem dX0_write_71 : decode cX0_write 71 = .ok (.aload_n 0, 1) := by decide +kernel
theorem dX0_write_72 : decode cX0_write 72 = .ok (.getfield 34, 3) := by decide +kernel
theorem dX0_write_75 : decode cX0_write 75 = .ok (.iastore, 1) := by decide +kernel
theorem dX0_write_76 : decode cX0_write 76 = .ok (.aload_n 0, 1) := by decide +kernel
theorem dX0_write_77 : decode cX0_write 77 = .ok (.getfield 21, 3) := by decide +kernel
theorem dX0_write_80 : decode cX0_write 80 = .ok (.iload_n 3, 1) := by decide +kernel
theorem dX0_write_81 : decode cX0_write 81 = .ok (.iconst 5, 1) := by decide +kernel
theorem dX0_write_82 : decode cX0_write 82 = .ok (.iadd, 1) := by decide +kernel
theorem dX0_write_83 : decode cX0_write 83 = .ok (.iload_n 2, 1) := by decide +kernel
theorem dX0_write_84 : decode cX0_write 84 = .ok (.iastore, 1) := by decide +kernel
theorem dX0_write_85 : decode cX0_write 85 = .ok (.aload_n 0, 1) := by decide +kernel
theorem dX0_write_86 : decode cX0_write 86 = .ok (.dup, 1) := by decide +kernel
theorem dX0_write_87 : decode cX0_write 87 = .ok (.getfield 30, 3) := by decide +kernel
theorem dX0_write_90 : decode cX0_write 90 = .ok (.iconst 1, 1) := by decide +kernel
theorem dX0_write_91 : decode cX0_write 91 = .ok (.iadd, 1) := by decide +kernel
theorem dX0_write_92 : decode cX0_write 92 = .ok (.putfield 30, 3) := by decide +kernel
theorem dX0_write_95 : decode cX0_write 95 = .ok (.return_, 1) := by decide +kernel
abbrev nd_X0_write_r38 : List Nat := [11, 15, 38]
abbrev ld_X0_write_r38 : List (Nat × Nat) := [(11, 3)]
def f_X0_write_r38  (x2 : Int32) (h : zH) : zR := (if (h 11 4) < (100 : Int32) then (zlt ((h 11 4) * (6 : Int32)) fun y1 => (zck y1 600 (zst (zup h 15 (Int32.toNatClampNeg y1) (h 38 9)) fun h2 => (zck (y1 + (1 : Int32)) 600 (zst (zup h2 15 (Int32.toNatClampNeg (y1 + (1 : Int32))) (h2 38 10)) fun h3 => (zck (y1 + (2 : Int32)) 600 (zst (zup h3 15 (Int32.toNatClampNeg (y1 + (2 : Int32))) (h3 38 12)) fun h4 => (zck (y1 + (3 : Int32)) 600 (zst (zup h4 15 (Int32.toNatClampNeg (y1 + (3 : Int32))) (h4 38 13)) fun h5 => (zck (y1 + (4 : Int32)) 600 (zst (zup h5 15 (Int32.toNatClampNeg (y1 + (4 : Int32))) (h5 11 5)) fun h6 => (zck (y1 + (5 : Int32)) 600 (zst (zup h6 15 (Int32.toNatClampNeg (y1 + (5 : Int32))) x2) fun h7 => (zst (zup h7 11 4 ((h7 11 4) + (1 : Int32))) fun h8 => (some (0, h8)))))))))))))))) else (some (0, h)))
variable {p : Program} {l : Launch} {e : Env} {s : State} {m : MethodId} {args : Array Value} {below : List Frame} {meth : Method} {c : Code} {G : zG} {q : Int32 × zH}
set_option maxHeartbeats 4000000 in
set_option maxRecDepth 100000 in
theorem c_X0_write_r38 (l : Launch) (G : zG) (h : zH) (x2 : Int32) (q : Int32 × zH) (hm : ∀ c ∈ nd_X0_write_r38, c ∈ znm G) (hk : ∀ q ∈ ld_X0_write_r38, zlk G q.1 q.2 = true) (hf : f_X0_write_r38 x2 h = some q) : zCtV l yX0_write cX0_write 4 none (2) [.ref (zal G 11), .ref (zal G 38), .int x2] G h q.2 := by
  refine zMetV (by decide) (Nat.le_of_ble_eq_true rfl) ?_
  intro p e s m below meth c ls C hl hS
  have hl : lv_has ls 4 [(0, .ref (zal G 11)), (1, .ref (zal G 38)), (2, .int x2)] := hl
  have C : zC G p s m [.ref (zal G 11), .ref (zal G 38), .int x2].toArray meth c cX0_write 4 RX0 none := C
  unfold f_X0_write_r38 at hf
  refine lv_aload_n C.1 C.2.1 dX0_write_0 rfl (lv_at hl 0 rfl) ?_
  refine zgetI C hS ff_X0_30_11 (hm 11 (by decide)) dX0_write_1 ?_
  refine lv_bipush (v := (100 : Int32)) C.1 C.2.1 dX0_write_4 rfl ?_
  refine lv_icmp_lt (tgt := 10) C.1 C.2.1 dX0_write_6 (by decide) (fun hc => ?_) (fun hc => ?_)
  · have hf := zif_t hc hf
    refine lv_aload_n C.1 C.2.1 dX0_write_10 rfl (lv_at hl 0 rfl) ?_
    refine zgetI C hS ff_X0_30_11 (hm 11 (by decide)) dX0_write_11 ?_
    refine lv_bipush (v := (6 : Int32)) C.1 C.2.1 dX0_write_14 rfl ?_
    refine lv_imul C.1 C.2.1 dX0_write_16 ?_
    obtain ⟨y1, ey1, hf⟩ := zlt_some hf
    refine ztop ey1 ?_
    refine lv_istore_n (lv' := [(3, .int y1), (0, .ref (zal G 11)), (1, .ref (zal G 38)), (2, .int x2)]) C.1 C.2.1 dX0_write_17 rfl hl (by decide) rfl (fun ls hl => ?_)
    refine lv_aload_n C.1 C.2.1 dX0_write_18 rfl (lv_at hl 1 rfl) ?_
    refine zgetR C hS ff_X0_21_11 (hm 11 (by decide)) (hk (11, 3) (by decide)) dX0_write_19 ?_
    refine lv_iload_n C.1 C.2.1 dX0_write_22 rfl (lv_at hl 0 rfl) ?_
    refine lv_aload_n C.1 C.2.1 dX0_write_23 rfl (lv_at hl 2 rfl) ?_
    refine zgetI C hS ff_X0_37_38 (hm 38 (by decide)) dX0_write_24 ?_
    obtain ⟨hi, hf⟩ := zck_some hf
    refine zast C hS sh_15 (hm 15 (by decide)) hi dX0_write_27 (fun H locs hS => ?_)
    obtain ⟨h2, eh2, hf⟩ := zst_some hf
    have hS : zS G h2 s.heap H locs := by rw [eh2]; exact hS
    refine lv_aload_n C.1 C.2.1 dX0_write_28 rfl (lv_at hl 1 rfl) ?_
    refine zgetR C hS ff_X0_21_11 (hm 11 (by decide)) (hk (11, 3) (by decide)) dX0_write_29 ?_
    refine lv_iload_n C.1 C.2.1 dX0_write_32 rfl (lv_at hl 0 rfl) ?_
    refine lv_iconst (v := (1 : Int32)) C.1 C.2.1 dX0_write_33 rfl ?_
    refine lv_iadd C.1 C.2.1 dX0_write_34 ?_
    refine lv_aload_n C.1 C.2.1 dX0_write_35 rfl (lv_at hl 2 rfl) ?_
    refine zgetI C hS ff_X0_42_38 (hm 38 (by decide)) dX0_write_36 ?_
    obtain ⟨hi, hf⟩ := zck_some hf
    refine zast C hS sh_15 (hm 15 (by decide)) hi dX0_write_39 (fun H locs hS => ?_)
    obtain ⟨h3, eh3, hf⟩ := zst_some hf
    have hS : zS G h3 s.heap H locs := by rw [eh3]; exact hS
    refine lv_aload_n C.1 C.2.1 dX0_write_40 rfl (lv_at hl 1 rfl) ?_
    refine zgetR C hS ff_X0_21_11 (hm 11 (by decide)) (hk (11, 3) (by decide)) dX0_write_41 ?_
    refine lv_iload_n C.1 C.2.1 dX0_write_44 rfl (lv_at hl 0 rfl) ?_
    refine lv_iconst (v := (2 : Int32)) C.1 C.2.1 dX0_write_45 rfl ?_
    refine lv_iadd C.1 C.2.1 dX0_write_46 ?_
    refine lv_aload_n C.1 C.2.1 dX0_write_47 rfl (lv_at hl 2 rfl) ?_
    refine zgetI C hS ff_X0_45_38 (hm 38 (by decide)) dX0_write_48 ?_
    obtain ⟨hi, hf⟩ := zck_some hf
    refine zast C hS sh_15 (hm 15 (by decide)) hi dX0_write_51 (fun H locs hS => ?_)
    obtain ⟨h4, eh4, hf⟩ := zst_some hf
    have hS : zS G h4 s.heap H locs := by rw [eh4]; exact hS
    refine lv_aload_n C.1 C.2.1 dX0_write_52 rfl (lv_at hl 1 rfl) ?_
    refine zgetR C hS ff_X0_21_11 (hm 11 (by decide)) (hk (11, 3) (by decide)) dX0_write_53 ?_
    refine lv_iload_n C.1 C.2.1 dX0_write_56 rfl (lv_at hl 0 rfl) ?_
    refine lv_iconst (v := (3 : Int32)) C.1 C.2.1 dX0_write_57 rfl ?_
    refine lv_iadd C.1 C.2.1 dX0_write_58 ?_
    refine lv_aload_n C.1 C.2.1 dX0_write_59 rfl (lv_at hl 2 rfl) ?_
    refine zgetI C hS ff_X0_48_38 (hm 38 (by decide)) dX0_write_60 ?_
    obtain ⟨hi, hf⟩ := zck_some hf
    refine zast C hS sh_15 (hm 15 (by decide)) hi dX0_write_63 (fun H locs hS => ?_)
    obtain ⟨h5, eh5, hf⟩ := zst_some hf
    have hS : zS G h5 s.heap H locs := by rw [eh5]; exact hS
    refine lv_aload_n C.1 C.2.1 dX0_write_64 rfl (lv_at hl 1 rfl) ?_
    refine zgetR C hS ff_X0_21_11 (hm 11 (by decide)) (hk (11, 3) (by decide)) dX0_write_65 ?_
    refine lv_iload_n C.1 C.2.1 dX0_write_68 rfl (lv_at hl 0 rfl) ?_
    refine lv_iconst (v := (4 : Int32)) C.1 C.2.1 dX0_write_69 rfl ?_
    refine lv_iadd C.1 C.2.1 dX0_write_70 ?_
    refine lv_aload_n C.1 C.2.1 dX0_write_71 rfl (lv_at hl 1 rfl) ?_
    refine zgetI C hS ff_X0_34_11 (hm 11 (by decide)) dX0_write_72 ?_
    obtain ⟨hi, hf⟩ := zck_some hf
    refine zast C hS sh_15 (hm 15 (by decide)) hi dX0_write_75 (fun H locs hS => ?_)
    obtain ⟨h6, eh6, hf⟩ := zst_some hf
    have hS : zS G h6 s.heap H locs := by rw [eh6]; exact hS
    refine lv_aload_n C.1 C.2.1 dX0_write_76 rfl (lv_at hl 1 rfl) ?_
    refine zgetR C hS ff_X0_21_11 (hm 11 (by decide)) (hk (11, 3) (by decide)) dX0_write_77 ?_
    refine lv_iload_n C.1 C.2.1 dX0_write_80 rfl (lv_at hl 0 rfl) ?_
    refine lv_iconst (v := (5 : Int32)) C.1 C.2.1 dX0_write_81 rfl ?_
    refine lv_iadd C.1 C.2.1 dX0_write_82 ?_
    refine lv_iload_n C.1 C.2.1 dX0_write_83 rfl (lv_at hl 3 rfl) ?_
    obtain ⟨hi, hf⟩ := zck_some hf
    refine zast C hS sh_15 (hm 15 (by decide)) hi dX0_write_84 (fun H locs hS => ?_)
    obtain ⟨h7, eh7, hf⟩ := zst_some hf
    have hS : zS G h7 s.heap H locs := by rw [eh7]; exact hS
    refine lv_aload_n C.1 C.2.1 dX0_write_85 rfl (lv_at hl 1 rfl) ?_
    refine lv_dup C.1 C.2.1 dX0_write_86 rfl ?_
    refine zgetI C hS ff_X0_30_11 (hm 11 (by decide)) dX0_write_87 ?_
    refine lv_iconst (v := (1 : Int32)) C.1 C.2.1 dX0_write_90 rfl ?_
    refine lv_iadd C.1 C.2.1 dX0_write_91 ?_
    refine zputI C hS ff_X0_30_11 fw_11_4 (hm 11 (by decide)) dX0_write_92 (fun H locs hS => ?_)
    obtain ⟨h8, eh8, hf⟩ := zst_some hf
    have hS : zS G h8 s.heap H locs := by rw [eh8]; exact hS
    exact zretV C hS hf dX0_write_95
  · have hf := zif_f hc hf
    exact zretV C hS hf dX0_write_9
end
section
theorem dX4_draw_0 : decode cX4_draw 0 = .ok (.aload_n 0, 1) := by decide +kernel
theorem dX4_draw_1 : decode cX4_draw 1 = .ok (.ldc 75, 2) := by decide +kernel
theorem dX4_draw_3 : decode cX4_draw 3 = .ok (.aload_n 0, 1) := by decide +kernel
theorem dX4_draw_4 : decode cX4_draw 4 = .ok (.getfield 72, 3) := by decide +kernel
theorem dX4_draw_7 : decode cX4_draw 7 = .ok (.imul, 1) := by decide +kernel
theorem dX4_draw_8 : decode cX4_draw 8 = .ok (.ldc 76, 2) := by decide +kernel
theorem dX4_draw_10 : decode cX4_draw 10 = .ok (.iadd, 1) := by decide +kernel
theorem dX4_draw_11 : decode cX4_draw 11 = .ok (.putfield 72, 3) := by decide +kernel
theorem dX4_draw_14 : decode cX4_draw 14 = .ok (.iload_n 1, 1) := by decide +kernel
theorem dX4_draw_15 : decode cX4_draw 15 = .ok (.ifCond .le 15, 3) := by decide +kernel
theorem dX4_draw_18 : decode cX4_draw 18 = .ok (.aload_n 0, 1) := by decide +kernel
theorem dX4_draw_19 : decode cX4_draw 19 = .ok (.getfield 72, 3) := by decide +kernel
theorem dX4_draw_22 : decode cX4_draw 22 = .ok (.bipush 8, 2) := by decide +kernel
theorem dX4_draw_24 : decode cX4_draw 24 = .ok (.iushr, 1) := by decide +kernel
theorem dX4_draw_25 : decode cX4_draw 25 = .ok (.iload_n 1, 1) := by decide +kernel
theorem dX4_draw_26 : decode cX4_draw 26 = .ok (.irem, 1) := by decide +kernel
theorem dX4_draw_27 : decode cX4_draw 27 = .ok (.goto 4, 3) := by decide +kernel
theorem dX4_draw_30 : decode cX4_draw 30 = .ok (.iconst 0, 1) := by decide +kernel
theorem dX4_draw_31 : decode cX4_draw 31 = .ok (.ireturn, 1) := by decide +kernel
abbrev nd_X4_draw : List Nat := [1]
abbrev ld_X4_draw : List (Nat × Nat) := []
def f_X4_draw  (x1 : Int32) (h : zH) : zR := (zst (zup h 1 8 (((1664525 : Int32) * (h 1 8)) + (1013904223 : Int32))) fun h1 => (if x1 ≤ 0 then (some ((0 : Int32), h1)) else (znz x1 (some (((Int32.toUInt32 (h1 1 8) >>> (Int32.toUInt32 (8 : Int32) &&& Int32.toUInt32 31)).toInt32 - (Int32.toUInt32 (h1 1 8) >>> (Int32.toUInt32 (8 : Int32) &&& Int32.toUInt32 31)).toInt32 / x1 * x1), h1)))))
variable {p : Program} {l : Launch} {e : Env} {s : State} {m : MethodId} {args : Array Value} {below : List Frame} {meth : Method} {c : Code} {G : zG} {q : Int32 × zH}
set_option maxHeartbeats 4000000 in
set_option maxRecDepth 100000 in
theorem c_X4_draw (l : Launch) (G : zG) (h : zH) (x1 : Int32) (q : Int32 × zH) (hm : ∀ c ∈ nd_X4_draw, c ∈ znm G) (hk : ∀ q ∈ ld_X4_draw, zlk G q.1 q.2 = true) (hf : f_X4_draw x1 h = some q) : zCtI l yX4_draw cX4_draw 2 (some .int) (2) [.ref (zal G 1), .int x1] G h q.2 q.1 := by
  refine zMetI (by decide) (Nat.le_of_ble_eq_true rfl) ?_
  intro p e s m below meth c ls C hl hS
  have hl : lv_has ls 2 [(0, .ref (zal G 1)), (1, .int x1)] := hl
  have C : zC G p s m [.ref (zal G 1), .int x1].toArray meth c cX4_draw 2 RX4 (some .int) := C
  unfold f_X4_draw at hf
  refine lv_aload_n C.1 C.2.1 dX4_draw_0 rfl (lv_at hl 0 rfl) ?_
  refine zldc C kw_830 dX4_draw_1 ?_
  refine lv_aload_n C.1 C.2.1 dX4_draw_3 rfl (lv_at hl 0 rfl) ?_
  refine zgetI C hS ff_X4_72_1 (hm 1 (by decide)) dX4_draw_4 ?_
  refine lv_imul C.1 C.2.1 dX4_draw_7 ?_
  refine zldc C kw_831 dX4_draw_8 ?_
  refine lv_iadd C.1 C.2.1 dX4_draw_10 ?_
  refine zputI C hS ff_X4_72_1 fw_1_8 (hm 1 (by decide)) dX4_draw_11 (fun H locs hS => ?_)
  obtain ⟨h1, eh1, hf⟩ := zst_some hf
  have hS : zS G h1 s.heap H locs := by rw [eh1]; exact hS
  refine lv_iload_n C.1 C.2.1 dX4_draw_14 rfl (lv_at hl 1 rfl) ?_
  refine lv_if_le (tgt := 30) C.1 C.2.1 dX4_draw_15 (by decide) (fun hc => ?_) (fun hc => ?_)
  · have hf := zif_t hc hf
    refine lv_iconst (v := (0 : Int32)) C.1 C.2.1 dX4_draw_30 rfl ?_
    exact zretI C hS hf dX4_draw_31
  · have hf := zif_f hc hf
    refine lv_aload_n C.1 C.2.1 dX4_draw_18 rfl (lv_at hl 0 rfl) ?_
    refine zgetI C hS ff_X4_72_1 (hm 1 (by decide)) dX4_draw_19 ?_
    refine lv_bipush (v := (8 : Int32)) C.1 C.2.1 dX4_draw_22 rfl ?_
    refine lv_iushr C.1 C.2.1 dX4_draw_24 rfl ?_
    refine lv_iload_n C.1 C.2.1 dX4_draw_25 rfl (lv_at hl 1 rfl) ?_
    obtain ⟨hz, hf⟩ := znz_some hf
    refine lv_irem C.1 C.2.1 dX4_draw_26 hz ?_
    refine lv_goto (tgt := 31) C.1 C.2.1 dX4_draw_27 (by decide) ?_
    exact zretI C hS hf dX4_draw_31
end
section
theorem dX11_tellFound_0 : decode cX11_tellFound 0 = .ok (.aload_n 0, 1) := by decide +kernel
theorem dX11_tellFound_1 : decode cX11_tellFound 1 = .ok (.getfield 35, 3) := by decide +kernel
theorem dX11_tellFound_4 : decode cX11_tellFound 4 = .ok (.getfield 209, 3) := by decide +kernel
theorem dX11_tellFound_7 : decode cX11_tellFound 7 = .ok (.aload_n 0, 1) := by decide +kernel
theorem dX11_tellFound_8 : decode cX11_tellFound 8 = .ok (.getfield 35, 3) := by decide +kernel
theorem dX11_tellFound_11 : decode cX11_tellFound 11 = .ok (.getfield 212, 3) := by decide +kernel
theorem dX11_tellFound_14 : decode cX11_tellFound 14 = .ok (.invokestatic 191, 3) := by decide +kernel
theorem dX11_tellFound_17 : decode cX11_tellFound 17 = .ok (.istore_n 1, 1) := by decide +kernel
theorem dX11_tellFound_18 : decode cX11_tellFound 18 = .ok (.aload_n 0, 1) := by decide +kernel
theorem dX11_tellFound_19 : decode cX11_tellFound 19 = .ok (.getfield 12, 3) := by decide +kernel
theorem dX11_tellFound_22 : decode cX11_tellFound 22 = .ok (.getfield 154, 3) := by decide +kernel
theorem dX11_tellFound_25 : decode cX11_tellFound 25 = .ok (.astore_n 2, 1) := by decide +kernel
theorem dX11_tellFound_26 : decode cX11_tellFound 26 = .ok (.aload_n 0, 1) := by decide +kernel
theorem dX11_tellFound_27 : decode cX11_tellFound 27 = .ok (.getfield 19, 3) := by decide +kernel
theorem dX11_tellFound_30 : decode cX11_tellFound 30 = .ok (.iload_n 1, 1) := by decide +kernel
theorem dX11_tellFound_31 : decode cX11_tellFound 31 = .ok (.aload_n 2, 1) := by decide +kernel
theorem dX11_tellFound_32 : decode cX11_tellFound 32 = .ok (.getfield 325, 3) := by decide +kernel
theorem dX11_tellFound_35 : decode cX11_tellFound 35 = .ok (.iload_n 1, 1) := by decide +kernel
theorem dX11_tellFound_36 : decode cX11_tellFound 36 = .ok (.iaload, 1) := by decide +kernel
theorem dX11_tellFound_37 : decode cX11_tellFound 37 = .ok (.invokevirtual 328, 3) := by decide +kernel
theorem dX11_tellFound_40 : decode cX11_tellFound 40 = .ok (.aload_n 2, 1) := by decide +kernel
theorem dX11_tellFound_41 : decode cX11_tellFound 41 = .ok (.getfield 188, 3) := by decide +kernel
theorem dX11_tellFound_44 : decode cX11_tellFound 44 = .ok (.iload_n 1, 1) := by decide +kernel
theorem dX11_tellFound_45 : decode cX11_tellFound 45 = .ok (.dup2, 1) := by decide +kernel
theorem dX11_tellFound_46 : decode cX11_tellFound 46 = .ok (.iaload, 1) := by decide +kernel
theorem dX11_tellFound_47 : decode cX11_tellFound 47 = .ok (.iconst 1, 1) := by decide +kernel
theorem dX11_tellFound_48 : decode cX11_tellFound 48 = .ok (.iadd, 1) := by decide +kernel
theorem dX11_tellFound_49 : decode cX11_tellFound 49 = .ok (.iastore, 1) := by decide +kernel
theorem dX11_tellFound_50 : decode cX11_tellFound 50 = .ok (.aload_n 2, 1) := by decide +kernel
theorem dX11_tellFound_51 : decode cX11_tellFound 51 = .ok (.getfield 325, 3) := by decide +kernel
theorem dX11_tellFound_54 : decode cX11_tellFound 54 = .ok (.iload_n 1, 1) := by decide +kernel
theorem dX11_tellFound_55 : decode cX11_tellFound 55 = .ok (.aload_n 2, 1) := by decide +kernel
theorem dX11_tellFound_56 : decode cX11_tellFound 56 = .ok (.getfield 158, 3) := by decide +kernel
theorem dX11_tellFound_59 : decode cX11_tellFound 59 = .ok (.iastore, 1) := by decide +kernel
theorem dX11_tellFound_60 : decode cX11_tellFound 60 = .ok (.aload_n 0, 1) := by decide +kernel
theorem dX11_tellFound_61 : decode cX11_tellFound 61 = .ok (.getfield 35, 3) := by decide +kernel
theorem dX11_tellFound_64 : decode cX11_tellFound 64 = .ok (.getfield 331, 3) := by decide +kernel
theorem dX11_tellFound_67 : decode cX11_tellFound 67 = .ok (.iload_n 1, 1) := by decide +kernel
theorem dX11_tellFound_68 : decode cX11_tellFound 68 = .ok (.iconst (-1), 1) := by decide +kernel
theorem dX11_tellFound_69 : decode cX11_tellFound 69 = .ok (.iastore, 1) := by decide +kernel
theorem dX11_tellFound_70 : decode cX11_tellFound 70 = .ok (.aload_n 0, 1) := by decide +kernel
theorem dX11_tellFound_71 : decode cX11_tellFound 71 = .ok (.getfield 12, 3) := by decide +kernel
theorem dX11_tellFound_74 : decode cX11_tellFound 74 = .ok (.getfield 116, 3) := by decide +kernel
theorem dX11_tellFound_77 : decode cX11_tellFound 77 = .ok (.ifCond .le 27, 3) := by decide +kernel
theorem dX11_tellFound_80 : decode cX11_tellFound 80 = .ok (.aload_n 0, 1) := by decide +kernel
theorem dX11_tellFound_81 : decode cX11_tellFound 81 = .ok (.getfield 12, 3) := by decide +kernel
theorem dX11_tellFound_84 : decode cX11_tellFound 84 = .ok (.sipush 1000, 3) := by decide +kernel
theorem dX11_tellFound_87 : decode cX11_tellFound 87 = .ok (.invokevirtual 334, 3) := by decide +kernel
theorem dX11_tellFound_90 : decode cX11_tellFound 90 = .ok (.aload_n 0, 1) := by decide +kernel
theorem dX11_tellFound_91 : decode cX11_tellFound 91 = .ok (.getfield 12, 3) := by decide +kernel
theorem dX11_tellFound_94 : decode cX11_tellFound 94 = .ok (.getfield 116, 3) := by decide +kernel
theorem dX11_tellFound_97 : decode cX11_tellFound 97 = .ok (.if_icmp .ge 7, 3) := by decide +kernel
theorem dX11_tellFound_100 : decode cX11_tellFound 100 = .ok (.iconst 1, 1) := by decide +kernel
theorem dX11_tellFound_101 : decode cX11_tellFound 101 = .ok (.goto 4, 3) := by decide +kernel
theorem dX11_tellFound_104 : decode cX11_tellFound 104 = .ok (.iconst 0, 1) := by decide +kernel
theorem dX11_tellFound_105 : decode cX11_tellFound 105 = .ok (.istore_n 3, 1) := by decide +kernel
theorem dX11_tellFound_106 : decode cX11_tellFound 106 = .ok (.iload_n 3, 1) := by decide +kernel
theorem dX11_tellFound_107 : decode cX11_tellFound 107 = .ok (.ifCond .eq 7, 3) := by decide +kernel
theorem dX11_tellFound_110 : decode cX11_tellFound 110 = .ok (.iconst 0, 1) := by decide +kernel
theorem dX11_tellFound_111 : decode cX11_tellFound 111 = .ok (.goto 10, 3) := by decide +kernel
theorem dX11_tellFound_114 : decode cX11_tellFound 114 = .ok (.aload_n 0, 1) := by decide +kernel
theorem dX11_tellFound_115 : decode cX11_tellFound 115 = .ok (.getfield 35, 3) := by decide +kernel
theorem dX11_tellFound_118 : decode cX11_tellFound 118 = .ok (.getfield 218, 3) := by decide +kernel
theorem dX11_tellFound_121 : decode cX11_tellFound 121 = .ok (.istore 4, 2) := by decide +kernel
theorem dX11_tellFound_123 : decode cX11_tellFound 123 = .ok (.aload_n 2, 1) := by decide +kernel
theorem dX11_tellFound_124 : decode cX11_tellFound 124 = .ok (.aload_n 0, 1) := by decide +kernel
theorem dX11_tellFound_125 : decode cX11_tellFound 125 = .ok (.getfield 35, 3) := by decide +kernel
theorem dX11_tellFound_128 : decode cX11_tellFound 128 = .ok (.iload 4, 2) := by decide +kernel
theorem dX11_tellFound_130 : decode cX11_tellFound 130 = .ok (.invokevirtual 337, 3) := by decide +kernel
theorem dX11_tellFound_133 : decode cX11_tellFound 133 = .ok (.iconst 0, 1) := by decide +kernel
theorem dX11_tellFound_134 : decode cX11_tellFound 134 = .ok (.istore 5, 2) := by decide +kernel
theorem dX11_tellFound_136 : decode cX11_tellFound 136 = .ok (.iload 5, 2) := by decide +kernel
theorem dX11_tellFound_138 : decode cX11_tellFound 138 = .ok (.bipush 6, 2) := by decide +kernel
theorem dX11_tellFound_140 : decode cX11_tellFound 140 = .ok (.if_icmp .ge 65, 3) := by decide +kernel
theorem dX11_tellFound_143 : decode cX11_tellFound 143 = .ok (.aload_n 0, 1) := by decide +kernel
theorem dX11_tellFound_144 : decode cX11_tellFound 144 = .ok (.getfield 12, 3) := by decide +kernel
theorem dX11_tellFound_147 : decode cX11_tellFound 147 = .ok (.getfield 54, 3) := by decide +kernel
theorem dX11_tellFound_150 : decode cX11_tellFound 150 = .ok (.aload_n 0, 1) := by decide +kernel
theorem dX11_tellFound_151 : decode cX11_tellFound 151 = .ok (.getfield 35, 3) := by decide +kernel
theorem dX11_tellFound_154 : decode cX11_tellFound 154 = .ok (.getfield 209, 3) := by decide +kernel
theorem dX11_tellFound_157 : decode cX11_tellFound 157 = .ok (.iload 5, 2) := by decide +kernel
theorem dX11_tellFound_159 : decode cX11_tellFound 159 = .ok (.invokevirtual 71, 3) := by decide +kernel
theorem dX11_tellFound_162 : decode cX11_tellFound 162 = .ok (.aload_n 0, 1) := by decide +kernel
theorem dX11_tellFound_163 : decode cX11_tellFound 163 = .ok (.getfield 12, 3) := by decide +kernel
theorem dX11_tellFound_166 : decode cX11_tellFound 166 = .ok (.getfield 54, 3) := by decide +kernel
theorem dX11_tellFound_169 : decode cX11_tellFound 169 = .ok (.aload_n 0, 1) := by decide +kernel
theorem dX11_tellFound_170 : decode cX11_tellFound 170 = .ok (.getfield 35, 3) := by decide +kernel
theorem dX11_tellFound_173 : decode cX11_tellFound 173 = .ok (.getfield 212, 3) := by decide +kernel
theorem dX11_tellFound_176 : decode cX11_tellFound 176 = .ok (.iload 5, 2) := by decide +kernel
theorem dX11_tellFound_178 : decode cX11_tellFound 178 = .ok (.invokevirtual 71, 3) := by decide +kernel
theorem dX11_tellFound_181 : decode cX11_tellFound 181 = .ok (.iadd, 1) := by decide +kernel
theorem dX11_tellFound_182 : decode cX11_tellFound 182 = .ok (.istore 6, 2) := by decide +kernel
theorem dX11_tellFound_184 : decode cX11_tellFound 184 = .ok (.aload_n 2, 1) := by decide +kernel
theorem dX11_tellFound_185 : decode cX11_tellFound 185 = .ok (.getfield 225, 3) := by decide +kernel
theorem dX11_tellFound_188 : decode cX11_tellFound 188 = .ok (.iload 5, 2) := by decide +kernel
theorem dX11_tellFound_190 : decode cX11_tellFound 190 = .ok (.dup2, 1) := by decide +kernel
theorem dX11_tellFound_191 : decode cX11_tellFound 191 = .ok (.iaload, 1) := by decide +kernel
theorem dX11_tellFound_192 : decode cX11_tellFound 192 = .ok (.iload 4, 2) := by decide +kernel
theorem dX11_tellFound_194 : decode cX11_tellFound 194 = .ok (.iload 6, 2) := by decide +kernel
theorem dX11_tellFound_196 : decode cX11_tellFound 196 = .ok (.imul, 1) := by decide +kernel
theorem dX11_tellFound_197 : decode cX11_tellFound 197 = .ok (.iadd, 1) := by decide +kernel
theorem dX11_tellFound_198 : decode cX11_tellFound 198 = .ok (.iastore, 1) := by decide +kernel
theorem dX11_tellFound_199 : decode cX11_tellFound 199 = .ok (.iinc 5 1, 3) := by decide +kernel
theorem dX11_tellFound_202 : decode cX11_tellFound 202 = .ok (.goto (-66), 3) := by decide +kernel
theorem dX11_tellFound_205 : decode cX11_tellFound 205 = .ok (.iload 4, 2) := by decide +kernel
theorem dX11_tellFound_207 : decode cX11_tellFound 207 = .ok (.ireturn, 1) := by decide +kernel
abbrev nd_X11_tellFound : List Nat := [0, 1, 2, 6, 11, 12, 13, 14, 15, 22, 23, 24, 25, 38, 39]
abbrev ld_X11_tellFound : List (Nat × Nat) := [(0, 0), (0, 1), (0, 3), (1, 0), (1, 2), (2, 3), (11, 0), (11, 1), (11, 2), (11, 3), (22, 0), (22, 1), (22, 2), (38, 1)]
theorem sn_X11_tellFound_X11_pairOf : ∀ c ∈ nd_X11_pairOf, c ∈ nd_X11_tellFound := by decide
theorem sl_X11_tellFound_X11_pairOf : ∀ q ∈ ld_X11_pairOf, q ∈ ld_X11_tellFound := by decide
theorem sn_X11_tellFound_X6_note : ∀ c ∈ nd_X6_note, c ∈ nd_X11_tellFound := by decide
theorem sl_X11_tellFound_X6_note : ∀ q ∈ ld_X6_note, q ∈ ld_X11_tellFound := by decide
theorem sn_X11_tellFound_X0_write_r38 : ∀ c ∈ nd_X0_write_r38, c ∈ nd_X11_tellFound := by decide
theorem sl_X11_tellFound_X0_write_r38 : ∀ q ∈ ld_X0_write_r38, q ∈ ld_X11_tellFound := by decide
theorem sn_X11_tellFound_X3_quartersOf : ∀ c ∈ nd_X3_quartersOf, c ∈ nd_X11_tellFound := by decide
theorem sl_X11_tellFound_X3_quartersOf : ∀ q ∈ ld_X3_quartersOf, q ∈ ld_X11_tellFound := by decide
theorem sn_X11_tellFound_X4_draw : ∀ c ∈ nd_X4_draw, c ∈ nd_X11_tellFound := by decide
theorem sl_X11_tellFound_X4_draw : ∀ q ∈ ld_X4_draw, q ∈ ld_X11_tellFound := by decide
def f_X11_tellFound_136  : Nat → Int32 → Int32 → zH → zR
  | 0 => fun _ _ _ => none
  | n + 1 => fun x4 x5 h => (if (6 : Int32) ≤ x5 then (some (x4, h)) else (zbd (f_X3_quartersOf (h 38 9) x5 h) fun r10 h11 => (zbd (f_X3_quartersOf (h11 38 10) x5 h11) fun r12 h13 => (zlt (r10 + r12) fun y14 => (zck x5 6 (zck x5 6 (zst (zup h13 14 (Int32.toNatClampNeg x5) ((h13 14 (Int32.toNatClampNeg x5)) + (x4 * y14))) fun h15 => (zlt (x5 + (1 : Int32)) fun y16 => (f_X11_tellFound_136  n x4 y16 h15)))))))))
def f_X11_tellFound_121  (s0 : Int32) (h : zH) : zR := (zbd (f_X0_write_r38 s0 h) fun r8 h9 => (f_X11_tellFound_136  zN s0 (0 : Int32) h9))
def f_X11_tellFound_105  (s0 : Int32) (h : zH) : zR := (if s0 = 0 then (f_X11_tellFound_121  (h 38 11) h) else (f_X11_tellFound_121  (0 : Int32) h))
def f_X11_tellFound_104  (h : zH) : zR := (f_X11_tellFound_105  (0 : Int32) h)
def f_X11_tellFound  (h : zH) : zR := (zbd (f_X11_pairOf (h 38 9) (h 38 10) h) fun r1 h2 => (zck r1 256 (zbd (f_X6_note r1 (h2 13 (Int32.toNatClampNeg r1)) h2) fun r3 h4 => (zck r1 256 (zck r1 256 (zst (zup h4 12 (Int32.toNatClampNeg r1) ((h4 12 (Int32.toNatClampNeg r1)) + (1 : Int32))) fun h5 => (zck r1 256 (zst (zup h5 13 (Int32.toNatClampNeg r1) (h5 11 5)) fun h6 => (zck r1 256 (zst (zup h6 39 (Int32.toNatClampNeg r1) (-1 : Int32)) fun h7 => (if (h7 1 7) ≤ 0 then (f_X11_tellFound_104   h7) else (zbd (f_X4_draw (1000 : Int32) h7) fun r17 h18 => (if (h18 1 7) ≤ r17 then (f_X11_tellFound_104   h18) else (f_X11_tellFound_105  (1 : Int32) h18))))))))))))))
variable {p : Program} {l : Launch} {e : Env} {s : State} {m : MethodId} {args : Array Value} {below : List Frame} {meth : Method} {c : Code} {G : zG} {q : Int32 × zH}
set_option maxHeartbeats 4000000 in
set_option maxRecDepth 100000 in
theorem w_X11_tellFound_136  (C : zC G p s m args meth c cX11_tellFound 7 RX11 (some .int)) (hm : ∀ c ∈ nd_X11_tellFound, c ∈ znm G) (hk : ∀ q ∈ ld_X11_tellFound, zlk G q.1 q.2 = true)  : ∀ n, ∀ (ls : Array Slot) (H : Heap) (locs : List Loc) (h : zH) (x4 : Int32) (x5 : Int32), lv_has ls 7 [(0, .ref (zal G 0)), (2, .ref (zal G 11)), (4, .int x4), (5, .int x5)] → zS G h s.heap H locs → f_X11_tellFound_136  n x4 x5 h = some q → W p l e (zrm (3)) s m args below meth c H locs 0 0 (MQ below (zQI G q.2 q.1) args s 0 0 (zA G)) (F0 m 136 ls []) := by
  intro n
  induction n with
  | zero => intro ls H locs h x4 x5 hl hS hf; cases hf
  | succ n ih =>
    intro ls H locs h x4 x5 hl hS hf
    rw [f_X11_tellFound_136] at hf
    refine lv_iload C.1 C.2.1 dX11_tellFound_136 (lv_at hl 3 rfl) ?_
    refine lv_bipush (v := (6 : Int32)) C.1 C.2.1 dX11_tellFound_138 rfl ?_
    refine lv_icmp_ge (tgt := 205) C.1 C.2.1 dX11_tellFound_140 (by decide) (fun hc => ?_) (fun hc => ?_)
    · have hf := zif_t hc hf
      refine lv_iload C.1 C.2.1 dX11_tellFound_205 (lv_at hl 2 rfl) ?_
      exact zretI C hS hf dX11_tellFound_207
    · have hf := zif_f hc hf
      refine lv_aload_n C.1 C.2.1 dX11_tellFound_143 rfl (lv_at hl 0 rfl) ?_
      refine zgetR C hS ff_X11_12_0 (hm 0 (by decide)) (hk (0, 0) (by decide)) dX11_tellFound_144 ?_
      refine zgetR C hS ff_X11_54_1 (hm 1 (by decide)) (hk (1, 0) (by decide)) dX11_tellFound_147 ?_
      refine lv_aload_n C.1 C.2.1 dX11_tellFound_150 rfl (lv_at hl 0 rfl) ?_
      refine zgetR C hS ff_X11_35_0 (hm 0 (by decide)) (hk (0, 3) (by decide)) dX11_tellFound_151 ?_
      refine zgetI C hS ff_X11_209_38 (hm 38 (by decide)) dX11_tellFound_154 ?_
      refine lv_iload C.1 C.2.1 dX11_tellFound_157 (lv_at hl 3 rfl) ?_
      obtain ⟨r10, h11, er10, hf⟩ := zbd_some hf
      refine zcallVI (As := [.int (h 38 9), .int x5]) (rest := []) C hS mv_X11_71 (c_X3_quartersOf l G h (h 38 9) x5 (r10, h11) (fun c h => hm c (sn_X11_tellFound_X3_quartersOf c h)) (fun q h => hk q (sl_X11_tellFound_X3_quartersOf q h)) er10) (hm 2 (by decide)) ⟨_, _, _, sh_2, rfl, rfl⟩ rfl rfl (Nat.le_of_ble_eq_true rfl) hl.1 ⟨Nat.le_of_ble_eq_true rfl, Nat.le_of_ble_eq_true rfl, Nat.le_of_ble_eq_true rfl, Nat.le_of_ble_eq_true rfl⟩ dX11_tellFound_159 (fun H locs hS => ?_)
      refine lv_aload_n C.1 C.2.1 dX11_tellFound_162 rfl (lv_at hl 0 rfl) ?_
      refine zgetR C hS ff_X11_12_0 (hm 0 (by decide)) (hk (0, 0) (by decide)) dX11_tellFound_163 ?_
      refine zgetR C hS ff_X11_54_1 (hm 1 (by decide)) (hk (1, 0) (by decide)) dX11_tellFound_166 ?_
      refine lv_aload_n C.1 C.2.1 dX11_tellFound_169 rfl (lv_at hl 0 rfl) ?_
      refine zgetR C hS ff_X11_35_0 (hm 0 (by decide)) (hk (0, 3) (by decide)) dX11_tellFound_170 ?_
      refine zgetI C hS ff_X11_212_38 (hm 38 (by decide)) dX11_tellFound_173 ?_
      refine lv_iload C.1 C.2.1 dX11_tellFound_176 (lv_at hl 3 rfl) ?_
      obtain ⟨r12, h13, er12, hf⟩ := zbd_some hf
      refine zcallVI (As := [.int (h11 38 10), .int x5]) (rest := [.int r10]) C hS mv_X11_71 (c_X3_quartersOf l G h11 (h11 38 10) x5 (r12, h13) (fun c h => hm c (sn_X11_tellFound_X3_quartersOf c h)) (fun q h => hk q (sl_X11_tellFound_X3_quartersOf q h)) er12) (hm 2 (by decide)) ⟨_, _, _, sh_2, rfl, rfl⟩ rfl rfl (Nat.le_of_ble_eq_true rfl) hl.1 ⟨Nat.le_of_ble_eq_true rfl, Nat.le_of_ble_eq_true rfl, Nat.le_of_ble_eq_true rfl, Nat.le_of_ble_eq_true rfl⟩ dX11_tellFound_178 (fun H locs hS => ?_)
      refine lv_iadd C.1 C.2.1 dX11_tellFound_181 ?_
      obtain ⟨y14, ey14, hf⟩ := zlt_some hf
      refine ztop ey14 ?_
      refine lv_istore (lv' := [(6, .int y14), (0, .ref (zal G 0)), (2, .ref (zal G 11)), (4, .int x4), (5, .int x5)]) C.1 C.2.1 dX11_tellFound_182 hl (by decide) rfl (fun ls hl => ?_)
      refine lv_aload_n C.1 C.2.1 dX11_tellFound_184 rfl (lv_at hl 2 rfl) ?_
      refine zgetR C hS ff_X11_225_11 (hm 11 (by decide)) (hk (11, 2) (by decide)) dX11_tellFound_185 ?_
      refine lv_iload C.1 C.2.1 dX11_tellFound_188 (lv_at hl 4 rfl) ?_
      refine lv_dup2_11 C.1 C.2.1 dX11_tellFound_190 rfl rfl ?_
      obtain ⟨hi, hf⟩ := zck_some hf
      refine zald C hS sh_14 (hm 14 (by decide)) hi dX11_tellFound_191 ?_
      refine lv_iload C.1 C.2.1 dX11_tellFound_192 (lv_at hl 3 rfl) ?_
      refine lv_iload C.1 C.2.1 dX11_tellFound_194 (lv_at hl 0 rfl) ?_
      refine lv_imul C.1 C.2.1 dX11_tellFound_196 ?_
      refine lv_iadd C.1 C.2.1 dX11_tellFound_197 ?_
      obtain ⟨hi, hf⟩ := zck_some hf
      refine zast C hS sh_14 (hm 14 (by decide)) hi dX11_tellFound_198 (fun H locs hS => ?_)
      obtain ⟨h15, eh15, hf⟩ := zst_some hf
      have hS : zS G h15 s.heap H locs := by rw [eh15]; exact hS
      obtain ⟨y16, ey16, hf⟩ := zlt_some hf
      refine lv_iinc (v := y16) (lv' := [(5, .int y16), (6, .int y14), (0, .ref (zal G 0)), (2, .ref (zal G 11)), (4, .int x4)]) C.1 C.2.1 dX11_tellFound_199 hl (k := 4) rfl ey16.symm (by decide) rfl (fun ls hl => ?_)
      refine lv_goto (tgt := 136) C.1 C.2.1 dX11_tellFound_202 (by decide) ?_
      exact ih _ _ _ _ _ _ (lv_sub hl [2, 3, 4, 0] rfl) hS hf
set_option maxHeartbeats 4000000 in
set_option maxRecDepth 100000 in
theorem w_X11_tellFound_121  (C : zC G p s m args meth c cX11_tellFound 7 RX11 (some .int)) (hm : ∀ c ∈ nd_X11_tellFound, c ∈ znm G) (hk : ∀ q ∈ ld_X11_tellFound, zlk G q.1 q.2 = true)  : ∀ (ls : Array Slot) (H : Heap) (locs : List Loc) (h : zH) (s0 : Int32), lv_has ls 7 [(0, .ref (zal G 0)), (2, .ref (zal G 11))] → zS G h s.heap H locs → f_X11_tellFound_121  s0 h = some q → W p l e (zrm (3)) s m args below meth c H locs 0 0 (MQ below (zQI G q.2 q.1) args s 0 0 (zA G)) (F0 m 121 ls [.int s0]) := by
  intro ls H locs h s0 hl hS hf
  unfold f_X11_tellFound_121 at hf
  refine lv_istore (lv' := [(4, .int s0), (0, .ref (zal G 0)), (2, .ref (zal G 11))]) C.1 C.2.1 dX11_tellFound_121 hl (by decide) rfl (fun ls hl => ?_)
  refine lv_aload_n C.1 C.2.1 dX11_tellFound_123 rfl (lv_at hl 2 rfl) ?_
  refine lv_aload_n C.1 C.2.1 dX11_tellFound_124 rfl (lv_at hl 1 rfl) ?_
  refine zgetR C hS ff_X11_35_0 (hm 0 (by decide)) (hk (0, 3) (by decide)) dX11_tellFound_125 ?_
  refine lv_iload C.1 C.2.1 dX11_tellFound_128 (lv_at hl 0 rfl) ?_
  obtain ⟨r8, h9, er8, hf⟩ := zbd_some hf
  refine zcallVV (As := [.ref (zal G 38), .int s0]) (rest := []) C hS mv_X11_337 (c_X0_write_r38 l G h s0 (r8, h9) (fun c h => hm c (sn_X11_tellFound_X0_write_r38 c h)) (fun q h => hk q (sl_X11_tellFound_X0_write_r38 q h)) er8) (hm 11 (by decide)) ⟨_, _, _, sh_11, rfl, rfl⟩ rfl rfl (Nat.le_of_ble_eq_true rfl) hl.1 ⟨Nat.le_of_ble_eq_true rfl, Nat.le_of_ble_eq_true rfl, Nat.le_of_ble_eq_true rfl, Nat.le_of_ble_eq_true rfl⟩ dX11_tellFound_130 (fun H locs hS => ?_)
  refine lv_iconst (v := (0 : Int32)) C.1 C.2.1 dX11_tellFound_133 rfl ?_
  refine lv_istore (lv' := [(5, .int (0 : Int32)), (4, .int s0), (0, .ref (zal G 0)), (2, .ref (zal G 11))]) C.1 C.2.1 dX11_tellFound_134 hl (by decide) rfl (fun ls hl => ?_)
  exact w_X11_tellFound_136 C hm hk  zN _ _ _ _ _ _ (lv_sub hl [2, 3, 1, 0] rfl) hS hf
set_option maxHeartbeats 4000000 in
set_option maxRecDepth 100000 in
theorem w_X11_tellFound_105  (C : zC G p s m args meth c cX11_tellFound 7 RX11 (some .int)) (hm : ∀ c ∈ nd_X11_tellFound, c ∈ znm G) (hk : ∀ q ∈ ld_X11_tellFound, zlk G q.1 q.2 = true)  : ∀ (ls : Array Slot) (H : Heap) (locs : List Loc) (h : zH) (s0 : Int32), lv_has ls 7 [(0, .ref (zal G 0)), (2, .ref (zal G 11))] → zS G h s.heap H locs → f_X11_tellFound_105  s0 h = some q → W p l e (zrm (3)) s m args below meth c H locs 0 0 (MQ below (zQI G q.2 q.1) args s 0 0 (zA G)) (F0 m 105 ls [.int s0]) := by
  intro ls H locs h s0 hl hS hf
  unfold f_X11_tellFound_105 at hf
  refine lv_istore_n (lv' := [(3, .int s0), (0, .ref (zal G 0)), (2, .ref (zal G 11))]) C.1 C.2.1 dX11_tellFound_105 rfl hl (by decide) rfl (fun ls hl => ?_)
  refine lv_iload_n C.1 C.2.1 dX11_tellFound_106 rfl (lv_at hl 0 rfl) ?_
  refine lv_if_eq (tgt := 114) C.1 C.2.1 dX11_tellFound_107 (by decide) (fun hc => ?_) (fun hc => ?_)
  · have hf := zif_t hc hf
    refine lv_aload_n C.1 C.2.1 dX11_tellFound_114 rfl (lv_at hl 1 rfl) ?_
    refine zgetR C hS ff_X11_35_0 (hm 0 (by decide)) (hk (0, 3) (by decide)) dX11_tellFound_115 ?_
    refine zgetI C hS ff_X11_218_38 (hm 38 (by decide)) dX11_tellFound_118 ?_
    exact w_X11_tellFound_121 C hm hk  _ _ _ _ _ (lv_sub hl [1, 2] rfl) hS hf
  · have hf := zif_f hc hf
    refine lv_iconst (v := (0 : Int32)) C.1 C.2.1 dX11_tellFound_110 rfl ?_
    refine lv_goto (tgt := 121) C.1 C.2.1 dX11_tellFound_111 (by decide) ?_
    exact w_X11_tellFound_121 C hm hk  _ _ _ _ _ (lv_sub hl [1, 2] rfl) hS hf
set_option maxHeartbeats 4000000 in
set_option maxRecDepth 100000 in
theorem w_X11_tellFound_104  (C : zC G p s m args meth c cX11_tellFound 7 RX11 (some .int)) (hm : ∀ c ∈ nd_X11_tellFound, c ∈ znm G) (hk : ∀ q ∈ ld_X11_tellFound, zlk G q.1 q.2 = true)  : ∀ (ls : Array Slot) (H : Heap) (locs : List Loc) (h : zH), lv_has ls 7 [(0, .ref (zal G 0)), (2, .ref (zal G 11))] → zS G h s.heap H locs → f_X11_tellFound_104  h = some q → W p l e (zrm (3)) s m args below meth c H locs 0 0 (MQ below (zQI G q.2 q.1) args s 0 0 (zA G)) (F0 m 104 ls []) := by
  intro ls H locs h hl hS hf
  unfold f_X11_tellFound_104 at hf
  refine lv_iconst (v := (0 : Int32)) C.1 C.2.1 dX11_tellFound_104 rfl ?_
  exact w_X11_tellFound_105 C hm hk  _ _ _ _ _ (lv_sub hl [0, 1] rfl) hS hf
set_option maxHeartbeats 4000000 in
set_option maxRecDepth 100000 in
theorem c_X11_tellFound (l : Launch) (G : zG) (h : zH) (q : Int32 × zH) (hm : ∀ c ∈ nd_X11_tellFound, c ∈ znm G) (hk : ∀ q ∈ ld_X11_tellFound, zlk G q.1 q.2 = true) (hf : f_X11_tellFound h = some q) : zCtI l yX11_tellFound cX11_tellFound 7 (some .int) (3) [.ref (zal G 0)] G h q.2 q.1 := by
  refine zMetI (by decide) (Nat.le_of_ble_eq_true rfl) ?_
  intro p e s m below meth c ls C hl hS
  have hl : lv_has ls 7 [(0, .ref (zal G 0))] := hl
  have C : zC G p s m [.ref (zal G 0)].toArray meth c cX11_tellFound 7 RX11 (some .int) := C
  unfold f_X11_tellFound at hf
  refine lv_aload_n C.1 C.2.1 dX11_tellFound_0 rfl (lv_at hl 0 rfl) ?_
  refine zgetR C hS ff_X11_35_0 (hm 0 (by decide)) (hk (0, 3) (by decide)) dX11_tellFound_1 ?_
  refine zgetI C hS ff_X11_209_38 (hm 38 (by decide)) dX11_tellFound_4 ?_
  refine lv_aload_n C.1 C.2.1 dX11_tellFound_7 rfl (lv_at hl 0 rfl) ?_
  refine zgetR C hS ff_X11_35_0 (hm 0 (by decide)) (hk (0, 3) (by decide)) dX11_tellFound_8 ?_
  refine zgetI C hS ff_X11_212_38 (hm 38 (by decide)) dX11_tellFound_11 ?_
  obtain ⟨r1, h2, er1, hf⟩ := zbd_some hf
  refine zcallSI (As := [.int (h 38 9), .int (h 38 10)]) (rest := []) C hS ms_X11_191 (c_X11_pairOf l G h (h 38 9) (h 38 10) (r1, h2) (fun c h => hm c (sn_X11_tellFound_X11_pairOf c h)) (fun q h => hk q (sl_X11_tellFound_X11_pairOf q h)) er1) rfl rfl (Nat.le_of_ble_eq_true rfl) hl.1 ⟨Nat.le_of_ble_eq_true rfl, Nat.le_of_ble_eq_true rfl, Nat.le_of_ble_eq_true rfl, Nat.le_of_ble_eq_true rfl⟩ dX11_tellFound_14 (fun H locs hS => ?_)
  refine lv_istore_n (lv' := [(1, .int r1), (0, .ref (zal G 0))]) C.1 C.2.1 dX11_tellFound_17 rfl hl (by decide) rfl (fun ls hl => ?_)
  refine lv_aload_n C.1 C.2.1 dX11_tellFound_18 rfl (lv_at hl 1 rfl) ?_
  refine zgetR C hS ff_X11_12_0 (hm 0 (by decide)) (hk (0, 0) (by decide)) dX11_tellFound_19 ?_
  refine zgetR C hS ff_X11_154_1 (hm 1 (by decide)) (hk (1, 2) (by decide)) dX11_tellFound_22 ?_
  refine lv_astore_n (lv' := [(2, .ref (zal G 11)), (1, .int r1), (0, .ref (zal G 0))]) C.1 C.2.1 dX11_tellFound_25 rfl hl (by decide) rfl (fun ls hl => ?_)
  refine lv_aload_n C.1 C.2.1 dX11_tellFound_26 rfl (lv_at hl 2 rfl) ?_
  refine zgetR C hS ff_X11_19_0 (hm 0 (by decide)) (hk (0, 1) (by decide)) dX11_tellFound_27 ?_
  refine lv_iload_n C.1 C.2.1 dX11_tellFound_30 rfl (lv_at hl 1 rfl) ?_
  refine lv_aload_n C.1 C.2.1 dX11_tellFound_31 rfl (lv_at hl 0 rfl) ?_
  refine zgetR C hS ff_X11_325_11 (hm 11 (by decide)) (hk (11, 1) (by decide)) dX11_tellFound_32 ?_
  refine lv_iload_n C.1 C.2.1 dX11_tellFound_35 rfl (lv_at hl 1 rfl) ?_
  obtain ⟨hi, hf⟩ := zck_some hf
  refine zald C hS sh_13 (hm 13 (by decide)) hi dX11_tellFound_36 ?_
  obtain ⟨r3, h4, er3, hf⟩ := zbd_some hf
  refine zcallVV (As := [.int r1, .int (h2 13 (Int32.toNatClampNeg r1))]) (rest := []) C hS mv_X11_328 (c_X6_note l G h2 r1 (h2 13 (Int32.toNatClampNeg r1)) (r3, h4) (fun c h => hm c (sn_X11_tellFound_X6_note c h)) (fun q h => hk q (sl_X11_tellFound_X6_note q h)) er3) (hm 22 (by decide)) ⟨_, _, _, sh_22, rfl, rfl⟩ rfl rfl (Nat.le_of_ble_eq_true rfl) hl.1 ⟨Nat.le_of_ble_eq_true rfl, Nat.le_of_ble_eq_true rfl, Nat.le_of_ble_eq_true rfl, Nat.le_of_ble_eq_true rfl⟩ dX11_tellFound_37 (fun H locs hS => ?_)
  refine lv_aload_n C.1 C.2.1 dX11_tellFound_40 rfl (lv_at hl 0 rfl) ?_
  refine zgetR C hS ff_X11_188_11 (hm 11 (by decide)) (hk (11, 0) (by decide)) dX11_tellFound_41 ?_
  refine lv_iload_n C.1 C.2.1 dX11_tellFound_44 rfl (lv_at hl 1 rfl) ?_
  refine lv_dup2_11 C.1 C.2.1 dX11_tellFound_45 rfl rfl ?_
  obtain ⟨hi, hf⟩ := zck_some hf
  refine zald C hS sh_12 (hm 12 (by decide)) hi dX11_tellFound_46 ?_
  refine lv_iconst (v := (1 : Int32)) C.1 C.2.1 dX11_tellFound_47 rfl ?_
  refine lv_iadd C.1 C.2.1 dX11_tellFound_48 ?_
  obtain ⟨hi, hf⟩ := zck_some hf
  refine zast C hS sh_12 (hm 12 (by decide)) hi dX11_tellFound_49 (fun H locs hS => ?_)
  obtain ⟨h5, eh5, hf⟩ := zst_some hf
  have hS : zS G h5 s.heap H locs := by rw [eh5]; exact hS
  refine lv_aload_n C.1 C.2.1 dX11_tellFound_50 rfl (lv_at hl 0 rfl) ?_
  refine zgetR C hS ff_X11_325_11 (hm 11 (by decide)) (hk (11, 1) (by decide)) dX11_tellFound_51 ?_
  refine lv_iload_n C.1 C.2.1 dX11_tellFound_54 rfl (lv_at hl 1 rfl) ?_
  refine lv_aload_n C.1 C.2.1 dX11_tellFound_55 rfl (lv_at hl 0 rfl) ?_
  refine zgetI C hS ff_X11_158_11 (hm 11 (by decide)) dX11_tellFound_56 ?_
  obtain ⟨hi, hf⟩ := zck_some hf
  refine zast C hS sh_13 (hm 13 (by decide)) hi dX11_tellFound_59 (fun H locs hS => ?_)
  obtain ⟨h6, eh6, hf⟩ := zst_some hf
  have hS : zS G h6 s.heap H locs := by rw [eh6]; exact hS
  refine lv_aload_n C.1 C.2.1 dX11_tellFound_60 rfl (lv_at hl 2 rfl) ?_
  refine zgetR C hS ff_X11_35_0 (hm 0 (by decide)) (hk (0, 3) (by decide)) dX11_tellFound_61 ?_
  refine zgetR C hS ff_X11_331_38 (hm 38 (by decide)) (hk (38, 1) (by decide)) dX11_tellFound_64 ?_
  refine lv_iload_n C.1 C.2.1 dX11_tellFound_67 rfl (lv_at hl 1 rfl) ?_
  refine lv_iconst (v := (-1 : Int32)) C.1 C.2.1 dX11_tellFound_68 rfl ?_
  obtain ⟨hi, hf⟩ := zck_some hf
  refine zast C hS sh_39 (hm 39 (by decide)) hi dX11_tellFound_69 (fun H locs hS => ?_)
  obtain ⟨h7, eh7, hf⟩ := zst_some hf
  have hS : zS G h7 s.heap H locs := by rw [eh7]; exact hS
  refine lv_aload_n C.1 C.2.1 dX11_tellFound_70 rfl (lv_at hl 2 rfl) ?_
  refine zgetR C hS ff_X11_12_0 (hm 0 (by decide)) (hk (0, 0) (by decide)) dX11_tellFound_71 ?_
  refine zgetI C hS ff_X11_116_1 (hm 1 (by decide)) dX11_tellFound_74 ?_
  refine lv_if_le (tgt := 104) C.1 C.2.1 dX11_tellFound_77 (by decide) (fun hc => ?_) (fun hc => ?_)
  · have hf := zif_t hc hf
    exact w_X11_tellFound_104 C hm hk  _ _ _ _ (lv_sub hl [2, 0] rfl) hS hf
  · have hf := zif_f hc hf
    refine lv_aload_n C.1 C.2.1 dX11_tellFound_80 rfl (lv_at hl 2 rfl) ?_
    refine zgetR C hS ff_X11_12_0 (hm 0 (by decide)) (hk (0, 0) (by decide)) dX11_tellFound_81 ?_
    refine lv_sipush (v := (1000 : Int32)) C.1 C.2.1 dX11_tellFound_84 rfl ?_
    obtain ⟨r17, h18, er17, hf⟩ := zbd_some hf
    refine zcallVI (As := [.int (1000 : Int32)]) (rest := []) C hS mv_X11_334 (c_X4_draw l G h7 (1000 : Int32) (r17, h18) (fun c h => hm c (sn_X11_tellFound_X4_draw c h)) (fun q h => hk q (sl_X11_tellFound_X4_draw q h)) er17) (hm 1 (by decide)) ⟨_, _, _, sh_1, rfl, rfl⟩ rfl rfl (Nat.le_of_ble_eq_true rfl) hl.1 ⟨Nat.le_of_ble_eq_true rfl, Nat.le_of_ble_eq_true rfl, Nat.le_of_ble_eq_true rfl, Nat.le_of_ble_eq_true rfl⟩ dX11_tellFound_87 (fun H locs hS => ?_)
    refine lv_aload_n C.1 C.2.1 dX11_tellFound_90 rfl (lv_at hl 2 rfl) ?_
    refine zgetR C hS ff_X11_12_0 (hm 0 (by decide)) (hk (0, 0) (by decide)) dX11_tellFound_91 ?_
    refine zgetI C hS ff_X11_116_1 (hm 1 (by decide)) dX11_tellFound_94 ?_
    refine lv_icmp_ge (tgt := 104) C.1 C.2.1 dX11_tellFound_97 (by decide) (fun hc => ?_) (fun hc => ?_)
    · have hf := zif_t hc hf
      exact w_X11_tellFound_104 C hm hk  _ _ _ _ (lv_sub hl [2, 0] rfl) hS hf
    · have hf := zif_f hc hf
      refine lv_iconst (v := (1 : Int32)) C.1 C.2.1 dX11_tellFound_100 rfl ?_
      refine lv_goto (tgt := 105) C.1 C.2.1 dX11_tellFound_101 (by decide) ?_
      exact w_X11_tellFound_105 C hm hk  _ _ _ _ _ (lv_sub hl [2, 0] rfl) hS hf
end
section
theorem dX11_spendEvening_0 : decode cX11_spendEvening 0 = .ok (.aload_n 0, 1) := by decide +kernel
theorem dX11_spendEvening_1 : decode cX11_spendEvening 1 = .ok (.getfield 19, 3) := by decide +kernel
theorem dX11_spendEvening_4 : decode cX11_spendEvening 4 = .ok (.aload_n 0, 1) := by decide +kernel
theorem dX11_spendEvening_5 : decode cX11_spendEvening 5 = .ok (.getfield 12, 3) := by decide +kernel
theorem dX11_spendEvening_8 : decode cX11_spendEvening 8 = .ok (.invokevirtual 319, 3) := by decide +kernel
theorem dX11_spendEvening_11 : decode cX11_spendEvening 11 = .ok (.aload_n 0, 1) := by decide +kernel
theorem dX11_spendEvening_12 : decode cX11_spendEvening 12 = .ok (.getfield 35, 3) := by decide +kernel
theorem dX11_spendEvening_15 : decode cX11_spendEvening 15 = .ok (.invokevirtual 197, 3) := by decide +kernel
theorem dX11_spendEvening_18 : decode cX11_spendEvening 18 = .ok (.iconst 0, 1) := by decide +kernel
theorem dX11_spendEvening_19 : decode cX11_spendEvening 19 = .ok (.istore_n 1, 1) := by decide +kernel
theorem dX11_spendEvening_20 : decode cX11_spendEvening 20 = .ok (.aload_n 0, 1) := by decide +kernel
theorem dX11_spendEvening_21 : decode cX11_spendEvening 21 = .ok (.getfield 12, 3) := by decide +kernel
theorem dX11_spendEvening_24 : decode cX11_spendEvening 24 = .ok (.getfield 90, 3) := by decide +kernel
theorem dX11_spendEvening_27 : decode cX11_spendEvening 27 = .ok (.astore_n 2, 1) := by decide +kernel
theorem dX11_spendEvening_28 : decode cX11_spendEvening 28 = .ok (.iconst 0, 1) := by decide +kernel
theorem dX11_spendEvening_29 : decode cX11_spendEvening 29 = .ok (.istore_n 3, 1) := by decide +kernel
theorem dX11_spendEvening_30 : decode cX11_spendEvening 30 = .ok (.iload_n 3, 1) := by decide +kernel
theorem dX11_spendEvening_31 : decode cX11_spendEvening 31 = .ok (.aload_n 2, 1) := by decide +kernel
theorem dX11_spendEvening_32 : decode cX11_spendEvening 32 = .ok (.getfield 194, 3) := by decide +kernel
theorem dX11_spendEvening_35 : decode cX11_spendEvening 35 = .ok (.if_icmp .ge 42, 3) := by decide +kernel
theorem dX11_spendEvening_38 : decode cX11_spendEvening 38 = .ok (.aload_n 0, 1) := by decide +kernel
theorem dX11_spendEvening_39 : decode cX11_spendEvening 39 = .ok (.getfield 35, 3) := by decide +kernel
theorem dX11_spendEvening_42 : decode cX11_spendEvening 42 = .ok (.aload_n 2, 1) := by decide +kernel
theorem dX11_spendEvening_43 : decode cX11_spendEvening 43 = .ok (.getfield 200, 3) := by decide +kernel
theorem dX11_spendEvening_46 : decode cX11_spendEvening 46 = .ok (.iload_n 3, 1) := by decide +kernel
theorem dX11_spendEvening_47 : decode cX11_spendEvening 47 = .ok (.iaload, 1) := by decide +kernel
theorem dX11_spendEvening_48 : decode cX11_spendEvening 48 = .ok (.aload_n 2, 1) := by decide +kernel
theorem dX11_spendEvening_49 : decode cX11_spendEvening 49 = .ok (.getfield 200, 3) := by decide +kernel
theorem dX11_spendEvening_52 : decode cX11_spendEvening 52 = .ok (.aload_n 2, 1) := by decide +kernel
theorem dX11_spendEvening_53 : decode cX11_spendEvening 53 = .ok (.iload_n 3, 1) := by decide +kernel
theorem dX11_spendEvening_54 : decode cX11_spendEvening 54 = .ok (.invokevirtual 203, 3) := by decide +kernel
theorem dX11_spendEvening_57 : decode cX11_spendEvening 57 = .ok (.iaload, 1) := by decide +kernel
theorem dX11_spendEvening_58 : decode cX11_spendEvening 58 = .ok (.invokevirtual 206, 3) := by decide +kernel
theorem dX11_spendEvening_61 : decode cX11_spendEvening 61 = .ok (.ifCond .eq 10, 3) := by decide +kernel
theorem dX11_spendEvening_64 : decode cX11_spendEvening 64 = .ok (.iload_n 1, 1) := by decide +kernel
theorem dX11_spendEvening_65 : decode cX11_spendEvening 65 = .ok (.aload_n 0, 1) := by decide +kernel
theorem dX11_spendEvening_66 : decode cX11_spendEvening 66 = .ok (.invokevirtual 322, 3) := by decide +kernel
theorem dX11_spendEvening_69 : decode cX11_spendEvening 69 = .ok (.iadd, 1) := by decide +kernel
theorem dX11_spendEvening_70 : decode cX11_spendEvening 70 = .ok (.istore_n 1, 1) := by decide +kernel
theorem dX11_spendEvening_71 : decode cX11_spendEvening 71 = .ok (.iinc 3 1, 3) := by decide +kernel
theorem dX11_spendEvening_74 : decode cX11_spendEvening 74 = .ok (.goto (-44), 3) := by decide +kernel
theorem dX11_spendEvening_77 : decode cX11_spendEvening 77 = .ok (.aload_n 0, 1) := by decide +kernel
theorem dX11_spendEvening_78 : decode cX11_spendEvening 78 = .ok (.getfield 12, 3) := by decide +kernel
theorem dX11_spendEvening_81 : decode cX11_spendEvening 81 = .ok (.getfield 154, 3) := by decide +kernel
theorem dX11_spendEvening_84 : decode cX11_spendEvening 84 = .ok (.dup, 1) := by decide +kernel
theorem dX11_spendEvening_85 : decode cX11_spendEvening 85 = .ok (.getfield 158, 3) := by decide +kernel
theorem dX11_spendEvening_88 : decode cX11_spendEvening 88 = .ok (.iconst 1, 1) := by decide +kernel
theorem dX11_spendEvening_89 : decode cX11_spendEvening 89 = .ok (.iadd, 1) := by decide +kernel
theorem dX11_spendEvening_90 : decode cX11_spendEvening 90 = .ok (.putfield 158, 3) := by decide +kernel
theorem dX11_spendEvening_93 : decode cX11_spendEvening 93 = .ok (.iload_n 1, 1) := by decide +kernel
theorem dX11_spendEvening_94 : decode cX11_spendEvening 94 = .ok (.ireturn, 1) := by decide +kernel
abbrev nd_X11_spendEvening : List Nat := [0, 1, 2, 3, 4, 5, 6, 7, 8, 10, 11, 12, 13, 14, 15, 16, 17, 18, 19, 20, 21, 22, 23, 24, 25, 26, 27, 28, 38, 39, 40, 41]
abbrev ld_X11_spendEvening : List (Nat × Nat) := [(0, 0), (0, 1), (0, 3), (1, 0), (1, 1), (1, 2), (1, 3), (1, 4), (1, 5), (2, 0), (2, 1), (2, 2), (2, 3), (7, 0), (7, 2), (11, 0), (11, 1), (11, 2), (11, 3), (16, 0), (16, 1), (16, 2), (22, 0), (22, 1), (22, 2), (22, 3), (22, 4), (22, 5), (38, 0), (38, 1), (38, 2), (38, 3)]
theorem sn_X11_spendEvening_X6_keep_r1 : ∀ c ∈ nd_X6_keep_r1, c ∈ nd_X11_spendEvening := by decide
theorem sl_X11_spendEvening_X6_keep_r1 : ∀ q ∈ ld_X6_keep_r1, q ∈ ld_X11_spendEvening := by decide
theorem sn_X11_spendEvening_X1_begin : ∀ c ∈ nd_X1_begin, c ∈ nd_X11_spendEvening := by decide
theorem sl_X11_spendEvening_X1_begin : ∀ q ∈ ld_X1_begin, q ∈ ld_X11_spendEvening := by decide
theorem sn_X11_spendEvening_X9_beside : ∀ c ∈ nd_X9_beside, c ∈ nd_X11_spendEvening := by decide
theorem sl_X11_spendEvening_X9_beside : ∀ q ∈ ld_X9_beside, q ∈ ld_X11_spendEvening := by decide
theorem sn_X11_spendEvening_X1_findBetween : ∀ c ∈ nd_X1_findBetween, c ∈ nd_X11_spendEvening := by decide
theorem sl_X11_spendEvening_X1_findBetween : ∀ q ∈ ld_X1_findBetween, q ∈ ld_X11_spendEvening := by decide
theorem sn_X11_spendEvening_X11_tellFound : ∀ c ∈ nd_X11_tellFound, c ∈ nd_X11_spendEvening := by decide
theorem sl_X11_spendEvening_X11_tellFound : ∀ q ∈ ld_X11_tellFound, q ∈ ld_X11_spendEvening := by decide
def f_X11_spendEvening_71 (k30 : Int32 → Int32 → zH → zR) (x1 : Int32) (x3 : Int32) (h : zH) : zR := (zlt (x3 + (1 : Int32)) fun y10 => (k30 x1 y10 h))
def f_X11_spendEvening_30  : Nat → Int32 → Int32 → zH → zR
  | 0 => fun _ _ _ => none
  | n + 1 => fun x1 x3 h => (if (h 7 3) ≤ x3 then (zst (zup h 11 5 ((h 11 5) + (1 : Int32))) fun h5 => (some (x1, h5))) else (zck x3 8 (zbd (f_X9_beside x3 h) fun r6 h7 => (zck r6 8 (zbd (f_X1_findBetween (h 10 (Int32.toNatClampNeg x3)) (h7 10 (Int32.toNatClampNeg r6)) h7) fun r8 h9 => (if r8 = 0 then (f_X11_spendEvening_71 (f_X11_spendEvening_30  n) x1 x3 h9) else (zbd (f_X11_tellFound  h9) fun r11 h12 => (zlt (x1 + r11) fun y13 => (f_X11_spendEvening_71 (f_X11_spendEvening_30  n) y13 x3 h12)))))))))
def f_X11_spendEvening  (h : zH) : zR := (zbd (f_X6_keep_r1  h) fun r1 h2 => (zbd (f_X1_begin  h2) fun r3 h4 => (f_X11_spendEvening_30  zN (0 : Int32) (0 : Int32) h4)))
variable {p : Program} {l : Launch} {e : Env} {s : State} {m : MethodId} {args : Array Value} {below : List Frame} {meth : Method} {c : Code} {G : zG} {q : Int32 × zH}
set_option maxHeartbeats 4000000 in
set_option maxRecDepth 100000 in
theorem w_X11_spendEvening_71 {k30 : Int32 → Int32 → zH → zR} (C : zC G p s m args meth c cX11_spendEvening 4 RX11 (some .int)) (hm : ∀ c ∈ nd_X11_spendEvening, c ∈ znm G) (hk : ∀ q ∈ ld_X11_spendEvening, zlk G q.1 q.2 = true) (hk30 : ∀ (ls : Array Slot) (H : Heap) (locs : List Loc) (h : zH) (x1 : Int32) (x3 : Int32), lv_has ls 4 [(0, .ref (zal G 0)), (1, .int x1), (2, .ref (zal G 7)), (3, .int x3)] → zS G h s.heap H locs → k30 x1 x3 h = some q → W p l e (zrm (7)) s m args below meth c H locs 0 0 (MQ below (zQI G q.2 q.1) args s 0 0 (zA G)) (F0 m 30 ls [])) : ∀ (ls : Array Slot) (H : Heap) (locs : List Loc) (h : zH) (x1 : Int32) (x3 : Int32), lv_has ls 4 [(0, .ref (zal G 0)), (1, .int x1), (2, .ref (zal G 7)), (3, .int x3)] → zS G h s.heap H locs → f_X11_spendEvening_71 k30 x1 x3 h = some q → W p l e (zrm (7)) s m args below meth c H locs 0 0 (MQ below (zQI G q.2 q.1) args s 0 0 (zA G)) (F0 m 71 ls []) := by
  intro ls H locs h x1 x3 hl hS hf
  unfold f_X11_spendEvening_71 at hf
  obtain ⟨y10, ey10, hf⟩ := zlt_some hf
  refine lv_iinc (v := y10) (lv' := [(3, .int y10), (0, .ref (zal G 0)), (1, .int x1), (2, .ref (zal G 7))]) C.1 C.2.1 dX11_spendEvening_71 hl (k := 3) rfl ey10.symm (by decide) rfl (fun ls hl => ?_)
  refine lv_goto (tgt := 30) C.1 C.2.1 dX11_spendEvening_74 (by decide) ?_
  exact hk30 _ _ _ _ _ _ (lv_sub hl [1, 2, 3, 0] rfl) hS hf
set_option maxHeartbeats 4000000 in
set_option maxRecDepth 100000 in
theorem w_X11_spendEvening_30  (C : zC G p s m args meth c cX11_spendEvening 4 RX11 (some .int)) (hm : ∀ c ∈ nd_X11_spendEvening, c ∈ znm G) (hk : ∀ q ∈ ld_X11_spendEvening, zlk G q.1 q.2 = true)  : ∀ n, ∀ (ls : Array Slot) (H : Heap) (locs : List Loc) (h : zH) (x1 : Int32) (x3 : Int32), lv_has ls 4 [(0, .ref (zal G 0)), (1, .int x1), (2, .ref (zal G 7)), (3, .int x3)] → zS G h s.heap H locs → f_X11_spendEvening_30  n x1 x3 h = some q → W p l e (zrm (7)) s m args below meth c H locs 0 0 (MQ below (zQI G q.2 q.1) args s 0 0 (zA G)) (F0 m 30 ls []) := by
  intro n
  induction n with
  | zero => intro ls H locs h x1 x3 hl hS hf; cases hf
  | succ n ih =>
    intro ls H locs h x1 x3 hl hS hf
    rw [f_X11_spendEvening_30] at hf
    refine lv_iload_n C.1 C.2.1 dX11_spendEvening_30 rfl (lv_at hl 3 rfl) ?_
    refine lv_aload_n C.1 C.2.1 dX11_spendEvening_31 rfl (lv_at hl 2 rfl) ?_
    refine zgetI C hS ff_X11_194_7 (hm 7 (by decide)) dX11_spendEvening_32 ?_
    refine lv_icmp_ge (tgt := 77) C.1 C.2.1 dX11_spendEvening_35 (by decide) (fun hc => ?_) (fun hc => ?_)
    · have hf := zif_t hc hf
      refine lv_aload_n C.1 C.2.1 dX11_spendEvening_77 rfl (lv_at hl 0 rfl) ?_
      refine zgetR C hS ff_X11_12_0 (hm 0 (by decide)) (hk (0, 0) (by decide)) dX11_spendEvening_78 ?_
      refine zgetR C hS ff_X11_154_1 (hm 1 (by decide)) (hk (1, 2) (by decide)) dX11_spendEvening_81 ?_
      refine lv_dup C.1 C.2.1 dX11_spendEvening_84 rfl ?_
      refine zgetI C hS ff_X11_158_11 (hm 11 (by decide)) dX11_spendEvening_85 ?_
      refine lv_iconst (v := (1 : Int32)) C.1 C.2.1 dX11_spendEvening_88 rfl ?_
      refine lv_iadd C.1 C.2.1 dX11_spendEvening_89 ?_
      refine zputI C hS ff_X11_158_11 fw_11_5 (hm 11 (by decide)) dX11_spendEvening_90 (fun H locs hS => ?_)
      obtain ⟨h5, eh5, hf⟩ := zst_some hf
      have hS : zS G h5 s.heap H locs := by rw [eh5]; exact hS
      refine lv_iload_n C.1 C.2.1 dX11_spendEvening_93 rfl (lv_at hl 1 rfl) ?_
      exact zretI C hS hf dX11_spendEvening_94
    · have hf := zif_f hc hf
      refine lv_aload_n C.1 C.2.1 dX11_spendEvening_38 rfl (lv_at hl 0 rfl) ?_
      refine zgetR C hS ff_X11_35_0 (hm 0 (by decide)) (hk (0, 3) (by decide)) dX11_spendEvening_39 ?_
      refine lv_aload_n C.1 C.2.1 dX11_spendEvening_42 rfl (lv_at hl 2 rfl) ?_
      refine zgetR C hS ff_X11_200_7 (hm 7 (by decide)) (hk (7, 2) (by decide)) dX11_spendEvening_43 ?_
      refine lv_iload_n C.1 C.2.1 dX11_spendEvening_46 rfl (lv_at hl 3 rfl) ?_
      obtain ⟨hi, hf⟩ := zck_some hf
      refine zald C hS sh_10 (hm 10 (by decide)) hi dX11_spendEvening_47 ?_
      refine lv_aload_n C.1 C.2.1 dX11_spendEvening_48 rfl (lv_at hl 2 rfl) ?_
      refine zgetR C hS ff_X11_200_7 (hm 7 (by decide)) (hk (7, 2) (by decide)) dX11_spendEvening_49 ?_
      refine lv_aload_n C.1 C.2.1 dX11_spendEvening_52 rfl (lv_at hl 2 rfl) ?_
      refine lv_iload_n C.1 C.2.1 dX11_spendEvening_53 rfl (lv_at hl 3 rfl) ?_
      obtain ⟨r6, h7, er6, hf⟩ := zbd_some hf
      refine zcallVI (As := [.int x3]) (rest := [.ref (zal G 10), .int (h 10 (Int32.toNatClampNeg x3)), .ref (zal G 38)]) C hS mv_X11_203 (c_X9_beside l G h x3 (r6, h7) (fun c h => hm c (sn_X11_spendEvening_X9_beside c h)) (fun q h => hk q (sl_X11_spendEvening_X9_beside q h)) er6) (hm 7 (by decide)) ⟨_, _, _, sh_7, rfl, rfl⟩ rfl rfl (Nat.le_of_ble_eq_true rfl) hl.1 ⟨Nat.le_of_ble_eq_true rfl, Nat.le_of_ble_eq_true rfl, Nat.le_of_ble_eq_true rfl, Nat.le_of_ble_eq_true rfl⟩ dX11_spendEvening_54 (fun H locs hS => ?_)
      obtain ⟨hi, hf⟩ := zck_some hf
      refine zald C hS sh_10 (hm 10 (by decide)) hi dX11_spendEvening_57 ?_
      obtain ⟨r8, h9, er8, hf⟩ := zbd_some hf
      refine zcallVI (As := [.int (h 10 (Int32.toNatClampNeg x3)), .int (h7 10 (Int32.toNatClampNeg r6))]) (rest := []) C hS mv_X11_206 (c_X1_findBetween l G h7 (h 10 (Int32.toNatClampNeg x3)) (h7 10 (Int32.toNatClampNeg r6)) (r8, h9) (fun c h => hm c (sn_X11_spendEvening_X1_findBetween c h)) (fun q h => hk q (sl_X11_spendEvening_X1_findBetween q h)) er8) (hm 38 (by decide)) ⟨_, _, _, sh_38, rfl, rfl⟩ rfl rfl (Nat.le_of_ble_eq_true rfl) hl.1 ⟨Nat.le_of_ble_eq_true rfl, Nat.le_of_ble_eq_true rfl, Nat.le_of_ble_eq_true rfl, Nat.le_of_ble_eq_true rfl⟩ dX11_spendEvening_58 (fun H locs hS => ?_)
      refine lv_if_eq (tgt := 71) C.1 C.2.1 dX11_spendEvening_61 (by decide) (fun hc => ?_) (fun hc => ?_)
      · have hf := zif_t hc hf
        exact w_X11_spendEvening_71 C hm hk ih _ _ _ _ _ _ (lv_sub hl [0, 1, 2, 3] rfl) hS hf
      · have hf := zif_f hc hf
        refine lv_iload_n C.1 C.2.1 dX11_spendEvening_64 rfl (lv_at hl 1 rfl) ?_
        refine lv_aload_n C.1 C.2.1 dX11_spendEvening_65 rfl (lv_at hl 0 rfl) ?_
        obtain ⟨r11, h12, er11, hf⟩ := zbd_some hf
        refine zcallVI (As := []) (rest := [.int x1]) C hS mv_X11_322 (c_X11_tellFound l G h9  (r11, h12) (fun c h => hm c (sn_X11_spendEvening_X11_tellFound c h)) (fun q h => hk q (sl_X11_spendEvening_X11_tellFound q h)) er11) (hm 0 (by decide)) ⟨_, _, _, sh_0, rfl, rfl⟩ rfl rfl (Nat.le_of_ble_eq_true rfl) hl.1 ⟨Nat.le_of_ble_eq_true rfl, Nat.le_of_ble_eq_true rfl, Nat.le_of_ble_eq_true rfl, Nat.le_of_ble_eq_true rfl⟩ dX11_spendEvening_66 (fun H locs hS => ?_)
        refine lv_iadd C.1 C.2.1 dX11_spendEvening_69 ?_
        obtain ⟨y13, ey13, hf⟩ := zlt_some hf
        refine ztop ey13 ?_
        refine lv_istore_n (lv' := [(1, .int y13), (0, .ref (zal G 0)), (2, .ref (zal G 7)), (3, .int x3)]) C.1 C.2.1 dX11_spendEvening_70 rfl hl (by decide) rfl (fun ls hl => ?_)
        exact w_X11_spendEvening_71 C hm hk ih _ _ _ _ _ _ (lv_sub hl [1, 0, 2, 3] rfl) hS hf
set_option maxHeartbeats 4000000 in
set_option maxRecDepth 100000 in
theorem c_X11_spendEvening (l : Launch) (G : zG) (h : zH) (q : Int32 × zH) (hm : ∀ c ∈ nd_X11_spendEvening, c ∈ znm G) (hk : ∀ q ∈ ld_X11_spendEvening, zlk G q.1 q.2 = true) (hf : f_X11_spendEvening h = some q) : zCtI l yX11_spendEvening cX11_spendEvening 4 (some .int) (7) [.ref (zal G 0)] G h q.2 q.1 := by
  refine zMetI (by decide) (Nat.le_of_ble_eq_true rfl) ?_
  intro p e s m below meth c ls C hl hS
  have hl : lv_has ls 4 [(0, .ref (zal G 0))] := hl
  have C : zC G p s m [.ref (zal G 0)].toArray meth c cX11_spendEvening 4 RX11 (some .int) := C
  unfold f_X11_spendEvening at hf
  refine lv_aload_n C.1 C.2.1 dX11_spendEvening_0 rfl (lv_at hl 0 rfl) ?_
  refine zgetR C hS ff_X11_19_0 (hm 0 (by decide)) (hk (0, 1) (by decide)) dX11_spendEvening_1 ?_
  refine lv_aload_n C.1 C.2.1 dX11_spendEvening_4 rfl (lv_at hl 0 rfl) ?_
  refine zgetR C hS ff_X11_12_0 (hm 0 (by decide)) (hk (0, 0) (by decide)) dX11_spendEvening_5 ?_
  obtain ⟨r1, h2, er1, hf⟩ := zbd_some hf
  refine zcallVV (As := [.ref (zal G 1)]) (rest := []) C hS mv_X11_319 (c_X6_keep_r1 l G h  (r1, h2) (fun c h => hm c (sn_X11_spendEvening_X6_keep_r1 c h)) (fun q h => hk q (sl_X11_spendEvening_X6_keep_r1 q h)) er1) (hm 22 (by decide)) ⟨_, _, _, sh_22, rfl, rfl⟩ rfl rfl (Nat.le_of_ble_eq_true rfl) hl.1 ⟨Nat.le_of_ble_eq_true rfl, Nat.le_of_ble_eq_true rfl, Nat.le_of_ble_eq_true rfl, Nat.le_of_ble_eq_true rfl⟩ dX11_spendEvening_8 (fun H locs hS => ?_)
  refine lv_aload_n C.1 C.2.1 dX11_spendEvening_11 rfl (lv_at hl 0 rfl) ?_
  refine zgetR C hS ff_X11_35_0 (hm 0 (by decide)) (hk (0, 3) (by decide)) dX11_spendEvening_12 ?_
  obtain ⟨r3, h4, er3, hf⟩ := zbd_some hf
  refine zcallVV (As := []) (rest := []) C hS mv_X11_197 (c_X1_begin l G h2  (r3, h4) (fun c h => hm c (sn_X11_spendEvening_X1_begin c h)) (fun q h => hk q (sl_X11_spendEvening_X1_begin q h)) er3) (hm 38 (by decide)) ⟨_, _, _, sh_38, rfl, rfl⟩ rfl rfl (Nat.le_of_ble_eq_true rfl) hl.1 ⟨Nat.le_of_ble_eq_true rfl, Nat.le_of_ble_eq_true rfl, Nat.le_of_ble_eq_true rfl, Nat.le_of_ble_eq_true rfl⟩ dX11_spendEvening_15 (fun H locs hS => ?_)
  refine lv_iconst (v := (0 : Int32)) C.1 C.2.1 dX11_spendEvening_18 rfl ?_
  refine lv_istore_n (lv' := [(1, .int (0 : Int32)), (0, .ref (zal G 0))]) C.1 C.2.1 dX11_spendEvening_19 rfl hl (by decide) rfl (fun ls hl => ?_)
  refine lv_aload_n C.1 C.2.1 dX11_spendEvening_20 rfl (lv_at hl 1 rfl) ?_
  refine zgetR C hS ff_X11_12_0 (hm 0 (by decide)) (hk (0, 0) (by decide)) dX11_spendEvening_21 ?_
  refine zgetR C hS ff_X11_90_1 (hm 1 (by decide)) (hk (1, 1) (by decide)) dX11_spendEvening_24 ?_
  refine lv_astore_n (lv' := [(2, .ref (zal G 7)), (1, .int (0 : Int32)), (0, .ref (zal G 0))]) C.1 C.2.1 dX11_spendEvening_27 rfl hl (by decide) rfl (fun ls hl => ?_)
  refine lv_iconst (v := (0 : Int32)) C.1 C.2.1 dX11_spendEvening_28 rfl ?_
  refine lv_istore_n (lv' := [(3, .int (0 : Int32)), (2, .ref (zal G 7)), (1, .int (0 : Int32)), (0, .ref (zal G 0))]) C.1 C.2.1 dX11_spendEvening_29 rfl hl (by decide) rfl (fun ls hl => ?_)
  exact w_X11_spendEvening_30 C hm hk  zN _ _ _ _ _ _ (lv_sub hl [3, 2, 1, 0] rfl) hS hf
end
section
theorem dX11_evenings_0 : decode cX11_evenings 0 = .ok (.iload_n 1, 1) := by decide +kernel
theorem dX11_evenings_1 : decode cX11_evenings 1 = .ok (.iconst 1, 1) := by decide +kernel
theorem dX11_evenings_2 : decode cX11_evenings 2 = .ok (.if_icmp .lt 27, 3) := by decide +kernel
theorem dX11_evenings_5 : decode cX11_evenings 5 = .ok (.iload_n 1, 1) := by decide +kernel
theorem dX11_evenings_6 : decode cX11_evenings 6 = .ok (.bipush 50, 2) := by decide +kernel
theorem dX11_evenings_8 : decode cX11_evenings 8 = .ok (.if_icmp .gt 21, 3) := by decide +kernel
theorem dX11_evenings_11 : decode cX11_evenings 11 = .ok (.aload_n 0, 1) := by decide +kernel
theorem dX11_evenings_12 : decode cX11_evenings 12 = .ok (.getfield 12, 3) := by decide +kernel
theorem dX11_evenings_15 : decode cX11_evenings 15 = .ok (.getfield 154, 3) := by decide +kernel
theorem dX11_evenings_18 : decode cX11_evenings 18 = .ok (.getfield 158, 3) := by decide +kernel
theorem dX11_evenings_21 : decode cX11_evenings 21 = .ok (.iload_n 1, 1) := by decide +kernel
theorem dX11_evenings_22 : decode cX11_evenings 22 = .ok (.iadd, 1) := by decide +kernel
theorem dX11_evenings_23 : decode cX11_evenings 23 = .ok (.sipush 9999, 3) := by decide +kernel
theorem dX11_evenings_26 : decode cX11_evenings 26 = .ok (.if_icmp .le 5, 3) := by decide +kernel
theorem dX11_evenings_29 : decode cX11_evenings 29 = .ok (.iconst (-1), 1) := by decide +kernel
theorem dX11_evenings_30 : decode cX11_evenings 30 = .ok (.ireturn, 1) := by decide +kernel
theorem dX11_evenings_31 : decode cX11_evenings 31 = .ok (.iconst 0, 1) := by decide +kernel
theorem dX11_evenings_32 : decode cX11_evenings 32 = .ok (.istore_n 2, 1) := by decide +kernel
theorem dX11_evenings_33 : decode cX11_evenings 33 = .ok (.iconst 0, 1) := by decide +kernel
theorem dX11_evenings_34 : decode cX11_evenings 34 = .ok (.istore_n 3, 1) := by decide +kernel
theorem dX11_evenings_35 : decode cX11_evenings 35 = .ok (.iload_n 3, 1) := by decide +kernel
theorem dX11_evenings_36 : decode cX11_evenings 36 = .ok (.iload_n 1, 1) := by decide +kernel
theorem dX11_evenings_37 : decode cX11_evenings 37 = .ok (.if_icmp .ge 16, 3) := by decide +kernel
theorem dX11_evenings_40 : decode cX11_evenings 40 = .ok (.iload_n 2, 1) := by decide +kernel
theorem dX11_evenings_41 : decode cX11_evenings 41 = .ok (.aload_n 0, 1) := by decide +kernel
theorem dX11_evenings_42 : decode cX11_evenings 42 = .ok (.invokevirtual 163, 3) := by decide +kernel
theorem dX11_evenings_45 : decode cX11_evenings 45 = .ok (.iadd, 1) := by decide +kernel
theorem dX11_evenings_46 : decode cX11_evenings 46 = .ok (.istore_n 2, 1) := by decide +kernel
theorem dX11_evenings_47 : decode cX11_evenings 47 = .ok (.iinc 3 1, 3) := by decide +kernel
theorem dX11_evenings_50 : decode cX11_evenings 50 = .ok (.goto (-15), 3) := by decide +kernel
theorem dX11_evenings_53 : decode cX11_evenings 53 = .ok (.iload_n 2, 1) := by decide +kernel
theorem dX11_evenings_54 : decode cX11_evenings 54 = .ok (.ireturn, 1) := by decide +kernel
abbrev nd_X11_evenings : List Nat := [0, 1, 2, 3, 4, 5, 6, 7, 8, 10, 11, 12, 13, 14, 15, 16, 17, 18, 19, 20, 21, 22, 23, 24, 25, 26, 27, 28, 38, 39, 40, 41]
abbrev ld_X11_evenings : List (Nat × Nat) := [(0, 0), (0, 1), (0, 3), (1, 0), (1, 1), (1, 2), (1, 3), (1, 4), (1, 5), (2, 0), (2, 1), (2, 2), (2, 3), (7, 0), (7, 2), (11, 0), (11, 1), (11, 2), (11, 3), (16, 0), (16, 1), (16, 2), (22, 0), (22, 1), (22, 2), (22, 3), (22, 4), (22, 5), (38, 0), (38, 1), (38, 2), (38, 3)]
theorem sn_X11_evenings_X11_spendEvening : ∀ c ∈ nd_X11_spendEvening, c ∈ nd_X11_evenings := by decide
theorem sl_X11_evenings_X11_spendEvening : ∀ q ∈ ld_X11_spendEvening, q ∈ ld_X11_evenings := by decide
def f_X11_evenings_29  (h : zH) : zR := (some ((-1 : Int32), h))
def f_X11_evenings_35  : Nat → Int32 → Int32 → Int32 → zH → zR
  | 0 => fun _ _ _ _ => none
  | n + 1 => fun x1 x2 x3 h => (if x1 ≤ x3 then (some (x2, h)) else (zbd (f_X11_spendEvening  h) fun r1 h2 => (zlt (x2 + r1) fun y3 => (zlt (x3 + (1 : Int32)) fun y4 => (f_X11_evenings_35  n x1 y3 y4 h2)))))
def f_X11_evenings  (x1 : Int32) (h : zH) : zR := (if x1 < (1 : Int32) then (f_X11_evenings_29   h) else (if (50 : Int32) < x1 then (f_X11_evenings_29   h) else (if ((h 11 5) + x1) ≤ (9999 : Int32) then (f_X11_evenings_35  zN x1 (0 : Int32) (0 : Int32) h) else (f_X11_evenings_29   h))))
variable {p : Program} {l : Launch} {e : Env} {s : State} {m : MethodId} {args : Array Value} {below : List Frame} {meth : Method} {c : Code} {G : zG} {q : Int32 × zH}
set_option maxHeartbeats 4000000 in
set_option maxRecDepth 100000 in
theorem w_X11_evenings_29  (C : zC G p s m args meth c cX11_evenings 4 RX11 (some .int)) (hm : ∀ c ∈ nd_X11_evenings, c ∈ znm G) (hk : ∀ q ∈ ld_X11_evenings, zlk G q.1 q.2 = true)  : ∀ (ls : Array Slot) (H : Heap) (locs : List Loc) (h : zH), lv_has ls 4 [] → zS G h s.heap H locs → f_X11_evenings_29  h = some q → W p l e (zrm (8)) s m args below meth c H locs 0 0 (MQ below (zQI G q.2 q.1) args s 0 0 (zA G)) (F0 m 29 ls []) := by
  intro ls H locs h hl hS hf
  unfold f_X11_evenings_29 at hf
  refine lv_iconst (v := (-1 : Int32)) C.1 C.2.1 dX11_evenings_29 rfl ?_
  exact zretI C hS hf dX11_evenings_30
set_option maxHeartbeats 4000000 in
set_option maxRecDepth 100000 in
theorem w_X11_evenings_35  (C : zC G p s m args meth c cX11_evenings 4 RX11 (some .int)) (hm : ∀ c ∈ nd_X11_evenings, c ∈ znm G) (hk : ∀ q ∈ ld_X11_evenings, zlk G q.1 q.2 = true)  : ∀ n, ∀ (ls : Array Slot) (H : Heap) (locs : List Loc) (h : zH) (x1 : Int32) (x2 : Int32) (x3 : Int32), lv_has ls 4 [(0, .ref (zal G 0)), (1, .int x1), (2, .int x2), (3, .int x3)] → zS G h s.heap H locs → f_X11_evenings_35  n x1 x2 x3 h = some q → W p l e (zrm (8)) s m args below meth c H locs 0 0 (MQ below (zQI G q.2 q.1) args s 0 0 (zA G)) (F0 m 35 ls []) := by
  intro n
  induction n with
  | zero => intro ls H locs h x1 x2 x3 hl hS hf; cases hf
  | succ n ih =>
    intro ls H locs h x1 x2 x3 hl hS hf
    rw [f_X11_evenings_35] at hf
    refine lv_iload_n C.1 C.2.1 dX11_evenings_35 rfl (lv_at hl 3 rfl) ?_
    refine lv_iload_n C.1 C.2.1 dX11_evenings_36 rfl (lv_at hl 1 rfl) ?_
    refine lv_icmp_ge (tgt := 53) C.1 C.2.1 dX11_evenings_37 (by decide) (fun hc => ?_) (fun hc => ?_)
    · have hf := zif_t hc hf
      refine lv_iload_n C.1 C.2.1 dX11_evenings_53 rfl (lv_at hl 2 rfl) ?_
      exact zretI C hS hf dX11_evenings_54
    · have hf := zif_f hc hf
      refine lv_iload_n C.1 C.2.1 dX11_evenings_40 rfl (lv_at hl 2 rfl) ?_
      refine lv_aload_n C.1 C.2.1 dX11_evenings_41 rfl (lv_at hl 0 rfl) ?_
      obtain ⟨r1, h2, er1, hf⟩ := zbd_some hf
      refine zcallVI (As := []) (rest := [.int x2]) C hS mv_X11_163 (c_X11_spendEvening l G h  (r1, h2) (fun c h => hm c (sn_X11_evenings_X11_spendEvening c h)) (fun q h => hk q (sl_X11_evenings_X11_spendEvening q h)) er1) (hm 0 (by decide)) ⟨_, _, _, sh_0, rfl, rfl⟩ rfl rfl (Nat.le_of_ble_eq_true rfl) hl.1 ⟨Nat.le_of_ble_eq_true rfl, Nat.le_of_ble_eq_true rfl, Nat.le_of_ble_eq_true rfl, Nat.le_of_ble_eq_true rfl⟩ dX11_evenings_42 (fun H locs hS => ?_)
      refine lv_iadd C.1 C.2.1 dX11_evenings_45 ?_
      obtain ⟨y3, ey3, hf⟩ := zlt_some hf
      refine ztop ey3 ?_
      refine lv_istore_n (lv' := [(2, .int y3), (0, .ref (zal G 0)), (1, .int x1), (3, .int x3)]) C.1 C.2.1 dX11_evenings_46 rfl hl (by decide) rfl (fun ls hl => ?_)
      obtain ⟨y4, ey4, hf⟩ := zlt_some hf
      refine lv_iinc (v := y4) (lv' := [(3, .int y4), (2, .int y3), (0, .ref (zal G 0)), (1, .int x1)]) C.1 C.2.1 dX11_evenings_47 hl (k := 3) rfl ey4.symm (by decide) rfl (fun ls hl => ?_)
      refine lv_goto (tgt := 35) C.1 C.2.1 dX11_evenings_50 (by decide) ?_
      exact ih _ _ _ _ _ _ _ (lv_sub hl [2, 3, 1, 0] rfl) hS hf
set_option maxHeartbeats 4000000 in
set_option maxRecDepth 100000 in
theorem c_X11_evenings (l : Launch) (G : zG) (h : zH) (x1 : Int32) (q : Int32 × zH) (hm : ∀ c ∈ nd_X11_evenings, c ∈ znm G) (hk : ∀ q ∈ ld_X11_evenings, zlk G q.1 q.2 = true) (hf : f_X11_evenings x1 h = some q) : zCtI l yX11_evenings cX11_evenings 4 (some .int) (8) [.ref (zal G 0), .int x1] G h q.2 q.1 := by
  refine zMetI (by decide) (Nat.le_of_ble_eq_true rfl) ?_
  intro p e s m below meth c ls C hl hS
  have hl : lv_has ls 4 [(0, .ref (zal G 0)), (1, .int x1)] := hl
  have C : zC G p s m [.ref (zal G 0), .int x1].toArray meth c cX11_evenings 4 RX11 (some .int) := C
  unfold f_X11_evenings at hf
  refine lv_iload_n C.1 C.2.1 dX11_evenings_0 rfl (lv_at hl 1 rfl) ?_
  refine lv_iconst (v := (1 : Int32)) C.1 C.2.1 dX11_evenings_1 rfl ?_
  refine lv_icmp_lt (tgt := 29) C.1 C.2.1 dX11_evenings_2 (by decide) (fun hc => ?_) (fun hc => ?_)
  · have hf := zif_t hc hf
    exact w_X11_evenings_29 C hm hk  _ _ _ _ (lv_sub hl [] rfl) hS hf
  · have hf := zif_f hc hf
    refine lv_iload_n C.1 C.2.1 dX11_evenings_5 rfl (lv_at hl 1 rfl) ?_
    refine lv_bipush (v := (50 : Int32)) C.1 C.2.1 dX11_evenings_6 rfl ?_
    refine lv_icmp_gt (tgt := 29) C.1 C.2.1 dX11_evenings_8 (by decide) (fun hc => ?_) (fun hc => ?_)
    · have hf := zif_t hc hf
      exact w_X11_evenings_29 C hm hk  _ _ _ _ (lv_sub hl [] rfl) hS hf
    · have hf := zif_f hc hf
      refine lv_aload_n C.1 C.2.1 dX11_evenings_11 rfl (lv_at hl 0 rfl) ?_
      refine zgetR C hS ff_X11_12_0 (hm 0 (by decide)) (hk (0, 0) (by decide)) dX11_evenings_12 ?_
      refine zgetR C hS ff_X11_154_1 (hm 1 (by decide)) (hk (1, 2) (by decide)) dX11_evenings_15 ?_
      refine zgetI C hS ff_X11_158_11 (hm 11 (by decide)) dX11_evenings_18 ?_
      refine lv_iload_n C.1 C.2.1 dX11_evenings_21 rfl (lv_at hl 1 rfl) ?_
      refine lv_iadd C.1 C.2.1 dX11_evenings_22 ?_
      refine lv_sipush (v := (9999 : Int32)) C.1 C.2.1 dX11_evenings_23 rfl ?_
      refine lv_icmp_le (tgt := 31) C.1 C.2.1 dX11_evenings_26 (by decide) (fun hc => ?_) (fun hc => ?_)
      · have hf := zif_t hc hf
        refine lv_iconst (v := (0 : Int32)) C.1 C.2.1 dX11_evenings_31 rfl ?_
        refine lv_istore_n (lv' := [(2, .int (0 : Int32)), (0, .ref (zal G 0)), (1, .int x1)]) C.1 C.2.1 dX11_evenings_32 rfl hl (by decide) rfl (fun ls hl => ?_)
        refine lv_iconst (v := (0 : Int32)) C.1 C.2.1 dX11_evenings_33 rfl ?_
        refine lv_istore_n (lv' := [(3, .int (0 : Int32)), (2, .int (0 : Int32)), (0, .ref (zal G 0)), (1, .int x1)]) C.1 C.2.1 dX11_evenings_34 rfl hl (by decide) rfl (fun ls hl => ?_)
        exact w_X11_evenings_35 C hm hk  zN _ _ _ _ _ _ _ (lv_sub hl [2, 3, 1, 0] rfl) hS hf
      · have hf := zif_f hc hf
        exact w_X11_evenings_29 C hm hk  _ _ _ _ (lv_sub hl [] rfl) hS hf
end
