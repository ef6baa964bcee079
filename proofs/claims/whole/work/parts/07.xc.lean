theorem kw_1011 : Cond.code yX11_merryChanged cX11_merryChanged 6 (some .int) ∈ zg := zg_of (List.mem_of_getElem? (i := 1011) (by decide +kernel)) (by decide +kernel)
theorem kw_1008 : Cond.methodLink RX11 266 yX11_merryChanged ∈ zg := zg_of (List.mem_of_getElem? (i := 1008) (by decide +kernel)) (by decide +kernel)
theorem kw_1010 : Cond.instanceMethod yX11_merryChanged ∈ zg := zg_of (List.mem_of_getElem? (i := 1010) (by decide +kernel)) (by decide +kernel)
theorem kw_27 : Cond.selects RX11 yX11_merryChanged yX11_merryChanged ∈ zg := zg_of (List.mem_of_getElem? (i := 27) (by decide +kernel)) (by decide +kernel)
theorem mv_X11_266 : zMV RX11 266 yX11_merryChanged cX11_merryChanged 6 (some .int) 2 := ⟨⟨kw_1008, kw_1010, kw_27, kw_84, kw_1011⟩, ⟨by decide, by decide, by decide +kernel⟩, by decide⟩
theorem kw_433 : Cond.fieldLink RX11 39 "HalfAJoke" "row" "[I" ∈ zg := zg_of (List.mem_of_getElem? (i := 433) (by decide +kernel)) (by decide +kernel)
theorem ff_X11_39_0 : zFc RX11 39 0 4 (some (44, false)) := ⟨_, _, _, tyX11, sh_0, rfl, by decide, iz_X11, kw_433, rfl, tyX11_ok, nmX11⟩
theorem kw_1012 : Cond.methodLink RX11 292 arraycopyName ∈ zg := zg_of (List.mem_of_getElem? (i := 1012) (by decide +kernel)) (by decide +kernel)
theorem kw_1085 : Cond.code yX1_leaveAll cX1_leaveAll 3 none ∈ zg := zg_of (List.mem_of_getElem? (i := 1085) (by decide +kernel)) (by decide +kernel)
theorem kw_1082 : Cond.methodLink RX11 298 yX1_leaveAll ∈ zg := zg_of (List.mem_of_getElem? (i := 1082) (by decide +kernel)) (by decide +kernel)
theorem kw_1083 : Cond.instanceMethod yX1_leaveAll ∈ zg := zg_of (List.mem_of_getElem? (i := 1083) (by decide +kernel)) (by decide +kernel)
theorem kw_1084 : Cond.selects RX1 yX1_leaveAll yX1_leaveAll ∈ zg := zg_of (List.mem_of_getElem? (i := 1084) (by decide +kernel)) (by decide +kernel)
theorem mv_X11_298 : zMV RX11 298 yX1_leaveAll cX1_leaveAll 3 none 2 := ⟨⟨kw_1082, kw_1083, kw_1084, kw_92, kw_1085⟩, ⟨by decide, by decide, by decide +kernel⟩, by decide⟩
theorem kw_250 : Cond.fieldLink RX2 27 "HalfAJoke$House" "halves" "LHalfAJoke$Halves;" ∈ zg := zg_of (List.mem_of_getElem? (i := 250) (by decide +kernel)) (by decide +kernel)
theorem ff_X2_27_1 : zFc RX2 27 1 0 (some (2, false)) := ⟨_, _, _, tyX4, sh_1, rfl, by decide, iz_X4, kw_250, rfl, tyX4_ok, nmX4⟩
theorem kw_101 : Cond.initialized RX2 ∈ zg := zg_of (List.mem_of_getElem? (i := 101) (by decide +kernel)) (by decide +kernel)
theorem kw_934 : Cond.code yX2_gather cX2_gather 4 (some .boolean) ∈ zg := zg_of (List.mem_of_getElem? (i := 934) (by decide +kernel)) (by decide +kernel)
theorem kw_931 : Cond.methodLink RX2 33 yX2_gather ∈ zg := zg_of (List.mem_of_getElem? (i := 931) (by decide +kernel)) (by decide +kernel)
theorem kw_933 : Cond.instanceMethod yX2_gather ∈ zg := zg_of (List.mem_of_getElem? (i := 933) (by decide +kernel)) (by decide +kernel)
theorem kw_19 : Cond.selects RX2 yX2_gather yX2_gather ∈ zg := zg_of (List.mem_of_getElem? (i := 19) (by decide +kernel)) (by decide +kernel)
theorem mv_X2_33 : zMV RX2 33 yX2_gather cX2_gather 4 (some .boolean) 1 := ⟨⟨kw_931, kw_933, kw_19, kw_101, kw_934⟩, ⟨by decide, by decide, by decide +kernel⟩, by decide⟩
theorem kw_906 : Cond.fieldLink RX2 37 "HalfAJoke$Fit" "frontCount" "I" ∈ zg := zg_of (List.mem_of_getElem? (i := 906) (by decide +kernel)) (by decide +kernel)
theorem iz_X2 : ∀ w ∈ u_ws RX2 TX2 8, w ∈ zg := by decide +kernel
theorem ff_X2_37_74 : zFc RX2 37 74 5 none := ⟨_, _, _, tyX2, sh_74, rfl, by decide, iz_X2, kw_906, rfl, tyX2_ok, nmX2⟩
theorem fw_74_5 : ∀ q : vw_C, ∀ ci fl, zsh 74 = .inr (ci, fl) → zcl[ci]? = some q → (q.2.1 5).2.2.2 = false ∧ (q.2.1 5).2.2.1 = "I" := zfin sh_74 rfl ⟨rfl, rfl⟩
theorem kw_907 : Cond.fieldLink RX2 41 "HalfAJoke$Fit" "endCount" "I" ∈ zg := zg_of (List.mem_of_getElem? (i := 907) (by decide +kernel)) (by decide +kernel)
theorem ff_X2_41_74 : zFc RX2 41 74 6 none := ⟨_, _, _, tyX2, sh_74, rfl, by decide, iz_X2, kw_907, rfl, tyX2_ok, nmX2⟩
theorem fw_74_6 : ∀ q : vw_C, ∀ ci fl, zsh 74 = .inr (ci, fl) → zcl[ci]? = some q → (q.2.1 6).2.2.2 = false ∧ (q.2.1 6).2.2.1 = "I" := zfin sh_74 rfl ⟨rfl, rfl⟩
theorem kw_139 : Cond.fieldLink RX2 59 "HalfAJoke$Halves" "count" "I" ∈ zg := zg_of (List.mem_of_getElem? (i := 139) (by decide +kernel)) (by decide +kernel)
theorem ff_X2_59_2 : zFc RX2 59 2 4 none := ⟨_, _, _, tyX3, sh_2, rfl, by decide, iz_X3, kw_139, rfl, tyX3_ok, nmX3⟩
theorem kw_126 : Cond.fieldLink RX2 64 "HalfAJoke$Halves" "side" "[I" ∈ zg := zg_of (List.mem_of_getElem? (i := 126) (by decide +kernel)) (by decide +kernel)
theorem ff_X2_64_2 : zFc RX2 64 2 0 (some (3, false)) := ⟨_, _, _, tyX3, sh_2, rfl, by decide, iz_X3, kw_126, rfl, tyX3_ok, nmX3⟩
theorem kw_903 : Cond.fieldLink RX2 21 "HalfAJoke$Fit" "ends" "[I" ∈ zg := zg_of (List.mem_of_getElem? (i := 903) (by decide +kernel)) (by decide +kernel)
theorem ff_X2_21_74 : zFc RX2 21 74 3 (some (78, false)) := ⟨_, _, _, tyX2, sh_74, rfl, by decide, iz_X2, kw_903, rfl, tyX2_ok, nmX2⟩
theorem kw_902 : Cond.fieldLink RX2 18 "HalfAJoke$Fit" "fronts" "[I" ∈ zg := zg_of (List.mem_of_getElem? (i := 902) (by decide +kernel)) (by decide +kernel)
theorem ff_X2_18_74 : zFc RX2 18 74 2 (some (77, false)) := ⟨_, _, _, tyX2, sh_74, rfl, by decide, iz_X2, kw_902, rfl, tyX2_ok, nmX2⟩
theorem kw_900 : Cond.fieldLink RX2 11 "HalfAJoke$Fit" "most" "[I" ∈ zg := zg_of (List.mem_of_getElem? (i := 900) (by decide +kernel)) (by decide +kernel)
theorem ff_X2_11_74 : zFc RX2 11 74 0 (some (75, false)) := ⟨_, _, _, tyX2, sh_74, rfl, by decide, iz_X2, kw_900, rfl, tyX2_ok, nmX2⟩
theorem kw_908 : Cond.fieldLink RX2 52 "HalfAJoke$Fit" "sum" "I" ∈ zg := zg_of (List.mem_of_getElem? (i := 908) (by decide +kernel)) (by decide +kernel)
theorem ff_X2_52_74 : zFc RX2 52 74 7 none := ⟨_, _, _, tyX2, sh_74, rfl, by decide, iz_X2, kw_908, rfl, tyX2_ok, nmX2⟩
theorem fw_74_7 : ∀ q : vw_C, ∀ ci fl, zsh 74 = .inr (ci, fl) → zcl[ci]? = some q → (q.2.1 7).2.2.2 = false ∧ (q.2.1 7).2.2.1 = "I" := zfin sh_74 rfl ⟨rfl, rfl⟩
theorem kw_949 : Cond.code yX2_choose cX2_choose 5 none ∈ zg := zg_of (List.mem_of_getElem? (i := 949) (by decide +kernel)) (by decide +kernel)
theorem kw_946 : Cond.methodLink RX2 55 yX2_choose ∈ zg := zg_of (List.mem_of_getElem? (i := 946) (by decide +kernel)) (by decide +kernel)
theorem kw_948 : Cond.instanceMethod yX2_choose ∈ zg := zg_of (List.mem_of_getElem? (i := 948) (by decide +kernel)) (by decide +kernel)
theorem kw_22 : Cond.selects RX2 yX2_choose yX2_choose ∈ zg := zg_of (List.mem_of_getElem? (i := 22) (by decide +kernel)) (by decide +kernel)
theorem mv_X2_55 : zMV RX2 55 yX2_choose cX2_choose 5 none 1 := ⟨⟨kw_946, kw_948, kw_22, kw_101, kw_949⟩, ⟨by decide, by decide, by decide +kernel⟩, by decide⟩
theorem kw_953 : Cond.code yX2_leastPartner cX2_leastPartner 4 (some .int) ∈ zg := zg_of (List.mem_of_getElem? (i := 953) (by decide +kernel)) (by decide +kernel)
theorem kw_950 : Cond.methodLink RX2 79 yX2_leastPartner ∈ zg := zg_of (List.mem_of_getElem? (i := 950) (by decide +kernel)) (by decide +kernel)
theorem kw_952 : Cond.instanceMethod yX2_leastPartner ∈ zg := zg_of (List.mem_of_getElem? (i := 952) (by decide +kernel)) (by decide +kernel)
theorem kw_23 : Cond.selects RX2 yX2_leastPartner yX2_leastPartner ∈ zg := zg_of (List.mem_of_getElem? (i := 23) (by decide +kernel)) (by decide +kernel)
theorem mv_X2_79 : zMV RX2 79 yX2_leastPartner cX2_leastPartner 4 (some .int) 2 := ⟨⟨kw_950, kw_952, kw_23, kw_101, kw_953⟩, ⟨by decide, by decide, by decide +kernel⟩, by decide⟩
theorem mn_X2_67 : zMN RX2 67 yX11_isIn cX11_isIn 2 (some .boolean) 2 := ⟨⟨(by decide +kernel), kw_498, kw_84, kw_499⟩, ⟨by decide, by decide, by decide +kernel⟩, by decide⟩
theorem kw_944 : Cond.code yX2_sumWith cX2_sumWith 4 (some .int) ∈ zg := zg_of (List.mem_of_getElem? (i := 944) (by decide +kernel)) (by decide +kernel)
theorem kw_941 : Cond.methodLink RX2 71 yX2_sumWith ∈ zg := zg_of (List.mem_of_getElem? (i := 941) (by decide +kernel)) (by decide +kernel)
theorem kw_943 : Cond.instanceMethod yX2_sumWith ∈ zg := zg_of (List.mem_of_getElem? (i := 943) (by decide +kernel)) (by decide +kernel)
theorem kw_21 : Cond.selects RX2 yX2_sumWith yX2_sumWith ∈ zg := zg_of (List.mem_of_getElem? (i := 21) (by decide +kernel)) (by decide +kernel)
theorem mv_X2_71 : zMV RX2 71 yX2_sumWith cX2_sumWith 4 (some .int) 3 := ⟨⟨kw_941, kw_943, kw_21, kw_101, kw_944⟩, ⟨by decide, by decide, by decide +kernel⟩, by decide⟩
theorem kw_901 : Cond.fieldLink RX2 15 "HalfAJoke$Fit" "laughs" "[I" ∈ zg := zg_of (List.mem_of_getElem? (i := 901) (by decide +kernel)) (by decide +kernel)
theorem ff_X2_15_74 : zFc RX2 15 74 1 (some (76, false)) := ⟨_, _, _, tyX2, sh_74, rfl, by decide, iz_X2, kw_901, rfl, tyX2_ok, nmX2⟩
theorem kw_904 : Cond.fieldLink RX2 24 "HalfAJoke$Fit" "partner" "[I" ∈ zg := zg_of (List.mem_of_getElem? (i := 904) (by decide +kernel)) (by decide +kernel)
theorem ff_X2_24_74 : zFc RX2 24 74 4 (some (79, false)) := ⟨_, _, _, tyX2, sh_74, rfl, by decide, iz_X2, kw_904, rfl, tyX2_ok, nmX2⟩
theorem kw_939 : Cond.code yX2_mostFrom cX2_mostFrom 5 (some .int) ∈ zg := zg_of (List.mem_of_getElem? (i := 939) (by decide +kernel)) (by decide +kernel)
theorem kw_936 : Cond.methodLink RX2 48 yX2_mostFrom ∈ zg := zg_of (List.mem_of_getElem? (i := 936) (by decide +kernel)) (by decide +kernel)
theorem kw_938 : Cond.instanceMethod yX2_mostFrom ∈ zg := zg_of (List.mem_of_getElem? (i := 938) (by decide +kernel)) (by decide +kernel)
theorem kw_20 : Cond.selects RX2 yX2_mostFrom yX2_mostFrom ∈ zg := zg_of (List.mem_of_getElem? (i := 20) (by decide +kernel)) (by decide +kernel)
theorem mv_X2_48 : zMV RX2 48 yX2_mostFrom cX2_mostFrom 5 (some .int) 2 := ⟨⟨kw_936, kw_938, kw_20, kw_101, kw_939⟩, ⟨by decide, by decide, by decide +kernel⟩, by decide⟩
theorem kw_945 : Cond.methodLink RX2 74 Lib.Math.max.name ∈ zg := zg_of (List.mem_of_getElem? (i := 945) (by decide +kernel)) (by decide +kernel)
theorem kw_935 : Cond.methodLink RX2 44 yX4_laughOf ∈ zg := zg_of (List.mem_of_getElem? (i := 935) (by decide +kernel)) (by decide +kernel)
theorem mv_X2_44 : zMV RX2 44 yX4_laughOf cX4_laughOf 7 (some .int) 3 := ⟨⟨kw_935, kw_804, kw_805, kw_85, kw_806⟩, ⟨by decide, by decide, by decide +kernel⟩, by decide⟩
theorem kw_249 : Cond.fieldLink RX10 18 "HalfAJoke$House" "halves" "LHalfAJoke$Halves;" ∈ zg := zg_of (List.mem_of_getElem? (i := 249) (by decide +kernel)) (by decide +kernel)
theorem ff_X10_18_1 : zFc RX10 18 1 0 (some (2, false)) := ⟨_, _, _, tyX4, sh_1, rfl, by decide, iz_X4, kw_249, rfl, tyX4_ok, nmX4⟩
theorem kw_136 : Cond.fieldLink RX10 24 "HalfAJoke$Halves" "count" "I" ∈ zg := zg_of (List.mem_of_getElem? (i := 136) (by decide +kernel)) (by decide +kernel)
theorem ff_X10_24_2 : zFc RX10 24 2 4 none := ⟨_, _, _, tyX3, sh_2, rfl, by decide, iz_X3, kw_136, rfl, tyX3_ok, nmX3⟩
theorem kw_103 : Cond.initialized RX10 ∈ zg := zg_of (List.mem_of_getElem? (i := 103) (by decide +kernel)) (by decide +kernel)
theorem kw_1069 : Cond.code yX10_judge cX10_judge 5 none ∈ zg := zg_of (List.mem_of_getElem? (i := 1069) (by decide +kernel)) (by decide +kernel)
theorem kw_1066 : Cond.methodLink RX10 48 yX10_judge ∈ zg := zg_of (List.mem_of_getElem? (i := 1066) (by decide +kernel)) (by decide +kernel)
theorem kw_1068 : Cond.instanceMethod yX10_judge ∈ zg := zg_of (List.mem_of_getElem? (i := 1068) (by decide +kernel)) (by decide +kernel)
theorem kw_29 : Cond.selects RX10 yX10_judge yX10_judge ∈ zg := zg_of (List.mem_of_getElem? (i := 29) (by decide +kernel)) (by decide +kernel)
theorem mv_X10_48 : zMV RX10 48 yX10_judge cX10_judge 5 none 1 := ⟨⟨kw_1066, kw_1068, kw_29, kw_103, kw_1069⟩, ⟨by decide, by decide, by decide +kernel⟩, by decide⟩
theorem kw_1042 : Cond.fieldLink RX10 57 "HalfAJoke$Worths" "settled" "I" ∈ zg := zg_of (List.mem_of_getElem? (i := 1042) (by decide +kernel)) (by decide +kernel)
theorem iz_X10 : ∀ w ∈ u_ws RX10 TX10 4, w ∈ zg := by decide +kernel
theorem ff_X10_57_80 : zFc RX10 57 80 2 none := ⟨_, _, _, tyX10, sh_80, rfl, by decide, iz_X10, kw_1042, rfl, tyX10_ok, nmX10⟩
theorem fw_80_2 : ∀ q : vw_C, ∀ ci fl, zsh 80 = .inr (ci, fl) → zcl[ci]? = some q → (q.2.1 2).2.2.2 = false ∧ (q.2.1 2).2.2.1 = "I" := zfin sh_80 rfl ⟨rfl, rfl⟩
theorem kw_1044 : Cond.fieldLink RX10 60 "HalfAJoke$Worths" "circle" "I" ∈ zg := zg_of (List.mem_of_getElem? (i := 1044) (by decide +kernel)) (by decide +kernel)
theorem ff_X10_60_80 : zFc RX10 60 80 3 none := ⟨_, _, _, tyX10, sh_80, rfl, by decide, iz_X10, kw_1044, rfl, tyX10_ok, nmX10⟩
theorem fw_80_3 : ∀ q : vw_C, ∀ ci fl, zsh 80 = .inr (ci, fl) → zcl[ci]? = some q → (q.2.1 3).2.2.2 = false ∧ (q.2.1 3).2.2.1 = "I" := zfin sh_80 rfl ⟨rfl, rfl⟩
theorem kw_1073 : Cond.code yX10_areAlike cX10_areAlike 5 (some .boolean) ∈ zg := zg_of (List.mem_of_getElem? (i := 1073) (by decide +kernel)) (by decide +kernel)
theorem kw_1070 : Cond.methodLink RX10 63 yX10_areAlike ∈ zg := zg_of (List.mem_of_getElem? (i := 1070) (by decide +kernel)) (by decide +kernel)
theorem kw_1072 : Cond.instanceMethod yX10_areAlike ∈ zg := zg_of (List.mem_of_getElem? (i := 1072) (by decide +kernel)) (by decide +kernel)
theorem kw_30 : Cond.selects RX10 yX10_areAlike yX10_areAlike ∈ zg := zg_of (List.mem_of_getElem? (i := 30) (by decide +kernel)) (by decide +kernel)
theorem mv_X10_63 : zMV RX10 63 yX10_areAlike cX10_areAlike 5 (some .boolean) 3 := ⟨⟨kw_1070, kw_1072, kw_30, kw_103, kw_1073⟩, ⟨by decide, by decide, by decide +kernel⟩, by decide⟩
theorem kw_1039 : Cond.fieldLink RX10 11 "HalfAJoke$Worths" "rows" "[I" ∈ zg := zg_of (List.mem_of_getElem? (i := 1039) (by decide +kernel)) (by decide +kernel)
theorem ff_X10_11_80 : zFc RX10 11 80 0 (some (81, false)) := ⟨_, _, _, tyX10, sh_80, rfl, by decide, iz_X10, kw_1039, rfl, tyX10_ok, nmX10⟩
theorem kw_1064 : Cond.code yX10_greatest cX10_greatest 6 (some .int) ∈ zg := zg_of (List.mem_of_getElem? (i := 1064) (by decide +kernel)) (by decide +kernel)
theorem kw_1061 : Cond.methodLink RX10 44 yX10_greatest ∈ zg := zg_of (List.mem_of_getElem? (i := 1061) (by decide +kernel)) (by decide +kernel)
theorem kw_1063 : Cond.instanceMethod yX10_greatest ∈ zg := zg_of (List.mem_of_getElem? (i := 1063) (by decide +kernel)) (by decide +kernel)
theorem kw_28 : Cond.selects RX10 yX10_greatest yX10_greatest ∈ zg := zg_of (List.mem_of_getElem? (i := 28) (by decide +kernel)) (by decide +kernel)
theorem mv_X10_44 : zMV RX10 44 yX10_greatest cX10_greatest 6 (some .int) 3 := ⟨⟨kw_1061, kw_1063, kw_28, kw_103, kw_1064⟩, ⟨by decide, by decide, by decide +kernel⟩, by decide⟩
theorem kw_125 : Cond.fieldLink RX10 33 "HalfAJoke$Halves" "side" "[I" ∈ zg := zg_of (List.mem_of_getElem? (i := 125) (by decide +kernel)) (by decide +kernel)
theorem ff_X10_33_2 : zFc RX10 33 2 0 (some (3, false)) := ⟨_, _, _, tyX3, sh_2, rfl, by decide, iz_X3, kw_125, rfl, tyX3_ok, nmX3⟩
theorem kw_1041 : Cond.fieldLink RX10 15 "HalfAJoke$Worths" "laughs" "[I" ∈ zg := zg_of (List.mem_of_getElem? (i := 1041) (by decide +kernel)) (by decide +kernel)
theorem ff_X10_15_80 : zFc RX10 15 80 1 (some (82, false)) := ⟨_, _, _, tyX10, sh_80, rfl, by decide, iz_X10, kw_1041, rfl, tyX10_ok, nmX10⟩
theorem mn_X10_40 : zMN RX10 40 yX11_pairOf cX11_pairOf 2 (some .int) 2 := ⟨⟨(by decide +kernel), kw_801, kw_84, kw_802⟩, ⟨by decide, by decide, by decide +kernel⟩, by decide⟩
theorem kw_1065 : Cond.methodLink RX10 52 Lib.Math.max.name ∈ zg := zg_of (List.mem_of_getElem? (i := 1065) (by decide +kernel)) (by decide +kernel)
theorem kw_132 : Cond.fieldLink RX10 30 "HalfAJoke$Halves" "wit" "[I" ∈ zg := zg_of (List.mem_of_getElem? (i := 132) (by decide +kernel)) (by decide +kernel)
theorem ff_X10_30_2 : zFc RX10 30 2 2 (some (5, false)) := ⟨_, _, _, tyX3, sh_2, rfl, by decide, iz_X3, kw_132, rfl, tyX3_ok, nmX3⟩
theorem kw_1059 : Cond.methodLink RX10 36 yX4_laughOf ∈ zg := zg_of (List.mem_of_getElem? (i := 1059) (by decide +kernel)) (by decide +kernel)
theorem mv_X10_36 : zMV RX10 36 yX4_laughOf cX4_laughOf 7 (some .int) 3 := ⟨⟨kw_1059, kw_804, kw_805, kw_85, kw_806⟩, ⟨by decide, by decide, by decide +kernel⟩, by decide⟩
theorem ff_X4_12_50 : zFc RX4 12 50 0 (some (51, false)) := ⟨_, _, _, tyX4, sh_50, rfl, by decide, iz_X4, kw_248, rfl, tyX4_ok, nmX4⟩
theorem kw_1105 : Cond.code yX3_copyFrom cX3_copyFrom 2 none ∈ zg := zg_of (List.mem_of_getElem? (i := 1105) (by decide +kernel)) (by decide +kernel)
theorem kw_1102 : Cond.methodLink RX4 50 yX3_copyFrom ∈ zg := zg_of (List.mem_of_getElem? (i := 1102) (by decide +kernel)) (by decide +kernel)
theorem kw_1103 : Cond.instanceMethod yX3_copyFrom ∈ zg := zg_of (List.mem_of_getElem? (i := 1103) (by decide +kernel)) (by decide +kernel)
theorem kw_1104 : Cond.selects RX3 yX3_copyFrom yX3_copyFrom ∈ zg := zg_of (List.mem_of_getElem? (i := 1104) (by decide +kernel)) (by decide +kernel)
theorem mv_X4_50 : zMV RX4 50 yX3_copyFrom cX3_copyFrom 2 none 1 := ⟨⟨kw_1102, kw_1103, kw_1104, kw_86, kw_1105⟩, ⟨by decide, by decide, by decide +kernel⟩, by decide⟩
theorem ff_X3_9_51 : zFc RX3 9 51 0 (some (52, false)) := ⟨_, _, _, tyX3, sh_51, rfl, by decide, iz_X3, kw_124, rfl, tyX3_ok, nmX3⟩
theorem kw_1106 : Cond.methodLink RX3 24 arraycopyName ∈ zg := zg_of (List.mem_of_getElem? (i := 1106) (by decide +kernel)) (by decide +kernel)
theorem ff_X3_15_51 : zFc RX3 15 51 1 (some (53, false)) := ⟨_, _, _, tyX3, sh_51, rfl, by decide, iz_X3, kw_128, rfl, tyX3_ok, nmX3⟩
theorem ff_X3_18_51 : zFc RX3 18 51 2 (some (54, false)) := ⟨_, _, _, tyX3, sh_51, rfl, by decide, iz_X3, kw_131, rfl, tyX3_ok, nmX3⟩
theorem ff_X3_21_51 : zFc RX3 21 51 3 (some (55, false)) := ⟨_, _, _, tyX3, sh_51, rfl, by decide, iz_X3, kw_135, rfl, tyX3_ok, nmX3⟩
theorem ff_X3_30_51 : zFc RX3 30 51 4 none := ⟨_, _, _, tyX3, sh_51, rfl, by decide, iz_X3, kw_137, rfl, tyX3_ok, nmX3⟩
theorem kw_253 : Cond.fieldLink RX4 21 "HalfAJoke$House" "table" "LHalfAJoke$Table;" ∈ zg := zg_of (List.mem_of_getElem? (i := 253) (by decide +kernel)) (by decide +kernel)
theorem ff_X4_21_1 : zFc RX4 21 1 1 (some (7, false)) := ⟨_, _, _, tyX4, sh_1, rfl, by decide, iz_X4, kw_253, rfl, tyX4_ok, nmX4⟩
theorem ff_X4_21_50 : zFc RX4 21 50 1 (some (56, false)) := ⟨_, _, _, tyX4, sh_50, rfl, by decide, iz_X4, kw_253, rfl, tyX4_ok, nmX4⟩
theorem kw_1110 : Cond.code yX9_copyFrom cX9_copyFrom 2 none ∈ zg := zg_of (List.mem_of_getElem? (i := 1110) (by decide +kernel)) (by decide +kernel)
theorem kw_1107 : Cond.methodLink RX4 54 yX9_copyFrom ∈ zg := zg_of (List.mem_of_getElem? (i := 1107) (by decide +kernel)) (by decide +kernel)
theorem kw_1108 : Cond.instanceMethod yX9_copyFrom ∈ zg := zg_of (List.mem_of_getElem? (i := 1108) (by decide +kernel)) (by decide +kernel)
theorem kw_1109 : Cond.selects RX9 yX9_copyFrom yX9_copyFrom ∈ zg := zg_of (List.mem_of_getElem? (i := 1109) (by decide +kernel)) (by decide +kernel)
theorem mv_X4_54 : zMV RX4 54 yX9_copyFrom cX9_copyFrom 2 none 1 := ⟨⟨kw_1107, kw_1108, kw_1109, kw_87, kw_1110⟩, ⟨by decide, by decide, by decide +kernel⟩, by decide⟩
theorem ff_X9_9_56 : zFc RX9 9 56 0 (some (57, false)) := ⟨_, _, _, tyX9, sh_56, rfl, by decide, iz_X9, kw_163, rfl, tyX9_ok, nmX9⟩
theorem kw_1111 : Cond.methodLink RX9 25 arraycopyName ∈ zg := zg_of (List.mem_of_getElem? (i := 1111) (by decide +kernel)) (by decide +kernel)
theorem ff_X9_15_56 : zFc RX9 15 56 1 (some (58, false)) := ⟨_, _, _, tyX9, sh_56, rfl, by decide, iz_X9, kw_166, rfl, tyX9_ok, nmX9⟩
theorem ff_X9_18_56 : zFc RX9 18 56 2 (some (59, false)) := ⟨_, _, _, tyX9, sh_56, rfl, by decide, iz_X9, kw_168, rfl, tyX9_ok, nmX9⟩
theorem ff_X9_31_56 : zFc RX9 31 56 3 none := ⟨_, _, _, tyX9, sh_56, rfl, by decide, iz_X9, kw_170, rfl, tyX9_ok, nmX9⟩
theorem ff_X9_35_56 : zFc RX9 35 56 4 none := ⟨_, _, _, tyX9, sh_56, rfl, by decide, iz_X9, kw_172, rfl, tyX9_ok, nmX9⟩
theorem ff_X4_28_50 : zFc RX4 28 50 2 (some (60, false)) := ⟨_, _, _, tyX4, sh_50, rfl, by decide, iz_X4, kw_256, rfl, tyX4_ok, nmX4⟩
theorem kw_1115 : Cond.code yX0_copyFrom cX0_copyFrom 2 none ∈ zg := zg_of (List.mem_of_getElem? (i := 1115) (by decide +kernel)) (by decide +kernel)
theorem kw_1112 : Cond.methodLink RX4 57 yX0_copyFrom ∈ zg := zg_of (List.mem_of_getElem? (i := 1112) (by decide +kernel)) (by decide +kernel)
theorem kw_1113 : Cond.instanceMethod yX0_copyFrom ∈ zg := zg_of (List.mem_of_getElem? (i := 1113) (by decide +kernel)) (by decide +kernel)
theorem kw_1114 : Cond.selects RX0 yX0_copyFrom yX0_copyFrom ∈ zg := zg_of (List.mem_of_getElem? (i := 1114) (by decide +kernel)) (by decide +kernel)
theorem mv_X4_57 : zMV RX4 57 yX0_copyFrom cX0_copyFrom 2 none 1 := ⟨⟨kw_1112, kw_1113, kw_1114, kw_88, kw_1115⟩, ⟨by decide, by decide, by decide +kernel⟩, by decide⟩
theorem kw_191 : Cond.fieldLink RX0 9 "HalfAJoke$Book" "told" "[I" ∈ zg := zg_of (List.mem_of_getElem? (i := 191) (by decide +kernel)) (by decide +kernel)
theorem ff_X0_9_60 : zFc RX0 9 60 0 (some (61, false)) := ⟨_, _, _, tyX0, sh_60, rfl, by decide, iz_X0, kw_191, rfl, tyX0_ok, nmX0⟩
theorem ff_X0_9_11 : zFc RX0 9 11 0 (some (12, false)) := ⟨_, _, _, tyX0, sh_11, rfl, by decide, iz_X0, kw_191, rfl, tyX0_ok, nmX0⟩
theorem kw_1116 : Cond.methodLink RX0 24 arraycopyName ∈ zg := zg_of (List.mem_of_getElem? (i := 1116) (by decide +kernel)) (by decide +kernel)
theorem kw_195 : Cond.fieldLink RX0 15 "HalfAJoke$Book" "last" "[I" ∈ zg := zg_of (List.mem_of_getElem? (i := 195) (by decide +kernel)) (by decide +kernel)
theorem ff_X0_15_60 : zFc RX0 15 60 1 (some (62, false)) := ⟨_, _, _, tyX0, sh_60, rfl, by decide, iz_X0, kw_195, rfl, tyX0_ok, nmX0⟩
theorem ff_X0_15_11 : zFc RX0 15 11 1 (some (13, false)) := ⟨_, _, _, tyX0, sh_11, rfl, by decide, iz_X0, kw_195, rfl, tyX0_ok, nmX0⟩
theorem kw_199 : Cond.fieldLink RX0 18 "HalfAJoke$Book" "fame" "[I" ∈ zg := zg_of (List.mem_of_getElem? (i := 199) (by decide +kernel)) (by decide +kernel)
theorem ff_X0_18_60 : zFc RX0 18 60 2 (some (63, false)) := ⟨_, _, _, tyX0, sh_60, rfl, by decide, iz_X0, kw_199, rfl, tyX0_ok, nmX0⟩
theorem ff_X0_18_11 : zFc RX0 18 11 2 (some (14, false)) := ⟨_, _, _, tyX0, sh_11, rfl, by decide, iz_X0, kw_199, rfl, tyX0_ok, nmX0⟩
theorem ff_X0_21_60 : zFc RX0 21 60 3 (some (64, false)) := ⟨_, _, _, tyX0, sh_60, rfl, by decide, iz_X0, kw_202, rfl, tyX0_ok, nmX0⟩
theorem ff_X0_30_60 : zFc RX0 30 60 4 none := ⟨_, _, _, tyX0, sh_60, rfl, by decide, iz_X0, kw_204, rfl, tyX0_ok, nmX0⟩
theorem ff_X0_34_60 : zFc RX0 34 60 5 none := ⟨_, _, _, tyX0, sh_60, rfl, by decide, iz_X0, kw_207, rfl, tyX0_ok, nmX0⟩
theorem ff_X4_35_50 : zFc RX4 35 50 3 (some (65, false)) := ⟨_, _, _, tyX4, sh_50, rfl, by decide, iz_X4, kw_259, rfl, tyX4_ok, nmX4⟩
theorem kw_747 : Cond.code yX5_copyFrom cX5_copyFrom 2 none ∈ zg := zg_of (List.mem_of_getElem? (i := 747) (by decide +kernel)) (by decide +kernel)
theorem kw_1117 : Cond.methodLink RX4 60 yX5_copyFrom ∈ zg := zg_of (List.mem_of_getElem? (i := 1117) (by decide +kernel)) (by decide +kernel)
theorem kw_745 : Cond.instanceMethod yX5_copyFrom ∈ zg := zg_of (List.mem_of_getElem? (i := 745) (by decide +kernel)) (by decide +kernel)
theorem kw_746 : Cond.selects RX5 yX5_copyFrom yX5_copyFrom ∈ zg := zg_of (List.mem_of_getElem? (i := 746) (by decide +kernel)) (by decide +kernel)
theorem mv_X4_60 : zMV RX4 60 yX5_copyFrom cX5_copyFrom 2 none 1 := ⟨⟨kw_1117, kw_745, kw_746, kw_89, kw_747⟩, ⟨by decide, by decide, by decide +kernel⟩, by decide⟩
theorem ff_X5_11_65 : zFc RX5 11 65 0 (some (66, false)) := ⟨_, _, _, tyX5, sh_65, rfl, by decide, iz_X5, kw_230, rfl, tyX5_ok, nmX5⟩
theorem ff_X5_21_65 : zFc RX5 21 65 3 none := ⟨_, _, _, tyX5, sh_65, rfl, by decide, iz_X5, kw_233, rfl, tyX5_ok, nmX5⟩
theorem kw_748 : Cond.methodLink RX5 28 arraycopyName ∈ zg := zg_of (List.mem_of_getElem? (i := 748) (by decide +kernel)) (by decide +kernel)
theorem ff_X5_15_65 : zFc RX5 15 65 1 (some (67, false)) := ⟨_, _, _, tyX5, sh_65, rfl, by decide, iz_X5, kw_231, rfl, tyX5_ok, nmX5⟩
theorem fw_16_3 : ∀ q : vw_C, ∀ ci fl, zsh 16 = .inr (ci, fl) → zcl[ci]? = some q → (q.2.1 3).2.2.2 = false ∧ (q.2.1 3).2.2.1 = "I" := zfin sh_16 rfl ⟨rfl, rfl⟩
theorem kw_234 : Cond.fieldLink RX5 25 "HalfAJoke$Law" "lines" "I" ∈ zg := zg_of (List.mem_of_getElem? (i := 234) (by decide +kernel)) (by decide +kernel)
theorem ff_X5_25_65 : zFc RX5 25 65 4 none := ⟨_, _, _, tyX5, sh_65, rfl, by decide, iz_X5, kw_234, rfl, tyX5_ok, nmX5⟩
theorem ff_X5_25_16 : zFc RX5 25 16 4 none := ⟨_, _, _, tyX5, sh_16, rfl, by decide, iz_X5, kw_234, rfl, tyX5_ok, nmX5⟩
theorem fw_16_4 : ∀ q : vw_C, ∀ ci fl, zsh 16 = .inr (ci, fl) → zcl[ci]? = some q → (q.2.1 4).2.2.2 = false ∧ (q.2.1 4).2.2.1 = "I" := zfin sh_16 rfl ⟨rfl, rfl⟩
theorem ff_X4_39_50 : zFc RX4 39 50 4 (some (69, false)) := ⟨_, _, _, tyX4, sh_50, rfl, by decide, iz_X4, kw_261, rfl, tyX4_ok, nmX4⟩
theorem kw_1118 : Cond.methodLink RX4 63 arraycopyName ∈ zg := zg_of (List.mem_of_getElem? (i := 1118) (by decide +kernel)) (by decide +kernel)
theorem kw_265 : Cond.fieldLink RX4 46 "HalfAJoke$House" "need" "I" ∈ zg := zg_of (List.mem_of_getElem? (i := 265) (by decide +kernel)) (by decide +kernel)
theorem ff_X4_46_50 : zFc RX4 46 50 6 none := ⟨_, _, _, tyX4, sh_50, rfl, by decide, iz_X4, kw_265, rfl, tyX4_ok, nmX4⟩
theorem ff_X4_46_1 : zFc RX4 46 1 6 none := ⟨_, _, _, tyX4, sh_1, rfl, by decide, iz_X4, kw_265, rfl, tyX4_ok, nmX4⟩
theorem kw_268 : Cond.fieldLink RX4 69 "HalfAJoke$House" "spoil" "I" ∈ zg := zg_of (List.mem_of_getElem? (i := 268) (by decide +kernel)) (by decide +kernel)
theorem ff_X4_69_50 : zFc RX4 69 50 7 none := ⟨_, _, _, tyX4, sh_50, rfl, by decide, iz_X4, kw_268, rfl, tyX4_ok, nmX4⟩
theorem ff_X4_69_1 : zFc RX4 69 1 7 none := ⟨_, _, _, tyX4, sh_1, rfl, by decide, iz_X4, kw_268, rfl, tyX4_ok, nmX4⟩
theorem ff_X4_72_50 : zFc RX4 72 50 8 none := ⟨_, _, _, tyX4, sh_50, rfl, by decide, iz_X4, kw_271, rfl, tyX4_ok, nmX4⟩
theorem fw_51_4 : ∀ q : vw_C, ∀ ci fl, zsh 51 = .inr (ci, fl) → zcl[ci]? = some q → (q.2.1 4).2.2.2 = false ∧ (q.2.1 4).2.2.1 = "I" := zfin sh_51 rfl ⟨rfl, rfl⟩
theorem fw_56_3 : ∀ q : vw_C, ∀ ci fl, zsh 56 = .inr (ci, fl) → zcl[ci]? = some q → (q.2.1 3).2.2.2 = false ∧ (q.2.1 3).2.2.1 = "I" := zfin sh_56 rfl ⟨rfl, rfl⟩
theorem fw_56_4 : ∀ q : vw_C, ∀ ci fl, zsh 56 = .inr (ci, fl) → zcl[ci]? = some q → (q.2.1 4).2.2.2 = false ∧ (q.2.1 4).2.2.1 = "I" := zfin sh_56 rfl ⟨rfl, rfl⟩
theorem fw_60_4 : ∀ q : vw_C, ∀ ci fl, zsh 60 = .inr (ci, fl) → zcl[ci]? = some q → (q.2.1 4).2.2.2 = false ∧ (q.2.1 4).2.2.1 = "I" := zfin sh_60 rfl ⟨rfl, rfl⟩
theorem fw_60_5 : ∀ q : vw_C, ∀ ci fl, zsh 60 = .inr (ci, fl) → zcl[ci]? = some q → (q.2.1 5).2.2.2 = false ∧ (q.2.1 5).2.2.1 = "I" := zfin sh_60 rfl ⟨rfl, rfl⟩
theorem fw_65_3 : ∀ q : vw_C, ∀ ci fl, zsh 65 = .inr (ci, fl) → zcl[ci]? = some q → (q.2.1 3).2.2.2 = false ∧ (q.2.1 3).2.2.1 = "I" := zfin sh_65 rfl ⟨rfl, rfl⟩
theorem fw_65_4 : ∀ q : vw_C, ∀ ci fl, zsh 65 = .inr (ci, fl) → zcl[ci]? = some q → (q.2.1 4).2.2.2 = false ∧ (q.2.1 4).2.2.1 = "I" := zfin sh_65 rfl ⟨rfl, rfl⟩
theorem fw_50_6 : ∀ q : vw_C, ∀ ci fl, zsh 50 = .inr (ci, fl) → zcl[ci]? = some q → (q.2.1 6).2.2.2 = false ∧ (q.2.1 6).2.2.1 = "I" := zfin sh_50 rfl ⟨rfl, rfl⟩
theorem fw_50_7 : ∀ q : vw_C, ∀ ci fl, zsh 50 = .inr (ci, fl) → zcl[ci]? = some q → (q.2.1 7).2.2.2 = false ∧ (q.2.1 7).2.2.1 = "I" := zfin sh_50 rfl ⟨rfl, rfl⟩
theorem fw_50_8 : ∀ q : vw_C, ∀ ci fl, zsh 50 = .inr (ci, fl) → zcl[ci]? = some q → (q.2.1 8).2.2.2 = false ∧ (q.2.1 8).2.2.1 = "I" := zfin sh_50 rfl ⟨rfl, rfl⟩
theorem ff_X5_11_34 : zFc RX5 11 34 0 (some (35, false)) := ⟨_, _, _, tyX5, sh_34, rfl, by decide, iz_X5, kw_230, rfl, tyX5_ok, nmX5⟩
theorem ff_X5_21_34 : zFc RX5 21 34 3 none := ⟨_, _, _, tyX5, sh_34, rfl, by decide, iz_X5, kw_233, rfl, tyX5_ok, nmX5⟩
theorem ff_X5_15_34 : zFc RX5 15 34 1 (some (36, false)) := ⟨_, _, _, tyX5, sh_34, rfl, by decide, iz_X5, kw_231, rfl, tyX5_ok, nmX5⟩
theorem ff_X5_25_34 : zFc RX5 25 34 4 none := ⟨_, _, _, tyX5, sh_34, rfl, by decide, iz_X5, kw_234, rfl, tyX5_ok, nmX5⟩
section
abbrev nd_X1_merryOf_r44 : List Nat := [1, 2, 4, 5, 7, 8, 11, 12, 13, 16, 17, 18, 19, 20, 21, 38, 39, 40, 41, 42, 43, 44]
abbrev ld_X1_merryOf_r44 : List (Nat × Nat) := [(1, 0), (1, 1), (1, 2), (1, 3), (1, 4), (1, 5), (2, 1), (2, 2), (7, 0), (11, 0), (11, 1), (16, 0), (16, 1), (16, 2), (38, 0), (38, 1), (38, 2), (38, 3), (38, 4), (38, 5)]
theorem sn_X1_merryOf_r44_X1_untell : ∀ c ∈ nd_X1_untell, c ∈ nd_X1_merryOf_r44 := by decide
theorem sl_X1_merryOf_r44_X1_untell : ∀ q ∈ ld_X1_untell, q ∈ ld_X1_merryOf_r44 := by decide
theorem sn_X1_merryOf_r44_X1_tellBetween : ∀ c ∈ nd_X1_tellBetween, c ∈ nd_X1_merryOf_r44 := by decide
theorem sl_X1_merryOf_r44_X1_tellBetween : ∀ q ∈ ld_X1_tellBetween, q ∈ ld_X1_merryOf_r44 := by decide
def f_X1_merryOf_r44_49  : Nat → Int32 → Int32 → Int32 → zH → zR
  | 0 => fun _ _ _ _ => none
  | n + 1 => fun x2 x3 x4 h => (if x2 ≤ x4 then (some (x3, h)) else (zbd (f_X1_untell  h) fun r1 h2 => (zlt (x4 + (1 : Int32)) fun y3 => (f_X1_merryOf_r44_49  n x2 x3 y3 h2))))
def f_X1_merryOf_r44_34 (k5 : Int32 → Int32 → Int32 → zH → zR) (x2 : Int32) (x4 : Int32) (s0 : Int32) (s2 : Int32) (s4 : Int32) (h : zH) : zR := (zck s0 8 (zbd (f_X1_tellBetween s2 (h 44 (Int32.toNatClampNeg s0)) h) fun r4 h5 => (zlt (s4 + r4) fun y6 => (zlt (x4 + (1 : Int32)) fun y7 => (k5 x2 y6 y7 h5)))))
def f_X1_merryOf_r44_5  : Nat → Int32 → Int32 → Int32 → zH → zR
  | 0 => fun _ _ _ _ => none
  | n + 1 => fun x2 x3 x4 h => (if x2 ≤ x4 then (f_X1_merryOf_r44_49  zN x2 x3 (0 : Int32) h) else (zck x4 8 (if x2 ≤ (x4 + (1 : Int32)) then (f_X1_merryOf_r44_34 (f_X1_merryOf_r44_5  n) x2 x4 (0 : Int32) (h 44 (Int32.toNatClampNeg x4)) x3 h) else (f_X1_merryOf_r44_34 (f_X1_merryOf_r44_5  n) x2 x4 (x4 + (1 : Int32)) (h 44 (Int32.toNatClampNeg x4)) x3 h))))
def f_X1_merryOf_r44  (x2 : Int32) (h : zH) : zR := (f_X1_merryOf_r44_5  zN x2 (0 : Int32) (0 : Int32) h)
variable {p : Program} {l : Launch} {e : Env} {s : State} {m : MethodId} {args : Array Value} {below : List Frame} {meth : Method} {c : Code} {G : zG} {q : Int32 × zH}
set_option maxHeartbeats 4000000 in
set_option maxRecDepth 100000 in
theorem w_X1_merryOf_r44_49  (C : zC G p s m args meth c cX1_merryOf 5 RX1 (some .int)) (hm : ∀ c ∈ nd_X1_merryOf_r44, c ∈ znm G) (hk : ∀ q ∈ ld_X1_merryOf_r44, zlk G q.1 q.2 = true)  : ∀ n, ∀ (ls : Array Slot) (H : Heap) (locs : List Loc) (h : zH) (x2 : Int32) (x3 : Int32) (x4 : Int32), lv_has ls 5 [(0, .ref (zal G 38)), (2, .int x2), (3, .int x3), (4, .int x4)] → zS G h s.heap H locs → f_X1_merryOf_r44_49  n x2 x3 x4 h = some q → W p l e (zrm (7)) s m args below meth c H locs 0 0 (MQ below (zQI G q.2 q.1) args s 0 0 (zA G)) (F0 m 49 ls []) := by
  intro n
  induction n with
  | zero => intro ls H locs h x2 x3 x4 hl hS hf; cases hf
  | succ n ih =>
    intro ls H locs h x2 x3 x4 hl hS hf
    rw [f_X1_merryOf_r44_49] at hf
    refine lv_iload C.1 C.2.1 dX1_merryOf_49 (lv_at hl 3 rfl) ?_
    refine lv_iload_n C.1 C.2.1 dX1_merryOf_51 rfl (lv_at hl 1 rfl) ?_
    refine lv_icmp_ge (tgt := 65) C.1 C.2.1 dX1_merryOf_52 (by decide) (fun hc => ?_) (fun hc => ?_)
    · have hf := zif_t hc hf
      refine lv_iload_n C.1 C.2.1 dX1_merryOf_65 rfl (lv_at hl 2 rfl) ?_
      exact zretI C hS hf dX1_merryOf_66
    · have hf := zif_f hc hf
      refine lv_aload_n C.1 C.2.1 dX1_merryOf_55 rfl (lv_at hl 0 rfl) ?_
      obtain ⟨r1, h2, er1, hf⟩ := zbd_some hf
      refine zcallVV (As := []) (rest := []) C hS mv_X1_113 (c_X1_untell l G h  (r1, h2) (fun c h => hm c (sn_X1_merryOf_r44_X1_untell c h)) (fun q h => hk q (sl_X1_merryOf_r44_X1_untell q h)) er1) (hm 38 (by decide)) ⟨_, _, _, sh_38, rfl, rfl⟩ rfl rfl (Nat.le_of_ble_eq_true rfl) hl.1 ⟨Nat.le_of_ble_eq_true rfl, Nat.le_of_ble_eq_true rfl, Nat.le_of_ble_eq_true rfl, Nat.le_of_ble_eq_true rfl⟩ dX1_merryOf_56 (fun H locs hS => ?_)
      obtain ⟨y3, ey3, hf⟩ := zlt_some hf
      refine lv_iinc (v := y3) (lv' := [(4, .int y3), (0, .ref (zal G 38)), (2, .int x2), (3, .int x3)]) C.1 C.2.1 dX1_merryOf_59 hl (k := 3) rfl ey3.symm (by decide) rfl (fun ls hl => ?_)
      refine lv_goto (tgt := 49) C.1 C.2.1 dX1_merryOf_62 (by decide) ?_
      exact ih _ _ _ _ _ _ _ (lv_sub hl [1, 2, 3, 0] rfl) hS hf
set_option maxHeartbeats 4000000 in
set_option maxRecDepth 100000 in
theorem w_X1_merryOf_r44_34 {k5 : Int32 → Int32 → Int32 → zH → zR} (C : zC G p s m args meth c cX1_merryOf 5 RX1 (some .int)) (hm : ∀ c ∈ nd_X1_merryOf_r44, c ∈ znm G) (hk : ∀ q ∈ ld_X1_merryOf_r44, zlk G q.1 q.2 = true) (hk5 : ∀ (ls : Array Slot) (H : Heap) (locs : List Loc) (h : zH) (x2 : Int32) (x3 : Int32) (x4 : Int32), lv_has ls 5 [(0, .ref (zal G 38)), (1, .ref (zal G 44)), (2, .int x2), (3, .int x3), (4, .int x4)] → zS G h s.heap H locs → k5 x2 x3 x4 h = some q → W p l e (zrm (7)) s m args below meth c H locs 0 0 (MQ below (zQI G q.2 q.1) args s 0 0 (zA G)) (F0 m 5 ls [])) : ∀ (ls : Array Slot) (H : Heap) (locs : List Loc) (h : zH) (x2 : Int32) (x4 : Int32) (s0 : Int32) (s2 : Int32) (s4 : Int32), lv_has ls 5 [(0, .ref (zal G 38)), (1, .ref (zal G 44)), (2, .int x2), (4, .int x4)] → zS G h s.heap H locs → f_X1_merryOf_r44_34 k5 x2 x4 s0 s2 s4 h = some q → W p l e (zrm (7)) s m args below meth c H locs 0 0 (MQ below (zQI G q.2 q.1) args s 0 0 (zA G)) (F0 m 34 ls [.int s0, .ref (zal G 44), .int s2, .ref (zal G 38), .int s4]) := by
  intro ls H locs h x2 x4 s0 s2 s4 hl hS hf
  unfold f_X1_merryOf_r44_34 at hf
  obtain ⟨hi, hf⟩ := zck_some hf
  refine zald C hS sh_44 (hm 44 (by decide)) hi dX1_merryOf_34 ?_
  obtain ⟨r4, h5, er4, hf⟩ := zbd_some hf
  refine zcallVI (As := [.int s2, .int (h 44 (Int32.toNatClampNeg s0))]) (rest := [.int s4]) C hS mv_X1_110 (c_X1_tellBetween l G h s2 (h 44 (Int32.toNatClampNeg s0)) (r4, h5) (fun c h => hm c (sn_X1_merryOf_r44_X1_tellBetween c h)) (fun q h => hk q (sl_X1_merryOf_r44_X1_tellBetween q h)) er4) (hm 38 (by decide)) ⟨_, _, _, sh_38, rfl, rfl⟩ rfl rfl (Nat.le_of_ble_eq_true rfl) hl.1 ⟨Nat.le_of_ble_eq_true rfl, Nat.le_of_ble_eq_true rfl, Nat.le_of_ble_eq_true rfl, Nat.le_of_ble_eq_true rfl⟩ dX1_merryOf_35 (fun H locs hS => ?_)
  refine lv_iadd C.1 C.2.1 dX1_merryOf_38 ?_
  obtain ⟨y6, ey6, hf⟩ := zlt_some hf
  refine ztop ey6 ?_
  refine lv_istore_n (lv' := [(3, .int y6), (0, .ref (zal G 38)), (1, .ref (zal G 44)), (2, .int x2), (4, .int x4)]) C.1 C.2.1 dX1_merryOf_39 rfl hl (by decide) rfl (fun ls hl => ?_)
  obtain ⟨y7, ey7, hf⟩ := zlt_some hf
  refine lv_iinc (v := y7) (lv' := [(4, .int y7), (3, .int y6), (0, .ref (zal G 38)), (1, .ref (zal G 44)), (2, .int x2)]) C.1 C.2.1 dX1_merryOf_40 hl (k := 4) rfl ey7.symm (by decide) rfl (fun ls hl => ?_)
  refine lv_goto (tgt := 5) C.1 C.2.1 dX1_merryOf_43 (by decide) ?_
  exact hk5 _ _ _ _ _ _ _ (lv_sub hl [2, 3, 4, 1, 0] rfl) hS hf
set_option maxHeartbeats 4000000 in
set_option maxRecDepth 100000 in
theorem w_X1_merryOf_r44_5  (C : zC G p s m args meth c cX1_merryOf 5 RX1 (some .int)) (hm : ∀ c ∈ nd_X1_merryOf_r44, c ∈ znm G) (hk : ∀ q ∈ ld_X1_merryOf_r44, zlk G q.1 q.2 = true)  : ∀ n, ∀ (ls : Array Slot) (H : Heap) (locs : List Loc) (h : zH) (x2 : Int32) (x3 : Int32) (x4 : Int32), lv_has ls 5 [(0, .ref (zal G 38)), (1, .ref (zal G 44)), (2, .int x2), (3, .int x3), (4, .int x4)] → zS G h s.heap H locs → f_X1_merryOf_r44_5  n x2 x3 x4 h = some q → W p l e (zrm (7)) s m args below meth c H locs 0 0 (MQ below (zQI G q.2 q.1) args s 0 0 (zA G)) (F0 m 5 ls []) := by
  intro n
  induction n with
  | zero => intro ls H locs h x2 x3 x4 hl hS hf; cases hf
  | succ n ih =>
    intro ls H locs h x2 x3 x4 hl hS hf
    rw [f_X1_merryOf_r44_5] at hf
    refine lv_iload C.1 C.2.1 dX1_merryOf_5 (lv_at hl 4 rfl) ?_
    refine lv_iload_n C.1 C.2.1 dX1_merryOf_7 rfl (lv_at hl 2 rfl) ?_
    refine lv_icmp_ge (tgt := 46) C.1 C.2.1 dX1_merryOf_8 (by decide) (fun hc => ?_) (fun hc => ?_)
    · have hf := zif_t hc hf
      refine lv_iconst (v := (0 : Int32)) C.1 C.2.1 dX1_merryOf_46 rfl ?_
      refine lv_istore (lv' := [(4, .int (0 : Int32)), (0, .ref (zal G 38)), (1, .ref (zal G 44)), (2, .int x2), (3, .int x3)]) C.1 C.2.1 dX1_merryOf_47 hl (by decide) rfl (fun ls hl => ?_)
      exact w_X1_merryOf_r44_49 C hm hk  zN _ _ _ _ _ _ _ (lv_sub hl [1, 3, 4, 0] rfl) hS hf
    · have hf := zif_f hc hf
      refine lv_iload_n C.1 C.2.1 dX1_merryOf_11 rfl (lv_at hl 3 rfl) ?_
      refine lv_aload_n C.1 C.2.1 dX1_merryOf_12 rfl (lv_at hl 0 rfl) ?_
      refine lv_aload_n C.1 C.2.1 dX1_merryOf_13 rfl (lv_at hl 1 rfl) ?_
      refine lv_iload C.1 C.2.1 dX1_merryOf_14 (lv_at hl 4 rfl) ?_
      obtain ⟨hi, hf⟩ := zck_some hf
      refine zald C hS sh_44 (hm 44 (by decide)) hi dX1_merryOf_16 ?_
      refine lv_aload_n C.1 C.2.1 dX1_merryOf_17 rfl (lv_at hl 1 rfl) ?_
      refine lv_iload C.1 C.2.1 dX1_merryOf_18 (lv_at hl 4 rfl) ?_
      refine lv_iconst (v := (1 : Int32)) C.1 C.2.1 dX1_merryOf_20 rfl ?_
      refine lv_iadd C.1 C.2.1 dX1_merryOf_21 ?_
      refine lv_iload_n C.1 C.2.1 dX1_merryOf_22 rfl (lv_at hl 2 rfl) ?_
      refine lv_icmp_ge (tgt := 33) C.1 C.2.1 dX1_merryOf_23 (by decide) (fun hc => ?_) (fun hc => ?_)
      · have hf := zif_t hc hf
        refine lv_iconst (v := (0 : Int32)) C.1 C.2.1 dX1_merryOf_33 rfl ?_
        exact w_X1_merryOf_r44_34 C hm hk ih _ _ _ _ _ _ _ _ _ (lv_sub hl [0, 1, 2, 4] rfl) hS hf
      · have hf := zif_f hc hf
        refine lv_iload C.1 C.2.1 dX1_merryOf_26 (lv_at hl 4 rfl) ?_
        refine lv_iconst (v := (1 : Int32)) C.1 C.2.1 dX1_merryOf_28 rfl ?_
        refine lv_iadd C.1 C.2.1 dX1_merryOf_29 ?_
        refine lv_goto (tgt := 34) C.1 C.2.1 dX1_merryOf_30 (by decide) ?_
        exact w_X1_merryOf_r44_34 C hm hk ih _ _ _ _ _ _ _ _ _ (lv_sub hl [0, 1, 2, 4] rfl) hS hf
set_option maxHeartbeats 4000000 in
set_option maxRecDepth 100000 in
theorem c_X1_merryOf_r44 (l : Launch) (G : zG) (h : zH) (x2 : Int32) (q : Int32 × zH) (hm : ∀ c ∈ nd_X1_merryOf_r44, c ∈ znm G) (hk : ∀ q ∈ ld_X1_merryOf_r44, zlk G q.1 q.2 = true) (hf : f_X1_merryOf_r44 x2 h = some q) : zCtI l yX1_merryOf cX1_merryOf 5 (some .int) (7) [.ref (zal G 38), .ref (zal G 44), .int x2] G h q.2 q.1 := by
  refine zMetI (by decide) (Nat.le_of_ble_eq_true rfl) ?_
  intro p e s m below meth c ls C hl hS
  have hl : lv_has ls 5 [(0, .ref (zal G 38)), (1, .ref (zal G 44)), (2, .int x2)] := hl
  have C : zC G p s m [.ref (zal G 38), .ref (zal G 44), .int x2].toArray meth c cX1_merryOf 5 RX1 (some .int) := C
  unfold f_X1_merryOf_r44 at hf
  refine lv_iconst (v := (0 : Int32)) C.1 C.2.1 dX1_merryOf_0 rfl ?_
  refine lv_istore_n (lv' := [(3, .int (0 : Int32)), (0, .ref (zal G 38)), (1, .ref (zal G 44)), (2, .int x2)]) C.1 C.2.1 dX1_merryOf_1 rfl hl (by decide) rfl (fun ls hl => ?_)
  refine lv_iconst (v := (0 : Int32)) C.1 C.2.1 dX1_merryOf_2 rfl ?_
  refine lv_istore (lv' := [(4, .int (0 : Int32)), (3, .int (0 : Int32)), (0, .ref (zal G 38)), (1, .ref (zal G 44)), (2, .int x2)]) C.1 C.2.1 dX1_merryOf_3 hl (by decide) rfl (fun ls hl => ?_)
  exact w_X1_merryOf_r44_5 C hm hk  zN _ _ _ _ _ _ _ (lv_sub hl [2, 3, 4, 1, 0] rfl) hS hf
end
section
theorem dX11_merryChanged_0 : decode cX11_merryChanged 0 = .ok (.aload_n 0, 1) := by decide +kernel
theorem dX11_merryChanged_1 : decode cX11_merryChanged 1 = .ok (.getfield 12, 3) := by decide +kernel
theorem dX11_merryChanged_4 : decode cX11_merryChanged 4 = .ok (.getfield 90, 3) := by decide +kernel
theorem dX11_merryChanged_7 : decode cX11_merryChanged 7 = .ok (.astore_n 3, 1) := by decide +kernel
theorem dX11_merryChanged_8 : decode cX11_merryChanged 8 = .ok (.aload_n 3, 1) := by decide +kernel
theorem dX11_merryChanged_9 : decode cX11_merryChanged 9 = .ok (.getfield 179, 3) := by decide +kernel
theorem dX11_merryChanged_12 : decode cX11_merryChanged 12 = .ok (.iload_n 1, 1) := by decide +kernel
theorem dX11_merryChanged_13 : decode cX11_merryChanged 13 = .ok (.iaload, 1) := by decide +kernel
theorem dX11_merryChanged_14 : decode cX11_merryChanged 14 = .ok (.istore 4, 2) := by decide +kernel
theorem dX11_merryChanged_16 : decode cX11_merryChanged 16 = .ok (.aload_n 3, 1) := by decide +kernel
theorem dX11_merryChanged_17 : decode cX11_merryChanged 17 = .ok (.getfield 179, 3) := by decide +kernel
theorem dX11_merryChanged_20 : decode cX11_merryChanged 20 = .ok (.iload_n 2, 1) := by decide +kernel
theorem dX11_merryChanged_21 : decode cX11_merryChanged 21 = .ok (.iaload, 1) := by decide +kernel
theorem dX11_merryChanged_22 : decode cX11_merryChanged 22 = .ok (.istore 5, 2) := by decide +kernel
theorem dX11_merryChanged_24 : decode cX11_merryChanged 24 = .ok (.iload 4, 2) := by decide +kernel
theorem dX11_merryChanged_26 : decode cX11_merryChanged 26 = .ok (.iconst (-1), 1) := by decide +kernel
theorem dX11_merryChanged_27 : decode cX11_merryChanged 27 = .ok (.if_icmp .eq 9, 3) := by decide +kernel
theorem dX11_merryChanged_30 : decode cX11_merryChanged 30 = .ok (.iload 5, 2) := by decide +kernel
theorem dX11_merryChanged_32 : decode cX11_merryChanged 32 = .ok (.iconst (-1), 1) := by decide +kernel
theorem dX11_merryChanged_33 : decode cX11_merryChanged 33 = .ok (.if_icmp .ne 5, 3) := by decide +kernel
theorem dX11_merryChanged_36 : decode cX11_merryChanged 36 = .ok (.iconst (-1), 1) := by decide +kernel
theorem dX11_merryChanged_37 : decode cX11_merryChanged 37 = .ok (.ireturn, 1) := by decide +kernel
theorem dX11_merryChanged_38 : decode cX11_merryChanged 38 = .ok (.aload_n 3, 1) := by decide +kernel
theorem dX11_merryChanged_39 : decode cX11_merryChanged 39 = .ok (.getfield 200, 3) := by decide +kernel
theorem dX11_merryChanged_42 : decode cX11_merryChanged 42 = .ok (.iconst 0, 1) := by decide +kernel
theorem dX11_merryChanged_43 : decode cX11_merryChanged 43 = .ok (.aload_n 0, 1) := by decide +kernel
theorem dX11_merryChanged_44 : decode cX11_merryChanged 44 = .ok (.getfield 39, 3) := by decide +kernel
theorem dX11_merryChanged_47 : decode cX11_merryChanged 47 = .ok (.iconst 0, 1) := by decide +kernel
theorem dX11_merryChanged_48 : decode cX11_merryChanged 48 = .ok (.bipush 8, 2) := by decide +kernel
theorem dX11_merryChanged_50 : decode cX11_merryChanged 50 = .ok (.invokestatic 292, 3) := by decide +kernel
theorem dX11_merryChanged_53 : decode cX11_merryChanged 53 = .ok (.aload_n 0, 1) := by decide +kernel
theorem dX11_merryChanged_54 : decode cX11_merryChanged 54 = .ok (.getfield 39, 3) := by decide +kernel
theorem dX11_merryChanged_57 : decode cX11_merryChanged 57 = .ok (.iload 4, 2) := by decide +kernel
theorem dX11_merryChanged_59 : decode cX11_merryChanged 59 = .ok (.iload_n 2, 1) := by decide +kernel
theorem dX11_merryChanged_60 : decode cX11_merryChanged 60 = .ok (.iastore, 1) := by decide +kernel
theorem dX11_merryChanged_61 : decode cX11_merryChanged 61 = .ok (.aload_n 0, 1) := by decide +kernel
theorem dX11_merryChanged_62 : decode cX11_merryChanged 62 = .ok (.getfield 39, 3) := by decide +kernel
theorem dX11_merryChanged_65 : decode cX11_merryChanged 65 = .ok (.iload 5, 2) := by decide +kernel
theorem dX11_merryChanged_67 : decode cX11_merryChanged 67 = .ok (.iload_n 1, 1) := by decide +kernel
theorem dX11_merryChanged_68 : decode cX11_merryChanged 68 = .ok (.iastore, 1) := by decide +kernel
theorem dX11_merryChanged_69 : decode cX11_merryChanged 69 = .ok (.aload_n 0, 1) := by decide +kernel
theorem dX11_merryChanged_70 : decode cX11_merryChanged 70 = .ok (.getfield 35, 3) := by decide +kernel
theorem dX11_merryChanged_73 : decode cX11_merryChanged 73 = .ok (.aload_n 0, 1) := by decide +kernel
theorem dX11_merryChanged_74 : decode cX11_merryChanged 74 = .ok (.getfield 39, 3) := by decide +kernel
theorem dX11_merryChanged_77 : decode cX11_merryChanged 77 = .ok (.aload_n 3, 1) := by decide +kernel
theorem dX11_merryChanged_78 : decode cX11_merryChanged 78 = .ok (.getfield 194, 3) := by decide +kernel
theorem dX11_merryChanged_81 : decode cX11_merryChanged 81 = .ok (.invokevirtual 228, 3) := by decide +kernel
theorem dX11_merryChanged_84 : decode cX11_merryChanged 84 = .ok (.ireturn, 1) := by decide +kernel
abbrev nd_X11_merryChanged : List Nat := [0, 1, 2, 4, 5, 7, 8, 9, 10, 11, 12, 13, 16, 17, 18, 19, 20, 21, 38, 39, 40, 41, 42, 43, 44]
abbrev ld_X11_merryChanged : List (Nat × Nat) := [(0, 0), (0, 3), (0, 4), (1, 0), (1, 1), (1, 2), (1, 3), (1, 4), (1, 5), (2, 1), (2, 2), (7, 0), (7, 1), (7, 2), (11, 0), (11, 1), (16, 0), (16, 1), (16, 2), (38, 0), (38, 1), (38, 2), (38, 3), (38, 4), (38, 5)]
theorem sn_X11_merryChanged_X1_merryOf_r44 : ∀ c ∈ nd_X1_merryOf_r44, c ∈ nd_X11_merryChanged := by decide
theorem sl_X11_merryChanged_X1_merryOf_r44 : ∀ q ∈ ld_X1_merryOf_r44, q ∈ ld_X11_merryChanged := by decide
def f_X11_merryChanged_36  (h : zH) : zR := (some ((-1 : Int32), h))
def f_X11_merryChanged  (x1 : Int32) (x2 : Int32) (h : zH) : zR := (zck x1 8 (zlt (h 9 (Int32.toNatClampNeg x1)) fun y1 => (zck x2 8 (zlt (h 9 (Int32.toNatClampNeg x2)) fun y2 => (if y1 = (-1 : Int32) then (f_X11_merryChanged_36   h) else (if y2 = (-1 : Int32) then (f_X11_merryChanged_36   h) else (zcc 8 8 (0 : Int32) (0 : Int32) (8 : Int32) (zst (zcp h 10 44 (0 : Int32) (0 : Int32) (8 : Int32)) fun h3 => (zck y1 8 (zst (zup h3 44 (Int32.toNatClampNeg y1) x2) fun h4 => (zck y2 8 (zst (zup h4 44 (Int32.toNatClampNeg y2) x1) fun h5 => (zbd (f_X1_merryOf_r44 (h5 7 3) h5) fun r6 h7 => (some (r6, h7)))))))))))))))
variable {p : Program} {l : Launch} {e : Env} {s : State} {m : MethodId} {args : Array Value} {below : List Frame} {meth : Method} {c : Code} {G : zG} {q : Int32 × zH}
set_option maxHeartbeats 4000000 in
set_option maxRecDepth 100000 in
theorem w_X11_merryChanged_36  (C : zC G p s m args meth c cX11_merryChanged 6 RX11 (some .int)) (hm : ∀ c ∈ nd_X11_merryChanged, c ∈ znm G) (hk : ∀ q ∈ ld_X11_merryChanged, zlk G q.1 q.2 = true)  : ∀ (ls : Array Slot) (H : Heap) (locs : List Loc) (h : zH), lv_has ls 6 [] → zS G h s.heap H locs → f_X11_merryChanged_36  h = some q → W p l e (zrm (8)) s m args below meth c H locs 0 0 (MQ below (zQI G q.2 q.1) args s 0 0 (zA G)) (F0 m 36 ls []) := by
  intro ls H locs h hl hS hf
  unfold f_X11_merryChanged_36 at hf
  refine lv_iconst (v := (-1 : Int32)) C.1 C.2.1 dX11_merryChanged_36 rfl ?_
  exact zretI C hS hf dX11_merryChanged_37
set_option maxHeartbeats 4000000 in
set_option maxRecDepth 100000 in
theorem c_X11_merryChanged (l : Launch) (G : zG) (h : zH) (x1 : Int32) (x2 : Int32) (q : Int32 × zH) (hm : ∀ c ∈ nd_X11_merryChanged, c ∈ znm G) (hk : ∀ q ∈ ld_X11_merryChanged, zlk G q.1 q.2 = true) (hf : f_X11_merryChanged x1 x2 h = some q) : zCtI l yX11_merryChanged cX11_merryChanged 6 (some .int) (8) [.ref (zal G 0), .int x1, .int x2] G h q.2 q.1 := by
  refine zMetI (by decide) (Nat.le_of_ble_eq_true rfl) ?_
  intro p e s m below meth c ls C hl hS
  have hl : lv_has ls 6 [(0, .ref (zal G 0)), (1, .int x1), (2, .int x2)] := hl
  have C : zC G p s m [.ref (zal G 0), .int x1, .int x2].toArray meth c cX11_merryChanged 6 RX11 (some .int) := C
  unfold f_X11_merryChanged at hf
  refine lv_aload_n C.1 C.2.1 dX11_merryChanged_0 rfl (lv_at hl 0 rfl) ?_
  refine zgetR C hS ff_X11_12_0 (hm 0 (by decide)) (hk (0, 0) (by decide)) dX11_merryChanged_1 ?_
  refine zgetR C hS ff_X11_90_1 (hm 1 (by decide)) (hk (1, 1) (by decide)) dX11_merryChanged_4 ?_
  refine lv_astore_n (lv' := [(3, .ref (zal G 7)), (0, .ref (zal G 0)), (1, .int x1), (2, .int x2)]) C.1 C.2.1 dX11_merryChanged_7 rfl hl (by decide) rfl (fun ls hl => ?_)
  refine lv_aload_n C.1 C.2.1 dX11_merryChanged_8 rfl (lv_at hl 0 rfl) ?_
  refine zgetR C hS ff_X11_179_7 (hm 7 (by decide)) (hk (7, 1) (by decide)) dX11_merryChanged_9 ?_
  refine lv_iload_n C.1 C.2.1 dX11_merryChanged_12 rfl (lv_at hl 2 rfl) ?_
  obtain ⟨hi, hf⟩ := zck_some hf
  refine zald C hS sh_9 (hm 9 (by decide)) hi dX11_merryChanged_13 ?_
  obtain ⟨y1, ey1, hf⟩ := zlt_some hf
  refine ztop ey1 ?_
  refine lv_istore (lv' := [(4, .int y1), (3, .ref (zal G 7)), (0, .ref (zal G 0)), (1, .int x1), (2, .int x2)]) C.1 C.2.1 dX11_merryChanged_14 hl (by decide) rfl (fun ls hl => ?_)
  refine lv_aload_n C.1 C.2.1 dX11_merryChanged_16 rfl (lv_at hl 1 rfl) ?_
  refine zgetR C hS ff_X11_179_7 (hm 7 (by decide)) (hk (7, 1) (by decide)) dX11_merryChanged_17 ?_
  refine lv_iload_n C.1 C.2.1 dX11_merryChanged_20 rfl (lv_at hl 4 rfl) ?_
  obtain ⟨hi, hf⟩ := zck_some hf
  refine zald C hS sh_9 (hm 9 (by decide)) hi dX11_merryChanged_21 ?_
  obtain ⟨y2, ey2, hf⟩ := zlt_some hf
  refine ztop ey2 ?_
  refine lv_istore (lv' := [(5, .int y2), (4, .int y1), (3, .ref (zal G 7)), (0, .ref (zal G 0)), (1, .int x1), (2, .int x2)]) C.1 C.2.1 dX11_merryChanged_22 hl (by decide) rfl (fun ls hl => ?_)
  refine lv_iload C.1 C.2.1 dX11_merryChanged_24 (lv_at hl 1 rfl) ?_
  refine lv_iconst (v := (-1 : Int32)) C.1 C.2.1 dX11_merryChanged_26 rfl ?_
  refine lv_icmp_eq (tgt := 36) C.1 C.2.1 dX11_merryChanged_27 (by decide) (fun hc => ?_) (fun hc => ?_)
  · have hf := zif_t hc hf
    exact w_X11_merryChanged_36 C hm hk  _ _ _ _ (lv_sub hl [] rfl) hS hf
  · have hf := zif_f hc hf
    refine lv_iload C.1 C.2.1 dX11_merryChanged_30 (lv_at hl 0 rfl) ?_
    refine lv_iconst (v := (-1 : Int32)) C.1 C.2.1 dX11_merryChanged_32 rfl ?_
    refine lv_icmp_ne (tgt := 38) C.1 C.2.1 dX11_merryChanged_33 (by decide) (fun hc => ?_) (fun hc => ?_)
    · have hf := zif_f hc hf
      refine lv_aload_n C.1 C.2.1 dX11_merryChanged_38 rfl (lv_at hl 2 rfl) ?_
      refine zgetR C hS ff_X11_200_7 (hm 7 (by decide)) (hk (7, 2) (by decide)) dX11_merryChanged_39 ?_
      refine lv_iconst (v := (0 : Int32)) C.1 C.2.1 dX11_merryChanged_42 rfl ?_
      refine lv_aload_n C.1 C.2.1 dX11_merryChanged_43 rfl (lv_at hl 3 rfl) ?_
      refine zgetR C hS ff_X11_39_0 (hm 0 (by decide)) (hk (0, 4) (by decide)) dX11_merryChanged_44 ?_
      refine lv_iconst (v := (0 : Int32)) C.1 C.2.1 dX11_merryChanged_47 rfl ?_
      refine lv_bipush (v := (8 : Int32)) C.1 C.2.1 dX11_merryChanged_48 rfl ?_
      obtain ⟨hi, hf⟩ := zcc_some hf
      refine zacp C hS kw_1012 sh_10 sh_44 (hm 10 (by decide)) (hm 44 (by decide)) hi (Nat.le_of_ble_eq_true rfl) hl.1 ⟨Nat.le_of_ble_eq_true rfl, Nat.le_of_ble_eq_true rfl⟩ dX11_merryChanged_50 (fun H locs hS => ?_)
      obtain ⟨h3, eh3, hf⟩ := zst_some hf
      have hS : zS G h3 s.heap H locs := by rw [eh3]; exact hS
      refine lv_aload_n C.1 C.2.1 dX11_merryChanged_53 rfl (lv_at hl 3 rfl) ?_
      refine zgetR C hS ff_X11_39_0 (hm 0 (by decide)) (hk (0, 4) (by decide)) dX11_merryChanged_54 ?_
      refine lv_iload C.1 C.2.1 dX11_merryChanged_57 (lv_at hl 1 rfl) ?_
      refine lv_iload_n C.1 C.2.1 dX11_merryChanged_59 rfl (lv_at hl 5 rfl) ?_
      obtain ⟨hi, hf⟩ := zck_some hf
      refine zast C hS sh_44 (hm 44 (by decide)) hi dX11_merryChanged_60 (fun H locs hS => ?_)
      obtain ⟨h4, eh4, hf⟩ := zst_some hf
      have hS : zS G h4 s.heap H locs := by rw [eh4]; exact hS
      refine lv_aload_n C.1 C.2.1 dX11_merryChanged_61 rfl (lv_at hl 3 rfl) ?_
      refine zgetR C hS ff_X11_39_0 (hm 0 (by decide)) (hk (0, 4) (by decide)) dX11_merryChanged_62 ?_
      refine lv_iload C.1 C.2.1 dX11_merryChanged_65 (lv_at hl 0 rfl) ?_
      refine lv_iload_n C.1 C.2.1 dX11_merryChanged_67 rfl (lv_at hl 4 rfl) ?_
      obtain ⟨hi, hf⟩ := zck_some hf
      refine zast C hS sh_44 (hm 44 (by decide)) hi dX11_merryChanged_68 (fun H locs hS => ?_)
      obtain ⟨h5, eh5, hf⟩ := zst_some hf
      have hS : zS G h5 s.heap H locs := by rw [eh5]; exact hS
      refine lv_aload_n C.1 C.2.1 dX11_merryChanged_69 rfl (lv_at hl 3 rfl) ?_
      refine zgetR C hS ff_X11_35_0 (hm 0 (by decide)) (hk (0, 3) (by decide)) dX11_merryChanged_70 ?_
      refine lv_aload_n C.1 C.2.1 dX11_merryChanged_73 rfl (lv_at hl 3 rfl) ?_
      refine zgetR C hS ff_X11_39_0 (hm 0 (by decide)) (hk (0, 4) (by decide)) dX11_merryChanged_74 ?_
      refine lv_aload_n C.1 C.2.1 dX11_merryChanged_77 rfl (lv_at hl 2 rfl) ?_
      refine zgetI C hS ff_X11_194_7 (hm 7 (by decide)) dX11_merryChanged_78 ?_
      obtain ⟨r6, h7, er6, hf⟩ := zbd_some hf
      refine zcallVI (As := [.ref (zal G 44), .int (h5 7 3)]) (rest := []) C hS mv_X11_228 (c_X1_merryOf_r44 l G h5 (h5 7 3) (r6, h7) (fun c h => hm c (sn_X11_merryChanged_X1_merryOf_r44 c h)) (fun q h => hk q (sl_X11_merryChanged_X1_merryOf_r44 q h)) er6) (hm 38 (by decide)) ⟨_, _, _, sh_38, rfl, rfl⟩ rfl rfl (Nat.le_of_ble_eq_true rfl) hl.1 ⟨Nat.le_of_ble_eq_true rfl, Nat.le_of_ble_eq_true rfl, Nat.le_of_ble_eq_true rfl, Nat.le_of_ble_eq_true rfl⟩ dX11_merryChanged_81 (fun H locs hS => ?_)
      exact zretI C hS hf dX11_merryChanged_84
    · have hf := zif_t hc hf
      exact w_X11_merryChanged_36 C hm hk  _ _ _ _ (lv_sub hl [] rfl) hS hf
end
section
theorem dX11_change_0 : decode cX11_change 0 = .ok (.iload_n 1, 1) := by decide +kernel
theorem dX11_change_1 : decode cX11_change 1 = .ok (.iconst 3, 1) := by decide +kernel
theorem dX11_change_2 : decode cX11_change 2 = .ok (.invokestatic 50, 3) := by decide +kernel
theorem dX11_change_5 : decode cX11_change 5 = .ok (.ifCond .ne 5, 3) := by decide +kernel
theorem dX11_change_8 : decode cX11_change 8 = .ok (.iconst (-1), 1) := by decide +kernel
theorem dX11_change_9 : decode cX11_change 9 = .ok (.ireturn, 1) := by decide +kernel
theorem dX11_change_10 : decode cX11_change 10 = .ok (.aload_n 0, 1) := by decide +kernel
theorem dX11_change_11 : decode cX11_change 11 = .ok (.getfield 35, 3) := by decide +kernel
theorem dX11_change_14 : decode cX11_change 14 = .ok (.invokevirtual 197, 3) := by decide +kernel
theorem dX11_change_17 : decode cX11_change 17 = .ok (.aload_n 0, 1) := by decide +kernel
theorem dX11_change_18 : decode cX11_change 18 = .ok (.getfield 35, 3) := by decide +kernel
theorem dX11_change_21 : decode cX11_change 21 = .ok (.aload_n 0, 1) := by decide +kernel
theorem dX11_change_22 : decode cX11_change 22 = .ok (.getfield 12, 3) := by decide +kernel
theorem dX11_change_25 : decode cX11_change 25 = .ok (.getfield 90, 3) := by decide +kernel
theorem dX11_change_28 : decode cX11_change 28 = .ok (.getfield 200, 3) := by decide +kernel
theorem dX11_change_31 : decode cX11_change 31 = .ok (.aload_n 0, 1) := by decide +kernel
theorem dX11_change_32 : decode cX11_change 32 = .ok (.getfield 12, 3) := by decide +kernel
theorem dX11_change_35 : decode cX11_change 35 = .ok (.getfield 90, 3) := by decide +kernel
theorem dX11_change_38 : decode cX11_change 38 = .ok (.getfield 194, 3) := by decide +kernel
theorem dX11_change_41 : decode cX11_change 41 = .ok (.invokevirtual 228, 3) := by decide +kernel
theorem dX11_change_44 : decode cX11_change 44 = .ok (.istore_n 2, 1) := by decide +kernel
theorem dX11_change_45 : decode cX11_change 45 = .ok (.iload_n 2, 1) := by decide +kernel
theorem dX11_change_46 : decode cX11_change 46 = .ok (.istore_n 3, 1) := by decide +kernel
theorem dX11_change_47 : decode cX11_change 47 = .ok (.iconst (-1), 1) := by decide +kernel
theorem dX11_change_48 : decode cX11_change 48 = .ok (.istore 4, 2) := by decide +kernel
theorem dX11_change_50 : decode cX11_change 50 = .ok (.iconst (-1), 1) := by decide +kernel
theorem dX11_change_51 : decode cX11_change 51 = .ok (.istore 5, 2) := by decide +kernel
theorem dX11_change_53 : decode cX11_change 53 = .ok (.iconst 0, 1) := by decide +kernel
theorem dX11_change_54 : decode cX11_change 54 = .ok (.istore 6, 2) := by decide +kernel
theorem dX11_change_56 : decode cX11_change 56 = .ok (.iload 6, 2) := by decide +kernel
theorem dX11_change_58 : decode cX11_change 58 = .ok (.aload_n 0, 1) := by decide +kernel
theorem dX11_change_59 : decode cX11_change 59 = .ok (.getfield 12, 3) := by decide +kernel
theorem dX11_change_62 : decode cX11_change 62 = .ok (.getfield 90, 3) := by decide +kernel
theorem dX11_change_65 : decode cX11_change 65 = .ok (.getfield 94, 3) := by decide +kernel
theorem dX11_change_68 : decode cX11_change 68 = .ok (.if_icmp .ge 63, 3) := by decide +kernel
theorem dX11_change_71 : decode cX11_change 71 = .ok (.iload 6, 2) := by decide +kernel
theorem dX11_change_73 : decode cX11_change 73 = .ok (.iconst 1, 1) := by decide +kernel
theorem dX11_change_74 : decode cX11_change 74 = .ok (.iadd, 1) := by decide +kernel
theorem dX11_change_75 : decode cX11_change 75 = .ok (.istore 7, 2) := by decide +kernel
theorem dX11_change_77 : decode cX11_change 77 = .ok (.iload 7, 2) := by decide +kernel
theorem dX11_change_79 : decode cX11_change 79 = .ok (.aload_n 0, 1) := by decide +kernel
theorem dX11_change_80 : decode cX11_change 80 = .ok (.getfield 12, 3) := by decide +kernel
theorem dX11_change_83 : decode cX11_change 83 = .ok (.getfield 90, 3) := by decide +kernel
theorem dX11_change_86 : decode cX11_change 86 = .ok (.getfield 94, 3) := by decide +kernel
theorem dX11_change_89 : decode cX11_change 89 = .ok (.if_icmp .ge 36, 3) := by decide +kernel
theorem dX11_change_92 : decode cX11_change 92 = .ok (.aload_n 0, 1) := by decide +kernel
theorem dX11_change_93 : decode cX11_change 93 = .ok (.iload 6, 2) := by decide +kernel
theorem dX11_change_95 : decode cX11_change 95 = .ok (.iload 7, 2) := by decide +kernel
theorem dX11_change_97 : decode cX11_change 97 = .ok (.invokevirtual 266, 3) := by decide +kernel
theorem dX11_change_100 : decode cX11_change 100 = .ok (.istore 8, 2) := by decide +kernel
theorem dX11_change_102 : decode cX11_change 102 = .ok (.iload 8, 2) := by decide +kernel
theorem dX11_change_104 : decode cX11_change 104 = .ok (.iload_n 3, 1) := by decide +kernel
theorem dX11_change_105 : decode cX11_change 105 = .ok (.if_icmp .le 14, 3) := by decide +kernel
theorem dX11_change_108 : decode cX11_change 108 = .ok (.iload 8, 2) := by decide +kernel
theorem dX11_change_110 : decode cX11_change 110 = .ok (.istore_n 3, 1) := by decide +kernel
theorem dX11_change_111 : decode cX11_change 111 = .ok (.iload 6, 2) := by decide +kernel
theorem dX11_change_113 : decode cX11_change 113 = .ok (.istore 4, 2) := by decide +kernel
theorem dX11_change_115 : decode cX11_change 115 = .ok (.iload 7, 2) := by decide +kernel
theorem dX11_change_117 : decode cX11_change 117 = .ok (.istore 5, 2) := by decide +kernel
theorem dX11_change_119 : decode cX11_change 119 = .ok (.iinc 7 1, 3) := by decide +kernel
theorem dX11_change_122 : decode cX11_change 122 = .ok (.goto (-45), 3) := by decide +kernel
theorem dX11_change_125 : decode cX11_change 125 = .ok (.iinc 6 1, 3) := by decide +kernel
theorem dX11_change_128 : decode cX11_change 128 = .ok (.goto (-72), 3) := by decide +kernel
theorem dX11_change_131 : decode cX11_change 131 = .ok (.iload 4, 2) := by decide +kernel
theorem dX11_change_133 : decode cX11_change 133 = .ok (.iconst (-1), 1) := by decide +kernel
theorem dX11_change_134 : decode cX11_change 134 = .ok (.if_icmp .ne 5, 3) := by decide +kernel
theorem dX11_change_137 : decode cX11_change 137 = .ok (.iconst (-1), 1) := by decide +kernel
theorem dX11_change_138 : decode cX11_change 138 = .ok (.ireturn, 1) := by decide +kernel
theorem dX11_change_139 : decode cX11_change 139 = .ok (.iload_n 1, 1) := by decide +kernel
theorem dX11_change_140 : decode cX11_change 140 = .ok (.iconst 2, 1) := by decide +kernel
theorem dX11_change_141 : decode cX11_change 141 = .ok (.if_icmp .ne 7, 3) := by decide +kernel
theorem dX11_change_144 : decode cX11_change 144 = .ok (.iload_n 3, 1) := by decide +kernel
theorem dX11_change_145 : decode cX11_change 145 = .ok (.iload_n 2, 1) := by decide +kernel
theorem dX11_change_146 : decode cX11_change 146 = .ok (.isub, 1) := by decide +kernel
theorem dX11_change_147 : decode cX11_change 147 = .ok (.ireturn, 1) := by decide +kernel
theorem dX11_change_148 : decode cX11_change 148 = .ok (.iload_n 1, 1) := by decide +kernel
theorem dX11_change_149 : decode cX11_change 149 = .ok (.ifCond .ne 8, 3) := by decide +kernel
theorem dX11_change_152 : decode cX11_change 152 = .ok (.iload 4, 2) := by decide +kernel
theorem dX11_change_154 : decode cX11_change 154 = .ok (.goto 5, 3) := by decide +kernel
theorem dX11_change_157 : decode cX11_change 157 = .ok (.iload 5, 2) := by decide +kernel
theorem dX11_change_159 : decode cX11_change 159 = .ok (.ireturn, 1) := by decide +kernel
abbrev nd_X11_change : List Nat := [0, 1, 2, 3, 4, 5, 6, 7, 8, 9, 10, 11, 12, 13, 16, 17, 18, 19, 20, 21, 38, 39, 40, 41, 42, 43, 44]
abbrev ld_X11_change : List (Nat × Nat) := [(0, 0), (0, 3), (0, 4), (1, 0), (1, 1), (1, 2), (1, 3), (1, 4), (1, 5), (2, 0), (2, 1), (2, 2), (2, 3), (7, 0), (7, 1), (7, 2), (11, 0), (11, 1), (16, 0), (16, 1), (16, 2), (38, 0), (38, 1), (38, 2), (38, 3), (38, 4), (38, 5)]
theorem sn_X11_change_X11_isBelow : ∀ c ∈ nd_X11_isBelow, c ∈ nd_X11_change := by decide
theorem sl_X11_change_X11_isBelow : ∀ q ∈ ld_X11_isBelow, q ∈ ld_X11_change := by decide
theorem sn_X11_change_X1_begin : ∀ c ∈ nd_X1_begin, c ∈ nd_X11_change := by decide
theorem sl_X11_change_X1_begin : ∀ q ∈ ld_X1_begin, q ∈ ld_X11_change := by decide
theorem sn_X11_change_X1_merryOf_r10 : ∀ c ∈ nd_X1_merryOf_r10, c ∈ nd_X11_change := by decide
theorem sl_X11_change_X1_merryOf_r10 : ∀ q ∈ ld_X1_merryOf_r10, q ∈ ld_X11_change := by decide
theorem sn_X11_change_X11_merryChanged : ∀ c ∈ nd_X11_merryChanged, c ∈ nd_X11_change := by decide
theorem sl_X11_change_X11_merryChanged : ∀ q ∈ ld_X11_merryChanged, q ∈ ld_X11_change := by decide
def f_X11_change_119 (k56 : Int32 → Int32 → Int32 → Int32 → Int32 → Int32 → zH → zR) (k77 : Int32 → Int32 → Int32 → Int32 → Int32 → Int32 → Int32 → zH → zR) (x1 : Int32) (x2 : Int32) (x3 : Int32) (x4 : Int32) (x5 : Int32) (x6 : Int32) (x7 : Int32) (h : zH) : zR := (zlt (x7 + (1 : Int32)) fun y11 => (k77 x1 x2 x3 x4 x5 x6 y11 h))
def f_X11_change_77 (k56 : Int32 → Int32 → Int32 → Int32 → Int32 → Int32 → zH → zR) : Nat → Int32 → Int32 → Int32 → Int32 → Int32 → Int32 → Int32 → zH → zR
  | 0 => fun _ _ _ _ _ _ _ _ => none
  | n + 1 => fun x1 x2 x3 x4 x5 x6 x7 h => (if (h 7 4) ≤ x7 then (zlt (x6 + (1 : Int32)) fun y8 => (k56 x1 x2 x3 x4 x5 y8 h)) else (zbd (f_X11_merryChanged x6 x7 h) fun r9 h10 => (if r9 ≤ x3 then (f_X11_change_119 k56 (f_X11_change_77 k56 n) x1 x2 x3 x4 x5 x6 x7 h10) else (f_X11_change_119 k56 (f_X11_change_77 k56 n) x1 x2 r9 x6 x7 x6 x7 h10))))
def f_X11_change_56  : Nat → Int32 → Int32 → Int32 → Int32 → Int32 → Int32 → zH → zR
  | 0 => fun _ _ _ _ _ _ _ => none
  | n + 1 => fun x1 x2 x3 x4 x5 x6 h => (if (h 7 4) ≤ x6 then (if x4 = (-1 : Int32) then (some ((-1 : Int32), h)) else (if x1 = (2 : Int32) then (some ((x3 - x2), h)) else (if x1 = 0 then (some (x4, h)) else (some (x5, h))))) else (zlt (x6 + (1 : Int32)) fun y7 => (f_X11_change_77 (f_X11_change_56  n) zN x1 x2 x3 x4 x5 x6 y7 h)))
def f_X11_change  (x1 : Int32) (h : zH) : zR := (zbd (f_X11_isBelow x1 (3 : Int32) h) fun r1 h2 => (if r1 = 0 then (some ((-1 : Int32), h2)) else (zbd (f_X1_begin  h2) fun r3 h4 => (zbd (f_X1_merryOf_r10 (h4 7 3) h4) fun r5 h6 => (f_X11_change_56  zN x1 r5 r5 (-1 : Int32) (-1 : Int32) (0 : Int32) h6)))))
variable {p : Program} {l : Launch} {e : Env} {s : State} {m : MethodId} {args : Array Value} {below : List Frame} {meth : Method} {c : Code} {G : zG} {q : Int32 × zH}
set_option maxHeartbeats 4000000 in
set_option maxRecDepth 100000 in
theorem w_X11_change_119 {k56 : Int32 → Int32 → Int32 → Int32 → Int32 → Int32 → zH → zR} {k77 : Int32 → Int32 → Int32 → Int32 → Int32 → Int32 → Int32 → zH → zR} (C : zC G p s m args meth c cX11_change 9 RX11 (some .int)) (hm : ∀ c ∈ nd_X11_change, c ∈ znm G) (hk : ∀ q ∈ ld_X11_change, zlk G q.1 q.2 = true) (hk56 : ∀ (ls : Array Slot) (H : Heap) (locs : List Loc) (h : zH) (x1 : Int32) (x2 : Int32) (x3 : Int32) (x4 : Int32) (x5 : Int32) (x6 : Int32), lv_has ls 9 [(0, .ref (zal G 0)), (1, .int x1), (2, .int x2), (3, .int x3), (4, .int x4), (5, .int x5), (6, .int x6)] → zS G h s.heap H locs → k56 x1 x2 x3 x4 x5 x6 h = some q → W p l e (zrm (9)) s m args below meth c H locs 0 0 (MQ below (zQI G q.2 q.1) args s 0 0 (zA G)) (F0 m 56 ls [])) (hk77 : ∀ (ls : Array Slot) (H : Heap) (locs : List Loc) (h : zH) (x1 : Int32) (x2 : Int32) (x3 : Int32) (x4 : Int32) (x5 : Int32) (x6 : Int32) (x7 : Int32), lv_has ls 9 [(0, .ref (zal G 0)), (1, .int x1), (2, .int x2), (3, .int x3), (4, .int x4), (5, .int x5), (6, .int x6), (7, .int x7)] → zS G h s.heap H locs → k77 x1 x2 x3 x4 x5 x6 x7 h = some q → W p l e (zrm (9)) s m args below meth c H locs 0 0 (MQ below (zQI G q.2 q.1) args s 0 0 (zA G)) (F0 m 77 ls [])) : ∀ (ls : Array Slot) (H : Heap) (locs : List Loc) (h : zH) (x1 : Int32) (x2 : Int32) (x3 : Int32) (x4 : Int32) (x5 : Int32) (x6 : Int32) (x7 : Int32), lv_has ls 9 [(0, .ref (zal G 0)), (1, .int x1), (2, .int x2), (3, .int x3), (4, .int x4), (5, .int x5), (6, .int x6), (7, .int x7)] → zS G h s.heap H locs → f_X11_change_119 k56 k77 x1 x2 x3 x4 x5 x6 x7 h = some q → W p l e (zrm (9)) s m args below meth c H locs 0 0 (MQ below (zQI G q.2 q.1) args s 0 0 (zA G)) (F0 m 119 ls []) := by
  intro ls H locs h x1 x2 x3 x4 x5 x6 x7 hl hS hf
  unfold f_X11_change_119 at hf
  obtain ⟨y11, ey11, hf⟩ := zlt_some hf
  refine lv_iinc (v := y11) (lv' := [(7, .int y11), (0, .ref (zal G 0)), (1, .int x1), (2, .int x2), (3, .int x3), (4, .int x4), (5, .int x5), (6, .int x6)]) C.1 C.2.1 dX11_change_119 hl (k := 7) rfl ey11.symm (by decide) rfl (fun ls hl => ?_)
  refine lv_goto (tgt := 77) C.1 C.2.1 dX11_change_122 (by decide) ?_
  exact hk77 _ _ _ _ _ _ _ _ _ _ _ (lv_sub hl [1, 2, 3, 4, 5, 6, 7, 0] rfl) hS hf
set_option maxHeartbeats 4000000 in
set_option maxRecDepth 100000 in
theorem w_X11_change_77 {k56 : Int32 → Int32 → Int32 → Int32 → Int32 → Int32 → zH → zR} (C : zC G p s m args meth c cX11_change 9 RX11 (some .int)) (hm : ∀ c ∈ nd_X11_change, c ∈ znm G) (hk : ∀ q ∈ ld_X11_change, zlk G q.1 q.2 = true) (hk56 : ∀ (ls : Array Slot) (H : Heap) (locs : List Loc) (h : zH) (x1 : Int32) (x2 : Int32) (x3 : Int32) (x4 : Int32) (x5 : Int32) (x6 : Int32), lv_has ls 9 [(0, .ref (zal G 0)), (1, .int x1), (2, .int x2), (3, .int x3), (4, .int x4), (5, .int x5), (6, .int x6)] → zS G h s.heap H locs → k56 x1 x2 x3 x4 x5 x6 h = some q → W p l e (zrm (9)) s m args below meth c H locs 0 0 (MQ below (zQI G q.2 q.1) args s 0 0 (zA G)) (F0 m 56 ls [])) : ∀ n, ∀ (ls : Array Slot) (H : Heap) (locs : List Loc) (h : zH) (x1 : Int32) (x2 : Int32) (x3 : Int32) (x4 : Int32) (x5 : Int32) (x6 : Int32) (x7 : Int32), lv_has ls 9 [(0, .ref (zal G 0)), (1, .int x1), (2, .int x2), (3, .int x3), (4, .int x4), (5, .int x5), (6, .int x6), (7, .int x7)] → zS G h s.heap H locs → f_X11_change_77 k56 n x1 x2 x3 x4 x5 x6 x7 h = some q → W p l e (zrm (9)) s m args below meth c H locs 0 0 (MQ below (zQI G q.2 q.1) args s 0 0 (zA G)) (F0 m 77 ls []) := by
  intro n
  induction n with
  | zero => intro ls H locs h x1 x2 x3 x4 x5 x6 x7 hl hS hf; cases hf
  | succ n ih =>
    intro ls H locs h x1 x2 x3 x4 x5 x6 x7 hl hS hf
    rw [f_X11_change_77] at hf
    refine lv_iload C.1 C.2.1 dX11_change_77 (lv_at hl 7 rfl) ?_
    refine lv_aload_n C.1 C.2.1 dX11_change_79 rfl (lv_at hl 0 rfl) ?_
    refine zgetR C hS ff_X11_12_0 (hm 0 (by decide)) (hk (0, 0) (by decide)) dX11_change_80 ?_
    refine zgetR C hS ff_X11_90_1 (hm 1 (by decide)) (hk (1, 1) (by decide)) dX11_change_83 ?_
    refine zgetI C hS ff_X11_94_7 (hm 7 (by decide)) dX11_change_86 ?_
    refine lv_icmp_ge (tgt := 125) C.1 C.2.1 dX11_change_89 (by decide) (fun hc => ?_) (fun hc => ?_)
    · have hf := zif_t hc hf
      obtain ⟨y8, ey8, hf⟩ := zlt_some hf
      refine lv_iinc (v := y8) (lv' := [(6, .int y8), (0, .ref (zal G 0)), (1, .int x1), (2, .int x2), (3, .int x3), (4, .int x4), (5, .int x5), (7, .int x7)]) C.1 C.2.1 dX11_change_125 hl (k := 6) rfl ey8.symm (by decide) rfl (fun ls hl => ?_)
      refine lv_goto (tgt := 56) C.1 C.2.1 dX11_change_128 (by decide) ?_
      exact hk56 _ _ _ _ _ _ _ _ _ _ (lv_sub hl [1, 2, 3, 4, 5, 6, 0] rfl) hS hf
    · have hf := zif_f hc hf
      refine lv_aload_n C.1 C.2.1 dX11_change_92 rfl (lv_at hl 0 rfl) ?_
      refine lv_iload C.1 C.2.1 dX11_change_93 (lv_at hl 6 rfl) ?_
      refine lv_iload C.1 C.2.1 dX11_change_95 (lv_at hl 7 rfl) ?_
      obtain ⟨r9, h10, er9, hf⟩ := zbd_some hf
      refine zcallVI (As := [.int x6, .int x7]) (rest := []) C hS mv_X11_266 (c_X11_merryChanged l G h x6 x7 (r9, h10) (fun c h => hm c (sn_X11_change_X11_merryChanged c h)) (fun q h => hk q (sl_X11_change_X11_merryChanged q h)) er9) (hm 0 (by decide)) ⟨_, _, _, sh_0, rfl, rfl⟩ rfl rfl (Nat.le_of_ble_eq_true rfl) hl.1 ⟨Nat.le_of_ble_eq_true rfl, Nat.le_of_ble_eq_true rfl, Nat.le_of_ble_eq_true rfl, Nat.le_of_ble_eq_true rfl⟩ dX11_change_97 (fun H locs hS => ?_)
      refine lv_istore (lv' := [(8, .int r9), (0, .ref (zal G 0)), (1, .int x1), (2, .int x2), (3, .int x3), (4, .int x4), (5, .int x5), (6, .int x6), (7, .int x7)]) C.1 C.2.1 dX11_change_100 hl (by decide) rfl (fun ls hl => ?_)
      refine lv_iload C.1 C.2.1 dX11_change_102 (lv_at hl 0 rfl) ?_
      refine lv_iload_n C.1 C.2.1 dX11_change_104 rfl (lv_at hl 4 rfl) ?_
      refine lv_icmp_le (tgt := 119) C.1 C.2.1 dX11_change_105 (by decide) (fun hc => ?_) (fun hc => ?_)
      · have hf := zif_t hc hf
        exact w_X11_change_119 C hm hk hk56 ih _ _ _ _ _ _ _ _ _ _ _ (lv_sub hl [1, 2, 3, 4, 5, 6, 7, 8] rfl) hS hf
      · have hf := zif_f hc hf
        refine lv_iload C.1 C.2.1 dX11_change_108 (lv_at hl 0 rfl) ?_
        refine lv_istore_n (lv' := [(3, .int r9), (8, .int r9), (0, .ref (zal G 0)), (1, .int x1), (2, .int x2), (4, .int x4), (5, .int x5), (6, .int x6), (7, .int x7)]) C.1 C.2.1 dX11_change_110 rfl hl (by decide) rfl (fun ls hl => ?_)
        refine lv_iload C.1 C.2.1 dX11_change_111 (lv_at hl 7 rfl) ?_
        refine lv_istore (lv' := [(4, .int x6), (3, .int r9), (8, .int r9), (0, .ref (zal G 0)), (1, .int x1), (2, .int x2), (5, .int x5), (6, .int x6), (7, .int x7)]) C.1 C.2.1 dX11_change_113 hl (by decide) rfl (fun ls hl => ?_)
        refine lv_iload C.1 C.2.1 dX11_change_115 (lv_at hl 8 rfl) ?_
        refine lv_istore (lv' := [(5, .int x7), (4, .int x6), (3, .int r9), (8, .int r9), (0, .ref (zal G 0)), (1, .int x1), (2, .int x2), (6, .int x6), (7, .int x7)]) C.1 C.2.1 dX11_change_117 hl (by decide) rfl (fun ls hl => ?_)
        exact w_X11_change_119 C hm hk hk56 ih _ _ _ _ _ _ _ _ _ _ _ (lv_sub hl [4, 5, 6, 2, 1, 0, 7, 8] rfl) hS hf
set_option maxHeartbeats 4000000 in
set_option maxRecDepth 100000 in
theorem w_X11_change_56  (C : zC G p s m args meth c cX11_change 9 RX11 (some .int)) (hm : ∀ c ∈ nd_X11_change, c ∈ znm G) (hk : ∀ q ∈ ld_X11_change, zlk G q.1 q.2 = true)  : ∀ n, ∀ (ls : Array Slot) (H : Heap) (locs : List Loc) (h : zH) (x1 : Int32) (x2 : Int32) (x3 : Int32) (x4 : Int32) (x5 : Int32) (x6 : Int32), lv_has ls 9 [(0, .ref (zal G 0)), (1, .int x1), (2, .int x2), (3, .int x3), (4, .int x4), (5, .int x5), (6, .int x6)] → zS G h s.heap H locs → f_X11_change_56  n x1 x2 x3 x4 x5 x6 h = some q → W p l e (zrm (9)) s m args below meth c H locs 0 0 (MQ below (zQI G q.2 q.1) args s 0 0 (zA G)) (F0 m 56 ls []) := by
  intro n
  induction n with
  | zero => intro ls H locs h x1 x2 x3 x4 x5 x6 hl hS hf; cases hf
  | succ n ih =>
    intro ls H locs h x1 x2 x3 x4 x5 x6 hl hS hf
    rw [f_X11_change_56] at hf
    refine lv_iload C.1 C.2.1 dX11_change_56 (lv_at hl 6 rfl) ?_
    refine lv_aload_n C.1 C.2.1 dX11_change_58 rfl (lv_at hl 0 rfl) ?_
    refine zgetR C hS ff_X11_12_0 (hm 0 (by decide)) (hk (0, 0) (by decide)) dX11_change_59 ?_
    refine zgetR C hS ff_X11_90_1 (hm 1 (by decide)) (hk (1, 1) (by decide)) dX11_change_62 ?_
    refine zgetI C hS ff_X11_94_7 (hm 7 (by decide)) dX11_change_65 ?_
    refine lv_icmp_ge (tgt := 131) C.1 C.2.1 dX11_change_68 (by decide) (fun hc => ?_) (fun hc => ?_)
    · have hf := zif_t hc hf
      refine lv_iload C.1 C.2.1 dX11_change_131 (lv_at hl 4 rfl) ?_
      refine lv_iconst (v := (-1 : Int32)) C.1 C.2.1 dX11_change_133 rfl ?_
      refine lv_icmp_ne (tgt := 139) C.1 C.2.1 dX11_change_134 (by decide) (fun hc => ?_) (fun hc => ?_)
      · have hf := zif_f hc hf
        refine lv_iload_n C.1 C.2.1 dX11_change_139 rfl (lv_at hl 1 rfl) ?_
        refine lv_iconst (v := (2 : Int32)) C.1 C.2.1 dX11_change_140 rfl ?_
        refine lv_icmp_ne (tgt := 148) C.1 C.2.1 dX11_change_141 (by decide) (fun hc => ?_) (fun hc => ?_)
        · have hf := zif_f hc hf
          refine lv_iload_n C.1 C.2.1 dX11_change_148 rfl (lv_at hl 1 rfl) ?_
          refine lv_if_ne (tgt := 157) C.1 C.2.1 dX11_change_149 (by decide) (fun hc => ?_) (fun hc => ?_)
          · have hf := zif_f hc hf
            refine lv_iload C.1 C.2.1 dX11_change_157 (lv_at hl 5 rfl) ?_
            exact zretI C hS hf dX11_change_159
          · have hf := zif_t hc hf
            refine lv_iload C.1 C.2.1 dX11_change_152 (lv_at hl 4 rfl) ?_
            refine lv_goto (tgt := 159) C.1 C.2.1 dX11_change_154 (by decide) ?_
            exact zretI C hS hf dX11_change_159
        · have hf := zif_t hc hf
          refine lv_iload_n C.1 C.2.1 dX11_change_144 rfl (lv_at hl 3 rfl) ?_
          refine lv_iload_n C.1 C.2.1 dX11_change_145 rfl (lv_at hl 2 rfl) ?_
          refine lv_isub C.1 C.2.1 dX11_change_146 ?_
          exact zretI C hS hf dX11_change_147
      · have hf := zif_t hc hf
        refine lv_iconst (v := (-1 : Int32)) C.1 C.2.1 dX11_change_137 rfl ?_
        exact zretI C hS hf dX11_change_138
    · have hf := zif_f hc hf
      refine lv_iload C.1 C.2.1 dX11_change_71 (lv_at hl 6 rfl) ?_
      refine lv_iconst (v := (1 : Int32)) C.1 C.2.1 dX11_change_73 rfl ?_
      refine lv_iadd C.1 C.2.1 dX11_change_74 ?_
      obtain ⟨y7, ey7, hf⟩ := zlt_some hf
      refine ztop ey7 ?_
      refine lv_istore (lv' := [(7, .int y7), (0, .ref (zal G 0)), (1, .int x1), (2, .int x2), (3, .int x3), (4, .int x4), (5, .int x5), (6, .int x6)]) C.1 C.2.1 dX11_change_75 hl (by decide) rfl (fun ls hl => ?_)
      exact w_X11_change_77 C hm hk ih zN _ _ _ _ _ _ _ _ _ _ _ (lv_sub hl [1, 2, 3, 4, 5, 6, 7, 0] rfl) hS hf
set_option maxHeartbeats 4000000 in
set_option maxRecDepth 100000 in
theorem c_X11_change (l : Launch) (G : zG) (h : zH) (x1 : Int32) (q : Int32 × zH) (hm : ∀ c ∈ nd_X11_change, c ∈ znm G) (hk : ∀ q ∈ ld_X11_change, zlk G q.1 q.2 = true) (hf : f_X11_change x1 h = some q) : zCtI l yX11_change cX11_change 9 (some .int) (9) [.ref (zal G 0), .int x1] G h q.2 q.1 := by
  refine zMetI (by decide) (Nat.le_of_ble_eq_true rfl) ?_
  intro p e s m below meth c ls C hl hS
  have hl : lv_has ls 9 [(0, .ref (zal G 0)), (1, .int x1)] := hl
  have C : zC G p s m [.ref (zal G 0), .int x1].toArray meth c cX11_change 9 RX11 (some .int) := C
  unfold f_X11_change at hf
  refine lv_iload_n C.1 C.2.1 dX11_change_0 rfl (lv_at hl 1 rfl) ?_
  refine lv_iconst (v := (3 : Int32)) C.1 C.2.1 dX11_change_1 rfl ?_
  obtain ⟨r1, h2, er1, hf⟩ := zbd_some hf
  refine zcallSI (As := [.int x1, .int (3 : Int32)]) (rest := []) C hS ms_X11_50 (c_X11_isBelow l G h x1 (3 : Int32) (r1, h2) (fun c h => hm c (sn_X11_change_X11_isBelow c h)) (fun q h => hk q (sl_X11_change_X11_isBelow q h)) er1) rfl rfl (Nat.le_of_ble_eq_true rfl) hl.1 ⟨Nat.le_of_ble_eq_true rfl, Nat.le_of_ble_eq_true rfl, Nat.le_of_ble_eq_true rfl, Nat.le_of_ble_eq_true rfl⟩ dX11_change_2 (fun H locs hS => ?_)
  refine lv_if_ne (tgt := 10) C.1 C.2.1 dX11_change_5 (by decide) (fun hc => ?_) (fun hc => ?_)
  · have hf := zif_f hc hf
    refine lv_aload_n C.1 C.2.1 dX11_change_10 rfl (lv_at hl 0 rfl) ?_
    refine zgetR C hS ff_X11_35_0 (hm 0 (by decide)) (hk (0, 3) (by decide)) dX11_change_11 ?_
    obtain ⟨r3, h4, er3, hf⟩ := zbd_some hf
    refine zcallVV (As := []) (rest := []) C hS mv_X11_197 (c_X1_begin l G h2  (r3, h4) (fun c h => hm c (sn_X11_change_X1_begin c h)) (fun q h => hk q (sl_X11_change_X1_begin q h)) er3) (hm 38 (by decide)) ⟨_, _, _, sh_38, rfl, rfl⟩ rfl rfl (Nat.le_of_ble_eq_true rfl) hl.1 ⟨Nat.le_of_ble_eq_true rfl, Nat.le_of_ble_eq_true rfl, Nat.le_of_ble_eq_true rfl, Nat.le_of_ble_eq_true rfl⟩ dX11_change_14 (fun H locs hS => ?_)
    refine lv_aload_n C.1 C.2.1 dX11_change_17 rfl (lv_at hl 0 rfl) ?_
    refine zgetR C hS ff_X11_35_0 (hm 0 (by decide)) (hk (0, 3) (by decide)) dX11_change_18 ?_
    refine lv_aload_n C.1 C.2.1 dX11_change_21 rfl (lv_at hl 0 rfl) ?_
    refine zgetR C hS ff_X11_12_0 (hm 0 (by decide)) (hk (0, 0) (by decide)) dX11_change_22 ?_
    refine zgetR C hS ff_X11_90_1 (hm 1 (by decide)) (hk (1, 1) (by decide)) dX11_change_25 ?_
    refine zgetR C hS ff_X11_200_7 (hm 7 (by decide)) (hk (7, 2) (by decide)) dX11_change_28 ?_
    refine lv_aload_n C.1 C.2.1 dX11_change_31 rfl (lv_at hl 0 rfl) ?_
    refine zgetR C hS ff_X11_12_0 (hm 0 (by decide)) (hk (0, 0) (by decide)) dX11_change_32 ?_
    refine zgetR C hS ff_X11_90_1 (hm 1 (by decide)) (hk (1, 1) (by decide)) dX11_change_35 ?_
    refine zgetI C hS ff_X11_194_7 (hm 7 (by decide)) dX11_change_38 ?_
    obtain ⟨r5, h6, er5, hf⟩ := zbd_some hf
    refine zcallVI (As := [.ref (zal G 10), .int (h4 7 3)]) (rest := []) C hS mv_X11_228 (c_X1_merryOf_r10 l G h4 (h4 7 3) (r5, h6) (fun c h => hm c (sn_X11_change_X1_merryOf_r10 c h)) (fun q h => hk q (sl_X11_change_X1_merryOf_r10 q h)) er5) (hm 38 (by decide)) ⟨_, _, _, sh_38, rfl, rfl⟩ rfl rfl (Nat.le_of_ble_eq_true rfl) hl.1 ⟨Nat.le_of_ble_eq_true rfl, Nat.le_of_ble_eq_true rfl, Nat.le_of_ble_eq_true rfl, Nat.le_of_ble_eq_true rfl⟩ dX11_change_41 (fun H locs hS => ?_)
    refine lv_istore_n (lv' := [(2, .int r5), (0, .ref (zal G 0)), (1, .int x1)]) C.1 C.2.1 dX11_change_44 rfl hl (by decide) rfl (fun ls hl => ?_)
    refine lv_iload_n C.1 C.2.1 dX11_change_45 rfl (lv_at hl 0 rfl) ?_
    refine lv_istore_n (lv' := [(3, .int r5), (2, .int r5), (0, .ref (zal G 0)), (1, .int x1)]) C.1 C.2.1 dX11_change_46 rfl hl (by decide) rfl (fun ls hl => ?_)
    refine lv_iconst (v := (-1 : Int32)) C.1 C.2.1 dX11_change_47 rfl ?_
    refine lv_istore (lv' := [(4, .int (-1 : Int32)), (3, .int r5), (2, .int r5), (0, .ref (zal G 0)), (1, .int x1)]) C.1 C.2.1 dX11_change_48 hl (by decide) rfl (fun ls hl => ?_)
    refine lv_iconst (v := (-1 : Int32)) C.1 C.2.1 dX11_change_50 rfl ?_
    refine lv_istore (lv' := [(5, .int (-1 : Int32)), (4, .int (-1 : Int32)), (3, .int r5), (2, .int r5), (0, .ref (zal G 0)), (1, .int x1)]) C.1 C.2.1 dX11_change_51 hl (by decide) rfl (fun ls hl => ?_)
    refine lv_iconst (v := (0 : Int32)) C.1 C.2.1 dX11_change_53 rfl ?_
    refine lv_istore (lv' := [(6, .int (0 : Int32)), (5, .int (-1 : Int32)), (4, .int (-1 : Int32)), (3, .int r5), (2, .int r5), (0, .ref (zal G 0)), (1, .int x1)]) C.1 C.2.1 dX11_change_54 hl (by decide) rfl (fun ls hl => ?_)
    exact w_X11_change_56 C hm hk  zN _ _ _ _ _ _ _ _ _ _ (lv_sub hl [5, 6, 4, 3, 2, 1, 0] rfl) hS hf
  · have hf := zif_t hc hf
    refine lv_iconst (v := (-1 : Int32)) C.1 C.2.1 dX11_change_8 rfl ?_
    exact zretI C hS hf dX11_change_9
end
section
theorem dX11_away_0 : decode cX11_away 0 = .ok (.aload_n 0, 1) := by decide +kernel
theorem dX11_away_1 : decode cX11_away 1 = .ok (.getfield 35, 3) := by decide +kernel
theorem dX11_away_4 : decode cX11_away 4 = .ok (.invokevirtual 197, 3) := by decide +kernel
theorem dX11_away_7 : decode cX11_away 7 = .ok (.aload_n 0, 1) := by decide +kernel
theorem dX11_away_8 : decode cX11_away 8 = .ok (.getfield 12, 3) := by decide +kernel
theorem dX11_away_11 : decode cX11_away 11 = .ok (.getfield 90, 3) := by decide +kernel
theorem dX11_away_14 : decode cX11_away 14 = .ok (.astore_n 2, 1) := by decide +kernel
theorem dX11_away_15 : decode cX11_away 15 = .ok (.iconst 0, 1) := by decide +kernel
theorem dX11_away_16 : decode cX11_away 16 = .ok (.istore_n 3, 1) := by decide +kernel
theorem dX11_away_17 : decode cX11_away 17 = .ok (.iconst 0, 1) := by decide +kernel
theorem dX11_away_18 : decode cX11_away 18 = .ok (.istore 4, 2) := by decide +kernel
theorem dX11_away_20 : decode cX11_away 20 = .ok (.iload 4, 2) := by decide +kernel
theorem dX11_away_22 : decode cX11_away 22 = .ok (.aload_n 2, 1) := by decide +kernel
theorem dX11_away_23 : decode cX11_away 23 = .ok (.getfield 94, 3) := by decide +kernel
theorem dX11_away_26 : decode cX11_away 26 = .ok (.if_icmp .ge 73, 3) := by decide +kernel
theorem dX11_away_29 : decode cX11_away 29 = .ok (.aload_n 2, 1) := by decide +kernel
theorem dX11_away_30 : decode cX11_away 30 = .ok (.getfield 179, 3) := by decide +kernel
theorem dX11_away_33 : decode cX11_away 33 = .ok (.iload 4, 2) := by decide +kernel
theorem dX11_away_35 : decode cX11_away 35 = .ok (.iaload, 1) := by decide +kernel
theorem dX11_away_36 : decode cX11_away 36 = .ok (.istore 5, 2) := by decide +kernel
theorem dX11_away_38 : decode cX11_away 38 = .ok (.iload 5, 2) := by decide +kernel
theorem dX11_away_40 : decode cX11_away 40 = .ok (.iconst (-1), 1) := by decide +kernel
theorem dX11_away_41 : decode cX11_away 41 = .ok (.if_icmp .eq 52, 3) := by decide +kernel
theorem dX11_away_44 : decode cX11_away 44 = .ok (.aload_n 2, 1) := by decide +kernel
theorem dX11_away_45 : decode cX11_away 45 = .ok (.getfield 200, 3) := by decide +kernel
theorem dX11_away_48 : decode cX11_away 48 = .ok (.iconst 0, 1) := by decide +kernel
theorem dX11_away_49 : decode cX11_away 49 = .ok (.aload_n 0, 1) := by decide +kernel
theorem dX11_away_50 : decode cX11_away 50 = .ok (.getfield 39, 3) := by decide +kernel
theorem dX11_away_53 : decode cX11_away 53 = .ok (.iconst 0, 1) := by decide +kernel
theorem dX11_away_54 : decode cX11_away 54 = .ok (.bipush 8, 2) := by decide +kernel
theorem dX11_away_56 : decode cX11_away 56 = .ok (.invokestatic 292, 3) := by decide +kernel
theorem dX11_away_59 : decode cX11_away 59 = .ok (.aload_n 0, 1) := by decide +kernel
theorem dX11_away_60 : decode cX11_away 60 = .ok (.getfield 39, 3) := by decide +kernel
theorem dX11_away_63 : decode cX11_away 63 = .ok (.iload 5, 2) := by decide +kernel
theorem dX11_away_65 : decode cX11_away 65 = .ok (.iconst (-1), 1) := by decide +kernel
theorem dX11_away_66 : decode cX11_away 66 = .ok (.iastore, 1) := by decide +kernel
theorem dX11_away_67 : decode cX11_away 67 = .ok (.aload_n 0, 1) := by decide +kernel
theorem dX11_away_68 : decode cX11_away 68 = .ok (.getfield 35, 3) := by decide +kernel
theorem dX11_away_71 : decode cX11_away 71 = .ok (.aload_n 0, 1) := by decide +kernel
theorem dX11_away_72 : decode cX11_away 72 = .ok (.getfield 39, 3) := by decide +kernel
theorem dX11_away_75 : decode cX11_away 75 = .ok (.aload_n 2, 1) := by decide +kernel
theorem dX11_away_76 : decode cX11_away 76 = .ok (.getfield 194, 3) := by decide +kernel
theorem dX11_away_79 : decode cX11_away 79 = .ok (.invokevirtual 228, 3) := by decide +kernel
theorem dX11_away_82 : decode cX11_away 82 = .ok (.iload_n 1, 1) := by decide +kernel
theorem dX11_away_83 : decode cX11_away 83 = .ok (.if_icmp .ne 10, 3) := by decide +kernel
theorem dX11_away_86 : decode cX11_away 86 = .ok (.iload_n 3, 1) := by decide +kernel
theorem dX11_away_87 : decode cX11_away 87 = .ok (.iconst 1, 1) := by decide +kernel
theorem dX11_away_88 : decode cX11_away 88 = .ok (.iload 4, 2) := by decide +kernel
theorem dX11_away_90 : decode cX11_away 90 = .ok (.ishl, 1) := by decide +kernel
theorem dX11_away_91 : decode cX11_away 91 = .ok (.ior, 1) := by decide +kernel
theorem dX11_away_92 : decode cX11_away 92 = .ok (.istore_n 3, 1) := by decide +kernel
theorem dX11_away_93 : decode cX11_away 93 = .ok (.iinc 4 1, 3) := by decide +kernel
theorem dX11_away_96 : decode cX11_away 96 = .ok (.goto (-76), 3) := by decide +kernel
theorem dX11_away_99 : decode cX11_away 99 = .ok (.iload_n 3, 1) := by decide +kernel
theorem dX11_away_100 : decode cX11_away 100 = .ok (.ireturn, 1) := by decide +kernel
abbrev nd_X11_away : List Nat := [0, 1, 2, 3, 4, 5, 6, 7, 8, 9, 10, 11, 12, 13, 16, 17, 18, 19, 20, 21, 38, 39, 40, 41, 42, 43, 44]
abbrev ld_X11_away : List (Nat × Nat) := [(0, 0), (0, 3), (0, 4), (1, 0), (1, 1), (1, 2), (1, 3), (1, 4), (1, 5), (2, 0), (2, 1), (2, 2), (2, 3), (7, 0), (7, 1), (7, 2), (11, 0), (11, 1), (16, 0), (16, 1), (16, 2), (38, 0), (38, 1), (38, 2), (38, 3), (38, 4), (38, 5)]
theorem sn_X11_away_X1_begin : ∀ c ∈ nd_X1_begin, c ∈ nd_X11_away := by decide
theorem sl_X11_away_X1_begin : ∀ q ∈ ld_X1_begin, q ∈ ld_X11_away := by decide
theorem sn_X11_away_X1_merryOf_r44 : ∀ c ∈ nd_X1_merryOf_r44, c ∈ nd_X11_away := by decide
theorem sl_X11_away_X1_merryOf_r44 : ∀ q ∈ ld_X1_merryOf_r44, q ∈ ld_X11_away := by decide
def f_X11_away_93 (k20 : Int32 → Int32 → Int32 → zH → zR) (x1 : Int32) (x3 : Int32) (x4 : Int32) (h : zH) : zR := (zlt (x4 + (1 : Int32)) fun y4 => (k20 x1 x3 y4 h))
def f_X11_away_20  : Nat → Int32 → Int32 → Int32 → zH → zR
  | 0 => fun _ _ _ _ => none
  | n + 1 => fun x1 x3 x4 h => (if (h 7 4) ≤ x4 then (some (x3, h)) else (zck x4 8 (zlt (h 9 (Int32.toNatClampNeg x4)) fun y3 => (if y3 = (-1 : Int32) then (f_X11_away_93 (f_X11_away_20  n) x1 x3 x4 h) else (zcc 8 8 (0 : Int32) (0 : Int32) (8 : Int32) (zst (zcp h 10 44 (0 : Int32) (0 : Int32) (8 : Int32)) fun h5 => (zck y3 8 (zst (zup h5 44 (Int32.toNatClampNeg y3) (-1 : Int32)) fun h6 => (zbd (f_X1_merryOf_r44 (h6 7 3) h6) fun r7 h8 => (if r7 = x1 then (zlt (x3 ||| ((1 : Int32) <<< (x4 &&& 31))) fun y9 => (f_X11_away_93 (f_X11_away_20  n) x1 y9 x4 h8)) else (f_X11_away_93 (f_X11_away_20  n) x1 x3 x4 h8)))))))))))
def f_X11_away  (x1 : Int32) (h : zH) : zR := (zbd (f_X1_begin  h) fun r1 h2 => (f_X11_away_20  zN x1 (0 : Int32) (0 : Int32) h2))
variable {p : Program} {l : Launch} {e : Env} {s : State} {m : MethodId} {args : Array Value} {below : List Frame} {meth : Method} {c : Code} {G : zG} {q : Int32 × zH}
set_option maxHeartbeats 4000000 in
set_option maxRecDepth 100000 in
theorem w_X11_away_93 {k20 : Int32 → Int32 → Int32 → zH → zR} (C : zC G p s m args meth c cX11_away 6 RX11 (some .int)) (hm : ∀ c ∈ nd_X11_away, c ∈ znm G) (hk : ∀ q ∈ ld_X11_away, zlk G q.1 q.2 = true) (hk20 : ∀ (ls : Array Slot) (H : Heap) (locs : List Loc) (h : zH) (x1 : Int32) (x3 : Int32) (x4 : Int32), lv_has ls 6 [(0, .ref (zal G 0)), (1, .int x1), (2, .ref (zal G 7)), (3, .int x3), (4, .int x4)] → zS G h s.heap H locs → k20 x1 x3 x4 h = some q → W p l e (zrm (8)) s m args below meth c H locs 0 0 (MQ below (zQI G q.2 q.1) args s 0 0 (zA G)) (F0 m 20 ls [])) : ∀ (ls : Array Slot) (H : Heap) (locs : List Loc) (h : zH) (x1 : Int32) (x3 : Int32) (x4 : Int32), lv_has ls 6 [(0, .ref (zal G 0)), (1, .int x1), (2, .ref (zal G 7)), (3, .int x3), (4, .int x4)] → zS G h s.heap H locs → f_X11_away_93 k20 x1 x3 x4 h = some q → W p l e (zrm (8)) s m args below meth c H locs 0 0 (MQ below (zQI G q.2 q.1) args s 0 0 (zA G)) (F0 m 93 ls []) := by
  intro ls H locs h x1 x3 x4 hl hS hf
  unfold f_X11_away_93 at hf
  obtain ⟨y4, ey4, hf⟩ := zlt_some hf
  refine lv_iinc (v := y4) (lv' := [(4, .int y4), (0, .ref (zal G 0)), (1, .int x1), (2, .ref (zal G 7)), (3, .int x3)]) C.1 C.2.1 dX11_away_93 hl (k := 4) rfl ey4.symm (by decide) rfl (fun ls hl => ?_)
  refine lv_goto (tgt := 20) C.1 C.2.1 dX11_away_96 (by decide) ?_
  exact hk20 _ _ _ _ _ _ _ (lv_sub hl [1, 2, 3, 4, 0] rfl) hS hf
set_option maxHeartbeats 4000000 in
set_option maxRecDepth 100000 in
theorem w_X11_away_20  (C : zC G p s m args meth c cX11_away 6 RX11 (some .int)) (hm : ∀ c ∈ nd_X11_away, c ∈ znm G) (hk : ∀ q ∈ ld_X11_away, zlk G q.1 q.2 = true)  : ∀ n, ∀ (ls : Array Slot) (H : Heap) (locs : List Loc) (h : zH) (x1 : Int32) (x3 : Int32) (x4 : Int32), lv_has ls 6 [(0, .ref (zal G 0)), (1, .int x1), (2, .ref (zal G 7)), (3, .int x3), (4, .int x4)] → zS G h s.heap H locs → f_X11_away_20  n x1 x3 x4 h = some q → W p l e (zrm (8)) s m args below meth c H locs 0 0 (MQ below (zQI G q.2 q.1) args s 0 0 (zA G)) (F0 m 20 ls []) := by
  intro n
  induction n with
  | zero => intro ls H locs h x1 x3 x4 hl hS hf; cases hf
  | succ n ih =>
    intro ls H locs h x1 x3 x4 hl hS hf
    rw [f_X11_away_20] at hf
    refine lv_iload C.1 C.2.1 dX11_away_20 (lv_at hl 4 rfl) ?_
    refine lv_aload_n C.1 C.2.1 dX11_away_22 rfl (lv_at hl 2 rfl) ?_
    refine zgetI C hS ff_X11_94_7 (hm 7 (by decide)) dX11_away_23 ?_
    refine lv_icmp_ge (tgt := 99) C.1 C.2.1 dX11_away_26 (by decide) (fun hc => ?_) (fun hc => ?_)
    · have hf := zif_t hc hf
      refine lv_iload_n C.1 C.2.1 dX11_away_99 rfl (lv_at hl 3 rfl) ?_
      exact zretI C hS hf dX11_away_100
    · have hf := zif_f hc hf
      refine lv_aload_n C.1 C.2.1 dX11_away_29 rfl (lv_at hl 2 rfl) ?_
      refine zgetR C hS ff_X11_179_7 (hm 7 (by decide)) (hk (7, 1) (by decide)) dX11_away_30 ?_
      refine lv_iload C.1 C.2.1 dX11_away_33 (lv_at hl 4 rfl) ?_
      obtain ⟨hi, hf⟩ := zck_some hf
      refine zald C hS sh_9 (hm 9 (by decide)) hi dX11_away_35 ?_
      obtain ⟨y3, ey3, hf⟩ := zlt_some hf
      refine ztop ey3 ?_
      refine lv_istore (lv' := [(5, .int y3), (0, .ref (zal G 0)), (1, .int x1), (2, .ref (zal G 7)), (3, .int x3), (4, .int x4)]) C.1 C.2.1 dX11_away_36 hl (by decide) rfl (fun ls hl => ?_)
      refine lv_iload C.1 C.2.1 dX11_away_38 (lv_at hl 0 rfl) ?_
      refine lv_iconst (v := (-1 : Int32)) C.1 C.2.1 dX11_away_40 rfl ?_
      refine lv_icmp_eq (tgt := 93) C.1 C.2.1 dX11_away_41 (by decide) (fun hc => ?_) (fun hc => ?_)
      · have hf := zif_t hc hf
        exact w_X11_away_93 C hm hk ih _ _ _ _ _ _ _ (lv_sub hl [1, 2, 3, 4, 5] rfl) hS hf
      · have hf := zif_f hc hf
        refine lv_aload_n C.1 C.2.1 dX11_away_44 rfl (lv_at hl 3 rfl) ?_
        refine zgetR C hS ff_X11_200_7 (hm 7 (by decide)) (hk (7, 2) (by decide)) dX11_away_45 ?_
        refine lv_iconst (v := (0 : Int32)) C.1 C.2.1 dX11_away_48 rfl ?_
        refine lv_aload_n C.1 C.2.1 dX11_away_49 rfl (lv_at hl 1 rfl) ?_
        refine zgetR C hS ff_X11_39_0 (hm 0 (by decide)) (hk (0, 4) (by decide)) dX11_away_50 ?_
        refine lv_iconst (v := (0 : Int32)) C.1 C.2.1 dX11_away_53 rfl ?_
        refine lv_bipush (v := (8 : Int32)) C.1 C.2.1 dX11_away_54 rfl ?_
        obtain ⟨hi, hf⟩ := zcc_some hf
        refine zacp C hS kw_1012 sh_10 sh_44 (hm 10 (by decide)) (hm 44 (by decide)) hi (Nat.le_of_ble_eq_true rfl) hl.1 ⟨Nat.le_of_ble_eq_true rfl, Nat.le_of_ble_eq_true rfl⟩ dX11_away_56 (fun H locs hS => ?_)
        obtain ⟨h5, eh5, hf⟩ := zst_some hf
        have hS : zS G h5 s.heap H locs := by rw [eh5]; exact hS
        refine lv_aload_n C.1 C.2.1 dX11_away_59 rfl (lv_at hl 1 rfl) ?_
        refine zgetR C hS ff_X11_39_0 (hm 0 (by decide)) (hk (0, 4) (by decide)) dX11_away_60 ?_
        refine lv_iload C.1 C.2.1 dX11_away_63 (lv_at hl 0 rfl) ?_
        refine lv_iconst (v := (-1 : Int32)) C.1 C.2.1 dX11_away_65 rfl ?_
        obtain ⟨hi, hf⟩ := zck_some hf
        refine zast C hS sh_44 (hm 44 (by decide)) hi dX11_away_66 (fun H locs hS => ?_)
        obtain ⟨h6, eh6, hf⟩ := zst_some hf
        have hS : zS G h6 s.heap H locs := by rw [eh6]; exact hS
        refine lv_aload_n C.1 C.2.1 dX11_away_67 rfl (lv_at hl 1 rfl) ?_
        refine zgetR C hS ff_X11_35_0 (hm 0 (by decide)) (hk (0, 3) (by decide)) dX11_away_68 ?_
        refine lv_aload_n C.1 C.2.1 dX11_away_71 rfl (lv_at hl 1 rfl) ?_
        refine zgetR C hS ff_X11_39_0 (hm 0 (by decide)) (hk (0, 4) (by decide)) dX11_away_72 ?_
        refine lv_aload_n C.1 C.2.1 dX11_away_75 rfl (lv_at hl 3 rfl) ?_
        refine zgetI C hS ff_X11_194_7 (hm 7 (by decide)) dX11_away_76 ?_
        obtain ⟨r7, h8, er7, hf⟩ := zbd_some hf
        refine zcallVI (As := [.ref (zal G 44), .int (h6 7 3)]) (rest := []) C hS mv_X11_228 (c_X1_merryOf_r44 l G h6 (h6 7 3) (r7, h8) (fun c h => hm c (sn_X11_away_X1_merryOf_r44 c h)) (fun q h => hk q (sl_X11_away_X1_merryOf_r44 q h)) er7) (hm 38 (by decide)) ⟨_, _, _, sh_38, rfl, rfl⟩ rfl rfl (Nat.le_of_ble_eq_true rfl) hl.1 ⟨Nat.le_of_ble_eq_true rfl, Nat.le_of_ble_eq_true rfl, Nat.le_of_ble_eq_true rfl, Nat.le_of_ble_eq_true rfl⟩ dX11_away_79 (fun H locs hS => ?_)
        refine lv_iload_n C.1 C.2.1 dX11_away_82 rfl (lv_at hl 2 rfl) ?_
        refine lv_icmp_ne (tgt := 93) C.1 C.2.1 dX11_away_83 (by decide) (fun hc => ?_) (fun hc => ?_)
        · have hf := zif_f hc hf
          exact w_X11_away_93 C hm hk ih _ _ _ _ _ _ _ (lv_sub hl [1, 2, 3, 4, 5] rfl) hS hf
        · have hf := zif_t hc hf
          refine lv_iload_n C.1 C.2.1 dX11_away_86 rfl (lv_at hl 4 rfl) ?_
          refine lv_iconst (v := (1 : Int32)) C.1 C.2.1 dX11_away_87 rfl ?_
          refine lv_iload C.1 C.2.1 dX11_away_88 (lv_at hl 5 rfl) ?_
          refine lv_ishl C.1 C.2.1 dX11_away_90 ?_
          refine lv_ior C.1 C.2.1 dX11_away_91 ?_
          obtain ⟨y9, ey9, hf⟩ := zlt_some hf
          refine ztop ey9 ?_
          refine lv_istore_n (lv' := [(3, .int y9), (5, .int y3), (0, .ref (zal G 0)), (1, .int x1), (2, .ref (zal G 7)), (4, .int x4)]) C.1 C.2.1 dX11_away_92 rfl hl (by decide) rfl (fun ls hl => ?_)
          exact w_X11_away_93 C hm hk ih _ _ _ _ _ _ _ (lv_sub hl [2, 3, 4, 0, 5] rfl) hS hf
set_option maxHeartbeats 4000000 in
set_option maxRecDepth 100000 in
theorem c_X11_away (l : Launch) (G : zG) (h : zH) (x1 : Int32) (q : Int32 × zH) (hm : ∀ c ∈ nd_X11_away, c ∈ znm G) (hk : ∀ q ∈ ld_X11_away, zlk G q.1 q.2 = true) (hf : f_X11_away x1 h = some q) : zCtI l yX11_away cX11_away 6 (some .int) (8) [.ref (zal G 0), .int x1] G h q.2 q.1 := by
  refine zMetI (by decide) (Nat.le_of_ble_eq_true rfl) ?_
  intro p e s m below meth c ls C hl hS
  have hl : lv_has ls 6 [(0, .ref (zal G 0)), (1, .int x1)] := hl
  have C : zC G p s m [.ref (zal G 0), .int x1].toArray meth c cX11_away 6 RX11 (some .int) := C
  unfold f_X11_away at hf
  refine lv_aload_n C.1 C.2.1 dX11_away_0 rfl (lv_at hl 0 rfl) ?_
  refine zgetR C hS ff_X11_35_0 (hm 0 (by decide)) (hk (0, 3) (by decide)) dX11_away_1 ?_
  obtain ⟨r1, h2, er1, hf⟩ := zbd_some hf
  refine zcallVV (As := []) (rest := []) C hS mv_X11_197 (c_X1_begin l G h  (r1, h2) (fun c h => hm c (sn_X11_away_X1_begin c h)) (fun q h => hk q (sl_X11_away_X1_begin q h)) er1) (hm 38 (by decide)) ⟨_, _, _, sh_38, rfl, rfl⟩ rfl rfl (Nat.le_of_ble_eq_true rfl) hl.1 ⟨Nat.le_of_ble_eq_true rfl, Nat.le_of_ble_eq_true rfl, Nat.le_of_ble_eq_true rfl, Nat.le_of_ble_eq_true rfl⟩ dX11_away_4 (fun H locs hS => ?_)
  refine lv_aload_n C.1 C.2.1 dX11_away_7 rfl (lv_at hl 0 rfl) ?_
  refine zgetR C hS ff_X11_12_0 (hm 0 (by decide)) (hk (0, 0) (by decide)) dX11_away_8 ?_
  refine zgetR C hS ff_X11_90_1 (hm 1 (by decide)) (hk (1, 1) (by decide)) dX11_away_11 ?_
  refine lv_astore_n (lv' := [(2, .ref (zal G 7)), (0, .ref (zal G 0)), (1, .int x1)]) C.1 C.2.1 dX11_away_14 rfl hl (by decide) rfl (fun ls hl => ?_)
  refine lv_iconst (v := (0 : Int32)) C.1 C.2.1 dX11_away_15 rfl ?_
  refine lv_istore_n (lv' := [(3, .int (0 : Int32)), (2, .ref (zal G 7)), (0, .ref (zal G 0)), (1, .int x1)]) C.1 C.2.1 dX11_away_16 rfl hl (by decide) rfl (fun ls hl => ?_)
  refine lv_iconst (v := (0 : Int32)) C.1 C.2.1 dX11_away_17 rfl ?_
  refine lv_istore (lv' := [(4, .int (0 : Int32)), (3, .int (0 : Int32)), (2, .ref (zal G 7)), (0, .ref (zal G 0)), (1, .int x1)]) C.1 C.2.1 dX11_away_18 hl (by decide) rfl (fun ls hl => ?_)
  exact w_X11_away_20 C hm hk  zN _ _ _ _ _ _ _ (lv_sub hl [3, 4, 2, 1, 0] rfl) hS hf
end
section
theorem dX1_leaveAll_0 : decode cX1_leaveAll 0 = .ok (.aload_n 0, 1) := by decide +kernel
theorem dX1_leaveAll_1 : decode cX1_leaveAll 1 = .ok (.getfield 18, 3) := by decide +kernel
theorem dX1_leaveAll_4 : decode cX1_leaveAll 4 = .ok (.iload_n 2, 1) := by decide +kernel
theorem dX1_leaveAll_5 : decode cX1_leaveAll 5 = .ok (.aload_n 0, 1) := by decide +kernel
theorem dX1_leaveAll_6 : decode cX1_leaveAll 6 = .ok (.iload_n 2, 1) := by decide +kernel
theorem dX1_leaveAll_7 : decode cX1_leaveAll 7 = .ok (.iload_n 1, 1) := by decide +kernel
theorem dX1_leaveAll_8 : decode cX1_leaveAll 8 = .ok (.invokevirtual 50, 3) := by decide +kernel
theorem dX1_leaveAll_11 : decode cX1_leaveAll 11 = .ok (.iastore, 1) := by decide +kernel
theorem dX1_leaveAll_12 : decode cX1_leaveAll 12 = .ok (.aload_n 0, 1) := by decide +kernel
theorem dX1_leaveAll_13 : decode cX1_leaveAll 13 = .ok (.getfield 18, 3) := by decide +kernel
theorem dX1_leaveAll_16 : decode cX1_leaveAll 16 = .ok (.iload_n 1, 1) := by decide +kernel
theorem dX1_leaveAll_17 : decode cX1_leaveAll 17 = .ok (.iconst 0, 1) := by decide +kernel
theorem dX1_leaveAll_18 : decode cX1_leaveAll 18 = .ok (.iastore, 1) := by decide +kernel
theorem dX1_leaveAll_19 : decode cX1_leaveAll 19 = .ok (.return_, 1) := by decide +kernel
abbrev nd_X1_leaveAll : List Nat := [1, 2, 6, 38, 41]
abbrev ld_X1_leaveAll : List (Nat × Nat) := [(1, 0), (2, 3), (38, 0), (38, 3)]
theorem sn_X1_leaveAll_X1_tellable : ∀ c ∈ nd_X1_tellable, c ∈ nd_X1_leaveAll := by decide
theorem sl_X1_leaveAll_X1_tellable : ∀ q ∈ ld_X1_tellable, q ∈ ld_X1_leaveAll := by decide
def f_X1_leaveAll  (x1 : Int32) (x2 : Int32) (h : zH) : zR := (zbd (f_X1_tellable x2 x1 h) fun r1 h2 => (zck x2 6 (zst (zup h2 41 (Int32.toNatClampNeg x2) r1) fun h3 => (zck x1 6 (zst (zup h3 41 (Int32.toNatClampNeg x1) (0 : Int32)) fun h4 => (some (0, h4)))))))
variable {p : Program} {l : Launch} {e : Env} {s : State} {m : MethodId} {args : Array Value} {below : List Frame} {meth : Method} {c : Code} {G : zG} {q : Int32 × zH}
set_option maxHeartbeats 4000000 in
set_option maxRecDepth 100000 in
theorem c_X1_leaveAll (l : Launch) (G : zG) (h : zH) (x1 : Int32) (x2 : Int32) (q : Int32 × zH) (hm : ∀ c ∈ nd_X1_leaveAll, c ∈ znm G) (hk : ∀ q ∈ ld_X1_leaveAll, zlk G q.1 q.2 = true) (hf : f_X1_leaveAll x1 x2 h = some q) : zCtV l yX1_leaveAll cX1_leaveAll 3 none (4) [.ref (zal G 38), .int x1, .int x2] G h q.2 := by
  refine zMetV (by decide) (Nat.le_of_ble_eq_true rfl) ?_
  intro p e s m below meth c ls C hl hS
  have hl : lv_has ls 3 [(0, .ref (zal G 38)), (1, .int x1), (2, .int x2)] := hl
  have C : zC G p s m [.ref (zal G 38), .int x1, .int x2].toArray meth c cX1_leaveAll 3 RX1 none := C
  unfold f_X1_leaveAll at hf
  refine lv_aload_n C.1 C.2.1 dX1_leaveAll_0 rfl (lv_at hl 0 rfl) ?_
  refine zgetR C hS ff_X1_18_38 (hm 38 (by decide)) (hk (38, 3) (by decide)) dX1_leaveAll_1 ?_
  refine lv_iload_n C.1 C.2.1 dX1_leaveAll_4 rfl (lv_at hl 2 rfl) ?_
  refine lv_aload_n C.1 C.2.1 dX1_leaveAll_5 rfl (lv_at hl 0 rfl) ?_
  refine lv_iload_n C.1 C.2.1 dX1_leaveAll_6 rfl (lv_at hl 2 rfl) ?_
  refine lv_iload_n C.1 C.2.1 dX1_leaveAll_7 rfl (lv_at hl 1 rfl) ?_
  obtain ⟨r1, h2, er1, hf⟩ := zbd_some hf
  refine zcallVI (As := [.int x2, .int x1]) (rest := [.int x2, .ref (zal G 41)]) C hS mv_X1_50 (c_X1_tellable l G h x2 x1 (r1, h2) (fun c h => hm c (sn_X1_leaveAll_X1_tellable c h)) (fun q h => hk q (sl_X1_leaveAll_X1_tellable q h)) er1) (hm 38 (by decide)) ⟨_, _, _, sh_38, rfl, rfl⟩ rfl rfl (Nat.le_of_ble_eq_true rfl) hl.1 ⟨Nat.le_of_ble_eq_true rfl, Nat.le_of_ble_eq_true rfl, Nat.le_of_ble_eq_true rfl, Nat.le_of_ble_eq_true rfl⟩ dX1_leaveAll_8 (fun H locs hS => ?_)
  obtain ⟨hi, hf⟩ := zck_some hf
  refine zast C hS sh_41 (hm 41 (by decide)) hi dX1_leaveAll_11 (fun H locs hS => ?_)
  obtain ⟨h3, eh3, hf⟩ := zst_some hf
  have hS : zS G h3 s.heap H locs := by rw [eh3]; exact hS
  refine lv_aload_n C.1 C.2.1 dX1_leaveAll_12 rfl (lv_at hl 0 rfl) ?_
  refine zgetR C hS ff_X1_18_38 (hm 38 (by decide)) (hk (38, 3) (by decide)) dX1_leaveAll_13 ?_
  refine lv_iload_n C.1 C.2.1 dX1_leaveAll_16 rfl (lv_at hl 1 rfl) ?_
  refine lv_iconst (v := (0 : Int32)) C.1 C.2.1 dX1_leaveAll_17 rfl ?_
  obtain ⟨hi, hf⟩ := zck_some hf
  refine zast C hS sh_41 (hm 41 (by decide)) hi dX1_leaveAll_18 (fun H locs hS => ?_)
  obtain ⟨h4, eh4, hf⟩ := zst_some hf
  have hS : zS G h4 s.heap H locs := by rw [eh4]; exact hS
  exact zretV C hS hf dX1_leaveAll_19
end
section
theorem dX11_uncle_0 : decode cX11_uncle 0 = .ok (.iload_n 1, 1) := by decide +kernel
theorem dX11_uncle_1 : decode cX11_uncle 1 = .ok (.bipush 6, 2) := by decide +kernel
theorem dX11_uncle_3 : decode cX11_uncle 3 = .ok (.invokestatic 50, 3) := by decide +kernel
theorem dX11_uncle_6 : decode cX11_uncle 6 = .ok (.ifCond .eq 11, 3) := by decide +kernel
theorem dX11_uncle_9 : decode cX11_uncle 9 = .ok (.iload_n 2, 1) := by decide +kernel
theorem dX11_uncle_10 : decode cX11_uncle 10 = .ok (.iconst 2, 1) := by decide +kernel
theorem dX11_uncle_11 : decode cX11_uncle 11 = .ok (.invokestatic 50, 3) := by decide +kernel
theorem dX11_uncle_14 : decode cX11_uncle 14 = .ok (.ifCond .ne 5, 3) := by decide +kernel
theorem dX11_uncle_17 : decode cX11_uncle 17 = .ok (.iconst (-1), 1) := by decide +kernel
theorem dX11_uncle_18 : decode cX11_uncle 18 = .ok (.ireturn, 1) := by decide +kernel
theorem dX11_uncle_19 : decode cX11_uncle 19 = .ok (.iconst (-1), 1) := by decide +kernel
theorem dX11_uncle_20 : decode cX11_uncle 20 = .ok (.istore_n 3, 1) := by decide +kernel
theorem dX11_uncle_21 : decode cX11_uncle 21 = .ok (.iconst (-1), 1) := by decide +kernel
theorem dX11_uncle_22 : decode cX11_uncle 22 = .ok (.istore 4, 2) := by decide +kernel
theorem dX11_uncle_24 : decode cX11_uncle 24 = .ok (.iconst 0, 1) := by decide +kernel
theorem dX11_uncle_25 : decode cX11_uncle 25 = .ok (.istore 5, 2) := by decide +kernel
theorem dX11_uncle_27 : decode cX11_uncle 27 = .ok (.iload 5, 2) := by decide +kernel
theorem dX11_uncle_29 : decode cX11_uncle 29 = .ok (.bipush 6, 2) := by decide +kernel
theorem dX11_uncle_31 : decode cX11_uncle 31 = .ok (.if_icmp .ge 74, 3) := by decide +kernel
theorem dX11_uncle_34 : decode cX11_uncle 34 = .ok (.iload 5, 2) := by decide +kernel
theorem dX11_uncle_36 : decode cX11_uncle 36 = .ok (.iload_n 1, 1) := by decide +kernel
theorem dX11_uncle_37 : decode cX11_uncle 37 = .ok (.if_icmp .eq 62, 3) := by decide +kernel
theorem dX11_uncle_40 : decode cX11_uncle 40 = .ok (.aload_n 0, 1) := by decide +kernel
theorem dX11_uncle_41 : decode cX11_uncle 41 = .ok (.getfield 35, 3) := by decide +kernel
theorem dX11_uncle_44 : decode cX11_uncle 44 = .ok (.invokevirtual 197, 3) := by decide +kernel
theorem dX11_uncle_47 : decode cX11_uncle 47 = .ok (.aload_n 0, 1) := by decide +kernel
theorem dX11_uncle_48 : decode cX11_uncle 48 = .ok (.getfield 35, 3) := by decide +kernel
theorem dX11_uncle_51 : decode cX11_uncle 51 = .ok (.iload_n 1, 1) := by decide +kernel
theorem dX11_uncle_52 : decode cX11_uncle 52 = .ok (.iload 5, 2) := by decide +kernel
theorem dX11_uncle_54 : decode cX11_uncle 54 = .ok (.invokevirtual 298, 3) := by decide +kernel
theorem dX11_uncle_57 : decode cX11_uncle 57 = .ok (.aload_n 0, 1) := by decide +kernel
theorem dX11_uncle_58 : decode cX11_uncle 58 = .ok (.getfield 35, 3) := by decide +kernel
theorem dX11_uncle_61 : decode cX11_uncle 61 = .ok (.aload_n 0, 1) := by decide +kernel
theorem dX11_uncle_62 : decode cX11_uncle 62 = .ok (.getfield 12, 3) := by decide +kernel
theorem dX11_uncle_65 : decode cX11_uncle 65 = .ok (.getfield 90, 3) := by decide +kernel
theorem dX11_uncle_68 : decode cX11_uncle 68 = .ok (.getfield 200, 3) := by decide +kernel
theorem dX11_uncle_71 : decode cX11_uncle 71 = .ok (.aload_n 0, 1) := by decide +kernel
theorem dX11_uncle_72 : decode cX11_uncle 72 = .ok (.getfield 12, 3) := by decide +kernel
theorem dX11_uncle_75 : decode cX11_uncle 75 = .ok (.getfield 90, 3) := by decide +kernel
theorem dX11_uncle_78 : decode cX11_uncle 78 = .ok (.getfield 194, 3) := by decide +kernel
theorem dX11_uncle_81 : decode cX11_uncle 81 = .ok (.invokevirtual 228, 3) := by decide +kernel
theorem dX11_uncle_84 : decode cX11_uncle 84 = .ok (.istore 6, 2) := by decide +kernel
theorem dX11_uncle_86 : decode cX11_uncle 86 = .ok (.iload 6, 2) := by decide +kernel
theorem dX11_uncle_88 : decode cX11_uncle 88 = .ok (.iload_n 3, 1) := by decide +kernel
theorem dX11_uncle_89 : decode cX11_uncle 89 = .ok (.if_icmp .le 10, 3) := by decide +kernel
theorem dX11_uncle_92 : decode cX11_uncle 92 = .ok (.iload 6, 2) := by decide +kernel
theorem dX11_uncle_94 : decode cX11_uncle 94 = .ok (.istore_n 3, 1) := by decide +kernel
theorem dX11_uncle_95 : decode cX11_uncle 95 = .ok (.iload 5, 2) := by decide +kernel
theorem dX11_uncle_97 : decode cX11_uncle 97 = .ok (.istore 4, 2) := by decide +kernel
theorem dX11_uncle_99 : decode cX11_uncle 99 = .ok (.iinc 5 1, 3) := by decide +kernel
theorem dX11_uncle_102 : decode cX11_uncle 102 = .ok (.goto (-75), 3) := by decide +kernel
theorem dX11_uncle_105 : decode cX11_uncle 105 = .ok (.iload_n 2, 1) := by decide +kernel
theorem dX11_uncle_106 : decode cX11_uncle 106 = .ok (.ifCond .ne 8, 3) := by decide +kernel
theorem dX11_uncle_109 : decode cX11_uncle 109 = .ok (.iload 4, 2) := by decide +kernel
theorem dX11_uncle_111 : decode cX11_uncle 111 = .ok (.goto 4, 3) := by decide +kernel
theorem dX11_uncle_114 : decode cX11_uncle 114 = .ok (.iload_n 3, 1) := by decide +kernel
theorem dX11_uncle_115 : decode cX11_uncle 115 = .ok (.ireturn, 1) := by decide +kernel
abbrev nd_X11_uncle : List Nat := [0, 1, 2, 3, 4, 5, 6, 7, 8, 10, 11, 12, 13, 16, 17, 18, 19, 20, 21, 38, 39, 40, 41, 42, 43]
abbrev ld_X11_uncle : List (Nat × Nat) := [(0, 0), (0, 3), (1, 0), (1, 1), (1, 2), (1, 3), (1, 4), (1, 5), (2, 0), (2, 1), (2, 2), (2, 3), (7, 0), (7, 2), (11, 0), (11, 1), (16, 0), (16, 1), (16, 2), (38, 0), (38, 1), (38, 2), (38, 3), (38, 4), (38, 5)]
theorem sn_X11_uncle_X11_isBelow : ∀ c ∈ nd_X11_isBelow, c ∈ nd_X11_uncle := by decide
theorem sl_X11_uncle_X11_isBelow : ∀ q ∈ ld_X11_isBelow, q ∈ ld_X11_uncle := by decide
theorem sn_X11_uncle_X1_begin : ∀ c ∈ nd_X1_begin, c ∈ nd_X11_uncle := by decide
theorem sl_X11_uncle_X1_begin : ∀ q ∈ ld_X1_begin, q ∈ ld_X11_uncle := by decide
theorem sn_X11_uncle_X1_leaveAll : ∀ c ∈ nd_X1_leaveAll, c ∈ nd_X11_uncle := by decide
theorem sl_X11_uncle_X1_leaveAll : ∀ q ∈ ld_X1_leaveAll, q ∈ ld_X11_uncle := by decide
theorem sn_X11_uncle_X1_merryOf_r10 : ∀ c ∈ nd_X1_merryOf_r10, c ∈ nd_X11_uncle := by decide
theorem sl_X11_uncle_X1_merryOf_r10 : ∀ q ∈ ld_X1_merryOf_r10, q ∈ ld_X11_uncle := by decide
def f_X11_uncle_17  (h : zH) : zR := (some ((-1 : Int32), h))
def f_X11_uncle_99 (k27 : Int32 → Int32 → Int32 → Int32 → Int32 → zH → zR) (x1 : Int32) (x2 : Int32) (x3 : Int32) (x4 : Int32) (x5 : Int32) (h : zH) : zR := (zlt (x5 + (1 : Int32)) fun y5 => (k27 x1 x2 x3 x4 y5 h))
def f_X11_uncle_27  : Nat → Int32 → Int32 → Int32 → Int32 → Int32 → zH → zR
  | 0 => fun _ _ _ _ _ _ => none
  | n + 1 => fun x1 x2 x3 x4 x5 h => (if (6 : Int32) ≤ x5 then (if x2 = 0 then (some (x4, h)) else (some (x3, h))) else (if x5 = x1 then (f_X11_uncle_99 (f_X11_uncle_27  n) x1 x2 x3 x4 x5 h) else (zbd (f_X1_begin  h) fun r6 h7 => (zbd (f_X1_leaveAll x1 x5 h7) fun r8 h9 => (zbd (f_X1_merryOf_r10 (h9 7 3) h9) fun r10 h11 => (if r10 ≤ x3 then (f_X11_uncle_99 (f_X11_uncle_27  n) x1 x2 x3 x4 x5 h11) else (f_X11_uncle_99 (f_X11_uncle_27  n) x1 x2 r10 x5 x5 h11)))))))
def f_X11_uncle  (x1 : Int32) (x2 : Int32) (h : zH) : zR := (zbd (f_X11_isBelow x1 (6 : Int32) h) fun r1 h2 => (if r1 = 0 then (f_X11_uncle_17   h2) else (zbd (f_X11_isBelow x2 (2 : Int32) h2) fun r3 h4 => (if r3 = 0 then (f_X11_uncle_17   h4) else (f_X11_uncle_27  zN x1 x2 (-1 : Int32) (-1 : Int32) (0 : Int32) h4)))))
variable {p : Program} {l : Launch} {e : Env} {s : State} {m : MethodId} {args : Array Value} {below : List Frame} {meth : Method} {c : Code} {G : zG} {q : Int32 × zH}
set_option maxHeartbeats 4000000 in
set_option maxRecDepth 100000 in
theorem w_X11_uncle_17  (C : zC G p s m args meth c cX11_uncle 7 RX11 (some .int)) (hm : ∀ c ∈ nd_X11_uncle, c ∈ znm G) (hk : ∀ q ∈ ld_X11_uncle, zlk G q.1 q.2 = true)  : ∀ (ls : Array Slot) (H : Heap) (locs : List Loc) (h : zH), lv_has ls 7 [] → zS G h s.heap H locs → f_X11_uncle_17  h = some q → W p l e (zrm (8)) s m args below meth c H locs 0 0 (MQ below (zQI G q.2 q.1) args s 0 0 (zA G)) (F0 m 17 ls []) := by
  intro ls H locs h hl hS hf
  unfold f_X11_uncle_17 at hf
  refine lv_iconst (v := (-1 : Int32)) C.1 C.2.1 dX11_uncle_17 rfl ?_
  exact zretI C hS hf dX11_uncle_18
set_option maxHeartbeats 4000000 in
set_option maxRecDepth 100000 in
theorem w_X11_uncle_99 {k27 : Int32 → Int32 → Int32 → Int32 → Int32 → zH → zR} (C : zC G p s m args meth c cX11_uncle 7 RX11 (some .int)) (hm : ∀ c ∈ nd_X11_uncle, c ∈ znm G) (hk : ∀ q ∈ ld_X11_uncle, zlk G q.1 q.2 = true) (hk27 : ∀ (ls : Array Slot) (H : Heap) (locs : List Loc) (h : zH) (x1 : Int32) (x2 : Int32) (x3 : Int32) (x4 : Int32) (x5 : Int32), lv_has ls 7 [(0, .ref (zal G 0)), (1, .int x1), (2, .int x2), (3, .int x3), (4, .int x4), (5, .int x5)] → zS G h s.heap H locs → k27 x1 x2 x3 x4 x5 h = some q → W p l e (zrm (8)) s m args below meth c H locs 0 0 (MQ below (zQI G q.2 q.1) args s 0 0 (zA G)) (F0 m 27 ls [])) : ∀ (ls : Array Slot) (H : Heap) (locs : List Loc) (h : zH) (x1 : Int32) (x2 : Int32) (x3 : Int32) (x4 : Int32) (x5 : Int32), lv_has ls 7 [(0, .ref (zal G 0)), (1, .int x1), (2, .int x2), (3, .int x3), (4, .int x4), (5, .int x5)] → zS G h s.heap H locs → f_X11_uncle_99 k27 x1 x2 x3 x4 x5 h = some q → W p l e (zrm (8)) s m args below meth c H locs 0 0 (MQ below (zQI G q.2 q.1) args s 0 0 (zA G)) (F0 m 99 ls []) := by
  intro ls H locs h x1 x2 x3 x4 x5 hl hS hf
  unfold f_X11_uncle_99 at hf
  obtain ⟨y5, ey5, hf⟩ := zlt_some hf
  refine lv_iinc (v := y5) (lv' := [(5, .int y5), (0, .ref (zal G 0)), (1, .int x1), (2, .int x2), (3, .int x3), (4, .int x4)]) C.1 C.2.1 dX11_uncle_99 hl (k := 5) rfl ey5.symm (by decide) rfl (fun ls hl => ?_)
  refine lv_goto (tgt := 27) C.1 C.2.1 dX11_uncle_102 (by decide) ?_
  exact hk27 _ _ _ _ _ _ _ _ _ (lv_sub hl [1, 2, 3, 4, 5, 0] rfl) hS hf
set_option maxHeartbeats 4000000 in
set_option maxRecDepth 100000 in
theorem w_X11_uncle_27  (C : zC G p s m args meth c cX11_uncle 7 RX11 (some .int)) (hm : ∀ c ∈ nd_X11_uncle, c ∈ znm G) (hk : ∀ q ∈ ld_X11_uncle, zlk G q.1 q.2 = true)  : ∀ n, ∀ (ls : Array Slot) (H : Heap) (locs : List Loc) (h : zH) (x1 : Int32) (x2 : Int32) (x3 : Int32) (x4 : Int32) (x5 : Int32), lv_has ls 7 [(0, .ref (zal G 0)), (1, .int x1), (2, .int x2), (3, .int x3), (4, .int x4), (5, .int x5)] → zS G h s.heap H locs → f_X11_uncle_27  n x1 x2 x3 x4 x5 h = some q → W p l e (zrm (8)) s m args below meth c H locs 0 0 (MQ below (zQI G q.2 q.1) args s 0 0 (zA G)) (F0 m 27 ls []) := by
  intro n
  induction n with
  | zero => intro ls H locs h x1 x2 x3 x4 x5 hl hS hf; cases hf
  | succ n ih =>
    intro ls H locs h x1 x2 x3 x4 x5 hl hS hf
    rw [f_X11_uncle_27] at hf
    refine lv_iload C.1 C.2.1 dX11_uncle_27 (lv_at hl 5 rfl) ?_
    refine lv_bipush (v := (6 : Int32)) C.1 C.2.1 dX11_uncle_29 rfl ?_
    refine lv_icmp_ge (tgt := 105) C.1 C.2.1 dX11_uncle_31 (by decide) (fun hc => ?_) (fun hc => ?_)
    · have hf := zif_t hc hf
      refine lv_iload_n C.1 C.2.1 dX11_uncle_105 rfl (lv_at hl 2 rfl) ?_
      refine lv_if_ne (tgt := 114) C.1 C.2.1 dX11_uncle_106 (by decide) (fun hc => ?_) (fun hc => ?_)
      · have hf := zif_f hc hf
        refine lv_iload_n C.1 C.2.1 dX11_uncle_114 rfl (lv_at hl 3 rfl) ?_
        exact zretI C hS hf dX11_uncle_115
      · have hf := zif_t hc hf
        refine lv_iload C.1 C.2.1 dX11_uncle_109 (lv_at hl 4 rfl) ?_
        refine lv_goto (tgt := 115) C.1 C.2.1 dX11_uncle_111 (by decide) ?_
        exact zretI C hS hf dX11_uncle_115
    · have hf := zif_f hc hf
      refine lv_iload C.1 C.2.1 dX11_uncle_34 (lv_at hl 5 rfl) ?_
      refine lv_iload_n C.1 C.2.1 dX11_uncle_36 rfl (lv_at hl 1 rfl) ?_
      refine lv_icmp_eq (tgt := 99) C.1 C.2.1 dX11_uncle_37 (by decide) (fun hc => ?_) (fun hc => ?_)
      · have hf := zif_t hc hf
        exact w_X11_uncle_99 C hm hk ih _ _ _ _ _ _ _ _ _ (lv_sub hl [0, 1, 2, 3, 4, 5] rfl) hS hf
      · have hf := zif_f hc hf
        refine lv_aload_n C.1 C.2.1 dX11_uncle_40 rfl (lv_at hl 0 rfl) ?_
        refine zgetR C hS ff_X11_35_0 (hm 0 (by decide)) (hk (0, 3) (by decide)) dX11_uncle_41 ?_
        obtain ⟨r6, h7, er6, hf⟩ := zbd_some hf
        refine zcallVV (As := []) (rest := []) C hS mv_X11_197 (c_X1_begin l G h  (r6, h7) (fun c h => hm c (sn_X11_uncle_X1_begin c h)) (fun q h => hk q (sl_X11_uncle_X1_begin q h)) er6) (hm 38 (by decide)) ⟨_, _, _, sh_38, rfl, rfl⟩ rfl rfl (Nat.le_of_ble_eq_true rfl) hl.1 ⟨Nat.le_of_ble_eq_true rfl, Nat.le_of_ble_eq_true rfl, Nat.le_of_ble_eq_true rfl, Nat.le_of_ble_eq_true rfl⟩ dX11_uncle_44 (fun H locs hS => ?_)
        refine lv_aload_n C.1 C.2.1 dX11_uncle_47 rfl (lv_at hl 0 rfl) ?_
        refine zgetR C hS ff_X11_35_0 (hm 0 (by decide)) (hk (0, 3) (by decide)) dX11_uncle_48 ?_
        refine lv_iload_n C.1 C.2.1 dX11_uncle_51 rfl (lv_at hl 1 rfl) ?_
        refine lv_iload C.1 C.2.1 dX11_uncle_52 (lv_at hl 5 rfl) ?_
        obtain ⟨r8, h9, er8, hf⟩ := zbd_some hf
        refine zcallVV (As := [.int x1, .int x5]) (rest := []) C hS mv_X11_298 (c_X1_leaveAll l G h7 x1 x5 (r8, h9) (fun c h => hm c (sn_X11_uncle_X1_leaveAll c h)) (fun q h => hk q (sl_X11_uncle_X1_leaveAll q h)) er8) (hm 38 (by decide)) ⟨_, _, _, sh_38, rfl, rfl⟩ rfl rfl (Nat.le_of_ble_eq_true rfl) hl.1 ⟨Nat.le_of_ble_eq_true rfl, Nat.le_of_ble_eq_true rfl, Nat.le_of_ble_eq_true rfl, Nat.le_of_ble_eq_true rfl⟩ dX11_uncle_54 (fun H locs hS => ?_)
        refine lv_aload_n C.1 C.2.1 dX11_uncle_57 rfl (lv_at hl 0 rfl) ?_
        refine zgetR C hS ff_X11_35_0 (hm 0 (by decide)) (hk (0, 3) (by decide)) dX11_uncle_58 ?_
        refine lv_aload_n C.1 C.2.1 dX11_uncle_61 rfl (lv_at hl 0 rfl) ?_
        refine zgetR C hS ff_X11_12_0 (hm 0 (by decide)) (hk (0, 0) (by decide)) dX11_uncle_62 ?_
        refine zgetR C hS ff_X11_90_1 (hm 1 (by decide)) (hk (1, 1) (by decide)) dX11_uncle_65 ?_
        refine zgetR C hS ff_X11_200_7 (hm 7 (by decide)) (hk (7, 2) (by decide)) dX11_uncle_68 ?_
        refine lv_aload_n C.1 C.2.1 dX11_uncle_71 rfl (lv_at hl 0 rfl) ?_
        refine zgetR C hS ff_X11_12_0 (hm 0 (by decide)) (hk (0, 0) (by decide)) dX11_uncle_72 ?_
        refine zgetR C hS ff_X11_90_1 (hm 1 (by decide)) (hk (1, 1) (by decide)) dX11_uncle_75 ?_
        refine zgetI C hS ff_X11_194_7 (hm 7 (by decide)) dX11_uncle_78 ?_
        obtain ⟨r10, h11, er10, hf⟩ := zbd_some hf
        refine zcallVI (As := [.ref (zal G 10), .int (h9 7 3)]) (rest := []) C hS mv_X11_228 (c_X1_merryOf_r10 l G h9 (h9 7 3) (r10, h11) (fun c h => hm c (sn_X11_uncle_X1_merryOf_r10 c h)) (fun q h => hk q (sl_X11_uncle_X1_merryOf_r10 q h)) er10) (hm 38 (by decide)) ⟨_, _, _, sh_38, rfl, rfl⟩ rfl rfl (Nat.le_of_ble_eq_true rfl) hl.1 ⟨Nat.le_of_ble_eq_true rfl, Nat.le_of_ble_eq_true rfl, Nat.le_of_ble_eq_true rfl, Nat.le_of_ble_eq_true rfl⟩ dX11_uncle_81 (fun H locs hS => ?_)
        refine lv_istore (lv' := [(6, .int r10), (0, .ref (zal G 0)), (1, .int x1), (2, .int x2), (3, .int x3), (4, .int x4), (5, .int x5)]) C.1 C.2.1 dX11_uncle_84 hl (by decide) rfl (fun ls hl => ?_)
        refine lv_iload C.1 C.2.1 dX11_uncle_86 (lv_at hl 0 rfl) ?_
        refine lv_iload_n C.1 C.2.1 dX11_uncle_88 rfl (lv_at hl 4 rfl) ?_
        refine lv_icmp_le (tgt := 99) C.1 C.2.1 dX11_uncle_89 (by decide) (fun hc => ?_) (fun hc => ?_)
        · have hf := zif_t hc hf
          exact w_X11_uncle_99 C hm hk ih _ _ _ _ _ _ _ _ _ (lv_sub hl [1, 2, 3, 4, 5, 6] rfl) hS hf
        · have hf := zif_f hc hf
          refine lv_iload C.1 C.2.1 dX11_uncle_92 (lv_at hl 0 rfl) ?_
          refine lv_istore_n (lv' := [(3, .int r10), (6, .int r10), (0, .ref (zal G 0)), (1, .int x1), (2, .int x2), (4, .int x4), (5, .int x5)]) C.1 C.2.1 dX11_uncle_94 rfl hl (by decide) rfl (fun ls hl => ?_)
          refine lv_iload C.1 C.2.1 dX11_uncle_95 (lv_at hl 6 rfl) ?_
          refine lv_istore (lv' := [(4, .int x5), (3, .int r10), (6, .int r10), (0, .ref (zal G 0)), (1, .int x1), (2, .int x2), (5, .int x5)]) C.1 C.2.1 dX11_uncle_97 hl (by decide) rfl (fun ls hl => ?_)
          exact w_X11_uncle_99 C hm hk ih _ _ _ _ _ _ _ _ _ (lv_sub hl [3, 4, 5, 1, 0, 6] rfl) hS hf
set_option maxHeartbeats 4000000 in
set_option maxRecDepth 100000 in
theorem c_X11_uncle (l : Launch) (G : zG) (h : zH) (x1 : Int32) (x2 : Int32) (q : Int32 × zH) (hm : ∀ c ∈ nd_X11_uncle, c ∈ znm G) (hk : ∀ q ∈ ld_X11_uncle, zlk G q.1 q.2 = true) (hf : f_X11_uncle x1 x2 h = some q) : zCtI l yX11_uncle cX11_uncle 7 (some .int) (8) [.ref (zal G 0), .int x1, .int x2] G h q.2 q.1 := by
  refine zMetI (by decide) (Nat.le_of_ble_eq_true rfl) ?_
  intro p e s m below meth c ls C hl hS
  have hl : lv_has ls 7 [(0, .ref (zal G 0)), (1, .int x1), (2, .int x2)] := hl
  have C : zC G p s m [.ref (zal G 0), .int x1, .int x2].toArray meth c cX11_uncle 7 RX11 (some .int) := C
  unfold f_X11_uncle at hf
  refine lv_iload_n C.1 C.2.1 dX11_uncle_0 rfl (lv_at hl 1 rfl) ?_
  refine lv_bipush (v := (6 : Int32)) C.1 C.2.1 dX11_uncle_1 rfl ?_
  obtain ⟨r1, h2, er1, hf⟩ := zbd_some hf
  refine zcallSI (As := [.int x1, .int (6 : Int32)]) (rest := []) C hS ms_X11_50 (c_X11_isBelow l G h x1 (6 : Int32) (r1, h2) (fun c h => hm c (sn_X11_uncle_X11_isBelow c h)) (fun q h => hk q (sl_X11_uncle_X11_isBelow q h)) er1) rfl rfl (Nat.le_of_ble_eq_true rfl) hl.1 ⟨Nat.le_of_ble_eq_true rfl, Nat.le_of_ble_eq_true rfl, Nat.le_of_ble_eq_true rfl, Nat.le_of_ble_eq_true rfl⟩ dX11_uncle_3 (fun H locs hS => ?_)
  refine lv_if_eq (tgt := 17) C.1 C.2.1 dX11_uncle_6 (by decide) (fun hc => ?_) (fun hc => ?_)
  · have hf := zif_t hc hf
    exact w_X11_uncle_17 C hm hk  _ _ _ _ (lv_sub hl [] rfl) hS hf
  · have hf := zif_f hc hf
    refine lv_iload_n C.1 C.2.1 dX11_uncle_9 rfl (lv_at hl 2 rfl) ?_
    refine lv_iconst (v := (2 : Int32)) C.1 C.2.1 dX11_uncle_10 rfl ?_
    obtain ⟨r3, h4, er3, hf⟩ := zbd_some hf
    refine zcallSI (As := [.int x2, .int (2 : Int32)]) (rest := []) C hS ms_X11_50 (c_X11_isBelow l G h2 x2 (2 : Int32) (r3, h4) (fun c h => hm c (sn_X11_uncle_X11_isBelow c h)) (fun q h => hk q (sl_X11_uncle_X11_isBelow q h)) er3) rfl rfl (Nat.le_of_ble_eq_true rfl) hl.1 ⟨Nat.le_of_ble_eq_true rfl, Nat.le_of_ble_eq_true rfl, Nat.le_of_ble_eq_true rfl, Nat.le_of_ble_eq_true rfl⟩ dX11_uncle_11 (fun H locs hS => ?_)
    refine lv_if_ne (tgt := 19) C.1 C.2.1 dX11_uncle_14 (by decide) (fun hc => ?_) (fun hc => ?_)
    · have hf := zif_f hc hf
      refine lv_iconst (v := (-1 : Int32)) C.1 C.2.1 dX11_uncle_19 rfl ?_
      refine lv_istore_n (lv' := [(3, .int (-1 : Int32)), (0, .ref (zal G 0)), (1, .int x1), (2, .int x2)]) C.1 C.2.1 dX11_uncle_20 rfl hl (by decide) rfl (fun ls hl => ?_)
      refine lv_iconst (v := (-1 : Int32)) C.1 C.2.1 dX11_uncle_21 rfl ?_
      refine lv_istore (lv' := [(4, .int (-1 : Int32)), (3, .int (-1 : Int32)), (0, .ref (zal G 0)), (1, .int x1), (2, .int x2)]) C.1 C.2.1 dX11_uncle_22 hl (by decide) rfl (fun ls hl => ?_)
      refine lv_iconst (v := (0 : Int32)) C.1 C.2.1 dX11_uncle_24 rfl ?_
      refine lv_istore (lv' := [(5, .int (0 : Int32)), (4, .int (-1 : Int32)), (3, .int (-1 : Int32)), (0, .ref (zal G 0)), (1, .int x1), (2, .int x2)]) C.1 C.2.1 dX11_uncle_25 hl (by decide) rfl (fun ls hl => ?_)
      exact w_X11_uncle_27 C hm hk  zN _ _ _ _ _ _ _ _ _ (lv_sub hl [3, 4, 5, 2, 1, 0] rfl) hS hf
    · have hf := zif_t hc hf
      exact w_X11_uncle_17 C hm hk  _ _ _ _ (lv_sub hl [] rfl) hS hf
end
section
theorem dX2_gather_0 : decode cX2_gather 0 = .ok (.aload_n 0, 1) := by decide +kernel
theorem dX2_gather_1 : decode cX2_gather 1 = .ok (.iconst 0, 1) := by decide +kernel
theorem dX2_gather_2 : decode cX2_gather 2 = .ok (.putfield 37, 3) := by decide +kernel
theorem dX2_gather_5 : decode cX2_gather 5 = .ok (.aload_n 0, 1) := by decide +kernel
theorem dX2_gather_6 : decode cX2_gather 6 = .ok (.iconst 0, 1) := by decide +kernel
theorem dX2_gather_7 : decode cX2_gather 7 = .ok (.putfield 41, 3) := by decide +kernel
theorem dX2_gather_10 : decode cX2_gather 10 = .ok (.iconst 0, 1) := by decide +kernel
theorem dX2_gather_11 : decode cX2_gather 11 = .ok (.istore_n 2, 1) := by decide +kernel
theorem dX2_gather_12 : decode cX2_gather 12 = .ok (.iload_n 2, 1) := by decide +kernel
theorem dX2_gather_13 : decode cX2_gather 13 = .ok (.aload_n 1, 1) := by decide +kernel
theorem dX2_gather_14 : decode cX2_gather 14 = .ok (.getfield 59, 3) := by decide +kernel
theorem dX2_gather_17 : decode cX2_gather 17 = .ok (.if_icmp .ge 93, 3) := by decide +kernel
theorem dX2_gather_20 : decode cX2_gather 20 = .ok (.aload_n 1, 1) := by decide +kernel
theorem dX2_gather_21 : decode cX2_gather 21 = .ok (.getfield 64, 3) := by decide +kernel
theorem dX2_gather_24 : decode cX2_gather 24 = .ok (.iload_n 2, 1) := by decide +kernel
theorem dX2_gather_25 : decode cX2_gather 25 = .ok (.iaload, 1) := by decide +kernel
theorem dX2_gather_26 : decode cX2_gather 26 = .ok (.ifCond .ne 7, 3) := by decide +kernel
theorem dX2_gather_29 : decode cX2_gather 29 = .ok (.iconst 1, 1) := by decide +kernel
theorem dX2_gather_30 : decode cX2_gather 30 = .ok (.goto 4, 3) := by decide +kernel
theorem dX2_gather_33 : decode cX2_gather 33 = .ok (.iconst 0, 1) := by decide +kernel
theorem dX2_gather_34 : decode cX2_gather 34 = .ok (.istore_n 3, 1) := by decide +kernel
theorem dX2_gather_35 : decode cX2_gather 35 = .ok (.iload_n 3, 1) := by decide +kernel
theorem dX2_gather_36 : decode cX2_gather 36 = .ok (.ifCond .eq 10, 3) := by decide +kernel
theorem dX2_gather_39 : decode cX2_gather 39 = .ok (.aload_n 0, 1) := by decide +kernel
theorem dX2_gather_40 : decode cX2_gather 40 = .ok (.getfield 37, 3) := by decide +kernel
theorem dX2_gather_43 : decode cX2_gather 43 = .ok (.goto 7, 3) := by decide +kernel
theorem dX2_gather_46 : decode cX2_gather 46 = .ok (.aload_n 0, 1) := by decide +kernel
theorem dX2_gather_47 : decode cX2_gather 47 = .ok (.getfield 41, 3) := by decide +kernel
theorem dX2_gather_50 : decode cX2_gather 50 = .ok (.bipush 8, 2) := by decide +kernel
theorem dX2_gather_52 : decode cX2_gather 52 = .ok (.if_icmp .lt 5, 3) := by decide +kernel
theorem dX2_gather_55 : decode cX2_gather 55 = .ok (.iconst 0, 1) := by decide +kernel
theorem dX2_gather_56 : decode cX2_gather 56 = .ok (.ireturn, 1) := by decide +kernel
theorem dX2_gather_57 : decode cX2_gather 57 = .ok (.iload_n 3, 1) := by decide +kernel
theorem dX2_gather_58 : decode cX2_gather 58 = .ok (.ifCond .eq 26, 3) := by decide +kernel
theorem dX2_gather_61 : decode cX2_gather 61 = .ok (.aload_n 0, 1) := by decide +kernel
theorem dX2_gather_62 : decode cX2_gather 62 = .ok (.getfield 18, 3) := by decide +kernel
theorem dX2_gather_65 : decode cX2_gather 65 = .ok (.aload_n 0, 1) := by decide +kernel
theorem dX2_gather_66 : decode cX2_gather 66 = .ok (.getfield 37, 3) := by decide +kernel
theorem dX2_gather_69 : decode cX2_gather 69 = .ok (.iload_n 2, 1) := by decide +kernel
theorem dX2_gather_70 : decode cX2_gather 70 = .ok (.iastore, 1) := by decide +kernel
theorem dX2_gather_71 : decode cX2_gather 71 = .ok (.aload_n 0, 1) := by decide +kernel
theorem dX2_gather_72 : decode cX2_gather 72 = .ok (.dup, 1) := by decide +kernel
theorem dX2_gather_73 : decode cX2_gather 73 = .ok (.getfield 37, 3) := by decide +kernel
theorem dX2_gather_76 : decode cX2_gather 76 = .ok (.iconst 1, 1) := by decide +kernel
theorem dX2_gather_77 : decode cX2_gather 77 = .ok (.iadd, 1) := by decide +kernel
theorem dX2_gather_78 : decode cX2_gather 78 = .ok (.putfield 37, 3) := by decide +kernel
theorem dX2_gather_81 : decode cX2_gather 81 = .ok (.goto 23, 3) := by decide +kernel
theorem dX2_gather_84 : decode cX2_gather 84 = .ok (.aload_n 0, 1) := by decide +kernel
theorem dX2_gather_85 : decode cX2_gather 85 = .ok (.getfield 21, 3) := by decide +kernel
theorem dX2_gather_88 : decode cX2_gather 88 = .ok (.aload_n 0, 1) := by decide +kernel
theorem dX2_gather_89 : decode cX2_gather 89 = .ok (.getfield 41, 3) := by decide +kernel
theorem dX2_gather_92 : decode cX2_gather 92 = .ok (.iload_n 2, 1) := by decide +kernel
theorem dX2_gather_93 : decode cX2_gather 93 = .ok (.iastore, 1) := by decide +kernel
theorem dX2_gather_94 : decode cX2_gather 94 = .ok (.aload_n 0, 1) := by decide +kernel
theorem dX2_gather_95 : decode cX2_gather 95 = .ok (.dup, 1) := by decide +kernel
theorem dX2_gather_96 : decode cX2_gather 96 = .ok (.getfield 41, 3) := by decide +kernel
theorem dX2_gather_99 : decode cX2_gather 99 = .ok (.iconst 1, 1) := by decide +kernel
theorem dX2_gather_100 : decode cX2_gather 100 = .ok (.iadd, 1) := by decide +kernel
theorem dX2_gather_101 : decode cX2_gather 101 = .ok (.putfield 41, 3) := by decide +kernel
theorem dX2_gather_104 : decode cX2_gather 104 = .ok (.iinc 2 1, 3) := by decide +kernel
theorem dX2_gather_107 : decode cX2_gather 107 = .ok (.goto (-95), 3) := by decide +kernel
theorem dX2_gather_110 : decode cX2_gather 110 = .ok (.iconst 1, 1) := by decide +kernel
theorem dX2_gather_111 : decode cX2_gather 111 = .ok (.ireturn, 1) := by decide +kernel
abbrev nd_X2_gather_r2 : List Nat := [2, 3, 74, 77, 78]
abbrev ld_X2_gather_r2 : List (Nat × Nat) := [(2, 0), (74, 2), (74, 3)]
def f_X2_gather_r2_104 (k12 : Int32 → zH → zR) (x2 : Int32) (h : zH) : zR := (zlt (x2 + (1 : Int32)) fun y5 => (k12 y5 h))
def f_X2_gather_r2_50 (k12 : Int32 → zH → zR) (x2 : Int32) (x3 : Int32) (s0 : Int32) (h : zH) : zR := (if s0 < (8 : Int32) then (if x3 = 0 then (zck (h 74 6) 8 (zst (zup h 78 (Int32.toNatClampNeg (h 74 6)) x2) fun h3 => (zst (zup h3 74 6 ((h3 74 6) + (1 : Int32))) fun h4 => (f_X2_gather_r2_104 k12 x2 h4)))) else (zck (h 74 5) 8 (zst (zup h 77 (Int32.toNatClampNeg (h 74 5)) x2) fun h6 => (zst (zup h6 74 5 ((h6 74 5) + (1 : Int32))) fun h7 => (f_X2_gather_r2_104 k12 x2 h7))))) else (some ((0 : Int32), h)))
def f_X2_gather_r2_34 (k12 : Int32 → zH → zR) (x2 : Int32) (s0 : Int32) (h : zH) : zR := (if s0 = 0 then (f_X2_gather_r2_50 k12 x2 s0 (h 74 6) h) else (f_X2_gather_r2_50 k12 x2 s0 (h 74 5) h))
def f_X2_gather_r2_12  : Nat → Int32 → zH → zR
  | 0 => fun _ _ => none
  | n + 1 => fun x2 h => (if (h 2 4) ≤ x2 then (some ((1 : Int32), h)) else (zck x2 16 (if (h 3 (Int32.toNatClampNeg x2)) = 0 then (f_X2_gather_r2_34 (f_X2_gather_r2_12  n) x2 (1 : Int32) h) else (f_X2_gather_r2_34 (f_X2_gather_r2_12  n) x2 (0 : Int32) h))))
def f_X2_gather_r2  (h : zH) : zR := (zst (zup h 74 5 (0 : Int32)) fun h1 => (zst (zup h1 74 6 (0 : Int32)) fun h2 => (f_X2_gather_r2_12  zN (0 : Int32) h2)))
variable {p : Program} {l : Launch} {e : Env} {s : State} {m : MethodId} {args : Array Value} {below : List Frame} {meth : Method} {c : Code} {G : zG} {q : Int32 × zH}
set_option maxHeartbeats 4000000 in
set_option maxRecDepth 100000 in
theorem w_X2_gather_r2_104 {k12 : Int32 → zH → zR} (C : zC G p s m args meth c cX2_gather 4 RX2 (some .boolean)) (hm : ∀ c ∈ nd_X2_gather_r2, c ∈ znm G) (hk : ∀ q ∈ ld_X2_gather_r2, zlk G q.1 q.2 = true) (hk12 : ∀ (ls : Array Slot) (H : Heap) (locs : List Loc) (h : zH) (x2 : Int32), lv_has ls 4 [(0, .ref (zal G 74)), (1, .ref (zal G 2)), (2, .int x2)] → zS G h s.heap H locs → k12 x2 h = some q → W p l e (zrm (2)) s m args below meth c H locs 0 0 (MQ below (zQI G q.2 q.1) args s 0 0 (zA G)) (F0 m 12 ls [])) : ∀ (ls : Array Slot) (H : Heap) (locs : List Loc) (h : zH) (x2 : Int32), lv_has ls 4 [(0, .ref (zal G 74)), (1, .ref (zal G 2)), (2, .int x2)] → zS G h s.heap H locs → f_X2_gather_r2_104 k12 x2 h = some q → W p l e (zrm (2)) s m args below meth c H locs 0 0 (MQ below (zQI G q.2 q.1) args s 0 0 (zA G)) (F0 m 104 ls []) := by
  intro ls H locs h x2 hl hS hf
  unfold f_X2_gather_r2_104 at hf
  obtain ⟨y5, ey5, hf⟩ := zlt_some hf
  refine lv_iinc (v := y5) (lv' := [(2, .int y5), (0, .ref (zal G 74)), (1, .ref (zal G 2))]) C.1 C.2.1 dX2_gather_104 hl (k := 2) rfl ey5.symm (by decide) rfl (fun ls hl => ?_)
  refine lv_goto (tgt := 12) C.1 C.2.1 dX2_gather_107 (by decide) ?_
  exact hk12 _ _ _ _ _ (lv_sub hl [1, 2, 0] rfl) hS hf
set_option maxHeartbeats 4000000 in
set_option maxRecDepth 100000 in
theorem w_X2_gather_r2_50 {k12 : Int32 → zH → zR} (C : zC G p s m args meth c cX2_gather 4 RX2 (some .boolean)) (hm : ∀ c ∈ nd_X2_gather_r2, c ∈ znm G) (hk : ∀ q ∈ ld_X2_gather_r2, zlk G q.1 q.2 = true) (hk12 : ∀ (ls : Array Slot) (H : Heap) (locs : List Loc) (h : zH) (x2 : Int32), lv_has ls 4 [(0, .ref (zal G 74)), (1, .ref (zal G 2)), (2, .int x2)] → zS G h s.heap H locs → k12 x2 h = some q → W p l e (zrm (2)) s m args below meth c H locs 0 0 (MQ below (zQI G q.2 q.1) args s 0 0 (zA G)) (F0 m 12 ls [])) : ∀ (ls : Array Slot) (H : Heap) (locs : List Loc) (h : zH) (x2 : Int32) (x3 : Int32) (s0 : Int32), lv_has ls 4 [(0, .ref (zal G 74)), (1, .ref (zal G 2)), (2, .int x2), (3, .int x3)] → zS G h s.heap H locs → f_X2_gather_r2_50 k12 x2 x3 s0 h = some q → W p l e (zrm (2)) s m args below meth c H locs 0 0 (MQ below (zQI G q.2 q.1) args s 0 0 (zA G)) (F0 m 50 ls [.int s0]) := by
  intro ls H locs h x2 x3 s0 hl hS hf
  unfold f_X2_gather_r2_50 at hf
  refine lv_bipush (v := (8 : Int32)) C.1 C.2.1 dX2_gather_50 rfl ?_
  refine lv_icmp_lt (tgt := 57) C.1 C.2.1 dX2_gather_52 (by decide) (fun hc => ?_) (fun hc => ?_)
  · have hf := zif_t hc hf
    refine lv_iload_n C.1 C.2.1 dX2_gather_57 rfl (lv_at hl 3 rfl) ?_
    refine lv_if_eq (tgt := 84) C.1 C.2.1 dX2_gather_58 (by decide) (fun hc => ?_) (fun hc => ?_)
    · have hf := zif_t hc hf
      refine lv_aload_n C.1 C.2.1 dX2_gather_84 rfl (lv_at hl 0 rfl) ?_
      refine zgetR C hS ff_X2_21_74 (hm 74 (by decide)) (hk (74, 3) (by decide)) dX2_gather_85 ?_
      refine lv_aload_n C.1 C.2.1 dX2_gather_88 rfl (lv_at hl 0 rfl) ?_
      refine zgetI C hS ff_X2_41_74 (hm 74 (by decide)) dX2_gather_89 ?_
      refine lv_iload_n C.1 C.2.1 dX2_gather_92 rfl (lv_at hl 2 rfl) ?_
      obtain ⟨hi, hf⟩ := zck_some hf
      refine zast C hS sh_78 (hm 78 (by decide)) hi dX2_gather_93 (fun H locs hS => ?_)
      obtain ⟨h3, eh3, hf⟩ := zst_some hf
      have hS : zS G h3 s.heap H locs := by rw [eh3]; exact hS
      refine lv_aload_n C.1 C.2.1 dX2_gather_94 rfl (lv_at hl 0 rfl) ?_
      refine lv_dup C.1 C.2.1 dX2_gather_95 rfl ?_
      refine zgetI C hS ff_X2_41_74 (hm 74 (by decide)) dX2_gather_96 ?_
      refine lv_iconst (v := (1 : Int32)) C.1 C.2.1 dX2_gather_99 rfl ?_
      refine lv_iadd C.1 C.2.1 dX2_gather_100 ?_
      refine zputI C hS ff_X2_41_74 fw_74_6 (hm 74 (by decide)) dX2_gather_101 (fun H locs hS => ?_)
      obtain ⟨h4, eh4, hf⟩ := zst_some hf
      have hS : zS G h4 s.heap H locs := by rw [eh4]; exact hS
      exact w_X2_gather_r2_104 C hm hk hk12 _ _ _ _ _ (lv_sub hl [0, 1, 2] rfl) hS hf
    · have hf := zif_f hc hf
      refine lv_aload_n C.1 C.2.1 dX2_gather_61 rfl (lv_at hl 0 rfl) ?_
      refine zgetR C hS ff_X2_18_74 (hm 74 (by decide)) (hk (74, 2) (by decide)) dX2_gather_62 ?_
      refine lv_aload_n C.1 C.2.1 dX2_gather_65 rfl (lv_at hl 0 rfl) ?_
      refine zgetI C hS ff_X2_37_74 (hm 74 (by decide)) dX2_gather_66 ?_
      refine lv_iload_n C.1 C.2.1 dX2_gather_69 rfl (lv_at hl 2 rfl) ?_
      obtain ⟨hi, hf⟩ := zck_some hf
      refine zast C hS sh_77 (hm 77 (by decide)) hi dX2_gather_70 (fun H locs hS => ?_)
      obtain ⟨h6, eh6, hf⟩ := zst_some hf
      have hS : zS G h6 s.heap H locs := by rw [eh6]; exact hS
      refine lv_aload_n C.1 C.2.1 dX2_gather_71 rfl (lv_at hl 0 rfl) ?_
      refine lv_dup C.1 C.2.1 dX2_gather_72 rfl ?_
      refine zgetI C hS ff_X2_37_74 (hm 74 (by decide)) dX2_gather_73 ?_
      refine lv_iconst (v := (1 : Int32)) C.1 C.2.1 dX2_gather_76 rfl ?_
      refine lv_iadd C.1 C.2.1 dX2_gather_77 ?_
      refine zputI C hS ff_X2_37_74 fw_74_5 (hm 74 (by decide)) dX2_gather_78 (fun H locs hS => ?_)
      obtain ⟨h7, eh7, hf⟩ := zst_some hf
      have hS : zS G h7 s.heap H locs := by rw [eh7]; exact hS
      refine lv_goto (tgt := 104) C.1 C.2.1 dX2_gather_81 (by decide) ?_
      exact w_X2_gather_r2_104 C hm hk hk12 _ _ _ _ _ (lv_sub hl [0, 1, 2] rfl) hS hf
  · have hf := zif_f hc hf
    refine lv_iconst (v := (0 : Int32)) C.1 C.2.1 dX2_gather_55 rfl ?_
    exact zretZ C hS rfl hf dX2_gather_56
set_option maxHeartbeats 4000000 in
set_option maxRecDepth 100000 in
theorem w_X2_gather_r2_34 {k12 : Int32 → zH → zR} (C : zC G p s m args meth c cX2_gather 4 RX2 (some .boolean)) (hm : ∀ c ∈ nd_X2_gather_r2, c ∈ znm G) (hk : ∀ q ∈ ld_X2_gather_r2, zlk G q.1 q.2 = true) (hk12 : ∀ (ls : Array Slot) (H : Heap) (locs : List Loc) (h : zH) (x2 : Int32), lv_has ls 4 [(0, .ref (zal G 74)), (1, .ref (zal G 2)), (2, .int x2)] → zS G h s.heap H locs → k12 x2 h = some q → W p l e (zrm (2)) s m args below meth c H locs 0 0 (MQ below (zQI G q.2 q.1) args s 0 0 (zA G)) (F0 m 12 ls [])) : ∀ (ls : Array Slot) (H : Heap) (locs : List Loc) (h : zH) (x2 : Int32) (s0 : Int32), lv_has ls 4 [(0, .ref (zal G 74)), (1, .ref (zal G 2)), (2, .int x2)] → zS G h s.heap H locs → f_X2_gather_r2_34 k12 x2 s0 h = some q → W p l e (zrm (2)) s m args below meth c H locs 0 0 (MQ below (zQI G q.2 q.1) args s 0 0 (zA G)) (F0 m 34 ls [.int s0]) := by
  intro ls H locs h x2 s0 hl hS hf
  unfold f_X2_gather_r2_34 at hf
  refine lv_istore_n (lv' := [(3, .int s0), (0, .ref (zal G 74)), (1, .ref (zal G 2)), (2, .int x2)]) C.1 C.2.1 dX2_gather_34 rfl hl (by decide) rfl (fun ls hl => ?_)
  refine lv_iload_n C.1 C.2.1 dX2_gather_35 rfl (lv_at hl 0 rfl) ?_
  refine lv_if_eq (tgt := 46) C.1 C.2.1 dX2_gather_36 (by decide) (fun hc => ?_) (fun hc => ?_)
  · have hf := zif_t hc hf
    refine lv_aload_n C.1 C.2.1 dX2_gather_46 rfl (lv_at hl 1 rfl) ?_
    refine zgetI C hS ff_X2_41_74 (hm 74 (by decide)) dX2_gather_47 ?_
    exact w_X2_gather_r2_50 C hm hk hk12 _ _ _ _ _ _ _ (lv_sub hl [1, 2, 3, 0] rfl) hS hf
  · have hf := zif_f hc hf
    refine lv_aload_n C.1 C.2.1 dX2_gather_39 rfl (lv_at hl 1 rfl) ?_
    refine zgetI C hS ff_X2_37_74 (hm 74 (by decide)) dX2_gather_40 ?_
    refine lv_goto (tgt := 50) C.1 C.2.1 dX2_gather_43 (by decide) ?_
    exact w_X2_gather_r2_50 C hm hk hk12 _ _ _ _ _ _ _ (lv_sub hl [1, 2, 3, 0] rfl) hS hf
set_option maxHeartbeats 4000000 in
set_option maxRecDepth 100000 in
theorem w_X2_gather_r2_12  (C : zC G p s m args meth c cX2_gather 4 RX2 (some .boolean)) (hm : ∀ c ∈ nd_X2_gather_r2, c ∈ znm G) (hk : ∀ q ∈ ld_X2_gather_r2, zlk G q.1 q.2 = true)  : ∀ n, ∀ (ls : Array Slot) (H : Heap) (locs : List Loc) (h : zH) (x2 : Int32), lv_has ls 4 [(0, .ref (zal G 74)), (1, .ref (zal G 2)), (2, .int x2)] → zS G h s.heap H locs → f_X2_gather_r2_12  n x2 h = some q → W p l e (zrm (2)) s m args below meth c H locs 0 0 (MQ below (zQI G q.2 q.1) args s 0 0 (zA G)) (F0 m 12 ls []) := by
  intro n
  induction n with
  | zero => intro ls H locs h x2 hl hS hf; cases hf
  | succ n ih =>
    intro ls H locs h x2 hl hS hf
    rw [f_X2_gather_r2_12] at hf
    refine lv_iload_n C.1 C.2.1 dX2_gather_12 rfl (lv_at hl 2 rfl) ?_
    refine lv_aload_n C.1 C.2.1 dX2_gather_13 rfl (lv_at hl 1 rfl) ?_
    refine zgetI C hS ff_X2_59_2 (hm 2 (by decide)) dX2_gather_14 ?_
    refine lv_icmp_ge (tgt := 110) C.1 C.2.1 dX2_gather_17 (by decide) (fun hc => ?_) (fun hc => ?_)
    · have hf := zif_t hc hf
      refine lv_iconst (v := (1 : Int32)) C.1 C.2.1 dX2_gather_110 rfl ?_
      exact zretZ C hS rfl hf dX2_gather_111
    · have hf := zif_f hc hf
      refine lv_aload_n C.1 C.2.1 dX2_gather_20 rfl (lv_at hl 1 rfl) ?_
      refine zgetR C hS ff_X2_64_2 (hm 2 (by decide)) (hk (2, 0) (by decide)) dX2_gather_21 ?_
      refine lv_iload_n C.1 C.2.1 dX2_gather_24 rfl (lv_at hl 2 rfl) ?_
      obtain ⟨hi, hf⟩ := zck_some hf
      refine zald C hS sh_3 (hm 3 (by decide)) hi dX2_gather_25 ?_
      refine lv_if_ne (tgt := 33) C.1 C.2.1 dX2_gather_26 (by decide) (fun hc => ?_) (fun hc => ?_)
      · have hf := zif_f hc hf
        refine lv_iconst (v := (0 : Int32)) C.1 C.2.1 dX2_gather_33 rfl ?_
        exact w_X2_gather_r2_34 C hm hk ih _ _ _ _ _ _ (lv_sub hl [0, 1, 2] rfl) hS hf
      · have hf := zif_t hc hf
        refine lv_iconst (v := (1 : Int32)) C.1 C.2.1 dX2_gather_29 rfl ?_
        refine lv_goto (tgt := 34) C.1 C.2.1 dX2_gather_30 (by decide) ?_
        exact w_X2_gather_r2_34 C hm hk ih _ _ _ _ _ _ (lv_sub hl [0, 1, 2] rfl) hS hf
set_option maxHeartbeats 4000000 in
set_option maxRecDepth 100000 in
theorem c_X2_gather_r2 (l : Launch) (G : zG) (h : zH) (q : Int32 × zH) (hm : ∀ c ∈ nd_X2_gather_r2, c ∈ znm G) (hk : ∀ q ∈ ld_X2_gather_r2, zlk G q.1 q.2 = true) (hf : f_X2_gather_r2 h = some q) : zCtI l yX2_gather cX2_gather 4 (some .boolean) (2) [.ref (zal G 74), .ref (zal G 2)] G h q.2 q.1 := by
  refine zMetI (by decide) (Nat.le_of_ble_eq_true rfl) ?_
  intro p e s m below meth c ls C hl hS
  have hl : lv_has ls 4 [(0, .ref (zal G 74)), (1, .ref (zal G 2))] := hl
  have C : zC G p s m [.ref (zal G 74), .ref (zal G 2)].toArray meth c cX2_gather 4 RX2 (some .boolean) := C
  unfold f_X2_gather_r2 at hf
  refine lv_aload_n C.1 C.2.1 dX2_gather_0 rfl (lv_at hl 0 rfl) ?_
  refine lv_iconst (v := (0 : Int32)) C.1 C.2.1 dX2_gather_1 rfl ?_
  refine zputI C hS ff_X2_37_74 fw_74_5 (hm 74 (by decide)) dX2_gather_2 (fun H locs hS => ?_)
  obtain ⟨h1, eh1, hf⟩ := zst_some hf
  have hS : zS G h1 s.heap H locs := by rw [eh1]; exact hS
  refine lv_aload_n C.1 C.2.1 dX2_gather_5 rfl (lv_at hl 0 rfl) ?_
  refine lv_iconst (v := (0 : Int32)) C.1 C.2.1 dX2_gather_6 rfl ?_
  refine zputI C hS ff_X2_41_74 fw_74_6 (hm 74 (by decide)) dX2_gather_7 (fun H locs hS => ?_)
  obtain ⟨h2, eh2, hf⟩ := zst_some hf
  have hS : zS G h2 s.heap H locs := by rw [eh2]; exact hS
  refine lv_iconst (v := (0 : Int32)) C.1 C.2.1 dX2_gather_10 rfl ?_
  refine lv_istore_n (lv' := [(2, .int (0 : Int32)), (0, .ref (zal G 74)), (1, .ref (zal G 2))]) C.1 C.2.1 dX2_gather_11 rfl hl (by decide) rfl (fun ls hl => ?_)
  exact w_X2_gather_r2_12 C hm hk  zN _ _ _ _ _ (lv_sub hl [1, 2, 0] rfl) hS hf
end
section
theorem dX2_sumWith_0 : decode cX2_sumWith 0 = .ok (.aload_n 0, 1) := by decide +kernel
theorem dX2_sumWith_1 : decode cX2_sumWith 1 = .ok (.getfield 15, 3) := by decide +kernel
theorem dX2_sumWith_4 : decode cX2_sumWith 4 = .ok (.iload_n 1, 1) := by decide +kernel
theorem dX2_sumWith_5 : decode cX2_sumWith 5 = .ok (.bipush 8, 2) := by decide +kernel
theorem dX2_sumWith_7 : decode cX2_sumWith 7 = .ok (.imul, 1) := by decide +kernel
theorem dX2_sumWith_8 : decode cX2_sumWith 8 = .ok (.iload_n 2, 1) := by decide +kernel
theorem dX2_sumWith_9 : decode cX2_sumWith 9 = .ok (.iadd, 1) := by decide +kernel
theorem dX2_sumWith_10 : decode cX2_sumWith 10 = .ok (.iaload, 1) := by decide +kernel
theorem dX2_sumWith_11 : decode cX2_sumWith 11 = .ok (.aload_n 0, 1) := by decide +kernel
theorem dX2_sumWith_12 : decode cX2_sumWith 12 = .ok (.getfield 11, 3) := by decide +kernel
theorem dX2_sumWith_15 : decode cX2_sumWith 15 = .ok (.iload_n 1, 1) := by decide +kernel
theorem dX2_sumWith_16 : decode cX2_sumWith 16 = .ok (.iconst 1, 1) := by decide +kernel
theorem dX2_sumWith_17 : decode cX2_sumWith 17 = .ok (.iadd, 1) := by decide +kernel
theorem dX2_sumWith_18 : decode cX2_sumWith 18 = .ok (.sipush 256, 3) := by decide +kernel
theorem dX2_sumWith_21 : decode cX2_sumWith 21 = .ok (.imul, 1) := by decide +kernel
theorem dX2_sumWith_22 : decode cX2_sumWith 22 = .ok (.iload_n 3, 1) := by decide +kernel
theorem dX2_sumWith_23 : decode cX2_sumWith 23 = .ok (.iconst 1, 1) := by decide +kernel
theorem dX2_sumWith_24 : decode cX2_sumWith 24 = .ok (.iload_n 2, 1) := by decide +kernel
theorem dX2_sumWith_25 : decode cX2_sumWith 25 = .ok (.ishl, 1) := by decide +kernel
theorem dX2_sumWith_26 : decode cX2_sumWith 26 = .ok (.iconst (-1), 1) := by decide +kernel
theorem dX2_sumWith_27 : decode cX2_sumWith 27 = .ok (.ixor, 1) := by decide +kernel
theorem dX2_sumWith_28 : decode cX2_sumWith 28 = .ok (.iand, 1) := by decide +kernel
theorem dX2_sumWith_29 : decode cX2_sumWith 29 = .ok (.iadd, 1) := by decide +kernel
theorem dX2_sumWith_30 : decode cX2_sumWith 30 = .ok (.iaload, 1) := by decide +kernel
theorem dX2_sumWith_31 : decode cX2_sumWith 31 = .ok (.iadd, 1) := by decide +kernel
theorem dX2_sumWith_32 : decode cX2_sumWith 32 = .ok (.ireturn, 1) := by decide +kernel
abbrev nd_X2_sumWith : List Nat := [74, 75, 76]
abbrev ld_X2_sumWith : List (Nat × Nat) := [(74, 0), (74, 1)]
def f_X2_sumWith  (x1 : Int32) (x2 : Int32) (x3 : Int32) (h : zH) : zR := (zck ((x1 * (8 : Int32)) + x2) 64 (zck (((x1 + (1 : Int32)) * (256 : Int32)) + (x3 &&& (((1 : Int32) <<< (x2 &&& 31)) ^^^ (-1 : Int32)))) 2304 (some (((h 76 (Int32.toNatClampNeg ((x1 * (8 : Int32)) + x2))) + (h 75 (Int32.toNatClampNeg (((x1 + (1 : Int32)) * (256 : Int32)) + (x3 &&& (((1 : Int32) <<< (x2 &&& 31)) ^^^ (-1 : Int32))))))), h))))
variable {p : Program} {l : Launch} {e : Env} {s : State} {m : MethodId} {args : Array Value} {below : List Frame} {meth : Method} {c : Code} {G : zG} {q : Int32 × zH}
set_option maxHeartbeats 4000000 in
set_option maxRecDepth 100000 in
theorem c_X2_sumWith (l : Launch) (G : zG) (h : zH) (x1 : Int32) (x2 : Int32) (x3 : Int32) (q : Int32 × zH) (hm : ∀ c ∈ nd_X2_sumWith, c ∈ znm G) (hk : ∀ q ∈ ld_X2_sumWith, zlk G q.1 q.2 = true) (hf : f_X2_sumWith x1 x2 x3 h = some q) : zCtI l yX2_sumWith cX2_sumWith 4 (some .int) (2) [.ref (zal G 74), .int x1, .int x2, .int x3] G h q.2 q.1 := by
  refine zMetI (by decide) (Nat.le_of_ble_eq_true rfl) ?_
  intro p e s m below meth c ls C hl hS
  have hl : lv_has ls 4 [(0, .ref (zal G 74)), (1, .int x1), (2, .int x2), (3, .int x3)] := hl
  have C : zC G p s m [.ref (zal G 74), .int x1, .int x2, .int x3].toArray meth c cX2_sumWith 4 RX2 (some .int) := C
  unfold f_X2_sumWith at hf
  refine lv_aload_n C.1 C.2.1 dX2_sumWith_0 rfl (lv_at hl 0 rfl) ?_
  refine zgetR C hS ff_X2_15_74 (hm 74 (by decide)) (hk (74, 1) (by decide)) dX2_sumWith_1 ?_
  refine lv_iload_n C.1 C.2.1 dX2_sumWith_4 rfl (lv_at hl 1 rfl) ?_
  refine lv_bipush (v := (8 : Int32)) C.1 C.2.1 dX2_sumWith_5 rfl ?_
  refine lv_imul C.1 C.2.1 dX2_sumWith_7 ?_
  refine lv_iload_n C.1 C.2.1 dX2_sumWith_8 rfl (lv_at hl 2 rfl) ?_
  refine lv_iadd C.1 C.2.1 dX2_sumWith_9 ?_
  obtain ⟨hi, hf⟩ := zck_some hf
  refine zald C hS sh_76 (hm 76 (by decide)) hi dX2_sumWith_10 ?_
  refine lv_aload_n C.1 C.2.1 dX2_sumWith_11 rfl (lv_at hl 0 rfl) ?_
  refine zgetR C hS ff_X2_11_74 (hm 74 (by decide)) (hk (74, 0) (by decide)) dX2_sumWith_12 ?_
  refine lv_iload_n C.1 C.2.1 dX2_sumWith_15 rfl (lv_at hl 1 rfl) ?_
  refine lv_iconst (v := (1 : Int32)) C.1 C.2.1 dX2_sumWith_16 rfl ?_
  refine lv_iadd C.1 C.2.1 dX2_sumWith_17 ?_
  refine lv_sipush (v := (256 : Int32)) C.1 C.2.1 dX2_sumWith_18 rfl ?_
  refine lv_imul C.1 C.2.1 dX2_sumWith_21 ?_
  refine lv_iload_n C.1 C.2.1 dX2_sumWith_22 rfl (lv_at hl 3 rfl) ?_
  refine lv_iconst (v := (1 : Int32)) C.1 C.2.1 dX2_sumWith_23 rfl ?_
  refine lv_iload_n C.1 C.2.1 dX2_sumWith_24 rfl (lv_at hl 2 rfl) ?_
  refine lv_ishl C.1 C.2.1 dX2_sumWith_25 ?_
  refine lv_iconst (v := (-1 : Int32)) C.1 C.2.1 dX2_sumWith_26 rfl ?_
  refine lv_ixor C.1 C.2.1 dX2_sumWith_27 ?_
  refine lv_iand C.1 C.2.1 dX2_sumWith_28 ?_
  refine lv_iadd C.1 C.2.1 dX2_sumWith_29 ?_
  obtain ⟨hi, hf⟩ := zck_some hf
  refine zald C hS sh_75 (hm 75 (by decide)) hi dX2_sumWith_30 ?_
  refine lv_iadd C.1 C.2.1 dX2_sumWith_31 ?_
  exact zretI C hS hf dX2_sumWith_32
end
section
theorem dX2_leastPartner_0 : decode cX2_leastPartner 0 = .ok (.iconst 0, 1) := by decide +kernel
theorem dX2_leastPartner_1 : decode cX2_leastPartner 1 = .ok (.istore_n 3, 1) := by decide +kernel
theorem dX2_leastPartner_2 : decode cX2_leastPartner 2 = .ok (.iload_n 3, 1) := by decide +kernel
theorem dX2_leastPartner_3 : decode cX2_leastPartner 3 = .ok (.aload_n 0, 1) := by decide +kernel
theorem dX2_leastPartner_4 : decode cX2_leastPartner 4 = .ok (.getfield 41, 3) := by decide +kernel
theorem dX2_leastPartner_7 : decode cX2_leastPartner 7 = .ok (.if_icmp .ge 41, 3) := by decide +kernel
theorem dX2_leastPartner_10 : decode cX2_leastPartner 10 = .ok (.iload_n 3, 1) := by decide +kernel
theorem dX2_leastPartner_11 : decode cX2_leastPartner 11 = .ok (.iload_n 2, 1) := by decide +kernel
theorem dX2_leastPartner_12 : decode cX2_leastPartner 12 = .ok (.invokestatic 67, 3) := by decide +kernel
theorem dX2_leastPartner_15 : decode cX2_leastPartner 15 = .ok (.ifCond .eq 27, 3) := by decide +kernel
theorem dX2_leastPartner_18 : decode cX2_leastPartner 18 = .ok (.aload_n 0, 1) := by decide +kernel
theorem dX2_leastPartner_19 : decode cX2_leastPartner 19 = .ok (.iload_n 1, 1) := by decide +kernel
theorem dX2_leastPartner_20 : decode cX2_leastPartner 20 = .ok (.iload_n 3, 1) := by decide +kernel
theorem dX2_leastPartner_21 : decode cX2_leastPartner 21 = .ok (.iload_n 2, 1) := by decide +kernel
theorem dX2_leastPartner_22 : decode cX2_leastPartner 22 = .ok (.invokevirtual 71, 3) := by decide +kernel
theorem dX2_leastPartner_25 : decode cX2_leastPartner 25 = .ok (.aload_n 0, 1) := by decide +kernel
theorem dX2_leastPartner_26 : decode cX2_leastPartner 26 = .ok (.getfield 11, 3) := by decide +kernel
theorem dX2_leastPartner_29 : decode cX2_leastPartner 29 = .ok (.iload_n 1, 1) := by decide +kernel
theorem dX2_leastPartner_30 : decode cX2_leastPartner 30 = .ok (.sipush 256, 3) := by decide +kernel
theorem dX2_leastPartner_33 : decode cX2_leastPartner 33 = .ok (.imul, 1) := by decide +kernel
theorem dX2_leastPartner_34 : decode cX2_leastPartner 34 = .ok (.iload_n 2, 1) := by decide +kernel
theorem dX2_leastPartner_35 : decode cX2_leastPartner 35 = .ok (.iadd, 1) := by decide +kernel
theorem dX2_leastPartner_36 : decode cX2_leastPartner 36 = .ok (.iaload, 1) := by decide +kernel
theorem dX2_leastPartner_37 : decode cX2_leastPartner 37 = .ok (.if_icmp .ne 5, 3) := by decide +kernel
theorem dX2_leastPartner_40 : decode cX2_leastPartner 40 = .ok (.iload_n 3, 1) := by decide +kernel
theorem dX2_leastPartner_41 : decode cX2_leastPartner 41 = .ok (.ireturn, 1) := by decide +kernel
theorem dX2_leastPartner_42 : decode cX2_leastPartner 42 = .ok (.iinc 3 1, 3) := by decide +kernel
theorem dX2_leastPartner_45 : decode cX2_leastPartner 45 = .ok (.goto (-43), 3) := by decide +kernel
theorem dX2_leastPartner_48 : decode cX2_leastPartner 48 = .ok (.iconst (-1), 1) := by decide +kernel
theorem dX2_leastPartner_49 : decode cX2_leastPartner 49 = .ok (.ireturn, 1) := by decide +kernel
abbrev nd_X2_leastPartner : List Nat := [74, 75, 76]
abbrev ld_X2_leastPartner : List (Nat × Nat) := [(74, 0), (74, 1)]
theorem sn_X2_leastPartner_X11_isIn : ∀ c ∈ nd_X11_isIn, c ∈ nd_X2_leastPartner := by decide
theorem sl_X2_leastPartner_X11_isIn : ∀ q ∈ ld_X11_isIn, q ∈ ld_X2_leastPartner := by decide
theorem sn_X2_leastPartner_X2_sumWith : ∀ c ∈ nd_X2_sumWith, c ∈ nd_X2_leastPartner := by decide
theorem sl_X2_leastPartner_X2_sumWith : ∀ q ∈ ld_X2_sumWith, q ∈ ld_X2_leastPartner := by decide
def f_X2_leastPartner_42 (k2 : Int32 → Int32 → Int32 → zH → zR) (x1 : Int32) (x2 : Int32) (x3 : Int32) (h : zH) : zR := (zlt (x3 + (1 : Int32)) fun y3 => (k2 x1 x2 y3 h))
def f_X2_leastPartner_2  : Nat → Int32 → Int32 → Int32 → zH → zR
  | 0 => fun _ _ _ _ => none
  | n + 1 => fun x1 x2 x3 h => (if (h 74 6) ≤ x3 then (some ((-1 : Int32), h)) else (zbd (f_X11_isIn x3 x2 h) fun r1 h2 => (if r1 = 0 then (f_X2_leastPartner_42 (f_X2_leastPartner_2  n) x1 x2 x3 h2) else (zbd (f_X2_sumWith x1 x3 x2 h2) fun r4 h5 => (zck ((x1 * (256 : Int32)) + x2) 2304 (if r4 = (h5 75 (Int32.toNatClampNeg ((x1 * (256 : Int32)) + x2))) then (some (x3, h5)) else (f_X2_leastPartner_42 (f_X2_leastPartner_2  n) x1 x2 x3 h5)))))))
def f_X2_leastPartner  (x1 : Int32) (x2 : Int32) (h : zH) : zR := (f_X2_leastPartner_2  zN x1 x2 (0 : Int32) h)
variable {p : Program} {l : Launch} {e : Env} {s : State} {m : MethodId} {args : Array Value} {below : List Frame} {meth : Method} {c : Code} {G : zG} {q : Int32 × zH}
set_option maxHeartbeats 4000000 in
set_option maxRecDepth 100000 in
theorem w_X2_leastPartner_42 {k2 : Int32 → Int32 → Int32 → zH → zR} (C : zC G p s m args meth c cX2_leastPartner 4 RX2 (some .int)) (hm : ∀ c ∈ nd_X2_leastPartner, c ∈ znm G) (hk : ∀ q ∈ ld_X2_leastPartner, zlk G q.1 q.2 = true) (hk2 : ∀ (ls : Array Slot) (H : Heap) (locs : List Loc) (h : zH) (x1 : Int32) (x2 : Int32) (x3 : Int32), lv_has ls 4 [(0, .ref (zal G 74)), (1, .int x1), (2, .int x2), (3, .int x3)] → zS G h s.heap H locs → k2 x1 x2 x3 h = some q → W p l e (zrm (3)) s m args below meth c H locs 0 0 (MQ below (zQI G q.2 q.1) args s 0 0 (zA G)) (F0 m 2 ls [])) : ∀ (ls : Array Slot) (H : Heap) (locs : List Loc) (h : zH) (x1 : Int32) (x2 : Int32) (x3 : Int32), lv_has ls 4 [(0, .ref (zal G 74)), (1, .int x1), (2, .int x2), (3, .int x3)] → zS G h s.heap H locs → f_X2_leastPartner_42 k2 x1 x2 x3 h = some q → W p l e (zrm (3)) s m args below meth c H locs 0 0 (MQ below (zQI G q.2 q.1) args s 0 0 (zA G)) (F0 m 42 ls []) := by
  intro ls H locs h x1 x2 x3 hl hS hf
  unfold f_X2_leastPartner_42 at hf
  obtain ⟨y3, ey3, hf⟩ := zlt_some hf
  refine lv_iinc (v := y3) (lv' := [(3, .int y3), (0, .ref (zal G 74)), (1, .int x1), (2, .int x2)]) C.1 C.2.1 dX2_leastPartner_42 hl (k := 3) rfl ey3.symm (by decide) rfl (fun ls hl => ?_)
  refine lv_goto (tgt := 2) C.1 C.2.1 dX2_leastPartner_45 (by decide) ?_
  exact hk2 _ _ _ _ _ _ _ (lv_sub hl [1, 2, 3, 0] rfl) hS hf
set_option maxHeartbeats 4000000 in
set_option maxRecDepth 100000 in
theorem w_X2_leastPartner_2  (C : zC G p s m args meth c cX2_leastPartner 4 RX2 (some .int)) (hm : ∀ c ∈ nd_X2_leastPartner, c ∈ znm G) (hk : ∀ q ∈ ld_X2_leastPartner, zlk G q.1 q.2 = true)  : ∀ n, ∀ (ls : Array Slot) (H : Heap) (locs : List Loc) (h : zH) (x1 : Int32) (x2 : Int32) (x3 : Int32), lv_has ls 4 [(0, .ref (zal G 74)), (1, .int x1), (2, .int x2), (3, .int x3)] → zS G h s.heap H locs → f_X2_leastPartner_2  n x1 x2 x3 h = some q → W p l e (zrm (3)) s m args below meth c H locs 0 0 (MQ below (zQI G q.2 q.1) args s 0 0 (zA G)) (F0 m 2 ls []) := by
  intro n
  induction n with
  | zero => intro ls H locs h x1 x2 x3 hl hS hf; cases hf
  | succ n ih =>
    intro ls H locs h x1 x2 x3 hl hS hf
    rw [f_X2_leastPartner_2] at hf
    refine lv_iload_n C.1 C.2.1 dX2_leastPartner_2 rfl (lv_at hl 3 rfl) ?_
    refine lv_aload_n C.1 C.2.1 dX2_leastPartner_3 rfl (lv_at hl 0 rfl) ?_
    refine zgetI C hS ff_X2_41_74 (hm 74 (by decide)) dX2_leastPartner_4 ?_
    refine lv_icmp_ge (tgt := 48) C.1 C.2.1 dX2_leastPartner_7 (by decide) (fun hc => ?_) (fun hc => ?_)
    · have hf := zif_t hc hf
      refine lv_iconst (v := (-1 : Int32)) C.1 C.2.1 dX2_leastPartner_48 rfl ?_
      exact zretI C hS hf dX2_leastPartner_49
    · have hf := zif_f hc hf
      refine lv_iload_n C.1 C.2.1 dX2_leastPartner_10 rfl (lv_at hl 3 rfl) ?_
      refine lv_iload_n C.1 C.2.1 dX2_leastPartner_11 rfl (lv_at hl 2 rfl) ?_
      obtain ⟨r1, h2, er1, hf⟩ := zbd_some hf
      refine zcallNI (As := [.int x3, .int x2]) (rest := []) C hS mn_X2_67 (c_X11_isIn l G h x3 x2 (r1, h2) (fun c h => hm c (sn_X2_leastPartner_X11_isIn c h)) (fun q h => hk q (sl_X2_leastPartner_X11_isIn q h)) er1) rfl rfl (Nat.le_of_ble_eq_true rfl) hl.1 ⟨Nat.le_of_ble_eq_true rfl, Nat.le_of_ble_eq_true rfl, Nat.le_of_ble_eq_true rfl, Nat.le_of_ble_eq_true rfl⟩ dX2_leastPartner_12 (fun H locs hS => ?_)
      refine lv_if_eq (tgt := 42) C.1 C.2.1 dX2_leastPartner_15 (by decide) (fun hc => ?_) (fun hc => ?_)
      · have hf := zif_t hc hf
        exact w_X2_leastPartner_42 C hm hk ih _ _ _ _ _ _ _ (lv_sub hl [0, 1, 2, 3] rfl) hS hf
      · have hf := zif_f hc hf
        refine lv_aload_n C.1 C.2.1 dX2_leastPartner_18 rfl (lv_at hl 0 rfl) ?_
        refine lv_iload_n C.1 C.2.1 dX2_leastPartner_19 rfl (lv_at hl 1 rfl) ?_
        refine lv_iload_n C.1 C.2.1 dX2_leastPartner_20 rfl (lv_at hl 3 rfl) ?_
        refine lv_iload_n C.1 C.2.1 dX2_leastPartner_21 rfl (lv_at hl 2 rfl) ?_
        obtain ⟨r4, h5, er4, hf⟩ := zbd_some hf
        refine zcallVI (As := [.int x1, .int x3, .int x2]) (rest := []) C hS mv_X2_71 (c_X2_sumWith l G h2 x1 x3 x2 (r4, h5) (fun c h => hm c (sn_X2_leastPartner_X2_sumWith c h)) (fun q h => hk q (sl_X2_leastPartner_X2_sumWith q h)) er4) (hm 74 (by decide)) ⟨_, _, _, sh_74, rfl, rfl⟩ rfl rfl (Nat.le_of_ble_eq_true rfl) hl.1 ⟨Nat.le_of_ble_eq_true rfl, Nat.le_of_ble_eq_true rfl, Nat.le_of_ble_eq_true rfl, Nat.le_of_ble_eq_true rfl⟩ dX2_leastPartner_22 (fun H locs hS => ?_)
        refine lv_aload_n C.1 C.2.1 dX2_leastPartner_25 rfl (lv_at hl 0 rfl) ?_
        refine zgetR C hS ff_X2_11_74 (hm 74 (by decide)) (hk (74, 0) (by decide)) dX2_leastPartner_26 ?_
        refine lv_iload_n C.1 C.2.1 dX2_leastPartner_29 rfl (lv_at hl 1 rfl) ?_
        refine lv_sipush (v := (256 : Int32)) C.1 C.2.1 dX2_leastPartner_30 rfl ?_
        refine lv_imul C.1 C.2.1 dX2_leastPartner_33 ?_
        refine lv_iload_n C.1 C.2.1 dX2_leastPartner_34 rfl (lv_at hl 2 rfl) ?_
        refine lv_iadd C.1 C.2.1 dX2_leastPartner_35 ?_
        obtain ⟨hi, hf⟩ := zck_some hf
        refine zald C hS sh_75 (hm 75 (by decide)) hi dX2_leastPartner_36 ?_
        refine lv_icmp_ne (tgt := 42) C.1 C.2.1 dX2_leastPartner_37 (by decide) (fun hc => ?_) (fun hc => ?_)
        · have hf := zif_f hc hf
          exact w_X2_leastPartner_42 C hm hk ih _ _ _ _ _ _ _ (lv_sub hl [0, 1, 2, 3] rfl) hS hf
        · have hf := zif_t hc hf
          refine lv_iload_n C.1 C.2.1 dX2_leastPartner_40 rfl (lv_at hl 3 rfl) ?_
          exact zretI C hS hf dX2_leastPartner_41
set_option maxHeartbeats 4000000 in
set_option maxRecDepth 100000 in
theorem c_X2_leastPartner (l : Launch) (G : zG) (h : zH) (x1 : Int32) (x2 : Int32) (q : Int32 × zH) (hm : ∀ c ∈ nd_X2_leastPartner, c ∈ znm G) (hk : ∀ q ∈ ld_X2_leastPartner, zlk G q.1 q.2 = true) (hf : f_X2_leastPartner x1 x2 h = some q) : zCtI l yX2_leastPartner cX2_leastPartner 4 (some .int) (3) [.ref (zal G 74), .int x1, .int x2] G h q.2 q.1 := by
  refine zMetI (by decide) (Nat.le_of_ble_eq_true rfl) ?_
  intro p e s m below meth c ls C hl hS
  have hl : lv_has ls 4 [(0, .ref (zal G 74)), (1, .int x1), (2, .int x2)] := hl
  have C : zC G p s m [.ref (zal G 74), .int x1, .int x2].toArray meth c cX2_leastPartner 4 RX2 (some .int) := C
  unfold f_X2_leastPartner at hf
  refine lv_iconst (v := (0 : Int32)) C.1 C.2.1 dX2_leastPartner_0 rfl ?_
  refine lv_istore_n (lv' := [(3, .int (0 : Int32)), (0, .ref (zal G 74)), (1, .int x1), (2, .int x2)]) C.1 C.2.1 dX2_leastPartner_1 rfl hl (by decide) rfl (fun ls hl => ?_)
  exact w_X2_leastPartner_2 C hm hk  zN _ _ _ _ _ _ _ (lv_sub hl [1, 2, 3, 0] rfl) hS hf
end
section
theorem dX2_choose_0 : decode cX2_choose 0 = .ok (.iconst 0, 1) := by decide +kernel
theorem dX2_choose_1 : decode cX2_choose 1 = .ok (.istore_n 2, 1) := by decide +kernel
theorem dX2_choose_2 : decode cX2_choose 2 = .ok (.iload_n 2, 1) := by decide +kernel
theorem dX2_choose_3 : decode cX2_choose 3 = .ok (.bipush 16, 2) := by decide +kernel
theorem dX2_choose_5 : decode cX2_choose 5 = .ok (.if_icmp .ge 16, 3) := by decide +kernel
theorem dX2_choose_8 : decode cX2_choose 8 = .ok (.aload_n 0, 1) := by decide +kernel
theorem dX2_choose_9 : decode cX2_choose 9 = .ok (.getfield 24, 3) := by decide +kernel
theorem dX2_choose_12 : decode cX2_choose 12 = .ok (.iload_n 2, 1) := by decide +kernel
theorem dX2_choose_13 : decode cX2_choose 13 = .ok (.iconst (-1), 1) := by decide +kernel
theorem dX2_choose_14 : decode cX2_choose 14 = .ok (.iastore, 1) := by decide +kernel
theorem dX2_choose_15 : decode cX2_choose 15 = .ok (.iinc 2 1, 3) := by decide +kernel
theorem dX2_choose_18 : decode cX2_choose 18 = .ok (.goto (-16), 3) := by decide +kernel
theorem dX2_choose_21 : decode cX2_choose 21 = .ok (.iload_n 1, 1) := by decide +kernel
theorem dX2_choose_22 : decode cX2_choose 22 = .ok (.istore_n 2, 1) := by decide +kernel
theorem dX2_choose_23 : decode cX2_choose 23 = .ok (.iconst 0, 1) := by decide +kernel
theorem dX2_choose_24 : decode cX2_choose 24 = .ok (.istore_n 3, 1) := by decide +kernel
theorem dX2_choose_25 : decode cX2_choose 25 = .ok (.iload_n 3, 1) := by decide +kernel
theorem dX2_choose_26 : decode cX2_choose 26 = .ok (.aload_n 0, 1) := by decide +kernel
theorem dX2_choose_27 : decode cX2_choose 27 = .ok (.getfield 37, 3) := by decide +kernel
theorem dX2_choose_30 : decode cX2_choose 30 = .ok (.if_icmp .ge 68, 3) := by decide +kernel
theorem dX2_choose_33 : decode cX2_choose 33 = .ok (.aload_n 0, 1) := by decide +kernel
theorem dX2_choose_34 : decode cX2_choose 34 = .ok (.iload_n 3, 1) := by decide +kernel
theorem dX2_choose_35 : decode cX2_choose 35 = .ok (.iload_n 2, 1) := by decide +kernel
theorem dX2_choose_36 : decode cX2_choose 36 = .ok (.invokevirtual 79, 3) := by decide +kernel
theorem dX2_choose_39 : decode cX2_choose 39 = .ok (.istore 4, 2) := by decide +kernel
theorem dX2_choose_41 : decode cX2_choose 41 = .ok (.iload 4, 2) := by decide +kernel
theorem dX2_choose_43 : decode cX2_choose 43 = .ok (.iconst (-1), 1) := by decide +kernel
theorem dX2_choose_44 : decode cX2_choose 44 = .ok (.if_icmp .eq 48, 3) := by decide +kernel
theorem dX2_choose_47 : decode cX2_choose 47 = .ok (.aload_n 0, 1) := by decide +kernel
theorem dX2_choose_48 : decode cX2_choose 48 = .ok (.getfield 24, 3) := by decide +kernel
theorem dX2_choose_51 : decode cX2_choose 51 = .ok (.aload_n 0, 1) := by decide +kernel
theorem dX2_choose_52 : decode cX2_choose 52 = .ok (.getfield 18, 3) := by decide +kernel
theorem dX2_choose_55 : decode cX2_choose 55 = .ok (.iload_n 3, 1) := by decide +kernel
theorem dX2_choose_56 : decode cX2_choose 56 = .ok (.iaload, 1) := by decide +kernel
theorem dX2_choose_57 : decode cX2_choose 57 = .ok (.aload_n 0, 1) := by decide +kernel
theorem dX2_choose_58 : decode cX2_choose 58 = .ok (.getfield 21, 3) := by decide +kernel
theorem dX2_choose_61 : decode cX2_choose 61 = .ok (.iload 4, 2) := by decide +kernel
theorem dX2_choose_63 : decode cX2_choose 63 = .ok (.iaload, 1) := by decide +kernel
theorem dX2_choose_64 : decode cX2_choose 64 = .ok (.iastore, 1) := by decide +kernel
theorem dX2_choose_65 : decode cX2_choose 65 = .ok (.aload_n 0, 1) := by decide +kernel
theorem dX2_choose_66 : decode cX2_choose 66 = .ok (.getfield 24, 3) := by decide +kernel
theorem dX2_choose_69 : decode cX2_choose 69 = .ok (.aload_n 0, 1) := by decide +kernel
theorem dX2_choose_70 : decode cX2_choose 70 = .ok (.getfield 21, 3) := by decide +kernel
theorem dX2_choose_73 : decode cX2_choose 73 = .ok (.iload 4, 2) := by decide +kernel
theorem dX2_choose_75 : decode cX2_choose 75 = .ok (.iaload, 1) := by decide +kernel
theorem dX2_choose_76 : decode cX2_choose 76 = .ok (.aload_n 0, 1) := by decide +kernel
theorem dX2_choose_77 : decode cX2_choose 77 = .ok (.getfield 18, 3) := by decide +kernel
theorem dX2_choose_80 : decode cX2_choose 80 = .ok (.iload_n 3, 1) := by decide +kernel
theorem dX2_choose_81 : decode cX2_choose 81 = .ok (.iaload, 1) := by decide +kernel
theorem dX2_choose_82 : decode cX2_choose 82 = .ok (.iastore, 1) := by decide +kernel
theorem dX2_choose_83 : decode cX2_choose 83 = .ok (.iload_n 2, 1) := by decide +kernel
theorem dX2_choose_84 : decode cX2_choose 84 = .ok (.iconst 1, 1) := by decide +kernel
theorem dX2_choose_85 : decode cX2_choose 85 = .ok (.iload 4, 2) := by decide +kernel
theorem dX2_choose_87 : decode cX2_choose 87 = .ok (.ishl, 1) := by decide +kernel
theorem dX2_choose_88 : decode cX2_choose 88 = .ok (.iconst (-1), 1) := by decide +kernel
theorem dX2_choose_89 : decode cX2_choose 89 = .ok (.ixor, 1) := by decide +kernel
theorem dX2_choose_90 : decode cX2_choose 90 = .ok (.iand, 1) := by decide +kernel
theorem dX2_choose_91 : decode cX2_choose 91 = .ok (.istore_n 2, 1) := by decide +kernel
theorem dX2_choose_92 : decode cX2_choose 92 = .ok (.iinc 3 1, 3) := by decide +kernel
theorem dX2_choose_95 : decode cX2_choose 95 = .ok (.goto (-70), 3) := by decide +kernel
theorem dX2_choose_98 : decode cX2_choose 98 = .ok (.return_, 1) := by decide +kernel
abbrev nd_X2_choose : List Nat := [74, 75, 76, 77, 78, 79]
abbrev ld_X2_choose : List (Nat × Nat) := [(74, 0), (74, 1), (74, 2), (74, 3), (74, 4)]
theorem sn_X2_choose_X2_leastPartner : ∀ c ∈ nd_X2_leastPartner, c ∈ nd_X2_choose := by decide
theorem sl_X2_choose_X2_leastPartner : ∀ q ∈ ld_X2_leastPartner, q ∈ ld_X2_choose := by decide
def f_X2_choose_92 (k25 : Int32 → Int32 → zH → zR) (x2 : Int32) (x3 : Int32) (h : zH) : zR := (zlt (x3 + (1 : Int32)) fun y3 => (k25 x2 y3 h))
def f_X2_choose_25  : Nat → Int32 → Int32 → zH → zR
  | 0 => fun _ _ _ => none
  | n + 1 => fun x2 x3 h => (if (h 74 5) ≤ x3 then (some (0, h)) else (zbd (f_X2_leastPartner x3 x2 h) fun r1 h2 => (if r1 = (-1 : Int32) then (f_X2_choose_92 (f_X2_choose_25  n) x2 x3 h2) else (zck x3 8 (zck r1 8 (zck (h2 77 (Int32.toNatClampNeg x3)) 16 (zst (zup h2 79 (Int32.toNatClampNeg (h2 77 (Int32.toNatClampNeg x3))) (h2 78 (Int32.toNatClampNeg r1))) fun h4 => (zck r1 8 (zck x3 8 (zck (h4 78 (Int32.toNatClampNeg r1)) 16 (zst (zup h4 79 (Int32.toNatClampNeg (h4 78 (Int32.toNatClampNeg r1))) (h4 77 (Int32.toNatClampNeg x3))) fun h5 => (zlt (x2 &&& (((1 : Int32) <<< (r1 &&& 31)) ^^^ (-1 : Int32))) fun y6 => (f_X2_choose_92 (f_X2_choose_25  n) y6 x3 h5)))))))))))))
def f_X2_choose_2  : Nat → Int32 → Int32 → zH → zR
  | 0 => fun _ _ _ => none
  | n + 1 => fun x1 x2 h => (if (16 : Int32) ≤ x2 then (f_X2_choose_25  zN x1 (0 : Int32) h) else (zck x2 16 (zst (zup h 79 (Int32.toNatClampNeg x2) (-1 : Int32)) fun h7 => (zlt (x2 + (1 : Int32)) fun y8 => (f_X2_choose_2  n x1 y8 h7)))))
def f_X2_choose  (x1 : Int32) (h : zH) : zR := (f_X2_choose_2  zN x1 (0 : Int32) h)
variable {p : Program} {l : Launch} {e : Env} {s : State} {m : MethodId} {args : Array Value} {below : List Frame} {meth : Method} {c : Code} {G : zG} {q : Int32 × zH}
set_option maxHeartbeats 4000000 in
set_option maxRecDepth 100000 in
theorem w_X2_choose_92 {k25 : Int32 → Int32 → zH → zR} (C : zC G p s m args meth c cX2_choose 5 RX2 none) (hm : ∀ c ∈ nd_X2_choose, c ∈ znm G) (hk : ∀ q ∈ ld_X2_choose, zlk G q.1 q.2 = true) (hk25 : ∀ (ls : Array Slot) (H : Heap) (locs : List Loc) (h : zH) (x2 : Int32) (x3 : Int32), lv_has ls 5 [(0, .ref (zal G 74)), (2, .int x2), (3, .int x3)] → zS G h s.heap H locs → k25 x2 x3 h = some q → W p l e (zrm (4)) s m args below meth c H locs 0 0 (MQ below (zQV G q.2) args s 0 0 (zA G)) (F0 m 25 ls [])) : ∀ (ls : Array Slot) (H : Heap) (locs : List Loc) (h : zH) (x2 : Int32) (x3 : Int32), lv_has ls 5 [(0, .ref (zal G 74)), (2, .int x2), (3, .int x3)] → zS G h s.heap H locs → f_X2_choose_92 k25 x2 x3 h = some q → W p l e (zrm (4)) s m args below meth c H locs 0 0 (MQ below (zQV G q.2) args s 0 0 (zA G)) (F0 m 92 ls []) := by
  intro ls H locs h x2 x3 hl hS hf
  unfold f_X2_choose_92 at hf
  obtain ⟨y3, ey3, hf⟩ := zlt_some hf
  refine lv_iinc (v := y3) (lv' := [(3, .int y3), (0, .ref (zal G 74)), (2, .int x2)]) C.1 C.2.1 dX2_choose_92 hl (k := 2) rfl ey3.symm (by decide) rfl (fun ls hl => ?_)
  refine lv_goto (tgt := 25) C.1 C.2.1 dX2_choose_95 (by decide) ?_
  exact hk25 _ _ _ _ _ _ (lv_sub hl [1, 2, 0] rfl) hS hf
set_option maxHeartbeats 4000000 in
set_option maxRecDepth 100000 in
theorem w_X2_choose_25  (C : zC G p s m args meth c cX2_choose 5 RX2 none) (hm : ∀ c ∈ nd_X2_choose, c ∈ znm G) (hk : ∀ q ∈ ld_X2_choose, zlk G q.1 q.2 = true)  : ∀ n, ∀ (ls : Array Slot) (H : Heap) (locs : List Loc) (h : zH) (x2 : Int32) (x3 : Int32), lv_has ls 5 [(0, .ref (zal G 74)), (2, .int x2), (3, .int x3)] → zS G h s.heap H locs → f_X2_choose_25  n x2 x3 h = some q → W p l e (zrm (4)) s m args below meth c H locs 0 0 (MQ below (zQV G q.2) args s 0 0 (zA G)) (F0 m 25 ls []) := by
  intro n
  induction n with
  | zero => intro ls H locs h x2 x3 hl hS hf; cases hf
  | succ n ih =>
    intro ls H locs h x2 x3 hl hS hf
    rw [f_X2_choose_25] at hf
    refine lv_iload_n C.1 C.2.1 dX2_choose_25 rfl (lv_at hl 2 rfl) ?_
    refine lv_aload_n C.1 C.2.1 dX2_choose_26 rfl (lv_at hl 0 rfl) ?_
    refine zgetI C hS ff_X2_37_74 (hm 74 (by decide)) dX2_choose_27 ?_
    refine lv_icmp_ge (tgt := 98) C.1 C.2.1 dX2_choose_30 (by decide) (fun hc => ?_) (fun hc => ?_)
    · have hf := zif_t hc hf
      exact zretV C hS hf dX2_choose_98
    · have hf := zif_f hc hf
      refine lv_aload_n C.1 C.2.1 dX2_choose_33 rfl (lv_at hl 0 rfl) ?_
      refine lv_iload_n C.1 C.2.1 dX2_choose_34 rfl (lv_at hl 2 rfl) ?_
      refine lv_iload_n C.1 C.2.1 dX2_choose_35 rfl (lv_at hl 1 rfl) ?_
      obtain ⟨r1, h2, er1, hf⟩ := zbd_some hf
      refine zcallVI (As := [.int x3, .int x2]) (rest := []) C hS mv_X2_79 (c_X2_leastPartner l G h x3 x2 (r1, h2) (fun c h => hm c (sn_X2_choose_X2_leastPartner c h)) (fun q h => hk q (sl_X2_choose_X2_leastPartner q h)) er1) (hm 74 (by decide)) ⟨_, _, _, sh_74, rfl, rfl⟩ rfl rfl (Nat.le_of_ble_eq_true rfl) hl.1 ⟨Nat.le_of_ble_eq_true rfl, Nat.le_of_ble_eq_true rfl, Nat.le_of_ble_eq_true rfl, Nat.le_of_ble_eq_true rfl⟩ dX2_choose_36 (fun H locs hS => ?_)
      refine lv_istore (lv' := [(4, .int r1), (0, .ref (zal G 74)), (2, .int x2), (3, .int x3)]) C.1 C.2.1 dX2_choose_39 hl (by decide) rfl (fun ls hl => ?_)
      refine lv_iload C.1 C.2.1 dX2_choose_41 (lv_at hl 0 rfl) ?_
      refine lv_iconst (v := (-1 : Int32)) C.1 C.2.1 dX2_choose_43 rfl ?_
      refine lv_icmp_eq (tgt := 92) C.1 C.2.1 dX2_choose_44 (by decide) (fun hc => ?_) (fun hc => ?_)
      · have hf := zif_t hc hf
        exact w_X2_choose_92 C hm hk ih _ _ _ _ _ _ (lv_sub hl [1, 2, 3] rfl) hS hf
      · have hf := zif_f hc hf
        refine lv_aload_n C.1 C.2.1 dX2_choose_47 rfl (lv_at hl 1 rfl) ?_
        refine zgetR C hS ff_X2_24_74 (hm 74 (by decide)) (hk (74, 4) (by decide)) dX2_choose_48 ?_
        refine lv_aload_n C.1 C.2.1 dX2_choose_51 rfl (lv_at hl 1 rfl) ?_
        refine zgetR C hS ff_X2_18_74 (hm 74 (by decide)) (hk (74, 2) (by decide)) dX2_choose_52 ?_
        refine lv_iload_n C.1 C.2.1 dX2_choose_55 rfl (lv_at hl 3 rfl) ?_
        obtain ⟨hi, hf⟩ := zck_some hf
        refine zald C hS sh_77 (hm 77 (by decide)) hi dX2_choose_56 ?_
        refine lv_aload_n C.1 C.2.1 dX2_choose_57 rfl (lv_at hl 1 rfl) ?_
        refine zgetR C hS ff_X2_21_74 (hm 74 (by decide)) (hk (74, 3) (by decide)) dX2_choose_58 ?_
        refine lv_iload C.1 C.2.1 dX2_choose_61 (lv_at hl 0 rfl) ?_
        obtain ⟨hi, hf⟩ := zck_some hf
        refine zald C hS sh_78 (hm 78 (by decide)) hi dX2_choose_63 ?_
        obtain ⟨hi, hf⟩ := zck_some hf
        refine zast C hS sh_79 (hm 79 (by decide)) hi dX2_choose_64 (fun H locs hS => ?_)
        obtain ⟨h4, eh4, hf⟩ := zst_some hf
        have hS : zS G h4 s.heap H locs := by rw [eh4]; exact hS
        refine lv_aload_n C.1 C.2.1 dX2_choose_65 rfl (lv_at hl 1 rfl) ?_
        refine zgetR C hS ff_X2_24_74 (hm 74 (by decide)) (hk (74, 4) (by decide)) dX2_choose_66 ?_
        refine lv_aload_n C.1 C.2.1 dX2_choose_69 rfl (lv_at hl 1 rfl) ?_
        refine zgetR C hS ff_X2_21_74 (hm 74 (by decide)) (hk (74, 3) (by decide)) dX2_choose_70 ?_
        refine lv_iload C.1 C.2.1 dX2_choose_73 (lv_at hl 0 rfl) ?_
        obtain ⟨hi, hf⟩ := zck_some hf
        refine zald C hS sh_78 (hm 78 (by decide)) hi dX2_choose_75 ?_
        refine lv_aload_n C.1 C.2.1 dX2_choose_76 rfl (lv_at hl 1 rfl) ?_
        refine zgetR C hS ff_X2_18_74 (hm 74 (by decide)) (hk (74, 2) (by decide)) dX2_choose_77 ?_
        refine lv_iload_n C.1 C.2.1 dX2_choose_80 rfl (lv_at hl 3 rfl) ?_
        obtain ⟨hi, hf⟩ := zck_some hf
        refine zald C hS sh_77 (hm 77 (by decide)) hi dX2_choose_81 ?_
        obtain ⟨hi, hf⟩ := zck_some hf
        refine zast C hS sh_79 (hm 79 (by decide)) hi dX2_choose_82 (fun H locs hS => ?_)
        obtain ⟨h5, eh5, hf⟩ := zst_some hf
        have hS : zS G h5 s.heap H locs := by rw [eh5]; exact hS
        refine lv_iload_n C.1 C.2.1 dX2_choose_83 rfl (lv_at hl 2 rfl) ?_
        refine lv_iconst (v := (1 : Int32)) C.1 C.2.1 dX2_choose_84 rfl ?_
        refine lv_iload C.1 C.2.1 dX2_choose_85 (lv_at hl 0 rfl) ?_
        refine lv_ishl C.1 C.2.1 dX2_choose_87 ?_
        refine lv_iconst (v := (-1 : Int32)) C.1 C.2.1 dX2_choose_88 rfl ?_
        refine lv_ixor C.1 C.2.1 dX2_choose_89 ?_
        refine lv_iand C.1 C.2.1 dX2_choose_90 ?_
        obtain ⟨y6, ey6, hf⟩ := zlt_some hf
        refine ztop ey6 ?_
        refine lv_istore_n (lv' := [(2, .int y6), (4, .int r1), (0, .ref (zal G 74)), (3, .int x3)]) C.1 C.2.1 dX2_choose_91 rfl hl (by decide) rfl (fun ls hl => ?_)
        exact w_X2_choose_92 C hm hk ih _ _ _ _ _ _ (lv_sub hl [2, 0, 3] rfl) hS hf
set_option maxHeartbeats 4000000 in
set_option maxRecDepth 100000 in
theorem w_X2_choose_2  (C : zC G p s m args meth c cX2_choose 5 RX2 none) (hm : ∀ c ∈ nd_X2_choose, c ∈ znm G) (hk : ∀ q ∈ ld_X2_choose, zlk G q.1 q.2 = true)  : ∀ n, ∀ (ls : Array Slot) (H : Heap) (locs : List Loc) (h : zH) (x1 : Int32) (x2 : Int32), lv_has ls 5 [(0, .ref (zal G 74)), (1, .int x1), (2, .int x2)] → zS G h s.heap H locs → f_X2_choose_2  n x1 x2 h = some q → W p l e (zrm (4)) s m args below meth c H locs 0 0 (MQ below (zQV G q.2) args s 0 0 (zA G)) (F0 m 2 ls []) := by
  intro n
  induction n with
  | zero => intro ls H locs h x1 x2 hl hS hf; cases hf
  | succ n ih =>
    intro ls H locs h x1 x2 hl hS hf
    rw [f_X2_choose_2] at hf
    refine lv_iload_n C.1 C.2.1 dX2_choose_2 rfl (lv_at hl 2 rfl) ?_
    refine lv_bipush (v := (16 : Int32)) C.1 C.2.1 dX2_choose_3 rfl ?_
    refine lv_icmp_ge (tgt := 21) C.1 C.2.1 dX2_choose_5 (by decide) (fun hc => ?_) (fun hc => ?_)
    · have hf := zif_t hc hf
      refine lv_iload_n C.1 C.2.1 dX2_choose_21 rfl (lv_at hl 1 rfl) ?_
      refine lv_istore_n (lv' := [(2, .int x1), (0, .ref (zal G 74)), (1, .int x1)]) C.1 C.2.1 dX2_choose_22 rfl hl (by decide) rfl (fun ls hl => ?_)
      refine lv_iconst (v := (0 : Int32)) C.1 C.2.1 dX2_choose_23 rfl ?_
      refine lv_istore_n (lv' := [(3, .int (0 : Int32)), (2, .int x1), (0, .ref (zal G 74)), (1, .int x1)]) C.1 C.2.1 dX2_choose_24 rfl hl (by decide) rfl (fun ls hl => ?_)
      exact w_X2_choose_25 C hm hk  zN _ _ _ _ _ _ (lv_sub hl [2, 1, 0] rfl) hS hf
    · have hf := zif_f hc hf
      refine lv_aload_n C.1 C.2.1 dX2_choose_8 rfl (lv_at hl 0 rfl) ?_
      refine zgetR C hS ff_X2_24_74 (hm 74 (by decide)) (hk (74, 4) (by decide)) dX2_choose_9 ?_
      refine lv_iload_n C.1 C.2.1 dX2_choose_12 rfl (lv_at hl 2 rfl) ?_
      refine lv_iconst (v := (-1 : Int32)) C.1 C.2.1 dX2_choose_13 rfl ?_
      obtain ⟨hi, hf⟩ := zck_some hf
      refine zast C hS sh_79 (hm 79 (by decide)) hi dX2_choose_14 (fun H locs hS => ?_)
      obtain ⟨h7, eh7, hf⟩ := zst_some hf
      have hS : zS G h7 s.heap H locs := by rw [eh7]; exact hS
      obtain ⟨y8, ey8, hf⟩ := zlt_some hf
      refine lv_iinc (v := y8) (lv' := [(2, .int y8), (0, .ref (zal G 74)), (1, .int x1)]) C.1 C.2.1 dX2_choose_15 hl (k := 2) rfl ey8.symm (by decide) rfl (fun ls hl => ?_)
      refine lv_goto (tgt := 2) C.1 C.2.1 dX2_choose_18 (by decide) ?_
      exact ih _ _ _ _ _ _ (lv_sub hl [1, 2, 0] rfl) hS hf
set_option maxHeartbeats 4000000 in
set_option maxRecDepth 100000 in
theorem c_X2_choose (l : Launch) (G : zG) (h : zH) (x1 : Int32) (q : Int32 × zH) (hm : ∀ c ∈ nd_X2_choose, c ∈ znm G) (hk : ∀ q ∈ ld_X2_choose, zlk G q.1 q.2 = true) (hf : f_X2_choose x1 h = some q) : zCtV l yX2_choose cX2_choose 5 none (4) [.ref (zal G 74), .int x1] G h q.2 := by
  refine zMetV (by decide) (Nat.le_of_ble_eq_true rfl) ?_
  intro p e s m below meth c ls C hl hS
  have hl : lv_has ls 5 [(0, .ref (zal G 74)), (1, .int x1)] := hl
  have C : zC G p s m [.ref (zal G 74), .int x1].toArray meth c cX2_choose 5 RX2 none := C
  unfold f_X2_choose at hf
  refine lv_iconst (v := (0 : Int32)) C.1 C.2.1 dX2_choose_0 rfl ?_
  refine lv_istore_n (lv' := [(2, .int (0 : Int32)), (0, .ref (zal G 74)), (1, .int x1)]) C.1 C.2.1 dX2_choose_1 rfl hl (by decide) rfl (fun ls hl => ?_)
  exact w_X2_choose_2 C hm hk  zN _ _ _ _ _ _ (lv_sub hl [1, 2, 0] rfl) hS hf
end
section
theorem dX2_mostFrom_0 : decode cX2_mostFrom 0 = .ok (.aload_n 0, 1) := by decide +kernel
theorem dX2_mostFrom_1 : decode cX2_mostFrom 1 = .ok (.getfield 11, 3) := by decide +kernel
theorem dX2_mostFrom_4 : decode cX2_mostFrom 4 = .ok (.iload_n 1, 1) := by decide +kernel
theorem dX2_mostFrom_5 : decode cX2_mostFrom 5 = .ok (.iconst 1, 1) := by decide +kernel
theorem dX2_mostFrom_6 : decode cX2_mostFrom 6 = .ok (.iadd, 1) := by decide +kernel
theorem dX2_mostFrom_7 : decode cX2_mostFrom 7 = .ok (.sipush 256, 3) := by decide +kernel
theorem dX2_mostFrom_10 : decode cX2_mostFrom 10 = .ok (.imul, 1) := by decide +kernel
theorem dX2_mostFrom_11 : decode cX2_mostFrom 11 = .ok (.iload_n 2, 1) := by decide +kernel
theorem dX2_mostFrom_12 : decode cX2_mostFrom 12 = .ok (.iadd, 1) := by decide +kernel
theorem dX2_mostFrom_13 : decode cX2_mostFrom 13 = .ok (.iaload, 1) := by decide +kernel
theorem dX2_mostFrom_14 : decode cX2_mostFrom 14 = .ok (.istore_n 3, 1) := by decide +kernel
theorem dX2_mostFrom_15 : decode cX2_mostFrom 15 = .ok (.iconst 0, 1) := by decide +kernel
theorem dX2_mostFrom_16 : decode cX2_mostFrom 16 = .ok (.istore 4, 2) := by decide +kernel
theorem dX2_mostFrom_18 : decode cX2_mostFrom 18 = .ok (.iload 4, 2) := by decide +kernel
theorem dX2_mostFrom_20 : decode cX2_mostFrom 20 = .ok (.aload_n 0, 1) := by decide +kernel
theorem dX2_mostFrom_21 : decode cX2_mostFrom 21 = .ok (.getfield 41, 3) := by decide +kernel
theorem dX2_mostFrom_24 : decode cX2_mostFrom 24 = .ok (.if_icmp .ge 31, 3) := by decide +kernel
theorem dX2_mostFrom_27 : decode cX2_mostFrom 27 = .ok (.iload 4, 2) := by decide +kernel
theorem dX2_mostFrom_29 : decode cX2_mostFrom 29 = .ok (.iload_n 2, 1) := by decide +kernel
theorem dX2_mostFrom_30 : decode cX2_mostFrom 30 = .ok (.invokestatic 67, 3) := by decide +kernel
theorem dX2_mostFrom_33 : decode cX2_mostFrom 33 = .ok (.ifCond .eq 16, 3) := by decide +kernel
theorem dX2_mostFrom_36 : decode cX2_mostFrom 36 = .ok (.iload_n 3, 1) := by decide +kernel
theorem dX2_mostFrom_37 : decode cX2_mostFrom 37 = .ok (.aload_n 0, 1) := by decide +kernel
theorem dX2_mostFrom_38 : decode cX2_mostFrom 38 = .ok (.iload_n 1, 1) := by decide +kernel
theorem dX2_mostFrom_39 : decode cX2_mostFrom 39 = .ok (.iload 4, 2) := by decide +kernel
theorem dX2_mostFrom_41 : decode cX2_mostFrom 41 = .ok (.iload_n 2, 1) := by decide +kernel
theorem dX2_mostFrom_42 : decode cX2_mostFrom 42 = .ok (.invokevirtual 71, 3) := by decide +kernel
theorem dX2_mostFrom_45 : decode cX2_mostFrom 45 = .ok (.invokestatic 74, 3) := by decide +kernel
theorem dX2_mostFrom_48 : decode cX2_mostFrom 48 = .ok (.istore_n 3, 1) := by decide +kernel
theorem dX2_mostFrom_49 : decode cX2_mostFrom 49 = .ok (.iinc 4 1, 3) := by decide +kernel
theorem dX2_mostFrom_52 : decode cX2_mostFrom 52 = .ok (.goto (-34), 3) := by decide +kernel
theorem dX2_mostFrom_55 : decode cX2_mostFrom 55 = .ok (.iload_n 3, 1) := by decide +kernel
theorem dX2_mostFrom_56 : decode cX2_mostFrom 56 = .ok (.ireturn, 1) := by decide +kernel
abbrev nd_X2_mostFrom : List Nat := [74, 75, 76]
abbrev ld_X2_mostFrom : List (Nat × Nat) := [(74, 0), (74, 1)]
theorem sn_X2_mostFrom_X11_isIn : ∀ c ∈ nd_X11_isIn, c ∈ nd_X2_mostFrom := by decide
theorem sl_X2_mostFrom_X11_isIn : ∀ q ∈ ld_X11_isIn, q ∈ ld_X2_mostFrom := by decide
theorem sn_X2_mostFrom_X2_sumWith : ∀ c ∈ nd_X2_sumWith, c ∈ nd_X2_mostFrom := by decide
theorem sl_X2_mostFrom_X2_sumWith : ∀ q ∈ ld_X2_sumWith, q ∈ ld_X2_mostFrom := by decide
def f_X2_mostFrom_49 (k18 : Int32 → Int32 → Int32 → Int32 → zH → zR) (x1 : Int32) (x2 : Int32) (x3 : Int32) (x4 : Int32) (h : zH) : zR := (zlt (x4 + (1 : Int32)) fun y4 => (k18 x1 x2 x3 y4 h))
def f_X2_mostFrom_18  : Nat → Int32 → Int32 → Int32 → Int32 → zH → zR
  | 0 => fun _ _ _ _ _ => none
  | n + 1 => fun x1 x2 x3 x4 h => (if (h 74 6) ≤ x4 then (some (x3, h)) else (zbd (f_X11_isIn x4 x2 h) fun r2 h3 => (if r2 = 0 then (f_X2_mostFrom_49 (f_X2_mostFrom_18  n) x1 x2 x3 x4 h3) else (zbd (f_X2_sumWith x1 x4 x2 h3) fun r5 h6 => (zlt (if x3 < r5 then r5 else x3) fun y7 => (f_X2_mostFrom_49 (f_X2_mostFrom_18  n) x1 x2 y7 x4 h6))))))
def f_X2_mostFrom  (x1 : Int32) (x2 : Int32) (h : zH) : zR := (zck (((x1 + (1 : Int32)) * (256 : Int32)) + x2) 2304 (zlt (h 75 (Int32.toNatClampNeg (((x1 + (1 : Int32)) * (256 : Int32)) + x2))) fun y1 => (f_X2_mostFrom_18  zN x1 x2 y1 (0 : Int32) h)))
variable {p : Program} {l : Launch} {e : Env} {s : State} {m : MethodId} {args : Array Value} {below : List Frame} {meth : Method} {c : Code} {G : zG} {q : Int32 × zH}
set_option maxHeartbeats 4000000 in
set_option maxRecDepth 100000 in
theorem w_X2_mostFrom_49 {k18 : Int32 → Int32 → Int32 → Int32 → zH → zR} (C : zC G p s m args meth c cX2_mostFrom 5 RX2 (some .int)) (hm : ∀ c ∈ nd_X2_mostFrom, c ∈ znm G) (hk : ∀ q ∈ ld_X2_mostFrom, zlk G q.1 q.2 = true) (hk18 : ∀ (ls : Array Slot) (H : Heap) (locs : List Loc) (h : zH) (x1 : Int32) (x2 : Int32) (x3 : Int32) (x4 : Int32), lv_has ls 5 [(0, .ref (zal G 74)), (1, .int x1), (2, .int x2), (3, .int x3), (4, .int x4)] → zS G h s.heap H locs → k18 x1 x2 x3 x4 h = some q → W p l e (zrm (3)) s m args below meth c H locs 0 0 (MQ below (zQI G q.2 q.1) args s 0 0 (zA G)) (F0 m 18 ls [])) : ∀ (ls : Array Slot) (H : Heap) (locs : List Loc) (h : zH) (x1 : Int32) (x2 : Int32) (x3 : Int32) (x4 : Int32), lv_has ls 5 [(0, .ref (zal G 74)), (1, .int x1), (2, .int x2), (3, .int x3), (4, .int x4)] → zS G h s.heap H locs → f_X2_mostFrom_49 k18 x1 x2 x3 x4 h = some q → W p l e (zrm (3)) s m args below meth c H locs 0 0 (MQ below (zQI G q.2 q.1) args s 0 0 (zA G)) (F0 m 49 ls []) := by
  intro ls H locs h x1 x2 x3 x4 hl hS hf
  unfold f_X2_mostFrom_49 at hf
  obtain ⟨y4, ey4, hf⟩ := zlt_some hf
  refine lv_iinc (v := y4) (lv' := [(4, .int y4), (0, .ref (zal G 74)), (1, .int x1), (2, .int x2), (3, .int x3)]) C.1 C.2.1 dX2_mostFrom_49 hl (k := 4) rfl ey4.symm (by decide) rfl (fun ls hl => ?_)
  refine lv_goto (tgt := 18) C.1 C.2.1 dX2_mostFrom_52 (by decide) ?_
  exact hk18 _ _ _ _ _ _ _ _ (lv_sub hl [1, 2, 3, 4, 0] rfl) hS hf
set_option maxHeartbeats 4000000 in
set_option maxRecDepth 100000 in
theorem w_X2_mostFrom_18  (C : zC G p s m args meth c cX2_mostFrom 5 RX2 (some .int)) (hm : ∀ c ∈ nd_X2_mostFrom, c ∈ znm G) (hk : ∀ q ∈ ld_X2_mostFrom, zlk G q.1 q.2 = true)  : ∀ n, ∀ (ls : Array Slot) (H : Heap) (locs : List Loc) (h : zH) (x1 : Int32) (x2 : Int32) (x3 : Int32) (x4 : Int32), lv_has ls 5 [(0, .ref (zal G 74)), (1, .int x1), (2, .int x2), (3, .int x3), (4, .int x4)] → zS G h s.heap H locs → f_X2_mostFrom_18  n x1 x2 x3 x4 h = some q → W p l e (zrm (3)) s m args below meth c H locs 0 0 (MQ below (zQI G q.2 q.1) args s 0 0 (zA G)) (F0 m 18 ls []) := by
  intro n
  induction n with
  | zero => intro ls H locs h x1 x2 x3 x4 hl hS hf; cases hf
  | succ n ih =>
    intro ls H locs h x1 x2 x3 x4 hl hS hf
    rw [f_X2_mostFrom_18] at hf
    refine lv_iload C.1 C.2.1 dX2_mostFrom_18 (lv_at hl 4 rfl) ?_
    refine lv_aload_n C.1 C.2.1 dX2_mostFrom_20 rfl (lv_at hl 0 rfl) ?_
    refine zgetI C hS ff_X2_41_74 (hm 74 (by decide)) dX2_mostFrom_21 ?_
    refine lv_icmp_ge (tgt := 55) C.1 C.2.1 dX2_mostFrom_24 (by decide) (fun hc => ?_) (fun hc => ?_)
    · have hf := zif_t hc hf
      refine lv_iload_n C.1 C.2.1 dX2_mostFrom_55 rfl (lv_at hl 3 rfl) ?_
      exact zretI C hS hf dX2_mostFrom_56
    · have hf := zif_f hc hf
      refine lv_iload C.1 C.2.1 dX2_mostFrom_27 (lv_at hl 4 rfl) ?_
      refine lv_iload_n C.1 C.2.1 dX2_mostFrom_29 rfl (lv_at hl 2 rfl) ?_
      obtain ⟨r2, h3, er2, hf⟩ := zbd_some hf
      refine zcallNI (As := [.int x4, .int x2]) (rest := []) C hS mn_X2_67 (c_X11_isIn l G h x4 x2 (r2, h3) (fun c h => hm c (sn_X2_mostFrom_X11_isIn c h)) (fun q h => hk q (sl_X2_mostFrom_X11_isIn q h)) er2) rfl rfl (Nat.le_of_ble_eq_true rfl) hl.1 ⟨Nat.le_of_ble_eq_true rfl, Nat.le_of_ble_eq_true rfl, Nat.le_of_ble_eq_true rfl, Nat.le_of_ble_eq_true rfl⟩ dX2_mostFrom_30 (fun H locs hS => ?_)
      refine lv_if_eq (tgt := 49) C.1 C.2.1 dX2_mostFrom_33 (by decide) (fun hc => ?_) (fun hc => ?_)
      · have hf := zif_t hc hf
        exact w_X2_mostFrom_49 C hm hk ih _ _ _ _ _ _ _ _ (lv_sub hl [0, 1, 2, 3, 4] rfl) hS hf
      · have hf := zif_f hc hf
        refine lv_iload_n C.1 C.2.1 dX2_mostFrom_36 rfl (lv_at hl 3 rfl) ?_
        refine lv_aload_n C.1 C.2.1 dX2_mostFrom_37 rfl (lv_at hl 0 rfl) ?_
        refine lv_iload_n C.1 C.2.1 dX2_mostFrom_38 rfl (lv_at hl 1 rfl) ?_
        refine lv_iload C.1 C.2.1 dX2_mostFrom_39 (lv_at hl 4 rfl) ?_
        refine lv_iload_n C.1 C.2.1 dX2_mostFrom_41 rfl (lv_at hl 2 rfl) ?_
        obtain ⟨r5, h6, er5, hf⟩ := zbd_some hf
        refine zcallVI (As := [.int x1, .int x4, .int x2]) (rest := [.int x3]) C hS mv_X2_71 (c_X2_sumWith l G h3 x1 x4 x2 (r5, h6) (fun c h => hm c (sn_X2_mostFrom_X2_sumWith c h)) (fun q h => hk q (sl_X2_mostFrom_X2_sumWith q h)) er5) (hm 74 (by decide)) ⟨_, _, _, sh_74, rfl, rfl⟩ rfl rfl (Nat.le_of_ble_eq_true rfl) hl.1 ⟨Nat.le_of_ble_eq_true rfl, Nat.le_of_ble_eq_true rfl, Nat.le_of_ble_eq_true rfl, Nat.le_of_ble_eq_true rfl⟩ dX2_mostFrom_42 (fun H locs hS => ?_)
        refine zmax C kw_945 (Nat.le_of_ble_eq_true rfl) hl.1 ⟨Nat.le_of_ble_eq_true rfl, Nat.le_of_ble_eq_true rfl, Nat.le_of_ble_eq_true rfl, Nat.le_of_ble_eq_true rfl⟩ dX2_mostFrom_45 ?_
        obtain ⟨y7, ey7, hf⟩ := zlt_some hf
        refine ztop ey7 ?_
        refine lv_istore_n (lv' := [(3, .int y7), (0, .ref (zal G 74)), (1, .int x1), (2, .int x2), (4, .int x4)]) C.1 C.2.1 dX2_mostFrom_48 rfl hl (by decide) rfl (fun ls hl => ?_)
        exact w_X2_mostFrom_49 C hm hk ih _ _ _ _ _ _ _ _ (lv_sub hl [1, 2, 3, 0, 4] rfl) hS hf
set_option maxHeartbeats 4000000 in
set_option maxRecDepth 100000 in
theorem c_X2_mostFrom (l : Launch) (G : zG) (h : zH) (x1 : Int32) (x2 : Int32) (q : Int32 × zH) (hm : ∀ c ∈ nd_X2_mostFrom, c ∈ znm G) (hk : ∀ q ∈ ld_X2_mostFrom, zlk G q.1 q.2 = true) (hf : f_X2_mostFrom x1 x2 h = some q) : zCtI l yX2_mostFrom cX2_mostFrom 5 (some .int) (3) [.ref (zal G 74), .int x1, .int x2] G h q.2 q.1 := by
  refine zMetI (by decide) (Nat.le_of_ble_eq_true rfl) ?_
  intro p e s m below meth c ls C hl hS
  have hl : lv_has ls 5 [(0, .ref (zal G 74)), (1, .int x1), (2, .int x2)] := hl
  have C : zC G p s m [.ref (zal G 74), .int x1, .int x2].toArray meth c cX2_mostFrom 5 RX2 (some .int) := C
  unfold f_X2_mostFrom at hf
  refine lv_aload_n C.1 C.2.1 dX2_mostFrom_0 rfl (lv_at hl 0 rfl) ?_
  refine zgetR C hS ff_X2_11_74 (hm 74 (by decide)) (hk (74, 0) (by decide)) dX2_mostFrom_1 ?_
  refine lv_iload_n C.1 C.2.1 dX2_mostFrom_4 rfl (lv_at hl 1 rfl) ?_
  refine lv_iconst (v := (1 : Int32)) C.1 C.2.1 dX2_mostFrom_5 rfl ?_
  refine lv_iadd C.1 C.2.1 dX2_mostFrom_6 ?_
  refine lv_sipush (v := (256 : Int32)) C.1 C.2.1 dX2_mostFrom_7 rfl ?_
  refine lv_imul C.1 C.2.1 dX2_mostFrom_10 ?_
  refine lv_iload_n C.1 C.2.1 dX2_mostFrom_11 rfl (lv_at hl 2 rfl) ?_
  refine lv_iadd C.1 C.2.1 dX2_mostFrom_12 ?_
  obtain ⟨hi, hf⟩ := zck_some hf
  refine zald C hS sh_75 (hm 75 (by decide)) hi dX2_mostFrom_13 ?_
  obtain ⟨y1, ey1, hf⟩ := zlt_some hf
  refine ztop ey1 ?_
  refine lv_istore_n (lv' := [(3, .int y1), (0, .ref (zal G 74)), (1, .int x1), (2, .int x2)]) C.1 C.2.1 dX2_mostFrom_14 rfl hl (by decide) rfl (fun ls hl => ?_)
  refine lv_iconst (v := (0 : Int32)) C.1 C.2.1 dX2_mostFrom_15 rfl ?_
  refine lv_istore (lv' := [(4, .int (0 : Int32)), (3, .int y1), (0, .ref (zal G 74)), (1, .int x1), (2, .int x2)]) C.1 C.2.1 dX2_mostFrom_16 hl (by decide) rfl (fun ls hl => ?_)
  exact w_X2_mostFrom_18 C hm hk  zN _ _ _ _ _ _ _ _ (lv_sub hl [2, 3, 4, 1, 0] rfl) hS hf
end
section
theorem dX2_solve_0 : decode cX2_solve 0 = .ok (.aload_n 0, 1) := by decide +kernel
theorem dX2_solve_1 : decode cX2_solve 1 = .ok (.aload_n 1, 1) := by decide +kernel
theorem dX2_solve_2 : decode cX2_solve 2 = .ok (.getfield 27, 3) := by decide +kernel
theorem dX2_solve_5 : decode cX2_solve 5 = .ok (.invokevirtual 33, 3) := by decide +kernel
theorem dX2_solve_8 : decode cX2_solve 8 = .ok (.ifCond .ne 5, 3) := by decide +kernel
theorem dX2_solve_11 : decode cX2_solve 11 = .ok (.iconst 0, 1) := by decide +kernel
theorem dX2_solve_12 : decode cX2_solve 12 = .ok (.ireturn, 1) := by decide +kernel
theorem dX2_solve_13 : decode cX2_solve 13 = .ok (.iconst 0, 1) := by decide +kernel
theorem dX2_solve_14 : decode cX2_solve 14 = .ok (.istore_n 2, 1) := by decide +kernel
theorem dX2_solve_15 : decode cX2_solve 15 = .ok (.iload_n 2, 1) := by decide +kernel
theorem dX2_solve_16 : decode cX2_solve 16 = .ok (.aload_n 0, 1) := by decide +kernel
theorem dX2_solve_17 : decode cX2_solve 17 = .ok (.getfield 37, 3) := by decide +kernel
theorem dX2_solve_20 : decode cX2_solve 20 = .ok (.if_icmp .ge 53, 3) := by decide +kernel
theorem dX2_solve_23 : decode cX2_solve 23 = .ok (.iconst 0, 1) := by decide +kernel
theorem dX2_solve_24 : decode cX2_solve 24 = .ok (.istore_n 3, 1) := by decide +kernel
theorem dX2_solve_25 : decode cX2_solve 25 = .ok (.iload_n 3, 1) := by decide +kernel
theorem dX2_solve_26 : decode cX2_solve 26 = .ok (.aload_n 0, 1) := by decide +kernel
theorem dX2_solve_27 : decode cX2_solve 27 = .ok (.getfield 41, 3) := by decide +kernel
theorem dX2_solve_30 : decode cX2_solve 30 = .ok (.if_icmp .ge 37, 3) := by decide +kernel
theorem dX2_solve_33 : decode cX2_solve 33 = .ok (.aload_n 0, 1) := by decide +kernel
theorem dX2_solve_34 : decode cX2_solve 34 = .ok (.getfield 15, 3) := by decide +kernel
theorem dX2_solve_37 : decode cX2_solve 37 = .ok (.iload_n 2, 1) := by decide +kernel
theorem dX2_solve_38 : decode cX2_solve 38 = .ok (.bipush 8, 2) := by decide +kernel
theorem dX2_solve_40 : decode cX2_solve 40 = .ok (.imul, 1) := by decide +kernel
theorem dX2_solve_41 : decode cX2_solve 41 = .ok (.iload_n 3, 1) := by decide +kernel
theorem dX2_solve_42 : decode cX2_solve 42 = .ok (.iadd, 1) := by decide +kernel
theorem dX2_solve_43 : decode cX2_solve 43 = .ok (.aload_n 1, 1) := by decide +kernel
theorem dX2_solve_44 : decode cX2_solve 44 = .ok (.aload_n 0, 1) := by decide +kernel
theorem dX2_solve_45 : decode cX2_solve 45 = .ok (.getfield 18, 3) := by decide +kernel
theorem dX2_solve_48 : decode cX2_solve 48 = .ok (.iload_n 2, 1) := by decide +kernel
theorem dX2_solve_49 : decode cX2_solve 49 = .ok (.iaload, 1) := by decide +kernel
theorem dX2_solve_50 : decode cX2_solve 50 = .ok (.aload_n 0, 1) := by decide +kernel
theorem dX2_solve_51 : decode cX2_solve 51 = .ok (.getfield 21, 3) := by decide +kernel
theorem dX2_solve_54 : decode cX2_solve 54 = .ok (.iload_n 3, 1) := by decide +kernel
theorem dX2_solve_55 : decode cX2_solve 55 = .ok (.iaload, 1) := by decide +kernel
theorem dX2_solve_56 : decode cX2_solve 56 = .ok (.iconst 0, 1) := by decide +kernel
theorem dX2_solve_57 : decode cX2_solve 57 = .ok (.invokevirtual 44, 3) := by decide +kernel
theorem dX2_solve_60 : decode cX2_solve 60 = .ok (.iastore, 1) := by decide +kernel
theorem dX2_solve_61 : decode cX2_solve 61 = .ok (.iinc 3 1, 3) := by decide +kernel
theorem dX2_solve_64 : decode cX2_solve 64 = .ok (.goto (-39), 3) := by decide +kernel
theorem dX2_solve_67 : decode cX2_solve 67 = .ok (.iinc 2 1, 3) := by decide +kernel
theorem dX2_solve_70 : decode cX2_solve 70 = .ok (.goto (-55), 3) := by decide +kernel
theorem dX2_solve_73 : decode cX2_solve 73 = .ok (.iconst 1, 1) := by decide +kernel
theorem dX2_solve_74 : decode cX2_solve 74 = .ok (.aload_n 0, 1) := by decide +kernel
theorem dX2_solve_75 : decode cX2_solve 75 = .ok (.getfield 41, 3) := by decide +kernel
theorem dX2_solve_78 : decode cX2_solve 78 = .ok (.ishl, 1) := by decide +kernel
theorem dX2_solve_79 : decode cX2_solve 79 = .ok (.istore_n 2, 1) := by decide +kernel
theorem dX2_solve_80 : decode cX2_solve 80 = .ok (.iconst 0, 1) := by decide +kernel
theorem dX2_solve_81 : decode cX2_solve 81 = .ok (.istore_n 3, 1) := by decide +kernel
theorem dX2_solve_82 : decode cX2_solve 82 = .ok (.iload_n 3, 1) := by decide +kernel
theorem dX2_solve_83 : decode cX2_solve 83 = .ok (.iload_n 2, 1) := by decide +kernel
theorem dX2_solve_84 : decode cX2_solve 84 = .ok (.if_icmp .ge 25, 3) := by decide +kernel
theorem dX2_solve_87 : decode cX2_solve 87 = .ok (.aload_n 0, 1) := by decide +kernel
theorem dX2_solve_88 : decode cX2_solve 88 = .ok (.getfield 11, 3) := by decide +kernel
theorem dX2_solve_91 : decode cX2_solve 91 = .ok (.aload_n 0, 1) := by decide +kernel
theorem dX2_solve_92 : decode cX2_solve 92 = .ok (.getfield 37, 3) := by decide +kernel
theorem dX2_solve_95 : decode cX2_solve 95 = .ok (.sipush 256, 3) := by decide +kernel
theorem dX2_solve_98 : decode cX2_solve 98 = .ok (.imul, 1) := by decide +kernel
theorem dX2_solve_99 : decode cX2_solve 99 = .ok (.iload_n 3, 1) := by decide +kernel
theorem dX2_solve_100 : decode cX2_solve 100 = .ok (.iadd, 1) := by decide +kernel
theorem dX2_solve_101 : decode cX2_solve 101 = .ok (.iconst 0, 1) := by decide +kernel
theorem dX2_solve_102 : decode cX2_solve 102 = .ok (.iastore, 1) := by decide +kernel
theorem dX2_solve_103 : decode cX2_solve 103 = .ok (.iinc 3 1, 3) := by decide +kernel
theorem dX2_solve_106 : decode cX2_solve 106 = .ok (.goto (-24), 3) := by decide +kernel
theorem dX2_solve_109 : decode cX2_solve 109 = .ok (.aload_n 0, 1) := by decide +kernel
theorem dX2_solve_110 : decode cX2_solve 110 = .ok (.getfield 37, 3) := by decide +kernel
theorem dX2_solve_113 : decode cX2_solve 113 = .ok (.iconst 1, 1) := by decide +kernel
theorem dX2_solve_114 : decode cX2_solve 114 = .ok (.isub, 1) := by decide +kernel
theorem dX2_solve_115 : decode cX2_solve 115 = .ok (.istore_n 3, 1) := by decide +kernel
theorem dX2_solve_116 : decode cX2_solve 116 = .ok (.iload_n 3, 1) := by decide +kernel
theorem dX2_solve_117 : decode cX2_solve 117 = .ok (.ifCond .lt 44, 3) := by decide +kernel
theorem dX2_solve_120 : decode cX2_solve 120 = .ok (.iconst 0, 1) := by decide +kernel
theorem dX2_solve_121 : decode cX2_solve 121 = .ok (.istore 4, 2) := by decide +kernel
theorem dX2_solve_123 : decode cX2_solve 123 = .ok (.iload 4, 2) := by decide +kernel
theorem dX2_solve_125 : decode cX2_solve 125 = .ok (.iload_n 2, 1) := by decide +kernel
theorem dX2_solve_126 : decode cX2_solve 126 = .ok (.if_icmp .ge 29, 3) := by decide +kernel
theorem dX2_solve_129 : decode cX2_solve 129 = .ok (.aload_n 0, 1) := by decide +kernel
theorem dX2_solve_130 : decode cX2_solve 130 = .ok (.getfield 11, 3) := by decide +kernel
theorem dX2_solve_133 : decode cX2_solve 133 = .ok (.iload_n 3, 1) := by decide +kernel
theorem dX2_solve_134 : decode cX2_solve 134 = .ok (.sipush 256, 3) := by decide +kernel
theorem dX2_solve_137 : decode cX2_solve 137 = .ok (.imul, 1) := by decide +kernel
theorem dX2_solve_138 : decode cX2_solve 138 = .ok (.iload 4, 2) := by decide +kernel
theorem dX2_solve_140 : decode cX2_solve 140 = .ok (.iadd, 1) := by decide +kernel
theorem dX2_solve_141 : decode cX2_solve 141 = .ok (.aload_n 0, 1) := by decide +kernel
theorem dX2_solve_142 : decode cX2_solve 142 = .ok (.iload_n 3, 1) := by decide +kernel
theorem dX2_solve_143 : decode cX2_solve 143 = .ok (.iload 4, 2) := by decide +kernel
theorem dX2_solve_145 : decode cX2_solve 145 = .ok (.invokevirtual 48, 3) := by decide +kernel
theorem dX2_solve_148 : decode cX2_solve 148 = .ok (.iastore, 1) := by decide +kernel
theorem dX2_solve_149 : decode cX2_solve 149 = .ok (.iinc 4 1, 3) := by decide +kernel
theorem dX2_solve_152 : decode cX2_solve 152 = .ok (.goto (-29), 3) := by decide +kernel
theorem dX2_solve_155 : decode cX2_solve 155 = .ok (.iinc 3 (-1), 3) := by decide +kernel
theorem dX2_solve_158 : decode cX2_solve 158 = .ok (.goto (-42), 3) := by decide +kernel
theorem dX2_solve_161 : decode cX2_solve 161 = .ok (.aload_n 0, 1) := by decide +kernel
theorem dX2_solve_162 : decode cX2_solve 162 = .ok (.aload_n 0, 1) := by decide +kernel
theorem dX2_solve_163 : decode cX2_solve 163 = .ok (.getfield 11, 3) := by decide +kernel
theorem dX2_solve_166 : decode cX2_solve 166 = .ok (.iload_n 2, 1) := by decide +kernel
theorem dX2_solve_167 : decode cX2_solve 167 = .ok (.iconst 1, 1) := by decide +kernel
theorem dX2_solve_168 : decode cX2_solve 168 = .ok (.isub, 1) := by decide +kernel
theorem dX2_solve_169 : decode cX2_solve 169 = .ok (.iaload, 1) := by decide +kernel
theorem dX2_solve_170 : decode cX2_solve 170 = .ok (.putfield 52, 3) := by decide +kernel
theorem dX2_solve_173 : decode cX2_solve 173 = .ok (.aload_n 0, 1) := by decide +kernel
theorem dX2_solve_174 : decode cX2_solve 174 = .ok (.iload_n 2, 1) := by decide +kernel
theorem dX2_solve_175 : decode cX2_solve 175 = .ok (.iconst 1, 1) := by decide +kernel
theorem dX2_solve_176 : decode cX2_solve 176 = .ok (.isub, 1) := by decide +kernel
theorem dX2_solve_177 : decode cX2_solve 177 = .ok (.invokevirtual 55, 3) := by decide +kernel
theorem dX2_solve_180 : decode cX2_solve 180 = .ok (.iconst 1, 1) := by decide +kernel
theorem dX2_solve_181 : decode cX2_solve 181 = .ok (.ireturn, 1) := by decide +kernel
abbrev nd_X2_solve_r1 : List Nat := [1, 2, 3, 4, 5, 11, 12, 13, 16, 17, 18, 19, 21, 74, 75, 76, 77, 78, 79]
abbrev ld_X2_solve_r1 : List (Nat × Nat) := [(1, 0), (1, 2), (1, 3), (1, 5), (2, 0), (2, 1), (2, 2), (11, 0), (11, 1), (16, 0), (16, 1), (16, 2), (74, 0), (74, 1), (74, 2), (74, 3), (74, 4)]
theorem sn_X2_solve_r1_X2_gather_r2 : ∀ c ∈ nd_X2_gather_r2, c ∈ nd_X2_solve_r1 := by decide
theorem sl_X2_solve_r1_X2_gather_r2 : ∀ q ∈ ld_X2_gather_r2, q ∈ ld_X2_solve_r1 := by decide
theorem sn_X2_solve_r1_X2_choose : ∀ c ∈ nd_X2_choose, c ∈ nd_X2_solve_r1 := by decide
theorem sl_X2_solve_r1_X2_choose : ∀ q ∈ ld_X2_choose, q ∈ ld_X2_solve_r1 := by decide
theorem sn_X2_solve_r1_X2_mostFrom : ∀ c ∈ nd_X2_mostFrom, c ∈ nd_X2_solve_r1 := by decide
theorem sl_X2_solve_r1_X2_mostFrom : ∀ q ∈ ld_X2_mostFrom, q ∈ ld_X2_solve_r1 := by decide
theorem sn_X2_solve_r1_X4_laughOf : ∀ c ∈ nd_X4_laughOf, c ∈ nd_X2_solve_r1 := by decide
theorem sl_X2_solve_r1_X4_laughOf : ∀ q ∈ ld_X4_laughOf, q ∈ ld_X2_solve_r1 := by decide
def f_X2_solve_r1_123 (k116 : Int32 → Int32 → zH → zR) : Nat → Int32 → Int32 → Int32 → zH → zR
  | 0 => fun _ _ _ _ => none
  | n + 1 => fun x2 x3 x4 h => (if x2 ≤ x4 then (zlt (x3 + (-1 : Int32)) fun y8 => (k116 x2 y8 h)) else (zbd (f_X2_mostFrom x3 x4 h) fun r9 h10 => (zck ((x3 * (256 : Int32)) + x4) 2304 (zst (zup h10 75 (Int32.toNatClampNeg ((x3 * (256 : Int32)) + x4)) r9) fun h11 => (zlt (x4 + (1 : Int32)) fun y12 => (f_X2_solve_r1_123 k116 n x2 x3 y12 h11))))))
def f_X2_solve_r1_116  : Nat → Int32 → Int32 → zH → zR
  | 0 => fun _ _ _ => none
  | n + 1 => fun x2 x3 h => (if x3 < 0 then (zck (x2 - (1 : Int32)) 2304 (zst (zup h 74 7 (h 75 (Int32.toNatClampNeg (x2 - (1 : Int32))))) fun h5 => (zbd (f_X2_choose (x2 - (1 : Int32)) h5) fun r6 h7 => (some ((1 : Int32), h7))))) else (f_X2_solve_r1_123 (f_X2_solve_r1_116  n) zN x2 x3 (0 : Int32) h))
def f_X2_solve_r1_82  : Nat → Int32 → Int32 → zH → zR
  | 0 => fun _ _ _ => none
  | n + 1 => fun x2 x3 h => (if x2 ≤ x3 then (zlt ((h 74 5) - (1 : Int32)) fun y4 => (f_X2_solve_r1_116  zN x2 y4 h)) else (zck (((h 74 5) * (256 : Int32)) + x3) 2304 (zst (zup h 75 (Int32.toNatClampNeg (((h 74 5) * (256 : Int32)) + x3)) (0 : Int32)) fun h13 => (zlt (x3 + (1 : Int32)) fun y14 => (f_X2_solve_r1_82  n x2 y14 h13)))))
def f_X2_solve_r1_25 (k15 : Int32 → zH → zR) : Nat → Int32 → Int32 → zH → zR
  | 0 => fun _ _ _ => none
  | n + 1 => fun x2 x3 h => (if (h 74 6) ≤ x3 then (zlt (x2 + (1 : Int32)) fun y15 => (k15 y15 h)) else (zck x2 8 (zck x3 8 (zbd (f_X4_laughOf (h 77 (Int32.toNatClampNeg x2)) (h 78 (Int32.toNatClampNeg x3)) (0 : Int32) h) fun r16 h17 => (zck ((x2 * (8 : Int32)) + x3) 64 (zst (zup h17 76 (Int32.toNatClampNeg ((x2 * (8 : Int32)) + x3)) r16) fun h18 => (zlt (x3 + (1 : Int32)) fun y19 => (f_X2_solve_r1_25 k15 n x2 y19 h18))))))))
def f_X2_solve_r1_15  : Nat → Int32 → zH → zR
  | 0 => fun _ _ => none
  | n + 1 => fun x2 h => (if (h 74 5) ≤ x2 then (zlt ((1 : Int32) <<< ((h 74 6) &&& 31)) fun y3 => (f_X2_solve_r1_82  zN y3 (0 : Int32) h)) else (f_X2_solve_r1_25 (f_X2_solve_r1_15  n) zN x2 (0 : Int32) h))
def f_X2_solve_r1  (h : zH) : zR := (zbd (f_X2_gather_r2  h) fun r1 h2 => (if r1 = 0 then (some ((0 : Int32), h2)) else (f_X2_solve_r1_15  zN (0 : Int32) h2)))
variable {p : Program} {l : Launch} {e : Env} {s : State} {m : MethodId} {args : Array Value} {below : List Frame} {meth : Method} {c : Code} {G : zG} {q : Int32 × zH}
set_option maxHeartbeats 4000000 in
set_option maxRecDepth 100000 in
theorem w_X2_solve_r1_123 {k116 : Int32 → Int32 → zH → zR} (C : zC G p s m args meth c cX2_solve 5 RX2 (some .boolean)) (hm : ∀ c ∈ nd_X2_solve_r1, c ∈ znm G) (hk : ∀ q ∈ ld_X2_solve_r1, zlk G q.1 q.2 = true) (hk116 : ∀ (ls : Array Slot) (H : Heap) (locs : List Loc) (h : zH) (x2 : Int32) (x3 : Int32), lv_has ls 5 [(0, .ref (zal G 74)), (2, .int x2), (3, .int x3)] → zS G h s.heap H locs → k116 x2 x3 h = some q → W p l e (zrm (5)) s m args below meth c H locs 0 0 (MQ below (zQI G q.2 q.1) args s 0 0 (zA G)) (F0 m 116 ls [])) : ∀ n, ∀ (ls : Array Slot) (H : Heap) (locs : List Loc) (h : zH) (x2 : Int32) (x3 : Int32) (x4 : Int32), lv_has ls 5 [(0, .ref (zal G 74)), (2, .int x2), (3, .int x3), (4, .int x4)] → zS G h s.heap H locs → f_X2_solve_r1_123 k116 n x2 x3 x4 h = some q → W p l e (zrm (5)) s m args below meth c H locs 0 0 (MQ below (zQI G q.2 q.1) args s 0 0 (zA G)) (F0 m 123 ls []) := by
  intro n
  induction n with
  | zero => intro ls H locs h x2 x3 x4 hl hS hf; cases hf
  | succ n ih =>
    intro ls H locs h x2 x3 x4 hl hS hf
    rw [f_X2_solve_r1_123] at hf
    refine lv_iload C.1 C.2.1 dX2_solve_123 (lv_at hl 3 rfl) ?_
    refine lv_iload_n C.1 C.2.1 dX2_solve_125 rfl (lv_at hl 1 rfl) ?_
    refine lv_icmp_ge (tgt := 155) C.1 C.2.1 dX2_solve_126 (by decide) (fun hc => ?_) (fun hc => ?_)
    · have hf := zif_t hc hf
      obtain ⟨y8, ey8, hf⟩ := zlt_some hf
      refine lv_iinc (v := y8) (lv' := [(3, .int y8), (0, .ref (zal G 74)), (2, .int x2), (4, .int x4)]) C.1 C.2.1 dX2_solve_155 hl (k := 2) rfl ey8.symm (by decide) rfl (fun ls hl => ?_)
      refine lv_goto (tgt := 116) C.1 C.2.1 dX2_solve_158 (by decide) ?_
      exact hk116 _ _ _ _ _ _ (lv_sub hl [1, 2, 0] rfl) hS hf
    · have hf := zif_f hc hf
      refine lv_aload_n C.1 C.2.1 dX2_solve_129 rfl (lv_at hl 0 rfl) ?_
      refine zgetR C hS ff_X2_11_74 (hm 74 (by decide)) (hk (74, 0) (by decide)) dX2_solve_130 ?_
      refine lv_iload_n C.1 C.2.1 dX2_solve_133 rfl (lv_at hl 2 rfl) ?_
      refine lv_sipush (v := (256 : Int32)) C.1 C.2.1 dX2_solve_134 rfl ?_
      refine lv_imul C.1 C.2.1 dX2_solve_137 ?_
      refine lv_iload C.1 C.2.1 dX2_solve_138 (lv_at hl 3 rfl) ?_
      refine lv_iadd C.1 C.2.1 dX2_solve_140 ?_
      refine lv_aload_n C.1 C.2.1 dX2_solve_141 rfl (lv_at hl 0 rfl) ?_
      refine lv_iload_n C.1 C.2.1 dX2_solve_142 rfl (lv_at hl 2 rfl) ?_
      refine lv_iload C.1 C.2.1 dX2_solve_143 (lv_at hl 3 rfl) ?_
      obtain ⟨r9, h10, er9, hf⟩ := zbd_some hf
      refine zcallVI (As := [.int x3, .int x4]) (rest := [.int ((x3 * (256 : Int32)) + x4), .ref (zal G 75)]) C hS mv_X2_48 (c_X2_mostFrom l G h x3 x4 (r9, h10) (fun c h => hm c (sn_X2_solve_r1_X2_mostFrom c h)) (fun q h => hk q (sl_X2_solve_r1_X2_mostFrom q h)) er9) (hm 74 (by decide)) ⟨_, _, _, sh_74, rfl, rfl⟩ rfl rfl (Nat.le_of_ble_eq_true rfl) hl.1 ⟨Nat.le_of_ble_eq_true rfl, Nat.le_of_ble_eq_true rfl, Nat.le_of_ble_eq_true rfl, Nat.le_of_ble_eq_true rfl⟩ dX2_solve_145 (fun H locs hS => ?_)
      obtain ⟨hi, hf⟩ := zck_some hf
      refine zast C hS sh_75 (hm 75 (by decide)) hi dX2_solve_148 (fun H locs hS => ?_)
      obtain ⟨h11, eh11, hf⟩ := zst_some hf
      have hS : zS G h11 s.heap H locs := by rw [eh11]; exact hS
      obtain ⟨y12, ey12, hf⟩ := zlt_some hf
      refine lv_iinc (v := y12) (lv' := [(4, .int y12), (0, .ref (zal G 74)), (2, .int x2), (3, .int x3)]) C.1 C.2.1 dX2_solve_149 hl (k := 3) rfl ey12.symm (by decide) rfl (fun ls hl => ?_)
      refine lv_goto (tgt := 123) C.1 C.2.1 dX2_solve_152 (by decide) ?_
      exact ih _ _ _ _ _ _ _ (lv_sub hl [1, 2, 3, 0] rfl) hS hf
set_option maxHeartbeats 4000000 in
set_option maxRecDepth 100000 in
theorem w_X2_solve_r1_116  (C : zC G p s m args meth c cX2_solve 5 RX2 (some .boolean)) (hm : ∀ c ∈ nd_X2_solve_r1, c ∈ znm G) (hk : ∀ q ∈ ld_X2_solve_r1, zlk G q.1 q.2 = true)  : ∀ n, ∀ (ls : Array Slot) (H : Heap) (locs : List Loc) (h : zH) (x2 : Int32) (x3 : Int32), lv_has ls 5 [(0, .ref (zal G 74)), (2, .int x2), (3, .int x3)] → zS G h s.heap H locs → f_X2_solve_r1_116  n x2 x3 h = some q → W p l e (zrm (5)) s m args below meth c H locs 0 0 (MQ below (zQI G q.2 q.1) args s 0 0 (zA G)) (F0 m 116 ls []) := by
  intro n
  induction n with
  | zero => intro ls H locs h x2 x3 hl hS hf; cases hf
  | succ n ih =>
    intro ls H locs h x2 x3 hl hS hf
    rw [f_X2_solve_r1_116] at hf
    refine lv_iload_n C.1 C.2.1 dX2_solve_116 rfl (lv_at hl 2 rfl) ?_
    refine lv_if_lt (tgt := 161) C.1 C.2.1 dX2_solve_117 (by decide) (fun hc => ?_) (fun hc => ?_)
    · have hf := zif_t hc hf
      refine lv_aload_n C.1 C.2.1 dX2_solve_161 rfl (lv_at hl 0 rfl) ?_
      refine lv_aload_n C.1 C.2.1 dX2_solve_162 rfl (lv_at hl 0 rfl) ?_
      refine zgetR C hS ff_X2_11_74 (hm 74 (by decide)) (hk (74, 0) (by decide)) dX2_solve_163 ?_
      refine lv_iload_n C.1 C.2.1 dX2_solve_166 rfl (lv_at hl 1 rfl) ?_
      refine lv_iconst (v := (1 : Int32)) C.1 C.2.1 dX2_solve_167 rfl ?_
      refine lv_isub C.1 C.2.1 dX2_solve_168 ?_
      obtain ⟨hi, hf⟩ := zck_some hf
      refine zald C hS sh_75 (hm 75 (by decide)) hi dX2_solve_169 ?_
      refine zputI C hS ff_X2_52_74 fw_74_7 (hm 74 (by decide)) dX2_solve_170 (fun H locs hS => ?_)
      obtain ⟨h5, eh5, hf⟩ := zst_some hf
      have hS : zS G h5 s.heap H locs := by rw [eh5]; exact hS
      refine lv_aload_n C.1 C.2.1 dX2_solve_173 rfl (lv_at hl 0 rfl) ?_
      refine lv_iload_n C.1 C.2.1 dX2_solve_174 rfl (lv_at hl 1 rfl) ?_
      refine lv_iconst (v := (1 : Int32)) C.1 C.2.1 dX2_solve_175 rfl ?_
      refine lv_isub C.1 C.2.1 dX2_solve_176 ?_
      obtain ⟨r6, h7, er6, hf⟩ := zbd_some hf
      refine zcallVV (As := [.int (x2 - (1 : Int32))]) (rest := []) C hS mv_X2_55 (c_X2_choose l G h5 (x2 - (1 : Int32)) (r6, h7) (fun c h => hm c (sn_X2_solve_r1_X2_choose c h)) (fun q h => hk q (sl_X2_solve_r1_X2_choose q h)) er6) (hm 74 (by decide)) ⟨_, _, _, sh_74, rfl, rfl⟩ rfl rfl (Nat.le_of_ble_eq_true rfl) hl.1 ⟨Nat.le_of_ble_eq_true rfl, Nat.le_of_ble_eq_true rfl, Nat.le_of_ble_eq_true rfl, Nat.le_of_ble_eq_true rfl⟩ dX2_solve_177 (fun H locs hS => ?_)
      refine lv_iconst (v := (1 : Int32)) C.1 C.2.1 dX2_solve_180 rfl ?_
      exact zretZ C hS rfl hf dX2_solve_181
    · have hf := zif_f hc hf
      refine lv_iconst (v := (0 : Int32)) C.1 C.2.1 dX2_solve_120 rfl ?_
      refine lv_istore (lv' := [(4, .int (0 : Int32)), (0, .ref (zal G 74)), (2, .int x2), (3, .int x3)]) C.1 C.2.1 dX2_solve_121 hl (by decide) rfl (fun ls hl => ?_)
      exact w_X2_solve_r1_123 C hm hk ih zN _ _ _ _ _ _ _ (lv_sub hl [1, 2, 3, 0] rfl) hS hf
set_option maxHeartbeats 4000000 in
set_option maxRecDepth 100000 in
theorem w_X2_solve_r1_82  (C : zC G p s m args meth c cX2_solve 5 RX2 (some .boolean)) (hm : ∀ c ∈ nd_X2_solve_r1, c ∈ znm G) (hk : ∀ q ∈ ld_X2_solve_r1, zlk G q.1 q.2 = true)  : ∀ n, ∀ (ls : Array Slot) (H : Heap) (locs : List Loc) (h : zH) (x2 : Int32) (x3 : Int32), lv_has ls 5 [(0, .ref (zal G 74)), (2, .int x2), (3, .int x3)] → zS G h s.heap H locs → f_X2_solve_r1_82  n x2 x3 h = some q → W p l e (zrm (5)) s m args below meth c H locs 0 0 (MQ below (zQI G q.2 q.1) args s 0 0 (zA G)) (F0 m 82 ls []) := by
  intro n
  induction n with
  | zero => intro ls H locs h x2 x3 hl hS hf; cases hf
  | succ n ih =>
    intro ls H locs h x2 x3 hl hS hf
    rw [f_X2_solve_r1_82] at hf
    refine lv_iload_n C.1 C.2.1 dX2_solve_82 rfl (lv_at hl 2 rfl) ?_
    refine lv_iload_n C.1 C.2.1 dX2_solve_83 rfl (lv_at hl 1 rfl) ?_
    refine lv_icmp_ge (tgt := 109) C.1 C.2.1 dX2_solve_84 (by decide) (fun hc => ?_) (fun hc => ?_)
    · have hf := zif_t hc hf
      refine lv_aload_n C.1 C.2.1 dX2_solve_109 rfl (lv_at hl 0 rfl) ?_
      refine zgetI C hS ff_X2_37_74 (hm 74 (by decide)) dX2_solve_110 ?_
      refine lv_iconst (v := (1 : Int32)) C.1 C.2.1 dX2_solve_113 rfl ?_
      refine lv_isub C.1 C.2.1 dX2_solve_114 ?_
      obtain ⟨y4, ey4, hf⟩ := zlt_some hf
      refine ztop ey4 ?_
      refine lv_istore_n (lv' := [(3, .int y4), (0, .ref (zal G 74)), (2, .int x2)]) C.1 C.2.1 dX2_solve_115 rfl hl (by decide) rfl (fun ls hl => ?_)
      exact w_X2_solve_r1_116 C hm hk  zN _ _ _ _ _ _ (lv_sub hl [1, 2, 0] rfl) hS hf
    · have hf := zif_f hc hf
      refine lv_aload_n C.1 C.2.1 dX2_solve_87 rfl (lv_at hl 0 rfl) ?_
      refine zgetR C hS ff_X2_11_74 (hm 74 (by decide)) (hk (74, 0) (by decide)) dX2_solve_88 ?_
      refine lv_aload_n C.1 C.2.1 dX2_solve_91 rfl (lv_at hl 0 rfl) ?_
      refine zgetI C hS ff_X2_37_74 (hm 74 (by decide)) dX2_solve_92 ?_
      refine lv_sipush (v := (256 : Int32)) C.1 C.2.1 dX2_solve_95 rfl ?_
      refine lv_imul C.1 C.2.1 dX2_solve_98 ?_
      refine lv_iload_n C.1 C.2.1 dX2_solve_99 rfl (lv_at hl 2 rfl) ?_
      refine lv_iadd C.1 C.2.1 dX2_solve_100 ?_
      refine lv_iconst (v := (0 : Int32)) C.1 C.2.1 dX2_solve_101 rfl ?_
      obtain ⟨hi, hf⟩ := zck_some hf
      refine zast C hS sh_75 (hm 75 (by decide)) hi dX2_solve_102 (fun H locs hS => ?_)
      obtain ⟨h13, eh13, hf⟩ := zst_some hf
      have hS : zS G h13 s.heap H locs := by rw [eh13]; exact hS
      obtain ⟨y14, ey14, hf⟩ := zlt_some hf
      refine lv_iinc (v := y14) (lv' := [(3, .int y14), (0, .ref (zal G 74)), (2, .int x2)]) C.1 C.2.1 dX2_solve_103 hl (k := 2) rfl ey14.symm (by decide) rfl (fun ls hl => ?_)
      refine lv_goto (tgt := 82) C.1 C.2.1 dX2_solve_106 (by decide) ?_
      exact ih _ _ _ _ _ _ (lv_sub hl [1, 2, 0] rfl) hS hf
set_option maxHeartbeats 4000000 in
set_option maxRecDepth 100000 in
theorem w_X2_solve_r1_25 {k15 : Int32 → zH → zR} (C : zC G p s m args meth c cX2_solve 5 RX2 (some .boolean)) (hm : ∀ c ∈ nd_X2_solve_r1, c ∈ znm G) (hk : ∀ q ∈ ld_X2_solve_r1, zlk G q.1 q.2 = true) (hk15 : ∀ (ls : Array Slot) (H : Heap) (locs : List Loc) (h : zH) (x2 : Int32), lv_has ls 5 [(0, .ref (zal G 74)), (1, .ref (zal G 1)), (2, .int x2)] → zS G h s.heap H locs → k15 x2 h = some q → W p l e (zrm (5)) s m args below meth c H locs 0 0 (MQ below (zQI G q.2 q.1) args s 0 0 (zA G)) (F0 m 15 ls [])) : ∀ n, ∀ (ls : Array Slot) (H : Heap) (locs : List Loc) (h : zH) (x2 : Int32) (x3 : Int32), lv_has ls 5 [(0, .ref (zal G 74)), (1, .ref (zal G 1)), (2, .int x2), (3, .int x3)] → zS G h s.heap H locs → f_X2_solve_r1_25 k15 n x2 x3 h = some q → W p l e (zrm (5)) s m args below meth c H locs 0 0 (MQ below (zQI G q.2 q.1) args s 0 0 (zA G)) (F0 m 25 ls []) := by
  intro n
  induction n with
  | zero => intro ls H locs h x2 x3 hl hS hf; cases hf
  | succ n ih =>
    intro ls H locs h x2 x3 hl hS hf
    rw [f_X2_solve_r1_25] at hf
    refine lv_iload_n C.1 C.2.1 dX2_solve_25 rfl (lv_at hl 3 rfl) ?_
    refine lv_aload_n C.1 C.2.1 dX2_solve_26 rfl (lv_at hl 0 rfl) ?_
    refine zgetI C hS ff_X2_41_74 (hm 74 (by decide)) dX2_solve_27 ?_
    refine lv_icmp_ge (tgt := 67) C.1 C.2.1 dX2_solve_30 (by decide) (fun hc => ?_) (fun hc => ?_)
    · have hf := zif_t hc hf
      obtain ⟨y15, ey15, hf⟩ := zlt_some hf
      refine lv_iinc (v := y15) (lv' := [(2, .int y15), (0, .ref (zal G 74)), (1, .ref (zal G 1)), (3, .int x3)]) C.1 C.2.1 dX2_solve_67 hl (k := 2) rfl ey15.symm (by decide) rfl (fun ls hl => ?_)
      refine lv_goto (tgt := 15) C.1 C.2.1 dX2_solve_70 (by decide) ?_
      exact hk15 _ _ _ _ _ (lv_sub hl [1, 2, 0] rfl) hS hf
    · have hf := zif_f hc hf
      refine lv_aload_n C.1 C.2.1 dX2_solve_33 rfl (lv_at hl 0 rfl) ?_
      refine zgetR C hS ff_X2_15_74 (hm 74 (by decide)) (hk (74, 1) (by decide)) dX2_solve_34 ?_
      refine lv_iload_n C.1 C.2.1 dX2_solve_37 rfl (lv_at hl 2 rfl) ?_
      refine lv_bipush (v := (8 : Int32)) C.1 C.2.1 dX2_solve_38 rfl ?_
      refine lv_imul C.1 C.2.1 dX2_solve_40 ?_
      refine lv_iload_n C.1 C.2.1 dX2_solve_41 rfl (lv_at hl 3 rfl) ?_
      refine lv_iadd C.1 C.2.1 dX2_solve_42 ?_
      refine lv_aload_n C.1 C.2.1 dX2_solve_43 rfl (lv_at hl 1 rfl) ?_
      refine lv_aload_n C.1 C.2.1 dX2_solve_44 rfl (lv_at hl 0 rfl) ?_
      refine zgetR C hS ff_X2_18_74 (hm 74 (by decide)) (hk (74, 2) (by decide)) dX2_solve_45 ?_
      refine lv_iload_n C.1 C.2.1 dX2_solve_48 rfl (lv_at hl 2 rfl) ?_
      obtain ⟨hi, hf⟩ := zck_some hf
      refine zald C hS sh_77 (hm 77 (by decide)) hi dX2_solve_49 ?_
      refine lv_aload_n C.1 C.2.1 dX2_solve_50 rfl (lv_at hl 0 rfl) ?_
      refine zgetR C hS ff_X2_21_74 (hm 74 (by decide)) (hk (74, 3) (by decide)) dX2_solve_51 ?_
      refine lv_iload_n C.1 C.2.1 dX2_solve_54 rfl (lv_at hl 3 rfl) ?_
      obtain ⟨hi, hf⟩ := zck_some hf
      refine zald C hS sh_78 (hm 78 (by decide)) hi dX2_solve_55 ?_
      refine lv_iconst (v := (0 : Int32)) C.1 C.2.1 dX2_solve_56 rfl ?_
      obtain ⟨r16, h17, er16, hf⟩ := zbd_some hf
      refine zcallVI (As := [.int (h 77 (Int32.toNatClampNeg x2)), .int (h 78 (Int32.toNatClampNeg x3)), .int (0 : Int32)]) (rest := [.int ((x2 * (8 : Int32)) + x3), .ref (zal G 76)]) C hS mv_X2_44 (c_X4_laughOf l G h (h 77 (Int32.toNatClampNeg x2)) (h 78 (Int32.toNatClampNeg x3)) (0 : Int32) (r16, h17) (fun c h => hm c (sn_X2_solve_r1_X4_laughOf c h)) (fun q h => hk q (sl_X2_solve_r1_X4_laughOf q h)) er16) (hm 1 (by decide)) ⟨_, _, _, sh_1, rfl, rfl⟩ rfl rfl (Nat.le_of_ble_eq_true rfl) hl.1 ⟨Nat.le_of_ble_eq_true rfl, Nat.le_of_ble_eq_true rfl, Nat.le_of_ble_eq_true rfl, Nat.le_of_ble_eq_true rfl⟩ dX2_solve_57 (fun H locs hS => ?_)
      obtain ⟨hi, hf⟩ := zck_some hf
      refine zast C hS sh_76 (hm 76 (by decide)) hi dX2_solve_60 (fun H locs hS => ?_)
      obtain ⟨h18, eh18, hf⟩ := zst_some hf
      have hS : zS G h18 s.heap H locs := by rw [eh18]; exact hS
      obtain ⟨y19, ey19, hf⟩ := zlt_some hf
      refine lv_iinc (v := y19) (lv' := [(3, .int y19), (0, .ref (zal G 74)), (1, .ref (zal G 1)), (2, .int x2)]) C.1 C.2.1 dX2_solve_61 hl (k := 3) rfl ey19.symm (by decide) rfl (fun ls hl => ?_)
      refine lv_goto (tgt := 25) C.1 C.2.1 dX2_solve_64 (by decide) ?_
      exact ih _ _ _ _ _ _ (lv_sub hl [1, 2, 3, 0] rfl) hS hf
set_option maxHeartbeats 4000000 in
set_option maxRecDepth 100000 in
theorem w_X2_solve_r1_15  (C : zC G p s m args meth c cX2_solve 5 RX2 (some .boolean)) (hm : ∀ c ∈ nd_X2_solve_r1, c ∈ znm G) (hk : ∀ q ∈ ld_X2_solve_r1, zlk G q.1 q.2 = true)  : ∀ n, ∀ (ls : Array Slot) (H : Heap) (locs : List Loc) (h : zH) (x2 : Int32), lv_has ls 5 [(0, .ref (zal G 74)), (1, .ref (zal G 1)), (2, .int x2)] → zS G h s.heap H locs → f_X2_solve_r1_15  n x2 h = some q → W p l e (zrm (5)) s m args below meth c H locs 0 0 (MQ below (zQI G q.2 q.1) args s 0 0 (zA G)) (F0 m 15 ls []) := by
  intro n
  induction n with
  | zero => intro ls H locs h x2 hl hS hf; cases hf
  | succ n ih =>
    intro ls H locs h x2 hl hS hf
    rw [f_X2_solve_r1_15] at hf
    refine lv_iload_n C.1 C.2.1 dX2_solve_15 rfl (lv_at hl 2 rfl) ?_
    refine lv_aload_n C.1 C.2.1 dX2_solve_16 rfl (lv_at hl 0 rfl) ?_
    refine zgetI C hS ff_X2_37_74 (hm 74 (by decide)) dX2_solve_17 ?_
    refine lv_icmp_ge (tgt := 73) C.1 C.2.1 dX2_solve_20 (by decide) (fun hc => ?_) (fun hc => ?_)
    · have hf := zif_t hc hf
      refine lv_iconst (v := (1 : Int32)) C.1 C.2.1 dX2_solve_73 rfl ?_
      refine lv_aload_n C.1 C.2.1 dX2_solve_74 rfl (lv_at hl 0 rfl) ?_
      refine zgetI C hS ff_X2_41_74 (hm 74 (by decide)) dX2_solve_75 ?_
      refine lv_ishl C.1 C.2.1 dX2_solve_78 ?_
      obtain ⟨y3, ey3, hf⟩ := zlt_some hf
      refine ztop ey3 ?_
      refine lv_istore_n (lv' := [(2, .int y3), (0, .ref (zal G 74)), (1, .ref (zal G 1))]) C.1 C.2.1 dX2_solve_79 rfl hl (by decide) rfl (fun ls hl => ?_)
      refine lv_iconst (v := (0 : Int32)) C.1 C.2.1 dX2_solve_80 rfl ?_
      refine lv_istore_n (lv' := [(3, .int (0 : Int32)), (2, .int y3), (0, .ref (zal G 74)), (1, .ref (zal G 1))]) C.1 C.2.1 dX2_solve_81 rfl hl (by decide) rfl (fun ls hl => ?_)
      exact w_X2_solve_r1_82 C hm hk  zN _ _ _ _ _ _ (lv_sub hl [2, 1, 0] rfl) hS hf
    · have hf := zif_f hc hf
      refine lv_iconst (v := (0 : Int32)) C.1 C.2.1 dX2_solve_23 rfl ?_
      refine lv_istore_n (lv' := [(3, .int (0 : Int32)), (0, .ref (zal G 74)), (1, .ref (zal G 1)), (2, .int x2)]) C.1 C.2.1 dX2_solve_24 rfl hl (by decide) rfl (fun ls hl => ?_)
      exact w_X2_solve_r1_25 C hm hk ih zN _ _ _ _ _ _ (lv_sub hl [1, 2, 3, 0] rfl) hS hf
set_option maxHeartbeats 4000000 in
set_option maxRecDepth 100000 in
theorem c_X2_solve_r1 (l : Launch) (G : zG) (h : zH) (q : Int32 × zH) (hm : ∀ c ∈ nd_X2_solve_r1, c ∈ znm G) (hk : ∀ q ∈ ld_X2_solve_r1, zlk G q.1 q.2 = true) (hf : f_X2_solve_r1 h = some q) : zCtI l yX2_solve cX2_solve 5 (some .boolean) (5) [.ref (zal G 74), .ref (zal G 1)] G h q.2 q.1 := by
  refine zMetI (by decide) (Nat.le_of_ble_eq_true rfl) ?_
  intro p e s m below meth c ls C hl hS
  have hl : lv_has ls 5 [(0, .ref (zal G 74)), (1, .ref (zal G 1))] := hl
  have C : zC G p s m [.ref (zal G 74), .ref (zal G 1)].toArray meth c cX2_solve 5 RX2 (some .boolean) := C
  unfold f_X2_solve_r1 at hf
  refine lv_aload_n C.1 C.2.1 dX2_solve_0 rfl (lv_at hl 0 rfl) ?_
  refine lv_aload_n C.1 C.2.1 dX2_solve_1 rfl (lv_at hl 1 rfl) ?_
  refine zgetR C hS ff_X2_27_1 (hm 1 (by decide)) (hk (1, 0) (by decide)) dX2_solve_2 ?_
  obtain ⟨r1, h2, er1, hf⟩ := zbd_some hf
  refine zcallVI (As := [.ref (zal G 2)]) (rest := []) C hS mv_X2_33 (c_X2_gather_r2 l G h  (r1, h2) (fun c h => hm c (sn_X2_solve_r1_X2_gather_r2 c h)) (fun q h => hk q (sl_X2_solve_r1_X2_gather_r2 q h)) er1) (hm 74 (by decide)) ⟨_, _, _, sh_74, rfl, rfl⟩ rfl rfl (Nat.le_of_ble_eq_true rfl) hl.1 ⟨Nat.le_of_ble_eq_true rfl, Nat.le_of_ble_eq_true rfl, Nat.le_of_ble_eq_true rfl, Nat.le_of_ble_eq_true rfl⟩ dX2_solve_5 (fun H locs hS => ?_)
  refine lv_if_ne (tgt := 13) C.1 C.2.1 dX2_solve_8 (by decide) (fun hc => ?_) (fun hc => ?_)
  · have hf := zif_f hc hf
    refine lv_iconst (v := (0 : Int32)) C.1 C.2.1 dX2_solve_13 rfl ?_
    refine lv_istore_n (lv' := [(2, .int (0 : Int32)), (0, .ref (zal G 74)), (1, .ref (zal G 1))]) C.1 C.2.1 dX2_solve_14 rfl hl (by decide) rfl (fun ls hl => ?_)
    exact w_X2_solve_r1_15 C hm hk  zN _ _ _ _ _ (lv_sub hl [1, 2, 0] rfl) hS hf
  · have hf := zif_t hc hf
    refine lv_iconst (v := (0 : Int32)) C.1 C.2.1 dX2_solve_11 rfl ?_
    exact zretZ C hS rfl hf dX2_solve_12
end
section
theorem dX10_areAlike_0 : decode cX10_areAlike 0 = .ok (.iconst 0, 1) := by decide +kernel
theorem dX10_areAlike_1 : decode cX10_areAlike 1 = .ok (.istore 4, 2) := by decide +kernel
theorem dX10_areAlike_3 : decode cX10_areAlike 3 = .ok (.iload 4, 2) := by decide +kernel
theorem dX10_areAlike_5 : decode cX10_areAlike 5 = .ok (.iload_n 3, 1) := by decide +kernel
theorem dX10_areAlike_6 : decode cX10_areAlike 6 = .ok (.if_icmp .ge 38, 3) := by decide +kernel
theorem dX10_areAlike_9 : decode cX10_areAlike 9 = .ok (.aload_n 0, 1) := by decide +kernel
theorem dX10_areAlike_10 : decode cX10_areAlike 10 = .ok (.getfield 11, 3) := by decide +kernel
theorem dX10_areAlike_13 : decode cX10_areAlike 13 = .ok (.iload_n 1, 1) := by decide +kernel
theorem dX10_areAlike_14 : decode cX10_areAlike 14 = .ok (.bipush 16, 2) := by decide +kernel
theorem dX10_areAlike_16 : decode cX10_areAlike 16 = .ok (.imul, 1) := by decide +kernel
theorem dX10_areAlike_17 : decode cX10_areAlike 17 = .ok (.iload 4, 2) := by decide +kernel
theorem dX10_areAlike_19 : decode cX10_areAlike 19 = .ok (.iadd, 1) := by decide +kernel
theorem dX10_areAlike_20 : decode cX10_areAlike 20 = .ok (.iaload, 1) := by decide +kernel
theorem dX10_areAlike_21 : decode cX10_areAlike 21 = .ok (.aload_n 0, 1) := by decide +kernel
theorem dX10_areAlike_22 : decode cX10_areAlike 22 = .ok (.getfield 11, 3) := by decide +kernel
theorem dX10_areAlike_25 : decode cX10_areAlike 25 = .ok (.iload_n 2, 1) := by decide +kernel
theorem dX10_areAlike_26 : decode cX10_areAlike 26 = .ok (.bipush 16, 2) := by decide +kernel
theorem dX10_areAlike_28 : decode cX10_areAlike 28 = .ok (.imul, 1) := by decide +kernel
theorem dX10_areAlike_29 : decode cX10_areAlike 29 = .ok (.iload 4, 2) := by decide +kernel
theorem dX10_areAlike_31 : decode cX10_areAlike 31 = .ok (.iadd, 1) := by decide +kernel
theorem dX10_areAlike_32 : decode cX10_areAlike 32 = .ok (.iaload, 1) := by decide +kernel
theorem dX10_areAlike_33 : decode cX10_areAlike 33 = .ok (.if_icmp .eq 5, 3) := by decide +kernel
theorem dX10_areAlike_36 : decode cX10_areAlike 36 = .ok (.iconst 0, 1) := by decide +kernel
theorem dX10_areAlike_37 : decode cX10_areAlike 37 = .ok (.ireturn, 1) := by decide +kernel
theorem dX10_areAlike_38 : decode cX10_areAlike 38 = .ok (.iinc 4 1, 3) := by decide +kernel
theorem dX10_areAlike_41 : decode cX10_areAlike 41 = .ok (.goto (-38), 3) := by decide +kernel
theorem dX10_areAlike_44 : decode cX10_areAlike 44 = .ok (.iconst 1, 1) := by decide +kernel
theorem dX10_areAlike_45 : decode cX10_areAlike 45 = .ok (.ireturn, 1) := by decide +kernel
abbrev nd_X10_areAlike : List Nat := [80, 81]
abbrev ld_X10_areAlike : List (Nat × Nat) := [(80, 0)]
def f_X10_areAlike_3  : Nat → Int32 → Int32 → Int32 → Int32 → zH → zR
  | 0 => fun _ _ _ _ _ => none
  | n + 1 => fun x1 x2 x3 x4 h => (if x3 ≤ x4 then (some ((1 : Int32), h)) else (zck ((x1 * (16 : Int32)) + x4) 656 (zck ((x2 * (16 : Int32)) + x4) 656 (if (h 81 (Int32.toNatClampNeg ((x1 * (16 : Int32)) + x4))) = (h 81 (Int32.toNatClampNeg ((x2 * (16 : Int32)) + x4))) then (zlt (x4 + (1 : Int32)) fun y1 => (f_X10_areAlike_3  n x1 x2 x3 y1 h)) else (some ((0 : Int32), h))))))
def f_X10_areAlike  (x1 : Int32) (x2 : Int32) (x3 : Int32) (h : zH) : zR := (f_X10_areAlike_3  zN x1 x2 x3 (0 : Int32) h)
variable {p : Program} {l : Launch} {e : Env} {s : State} {m : MethodId} {args : Array Value} {below : List Frame} {meth : Method} {c : Code} {G : zG} {q : Int32 × zH}
set_option maxHeartbeats 4000000 in
set_option maxRecDepth 100000 in
theorem w_X10_areAlike_3  (C : zC G p s m args meth c cX10_areAlike 5 RX10 (some .boolean)) (hm : ∀ c ∈ nd_X10_areAlike, c ∈ znm G) (hk : ∀ q ∈ ld_X10_areAlike, zlk G q.1 q.2 = true)  : ∀ n, ∀ (ls : Array Slot) (H : Heap) (locs : List Loc) (h : zH) (x1 : Int32) (x2 : Int32) (x3 : Int32) (x4 : Int32), lv_has ls 5 [(0, .ref (zal G 80)), (1, .int x1), (2, .int x2), (3, .int x3), (4, .int x4)] → zS G h s.heap H locs → f_X10_areAlike_3  n x1 x2 x3 x4 h = some q → W p l e (zrm (2)) s m args below meth c H locs 0 0 (MQ below (zQI G q.2 q.1) args s 0 0 (zA G)) (F0 m 3 ls []) := by
  intro n
  induction n with
  | zero => intro ls H locs h x1 x2 x3 x4 hl hS hf; cases hf
  | succ n ih =>
    intro ls H locs h x1 x2 x3 x4 hl hS hf
    rw [f_X10_areAlike_3] at hf
    refine lv_iload C.1 C.2.1 dX10_areAlike_3 (lv_at hl 4 rfl) ?_
    refine lv_iload_n C.1 C.2.1 dX10_areAlike_5 rfl (lv_at hl 3 rfl) ?_
    refine lv_icmp_ge (tgt := 44) C.1 C.2.1 dX10_areAlike_6 (by decide) (fun hc => ?_) (fun hc => ?_)
    · have hf := zif_t hc hf
      refine lv_iconst (v := (1 : Int32)) C.1 C.2.1 dX10_areAlike_44 rfl ?_
      exact zretZ C hS rfl hf dX10_areAlike_45
    · have hf := zif_f hc hf
      refine lv_aload_n C.1 C.2.1 dX10_areAlike_9 rfl (lv_at hl 0 rfl) ?_
      refine zgetR C hS ff_X10_11_80 (hm 80 (by decide)) (hk (80, 0) (by decide)) dX10_areAlike_10 ?_
      refine lv_iload_n C.1 C.2.1 dX10_areAlike_13 rfl (lv_at hl 1 rfl) ?_
      refine lv_bipush (v := (16 : Int32)) C.1 C.2.1 dX10_areAlike_14 rfl ?_
      refine lv_imul C.1 C.2.1 dX10_areAlike_16 ?_
      refine lv_iload C.1 C.2.1 dX10_areAlike_17 (lv_at hl 4 rfl) ?_
      refine lv_iadd C.1 C.2.1 dX10_areAlike_19 ?_
      obtain ⟨hi, hf⟩ := zck_some hf
      refine zald C hS sh_81 (hm 81 (by decide)) hi dX10_areAlike_20 ?_
      refine lv_aload_n C.1 C.2.1 dX10_areAlike_21 rfl (lv_at hl 0 rfl) ?_
      refine zgetR C hS ff_X10_11_80 (hm 80 (by decide)) (hk (80, 0) (by decide)) dX10_areAlike_22 ?_
      refine lv_iload_n C.1 C.2.1 dX10_areAlike_25 rfl (lv_at hl 2 rfl) ?_
      refine lv_bipush (v := (16 : Int32)) C.1 C.2.1 dX10_areAlike_26 rfl ?_
      refine lv_imul C.1 C.2.1 dX10_areAlike_28 ?_
      refine lv_iload C.1 C.2.1 dX10_areAlike_29 (lv_at hl 4 rfl) ?_
      refine lv_iadd C.1 C.2.1 dX10_areAlike_31 ?_
      obtain ⟨hi, hf⟩ := zck_some hf
      refine zald C hS sh_81 (hm 81 (by decide)) hi dX10_areAlike_32 ?_
      refine lv_icmp_eq (tgt := 38) C.1 C.2.1 dX10_areAlike_33 (by decide) (fun hc => ?_) (fun hc => ?_)
      · have hf := zif_t hc hf
        obtain ⟨y1, ey1, hf⟩ := zlt_some hf
        refine lv_iinc (v := y1) (lv' := [(4, .int y1), (0, .ref (zal G 80)), (1, .int x1), (2, .int x2), (3, .int x3)]) C.1 C.2.1 dX10_areAlike_38 hl (k := 4) rfl ey1.symm (by decide) rfl (fun ls hl => ?_)
        refine lv_goto (tgt := 3) C.1 C.2.1 dX10_areAlike_41 (by decide) ?_
        exact ih _ _ _ _ _ _ _ _ (lv_sub hl [1, 2, 3, 4, 0] rfl) hS hf
      · have hf := zif_f hc hf
        refine lv_iconst (v := (0 : Int32)) C.1 C.2.1 dX10_areAlike_36 rfl ?_
        exact zretZ C hS rfl hf dX10_areAlike_37
set_option maxHeartbeats 4000000 in
set_option maxRecDepth 100000 in
theorem c_X10_areAlike (l : Launch) (G : zG) (h : zH) (x1 : Int32) (x2 : Int32) (x3 : Int32) (q : Int32 × zH) (hm : ∀ c ∈ nd_X10_areAlike, c ∈ znm G) (hk : ∀ q ∈ ld_X10_areAlike, zlk G q.1 q.2 = true) (hf : f_X10_areAlike x1 x2 x3 h = some q) : zCtI l yX10_areAlike cX10_areAlike 5 (some .boolean) (2) [.ref (zal G 80), .int x1, .int x2, .int x3] G h q.2 q.1 := by
  refine zMetI (by decide) (Nat.le_of_ble_eq_true rfl) ?_
  intro p e s m below meth c ls C hl hS
  have hl : lv_has ls 5 [(0, .ref (zal G 80)), (1, .int x1), (2, .int x2), (3, .int x3)] := hl
  have C : zC G p s m [.ref (zal G 80), .int x1, .int x2, .int x3].toArray meth c cX10_areAlike 5 RX10 (some .boolean) := C
  unfold f_X10_areAlike at hf
  refine lv_iconst (v := (0 : Int32)) C.1 C.2.1 dX10_areAlike_0 rfl ?_
  refine lv_istore (lv' := [(4, .int (0 : Int32)), (0, .ref (zal G 80)), (1, .int x1), (2, .int x2), (3, .int x3)]) C.1 C.2.1 dX10_areAlike_1 hl (by decide) rfl (fun ls hl => ?_)
  exact w_X10_areAlike_3 C hm hk  zN _ _ _ _ _ _ _ _ (lv_sub hl [1, 2, 3, 4, 0] rfl) hS hf
end
section
theorem dX10_judge_0 : decode cX10_judge 0 = .ok (.aload_n 0, 1) := by decide +kernel
theorem dX10_judge_1 : decode cX10_judge 1 = .ok (.iconst (-1), 1) := by decide +kernel
theorem dX10_judge_2 : decode cX10_judge 2 = .ok (.putfield 57, 3) := by decide +kernel
theorem dX10_judge_5 : decode cX10_judge 5 = .ok (.aload_n 0, 1) := by decide +kernel
theorem dX10_judge_6 : decode cX10_judge 6 = .ok (.iconst 0, 1) := by decide +kernel
theorem dX10_judge_7 : decode cX10_judge 7 = .ok (.putfield 60, 3) := by decide +kernel
theorem dX10_judge_10 : decode cX10_judge 10 = .ok (.iconst 1, 1) := by decide +kernel
theorem dX10_judge_11 : decode cX10_judge 11 = .ok (.istore_n 2, 1) := by decide +kernel
theorem dX10_judge_12 : decode cX10_judge 12 = .ok (.iload_n 2, 1) := by decide +kernel
theorem dX10_judge_13 : decode cX10_judge 13 = .ok (.bipush 40, 2) := by decide +kernel
theorem dX10_judge_15 : decode cX10_judge 15 = .ok (.if_icmp .gt 77, 3) := by decide +kernel
theorem dX10_judge_18 : decode cX10_judge 18 = .ok (.iconst 0, 1) := by decide +kernel
theorem dX10_judge_19 : decode cX10_judge 19 = .ok (.istore_n 3, 1) := by decide +kernel
theorem dX10_judge_20 : decode cX10_judge 20 = .ok (.iload_n 3, 1) := by decide +kernel
theorem dX10_judge_21 : decode cX10_judge 21 = .ok (.iload_n 2, 1) := by decide +kernel
theorem dX10_judge_22 : decode cX10_judge 22 = .ok (.if_icmp .ge 64, 3) := by decide +kernel
theorem dX10_judge_25 : decode cX10_judge 25 = .ok (.aload_n 0, 1) := by decide +kernel
theorem dX10_judge_26 : decode cX10_judge 26 = .ok (.iload_n 3, 1) := by decide +kernel
theorem dX10_judge_27 : decode cX10_judge 27 = .ok (.iload_n 2, 1) := by decide +kernel
theorem dX10_judge_28 : decode cX10_judge 28 = .ok (.iload_n 1, 1) := by decide +kernel
theorem dX10_judge_29 : decode cX10_judge 29 = .ok (.invokevirtual 63, 3) := by decide +kernel
theorem dX10_judge_32 : decode cX10_judge 32 = .ok (.ifCond .eq 48, 3) := by decide +kernel
theorem dX10_judge_35 : decode cX10_judge 35 = .ok (.iload_n 3, 1) := by decide +kernel
theorem dX10_judge_36 : decode cX10_judge 36 = .ok (.iload_n 2, 1) := by decide +kernel
theorem dX10_judge_37 : decode cX10_judge 37 = .ok (.iconst 1, 1) := by decide +kernel
theorem dX10_judge_38 : decode cX10_judge 38 = .ok (.isub, 1) := by decide +kernel
theorem dX10_judge_39 : decode cX10_judge 39 = .ok (.if_icmp .ne 7, 3) := by decide +kernel
theorem dX10_judge_42 : decode cX10_judge 42 = .ok (.iconst 1, 1) := by decide +kernel
theorem dX10_judge_43 : decode cX10_judge 43 = .ok (.goto 4, 3) := by decide +kernel
theorem dX10_judge_46 : decode cX10_judge 46 = .ok (.iconst 0, 1) := by decide +kernel
theorem dX10_judge_47 : decode cX10_judge 47 = .ok (.istore 4, 2) := by decide +kernel
theorem dX10_judge_49 : decode cX10_judge 49 = .ok (.aload_n 0, 1) := by decide +kernel
theorem dX10_judge_50 : decode cX10_judge 50 = .ok (.iload 4, 2) := by decide +kernel
theorem dX10_judge_52 : decode cX10_judge 52 = .ok (.ifCond .eq 7, 3) := by decide +kernel
theorem dX10_judge_55 : decode cX10_judge 55 = .ok (.iload_n 3, 1) := by decide +kernel
theorem dX10_judge_56 : decode cX10_judge 56 = .ok (.goto 4, 3) := by decide +kernel
theorem dX10_judge_59 : decode cX10_judge 59 = .ok (.iconst (-1), 1) := by decide +kernel
theorem dX10_judge_60 : decode cX10_judge 60 = .ok (.putfield 57, 3) := by decide +kernel
theorem dX10_judge_63 : decode cX10_judge 63 = .ok (.aload_n 0, 1) := by decide +kernel
theorem dX10_judge_64 : decode cX10_judge 64 = .ok (.iload 4, 2) := by decide +kernel
theorem dX10_judge_66 : decode cX10_judge 66 = .ok (.ifCond .eq 7, 3) := by decide +kernel
theorem dX10_judge_69 : decode cX10_judge 69 = .ok (.iconst 0, 1) := by decide +kernel
theorem dX10_judge_70 : decode cX10_judge 70 = .ok (.goto 6, 3) := by decide +kernel
theorem dX10_judge_73 : decode cX10_judge 73 = .ok (.iload_n 2, 1) := by decide +kernel
theorem dX10_judge_74 : decode cX10_judge 74 = .ok (.iload_n 3, 1) := by decide +kernel
theorem dX10_judge_75 : decode cX10_judge 75 = .ok (.isub, 1) := by decide +kernel
theorem dX10_judge_76 : decode cX10_judge 76 = .ok (.putfield 60, 3) := by decide +kernel
theorem dX10_judge_79 : decode cX10_judge 79 = .ok (.return_, 1) := by decide +kernel
theorem dX10_judge_80 : decode cX10_judge 80 = .ok (.iinc 3 1, 3) := by decide +kernel
theorem dX10_judge_83 : decode cX10_judge 83 = .ok (.goto (-63), 3) := by decide +kernel
theorem dX10_judge_86 : decode cX10_judge 86 = .ok (.iinc 2 1, 3) := by decide +kernel
theorem dX10_judge_89 : decode cX10_judge 89 = .ok (.goto (-77), 3) := by decide +kernel
theorem dX10_judge_92 : decode cX10_judge 92 = .ok (.return_, 1) := by decide +kernel
abbrev nd_X10_judge : List Nat := [80, 81]
abbrev ld_X10_judge : List (Nat × Nat) := [(80, 0)]
theorem sn_X10_judge_X10_areAlike : ∀ c ∈ nd_X10_areAlike, c ∈ nd_X10_judge := by decide
theorem sl_X10_judge_X10_areAlike : ∀ q ∈ ld_X10_areAlike, q ∈ ld_X10_judge := by decide
def f_X10_judge_76  (s0 : Int32) (h : zH) : zR := (zst (zup h 80 3 s0) fun h8 => (some (0, h8)))
def f_X10_judge_60  (x2 : Int32) (x3 : Int32) (x4 : Int32) (s0 : Int32) (h : zH) : zR := (zst (zup h 80 2 s0) fun h7 => (if x4 = 0 then (f_X10_judge_76  (x2 - x3) h7) else (f_X10_judge_76  (0 : Int32) h7)))
def f_X10_judge_47  (x2 : Int32) (x3 : Int32) (s0 : Int32) (h : zH) : zR := (if s0 = 0 then (f_X10_judge_60  x2 x3 s0 (-1 : Int32) h) else (f_X10_judge_60  x2 x3 s0 x3 h))
def f_X10_judge_20 (k12 : Int32 → Int32 → zH → zR) : Nat → Int32 → Int32 → Int32 → zH → zR
  | 0 => fun _ _ _ _ => none
  | n + 1 => fun x1 x2 x3 h => (if x2 ≤ x3 then (zlt (x2 + (1 : Int32)) fun y3 => (k12 x1 y3 h)) else (zbd (f_X10_areAlike x3 x2 x1 h) fun r4 h5 => (if r4 = 0 then (zlt (x3 + (1 : Int32)) fun y6 => (f_X10_judge_20 k12 n x1 x2 y6 h5)) else (if x3 = (x2 - (1 : Int32)) then (f_X10_judge_47  x2 x3 (1 : Int32) h5) else (f_X10_judge_47  x2 x3 (0 : Int32) h5)))))
def f_X10_judge_12  : Nat → Int32 → Int32 → zH → zR
  | 0 => fun _ _ _ => none
  | n + 1 => fun x1 x2 h => (if (40 : Int32) < x2 then (some (0, h)) else (f_X10_judge_20 (f_X10_judge_12  n) zN x1 x2 (0 : Int32) h))
def f_X10_judge  (x1 : Int32) (h : zH) : zR := (zst (zup h 80 2 (-1 : Int32)) fun h1 => (zst (zup h1 80 3 (0 : Int32)) fun h2 => (f_X10_judge_12  zN x1 (1 : Int32) h2)))
variable {p : Program} {l : Launch} {e : Env} {s : State} {m : MethodId} {args : Array Value} {below : List Frame} {meth : Method} {c : Code} {G : zG} {q : Int32 × zH}
set_option maxHeartbeats 4000000 in
set_option maxRecDepth 100000 in
theorem w_X10_judge_76  (C : zC G p s m args meth c cX10_judge 5 RX10 none) (hm : ∀ c ∈ nd_X10_judge, c ∈ znm G) (hk : ∀ q ∈ ld_X10_judge, zlk G q.1 q.2 = true)  : ∀ (ls : Array Slot) (H : Heap) (locs : List Loc) (h : zH) (s0 : Int32), lv_has ls 5 [] → zS G h s.heap H locs → f_X10_judge_76  s0 h = some q → W p l e (zrm (3)) s m args below meth c H locs 0 0 (MQ below (zQV G q.2) args s 0 0 (zA G)) (F0 m 76 ls [.int s0, .ref (zal G 80)]) := by
  intro ls H locs h s0 hl hS hf
  unfold f_X10_judge_76 at hf
  refine zputI C hS ff_X10_60_80 fw_80_3 (hm 80 (by decide)) dX10_judge_76 (fun H locs hS => ?_)
  obtain ⟨h8, eh8, hf⟩ := zst_some hf
  have hS : zS G h8 s.heap H locs := by rw [eh8]; exact hS
  exact zretV C hS hf dX10_judge_79
set_option maxHeartbeats 4000000 in
set_option maxRecDepth 100000 in
theorem w_X10_judge_60  (C : zC G p s m args meth c cX10_judge 5 RX10 none) (hm : ∀ c ∈ nd_X10_judge, c ∈ znm G) (hk : ∀ q ∈ ld_X10_judge, zlk G q.1 q.2 = true)  : ∀ (ls : Array Slot) (H : Heap) (locs : List Loc) (h : zH) (x2 : Int32) (x3 : Int32) (x4 : Int32) (s0 : Int32), lv_has ls 5 [(0, .ref (zal G 80)), (2, .int x2), (3, .int x3), (4, .int x4)] → zS G h s.heap H locs → f_X10_judge_60  x2 x3 x4 s0 h = some q → W p l e (zrm (3)) s m args below meth c H locs 0 0 (MQ below (zQV G q.2) args s 0 0 (zA G)) (F0 m 60 ls [.int s0, .ref (zal G 80)]) := by
  intro ls H locs h x2 x3 x4 s0 hl hS hf
  unfold f_X10_judge_60 at hf
  refine zputI C hS ff_X10_57_80 fw_80_2 (hm 80 (by decide)) dX10_judge_60 (fun H locs hS => ?_)
  obtain ⟨h7, eh7, hf⟩ := zst_some hf
  have hS : zS G h7 s.heap H locs := by rw [eh7]; exact hS
  refine lv_aload_n C.1 C.2.1 dX10_judge_63 rfl (lv_at hl 0 rfl) ?_
  refine lv_iload C.1 C.2.1 dX10_judge_64 (lv_at hl 3 rfl) ?_
  refine lv_if_eq (tgt := 73) C.1 C.2.1 dX10_judge_66 (by decide) (fun hc => ?_) (fun hc => ?_)
  · have hf := zif_t hc hf
    refine lv_iload_n C.1 C.2.1 dX10_judge_73 rfl (lv_at hl 1 rfl) ?_
    refine lv_iload_n C.1 C.2.1 dX10_judge_74 rfl (lv_at hl 2 rfl) ?_
    refine lv_isub C.1 C.2.1 dX10_judge_75 ?_
    exact w_X10_judge_76 C hm hk  _ _ _ _ _ (lv_sub hl [] rfl) hS hf
  · have hf := zif_f hc hf
    refine lv_iconst (v := (0 : Int32)) C.1 C.2.1 dX10_judge_69 rfl ?_
    refine lv_goto (tgt := 76) C.1 C.2.1 dX10_judge_70 (by decide) ?_
    exact w_X10_judge_76 C hm hk  _ _ _ _ _ (lv_sub hl [] rfl) hS hf
set_option maxHeartbeats 4000000 in
set_option maxRecDepth 100000 in
theorem w_X10_judge_47  (C : zC G p s m args meth c cX10_judge 5 RX10 none) (hm : ∀ c ∈ nd_X10_judge, c ∈ znm G) (hk : ∀ q ∈ ld_X10_judge, zlk G q.1 q.2 = true)  : ∀ (ls : Array Slot) (H : Heap) (locs : List Loc) (h : zH) (x2 : Int32) (x3 : Int32) (s0 : Int32), lv_has ls 5 [(0, .ref (zal G 80)), (2, .int x2), (3, .int x3)] → zS G h s.heap H locs → f_X10_judge_47  x2 x3 s0 h = some q → W p l e (zrm (3)) s m args below meth c H locs 0 0 (MQ below (zQV G q.2) args s 0 0 (zA G)) (F0 m 47 ls [.int s0]) := by
  intro ls H locs h x2 x3 s0 hl hS hf
  unfold f_X10_judge_47 at hf
  refine lv_istore (lv' := [(4, .int s0), (0, .ref (zal G 80)), (2, .int x2), (3, .int x3)]) C.1 C.2.1 dX10_judge_47 hl (by decide) rfl (fun ls hl => ?_)
  refine lv_aload_n C.1 C.2.1 dX10_judge_49 rfl (lv_at hl 1 rfl) ?_
  refine lv_iload C.1 C.2.1 dX10_judge_50 (lv_at hl 0 rfl) ?_
  refine lv_if_eq (tgt := 59) C.1 C.2.1 dX10_judge_52 (by decide) (fun hc => ?_) (fun hc => ?_)
  · have hf := zif_t hc hf
    refine lv_iconst (v := (-1 : Int32)) C.1 C.2.1 dX10_judge_59 rfl ?_
    exact w_X10_judge_60 C hm hk  _ _ _ _ _ _ _ _ (lv_sub hl [1, 2, 3, 0] rfl) hS hf
  · have hf := zif_f hc hf
    refine lv_iload_n C.1 C.2.1 dX10_judge_55 rfl (lv_at hl 3 rfl) ?_
    refine lv_goto (tgt := 60) C.1 C.2.1 dX10_judge_56 (by decide) ?_
    exact w_X10_judge_60 C hm hk  _ _ _ _ _ _ _ _ (lv_sub hl [1, 2, 3, 0] rfl) hS hf
set_option maxHeartbeats 4000000 in
set_option maxRecDepth 100000 in
theorem w_X10_judge_20 {k12 : Int32 → Int32 → zH → zR} (C : zC G p s m args meth c cX10_judge 5 RX10 none) (hm : ∀ c ∈ nd_X10_judge, c ∈ znm G) (hk : ∀ q ∈ ld_X10_judge, zlk G q.1 q.2 = true) (hk12 : ∀ (ls : Array Slot) (H : Heap) (locs : List Loc) (h : zH) (x1 : Int32) (x2 : Int32), lv_has ls 5 [(0, .ref (zal G 80)), (1, .int x1), (2, .int x2)] → zS G h s.heap H locs → k12 x1 x2 h = some q → W p l e (zrm (3)) s m args below meth c H locs 0 0 (MQ below (zQV G q.2) args s 0 0 (zA G)) (F0 m 12 ls [])) : ∀ n, ∀ (ls : Array Slot) (H : Heap) (locs : List Loc) (h : zH) (x1 : Int32) (x2 : Int32) (x3 : Int32), lv_has ls 5 [(0, .ref (zal G 80)), (1, .int x1), (2, .int x2), (3, .int x3)] → zS G h s.heap H locs → f_X10_judge_20 k12 n x1 x2 x3 h = some q → W p l e (zrm (3)) s m args below meth c H locs 0 0 (MQ below (zQV G q.2) args s 0 0 (zA G)) (F0 m 20 ls []) := by
  intro n
  induction n with
  | zero => intro ls H locs h x1 x2 x3 hl hS hf; cases hf
  | succ n ih =>
    intro ls H locs h x1 x2 x3 hl hS hf
    rw [f_X10_judge_20] at hf
    refine lv_iload_n C.1 C.2.1 dX10_judge_20 rfl (lv_at hl 3 rfl) ?_
    refine lv_iload_n C.1 C.2.1 dX10_judge_21 rfl (lv_at hl 2 rfl) ?_
    refine lv_icmp_ge (tgt := 86) C.1 C.2.1 dX10_judge_22 (by decide) (fun hc => ?_) (fun hc => ?_)
    · have hf := zif_t hc hf
      obtain ⟨y3, ey3, hf⟩ := zlt_some hf
      refine lv_iinc (v := y3) (lv' := [(2, .int y3), (0, .ref (zal G 80)), (1, .int x1), (3, .int x3)]) C.1 C.2.1 dX10_judge_86 hl (k := 2) rfl ey3.symm (by decide) rfl (fun ls hl => ?_)
      refine lv_goto (tgt := 12) C.1 C.2.1 dX10_judge_89 (by decide) ?_
      exact hk12 _ _ _ _ _ _ (lv_sub hl [1, 2, 0] rfl) hS hf
    · have hf := zif_f hc hf
      refine lv_aload_n C.1 C.2.1 dX10_judge_25 rfl (lv_at hl 0 rfl) ?_
      refine lv_iload_n C.1 C.2.1 dX10_judge_26 rfl (lv_at hl 3 rfl) ?_
      refine lv_iload_n C.1 C.2.1 dX10_judge_27 rfl (lv_at hl 2 rfl) ?_
      refine lv_iload_n C.1 C.2.1 dX10_judge_28 rfl (lv_at hl 1 rfl) ?_
      obtain ⟨r4, h5, er4, hf⟩ := zbd_some hf
      refine zcallVI (As := [.int x3, .int x2, .int x1]) (rest := []) C hS mv_X10_63 (c_X10_areAlike l G h x3 x2 x1 (r4, h5) (fun c h => hm c (sn_X10_judge_X10_areAlike c h)) (fun q h => hk q (sl_X10_judge_X10_areAlike q h)) er4) (hm 80 (by decide)) ⟨_, _, _, sh_80, rfl, rfl⟩ rfl rfl (Nat.le_of_ble_eq_true rfl) hl.1 ⟨Nat.le_of_ble_eq_true rfl, Nat.le_of_ble_eq_true rfl, Nat.le_of_ble_eq_true rfl, Nat.le_of_ble_eq_true rfl⟩ dX10_judge_29 (fun H locs hS => ?_)
      refine lv_if_eq (tgt := 80) C.1 C.2.1 dX10_judge_32 (by decide) (fun hc => ?_) (fun hc => ?_)
      · have hf := zif_t hc hf
        obtain ⟨y6, ey6, hf⟩ := zlt_some hf
        refine lv_iinc (v := y6) (lv' := [(3, .int y6), (0, .ref (zal G 80)), (1, .int x1), (2, .int x2)]) C.1 C.2.1 dX10_judge_80 hl (k := 3) rfl ey6.symm (by decide) rfl (fun ls hl => ?_)
        refine lv_goto (tgt := 20) C.1 C.2.1 dX10_judge_83 (by decide) ?_
        exact ih _ _ _ _ _ _ _ (lv_sub hl [1, 2, 3, 0] rfl) hS hf
      · have hf := zif_f hc hf
        refine lv_iload_n C.1 C.2.1 dX10_judge_35 rfl (lv_at hl 3 rfl) ?_
        refine lv_iload_n C.1 C.2.1 dX10_judge_36 rfl (lv_at hl 2 rfl) ?_
        refine lv_iconst (v := (1 : Int32)) C.1 C.2.1 dX10_judge_37 rfl ?_
        refine lv_isub C.1 C.2.1 dX10_judge_38 ?_
        refine lv_icmp_ne (tgt := 46) C.1 C.2.1 dX10_judge_39 (by decide) (fun hc => ?_) (fun hc => ?_)
        · have hf := zif_f hc hf
          refine lv_iconst (v := (0 : Int32)) C.1 C.2.1 dX10_judge_46 rfl ?_
          exact w_X10_judge_47 C hm hk  _ _ _ _ _ _ _ (lv_sub hl [0, 2, 3] rfl) hS hf
        · have hf := zif_t hc hf
          refine lv_iconst (v := (1 : Int32)) C.1 C.2.1 dX10_judge_42 rfl ?_
          refine lv_goto (tgt := 47) C.1 C.2.1 dX10_judge_43 (by decide) ?_
          exact w_X10_judge_47 C hm hk  _ _ _ _ _ _ _ (lv_sub hl [0, 2, 3] rfl) hS hf
set_option maxHeartbeats 4000000 in
set_option maxRecDepth 100000 in
theorem w_X10_judge_12  (C : zC G p s m args meth c cX10_judge 5 RX10 none) (hm : ∀ c ∈ nd_X10_judge, c ∈ znm G) (hk : ∀ q ∈ ld_X10_judge, zlk G q.1 q.2 = true)  : ∀ n, ∀ (ls : Array Slot) (H : Heap) (locs : List Loc) (h : zH) (x1 : Int32) (x2 : Int32), lv_has ls 5 [(0, .ref (zal G 80)), (1, .int x1), (2, .int x2)] → zS G h s.heap H locs → f_X10_judge_12  n x1 x2 h = some q → W p l e (zrm (3)) s m args below meth c H locs 0 0 (MQ below (zQV G q.2) args s 0 0 (zA G)) (F0 m 12 ls []) := by
  intro n
  induction n with
  | zero => intro ls H locs h x1 x2 hl hS hf; cases hf
  | succ n ih =>
    intro ls H locs h x1 x2 hl hS hf
    rw [f_X10_judge_12] at hf
    refine lv_iload_n C.1 C.2.1 dX10_judge_12 rfl (lv_at hl 2 rfl) ?_
    refine lv_bipush (v := (40 : Int32)) C.1 C.2.1 dX10_judge_13 rfl ?_
    refine lv_icmp_gt (tgt := 92) C.1 C.2.1 dX10_judge_15 (by decide) (fun hc => ?_) (fun hc => ?_)
    · have hf := zif_t hc hf
      exact zretV C hS hf dX10_judge_92
    · have hf := zif_f hc hf
      refine lv_iconst (v := (0 : Int32)) C.1 C.2.1 dX10_judge_18 rfl ?_
      refine lv_istore_n (lv' := [(3, .int (0 : Int32)), (0, .ref (zal G 80)), (1, .int x1), (2, .int x2)]) C.1 C.2.1 dX10_judge_19 rfl hl (by decide) rfl (fun ls hl => ?_)
      exact w_X10_judge_20 C hm hk ih zN _ _ _ _ _ _ _ (lv_sub hl [1, 2, 3, 0] rfl) hS hf
set_option maxHeartbeats 4000000 in
set_option maxRecDepth 100000 in
theorem c_X10_judge (l : Launch) (G : zG) (h : zH) (x1 : Int32) (q : Int32 × zH) (hm : ∀ c ∈ nd_X10_judge, c ∈ znm G) (hk : ∀ q ∈ ld_X10_judge, zlk G q.1 q.2 = true) (hf : f_X10_judge x1 h = some q) : zCtV l yX10_judge cX10_judge 5 none (3) [.ref (zal G 80), .int x1] G h q.2 := by
  refine zMetV (by decide) (Nat.le_of_ble_eq_true rfl) ?_
  intro p e s m below meth c ls C hl hS
  have hl : lv_has ls 5 [(0, .ref (zal G 80)), (1, .int x1)] := hl
  have C : zC G p s m [.ref (zal G 80), .int x1].toArray meth c cX10_judge 5 RX10 none := C
  unfold f_X10_judge at hf
  refine lv_aload_n C.1 C.2.1 dX10_judge_0 rfl (lv_at hl 0 rfl) ?_
  refine lv_iconst (v := (-1 : Int32)) C.1 C.2.1 dX10_judge_1 rfl ?_
  refine zputI C hS ff_X10_57_80 fw_80_2 (hm 80 (by decide)) dX10_judge_2 (fun H locs hS => ?_)
  obtain ⟨h1, eh1, hf⟩ := zst_some hf
  have hS : zS G h1 s.heap H locs := by rw [eh1]; exact hS
  refine lv_aload_n C.1 C.2.1 dX10_judge_5 rfl (lv_at hl 0 rfl) ?_
  refine lv_iconst (v := (0 : Int32)) C.1 C.2.1 dX10_judge_6 rfl ?_
  refine zputI C hS ff_X10_60_80 fw_80_3 (hm 80 (by decide)) dX10_judge_7 (fun H locs hS => ?_)
  obtain ⟨h2, eh2, hf⟩ := zst_some hf
  have hS : zS G h2 s.heap H locs := by rw [eh2]; exact hS
  refine lv_iconst (v := (1 : Int32)) C.1 C.2.1 dX10_judge_10 rfl ?_
  refine lv_istore_n (lv' := [(2, .int (1 : Int32)), (0, .ref (zal G 80)), (1, .int x1)]) C.1 C.2.1 dX10_judge_11 rfl hl (by decide) rfl (fun ls hl => ?_)
  exact w_X10_judge_12 C hm hk  zN _ _ _ _ _ _ (lv_sub hl [1, 2, 0] rfl) hS hf
end
section
theorem dX10_greatest_0 : decode cX10_greatest 0 = .ok (.iconst 0, 1) := by decide +kernel
theorem dX10_greatest_1 : decode cX10_greatest 1 = .ok (.istore 4, 2) := by decide +kernel
theorem dX10_greatest_3 : decode cX10_greatest 3 = .ok (.iconst 0, 1) := by decide +kernel
theorem dX10_greatest_4 : decode cX10_greatest 4 = .ok (.istore 5, 2) := by decide +kernel
theorem dX10_greatest_6 : decode cX10_greatest 6 = .ok (.iload 5, 2) := by decide +kernel
theorem dX10_greatest_8 : decode cX10_greatest 8 = .ok (.aload_n 1, 1) := by decide +kernel
theorem dX10_greatest_9 : decode cX10_greatest 9 = .ok (.getfield 24, 3) := by decide +kernel
theorem dX10_greatest_12 : decode cX10_greatest 12 = .ok (.if_icmp .ge 53, 3) := by decide +kernel
theorem dX10_greatest_15 : decode cX10_greatest 15 = .ok (.aload_n 1, 1) := by decide +kernel
theorem dX10_greatest_16 : decode cX10_greatest 16 = .ok (.getfield 33, 3) := by decide +kernel
theorem dX10_greatest_19 : decode cX10_greatest 19 = .ok (.iload 5, 2) := by decide +kernel
theorem dX10_greatest_21 : decode cX10_greatest 21 = .ok (.iaload, 1) := by decide +kernel
theorem dX10_greatest_22 : decode cX10_greatest 22 = .ok (.aload_n 1, 1) := by decide +kernel
theorem dX10_greatest_23 : decode cX10_greatest 23 = .ok (.getfield 33, 3) := by decide +kernel
theorem dX10_greatest_26 : decode cX10_greatest 26 = .ok (.iload_n 2, 1) := by decide +kernel
theorem dX10_greatest_27 : decode cX10_greatest 27 = .ok (.iaload, 1) := by decide +kernel
theorem dX10_greatest_28 : decode cX10_greatest 28 = .ok (.if_icmp .eq 31, 3) := by decide +kernel
theorem dX10_greatest_31 : decode cX10_greatest 31 = .ok (.iload 4, 2) := by decide +kernel
theorem dX10_greatest_33 : decode cX10_greatest 33 = .ok (.aload_n 0, 1) := by decide +kernel
theorem dX10_greatest_34 : decode cX10_greatest 34 = .ok (.getfield 15, 3) := by decide +kernel
theorem dX10_greatest_37 : decode cX10_greatest 37 = .ok (.iload_n 2, 1) := by decide +kernel
theorem dX10_greatest_38 : decode cX10_greatest 38 = .ok (.iload 5, 2) := by decide +kernel
theorem dX10_greatest_40 : decode cX10_greatest 40 = .ok (.invokestatic 40, 3) := by decide +kernel
theorem dX10_greatest_43 : decode cX10_greatest 43 = .ok (.iaload, 1) := by decide +kernel
theorem dX10_greatest_44 : decode cX10_greatest 44 = .ok (.aload_n 0, 1) := by decide +kernel
theorem dX10_greatest_45 : decode cX10_greatest 45 = .ok (.getfield 11, 3) := by decide +kernel
theorem dX10_greatest_48 : decode cX10_greatest 48 = .ok (.iload_n 3, 1) := by decide +kernel
theorem dX10_greatest_49 : decode cX10_greatest 49 = .ok (.iload 5, 2) := by decide +kernel
theorem dX10_greatest_51 : decode cX10_greatest 51 = .ok (.iadd, 1) := by decide +kernel
theorem dX10_greatest_52 : decode cX10_greatest 52 = .ok (.iaload, 1) := by decide +kernel
theorem dX10_greatest_53 : decode cX10_greatest 53 = .ok (.isub, 1) := by decide +kernel
theorem dX10_greatest_54 : decode cX10_greatest 54 = .ok (.invokestatic 52, 3) := by decide +kernel
theorem dX10_greatest_57 : decode cX10_greatest 57 = .ok (.istore 4, 2) := by decide +kernel
theorem dX10_greatest_59 : decode cX10_greatest 59 = .ok (.iinc 5 1, 3) := by decide +kernel
theorem dX10_greatest_62 : decode cX10_greatest 62 = .ok (.goto (-56), 3) := by decide +kernel
theorem dX10_greatest_65 : decode cX10_greatest 65 = .ok (.iload 4, 2) := by decide +kernel
theorem dX10_greatest_67 : decode cX10_greatest 67 = .ok (.ireturn, 1) := by decide +kernel
abbrev nd_X10_greatest_r2 : List Nat := [2, 3, 80, 81, 82]
abbrev ld_X10_greatest_r2 : List (Nat × Nat) := [(2, 0), (80, 0), (80, 1)]
theorem sn_X10_greatest_r2_X11_pairOf : ∀ c ∈ nd_X11_pairOf, c ∈ nd_X10_greatest_r2 := by decide
theorem sl_X10_greatest_r2_X11_pairOf : ∀ q ∈ ld_X11_pairOf, q ∈ ld_X10_greatest_r2 := by decide
def f_X10_greatest_r2_59 (k6 : Int32 → Int32 → Int32 → Int32 → zH → zR) (x2 : Int32) (x3 : Int32) (x4 : Int32) (x5 : Int32) (h : zH) : zR := (zlt (x5 + (1 : Int32)) fun y1 => (k6 x2 x3 x4 y1 h))
def f_X10_greatest_r2_6  : Nat → Int32 → Int32 → Int32 → Int32 → zH → zR
  | 0 => fun _ _ _ _ _ => none
  | n + 1 => fun x2 x3 x4 x5 h => (if (h 2 4) ≤ x5 then (some (x4, h)) else (zck x5 16 (zck x2 16 (if (h 3 (Int32.toNatClampNeg x5)) = (h 3 (Int32.toNatClampNeg x2)) then (f_X10_greatest_r2_59 (f_X10_greatest_r2_6  n) x2 x3 x4 x5 h) else (zbd (f_X11_pairOf x2 x5 h) fun r2 h3 => (zck r2 256 (zck (x3 + x5) 656 (zlt (if x4 < ((h3 82 (Int32.toNatClampNeg r2)) - (h3 81 (Int32.toNatClampNeg (x3 + x5)))) then ((h3 82 (Int32.toNatClampNeg r2)) - (h3 81 (Int32.toNatClampNeg (x3 + x5)))) else x4) fun y4 => (f_X10_greatest_r2_59 (f_X10_greatest_r2_6  n) x2 x3 y4 x5 h3)))))))))
def f_X10_greatest_r2  (x2 : Int32) (x3 : Int32) (h : zH) : zR := (f_X10_greatest_r2_6  zN x2 x3 (0 : Int32) (0 : Int32) h)
variable {p : Program} {l : Launch} {e : Env} {s : State} {m : MethodId} {args : Array Value} {below : List Frame} {meth : Method} {c : Code} {G : zG} {q : Int32 × zH}
set_option maxHeartbeats 4000000 in
set_option maxRecDepth 100000 in
theorem w_X10_greatest_r2_59 {k6 : Int32 → Int32 → Int32 → Int32 → zH → zR} (C : zC G p s m args meth c cX10_greatest 6 RX10 (some .int)) (hm : ∀ c ∈ nd_X10_greatest_r2, c ∈ znm G) (hk : ∀ q ∈ ld_X10_greatest_r2, zlk G q.1 q.2 = true) (hk6 : ∀ (ls : Array Slot) (H : Heap) (locs : List Loc) (h : zH) (x2 : Int32) (x3 : Int32) (x4 : Int32) (x5 : Int32), lv_has ls 6 [(0, .ref (zal G 80)), (1, .ref (zal G 2)), (2, .int x2), (3, .int x3), (4, .int x4), (5, .int x5)] → zS G h s.heap H locs → k6 x2 x3 x4 x5 h = some q → W p l e (zrm (3)) s m args below meth c H locs 0 0 (MQ below (zQI G q.2 q.1) args s 0 0 (zA G)) (F0 m 6 ls [])) : ∀ (ls : Array Slot) (H : Heap) (locs : List Loc) (h : zH) (x2 : Int32) (x3 : Int32) (x4 : Int32) (x5 : Int32), lv_has ls 6 [(0, .ref (zal G 80)), (1, .ref (zal G 2)), (2, .int x2), (3, .int x3), (4, .int x4), (5, .int x5)] → zS G h s.heap H locs → f_X10_greatest_r2_59 k6 x2 x3 x4 x5 h = some q → W p l e (zrm (3)) s m args below meth c H locs 0 0 (MQ below (zQI G q.2 q.1) args s 0 0 (zA G)) (F0 m 59 ls []) := by
  intro ls H locs h x2 x3 x4 x5 hl hS hf
  unfold f_X10_greatest_r2_59 at hf
  obtain ⟨y1, ey1, hf⟩ := zlt_some hf
  refine lv_iinc (v := y1) (lv' := [(5, .int y1), (0, .ref (zal G 80)), (1, .ref (zal G 2)), (2, .int x2), (3, .int x3), (4, .int x4)]) C.1 C.2.1 dX10_greatest_59 hl (k := 5) rfl ey1.symm (by decide) rfl (fun ls hl => ?_)
  refine lv_goto (tgt := 6) C.1 C.2.1 dX10_greatest_62 (by decide) ?_
  exact hk6 _ _ _ _ _ _ _ _ (lv_sub hl [1, 2, 3, 4, 5, 0] rfl) hS hf
set_option maxHeartbeats 4000000 in
set_option maxRecDepth 100000 in
theorem w_X10_greatest_r2_6  (C : zC G p s m args meth c cX10_greatest 6 RX10 (some .int)) (hm : ∀ c ∈ nd_X10_greatest_r2, c ∈ znm G) (hk : ∀ q ∈ ld_X10_greatest_r2, zlk G q.1 q.2 = true)  : ∀ n, ∀ (ls : Array Slot) (H : Heap) (locs : List Loc) (h : zH) (x2 : Int32) (x3 : Int32) (x4 : Int32) (x5 : Int32), lv_has ls 6 [(0, .ref (zal G 80)), (1, .ref (zal G 2)), (2, .int x2), (3, .int x3), (4, .int x4), (5, .int x5)] → zS G h s.heap H locs → f_X10_greatest_r2_6  n x2 x3 x4 x5 h = some q → W p l e (zrm (3)) s m args below meth c H locs 0 0 (MQ below (zQI G q.2 q.1) args s 0 0 (zA G)) (F0 m 6 ls []) := by
  intro n
  induction n with
  | zero => intro ls H locs h x2 x3 x4 x5 hl hS hf; cases hf
  | succ n ih =>
    intro ls H locs h x2 x3 x4 x5 hl hS hf
    rw [f_X10_greatest_r2_6] at hf
    refine lv_iload C.1 C.2.1 dX10_greatest_6 (lv_at hl 5 rfl) ?_
    refine lv_aload_n C.1 C.2.1 dX10_greatest_8 rfl (lv_at hl 1 rfl) ?_
    refine zgetI C hS ff_X10_24_2 (hm 2 (by decide)) dX10_greatest_9 ?_
    refine lv_icmp_ge (tgt := 65) C.1 C.2.1 dX10_greatest_12 (by decide) (fun hc => ?_) (fun hc => ?_)
    · have hf := zif_t hc hf
      refine lv_iload C.1 C.2.1 dX10_greatest_65 (lv_at hl 4 rfl) ?_
      exact zretI C hS hf dX10_greatest_67
    · have hf := zif_f hc hf
      refine lv_aload_n C.1 C.2.1 dX10_greatest_15 rfl (lv_at hl 1 rfl) ?_
      refine zgetR C hS ff_X10_33_2 (hm 2 (by decide)) (hk (2, 0) (by decide)) dX10_greatest_16 ?_
      refine lv_iload C.1 C.2.1 dX10_greatest_19 (lv_at hl 5 rfl) ?_
      obtain ⟨hi, hf⟩ := zck_some hf
      refine zald C hS sh_3 (hm 3 (by decide)) hi dX10_greatest_21 ?_
      refine lv_aload_n C.1 C.2.1 dX10_greatest_22 rfl (lv_at hl 1 rfl) ?_
      refine zgetR C hS ff_X10_33_2 (hm 2 (by decide)) (hk (2, 0) (by decide)) dX10_greatest_23 ?_
      refine lv_iload_n C.1 C.2.1 dX10_greatest_26 rfl (lv_at hl 2 rfl) ?_
      obtain ⟨hi, hf⟩ := zck_some hf
      refine zald C hS sh_3 (hm 3 (by decide)) hi dX10_greatest_27 ?_
      refine lv_icmp_eq (tgt := 59) C.1 C.2.1 dX10_greatest_28 (by decide) (fun hc => ?_) (fun hc => ?_)
      · have hf := zif_t hc hf
        exact w_X10_greatest_r2_59 C hm hk ih _ _ _ _ _ _ _ _ (lv_sub hl [0, 1, 2, 3, 4, 5] rfl) hS hf
      · have hf := zif_f hc hf
        refine lv_iload C.1 C.2.1 dX10_greatest_31 (lv_at hl 4 rfl) ?_
        refine lv_aload_n C.1 C.2.1 dX10_greatest_33 rfl (lv_at hl 0 rfl) ?_
        refine zgetR C hS ff_X10_15_80 (hm 80 (by decide)) (hk (80, 1) (by decide)) dX10_greatest_34 ?_
        refine lv_iload_n C.1 C.2.1 dX10_greatest_37 rfl (lv_at hl 2 rfl) ?_
        refine lv_iload C.1 C.2.1 dX10_greatest_38 (lv_at hl 5 rfl) ?_
        obtain ⟨r2, h3, er2, hf⟩ := zbd_some hf
        refine zcallNI (As := [.int x2, .int x5]) (rest := [.ref (zal G 82), .int x4]) C hS mn_X10_40 (c_X11_pairOf l G h x2 x5 (r2, h3) (fun c h => hm c (sn_X10_greatest_r2_X11_pairOf c h)) (fun q h => hk q (sl_X10_greatest_r2_X11_pairOf q h)) er2) rfl rfl (Nat.le_of_ble_eq_true rfl) hl.1 ⟨Nat.le_of_ble_eq_true rfl, Nat.le_of_ble_eq_true rfl, Nat.le_of_ble_eq_true rfl, Nat.le_of_ble_eq_true rfl⟩ dX10_greatest_40 (fun H locs hS => ?_)
        obtain ⟨hi, hf⟩ := zck_some hf
        refine zald C hS sh_82 (hm 82 (by decide)) hi dX10_greatest_43 ?_
        refine lv_aload_n C.1 C.2.1 dX10_greatest_44 rfl (lv_at hl 0 rfl) ?_
        refine zgetR C hS ff_X10_11_80 (hm 80 (by decide)) (hk (80, 0) (by decide)) dX10_greatest_45 ?_
        refine lv_iload_n C.1 C.2.1 dX10_greatest_48 rfl (lv_at hl 3 rfl) ?_
        refine lv_iload C.1 C.2.1 dX10_greatest_49 (lv_at hl 5 rfl) ?_
        refine lv_iadd C.1 C.2.1 dX10_greatest_51 ?_
        obtain ⟨hi, hf⟩ := zck_some hf
        refine zald C hS sh_81 (hm 81 (by decide)) hi dX10_greatest_52 ?_
        refine lv_isub C.1 C.2.1 dX10_greatest_53 ?_
        refine zmax C kw_1065 (Nat.le_of_ble_eq_true rfl) hl.1 ⟨Nat.le_of_ble_eq_true rfl, Nat.le_of_ble_eq_true rfl, Nat.le_of_ble_eq_true rfl, Nat.le_of_ble_eq_true rfl⟩ dX10_greatest_54 ?_
        obtain ⟨y4, ey4, hf⟩ := zlt_some hf
        refine ztop ey4 ?_
        refine lv_istore (lv' := [(4, .int y4), (0, .ref (zal G 80)), (1, .ref (zal G 2)), (2, .int x2), (3, .int x3), (5, .int x5)]) C.1 C.2.1 dX10_greatest_57 hl (by decide) rfl (fun ls hl => ?_)
        exact w_X10_greatest_r2_59 C hm hk ih _ _ _ _ _ _ _ _ (lv_sub hl [1, 2, 3, 4, 0, 5] rfl) hS hf
set_option maxHeartbeats 4000000 in
set_option maxRecDepth 100000 in
theorem c_X10_greatest_r2 (l : Launch) (G : zG) (h : zH) (x2 : Int32) (x3 : Int32) (q : Int32 × zH) (hm : ∀ c ∈ nd_X10_greatest_r2, c ∈ znm G) (hk : ∀ q ∈ ld_X10_greatest_r2, zlk G q.1 q.2 = true) (hf : f_X10_greatest_r2 x2 x3 h = some q) : zCtI l yX10_greatest cX10_greatest 6 (some .int) (3) [.ref (zal G 80), .ref (zal G 2), .int x2, .int x3] G h q.2 q.1 := by
  refine zMetI (by decide) (Nat.le_of_ble_eq_true rfl) ?_
  intro p e s m below meth c ls C hl hS
  have hl : lv_has ls 6 [(0, .ref (zal G 80)), (1, .ref (zal G 2)), (2, .int x2), (3, .int x3)] := hl
  have C : zC G p s m [.ref (zal G 80), .ref (zal G 2), .int x2, .int x3].toArray meth c cX10_greatest 6 RX10 (some .int) := C
  unfold f_X10_greatest_r2 at hf
  refine lv_iconst (v := (0 : Int32)) C.1 C.2.1 dX10_greatest_0 rfl ?_
  refine lv_istore (lv' := [(4, .int (0 : Int32)), (0, .ref (zal G 80)), (1, .ref (zal G 2)), (2, .int x2), (3, .int x3)]) C.1 C.2.1 dX10_greatest_1 hl (by decide) rfl (fun ls hl => ?_)
  refine lv_iconst (v := (0 : Int32)) C.1 C.2.1 dX10_greatest_3 rfl ?_
  refine lv_istore (lv' := [(5, .int (0 : Int32)), (4, .int (0 : Int32)), (0, .ref (zal G 80)), (1, .ref (zal G 2)), (2, .int x2), (3, .int x3)]) C.1 C.2.1 dX10_greatest_4 hl (by decide) rfl (fun ls hl => ?_)
  exact w_X10_greatest_r2_6 C hm hk  zN _ _ _ _ _ _ _ _ (lv_sub hl [2, 3, 4, 5, 1, 0] rfl) hS hf
end
section
theorem dX10_solve_0 : decode cX10_solve 0 = .ok (.aload_n 1, 1) := by decide +kernel
theorem dX10_solve_1 : decode cX10_solve 1 = .ok (.getfield 18, 3) := by decide +kernel
theorem dX10_solve_4 : decode cX10_solve 4 = .ok (.astore_n 2, 1) := by decide +kernel
theorem dX10_solve_5 : decode cX10_solve 5 = .ok (.iconst 0, 1) := by decide +kernel
theorem dX10_solve_6 : decode cX10_solve 6 = .ok (.istore_n 3, 1) := by decide +kernel
theorem dX10_solve_7 : decode cX10_solve 7 = .ok (.iload_n 3, 1) := by decide +kernel
theorem dX10_solve_8 : decode cX10_solve 8 = .ok (.aload_n 2, 1) := by decide +kernel
theorem dX10_solve_9 : decode cX10_solve 9 = .ok (.getfield 24, 3) := by decide +kernel
theorem dX10_solve_12 : decode cX10_solve 12 = .ok (.if_icmp .ge 95, 3) := by decide +kernel
theorem dX10_solve_15 : decode cX10_solve 15 = .ok (.aload_n 0, 1) := by decide +kernel
theorem dX10_solve_16 : decode cX10_solve 16 = .ok (.getfield 11, 3) := by decide +kernel
theorem dX10_solve_19 : decode cX10_solve 19 = .ok (.iload_n 3, 1) := by decide +kernel
theorem dX10_solve_20 : decode cX10_solve 20 = .ok (.aload_n 2, 1) := by decide +kernel
theorem dX10_solve_21 : decode cX10_solve 21 = .ok (.getfield 30, 3) := by decide +kernel
theorem dX10_solve_24 : decode cX10_solve 24 = .ok (.iload_n 3, 1) := by decide +kernel
theorem dX10_solve_25 : decode cX10_solve 25 = .ok (.iaload, 1) := by decide +kernel
theorem dX10_solve_26 : decode cX10_solve 26 = .ok (.iastore, 1) := by decide +kernel
theorem dX10_solve_27 : decode cX10_solve 27 = .ok (.iconst 0, 1) := by decide +kernel
theorem dX10_solve_28 : decode cX10_solve 28 = .ok (.istore 4, 2) := by decide +kernel
theorem dX10_solve_30 : decode cX10_solve 30 = .ok (.iload 4, 2) := by decide +kernel
theorem dX10_solve_32 : decode cX10_solve 32 = .ok (.aload_n 2, 1) := by decide +kernel
theorem dX10_solve_33 : decode cX10_solve 33 = .ok (.getfield 24, 3) := by decide +kernel
theorem dX10_solve_36 : decode cX10_solve 36 = .ok (.if_icmp .ge 65, 3) := by decide +kernel
theorem dX10_solve_39 : decode cX10_solve 39 = .ok (.aload_n 2, 1) := by decide +kernel
theorem dX10_solve_40 : decode cX10_solve 40 = .ok (.getfield 33, 3) := by decide +kernel
theorem dX10_solve_43 : decode cX10_solve 43 = .ok (.iload_n 3, 1) := by decide +kernel
theorem dX10_solve_44 : decode cX10_solve 44 = .ok (.iaload, 1) := by decide +kernel
theorem dX10_solve_45 : decode cX10_solve 45 = .ok (.ifCond .ne 50, 3) := by decide +kernel
theorem dX10_solve_48 : decode cX10_solve 48 = .ok (.aload_n 2, 1) := by decide +kernel
theorem dX10_solve_49 : decode cX10_solve 49 = .ok (.getfield 33, 3) := by decide +kernel
theorem dX10_solve_52 : decode cX10_solve 52 = .ok (.iload 4, 2) := by decide +kernel
theorem dX10_solve_54 : decode cX10_solve 54 = .ok (.iaload, 1) := by decide +kernel
theorem dX10_solve_55 : decode cX10_solve 55 = .ok (.iconst 1, 1) := by decide +kernel
theorem dX10_solve_56 : decode cX10_solve 56 = .ok (.if_icmp .ne 39, 3) := by decide +kernel
theorem dX10_solve_59 : decode cX10_solve 59 = .ok (.aload_n 1, 1) := by decide +kernel
theorem dX10_solve_60 : decode cX10_solve 60 = .ok (.iload_n 3, 1) := by decide +kernel
theorem dX10_solve_61 : decode cX10_solve 61 = .ok (.iload 4, 2) := by decide +kernel
theorem dX10_solve_63 : decode cX10_solve 63 = .ok (.iconst 0, 1) := by decide +kernel
theorem dX10_solve_64 : decode cX10_solve 64 = .ok (.invokevirtual 36, 3) := by decide +kernel
theorem dX10_solve_67 : decode cX10_solve 67 = .ok (.istore 5, 2) := by decide +kernel
theorem dX10_solve_69 : decode cX10_solve 69 = .ok (.aload_n 0, 1) := by decide +kernel
theorem dX10_solve_70 : decode cX10_solve 70 = .ok (.getfield 15, 3) := by decide +kernel
theorem dX10_solve_73 : decode cX10_solve 73 = .ok (.iload_n 3, 1) := by decide +kernel
theorem dX10_solve_74 : decode cX10_solve 74 = .ok (.iload 4, 2) := by decide +kernel
theorem dX10_solve_76 : decode cX10_solve 76 = .ok (.invokestatic 40, 3) := by decide +kernel
theorem dX10_solve_79 : decode cX10_solve 79 = .ok (.iload 5, 2) := by decide +kernel
theorem dX10_solve_81 : decode cX10_solve 81 = .ok (.iastore, 1) := by decide +kernel
theorem dX10_solve_82 : decode cX10_solve 82 = .ok (.aload_n 0, 1) := by decide +kernel
theorem dX10_solve_83 : decode cX10_solve 83 = .ok (.getfield 15, 3) := by decide +kernel
theorem dX10_solve_86 : decode cX10_solve 86 = .ok (.iload 4, 2) := by decide +kernel
theorem dX10_solve_88 : decode cX10_solve 88 = .ok (.iload_n 3, 1) := by decide +kernel
theorem dX10_solve_89 : decode cX10_solve 89 = .ok (.invokestatic 40, 3) := by decide +kernel
theorem dX10_solve_92 : decode cX10_solve 92 = .ok (.iload 5, 2) := by decide +kernel
theorem dX10_solve_94 : decode cX10_solve 94 = .ok (.iastore, 1) := by decide +kernel
theorem dX10_solve_95 : decode cX10_solve 95 = .ok (.iinc 4 1, 3) := by decide +kernel
theorem dX10_solve_98 : decode cX10_solve 98 = .ok (.goto (-68), 3) := by decide +kernel
theorem dX10_solve_101 : decode cX10_solve 101 = .ok (.iinc 3 1, 3) := by decide +kernel
theorem dX10_solve_104 : decode cX10_solve 104 = .ok (.goto (-97), 3) := by decide +kernel
theorem dX10_solve_107 : decode cX10_solve 107 = .ok (.iconst 1, 1) := by decide +kernel
theorem dX10_solve_108 : decode cX10_solve 108 = .ok (.istore_n 3, 1) := by decide +kernel
theorem dX10_solve_109 : decode cX10_solve 109 = .ok (.iload_n 3, 1) := by decide +kernel
theorem dX10_solve_110 : decode cX10_solve 110 = .ok (.bipush 40, 2) := by decide +kernel
theorem dX10_solve_112 : decode cX10_solve 112 = .ok (.if_icmp .gt 52, 3) := by decide +kernel
theorem dX10_solve_115 : decode cX10_solve 115 = .ok (.iconst 0, 1) := by decide +kernel
theorem dX10_solve_116 : decode cX10_solve 116 = .ok (.istore 4, 2) := by decide +kernel
theorem dX10_solve_118 : decode cX10_solve 118 = .ok (.iload 4, 2) := by decide +kernel
theorem dX10_solve_120 : decode cX10_solve 120 = .ok (.aload_n 2, 1) := by decide +kernel
theorem dX10_solve_121 : decode cX10_solve 121 = .ok (.getfield 24, 3) := by decide +kernel
theorem dX10_solve_124 : decode cX10_solve 124 = .ok (.if_icmp .ge 34, 3) := by decide +kernel
theorem dX10_solve_127 : decode cX10_solve 127 = .ok (.aload_n 0, 1) := by decide +kernel
theorem dX10_solve_128 : decode cX10_solve 128 = .ok (.getfield 11, 3) := by decide +kernel
theorem dX10_solve_131 : decode cX10_solve 131 = .ok (.iload_n 3, 1) := by decide +kernel
theorem dX10_solve_132 : decode cX10_solve 132 = .ok (.bipush 16, 2) := by decide +kernel
theorem dX10_solve_134 : decode cX10_solve 134 = .ok (.imul, 1) := by decide +kernel
theorem dX10_solve_135 : decode cX10_solve 135 = .ok (.iload 4, 2) := by decide +kernel
theorem dX10_solve_137 : decode cX10_solve 137 = .ok (.iadd, 1) := by decide +kernel
theorem dX10_solve_138 : decode cX10_solve 138 = .ok (.aload_n 0, 1) := by decide +kernel
theorem dX10_solve_139 : decode cX10_solve 139 = .ok (.aload_n 2, 1) := by decide +kernel
theorem dX10_solve_140 : decode cX10_solve 140 = .ok (.iload 4, 2) := by decide +kernel
theorem dX10_solve_142 : decode cX10_solve 142 = .ok (.iload_n 3, 1) := by decide +kernel
theorem dX10_solve_143 : decode cX10_solve 143 = .ok (.iconst 1, 1) := by decide +kernel
theorem dX10_solve_144 : decode cX10_solve 144 = .ok (.isub, 1) := by decide +kernel
theorem dX10_solve_145 : decode cX10_solve 145 = .ok (.bipush 16, 2) := by decide +kernel
theorem dX10_solve_147 : decode cX10_solve 147 = .ok (.imul, 1) := by decide +kernel
theorem dX10_solve_148 : decode cX10_solve 148 = .ok (.invokevirtual 44, 3) := by decide +kernel
theorem dX10_solve_151 : decode cX10_solve 151 = .ok (.iastore, 1) := by decide +kernel
theorem dX10_solve_152 : decode cX10_solve 152 = .ok (.iinc 4 1, 3) := by decide +kernel
theorem dX10_solve_155 : decode cX10_solve 155 = .ok (.goto (-37), 3) := by decide +kernel
theorem dX10_solve_158 : decode cX10_solve 158 = .ok (.iinc 3 1, 3) := by decide +kernel
theorem dX10_solve_161 : decode cX10_solve 161 = .ok (.goto (-52), 3) := by decide +kernel
theorem dX10_solve_164 : decode cX10_solve 164 = .ok (.aload_n 0, 1) := by decide +kernel
theorem dX10_solve_165 : decode cX10_solve 165 = .ok (.aload_n 2, 1) := by decide +kernel
theorem dX10_solve_166 : decode cX10_solve 166 = .ok (.getfield 24, 3) := by decide +kernel
theorem dX10_solve_169 : decode cX10_solve 169 = .ok (.invokevirtual 48, 3) := by decide +kernel
theorem dX10_solve_172 : decode cX10_solve 172 = .ok (.return_, 1) := by decide +kernel
abbrev nd_X10_solve_r1 : List Nat := [1, 2, 3, 4, 5, 11, 12, 13, 16, 17, 18, 19, 21, 80, 81, 82]
abbrev ld_X10_solve_r1 : List (Nat × Nat) := [(1, 0), (1, 2), (1, 3), (1, 5), (2, 0), (2, 1), (2, 2), (11, 0), (11, 1), (16, 0), (16, 1), (16, 2), (80, 0), (80, 1)]
theorem sn_X10_solve_r1_X10_judge : ∀ c ∈ nd_X10_judge, c ∈ nd_X10_solve_r1 := by decide
theorem sl_X10_solve_r1_X10_judge : ∀ q ∈ ld_X10_judge, q ∈ ld_X10_solve_r1 := by decide
theorem sn_X10_solve_r1_X10_greatest_r2 : ∀ c ∈ nd_X10_greatest_r2, c ∈ nd_X10_solve_r1 := by decide
theorem sl_X10_solve_r1_X10_greatest_r2 : ∀ q ∈ ld_X10_greatest_r2, q ∈ ld_X10_solve_r1 := by decide
theorem sn_X10_solve_r1_X4_laughOf : ∀ c ∈ nd_X4_laughOf, c ∈ nd_X10_solve_r1 := by decide
theorem sl_X10_solve_r1_X4_laughOf : ∀ q ∈ ld_X4_laughOf, q ∈ ld_X10_solve_r1 := by decide
theorem sn_X10_solve_r1_X11_pairOf : ∀ c ∈ nd_X11_pairOf, c ∈ nd_X10_solve_r1 := by decide
theorem sl_X10_solve_r1_X11_pairOf : ∀ q ∈ ld_X11_pairOf, q ∈ ld_X10_solve_r1 := by decide
def f_X10_solve_r1_118 (k109 : Int32 → zH → zR) : Nat → Int32 → Int32 → zH → zR
  | 0 => fun _ _ _ => none
  | n + 1 => fun x3 x4 h => (if (h 2 4) ≤ x4 then (zlt (x3 + (1 : Int32)) fun y3 => (k109 y3 h)) else (zbd (f_X10_greatest_r2 x4 ((x3 - (1 : Int32)) * (16 : Int32)) h) fun r4 h5 => (zck ((x3 * (16 : Int32)) + x4) 656 (zst (zup h5 81 (Int32.toNatClampNeg ((x3 * (16 : Int32)) + x4)) r4) fun h6 => (zlt (x4 + (1 : Int32)) fun y7 => (f_X10_solve_r1_118 k109 n x3 y7 h6))))))
def f_X10_solve_r1_109  : Nat → Int32 → zH → zR
  | 0 => fun _ _ => none
  | n + 1 => fun x3 h => (if (40 : Int32) < x3 then (zbd (f_X10_judge (h 2 4) h) fun r1 h2 => (some (0, h2))) else (f_X10_solve_r1_118 (f_X10_solve_r1_109  n) zN x3 (0 : Int32) h))
def f_X10_solve_r1_95 (k7 : Int32 → zH → zR) (k30 : Int32 → Int32 → zH → zR) (x3 : Int32) (x4 : Int32) (h : zH) : zR := (zlt (x4 + (1 : Int32)) fun y10 => (k30 x3 y10 h))
def f_X10_solve_r1_30 (k7 : Int32 → zH → zR) : Nat → Int32 → Int32 → zH → zR
  | 0 => fun _ _ _ => none
  | n + 1 => fun x3 x4 h => (if (h 2 4) ≤ x4 then (zlt (x3 + (1 : Int32)) fun y9 => (k7 y9 h)) else (zck x3 16 (if (h 3 (Int32.toNatClampNeg x3)) = 0 then (zck x4 16 (if (h 3 (Int32.toNatClampNeg x4)) = (1 : Int32) then (zbd (f_X4_laughOf x3 x4 (0 : Int32) h) fun r11 h12 => (zbd (f_X11_pairOf x3 x4 h12) fun r13 h14 => (zck r13 256 (zst (zup h14 82 (Int32.toNatClampNeg r13) r11) fun h15 => (zbd (f_X11_pairOf x4 x3 h15) fun r16 h17 => (zck r16 256 (zst (zup h17 82 (Int32.toNatClampNeg r16) r11) fun h18 => (f_X10_solve_r1_95 k7 (f_X10_solve_r1_30 k7 n) x3 x4 h18)))))))) else (f_X10_solve_r1_95 k7 (f_X10_solve_r1_30 k7 n) x3 x4 h))) else (f_X10_solve_r1_95 k7 (f_X10_solve_r1_30 k7 n) x3 x4 h))))
def f_X10_solve_r1_7  : Nat → Int32 → zH → zR
  | 0 => fun _ _ => none
  | n + 1 => fun x3 h => (if (h 2 4) ≤ x3 then (f_X10_solve_r1_109  zN (1 : Int32) h) else (zck x3 16 (zck x3 656 (zst (zup h 81 (Int32.toNatClampNeg x3) (h 5 (Int32.toNatClampNeg x3))) fun h8 => (f_X10_solve_r1_30 (f_X10_solve_r1_7  n) zN x3 (0 : Int32) h8)))))
def f_X10_solve_r1  (h : zH) : zR := (f_X10_solve_r1_7  zN (0 : Int32) h)
variable {p : Program} {l : Launch} {e : Env} {s : State} {m : MethodId} {args : Array Value} {below : List Frame} {meth : Method} {c : Code} {G : zG} {q : Int32 × zH}
set_option maxHeartbeats 4000000 in
set_option maxRecDepth 100000 in
theorem w_X10_solve_r1_118 {k109 : Int32 → zH → zR} (C : zC G p s m args meth c cX10_solve 6 RX10 none) (hm : ∀ c ∈ nd_X10_solve_r1, c ∈ znm G) (hk : ∀ q ∈ ld_X10_solve_r1, zlk G q.1 q.2 = true) (hk109 : ∀ (ls : Array Slot) (H : Heap) (locs : List Loc) (h : zH) (x3 : Int32), lv_has ls 6 [(0, .ref (zal G 80)), (2, .ref (zal G 2)), (3, .int x3)] → zS G h s.heap H locs → k109 x3 h = some q → W p l e (zrm (5)) s m args below meth c H locs 0 0 (MQ below (zQV G q.2) args s 0 0 (zA G)) (F0 m 109 ls [])) : ∀ n, ∀ (ls : Array Slot) (H : Heap) (locs : List Loc) (h : zH) (x3 : Int32) (x4 : Int32), lv_has ls 6 [(0, .ref (zal G 80)), (2, .ref (zal G 2)), (3, .int x3), (4, .int x4)] → zS G h s.heap H locs → f_X10_solve_r1_118 k109 n x3 x4 h = some q → W p l e (zrm (5)) s m args below meth c H locs 0 0 (MQ below (zQV G q.2) args s 0 0 (zA G)) (F0 m 118 ls []) := by
  intro n
  induction n with
  | zero => intro ls H locs h x3 x4 hl hS hf; cases hf
  | succ n ih =>
    intro ls H locs h x3 x4 hl hS hf
    rw [f_X10_solve_r1_118] at hf
    refine lv_iload C.1 C.2.1 dX10_solve_118 (lv_at hl 3 rfl) ?_
    refine lv_aload_n C.1 C.2.1 dX10_solve_120 rfl (lv_at hl 1 rfl) ?_
    refine zgetI C hS ff_X10_24_2 (hm 2 (by decide)) dX10_solve_121 ?_
    refine lv_icmp_ge (tgt := 158) C.1 C.2.1 dX10_solve_124 (by decide) (fun hc => ?_) (fun hc => ?_)
    · have hf := zif_t hc hf
      obtain ⟨y3, ey3, hf⟩ := zlt_some hf
      refine lv_iinc (v := y3) (lv' := [(3, .int y3), (0, .ref (zal G 80)), (2, .ref (zal G 2)), (4, .int x4)]) C.1 C.2.1 dX10_solve_158 hl (k := 2) rfl ey3.symm (by decide) rfl (fun ls hl => ?_)
      refine lv_goto (tgt := 109) C.1 C.2.1 dX10_solve_161 (by decide) ?_
      exact hk109 _ _ _ _ _ (lv_sub hl [1, 2, 0] rfl) hS hf
    · have hf := zif_f hc hf
      refine lv_aload_n C.1 C.2.1 dX10_solve_127 rfl (lv_at hl 0 rfl) ?_
      refine zgetR C hS ff_X10_11_80 (hm 80 (by decide)) (hk (80, 0) (by decide)) dX10_solve_128 ?_
      refine lv_iload_n C.1 C.2.1 dX10_solve_131 rfl (lv_at hl 2 rfl) ?_
      refine lv_bipush (v := (16 : Int32)) C.1 C.2.1 dX10_solve_132 rfl ?_
      refine lv_imul C.1 C.2.1 dX10_solve_134 ?_
      refine lv_iload C.1 C.2.1 dX10_solve_135 (lv_at hl 3 rfl) ?_
      refine lv_iadd C.1 C.2.1 dX10_solve_137 ?_
      refine lv_aload_n C.1 C.2.1 dX10_solve_138 rfl (lv_at hl 0 rfl) ?_
      refine lv_aload_n C.1 C.2.1 dX10_solve_139 rfl (lv_at hl 1 rfl) ?_
      refine lv_iload C.1 C.2.1 dX10_solve_140 (lv_at hl 3 rfl) ?_
      refine lv_iload_n C.1 C.2.1 dX10_solve_142 rfl (lv_at hl 2 rfl) ?_
      refine lv_iconst (v := (1 : Int32)) C.1 C.2.1 dX10_solve_143 rfl ?_
      refine lv_isub C.1 C.2.1 dX10_solve_144 ?_
      refine lv_bipush (v := (16 : Int32)) C.1 C.2.1 dX10_solve_145 rfl ?_
      refine lv_imul C.1 C.2.1 dX10_solve_147 ?_
      obtain ⟨r4, h5, er4, hf⟩ := zbd_some hf
      refine zcallVI (As := [.ref (zal G 2), .int x4, .int ((x3 - (1 : Int32)) * (16 : Int32))]) (rest := [.int ((x3 * (16 : Int32)) + x4), .ref (zal G 81)]) C hS mv_X10_44 (c_X10_greatest_r2 l G h x4 ((x3 - (1 : Int32)) * (16 : Int32)) (r4, h5) (fun c h => hm c (sn_X10_solve_r1_X10_greatest_r2 c h)) (fun q h => hk q (sl_X10_solve_r1_X10_greatest_r2 q h)) er4) (hm 80 (by decide)) ⟨_, _, _, sh_80, rfl, rfl⟩ rfl rfl (Nat.le_of_ble_eq_true rfl) hl.1 ⟨Nat.le_of_ble_eq_true rfl, Nat.le_of_ble_eq_true rfl, Nat.le_of_ble_eq_true rfl, Nat.le_of_ble_eq_true rfl⟩ dX10_solve_148 (fun H locs hS => ?_)
      obtain ⟨hi, hf⟩ := zck_some hf
      refine zast C hS sh_81 (hm 81 (by decide)) hi dX10_solve_151 (fun H locs hS => ?_)
      obtain ⟨h6, eh6, hf⟩ := zst_some hf
      have hS : zS G h6 s.heap H locs := by rw [eh6]; exact hS
      obtain ⟨y7, ey7, hf⟩ := zlt_some hf
      refine lv_iinc (v := y7) (lv' := [(4, .int y7), (0, .ref (zal G 80)), (2, .ref (zal G 2)), (3, .int x3)]) C.1 C.2.1 dX10_solve_152 hl (k := 3) rfl ey7.symm (by decide) rfl (fun ls hl => ?_)
      refine lv_goto (tgt := 118) C.1 C.2.1 dX10_solve_155 (by decide) ?_
      exact ih _ _ _ _ _ _ (lv_sub hl [1, 2, 3, 0] rfl) hS hf
set_option maxHeartbeats 4000000 in
set_option maxRecDepth 100000 in
theorem w_X10_solve_r1_109  (C : zC G p s m args meth c cX10_solve 6 RX10 none) (hm : ∀ c ∈ nd_X10_solve_r1, c ∈ znm G) (hk : ∀ q ∈ ld_X10_solve_r1, zlk G q.1 q.2 = true)  : ∀ n, ∀ (ls : Array Slot) (H : Heap) (locs : List Loc) (h : zH) (x3 : Int32), lv_has ls 6 [(0, .ref (zal G 80)), (2, .ref (zal G 2)), (3, .int x3)] → zS G h s.heap H locs → f_X10_solve_r1_109  n x3 h = some q → W p l e (zrm (5)) s m args below meth c H locs 0 0 (MQ below (zQV G q.2) args s 0 0 (zA G)) (F0 m 109 ls []) := by
  intro n
  induction n with
  | zero => intro ls H locs h x3 hl hS hf; cases hf
  | succ n ih =>
    intro ls H locs h x3 hl hS hf
    rw [f_X10_solve_r1_109] at hf
    refine lv_iload_n C.1 C.2.1 dX10_solve_109 rfl (lv_at hl 2 rfl) ?_
    refine lv_bipush (v := (40 : Int32)) C.1 C.2.1 dX10_solve_110 rfl ?_
    refine lv_icmp_gt (tgt := 164) C.1 C.2.1 dX10_solve_112 (by decide) (fun hc => ?_) (fun hc => ?_)
    · have hf := zif_t hc hf
      refine lv_aload_n C.1 C.2.1 dX10_solve_164 rfl (lv_at hl 0 rfl) ?_
      refine lv_aload_n C.1 C.2.1 dX10_solve_165 rfl (lv_at hl 1 rfl) ?_
      refine zgetI C hS ff_X10_24_2 (hm 2 (by decide)) dX10_solve_166 ?_
      obtain ⟨r1, h2, er1, hf⟩ := zbd_some hf
      refine zcallVV (As := [.int (h 2 4)]) (rest := []) C hS mv_X10_48 (c_X10_judge l G h (h 2 4) (r1, h2) (fun c h => hm c (sn_X10_solve_r1_X10_judge c h)) (fun q h => hk q (sl_X10_solve_r1_X10_judge q h)) er1) (hm 80 (by decide)) ⟨_, _, _, sh_80, rfl, rfl⟩ rfl rfl (Nat.le_of_ble_eq_true rfl) hl.1 ⟨Nat.le_of_ble_eq_true rfl, Nat.le_of_ble_eq_true rfl, Nat.le_of_ble_eq_true rfl, Nat.le_of_ble_eq_true rfl⟩ dX10_solve_169 (fun H locs hS => ?_)
      exact zretV C hS hf dX10_solve_172
    · have hf := zif_f hc hf
      refine lv_iconst (v := (0 : Int32)) C.1 C.2.1 dX10_solve_115 rfl ?_
      refine lv_istore (lv' := [(4, .int (0 : Int32)), (0, .ref (zal G 80)), (2, .ref (zal G 2)), (3, .int x3)]) C.1 C.2.1 dX10_solve_116 hl (by decide) rfl (fun ls hl => ?_)
      exact w_X10_solve_r1_118 C hm hk ih zN _ _ _ _ _ _ (lv_sub hl [1, 2, 3, 0] rfl) hS hf
set_option maxHeartbeats 4000000 in
set_option maxRecDepth 100000 in
theorem w_X10_solve_r1_95 {k7 : Int32 → zH → zR} {k30 : Int32 → Int32 → zH → zR} (C : zC G p s m args meth c cX10_solve 6 RX10 none) (hm : ∀ c ∈ nd_X10_solve_r1, c ∈ znm G) (hk : ∀ q ∈ ld_X10_solve_r1, zlk G q.1 q.2 = true) (hk7 : ∀ (ls : Array Slot) (H : Heap) (locs : List Loc) (h : zH) (x3 : Int32), lv_has ls 6 [(0, .ref (zal G 80)), (1, .ref (zal G 1)), (2, .ref (zal G 2)), (3, .int x3)] → zS G h s.heap H locs → k7 x3 h = some q → W p l e (zrm (5)) s m args below meth c H locs 0 0 (MQ below (zQV G q.2) args s 0 0 (zA G)) (F0 m 7 ls [])) (hk30 : ∀ (ls : Array Slot) (H : Heap) (locs : List Loc) (h : zH) (x3 : Int32) (x4 : Int32), lv_has ls 6 [(0, .ref (zal G 80)), (1, .ref (zal G 1)), (2, .ref (zal G 2)), (3, .int x3), (4, .int x4)] → zS G h s.heap H locs → k30 x3 x4 h = some q → W p l e (zrm (5)) s m args below meth c H locs 0 0 (MQ below (zQV G q.2) args s 0 0 (zA G)) (F0 m 30 ls [])) : ∀ (ls : Array Slot) (H : Heap) (locs : List Loc) (h : zH) (x3 : Int32) (x4 : Int32), lv_has ls 6 [(0, .ref (zal G 80)), (1, .ref (zal G 1)), (2, .ref (zal G 2)), (3, .int x3), (4, .int x4)] → zS G h s.heap H locs → f_X10_solve_r1_95 k7 k30 x3 x4 h = some q → W p l e (zrm (5)) s m args below meth c H locs 0 0 (MQ below (zQV G q.2) args s 0 0 (zA G)) (F0 m 95 ls []) := by
  intro ls H locs h x3 x4 hl hS hf
  unfold f_X10_solve_r1_95 at hf
  obtain ⟨y10, ey10, hf⟩ := zlt_some hf
  refine lv_iinc (v := y10) (lv' := [(4, .int y10), (0, .ref (zal G 80)), (1, .ref (zal G 1)), (2, .ref (zal G 2)), (3, .int x3)]) C.1 C.2.1 dX10_solve_95 hl (k := 4) rfl ey10.symm (by decide) rfl (fun ls hl => ?_)
  refine lv_goto (tgt := 30) C.1 C.2.1 dX10_solve_98 (by decide) ?_
  exact hk30 _ _ _ _ _ _ (lv_sub hl [1, 2, 3, 4, 0] rfl) hS hf
set_option maxHeartbeats 4000000 in
set_option maxRecDepth 100000 in
theorem w_X10_solve_r1_30 {k7 : Int32 → zH → zR} (C : zC G p s m args meth c cX10_solve 6 RX10 none) (hm : ∀ c ∈ nd_X10_solve_r1, c ∈ znm G) (hk : ∀ q ∈ ld_X10_solve_r1, zlk G q.1 q.2 = true) (hk7 : ∀ (ls : Array Slot) (H : Heap) (locs : List Loc) (h : zH) (x3 : Int32), lv_has ls 6 [(0, .ref (zal G 80)), (1, .ref (zal G 1)), (2, .ref (zal G 2)), (3, .int x3)] → zS G h s.heap H locs → k7 x3 h = some q → W p l e (zrm (5)) s m args below meth c H locs 0 0 (MQ below (zQV G q.2) args s 0 0 (zA G)) (F0 m 7 ls [])) : ∀ n, ∀ (ls : Array Slot) (H : Heap) (locs : List Loc) (h : zH) (x3 : Int32) (x4 : Int32), lv_has ls 6 [(0, .ref (zal G 80)), (1, .ref (zal G 1)), (2, .ref (zal G 2)), (3, .int x3), (4, .int x4)] → zS G h s.heap H locs → f_X10_solve_r1_30 k7 n x3 x4 h = some q → W p l e (zrm (5)) s m args below meth c H locs 0 0 (MQ below (zQV G q.2) args s 0 0 (zA G)) (F0 m 30 ls []) := by
  intro n
  induction n with
  | zero => intro ls H locs h x3 x4 hl hS hf; cases hf
  | succ n ih =>
    intro ls H locs h x3 x4 hl hS hf
    rw [f_X10_solve_r1_30] at hf
    refine lv_iload C.1 C.2.1 dX10_solve_30 (lv_at hl 4 rfl) ?_
    refine lv_aload_n C.1 C.2.1 dX10_solve_32 rfl (lv_at hl 2 rfl) ?_
    refine zgetI C hS ff_X10_24_2 (hm 2 (by decide)) dX10_solve_33 ?_
    refine lv_icmp_ge (tgt := 101) C.1 C.2.1 dX10_solve_36 (by decide) (fun hc => ?_) (fun hc => ?_)
    · have hf := zif_t hc hf
      obtain ⟨y9, ey9, hf⟩ := zlt_some hf
      refine lv_iinc (v := y9) (lv' := [(3, .int y9), (0, .ref (zal G 80)), (1, .ref (zal G 1)), (2, .ref (zal G 2)), (4, .int x4)]) C.1 C.2.1 dX10_solve_101 hl (k := 3) rfl ey9.symm (by decide) rfl (fun ls hl => ?_)
      refine lv_goto (tgt := 7) C.1 C.2.1 dX10_solve_104 (by decide) ?_
      exact hk7 _ _ _ _ _ (lv_sub hl [1, 2, 3, 0] rfl) hS hf
    · have hf := zif_f hc hf
      refine lv_aload_n C.1 C.2.1 dX10_solve_39 rfl (lv_at hl 2 rfl) ?_
      refine zgetR C hS ff_X10_33_2 (hm 2 (by decide)) (hk (2, 0) (by decide)) dX10_solve_40 ?_
      refine lv_iload_n C.1 C.2.1 dX10_solve_43 rfl (lv_at hl 3 rfl) ?_
      obtain ⟨hi, hf⟩ := zck_some hf
      refine zald C hS sh_3 (hm 3 (by decide)) hi dX10_solve_44 ?_
      refine lv_if_ne (tgt := 95) C.1 C.2.1 dX10_solve_45 (by decide) (fun hc => ?_) (fun hc => ?_)
      · have hf := zif_f hc hf
        exact w_X10_solve_r1_95 C hm hk hk7 ih _ _ _ _ _ _ (lv_sub hl [0, 1, 2, 3, 4] rfl) hS hf
      · have hf := zif_t hc hf
        refine lv_aload_n C.1 C.2.1 dX10_solve_48 rfl (lv_at hl 2 rfl) ?_
        refine zgetR C hS ff_X10_33_2 (hm 2 (by decide)) (hk (2, 0) (by decide)) dX10_solve_49 ?_
        refine lv_iload C.1 C.2.1 dX10_solve_52 (lv_at hl 4 rfl) ?_
        obtain ⟨hi, hf⟩ := zck_some hf
        refine zald C hS sh_3 (hm 3 (by decide)) hi dX10_solve_54 ?_
        refine lv_iconst (v := (1 : Int32)) C.1 C.2.1 dX10_solve_55 rfl ?_
        refine lv_icmp_ne (tgt := 95) C.1 C.2.1 dX10_solve_56 (by decide) (fun hc => ?_) (fun hc => ?_)
        · have hf := zif_f hc hf
          exact w_X10_solve_r1_95 C hm hk hk7 ih _ _ _ _ _ _ (lv_sub hl [0, 1, 2, 3, 4] rfl) hS hf
        · have hf := zif_t hc hf
          refine lv_aload_n C.1 C.2.1 dX10_solve_59 rfl (lv_at hl 1 rfl) ?_
          refine lv_iload_n C.1 C.2.1 dX10_solve_60 rfl (lv_at hl 3 rfl) ?_
          refine lv_iload C.1 C.2.1 dX10_solve_61 (lv_at hl 4 rfl) ?_
          refine lv_iconst (v := (0 : Int32)) C.1 C.2.1 dX10_solve_63 rfl ?_
          obtain ⟨r11, h12, er11, hf⟩ := zbd_some hf
          refine zcallVI (As := [.int x3, .int x4, .int (0 : Int32)]) (rest := []) C hS mv_X10_36 (c_X4_laughOf l G h x3 x4 (0 : Int32) (r11, h12) (fun c h => hm c (sn_X10_solve_r1_X4_laughOf c h)) (fun q h => hk q (sl_X10_solve_r1_X4_laughOf q h)) er11) (hm 1 (by decide)) ⟨_, _, _, sh_1, rfl, rfl⟩ rfl rfl (Nat.le_of_ble_eq_true rfl) hl.1 ⟨Nat.le_of_ble_eq_true rfl, Nat.le_of_ble_eq_true rfl, Nat.le_of_ble_eq_true rfl, Nat.le_of_ble_eq_true rfl⟩ dX10_solve_64 (fun H locs hS => ?_)
          refine lv_istore (lv' := [(5, .int r11), (0, .ref (zal G 80)), (1, .ref (zal G 1)), (2, .ref (zal G 2)), (3, .int x3), (4, .int x4)]) C.1 C.2.1 dX10_solve_67 hl (by decide) rfl (fun ls hl => ?_)
          refine lv_aload_n C.1 C.2.1 dX10_solve_69 rfl (lv_at hl 1 rfl) ?_
          refine zgetR C hS ff_X10_15_80 (hm 80 (by decide)) (hk (80, 1) (by decide)) dX10_solve_70 ?_
          refine lv_iload_n C.1 C.2.1 dX10_solve_73 rfl (lv_at hl 4 rfl) ?_
          refine lv_iload C.1 C.2.1 dX10_solve_74 (lv_at hl 5 rfl) ?_
          obtain ⟨r13, h14, er13, hf⟩ := zbd_some hf
          refine zcallNI (As := [.int x3, .int x4]) (rest := [.ref (zal G 82)]) C hS mn_X10_40 (c_X11_pairOf l G h12 x3 x4 (r13, h14) (fun c h => hm c (sn_X10_solve_r1_X11_pairOf c h)) (fun q h => hk q (sl_X10_solve_r1_X11_pairOf q h)) er13) rfl rfl (Nat.le_of_ble_eq_true rfl) hl.1 ⟨Nat.le_of_ble_eq_true rfl, Nat.le_of_ble_eq_true rfl, Nat.le_of_ble_eq_true rfl, Nat.le_of_ble_eq_true rfl⟩ dX10_solve_76 (fun H locs hS => ?_)
          refine lv_iload C.1 C.2.1 dX10_solve_79 (lv_at hl 0 rfl) ?_
          obtain ⟨hi, hf⟩ := zck_some hf
          refine zast C hS sh_82 (hm 82 (by decide)) hi dX10_solve_81 (fun H locs hS => ?_)
          obtain ⟨h15, eh15, hf⟩ := zst_some hf
          have hS : zS G h15 s.heap H locs := by rw [eh15]; exact hS
          refine lv_aload_n C.1 C.2.1 dX10_solve_82 rfl (lv_at hl 1 rfl) ?_
          refine zgetR C hS ff_X10_15_80 (hm 80 (by decide)) (hk (80, 1) (by decide)) dX10_solve_83 ?_
          refine lv_iload C.1 C.2.1 dX10_solve_86 (lv_at hl 5 rfl) ?_
          refine lv_iload_n C.1 C.2.1 dX10_solve_88 rfl (lv_at hl 4 rfl) ?_
          obtain ⟨r16, h17, er16, hf⟩ := zbd_some hf
          refine zcallNI (As := [.int x4, .int x3]) (rest := [.ref (zal G 82)]) C hS mn_X10_40 (c_X11_pairOf l G h15 x4 x3 (r16, h17) (fun c h => hm c (sn_X10_solve_r1_X11_pairOf c h)) (fun q h => hk q (sl_X10_solve_r1_X11_pairOf q h)) er16) rfl rfl (Nat.le_of_ble_eq_true rfl) hl.1 ⟨Nat.le_of_ble_eq_true rfl, Nat.le_of_ble_eq_true rfl, Nat.le_of_ble_eq_true rfl, Nat.le_of_ble_eq_true rfl⟩ dX10_solve_89 (fun H locs hS => ?_)
          refine lv_iload C.1 C.2.1 dX10_solve_92 (lv_at hl 0 rfl) ?_
          obtain ⟨hi, hf⟩ := zck_some hf
          refine zast C hS sh_82 (hm 82 (by decide)) hi dX10_solve_94 (fun H locs hS => ?_)
          obtain ⟨h18, eh18, hf⟩ := zst_some hf
          have hS : zS G h18 s.heap H locs := by rw [eh18]; exact hS
          exact w_X10_solve_r1_95 C hm hk hk7 ih _ _ _ _ _ _ (lv_sub hl [1, 2, 3, 4, 5] rfl) hS hf
set_option maxHeartbeats 4000000 in
set_option maxRecDepth 100000 in
theorem w_X10_solve_r1_7  (C : zC G p s m args meth c cX10_solve 6 RX10 none) (hm : ∀ c ∈ nd_X10_solve_r1, c ∈ znm G) (hk : ∀ q ∈ ld_X10_solve_r1, zlk G q.1 q.2 = true)  : ∀ n, ∀ (ls : Array Slot) (H : Heap) (locs : List Loc) (h : zH) (x3 : Int32), lv_has ls 6 [(0, .ref (zal G 80)), (1, .ref (zal G 1)), (2, .ref (zal G 2)), (3, .int x3)] → zS G h s.heap H locs → f_X10_solve_r1_7  n x3 h = some q → W p l e (zrm (5)) s m args below meth c H locs 0 0 (MQ below (zQV G q.2) args s 0 0 (zA G)) (F0 m 7 ls []) := by
  intro n
  induction n with
  | zero => intro ls H locs h x3 hl hS hf; cases hf
  | succ n ih =>
    intro ls H locs h x3 hl hS hf
    rw [f_X10_solve_r1_7] at hf
    refine lv_iload_n C.1 C.2.1 dX10_solve_7 rfl (lv_at hl 3 rfl) ?_
    refine lv_aload_n C.1 C.2.1 dX10_solve_8 rfl (lv_at hl 2 rfl) ?_
    refine zgetI C hS ff_X10_24_2 (hm 2 (by decide)) dX10_solve_9 ?_
    refine lv_icmp_ge (tgt := 107) C.1 C.2.1 dX10_solve_12 (by decide) (fun hc => ?_) (fun hc => ?_)
    · have hf := zif_t hc hf
      refine lv_iconst (v := (1 : Int32)) C.1 C.2.1 dX10_solve_107 rfl ?_
      refine lv_istore_n (lv' := [(3, .int (1 : Int32)), (0, .ref (zal G 80)), (1, .ref (zal G 1)), (2, .ref (zal G 2))]) C.1 C.2.1 dX10_solve_108 rfl hl (by decide) rfl (fun ls hl => ?_)
      exact w_X10_solve_r1_109 C hm hk  zN _ _ _ _ _ (lv_sub hl [1, 3, 0] rfl) hS hf
    · have hf := zif_f hc hf
      refine lv_aload_n C.1 C.2.1 dX10_solve_15 rfl (lv_at hl 0 rfl) ?_
      refine zgetR C hS ff_X10_11_80 (hm 80 (by decide)) (hk (80, 0) (by decide)) dX10_solve_16 ?_
      refine lv_iload_n C.1 C.2.1 dX10_solve_19 rfl (lv_at hl 3 rfl) ?_
      refine lv_aload_n C.1 C.2.1 dX10_solve_20 rfl (lv_at hl 2 rfl) ?_
      refine zgetR C hS ff_X10_30_2 (hm 2 (by decide)) (hk (2, 2) (by decide)) dX10_solve_21 ?_
      refine lv_iload_n C.1 C.2.1 dX10_solve_24 rfl (lv_at hl 3 rfl) ?_
      obtain ⟨hi, hf⟩ := zck_some hf
      refine zald C hS sh_5 (hm 5 (by decide)) hi dX10_solve_25 ?_
      obtain ⟨hi, hf⟩ := zck_some hf
      refine zast C hS sh_81 (hm 81 (by decide)) hi dX10_solve_26 (fun H locs hS => ?_)
      obtain ⟨h8, eh8, hf⟩ := zst_some hf
      have hS : zS G h8 s.heap H locs := by rw [eh8]; exact hS
      refine lv_iconst (v := (0 : Int32)) C.1 C.2.1 dX10_solve_27 rfl ?_
      refine lv_istore (lv' := [(4, .int (0 : Int32)), (0, .ref (zal G 80)), (1, .ref (zal G 1)), (2, .ref (zal G 2)), (3, .int x3)]) C.1 C.2.1 dX10_solve_28 hl (by decide) rfl (fun ls hl => ?_)
      exact w_X10_solve_r1_30 C hm hk ih zN _ _ _ _ _ _ (lv_sub hl [1, 2, 3, 4, 0] rfl) hS hf
set_option maxHeartbeats 4000000 in
set_option maxRecDepth 100000 in
theorem c_X10_solve_r1 (l : Launch) (G : zG) (h : zH) (q : Int32 × zH) (hm : ∀ c ∈ nd_X10_solve_r1, c ∈ znm G) (hk : ∀ q ∈ ld_X10_solve_r1, zlk G q.1 q.2 = true) (hf : f_X10_solve_r1 h = some q) : zCtV l yX10_solve cX10_solve 6 none (5) [.ref (zal G 80), .ref (zal G 1)] G h q.2 := by
  refine zMetV (by decide) (Nat.le_of_ble_eq_true rfl) ?_
  intro p e s m below meth c ls C hl hS
  have hl : lv_has ls 6 [(0, .ref (zal G 80)), (1, .ref (zal G 1))] := hl
  have C : zC G p s m [.ref (zal G 80), .ref (zal G 1)].toArray meth c cX10_solve 6 RX10 none := C
  unfold f_X10_solve_r1 at hf
  refine lv_aload_n C.1 C.2.1 dX10_solve_0 rfl (lv_at hl 1 rfl) ?_
  refine zgetR C hS ff_X10_18_1 (hm 1 (by decide)) (hk (1, 0) (by decide)) dX10_solve_1 ?_
  refine lv_astore_n (lv' := [(2, .ref (zal G 2)), (0, .ref (zal G 80)), (1, .ref (zal G 1))]) C.1 C.2.1 dX10_solve_4 rfl hl (by decide) rfl (fun ls hl => ?_)
  refine lv_iconst (v := (0 : Int32)) C.1 C.2.1 dX10_solve_5 rfl ?_
  refine lv_istore_n (lv' := [(3, .int (0 : Int32)), (2, .ref (zal G 2)), (0, .ref (zal G 80)), (1, .ref (zal G 1))]) C.1 C.2.1 dX10_solve_6 rfl hl (by decide) rfl (fun ls hl => ?_)
  exact w_X10_solve_r1_7 C hm hk  zN _ _ _ _ _ (lv_sub hl [2, 3, 1, 0] rfl) hS hf
end
section
theorem dX3_copyFrom_0 : decode cX3_copyFrom 0 = .ok (.aload_n 1, 1) := by decide +kernel
theorem dX3_copyFrom_1 : decode cX3_copyFrom 1 = .ok (.getfield 9, 3) := by decide +kernel
theorem dX3_copyFrom_4 : decode cX3_copyFrom 4 = .ok (.iconst 0, 1) := by decide +kernel
theorem dX3_copyFrom_5 : decode cX3_copyFrom 5 = .ok (.aload_n 0, 1) := by decide +kernel
theorem dX3_copyFrom_6 : decode cX3_copyFrom 6 = .ok (.getfield 9, 3) := by decide +kernel
theorem dX3_copyFrom_9 : decode cX3_copyFrom 9 = .ok (.iconst 0, 1) := by decide +kernel
theorem dX3_copyFrom_10 : decode cX3_copyFrom 10 = .ok (.bipush 16, 2) := by decide +kernel
theorem dX3_copyFrom_12 : decode cX3_copyFrom 12 = .ok (.invokestatic 24, 3) := by decide +kernel
theorem dX3_copyFrom_15 : decode cX3_copyFrom 15 = .ok (.aload_n 1, 1) := by decide +kernel
theorem dX3_copyFrom_16 : decode cX3_copyFrom 16 = .ok (.getfield 15, 3) := by decide +kernel
theorem dX3_copyFrom_19 : decode cX3_copyFrom 19 = .ok (.iconst 0, 1) := by decide +kernel
theorem dX3_copyFrom_20 : decode cX3_copyFrom 20 = .ok (.aload_n 0, 1) := by decide +kernel
theorem dX3_copyFrom_21 : decode cX3_copyFrom 21 = .ok (.getfield 15, 3) := by decide +kernel
theorem dX3_copyFrom_24 : decode cX3_copyFrom 24 = .ok (.iconst 0, 1) := by decide +kernel
theorem dX3_copyFrom_25 : decode cX3_copyFrom 25 = .ok (.bipush 16, 2) := by decide +kernel
theorem dX3_copyFrom_27 : decode cX3_copyFrom 27 = .ok (.invokestatic 24, 3) := by decide +kernel
theorem dX3_copyFrom_30 : decode cX3_copyFrom 30 = .ok (.aload_n 1, 1) := by decide +kernel
theorem dX3_copyFrom_31 : decode cX3_copyFrom 31 = .ok (.getfield 18, 3) := by decide +kernel
theorem dX3_copyFrom_34 : decode cX3_copyFrom 34 = .ok (.iconst 0, 1) := by decide +kernel
theorem dX3_copyFrom_35 : decode cX3_copyFrom 35 = .ok (.aload_n 0, 1) := by decide +kernel
theorem dX3_copyFrom_36 : decode cX3_copyFrom 36 = .ok (.getfield 18, 3) := by decide +kernel
theorem dX3_copyFrom_39 : decode cX3_copyFrom 39 = .ok (.iconst 0, 1) := by decide +kernel
theorem dX3_copyFrom_40 : decode cX3_copyFrom 40 = .ok (.bipush 16, 2) := by decide +kernel
theorem dX3_copyFrom_42 : decode cX3_copyFrom 42 = .ok (.invokestatic 24, 3) := by decide +kernel
theorem dX3_copyFrom_45 : decode cX3_copyFrom 45 = .ok (.aload_n 1, 1) := by decide +kernel
theorem dX3_copyFrom_46 : decode cX3_copyFrom 46 = .ok (.getfield 21, 3) := by decide +kernel
theorem dX3_copyFrom_49 : decode cX3_copyFrom 49 = .ok (.iconst 0, 1) := by decide +kernel
theorem dX3_copyFrom_50 : decode cX3_copyFrom 50 = .ok (.aload_n 0, 1) := by decide +kernel
theorem dX3_copyFrom_51 : decode cX3_copyFrom 51 = .ok (.getfield 21, 3) := by decide +kernel
theorem dX3_copyFrom_54 : decode cX3_copyFrom 54 = .ok (.iconst 0, 1) := by decide +kernel
theorem dX3_copyFrom_55 : decode cX3_copyFrom 55 = .ok (.bipush 96, 2) := by decide +kernel
theorem dX3_copyFrom_57 : decode cX3_copyFrom 57 = .ok (.invokestatic 24, 3) := by decide +kernel
theorem dX3_copyFrom_60 : decode cX3_copyFrom 60 = .ok (.aload_n 0, 1) := by decide +kernel
theorem dX3_copyFrom_61 : decode cX3_copyFrom 61 = .ok (.aload_n 1, 1) := by decide +kernel
theorem dX3_copyFrom_62 : decode cX3_copyFrom 62 = .ok (.getfield 30, 3) := by decide +kernel
theorem dX3_copyFrom_65 : decode cX3_copyFrom 65 = .ok (.putfield 30, 3) := by decide +kernel
theorem dX3_copyFrom_68 : decode cX3_copyFrom 68 = .ok (.return_, 1) := by decide +kernel
abbrev nd_X3_copyFrom_r51 : List Nat := [2, 3, 4, 5, 6, 51, 52, 53, 54, 55]
abbrev ld_X3_copyFrom_r51 : List (Nat × Nat) := [(2, 0), (2, 1), (2, 2), (2, 3), (51, 0), (51, 1), (51, 2), (51, 3)]
def f_X3_copyFrom_r51  (h : zH) : zR := (zcc 16 16 (0 : Int32) (0 : Int32) (16 : Int32) (zst (zcp h 52 3 (0 : Int32) (0 : Int32) (16 : Int32)) fun h1 => (zcc 16 16 (0 : Int32) (0 : Int32) (16 : Int32) (zst (zcp h1 53 4 (0 : Int32) (0 : Int32) (16 : Int32)) fun h2 => (zcc 16 16 (0 : Int32) (0 : Int32) (16 : Int32) (zst (zcp h2 54 5 (0 : Int32) (0 : Int32) (16 : Int32)) fun h3 => (zcc 96 96 (0 : Int32) (0 : Int32) (96 : Int32) (zst (zcp h3 55 6 (0 : Int32) (0 : Int32) (96 : Int32)) fun h4 => (zst (zup h4 2 4 (h4 51 4)) fun h5 => (some (0, h5)))))))))))
variable {p : Program} {l : Launch} {e : Env} {s : State} {m : MethodId} {args : Array Value} {below : List Frame} {meth : Method} {c : Code} {G : zG} {q : Int32 × zH}
set_option maxHeartbeats 4000000 in
set_option maxRecDepth 100000 in
theorem c_X3_copyFrom_r51 (l : Launch) (G : zG) (h : zH) (q : Int32 × zH) (hm : ∀ c ∈ nd_X3_copyFrom_r51, c ∈ znm G) (hk : ∀ q ∈ ld_X3_copyFrom_r51, zlk G q.1 q.2 = true) (hf : f_X3_copyFrom_r51 h = some q) : zCtV l yX3_copyFrom cX3_copyFrom 2 none (2) [.ref (zal G 2), .ref (zal G 51)] G h q.2 := by
  refine zMetV (by decide) (Nat.le_of_ble_eq_true rfl) ?_
  intro p e s m below meth c ls C hl hS
  have hl : lv_has ls 2 [(0, .ref (zal G 2)), (1, .ref (zal G 51))] := hl
  have C : zC G p s m [.ref (zal G 2), .ref (zal G 51)].toArray meth c cX3_copyFrom 2 RX3 none := C
  unfold f_X3_copyFrom_r51 at hf
  refine lv_aload_n C.1 C.2.1 dX3_copyFrom_0 rfl (lv_at hl 1 rfl) ?_
  refine zgetR C hS ff_X3_9_51 (hm 51 (by decide)) (hk (51, 0) (by decide)) dX3_copyFrom_1 ?_
  refine lv_iconst (v := (0 : Int32)) C.1 C.2.1 dX3_copyFrom_4 rfl ?_
  refine lv_aload_n C.1 C.2.1 dX3_copyFrom_5 rfl (lv_at hl 0 rfl) ?_
  refine zgetR C hS ff_X3_9_2 (hm 2 (by decide)) (hk (2, 0) (by decide)) dX3_copyFrom_6 ?_
  refine lv_iconst (v := (0 : Int32)) C.1 C.2.1 dX3_copyFrom_9 rfl ?_
  refine lv_bipush (v := (16 : Int32)) C.1 C.2.1 dX3_copyFrom_10 rfl ?_
  obtain ⟨hi, hf⟩ := zcc_some hf
  refine zacp C hS kw_1106 sh_52 sh_3 (hm 52 (by decide)) (hm 3 (by decide)) hi (Nat.le_of_ble_eq_true rfl) hl.1 ⟨Nat.le_of_ble_eq_true rfl, Nat.le_of_ble_eq_true rfl⟩ dX3_copyFrom_12 (fun H locs hS => ?_)
  obtain ⟨h1, eh1, hf⟩ := zst_some hf
  have hS : zS G h1 s.heap H locs := by rw [eh1]; exact hS
  refine lv_aload_n C.1 C.2.1 dX3_copyFrom_15 rfl (lv_at hl 1 rfl) ?_
  refine zgetR C hS ff_X3_15_51 (hm 51 (by decide)) (hk (51, 1) (by decide)) dX3_copyFrom_16 ?_
  refine lv_iconst (v := (0 : Int32)) C.1 C.2.1 dX3_copyFrom_19 rfl ?_
  refine lv_aload_n C.1 C.2.1 dX3_copyFrom_20 rfl (lv_at hl 0 rfl) ?_
  refine zgetR C hS ff_X3_15_2 (hm 2 (by decide)) (hk (2, 1) (by decide)) dX3_copyFrom_21 ?_
  refine lv_iconst (v := (0 : Int32)) C.1 C.2.1 dX3_copyFrom_24 rfl ?_
  refine lv_bipush (v := (16 : Int32)) C.1 C.2.1 dX3_copyFrom_25 rfl ?_
  obtain ⟨hi, hf⟩ := zcc_some hf
  refine zacp C hS kw_1106 sh_53 sh_4 (hm 53 (by decide)) (hm 4 (by decide)) hi (Nat.le_of_ble_eq_true rfl) hl.1 ⟨Nat.le_of_ble_eq_true rfl, Nat.le_of_ble_eq_true rfl⟩ dX3_copyFrom_27 (fun H locs hS => ?_)
  obtain ⟨h2, eh2, hf⟩ := zst_some hf
  have hS : zS G h2 s.heap H locs := by rw [eh2]; exact hS
  refine lv_aload_n C.1 C.2.1 dX3_copyFrom_30 rfl (lv_at hl 1 rfl) ?_
  refine zgetR C hS ff_X3_18_51 (hm 51 (by decide)) (hk (51, 2) (by decide)) dX3_copyFrom_31 ?_
  refine lv_iconst (v := (0 : Int32)) C.1 C.2.1 dX3_copyFrom_34 rfl ?_
  refine lv_aload_n C.1 C.2.1 dX3_copyFrom_35 rfl (lv_at hl 0 rfl) ?_
  refine zgetR C hS ff_X3_18_2 (hm 2 (by decide)) (hk (2, 2) (by decide)) dX3_copyFrom_36 ?_
  refine lv_iconst (v := (0 : Int32)) C.1 C.2.1 dX3_copyFrom_39 rfl ?_
  refine lv_bipush (v := (16 : Int32)) C.1 C.2.1 dX3_copyFrom_40 rfl ?_
  obtain ⟨hi, hf⟩ := zcc_some hf
  refine zacp C hS kw_1106 sh_54 sh_5 (hm 54 (by decide)) (hm 5 (by decide)) hi (Nat.le_of_ble_eq_true rfl) hl.1 ⟨Nat.le_of_ble_eq_true rfl, Nat.le_of_ble_eq_true rfl⟩ dX3_copyFrom_42 (fun H locs hS => ?_)
  obtain ⟨h3, eh3, hf⟩ := zst_some hf
  have hS : zS G h3 s.heap H locs := by rw [eh3]; exact hS
  refine lv_aload_n C.1 C.2.1 dX3_copyFrom_45 rfl (lv_at hl 1 rfl) ?_
  refine zgetR C hS ff_X3_21_51 (hm 51 (by decide)) (hk (51, 3) (by decide)) dX3_copyFrom_46 ?_
  refine lv_iconst (v := (0 : Int32)) C.1 C.2.1 dX3_copyFrom_49 rfl ?_
  refine lv_aload_n C.1 C.2.1 dX3_copyFrom_50 rfl (lv_at hl 0 rfl) ?_
  refine zgetR C hS ff_X3_21_2 (hm 2 (by decide)) (hk (2, 3) (by decide)) dX3_copyFrom_51 ?_
  refine lv_iconst (v := (0 : Int32)) C.1 C.2.1 dX3_copyFrom_54 rfl ?_
  refine lv_bipush (v := (96 : Int32)) C.1 C.2.1 dX3_copyFrom_55 rfl ?_
  obtain ⟨hi, hf⟩ := zcc_some hf
  refine zacp C hS kw_1106 sh_55 sh_6 (hm 55 (by decide)) (hm 6 (by decide)) hi (Nat.le_of_ble_eq_true rfl) hl.1 ⟨Nat.le_of_ble_eq_true rfl, Nat.le_of_ble_eq_true rfl⟩ dX3_copyFrom_57 (fun H locs hS => ?_)
  obtain ⟨h4, eh4, hf⟩ := zst_some hf
  have hS : zS G h4 s.heap H locs := by rw [eh4]; exact hS
  refine lv_aload_n C.1 C.2.1 dX3_copyFrom_60 rfl (lv_at hl 0 rfl) ?_
  refine lv_aload_n C.1 C.2.1 dX3_copyFrom_61 rfl (lv_at hl 1 rfl) ?_
  refine zgetI C hS ff_X3_30_51 (hm 51 (by decide)) dX3_copyFrom_62 ?_
  refine zputI C hS ff_X3_30_2 fw_2_4 (hm 2 (by decide)) dX3_copyFrom_65 (fun H locs hS => ?_)
  obtain ⟨h5, eh5, hf⟩ := zst_some hf
  have hS : zS G h5 s.heap H locs := by rw [eh5]; exact hS
  exact zretV C hS hf dX3_copyFrom_68
end
section
theorem dX9_copyFrom_0 : decode cX9_copyFrom 0 = .ok (.aload_n 1, 1) := by decide +kernel
theorem dX9_copyFrom_1 : decode cX9_copyFrom 1 = .ok (.getfield 9, 3) := by decide +kernel
theorem dX9_copyFrom_4 : decode cX9_copyFrom 4 = .ok (.iconst 0, 1) := by decide +kernel
theorem dX9_copyFrom_5 : decode cX9_copyFrom 5 = .ok (.aload_n 0, 1) := by decide +kernel
theorem dX9_copyFrom_6 : decode cX9_copyFrom 6 = .ok (.getfield 9, 3) := by decide +kernel
theorem dX9_copyFrom_9 : decode cX9_copyFrom 9 = .ok (.iconst 0, 1) := by decide +kernel
theorem dX9_copyFrom_10 : decode cX9_copyFrom 10 = .ok (.bipush 8, 2) := by decide +kernel
theorem dX9_copyFrom_12 : decode cX9_copyFrom 12 = .ok (.invokestatic 25, 3) := by decide +kernel
theorem dX9_copyFrom_15 : decode cX9_copyFrom 15 = .ok (.aload_n 1, 1) := by decide +kernel
theorem dX9_copyFrom_16 : decode cX9_copyFrom 16 = .ok (.getfield 15, 3) := by decide +kernel
theorem dX9_copyFrom_19 : decode cX9_copyFrom 19 = .ok (.iconst 0, 1) := by decide +kernel
theorem dX9_copyFrom_20 : decode cX9_copyFrom 20 = .ok (.aload_n 0, 1) := by decide +kernel
theorem dX9_copyFrom_21 : decode cX9_copyFrom 21 = .ok (.getfield 15, 3) := by decide +kernel
theorem dX9_copyFrom_24 : decode cX9_copyFrom 24 = .ok (.iconst 0, 1) := by decide +kernel
theorem dX9_copyFrom_25 : decode cX9_copyFrom 25 = .ok (.bipush 8, 2) := by decide +kernel
theorem dX9_copyFrom_27 : decode cX9_copyFrom 27 = .ok (.invokestatic 25, 3) := by decide +kernel
theorem dX9_copyFrom_30 : decode cX9_copyFrom 30 = .ok (.aload_n 1, 1) := by decide +kernel
theorem dX9_copyFrom_31 : decode cX9_copyFrom 31 = .ok (.getfield 18, 3) := by decide +kernel
theorem dX9_copyFrom_34 : decode cX9_copyFrom 34 = .ok (.iconst 0, 1) := by decide +kernel
theorem dX9_copyFrom_35 : decode cX9_copyFrom 35 = .ok (.aload_n 0, 1) := by decide +kernel
theorem dX9_copyFrom_36 : decode cX9_copyFrom 36 = .ok (.getfield 18, 3) := by decide +kernel
theorem dX9_copyFrom_39 : decode cX9_copyFrom 39 = .ok (.iconst 0, 1) := by decide +kernel
theorem dX9_copyFrom_40 : decode cX9_copyFrom 40 = .ok (.bipush 8, 2) := by decide +kernel
theorem dX9_copyFrom_42 : decode cX9_copyFrom 42 = .ok (.invokestatic 25, 3) := by decide +kernel
theorem dX9_copyFrom_45 : decode cX9_copyFrom 45 = .ok (.aload_n 0, 1) := by decide +kernel
theorem dX9_copyFrom_46 : decode cX9_copyFrom 46 = .ok (.aload_n 1, 1) := by decide +kernel
theorem dX9_copyFrom_47 : decode cX9_copyFrom 47 = .ok (.getfield 31, 3) := by decide +kernel
theorem dX9_copyFrom_50 : decode cX9_copyFrom 50 = .ok (.putfield 31, 3) := by decide +kernel
theorem dX9_copyFrom_53 : decode cX9_copyFrom 53 = .ok (.aload_n 0, 1) := by decide +kernel
theorem dX9_copyFrom_54 : decode cX9_copyFrom 54 = .ok (.aload_n 1, 1) := by decide +kernel
theorem dX9_copyFrom_55 : decode cX9_copyFrom 55 = .ok (.getfield 35, 3) := by decide +kernel
theorem dX9_copyFrom_58 : decode cX9_copyFrom 58 = .ok (.putfield 35, 3) := by decide +kernel
theorem dX9_copyFrom_61 : decode cX9_copyFrom 61 = .ok (.return_, 1) := by decide +kernel
abbrev nd_X9_copyFrom_r56 : List Nat := [7, 8, 9, 10, 56, 57, 58, 59]
abbrev ld_X9_copyFrom_r56 : List (Nat × Nat) := [(7, 0), (7, 1), (7, 2), (56, 0), (56, 1), (56, 2)]
def f_X9_copyFrom_r56  (h : zH) : zR := (zcc 8 8 (0 : Int32) (0 : Int32) (8 : Int32) (zst (zcp h 57 8 (0 : Int32) (0 : Int32) (8 : Int32)) fun h1 => (zcc 8 8 (0 : Int32) (0 : Int32) (8 : Int32) (zst (zcp h1 58 9 (0 : Int32) (0 : Int32) (8 : Int32)) fun h2 => (zcc 8 8 (0 : Int32) (0 : Int32) (8 : Int32) (zst (zcp h2 59 10 (0 : Int32) (0 : Int32) (8 : Int32)) fun h3 => (zst (zup h3 7 3 (h3 56 3)) fun h4 => (zst (zup h4 7 4 (h4 56 4)) fun h5 => (some (0, h5))))))))))
variable {p : Program} {l : Launch} {e : Env} {s : State} {m : MethodId} {args : Array Value} {below : List Frame} {meth : Method} {c : Code} {G : zG} {q : Int32 × zH}
set_option maxHeartbeats 4000000 in
set_option maxRecDepth 100000 in
theorem c_X9_copyFrom_r56 (l : Launch) (G : zG) (h : zH) (q : Int32 × zH) (hm : ∀ c ∈ nd_X9_copyFrom_r56, c ∈ znm G) (hk : ∀ q ∈ ld_X9_copyFrom_r56, zlk G q.1 q.2 = true) (hf : f_X9_copyFrom_r56 h = some q) : zCtV l yX9_copyFrom cX9_copyFrom 2 none (2) [.ref (zal G 7), .ref (zal G 56)] G h q.2 := by
  refine zMetV (by decide) (Nat.le_of_ble_eq_true rfl) ?_
  intro p e s m below meth c ls C hl hS
  have hl : lv_has ls 2 [(0, .ref (zal G 7)), (1, .ref (zal G 56))] := hl
  have C : zC G p s m [.ref (zal G 7), .ref (zal G 56)].toArray meth c cX9_copyFrom 2 RX9 none := C
  unfold f_X9_copyFrom_r56 at hf
  refine lv_aload_n C.1 C.2.1 dX9_copyFrom_0 rfl (lv_at hl 1 rfl) ?_
  refine zgetR C hS ff_X9_9_56 (hm 56 (by decide)) (hk (56, 0) (by decide)) dX9_copyFrom_1 ?_
  refine lv_iconst (v := (0 : Int32)) C.1 C.2.1 dX9_copyFrom_4 rfl ?_
  refine lv_aload_n C.1 C.2.1 dX9_copyFrom_5 rfl (lv_at hl 0 rfl) ?_
  refine zgetR C hS ff_X9_9_7 (hm 7 (by decide)) (hk (7, 0) (by decide)) dX9_copyFrom_6 ?_
  refine lv_iconst (v := (0 : Int32)) C.1 C.2.1 dX9_copyFrom_9 rfl ?_
  refine lv_bipush (v := (8 : Int32)) C.1 C.2.1 dX9_copyFrom_10 rfl ?_
  obtain ⟨hi, hf⟩ := zcc_some hf
  refine zacp C hS kw_1111 sh_57 sh_8 (hm 57 (by decide)) (hm 8 (by decide)) hi (Nat.le_of_ble_eq_true rfl) hl.1 ⟨Nat.le_of_ble_eq_true rfl, Nat.le_of_ble_eq_true rfl⟩ dX9_copyFrom_12 (fun H locs hS => ?_)
  obtain ⟨h1, eh1, hf⟩ := zst_some hf
  have hS : zS G h1 s.heap H locs := by rw [eh1]; exact hS
  refine lv_aload_n C.1 C.2.1 dX9_copyFrom_15 rfl (lv_at hl 1 rfl) ?_
  refine zgetR C hS ff_X9_15_56 (hm 56 (by decide)) (hk (56, 1) (by decide)) dX9_copyFrom_16 ?_
  refine lv_iconst (v := (0 : Int32)) C.1 C.2.1 dX9_copyFrom_19 rfl ?_
  refine lv_aload_n C.1 C.2.1 dX9_copyFrom_20 rfl (lv_at hl 0 rfl) ?_
  refine zgetR C hS ff_X9_15_7 (hm 7 (by decide)) (hk (7, 1) (by decide)) dX9_copyFrom_21 ?_
  refine lv_iconst (v := (0 : Int32)) C.1 C.2.1 dX9_copyFrom_24 rfl ?_
  refine lv_bipush (v := (8 : Int32)) C.1 C.2.1 dX9_copyFrom_25 rfl ?_
  obtain ⟨hi, hf⟩ := zcc_some hf
  refine zacp C hS kw_1111 sh_58 sh_9 (hm 58 (by decide)) (hm 9 (by decide)) hi (Nat.le_of_ble_eq_true rfl) hl.1 ⟨Nat.le_of_ble_eq_true rfl, Nat.le_of_ble_eq_true rfl⟩ dX9_copyFrom_27 (fun H locs hS => ?_)
  obtain ⟨h2, eh2, hf⟩ := zst_some hf
  have hS : zS G h2 s.heap H locs := by rw [eh2]; exact hS
  refine lv_aload_n C.1 C.2.1 dX9_copyFrom_30 rfl (lv_at hl 1 rfl) ?_
  refine zgetR C hS ff_X9_18_56 (hm 56 (by decide)) (hk (56, 2) (by decide)) dX9_copyFrom_31 ?_
  refine lv_iconst (v := (0 : Int32)) C.1 C.2.1 dX9_copyFrom_34 rfl ?_
  refine lv_aload_n C.1 C.2.1 dX9_copyFrom_35 rfl (lv_at hl 0 rfl) ?_
  refine zgetR C hS ff_X9_18_7 (hm 7 (by decide)) (hk (7, 2) (by decide)) dX9_copyFrom_36 ?_
  refine lv_iconst (v := (0 : Int32)) C.1 C.2.1 dX9_copyFrom_39 rfl ?_
  refine lv_bipush (v := (8 : Int32)) C.1 C.2.1 dX9_copyFrom_40 rfl ?_
  obtain ⟨hi, hf⟩ := zcc_some hf
  refine zacp C hS kw_1111 sh_59 sh_10 (hm 59 (by decide)) (hm 10 (by decide)) hi (Nat.le_of_ble_eq_true rfl) hl.1 ⟨Nat.le_of_ble_eq_true rfl, Nat.le_of_ble_eq_true rfl⟩ dX9_copyFrom_42 (fun H locs hS => ?_)
  obtain ⟨h3, eh3, hf⟩ := zst_some hf
  have hS : zS G h3 s.heap H locs := by rw [eh3]; exact hS
  refine lv_aload_n C.1 C.2.1 dX9_copyFrom_45 rfl (lv_at hl 0 rfl) ?_
  refine lv_aload_n C.1 C.2.1 dX9_copyFrom_46 rfl (lv_at hl 1 rfl) ?_
  refine zgetI C hS ff_X9_31_56 (hm 56 (by decide)) dX9_copyFrom_47 ?_
  refine zputI C hS ff_X9_31_7 fw_7_3 (hm 7 (by decide)) dX9_copyFrom_50 (fun H locs hS => ?_)
  obtain ⟨h4, eh4, hf⟩ := zst_some hf
  have hS : zS G h4 s.heap H locs := by rw [eh4]; exact hS
  refine lv_aload_n C.1 C.2.1 dX9_copyFrom_53 rfl (lv_at hl 0 rfl) ?_
  refine lv_aload_n C.1 C.2.1 dX9_copyFrom_54 rfl (lv_at hl 1 rfl) ?_
  refine zgetI C hS ff_X9_35_56 (hm 56 (by decide)) dX9_copyFrom_55 ?_
  refine zputI C hS ff_X9_35_7 fw_7_4 (hm 7 (by decide)) dX9_copyFrom_58 (fun H locs hS => ?_)
  obtain ⟨h5, eh5, hf⟩ := zst_some hf
  have hS : zS G h5 s.heap H locs := by rw [eh5]; exact hS
  exact zretV C hS hf dX9_copyFrom_61
end
section
theorem dX0_copyFrom_0 : decode cX0_copyFrom 0 = .ok (.aload_n 1, 1) := by decide +kernel
theorem dX0_copyFrom_1 : decode cX0_copyFrom 1 = .ok (.getfield 9, 3) := by decide +kernel
theorem dX0_copyFrom_4 : decode cX0_copyFrom 4 = .ok (.iconst 0, 1) := by decide +kernel
theorem dX0_copyFrom_5 : decode cX0_copyFrom 5 = .ok (.aload_n 0, 1) := by decide +kernel
theorem dX0_copyFrom_6 : decode cX0_copyFrom 6 = .ok (.getfield 9, 3) := by decide +kernel
theorem dX0_copyFrom_9 : decode cX0_copyFrom 9 = .ok (.iconst 0, 1) := by decide +kernel
theorem dX0_copyFrom_10 : decode cX0_copyFrom 10 = .ok (.sipush 256, 3) := by decide +kernel
theorem dX0_copyFrom_13 : decode cX0_copyFrom 13 = .ok (.invokestatic 24, 3) := by decide +kernel
theorem dX0_copyFrom_16 : decode cX0_copyFrom 16 = .ok (.aload_n 1, 1) := by decide +kernel
theorem dX0_copyFrom_17 : decode cX0_copyFrom 17 = .ok (.getfield 15, 3) := by decide +kernel
theorem dX0_copyFrom_20 : decode cX0_copyFrom 20 = .ok (.iconst 0, 1) := by decide +kernel
theorem dX0_copyFrom_21 : decode cX0_copyFrom 21 = .ok (.aload_n 0, 1) := by decide +kernel
theorem dX0_copyFrom_22 : decode cX0_copyFrom 22 = .ok (.getfield 15, 3) := by decide +kernel
theorem dX0_copyFrom_25 : decode cX0_copyFrom 25 = .ok (.iconst 0, 1) := by decide +kernel
theorem dX0_copyFrom_26 : decode cX0_copyFrom 26 = .ok (.sipush 256, 3) := by decide +kernel
theorem dX0_copyFrom_29 : decode cX0_copyFrom 29 = .ok (.invokestatic 24, 3) := by decide +kernel
theorem dX0_copyFrom_32 : decode cX0_copyFrom 32 = .ok (.aload_n 1, 1) := by decide +kernel
theorem dX0_copyFrom_33 : decode cX0_copyFrom 33 = .ok (.getfield 18, 3) := by decide +kernel
theorem dX0_copyFrom_36 : decode cX0_copyFrom 36 = .ok (.iconst 0, 1) := by decide +kernel
theorem dX0_copyFrom_37 : decode cX0_copyFrom 37 = .ok (.aload_n 0, 1) := by decide +kernel
theorem dX0_copyFrom_38 : decode cX0_copyFrom 38 = .ok (.getfield 18, 3) := by decide +kernel
theorem dX0_copyFrom_41 : decode cX0_copyFrom 41 = .ok (.iconst 0, 1) := by decide +kernel
theorem dX0_copyFrom_42 : decode cX0_copyFrom 42 = .ok (.bipush 6, 2) := by decide +kernel
theorem dX0_copyFrom_44 : decode cX0_copyFrom 44 = .ok (.invokestatic 24, 3) := by decide +kernel
theorem dX0_copyFrom_47 : decode cX0_copyFrom 47 = .ok (.aload_n 1, 1) := by decide +kernel
theorem dX0_copyFrom_48 : decode cX0_copyFrom 48 = .ok (.getfield 21, 3) := by decide +kernel
theorem dX0_copyFrom_51 : decode cX0_copyFrom 51 = .ok (.iconst 0, 1) := by decide +kernel
theorem dX0_copyFrom_52 : decode cX0_copyFrom 52 = .ok (.aload_n 0, 1) := by decide +kernel
theorem dX0_copyFrom_53 : decode cX0_copyFrom 53 = .ok (.getfield 21, 3) := by decide +kernel
theorem dX0_copyFrom_56 : decode cX0_copyFrom 56 = .ok (.iconst 0, 1) := by decide +kernel
theorem dX0_copyFrom_57 : decode cX0_copyFrom 57 = .ok (.aload_n 1, 1) := by decide +kernel
theorem dX0_copyFrom_58 : decode cX0_copyFrom 58 = .ok (.getfield 30, 3) := by decide +kernel
theorem dX0_copyFrom_61 : decode cX0_copyFrom 61 = .ok (.bipush 6, 2) := by decide +kernel
theorem dX0_copyFrom_63 : decode cX0_copyFrom 63 = .ok (.imul, 1) := by decide +kernel
theorem dX0_copyFrom_64 : decode cX0_copyFrom 64 = .ok (.invokestatic 24, 3) := by decide +kernel
theorem dX0_copyFrom_67 : decode cX0_copyFrom 67 = .ok (.aload_n 0, 1) := by decide +kernel
theorem dX0_copyFrom_68 : decode cX0_copyFrom 68 = .ok (.aload_n 1, 1) := by decide +kernel
theorem dX0_copyFrom_69 : decode cX0_copyFrom 69 = .ok (.getfield 30, 3) := by decide +kernel
theorem dX0_copyFrom_72 : decode cX0_copyFrom 72 = .ok (.putfield 30, 3) := by decide +kernel
theorem dX0_copyFrom_75 : decode cX0_copyFrom 75 = .ok (.aload_n 0, 1) := by decide +kernel
theorem dX0_copyFrom_76 : decode cX0_copyFrom 76 = .ok (.aload_n 1, 1) := by decide +kernel
theorem dX0_copyFrom_77 : decode cX0_copyFrom 77 = .ok (.getfield 34, 3) := by decide +kernel
theorem dX0_copyFrom_80 : decode cX0_copyFrom 80 = .ok (.putfield 34, 3) := by decide +kernel
theorem dX0_copyFrom_83 : decode cX0_copyFrom 83 = .ok (.return_, 1) := by decide +kernel
abbrev nd_X0_copyFrom_r60 : List Nat := [11, 12, 13, 14, 15, 60, 61, 62, 63, 64]
abbrev ld_X0_copyFrom_r60 : List (Nat × Nat) := [(11, 0), (11, 1), (11, 2), (11, 3), (60, 0), (60, 1), (60, 2), (60, 3)]
def f_X0_copyFrom_r60  (h : zH) : zR := (zcc 256 256 (0 : Int32) (0 : Int32) (256 : Int32) (zst (zcp h 61 12 (0 : Int32) (0 : Int32) (256 : Int32)) fun h1 => (zcc 256 256 (0 : Int32) (0 : Int32) (256 : Int32) (zst (zcp h1 62 13 (0 : Int32) (0 : Int32) (256 : Int32)) fun h2 => (zcc 6 6 (0 : Int32) (0 : Int32) (6 : Int32) (zst (zcp h2 63 14 (0 : Int32) (0 : Int32) (6 : Int32)) fun h3 => (zcc 600 600 (0 : Int32) (0 : Int32) ((h3 60 4) * (6 : Int32)) (zst (zcp h3 64 15 (0 : Int32) (0 : Int32) ((h3 60 4) * (6 : Int32))) fun h4 => (zst (zup h4 11 4 (h4 60 4)) fun h5 => (zst (zup h5 11 5 (h5 60 5)) fun h6 => (some (0, h6))))))))))))
variable {p : Program} {l : Launch} {e : Env} {s : State} {m : MethodId} {args : Array Value} {below : List Frame} {meth : Method} {c : Code} {G : zG} {q : Int32 × zH}
set_option maxHeartbeats 4000000 in
set_option maxRecDepth 100000 in
theorem c_X0_copyFrom_r60 (l : Launch) (G : zG) (h : zH) (q : Int32 × zH) (hm : ∀ c ∈ nd_X0_copyFrom_r60, c ∈ znm G) (hk : ∀ q ∈ ld_X0_copyFrom_r60, zlk G q.1 q.2 = true) (hf : f_X0_copyFrom_r60 h = some q) : zCtV l yX0_copyFrom cX0_copyFrom 2 none (2) [.ref (zal G 11), .ref (zal G 60)] G h q.2 := by
  refine zMetV (by decide) (Nat.le_of_ble_eq_true rfl) ?_
  intro p e s m below meth c ls C hl hS
  have hl : lv_has ls 2 [(0, .ref (zal G 11)), (1, .ref (zal G 60))] := hl
  have C : zC G p s m [.ref (zal G 11), .ref (zal G 60)].toArray meth c cX0_copyFrom 2 RX0 none := C
  unfold f_X0_copyFrom_r60 at hf
  refine lv_aload_n C.1 C.2.1 dX0_copyFrom_0 rfl (lv_at hl 1 rfl) ?_
  refine zgetR C hS ff_X0_9_60 (hm 60 (by decide)) (hk (60, 0) (by decide)) dX0_copyFrom_1 ?_
  refine lv_iconst (v := (0 : Int32)) C.1 C.2.1 dX0_copyFrom_4 rfl ?_
  refine lv_aload_n C.1 C.2.1 dX0_copyFrom_5 rfl (lv_at hl 0 rfl) ?_
  refine zgetR C hS ff_X0_9_11 (hm 11 (by decide)) (hk (11, 0) (by decide)) dX0_copyFrom_6 ?_
  refine lv_iconst (v := (0 : Int32)) C.1 C.2.1 dX0_copyFrom_9 rfl ?_
  refine lv_sipush (v := (256 : Int32)) C.1 C.2.1 dX0_copyFrom_10 rfl ?_
  obtain ⟨hi, hf⟩ := zcc_some hf
  refine zacp C hS kw_1116 sh_61 sh_12 (hm 61 (by decide)) (hm 12 (by decide)) hi (Nat.le_of_ble_eq_true rfl) hl.1 ⟨Nat.le_of_ble_eq_true rfl, Nat.le_of_ble_eq_true rfl⟩ dX0_copyFrom_13 (fun H locs hS => ?_)
  obtain ⟨h1, eh1, hf⟩ := zst_some hf
  have hS : zS G h1 s.heap H locs := by rw [eh1]; exact hS
  refine lv_aload_n C.1 C.2.1 dX0_copyFrom_16 rfl (lv_at hl 1 rfl) ?_
  refine zgetR C hS ff_X0_15_60 (hm 60 (by decide)) (hk (60, 1) (by decide)) dX0_copyFrom_17 ?_
  refine lv_iconst (v := (0 : Int32)) C.1 C.2.1 dX0_copyFrom_20 rfl ?_
  refine lv_aload_n C.1 C.2.1 dX0_copyFrom_21 rfl (lv_at hl 0 rfl) ?_
  refine zgetR C hS ff_X0_15_11 (hm 11 (by decide)) (hk (11, 1) (by decide)) dX0_copyFrom_22 ?_
  refine lv_iconst (v := (0 : Int32)) C.1 C.2.1 dX0_copyFrom_25 rfl ?_
  refine lv_sipush (v := (256 : Int32)) C.1 C.2.1 dX0_copyFrom_26 rfl ?_
  obtain ⟨hi, hf⟩ := zcc_some hf
  refine zacp C hS kw_1116 sh_62 sh_13 (hm 62 (by decide)) (hm 13 (by decide)) hi (Nat.le_of_ble_eq_true rfl) hl.1 ⟨Nat.le_of_ble_eq_true rfl, Nat.le_of_ble_eq_true rfl⟩ dX0_copyFrom_29 (fun H locs hS => ?_)
  obtain ⟨h2, eh2, hf⟩ := zst_some hf
  have hS : zS G h2 s.heap H locs := by rw [eh2]; exact hS
  refine lv_aload_n C.1 C.2.1 dX0_copyFrom_32 rfl (lv_at hl 1 rfl) ?_
  refine zgetR C hS ff_X0_18_60 (hm 60 (by decide)) (hk (60, 2) (by decide)) dX0_copyFrom_33 ?_
  refine lv_iconst (v := (0 : Int32)) C.1 C.2.1 dX0_copyFrom_36 rfl ?_
  refine lv_aload_n C.1 C.2.1 dX0_copyFrom_37 rfl (lv_at hl 0 rfl) ?_
  refine zgetR C hS ff_X0_18_11 (hm 11 (by decide)) (hk (11, 2) (by decide)) dX0_copyFrom_38 ?_
  refine lv_iconst (v := (0 : Int32)) C.1 C.2.1 dX0_copyFrom_41 rfl ?_
  refine lv_bipush (v := (6 : Int32)) C.1 C.2.1 dX0_copyFrom_42 rfl ?_
  obtain ⟨hi, hf⟩ := zcc_some hf
  refine zacp C hS kw_1116 sh_63 sh_14 (hm 63 (by decide)) (hm 14 (by decide)) hi (Nat.le_of_ble_eq_true rfl) hl.1 ⟨Nat.le_of_ble_eq_true rfl, Nat.le_of_ble_eq_true rfl⟩ dX0_copyFrom_44 (fun H locs hS => ?_)
  obtain ⟨h3, eh3, hf⟩ := zst_some hf
  have hS : zS G h3 s.heap H locs := by rw [eh3]; exact hS
  refine lv_aload_n C.1 C.2.1 dX0_copyFrom_47 rfl (lv_at hl 1 rfl) ?_
  refine zgetR C hS ff_X0_21_60 (hm 60 (by decide)) (hk (60, 3) (by decide)) dX0_copyFrom_48 ?_
  refine lv_iconst (v := (0 : Int32)) C.1 C.2.1 dX0_copyFrom_51 rfl ?_
  refine lv_aload_n C.1 C.2.1 dX0_copyFrom_52 rfl (lv_at hl 0 rfl) ?_
  refine zgetR C hS ff_X0_21_11 (hm 11 (by decide)) (hk (11, 3) (by decide)) dX0_copyFrom_53 ?_
  refine lv_iconst (v := (0 : Int32)) C.1 C.2.1 dX0_copyFrom_56 rfl ?_
  refine lv_aload_n C.1 C.2.1 dX0_copyFrom_57 rfl (lv_at hl 1 rfl) ?_
  refine zgetI C hS ff_X0_30_60 (hm 60 (by decide)) dX0_copyFrom_58 ?_
  refine lv_bipush (v := (6 : Int32)) C.1 C.2.1 dX0_copyFrom_61 rfl ?_
  refine lv_imul C.1 C.2.1 dX0_copyFrom_63 ?_
  obtain ⟨hi, hf⟩ := zcc_some hf
  refine zacp C hS kw_1116 sh_64 sh_15 (hm 64 (by decide)) (hm 15 (by decide)) hi (Nat.le_of_ble_eq_true rfl) hl.1 ⟨Nat.le_of_ble_eq_true rfl, Nat.le_of_ble_eq_true rfl⟩ dX0_copyFrom_64 (fun H locs hS => ?_)
  obtain ⟨h4, eh4, hf⟩ := zst_some hf
  have hS : zS G h4 s.heap H locs := by rw [eh4]; exact hS
  refine lv_aload_n C.1 C.2.1 dX0_copyFrom_67 rfl (lv_at hl 0 rfl) ?_
  refine lv_aload_n C.1 C.2.1 dX0_copyFrom_68 rfl (lv_at hl 1 rfl) ?_
  refine zgetI C hS ff_X0_30_60 (hm 60 (by decide)) dX0_copyFrom_69 ?_
  refine zputI C hS ff_X0_30_11 fw_11_4 (hm 11 (by decide)) dX0_copyFrom_72 (fun H locs hS => ?_)
  obtain ⟨h5, eh5, hf⟩ := zst_some hf
  have hS : zS G h5 s.heap H locs := by rw [eh5]; exact hS
  refine lv_aload_n C.1 C.2.1 dX0_copyFrom_75 rfl (lv_at hl 0 rfl) ?_
  refine lv_aload_n C.1 C.2.1 dX0_copyFrom_76 rfl (lv_at hl 1 rfl) ?_
  refine zgetI C hS ff_X0_34_60 (hm 60 (by decide)) dX0_copyFrom_77 ?_
  refine zputI C hS ff_X0_34_11 fw_11_5 (hm 11 (by decide)) dX0_copyFrom_80 (fun H locs hS => ?_)
  obtain ⟨h6, eh6, hf⟩ := zst_some hf
  have hS : zS G h6 s.heap H locs := by rw [eh6]; exact hS
  exact zretV C hS hf dX0_copyFrom_83
end
section
theorem dX5_copyFrom_0 : decode cX5_copyFrom 0 = .ok (.aload_n 1, 1) := by decide +kernel
theorem dX5_copyFrom_1 : decode cX5_copyFrom 1 = .ok (.getfield 11, 3) := by decide +kernel
theorem dX5_copyFrom_4 : decode cX5_copyFrom 4 = .ok (.iconst 0, 1) := by decide +kernel
theorem dX5_copyFrom_5 : decode cX5_copyFrom 5 = .ok (.aload_n 0, 1) := by decide +kernel
theorem dX5_copyFrom_6 : decode cX5_copyFrom 6 = .ok (.getfield 11, 3) := by decide +kernel
theorem dX5_copyFrom_9 : decode cX5_copyFrom 9 = .ok (.iconst 0, 1) := by decide +kernel
theorem dX5_copyFrom_10 : decode cX5_copyFrom 10 = .ok (.aload_n 1, 1) := by decide +kernel
theorem dX5_copyFrom_11 : decode cX5_copyFrom 11 = .ok (.getfield 21, 3) := by decide +kernel
theorem dX5_copyFrom_14 : decode cX5_copyFrom 14 = .ok (.invokestatic 28, 3) := by decide +kernel
theorem dX5_copyFrom_17 : decode cX5_copyFrom 17 = .ok (.aload_n 1, 1) := by decide +kernel
theorem dX5_copyFrom_18 : decode cX5_copyFrom 18 = .ok (.getfield 15, 3) := by decide +kernel
theorem dX5_copyFrom_21 : decode cX5_copyFrom 21 = .ok (.iconst 0, 1) := by decide +kernel
theorem dX5_copyFrom_22 : decode cX5_copyFrom 22 = .ok (.aload_n 0, 1) := by decide +kernel
theorem dX5_copyFrom_23 : decode cX5_copyFrom 23 = .ok (.getfield 15, 3) := by decide +kernel
theorem dX5_copyFrom_26 : decode cX5_copyFrom 26 = .ok (.iconst 0, 1) := by decide +kernel
theorem dX5_copyFrom_27 : decode cX5_copyFrom 27 = .ok (.aload_n 1, 1) := by decide +kernel
theorem dX5_copyFrom_28 : decode cX5_copyFrom 28 = .ok (.getfield 21, 3) := by decide +kernel
theorem dX5_copyFrom_31 : decode cX5_copyFrom 31 = .ok (.invokestatic 28, 3) := by decide +kernel
theorem dX5_copyFrom_34 : decode cX5_copyFrom 34 = .ok (.aload_n 0, 1) := by decide +kernel
theorem dX5_copyFrom_35 : decode cX5_copyFrom 35 = .ok (.aload_n 1, 1) := by decide +kernel
theorem dX5_copyFrom_36 : decode cX5_copyFrom 36 = .ok (.getfield 21, 3) := by decide +kernel
theorem dX5_copyFrom_39 : decode cX5_copyFrom 39 = .ok (.putfield 21, 3) := by decide +kernel
theorem dX5_copyFrom_42 : decode cX5_copyFrom 42 = .ok (.aload_n 0, 1) := by decide +kernel
theorem dX5_copyFrom_43 : decode cX5_copyFrom 43 = .ok (.aload_n 1, 1) := by decide +kernel
theorem dX5_copyFrom_44 : decode cX5_copyFrom 44 = .ok (.getfield 25, 3) := by decide +kernel
theorem dX5_copyFrom_47 : decode cX5_copyFrom 47 = .ok (.putfield 25, 3) := by decide +kernel
theorem dX5_copyFrom_50 : decode cX5_copyFrom 50 = .ok (.return_, 1) := by decide +kernel
abbrev nd_X5_copyFrom_r65 : List Nat := [16, 17, 18, 65, 66, 67]
abbrev ld_X5_copyFrom_r65 : List (Nat × Nat) := [(16, 0), (16, 1), (65, 0), (65, 1)]
def f_X5_copyFrom_r65  (h : zH) : zR := (zcc 400 400 (0 : Int32) (0 : Int32) (h 65 3) (zst (zcp h 66 17 (0 : Int32) (0 : Int32) (h 65 3)) fun h1 => (zcc 400 400 (0 : Int32) (0 : Int32) (h1 65 3) (zst (zcp h1 67 18 (0 : Int32) (0 : Int32) (h1 65 3)) fun h2 => (zst (zup h2 16 3 (h2 65 3)) fun h3 => (zst (zup h3 16 4 (h3 65 4)) fun h4 => (some (0, h4))))))))
variable {p : Program} {l : Launch} {e : Env} {s : State} {m : MethodId} {args : Array Value} {below : List Frame} {meth : Method} {c : Code} {G : zG} {q : Int32 × zH}
set_option maxHeartbeats 4000000 in
set_option maxRecDepth 100000 in
theorem c_X5_copyFrom_r65 (l : Launch) (G : zG) (h : zH) (q : Int32 × zH) (hm : ∀ c ∈ nd_X5_copyFrom_r65, c ∈ znm G) (hk : ∀ q ∈ ld_X5_copyFrom_r65, zlk G q.1 q.2 = true) (hf : f_X5_copyFrom_r65 h = some q) : zCtV l yX5_copyFrom cX5_copyFrom 2 none (2) [.ref (zal G 16), .ref (zal G 65)] G h q.2 := by
  refine zMetV (by decide) (Nat.le_of_ble_eq_true rfl) ?_
  intro p e s m below meth c ls C hl hS
  have hl : lv_has ls 2 [(0, .ref (zal G 16)), (1, .ref (zal G 65))] := hl
  have C : zC G p s m [.ref (zal G 16), .ref (zal G 65)].toArray meth c cX5_copyFrom 2 RX5 none := C
  unfold f_X5_copyFrom_r65 at hf
  refine lv_aload_n C.1 C.2.1 dX5_copyFrom_0 rfl (lv_at hl 1 rfl) ?_
  refine zgetR C hS ff_X5_11_65 (hm 65 (by decide)) (hk (65, 0) (by decide)) dX5_copyFrom_1 ?_
  refine lv_iconst (v := (0 : Int32)) C.1 C.2.1 dX5_copyFrom_4 rfl ?_
  refine lv_aload_n C.1 C.2.1 dX5_copyFrom_5 rfl (lv_at hl 0 rfl) ?_
  refine zgetR C hS ff_X5_11_16 (hm 16 (by decide)) (hk (16, 0) (by decide)) dX5_copyFrom_6 ?_
  refine lv_iconst (v := (0 : Int32)) C.1 C.2.1 dX5_copyFrom_9 rfl ?_
  refine lv_aload_n C.1 C.2.1 dX5_copyFrom_10 rfl (lv_at hl 1 rfl) ?_
  refine zgetI C hS ff_X5_21_65 (hm 65 (by decide)) dX5_copyFrom_11 ?_
  obtain ⟨hi, hf⟩ := zcc_some hf
  refine zacp C hS kw_748 sh_66 sh_17 (hm 66 (by decide)) (hm 17 (by decide)) hi (Nat.le_of_ble_eq_true rfl) hl.1 ⟨Nat.le_of_ble_eq_true rfl, Nat.le_of_ble_eq_true rfl⟩ dX5_copyFrom_14 (fun H locs hS => ?_)
  obtain ⟨h1, eh1, hf⟩ := zst_some hf
  have hS : zS G h1 s.heap H locs := by rw [eh1]; exact hS
  refine lv_aload_n C.1 C.2.1 dX5_copyFrom_17 rfl (lv_at hl 1 rfl) ?_
  refine zgetR C hS ff_X5_15_65 (hm 65 (by decide)) (hk (65, 1) (by decide)) dX5_copyFrom_18 ?_
  refine lv_iconst (v := (0 : Int32)) C.1 C.2.1 dX5_copyFrom_21 rfl ?_
  refine lv_aload_n C.1 C.2.1 dX5_copyFrom_22 rfl (lv_at hl 0 rfl) ?_
  refine zgetR C hS ff_X5_15_16 (hm 16 (by decide)) (hk (16, 1) (by decide)) dX5_copyFrom_23 ?_
  refine lv_iconst (v := (0 : Int32)) C.1 C.2.1 dX5_copyFrom_26 rfl ?_
  refine lv_aload_n C.1 C.2.1 dX5_copyFrom_27 rfl (lv_at hl 1 rfl) ?_
  refine zgetI C hS ff_X5_21_65 (hm 65 (by decide)) dX5_copyFrom_28 ?_
  obtain ⟨hi, hf⟩ := zcc_some hf
  refine zacp C hS kw_748 sh_67 sh_18 (hm 67 (by decide)) (hm 18 (by decide)) hi (Nat.le_of_ble_eq_true rfl) hl.1 ⟨Nat.le_of_ble_eq_true rfl, Nat.le_of_ble_eq_true rfl⟩ dX5_copyFrom_31 (fun H locs hS => ?_)
  obtain ⟨h2, eh2, hf⟩ := zst_some hf
  have hS : zS G h2 s.heap H locs := by rw [eh2]; exact hS
  refine lv_aload_n C.1 C.2.1 dX5_copyFrom_34 rfl (lv_at hl 0 rfl) ?_
  refine lv_aload_n C.1 C.2.1 dX5_copyFrom_35 rfl (lv_at hl 1 rfl) ?_
  refine zgetI C hS ff_X5_21_65 (hm 65 (by decide)) dX5_copyFrom_36 ?_
  refine zputI C hS ff_X5_21_16 fw_16_3 (hm 16 (by decide)) dX5_copyFrom_39 (fun H locs hS => ?_)
  obtain ⟨h3, eh3, hf⟩ := zst_some hf
  have hS : zS G h3 s.heap H locs := by rw [eh3]; exact hS
  refine lv_aload_n C.1 C.2.1 dX5_copyFrom_42 rfl (lv_at hl 0 rfl) ?_
  refine lv_aload_n C.1 C.2.1 dX5_copyFrom_43 rfl (lv_at hl 1 rfl) ?_
  refine zgetI C hS ff_X5_25_65 (hm 65 (by decide)) dX5_copyFrom_44 ?_
  refine zputI C hS ff_X5_25_16 fw_16_4 (hm 16 (by decide)) dX5_copyFrom_47 (fun H locs hS => ?_)
  obtain ⟨h4, eh4, hf⟩ := zst_some hf
  have hS : zS G h4 s.heap H locs := by rw [eh4]; exact hS
  exact zretV C hS hf dX5_copyFrom_50
end
section
theorem dX4_copyFrom_0 : decode cX4_copyFrom 0 = .ok (.aload_n 0, 1) := by decide +kernel
theorem dX4_copyFrom_1 : decode cX4_copyFrom 1 = .ok (.getfield 12, 3) := by decide +kernel
theorem dX4_copyFrom_4 : decode cX4_copyFrom 4 = .ok (.aload_n 1, 1) := by decide +kernel
theorem dX4_copyFrom_5 : decode cX4_copyFrom 5 = .ok (.getfield 12, 3) := by decide +kernel
theorem dX4_copyFrom_8 : decode cX4_copyFrom 8 = .ok (.invokevirtual 50, 3) := by decide +kernel
theorem dX4_copyFrom_11 : decode cX4_copyFrom 11 = .ok (.aload_n 0, 1) := by decide +kernel
theorem dX4_copyFrom_12 : decode cX4_copyFrom 12 = .ok (.getfield 21, 3) := by decide +kernel
theorem dX4_copyFrom_15 : decode cX4_copyFrom 15 = .ok (.aload_n 1, 1) := by decide +kernel
theorem dX4_copyFrom_16 : decode cX4_copyFrom 16 = .ok (.getfield 21, 3) := by decide +kernel
theorem dX4_copyFrom_19 : decode cX4_copyFrom 19 = .ok (.invokevirtual 54, 3) := by decide +kernel
theorem dX4_copyFrom_22 : decode cX4_copyFrom 22 = .ok (.aload_n 0, 1) := by decide +kernel
theorem dX4_copyFrom_23 : decode cX4_copyFrom 23 = .ok (.getfield 28, 3) := by decide +kernel
theorem dX4_copyFrom_26 : decode cX4_copyFrom 26 = .ok (.aload_n 1, 1) := by decide +kernel
theorem dX4_copyFrom_27 : decode cX4_copyFrom 27 = .ok (.getfield 28, 3) := by decide +kernel
theorem dX4_copyFrom_30 : decode cX4_copyFrom 30 = .ok (.invokevirtual 57, 3) := by decide +kernel
theorem dX4_copyFrom_33 : decode cX4_copyFrom 33 = .ok (.aload_n 0, 1) := by decide +kernel
theorem dX4_copyFrom_34 : decode cX4_copyFrom 34 = .ok (.getfield 35, 3) := by decide +kernel
theorem dX4_copyFrom_37 : decode cX4_copyFrom 37 = .ok (.aload_n 1, 1) := by decide +kernel
theorem dX4_copyFrom_38 : decode cX4_copyFrom 38 = .ok (.getfield 35, 3) := by decide +kernel
theorem dX4_copyFrom_41 : decode cX4_copyFrom 41 = .ok (.invokevirtual 60, 3) := by decide +kernel
theorem dX4_copyFrom_44 : decode cX4_copyFrom 44 = .ok (.aload_n 1, 1) := by decide +kernel
theorem dX4_copyFrom_45 : decode cX4_copyFrom 45 = .ok (.getfield 39, 3) := by decide +kernel
theorem dX4_copyFrom_48 : decode cX4_copyFrom 48 = .ok (.iconst 0, 1) := by decide +kernel
theorem dX4_copyFrom_49 : decode cX4_copyFrom 49 = .ok (.aload_n 0, 1) := by decide +kernel
theorem dX4_copyFrom_50 : decode cX4_copyFrom 50 = .ok (.getfield 39, 3) := by decide +kernel
theorem dX4_copyFrom_53 : decode cX4_copyFrom 53 = .ok (.iconst 0, 1) := by decide +kernel
theorem dX4_copyFrom_54 : decode cX4_copyFrom 54 = .ok (.bipush 6, 2) := by decide +kernel
theorem dX4_copyFrom_56 : decode cX4_copyFrom 56 = .ok (.invokestatic 63, 3) := by decide +kernel
theorem dX4_copyFrom_59 : decode cX4_copyFrom 59 = .ok (.aload_n 0, 1) := by decide +kernel
theorem dX4_copyFrom_60 : decode cX4_copyFrom 60 = .ok (.aload_n 1, 1) := by decide +kernel
theorem dX4_copyFrom_61 : decode cX4_copyFrom 61 = .ok (.getfield 46, 3) := by decide +kernel
theorem dX4_copyFrom_64 : decode cX4_copyFrom 64 = .ok (.putfield 46, 3) := by decide +kernel
theorem dX4_copyFrom_67 : decode cX4_copyFrom 67 = .ok (.aload_n 0, 1) := by decide +kernel
theorem dX4_copyFrom_68 : decode cX4_copyFrom 68 = .ok (.aload_n 1, 1) := by decide +kernel
theorem dX4_copyFrom_69 : decode cX4_copyFrom 69 = .ok (.getfield 69, 3) := by decide +kernel
theorem dX4_copyFrom_72 : decode cX4_copyFrom 72 = .ok (.putfield 69, 3) := by decide +kernel
theorem dX4_copyFrom_75 : decode cX4_copyFrom 75 = .ok (.aload_n 0, 1) := by decide +kernel
theorem dX4_copyFrom_76 : decode cX4_copyFrom 76 = .ok (.aload_n 1, 1) := by decide +kernel
theorem dX4_copyFrom_77 : decode cX4_copyFrom 77 = .ok (.getfield 72, 3) := by decide +kernel
theorem dX4_copyFrom_80 : decode cX4_copyFrom 80 = .ok (.putfield 72, 3) := by decide +kernel
theorem dX4_copyFrom_83 : decode cX4_copyFrom 83 = .ok (.return_, 1) := by decide +kernel
abbrev nd_X4_copyFrom_r50 : List Nat := [1, 2, 3, 4, 5, 6, 7, 8, 9, 10, 11, 12, 13, 14, 15, 16, 17, 18, 20, 50, 51, 52, 53, 54, 55, 56, 57, 58, 59, 60, 61, 62, 63, 64, 65, 66, 67, 69]
abbrev ld_X4_copyFrom_r50 : List (Nat × Nat) := [(1, 0), (1, 1), (1, 2), (1, 3), (1, 4), (2, 0), (2, 1), (2, 2), (2, 3), (7, 0), (7, 1), (7, 2), (11, 0), (11, 1), (11, 2), (11, 3), (16, 0), (16, 1), (50, 0), (50, 1), (50, 2), (50, 3), (50, 4), (51, 0), (51, 1), (51, 2), (51, 3), (56, 0), (56, 1), (56, 2), (60, 0), (60, 1), (60, 2), (60, 3), (65, 0), (65, 1)]
theorem sn_X4_copyFrom_r50_X3_copyFrom_r51 : ∀ c ∈ nd_X3_copyFrom_r51, c ∈ nd_X4_copyFrom_r50 := by decide
theorem sl_X4_copyFrom_r50_X3_copyFrom_r51 : ∀ q ∈ ld_X3_copyFrom_r51, q ∈ ld_X4_copyFrom_r50 := by decide
theorem sn_X4_copyFrom_r50_X9_copyFrom_r56 : ∀ c ∈ nd_X9_copyFrom_r56, c ∈ nd_X4_copyFrom_r50 := by decide
theorem sl_X4_copyFrom_r50_X9_copyFrom_r56 : ∀ q ∈ ld_X9_copyFrom_r56, q ∈ ld_X4_copyFrom_r50 := by decide
theorem sn_X4_copyFrom_r50_X0_copyFrom_r60 : ∀ c ∈ nd_X0_copyFrom_r60, c ∈ nd_X4_copyFrom_r50 := by decide
theorem sl_X4_copyFrom_r50_X0_copyFrom_r60 : ∀ q ∈ ld_X0_copyFrom_r60, q ∈ ld_X4_copyFrom_r50 := by decide
theorem sn_X4_copyFrom_r50_X5_copyFrom_r65 : ∀ c ∈ nd_X5_copyFrom_r65, c ∈ nd_X4_copyFrom_r50 := by decide
theorem sl_X4_copyFrom_r50_X5_copyFrom_r65 : ∀ q ∈ ld_X5_copyFrom_r65, q ∈ ld_X4_copyFrom_r50 := by decide
def f_X4_copyFrom_r50  (h : zH) : zR := (zbd (f_X3_copyFrom_r51  h) fun r1 h2 => (zbd (f_X9_copyFrom_r56  h2) fun r3 h4 => (zbd (f_X0_copyFrom_r60  h4) fun r5 h6 => (zbd (f_X5_copyFrom_r65  h6) fun r7 h8 => (zcc 6 6 (0 : Int32) (0 : Int32) (6 : Int32) (zst (zcp h8 69 20 (0 : Int32) (0 : Int32) (6 : Int32)) fun h9 => (zst (zup h9 1 6 (h9 50 6)) fun h10 => (zst (zup h10 1 7 (h10 50 7)) fun h11 => (zst (zup h11 1 8 (h11 50 8)) fun h12 => (some (0, h12)))))))))))
variable {p : Program} {l : Launch} {e : Env} {s : State} {m : MethodId} {args : Array Value} {below : List Frame} {meth : Method} {c : Code} {G : zG} {q : Int32 × zH}
set_option maxHeartbeats 4000000 in
set_option maxRecDepth 100000 in
theorem c_X4_copyFrom_r50 (l : Launch) (G : zG) (h : zH) (q : Int32 × zH) (hm : ∀ c ∈ nd_X4_copyFrom_r50, c ∈ znm G) (hk : ∀ q ∈ ld_X4_copyFrom_r50, zlk G q.1 q.2 = true) (hf : f_X4_copyFrom_r50 h = some q) : zCtV l yX4_copyFrom cX4_copyFrom 2 none (3) [.ref (zal G 1), .ref (zal G 50)] G h q.2 := by
  refine zMetV (by decide) (Nat.le_of_ble_eq_true rfl) ?_
  intro p e s m below meth c ls C hl hS
  have hl : lv_has ls 2 [(0, .ref (zal G 1)), (1, .ref (zal G 50))] := hl
  have C : zC G p s m [.ref (zal G 1), .ref (zal G 50)].toArray meth c cX4_copyFrom 2 RX4 none := C
  unfold f_X4_copyFrom_r50 at hf
  refine lv_aload_n C.1 C.2.1 dX4_copyFrom_0 rfl (lv_at hl 0 rfl) ?_
  refine zgetR C hS ff_X4_12_1 (hm 1 (by decide)) (hk (1, 0) (by decide)) dX4_copyFrom_1 ?_
  refine lv_aload_n C.1 C.2.1 dX4_copyFrom_4 rfl (lv_at hl 1 rfl) ?_
  refine zgetR C hS ff_X4_12_50 (hm 50 (by decide)) (hk (50, 0) (by decide)) dX4_copyFrom_5 ?_
  obtain ⟨r1, h2, er1, hf⟩ := zbd_some hf
  refine zcallVV (As := [.ref (zal G 51)]) (rest := []) C hS mv_X4_50 (c_X3_copyFrom_r51 l G h  (r1, h2) (fun c h => hm c (sn_X4_copyFrom_r50_X3_copyFrom_r51 c h)) (fun q h => hk q (sl_X4_copyFrom_r50_X3_copyFrom_r51 q h)) er1) (hm 2 (by decide)) ⟨_, _, _, sh_2, rfl, rfl⟩ rfl rfl (Nat.le_of_ble_eq_true rfl) hl.1 ⟨Nat.le_of_ble_eq_true rfl, Nat.le_of_ble_eq_true rfl, Nat.le_of_ble_eq_true rfl, Nat.le_of_ble_eq_true rfl⟩ dX4_copyFrom_8 (fun H locs hS => ?_)
  refine lv_aload_n C.1 C.2.1 dX4_copyFrom_11 rfl (lv_at hl 0 rfl) ?_
  refine zgetR C hS ff_X4_21_1 (hm 1 (by decide)) (hk (1, 1) (by decide)) dX4_copyFrom_12 ?_
  refine lv_aload_n C.1 C.2.1 dX4_copyFrom_15 rfl (lv_at hl 1 rfl) ?_
  refine zgetR C hS ff_X4_21_50 (hm 50 (by decide)) (hk (50, 1) (by decide)) dX4_copyFrom_16 ?_
  obtain ⟨r3, h4, er3, hf⟩ := zbd_some hf
  refine zcallVV (As := [.ref (zal G 56)]) (rest := []) C hS mv_X4_54 (c_X9_copyFrom_r56 l G h2  (r3, h4) (fun c h => hm c (sn_X4_copyFrom_r50_X9_copyFrom_r56 c h)) (fun q h => hk q (sl_X4_copyFrom_r50_X9_copyFrom_r56 q h)) er3) (hm 7 (by decide)) ⟨_, _, _, sh_7, rfl, rfl⟩ rfl rfl (Nat.le_of_ble_eq_true rfl) hl.1 ⟨Nat.le_of_ble_eq_true rfl, Nat.le_of_ble_eq_true rfl, Nat.le_of_ble_eq_true rfl, Nat.le_of_ble_eq_true rfl⟩ dX4_copyFrom_19 (fun H locs hS => ?_)
  refine lv_aload_n C.1 C.2.1 dX4_copyFrom_22 rfl (lv_at hl 0 rfl) ?_
  refine zgetR C hS ff_X4_28_1 (hm 1 (by decide)) (hk (1, 2) (by decide)) dX4_copyFrom_23 ?_
  refine lv_aload_n C.1 C.2.1 dX4_copyFrom_26 rfl (lv_at hl 1 rfl) ?_
  refine zgetR C hS ff_X4_28_50 (hm 50 (by decide)) (hk (50, 2) (by decide)) dX4_copyFrom_27 ?_
  obtain ⟨r5, h6, er5, hf⟩ := zbd_some hf
  refine zcallVV (As := [.ref (zal G 60)]) (rest := []) C hS mv_X4_57 (c_X0_copyFrom_r60 l G h4  (r5, h6) (fun c h => hm c (sn_X4_copyFrom_r50_X0_copyFrom_r60 c h)) (fun q h => hk q (sl_X4_copyFrom_r50_X0_copyFrom_r60 q h)) er5) (hm 11 (by decide)) ⟨_, _, _, sh_11, rfl, rfl⟩ rfl rfl (Nat.le_of_ble_eq_true rfl) hl.1 ⟨Nat.le_of_ble_eq_true rfl, Nat.le_of_ble_eq_true rfl, Nat.le_of_ble_eq_true rfl, Nat.le_of_ble_eq_true rfl⟩ dX4_copyFrom_30 (fun H locs hS => ?_)
  refine lv_aload_n C.1 C.2.1 dX4_copyFrom_33 rfl (lv_at hl 0 rfl) ?_
  refine zgetR C hS ff_X4_35_1 (hm 1 (by decide)) (hk (1, 3) (by decide)) dX4_copyFrom_34 ?_
  refine lv_aload_n C.1 C.2.1 dX4_copyFrom_37 rfl (lv_at hl 1 rfl) ?_
  refine zgetR C hS ff_X4_35_50 (hm 50 (by decide)) (hk (50, 3) (by decide)) dX4_copyFrom_38 ?_
  obtain ⟨r7, h8, er7, hf⟩ := zbd_some hf
  refine zcallVV (As := [.ref (zal G 65)]) (rest := []) C hS mv_X4_60 (c_X5_copyFrom_r65 l G h6  (r7, h8) (fun c h => hm c (sn_X4_copyFrom_r50_X5_copyFrom_r65 c h)) (fun q h => hk q (sl_X4_copyFrom_r50_X5_copyFrom_r65 q h)) er7) (hm 16 (by decide)) ⟨_, _, _, sh_16, rfl, rfl⟩ rfl rfl (Nat.le_of_ble_eq_true rfl) hl.1 ⟨Nat.le_of_ble_eq_true rfl, Nat.le_of_ble_eq_true rfl, Nat.le_of_ble_eq_true rfl, Nat.le_of_ble_eq_true rfl⟩ dX4_copyFrom_41 (fun H locs hS => ?_)
  refine lv_aload_n C.1 C.2.1 dX4_copyFrom_44 rfl (lv_at hl 1 rfl) ?_
  refine zgetR C hS ff_X4_39_50 (hm 50 (by decide)) (hk (50, 4) (by decide)) dX4_copyFrom_45 ?_
  refine lv_iconst (v := (0 : Int32)) C.1 C.2.1 dX4_copyFrom_48 rfl ?_
  refine lv_aload_n C.1 C.2.1 dX4_copyFrom_49 rfl (lv_at hl 0 rfl) ?_
  refine zgetR C hS ff_X4_39_1 (hm 1 (by decide)) (hk (1, 4) (by decide)) dX4_copyFrom_50 ?_
  refine lv_iconst (v := (0 : Int32)) C.1 C.2.1 dX4_copyFrom_53 rfl ?_
  refine lv_bipush (v := (6 : Int32)) C.1 C.2.1 dX4_copyFrom_54 rfl ?_
  obtain ⟨hi, hf⟩ := zcc_some hf
  refine zacp C hS kw_1118 sh_69 sh_20 (hm 69 (by decide)) (hm 20 (by decide)) hi (Nat.le_of_ble_eq_true rfl) hl.1 ⟨Nat.le_of_ble_eq_true rfl, Nat.le_of_ble_eq_true rfl⟩ dX4_copyFrom_56 (fun H locs hS => ?_)
  obtain ⟨h9, eh9, hf⟩ := zst_some hf
  have hS : zS G h9 s.heap H locs := by rw [eh9]; exact hS
  refine lv_aload_n C.1 C.2.1 dX4_copyFrom_59 rfl (lv_at hl 0 rfl) ?_
  refine lv_aload_n C.1 C.2.1 dX4_copyFrom_60 rfl (lv_at hl 1 rfl) ?_
  refine zgetI C hS ff_X4_46_50 (hm 50 (by decide)) dX4_copyFrom_61 ?_
  refine zputI C hS ff_X4_46_1 fw_1_6 (hm 1 (by decide)) dX4_copyFrom_64 (fun H locs hS => ?_)
  obtain ⟨h10, eh10, hf⟩ := zst_some hf
  have hS : zS G h10 s.heap H locs := by rw [eh10]; exact hS
  refine lv_aload_n C.1 C.2.1 dX4_copyFrom_67 rfl (lv_at hl 0 rfl) ?_
  refine lv_aload_n C.1 C.2.1 dX4_copyFrom_68 rfl (lv_at hl 1 rfl) ?_
  refine zgetI C hS ff_X4_69_50 (hm 50 (by decide)) dX4_copyFrom_69 ?_
  refine zputI C hS ff_X4_69_1 fw_1_7 (hm 1 (by decide)) dX4_copyFrom_72 (fun H locs hS => ?_)
  obtain ⟨h11, eh11, hf⟩ := zst_some hf
  have hS : zS G h11 s.heap H locs := by rw [eh11]; exact hS
  refine lv_aload_n C.1 C.2.1 dX4_copyFrom_75 rfl (lv_at hl 0 rfl) ?_
  refine lv_aload_n C.1 C.2.1 dX4_copyFrom_76 rfl (lv_at hl 1 rfl) ?_
  refine zgetI C hS ff_X4_72_50 (hm 50 (by decide)) dX4_copyFrom_77 ?_
  refine zputI C hS ff_X4_72_1 fw_1_8 (hm 1 (by decide)) dX4_copyFrom_80 (fun H locs hS => ?_)
  obtain ⟨h12, eh12, hf⟩ := zst_some hf
  have hS : zS G h12 s.heap H locs := by rw [eh12]; exact hS
  exact zretV C hS hf dX4_copyFrom_83
end
section
abbrev nd_X3_copyFrom_t51_r2 : List Nat := [2, 3, 4, 5, 6, 51, 52, 53, 54, 55]
abbrev ld_X3_copyFrom_t51_r2 : List (Nat × Nat) := [(2, 0), (2, 1), (2, 2), (2, 3), (51, 0), (51, 1), (51, 2), (51, 3)]
def f_X3_copyFrom_t51_r2  (h : zH) : zR := (zcc 16 16 (0 : Int32) (0 : Int32) (16 : Int32) (zst (zcp h 3 52 (0 : Int32) (0 : Int32) (16 : Int32)) fun h1 => (zcc 16 16 (0 : Int32) (0 : Int32) (16 : Int32) (zst (zcp h1 4 53 (0 : Int32) (0 : Int32) (16 : Int32)) fun h2 => (zcc 16 16 (0 : Int32) (0 : Int32) (16 : Int32) (zst (zcp h2 5 54 (0 : Int32) (0 : Int32) (16 : Int32)) fun h3 => (zcc 96 96 (0 : Int32) (0 : Int32) (96 : Int32) (zst (zcp h3 6 55 (0 : Int32) (0 : Int32) (96 : Int32)) fun h4 => (zst (zup h4 51 4 (h4 2 4)) fun h5 => (some (0, h5)))))))))))
variable {p : Program} {l : Launch} {e : Env} {s : State} {m : MethodId} {args : Array Value} {below : List Frame} {meth : Method} {c : Code} {G : zG} {q : Int32 × zH}
set_option maxHeartbeats 4000000 in
set_option maxRecDepth 100000 in
theorem c_X3_copyFrom_t51_r2 (l : Launch) (G : zG) (h : zH) (q : Int32 × zH) (hm : ∀ c ∈ nd_X3_copyFrom_t51_r2, c ∈ znm G) (hk : ∀ q ∈ ld_X3_copyFrom_t51_r2, zlk G q.1 q.2 = true) (hf : f_X3_copyFrom_t51_r2 h = some q) : zCtV l yX3_copyFrom cX3_copyFrom 2 none (2) [.ref (zal G 51), .ref (zal G 2)] G h q.2 := by
  refine zMetV (by decide) (Nat.le_of_ble_eq_true rfl) ?_
  intro p e s m below meth c ls C hl hS
  have hl : lv_has ls 2 [(0, .ref (zal G 51)), (1, .ref (zal G 2))] := hl
  have C : zC G p s m [.ref (zal G 51), .ref (zal G 2)].toArray meth c cX3_copyFrom 2 RX3 none := C
  unfold f_X3_copyFrom_t51_r2 at hf
  refine lv_aload_n C.1 C.2.1 dX3_copyFrom_0 rfl (lv_at hl 1 rfl) ?_
  refine zgetR C hS ff_X3_9_2 (hm 2 (by decide)) (hk (2, 0) (by decide)) dX3_copyFrom_1 ?_
  refine lv_iconst (v := (0 : Int32)) C.1 C.2.1 dX3_copyFrom_4 rfl ?_
  refine lv_aload_n C.1 C.2.1 dX3_copyFrom_5 rfl (lv_at hl 0 rfl) ?_
  refine zgetR C hS ff_X3_9_51 (hm 51 (by decide)) (hk (51, 0) (by decide)) dX3_copyFrom_6 ?_
  refine lv_iconst (v := (0 : Int32)) C.1 C.2.1 dX3_copyFrom_9 rfl ?_
  refine lv_bipush (v := (16 : Int32)) C.1 C.2.1 dX3_copyFrom_10 rfl ?_
  obtain ⟨hi, hf⟩ := zcc_some hf
  refine zacp C hS kw_1106 sh_3 sh_52 (hm 3 (by decide)) (hm 52 (by decide)) hi (Nat.le_of_ble_eq_true rfl) hl.1 ⟨Nat.le_of_ble_eq_true rfl, Nat.le_of_ble_eq_true rfl⟩ dX3_copyFrom_12 (fun H locs hS => ?_)
  obtain ⟨h1, eh1, hf⟩ := zst_some hf
  have hS : zS G h1 s.heap H locs := by rw [eh1]; exact hS
  refine lv_aload_n C.1 C.2.1 dX3_copyFrom_15 rfl (lv_at hl 1 rfl) ?_
  refine zgetR C hS ff_X3_15_2 (hm 2 (by decide)) (hk (2, 1) (by decide)) dX3_copyFrom_16 ?_
  refine lv_iconst (v := (0 : Int32)) C.1 C.2.1 dX3_copyFrom_19 rfl ?_
  refine lv_aload_n C.1 C.2.1 dX3_copyFrom_20 rfl (lv_at hl 0 rfl) ?_
  refine zgetR C hS ff_X3_15_51 (hm 51 (by decide)) (hk (51, 1) (by decide)) dX3_copyFrom_21 ?_
  refine lv_iconst (v := (0 : Int32)) C.1 C.2.1 dX3_copyFrom_24 rfl ?_
  refine lv_bipush (v := (16 : Int32)) C.1 C.2.1 dX3_copyFrom_25 rfl ?_
  obtain ⟨hi, hf⟩ := zcc_some hf
  refine zacp C hS kw_1106 sh_4 sh_53 (hm 4 (by decide)) (hm 53 (by decide)) hi (Nat.le_of_ble_eq_true rfl) hl.1 ⟨Nat.le_of_ble_eq_true rfl, Nat.le_of_ble_eq_true rfl⟩ dX3_copyFrom_27 (fun H locs hS => ?_)
  obtain ⟨h2, eh2, hf⟩ := zst_some hf
  have hS : zS G h2 s.heap H locs := by rw [eh2]; exact hS
  refine lv_aload_n C.1 C.2.1 dX3_copyFrom_30 rfl (lv_at hl 1 rfl) ?_
  refine zgetR C hS ff_X3_18_2 (hm 2 (by decide)) (hk (2, 2) (by decide)) dX3_copyFrom_31 ?_
  refine lv_iconst (v := (0 : Int32)) C.1 C.2.1 dX3_copyFrom_34 rfl ?_
  refine lv_aload_n C.1 C.2.1 dX3_copyFrom_35 rfl (lv_at hl 0 rfl) ?_
  refine zgetR C hS ff_X3_18_51 (hm 51 (by decide)) (hk (51, 2) (by decide)) dX3_copyFrom_36 ?_
  refine lv_iconst (v := (0 : Int32)) C.1 C.2.1 dX3_copyFrom_39 rfl ?_
  refine lv_bipush (v := (16 : Int32)) C.1 C.2.1 dX3_copyFrom_40 rfl ?_
  obtain ⟨hi, hf⟩ := zcc_some hf
  refine zacp C hS kw_1106 sh_5 sh_54 (hm 5 (by decide)) (hm 54 (by decide)) hi (Nat.le_of_ble_eq_true rfl) hl.1 ⟨Nat.le_of_ble_eq_true rfl, Nat.le_of_ble_eq_true rfl⟩ dX3_copyFrom_42 (fun H locs hS => ?_)
  obtain ⟨h3, eh3, hf⟩ := zst_some hf
  have hS : zS G h3 s.heap H locs := by rw [eh3]; exact hS
  refine lv_aload_n C.1 C.2.1 dX3_copyFrom_45 rfl (lv_at hl 1 rfl) ?_
  refine zgetR C hS ff_X3_21_2 (hm 2 (by decide)) (hk (2, 3) (by decide)) dX3_copyFrom_46 ?_
  refine lv_iconst (v := (0 : Int32)) C.1 C.2.1 dX3_copyFrom_49 rfl ?_
  refine lv_aload_n C.1 C.2.1 dX3_copyFrom_50 rfl (lv_at hl 0 rfl) ?_
  refine zgetR C hS ff_X3_21_51 (hm 51 (by decide)) (hk (51, 3) (by decide)) dX3_copyFrom_51 ?_
  refine lv_iconst (v := (0 : Int32)) C.1 C.2.1 dX3_copyFrom_54 rfl ?_
  refine lv_bipush (v := (96 : Int32)) C.1 C.2.1 dX3_copyFrom_55 rfl ?_
  obtain ⟨hi, hf⟩ := zcc_some hf
  refine zacp C hS kw_1106 sh_6 sh_55 (hm 6 (by decide)) (hm 55 (by decide)) hi (Nat.le_of_ble_eq_true rfl) hl.1 ⟨Nat.le_of_ble_eq_true rfl, Nat.le_of_ble_eq_true rfl⟩ dX3_copyFrom_57 (fun H locs hS => ?_)
  obtain ⟨h4, eh4, hf⟩ := zst_some hf
  have hS : zS G h4 s.heap H locs := by rw [eh4]; exact hS
  refine lv_aload_n C.1 C.2.1 dX3_copyFrom_60 rfl (lv_at hl 0 rfl) ?_
  refine lv_aload_n C.1 C.2.1 dX3_copyFrom_61 rfl (lv_at hl 1 rfl) ?_
  refine zgetI C hS ff_X3_30_2 (hm 2 (by decide)) dX3_copyFrom_62 ?_
  refine zputI C hS ff_X3_30_51 fw_51_4 (hm 51 (by decide)) dX3_copyFrom_65 (fun H locs hS => ?_)
  obtain ⟨h5, eh5, hf⟩ := zst_some hf
  have hS : zS G h5 s.heap H locs := by rw [eh5]; exact hS
  exact zretV C hS hf dX3_copyFrom_68
end
section
abbrev nd_X9_copyFrom_t56_r7 : List Nat := [7, 8, 9, 10, 56, 57, 58, 59]
abbrev ld_X9_copyFrom_t56_r7 : List (Nat × Nat) := [(7, 0), (7, 1), (7, 2), (56, 0), (56, 1), (56, 2)]
def f_X9_copyFrom_t56_r7  (h : zH) : zR := (zcc 8 8 (0 : Int32) (0 : Int32) (8 : Int32) (zst (zcp h 8 57 (0 : Int32) (0 : Int32) (8 : Int32)) fun h1 => (zcc 8 8 (0 : Int32) (0 : Int32) (8 : Int32) (zst (zcp h1 9 58 (0 : Int32) (0 : Int32) (8 : Int32)) fun h2 => (zcc 8 8 (0 : Int32) (0 : Int32) (8 : Int32) (zst (zcp h2 10 59 (0 : Int32) (0 : Int32) (8 : Int32)) fun h3 => (zst (zup h3 56 3 (h3 7 3)) fun h4 => (zst (zup h4 56 4 (h4 7 4)) fun h5 => (some (0, h5))))))))))
variable {p : Program} {l : Launch} {e : Env} {s : State} {m : MethodId} {args : Array Value} {below : List Frame} {meth : Method} {c : Code} {G : zG} {q : Int32 × zH}
set_option maxHeartbeats 4000000 in
set_option maxRecDepth 100000 in
theorem c_X9_copyFrom_t56_r7 (l : Launch) (G : zG) (h : zH) (q : Int32 × zH) (hm : ∀ c ∈ nd_X9_copyFrom_t56_r7, c ∈ znm G) (hk : ∀ q ∈ ld_X9_copyFrom_t56_r7, zlk G q.1 q.2 = true) (hf : f_X9_copyFrom_t56_r7 h = some q) : zCtV l yX9_copyFrom cX9_copyFrom 2 none (2) [.ref (zal G 56), .ref (zal G 7)] G h q.2 := by
  refine zMetV (by decide) (Nat.le_of_ble_eq_true rfl) ?_
  intro p e s m below meth c ls C hl hS
  have hl : lv_has ls 2 [(0, .ref (zal G 56)), (1, .ref (zal G 7))] := hl
  have C : zC G p s m [.ref (zal G 56), .ref (zal G 7)].toArray meth c cX9_copyFrom 2 RX9 none := C
  unfold f_X9_copyFrom_t56_r7 at hf
  refine lv_aload_n C.1 C.2.1 dX9_copyFrom_0 rfl (lv_at hl 1 rfl) ?_
  refine zgetR C hS ff_X9_9_7 (hm 7 (by decide)) (hk (7, 0) (by decide)) dX9_copyFrom_1 ?_
  refine lv_iconst (v := (0 : Int32)) C.1 C.2.1 dX9_copyFrom_4 rfl ?_
  refine lv_aload_n C.1 C.2.1 dX9_copyFrom_5 rfl (lv_at hl 0 rfl) ?_
  refine zgetR C hS ff_X9_9_56 (hm 56 (by decide)) (hk (56, 0) (by decide)) dX9_copyFrom_6 ?_
  refine lv_iconst (v := (0 : Int32)) C.1 C.2.1 dX9_copyFrom_9 rfl ?_
  refine lv_bipush (v := (8 : Int32)) C.1 C.2.1 dX9_copyFrom_10 rfl ?_
  obtain ⟨hi, hf⟩ := zcc_some hf
  refine zacp C hS kw_1111 sh_8 sh_57 (hm 8 (by decide)) (hm 57 (by decide)) hi (Nat.le_of_ble_eq_true rfl) hl.1 ⟨Nat.le_of_ble_eq_true rfl, Nat.le_of_ble_eq_true rfl⟩ dX9_copyFrom_12 (fun H locs hS => ?_)
  obtain ⟨h1, eh1, hf⟩ := zst_some hf
  have hS : zS G h1 s.heap H locs := by rw [eh1]; exact hS
  refine lv_aload_n C.1 C.2.1 dX9_copyFrom_15 rfl (lv_at hl 1 rfl) ?_
  refine zgetR C hS ff_X9_15_7 (hm 7 (by decide)) (hk (7, 1) (by decide)) dX9_copyFrom_16 ?_
  refine lv_iconst (v := (0 : Int32)) C.1 C.2.1 dX9_copyFrom_19 rfl ?_
  refine lv_aload_n C.1 C.2.1 dX9_copyFrom_20 rfl (lv_at hl 0 rfl) ?_
  refine zgetR C hS ff_X9_15_56 (hm 56 (by decide)) (hk (56, 1) (by decide)) dX9_copyFrom_21 ?_
  refine lv_iconst (v := (0 : Int32)) C.1 C.2.1 dX9_copyFrom_24 rfl ?_
  refine lv_bipush (v := (8 : Int32)) C.1 C.2.1 dX9_copyFrom_25 rfl ?_
  obtain ⟨hi, hf⟩ := zcc_some hf
  refine zacp C hS kw_1111 sh_9 sh_58 (hm 9 (by decide)) (hm 58 (by decide)) hi (Nat.le_of_ble_eq_true rfl) hl.1 ⟨Nat.le_of_ble_eq_true rfl, Nat.le_of_ble_eq_true rfl⟩ dX9_copyFrom_27 (fun H locs hS => ?_)
  obtain ⟨h2, eh2, hf⟩ := zst_some hf
  have hS : zS G h2 s.heap H locs := by rw [eh2]; exact hS
  refine lv_aload_n C.1 C.2.1 dX9_copyFrom_30 rfl (lv_at hl 1 rfl) ?_
  refine zgetR C hS ff_X9_18_7 (hm 7 (by decide)) (hk (7, 2) (by decide)) dX9_copyFrom_31 ?_
  refine lv_iconst (v := (0 : Int32)) C.1 C.2.1 dX9_copyFrom_34 rfl ?_
  refine lv_aload_n C.1 C.2.1 dX9_copyFrom_35 rfl (lv_at hl 0 rfl) ?_
  refine zgetR C hS ff_X9_18_56 (hm 56 (by decide)) (hk (56, 2) (by decide)) dX9_copyFrom_36 ?_
  refine lv_iconst (v := (0 : Int32)) C.1 C.2.1 dX9_copyFrom_39 rfl ?_
  refine lv_bipush (v := (8 : Int32)) C.1 C.2.1 dX9_copyFrom_40 rfl ?_
  obtain ⟨hi, hf⟩ := zcc_some hf
  refine zacp C hS kw_1111 sh_10 sh_59 (hm 10 (by decide)) (hm 59 (by decide)) hi (Nat.le_of_ble_eq_true rfl) hl.1 ⟨Nat.le_of_ble_eq_true rfl, Nat.le_of_ble_eq_true rfl⟩ dX9_copyFrom_42 (fun H locs hS => ?_)
  obtain ⟨h3, eh3, hf⟩ := zst_some hf
  have hS : zS G h3 s.heap H locs := by rw [eh3]; exact hS
  refine lv_aload_n C.1 C.2.1 dX9_copyFrom_45 rfl (lv_at hl 0 rfl) ?_
  refine lv_aload_n C.1 C.2.1 dX9_copyFrom_46 rfl (lv_at hl 1 rfl) ?_
  refine zgetI C hS ff_X9_31_7 (hm 7 (by decide)) dX9_copyFrom_47 ?_
  refine zputI C hS ff_X9_31_56 fw_56_3 (hm 56 (by decide)) dX9_copyFrom_50 (fun H locs hS => ?_)
  obtain ⟨h4, eh4, hf⟩ := zst_some hf
  have hS : zS G h4 s.heap H locs := by rw [eh4]; exact hS
  refine lv_aload_n C.1 C.2.1 dX9_copyFrom_53 rfl (lv_at hl 0 rfl) ?_
  refine lv_aload_n C.1 C.2.1 dX9_copyFrom_54 rfl (lv_at hl 1 rfl) ?_
  refine zgetI C hS ff_X9_35_7 (hm 7 (by decide)) dX9_copyFrom_55 ?_
  refine zputI C hS ff_X9_35_56 fw_56_4 (hm 56 (by decide)) dX9_copyFrom_58 (fun H locs hS => ?_)
  obtain ⟨h5, eh5, hf⟩ := zst_some hf
  have hS : zS G h5 s.heap H locs := by rw [eh5]; exact hS
  exact zretV C hS hf dX9_copyFrom_61
end
section
abbrev nd_X0_copyFrom_t60_r11 : List Nat := [11, 12, 13, 14, 15, 60, 61, 62, 63, 64]
abbrev ld_X0_copyFrom_t60_r11 : List (Nat × Nat) := [(11, 0), (11, 1), (11, 2), (11, 3), (60, 0), (60, 1), (60, 2), (60, 3)]
def f_X0_copyFrom_t60_r11  (h : zH) : zR := (zcc 256 256 (0 : Int32) (0 : Int32) (256 : Int32) (zst (zcp h 12 61 (0 : Int32) (0 : Int32) (256 : Int32)) fun h1 => (zcc 256 256 (0 : Int32) (0 : Int32) (256 : Int32) (zst (zcp h1 13 62 (0 : Int32) (0 : Int32) (256 : Int32)) fun h2 => (zcc 6 6 (0 : Int32) (0 : Int32) (6 : Int32) (zst (zcp h2 14 63 (0 : Int32) (0 : Int32) (6 : Int32)) fun h3 => (zcc 600 600 (0 : Int32) (0 : Int32) ((h3 11 4) * (6 : Int32)) (zst (zcp h3 15 64 (0 : Int32) (0 : Int32) ((h3 11 4) * (6 : Int32))) fun h4 => (zst (zup h4 60 4 (h4 11 4)) fun h5 => (zst (zup h5 60 5 (h5 11 5)) fun h6 => (some (0, h6))))))))))))
variable {p : Program} {l : Launch} {e : Env} {s : State} {m : MethodId} {args : Array Value} {below : List Frame} {meth : Method} {c : Code} {G : zG} {q : Int32 × zH}
set_option maxHeartbeats 4000000 in
set_option maxRecDepth 100000 in
theorem c_X0_copyFrom_t60_r11 (l : Launch) (G : zG) (h : zH) (q : Int32 × zH) (hm : ∀ c ∈ nd_X0_copyFrom_t60_r11, c ∈ znm G) (hk : ∀ q ∈ ld_X0_copyFrom_t60_r11, zlk G q.1 q.2 = true) (hf : f_X0_copyFrom_t60_r11 h = some q) : zCtV l yX0_copyFrom cX0_copyFrom 2 none (2) [.ref (zal G 60), .ref (zal G 11)] G h q.2 := by
  refine zMetV (by decide) (Nat.le_of_ble_eq_true rfl) ?_
  intro p e s m below meth c ls C hl hS
  have hl : lv_has ls 2 [(0, .ref (zal G 60)), (1, .ref (zal G 11))] := hl
  have C : zC G p s m [.ref (zal G 60), .ref (zal G 11)].toArray meth c cX0_copyFrom 2 RX0 none := C
  unfold f_X0_copyFrom_t60_r11 at hf
  refine lv_aload_n C.1 C.2.1 dX0_copyFrom_0 rfl (lv_at hl 1 rfl) ?_
  refine zgetR C hS ff_X0_9_11 (hm 11 (by decide)) (hk (11, 0) (by decide)) dX0_copyFrom_1 ?_
  refine lv_iconst (v := (0 : Int32)) C.1 C.2.1 dX0_copyFrom_4 rfl ?_
  refine lv_aload_n C.1 C.2.1 dX0_copyFrom_5 rfl (lv_at hl 0 rfl) ?_
  refine zgetR C hS ff_X0_9_60 (hm 60 (by decide)) (hk (60, 0) (by decide)) dX0_copyFrom_6 ?_
  refine lv_iconst (v := (0 : Int32)) C.1 C.2.1 dX0_copyFrom_9 rfl ?_
  refine lv_sipush (v := (256 : Int32)) C.1 C.2.1 dX0_copyFrom_10 rfl ?_
  obtain ⟨hi, hf⟩ := zcc_some hf
  refine zacp C hS kw_1116 sh_12 sh_61 (hm 12 (by decide)) (hm 61 (by decide)) hi (Nat.le_of_ble_eq_true rfl) hl.1 ⟨Nat.le_of_ble_eq_true rfl, Nat.le_of_ble_eq_true rfl⟩ dX0_copyFrom_13 (fun H locs hS => ?_)
  obtain ⟨h1, eh1, hf⟩ := zst_some hf
  have hS : zS G h1 s.heap H locs := by rw [eh1]; exact hS
  refine lv_aload_n C.1 C.2.1 dX0_copyFrom_16 rfl (lv_at hl 1 rfl) ?_
  refine zgetR C hS ff_X0_15_11 (hm 11 (by decide)) (hk (11, 1) (by decide)) dX0_copyFrom_17 ?_
  refine lv_iconst (v := (0 : Int32)) C.1 C.2.1 dX0_copyFrom_20 rfl ?_
  refine lv_aload_n C.1 C.2.1 dX0_copyFrom_21 rfl (lv_at hl 0 rfl) ?_
  refine zgetR C hS ff_X0_15_60 (hm 60 (by decide)) (hk (60, 1) (by decide)) dX0_copyFrom_22 ?_
  refine lv_iconst (v := (0 : Int32)) C.1 C.2.1 dX0_copyFrom_25 rfl ?_
  refine lv_sipush (v := (256 : Int32)) C.1 C.2.1 dX0_copyFrom_26 rfl ?_
  obtain ⟨hi, hf⟩ := zcc_some hf
  refine zacp C hS kw_1116 sh_13 sh_62 (hm 13 (by decide)) (hm 62 (by decide)) hi (Nat.le_of_ble_eq_true rfl) hl.1 ⟨Nat.le_of_ble_eq_true rfl, Nat.le_of_ble_eq_true rfl⟩ dX0_copyFrom_29 (fun H locs hS => ?_)
  obtain ⟨h2, eh2, hf⟩ := zst_some hf
  have hS : zS G h2 s.heap H locs := by rw [eh2]; exact hS
  refine lv_aload_n C.1 C.2.1 dX0_copyFrom_32 rfl (lv_at hl 1 rfl) ?_
  refine zgetR C hS ff_X0_18_11 (hm 11 (by decide)) (hk (11, 2) (by decide)) dX0_copyFrom_33 ?_
  refine lv_iconst (v := (0 : Int32)) C.1 C.2.1 dX0_copyFrom_36 rfl ?_
  refine lv_aload_n C.1 C.2.1 dX0_copyFrom_37 rfl (lv_at hl 0 rfl) ?_
  refine zgetR C hS ff_X0_18_60 (hm 60 (by decide)) (hk (60, 2) (by decide)) dX0_copyFrom_38 ?_
  refine lv_iconst (v := (0 : Int32)) C.1 C.2.1 dX0_copyFrom_41 rfl ?_
  refine lv_bipush (v := (6 : Int32)) C.1 C.2.1 dX0_copyFrom_42 rfl ?_
  obtain ⟨hi, hf⟩ := zcc_some hf
  refine zacp C hS kw_1116 sh_14 sh_63 (hm 14 (by decide)) (hm 63 (by decide)) hi (Nat.le_of_ble_eq_true rfl) hl.1 ⟨Nat.le_of_ble_eq_true rfl, Nat.le_of_ble_eq_true rfl⟩ dX0_copyFrom_44 (fun H locs hS => ?_)
  obtain ⟨h3, eh3, hf⟩ := zst_some hf
  have hS : zS G h3 s.heap H locs := by rw [eh3]; exact hS
  refine lv_aload_n C.1 C.2.1 dX0_copyFrom_47 rfl (lv_at hl 1 rfl) ?_
  refine zgetR C hS ff_X0_21_11 (hm 11 (by decide)) (hk (11, 3) (by decide)) dX0_copyFrom_48 ?_
  refine lv_iconst (v := (0 : Int32)) C.1 C.2.1 dX0_copyFrom_51 rfl ?_
  refine lv_aload_n C.1 C.2.1 dX0_copyFrom_52 rfl (lv_at hl 0 rfl) ?_
  refine zgetR C hS ff_X0_21_60 (hm 60 (by decide)) (hk (60, 3) (by decide)) dX0_copyFrom_53 ?_
  refine lv_iconst (v := (0 : Int32)) C.1 C.2.1 dX0_copyFrom_56 rfl ?_
  refine lv_aload_n C.1 C.2.1 dX0_copyFrom_57 rfl (lv_at hl 1 rfl) ?_
  refine zgetI C hS ff_X0_30_11 (hm 11 (by decide)) dX0_copyFrom_58 ?_
  refine lv_bipush (v := (6 : Int32)) C.1 C.2.1 dX0_copyFrom_61 rfl ?_
  refine lv_imul C.1 C.2.1 dX0_copyFrom_63 ?_
  obtain ⟨hi, hf⟩ := zcc_some hf
  refine zacp C hS kw_1116 sh_15 sh_64 (hm 15 (by decide)) (hm 64 (by decide)) hi (Nat.le_of_ble_eq_true rfl) hl.1 ⟨Nat.le_of_ble_eq_true rfl, Nat.le_of_ble_eq_true rfl⟩ dX0_copyFrom_64 (fun H locs hS => ?_)
  obtain ⟨h4, eh4, hf⟩ := zst_some hf
  have hS : zS G h4 s.heap H locs := by rw [eh4]; exact hS
  refine lv_aload_n C.1 C.2.1 dX0_copyFrom_67 rfl (lv_at hl 0 rfl) ?_
  refine lv_aload_n C.1 C.2.1 dX0_copyFrom_68 rfl (lv_at hl 1 rfl) ?_
  refine zgetI C hS ff_X0_30_11 (hm 11 (by decide)) dX0_copyFrom_69 ?_
  refine zputI C hS ff_X0_30_60 fw_60_4 (hm 60 (by decide)) dX0_copyFrom_72 (fun H locs hS => ?_)
  obtain ⟨h5, eh5, hf⟩ := zst_some hf
  have hS : zS G h5 s.heap H locs := by rw [eh5]; exact hS
  refine lv_aload_n C.1 C.2.1 dX0_copyFrom_75 rfl (lv_at hl 0 rfl) ?_
  refine lv_aload_n C.1 C.2.1 dX0_copyFrom_76 rfl (lv_at hl 1 rfl) ?_
  refine zgetI C hS ff_X0_34_11 (hm 11 (by decide)) dX0_copyFrom_77 ?_
  refine zputI C hS ff_X0_34_60 fw_60_5 (hm 60 (by decide)) dX0_copyFrom_80 (fun H locs hS => ?_)
  obtain ⟨h6, eh6, hf⟩ := zst_some hf
  have hS : zS G h6 s.heap H locs := by rw [eh6]; exact hS
  exact zretV C hS hf dX0_copyFrom_83
end
section
abbrev nd_X5_copyFrom_t65_r16 : List Nat := [16, 17, 18, 65, 66, 67]
abbrev ld_X5_copyFrom_t65_r16 : List (Nat × Nat) := [(16, 0), (16, 1), (65, 0), (65, 1)]
def f_X5_copyFrom_t65_r16  (h : zH) : zR := (zcc 400 400 (0 : Int32) (0 : Int32) (h 16 3) (zst (zcp h 17 66 (0 : Int32) (0 : Int32) (h 16 3)) fun h1 => (zcc 400 400 (0 : Int32) (0 : Int32) (h1 16 3) (zst (zcp h1 18 67 (0 : Int32) (0 : Int32) (h1 16 3)) fun h2 => (zst (zup h2 65 3 (h2 16 3)) fun h3 => (zst (zup h3 65 4 (h3 16 4)) fun h4 => (some (0, h4))))))))
variable {p : Program} {l : Launch} {e : Env} {s : State} {m : MethodId} {args : Array Value} {below : List Frame} {meth : Method} {c : Code} {G : zG} {q : Int32 × zH}
set_option maxHeartbeats 4000000 in
set_option maxRecDepth 100000 in
theorem c_X5_copyFrom_t65_r16 (l : Launch) (G : zG) (h : zH) (q : Int32 × zH) (hm : ∀ c ∈ nd_X5_copyFrom_t65_r16, c ∈ znm G) (hk : ∀ q ∈ ld_X5_copyFrom_t65_r16, zlk G q.1 q.2 = true) (hf : f_X5_copyFrom_t65_r16 h = some q) : zCtV l yX5_copyFrom cX5_copyFrom 2 none (2) [.ref (zal G 65), .ref (zal G 16)] G h q.2 := by
  refine zMetV (by decide) (Nat.le_of_ble_eq_true rfl) ?_
  intro p e s m below meth c ls C hl hS
  have hl : lv_has ls 2 [(0, .ref (zal G 65)), (1, .ref (zal G 16))] := hl
  have C : zC G p s m [.ref (zal G 65), .ref (zal G 16)].toArray meth c cX5_copyFrom 2 RX5 none := C
  unfold f_X5_copyFrom_t65_r16 at hf
  refine lv_aload_n C.1 C.2.1 dX5_copyFrom_0 rfl (lv_at hl 1 rfl) ?_
  refine zgetR C hS ff_X5_11_16 (hm 16 (by decide)) (hk (16, 0) (by decide)) dX5_copyFrom_1 ?_
  refine lv_iconst (v := (0 : Int32)) C.1 C.2.1 dX5_copyFrom_4 rfl ?_
  refine lv_aload_n C.1 C.2.1 dX5_copyFrom_5 rfl (lv_at hl 0 rfl) ?_
  refine zgetR C hS ff_X5_11_65 (hm 65 (by decide)) (hk (65, 0) (by decide)) dX5_copyFrom_6 ?_
  refine lv_iconst (v := (0 : Int32)) C.1 C.2.1 dX5_copyFrom_9 rfl ?_
  refine lv_aload_n C.1 C.2.1 dX5_copyFrom_10 rfl (lv_at hl 1 rfl) ?_
  refine zgetI C hS ff_X5_21_16 (hm 16 (by decide)) dX5_copyFrom_11 ?_
  obtain ⟨hi, hf⟩ := zcc_some hf
  refine zacp C hS kw_748 sh_17 sh_66 (hm 17 (by decide)) (hm 66 (by decide)) hi (Nat.le_of_ble_eq_true rfl) hl.1 ⟨Nat.le_of_ble_eq_true rfl, Nat.le_of_ble_eq_true rfl⟩ dX5_copyFrom_14 (fun H locs hS => ?_)
  obtain ⟨h1, eh1, hf⟩ := zst_some hf
  have hS : zS G h1 s.heap H locs := by rw [eh1]; exact hS
  refine lv_aload_n C.1 C.2.1 dX5_copyFrom_17 rfl (lv_at hl 1 rfl) ?_
  refine zgetR C hS ff_X5_15_16 (hm 16 (by decide)) (hk (16, 1) (by decide)) dX5_copyFrom_18 ?_
  refine lv_iconst (v := (0 : Int32)) C.1 C.2.1 dX5_copyFrom_21 rfl ?_
  refine lv_aload_n C.1 C.2.1 dX5_copyFrom_22 rfl (lv_at hl 0 rfl) ?_
  refine zgetR C hS ff_X5_15_65 (hm 65 (by decide)) (hk (65, 1) (by decide)) dX5_copyFrom_23 ?_
  refine lv_iconst (v := (0 : Int32)) C.1 C.2.1 dX5_copyFrom_26 rfl ?_
  refine lv_aload_n C.1 C.2.1 dX5_copyFrom_27 rfl (lv_at hl 1 rfl) ?_
  refine zgetI C hS ff_X5_21_16 (hm 16 (by decide)) dX5_copyFrom_28 ?_
  obtain ⟨hi, hf⟩ := zcc_some hf
  refine zacp C hS kw_748 sh_18 sh_67 (hm 18 (by decide)) (hm 67 (by decide)) hi (Nat.le_of_ble_eq_true rfl) hl.1 ⟨Nat.le_of_ble_eq_true rfl, Nat.le_of_ble_eq_true rfl⟩ dX5_copyFrom_31 (fun H locs hS => ?_)
  obtain ⟨h2, eh2, hf⟩ := zst_some hf
  have hS : zS G h2 s.heap H locs := by rw [eh2]; exact hS
  refine lv_aload_n C.1 C.2.1 dX5_copyFrom_34 rfl (lv_at hl 0 rfl) ?_
  refine lv_aload_n C.1 C.2.1 dX5_copyFrom_35 rfl (lv_at hl 1 rfl) ?_
  refine zgetI C hS ff_X5_21_16 (hm 16 (by decide)) dX5_copyFrom_36 ?_
  refine zputI C hS ff_X5_21_65 fw_65_3 (hm 65 (by decide)) dX5_copyFrom_39 (fun H locs hS => ?_)
  obtain ⟨h3, eh3, hf⟩ := zst_some hf
  have hS : zS G h3 s.heap H locs := by rw [eh3]; exact hS
  refine lv_aload_n C.1 C.2.1 dX5_copyFrom_42 rfl (lv_at hl 0 rfl) ?_
  refine lv_aload_n C.1 C.2.1 dX5_copyFrom_43 rfl (lv_at hl 1 rfl) ?_
  refine zgetI C hS ff_X5_25_16 (hm 16 (by decide)) dX5_copyFrom_44 ?_
  refine zputI C hS ff_X5_25_65 fw_65_4 (hm 65 (by decide)) dX5_copyFrom_47 (fun H locs hS => ?_)
  obtain ⟨h4, eh4, hf⟩ := zst_some hf
  have hS : zS G h4 s.heap H locs := by rw [eh4]; exact hS
  exact zretV C hS hf dX5_copyFrom_50
end
section
abbrev nd_X4_copyFrom_t50_r1 : List Nat := [1, 2, 3, 4, 5, 6, 7, 8, 9, 10, 11, 12, 13, 14, 15, 16, 17, 18, 20, 50, 51, 52, 53, 54, 55, 56, 57, 58, 59, 60, 61, 62, 63, 64, 65, 66, 67, 69]
abbrev ld_X4_copyFrom_t50_r1 : List (Nat × Nat) := [(1, 0), (1, 1), (1, 2), (1, 3), (1, 4), (2, 0), (2, 1), (2, 2), (2, 3), (7, 0), (7, 1), (7, 2), (11, 0), (11, 1), (11, 2), (11, 3), (16, 0), (16, 1), (50, 0), (50, 1), (50, 2), (50, 3), (50, 4), (51, 0), (51, 1), (51, 2), (51, 3), (56, 0), (56, 1), (56, 2), (60, 0), (60, 1), (60, 2), (60, 3), (65, 0), (65, 1)]
theorem sn_X4_copyFrom_t50_r1_X3_copyFrom_t51_r2 : ∀ c ∈ nd_X3_copyFrom_t51_r2, c ∈ nd_X4_copyFrom_t50_r1 := by decide
theorem sl_X4_copyFrom_t50_r1_X3_copyFrom_t51_r2 : ∀ q ∈ ld_X3_copyFrom_t51_r2, q ∈ ld_X4_copyFrom_t50_r1 := by decide
theorem sn_X4_copyFrom_t50_r1_X9_copyFrom_t56_r7 : ∀ c ∈ nd_X9_copyFrom_t56_r7, c ∈ nd_X4_copyFrom_t50_r1 := by decide
theorem sl_X4_copyFrom_t50_r1_X9_copyFrom_t56_r7 : ∀ q ∈ ld_X9_copyFrom_t56_r7, q ∈ ld_X4_copyFrom_t50_r1 := by decide
theorem sn_X4_copyFrom_t50_r1_X0_copyFrom_t60_r11 : ∀ c ∈ nd_X0_copyFrom_t60_r11, c ∈ nd_X4_copyFrom_t50_r1 := by decide
theorem sl_X4_copyFrom_t50_r1_X0_copyFrom_t60_r11 : ∀ q ∈ ld_X0_copyFrom_t60_r11, q ∈ ld_X4_copyFrom_t50_r1 := by decide
theorem sn_X4_copyFrom_t50_r1_X5_copyFrom_t65_r16 : ∀ c ∈ nd_X5_copyFrom_t65_r16, c ∈ nd_X4_copyFrom_t50_r1 := by decide
theorem sl_X4_copyFrom_t50_r1_X5_copyFrom_t65_r16 : ∀ q ∈ ld_X5_copyFrom_t65_r16, q ∈ ld_X4_copyFrom_t50_r1 := by decide
def f_X4_copyFrom_t50_r1  (h : zH) : zR := (zbd (f_X3_copyFrom_t51_r2  h) fun r1 h2 => (zbd (f_X9_copyFrom_t56_r7  h2) fun r3 h4 => (zbd (f_X0_copyFrom_t60_r11  h4) fun r5 h6 => (zbd (f_X5_copyFrom_t65_r16  h6) fun r7 h8 => (zcc 6 6 (0 : Int32) (0 : Int32) (6 : Int32) (zst (zcp h8 20 69 (0 : Int32) (0 : Int32) (6 : Int32)) fun h9 => (zst (zup h9 50 6 (h9 1 6)) fun h10 => (zst (zup h10 50 7 (h10 1 7)) fun h11 => (zst (zup h11 50 8 (h11 1 8)) fun h12 => (some (0, h12)))))))))))
variable {p : Program} {l : Launch} {e : Env} {s : State} {m : MethodId} {args : Array Value} {below : List Frame} {meth : Method} {c : Code} {G : zG} {q : Int32 × zH}
set_option maxHeartbeats 4000000 in
set_option maxRecDepth 100000 in
theorem c_X4_copyFrom_t50_r1 (l : Launch) (G : zG) (h : zH) (q : Int32 × zH) (hm : ∀ c ∈ nd_X4_copyFrom_t50_r1, c ∈ znm G) (hk : ∀ q ∈ ld_X4_copyFrom_t50_r1, zlk G q.1 q.2 = true) (hf : f_X4_copyFrom_t50_r1 h = some q) : zCtV l yX4_copyFrom cX4_copyFrom 2 none (3) [.ref (zal G 50), .ref (zal G 1)] G h q.2 := by
  refine zMetV (by decide) (Nat.le_of_ble_eq_true rfl) ?_
  intro p e s m below meth c ls C hl hS
  have hl : lv_has ls 2 [(0, .ref (zal G 50)), (1, .ref (zal G 1))] := hl
  have C : zC G p s m [.ref (zal G 50), .ref (zal G 1)].toArray meth c cX4_copyFrom 2 RX4 none := C
  unfold f_X4_copyFrom_t50_r1 at hf
  refine lv_aload_n C.1 C.2.1 dX4_copyFrom_0 rfl (lv_at hl 0 rfl) ?_
  refine zgetR C hS ff_X4_12_50 (hm 50 (by decide)) (hk (50, 0) (by decide)) dX4_copyFrom_1 ?_
  refine lv_aload_n C.1 C.2.1 dX4_copyFrom_4 rfl (lv_at hl 1 rfl) ?_
  refine zgetR C hS ff_X4_12_1 (hm 1 (by decide)) (hk (1, 0) (by decide)) dX4_copyFrom_5 ?_
  obtain ⟨r1, h2, er1, hf⟩ := zbd_some hf
  refine zcallVV (As := [.ref (zal G 2)]) (rest := []) C hS mv_X4_50 (c_X3_copyFrom_t51_r2 l G h  (r1, h2) (fun c h => hm c (sn_X4_copyFrom_t50_r1_X3_copyFrom_t51_r2 c h)) (fun q h => hk q (sl_X4_copyFrom_t50_r1_X3_copyFrom_t51_r2 q h)) er1) (hm 51 (by decide)) ⟨_, _, _, sh_51, rfl, rfl⟩ rfl rfl (Nat.le_of_ble_eq_true rfl) hl.1 ⟨Nat.le_of_ble_eq_true rfl, Nat.le_of_ble_eq_true rfl, Nat.le_of_ble_eq_true rfl, Nat.le_of_ble_eq_true rfl⟩ dX4_copyFrom_8 (fun H locs hS => ?_)
  refine lv_aload_n C.1 C.2.1 dX4_copyFrom_11 rfl (lv_at hl 0 rfl) ?_
  refine zgetR C hS ff_X4_21_50 (hm 50 (by decide)) (hk (50, 1) (by decide)) dX4_copyFrom_12 ?_
  refine lv_aload_n C.1 C.2.1 dX4_copyFrom_15 rfl (lv_at hl 1 rfl) ?_
  refine zgetR C hS ff_X4_21_1 (hm 1 (by decide)) (hk (1, 1) (by decide)) dX4_copyFrom_16 ?_
  obtain ⟨r3, h4, er3, hf⟩ := zbd_some hf
  refine zcallVV (As := [.ref (zal G 7)]) (rest := []) C hS mv_X4_54 (c_X9_copyFrom_t56_r7 l G h2  (r3, h4) (fun c h => hm c (sn_X4_copyFrom_t50_r1_X9_copyFrom_t56_r7 c h)) (fun q h => hk q (sl_X4_copyFrom_t50_r1_X9_copyFrom_t56_r7 q h)) er3) (hm 56 (by decide)) ⟨_, _, _, sh_56, rfl, rfl⟩ rfl rfl (Nat.le_of_ble_eq_true rfl) hl.1 ⟨Nat.le_of_ble_eq_true rfl, Nat.le_of_ble_eq_true rfl, Nat.le_of_ble_eq_true rfl, Nat.le_of_ble_eq_true rfl⟩ dX4_copyFrom_19 (fun H locs hS => ?_)
  refine lv_aload_n C.1 C.2.1 dX4_copyFrom_22 rfl (lv_at hl 0 rfl) ?_
  refine zgetR C hS ff_X4_28_50 (hm 50 (by decide)) (hk (50, 2) (by decide)) dX4_copyFrom_23 ?_
  refine lv_aload_n C.1 C.2.1 dX4_copyFrom_26 rfl (lv_at hl 1 rfl) ?_
  refine zgetR C hS ff_X4_28_1 (hm 1 (by decide)) (hk (1, 2) (by decide)) dX4_copyFrom_27 ?_
  obtain ⟨r5, h6, er5, hf⟩ := zbd_some hf
  refine zcallVV (As := [.ref (zal G 11)]) (rest := []) C hS mv_X4_57 (c_X0_copyFrom_t60_r11 l G h4  (r5, h6) (fun c h => hm c (sn_X4_copyFrom_t50_r1_X0_copyFrom_t60_r11 c h)) (fun q h => hk q (sl_X4_copyFrom_t50_r1_X0_copyFrom_t60_r11 q h)) er5) (hm 60 (by decide)) ⟨_, _, _, sh_60, rfl, rfl⟩ rfl rfl (Nat.le_of_ble_eq_true rfl) hl.1 ⟨Nat.le_of_ble_eq_true rfl, Nat.le_of_ble_eq_true rfl, Nat.le_of_ble_eq_true rfl, Nat.le_of_ble_eq_true rfl⟩ dX4_copyFrom_30 (fun H locs hS => ?_)
  refine lv_aload_n C.1 C.2.1 dX4_copyFrom_33 rfl (lv_at hl 0 rfl) ?_
  refine zgetR C hS ff_X4_35_50 (hm 50 (by decide)) (hk (50, 3) (by decide)) dX4_copyFrom_34 ?_
  refine lv_aload_n C.1 C.2.1 dX4_copyFrom_37 rfl (lv_at hl 1 rfl) ?_
  refine zgetR C hS ff_X4_35_1 (hm 1 (by decide)) (hk (1, 3) (by decide)) dX4_copyFrom_38 ?_
  obtain ⟨r7, h8, er7, hf⟩ := zbd_some hf
  refine zcallVV (As := [.ref (zal G 16)]) (rest := []) C hS mv_X4_60 (c_X5_copyFrom_t65_r16 l G h6  (r7, h8) (fun c h => hm c (sn_X4_copyFrom_t50_r1_X5_copyFrom_t65_r16 c h)) (fun q h => hk q (sl_X4_copyFrom_t50_r1_X5_copyFrom_t65_r16 q h)) er7) (hm 65 (by decide)) ⟨_, _, _, sh_65, rfl, rfl⟩ rfl rfl (Nat.le_of_ble_eq_true rfl) hl.1 ⟨Nat.le_of_ble_eq_true rfl, Nat.le_of_ble_eq_true rfl, Nat.le_of_ble_eq_true rfl, Nat.le_of_ble_eq_true rfl⟩ dX4_copyFrom_41 (fun H locs hS => ?_)
  refine lv_aload_n C.1 C.2.1 dX4_copyFrom_44 rfl (lv_at hl 1 rfl) ?_
  refine zgetR C hS ff_X4_39_1 (hm 1 (by decide)) (hk (1, 4) (by decide)) dX4_copyFrom_45 ?_
  refine lv_iconst (v := (0 : Int32)) C.1 C.2.1 dX4_copyFrom_48 rfl ?_
  refine lv_aload_n C.1 C.2.1 dX4_copyFrom_49 rfl (lv_at hl 0 rfl) ?_
  refine zgetR C hS ff_X4_39_50 (hm 50 (by decide)) (hk (50, 4) (by decide)) dX4_copyFrom_50 ?_
  refine lv_iconst (v := (0 : Int32)) C.1 C.2.1 dX4_copyFrom_53 rfl ?_
  refine lv_bipush (v := (6 : Int32)) C.1 C.2.1 dX4_copyFrom_54 rfl ?_
  obtain ⟨hi, hf⟩ := zcc_some hf
  refine zacp C hS kw_1118 sh_20 sh_69 (hm 20 (by decide)) (hm 69 (by decide)) hi (Nat.le_of_ble_eq_true rfl) hl.1 ⟨Nat.le_of_ble_eq_true rfl, Nat.le_of_ble_eq_true rfl⟩ dX4_copyFrom_56 (fun H locs hS => ?_)
  obtain ⟨h9, eh9, hf⟩ := zst_some hf
  have hS : zS G h9 s.heap H locs := by rw [eh9]; exact hS
  refine lv_aload_n C.1 C.2.1 dX4_copyFrom_59 rfl (lv_at hl 0 rfl) ?_
  refine lv_aload_n C.1 C.2.1 dX4_copyFrom_60 rfl (lv_at hl 1 rfl) ?_
  refine zgetI C hS ff_X4_46_1 (hm 1 (by decide)) dX4_copyFrom_61 ?_
  refine zputI C hS ff_X4_46_50 fw_50_6 (hm 50 (by decide)) dX4_copyFrom_64 (fun H locs hS => ?_)
  obtain ⟨h10, eh10, hf⟩ := zst_some hf
  have hS : zS G h10 s.heap H locs := by rw [eh10]; exact hS
  refine lv_aload_n C.1 C.2.1 dX4_copyFrom_67 rfl (lv_at hl 0 rfl) ?_
  refine lv_aload_n C.1 C.2.1 dX4_copyFrom_68 rfl (lv_at hl 1 rfl) ?_
  refine zgetI C hS ff_X4_69_1 (hm 1 (by decide)) dX4_copyFrom_69 ?_
  refine zputI C hS ff_X4_69_50 fw_50_7 (hm 50 (by decide)) dX4_copyFrom_72 (fun H locs hS => ?_)
  obtain ⟨h11, eh11, hf⟩ := zst_some hf
  have hS : zS G h11 s.heap H locs := by rw [eh11]; exact hS
  refine lv_aload_n C.1 C.2.1 dX4_copyFrom_75 rfl (lv_at hl 0 rfl) ?_
  refine lv_aload_n C.1 C.2.1 dX4_copyFrom_76 rfl (lv_at hl 1 rfl) ?_
  refine zgetI C hS ff_X4_72_1 (hm 1 (by decide)) dX4_copyFrom_77 ?_
  refine zputI C hS ff_X4_72_50 fw_50_8 (hm 50 (by decide)) dX4_copyFrom_80 (fun H locs hS => ?_)
  obtain ⟨h12, eh12, hf⟩ := zst_some hf
  have hS : zS G h12 s.heap H locs := by rw [eh12]; exact hS
  exact zretV C hS hf dX4_copyFrom_83
end
section
abbrev nd_X5_copyFrom_r34 : List Nat := [16, 17, 18, 34, 35, 36]
abbrev ld_X5_copyFrom_r34 : List (Nat × Nat) := [(16, 0), (16, 1), (34, 0), (34, 1)]
def f_X5_copyFrom_r34  (h : zH) : zR := (zcc 400 400 (0 : Int32) (0 : Int32) (h 34 3) (zst (zcp h 35 17 (0 : Int32) (0 : Int32) (h 34 3)) fun h1 => (zcc 400 400 (0 : Int32) (0 : Int32) (h1 34 3) (zst (zcp h1 36 18 (0 : Int32) (0 : Int32) (h1 34 3)) fun h2 => (zst (zup h2 16 3 (h2 34 3)) fun h3 => (zst (zup h3 16 4 (h3 34 4)) fun h4 => (some (0, h4))))))))
variable {p : Program} {l : Launch} {e : Env} {s : State} {m : MethodId} {args : Array Value} {below : List Frame} {meth : Method} {c : Code} {G : zG} {q : Int32 × zH}
set_option maxHeartbeats 4000000 in
set_option maxRecDepth 100000 in
theorem c_X5_copyFrom_r34 (l : Launch) (G : zG) (h : zH) (q : Int32 × zH) (hm : ∀ c ∈ nd_X5_copyFrom_r34, c ∈ znm G) (hk : ∀ q ∈ ld_X5_copyFrom_r34, zlk G q.1 q.2 = true) (hf : f_X5_copyFrom_r34 h = some q) : zCtV l yX5_copyFrom cX5_copyFrom 2 none (2) [.ref (zal G 16), .ref (zal G 34)] G h q.2 := by
  refine zMetV (by decide) (Nat.le_of_ble_eq_true rfl) ?_
  intro p e s m below meth c ls C hl hS
  have hl : lv_has ls 2 [(0, .ref (zal G 16)), (1, .ref (zal G 34))] := hl
  have C : zC G p s m [.ref (zal G 16), .ref (zal G 34)].toArray meth c cX5_copyFrom 2 RX5 none := C
  unfold f_X5_copyFrom_r34 at hf
  refine lv_aload_n C.1 C.2.1 dX5_copyFrom_0 rfl (lv_at hl 1 rfl) ?_
  refine zgetR C hS ff_X5_11_34 (hm 34 (by decide)) (hk (34, 0) (by decide)) dX5_copyFrom_1 ?_
  refine lv_iconst (v := (0 : Int32)) C.1 C.2.1 dX5_copyFrom_4 rfl ?_
  refine lv_aload_n C.1 C.2.1 dX5_copyFrom_5 rfl (lv_at hl 0 rfl) ?_
  refine zgetR C hS ff_X5_11_16 (hm 16 (by decide)) (hk (16, 0) (by decide)) dX5_copyFrom_6 ?_
  refine lv_iconst (v := (0 : Int32)) C.1 C.2.1 dX5_copyFrom_9 rfl ?_
  refine lv_aload_n C.1 C.2.1 dX5_copyFrom_10 rfl (lv_at hl 1 rfl) ?_
  refine zgetI C hS ff_X5_21_34 (hm 34 (by decide)) dX5_copyFrom_11 ?_
  obtain ⟨hi, hf⟩ := zcc_some hf
  refine zacp C hS kw_748 sh_35 sh_17 (hm 35 (by decide)) (hm 17 (by decide)) hi (Nat.le_of_ble_eq_true rfl) hl.1 ⟨Nat.le_of_ble_eq_true rfl, Nat.le_of_ble_eq_true rfl⟩ dX5_copyFrom_14 (fun H locs hS => ?_)
  obtain ⟨h1, eh1, hf⟩ := zst_some hf
  have hS : zS G h1 s.heap H locs := by rw [eh1]; exact hS
  refine lv_aload_n C.1 C.2.1 dX5_copyFrom_17 rfl (lv_at hl 1 rfl) ?_
  refine zgetR C hS ff_X5_15_34 (hm 34 (by decide)) (hk (34, 1) (by decide)) dX5_copyFrom_18 ?_
  refine lv_iconst (v := (0 : Int32)) C.1 C.2.1 dX5_copyFrom_21 rfl ?_
  refine lv_aload_n C.1 C.2.1 dX5_copyFrom_22 rfl (lv_at hl 0 rfl) ?_
  refine zgetR C hS ff_X5_15_16 (hm 16 (by decide)) (hk (16, 1) (by decide)) dX5_copyFrom_23 ?_
  refine lv_iconst (v := (0 : Int32)) C.1 C.2.1 dX5_copyFrom_26 rfl ?_
  refine lv_aload_n C.1 C.2.1 dX5_copyFrom_27 rfl (lv_at hl 1 rfl) ?_
  refine zgetI C hS ff_X5_21_34 (hm 34 (by decide)) dX5_copyFrom_28 ?_
  obtain ⟨hi, hf⟩ := zcc_some hf
  refine zacp C hS kw_748 sh_36 sh_18 (hm 36 (by decide)) (hm 18 (by decide)) hi (Nat.le_of_ble_eq_true rfl) hl.1 ⟨Nat.le_of_ble_eq_true rfl, Nat.le_of_ble_eq_true rfl⟩ dX5_copyFrom_31 (fun H locs hS => ?_)
  obtain ⟨h2, eh2, hf⟩ := zst_some hf
  have hS : zS G h2 s.heap H locs := by rw [eh2]; exact hS
  refine lv_aload_n C.1 C.2.1 dX5_copyFrom_34 rfl (lv_at hl 0 rfl) ?_
  refine lv_aload_n C.1 C.2.1 dX5_copyFrom_35 rfl (lv_at hl 1 rfl) ?_
  refine zgetI C hS ff_X5_21_34 (hm 34 (by decide)) dX5_copyFrom_36 ?_
  refine zputI C hS ff_X5_21_16 fw_16_3 (hm 16 (by decide)) dX5_copyFrom_39 (fun H locs hS => ?_)
  obtain ⟨h3, eh3, hf⟩ := zst_some hf
  have hS : zS G h3 s.heap H locs := by rw [eh3]; exact hS
  refine lv_aload_n C.1 C.2.1 dX5_copyFrom_42 rfl (lv_at hl 0 rfl) ?_
  refine lv_aload_n C.1 C.2.1 dX5_copyFrom_43 rfl (lv_at hl 1 rfl) ?_
  refine zgetI C hS ff_X5_25_34 (hm 34 (by decide)) dX5_copyFrom_44 ?_
  refine zputI C hS ff_X5_25_16 fw_16_4 (hm 16 (by decide)) dX5_copyFrom_47 (fun H locs hS => ?_)
  obtain ⟨h4, eh4, hf⟩ := zst_some hf
  have hS : zS G h4 s.heap H locs := by rw [eh4]; exact hS
  exact zretV C hS hf dX5_copyFrom_50
end
