theorem kw_436 : Cond.fieldLink RX11 232 "HalfAJoke" "bestFit" "LHalfAJoke$Fit;" ∈ zg := zg_of (List.mem_of_getElem? (i := 436) (by decide +kernel)) (by decide +kernel)
theorem ff_X11_232_0 : zFc RX11 232 0 7 (some (74, true)) := ⟨_, _, _, tyX11, sh_0, rfl, by decide, iz_X11, kw_436, rfl, tyX11_ok, nmX11⟩
theorem kw_894 : Cond.classLink RX11 236 RX2 ∈ zg := zg_of (List.mem_of_getElem? (i := 894) (by decide +kernel)) (by decide +kernel)
theorem kw_895 : Cond.instantiable RX2 8 ∈ zg := zg_of (List.mem_of_getElem? (i := 895) (by decide +kernel)) (by decide +kernel)
theorem kw_897 : Cond.instanceMethod yX2_init ∈ zg := zg_of (List.mem_of_getElem? (i := 897) (by decide +kernel)) (by decide +kernel)
theorem kw_898 : Cond.code yX2_init cX2_init 1 none ∈ zg := zg_of (List.mem_of_getElem? (i := 898) (by decide +kernel)) (by decide +kernel)
theorem mj_X11_238 : zMJ RX11 238 yX2_init cX2_init 1 0 := ⟨⟨(by decide +kernel), kw_897, kw_101, kw_898⟩, ⟨by decide, by decide, by decide +kernel⟩, rfl, by decide⟩
theorem kw_930 : Cond.code yX2_solve cX2_solve 5 (some .boolean) ∈ zg := zg_of (List.mem_of_getElem? (i := 930) (by decide +kernel)) (by decide +kernel)
theorem kw_927 : Cond.methodLink RX11 239 yX2_solve ∈ zg := zg_of (List.mem_of_getElem? (i := 927) (by decide +kernel)) (by decide +kernel)
theorem kw_928 : Cond.instanceMethod yX2_solve ∈ zg := zg_of (List.mem_of_getElem? (i := 928) (by decide +kernel)) (by decide +kernel)
theorem kw_929 : Cond.selects RX2 yX2_solve yX2_solve ∈ zg := zg_of (List.mem_of_getElem? (i := 929) (by decide +kernel)) (by decide +kernel)
theorem mv_X11_239 : zMV RX11 239 yX2_solve cX2_solve 5 (some .boolean) 1 := ⟨⟨kw_927, kw_928, kw_929, kw_101, kw_930⟩, ⟨by decide, by decide, by decide +kernel⟩, by decide⟩
theorem kw_905 : Cond.fieldLink RX11 246 "HalfAJoke$Fit" "partner" "[I" ∈ zg := zg_of (List.mem_of_getElem? (i := 905) (by decide +kernel)) (by decide +kernel)
theorem ff_X11_246_74 : zFc RX11 246 74 4 (some (79, false)) := ⟨_, _, _, tyX2, sh_74, rfl, by decide, iz_X2, kw_905, rfl, tyX2_ok, nmX2⟩
theorem kw_909 : Cond.fieldLink RX11 243 "HalfAJoke$Fit" "sum" "I" ∈ zg := zg_of (List.mem_of_getElem? (i := 909) (by decide +kernel)) (by decide +kernel)
theorem ff_X11_243_74 : zFc RX11 243 74 7 none := ⟨_, _, _, tyX2, sh_74, rfl, by decide, iz_X2, kw_909, rfl, tyX2_ok, nmX2⟩
theorem kw_435 : Cond.fieldLink RX11 251 "HalfAJoke" "bestSeating" "LHalfAJoke$Seating;" ∈ zg := zg_of (List.mem_of_getElem? (i := 435) (by decide +kernel)) (by decide +kernel)
theorem ff_X11_251_0 : zFc RX11 251 0 6 (some (71, true)) := ⟨_, _, _, tyX11, sh_0, rfl, by decide, iz_X11, kw_435, rfl, tyX11_ok, nmX11⟩
theorem kw_958 : Cond.classLink RX11 249 RX8 ∈ zg := zg_of (List.mem_of_getElem? (i := 958) (by decide +kernel)) (by decide +kernel)
theorem kw_959 : Cond.instantiable RX8 5 ∈ zg := zg_of (List.mem_of_getElem? (i := 959) (by decide +kernel)) (by decide +kernel)
theorem kw_960 : Cond.methodLink RX11 255 yX8_init ∈ zg := zg_of (List.mem_of_getElem? (i := 960) (by decide +kernel)) (by decide +kernel)
theorem kw_961 : Cond.instanceMethod yX8_init ∈ zg := zg_of (List.mem_of_getElem? (i := 961) (by decide +kernel)) (by decide +kernel)
theorem kw_962 : Cond.code yX8_init cX8_init 2 none ∈ zg := zg_of (List.mem_of_getElem? (i := 962) (by decide +kernel)) (by decide +kernel)
theorem mi_X11_255 : zMI RX11 255 yX8_init cX8_init 2 1 := ⟨⟨kw_960, kw_961, kw_102, kw_962⟩, ⟨by decide, by decide, by decide +kernel⟩, rfl, by decide⟩
theorem kw_985 : Cond.code yX8_solve cX8_solve 2 none ∈ zg := zg_of (List.mem_of_getElem? (i := 985) (by decide +kernel)) (by decide +kernel)
theorem kw_982 : Cond.methodLink RX11 258 yX8_solve ∈ zg := zg_of (List.mem_of_getElem? (i := 982) (by decide +kernel)) (by decide +kernel)
theorem kw_983 : Cond.instanceMethod yX8_solve ∈ zg := zg_of (List.mem_of_getElem? (i := 983) (by decide +kernel)) (by decide +kernel)
theorem kw_984 : Cond.selects RX8 yX8_solve yX8_solve ∈ zg := zg_of (List.mem_of_getElem? (i := 984) (by decide +kernel)) (by decide +kernel)
theorem mv_X11_258 : zMV RX11 258 yX8_solve cX8_solve 2 none 1 := ⟨⟨kw_982, kw_983, kw_984, kw_102, kw_985⟩, ⟨by decide, by decide, by decide +kernel⟩, by decide⟩
theorem kw_967 : Cond.fieldLink RX11 263 "HalfAJoke$Seating" "best" "[I" ∈ zg := zg_of (List.mem_of_getElem? (i := 967) (by decide +kernel)) (by decide +kernel)
theorem ff_X11_263_71 : zFc RX11 263 71 2 (some (73, false)) := ⟨_, _, _, tyX8, sh_71, rfl, by decide, iz_X8, kw_967, rfl, tyX8_ok, nmX8⟩
theorem kw_970 : Cond.fieldLink RX11 260 "HalfAJoke$Seating" "merry" "I" ∈ zg := zg_of (List.mem_of_getElem? (i := 970) (by decide +kernel)) (by decide +kernel)
theorem ff_X11_260_71 : zFc RX11 260 71 4 none := ⟨_, _, _, tyX8, sh_71, rfl, by decide, iz_X8, kw_970, rfl, tyX8_ok, nmX8⟩
theorem kw_437 : Cond.fieldLink RX11 278 "HalfAJoke" "worths" "LHalfAJoke$Worths;" ∈ zg := zg_of (List.mem_of_getElem? (i := 437) (by decide +kernel)) (by decide +kernel)
theorem ff_X11_278_0 : zFc RX11 278 0 8 (some (80, true)) := ⟨_, _, _, tyX11, sh_0, rfl, by decide, iz_X11, kw_437, rfl, tyX11_ok, nmX11⟩
theorem kw_1033 : Cond.classLink RX11 276 RX10 ∈ zg := zg_of (List.mem_of_getElem? (i := 1033) (by decide +kernel)) (by decide +kernel)
theorem kw_1034 : Cond.instantiable RX10 4 ∈ zg := zg_of (List.mem_of_getElem? (i := 1034) (by decide +kernel)) (by decide +kernel)
theorem kw_1036 : Cond.instanceMethod yX10_init ∈ zg := zg_of (List.mem_of_getElem? (i := 1036) (by decide +kernel)) (by decide +kernel)
theorem kw_1037 : Cond.code yX10_init cX10_init 1 none ∈ zg := zg_of (List.mem_of_getElem? (i := 1037) (by decide +kernel)) (by decide +kernel)
theorem mj_X11_282 : zMJ RX11 282 yX10_init cX10_init 1 0 := ⟨⟨(by decide +kernel), kw_1036, kw_103, kw_1037⟩, ⟨by decide, by decide, by decide +kernel⟩, rfl, by decide⟩
theorem kw_1058 : Cond.code yX10_solve cX10_solve 6 none ∈ zg := zg_of (List.mem_of_getElem? (i := 1058) (by decide +kernel)) (by decide +kernel)
theorem kw_1055 : Cond.methodLink RX11 283 yX10_solve ∈ zg := zg_of (List.mem_of_getElem? (i := 1055) (by decide +kernel)) (by decide +kernel)
theorem kw_1056 : Cond.instanceMethod yX10_solve ∈ zg := zg_of (List.mem_of_getElem? (i := 1056) (by decide +kernel)) (by decide +kernel)
theorem kw_1057 : Cond.selects RX10 yX10_solve yX10_solve ∈ zg := zg_of (List.mem_of_getElem? (i := 1057) (by decide +kernel)) (by decide +kernel)
theorem mv_X11_283 : zMV RX11 283 yX10_solve cX10_solve 6 none 1 := ⟨⟨kw_1055, kw_1056, kw_1057, kw_103, kw_1058⟩, ⟨by decide, by decide, by decide +kernel⟩, by decide⟩
theorem kw_1040 : Cond.fieldLink RX11 291 "HalfAJoke$Worths" "rows" "[I" ∈ zg := zg_of (List.mem_of_getElem? (i := 1040) (by decide +kernel)) (by decide +kernel)
theorem ff_X11_291_80 : zFc RX11 291 80 0 (some (81, false)) := ⟨_, _, _, tyX10, sh_80, rfl, by decide, iz_X10, kw_1040, rfl, tyX10_ok, nmX10⟩
theorem kw_1045 : Cond.fieldLink RX11 288 "HalfAJoke$Worths" "circle" "I" ∈ zg := zg_of (List.mem_of_getElem? (i := 1045) (by decide +kernel)) (by decide +kernel)
theorem ff_X11_288_80 : zFc RX11 288 80 3 none := ⟨_, _, _, tyX10, sh_80, rfl, by decide, iz_X10, kw_1045, rfl, tyX10_ok, nmX10⟩
theorem kw_1043 : Cond.fieldLink RX11 285 "HalfAJoke$Worths" "settled" "I" ∈ zg := zg_of (List.mem_of_getElem? (i := 1043) (by decide +kernel)) (by decide +kernel)
theorem ff_X11_285_80 : zFc RX11 285 80 2 none := ⟨_, _, _, tyX10, sh_80, rfl, by decide, iz_X10, kw_1043, rfl, tyX10_ok, nmX10⟩
theorem kw_434 : Cond.fieldLink RX11 304 "HalfAJoke" "kept" "LHalfAJoke$House;" ∈ zg := zg_of (List.mem_of_getElem? (i := 434) (by decide +kernel)) (by decide +kernel)
theorem ff_X11_304_0 : zFc RX11 304 0 5 (some (50, true)) := ⟨_, _, _, tyX11, sh_0, rfl, by decide, iz_X11, kw_434, rfl, tyX11_ok, nmX11⟩
theorem kw_1101 : Cond.code yX4_copyFrom cX4_copyFrom 2 none ∈ zg := zg_of (List.mem_of_getElem? (i := 1101) (by decide +kernel)) (by decide +kernel)
theorem kw_1098 : Cond.methodLink RX11 307 yX4_copyFrom ∈ zg := zg_of (List.mem_of_getElem? (i := 1098) (by decide +kernel)) (by decide +kernel)
theorem kw_1099 : Cond.instanceMethod yX4_copyFrom ∈ zg := zg_of (List.mem_of_getElem? (i := 1099) (by decide +kernel)) (by decide +kernel)
theorem kw_1100 : Cond.selects RX4 yX4_copyFrom yX4_copyFrom ∈ zg := zg_of (List.mem_of_getElem? (i := 1100) (by decide +kernel)) (by decide +kernel)
theorem mv_X11_307 : zMV RX11 307 yX4_copyFrom cX4_copyFrom 2 none 1 := ⟨⟨kw_1098, kw_1099, kw_1100, kw_85, kw_1101⟩, ⟨by decide, by decide, by decide +kernel⟩, by decide⟩
theorem m_X3_init_t51_0 : ∀ (h : zH) {q : Int32 × zH}, f_X3_init_t51 h = some q → q.2 0 = h 0 := by
  intro h q hf
  unfold f_X3_init_t51 at hf
  have k0 : h 0 = h 0 := rfl
  obtain ⟨h1, eh1, hf⟩ := zst_some hf
  have k0 : h1 0 = h 0 := by rw [eh1, zz_ne (by decide)]
  obtain ⟨h2, eh2, hf⟩ := zst_some hf
  have k0 : h2 0 = h 0 := by rw [eh2, zz_ne (by decide)]; exact k0
  obtain ⟨h3, eh3, hf⟩ := zst_some hf
  have k0 : h3 0 = h 0 := by rw [eh3, zz_ne (by decide)]; exact k0
  obtain ⟨h4, eh4, hf⟩ := zst_some hf
  have k0 : h4 0 = h 0 := by rw [eh4, zz_ne (by decide)]; exact k0
  cases hf
  exact k0
theorem m_X9_init_t56_0 : ∀ (h : zH) {q : Int32 × zH}, f_X9_init_t56 h = some q → q.2 0 = h 0 := by
  intro h q hf
  unfold f_X9_init_t56 at hf
  have k0 : h 0 = h 0 := rfl
  obtain ⟨h1, eh1, hf⟩ := zst_some hf
  have k0 : h1 0 = h 0 := by rw [eh1, zz_ne (by decide)]
  obtain ⟨h2, eh2, hf⟩ := zst_some hf
  have k0 : h2 0 = h 0 := by rw [eh2, zz_ne (by decide)]; exact k0
  obtain ⟨h3, eh3, hf⟩ := zst_some hf
  have k0 : h3 0 = h 0 := by rw [eh3, zz_ne (by decide)]; exact k0
  obtain ⟨r4, h5, er4, hf⟩ := zbd_some hf
  have k0 : h5 0 = h 0 := (m_X9_layFor_t56 _ _ er4 0 (by decide)).trans k0
  cases hf
  exact k0
theorem m_X0_init_t60_0 : ∀ (h : zH) {q : Int32 × zH}, f_X0_init_t60 h = some q → q.2 0 = h 0 := by
  intro h q hf
  unfold f_X0_init_t60 at hf
  have k0 : h 0 = h 0 := rfl
  obtain ⟨h1, eh1, hf⟩ := zst_some hf
  have k0 : h1 0 = h 0 := by rw [eh1, zz_ne (by decide)]
  obtain ⟨h2, eh2, hf⟩ := zst_some hf
  have k0 : h2 0 = h 0 := by rw [eh2, zz_ne (by decide)]; exact k0
  obtain ⟨h3, eh3, hf⟩ := zst_some hf
  have k0 : h3 0 = h 0 := by rw [eh3, zz_ne (by decide)]; exact k0
  obtain ⟨h4, eh4, hf⟩ := zst_some hf
  have k0 : h4 0 = h 0 := by rw [eh4, zz_ne (by decide)]; exact k0
  cases hf
  exact k0
theorem m_X5_init_t65_0 : ∀ (h : zH) {q : Int32 × zH}, f_X5_init_t65 h = some q → q.2 0 = h 0 := by
  intro h q hf
  unfold f_X5_init_t65 at hf
  have k0 : h 0 = h 0 := rfl
  obtain ⟨h1, eh1, hf⟩ := zst_some hf
  have k0 : h1 0 = h 0 := by rw [eh1, zz_ne (by decide)]
  obtain ⟨h2, eh2, hf⟩ := zst_some hf
  have k0 : h2 0 = h 0 := by rw [eh2, zz_ne (by decide)]; exact k0
  obtain ⟨h3, eh3, hf⟩ := zst_some hf
  have k0 : h3 0 = h 0 := by rw [eh3, zz_ne (by decide)]; exact k0
  cases hf
  exact k0
theorem m_X4_init_t50_0 : ∀ (h : zH) {q : Int32 × zH}, f_X4_init_t50 h = some q → q.2 0 = h 0 := by
  intro h q hf
  unfold f_X4_init_t50 at hf
  have k0 : h 0 = h 0 := rfl
  obtain ⟨h1, eh1, hf⟩ := zst_some hf
  have k0 : h1 0 = h 0 := by rw [eh1, zz_ne (by decide)]
  obtain ⟨r2, h3, er2, hf⟩ := zbd_some hf
  have k0 : h3 0 = h 0 := (m_X3_init_t51_0 _ er2).trans k0
  obtain ⟨h4, eh4, hf⟩ := zst_some hf
  have k0 : h4 0 = h 0 := by rw [eh4, zz_ne (by decide)]; exact k0
  obtain ⟨r5, h6, er5, hf⟩ := zbd_some hf
  have k0 : h6 0 = h 0 := (m_X9_init_t56_0 _ er5).trans k0
  obtain ⟨h7, eh7, hf⟩ := zst_some hf
  have k0 : h7 0 = h 0 := by rw [eh7, zz_ne (by decide)]; exact k0
  obtain ⟨r8, h9, er8, hf⟩ := zbd_some hf
  have k0 : h9 0 = h 0 := (m_X0_init_t60_0 _ er8).trans k0
  obtain ⟨h10, eh10, hf⟩ := zst_some hf
  have k0 : h10 0 = h 0 := by rw [eh10, zz_ne (by decide)]; exact k0
  obtain ⟨r11, h12, er11, hf⟩ := zbd_some hf
  have k0 : h12 0 = h 0 := (m_X5_init_t65_0 _ er11).trans k0
  obtain ⟨h13, eh13, hf⟩ := zst_some hf
  have k0 : h13 0 = h 0 := by rw [eh13, zz_ne (by decide)]; exact k0
  obtain ⟨h14, eh14, hf⟩ := zst_some hf
  have k0 : h14 0 = h 0 := by rw [eh14, zz_ne (by decide)]; exact k0
  obtain ⟨h15, eh15, hf⟩ := zst_some hf
  have k0 : h15 0 = h 0 := (congrFun eh15 0).trans ((zup_ne 0 (by decide)).trans k0)
  cases hf
  exact k0
theorem m_X8_init_t71_0 : ∀ (h : zH) {q : Int32 × zH}, f_X8_init_t71 h = some q → q.2 0 = h 0 := by
  intro h q hf
  unfold f_X8_init_t71 at hf
  have k0 : h 0 = h 0 := rfl
  obtain ⟨h1, eh1, hf⟩ := zst_some hf
  have k0 : h1 0 = h 0 := by rw [eh1, zz_ne (by decide)]
  obtain ⟨h2, eh2, hf⟩ := zst_some hf
  have k0 : h2 0 = h 0 := by rw [eh2, zz_ne (by decide)]; exact k0
  cases hf
  exact k0
theorem m_X2_init_t74_0 : ∀ (h : zH) {q : Int32 × zH}, f_X2_init_t74 h = some q → q.2 0 = h 0 := by
  intro h q hf
  unfold f_X2_init_t74 at hf
  have k0 : h 0 = h 0 := rfl
  obtain ⟨h1, eh1, hf⟩ := zst_some hf
  have k0 : h1 0 = h 0 := by rw [eh1, zz_ne (by decide)]
  obtain ⟨h2, eh2, hf⟩ := zst_some hf
  have k0 : h2 0 = h 0 := by rw [eh2, zz_ne (by decide)]; exact k0
  obtain ⟨h3, eh3, hf⟩ := zst_some hf
  have k0 : h3 0 = h 0 := by rw [eh3, zz_ne (by decide)]; exact k0
  obtain ⟨h4, eh4, hf⟩ := zst_some hf
  have k0 : h4 0 = h 0 := by rw [eh4, zz_ne (by decide)]; exact k0
  obtain ⟨h5, eh5, hf⟩ := zst_some hf
  have k0 : h5 0 = h 0 := by rw [eh5, zz_ne (by decide)]; exact k0
  cases hf
  exact k0
theorem m_X10_init_t80_0 : ∀ (h : zH) {q : Int32 × zH}, f_X10_init_t80 h = some q → q.2 0 = h 0 := by
  intro h q hf
  unfold f_X10_init_t80 at hf
  have k0 : h 0 = h 0 := rfl
  obtain ⟨h1, eh1, hf⟩ := zst_some hf
  have k0 : h1 0 = h 0 := by rw [eh1, zz_ne (by decide)]
  obtain ⟨h2, eh2, hf⟩ := zst_some hf
  have k0 : h2 0 = h 0 := by rw [eh2, zz_ne (by decide)]; exact k0
  cases hf
  exact k0
section
theorem dX11_fit_0 : decode cX11_fit 0 = .ok (.iload_n 1, 1) := by decide +kernel
theorem dX11_fit_1 : decode cX11_fit 1 = .ok (.ifCond .eq 22, 3) := by decide +kernel
theorem dX11_fit_4 : decode cX11_fit 4 = .ok (.aload_n 0, 1) := by decide +kernel
theorem dX11_fit_5 : decode cX11_fit 5 = .ok (.getfield 12, 3) := by decide +kernel
theorem dX11_fit_8 : decode cX11_fit 8 = .ok (.getfield 54, 3) := by decide +kernel
theorem dX11_fit_11 : decode cX11_fit 11 = .ok (.iload_n 1, 1) := by decide +kernel
theorem dX11_fit_12 : decode cX11_fit 12 = .ok (.bipush 10, 2) := by decide +kernel
theorem dX11_fit_14 : decode cX11_fit 14 = .ok (.isub, 1) := by decide +kernel
theorem dX11_fit_15 : decode cX11_fit 15 = .ok (.invokevirtual 67, 3) := by decide +kernel
theorem dX11_fit_18 : decode cX11_fit 18 = .ok (.ifCond .ne 5, 3) := by decide +kernel
theorem dX11_fit_21 : decode cX11_fit 21 = .ok (.iconst (-1), 1) := by decide +kernel
theorem dX11_fit_22 : decode cX11_fit 22 = .ok (.ireturn, 1) := by decide +kernel
theorem dX11_fit_23 : decode cX11_fit 23 = .ok (.aload_n 0, 1) := by decide +kernel
theorem dX11_fit_24 : decode cX11_fit 24 = .ok (.getfield 232, 3) := by decide +kernel
theorem dX11_fit_27 : decode cX11_fit 27 = .ok (.ifnonnull 14, 3) := by decide +kernel
theorem dX11_fit_30 : decode cX11_fit 30 = .ok (.aload_n 0, 1) := by decide +kernel
theorem dX11_fit_31 : decode cX11_fit 31 = .ok (.new 236, 3) := by decide +kernel
theorem dX11_fit_34 : decode cX11_fit 34 = .ok (.dup, 1) := by decide +kernel
theorem dX11_fit_35 : decode cX11_fit 35 = .ok (.invokespecial 238, 3) := by decide +kernel
theorem dX11_fit_38 : decode cX11_fit 38 = .ok (.putfield 232, 3) := by decide +kernel
theorem dX11_fit_41 : decode cX11_fit 41 = .ok (.aload_n 0, 1) := by decide +kernel
theorem dX11_fit_42 : decode cX11_fit 42 = .ok (.getfield 232, 3) := by decide +kernel
theorem dX11_fit_45 : decode cX11_fit 45 = .ok (.aload_n 0, 1) := by decide +kernel
theorem dX11_fit_46 : decode cX11_fit 46 = .ok (.getfield 12, 3) := by decide +kernel
theorem dX11_fit_49 : decode cX11_fit 49 = .ok (.invokevirtual 239, 3) := by decide +kernel
theorem dX11_fit_52 : decode cX11_fit 52 = .ok (.ifCond .ne 5, 3) := by decide +kernel
theorem dX11_fit_55 : decode cX11_fit 55 = .ok (.iconst (-1), 1) := by decide +kernel
theorem dX11_fit_56 : decode cX11_fit 56 = .ok (.ireturn, 1) := by decide +kernel
theorem dX11_fit_57 : decode cX11_fit 57 = .ok (.iload_n 1, 1) := by decide +kernel
theorem dX11_fit_58 : decode cX11_fit 58 = .ok (.ifCond .ne 13, 3) := by decide +kernel
theorem dX11_fit_61 : decode cX11_fit 61 = .ok (.aload_n 0, 1) := by decide +kernel
theorem dX11_fit_62 : decode cX11_fit 62 = .ok (.getfield 232, 3) := by decide +kernel
theorem dX11_fit_65 : decode cX11_fit 65 = .ok (.getfield 243, 3) := by decide +kernel
theorem dX11_fit_68 : decode cX11_fit 68 = .ok (.goto 15, 3) := by decide +kernel
theorem dX11_fit_71 : decode cX11_fit 71 = .ok (.aload_n 0, 1) := by decide +kernel
theorem dX11_fit_72 : decode cX11_fit 72 = .ok (.getfield 232, 3) := by decide +kernel
theorem dX11_fit_75 : decode cX11_fit 75 = .ok (.getfield 246, 3) := by decide +kernel
theorem dX11_fit_78 : decode cX11_fit 78 = .ok (.iload_n 1, 1) := by decide +kernel
theorem dX11_fit_79 : decode cX11_fit 79 = .ok (.bipush 10, 2) := by decide +kernel
theorem dX11_fit_81 : decode cX11_fit 81 = .ok (.isub, 1) := by decide +kernel
theorem dX11_fit_82 : decode cX11_fit 82 = .ok (.iaload, 1) := by decide +kernel
theorem dX11_fit_83 : decode cX11_fit 83 = .ok (.ireturn, 1) := by decide +kernel
abbrev ndp_X11_fit : List Nat := [0, 1, 2, 3, 4, 5, 11, 12, 13, 16, 17, 18, 19, 21, 74, 75, 76, 77, 78, 79]
abbrev ndq_X11_fit : List Nat := [0, 1, 2, 3, 4, 5, 11, 12, 13, 16, 17, 18, 19, 21]
abbrev ldp_X11_fit : List (Nat × Nat) := [(0, 0), (1, 0), (1, 2), (1, 3), (1, 5), (2, 0), (2, 1), (2, 2), (11, 0), (11, 1), (16, 0), (16, 1), (16, 2), (74, 0), (74, 1), (74, 2), (74, 3), (74, 4)]
abbrev ldq_X11_fit : List (Nat × Nat) := [(0, 0), (1, 0), (1, 2), (1, 3), (1, 5), (2, 0), (2, 1), (2, 2), (11, 0), (11, 1), (16, 0), (16, 1), (16, 2)]
def f_lz7 (h : zH) : zR := if h 0 7 = 0 then zst (zz h 74) fun h1 => zbd (f_X2_init_t74 h1) fun _ h2 => zst (zup h2 0 7 1) fun h3 => some (0, h3) else some (0, h)
def f_X11_fit_41 (x1 : Int32) (h : zH) : zR := (if (h 0 7) = 0 then none else (zbd (f_X2_solve_r1  h) fun r3 h4 => (if r3 = 0 then (some ((-1 : Int32), h4)) else (if x1 = 0 then (if (h4 0 7) = 0 then none else (some ((h4 74 7), h4))) else (if (h4 0 7) = 0 then none else (zck (x1 - (10 : Int32)) 16 (some ((h4 79 (Int32.toNatClampNeg (x1 - (10 : Int32)))), h4))))))))
def f_X11_fit_23 (x1 : Int32) (h : zH) : zR := (zbd (f_lz7 h) fun r2 h1 => (f_X11_fit_41 x1 h1))
def f_X11_fit (x1 : Int32) (h : zH) : zR := (if x1 = 0 then (f_X11_fit_23 x1 h) else (zbd (f_X3_has (x1 - (10 : Int32)) h) fun r5 h6 => (if r5 = 0 then (some ((-1 : Int32), h6)) else (f_X11_fit_23 x1 h6))))
variable {q : Int32 × zH}
abbrev md_X11_fit_p : List Nat := [19, 21, 74, 75, 76, 77, 78, 79]
theorem sm_X11_fit_p_X2_solve_r1 : ∀ c ∈ md_X2_solve_r1, c ∈ md_X11_fit_p := by decide
theorem sm_X11_fit_p_X3_has : ∀ c ∈ md_X3_has, c ∈ md_X11_fit_p := by decide
theorem m_X11_fit_41 : ∀ (h0 : zH) (x1 : Int32), f_X11_fit_41 x1 h0 = some q → ∀ c, c ∉ md_X11_fit_p → q.2 c = h0 c := by
  intro h x1 hf
  unfold f_X11_fit_41 at hf
  have fr : ∀ c, c ∉ md_X11_fit_p → h c = h c := fun _ _ => rfl
  rcases zif_c hf with ⟨hc, hf⟩ | ⟨hc, hf⟩
  · cases hf
  obtain ⟨r3, h4, er3, hf⟩ := zbd_some hf
  have fr : ∀ c, c ∉ md_X11_fit_p → h4 c = h c := fun c hc9 => (m_X2_solve_r1 _ er3 c (fun z => hc9 (sm_X11_fit_p_X2_solve_r1 c z))).trans (fr c hc9)
  rcases zif_n hf with ⟨hc, hf⟩ | ⟨hc, hf⟩
  · skip
    rcases zif_n hf with ⟨hc, hf⟩ | ⟨hc, hf⟩
    · skip
      rcases zif_c hf with ⟨hc, hf⟩ | ⟨hc, hf⟩
      · cases hf
      obtain ⟨hi, hf⟩ := zck_some hf
      cases hf
      exact fr
    · skip
      rcases zif_c hf with ⟨hc, hf⟩ | ⟨hc, hf⟩
      · cases hf
      cases hf
      exact fr
  · skip
    cases hf
    exact fr
variable {p : Program} {l : Launch} {e : Env} {s : State} {m : MethodId} {args : Array Value} {below : List Frame} {meth : Method} {c : Code} {G : zG} {Q : State → Prop} {h0 : zH}
set_option maxHeartbeats 8000000 in
set_option maxRecDepth 100000 in
theorem w_X11_fit_41 (C : zC G p s m args meth c cX11_fit 2 RX11 (some .int)) (hm : ∀ c ∈ ndp_X11_fit, c ∈ znm G) (hk : ∀ q ∈ ldp_X11_fit, zlk G q.1 q.2 = true) (hret : ∀ (pc : Nat) (ls : Array Slot) (H : Heap) (locs : List Loc) (v : Int32) (h : zH), narrow .int (.int v) = .int v → zS G h s.heap H locs → some (v, h) = some q → decode cX11_fit pc = .ok (.ireturn, 1) → W p l e (zrmC 6 6 2408) s m args below meth c H locs 6 2408 Q (F0 m pc ls [.int v])) : ∀ (ls : Array Slot) (H : Heap) (locs : List Loc) (h : zH) (x1 : Int32), lv_has ls 2 [(0, .ref (zal G 0)), (1, .int x1)] → zS G h s.heap H locs → f_X11_fit_41 x1 h = some q → W p l e (zrmC 6 6 2408) s m args below meth c H locs 6 2408 Q (F0 m 41 ls []) := by
  intro ls H locs h x1 hl hS hf
  unfold f_X11_fit_41 at hf
  refine lv_aload_n C.1 C.2.1 dX11_fit_41 rfl (lv_at hl 0 rfl) ?_
  refine zgetN C hS ff_X11_232_0 (hm 0 (by decide)) dX11_fit_42 (fun hc => ?_) (fun hc => ?_)
  · cases zif_t hc hf
  have hf := zif_f hc hf
  refine lv_aload_n C.1 C.2.1 dX11_fit_45 rfl (lv_at hl 0 rfl) ?_
  refine zgetR C hS ff_X11_12_0 (hm 0 (by decide)) (hk (0, 0) (by decide)) dX11_fit_46 ?_
  obtain ⟨r3, h4, er3, hf⟩ := zbd_some hf
  refine zcallVI (As := [.ref (zal G 1)]) (rest := []) C hS mv_X11_239 (c_X2_solve_r1 l G h  (r3, h4) (fun c h => hm c ((by decide : ∀ c ∈ nd_X2_solve_r1, c ∈ ndp_X11_fit) c h)) (fun q h => hk q ((by decide : ∀ q ∈ ld_X2_solve_r1, q ∈ ldp_X11_fit) q h)) er3) (hm 74 (by decide)) ⟨_, _, _, sh_74, rfl, rfl⟩ rfl rfl (Nat.le_of_ble_eq_true rfl) hl.1 ⟨Nat.le_of_ble_eq_true rfl, Nat.le_of_ble_eq_true rfl, Nat.le_of_ble_eq_true rfl, Nat.le_of_ble_eq_true rfl⟩ dX11_fit_49 (fun H locs hS => ?_)
  refine lv_if_ne (tgt := 57) C.1 C.2.1 dX11_fit_52 (by decide) (fun hc => ?_) (fun hc => ?_)
  · have hf := zif_f hc hf
    refine lv_iload_n C.1 C.2.1 dX11_fit_57 rfl (lv_at hl 1 rfl) ?_
    refine lv_if_ne (tgt := 71) C.1 C.2.1 dX11_fit_58 (by decide) (fun hc => ?_) (fun hc => ?_)
    · have hf := zif_f hc hf
      refine lv_aload_n C.1 C.2.1 dX11_fit_71 rfl (lv_at hl 0 rfl) ?_
      refine zgetN C hS ff_X11_232_0 (hm 0 (by decide)) dX11_fit_72 (fun hc => ?_) (fun hc => ?_)
      · cases zif_t hc hf
      have hf := zif_f hc hf
      refine zgetR C hS ff_X11_246_74 (hm 74 (by decide)) (hk (74, 4) (by decide)) dX11_fit_75 ?_
      refine lv_iload_n C.1 C.2.1 dX11_fit_78 rfl (lv_at hl 1 rfl) ?_
      refine lv_bipush (v := (10 : Int32)) C.1 C.2.1 dX11_fit_79 rfl ?_
      refine lv_isub C.1 C.2.1 dX11_fit_81 ?_
      obtain ⟨hi, hf⟩ := zck_some hf
      refine zald C hS sh_79 (hm 79 (by decide)) hi dX11_fit_82 ?_
      exact hret _ _ _ _ _ _ rfl hS hf dX11_fit_83
    · have hf := zif_t hc hf
      refine lv_aload_n C.1 C.2.1 dX11_fit_61 rfl (lv_at hl 0 rfl) ?_
      refine zgetN C hS ff_X11_232_0 (hm 0 (by decide)) dX11_fit_62 (fun hc => ?_) (fun hc => ?_)
      · cases zif_t hc hf
      have hf := zif_f hc hf
      refine zgetI C hS ff_X11_243_74 (hm 74 (by decide)) dX11_fit_65 ?_
      refine lv_goto (tgt := 83) C.1 C.2.1 dX11_fit_68 (by decide) ?_
      exact hret _ _ _ _ _ _ rfl hS hf dX11_fit_83
  · have hf := zif_t hc hf
    refine lv_iconst (v := (-1 : Int32)) C.1 C.2.1 dX11_fit_55 rfl ?_
    exact hret _ _ _ _ _ _ rfl hS hf dX11_fit_56
set_option maxHeartbeats 8000000 in
set_option maxRecDepth 100000 in
theorem w_X11_fit_23 (C : zC G p s m args meth c cX11_fit 2 RX11 (some .int)) (hm : ∀ c ∈ ndq_X11_fit, c ∈ znm G) (hk : ∀ q ∈ ldq_X11_fit, zlk G q.1 q.2 = true) (hcase : (¬ h0 0 7 = 0 → (∀ c ∈ ([74, 75, 76, 77, 78, 79] : List Nat), c ∈ znm G) ∧ (∀ q ∈ ([(74, 0), (74, 1), (74, 2), (74, 3), (74, 4)] : List (Nat × Nat)), zlk G q.1 q.2 = true)) ∧ (h0 0 7 = 0 → (∀ c ∈ ([74, 75, 76, 77, 78, 79] : List Nat), c ∉ znm G) ∧ ∀ c ∈ ([74, 75, 76, 77, 78, 79] : List Nat), ∀ k, zlk G c k = false)) (hret : ∀ G1 : zG, (G1 = G ∧ q.2 0 = h0 0) ∨ (∃ qs, G1 = zext G [74, 75, 76, 77, 78, 79] [(74, 0), (74, 1), (74, 2), (74, 3), (74, 4)] qs ∧ h0 0 7 = 0 ∧ q.2 0 = upd (h0 0) 7 1) → ∀ (pc : Nat) (ls : Array Slot) (H : Heap) (locs : List Loc) (v : Int32) (h : zH), narrow .int (.int v) = .int v → zS G1 h s.heap H locs → some (v, h) = some q → decode cX11_fit pc = .ok (.ireturn, 1) → W p l e (zrmC 6 6 2408) s m args below meth c H locs 6 2408 Q (F0 m pc ls [.int v])) : ∀ (ls : Array Slot) (H : Heap) (locs : List Loc) (h : zH) (x1 : Int32), h 0 = h0 0 → lv_has ls 2 [(0, .ref (zal G 0)), (1, .int x1)] → zS G h s.heap H locs → f_X11_fit_23 x1 h = some q → W p l e (zrmC 6 6 2408) s m args below meth c H locs 0 0 Q (F0 m 23 ls []) := by
  intro ls H locs h x1 fr0 hl hS hf
  unfold f_X11_fit_23 at hf
  obtain ⟨r2, h1, er2, hf⟩ := zbd_some hf
  unfold f_lz7 at er2
  refine lv_aload_n C.1 C.2.1 dX11_fit_23 rfl (lv_at hl 0 rfl) ?_
  refine zgetN C hS ff_X11_232_0 (hm 0 (by decide)) dX11_fit_24 (fun hc => ?_) (fun hc => ?_)
  · have er2 := zif_t hc er2
    have hc0 : h0 0 7 = 0 := by rw [← fr0]; exact hc
    refine lv_ifnonnullN C.1 C.2.1 dX11_fit_27 ?_
    refine lv_aload_n C.1 C.2.1 dX11_fit_30 rfl (lv_at hl 0 rfl) ?_
    refine znewo (d := 74) C hS ((hcase.2 hc0).1 74 (by decide)) (zun1n (by decide) hc) ((hcase.2 hc0).2 74 (by decide)) sh_74 rfl tyX2 tyX2_ok iz_X2 (by decide) (by decide) ⟨kw_894, kw_895, kw_101⟩ (Nat.le_of_ble_eq_true rfl) (Nat.le_of_ble_eq_true rfl) dX11_fit_31 (fun q74 H hS => ?_)
    obtain ⟨hA1, ehA1, er2⟩ := zst_some er2
    rw [← ehA1] at hS
    refine lv_dup C.1 C.2.1 dX11_fit_34 rfl ?_
    obtain ⟨rA, hA2, eA2, er2⟩ := zbd_some er2
    refine zcallJ (As := []) (rest := [.ref q74, .ref (zal G 0)]) (zC_ext _ _ _ C) hS mj_X11_238 (c_X2_init_t74 l (zext G [74] [] (fun _ => q74)) hA1 (rA, hA2) (zmem_n (by decide)) (fun d hd => zfresh ((hcase.2 hc0).1 d ((by decide : ∀ d ∈ ([75, 76, 77, 78, 79] : List Nat), d ∈ ([74, 75, 76, 77, 78, 79] : List Nat)) d hd)) ((by decide : ∀ d ∈ ([75, 76, 77, 78, 79] : List Nat), d ∉ [74]) d hd)) (fun d hd => zlk_fn ((hcase.2 hc0).2 d hd) rfl) (fun q hq => absurd hq List.not_mem_nil) eA2) rfl rfl (Nat.le_of_ble_eq_true rfl) hl.1 ⟨Nat.le_of_ble_eq_true rfl, Nat.le_of_ble_eq_true rfl, Nat.le_of_ble_eq_true rfl, Nat.le_of_ble_eq_true rfl⟩ dX11_fit_35 (fun qc H locs hS => ?_)
    obtain ⟨hA3, ehA3, er2⟩ := zst_some er2
    refine zputN (ty := .object "HalfAJoke$Fit") (zC_ext _ _ _ (zC_ext _ _ _ C)) hS ff_X11_232_0 (zfinN sh_0 rfl ⟨rfl, by decide +kernel⟩) (fun x => ⟨rfl, rfl⟩) (zmem_o (zmem_o (hm 0 (by decide)))) rfl rfl dX11_fit_38 (fun H locs hS => ?_)
    rw [← ehA3] at hS
    cases er2
    rw [zext_zext] at hS
    obtain ⟨qs, hS⟩ : ∃ qs, zS (zext G [74, 75, 76, 77, 78, 79] [(74, 0), (74, 1), (74, 2), (74, 3), (74, 4)] qs) h1 s.heap H locs := ⟨_, hS⟩
    have key : q.2 0 = upd (h0 0) 7 1 := by rw [m_X11_fit_41 _ _  hf 0 (by decide), ehA3, zup_eq, show hA2 0 = hA1 0 from m_X2_init_t74_0 _ eA2, ehA1, zz_ne (by decide), fr0]
    exact w_X11_fit_41 (G := zext G [74, 75, 76, 77, 78, 79] [(74, 0), (74, 1), (74, 2), (74, 3), (74, 4)] qs) (zC_ext _ _ _ C) (fun c hc => ((by decide : ∀ c ∈ ndp_X11_fit, c ∈ ndq_X11_fit ∨ c ∈ ([74, 75, 76, 77, 78, 79] : List Nat)) c hc).elim (fun z => zmem_o (hm c z)) zmem_n) (fun q hq => ((by decide : ∀ q ∈ ldp_X11_fit, q ∈ ldq_X11_fit ∨ ([(74, 0), (74, 1), (74, 2), (74, 3), (74, 4)] : List (Nat × Nat)).contains (q.1, q.2) = true) q hq).elim (fun z => zlk_o (hk q z)) zlk_t) (hret _ (Or.inr ⟨qs, rfl, hc0, key⟩)) _ _ _ _ _ (lv_sub hl [0, 1] rfl) hS hf
  · have er2 := zif_f hc er2
    have hc0 : ¬ h0 0 7 = 0 := by rw [← fr0]; exact hc
    cases er2
    refine lv_ifnonnull (tgt := 41) C.1 C.2.1 dX11_fit_27 (by decide) ?_
    refine W.widen (k := 6) (n := 2408) (Nat.le_of_ble_eq_true rfl) (Nat.le_of_ble_eq_true rfl) ?_
    have key : q.2 0 = h0 0 := (m_X11_fit_41 _ _  hf 0 (by decide)).trans fr0
    exact w_X11_fit_41 C (fun c hc => ((by decide : ∀ c ∈ ndp_X11_fit, c ∈ ndq_X11_fit ∨ c ∈ ([74, 75, 76, 77, 78, 79] : List Nat)) c hc).elim (hm c) ((hcase.1 hc0).1 c)) (fun q hq => ((by decide : ∀ q ∈ ldp_X11_fit, q ∈ ldq_X11_fit ∨ q ∈ ([(74, 0), (74, 1), (74, 2), (74, 3), (74, 4)] : List (Nat × Nat))) q hq).elim (hk q) ((hcase.1 hc0).2 q)) (hret _ (Or.inl ⟨rfl, key⟩)) _ _ _ _ _ (lv_sub hl [0, 1] rfl) hS hf
def zQX_X11_fit (G : zG) (h0 : zH) (q : Int32 × zH) : Array Value → State → Outcome → State → Prop := va_Qi (fun r (G1 : zG) => r = q.1 ∧ ((G1 = G ∧ q.2 0 = h0 0) ∨ (∃ qs, G1 = zext G [74, 75, 76, 77, 78, 79] [(74, 0), (74, 1), (74, 2), (74, 3), (74, 4)] qs ∧ h0 0 7 = 0 ∧ q.2 0 = upd (h0 0) 7 1))) (fun G1 t => zPost G1 q.2 t) (zA G)
set_option maxHeartbeats 8000000 in
set_option maxRecDepth 100000 in
theorem c_X11_fit (l : Launch) (G : zG) (h0 : zH) (x1 : Int32) (q : Int32 × zH) (hm : ∀ c ∈ ndq_X11_fit, c ∈ znm G) (hk : ∀ q ∈ ldq_X11_fit, zlk G q.1 q.2 = true) (hcase : (¬ h0 0 7 = 0 → (∀ c ∈ ([74, 75, 76, 77, 78, 79] : List Nat), c ∈ znm G) ∧ (∀ q ∈ ([(74, 0), (74, 1), (74, 2), (74, 3), (74, 4)] : List (Nat × Nat)), zlk G q.1 q.2 = true)) ∧ (h0 0 7 = 0 → (∀ c ∈ ([74, 75, 76, 77, 78, 79] : List Nat), c ∉ znm G) ∧ ∀ c ∈ ([74, 75, 76, 77, 78, 79] : List Nat), ∀ k, zlk G c k = false)) (hf : f_X11_fit x1 h0 = some q) : Met l yX11_fit (zw yX11_fit cX11_fit 2 (some .int)) (zrmC 6 6 2408) (va_Pc [.ref (zal G 0), .int x1] (zPre G h0)) (zQX_X11_fit G h0 q) 6 2408 (zA G) := by
  refine Met.ofW (cc := cX11_fit) (maxL := 2) (ret := (some .int)) (by decide) rfl ?_
  intro p e s m args below meth c s₁ B hml hv
  obtain ⟨rfl, hP, hD, hA, hK, hE⟩ := hv
  have hts := atoms_spec (ws := zw yX11_fit cX11_fit 2 (some .int)) B.pre
  have hl := lv_entry [.ref (zal G 0), .int x1] (n := 2) (Nat.le_of_ble_eq_true rfl)
  rw [lg_entry_eq]
  generalize (lg_sl [.ref (zal G 0), .int x1] ++ List.replicate (2 - (lg_sl [.ref (zal G 0), .int x1]).length) Slot.unset).toArray = ls at hl ⊢
  have hl : lv_has ls 2 [(0, .ref (zal G 0)), (1, .int x1)] := hl
  have C : zC G p s m [.ref (zal G 0), .int x1].toArray meth c cX11_fit 2 RX11 (some .int) := ⟨B.exec, B.bytes, hml, findClass_of_methodNamed B.named, fun w hw => hts w (List.mem_cons_of_mem _ hw), hK, hE, hA, B.returns, B.notSynchronized⟩
  have hS : zS G h0 s.heap s.heap [] := ⟨hP, hD, va_S.rf⟩
  have hret : ∀ G1 : zG, (G1 = G ∧ q.2 0 = h0 0) ∨ (∃ qs, G1 = zext G [74, 75, 76, 77, 78, 79] [(74, 0), (74, 1), (74, 2), (74, 3), (74, 4)] qs ∧ h0 0 7 = 0 ∧ q.2 0 = upd (h0 0) 7 1) → ∀ (pc : Nat) (ls : Array Slot) (H : Heap) (locs : List Loc) (v : Int32) (h : zH), narrow .int (.int v) = .int v → zS G1 h s.heap H locs → some (v, h) = some q → decode cX11_fit pc = .ok (.ireturn, 1) → W p l e (zrmC 6 6 2408) s m [.ref (zal G 0), .int x1].toArray below meth c H locs 6 2408 (MQ below (zQX_X11_fit G h0 q) [.ref (zal G 0), .int x1].toArray s 6 2408 (zA G)) (F0 m pc ls [.int v]) := by
    intro G1 hX pc ls H locs v h hn hS1 hq hdg
    have hA1 : zA G1 = zA G := by rcases hX with ⟨rfl, _⟩ | ⟨qs, rfl, _⟩ <;> rfl
    cases hq
    exact W.zret (v := v) C.1 C.2.1 C.2.2.2.2.2.2.2.2.1 hn (fun t ht hW => ⟨⟨v, G1, rfl, ⟨rfl, hX⟩, by rw [← ht] at hS1; exact ⟨hS1.1, hS1.2.1⟩⟩, by have h9 := hS1.2.2.F ht; rw [hA1] at h9; exact h9⟩) (by have h9 := hS1.2.2.2.2; rw [hA1] at h9; exact h9) hdg C.2.2.2.2.2.2.2.2.2
  have fr0 : h0 0 = h0 0 := rfl
  unfold f_X11_fit at hf
  obtain ⟨h, eh⟩ : ∃ h, h = h0 := ⟨_, rfl⟩
  have hS : zS G h s.heap s.heap [] := by rw [eh]; exact hS
  rw [← eh] at hf
  have fr0 : h 0 = h0 0 := by rw [eh]
  refine lv_iload_n C.1 C.2.1 dX11_fit_0 rfl (lv_at hl 1 rfl) ?_
  refine lv_if_eq (tgt := 23) C.1 C.2.1 dX11_fit_1 (by decide) (fun hc => ?_) (fun hc => ?_)
  · have hf := zif_t hc hf
    exact w_X11_fit_23 C hm hk hcase hret _ _ _ _ _ fr0 (lv_sub hl [0, 1] rfl) hS hf
  · have hf := zif_f hc hf
    refine lv_aload_n C.1 C.2.1 dX11_fit_4 rfl (lv_at hl 0 rfl) ?_
    refine zgetR C hS ff_X11_12_0 (hm 0 (by decide)) (hk (0, 0) (by decide)) dX11_fit_5 ?_
    refine zgetR C hS ff_X11_54_1 (hm 1 (by decide)) (hk (1, 0) (by decide)) dX11_fit_8 ?_
    refine lv_iload_n C.1 C.2.1 dX11_fit_11 rfl (lv_at hl 1 rfl) ?_
    refine lv_bipush (v := (10 : Int32)) C.1 C.2.1 dX11_fit_12 rfl ?_
    refine lv_isub C.1 C.2.1 dX11_fit_14 ?_
    obtain ⟨r5, h6, er5, hf⟩ := zbd_some hf
    have fr0 : h6 0 = h0 0 := (m_X3_has _ _  er5 0 (by decide)).trans fr0
    refine zcallVI (As := [.int (x1 - (10 : Int32))]) (rest := []) C hS mv_X11_67 (c_X3_has l G h (x1 - (10 : Int32)) (r5, h6) (fun c h => hm c ((by decide : ∀ c ∈ nd_X3_has, c ∈ ndq_X11_fit) c h)) (fun q h => hk q ((by decide : ∀ q ∈ ld_X3_has, q ∈ ldq_X11_fit) q h)) er5) (hm 2 (by decide)) ⟨_, _, _, sh_2, rfl, rfl⟩ rfl rfl (Nat.le_of_ble_eq_true rfl) hl.1 ⟨Nat.le_of_ble_eq_true rfl, Nat.le_of_ble_eq_true rfl, Nat.le_of_ble_eq_true rfl, Nat.le_of_ble_eq_true rfl⟩ dX11_fit_15 (fun H locs hS => ?_)
    refine lv_if_ne (tgt := 23) C.1 C.2.1 dX11_fit_18 (by decide) (fun hc => ?_) (fun hc => ?_)
    · have hf := zif_f hc hf
      exact w_X11_fit_23 C hm hk hcase hret _ _ _ _ _ fr0 (lv_sub hl [0, 1] rfl) hS hf
    · have hf := zif_t hc hf
      refine lv_iconst (v := (-1 : Int32)) C.1 C.2.1 dX11_fit_21 rfl ?_
      have key : q.2 0 = h0 0 := by cases hf; exact fr0
      refine W.widen (k := 6) (n := 2408) (Nat.le_of_ble_eq_true rfl) (Nat.le_of_ble_eq_true rfl) ?_
      exact hret G (Or.inl ⟨rfl, key⟩) _ _ _ _ _ _ rfl hS hf dX11_fit_22
end
section
theorem dX11_seating_0 : decode cX11_seating 0 = .ok (.aload_n 0, 1) := by decide +kernel
theorem dX11_seating_1 : decode cX11_seating 1 = .ok (.getfield 12, 3) := by decide +kernel
theorem dX11_seating_4 : decode cX11_seating 4 = .ok (.getfield 90, 3) := by decide +kernel
theorem dX11_seating_7 : decode cX11_seating 7 = .ok (.getfield 94, 3) := by decide +kernel
theorem dX11_seating_10 : decode cX11_seating 10 = .ok (.istore_n 2, 1) := by decide +kernel
theorem dX11_seating_11 : decode cX11_seating 11 = .ok (.iload_n 2, 1) := by decide +kernel
theorem dX11_seating_12 : decode cX11_seating 12 = .ok (.iconst 3, 1) := by decide +kernel
theorem dX11_seating_13 : decode cX11_seating 13 = .ok (.if_icmp .lt 13, 3) := by decide +kernel
theorem dX11_seating_16 : decode cX11_seating 16 = .ok (.iload_n 2, 1) := by decide +kernel
theorem dX11_seating_17 : decode cX11_seating 17 = .ok (.bipush 7, 2) := by decide +kernel
theorem dX11_seating_19 : decode cX11_seating 19 = .ok (.if_icmp .gt 7, 3) := by decide +kernel
theorem dX11_seating_22 : decode cX11_seating 22 = .ok (.iconst 1, 1) := by decide +kernel
theorem dX11_seating_23 : decode cX11_seating 23 = .ok (.goto 4, 3) := by decide +kernel
theorem dX11_seating_26 : decode cX11_seating 26 = .ok (.iconst 0, 1) := by decide +kernel
theorem dX11_seating_27 : decode cX11_seating 27 = .ok (.istore_n 3, 1) := by decide +kernel
theorem dX11_seating_28 : decode cX11_seating 28 = .ok (.iload_n 3, 1) := by decide +kernel
theorem dX11_seating_29 : decode cX11_seating 29 = .ok (.ifCond .eq 18, 3) := by decide +kernel
theorem dX11_seating_32 : decode cX11_seating 32 = .ok (.iload_n 1, 1) := by decide +kernel
theorem dX11_seating_33 : decode cX11_seating 33 = .ok (.ifCond .eq 16, 3) := by decide +kernel
theorem dX11_seating_36 : decode cX11_seating 36 = .ok (.iload_n 1, 1) := by decide +kernel
theorem dX11_seating_37 : decode cX11_seating 37 = .ok (.bipush 10, 2) := by decide +kernel
theorem dX11_seating_39 : decode cX11_seating 39 = .ok (.isub, 1) := by decide +kernel
theorem dX11_seating_40 : decode cX11_seating 40 = .ok (.iload_n 2, 1) := by decide +kernel
theorem dX11_seating_41 : decode cX11_seating 41 = .ok (.invokestatic 50, 3) := by decide +kernel
theorem dX11_seating_44 : decode cX11_seating 44 = .ok (.ifCond .ne 5, 3) := by decide +kernel
theorem dX11_seating_47 : decode cX11_seating 47 = .ok (.iconst (-1), 1) := by decide +kernel
theorem dX11_seating_48 : decode cX11_seating 48 = .ok (.ireturn, 1) := by decide +kernel
theorem dX11_seating_49 : decode cX11_seating 49 = .ok (.aload_n 0, 1) := by decide +kernel
theorem dX11_seating_50 : decode cX11_seating 50 = .ok (.getfield 251, 3) := by decide +kernel
theorem dX11_seating_53 : decode cX11_seating 53 = .ok (.ifnonnull 18, 3) := by decide +kernel
theorem dX11_seating_56 : decode cX11_seating 56 = .ok (.aload_n 0, 1) := by decide +kernel
theorem dX11_seating_57 : decode cX11_seating 57 = .ok (.new 249, 3) := by decide +kernel
theorem dX11_seating_60 : decode cX11_seating 60 = .ok (.dup, 1) := by decide +kernel
theorem dX11_seating_61 : decode cX11_seating 61 = .ok (.aload_n 0, 1) := by decide +kernel
theorem dX11_seating_62 : decode cX11_seating 62 = .ok (.getfield 35, 3) := by decide +kernel
theorem dX11_seating_65 : decode cX11_seating 65 = .ok (.invokespecial 255, 3) := by decide +kernel
theorem dX11_seating_68 : decode cX11_seating 68 = .ok (.putfield 251, 3) := by decide +kernel
theorem dX11_seating_71 : decode cX11_seating 71 = .ok (.aload_n 0, 1) := by decide +kernel
theorem dX11_seating_72 : decode cX11_seating 72 = .ok (.getfield 251, 3) := by decide +kernel
theorem dX11_seating_75 : decode cX11_seating 75 = .ok (.iload_n 2, 1) := by decide +kernel
theorem dX11_seating_76 : decode cX11_seating 76 = .ok (.invokevirtual 258, 3) := by decide +kernel
theorem dX11_seating_79 : decode cX11_seating 79 = .ok (.iload_n 1, 1) := by decide +kernel
theorem dX11_seating_80 : decode cX11_seating 80 = .ok (.ifCond .ne 13, 3) := by decide +kernel
theorem dX11_seating_83 : decode cX11_seating 83 = .ok (.aload_n 0, 1) := by decide +kernel
theorem dX11_seating_84 : decode cX11_seating 84 = .ok (.getfield 251, 3) := by decide +kernel
theorem dX11_seating_87 : decode cX11_seating 87 = .ok (.getfield 260, 3) := by decide +kernel
theorem dX11_seating_90 : decode cX11_seating 90 = .ok (.goto 15, 3) := by decide +kernel
theorem dX11_seating_93 : decode cX11_seating 93 = .ok (.aload_n 0, 1) := by decide +kernel
theorem dX11_seating_94 : decode cX11_seating 94 = .ok (.getfield 251, 3) := by decide +kernel
theorem dX11_seating_97 : decode cX11_seating 97 = .ok (.getfield 263, 3) := by decide +kernel
theorem dX11_seating_100 : decode cX11_seating 100 = .ok (.iload_n 1, 1) := by decide +kernel
theorem dX11_seating_101 : decode cX11_seating 101 = .ok (.bipush 10, 2) := by decide +kernel
theorem dX11_seating_103 : decode cX11_seating 103 = .ok (.isub, 1) := by decide +kernel
theorem dX11_seating_104 : decode cX11_seating 104 = .ok (.iaload, 1) := by decide +kernel
theorem dX11_seating_105 : decode cX11_seating 105 = .ok (.ireturn, 1) := by decide +kernel
abbrev ndp_X11_seating : List Nat := [0, 1, 2, 3, 4, 5, 6, 7, 8, 11, 12, 13, 16, 17, 18, 19, 20, 21, 38, 39, 40, 41, 42, 43, 71, 72, 73]
abbrev ndq_X11_seating : List Nat := [0, 1, 2, 3, 4, 5, 6, 7, 8, 11, 12, 13, 16, 17, 18, 19, 20, 21, 38, 39, 40, 41, 42, 43]
abbrev ldp_X11_seating : List (Nat × Nat) := [(1, 0), (1, 1), (1, 2), (1, 3), (1, 4), (1, 5), (2, 0), (2, 1), (2, 2), (2, 3), (7, 0), (11, 0), (11, 1), (16, 0), (16, 1), (16, 2), (38, 0), (38, 1), (38, 2), (38, 3), (38, 4), (38, 5), (71, 0), (71, 1), (71, 2)]
abbrev ldq_X11_seating : List (Nat × Nat) := [(0, 0), (0, 3), (1, 0), (1, 1), (1, 2), (1, 3), (1, 4), (1, 5), (2, 0), (2, 1), (2, 2), (2, 3), (7, 0), (11, 0), (11, 1), (16, 0), (16, 1), (16, 2), (38, 0), (38, 1), (38, 2), (38, 3), (38, 4), (38, 5)]
def f_lz6 (h : zH) : zR := if h 0 6 = 0 then zst (zz h 71) fun h1 => zbd (f_X8_init_t71 h1) fun _ h2 => zst (zup h2 0 6 1) fun h3 => some (0, h3) else some (0, h)
def f_X11_seating_47 (h : zH) : zR := (some ((-1 : Int32), h))
def f_X11_seating_71 (x1 : Int32) (x2 : Int32) (h : zH) : zR := (if (h 0 6) = 0 then none else (zbd (f_X8_solve x2 h) fun r4 h5 => (if x1 = 0 then (if (h5 0 6) = 0 then none else (some ((h5 71 4), h5))) else (if (h5 0 6) = 0 then none else (zck (x1 - (10 : Int32)) 7 (some ((h5 73 (Int32.toNatClampNeg (x1 - (10 : Int32)))), h5)))))))
def f_X11_seating_49 (x1 : Int32) (x2 : Int32) (h : zH) : zR := (zbd (f_lz6 h) fun r3 h2 => (f_X11_seating_71 x1 x2 h2))
def f_X11_seating_27 (x1 : Int32) (x2 : Int32) (s0 : Int32) (h : zH) : zR := (if s0 = 0 then (f_X11_seating_47  h) else (if x1 = 0 then (f_X11_seating_49 x1 x2 h) else (zbd (f_X11_isBelow (x1 - (10 : Int32)) x2 h) fun r6 h7 => (if r6 = 0 then (f_X11_seating_47  h7) else (f_X11_seating_49 x1 x2 h7)))))
def f_X11_seating_26 (x1 : Int32) (x2 : Int32) (h : zH) : zR := (f_X11_seating_27 x1 x2 (0 : Int32) h)
def f_X11_seating (x1 : Int32) (h : zH) : zR := (zlt (h 7 4) fun y1 => (if y1 < (3 : Int32) then (f_X11_seating_26 x1 y1 h) else (if (7 : Int32) < y1 then (f_X11_seating_26 x1 y1 h) else (f_X11_seating_27 x1 y1 (1 : Int32) h))))
variable {q : Int32 × zH}
abbrev md_X11_seating_p : List Nat := [19, 21, 38, 39, 40, 41, 42, 43, 71, 72, 73]
theorem sm_X11_seating_p_X8_solve : ∀ c ∈ md_X8_solve, c ∈ md_X11_seating_p := by decide
theorem sm_X11_seating_p_X11_isBelow : ∀ c ∈ md_X11_isBelow, c ∈ md_X11_seating_p := by decide
theorem m_X11_seating_71 : ∀ (h0 : zH) (x1 : Int32) (x2 : Int32), f_X11_seating_71 x1 x2 h0 = some q → ∀ c, c ∉ md_X11_seating_p → q.2 c = h0 c := by
  intro h x1 x2 hf
  unfold f_X11_seating_71 at hf
  have fr : ∀ c, c ∉ md_X11_seating_p → h c = h c := fun _ _ => rfl
  rcases zif_c hf with ⟨hc, hf⟩ | ⟨hc, hf⟩
  · cases hf
  obtain ⟨r4, h5, er4, hf⟩ := zbd_some hf
  have fr : ∀ c, c ∉ md_X11_seating_p → h5 c = h c := fun c hc9 => (m_X8_solve _ _ er4 c (fun z => hc9 (sm_X11_seating_p_X8_solve c z))).trans (fr c hc9)
  rcases zif_n hf with ⟨hc, hf⟩ | ⟨hc, hf⟩
  · skip
    rcases zif_c hf with ⟨hc, hf⟩ | ⟨hc, hf⟩
    · cases hf
    obtain ⟨hi, hf⟩ := zck_some hf
    cases hf
    exact fr
  · skip
    rcases zif_c hf with ⟨hc, hf⟩ | ⟨hc, hf⟩
    · cases hf
    cases hf
    exact fr
variable {p : Program} {l : Launch} {e : Env} {s : State} {m : MethodId} {args : Array Value} {below : List Frame} {meth : Method} {c : Code} {G : zG} {Q : State → Prop} {h0 : zH}
set_option maxHeartbeats 8000000 in
set_option maxRecDepth 100000 in
theorem w_X11_seating_47 (C : zC G p s m args meth c cX11_seating 4 RX11 (some .int)) (hm : ∀ c ∈ ndq_X11_seating, c ∈ znm G) (hk : ∀ q ∈ ldq_X11_seating, zlk G q.1 q.2 = true) (hcase : (¬ h0 0 6 = 0 → (∀ c ∈ ([71, 72, 73] : List Nat), c ∈ znm G) ∧ (∀ q ∈ ([(71, 1), (71, 2), (71, 0)] : List (Nat × Nat)), zlk G q.1 q.2 = true)) ∧ (h0 0 6 = 0 → (∀ c ∈ ([71, 72, 73] : List Nat), c ∉ znm G) ∧ ∀ c ∈ ([71, 72, 73] : List Nat), ∀ k, zlk G c k = false)) (hret : ∀ G1 : zG, (G1 = G ∧ q.2 0 = h0 0) ∨ (∃ qs, G1 = zext G [71, 72, 73] [(71, 1), (71, 2), (71, 0)] qs ∧ h0 0 6 = 0 ∧ q.2 0 = upd (h0 0) 6 1) → ∀ (pc : Nat) (ls : Array Slot) (H : Heap) (locs : List Loc) (v : Int32) (h : zH), narrow .int (.int v) = .int v → zS G1 h s.heap H locs → some (v, h) = some q → decode cX11_seating pc = .ok (.ireturn, 1) → W p l e (zrmC 20 3 19) s m args below meth c H locs 3 19 Q (F0 m pc ls [.int v])) : ∀ (ls : Array Slot) (H : Heap) (locs : List Loc) (h : zH), h 0 = h0 0 → lv_has ls 4 [] → zS G h s.heap H locs → f_X11_seating_47 h = some q → W p l e (zrmC 20 3 19) s m args below meth c H locs 0 0 Q (F0 m 47 ls []) := by
  intro ls H locs h fr0 hl hS hf
  unfold f_X11_seating_47 at hf
  refine lv_iconst (v := (-1 : Int32)) C.1 C.2.1 dX11_seating_47 rfl ?_
  have key : q.2 0 = h0 0 := by cases hf; exact fr0
  refine W.widen (k := 3) (n := 19) (Nat.le_of_ble_eq_true rfl) (Nat.le_of_ble_eq_true rfl) ?_
  exact hret G (Or.inl ⟨rfl, key⟩) _ _ _ _ _ _ rfl hS hf dX11_seating_48
set_option maxHeartbeats 8000000 in
set_option maxRecDepth 100000 in
theorem w_X11_seating_71 (C : zC G p s m args meth c cX11_seating 4 RX11 (some .int)) (hm : ∀ c ∈ ndp_X11_seating, c ∈ znm G) (hk : ∀ q ∈ ldp_X11_seating, zlk G q.1 q.2 = true) (hret : ∀ (pc : Nat) (ls : Array Slot) (H : Heap) (locs : List Loc) (v : Int32) (h : zH), narrow .int (.int v) = .int v → zS G h s.heap H locs → some (v, h) = some q → decode cX11_seating pc = .ok (.ireturn, 1) → W p l e (zrmC 20 3 19) s m args below meth c H locs 3 19 Q (F0 m pc ls [.int v])) : ∀ (ls : Array Slot) (H : Heap) (locs : List Loc) (h : zH) (x1 : Int32) (x2 : Int32), lv_has ls 4 [(0, .ref (zal G 0)), (1, .int x1), (2, .int x2)] → zS G h s.heap H locs → f_X11_seating_71 x1 x2 h = some q → W p l e (zrmC 20 3 19) s m args below meth c H locs 3 19 Q (F0 m 71 ls []) := by
  intro ls H locs h x1 x2 hl hS hf
  unfold f_X11_seating_71 at hf
  refine lv_aload_n C.1 C.2.1 dX11_seating_71 rfl (lv_at hl 0 rfl) ?_
  refine zgetN C hS ff_X11_251_0 (hm 0 (by decide)) dX11_seating_72 (fun hc => ?_) (fun hc => ?_)
  · cases zif_t hc hf
  have hf := zif_f hc hf
  refine lv_iload_n C.1 C.2.1 dX11_seating_75 rfl (lv_at hl 2 rfl) ?_
  obtain ⟨r4, h5, er4, hf⟩ := zbd_some hf
  refine zcallVV (As := [.int x2]) (rest := []) C hS mv_X11_258 (c_X8_solve l G h x2 (r4, h5) (fun c h => hm c ((by decide : ∀ c ∈ nd_X8_solve, c ∈ ndp_X11_seating) c h)) (fun q h => hk q ((by decide : ∀ q ∈ ld_X8_solve, q ∈ ldp_X11_seating) q h)) er4) (hm 71 (by decide)) ⟨_, _, _, sh_71, rfl, rfl⟩ rfl rfl (Nat.le_of_ble_eq_true rfl) hl.1 ⟨Nat.le_of_ble_eq_true rfl, Nat.le_of_ble_eq_true rfl, Nat.le_of_ble_eq_true rfl, Nat.le_of_ble_eq_true rfl⟩ dX11_seating_76 (fun H locs hS => ?_)
  refine lv_iload_n C.1 C.2.1 dX11_seating_79 rfl (lv_at hl 1 rfl) ?_
  refine lv_if_ne (tgt := 93) C.1 C.2.1 dX11_seating_80 (by decide) (fun hc => ?_) (fun hc => ?_)
  · have hf := zif_f hc hf
    refine lv_aload_n C.1 C.2.1 dX11_seating_93 rfl (lv_at hl 0 rfl) ?_
    refine zgetN C hS ff_X11_251_0 (hm 0 (by decide)) dX11_seating_94 (fun hc => ?_) (fun hc => ?_)
    · cases zif_t hc hf
    have hf := zif_f hc hf
    refine zgetR C hS ff_X11_263_71 (hm 71 (by decide)) (hk (71, 2) (by decide)) dX11_seating_97 ?_
    refine lv_iload_n C.1 C.2.1 dX11_seating_100 rfl (lv_at hl 1 rfl) ?_
    refine lv_bipush (v := (10 : Int32)) C.1 C.2.1 dX11_seating_101 rfl ?_
    refine lv_isub C.1 C.2.1 dX11_seating_103 ?_
    obtain ⟨hi, hf⟩ := zck_some hf
    refine zald C hS sh_73 (hm 73 (by decide)) hi dX11_seating_104 ?_
    exact hret _ _ _ _ _ _ rfl hS hf dX11_seating_105
  · have hf := zif_t hc hf
    refine lv_aload_n C.1 C.2.1 dX11_seating_83 rfl (lv_at hl 0 rfl) ?_
    refine zgetN C hS ff_X11_251_0 (hm 0 (by decide)) dX11_seating_84 (fun hc => ?_) (fun hc => ?_)
    · cases zif_t hc hf
    have hf := zif_f hc hf
    refine zgetI C hS ff_X11_260_71 (hm 71 (by decide)) dX11_seating_87 ?_
    refine lv_goto (tgt := 105) C.1 C.2.1 dX11_seating_90 (by decide) ?_
    exact hret _ _ _ _ _ _ rfl hS hf dX11_seating_105
set_option maxHeartbeats 8000000 in
set_option maxRecDepth 100000 in
theorem w_X11_seating_49 (C : zC G p s m args meth c cX11_seating 4 RX11 (some .int)) (hm : ∀ c ∈ ndq_X11_seating, c ∈ znm G) (hk : ∀ q ∈ ldq_X11_seating, zlk G q.1 q.2 = true) (hcase : (¬ h0 0 6 = 0 → (∀ c ∈ ([71, 72, 73] : List Nat), c ∈ znm G) ∧ (∀ q ∈ ([(71, 1), (71, 2), (71, 0)] : List (Nat × Nat)), zlk G q.1 q.2 = true)) ∧ (h0 0 6 = 0 → (∀ c ∈ ([71, 72, 73] : List Nat), c ∉ znm G) ∧ ∀ c ∈ ([71, 72, 73] : List Nat), ∀ k, zlk G c k = false)) (hret : ∀ G1 : zG, (G1 = G ∧ q.2 0 = h0 0) ∨ (∃ qs, G1 = zext G [71, 72, 73] [(71, 1), (71, 2), (71, 0)] qs ∧ h0 0 6 = 0 ∧ q.2 0 = upd (h0 0) 6 1) → ∀ (pc : Nat) (ls : Array Slot) (H : Heap) (locs : List Loc) (v : Int32) (h : zH), narrow .int (.int v) = .int v → zS G1 h s.heap H locs → some (v, h) = some q → decode cX11_seating pc = .ok (.ireturn, 1) → W p l e (zrmC 20 3 19) s m args below meth c H locs 3 19 Q (F0 m pc ls [.int v])) : ∀ (ls : Array Slot) (H : Heap) (locs : List Loc) (h : zH) (x1 : Int32) (x2 : Int32), h 0 = h0 0 → lv_has ls 4 [(0, .ref (zal G 0)), (1, .int x1), (2, .int x2)] → zS G h s.heap H locs → f_X11_seating_49 x1 x2 h = some q → W p l e (zrmC 20 3 19) s m args below meth c H locs 0 0 Q (F0 m 49 ls []) := by
  intro ls H locs h x1 x2 fr0 hl hS hf
  unfold f_X11_seating_49 at hf
  obtain ⟨r3, h2, er3, hf⟩ := zbd_some hf
  unfold f_lz6 at er3
  refine lv_aload_n C.1 C.2.1 dX11_seating_49 rfl (lv_at hl 0 rfl) ?_
  refine zgetN C hS ff_X11_251_0 (hm 0 (by decide)) dX11_seating_50 (fun hc => ?_) (fun hc => ?_)
  · have er3 := zif_t hc er3
    have hc0 : h0 0 6 = 0 := by rw [← fr0]; exact hc
    refine lv_ifnonnullN C.1 C.2.1 dX11_seating_53 ?_
    refine lv_aload_n C.1 C.2.1 dX11_seating_56 rfl (lv_at hl 0 rfl) ?_
    refine znewo (d := 71) C hS ((hcase.2 hc0).1 71 (by decide)) (zun1n (by decide) hc) ((hcase.2 hc0).2 71 (by decide)) sh_71 rfl tyX8 tyX8_ok iz_X8 (by decide) (by decide) ⟨kw_958, kw_959, kw_102⟩ (Nat.le_of_ble_eq_true rfl) (Nat.le_of_ble_eq_true rfl) dX11_seating_57 (fun q71 H hS => ?_)
    obtain ⟨hA1, ehA1, er3⟩ := zst_some er3
    rw [← ehA1] at hS
    refine lv_dup C.1 C.2.1 dX11_seating_60 rfl ?_
    refine lv_aload_n C.1 C.2.1 dX11_seating_61 rfl (lv_at hl 0 rfl) ?_
    refine zgetRA (zC_ext _ _ _ C) hS ff_X11_35_0 (zmem_o (hm 0 (by decide))) rfl (zlk_o (hk (0, 3) (by decide))) dX11_seating_62 ?_
    obtain ⟨rA, hA2, eA2, er3⟩ := zbd_some er3
    refine zcallI (As := [.ref (zal (zext G [71] [] (fun _ => q71)) 38)]) (rest := [.ref q71, .ref (zal G 0)]) (zC_ext _ _ _ C) hS mi_X11_255 (c_X8_init_t71 l (zext G [71] [] (fun _ => q71)) hA1 (rA, hA2) (zmem_n (by decide)) (fun d hd => zfresh ((hcase.2 hc0).1 d ((by decide : ∀ d ∈ ([72, 73] : List Nat), d ∈ ([71, 72, 73] : List Nat)) d hd)) ((by decide : ∀ d ∈ ([72, 73] : List Nat), d ∉ [71]) d hd)) (fun d hd => zlk_fn ((hcase.2 hc0).2 d hd) rfl) (fun q hq => absurd hq List.not_mem_nil) eA2) rfl rfl (Nat.le_of_ble_eq_true rfl) hl.1 ⟨Nat.le_of_ble_eq_true rfl, Nat.le_of_ble_eq_true rfl, Nat.le_of_ble_eq_true rfl, Nat.le_of_ble_eq_true rfl⟩ dX11_seating_65 (fun qc H locs hS => ?_)
    obtain ⟨hA3, ehA3, er3⟩ := zst_some er3
    refine zputN (ty := .object "HalfAJoke$Seating") (zC_ext _ _ _ (zC_ext _ _ _ C)) hS ff_X11_251_0 (zfinN sh_0 rfl ⟨rfl, by decide +kernel⟩) (fun x => ⟨rfl, rfl⟩) (zmem_o (zmem_o (hm 0 (by decide)))) rfl rfl dX11_seating_68 (fun H locs hS => ?_)
    rw [← ehA3] at hS
    cases er3
    rw [zext_zext] at hS
    obtain ⟨qs, hS⟩ : ∃ qs, zS (zext G [71, 72, 73] [(71, 1), (71, 2), (71, 0)] qs) h2 s.heap H locs := ⟨_, hS⟩
    have key : q.2 0 = upd (h0 0) 6 1 := by rw [m_X11_seating_71 _ _ _  hf 0 (by decide), ehA3, zup_eq, show hA2 0 = hA1 0 from m_X8_init_t71_0 _ eA2, ehA1, zz_ne (by decide), fr0]
    exact w_X11_seating_71 (G := zext G [71, 72, 73] [(71, 1), (71, 2), (71, 0)] qs) (zC_ext _ _ _ C) (fun c hc => ((by decide : ∀ c ∈ ndp_X11_seating, c ∈ ndq_X11_seating ∨ c ∈ ([71, 72, 73] : List Nat)) c hc).elim (fun z => zmem_o (hm c z)) zmem_n) (fun q hq => ((by decide : ∀ q ∈ ldp_X11_seating, q ∈ ldq_X11_seating ∨ ([(71, 1), (71, 2), (71, 0)] : List (Nat × Nat)).contains (q.1, q.2) = true) q hq).elim (fun z => zlk_o (hk q z)) zlk_t) (hret _ (Or.inr ⟨qs, rfl, hc0, key⟩)) _ _ _ _ _ _ (lv_sub hl [0, 1, 2] rfl) hS hf
  · have er3 := zif_f hc er3
    have hc0 : ¬ h0 0 6 = 0 := by rw [← fr0]; exact hc
    cases er3
    refine lv_ifnonnull (tgt := 71) C.1 C.2.1 dX11_seating_53 (by decide) ?_
    refine W.widen (k := 3) (n := 19) (Nat.le_of_ble_eq_true rfl) (Nat.le_of_ble_eq_true rfl) ?_
    have key : q.2 0 = h0 0 := (m_X11_seating_71 _ _ _  hf 0 (by decide)).trans fr0
    exact w_X11_seating_71 C (fun c hc => ((by decide : ∀ c ∈ ndp_X11_seating, c ∈ ndq_X11_seating ∨ c ∈ ([71, 72, 73] : List Nat)) c hc).elim (hm c) ((hcase.1 hc0).1 c)) (fun q hq => ((by decide : ∀ q ∈ ldp_X11_seating, q ∈ ldq_X11_seating ∨ q ∈ ([(71, 1), (71, 2), (71, 0)] : List (Nat × Nat))) q hq).elim (hk q) ((hcase.1 hc0).2 q)) (hret _ (Or.inl ⟨rfl, key⟩)) _ _ _ _ _ _ (lv_sub hl [0, 1, 2] rfl) hS hf
set_option maxHeartbeats 8000000 in
set_option maxRecDepth 100000 in
theorem w_X11_seating_27 (C : zC G p s m args meth c cX11_seating 4 RX11 (some .int)) (hm : ∀ c ∈ ndq_X11_seating, c ∈ znm G) (hk : ∀ q ∈ ldq_X11_seating, zlk G q.1 q.2 = true) (hcase : (¬ h0 0 6 = 0 → (∀ c ∈ ([71, 72, 73] : List Nat), c ∈ znm G) ∧ (∀ q ∈ ([(71, 1), (71, 2), (71, 0)] : List (Nat × Nat)), zlk G q.1 q.2 = true)) ∧ (h0 0 6 = 0 → (∀ c ∈ ([71, 72, 73] : List Nat), c ∉ znm G) ∧ ∀ c ∈ ([71, 72, 73] : List Nat), ∀ k, zlk G c k = false)) (hret : ∀ G1 : zG, (G1 = G ∧ q.2 0 = h0 0) ∨ (∃ qs, G1 = zext G [71, 72, 73] [(71, 1), (71, 2), (71, 0)] qs ∧ h0 0 6 = 0 ∧ q.2 0 = upd (h0 0) 6 1) → ∀ (pc : Nat) (ls : Array Slot) (H : Heap) (locs : List Loc) (v : Int32) (h : zH), narrow .int (.int v) = .int v → zS G1 h s.heap H locs → some (v, h) = some q → decode cX11_seating pc = .ok (.ireturn, 1) → W p l e (zrmC 20 3 19) s m args below meth c H locs 3 19 Q (F0 m pc ls [.int v])) : ∀ (ls : Array Slot) (H : Heap) (locs : List Loc) (h : zH) (x1 : Int32) (x2 : Int32) (s0 : Int32), h 0 = h0 0 → lv_has ls 4 [(0, .ref (zal G 0)), (1, .int x1), (2, .int x2)] → zS G h s.heap H locs → f_X11_seating_27 x1 x2 s0 h = some q → W p l e (zrmC 20 3 19) s m args below meth c H locs 0 0 Q (F0 m 27 ls [.int s0]) := by
  intro ls H locs h x1 x2 s0 fr0 hl hS hf
  unfold f_X11_seating_27 at hf
  refine lv_istore_n (lv' := [(3, .int s0), (0, .ref (zal G 0)), (1, .int x1), (2, .int x2)]) C.1 C.2.1 dX11_seating_27 rfl hl (by decide) rfl (fun ls hl => ?_)
  refine lv_iload_n C.1 C.2.1 dX11_seating_28 rfl (lv_at hl 0 rfl) ?_
  refine lv_if_eq (tgt := 47) C.1 C.2.1 dX11_seating_29 (by decide) (fun hc => ?_) (fun hc => ?_)
  · have hf := zif_t hc hf
    exact w_X11_seating_47 C hm hk hcase hret _ _ _ _ fr0 (lv_sub hl [] rfl) hS hf
  · have hf := zif_f hc hf
    refine lv_iload_n C.1 C.2.1 dX11_seating_32 rfl (lv_at hl 2 rfl) ?_
    refine lv_if_eq (tgt := 49) C.1 C.2.1 dX11_seating_33 (by decide) (fun hc => ?_) (fun hc => ?_)
    · have hf := zif_t hc hf
      exact w_X11_seating_49 C hm hk hcase hret _ _ _ _ _ _ fr0 (lv_sub hl [1, 2, 3] rfl) hS hf
    · have hf := zif_f hc hf
      refine lv_iload_n C.1 C.2.1 dX11_seating_36 rfl (lv_at hl 2 rfl) ?_
      refine lv_bipush (v := (10 : Int32)) C.1 C.2.1 dX11_seating_37 rfl ?_
      refine lv_isub C.1 C.2.1 dX11_seating_39 ?_
      refine lv_iload_n C.1 C.2.1 dX11_seating_40 rfl (lv_at hl 3 rfl) ?_
      obtain ⟨r6, h7, er6, hf⟩ := zbd_some hf
      have fr0 : h7 0 = h0 0 := (m_X11_isBelow _ _ _  er6 0 (by decide)).trans fr0
      refine zcallSI (As := [.int (x1 - (10 : Int32)), .int x2]) (rest := []) C hS ms_X11_50 (c_X11_isBelow l G h (x1 - (10 : Int32)) x2 (r6, h7) (fun c h => hm c ((by decide : ∀ c ∈ nd_X11_isBelow, c ∈ ndq_X11_seating) c h)) (fun q h => hk q ((by decide : ∀ q ∈ ld_X11_isBelow, q ∈ ldq_X11_seating) q h)) er6) rfl rfl (Nat.le_of_ble_eq_true rfl) hl.1 ⟨Nat.le_of_ble_eq_true rfl, Nat.le_of_ble_eq_true rfl, Nat.le_of_ble_eq_true rfl, Nat.le_of_ble_eq_true rfl⟩ dX11_seating_41 (fun H locs hS => ?_)
      refine lv_if_ne (tgt := 49) C.1 C.2.1 dX11_seating_44 (by decide) (fun hc => ?_) (fun hc => ?_)
      · have hf := zif_f hc hf
        exact w_X11_seating_49 C hm hk hcase hret _ _ _ _ _ _ fr0 (lv_sub hl [1, 2, 3] rfl) hS hf
      · have hf := zif_t hc hf
        exact w_X11_seating_47 C hm hk hcase hret _ _ _ _ fr0 (lv_sub hl [] rfl) hS hf
set_option maxHeartbeats 8000000 in
set_option maxRecDepth 100000 in
theorem w_X11_seating_26 (C : zC G p s m args meth c cX11_seating 4 RX11 (some .int)) (hm : ∀ c ∈ ndq_X11_seating, c ∈ znm G) (hk : ∀ q ∈ ldq_X11_seating, zlk G q.1 q.2 = true) (hcase : (¬ h0 0 6 = 0 → (∀ c ∈ ([71, 72, 73] : List Nat), c ∈ znm G) ∧ (∀ q ∈ ([(71, 1), (71, 2), (71, 0)] : List (Nat × Nat)), zlk G q.1 q.2 = true)) ∧ (h0 0 6 = 0 → (∀ c ∈ ([71, 72, 73] : List Nat), c ∉ znm G) ∧ ∀ c ∈ ([71, 72, 73] : List Nat), ∀ k, zlk G c k = false)) (hret : ∀ G1 : zG, (G1 = G ∧ q.2 0 = h0 0) ∨ (∃ qs, G1 = zext G [71, 72, 73] [(71, 1), (71, 2), (71, 0)] qs ∧ h0 0 6 = 0 ∧ q.2 0 = upd (h0 0) 6 1) → ∀ (pc : Nat) (ls : Array Slot) (H : Heap) (locs : List Loc) (v : Int32) (h : zH), narrow .int (.int v) = .int v → zS G1 h s.heap H locs → some (v, h) = some q → decode cX11_seating pc = .ok (.ireturn, 1) → W p l e (zrmC 20 3 19) s m args below meth c H locs 3 19 Q (F0 m pc ls [.int v])) : ∀ (ls : Array Slot) (H : Heap) (locs : List Loc) (h : zH) (x1 : Int32) (x2 : Int32), h 0 = h0 0 → lv_has ls 4 [(0, .ref (zal G 0)), (1, .int x1), (2, .int x2)] → zS G h s.heap H locs → f_X11_seating_26 x1 x2 h = some q → W p l e (zrmC 20 3 19) s m args below meth c H locs 0 0 Q (F0 m 26 ls []) := by
  intro ls H locs h x1 x2 fr0 hl hS hf
  unfold f_X11_seating_26 at hf
  refine lv_iconst (v := (0 : Int32)) C.1 C.2.1 dX11_seating_26 rfl ?_
  exact w_X11_seating_27 C hm hk hcase hret _ _ _ _ _ _ _ fr0 (lv_sub hl [0, 1, 2] rfl) hS hf
def zQX_X11_seating (G : zG) (h0 : zH) (q : Int32 × zH) : Array Value → State → Outcome → State → Prop := va_Qi (fun r (G1 : zG) => r = q.1 ∧ ((G1 = G ∧ q.2 0 = h0 0) ∨ (∃ qs, G1 = zext G [71, 72, 73] [(71, 1), (71, 2), (71, 0)] qs ∧ h0 0 6 = 0 ∧ q.2 0 = upd (h0 0) 6 1))) (fun G1 t => zPost G1 q.2 t) (zA G)
set_option maxHeartbeats 8000000 in
set_option maxRecDepth 100000 in
theorem c_X11_seating (l : Launch) (G : zG) (h0 : zH) (x1 : Int32) (q : Int32 × zH) (hm : ∀ c ∈ ndq_X11_seating, c ∈ znm G) (hk : ∀ q ∈ ldq_X11_seating, zlk G q.1 q.2 = true) (hcase : (¬ h0 0 6 = 0 → (∀ c ∈ ([71, 72, 73] : List Nat), c ∈ znm G) ∧ (∀ q ∈ ([(71, 1), (71, 2), (71, 0)] : List (Nat × Nat)), zlk G q.1 q.2 = true)) ∧ (h0 0 6 = 0 → (∀ c ∈ ([71, 72, 73] : List Nat), c ∉ znm G) ∧ ∀ c ∈ ([71, 72, 73] : List Nat), ∀ k, zlk G c k = false)) (hf : f_X11_seating x1 h0 = some q) : Met l yX11_seating (zw yX11_seating cX11_seating 4 (some .int)) (zrmC 20 3 19) (va_Pc [.ref (zal G 0), .int x1] (zPre G h0)) (zQX_X11_seating G h0 q) 3 19 (zA G) := by
  refine Met.ofW (cc := cX11_seating) (maxL := 4) (ret := (some .int)) (by decide) rfl ?_
  intro p e s m args below meth c s₁ B hml hv
  obtain ⟨rfl, hP, hD, hA, hK, hE⟩ := hv
  have hts := atoms_spec (ws := zw yX11_seating cX11_seating 4 (some .int)) B.pre
  have hl := lv_entry [.ref (zal G 0), .int x1] (n := 4) (Nat.le_of_ble_eq_true rfl)
  rw [lg_entry_eq]
  generalize (lg_sl [.ref (zal G 0), .int x1] ++ List.replicate (4 - (lg_sl [.ref (zal G 0), .int x1]).length) Slot.unset).toArray = ls at hl ⊢
  have hl : lv_has ls 4 [(0, .ref (zal G 0)), (1, .int x1)] := hl
  have C : zC G p s m [.ref (zal G 0), .int x1].toArray meth c cX11_seating 4 RX11 (some .int) := ⟨B.exec, B.bytes, hml, findClass_of_methodNamed B.named, fun w hw => hts w (List.mem_cons_of_mem _ hw), hK, hE, hA, B.returns, B.notSynchronized⟩
  have hS : zS G h0 s.heap s.heap [] := ⟨hP, hD, va_S.rf⟩
  have hret : ∀ G1 : zG, (G1 = G ∧ q.2 0 = h0 0) ∨ (∃ qs, G1 = zext G [71, 72, 73] [(71, 1), (71, 2), (71, 0)] qs ∧ h0 0 6 = 0 ∧ q.2 0 = upd (h0 0) 6 1) → ∀ (pc : Nat) (ls : Array Slot) (H : Heap) (locs : List Loc) (v : Int32) (h : zH), narrow .int (.int v) = .int v → zS G1 h s.heap H locs → some (v, h) = some q → decode cX11_seating pc = .ok (.ireturn, 1) → W p l e (zrmC 20 3 19) s m [.ref (zal G 0), .int x1].toArray below meth c H locs 3 19 (MQ below (zQX_X11_seating G h0 q) [.ref (zal G 0), .int x1].toArray s 3 19 (zA G)) (F0 m pc ls [.int v]) := by
    intro G1 hX pc ls H locs v h hn hS1 hq hdg
    have hA1 : zA G1 = zA G := by rcases hX with ⟨rfl, _⟩ | ⟨qs, rfl, _⟩ <;> rfl
    cases hq
    exact W.zret (v := v) C.1 C.2.1 C.2.2.2.2.2.2.2.2.1 hn (fun t ht hW => ⟨⟨v, G1, rfl, ⟨rfl, hX⟩, by rw [← ht] at hS1; exact ⟨hS1.1, hS1.2.1⟩⟩, by have h9 := hS1.2.2.F ht; rw [hA1] at h9; exact h9⟩) (by have h9 := hS1.2.2.2.2; rw [hA1] at h9; exact h9) hdg C.2.2.2.2.2.2.2.2.2
  have fr0 : h0 0 = h0 0 := rfl
  unfold f_X11_seating at hf
  obtain ⟨h, eh⟩ : ∃ h, h = h0 := ⟨_, rfl⟩
  have hS : zS G h s.heap s.heap [] := by rw [eh]; exact hS
  rw [← eh] at hf
  have fr0 : h 0 = h0 0 := by rw [eh]
  refine lv_aload_n C.1 C.2.1 dX11_seating_0 rfl (lv_at hl 0 rfl) ?_
  refine zgetR C hS ff_X11_12_0 (hm 0 (by decide)) (hk (0, 0) (by decide)) dX11_seating_1 ?_
  refine zgetR C hS ff_X11_90_1 (hm 1 (by decide)) (hk (1, 1) (by decide)) dX11_seating_4 ?_
  refine zgetI C hS ff_X11_94_7 (hm 7 (by decide)) dX11_seating_7 ?_
  obtain ⟨y1, ey1, hf⟩ := zlt_some hf
  refine ztop ey1 ?_
  refine lv_istore_n (lv' := [(2, .int y1), (0, .ref (zal G 0)), (1, .int x1)]) C.1 C.2.1 dX11_seating_10 rfl hl (by decide) rfl (fun ls hl => ?_)
  refine lv_iload_n C.1 C.2.1 dX11_seating_11 rfl (lv_at hl 0 rfl) ?_
  refine lv_iconst (v := (3 : Int32)) C.1 C.2.1 dX11_seating_12 rfl ?_
  refine lv_icmp_lt (tgt := 26) C.1 C.2.1 dX11_seating_13 (by decide) (fun hc => ?_) (fun hc => ?_)
  · have hf := zif_t hc hf
    exact w_X11_seating_26 C hm hk hcase hret _ _ _ _ _ _ fr0 (lv_sub hl [1, 2, 0] rfl) hS hf
  · have hf := zif_f hc hf
    refine lv_iload_n C.1 C.2.1 dX11_seating_16 rfl (lv_at hl 0 rfl) ?_
    refine lv_bipush (v := (7 : Int32)) C.1 C.2.1 dX11_seating_17 rfl ?_
    refine lv_icmp_gt (tgt := 26) C.1 C.2.1 dX11_seating_19 (by decide) (fun hc => ?_) (fun hc => ?_)
    · have hf := zif_t hc hf
      exact w_X11_seating_26 C hm hk hcase hret _ _ _ _ _ _ fr0 (lv_sub hl [1, 2, 0] rfl) hS hf
    · have hf := zif_f hc hf
      refine lv_iconst (v := (1 : Int32)) C.1 C.2.1 dX11_seating_22 rfl ?_
      refine lv_goto (tgt := 27) C.1 C.2.1 dX11_seating_23 (by decide) ?_
      exact w_X11_seating_27 C hm hk hcase hret _ _ _ _ _ _ _ fr0 (lv_sub hl [1, 2, 0] rfl) hS hf
end
section
theorem dX11_worth_0 : decode cX11_worth 0 = .ok (.aload_n 0, 1) := by decide +kernel
theorem dX11_worth_1 : decode cX11_worth 1 = .ok (.getfield 12, 3) := by decide +kernel
theorem dX11_worth_4 : decode cX11_worth 4 = .ok (.getfield 54, 3) := by decide +kernel
theorem dX11_worth_7 : decode cX11_worth 7 = .ok (.iload_n 2, 1) := by decide +kernel
theorem dX11_worth_8 : decode cX11_worth 8 = .ok (.bipush 10, 2) := by decide +kernel
theorem dX11_worth_10 : decode cX11_worth 10 = .ok (.isub, 1) := by decide +kernel
theorem dX11_worth_11 : decode cX11_worth 11 = .ok (.invokevirtual 67, 3) := by decide +kernel
theorem dX11_worth_14 : decode cX11_worth 14 = .ok (.ifCond .eq 17, 3) := by decide +kernel
theorem dX11_worth_17 : decode cX11_worth 17 = .ok (.iload_n 1, 1) := by decide +kernel
theorem dX11_worth_18 : decode cX11_worth 18 = .ok (.ifCond .lt 13, 3) := by decide +kernel
theorem dX11_worth_21 : decode cX11_worth 21 = .ok (.iload_n 1, 1) := by decide +kernel
theorem dX11_worth_22 : decode cX11_worth 22 = .ok (.bipush 40, 2) := by decide +kernel
theorem dX11_worth_24 : decode cX11_worth 24 = .ok (.if_icmp .gt 7, 3) := by decide +kernel
theorem dX11_worth_27 : decode cX11_worth 27 = .ok (.iconst 1, 1) := by decide +kernel
theorem dX11_worth_28 : decode cX11_worth 28 = .ok (.goto 4, 3) := by decide +kernel
theorem dX11_worth_31 : decode cX11_worth 31 = .ok (.iconst 0, 1) := by decide +kernel
theorem dX11_worth_32 : decode cX11_worth 32 = .ok (.istore_n 3, 1) := by decide +kernel
theorem dX11_worth_33 : decode cX11_worth 33 = .ok (.iload_n 2, 1) := by decide +kernel
theorem dX11_worth_34 : decode cX11_worth 34 = .ok (.ifCond .eq 14, 3) := by decide +kernel
theorem dX11_worth_37 : decode cX11_worth 37 = .ok (.iload_n 2, 1) := by decide +kernel
theorem dX11_worth_38 : decode cX11_worth 38 = .ok (.iconst 1, 1) := by decide +kernel
theorem dX11_worth_39 : decode cX11_worth 39 = .ok (.if_icmp .eq 9, 3) := by decide +kernel
theorem dX11_worth_42 : decode cX11_worth 42 = .ok (.iload_n 3, 1) := by decide +kernel
theorem dX11_worth_43 : decode cX11_worth 43 = .ok (.ifCond .ne 5, 3) := by decide +kernel
theorem dX11_worth_46 : decode cX11_worth 46 = .ok (.iconst (-1), 1) := by decide +kernel
theorem dX11_worth_47 : decode cX11_worth 47 = .ok (.ireturn, 1) := by decide +kernel
theorem dX11_worth_48 : decode cX11_worth 48 = .ok (.aload_n 0, 1) := by decide +kernel
theorem dX11_worth_49 : decode cX11_worth 49 = .ok (.getfield 278, 3) := by decide +kernel
theorem dX11_worth_52 : decode cX11_worth 52 = .ok (.ifnonnull 14, 3) := by decide +kernel
theorem dX11_worth_55 : decode cX11_worth 55 = .ok (.aload_n 0, 1) := by decide +kernel
theorem dX11_worth_56 : decode cX11_worth 56 = .ok (.new 276, 3) := by decide +kernel
theorem dX11_worth_59 : decode cX11_worth 59 = .ok (.dup, 1) := by decide +kernel
theorem dX11_worth_60 : decode cX11_worth 60 = .ok (.invokespecial 282, 3) := by decide +kernel
theorem dX11_worth_63 : decode cX11_worth 63 = .ok (.putfield 278, 3) := by decide +kernel
theorem dX11_worth_66 : decode cX11_worth 66 = .ok (.aload_n 0, 1) := by decide +kernel
theorem dX11_worth_67 : decode cX11_worth 67 = .ok (.getfield 278, 3) := by decide +kernel
theorem dX11_worth_70 : decode cX11_worth 70 = .ok (.aload_n 0, 1) := by decide +kernel
theorem dX11_worth_71 : decode cX11_worth 71 = .ok (.getfield 12, 3) := by decide +kernel
theorem dX11_worth_74 : decode cX11_worth 74 = .ok (.invokevirtual 283, 3) := by decide +kernel
theorem dX11_worth_77 : decode cX11_worth 77 = .ok (.iload_n 2, 1) := by decide +kernel
theorem dX11_worth_78 : decode cX11_worth 78 = .ok (.ifCond .ne 11, 3) := by decide +kernel
theorem dX11_worth_81 : decode cX11_worth 81 = .ok (.aload_n 0, 1) := by decide +kernel
theorem dX11_worth_82 : decode cX11_worth 82 = .ok (.getfield 278, 3) := by decide +kernel
theorem dX11_worth_85 : decode cX11_worth 85 = .ok (.getfield 285, 3) := by decide +kernel
theorem dX11_worth_88 : decode cX11_worth 88 = .ok (.ireturn, 1) := by decide +kernel
theorem dX11_worth_89 : decode cX11_worth 89 = .ok (.iload_n 2, 1) := by decide +kernel
theorem dX11_worth_90 : decode cX11_worth 90 = .ok (.iconst 1, 1) := by decide +kernel
theorem dX11_worth_91 : decode cX11_worth 91 = .ok (.if_icmp .ne 13, 3) := by decide +kernel
theorem dX11_worth_94 : decode cX11_worth 94 = .ok (.aload_n 0, 1) := by decide +kernel
theorem dX11_worth_95 : decode cX11_worth 95 = .ok (.getfield 278, 3) := by decide +kernel
theorem dX11_worth_98 : decode cX11_worth 98 = .ok (.getfield 288, 3) := by decide +kernel
theorem dX11_worth_101 : decode cX11_worth 101 = .ok (.goto 20, 3) := by decide +kernel
theorem dX11_worth_104 : decode cX11_worth 104 = .ok (.aload_n 0, 1) := by decide +kernel
theorem dX11_worth_105 : decode cX11_worth 105 = .ok (.getfield 278, 3) := by decide +kernel
theorem dX11_worth_108 : decode cX11_worth 108 = .ok (.getfield 291, 3) := by decide +kernel
theorem dX11_worth_111 : decode cX11_worth 111 = .ok (.iload_n 1, 1) := by decide +kernel
theorem dX11_worth_112 : decode cX11_worth 112 = .ok (.bipush 16, 2) := by decide +kernel
theorem dX11_worth_114 : decode cX11_worth 114 = .ok (.imul, 1) := by decide +kernel
theorem dX11_worth_115 : decode cX11_worth 115 = .ok (.iload_n 2, 1) := by decide +kernel
theorem dX11_worth_116 : decode cX11_worth 116 = .ok (.iadd, 1) := by decide +kernel
theorem dX11_worth_117 : decode cX11_worth 117 = .ok (.bipush 10, 2) := by decide +kernel
theorem dX11_worth_119 : decode cX11_worth 119 = .ok (.isub, 1) := by decide +kernel
theorem dX11_worth_120 : decode cX11_worth 120 = .ok (.iaload, 1) := by decide +kernel
theorem dX11_worth_121 : decode cX11_worth 121 = .ok (.ireturn, 1) := by decide +kernel
abbrev ndp_X11_worth : List Nat := [0, 1, 2, 3, 4, 5, 11, 12, 13, 16, 17, 18, 19, 21, 80, 81, 82]
abbrev ndq_X11_worth : List Nat := [0, 1, 2, 3, 4, 5, 11, 12, 13, 16, 17, 18, 19, 21]
abbrev ldp_X11_worth : List (Nat × Nat) := [(0, 0), (1, 0), (1, 2), (1, 3), (1, 5), (2, 0), (2, 1), (2, 2), (11, 0), (11, 1), (16, 0), (16, 1), (16, 2), (80, 0), (80, 1)]
abbrev ldq_X11_worth : List (Nat × Nat) := [(0, 0), (1, 0), (1, 2), (1, 3), (1, 5), (2, 0), (2, 1), (2, 2), (11, 0), (11, 1), (16, 0), (16, 1), (16, 2)]
def f_lz8 (h : zH) : zR := if h 0 8 = 0 then zst (zz h 80) fun h1 => zbd (f_X10_init_t80 h1) fun _ h2 => zst (zup h2 0 8 1) fun h3 => some (0, h3) else some (0, h)
def f_X11_worth_66 (x1 : Int32) (x2 : Int32) (h : zH) : zR := (if (h 0 8) = 0 then none else (zbd (f_X10_solve_r1  h) fun r5 h6 => (if x2 = 0 then (if (h6 0 8) = 0 then none else (some ((h6 80 2), h6))) else (if x2 = (1 : Int32) then (if (h6 0 8) = 0 then none else (some ((h6 80 3), h6))) else (if (h6 0 8) = 0 then none else (zck (((x1 * (16 : Int32)) + x2) - (10 : Int32)) 656 (some ((h6 81 (Int32.toNatClampNeg (((x1 * (16 : Int32)) + x2) - (10 : Int32)))), h6))))))))
def f_X11_worth_48 (x1 : Int32) (x2 : Int32) (h : zH) : zR := (zbd (f_lz8 h) fun r4 h3 => (f_X11_worth_66 x1 x2 h3))
def f_X11_worth_32 (x1 : Int32) (x2 : Int32) (s0 : Int32) (h : zH) : zR := (if x2 = 0 then (f_X11_worth_48 x1 x2 h) else (if x2 = (1 : Int32) then (f_X11_worth_48 x1 x2 h) else (if s0 = 0 then (some ((-1 : Int32), h)) else (f_X11_worth_48 x1 x2 h))))
def f_X11_worth_31 (x1 : Int32) (x2 : Int32) (h : zH) : zR := (f_X11_worth_32 x1 x2 (0 : Int32) h)
def f_X11_worth (x1 : Int32) (x2 : Int32) (h : zH) : zR := (zbd (f_X3_has (x2 - (10 : Int32)) h) fun r1 h2 => (if r1 = 0 then (f_X11_worth_31 x1 x2 h2) else (if x1 < 0 then (f_X11_worth_31 x1 x2 h2) else (if (40 : Int32) < x1 then (f_X11_worth_31 x1 x2 h2) else (f_X11_worth_32 x1 x2 (1 : Int32) h2)))))
variable {q : Int32 × zH}
abbrev md_X11_worth_p : List Nat := [19, 21, 80, 81, 82]
theorem sm_X11_worth_p_X3_has : ∀ c ∈ md_X3_has, c ∈ md_X11_worth_p := by decide
theorem sm_X11_worth_p_X10_solve_r1 : ∀ c ∈ md_X10_solve_r1, c ∈ md_X11_worth_p := by decide
theorem m_X11_worth_66 : ∀ (h0 : zH) (x1 : Int32) (x2 : Int32), f_X11_worth_66 x1 x2 h0 = some q → ∀ c, c ∉ md_X11_worth_p → q.2 c = h0 c := by
  intro h x1 x2 hf
  unfold f_X11_worth_66 at hf
  have fr : ∀ c, c ∉ md_X11_worth_p → h c = h c := fun _ _ => rfl
  rcases zif_c hf with ⟨hc, hf⟩ | ⟨hc, hf⟩
  · cases hf
  obtain ⟨r5, h6, er5, hf⟩ := zbd_some hf
  have fr : ∀ c, c ∉ md_X11_worth_p → h6 c = h c := fun c hc9 => (m_X10_solve_r1 _ er5 c (fun z => hc9 (sm_X11_worth_p_X10_solve_r1 c z))).trans (fr c hc9)
  rcases zif_n hf with ⟨hc, hf⟩ | ⟨hc, hf⟩
  · skip
    rcases zif_n hf with ⟨hc, hf⟩ | ⟨hc, hf⟩
    · skip
      rcases zif_c hf with ⟨hc, hf⟩ | ⟨hc, hf⟩
      · cases hf
      obtain ⟨hi, hf⟩ := zck_some hf
      cases hf
      exact fr
    · skip
      rcases zif_c hf with ⟨hc, hf⟩ | ⟨hc, hf⟩
      · cases hf
      cases hf
      exact fr
  · skip
    rcases zif_c hf with ⟨hc, hf⟩ | ⟨hc, hf⟩
    · cases hf
    cases hf
    exact fr
variable {p : Program} {l : Launch} {e : Env} {s : State} {m : MethodId} {args : Array Value} {below : List Frame} {meth : Method} {c : Code} {G : zG} {Q : State → Prop} {h0 : zH}
set_option maxHeartbeats 8000000 in
set_option maxRecDepth 100000 in
theorem w_X11_worth_66 (C : zC G p s m args meth c cX11_worth 4 RX11 (some .int)) (hm : ∀ c ∈ ndp_X11_worth, c ∈ znm G) (hk : ∀ q ∈ ldp_X11_worth, zlk G q.1 q.2 = true) (hret : ∀ (pc : Nat) (ls : Array Slot) (H : Heap) (locs : List Loc) (v : Int32) (h : zH), narrow .int (.int v) = .int v → zS G h s.heap H locs → some (v, h) = some q → decode cX11_worth pc = .ok (.ireturn, 1) → W p l e (zrmC 6 3 916) s m args below meth c H locs 3 916 Q (F0 m pc ls [.int v])) : ∀ (ls : Array Slot) (H : Heap) (locs : List Loc) (h : zH) (x1 : Int32) (x2 : Int32), lv_has ls 4 [(0, .ref (zal G 0)), (1, .int x1), (2, .int x2)] → zS G h s.heap H locs → f_X11_worth_66 x1 x2 h = some q → W p l e (zrmC 6 3 916) s m args below meth c H locs 3 916 Q (F0 m 66 ls []) := by
  intro ls H locs h x1 x2 hl hS hf
  unfold f_X11_worth_66 at hf
  refine lv_aload_n C.1 C.2.1 dX11_worth_66 rfl (lv_at hl 0 rfl) ?_
  refine zgetN C hS ff_X11_278_0 (hm 0 (by decide)) dX11_worth_67 (fun hc => ?_) (fun hc => ?_)
  · cases zif_t hc hf
  have hf := zif_f hc hf
  refine lv_aload_n C.1 C.2.1 dX11_worth_70 rfl (lv_at hl 0 rfl) ?_
  refine zgetR C hS ff_X11_12_0 (hm 0 (by decide)) (hk (0, 0) (by decide)) dX11_worth_71 ?_
  obtain ⟨r5, h6, er5, hf⟩ := zbd_some hf
  refine zcallVV (As := [.ref (zal G 1)]) (rest := []) C hS mv_X11_283 (c_X10_solve_r1 l G h  (r5, h6) (fun c h => hm c ((by decide : ∀ c ∈ nd_X10_solve_r1, c ∈ ndp_X11_worth) c h)) (fun q h => hk q ((by decide : ∀ q ∈ ld_X10_solve_r1, q ∈ ldp_X11_worth) q h)) er5) (hm 80 (by decide)) ⟨_, _, _, sh_80, rfl, rfl⟩ rfl rfl (Nat.le_of_ble_eq_true rfl) hl.1 ⟨Nat.le_of_ble_eq_true rfl, Nat.le_of_ble_eq_true rfl, Nat.le_of_ble_eq_true rfl, Nat.le_of_ble_eq_true rfl⟩ dX11_worth_74 (fun H locs hS => ?_)
  refine lv_iload_n C.1 C.2.1 dX11_worth_77 rfl (lv_at hl 2 rfl) ?_
  refine lv_if_ne (tgt := 89) C.1 C.2.1 dX11_worth_78 (by decide) (fun hc => ?_) (fun hc => ?_)
  · have hf := zif_f hc hf
    refine lv_iload_n C.1 C.2.1 dX11_worth_89 rfl (lv_at hl 2 rfl) ?_
    refine lv_iconst (v := (1 : Int32)) C.1 C.2.1 dX11_worth_90 rfl ?_
    refine lv_icmp_ne (tgt := 104) C.1 C.2.1 dX11_worth_91 (by decide) (fun hc => ?_) (fun hc => ?_)
    · have hf := zif_f hc hf
      refine lv_aload_n C.1 C.2.1 dX11_worth_104 rfl (lv_at hl 0 rfl) ?_
      refine zgetN C hS ff_X11_278_0 (hm 0 (by decide)) dX11_worth_105 (fun hc => ?_) (fun hc => ?_)
      · cases zif_t hc hf
      have hf := zif_f hc hf
      refine zgetR C hS ff_X11_291_80 (hm 80 (by decide)) (hk (80, 0) (by decide)) dX11_worth_108 ?_
      refine lv_iload_n C.1 C.2.1 dX11_worth_111 rfl (lv_at hl 1 rfl) ?_
      refine lv_bipush (v := (16 : Int32)) C.1 C.2.1 dX11_worth_112 rfl ?_
      refine lv_imul C.1 C.2.1 dX11_worth_114 ?_
      refine lv_iload_n C.1 C.2.1 dX11_worth_115 rfl (lv_at hl 2 rfl) ?_
      refine lv_iadd C.1 C.2.1 dX11_worth_116 ?_
      refine lv_bipush (v := (10 : Int32)) C.1 C.2.1 dX11_worth_117 rfl ?_
      refine lv_isub C.1 C.2.1 dX11_worth_119 ?_
      obtain ⟨hi, hf⟩ := zck_some hf
      refine zald C hS sh_81 (hm 81 (by decide)) hi dX11_worth_120 ?_
      exact hret _ _ _ _ _ _ rfl hS hf dX11_worth_121
    · have hf := zif_t hc hf
      refine lv_aload_n C.1 C.2.1 dX11_worth_94 rfl (lv_at hl 0 rfl) ?_
      refine zgetN C hS ff_X11_278_0 (hm 0 (by decide)) dX11_worth_95 (fun hc => ?_) (fun hc => ?_)
      · cases zif_t hc hf
      have hf := zif_f hc hf
      refine zgetI C hS ff_X11_288_80 (hm 80 (by decide)) dX11_worth_98 ?_
      refine lv_goto (tgt := 121) C.1 C.2.1 dX11_worth_101 (by decide) ?_
      exact hret _ _ _ _ _ _ rfl hS hf dX11_worth_121
  · have hf := zif_t hc hf
    refine lv_aload_n C.1 C.2.1 dX11_worth_81 rfl (lv_at hl 0 rfl) ?_
    refine zgetN C hS ff_X11_278_0 (hm 0 (by decide)) dX11_worth_82 (fun hc => ?_) (fun hc => ?_)
    · cases zif_t hc hf
    have hf := zif_f hc hf
    refine zgetI C hS ff_X11_285_80 (hm 80 (by decide)) dX11_worth_85 ?_
    exact hret _ _ _ _ _ _ rfl hS hf dX11_worth_88
set_option maxHeartbeats 8000000 in
set_option maxRecDepth 100000 in
theorem w_X11_worth_48 (C : zC G p s m args meth c cX11_worth 4 RX11 (some .int)) (hm : ∀ c ∈ ndq_X11_worth, c ∈ znm G) (hk : ∀ q ∈ ldq_X11_worth, zlk G q.1 q.2 = true) (hcase : (¬ h0 0 8 = 0 → (∀ c ∈ ([80, 81, 82] : List Nat), c ∈ znm G) ∧ (∀ q ∈ ([(80, 0), (80, 1)] : List (Nat × Nat)), zlk G q.1 q.2 = true)) ∧ (h0 0 8 = 0 → (∀ c ∈ ([80, 81, 82] : List Nat), c ∉ znm G) ∧ ∀ c ∈ ([80, 81, 82] : List Nat), ∀ k, zlk G c k = false)) (hret : ∀ G1 : zG, (G1 = G ∧ q.2 0 = h0 0) ∨ (∃ qs, G1 = zext G [80, 81, 82] [(80, 0), (80, 1)] qs ∧ h0 0 8 = 0 ∧ q.2 0 = upd (h0 0) 8 1) → ∀ (pc : Nat) (ls : Array Slot) (H : Heap) (locs : List Loc) (v : Int32) (h : zH), narrow .int (.int v) = .int v → zS G1 h s.heap H locs → some (v, h) = some q → decode cX11_worth pc = .ok (.ireturn, 1) → W p l e (zrmC 6 3 916) s m args below meth c H locs 3 916 Q (F0 m pc ls [.int v])) : ∀ (ls : Array Slot) (H : Heap) (locs : List Loc) (h : zH) (x1 : Int32) (x2 : Int32), h 0 = h0 0 → lv_has ls 4 [(0, .ref (zal G 0)), (1, .int x1), (2, .int x2)] → zS G h s.heap H locs → f_X11_worth_48 x1 x2 h = some q → W p l e (zrmC 6 3 916) s m args below meth c H locs 0 0 Q (F0 m 48 ls []) := by
  intro ls H locs h x1 x2 fr0 hl hS hf
  unfold f_X11_worth_48 at hf
  obtain ⟨r4, h3, er4, hf⟩ := zbd_some hf
  unfold f_lz8 at er4
  refine lv_aload_n C.1 C.2.1 dX11_worth_48 rfl (lv_at hl 0 rfl) ?_
  refine zgetN C hS ff_X11_278_0 (hm 0 (by decide)) dX11_worth_49 (fun hc => ?_) (fun hc => ?_)
  · have er4 := zif_t hc er4
    have hc0 : h0 0 8 = 0 := by rw [← fr0]; exact hc
    refine lv_ifnonnullN C.1 C.2.1 dX11_worth_52 ?_
    refine lv_aload_n C.1 C.2.1 dX11_worth_55 rfl (lv_at hl 0 rfl) ?_
    refine znewo (d := 80) C hS ((hcase.2 hc0).1 80 (by decide)) (zun1n (by decide) hc) ((hcase.2 hc0).2 80 (by decide)) sh_80 rfl tyX10 tyX10_ok iz_X10 (by decide) (by decide) ⟨kw_1033, kw_1034, kw_103⟩ (Nat.le_of_ble_eq_true rfl) (Nat.le_of_ble_eq_true rfl) dX11_worth_56 (fun q80 H hS => ?_)
    obtain ⟨hA1, ehA1, er4⟩ := zst_some er4
    rw [← ehA1] at hS
    refine lv_dup C.1 C.2.1 dX11_worth_59 rfl ?_
    obtain ⟨rA, hA2, eA2, er4⟩ := zbd_some er4
    refine zcallJ (As := []) (rest := [.ref q80, .ref (zal G 0)]) (zC_ext _ _ _ C) hS mj_X11_282 (c_X10_init_t80 l (zext G [80] [] (fun _ => q80)) hA1 (rA, hA2) (zmem_n (by decide)) (fun d hd => zfresh ((hcase.2 hc0).1 d ((by decide : ∀ d ∈ ([81, 82] : List Nat), d ∈ ([80, 81, 82] : List Nat)) d hd)) ((by decide : ∀ d ∈ ([81, 82] : List Nat), d ∉ [80]) d hd)) (fun d hd => zlk_fn ((hcase.2 hc0).2 d hd) rfl) (fun q hq => absurd hq List.not_mem_nil) eA2) rfl rfl (Nat.le_of_ble_eq_true rfl) hl.1 ⟨Nat.le_of_ble_eq_true rfl, Nat.le_of_ble_eq_true rfl, Nat.le_of_ble_eq_true rfl, Nat.le_of_ble_eq_true rfl⟩ dX11_worth_60 (fun qc H locs hS => ?_)
    obtain ⟨hA3, ehA3, er4⟩ := zst_some er4
    refine zputN (ty := .object "HalfAJoke$Worths") (zC_ext _ _ _ (zC_ext _ _ _ C)) hS ff_X11_278_0 (zfinN sh_0 rfl ⟨rfl, by decide +kernel⟩) (fun x => ⟨rfl, rfl⟩) (zmem_o (zmem_o (hm 0 (by decide)))) rfl rfl dX11_worth_63 (fun H locs hS => ?_)
    rw [← ehA3] at hS
    cases er4
    rw [zext_zext] at hS
    obtain ⟨qs, hS⟩ : ∃ qs, zS (zext G [80, 81, 82] [(80, 0), (80, 1)] qs) h3 s.heap H locs := ⟨_, hS⟩
    have key : q.2 0 = upd (h0 0) 8 1 := by rw [m_X11_worth_66 _ _ _  hf 0 (by decide), ehA3, zup_eq, show hA2 0 = hA1 0 from m_X10_init_t80_0 _ eA2, ehA1, zz_ne (by decide), fr0]
    exact w_X11_worth_66 (G := zext G [80, 81, 82] [(80, 0), (80, 1)] qs) (zC_ext _ _ _ C) (fun c hc => ((by decide : ∀ c ∈ ndp_X11_worth, c ∈ ndq_X11_worth ∨ c ∈ ([80, 81, 82] : List Nat)) c hc).elim (fun z => zmem_o (hm c z)) zmem_n) (fun q hq => ((by decide : ∀ q ∈ ldp_X11_worth, q ∈ ldq_X11_worth ∨ ([(80, 0), (80, 1)] : List (Nat × Nat)).contains (q.1, q.2) = true) q hq).elim (fun z => zlk_o (hk q z)) zlk_t) (hret _ (Or.inr ⟨qs, rfl, hc0, key⟩)) _ _ _ _ _ _ (lv_sub hl [0, 1, 2] rfl) hS hf
  · have er4 := zif_f hc er4
    have hc0 : ¬ h0 0 8 = 0 := by rw [← fr0]; exact hc
    cases er4
    refine lv_ifnonnull (tgt := 66) C.1 C.2.1 dX11_worth_52 (by decide) ?_
    refine W.widen (k := 3) (n := 916) (Nat.le_of_ble_eq_true rfl) (Nat.le_of_ble_eq_true rfl) ?_
    have key : q.2 0 = h0 0 := (m_X11_worth_66 _ _ _  hf 0 (by decide)).trans fr0
    exact w_X11_worth_66 C (fun c hc => ((by decide : ∀ c ∈ ndp_X11_worth, c ∈ ndq_X11_worth ∨ c ∈ ([80, 81, 82] : List Nat)) c hc).elim (hm c) ((hcase.1 hc0).1 c)) (fun q hq => ((by decide : ∀ q ∈ ldp_X11_worth, q ∈ ldq_X11_worth ∨ q ∈ ([(80, 0), (80, 1)] : List (Nat × Nat))) q hq).elim (hk q) ((hcase.1 hc0).2 q)) (hret _ (Or.inl ⟨rfl, key⟩)) _ _ _ _ _ _ (lv_sub hl [0, 1, 2] rfl) hS hf
set_option maxHeartbeats 8000000 in
set_option maxRecDepth 100000 in
theorem w_X11_worth_32 (C : zC G p s m args meth c cX11_worth 4 RX11 (some .int)) (hm : ∀ c ∈ ndq_X11_worth, c ∈ znm G) (hk : ∀ q ∈ ldq_X11_worth, zlk G q.1 q.2 = true) (hcase : (¬ h0 0 8 = 0 → (∀ c ∈ ([80, 81, 82] : List Nat), c ∈ znm G) ∧ (∀ q ∈ ([(80, 0), (80, 1)] : List (Nat × Nat)), zlk G q.1 q.2 = true)) ∧ (h0 0 8 = 0 → (∀ c ∈ ([80, 81, 82] : List Nat), c ∉ znm G) ∧ ∀ c ∈ ([80, 81, 82] : List Nat), ∀ k, zlk G c k = false)) (hret : ∀ G1 : zG, (G1 = G ∧ q.2 0 = h0 0) ∨ (∃ qs, G1 = zext G [80, 81, 82] [(80, 0), (80, 1)] qs ∧ h0 0 8 = 0 ∧ q.2 0 = upd (h0 0) 8 1) → ∀ (pc : Nat) (ls : Array Slot) (H : Heap) (locs : List Loc) (v : Int32) (h : zH), narrow .int (.int v) = .int v → zS G1 h s.heap H locs → some (v, h) = some q → decode cX11_worth pc = .ok (.ireturn, 1) → W p l e (zrmC 6 3 916) s m args below meth c H locs 3 916 Q (F0 m pc ls [.int v])) : ∀ (ls : Array Slot) (H : Heap) (locs : List Loc) (h : zH) (x1 : Int32) (x2 : Int32) (s0 : Int32), h 0 = h0 0 → lv_has ls 4 [(0, .ref (zal G 0)), (1, .int x1), (2, .int x2)] → zS G h s.heap H locs → f_X11_worth_32 x1 x2 s0 h = some q → W p l e (zrmC 6 3 916) s m args below meth c H locs 0 0 Q (F0 m 32 ls [.int s0]) := by
  intro ls H locs h x1 x2 s0 fr0 hl hS hf
  unfold f_X11_worth_32 at hf
  refine lv_istore_n (lv' := [(3, .int s0), (0, .ref (zal G 0)), (1, .int x1), (2, .int x2)]) C.1 C.2.1 dX11_worth_32 rfl hl (by decide) rfl (fun ls hl => ?_)
  refine lv_iload_n C.1 C.2.1 dX11_worth_33 rfl (lv_at hl 3 rfl) ?_
  refine lv_if_eq (tgt := 48) C.1 C.2.1 dX11_worth_34 (by decide) (fun hc => ?_) (fun hc => ?_)
  · have hf := zif_t hc hf
    exact w_X11_worth_48 C hm hk hcase hret _ _ _ _ _ _ fr0 (lv_sub hl [1, 2, 3] rfl) hS hf
  · have hf := zif_f hc hf
    refine lv_iload_n C.1 C.2.1 dX11_worth_37 rfl (lv_at hl 3 rfl) ?_
    refine lv_iconst (v := (1 : Int32)) C.1 C.2.1 dX11_worth_38 rfl ?_
    refine lv_icmp_eq (tgt := 48) C.1 C.2.1 dX11_worth_39 (by decide) (fun hc => ?_) (fun hc => ?_)
    · have hf := zif_t hc hf
      exact w_X11_worth_48 C hm hk hcase hret _ _ _ _ _ _ fr0 (lv_sub hl [1, 2, 3] rfl) hS hf
    · have hf := zif_f hc hf
      refine lv_iload_n C.1 C.2.1 dX11_worth_42 rfl (lv_at hl 0 rfl) ?_
      refine lv_if_ne (tgt := 48) C.1 C.2.1 dX11_worth_43 (by decide) (fun hc => ?_) (fun hc => ?_)
      · have hf := zif_f hc hf
        exact w_X11_worth_48 C hm hk hcase hret _ _ _ _ _ _ fr0 (lv_sub hl [1, 2, 3] rfl) hS hf
      · have hf := zif_t hc hf
        refine lv_iconst (v := (-1 : Int32)) C.1 C.2.1 dX11_worth_46 rfl ?_
        have key : q.2 0 = h0 0 := by cases hf; exact fr0
        refine W.widen (k := 3) (n := 916) (Nat.le_of_ble_eq_true rfl) (Nat.le_of_ble_eq_true rfl) ?_
        exact hret G (Or.inl ⟨rfl, key⟩) _ _ _ _ _ _ rfl hS hf dX11_worth_47
set_option maxHeartbeats 8000000 in
set_option maxRecDepth 100000 in
theorem w_X11_worth_31 (C : zC G p s m args meth c cX11_worth 4 RX11 (some .int)) (hm : ∀ c ∈ ndq_X11_worth, c ∈ znm G) (hk : ∀ q ∈ ldq_X11_worth, zlk G q.1 q.2 = true) (hcase : (¬ h0 0 8 = 0 → (∀ c ∈ ([80, 81, 82] : List Nat), c ∈ znm G) ∧ (∀ q ∈ ([(80, 0), (80, 1)] : List (Nat × Nat)), zlk G q.1 q.2 = true)) ∧ (h0 0 8 = 0 → (∀ c ∈ ([80, 81, 82] : List Nat), c ∉ znm G) ∧ ∀ c ∈ ([80, 81, 82] : List Nat), ∀ k, zlk G c k = false)) (hret : ∀ G1 : zG, (G1 = G ∧ q.2 0 = h0 0) ∨ (∃ qs, G1 = zext G [80, 81, 82] [(80, 0), (80, 1)] qs ∧ h0 0 8 = 0 ∧ q.2 0 = upd (h0 0) 8 1) → ∀ (pc : Nat) (ls : Array Slot) (H : Heap) (locs : List Loc) (v : Int32) (h : zH), narrow .int (.int v) = .int v → zS G1 h s.heap H locs → some (v, h) = some q → decode cX11_worth pc = .ok (.ireturn, 1) → W p l e (zrmC 6 3 916) s m args below meth c H locs 3 916 Q (F0 m pc ls [.int v])) : ∀ (ls : Array Slot) (H : Heap) (locs : List Loc) (h : zH) (x1 : Int32) (x2 : Int32), h 0 = h0 0 → lv_has ls 4 [(0, .ref (zal G 0)), (1, .int x1), (2, .int x2)] → zS G h s.heap H locs → f_X11_worth_31 x1 x2 h = some q → W p l e (zrmC 6 3 916) s m args below meth c H locs 0 0 Q (F0 m 31 ls []) := by
  intro ls H locs h x1 x2 fr0 hl hS hf
  unfold f_X11_worth_31 at hf
  refine lv_iconst (v := (0 : Int32)) C.1 C.2.1 dX11_worth_31 rfl ?_
  exact w_X11_worth_32 C hm hk hcase hret _ _ _ _ _ _ _ fr0 (lv_sub hl [0, 1, 2] rfl) hS hf
def zQX_X11_worth (G : zG) (h0 : zH) (q : Int32 × zH) : Array Value → State → Outcome → State → Prop := va_Qi (fun r (G1 : zG) => r = q.1 ∧ ((G1 = G ∧ q.2 0 = h0 0) ∨ (∃ qs, G1 = zext G [80, 81, 82] [(80, 0), (80, 1)] qs ∧ h0 0 8 = 0 ∧ q.2 0 = upd (h0 0) 8 1))) (fun G1 t => zPost G1 q.2 t) (zA G)
set_option maxHeartbeats 8000000 in
set_option maxRecDepth 100000 in
theorem c_X11_worth (l : Launch) (G : zG) (h0 : zH) (x1 : Int32) (x2 : Int32) (q : Int32 × zH) (hm : ∀ c ∈ ndq_X11_worth, c ∈ znm G) (hk : ∀ q ∈ ldq_X11_worth, zlk G q.1 q.2 = true) (hcase : (¬ h0 0 8 = 0 → (∀ c ∈ ([80, 81, 82] : List Nat), c ∈ znm G) ∧ (∀ q ∈ ([(80, 0), (80, 1)] : List (Nat × Nat)), zlk G q.1 q.2 = true)) ∧ (h0 0 8 = 0 → (∀ c ∈ ([80, 81, 82] : List Nat), c ∉ znm G) ∧ ∀ c ∈ ([80, 81, 82] : List Nat), ∀ k, zlk G c k = false)) (hf : f_X11_worth x1 x2 h0 = some q) : Met l yX11_worth (zw yX11_worth cX11_worth 4 (some .int)) (zrmC 6 3 916) (va_Pc [.ref (zal G 0), .int x1, .int x2] (zPre G h0)) (zQX_X11_worth G h0 q) 3 916 (zA G) := by
  refine Met.ofW (cc := cX11_worth) (maxL := 4) (ret := (some .int)) (by decide) rfl ?_
  intro p e s m args below meth c s₁ B hml hv
  obtain ⟨rfl, hP, hD, hA, hK, hE⟩ := hv
  have hts := atoms_spec (ws := zw yX11_worth cX11_worth 4 (some .int)) B.pre
  have hl := lv_entry [.ref (zal G 0), .int x1, .int x2] (n := 4) (Nat.le_of_ble_eq_true rfl)
  rw [lg_entry_eq]
  generalize (lg_sl [.ref (zal G 0), .int x1, .int x2] ++ List.replicate (4 - (lg_sl [.ref (zal G 0), .int x1, .int x2]).length) Slot.unset).toArray = ls at hl ⊢
  have hl : lv_has ls 4 [(0, .ref (zal G 0)), (1, .int x1), (2, .int x2)] := hl
  have C : zC G p s m [.ref (zal G 0), .int x1, .int x2].toArray meth c cX11_worth 4 RX11 (some .int) := ⟨B.exec, B.bytes, hml, findClass_of_methodNamed B.named, fun w hw => hts w (List.mem_cons_of_mem _ hw), hK, hE, hA, B.returns, B.notSynchronized⟩
  have hS : zS G h0 s.heap s.heap [] := ⟨hP, hD, va_S.rf⟩
  have hret : ∀ G1 : zG, (G1 = G ∧ q.2 0 = h0 0) ∨ (∃ qs, G1 = zext G [80, 81, 82] [(80, 0), (80, 1)] qs ∧ h0 0 8 = 0 ∧ q.2 0 = upd (h0 0) 8 1) → ∀ (pc : Nat) (ls : Array Slot) (H : Heap) (locs : List Loc) (v : Int32) (h : zH), narrow .int (.int v) = .int v → zS G1 h s.heap H locs → some (v, h) = some q → decode cX11_worth pc = .ok (.ireturn, 1) → W p l e (zrmC 6 3 916) s m [.ref (zal G 0), .int x1, .int x2].toArray below meth c H locs 3 916 (MQ below (zQX_X11_worth G h0 q) [.ref (zal G 0), .int x1, .int x2].toArray s 3 916 (zA G)) (F0 m pc ls [.int v]) := by
    intro G1 hX pc ls H locs v h hn hS1 hq hdg
    have hA1 : zA G1 = zA G := by rcases hX with ⟨rfl, _⟩ | ⟨qs, rfl, _⟩ <;> rfl
    cases hq
    exact W.zret (v := v) C.1 C.2.1 C.2.2.2.2.2.2.2.2.1 hn (fun t ht hW => ⟨⟨v, G1, rfl, ⟨rfl, hX⟩, by rw [← ht] at hS1; exact ⟨hS1.1, hS1.2.1⟩⟩, by have h9 := hS1.2.2.F ht; rw [hA1] at h9; exact h9⟩) (by have h9 := hS1.2.2.2.2; rw [hA1] at h9; exact h9) hdg C.2.2.2.2.2.2.2.2.2
  have fr0 : h0 0 = h0 0 := rfl
  unfold f_X11_worth at hf
  obtain ⟨h, eh⟩ : ∃ h, h = h0 := ⟨_, rfl⟩
  have hS : zS G h s.heap s.heap [] := by rw [eh]; exact hS
  rw [← eh] at hf
  have fr0 : h 0 = h0 0 := by rw [eh]
  refine lv_aload_n C.1 C.2.1 dX11_worth_0 rfl (lv_at hl 0 rfl) ?_
  refine zgetR C hS ff_X11_12_0 (hm 0 (by decide)) (hk (0, 0) (by decide)) dX11_worth_1 ?_
  refine zgetR C hS ff_X11_54_1 (hm 1 (by decide)) (hk (1, 0) (by decide)) dX11_worth_4 ?_
  refine lv_iload_n C.1 C.2.1 dX11_worth_7 rfl (lv_at hl 2 rfl) ?_
  refine lv_bipush (v := (10 : Int32)) C.1 C.2.1 dX11_worth_8 rfl ?_
  refine lv_isub C.1 C.2.1 dX11_worth_10 ?_
  obtain ⟨r1, h2, er1, hf⟩ := zbd_some hf
  have fr0 : h2 0 = h0 0 := (m_X3_has _ _  er1 0 (by decide)).trans fr0
  refine zcallVI (As := [.int (x2 - (10 : Int32))]) (rest := []) C hS mv_X11_67 (c_X3_has l G h (x2 - (10 : Int32)) (r1, h2) (fun c h => hm c ((by decide : ∀ c ∈ nd_X3_has, c ∈ ndq_X11_worth) c h)) (fun q h => hk q ((by decide : ∀ q ∈ ld_X3_has, q ∈ ldq_X11_worth) q h)) er1) (hm 2 (by decide)) ⟨_, _, _, sh_2, rfl, rfl⟩ rfl rfl (Nat.le_of_ble_eq_true rfl) hl.1 ⟨Nat.le_of_ble_eq_true rfl, Nat.le_of_ble_eq_true rfl, Nat.le_of_ble_eq_true rfl, Nat.le_of_ble_eq_true rfl⟩ dX11_worth_11 (fun H locs hS => ?_)
  refine lv_if_eq (tgt := 31) C.1 C.2.1 dX11_worth_14 (by decide) (fun hc => ?_) (fun hc => ?_)
  · have hf := zif_t hc hf
    exact w_X11_worth_31 C hm hk hcase hret _ _ _ _ _ _ fr0 (lv_sub hl [0, 1, 2] rfl) hS hf
  · have hf := zif_f hc hf
    refine lv_iload_n C.1 C.2.1 dX11_worth_17 rfl (lv_at hl 1 rfl) ?_
    refine lv_if_lt (tgt := 31) C.1 C.2.1 dX11_worth_18 (by decide) (fun hc => ?_) (fun hc => ?_)
    · have hf := zif_t hc hf
      exact w_X11_worth_31 C hm hk hcase hret _ _ _ _ _ _ fr0 (lv_sub hl [0, 1, 2] rfl) hS hf
    · have hf := zif_f hc hf
      refine lv_iload_n C.1 C.2.1 dX11_worth_21 rfl (lv_at hl 1 rfl) ?_
      refine lv_bipush (v := (40 : Int32)) C.1 C.2.1 dX11_worth_22 rfl ?_
      refine lv_icmp_gt (tgt := 31) C.1 C.2.1 dX11_worth_24 (by decide) (fun hc => ?_) (fun hc => ?_)
      · have hf := zif_t hc hf
        exact w_X11_worth_31 C hm hk hcase hret _ _ _ _ _ _ fr0 (lv_sub hl [0, 1, 2] rfl) hS hf
      · have hf := zif_f hc hf
        refine lv_iconst (v := (1 : Int32)) C.1 C.2.1 dX11_worth_27 rfl ?_
        refine lv_goto (tgt := 32) C.1 C.2.1 dX11_worth_28 (by decide) ?_
        exact w_X11_worth_32 C hm hk hcase hret _ _ _ _ _ _ _ fr0 (lv_sub hl [0, 1, 2] rfl) hS hf
end
section
theorem dX11_image_0 : decode cX11_image 0 = .ok (.iload_n 1, 1) := by decide +kernel
theorem dX11_image_1 : decode cX11_image 1 = .ok (.ifCond .eq 34, 3) := by decide +kernel
theorem dX11_image_4 : decode cX11_image 4 = .ok (.aload_n 0, 1) := by decide +kernel
theorem dX11_image_5 : decode cX11_image 5 = .ok (.getfield 304, 3) := by decide +kernel
theorem dX11_image_8 : decode cX11_image 8 = .ok (.ifnonnull 14, 3) := by decide +kernel
theorem dX11_image_11 : decode cX11_image 11 = .ok (.aload_n 0, 1) := by decide +kernel
theorem dX11_image_12 : decode cX11_image 12 = .ok (.new 9, 3) := by decide +kernel
theorem dX11_image_15 : decode cX11_image 15 = .ok (.dup, 1) := by decide +kernel
theorem dX11_image_16 : decode cX11_image 16 = .ok (.invokespecial 11, 3) := by decide +kernel
theorem dX11_image_19 : decode cX11_image 19 = .ok (.putfield 304, 3) := by decide +kernel
theorem dX11_image_22 : decode cX11_image 22 = .ok (.aload_n 0, 1) := by decide +kernel
theorem dX11_image_23 : decode cX11_image 23 = .ok (.getfield 304, 3) := by decide +kernel
theorem dX11_image_26 : decode cX11_image 26 = .ok (.aload_n 0, 1) := by decide +kernel
theorem dX11_image_27 : decode cX11_image 27 = .ok (.getfield 12, 3) := by decide +kernel
theorem dX11_image_30 : decode cX11_image 30 = .ok (.invokevirtual 307, 3) := by decide +kernel
theorem dX11_image_33 : decode cX11_image 33 = .ok (.iconst 1, 1) := by decide +kernel
theorem dX11_image_34 : decode cX11_image 34 = .ok (.ireturn, 1) := by decide +kernel
theorem dX11_image_35 : decode cX11_image 35 = .ok (.aload_n 0, 1) := by decide +kernel
theorem dX11_image_36 : decode cX11_image 36 = .ok (.getfield 304, 3) := by decide +kernel
theorem dX11_image_39 : decode cX11_image 39 = .ok (.ifnonnull 5, 3) := by decide +kernel
theorem dX11_image_42 : decode cX11_image 42 = .ok (.iconst 0, 1) := by decide +kernel
theorem dX11_image_43 : decode cX11_image 43 = .ok (.ireturn, 1) := by decide +kernel
theorem dX11_image_44 : decode cX11_image 44 = .ok (.aload_n 0, 1) := by decide +kernel
theorem dX11_image_45 : decode cX11_image 45 = .ok (.getfield 12, 3) := by decide +kernel
theorem dX11_image_48 : decode cX11_image 48 = .ok (.aload_n 0, 1) := by decide +kernel
theorem dX11_image_49 : decode cX11_image 49 = .ok (.getfield 304, 3) := by decide +kernel
theorem dX11_image_52 : decode cX11_image 52 = .ok (.invokevirtual 307, 3) := by decide +kernel
theorem dX11_image_55 : decode cX11_image 55 = .ok (.aload_n 0, 1) := by decide +kernel
theorem dX11_image_56 : decode cX11_image 56 = .ok (.getfield 19, 3) := by decide +kernel
theorem dX11_image_59 : decode cX11_image 59 = .ok (.invokevirtual 47, 3) := by decide +kernel
theorem dX11_image_62 : decode cX11_image 62 = .ok (.iconst 1, 1) := by decide +kernel
theorem dX11_image_63 : decode cX11_image 63 = .ok (.ireturn, 1) := by decide +kernel
abbrev ndp_X11_image : List Nat := [0, 1, 2, 3, 4, 5, 6, 7, 8, 9, 10, 11, 12, 13, 14, 15, 16, 17, 18, 20, 22, 50, 51, 52, 53, 54, 55, 56, 57, 58, 59, 60, 61, 62, 63, 64, 65, 66, 67, 69]
abbrev ndq_X11_image : List Nat := [0, 1, 2, 3, 4, 5, 6, 7, 8, 9, 10, 11, 12, 13, 14, 15, 16, 17, 18, 20, 22]
abbrev ldp_X11_image : List (Nat × Nat) := [(0, 0), (0, 1), (1, 0), (1, 1), (1, 2), (1, 3), (1, 4), (2, 0), (2, 1), (2, 2), (2, 3), (7, 0), (7, 1), (7, 2), (11, 0), (11, 1), (11, 2), (11, 3), (16, 0), (16, 1), (50, 0), (50, 1), (50, 2), (50, 3), (50, 4), (51, 0), (51, 1), (51, 2), (51, 3), (56, 0), (56, 1), (56, 2), (60, 0), (60, 1), (60, 2), (60, 3), (65, 0), (65, 1)]
abbrev ldq_X11_image : List (Nat × Nat) := [(0, 0), (0, 1), (1, 0), (1, 1), (1, 2), (1, 3), (1, 4), (2, 0), (2, 1), (2, 2), (2, 3), (7, 0), (7, 1), (7, 2), (11, 0), (11, 1), (11, 2), (11, 3), (16, 0), (16, 1)]
def f_lz5 (h : zH) : zR := if h 0 5 = 0 then zst (zz h 50) fun h1 => zbd (f_X4_init_t50 h1) fun _ h2 => zst (zup h2 0 5 1) fun h3 => some (0, h3) else some (0, h)
def f_X11_image_44 (h : zH) : zR := (if (h 0 5) = 0 then none else (zbd (f_X4_copyFrom_r50  h) fun r1 h2 => (zbd (f_X6_forget  h2) fun r3 h4 => (some ((1 : Int32), h4)))))
def f_X11_image_22 (h : zH) : zR := (if (h 0 5) = 0 then none else (zbd (f_X4_copyFrom_t50_r1  h) fun r7 h8 => (some ((1 : Int32), h8))))
def f_X11_image (x1 : Int32) (h : zH) : zR := (if x1 = 0 then (if (h 0 5) = 0 then (some ((0 : Int32), h)) else (f_X11_image_44  h)) else (zbd (f_lz5 h) fun r6 h5 => (f_X11_image_22  h5)))
variable {q : Int32 × zH}
abbrev md_X11_image_p : List Nat := [1, 2, 3, 4, 5, 6, 7, 8, 9, 10, 11, 12, 13, 14, 15, 16, 17, 18, 20, 22, 50, 51, 52, 53, 54, 55, 56, 57, 58, 59, 60, 61, 62, 63, 64, 65, 66, 67, 69]
theorem sm_X11_image_p_X4_copyFrom_r50 : ∀ c ∈ md_X4_copyFrom_r50, c ∈ md_X11_image_p := by decide
theorem sm_X11_image_p_X6_forget : ∀ c ∈ md_X6_forget, c ∈ md_X11_image_p := by decide
theorem sm_X11_image_p_X4_copyFrom_t50_r1 : ∀ c ∈ md_X4_copyFrom_t50_r1, c ∈ md_X11_image_p := by decide
theorem m_X11_image_44 : ∀ (h0 : zH), f_X11_image_44 h0 = some q → ∀ c, c ∉ md_X11_image_p → q.2 c = h0 c := by
  intro h hf
  unfold f_X11_image_44 at hf
  have fr : ∀ c, c ∉ md_X11_image_p → h c = h c := fun _ _ => rfl
  rcases zif_c hf with ⟨hc, hf⟩ | ⟨hc, hf⟩
  · cases hf
  obtain ⟨r1, h2, er1, hf⟩ := zbd_some hf
  have fr : ∀ c, c ∉ md_X11_image_p → h2 c = h c := fun c hc9 => (m_X4_copyFrom_r50 _ er1 c (fun z => hc9 (sm_X11_image_p_X4_copyFrom_r50 c z))).trans (fr c hc9)
  obtain ⟨r3, h4, er3, hf⟩ := zbd_some hf
  have fr : ∀ c, c ∉ md_X11_image_p → h4 c = h c := fun c hc9 => (m_X6_forget _ er3 c (fun z => hc9 (sm_X11_image_p_X6_forget c z))).trans (fr c hc9)
  cases hf
  exact fr
theorem m_X11_image_22 : ∀ (h0 : zH), f_X11_image_22 h0 = some q → ∀ c, c ∉ md_X11_image_p → q.2 c = h0 c := by
  intro h hf
  unfold f_X11_image_22 at hf
  have fr : ∀ c, c ∉ md_X11_image_p → h c = h c := fun _ _ => rfl
  rcases zif_c hf with ⟨hc, hf⟩ | ⟨hc, hf⟩
  · cases hf
  obtain ⟨r7, h8, er7, hf⟩ := zbd_some hf
  have fr : ∀ c, c ∉ md_X11_image_p → h8 c = h c := fun c hc9 => (m_X4_copyFrom_t50_r1 _ er7 c (fun z => hc9 (sm_X11_image_p_X4_copyFrom_t50_r1 c z))).trans (fr c hc9)
  cases hf
  exact fr
variable {p : Program} {l : Launch} {e : Env} {s : State} {m : MethodId} {args : Array Value} {below : List Frame} {meth : Method} {c : Code} {G : zG} {Q : State → Prop} {h0 : zH}
set_option maxHeartbeats 8000000 in
set_option maxRecDepth 100000 in
theorem w_X11_image_44 (C : zC G p s m args meth c cX11_image 2 RX11 (some .boolean)) (hm : ∀ c ∈ ndp_X11_image, c ∈ znm G) (hk : ∀ q ∈ ldp_X11_image, zlk G q.1 q.2 = true) (hret : ∀ (pc : Nat) (ls : Array Slot) (H : Heap) (locs : List Loc) (v : Int32) (h : zH), narrow .boolean (.int v) = .int v → zS G h s.heap H locs → some (v, h) = some q → decode cX11_image pc = .ok (.ireturn, 1) → W p l e (zrmC 5 21 2169) s m args below meth c H locs 21 2169 Q (F0 m pc ls [.int v])) : ∀ (ls : Array Slot) (H : Heap) (locs : List Loc) (h : zH), lv_has ls 2 [(0, .ref (zal G 0))] → zS G h s.heap H locs → f_X11_image_44 h = some q → W p l e (zrmC 5 21 2169) s m args below meth c H locs 21 2169 Q (F0 m 44 ls []) := by
  intro ls H locs h hl hS hf
  unfold f_X11_image_44 at hf
  refine lv_aload_n C.1 C.2.1 dX11_image_44 rfl (lv_at hl 0 rfl) ?_
  refine zgetR C hS ff_X11_12_0 (hm 0 (by decide)) (hk (0, 0) (by decide)) dX11_image_45 ?_
  refine lv_aload_n C.1 C.2.1 dX11_image_48 rfl (lv_at hl 0 rfl) ?_
  refine zgetN C hS ff_X11_304_0 (hm 0 (by decide)) dX11_image_49 (fun hc => ?_) (fun hc => ?_)
  · cases zif_t hc hf
  have hf := zif_f hc hf
  obtain ⟨r1, h2, er1, hf⟩ := zbd_some hf
  refine zcallVV (As := [.ref (zal G 50)]) (rest := []) C hS mv_X11_307 (c_X4_copyFrom_r50 l G h  (r1, h2) (fun c h => hm c ((by decide : ∀ c ∈ nd_X4_copyFrom_r50, c ∈ ndp_X11_image) c h)) (fun q h => hk q ((by decide : ∀ q ∈ ld_X4_copyFrom_r50, q ∈ ldp_X11_image) q h)) er1) (hm 1 (by decide)) ⟨_, _, _, sh_1, rfl, rfl⟩ rfl rfl (Nat.le_of_ble_eq_true rfl) hl.1 ⟨Nat.le_of_ble_eq_true rfl, Nat.le_of_ble_eq_true rfl, Nat.le_of_ble_eq_true rfl, Nat.le_of_ble_eq_true rfl⟩ dX11_image_52 (fun H locs hS => ?_)
  refine lv_aload_n C.1 C.2.1 dX11_image_55 rfl (lv_at hl 0 rfl) ?_
  refine zgetR C hS ff_X11_19_0 (hm 0 (by decide)) (hk (0, 1) (by decide)) dX11_image_56 ?_
  obtain ⟨r3, h4, er3, hf⟩ := zbd_some hf
  refine zcallVV (As := []) (rest := []) C hS mv_X11_47 (c_X6_forget l G h2  (r3, h4) (fun c h => hm c ((by decide : ∀ c ∈ nd_X6_forget, c ∈ ndp_X11_image) c h)) (fun q h => hk q ((by decide : ∀ q ∈ ld_X6_forget, q ∈ ldp_X11_image) q h)) er3) (hm 22 (by decide)) ⟨_, _, _, sh_22, rfl, rfl⟩ rfl rfl (Nat.le_of_ble_eq_true rfl) hl.1 ⟨Nat.le_of_ble_eq_true rfl, Nat.le_of_ble_eq_true rfl, Nat.le_of_ble_eq_true rfl, Nat.le_of_ble_eq_true rfl⟩ dX11_image_59 (fun H locs hS => ?_)
  refine lv_iconst (v := (1 : Int32)) C.1 C.2.1 dX11_image_62 rfl ?_
  exact hret _ _ _ _ _ _ rfl hS hf dX11_image_63
set_option maxHeartbeats 8000000 in
set_option maxRecDepth 100000 in
theorem w_X11_image_22 (C : zC G p s m args meth c cX11_image 2 RX11 (some .boolean)) (hm : ∀ c ∈ ndp_X11_image, c ∈ znm G) (hk : ∀ q ∈ ldp_X11_image, zlk G q.1 q.2 = true) (hret : ∀ (pc : Nat) (ls : Array Slot) (H : Heap) (locs : List Loc) (v : Int32) (h : zH), narrow .boolean (.int v) = .int v → zS G h s.heap H locs → some (v, h) = some q → decode cX11_image pc = .ok (.ireturn, 1) → W p l e (zrmC 5 21 2169) s m args below meth c H locs 21 2169 Q (F0 m pc ls [.int v])) : ∀ (ls : Array Slot) (H : Heap) (locs : List Loc) (h : zH), lv_has ls 2 [(0, .ref (zal G 0))] → zS G h s.heap H locs → f_X11_image_22 h = some q → W p l e (zrmC 5 21 2169) s m args below meth c H locs 21 2169 Q (F0 m 22 ls []) := by
  intro ls H locs h hl hS hf
  unfold f_X11_image_22 at hf
  refine lv_aload_n C.1 C.2.1 dX11_image_22 rfl (lv_at hl 0 rfl) ?_
  refine zgetN C hS ff_X11_304_0 (hm 0 (by decide)) dX11_image_23 (fun hc => ?_) (fun hc => ?_)
  · cases zif_t hc hf
  have hf := zif_f hc hf
  refine lv_aload_n C.1 C.2.1 dX11_image_26 rfl (lv_at hl 0 rfl) ?_
  refine zgetR C hS ff_X11_12_0 (hm 0 (by decide)) (hk (0, 0) (by decide)) dX11_image_27 ?_
  obtain ⟨r7, h8, er7, hf⟩ := zbd_some hf
  refine zcallVV (As := [.ref (zal G 1)]) (rest := []) C hS mv_X11_307 (c_X4_copyFrom_t50_r1 l G h  (r7, h8) (fun c h => hm c ((by decide : ∀ c ∈ nd_X4_copyFrom_t50_r1, c ∈ ndp_X11_image) c h)) (fun q h => hk q ((by decide : ∀ q ∈ ld_X4_copyFrom_t50_r1, q ∈ ldp_X11_image) q h)) er7) (hm 50 (by decide)) ⟨_, _, _, sh_50, rfl, rfl⟩ rfl rfl (Nat.le_of_ble_eq_true rfl) hl.1 ⟨Nat.le_of_ble_eq_true rfl, Nat.le_of_ble_eq_true rfl, Nat.le_of_ble_eq_true rfl, Nat.le_of_ble_eq_true rfl⟩ dX11_image_30 (fun H locs hS => ?_)
  refine lv_iconst (v := (1 : Int32)) C.1 C.2.1 dX11_image_33 rfl ?_
  exact hret _ _ _ _ _ _ rfl hS hf dX11_image_34
def zQX_X11_image (G : zG) (h0 : zH) (q : Int32 × zH) : Array Value → State → Outcome → State → Prop := va_Qi (fun r (G1 : zG) => r = q.1 ∧ ((G1 = G ∧ q.2 0 = h0 0) ∨ (∃ qs, G1 = zext G [50, 51, 52, 53, 54, 55, 56, 57, 58, 59, 60, 61, 62, 63, 64, 65, 66, 67, 68, 69, 70] [(51, 0), (51, 1), (51, 2), (51, 3), (50, 0), (56, 0), (56, 1), (56, 2), (50, 1), (60, 0), (60, 1), (60, 2), (60, 3), (50, 2), (65, 0), (65, 1), (65, 2), (50, 3), (50, 4), (50, 5)] qs ∧ h0 0 5 = 0 ∧ q.2 0 = upd (h0 0) 5 1))) (fun G1 t => zPost G1 q.2 t) (zA G)
set_option maxHeartbeats 8000000 in
set_option maxRecDepth 100000 in
theorem c_X11_image (l : Launch) (G : zG) (h0 : zH) (x1 : Int32) (q : Int32 × zH) (hm : ∀ c ∈ ndq_X11_image, c ∈ znm G) (hk : ∀ q ∈ ldq_X11_image, zlk G q.1 q.2 = true) (hcase : (¬ h0 0 5 = 0 → (∀ c ∈ ([50, 51, 52, 53, 54, 55, 56, 57, 58, 59, 60, 61, 62, 63, 64, 65, 66, 67, 68, 69, 70] : List Nat), c ∈ znm G) ∧ (∀ q ∈ ([(51, 0), (51, 1), (51, 2), (51, 3), (50, 0), (56, 0), (56, 1), (56, 2), (50, 1), (60, 0), (60, 1), (60, 2), (60, 3), (50, 2), (65, 0), (65, 1), (65, 2), (50, 3), (50, 4), (50, 5)] : List (Nat × Nat)), zlk G q.1 q.2 = true)) ∧ (h0 0 5 = 0 → (∀ c ∈ ([50, 51, 52, 53, 54, 55, 56, 57, 58, 59, 60, 61, 62, 63, 64, 65, 66, 67, 68, 69, 70] : List Nat), c ∉ znm G) ∧ ∀ c ∈ ([50, 51, 52, 53, 54, 55, 56, 57, 58, 59, 60, 61, 62, 63, 64, 65, 66, 67, 68, 69, 70] : List Nat), ∀ k, zlk G c k = false)) (hf : f_X11_image x1 h0 = some q) : Met l yX11_image (zw yX11_image cX11_image 2 (some .boolean)) (zrmC 5 21 2169) (va_Pc [.ref (zal G 0), .int x1] (zPre G h0)) (zQX_X11_image G h0 q) 21 2169 (zA G) := by
  refine Met.ofW (cc := cX11_image) (maxL := 2) (ret := (some .boolean)) (by decide) rfl ?_
  intro p e s m args below meth c s₁ B hml hv
  obtain ⟨rfl, hP, hD, hA, hK, hE⟩ := hv
  have hts := atoms_spec (ws := zw yX11_image cX11_image 2 (some .boolean)) B.pre
  have hl := lv_entry [.ref (zal G 0), .int x1] (n := 2) (Nat.le_of_ble_eq_true rfl)
  rw [lg_entry_eq]
  generalize (lg_sl [.ref (zal G 0), .int x1] ++ List.replicate (2 - (lg_sl [.ref (zal G 0), .int x1]).length) Slot.unset).toArray = ls at hl ⊢
  have hl : lv_has ls 2 [(0, .ref (zal G 0)), (1, .int x1)] := hl
  have C : zC G p s m [.ref (zal G 0), .int x1].toArray meth c cX11_image 2 RX11 (some .boolean) := ⟨B.exec, B.bytes, hml, findClass_of_methodNamed B.named, fun w hw => hts w (List.mem_cons_of_mem _ hw), hK, hE, hA, B.returns, B.notSynchronized⟩
  have hS : zS G h0 s.heap s.heap [] := ⟨hP, hD, va_S.rf⟩
  have hret : ∀ G1 : zG, (G1 = G ∧ q.2 0 = h0 0) ∨ (∃ qs, G1 = zext G [50, 51, 52, 53, 54, 55, 56, 57, 58, 59, 60, 61, 62, 63, 64, 65, 66, 67, 68, 69, 70] [(51, 0), (51, 1), (51, 2), (51, 3), (50, 0), (56, 0), (56, 1), (56, 2), (50, 1), (60, 0), (60, 1), (60, 2), (60, 3), (50, 2), (65, 0), (65, 1), (65, 2), (50, 3), (50, 4), (50, 5)] qs ∧ h0 0 5 = 0 ∧ q.2 0 = upd (h0 0) 5 1) → ∀ (pc : Nat) (ls : Array Slot) (H : Heap) (locs : List Loc) (v : Int32) (h : zH), narrow .boolean (.int v) = .int v → zS G1 h s.heap H locs → some (v, h) = some q → decode cX11_image pc = .ok (.ireturn, 1) → W p l e (zrmC 5 21 2169) s m [.ref (zal G 0), .int x1].toArray below meth c H locs 21 2169 (MQ below (zQX_X11_image G h0 q) [.ref (zal G 0), .int x1].toArray s 21 2169 (zA G)) (F0 m pc ls [.int v]) := by
    intro G1 hX pc ls H locs v h hn hS1 hq hdg
    have hA1 : zA G1 = zA G := by rcases hX with ⟨rfl, _⟩ | ⟨qs, rfl, _⟩ <;> rfl
    cases hq
    exact W.zret (v := v) C.1 C.2.1 C.2.2.2.2.2.2.2.2.1 hn (fun t ht hW => ⟨⟨v, G1, rfl, ⟨rfl, hX⟩, by rw [← ht] at hS1; exact ⟨hS1.1, hS1.2.1⟩⟩, by have h9 := hS1.2.2.F ht; rw [hA1] at h9; exact h9⟩) (by have h9 := hS1.2.2.2.2; rw [hA1] at h9; exact h9) hdg C.2.2.2.2.2.2.2.2.2
  have fr0 : h0 0 = h0 0 := rfl
  unfold f_X11_image at hf
  obtain ⟨h, eh⟩ : ∃ h, h = h0 := ⟨_, rfl⟩
  have hS : zS G h s.heap s.heap [] := by rw [eh]; exact hS
  rw [← eh] at hf
  have fr0 : h 0 = h0 0 := by rw [eh]
  refine lv_iload_n C.1 C.2.1 dX11_image_0 rfl (lv_at hl 1 rfl) ?_
  refine lv_if_eq (tgt := 35) C.1 C.2.1 dX11_image_1 (by decide) (fun hc => ?_) (fun hc => ?_)
  · have hf := zif_t hc hf
    refine lv_aload_n C.1 C.2.1 dX11_image_35 rfl (lv_at hl 0 rfl) ?_
    refine zgetN C hS ff_X11_304_0 (hm 0 (by decide)) dX11_image_36 (fun hc => ?_) (fun hc => ?_)
    · have hf := zif_t hc hf
      refine lv_ifnonnullN C.1 C.2.1 dX11_image_39 ?_
      refine lv_iconst (v := (0 : Int32)) C.1 C.2.1 dX11_image_42 rfl ?_
      have key : q.2 0 = h0 0 := by cases hf; exact fr0
      refine W.widen (k := 21) (n := 2169) (Nat.le_of_ble_eq_true rfl) (Nat.le_of_ble_eq_true rfl) ?_
      exact hret G (Or.inl ⟨rfl, key⟩) _ _ _ _ _ _ rfl hS hf dX11_image_43
    · have hf := zif_f hc hf
      have hc0 : ¬ h0 0 5 = 0 := by rw [← fr0]; exact hc
      refine lv_ifnonnull (tgt := 44) C.1 C.2.1 dX11_image_39 (by decide) ?_
      refine W.widen (k := 21) (n := 2169) (Nat.le_of_ble_eq_true rfl) (Nat.le_of_ble_eq_true rfl) ?_
      have key : q.2 0 = h0 0 := (m_X11_image_44 _  hf 0 (by decide)).trans fr0
      exact w_X11_image_44 C (fun c hc => ((by decide : ∀ c ∈ ndp_X11_image, c ∈ ndq_X11_image ∨ c ∈ ([50, 51, 52, 53, 54, 55, 56, 57, 58, 59, 60, 61, 62, 63, 64, 65, 66, 67, 68, 69, 70] : List Nat)) c hc).elim (hm c) ((hcase.1 hc0).1 c)) (fun q hq => ((by decide : ∀ q ∈ ldp_X11_image, q ∈ ldq_X11_image ∨ q ∈ ([(51, 0), (51, 1), (51, 2), (51, 3), (50, 0), (56, 0), (56, 1), (56, 2), (50, 1), (60, 0), (60, 1), (60, 2), (60, 3), (50, 2), (65, 0), (65, 1), (65, 2), (50, 3), (50, 4), (50, 5)] : List (Nat × Nat))) q hq).elim (hk q) ((hcase.1 hc0).2 q)) (hret _ (Or.inl ⟨rfl, key⟩)) _ _ _ _ (lv_sub hl [0] rfl) hS hf
  · have hf := zif_f hc hf
    obtain ⟨r6, h5, er6, hf⟩ := zbd_some hf
    unfold f_lz5 at er6
    refine lv_aload_n C.1 C.2.1 dX11_image_4 rfl (lv_at hl 0 rfl) ?_
    refine zgetN C hS ff_X11_304_0 (hm 0 (by decide)) dX11_image_5 (fun hc => ?_) (fun hc => ?_)
    · have er6 := zif_t hc er6
      have hc0 : h0 0 5 = 0 := by rw [← fr0]; exact hc
      refine lv_ifnonnullN C.1 C.2.1 dX11_image_8 ?_
      refine lv_aload_n C.1 C.2.1 dX11_image_11 rfl (lv_at hl 0 rfl) ?_
      refine znewo (d := 50) C hS ((hcase.2 hc0).1 50 (by decide)) (zun1n (by decide) hc) ((hcase.2 hc0).2 50 (by decide)) sh_50 rfl tyX4 tyX4_ok iz_X4 (by decide) (by decide) ⟨kw_112, kw_113, kw_85⟩ (Nat.le_of_ble_eq_true rfl) (Nat.le_of_ble_eq_true rfl) dX11_image_12 (fun q50 H hS => ?_)
      obtain ⟨hA1, ehA1, er6⟩ := zst_some er6
      rw [← ehA1] at hS
      refine lv_dup C.1 C.2.1 dX11_image_15 rfl ?_
      obtain ⟨rA, hA2, eA2, er6⟩ := zbd_some er6
      refine zcallJ (As := []) (rest := [.ref q50, .ref (zal G 0)]) (zC_ext _ _ _ C) hS mj_X11_11 (c_X4_init_t50 l (zext G [50] [] (fun _ => q50)) hA1 (rA, hA2) (zmem_n (by decide)) (fun d hd => zfresh ((hcase.2 hc0).1 d ((by decide : ∀ d ∈ ([51, 52, 53, 54, 55, 56, 57, 58, 59, 60, 61, 62, 63, 64, 65, 66, 67, 68, 69, 70] : List Nat), d ∈ ([50, 51, 52, 53, 54, 55, 56, 57, 58, 59, 60, 61, 62, 63, 64, 65, 66, 67, 68, 69, 70] : List Nat)) d hd)) ((by decide : ∀ d ∈ ([51, 52, 53, 54, 55, 56, 57, 58, 59, 60, 61, 62, 63, 64, 65, 66, 67, 68, 69, 70] : List Nat), d ∉ [50]) d hd)) (fun d hd => zlk_fn ((hcase.2 hc0).2 d hd) rfl) (fun q hq => absurd hq List.not_mem_nil) eA2) rfl rfl (Nat.le_of_ble_eq_true rfl) hl.1 ⟨Nat.le_of_ble_eq_true rfl, Nat.le_of_ble_eq_true rfl, Nat.le_of_ble_eq_true rfl, Nat.le_of_ble_eq_true rfl⟩ dX11_image_16 (fun qc H locs hS => ?_)
      obtain ⟨hA3, ehA3, er6⟩ := zst_some er6
      refine zputN (ty := .object "HalfAJoke$House") (zC_ext _ _ _ (zC_ext _ _ _ C)) hS ff_X11_304_0 (zfinN sh_0 rfl ⟨rfl, by decide +kernel⟩) (fun x => ⟨rfl, rfl⟩) (zmem_o (zmem_o (hm 0 (by decide)))) rfl rfl dX11_image_19 (fun H locs hS => ?_)
      rw [← ehA3] at hS
      cases er6
      rw [zext_zext] at hS
      obtain ⟨qs, hS⟩ : ∃ qs, zS (zext G [50, 51, 52, 53, 54, 55, 56, 57, 58, 59, 60, 61, 62, 63, 64, 65, 66, 67, 68, 69, 70] [(51, 0), (51, 1), (51, 2), (51, 3), (50, 0), (56, 0), (56, 1), (56, 2), (50, 1), (60, 0), (60, 1), (60, 2), (60, 3), (50, 2), (65, 0), (65, 1), (65, 2), (50, 3), (50, 4), (50, 5)] qs) h5 s.heap H locs := ⟨_, hS⟩
      have key : q.2 0 = upd (h0 0) 5 1 := by rw [m_X11_image_22 _  hf 0 (by decide), ehA3, zup_eq, show hA2 0 = hA1 0 from m_X4_init_t50_0 _ eA2, ehA1, zz_ne (by decide), fr0]
      exact w_X11_image_22 (G := zext G [50, 51, 52, 53, 54, 55, 56, 57, 58, 59, 60, 61, 62, 63, 64, 65, 66, 67, 68, 69, 70] [(51, 0), (51, 1), (51, 2), (51, 3), (50, 0), (56, 0), (56, 1), (56, 2), (50, 1), (60, 0), (60, 1), (60, 2), (60, 3), (50, 2), (65, 0), (65, 1), (65, 2), (50, 3), (50, 4), (50, 5)] qs) (zC_ext _ _ _ C) (fun c hc => ((by decide : ∀ c ∈ ndp_X11_image, c ∈ ndq_X11_image ∨ c ∈ ([50, 51, 52, 53, 54, 55, 56, 57, 58, 59, 60, 61, 62, 63, 64, 65, 66, 67, 68, 69, 70] : List Nat)) c hc).elim (fun z => zmem_o (hm c z)) zmem_n) (fun q hq => ((by decide : ∀ q ∈ ldp_X11_image, q ∈ ldq_X11_image ∨ ([(51, 0), (51, 1), (51, 2), (51, 3), (50, 0), (56, 0), (56, 1), (56, 2), (50, 1), (60, 0), (60, 1), (60, 2), (60, 3), (50, 2), (65, 0), (65, 1), (65, 2), (50, 3), (50, 4), (50, 5)] : List (Nat × Nat)).contains (q.1, q.2) = true) q hq).elim (fun z => zlk_o (hk q z)) zlk_t) (hret _ (Or.inr ⟨qs, rfl, hc0, key⟩)) _ _ _ _ (lv_sub hl [0] rfl) hS hf
    · have er6 := zif_f hc er6
      have hc0 : ¬ h0 0 5 = 0 := by rw [← fr0]; exact hc
      cases er6
      refine lv_ifnonnull (tgt := 22) C.1 C.2.1 dX11_image_8 (by decide) ?_
      refine W.widen (k := 21) (n := 2169) (Nat.le_of_ble_eq_true rfl) (Nat.le_of_ble_eq_true rfl) ?_
      have key : q.2 0 = h0 0 := (m_X11_image_22 _  hf 0 (by decide)).trans fr0
      exact w_X11_image_22 C (fun c hc => ((by decide : ∀ c ∈ ndp_X11_image, c ∈ ndq_X11_image ∨ c ∈ ([50, 51, 52, 53, 54, 55, 56, 57, 58, 59, 60, 61, 62, 63, 64, 65, 66, 67, 68, 69, 70] : List Nat)) c hc).elim (hm c) ((hcase.1 hc0).1 c)) (fun q hq => ((by decide : ∀ q ∈ ldp_X11_image, q ∈ ldq_X11_image ∨ q ∈ ([(51, 0), (51, 1), (51, 2), (51, 3), (50, 0), (56, 0), (56, 1), (56, 2), (50, 1), (60, 0), (60, 1), (60, 2), (60, 3), (50, 2), (65, 0), (65, 1), (65, 2), (50, 3), (50, 4), (50, 5)] : List (Nat × Nat))) q hq).elim (hk q) ((hcase.1 hc0).2 q)) (hret _ (Or.inl ⟨rfl, key⟩)) _ _ _ _ (lv_sub hl [0] rfl) hS hf
end
