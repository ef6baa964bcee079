theorem kw_109 : Cond.methodLink RX11 3 Lib.objectInit ∈ zg := zg_of (List.mem_of_getElem? (i := 109) (by decide +kernel)) (by decide +kernel)
theorem kw_112 : Cond.classLink RX11 9 RX4 ∈ zg := zg_of (List.mem_of_getElem? (i := 112) (by decide +kernel)) (by decide +kernel)
theorem kw_113 : Cond.instantiable RX4 9 ∈ zg := zg_of (List.mem_of_getElem? (i := 113) (by decide +kernel)) (by decide +kernel)
theorem kw_117 : Cond.methodLink RX4 3 Lib.objectInit ∈ zg := zg_of (List.mem_of_getElem? (i := 117) (by decide +kernel)) (by decide +kernel)
theorem kw_118 : Cond.classLink RX4 9 RX3 ∈ zg := zg_of (List.mem_of_getElem? (i := 118) (by decide +kernel)) (by decide +kernel)
theorem kw_119 : Cond.instantiable RX3 5 ∈ zg := zg_of (List.mem_of_getElem? (i := 119) (by decide +kernel)) (by decide +kernel)
theorem kw_123 : Cond.methodLink RX3 3 Lib.objectInit ∈ zg := zg_of (List.mem_of_getElem? (i := 123) (by decide +kernel)) (by decide +kernel)
theorem kw_121 : Cond.instanceMethod yX3_init ∈ zg := zg_of (List.mem_of_getElem? (i := 121) (by decide +kernel)) (by decide +kernel)
theorem kw_122 : Cond.code yX3_init cX3_init 1 none ∈ zg := zg_of (List.mem_of_getElem? (i := 122) (by decide +kernel)) (by decide +kernel)
theorem mj_X4_11 : zMJ RX4 11 yX3_init cX3_init 1 0 := ⟨⟨(by decide +kernel), kw_121, kw_86, kw_122⟩, ⟨by decide, by decide, by decide +kernel⟩, rfl, by decide⟩
theorem kw_153 : Cond.classLink RX4 18 RX9 ∈ zg := zg_of (List.mem_of_getElem? (i := 153) (by decide +kernel)) (by decide +kernel)
theorem kw_154 : Cond.instantiable RX9 5 ∈ zg := zg_of (List.mem_of_getElem? (i := 154) (by decide +kernel)) (by decide +kernel)
theorem kw_158 : Cond.methodLink RX9 3 Lib.objectInit ∈ zg := zg_of (List.mem_of_getElem? (i := 158) (by decide +kernel)) (by decide +kernel)
theorem kw_159 : Cond.methodLink RX9 21 yX9_layFor ∈ zg := zg_of (List.mem_of_getElem? (i := 159) (by decide +kernel)) (by decide +kernel)
theorem mv_X9_21 : zMV RX9 21 yX9_layFor cX9_layFor 3 none 1 := ⟨⟨kw_159, kw_160, kw_161, kw_87, kw_162⟩, ⟨by decide, by decide, by decide +kernel⟩, by decide⟩
theorem kw_155 : Cond.methodLink RX4 20 yX9_init ∈ zg := zg_of (List.mem_of_getElem? (i := 155) (by decide +kernel)) (by decide +kernel)
theorem kw_156 : Cond.instanceMethod yX9_init ∈ zg := zg_of (List.mem_of_getElem? (i := 156) (by decide +kernel)) (by decide +kernel)
theorem kw_157 : Cond.code yX9_init cX9_init 1 none ∈ zg := zg_of (List.mem_of_getElem? (i := 157) (by decide +kernel)) (by decide +kernel)
theorem mi_X4_20 : zMI RX4 20 yX9_init cX9_init 1 0 := ⟨⟨kw_155, kw_156, kw_87, kw_157⟩, ⟨by decide, by decide, by decide +kernel⟩, rfl, by decide⟩
theorem kw_185 : Cond.classLink RX4 25 RX0 ∈ zg := zg_of (List.mem_of_getElem? (i := 185) (by decide +kernel)) (by decide +kernel)
theorem kw_186 : Cond.instantiable RX0 6 ∈ zg := zg_of (List.mem_of_getElem? (i := 186) (by decide +kernel)) (by decide +kernel)
theorem kw_190 : Cond.methodLink RX0 3 Lib.objectInit ∈ zg := zg_of (List.mem_of_getElem? (i := 190) (by decide +kernel)) (by decide +kernel)
theorem kw_188 : Cond.instanceMethod yX0_init ∈ zg := zg_of (List.mem_of_getElem? (i := 188) (by decide +kernel)) (by decide +kernel)
theorem kw_189 : Cond.code yX0_init cX0_init 1 none ∈ zg := zg_of (List.mem_of_getElem? (i := 189) (by decide +kernel)) (by decide +kernel)
theorem mj_X4_27 : zMJ RX4 27 yX0_init cX0_init 1 0 := ⟨⟨(by decide +kernel), kw_188, kw_88, kw_189⟩, ⟨by decide, by decide, by decide +kernel⟩, rfl, by decide⟩
theorem kw_224 : Cond.classLink RX4 32 RX5 ∈ zg := zg_of (List.mem_of_getElem? (i := 224) (by decide +kernel)) (by decide +kernel)
theorem kw_225 : Cond.instantiable RX5 5 ∈ zg := zg_of (List.mem_of_getElem? (i := 225) (by decide +kernel)) (by decide +kernel)
theorem kw_229 : Cond.methodLink RX5 5 Lib.objectInit ∈ zg := zg_of (List.mem_of_getElem? (i := 229) (by decide +kernel)) (by decide +kernel)
theorem kw_227 : Cond.instanceMethod yX5_init ∈ zg := zg_of (List.mem_of_getElem? (i := 227) (by decide +kernel)) (by decide +kernel)
theorem kw_228 : Cond.code yX5_init cX5_init 1 none ∈ zg := zg_of (List.mem_of_getElem? (i := 228) (by decide +kernel)) (by decide +kernel)
theorem mj_X4_34 : zMJ RX4 34 yX5_init cX5_init 1 0 := ⟨⟨(by decide +kernel), kw_227, kw_89, kw_228⟩, ⟨by decide, by decide, by decide +kernel⟩, rfl, by decide⟩
theorem kw_115 : Cond.instanceMethod yX4_init ∈ zg := zg_of (List.mem_of_getElem? (i := 115) (by decide +kernel)) (by decide +kernel)
theorem kw_116 : Cond.code yX4_init cX4_init 1 none ∈ zg := zg_of (List.mem_of_getElem? (i := 116) (by decide +kernel)) (by decide +kernel)
theorem mj_X11_11 : zMJ RX11 11 yX4_init cX4_init 1 0 := ⟨⟨(by decide +kernel), kw_115, kw_85, kw_116⟩, ⟨by decide, by decide, by decide +kernel⟩, rfl, by decide⟩
theorem kw_292 : Cond.classLink RX11 16 RX6 ∈ zg := zg_of (List.mem_of_getElem? (i := 292) (by decide +kernel)) (by decide +kernel)
theorem kw_293 : Cond.instantiable RX6 8 ∈ zg := zg_of (List.mem_of_getElem? (i := 293) (by decide +kernel)) (by decide +kernel)
theorem kw_297 : Cond.methodLink RX6 3 Lib.objectInit ∈ zg := zg_of (List.mem_of_getElem? (i := 297) (by decide +kernel)) (by decide +kernel)
theorem kw_295 : Cond.instanceMethod yX6_init ∈ zg := zg_of (List.mem_of_getElem? (i := 295) (by decide +kernel)) (by decide +kernel)
theorem kw_296 : Cond.code yX6_init cX6_init 1 none ∈ zg := zg_of (List.mem_of_getElem? (i := 296) (by decide +kernel)) (by decide +kernel)
theorem mj_X11_18 : zMJ RX11 18 yX6_init cX6_init 1 0 := ⟨⟨(by decide +kernel), kw_295, kw_90, kw_296⟩, ⟨by decide, by decide, by decide +kernel⟩, rfl, by decide⟩
theorem kw_324 : Cond.classLink RX11 23 RX7 ∈ zg := zg_of (List.mem_of_getElem? (i := 324) (by decide +kernel)) (by decide +kernel)
theorem kw_325 : Cond.instantiable RX7 11 ∈ zg := zg_of (List.mem_of_getElem? (i := 325) (by decide +kernel)) (by decide +kernel)
theorem kw_329 : Cond.methodLink RX7 3 Lib.objectInit ∈ zg := zg_of (List.mem_of_getElem? (i := 329) (by decide +kernel)) (by decide +kernel)
theorem kw_330 : Cond.classLink RX7 25 RX5 ∈ zg := zg_of (List.mem_of_getElem? (i := 330) (by decide +kernel)) (by decide +kernel)
theorem ff_X5_18_34 : zFc RX5 18 34 2 (some (37, false)) := ⟨_, _, _, tyX5, sh_34, rfl, by decide, iz_X5, kw_232, rfl, tyX5_ok, nmX5⟩
theorem mj_X7_27 : zMJ RX7 27 yX5_init cX5_init 1 0 := ⟨⟨(by decide +kernel), kw_227, kw_89, kw_228⟩, ⟨by decide, by decide, by decide +kernel⟩, rfl, by decide⟩
theorem kw_327 : Cond.instanceMethod yX7_init ∈ zg := zg_of (List.mem_of_getElem? (i := 327) (by decide +kernel)) (by decide +kernel)
theorem kw_328 : Cond.code yX7_init cX7_init 1 none ∈ zg := zg_of (List.mem_of_getElem? (i := 328) (by decide +kernel)) (by decide +kernel)
theorem mj_X11_25 : zMJ RX11 25 yX7_init cX7_init 1 0 := ⟨⟨(by decide +kernel), kw_327, kw_91, kw_328⟩, ⟨by decide, by decide, by decide +kernel⟩, rfl, by decide⟩
theorem kw_371 : Cond.classLink RX11 30 RX1 ∈ zg := zg_of (List.mem_of_getElem? (i := 371) (by decide +kernel)) (by decide +kernel)
theorem kw_372 : Cond.instantiable RX1 14 ∈ zg := zg_of (List.mem_of_getElem? (i := 372) (by decide +kernel)) (by decide +kernel)
theorem kw_376 : Cond.methodLink RX1 3 Lib.objectInit ∈ zg := zg_of (List.mem_of_getElem? (i := 376) (by decide +kernel)) (by decide +kernel)
theorem kw_373 : Cond.methodLink RX11 32 yX1_init ∈ zg := zg_of (List.mem_of_getElem? (i := 373) (by decide +kernel)) (by decide +kernel)
theorem kw_374 : Cond.instanceMethod yX1_init ∈ zg := zg_of (List.mem_of_getElem? (i := 374) (by decide +kernel)) (by decide +kernel)
theorem kw_375 : Cond.code yX1_init cX1_init 2 none ∈ zg := zg_of (List.mem_of_getElem? (i := 375) (by decide +kernel)) (by decide +kernel)
theorem mi_X11_32 : zMI RX11 32 yX1_init cX1_init 2 1 := ⟨⟨kw_373, kw_374, kw_92, kw_375⟩, ⟨by decide, by decide, by decide +kernel⟩, rfl, by decide⟩
theorem ff_X5_18_65 : zFc RX5 18 65 2 (some (68, false)) := ⟨_, _, _, tyX5, sh_65, rfl, by decide, iz_X5, kw_232, rfl, tyX5_ok, nmX5⟩
theorem ff_X4_43_50 : zFc RX4 43 50 5 (some (70, false)) := ⟨_, _, _, tyX4, sh_50, rfl, by decide, iz_X4, kw_264, rfl, tyX4_ok, nmX4⟩
theorem kw_963 : Cond.methodLink RX8 3 Lib.objectInit ∈ zg := zg_of (List.mem_of_getElem? (i := 963) (by decide +kernel)) (by decide +kernel)
theorem kw_899 : Cond.methodLink RX2 5 Lib.objectInit ∈ zg := zg_of (List.mem_of_getElem? (i := 899) (by decide +kernel)) (by decide +kernel)
theorem kw_1038 : Cond.methodLink RX10 3 Lib.objectInit ∈ zg := zg_of (List.mem_of_getElem? (i := 1038) (by decide +kernel)) (by decide +kernel)
theorem kw_1132 : Cond.methodLink RX12 1 Lib.objectInit ∈ zg := zg_of (List.mem_of_getElem? (i := 1132) (by decide +kernel)) (by decide +kernel)
section
abbrev nd_X9_layFor_t56 : List Nat := [56, 58, 59]
abbrev ld_X9_layFor_t56 : List (Nat × Nat) := [(56, 1), (56, 2)]
def f_X9_layFor_t56_28  : Nat → Int32 → zH → zR
  | 0 => fun _ _ => none
  | n + 1 => fun x2 h => (if (8 : Int32) ≤ x2 then (some (0, h)) else (zck x2 8 (zst (zup h 58 (Int32.toNatClampNeg x2) (-1 : Int32)) fun h2 => (zlt (x2 + (1 : Int32)) fun y3 => (f_X9_layFor_t56_28  n y3 h2)))))
def f_X9_layFor_t56_7  : Nat → Int32 → zH → zR
  | 0 => fun _ _ => none
  | n + 1 => fun x2 h => (if (8 : Int32) ≤ x2 then (f_X9_layFor_t56_28  zN (0 : Int32) h) else (zck x2 8 (zst (zup h 59 (Int32.toNatClampNeg x2) (-1 : Int32)) fun h4 => (zlt (x2 + (1 : Int32)) fun y5 => (f_X9_layFor_t56_7  n y5 h4)))))
def f_X9_layFor_t56  (x1 : Int32) (h : zH) : zR := (zst (zup h 56 3 x1) fun h1 => (f_X9_layFor_t56_7  zN (0 : Int32) h1))
variable {p : Program} {l : Launch} {e : Env} {s : State} {m : MethodId} {args : Array Value} {below : List Frame} {meth : Method} {c : Code} {G : zG} {q : Int32 × zH}
set_option maxHeartbeats 4000000 in
set_option maxRecDepth 100000 in
theorem w_X9_layFor_t56_28  (C : zC G p s m args meth c cX9_layFor 3 RX9 none) (hm : ∀ c ∈ nd_X9_layFor_t56, c ∈ znm G) (hk : ∀ q ∈ ld_X9_layFor_t56, zlk G q.1 q.2 = true)  : ∀ n, ∀ (ls : Array Slot) (H : Heap) (locs : List Loc) (h : zH) (x2 : Int32), lv_has ls 3 [(0, .ref (zal G 56)), (2, .int x2)] → zS G h s.heap H locs → f_X9_layFor_t56_28  n x2 h = some q → W p l e (zrm (2)) s m args below meth c H locs 0 0 (MQ below (zQV G q.2) args s 0 0 (zA G)) (F0 m 28 ls []) := by
  intro n
  induction n with
  | zero => intro ls H locs h x2 hl hS hf; cases hf
  | succ n ih =>
    intro ls H locs h x2 hl hS hf
    rw [f_X9_layFor_t56_28] at hf
    refine lv_iload_n C.1 C.2.1 dX9_layFor_28 rfl (lv_at hl 1 rfl) ?_
    refine lv_bipush (v := (8 : Int32)) C.1 C.2.1 dX9_layFor_29 rfl ?_
    refine lv_icmp_ge (tgt := 47) C.1 C.2.1 dX9_layFor_31 (by decide) (fun hc => ?_) (fun hc => ?_)
    · have hf := zif_t hc hf
      exact zretV C hS hf dX9_layFor_47
    · have hf := zif_f hc hf
      refine lv_aload_n C.1 C.2.1 dX9_layFor_34 rfl (lv_at hl 0 rfl) ?_
      refine zgetR C hS ff_X9_15_56 (hm 56 (by decide)) (hk (56, 1) (by decide)) dX9_layFor_35 ?_
      refine lv_iload_n C.1 C.2.1 dX9_layFor_38 rfl (lv_at hl 1 rfl) ?_
      refine lv_iconst (v := (-1 : Int32)) C.1 C.2.1 dX9_layFor_39 rfl ?_
      obtain ⟨hi, hf⟩ := zck_some hf
      refine zast C hS sh_58 (hm 58 (by decide)) hi dX9_layFor_40 (fun H locs hS => ?_)
      obtain ⟨h2, eh2, hf⟩ := zst_some hf
      have hS : zS G h2 s.heap H locs := by rw [eh2]; exact hS
      obtain ⟨y3, ey3, hf⟩ := zlt_some hf
      refine lv_iinc (v := y3) (lv' := [(2, .int y3), (0, .ref (zal G 56))]) C.1 C.2.1 dX9_layFor_41 hl (k := 1) rfl ey3.symm (by decide) rfl (fun ls hl => ?_)
      refine lv_goto (tgt := 28) C.1 C.2.1 dX9_layFor_44 (by decide) ?_
      exact ih _ _ _ _ _ (lv_sub hl [1, 0] rfl) hS hf
set_option maxHeartbeats 4000000 in
set_option maxRecDepth 100000 in
theorem w_X9_layFor_t56_7  (C : zC G p s m args meth c cX9_layFor 3 RX9 none) (hm : ∀ c ∈ nd_X9_layFor_t56, c ∈ znm G) (hk : ∀ q ∈ ld_X9_layFor_t56, zlk G q.1 q.2 = true)  : ∀ n, ∀ (ls : Array Slot) (H : Heap) (locs : List Loc) (h : zH) (x2 : Int32), lv_has ls 3 [(0, .ref (zal G 56)), (2, .int x2)] → zS G h s.heap H locs → f_X9_layFor_t56_7  n x2 h = some q → W p l e (zrm (2)) s m args below meth c H locs 0 0 (MQ below (zQV G q.2) args s 0 0 (zA G)) (F0 m 7 ls []) := by
  intro n
  induction n with
  | zero => intro ls H locs h x2 hl hS hf; cases hf
  | succ n ih =>
    intro ls H locs h x2 hl hS hf
    rw [f_X9_layFor_t56_7] at hf
    refine lv_iload_n C.1 C.2.1 dX9_layFor_7 rfl (lv_at hl 1 rfl) ?_
    refine lv_bipush (v := (8 : Int32)) C.1 C.2.1 dX9_layFor_8 rfl ?_
    refine lv_icmp_ge (tgt := 26) C.1 C.2.1 dX9_layFor_10 (by decide) (fun hc => ?_) (fun hc => ?_)
    · have hf := zif_t hc hf
      refine lv_iconst (v := (0 : Int32)) C.1 C.2.1 dX9_layFor_26 rfl ?_
      refine lv_istore_n (lv' := [(2, .int (0 : Int32)), (0, .ref (zal G 56))]) C.1 C.2.1 dX9_layFor_27 rfl hl (by decide) rfl (fun ls hl => ?_)
      exact w_X9_layFor_t56_28 C hm hk  zN _ _ _ _ _ (lv_sub hl [1, 0] rfl) hS hf
    · have hf := zif_f hc hf
      refine lv_aload_n C.1 C.2.1 dX9_layFor_13 rfl (lv_at hl 0 rfl) ?_
      refine zgetR C hS ff_X9_18_56 (hm 56 (by decide)) (hk (56, 2) (by decide)) dX9_layFor_14 ?_
      refine lv_iload_n C.1 C.2.1 dX9_layFor_17 rfl (lv_at hl 1 rfl) ?_
      refine lv_iconst (v := (-1 : Int32)) C.1 C.2.1 dX9_layFor_18 rfl ?_
      obtain ⟨hi, hf⟩ := zck_some hf
      refine zast C hS sh_59 (hm 59 (by decide)) hi dX9_layFor_19 (fun H locs hS => ?_)
      obtain ⟨h4, eh4, hf⟩ := zst_some hf
      have hS : zS G h4 s.heap H locs := by rw [eh4]; exact hS
      obtain ⟨y5, ey5, hf⟩ := zlt_some hf
      refine lv_iinc (v := y5) (lv' := [(2, .int y5), (0, .ref (zal G 56))]) C.1 C.2.1 dX9_layFor_20 hl (k := 1) rfl ey5.symm (by decide) rfl (fun ls hl => ?_)
      refine lv_goto (tgt := 7) C.1 C.2.1 dX9_layFor_23 (by decide) ?_
      exact ih _ _ _ _ _ (lv_sub hl [1, 0] rfl) hS hf
set_option maxHeartbeats 4000000 in
set_option maxRecDepth 100000 in
theorem c_X9_layFor_t56 (l : Launch) (G : zG) (h : zH) (x1 : Int32) (q : Int32 × zH) (hm : ∀ c ∈ nd_X9_layFor_t56, c ∈ znm G) (hk : ∀ q ∈ ld_X9_layFor_t56, zlk G q.1 q.2 = true) (hf : f_X9_layFor_t56 x1 h = some q) : zCtV l yX9_layFor cX9_layFor 3 none (2) [.ref (zal G 56), .int x1] G h q.2 := by
  refine zMetV (by decide) (Nat.le_of_ble_eq_true rfl) ?_
  intro p e s m below meth c ls C hl hS
  have hl : lv_has ls 3 [(0, .ref (zal G 56)), (1, .int x1)] := hl
  have C : zC G p s m [.ref (zal G 56), .int x1].toArray meth c cX9_layFor 3 RX9 none := C
  unfold f_X9_layFor_t56 at hf
  refine lv_aload_n C.1 C.2.1 dX9_layFor_0 rfl (lv_at hl 0 rfl) ?_
  refine lv_iload_n C.1 C.2.1 dX9_layFor_1 rfl (lv_at hl 1 rfl) ?_
  refine zputI C hS ff_X9_31_56 fw_56_3 (hm 56 (by decide)) dX9_layFor_2 (fun H locs hS => ?_)
  obtain ⟨h1, eh1, hf⟩ := zst_some hf
  have hS : zS G h1 s.heap H locs := by rw [eh1]; exact hS
  refine lv_iconst (v := (0 : Int32)) C.1 C.2.1 dX9_layFor_5 rfl ?_
  refine lv_istore_n (lv' := [(2, .int (0 : Int32)), (0, .ref (zal G 56)), (1, .int x1)]) C.1 C.2.1 dX9_layFor_6 rfl hl (by decide) rfl (fun ls hl => ?_)
  exact w_X9_layFor_t56_7 C hm hk  zN _ _ _ _ _ (lv_sub hl [1, 0] rfl) hS hf
end
section
theorem dX3_init_0 : decode cX3_init 0 = .ok (.aload_n 0, 1) := by decide +kernel
theorem dX3_init_1 : decode cX3_init 1 = .ok (.invokespecial 3, 3) := by decide +kernel
theorem dX3_init_4 : decode cX3_init 4 = .ok (.aload_n 0, 1) := by decide +kernel
theorem dX3_init_5 : decode cX3_init 5 = .ok (.bipush 16, 2) := by decide +kernel
theorem dX3_init_7 : decode cX3_init 7 = .ok (.newarray .int, 2) := by decide +kernel
theorem dX3_init_9 : decode cX3_init 9 = .ok (.putfield 9, 3) := by decide +kernel
theorem dX3_init_12 : decode cX3_init 12 = .ok (.aload_n 0, 1) := by decide +kernel
theorem dX3_init_13 : decode cX3_init 13 = .ok (.bipush 16, 2) := by decide +kernel
theorem dX3_init_15 : decode cX3_init 15 = .ok (.newarray .int, 2) := by decide +kernel
theorem dX3_init_17 : decode cX3_init 17 = .ok (.putfield 15, 3) := by decide +kernel
theorem dX3_init_20 : decode cX3_init 20 = .ok (.aload_n 0, 1) := by decide +kernel
theorem dX3_init_21 : decode cX3_init 21 = .ok (.bipush 16, 2) := by decide +kernel
theorem dX3_init_23 : decode cX3_init 23 = .ok (.newarray .int, 2) := by decide +kernel
theorem dX3_init_25 : decode cX3_init 25 = .ok (.putfield 18, 3) := by decide +kernel
theorem dX3_init_28 : decode cX3_init 28 = .ok (.aload_n 0, 1) := by decide +kernel
theorem dX3_init_29 : decode cX3_init 29 = .ok (.bipush 96, 2) := by decide +kernel
theorem dX3_init_31 : decode cX3_init 31 = .ok (.newarray .int, 2) := by decide +kernel
theorem dX3_init_33 : decode cX3_init 33 = .ok (.putfield 21, 3) := by decide +kernel
theorem dX3_init_36 : decode cX3_init 36 = .ok (.return_, 1) := by decide +kernel
def f_X3_init_t2 (h : zH) : zR := (zst (zz h 3) fun h1 => (zst (zz h1 4) fun h2 => (zst (zz h2 5) fun h3 => (zst (zz h3 6) fun h4 => (some (0, h4))))))
set_option maxHeartbeats 8000000 in
set_option maxRecDepth 100000 in
theorem c_X3_init_t2 (l : Launch) (G : zG) (h : zH) (q : Int32 × zH) (hthis : 2 ∈ znm G) (hfr : ∀ d ∈ ([3, 4, 5, 6] : List Nat), d ∉ znm G) (hz : ∀ d ∈ ([2, 3, 4, 5, 6] : List Nat), ∀ k, zlk G d k = false) (hx : ∀ q ∈ ([] : List (Nat × Nat)), zlk G q.1 q.2 = false) (hf : f_X3_init_t2 h = some q) : zCtC l yX3_init cX3_init 1 2 4 144 [.ref (zal G 2)] G h [3, 4, 5, 6] [(2, 0), (2, 1), (2, 2), (2, 3)] q.2 := by
  refine zMetC (by decide) rfl (Nat.le_of_ble_eq_true rfl) ?_
  intro p e s m below meth c ls C0 hin hl hS
  have hl : lv_has ls 1 [(0, .ref (zal G 2))] := hl
  have C0 : zC G p s m [.ref (zal G 2)].toArray meth c cX3_init 1 RX3 none := C0
  obtain ⟨qs, hS⟩ : ∃ qs, zS (zext G [] [] qs) h s.heap s.heap [] := ⟨_, hS⟩
  have C := zC_ext [] [] qs C0
  unfold f_X3_init_t2 at hf
  refine lv_aload_n C.1 C.2.1 dX3_init_0 rfl (lv_at hl 0 rfl) ?_
  refine zobj C kw_123 (Nat.le_of_ble_eq_true rfl) hl.1 ⟨Nat.le_of_ble_eq_true rfl, Nat.le_of_ble_eq_true rfl⟩ dX3_init_1 ?_
  refine lv_aload_n C.1 C.2.1 dX3_init_4 rfl (lv_at hl 0 rfl) ?_
  refine lv_bipush (v := (16 : Int32)) C.1 C.2.1 dX3_init_5 rfl ?_
  refine znewa (d := 3) C hS (zfresh (hfr 3 (by decide)) (by decide)) (zun1 (by decide) (zlk_f (hz 2 (by decide) 0) (by decide))) sh_3 (by decide) rfl (by decide) (Nat.le_of_ble_eq_true rfl) (Nat.le_of_ble_eq_true rfl) dX3_init_7 (fun q3 H hS => ?_)
  obtain ⟨h1, eh1, hf⟩ := zst_some hf
  rw [← eh1] at hS
  refine zputL (ty := .array .int) (zC_ext _ _ _ C) hS ff_X3_9_2 (zfinL sh_2 rfl ⟨rfl, rfl, by decide +kernel⟩) hin (fun x => ⟨rfl, rfl⟩) (zmem_o (zmem_o hthis)) rfl rfl dX3_init_9 (fun H locs hS => ?_)
  rw [zext_zext, zext_zext] at hS
  obtain ⟨qs, hS⟩ : ∃ qs, zS (zext G [3] [(2, 0)] qs) h1 s.heap H locs := ⟨_, hS⟩
  have C := zC_ext [3] [(2, 0)] qs C0
  refine lv_aload_n C.1 C.2.1 dX3_init_12 rfl (lv_at hl 0 rfl) ?_
  refine lv_bipush (v := (16 : Int32)) C.1 C.2.1 dX3_init_13 rfl ?_
  refine znewa (d := 4) C hS (zfresh (hfr 4 (by decide)) (by decide)) (zun1 (by decide) (zlk_f (hz 2 (by decide) 1) (by decide))) sh_4 (by decide) rfl (by decide) (Nat.le_of_ble_eq_true rfl) (Nat.le_of_ble_eq_true rfl) dX3_init_15 (fun q4 H hS => ?_)
  obtain ⟨h2, eh2, hf⟩ := zst_some hf
  rw [← eh2] at hS
  refine zputL (ty := .array .int) (zC_ext _ _ _ C) hS ff_X3_15_2 (zfinL sh_2 rfl ⟨rfl, rfl, by decide +kernel⟩) hin (fun x => ⟨rfl, rfl⟩) (zmem_o (zmem_o hthis)) rfl rfl dX3_init_17 (fun H locs hS => ?_)
  rw [zext_zext, zext_zext] at hS
  obtain ⟨qs, hS⟩ : ∃ qs, zS (zext G [3, 4] [(2, 0), (2, 1)] qs) h2 s.heap H locs := ⟨_, hS⟩
  have C := zC_ext [3, 4] [(2, 0), (2, 1)] qs C0
  refine lv_aload_n C.1 C.2.1 dX3_init_20 rfl (lv_at hl 0 rfl) ?_
  refine lv_bipush (v := (16 : Int32)) C.1 C.2.1 dX3_init_21 rfl ?_
  refine znewa (d := 5) C hS (zfresh (hfr 5 (by decide)) (by decide)) (zun1 (by decide) (zlk_f (hz 2 (by decide) 2) (by decide))) sh_5 (by decide) rfl (by decide) (Nat.le_of_ble_eq_true rfl) (Nat.le_of_ble_eq_true rfl) dX3_init_23 (fun q5 H hS => ?_)
  obtain ⟨h3, eh3, hf⟩ := zst_some hf
  rw [← eh3] at hS
  refine zputL (ty := .array .int) (zC_ext _ _ _ C) hS ff_X3_18_2 (zfinL sh_2 rfl ⟨rfl, rfl, by decide +kernel⟩) hin (fun x => ⟨rfl, rfl⟩) (zmem_o (zmem_o hthis)) rfl rfl dX3_init_25 (fun H locs hS => ?_)
  rw [zext_zext, zext_zext] at hS
  obtain ⟨qs, hS⟩ : ∃ qs, zS (zext G [3, 4, 5] [(2, 0), (2, 1), (2, 2)] qs) h3 s.heap H locs := ⟨_, hS⟩
  have C := zC_ext [3, 4, 5] [(2, 0), (2, 1), (2, 2)] qs C0
  refine lv_aload_n C.1 C.2.1 dX3_init_28 rfl (lv_at hl 0 rfl) ?_
  refine lv_bipush (v := (96 : Int32)) C.1 C.2.1 dX3_init_29 rfl ?_
  refine znewa (d := 6) C hS (zfresh (hfr 6 (by decide)) (by decide)) (zun1 (by decide) (zlk_f (hz 2 (by decide) 3) (by decide))) sh_6 (by decide) rfl (by decide) (Nat.le_of_ble_eq_true rfl) (Nat.le_of_ble_eq_true rfl) dX3_init_31 (fun q6 H hS => ?_)
  obtain ⟨h4, eh4, hf⟩ := zst_some hf
  rw [← eh4] at hS
  refine zputL (ty := .array .int) (zC_ext _ _ _ C) hS ff_X3_21_2 (zfinL sh_2 rfl ⟨rfl, rfl, by decide +kernel⟩) hin (fun x => ⟨rfl, rfl⟩) (zmem_o (zmem_o hthis)) rfl rfl dX3_init_33 (fun H locs hS => ?_)
  rw [zext_zext, zext_zext] at hS
  obtain ⟨qs, hS⟩ : ∃ qs, zS (zext G [3, 4, 5, 6] [(2, 0), (2, 1), (2, 2), (2, 3)] qs) h4 s.heap H locs := ⟨_, hS⟩
  have C := zC_ext [3, 4, 5, 6] [(2, 0), (2, 1), (2, 2), (2, 3)] qs C0
  refine W.widen (k := 4) (n := 144) (Nat.le_of_ble_eq_true rfl) (Nat.le_of_ble_eq_true rfl) ?_
  exact zretC C0 hS hf dX3_init_36
end
section
theorem dX9_init_0 : decode cX9_init 0 = .ok (.aload_n 0, 1) := by decide +kernel
theorem dX9_init_1 : decode cX9_init 1 = .ok (.invokespecial 3, 3) := by decide +kernel
theorem dX9_init_4 : decode cX9_init 4 = .ok (.aload_n 0, 1) := by decide +kernel
theorem dX9_init_5 : decode cX9_init 5 = .ok (.bipush 8, 2) := by decide +kernel
theorem dX9_init_7 : decode cX9_init 7 = .ok (.newarray .int, 2) := by decide +kernel
theorem dX9_init_9 : decode cX9_init 9 = .ok (.putfield 9, 3) := by decide +kernel
theorem dX9_init_12 : decode cX9_init 12 = .ok (.aload_n 0, 1) := by decide +kernel
theorem dX9_init_13 : decode cX9_init 13 = .ok (.bipush 8, 2) := by decide +kernel
theorem dX9_init_15 : decode cX9_init 15 = .ok (.newarray .int, 2) := by decide +kernel
theorem dX9_init_17 : decode cX9_init 17 = .ok (.putfield 15, 3) := by decide +kernel
theorem dX9_init_20 : decode cX9_init 20 = .ok (.aload_n 0, 1) := by decide +kernel
theorem dX9_init_21 : decode cX9_init 21 = .ok (.bipush 8, 2) := by decide +kernel
theorem dX9_init_23 : decode cX9_init 23 = .ok (.newarray .int, 2) := by decide +kernel
theorem dX9_init_25 : decode cX9_init 25 = .ok (.putfield 18, 3) := by decide +kernel
theorem dX9_init_28 : decode cX9_init 28 = .ok (.aload_n 0, 1) := by decide +kernel
theorem dX9_init_29 : decode cX9_init 29 = .ok (.bipush 6, 2) := by decide +kernel
theorem dX9_init_31 : decode cX9_init 31 = .ok (.invokevirtual 21, 3) := by decide +kernel
theorem dX9_init_34 : decode cX9_init 34 = .ok (.return_, 1) := by decide +kernel
def f_X9_init_t7 (h : zH) : zR := (zst (zz h 8) fun h1 => (zst (zz h1 9) fun h2 => (zst (zz h2 10) fun h3 => (zbd (f_X9_layFor (6 : Int32) h3) fun r4 h5 => (some (0, h5))))))
set_option maxHeartbeats 8000000 in
set_option maxRecDepth 100000 in
theorem c_X9_init_t7 (l : Launch) (G : zG) (h : zH) (q : Int32 × zH) (hthis : 7 ∈ znm G) (hfr : ∀ d ∈ ([8, 9, 10] : List Nat), d ∉ znm G) (hz : ∀ d ∈ ([7, 8, 9, 10] : List Nat), ∀ k, zlk G d k = false) (hx : ∀ q ∈ ([] : List (Nat × Nat)), zlk G q.1 q.2 = false) (hf : f_X9_init_t7 h = some q) : zCtC l yX9_init cX9_init 1 3 3 24 [.ref (zal G 7)] G h [8, 9, 10] [(7, 0), (7, 1), (7, 2)] q.2 := by
  refine zMetC (by decide) rfl (Nat.le_of_ble_eq_true rfl) ?_
  intro p e s m below meth c ls C0 hin hl hS
  have hl : lv_has ls 1 [(0, .ref (zal G 7))] := hl
  have C0 : zC G p s m [.ref (zal G 7)].toArray meth c cX9_init 1 RX9 none := C0
  obtain ⟨qs, hS⟩ : ∃ qs, zS (zext G [] [] qs) h s.heap s.heap [] := ⟨_, hS⟩
  have C := zC_ext [] [] qs C0
  unfold f_X9_init_t7 at hf
  refine lv_aload_n C.1 C.2.1 dX9_init_0 rfl (lv_at hl 0 rfl) ?_
  refine zobj C kw_158 (Nat.le_of_ble_eq_true rfl) hl.1 ⟨Nat.le_of_ble_eq_true rfl, Nat.le_of_ble_eq_true rfl⟩ dX9_init_1 ?_
  refine lv_aload_n C.1 C.2.1 dX9_init_4 rfl (lv_at hl 0 rfl) ?_
  refine lv_bipush (v := (8 : Int32)) C.1 C.2.1 dX9_init_5 rfl ?_
  refine znewa (d := 8) C hS (zfresh (hfr 8 (by decide)) (by decide)) (zun1 (by decide) (zlk_f (hz 7 (by decide) 0) (by decide))) sh_8 (by decide) rfl (by decide) (Nat.le_of_ble_eq_true rfl) (Nat.le_of_ble_eq_true rfl) dX9_init_7 (fun q8 H hS => ?_)
  obtain ⟨h1, eh1, hf⟩ := zst_some hf
  rw [← eh1] at hS
  refine zputL (ty := .array .int) (zC_ext _ _ _ C) hS ff_X9_9_7 (zfinL sh_7 rfl ⟨rfl, rfl, by decide +kernel⟩) hin (fun x => ⟨rfl, rfl⟩) (zmem_o (zmem_o hthis)) rfl rfl dX9_init_9 (fun H locs hS => ?_)
  rw [zext_zext, zext_zext] at hS
  obtain ⟨qs, hS⟩ : ∃ qs, zS (zext G [8] [(7, 0)] qs) h1 s.heap H locs := ⟨_, hS⟩
  have C := zC_ext [8] [(7, 0)] qs C0
  refine lv_aload_n C.1 C.2.1 dX9_init_12 rfl (lv_at hl 0 rfl) ?_
  refine lv_bipush (v := (8 : Int32)) C.1 C.2.1 dX9_init_13 rfl ?_
  refine znewa (d := 9) C hS (zfresh (hfr 9 (by decide)) (by decide)) (zun1 (by decide) (zlk_f (hz 7 (by decide) 1) (by decide))) sh_9 (by decide) rfl (by decide) (Nat.le_of_ble_eq_true rfl) (Nat.le_of_ble_eq_true rfl) dX9_init_15 (fun q9 H hS => ?_)
  obtain ⟨h2, eh2, hf⟩ := zst_some hf
  rw [← eh2] at hS
  refine zputL (ty := .array .int) (zC_ext _ _ _ C) hS ff_X9_15_7 (zfinL sh_7 rfl ⟨rfl, rfl, by decide +kernel⟩) hin (fun x => ⟨rfl, rfl⟩) (zmem_o (zmem_o hthis)) rfl rfl dX9_init_17 (fun H locs hS => ?_)
  rw [zext_zext, zext_zext] at hS
  obtain ⟨qs, hS⟩ : ∃ qs, zS (zext G [8, 9] [(7, 0), (7, 1)] qs) h2 s.heap H locs := ⟨_, hS⟩
  have C := zC_ext [8, 9] [(7, 0), (7, 1)] qs C0
  refine lv_aload_n C.1 C.2.1 dX9_init_20 rfl (lv_at hl 0 rfl) ?_
  refine lv_bipush (v := (8 : Int32)) C.1 C.2.1 dX9_init_21 rfl ?_
  refine znewa (d := 10) C hS (zfresh (hfr 10 (by decide)) (by decide)) (zun1 (by decide) (zlk_f (hz 7 (by decide) 2) (by decide))) sh_10 (by decide) rfl (by decide) (Nat.le_of_ble_eq_true rfl) (Nat.le_of_ble_eq_true rfl) dX9_init_23 (fun q10 H hS => ?_)
  obtain ⟨h3, eh3, hf⟩ := zst_some hf
  rw [← eh3] at hS
  refine zputL (ty := .array .int) (zC_ext _ _ _ C) hS ff_X9_18_7 (zfinL sh_7 rfl ⟨rfl, rfl, by decide +kernel⟩) hin (fun x => ⟨rfl, rfl⟩) (zmem_o (zmem_o hthis)) rfl rfl dX9_init_25 (fun H locs hS => ?_)
  rw [zext_zext, zext_zext] at hS
  obtain ⟨qs, hS⟩ : ∃ qs, zS (zext G [8, 9, 10] [(7, 0), (7, 1), (7, 2)] qs) h3 s.heap H locs := ⟨_, hS⟩
  have C := zC_ext [8, 9, 10] [(7, 0), (7, 1), (7, 2)] qs C0
  refine lv_aload_n C.1 C.2.1 dX9_init_28 rfl (lv_at hl 0 rfl) ?_
  refine lv_bipush (v := (6 : Int32)) C.1 C.2.1 dX9_init_29 rfl ?_
  obtain ⟨r4, h5, er4, hf⟩ := zbd_some hf
  refine zcallVV (As := [.int (6 : Int32)]) (rest := []) C hS mv_X9_21 (c_X9_layFor l (zext G [8, 9, 10] [(7, 0), (7, 1), (7, 2)] qs) h3 (6 : Int32) (r4, h5) (fun c hc => ((by decide : ∀ c ∈ nd_X9_layFor, c ∈ [8, 9, 10] ∨ c = 7) c hc).elim zmem_n (fun e9 => by subst e9; exact zmem_o hthis)) (fun q hq => zlk_t ((by decide : ∀ q ∈ ld_X9_layFor, ([(7, 0), (7, 1), (7, 2)] : List (Nat × Nat)).contains (q.1, q.2) = true) q hq)) er4) (zmem_o hthis) ⟨_, _, _, sh_7, rfl, rfl⟩ rfl rfl (Nat.le_of_ble_eq_true rfl) hl.1 ⟨Nat.le_of_ble_eq_true rfl, Nat.le_of_ble_eq_true rfl, Nat.le_of_ble_eq_true rfl, Nat.le_of_ble_eq_true rfl⟩ dX9_init_31 (fun H locs hS => ?_)
  refine W.widen (k := 3) (n := 24) (Nat.le_of_ble_eq_true rfl) (Nat.le_of_ble_eq_true rfl) ?_
  exact zretC C0 hS hf dX9_init_34
end
section
theorem dX0_init_0 : decode cX0_init 0 = .ok (.aload_n 0, 1) := by decide +kernel
theorem dX0_init_1 : decode cX0_init 1 = .ok (.invokespecial 3, 3) := by decide +kernel
theorem dX0_init_4 : decode cX0_init 4 = .ok (.aload_n 0, 1) := by decide +kernel
theorem dX0_init_5 : decode cX0_init 5 = .ok (.sipush 256, 3) := by decide +kernel
theorem dX0_init_8 : decode cX0_init 8 = .ok (.newarray .int, 2) := by decide +kernel
theorem dX0_init_10 : decode cX0_init 10 = .ok (.putfield 9, 3) := by decide +kernel
theorem dX0_init_13 : decode cX0_init 13 = .ok (.aload_n 0, 1) := by decide +kernel
theorem dX0_init_14 : decode cX0_init 14 = .ok (.sipush 256, 3) := by decide +kernel
theorem dX0_init_17 : decode cX0_init 17 = .ok (.newarray .int, 2) := by decide +kernel
theorem dX0_init_19 : decode cX0_init 19 = .ok (.putfield 15, 3) := by decide +kernel
theorem dX0_init_22 : decode cX0_init 22 = .ok (.aload_n 0, 1) := by decide +kernel
theorem dX0_init_23 : decode cX0_init 23 = .ok (.bipush 6, 2) := by decide +kernel
theorem dX0_init_25 : decode cX0_init 25 = .ok (.newarray .int, 2) := by decide +kernel
theorem dX0_init_27 : decode cX0_init 27 = .ok (.putfield 18, 3) := by decide +kernel
theorem dX0_init_30 : decode cX0_init 30 = .ok (.aload_n 0, 1) := by decide +kernel
theorem dX0_init_31 : decode cX0_init 31 = .ok (.sipush 600, 3) := by decide +kernel
theorem dX0_init_34 : decode cX0_init 34 = .ok (.newarray .int, 2) := by decide +kernel
theorem dX0_init_36 : decode cX0_init 36 = .ok (.putfield 21, 3) := by decide +kernel
theorem dX0_init_39 : decode cX0_init 39 = .ok (.return_, 1) := by decide +kernel
def f_X0_init_t11 (h : zH) : zR := (zst (zz h 12) fun h1 => (zst (zz h1 13) fun h2 => (zst (zz h2 14) fun h3 => (zst (zz h3 15) fun h4 => (some (0, h4))))))
set_option maxHeartbeats 8000000 in
set_option maxRecDepth 100000 in
theorem c_X0_init_t11 (l : Launch) (G : zG) (h : zH) (q : Int32 × zH) (hthis : 11 ∈ znm G) (hfr : ∀ d ∈ ([12, 13, 14, 15] : List Nat), d ∉ znm G) (hz : ∀ d ∈ ([11, 12, 13, 14, 15] : List Nat), ∀ k, zlk G d k = false) (hx : ∀ q ∈ ([] : List (Nat × Nat)), zlk G q.1 q.2 = false) (hf : f_X0_init_t11 h = some q) : zCtC l yX0_init cX0_init 1 2 4 1118 [.ref (zal G 11)] G h [12, 13, 14, 15] [(11, 0), (11, 1), (11, 2), (11, 3)] q.2 := by
  refine zMetC (by decide) rfl (Nat.le_of_ble_eq_true rfl) ?_
  intro p e s m below meth c ls C0 hin hl hS
  have hl : lv_has ls 1 [(0, .ref (zal G 11))] := hl
  have C0 : zC G p s m [.ref (zal G 11)].toArray meth c cX0_init 1 RX0 none := C0
  obtain ⟨qs, hS⟩ : ∃ qs, zS (zext G [] [] qs) h s.heap s.heap [] := ⟨_, hS⟩
  have C := zC_ext [] [] qs C0
  unfold f_X0_init_t11 at hf
  refine lv_aload_n C.1 C.2.1 dX0_init_0 rfl (lv_at hl 0 rfl) ?_
  refine zobj C kw_190 (Nat.le_of_ble_eq_true rfl) hl.1 ⟨Nat.le_of_ble_eq_true rfl, Nat.le_of_ble_eq_true rfl⟩ dX0_init_1 ?_
  refine lv_aload_n C.1 C.2.1 dX0_init_4 rfl (lv_at hl 0 rfl) ?_
  refine lv_sipush (v := (256 : Int32)) C.1 C.2.1 dX0_init_5 rfl ?_
  refine znewa (d := 12) C hS (zfresh (hfr 12 (by decide)) (by decide)) (zun1 (by decide) (zlk_f (hz 11 (by decide) 0) (by decide))) sh_12 (by decide) rfl (by decide) (Nat.le_of_ble_eq_true rfl) (Nat.le_of_ble_eq_true rfl) dX0_init_8 (fun q12 H hS => ?_)
  obtain ⟨h1, eh1, hf⟩ := zst_some hf
  rw [← eh1] at hS
  refine zputL (ty := .array .int) (zC_ext _ _ _ C) hS ff_X0_9_11 (zfinL sh_11 rfl ⟨rfl, rfl, by decide +kernel⟩) hin (fun x => ⟨rfl, rfl⟩) (zmem_o (zmem_o hthis)) rfl rfl dX0_init_10 (fun H locs hS => ?_)
  rw [zext_zext, zext_zext] at hS
  obtain ⟨qs, hS⟩ : ∃ qs, zS (zext G [12] [(11, 0)] qs) h1 s.heap H locs := ⟨_, hS⟩
  have C := zC_ext [12] [(11, 0)] qs C0
  refine lv_aload_n C.1 C.2.1 dX0_init_13 rfl (lv_at hl 0 rfl) ?_
  refine lv_sipush (v := (256 : Int32)) C.1 C.2.1 dX0_init_14 rfl ?_
  refine znewa (d := 13) C hS (zfresh (hfr 13 (by decide)) (by decide)) (zun1 (by decide) (zlk_f (hz 11 (by decide) 1) (by decide))) sh_13 (by decide) rfl (by decide) (Nat.le_of_ble_eq_true rfl) (Nat.le_of_ble_eq_true rfl) dX0_init_17 (fun q13 H hS => ?_)
  obtain ⟨h2, eh2, hf⟩ := zst_some hf
  rw [← eh2] at hS
  refine zputL (ty := .array .int) (zC_ext _ _ _ C) hS ff_X0_15_11 (zfinL sh_11 rfl ⟨rfl, rfl, by decide +kernel⟩) hin (fun x => ⟨rfl, rfl⟩) (zmem_o (zmem_o hthis)) rfl rfl dX0_init_19 (fun H locs hS => ?_)
  rw [zext_zext, zext_zext] at hS
  obtain ⟨qs, hS⟩ : ∃ qs, zS (zext G [12, 13] [(11, 0), (11, 1)] qs) h2 s.heap H locs := ⟨_, hS⟩
  have C := zC_ext [12, 13] [(11, 0), (11, 1)] qs C0
  refine lv_aload_n C.1 C.2.1 dX0_init_22 rfl (lv_at hl 0 rfl) ?_
  refine lv_bipush (v := (6 : Int32)) C.1 C.2.1 dX0_init_23 rfl ?_
  refine znewa (d := 14) C hS (zfresh (hfr 14 (by decide)) (by decide)) (zun1 (by decide) (zlk_f (hz 11 (by decide) 2) (by decide))) sh_14 (by decide) rfl (by decide) (Nat.le_of_ble_eq_true rfl) (Nat.le_of_ble_eq_true rfl) dX0_init_25 (fun q14 H hS => ?_)
  obtain ⟨h3, eh3, hf⟩ := zst_some hf
  rw [← eh3] at hS
  refine zputL (ty := .array .int) (zC_ext _ _ _ C) hS ff_X0_18_11 (zfinL sh_11 rfl ⟨rfl, rfl, by decide +kernel⟩) hin (fun x => ⟨rfl, rfl⟩) (zmem_o (zmem_o hthis)) rfl rfl dX0_init_27 (fun H locs hS => ?_)
  rw [zext_zext, zext_zext] at hS
  obtain ⟨qs, hS⟩ : ∃ qs, zS (zext G [12, 13, 14] [(11, 0), (11, 1), (11, 2)] qs) h3 s.heap H locs := ⟨_, hS⟩
  have C := zC_ext [12, 13, 14] [(11, 0), (11, 1), (11, 2)] qs C0
  refine lv_aload_n C.1 C.2.1 dX0_init_30 rfl (lv_at hl 0 rfl) ?_
  refine lv_sipush (v := (600 : Int32)) C.1 C.2.1 dX0_init_31 rfl ?_
  refine znewa (d := 15) C hS (zfresh (hfr 15 (by decide)) (by decide)) (zun1 (by decide) (zlk_f (hz 11 (by decide) 3) (by decide))) sh_15 (by decide) rfl (by decide) (Nat.le_of_ble_eq_true rfl) (Nat.le_of_ble_eq_true rfl) dX0_init_34 (fun q15 H hS => ?_)
  obtain ⟨h4, eh4, hf⟩ := zst_some hf
  rw [← eh4] at hS
  refine zputL (ty := .array .int) (zC_ext _ _ _ C) hS ff_X0_21_11 (zfinL sh_11 rfl ⟨rfl, rfl, by decide +kernel⟩) hin (fun x => ⟨rfl, rfl⟩) (zmem_o (zmem_o hthis)) rfl rfl dX0_init_36 (fun H locs hS => ?_)
  rw [zext_zext, zext_zext] at hS
  obtain ⟨qs, hS⟩ : ∃ qs, zS (zext G [12, 13, 14, 15] [(11, 0), (11, 1), (11, 2), (11, 3)] qs) h4 s.heap H locs := ⟨_, hS⟩
  have C := zC_ext [12, 13, 14, 15] [(11, 0), (11, 1), (11, 2), (11, 3)] qs C0
  refine W.widen (k := 4) (n := 1118) (Nat.le_of_ble_eq_true rfl) (Nat.le_of_ble_eq_true rfl) ?_
  exact zretC C0 hS hf dX0_init_39
end
section
theorem dX5_init_0 : decode cX5_init 0 = .ok (.aload_n 0, 1) := by decide +kernel
theorem dX5_init_1 : decode cX5_init 1 = .ok (.invokespecial 5, 3) := by decide +kernel
theorem dX5_init_4 : decode cX5_init 4 = .ok (.aload_n 0, 1) := by decide +kernel
theorem dX5_init_5 : decode cX5_init 5 = .ok (.sipush 400, 3) := by decide +kernel
theorem dX5_init_8 : decode cX5_init 8 = .ok (.newarray .int, 2) := by decide +kernel
theorem dX5_init_10 : decode cX5_init 10 = .ok (.putfield 11, 3) := by decide +kernel
theorem dX5_init_13 : decode cX5_init 13 = .ok (.aload_n 0, 1) := by decide +kernel
theorem dX5_init_14 : decode cX5_init 14 = .ok (.sipush 400, 3) := by decide +kernel
theorem dX5_init_17 : decode cX5_init 17 = .ok (.newarray .int, 2) := by decide +kernel
theorem dX5_init_19 : decode cX5_init 19 = .ok (.putfield 15, 3) := by decide +kernel
theorem dX5_init_22 : decode cX5_init 22 = .ok (.aload_n 0, 1) := by decide +kernel
theorem dX5_init_23 : decode cX5_init 23 = .ok (.bipush 40, 2) := by decide +kernel
theorem dX5_init_25 : decode cX5_init 25 = .ok (.newarray .int, 2) := by decide +kernel
theorem dX5_init_27 : decode cX5_init 27 = .ok (.putfield 18, 3) := by decide +kernel
theorem dX5_init_30 : decode cX5_init 30 = .ok (.return_, 1) := by decide +kernel
def f_X5_init_t16 (h : zH) : zR := (zst (zz h 17) fun h1 => (zst (zz h1 18) fun h2 => (zst (zz h2 19) fun h3 => (some (0, h3)))))
set_option maxHeartbeats 8000000 in
set_option maxRecDepth 100000 in
theorem c_X5_init_t16 (l : Launch) (G : zG) (h : zH) (q : Int32 × zH) (hthis : 16 ∈ znm G) (hfr : ∀ d ∈ ([17, 18, 19] : List Nat), d ∉ znm G) (hz : ∀ d ∈ ([16, 17, 18, 19] : List Nat), ∀ k, zlk G d k = false) (hx : ∀ q ∈ ([] : List (Nat × Nat)), zlk G q.1 q.2 = false) (hf : f_X5_init_t16 h = some q) : zCtC l yX5_init cX5_init 1 2 3 840 [.ref (zal G 16)] G h [17, 18, 19] [(16, 0), (16, 1), (16, 2)] q.2 := by
  refine zMetC (by decide) rfl (Nat.le_of_ble_eq_true rfl) ?_
  intro p e s m below meth c ls C0 hin hl hS
  have hl : lv_has ls 1 [(0, .ref (zal G 16))] := hl
  have C0 : zC G p s m [.ref (zal G 16)].toArray meth c cX5_init 1 RX5 none := C0
  obtain ⟨qs, hS⟩ : ∃ qs, zS (zext G [] [] qs) h s.heap s.heap [] := ⟨_, hS⟩
  have C := zC_ext [] [] qs C0
  unfold f_X5_init_t16 at hf
  refine lv_aload_n C.1 C.2.1 dX5_init_0 rfl (lv_at hl 0 rfl) ?_
  refine zobj C kw_229 (Nat.le_of_ble_eq_true rfl) hl.1 ⟨Nat.le_of_ble_eq_true rfl, Nat.le_of_ble_eq_true rfl⟩ dX5_init_1 ?_
  refine lv_aload_n C.1 C.2.1 dX5_init_4 rfl (lv_at hl 0 rfl) ?_
  refine lv_sipush (v := (400 : Int32)) C.1 C.2.1 dX5_init_5 rfl ?_
  refine znewa (d := 17) C hS (zfresh (hfr 17 (by decide)) (by decide)) (zun1 (by decide) (zlk_f (hz 16 (by decide) 0) (by decide))) sh_17 (by decide) rfl (by decide) (Nat.le_of_ble_eq_true rfl) (Nat.le_of_ble_eq_true rfl) dX5_init_8 (fun q17 H hS => ?_)
  obtain ⟨h1, eh1, hf⟩ := zst_some hf
  rw [← eh1] at hS
  refine zputL (ty := .array .int) (zC_ext _ _ _ C) hS ff_X5_11_16 (zfinL sh_16 rfl ⟨rfl, rfl, by decide +kernel⟩) hin (fun x => ⟨rfl, rfl⟩) (zmem_o (zmem_o hthis)) rfl rfl dX5_init_10 (fun H locs hS => ?_)
  rw [zext_zext, zext_zext] at hS
  obtain ⟨qs, hS⟩ : ∃ qs, zS (zext G [17] [(16, 0)] qs) h1 s.heap H locs := ⟨_, hS⟩
  have C := zC_ext [17] [(16, 0)] qs C0
  refine lv_aload_n C.1 C.2.1 dX5_init_13 rfl (lv_at hl 0 rfl) ?_
  refine lv_sipush (v := (400 : Int32)) C.1 C.2.1 dX5_init_14 rfl ?_
  refine znewa (d := 18) C hS (zfresh (hfr 18 (by decide)) (by decide)) (zun1 (by decide) (zlk_f (hz 16 (by decide) 1) (by decide))) sh_18 (by decide) rfl (by decide) (Nat.le_of_ble_eq_true rfl) (Nat.le_of_ble_eq_true rfl) dX5_init_17 (fun q18 H hS => ?_)
  obtain ⟨h2, eh2, hf⟩ := zst_some hf
  rw [← eh2] at hS
  refine zputL (ty := .array .int) (zC_ext _ _ _ C) hS ff_X5_15_16 (zfinL sh_16 rfl ⟨rfl, rfl, by decide +kernel⟩) hin (fun x => ⟨rfl, rfl⟩) (zmem_o (zmem_o hthis)) rfl rfl dX5_init_19 (fun H locs hS => ?_)
  rw [zext_zext, zext_zext] at hS
  obtain ⟨qs, hS⟩ : ∃ qs, zS (zext G [17, 18] [(16, 0), (16, 1)] qs) h2 s.heap H locs := ⟨_, hS⟩
  have C := zC_ext [17, 18] [(16, 0), (16, 1)] qs C0
  refine lv_aload_n C.1 C.2.1 dX5_init_22 rfl (lv_at hl 0 rfl) ?_
  refine lv_bipush (v := (40 : Int32)) C.1 C.2.1 dX5_init_23 rfl ?_
  refine znewa (d := 19) C hS (zfresh (hfr 19 (by decide)) (by decide)) (zun1 (by decide) (zlk_f (hz 16 (by decide) 2) (by decide))) sh_19 (by decide) rfl (by decide) (Nat.le_of_ble_eq_true rfl) (Nat.le_of_ble_eq_true rfl) dX5_init_25 (fun q19 H hS => ?_)
  obtain ⟨h3, eh3, hf⟩ := zst_some hf
  rw [← eh3] at hS
  refine zputL (ty := .array .int) (zC_ext _ _ _ C) hS ff_X5_18_16 (zfinL sh_16 rfl ⟨rfl, rfl, by decide +kernel⟩) hin (fun x => ⟨rfl, rfl⟩) (zmem_o (zmem_o hthis)) rfl rfl dX5_init_27 (fun H locs hS => ?_)
  rw [zext_zext, zext_zext] at hS
  obtain ⟨qs, hS⟩ : ∃ qs, zS (zext G [17, 18, 19] [(16, 0), (16, 1), (16, 2)] qs) h3 s.heap H locs := ⟨_, hS⟩
  have C := zC_ext [17, 18, 19] [(16, 0), (16, 1), (16, 2)] qs C0
  refine W.widen (k := 3) (n := 840) (Nat.le_of_ble_eq_true rfl) (Nat.le_of_ble_eq_true rfl) ?_
  exact zretC C0 hS hf dX5_init_30
end
section
theorem dX4_init_0 : decode cX4_init 0 = .ok (.aload_n 0, 1) := by decide +kernel
theorem dX4_init_1 : decode cX4_init 1 = .ok (.invokespecial 3, 3) := by decide +kernel
theorem dX4_init_4 : decode cX4_init 4 = .ok (.aload_n 0, 1) := by decide +kernel
theorem dX4_init_5 : decode cX4_init 5 = .ok (.new 9, 3) := by decide +kernel
theorem dX4_init_8 : decode cX4_init 8 = .ok (.dup, 1) := by decide +kernel
theorem dX4_init_9 : decode cX4_init 9 = .ok (.invokespecial 11, 3) := by decide +kernel
theorem dX4_init_12 : decode cX4_init 12 = .ok (.putfield 12, 3) := by decide +kernel
theorem dX4_init_15 : decode cX4_init 15 = .ok (.aload_n 0, 1) := by decide +kernel
theorem dX4_init_16 : decode cX4_init 16 = .ok (.new 18, 3) := by decide +kernel
theorem dX4_init_19 : decode cX4_init 19 = .ok (.dup, 1) := by decide +kernel
theorem dX4_init_20 : decode cX4_init 20 = .ok (.invokespecial 20, 3) := by decide +kernel
theorem dX4_init_23 : decode cX4_init 23 = .ok (.putfield 21, 3) := by decide +kernel
theorem dX4_init_26 : decode cX4_init 26 = .ok (.aload_n 0, 1) := by decide +kernel
theorem dX4_init_27 : decode cX4_init 27 = .ok (.new 25, 3) := by decide +kernel
theorem dX4_init_30 : decode cX4_init 30 = .ok (.dup, 1) := by decide +kernel
theorem dX4_init_31 : decode cX4_init 31 = .ok (.invokespecial 27, 3) := by decide +kernel
theorem dX4_init_34 : decode cX4_init 34 = .ok (.putfield 28, 3) := by decide +kernel
theorem dX4_init_37 : decode cX4_init 37 = .ok (.aload_n 0, 1) := by decide +kernel
theorem dX4_init_38 : decode cX4_init 38 = .ok (.new 32, 3) := by decide +kernel
theorem dX4_init_41 : decode cX4_init 41 = .ok (.dup, 1) := by decide +kernel
theorem dX4_init_42 : decode cX4_init 42 = .ok (.invokespecial 34, 3) := by decide +kernel
theorem dX4_init_45 : decode cX4_init 45 = .ok (.putfield 35, 3) := by decide +kernel
theorem dX4_init_48 : decode cX4_init 48 = .ok (.aload_n 0, 1) := by decide +kernel
theorem dX4_init_49 : decode cX4_init 49 = .ok (.bipush 6, 2) := by decide +kernel
theorem dX4_init_51 : decode cX4_init 51 = .ok (.newarray .int, 2) := by decide +kernel
theorem dX4_init_53 : decode cX4_init 53 = .ok (.putfield 39, 3) := by decide +kernel
theorem dX4_init_56 : decode cX4_init 56 = .ok (.aload_n 0, 1) := by decide +kernel
theorem dX4_init_57 : decode cX4_init 57 = .ok (.bipush 7, 2) := by decide +kernel
theorem dX4_init_59 : decode cX4_init 59 = .ok (.newarray .int, 2) := by decide +kernel
theorem dX4_init_61 : decode cX4_init 61 = .ok (.putfield 43, 3) := by decide +kernel
theorem dX4_init_64 : decode cX4_init 64 = .ok (.aload_n 0, 1) := by decide +kernel
theorem dX4_init_65 : decode cX4_init 65 = .ok (.iconst 2, 1) := by decide +kernel
theorem dX4_init_66 : decode cX4_init 66 = .ok (.putfield 46, 3) := by decide +kernel
theorem dX4_init_69 : decode cX4_init 69 = .ok (.return_, 1) := by decide +kernel
def f_X4_init_t1 (h : zH) : zR := (zst (zz h 2) fun h1 => (zbd (f_X3_init_t2 h1) fun r2 h3 => (zst (zz h3 7) fun h4 => (zbd (f_X9_init_t7 h4) fun r5 h6 => (zst (zz h6 11) fun h7 => (zbd (f_X0_init_t11 h7) fun r8 h9 => (zst (zz h9 16) fun h10 => (zbd (f_X5_init_t16 h10) fun r11 h12 => (zst (zz h12 20) fun h13 => (zst (zz h13 21) fun h14 => (zst (zup h14 1 6 (2 : Int32)) fun h15 => (some (0, h15)))))))))))))
set_option maxHeartbeats 8000000 in
set_option maxRecDepth 100000 in
theorem c_X4_init_t1 (l : Launch) (G : zG) (h : zH) (q : Int32 × zH) (hthis : 1 ∈ znm G) (hfr : ∀ d ∈ ([2, 3, 4, 5, 6, 7, 8, 9, 10, 11, 12, 13, 14, 15, 16, 17, 18, 19, 20, 21] : List Nat), d ∉ znm G) (hz : ∀ d ∈ ([1, 2, 3, 4, 5, 6, 7, 8, 9, 10, 11, 12, 13, 14, 15, 16, 17, 18, 19, 20, 21] : List Nat), ∀ k, zlk G d k = false) (hx : ∀ q ∈ ([] : List (Nat × Nat)), zlk G q.1 q.2 = false) (hf : f_X4_init_t1 h = some q) : zCtC l yX4_init cX4_init 1 4 20 2160 [.ref (zal G 1)] G h [2, 3, 4, 5, 6, 7, 8, 9, 10, 11, 12, 13, 14, 15, 16, 17, 18, 19, 20, 21] [(2, 0), (2, 1), (2, 2), (2, 3), (1, 0), (7, 0), (7, 1), (7, 2), (1, 1), (11, 0), (11, 1), (11, 2), (11, 3), (1, 2), (16, 0), (16, 1), (16, 2), (1, 3), (1, 4), (1, 5)] q.2 := by
  refine zMetC (by decide) rfl (Nat.le_of_ble_eq_true rfl) ?_
  intro p e s m below meth c ls C0 hin hl hS
  have hl : lv_has ls 1 [(0, .ref (zal G 1))] := hl
  have C0 : zC G p s m [.ref (zal G 1)].toArray meth c cX4_init 1 RX4 none := C0
  obtain ⟨qs, hS⟩ : ∃ qs, zS (zext G [] [] qs) h s.heap s.heap [] := ⟨_, hS⟩
  have C := zC_ext [] [] qs C0
  unfold f_X4_init_t1 at hf
  refine lv_aload_n C.1 C.2.1 dX4_init_0 rfl (lv_at hl 0 rfl) ?_
  refine zobj C kw_117 (Nat.le_of_ble_eq_true rfl) hl.1 ⟨Nat.le_of_ble_eq_true rfl, Nat.le_of_ble_eq_true rfl⟩ dX4_init_1 ?_
  refine lv_aload_n C.1 C.2.1 dX4_init_4 rfl (lv_at hl 0 rfl) ?_
  refine znewo (d := 2) C hS (zfresh (hfr 2 (by decide)) (by decide)) (zun1 (by decide) (zlk_f (hz 1 (by decide) 0) (by decide))) (zlk_fn (hz 2 (by decide)) (by decide)) sh_2 rfl tyX3 tyX3_ok iz_X3 (by decide) (by decide) ⟨kw_118, kw_119, kw_86⟩ (Nat.le_of_ble_eq_true rfl) (Nat.le_of_ble_eq_true rfl) dX4_init_5 (fun q2 H hS => ?_)
  obtain ⟨h1, eh1, hf⟩ := zst_some hf
  rw [← eh1] at hS
  refine lv_dup C.1 C.2.1 dX4_init_8 rfl ?_
  obtain ⟨r2, h3, er2, hf⟩ := zbd_some hf
  refine zcallJ (As := []) (rest := [.ref (q2), .ref (zal G 1)]) (zC_ext _ _ _ C) hS mj_X4_11 (c_X3_init_t2 l (zext (zext G [] [] qs) [2] [] (fun _ => q2)) h1 (r2, h3) (zmem_n (by decide)) (fun d hd => zfresh (zfresh (hfr d ((by decide : ∀ d ∈ [3, 4, 5, 6], d ∈ [2, 3, 4, 5, 6, 7, 8, 9, 10, 11, 12, 13, 14, 15, 16, 17, 18, 19, 20, 21]) d hd)) ((by decide : ∀ d ∈ [3, 4, 5, 6], d ∉ []) d hd)) ((by decide : ∀ d ∈ [3, 4, 5, 6], d ∉ [2]) d hd)) (fun d hd => zlk_fn (zlk_fn (hz d ((by decide : ∀ d ∈ [2, 3, 4, 5, 6], d ∈ [1, 2, 3, 4, 5, 6, 7, 8, 9, 10, 11, 12, 13, 14, 15, 16, 17, 18, 19, 20, 21]) d hd)) ((by decide : ∀ d ∈ [2, 3, 4, 5, 6], ([] : List (Nat × Nat)).all (fun q => q.1 != d) = true) d hd)) rfl) (fun q hq => absurd hq List.not_mem_nil) er2) rfl rfl (Nat.le_of_ble_eq_true rfl) hl.1 ⟨Nat.le_of_ble_eq_true rfl, Nat.le_of_ble_eq_true rfl, Nat.le_of_ble_eq_true rfl, Nat.le_of_ble_eq_true rfl⟩ dX4_init_9 (fun qc2 H locs hS => ?_)
  refine zputL (ty := .object "HalfAJoke$Halves") (zC_ext _ _ _ (zC_ext _ _ _ C)) hS ff_X4_12_1 (zfinL sh_1 rfl ⟨rfl, rfl, by decide +kernel⟩) hin (fun x => ⟨rfl, rfl⟩) (zmem_o (zmem_o (zmem_o hthis))) rfl rfl dX4_init_12 (fun H locs hS => ?_)
  rw [zext_zext, zext_zext, zext_zext] at hS
  obtain ⟨qs, hS⟩ : ∃ qs, zS (zext G [2, 3, 4, 5, 6] [(2, 0), (2, 1), (2, 2), (2, 3), (1, 0)] qs) h3 s.heap H locs := ⟨_, hS⟩
  have C := zC_ext [2, 3, 4, 5, 6] [(2, 0), (2, 1), (2, 2), (2, 3), (1, 0)] qs C0
  refine lv_aload_n C.1 C.2.1 dX4_init_15 rfl (lv_at hl 0 rfl) ?_
  refine znewo (d := 7) C hS (zfresh (hfr 7 (by decide)) (by decide)) (zun1 (by decide) (zlk_f (hz 1 (by decide) 1) (by decide))) (zlk_fn (hz 7 (by decide)) (by decide)) sh_7 rfl tyX9 tyX9_ok iz_X9 (by decide) (by decide) ⟨kw_153, kw_154, kw_87⟩ (Nat.le_of_ble_eq_true rfl) (Nat.le_of_ble_eq_true rfl) dX4_init_16 (fun q7 H hS => ?_)
  obtain ⟨h4, eh4, hf⟩ := zst_some hf
  rw [← eh4] at hS
  refine lv_dup C.1 C.2.1 dX4_init_19 rfl ?_
  obtain ⟨r5, h6, er5, hf⟩ := zbd_some hf
  refine zcallI (As := []) (rest := [.ref (q7), .ref (zal G 1)]) (zC_ext _ _ _ C) hS mi_X4_20 (c_X9_init_t7 l (zext (zext G [2, 3, 4, 5, 6] [(2, 0), (2, 1), (2, 2), (2, 3), (1, 0)] qs) [7] [] (fun _ => q7)) h4 (r5, h6) (zmem_n (by decide)) (fun d hd => zfresh (zfresh (hfr d ((by decide : ∀ d ∈ [8, 9, 10], d ∈ [2, 3, 4, 5, 6, 7, 8, 9, 10, 11, 12, 13, 14, 15, 16, 17, 18, 19, 20, 21]) d hd)) ((by decide : ∀ d ∈ [8, 9, 10], d ∉ [2, 3, 4, 5, 6]) d hd)) ((by decide : ∀ d ∈ [8, 9, 10], d ∉ [7]) d hd)) (fun d hd => zlk_fn (zlk_fn (hz d ((by decide : ∀ d ∈ [7, 8, 9, 10], d ∈ [1, 2, 3, 4, 5, 6, 7, 8, 9, 10, 11, 12, 13, 14, 15, 16, 17, 18, 19, 20, 21]) d hd)) ((by decide : ∀ d ∈ [7, 8, 9, 10], ([(2, 0), (2, 1), (2, 2), (2, 3), (1, 0)] : List (Nat × Nat)).all (fun q => q.1 != d) = true) d hd)) rfl) (fun q hq => absurd hq List.not_mem_nil) er5) rfl rfl (Nat.le_of_ble_eq_true rfl) hl.1 ⟨Nat.le_of_ble_eq_true rfl, Nat.le_of_ble_eq_true rfl, Nat.le_of_ble_eq_true rfl, Nat.le_of_ble_eq_true rfl⟩ dX4_init_20 (fun qc7 H locs hS => ?_)
  refine zputL (ty := .object "HalfAJoke$Table") (zC_ext _ _ _ (zC_ext _ _ _ C)) hS ff_X4_21_1 (zfinL sh_1 rfl ⟨rfl, rfl, by decide +kernel⟩) hin (fun x => ⟨rfl, rfl⟩) (zmem_o (zmem_o (zmem_o hthis))) rfl rfl dX4_init_23 (fun H locs hS => ?_)
  rw [zext_zext, zext_zext, zext_zext] at hS
  obtain ⟨qs, hS⟩ : ∃ qs, zS (zext G [2, 3, 4, 5, 6, 7, 8, 9, 10] [(2, 0), (2, 1), (2, 2), (2, 3), (1, 0), (7, 0), (7, 1), (7, 2), (1, 1)] qs) h6 s.heap H locs := ⟨_, hS⟩
  have C := zC_ext [2, 3, 4, 5, 6, 7, 8, 9, 10] [(2, 0), (2, 1), (2, 2), (2, 3), (1, 0), (7, 0), (7, 1), (7, 2), (1, 1)] qs C0
  refine lv_aload_n C.1 C.2.1 dX4_init_26 rfl (lv_at hl 0 rfl) ?_
  refine znewo (d := 11) C hS (zfresh (hfr 11 (by decide)) (by decide)) (zun1 (by decide) (zlk_f (hz 1 (by decide) 2) (by decide))) (zlk_fn (hz 11 (by decide)) (by decide)) sh_11 rfl tyX0 tyX0_ok iz_X0 (by decide) (by decide) ⟨kw_185, kw_186, kw_88⟩ (Nat.le_of_ble_eq_true rfl) (Nat.le_of_ble_eq_true rfl) dX4_init_27 (fun q11 H hS => ?_)
  obtain ⟨h7, eh7, hf⟩ := zst_some hf
  rw [← eh7] at hS
  refine lv_dup C.1 C.2.1 dX4_init_30 rfl ?_
  obtain ⟨r8, h9, er8, hf⟩ := zbd_some hf
  refine zcallJ (As := []) (rest := [.ref (q11), .ref (zal G 1)]) (zC_ext _ _ _ C) hS mj_X4_27 (c_X0_init_t11 l (zext (zext G [2, 3, 4, 5, 6, 7, 8, 9, 10] [(2, 0), (2, 1), (2, 2), (2, 3), (1, 0), (7, 0), (7, 1), (7, 2), (1, 1)] qs) [11] [] (fun _ => q11)) h7 (r8, h9) (zmem_n (by decide)) (fun d hd => zfresh (zfresh (hfr d ((by decide : ∀ d ∈ [12, 13, 14, 15], d ∈ [2, 3, 4, 5, 6, 7, 8, 9, 10, 11, 12, 13, 14, 15, 16, 17, 18, 19, 20, 21]) d hd)) ((by decide : ∀ d ∈ [12, 13, 14, 15], d ∉ [2, 3, 4, 5, 6, 7, 8, 9, 10]) d hd)) ((by decide : ∀ d ∈ [12, 13, 14, 15], d ∉ [11]) d hd)) (fun d hd => zlk_fn (zlk_fn (hz d ((by decide : ∀ d ∈ [11, 12, 13, 14, 15], d ∈ [1, 2, 3, 4, 5, 6, 7, 8, 9, 10, 11, 12, 13, 14, 15, 16, 17, 18, 19, 20, 21]) d hd)) ((by decide : ∀ d ∈ [11, 12, 13, 14, 15], ([(2, 0), (2, 1), (2, 2), (2, 3), (1, 0), (7, 0), (7, 1), (7, 2), (1, 1)] : List (Nat × Nat)).all (fun q => q.1 != d) = true) d hd)) rfl) (fun q hq => absurd hq List.not_mem_nil) er8) rfl rfl (Nat.le_of_ble_eq_true rfl) hl.1 ⟨Nat.le_of_ble_eq_true rfl, Nat.le_of_ble_eq_true rfl, Nat.le_of_ble_eq_true rfl, Nat.le_of_ble_eq_true rfl⟩ dX4_init_31 (fun qc11 H locs hS => ?_)
  refine zputL (ty := .object "HalfAJoke$Book") (zC_ext _ _ _ (zC_ext _ _ _ C)) hS ff_X4_28_1 (zfinL sh_1 rfl ⟨rfl, rfl, by decide +kernel⟩) hin (fun x => ⟨rfl, rfl⟩) (zmem_o (zmem_o (zmem_o hthis))) rfl rfl dX4_init_34 (fun H locs hS => ?_)
  rw [zext_zext, zext_zext, zext_zext] at hS
  obtain ⟨qs, hS⟩ : ∃ qs, zS (zext G [2, 3, 4, 5, 6, 7, 8, 9, 10, 11, 12, 13, 14, 15] [(2, 0), (2, 1), (2, 2), (2, 3), (1, 0), (7, 0), (7, 1), (7, 2), (1, 1), (11, 0), (11, 1), (11, 2), (11, 3), (1, 2)] qs) h9 s.heap H locs := ⟨_, hS⟩
  have C := zC_ext [2, 3, 4, 5, 6, 7, 8, 9, 10, 11, 12, 13, 14, 15] [(2, 0), (2, 1), (2, 2), (2, 3), (1, 0), (7, 0), (7, 1), (7, 2), (1, 1), (11, 0), (11, 1), (11, 2), (11, 3), (1, 2)] qs C0
  refine lv_aload_n C.1 C.2.1 dX4_init_37 rfl (lv_at hl 0 rfl) ?_
  refine znewo (d := 16) C hS (zfresh (hfr 16 (by decide)) (by decide)) (zun1 (by decide) (zlk_f (hz 1 (by decide) 3) (by decide))) (zlk_fn (hz 16 (by decide)) (by decide)) sh_16 rfl tyX5 tyX5_ok iz_X5 (by decide) (by decide) ⟨kw_224, kw_225, kw_89⟩ (Nat.le_of_ble_eq_true rfl) (Nat.le_of_ble_eq_true rfl) dX4_init_38 (fun q16 H hS => ?_)
  obtain ⟨h10, eh10, hf⟩ := zst_some hf
  rw [← eh10] at hS
  refine lv_dup C.1 C.2.1 dX4_init_41 rfl ?_
  obtain ⟨r11, h12, er11, hf⟩ := zbd_some hf
  refine zcallJ (As := []) (rest := [.ref (q16), .ref (zal G 1)]) (zC_ext _ _ _ C) hS mj_X4_34 (c_X5_init_t16 l (zext (zext G [2, 3, 4, 5, 6, 7, 8, 9, 10, 11, 12, 13, 14, 15] [(2, 0), (2, 1), (2, 2), (2, 3), (1, 0), (7, 0), (7, 1), (7, 2), (1, 1), (11, 0), (11, 1), (11, 2), (11, 3), (1, 2)] qs) [16] [] (fun _ => q16)) h10 (r11, h12) (zmem_n (by decide)) (fun d hd => zfresh (zfresh (hfr d ((by decide : ∀ d ∈ [17, 18, 19], d ∈ [2, 3, 4, 5, 6, 7, 8, 9, 10, 11, 12, 13, 14, 15, 16, 17, 18, 19, 20, 21]) d hd)) ((by decide : ∀ d ∈ [17, 18, 19], d ∉ [2, 3, 4, 5, 6, 7, 8, 9, 10, 11, 12, 13, 14, 15]) d hd)) ((by decide : ∀ d ∈ [17, 18, 19], d ∉ [16]) d hd)) (fun d hd => zlk_fn (zlk_fn (hz d ((by decide : ∀ d ∈ [16, 17, 18, 19], d ∈ [1, 2, 3, 4, 5, 6, 7, 8, 9, 10, 11, 12, 13, 14, 15, 16, 17, 18, 19, 20, 21]) d hd)) ((by decide : ∀ d ∈ [16, 17, 18, 19], ([(2, 0), (2, 1), (2, 2), (2, 3), (1, 0), (7, 0), (7, 1), (7, 2), (1, 1), (11, 0), (11, 1), (11, 2), (11, 3), (1, 2)] : List (Nat × Nat)).all (fun q => q.1 != d) = true) d hd)) rfl) (fun q hq => absurd hq List.not_mem_nil) er11) rfl rfl (Nat.le_of_ble_eq_true rfl) hl.1 ⟨Nat.le_of_ble_eq_true rfl, Nat.le_of_ble_eq_true rfl, Nat.le_of_ble_eq_true rfl, Nat.le_of_ble_eq_true rfl⟩ dX4_init_42 (fun qc16 H locs hS => ?_)
  refine zputL (ty := .object "HalfAJoke$Law") (zC_ext _ _ _ (zC_ext _ _ _ C)) hS ff_X4_35_1 (zfinL sh_1 rfl ⟨rfl, rfl, by decide +kernel⟩) hin (fun x => ⟨rfl, rfl⟩) (zmem_o (zmem_o (zmem_o hthis))) rfl rfl dX4_init_45 (fun H locs hS => ?_)
  rw [zext_zext, zext_zext, zext_zext] at hS
  obtain ⟨qs, hS⟩ : ∃ qs, zS (zext G [2, 3, 4, 5, 6, 7, 8, 9, 10, 11, 12, 13, 14, 15, 16, 17, 18, 19] [(2, 0), (2, 1), (2, 2), (2, 3), (1, 0), (7, 0), (7, 1), (7, 2), (1, 1), (11, 0), (11, 1), (11, 2), (11, 3), (1, 2), (16, 0), (16, 1), (16, 2), (1, 3)] qs) h12 s.heap H locs := ⟨_, hS⟩
  have C := zC_ext [2, 3, 4, 5, 6, 7, 8, 9, 10, 11, 12, 13, 14, 15, 16, 17, 18, 19] [(2, 0), (2, 1), (2, 2), (2, 3), (1, 0), (7, 0), (7, 1), (7, 2), (1, 1), (11, 0), (11, 1), (11, 2), (11, 3), (1, 2), (16, 0), (16, 1), (16, 2), (1, 3)] qs C0
  refine lv_aload_n C.1 C.2.1 dX4_init_48 rfl (lv_at hl 0 rfl) ?_
  refine lv_bipush (v := (6 : Int32)) C.1 C.2.1 dX4_init_49 rfl ?_
  refine znewa (d := 20) C hS (zfresh (hfr 20 (by decide)) (by decide)) (zun1 (by decide) (zlk_f (hz 1 (by decide) 4) (by decide))) sh_20 (by decide) rfl (by decide) (Nat.le_of_ble_eq_true rfl) (Nat.le_of_ble_eq_true rfl) dX4_init_51 (fun q20 H hS => ?_)
  obtain ⟨h13, eh13, hf⟩ := zst_some hf
  rw [← eh13] at hS
  refine zputL (ty := .array .int) (zC_ext _ _ _ C) hS ff_X4_39_1 (zfinL sh_1 rfl ⟨rfl, rfl, by decide +kernel⟩) hin (fun x => ⟨rfl, rfl⟩) (zmem_o (zmem_o hthis)) rfl rfl dX4_init_53 (fun H locs hS => ?_)
  rw [zext_zext, zext_zext] at hS
  obtain ⟨qs, hS⟩ : ∃ qs, zS (zext G [2, 3, 4, 5, 6, 7, 8, 9, 10, 11, 12, 13, 14, 15, 16, 17, 18, 19, 20] [(2, 0), (2, 1), (2, 2), (2, 3), (1, 0), (7, 0), (7, 1), (7, 2), (1, 1), (11, 0), (11, 1), (11, 2), (11, 3), (1, 2), (16, 0), (16, 1), (16, 2), (1, 3), (1, 4)] qs) h13 s.heap H locs := ⟨_, hS⟩
  have C := zC_ext [2, 3, 4, 5, 6, 7, 8, 9, 10, 11, 12, 13, 14, 15, 16, 17, 18, 19, 20] [(2, 0), (2, 1), (2, 2), (2, 3), (1, 0), (7, 0), (7, 1), (7, 2), (1, 1), (11, 0), (11, 1), (11, 2), (11, 3), (1, 2), (16, 0), (16, 1), (16, 2), (1, 3), (1, 4)] qs C0
  refine lv_aload_n C.1 C.2.1 dX4_init_56 rfl (lv_at hl 0 rfl) ?_
  refine lv_bipush (v := (7 : Int32)) C.1 C.2.1 dX4_init_57 rfl ?_
  refine znewa (d := 21) C hS (zfresh (hfr 21 (by decide)) (by decide)) (zun1 (by decide) (zlk_f (hz 1 (by decide) 5) (by decide))) sh_21 (by decide) rfl (by decide) (Nat.le_of_ble_eq_true rfl) (Nat.le_of_ble_eq_true rfl) dX4_init_59 (fun q21 H hS => ?_)
  obtain ⟨h14, eh14, hf⟩ := zst_some hf
  rw [← eh14] at hS
  refine zputL (ty := .array .int) (zC_ext _ _ _ C) hS ff_X4_43_1 (zfinL sh_1 rfl ⟨rfl, rfl, by decide +kernel⟩) hin (fun x => ⟨rfl, rfl⟩) (zmem_o (zmem_o hthis)) rfl rfl dX4_init_61 (fun H locs hS => ?_)
  rw [zext_zext, zext_zext] at hS
  obtain ⟨qs, hS⟩ : ∃ qs, zS (zext G [2, 3, 4, 5, 6, 7, 8, 9, 10, 11, 12, 13, 14, 15, 16, 17, 18, 19, 20, 21] [(2, 0), (2, 1), (2, 2), (2, 3), (1, 0), (7, 0), (7, 1), (7, 2), (1, 1), (11, 0), (11, 1), (11, 2), (11, 3), (1, 2), (16, 0), (16, 1), (16, 2), (1, 3), (1, 4), (1, 5)] qs) h14 s.heap H locs := ⟨_, hS⟩
  have C := zC_ext [2, 3, 4, 5, 6, 7, 8, 9, 10, 11, 12, 13, 14, 15, 16, 17, 18, 19, 20, 21] [(2, 0), (2, 1), (2, 2), (2, 3), (1, 0), (7, 0), (7, 1), (7, 2), (1, 1), (11, 0), (11, 1), (11, 2), (11, 3), (1, 2), (16, 0), (16, 1), (16, 2), (1, 3), (1, 4), (1, 5)] qs C0
  refine lv_aload_n C.1 C.2.1 dX4_init_64 rfl (lv_at hl 0 rfl) ?_
  refine lv_iconst (v := (2 : Int32)) C.1 C.2.1 dX4_init_65 rfl ?_
  refine zputIA C hS ff_X4_46_1 fw_1_6 (zmem_o hthis) rfl dX4_init_66 (fun H locs hS => ?_)
  obtain ⟨h15, eh15, hf⟩ := zst_some hf
  have hS : zS (zext G [2, 3, 4, 5, 6, 7, 8, 9, 10, 11, 12, 13, 14, 15, 16, 17, 18, 19, 20, 21] [(2, 0), (2, 1), (2, 2), (2, 3), (1, 0), (7, 0), (7, 1), (7, 2), (1, 1), (11, 0), (11, 1), (11, 2), (11, 3), (1, 2), (16, 0), (16, 1), (16, 2), (1, 3), (1, 4), (1, 5)] qs) h15 s.heap H locs := by rw [eh15]; exact hS
  refine W.widen (k := 20) (n := 2160) (Nat.le_of_ble_eq_true rfl) (Nat.le_of_ble_eq_true rfl) ?_
  exact zretC C0 hS hf dX4_init_69
end
section
theorem dX6_init_0 : decode cX6_init 0 = .ok (.aload_n 0, 1) := by decide +kernel
theorem dX6_init_1 : decode cX6_init 1 = .ok (.invokespecial 3, 3) := by decide +kernel
theorem dX6_init_4 : decode cX6_init 4 = .ok (.aload_n 0, 1) := by decide +kernel
theorem dX6_init_5 : decode cX6_init 5 = .ok (.bipush 6, 2) := by decide +kernel
theorem dX6_init_7 : decode cX6_init 7 = .ok (.newarray .int, 2) := by decide +kernel
theorem dX6_init_9 : decode cX6_init 9 = .ok (.putfield 11, 3) := by decide +kernel
theorem dX6_init_12 : decode cX6_init 12 = .ok (.aload_n 0, 1) := by decide +kernel
theorem dX6_init_13 : decode cX6_init 13 = .ok (.bipush 48, 2) := by decide +kernel
theorem dX6_init_15 : decode cX6_init 15 = .ok (.newarray .int, 2) := by decide +kernel
theorem dX6_init_17 : decode cX6_init 17 = .ok (.putfield 15, 3) := by decide +kernel
theorem dX6_init_20 : decode cX6_init 20 = .ok (.aload_n 0, 1) := by decide +kernel
theorem dX6_init_21 : decode cX6_init 21 = .ok (.bipush 48, 2) := by decide +kernel
theorem dX6_init_23 : decode cX6_init 23 = .ok (.newarray .int, 2) := by decide +kernel
theorem dX6_init_25 : decode cX6_init 25 = .ok (.putfield 18, 3) := by decide +kernel
theorem dX6_init_28 : decode cX6_init 28 = .ok (.aload_n 0, 1) := by decide +kernel
theorem dX6_init_29 : decode cX6_init 29 = .ok (.bipush 36, 2) := by decide +kernel
theorem dX6_init_31 : decode cX6_init 31 = .ok (.newarray .int, 2) := by decide +kernel
theorem dX6_init_33 : decode cX6_init 33 = .ok (.putfield 21, 3) := by decide +kernel
theorem dX6_init_36 : decode cX6_init 36 = .ok (.aload_n 0, 1) := by decide +kernel
theorem dX6_init_37 : decode cX6_init 37 = .ok (.bipush 6, 2) := by decide +kernel
theorem dX6_init_39 : decode cX6_init 39 = .ok (.newarray .int, 2) := by decide +kernel
theorem dX6_init_41 : decode cX6_init 41 = .ok (.putfield 24, 3) := by decide +kernel
theorem dX6_init_44 : decode cX6_init 44 = .ok (.aload_n 0, 1) := by decide +kernel
theorem dX6_init_45 : decode cX6_init 45 = .ok (.bipush 6, 2) := by decide +kernel
theorem dX6_init_47 : decode cX6_init 47 = .ok (.newarray .int, 2) := by decide +kernel
theorem dX6_init_49 : decode cX6_init 49 = .ok (.putfield 27, 3) := by decide +kernel
theorem dX6_init_52 : decode cX6_init 52 = .ok (.return_, 1) := by decide +kernel
def f_X6_init_t22 (h : zH) : zR := (zst (zz h 23) fun h1 => (zst (zz h1 24) fun h2 => (zst (zz h2 25) fun h3 => (zst (zz h3 26) fun h4 => (zst (zz h4 27) fun h5 => (zst (zz h5 28) fun h6 => (some (0, h6))))))))
set_option maxHeartbeats 8000000 in
set_option maxRecDepth 100000 in
theorem c_X6_init_t22 (l : Launch) (G : zG) (h : zH) (q : Int32 × zH) (hthis : 22 ∈ znm G) (hfr : ∀ d ∈ ([23, 24, 25, 26, 27, 28] : List Nat), d ∉ znm G) (hz : ∀ d ∈ ([22, 23, 24, 25, 26, 27, 28] : List Nat), ∀ k, zlk G d k = false) (hx : ∀ q ∈ ([] : List (Nat × Nat)), zlk G q.1 q.2 = false) (hf : f_X6_init_t22 h = some q) : zCtC l yX6_init cX6_init 1 2 6 150 [.ref (zal G 22)] G h [23, 24, 25, 26, 27, 28] [(22, 0), (22, 1), (22, 2), (22, 3), (22, 4), (22, 5)] q.2 := by
  refine zMetC (by decide) rfl (Nat.le_of_ble_eq_true rfl) ?_
  intro p e s m below meth c ls C0 hin hl hS
  have hl : lv_has ls 1 [(0, .ref (zal G 22))] := hl
  have C0 : zC G p s m [.ref (zal G 22)].toArray meth c cX6_init 1 RX6 none := C0
  obtain ⟨qs, hS⟩ : ∃ qs, zS (zext G [] [] qs) h s.heap s.heap [] := ⟨_, hS⟩
  have C := zC_ext [] [] qs C0
  unfold f_X6_init_t22 at hf
  refine lv_aload_n C.1 C.2.1 dX6_init_0 rfl (lv_at hl 0 rfl) ?_
  refine zobj C kw_297 (Nat.le_of_ble_eq_true rfl) hl.1 ⟨Nat.le_of_ble_eq_true rfl, Nat.le_of_ble_eq_true rfl⟩ dX6_init_1 ?_
  refine lv_aload_n C.1 C.2.1 dX6_init_4 rfl (lv_at hl 0 rfl) ?_
  refine lv_bipush (v := (6 : Int32)) C.1 C.2.1 dX6_init_5 rfl ?_
  refine znewa (d := 23) C hS (zfresh (hfr 23 (by decide)) (by decide)) (zun1 (by decide) (zlk_f (hz 22 (by decide) 0) (by decide))) sh_23 (by decide) rfl (by decide) (Nat.le_of_ble_eq_true rfl) (Nat.le_of_ble_eq_true rfl) dX6_init_7 (fun q23 H hS => ?_)
  obtain ⟨h1, eh1, hf⟩ := zst_some hf
  rw [← eh1] at hS
  refine zputL (ty := .array .int) (zC_ext _ _ _ C) hS ff_X6_11_22 (zfinL sh_22 rfl ⟨rfl, rfl, by decide +kernel⟩) hin (fun x => ⟨rfl, rfl⟩) (zmem_o (zmem_o hthis)) rfl rfl dX6_init_9 (fun H locs hS => ?_)
  rw [zext_zext, zext_zext] at hS
  obtain ⟨qs, hS⟩ : ∃ qs, zS (zext G [23] [(22, 0)] qs) h1 s.heap H locs := ⟨_, hS⟩
  have C := zC_ext [23] [(22, 0)] qs C0
  refine lv_aload_n C.1 C.2.1 dX6_init_12 rfl (lv_at hl 0 rfl) ?_
  refine lv_bipush (v := (48 : Int32)) C.1 C.2.1 dX6_init_13 rfl ?_
  refine znewa (d := 24) C hS (zfresh (hfr 24 (by decide)) (by decide)) (zun1 (by decide) (zlk_f (hz 22 (by decide) 1) (by decide))) sh_24 (by decide) rfl (by decide) (Nat.le_of_ble_eq_true rfl) (Nat.le_of_ble_eq_true rfl) dX6_init_15 (fun q24 H hS => ?_)
  obtain ⟨h2, eh2, hf⟩ := zst_some hf
  rw [← eh2] at hS
  refine zputL (ty := .array .int) (zC_ext _ _ _ C) hS ff_X6_15_22 (zfinL sh_22 rfl ⟨rfl, rfl, by decide +kernel⟩) hin (fun x => ⟨rfl, rfl⟩) (zmem_o (zmem_o hthis)) rfl rfl dX6_init_17 (fun H locs hS => ?_)
  rw [zext_zext, zext_zext] at hS
  obtain ⟨qs, hS⟩ : ∃ qs, zS (zext G [23, 24] [(22, 0), (22, 1)] qs) h2 s.heap H locs := ⟨_, hS⟩
  have C := zC_ext [23, 24] [(22, 0), (22, 1)] qs C0
  refine lv_aload_n C.1 C.2.1 dX6_init_20 rfl (lv_at hl 0 rfl) ?_
  refine lv_bipush (v := (48 : Int32)) C.1 C.2.1 dX6_init_21 rfl ?_
  refine znewa (d := 25) C hS (zfresh (hfr 25 (by decide)) (by decide)) (zun1 (by decide) (zlk_f (hz 22 (by decide) 2) (by decide))) sh_25 (by decide) rfl (by decide) (Nat.le_of_ble_eq_true rfl) (Nat.le_of_ble_eq_true rfl) dX6_init_23 (fun q25 H hS => ?_)
  obtain ⟨h3, eh3, hf⟩ := zst_some hf
  rw [← eh3] at hS
  refine zputL (ty := .array .int) (zC_ext _ _ _ C) hS ff_X6_18_22 (zfinL sh_22 rfl ⟨rfl, rfl, by decide +kernel⟩) hin (fun x => ⟨rfl, rfl⟩) (zmem_o (zmem_o hthis)) rfl rfl dX6_init_25 (fun H locs hS => ?_)
  rw [zext_zext, zext_zext] at hS
  obtain ⟨qs, hS⟩ : ∃ qs, zS (zext G [23, 24, 25] [(22, 0), (22, 1), (22, 2)] qs) h3 s.heap H locs := ⟨_, hS⟩
  have C := zC_ext [23, 24, 25] [(22, 0), (22, 1), (22, 2)] qs C0
  refine lv_aload_n C.1 C.2.1 dX6_init_28 rfl (lv_at hl 0 rfl) ?_
  refine lv_bipush (v := (36 : Int32)) C.1 C.2.1 dX6_init_29 rfl ?_
  refine znewa (d := 26) C hS (zfresh (hfr 26 (by decide)) (by decide)) (zun1 (by decide) (zlk_f (hz 22 (by decide) 3) (by decide))) sh_26 (by decide) rfl (by decide) (Nat.le_of_ble_eq_true rfl) (Nat.le_of_ble_eq_true rfl) dX6_init_31 (fun q26 H hS => ?_)
  obtain ⟨h4, eh4, hf⟩ := zst_some hf
  rw [← eh4] at hS
  refine zputL (ty := .array .int) (zC_ext _ _ _ C) hS ff_X6_21_22 (zfinL sh_22 rfl ⟨rfl, rfl, by decide +kernel⟩) hin (fun x => ⟨rfl, rfl⟩) (zmem_o (zmem_o hthis)) rfl rfl dX6_init_33 (fun H locs hS => ?_)
  rw [zext_zext, zext_zext] at hS
  obtain ⟨qs, hS⟩ : ∃ qs, zS (zext G [23, 24, 25, 26] [(22, 0), (22, 1), (22, 2), (22, 3)] qs) h4 s.heap H locs := ⟨_, hS⟩
  have C := zC_ext [23, 24, 25, 26] [(22, 0), (22, 1), (22, 2), (22, 3)] qs C0
  refine lv_aload_n C.1 C.2.1 dX6_init_36 rfl (lv_at hl 0 rfl) ?_
  refine lv_bipush (v := (6 : Int32)) C.1 C.2.1 dX6_init_37 rfl ?_
  refine znewa (d := 27) C hS (zfresh (hfr 27 (by decide)) (by decide)) (zun1 (by decide) (zlk_f (hz 22 (by decide) 4) (by decide))) sh_27 (by decide) rfl (by decide) (Nat.le_of_ble_eq_true rfl) (Nat.le_of_ble_eq_true rfl) dX6_init_39 (fun q27 H hS => ?_)
  obtain ⟨h5, eh5, hf⟩ := zst_some hf
  rw [← eh5] at hS
  refine zputL (ty := .array .int) (zC_ext _ _ _ C) hS ff_X6_24_22 (zfinL sh_22 rfl ⟨rfl, rfl, by decide +kernel⟩) hin (fun x => ⟨rfl, rfl⟩) (zmem_o (zmem_o hthis)) rfl rfl dX6_init_41 (fun H locs hS => ?_)
  rw [zext_zext, zext_zext] at hS
  obtain ⟨qs, hS⟩ : ∃ qs, zS (zext G [23, 24, 25, 26, 27] [(22, 0), (22, 1), (22, 2), (22, 3), (22, 4)] qs) h5 s.heap H locs := ⟨_, hS⟩
  have C := zC_ext [23, 24, 25, 26, 27] [(22, 0), (22, 1), (22, 2), (22, 3), (22, 4)] qs C0
  refine lv_aload_n C.1 C.2.1 dX6_init_44 rfl (lv_at hl 0 rfl) ?_
  refine lv_bipush (v := (6 : Int32)) C.1 C.2.1 dX6_init_45 rfl ?_
  refine znewa (d := 28) C hS (zfresh (hfr 28 (by decide)) (by decide)) (zun1 (by decide) (zlk_f (hz 22 (by decide) 5) (by decide))) sh_28 (by decide) rfl (by decide) (Nat.le_of_ble_eq_true rfl) (Nat.le_of_ble_eq_true rfl) dX6_init_47 (fun q28 H hS => ?_)
  obtain ⟨h6, eh6, hf⟩ := zst_some hf
  rw [← eh6] at hS
  refine zputL (ty := .array .int) (zC_ext _ _ _ C) hS ff_X6_27_22 (zfinL sh_22 rfl ⟨rfl, rfl, by decide +kernel⟩) hin (fun x => ⟨rfl, rfl⟩) (zmem_o (zmem_o hthis)) rfl rfl dX6_init_49 (fun H locs hS => ?_)
  rw [zext_zext, zext_zext] at hS
  obtain ⟨qs, hS⟩ : ∃ qs, zS (zext G [23, 24, 25, 26, 27, 28] [(22, 0), (22, 1), (22, 2), (22, 3), (22, 4), (22, 5)] qs) h6 s.heap H locs := ⟨_, hS⟩
  have C := zC_ext [23, 24, 25, 26, 27, 28] [(22, 0), (22, 1), (22, 2), (22, 3), (22, 4), (22, 5)] qs C0
  refine W.widen (k := 6) (n := 150) (Nat.le_of_ble_eq_true rfl) (Nat.le_of_ble_eq_true rfl) ?_
  exact zretC C0 hS hf dX6_init_52
end
section
def f_X5_init_t34 (h : zH) : zR := (zst (zz h 35) fun h1 => (zst (zz h1 36) fun h2 => (zst (zz h2 37) fun h3 => (some (0, h3)))))
set_option maxHeartbeats 8000000 in
set_option maxRecDepth 100000 in
theorem c_X5_init_t34 (l : Launch) (G : zG) (h : zH) (q : Int32 × zH) (hthis : 34 ∈ znm G) (hfr : ∀ d ∈ ([35, 36, 37] : List Nat), d ∉ znm G) (hz : ∀ d ∈ ([34, 35, 36, 37] : List Nat), ∀ k, zlk G d k = false) (hx : ∀ q ∈ ([] : List (Nat × Nat)), zlk G q.1 q.2 = false) (hf : f_X5_init_t34 h = some q) : zCtC l yX5_init cX5_init 1 2 3 840 [.ref (zal G 34)] G h [35, 36, 37] [(34, 0), (34, 1), (34, 2)] q.2 := by
  refine zMetC (by decide) rfl (Nat.le_of_ble_eq_true rfl) ?_
  intro p e s m below meth c ls C0 hin hl hS
  have hl : lv_has ls 1 [(0, .ref (zal G 34))] := hl
  have C0 : zC G p s m [.ref (zal G 34)].toArray meth c cX5_init 1 RX5 none := C0
  obtain ⟨qs, hS⟩ : ∃ qs, zS (zext G [] [] qs) h s.heap s.heap [] := ⟨_, hS⟩
  have C := zC_ext [] [] qs C0
  unfold f_X5_init_t34 at hf
  refine lv_aload_n C.1 C.2.1 dX5_init_0 rfl (lv_at hl 0 rfl) ?_
  refine zobj C kw_229 (Nat.le_of_ble_eq_true rfl) hl.1 ⟨Nat.le_of_ble_eq_true rfl, Nat.le_of_ble_eq_true rfl⟩ dX5_init_1 ?_
  refine lv_aload_n C.1 C.2.1 dX5_init_4 rfl (lv_at hl 0 rfl) ?_
  refine lv_sipush (v := (400 : Int32)) C.1 C.2.1 dX5_init_5 rfl ?_
  refine znewa (d := 35) C hS (zfresh (hfr 35 (by decide)) (by decide)) (zun1 (by decide) (zlk_f (hz 34 (by decide) 0) (by decide))) sh_35 (by decide) rfl (by decide) (Nat.le_of_ble_eq_true rfl) (Nat.le_of_ble_eq_true rfl) dX5_init_8 (fun q35 H hS => ?_)
  obtain ⟨h1, eh1, hf⟩ := zst_some hf
  rw [← eh1] at hS
  refine zputL (ty := .array .int) (zC_ext _ _ _ C) hS ff_X5_11_34 (zfinL sh_34 rfl ⟨rfl, rfl, by decide +kernel⟩) hin (fun x => ⟨rfl, rfl⟩) (zmem_o (zmem_o hthis)) rfl rfl dX5_init_10 (fun H locs hS => ?_)
  rw [zext_zext, zext_zext] at hS
  obtain ⟨qs, hS⟩ : ∃ qs, zS (zext G [35] [(34, 0)] qs) h1 s.heap H locs := ⟨_, hS⟩
  have C := zC_ext [35] [(34, 0)] qs C0
  refine lv_aload_n C.1 C.2.1 dX5_init_13 rfl (lv_at hl 0 rfl) ?_
  refine lv_sipush (v := (400 : Int32)) C.1 C.2.1 dX5_init_14 rfl ?_
  refine znewa (d := 36) C hS (zfresh (hfr 36 (by decide)) (by decide)) (zun1 (by decide) (zlk_f (hz 34 (by decide) 1) (by decide))) sh_36 (by decide) rfl (by decide) (Nat.le_of_ble_eq_true rfl) (Nat.le_of_ble_eq_true rfl) dX5_init_17 (fun q36 H hS => ?_)
  obtain ⟨h2, eh2, hf⟩ := zst_some hf
  rw [← eh2] at hS
  refine zputL (ty := .array .int) (zC_ext _ _ _ C) hS ff_X5_15_34 (zfinL sh_34 rfl ⟨rfl, rfl, by decide +kernel⟩) hin (fun x => ⟨rfl, rfl⟩) (zmem_o (zmem_o hthis)) rfl rfl dX5_init_19 (fun H locs hS => ?_)
  rw [zext_zext, zext_zext] at hS
  obtain ⟨qs, hS⟩ : ∃ qs, zS (zext G [35, 36] [(34, 0), (34, 1)] qs) h2 s.heap H locs := ⟨_, hS⟩
  have C := zC_ext [35, 36] [(34, 0), (34, 1)] qs C0
  refine lv_aload_n C.1 C.2.1 dX5_init_22 rfl (lv_at hl 0 rfl) ?_
  refine lv_bipush (v := (40 : Int32)) C.1 C.2.1 dX5_init_23 rfl ?_
  refine znewa (d := 37) C hS (zfresh (hfr 37 (by decide)) (by decide)) (zun1 (by decide) (zlk_f (hz 34 (by decide) 2) (by decide))) sh_37 (by decide) rfl (by decide) (Nat.le_of_ble_eq_true rfl) (Nat.le_of_ble_eq_true rfl) dX5_init_25 (fun q37 H hS => ?_)
  obtain ⟨h3, eh3, hf⟩ := zst_some hf
  rw [← eh3] at hS
  refine zputL (ty := .array .int) (zC_ext _ _ _ C) hS ff_X5_18_34 (zfinL sh_34 rfl ⟨rfl, rfl, by decide +kernel⟩) hin (fun x => ⟨rfl, rfl⟩) (zmem_o (zmem_o hthis)) rfl rfl dX5_init_27 (fun H locs hS => ?_)
  rw [zext_zext, zext_zext] at hS
  obtain ⟨qs, hS⟩ : ∃ qs, zS (zext G [35, 36, 37] [(34, 0), (34, 1), (34, 2)] qs) h3 s.heap H locs := ⟨_, hS⟩
  have C := zC_ext [35, 36, 37] [(34, 0), (34, 1), (34, 2)] qs C0
  refine W.widen (k := 3) (n := 840) (Nat.le_of_ble_eq_true rfl) (Nat.le_of_ble_eq_true rfl) ?_
  exact zretC C0 hS hf dX5_init_30
end
section
theorem dX7_init_0 : decode cX7_init 0 = .ok (.aload_n 0, 1) := by decide +kernel
theorem dX7_init_1 : decode cX7_init 1 = .ok (.invokespecial 3, 3) := by decide +kernel
theorem dX7_init_4 : decode cX7_init 4 = .ok (.aload_n 0, 1) := by decide +kernel
theorem dX7_init_5 : decode cX7_init 5 = .ok (.sipush 400, 3) := by decide +kernel
theorem dX7_init_8 : decode cX7_init 8 = .ok (.newarray .char, 2) := by decide +kernel
theorem dX7_init_10 : decode cX7_init 10 = .ok (.putfield 9, 3) := by decide +kernel
theorem dX7_init_13 : decode cX7_init 13 = .ok (.aload_n 0, 1) := by decide +kernel
theorem dX7_init_14 : decode cX7_init 14 = .ok (.sipush 401, 3) := by decide +kernel
theorem dX7_init_17 : decode cX7_init 17 = .ok (.newarray .int, 2) := by decide +kernel
theorem dX7_init_19 : decode cX7_init 19 = .ok (.putfield 15, 3) := by decide +kernel
theorem dX7_init_22 : decode cX7_init 22 = .ok (.aload_n 0, 1) := by decide +kernel
theorem dX7_init_23 : decode cX7_init 23 = .ok (.sipush 401, 3) := by decide +kernel
theorem dX7_init_26 : decode cX7_init 26 = .ok (.newarray .int, 2) := by decide +kernel
theorem dX7_init_28 : decode cX7_init 28 = .ok (.putfield 19, 3) := by decide +kernel
theorem dX7_init_31 : decode cX7_init 31 = .ok (.aload_n 0, 1) := by decide +kernel
theorem dX7_init_32 : decode cX7_init 32 = .ok (.sipush 401, 3) := by decide +kernel
theorem dX7_init_35 : decode cX7_init 35 = .ok (.newarray .int, 2) := by decide +kernel
theorem dX7_init_37 : decode cX7_init 37 = .ok (.putfield 22, 3) := by decide +kernel
theorem dX7_init_40 : decode cX7_init 40 = .ok (.aload_n 0, 1) := by decide +kernel
theorem dX7_init_41 : decode cX7_init 41 = .ok (.new 25, 3) := by decide +kernel
theorem dX7_init_44 : decode cX7_init 44 = .ok (.dup, 1) := by decide +kernel
theorem dX7_init_45 : decode cX7_init 45 = .ok (.invokespecial 27, 3) := by decide +kernel
theorem dX7_init_48 : decode cX7_init 48 = .ok (.putfield 28, 3) := by decide +kernel
theorem dX7_init_51 : decode cX7_init 51 = .ok (.aload_n 0, 1) := by decide +kernel
theorem dX7_init_52 : decode cX7_init 52 = .ok (.iconst (-1), 1) := by decide +kernel
theorem dX7_init_53 : decode cX7_init 53 = .ok (.putfield 32, 3) := by decide +kernel
theorem dX7_init_56 : decode cX7_init 56 = .ok (.return_, 1) := by decide +kernel
def f_X7_init_t29 (h : zH) : zR := (zst (zz h 30) fun h1 => (zst (zz h1 31) fun h2 => (zst (zz h2 32) fun h3 => (zst (zz h3 33) fun h4 => (zst (zz h4 34) fun h5 => (zbd (f_X5_init_t34 h5) fun r6 h7 => (zst (zup h7 29 7 (-1 : Int32)) fun h8 => (some (0, h8)))))))))
set_option maxHeartbeats 8000000 in
set_option maxRecDepth 100000 in
theorem c_X7_init_t29 (l : Launch) (G : zG) (h : zH) (q : Int32 × zH) (hthis : 29 ∈ znm G) (hfr : ∀ d ∈ ([30, 31, 32, 33, 34, 35, 36, 37] : List Nat), d ∉ znm G) (hz : ∀ d ∈ ([29, 30, 31, 32, 33, 34, 35, 36, 37] : List Nat), ∀ k, zlk G d k = false) (hx : ∀ q ∈ ([] : List (Nat × Nat)), zlk G q.1 q.2 = false) (hf : f_X7_init_t29 h = some q) : zCtC l yX7_init cX7_init 1 3 8 2448 [.ref (zal G 29)] G h [30, 31, 32, 33, 34, 35, 36, 37] [(29, 0), (29, 1), (29, 2), (29, 3), (34, 0), (34, 1), (34, 2), (29, 4)] q.2 := by
  refine zMetC (by decide) rfl (Nat.le_of_ble_eq_true rfl) ?_
  intro p e s m below meth c ls C0 hin hl hS
  have hl : lv_has ls 1 [(0, .ref (zal G 29))] := hl
  have C0 : zC G p s m [.ref (zal G 29)].toArray meth c cX7_init 1 RX7 none := C0
  obtain ⟨qs, hS⟩ : ∃ qs, zS (zext G [] [] qs) h s.heap s.heap [] := ⟨_, hS⟩
  have C := zC_ext [] [] qs C0
  unfold f_X7_init_t29 at hf
  refine lv_aload_n C.1 C.2.1 dX7_init_0 rfl (lv_at hl 0 rfl) ?_
  refine zobj C kw_329 (Nat.le_of_ble_eq_true rfl) hl.1 ⟨Nat.le_of_ble_eq_true rfl, Nat.le_of_ble_eq_true rfl⟩ dX7_init_1 ?_
  refine lv_aload_n C.1 C.2.1 dX7_init_4 rfl (lv_at hl 0 rfl) ?_
  refine lv_sipush (v := (400 : Int32)) C.1 C.2.1 dX7_init_5 rfl ?_
  refine znewc (d := 30) C hS (zfresh (hfr 30 (by decide)) (by decide)) (zun1 (by decide) (zlk_f (hz 29 (by decide) 0) (by decide))) sh_30 (by decide) rfl (by decide) (Nat.le_of_ble_eq_true rfl) (Nat.le_of_ble_eq_true rfl) dX7_init_8 (fun q30 H hS => ?_)
  obtain ⟨h1, eh1, hf⟩ := zst_some hf
  rw [← eh1] at hS
  refine zputL (ty := .array .char) (zC_ext _ _ _ C) hS ff_X7_9_29 (zfinL sh_29 rfl ⟨rfl, rfl, by decide +kernel⟩) hin (fun x => ⟨rfl, rfl⟩) (zmem_o (zmem_o hthis)) rfl rfl dX7_init_10 (fun H locs hS => ?_)
  rw [zext_zext, zext_zext] at hS
  obtain ⟨qs, hS⟩ : ∃ qs, zS (zext G [30] [(29, 0)] qs) h1 s.heap H locs := ⟨_, hS⟩
  have C := zC_ext [30] [(29, 0)] qs C0
  refine lv_aload_n C.1 C.2.1 dX7_init_13 rfl (lv_at hl 0 rfl) ?_
  refine lv_sipush (v := (401 : Int32)) C.1 C.2.1 dX7_init_14 rfl ?_
  refine znewa (d := 31) C hS (zfresh (hfr 31 (by decide)) (by decide)) (zun1 (by decide) (zlk_f (hz 29 (by decide) 1) (by decide))) sh_31 (by decide) rfl (by decide) (Nat.le_of_ble_eq_true rfl) (Nat.le_of_ble_eq_true rfl) dX7_init_17 (fun q31 H hS => ?_)
  obtain ⟨h2, eh2, hf⟩ := zst_some hf
  rw [← eh2] at hS
  refine zputL (ty := .array .int) (zC_ext _ _ _ C) hS ff_X7_15_29 (zfinL sh_29 rfl ⟨rfl, rfl, by decide +kernel⟩) hin (fun x => ⟨rfl, rfl⟩) (zmem_o (zmem_o hthis)) rfl rfl dX7_init_19 (fun H locs hS => ?_)
  rw [zext_zext, zext_zext] at hS
  obtain ⟨qs, hS⟩ : ∃ qs, zS (zext G [30, 31] [(29, 0), (29, 1)] qs) h2 s.heap H locs := ⟨_, hS⟩
  have C := zC_ext [30, 31] [(29, 0), (29, 1)] qs C0
  refine lv_aload_n C.1 C.2.1 dX7_init_22 rfl (lv_at hl 0 rfl) ?_
  refine lv_sipush (v := (401 : Int32)) C.1 C.2.1 dX7_init_23 rfl ?_
  refine znewa (d := 32) C hS (zfresh (hfr 32 (by decide)) (by decide)) (zun1 (by decide) (zlk_f (hz 29 (by decide) 2) (by decide))) sh_32 (by decide) rfl (by decide) (Nat.le_of_ble_eq_true rfl) (Nat.le_of_ble_eq_true rfl) dX7_init_26 (fun q32 H hS => ?_)
  obtain ⟨h3, eh3, hf⟩ := zst_some hf
  rw [← eh3] at hS
  refine zputL (ty := .array .int) (zC_ext _ _ _ C) hS ff_X7_19_29 (zfinL sh_29 rfl ⟨rfl, rfl, by decide +kernel⟩) hin (fun x => ⟨rfl, rfl⟩) (zmem_o (zmem_o hthis)) rfl rfl dX7_init_28 (fun H locs hS => ?_)
  rw [zext_zext, zext_zext] at hS
  obtain ⟨qs, hS⟩ : ∃ qs, zS (zext G [30, 31, 32] [(29, 0), (29, 1), (29, 2)] qs) h3 s.heap H locs := ⟨_, hS⟩
  have C := zC_ext [30, 31, 32] [(29, 0), (29, 1), (29, 2)] qs C0
  refine lv_aload_n C.1 C.2.1 dX7_init_31 rfl (lv_at hl 0 rfl) ?_
  refine lv_sipush (v := (401 : Int32)) C.1 C.2.1 dX7_init_32 rfl ?_
  refine znewa (d := 33) C hS (zfresh (hfr 33 (by decide)) (by decide)) (zun1 (by decide) (zlk_f (hz 29 (by decide) 3) (by decide))) sh_33 (by decide) rfl (by decide) (Nat.le_of_ble_eq_true rfl) (Nat.le_of_ble_eq_true rfl) dX7_init_35 (fun q33 H hS => ?_)
  obtain ⟨h4, eh4, hf⟩ := zst_some hf
  rw [← eh4] at hS
  refine zputL (ty := .array .int) (zC_ext _ _ _ C) hS ff_X7_22_29 (zfinL sh_29 rfl ⟨rfl, rfl, by decide +kernel⟩) hin (fun x => ⟨rfl, rfl⟩) (zmem_o (zmem_o hthis)) rfl rfl dX7_init_37 (fun H locs hS => ?_)
  rw [zext_zext, zext_zext] at hS
  obtain ⟨qs, hS⟩ : ∃ qs, zS (zext G [30, 31, 32, 33] [(29, 0), (29, 1), (29, 2), (29, 3)] qs) h4 s.heap H locs := ⟨_, hS⟩
  have C := zC_ext [30, 31, 32, 33] [(29, 0), (29, 1), (29, 2), (29, 3)] qs C0
  refine lv_aload_n C.1 C.2.1 dX7_init_40 rfl (lv_at hl 0 rfl) ?_
  refine znewo (d := 34) C hS (zfresh (hfr 34 (by decide)) (by decide)) (zun1 (by decide) (zlk_f (hz 29 (by decide) 4) (by decide))) (zlk_fn (hz 34 (by decide)) (by decide)) sh_34 rfl tyX5 tyX5_ok iz_X5 (by decide) (by decide) ⟨kw_330, kw_225, kw_89⟩ (Nat.le_of_ble_eq_true rfl) (Nat.le_of_ble_eq_true rfl) dX7_init_41 (fun q34 H hS => ?_)
  obtain ⟨h5, eh5, hf⟩ := zst_some hf
  rw [← eh5] at hS
  refine lv_dup C.1 C.2.1 dX7_init_44 rfl ?_
  obtain ⟨r6, h7, er6, hf⟩ := zbd_some hf
  refine zcallJ (As := []) (rest := [.ref (q34), .ref (zal G 29)]) (zC_ext _ _ _ C) hS mj_X7_27 (c_X5_init_t34 l (zext (zext G [30, 31, 32, 33] [(29, 0), (29, 1), (29, 2), (29, 3)] qs) [34] [] (fun _ => q34)) h5 (r6, h7) (zmem_n (by decide)) (fun d hd => zfresh (zfresh (hfr d ((by decide : ∀ d ∈ [35, 36, 37], d ∈ [30, 31, 32, 33, 34, 35, 36, 37]) d hd)) ((by decide : ∀ d ∈ [35, 36, 37], d ∉ [30, 31, 32, 33]) d hd)) ((by decide : ∀ d ∈ [35, 36, 37], d ∉ [34]) d hd)) (fun d hd => zlk_fn (zlk_fn (hz d ((by decide : ∀ d ∈ [34, 35, 36, 37], d ∈ [29, 30, 31, 32, 33, 34, 35, 36, 37]) d hd)) ((by decide : ∀ d ∈ [34, 35, 36, 37], ([(29, 0), (29, 1), (29, 2), (29, 3)] : List (Nat × Nat)).all (fun q => q.1 != d) = true) d hd)) rfl) (fun q hq => absurd hq List.not_mem_nil) er6) rfl rfl (Nat.le_of_ble_eq_true rfl) hl.1 ⟨Nat.le_of_ble_eq_true rfl, Nat.le_of_ble_eq_true rfl, Nat.le_of_ble_eq_true rfl, Nat.le_of_ble_eq_true rfl⟩ dX7_init_45 (fun qc34 H locs hS => ?_)
  refine zputL (ty := .object "HalfAJoke$Law") (zC_ext _ _ _ (zC_ext _ _ _ C)) hS ff_X7_28_29 (zfinL sh_29 rfl ⟨rfl, rfl, by decide +kernel⟩) hin (fun x => ⟨rfl, rfl⟩) (zmem_o (zmem_o (zmem_o hthis))) rfl rfl dX7_init_48 (fun H locs hS => ?_)
  rw [zext_zext, zext_zext, zext_zext] at hS
  obtain ⟨qs, hS⟩ : ∃ qs, zS (zext G [30, 31, 32, 33, 34, 35, 36, 37] [(29, 0), (29, 1), (29, 2), (29, 3), (34, 0), (34, 1), (34, 2), (29, 4)] qs) h7 s.heap H locs := ⟨_, hS⟩
  have C := zC_ext [30, 31, 32, 33, 34, 35, 36, 37] [(29, 0), (29, 1), (29, 2), (29, 3), (34, 0), (34, 1), (34, 2), (29, 4)] qs C0
  refine lv_aload_n C.1 C.2.1 dX7_init_51 rfl (lv_at hl 0 rfl) ?_
  refine lv_iconst (v := (-1 : Int32)) C.1 C.2.1 dX7_init_52 rfl ?_
  refine zputIA C hS ff_X7_32_29 fw_29_7 (zmem_o hthis) rfl dX7_init_53 (fun H locs hS => ?_)
  obtain ⟨h8, eh8, hf⟩ := zst_some hf
  have hS : zS (zext G [30, 31, 32, 33, 34, 35, 36, 37] [(29, 0), (29, 1), (29, 2), (29, 3), (34, 0), (34, 1), (34, 2), (29, 4)] qs) h8 s.heap H locs := by rw [eh8]; exact hS
  refine W.widen (k := 8) (n := 2448) (Nat.le_of_ble_eq_true rfl) (Nat.le_of_ble_eq_true rfl) ?_
  exact zretC C0 hS hf dX7_init_56
end
section
theorem dX1_init_0 : decode cX1_init 0 = .ok (.aload_n 0, 1) := by decide +kernel
theorem dX1_init_1 : decode cX1_init 1 = .ok (.invokespecial 3, 3) := by decide +kernel
theorem dX1_init_4 : decode cX1_init 4 = .ok (.aload_n 0, 1) := by decide +kernel
theorem dX1_init_5 : decode cX1_init 5 = .ok (.sipush 256, 3) := by decide +kernel
theorem dX1_init_8 : decode cX1_init 8 = .ok (.newarray .int, 2) := by decide +kernel
theorem dX1_init_10 : decode cX1_init 10 = .ok (.putfield 9, 3) := by decide +kernel
theorem dX1_init_13 : decode cX1_init 13 = .ok (.aload_n 0, 1) := by decide +kernel
theorem dX1_init_14 : decode cX1_init 14 = .ok (.sipush 256, 3) := by decide +kernel
theorem dX1_init_17 : decode cX1_init 17 = .ok (.newarray .int, 2) := by decide +kernel
theorem dX1_init_19 : decode cX1_init 19 = .ok (.putfield 15, 3) := by decide +kernel
theorem dX1_init_22 : decode cX1_init 22 = .ok (.aload_n 0, 1) := by decide +kernel
theorem dX1_init_23 : decode cX1_init 23 = .ok (.bipush 6, 2) := by decide +kernel
theorem dX1_init_25 : decode cX1_init 25 = .ok (.newarray .int, 2) := by decide +kernel
theorem dX1_init_27 : decode cX1_init 27 = .ok (.putfield 18, 3) := by decide +kernel
theorem dX1_init_30 : decode cX1_init 30 = .ok (.aload_n 0, 1) := by decide +kernel
theorem dX1_init_31 : decode cX1_init 31 = .ok (.bipush 8, 2) := by decide +kernel
theorem dX1_init_33 : decode cX1_init 33 = .ok (.newarray .int, 2) := by decide +kernel
theorem dX1_init_35 : decode cX1_init 35 = .ok (.putfield 21, 3) := by decide +kernel
theorem dX1_init_38 : decode cX1_init 38 = .ok (.aload_n 0, 1) := by decide +kernel
theorem dX1_init_39 : decode cX1_init 39 = .ok (.bipush 8, 2) := by decide +kernel
theorem dX1_init_41 : decode cX1_init 41 = .ok (.newarray .int, 2) := by decide +kernel
theorem dX1_init_43 : decode cX1_init 43 = .ok (.putfield 24, 3) := by decide +kernel
theorem dX1_init_46 : decode cX1_init 46 = .ok (.aload_n 0, 1) := by decide +kernel
theorem dX1_init_47 : decode cX1_init 47 = .ok (.aload_n 1, 1) := by decide +kernel
theorem dX1_init_48 : decode cX1_init 48 = .ok (.putfield 27, 3) := by decide +kernel
theorem dX1_init_51 : decode cX1_init 51 = .ok (.return_, 1) := by decide +kernel
def f_X1_init_t38 (h : zH) : zR := (zst (zz h 39) fun h1 => (zst (zz h1 40) fun h2 => (zst (zz h2 41) fun h3 => (zst (zz h3 42) fun h4 => (zst (zz h4 43) fun h5 => (some (0, h5)))))))
set_option maxHeartbeats 8000000 in
set_option maxRecDepth 100000 in
theorem c_X1_init_t38 (l : Launch) (G : zG) (h : zH) (q : Int32 × zH) (hthis : 38 ∈ znm G) (hfr : ∀ d ∈ ([39, 40, 41, 42, 43] : List Nat), d ∉ znm G) (hz : ∀ d ∈ ([38, 39, 40, 41, 42, 43] : List Nat), ∀ k, zlk G d k = false) (hx : ∀ q ∈ ([] : List (Nat × Nat)), zlk G q.1 q.2 = false) (hf : f_X1_init_t38 h = some q) : zCtC l yX1_init cX1_init 2 2 5 534 [.ref (zal G 38), .ref (zal G 1)] G h [39, 40, 41, 42, 43] [(38, 1), (38, 2), (38, 3), (38, 4), (38, 5), (38, 0)] q.2 := by
  refine zMetC (by decide) rfl (Nat.le_of_ble_eq_true rfl) ?_
  intro p e s m below meth c ls C0 hin hl hS
  have hl : lv_has ls 2 [(0, .ref (zal G 38)), (1, .ref (zal G 1))] := hl
  have C0 : zC G p s m [.ref (zal G 38), .ref (zal G 1)].toArray meth c cX1_init 2 RX1 none := C0
  obtain ⟨qs, hS⟩ : ∃ qs, zS (zext G [] [] qs) h s.heap s.heap [] := ⟨_, hS⟩
  have C := zC_ext [] [] qs C0
  unfold f_X1_init_t38 at hf
  refine lv_aload_n C.1 C.2.1 dX1_init_0 rfl (lv_at hl 0 rfl) ?_
  refine zobj C kw_376 (Nat.le_of_ble_eq_true rfl) hl.1 ⟨Nat.le_of_ble_eq_true rfl, Nat.le_of_ble_eq_true rfl⟩ dX1_init_1 ?_
  refine lv_aload_n C.1 C.2.1 dX1_init_4 rfl (lv_at hl 0 rfl) ?_
  refine lv_sipush (v := (256 : Int32)) C.1 C.2.1 dX1_init_5 rfl ?_
  refine znewa (d := 39) C hS (zfresh (hfr 39 (by decide)) (by decide)) (zun1 (by decide) (zlk_f (hz 38 (by decide) 1) (by decide))) sh_39 (by decide) rfl (by decide) (Nat.le_of_ble_eq_true rfl) (Nat.le_of_ble_eq_true rfl) dX1_init_8 (fun q39 H hS => ?_)
  obtain ⟨h1, eh1, hf⟩ := zst_some hf
  rw [← eh1] at hS
  refine zputL (ty := .array .int) (zC_ext _ _ _ C) hS ff_X1_9_38 (zfinL sh_38 rfl ⟨rfl, rfl, by decide +kernel⟩) hin (fun x => ⟨rfl, rfl⟩) (zmem_o (zmem_o hthis)) rfl rfl dX1_init_10 (fun H locs hS => ?_)
  rw [zext_zext, zext_zext] at hS
  obtain ⟨qs, hS⟩ : ∃ qs, zS (zext G [39] [(38, 1)] qs) h1 s.heap H locs := ⟨_, hS⟩
  have C := zC_ext [39] [(38, 1)] qs C0
  refine lv_aload_n C.1 C.2.1 dX1_init_13 rfl (lv_at hl 0 rfl) ?_
  refine lv_sipush (v := (256 : Int32)) C.1 C.2.1 dX1_init_14 rfl ?_
  refine znewa (d := 40) C hS (zfresh (hfr 40 (by decide)) (by decide)) (zun1 (by decide) (zlk_f (hz 38 (by decide) 2) (by decide))) sh_40 (by decide) rfl (by decide) (Nat.le_of_ble_eq_true rfl) (Nat.le_of_ble_eq_true rfl) dX1_init_17 (fun q40 H hS => ?_)
  obtain ⟨h2, eh2, hf⟩ := zst_some hf
  rw [← eh2] at hS
  refine zputL (ty := .array .int) (zC_ext _ _ _ C) hS ff_X1_15_38 (zfinL sh_38 rfl ⟨rfl, rfl, by decide +kernel⟩) hin (fun x => ⟨rfl, rfl⟩) (zmem_o (zmem_o hthis)) rfl rfl dX1_init_19 (fun H locs hS => ?_)
  rw [zext_zext, zext_zext] at hS
  obtain ⟨qs, hS⟩ : ∃ qs, zS (zext G [39, 40] [(38, 1), (38, 2)] qs) h2 s.heap H locs := ⟨_, hS⟩
  have C := zC_ext [39, 40] [(38, 1), (38, 2)] qs C0
  refine lv_aload_n C.1 C.2.1 dX1_init_22 rfl (lv_at hl 0 rfl) ?_
  refine lv_bipush (v := (6 : Int32)) C.1 C.2.1 dX1_init_23 rfl ?_
  refine znewa (d := 41) C hS (zfresh (hfr 41 (by decide)) (by decide)) (zun1 (by decide) (zlk_f (hz 38 (by decide) 3) (by decide))) sh_41 (by decide) rfl (by decide) (Nat.le_of_ble_eq_true rfl) (Nat.le_of_ble_eq_true rfl) dX1_init_25 (fun q41 H hS => ?_)
  obtain ⟨h3, eh3, hf⟩ := zst_some hf
  rw [← eh3] at hS
  refine zputL (ty := .array .int) (zC_ext _ _ _ C) hS ff_X1_18_38 (zfinL sh_38 rfl ⟨rfl, rfl, by decide +kernel⟩) hin (fun x => ⟨rfl, rfl⟩) (zmem_o (zmem_o hthis)) rfl rfl dX1_init_27 (fun H locs hS => ?_)
  rw [zext_zext, zext_zext] at hS
  obtain ⟨qs, hS⟩ : ∃ qs, zS (zext G [39, 40, 41] [(38, 1), (38, 2), (38, 3)] qs) h3 s.heap H locs := ⟨_, hS⟩
  have C := zC_ext [39, 40, 41] [(38, 1), (38, 2), (38, 3)] qs C0
  refine lv_aload_n C.1 C.2.1 dX1_init_30 rfl (lv_at hl 0 rfl) ?_
  refine lv_bipush (v := (8 : Int32)) C.1 C.2.1 dX1_init_31 rfl ?_
  refine znewa (d := 42) C hS (zfresh (hfr 42 (by decide)) (by decide)) (zun1 (by decide) (zlk_f (hz 38 (by decide) 4) (by decide))) sh_42 (by decide) rfl (by decide) (Nat.le_of_ble_eq_true rfl) (Nat.le_of_ble_eq_true rfl) dX1_init_33 (fun q42 H hS => ?_)
  obtain ⟨h4, eh4, hf⟩ := zst_some hf
  rw [← eh4] at hS
  refine zputL (ty := .array .int) (zC_ext _ _ _ C) hS ff_X1_21_38 (zfinL sh_38 rfl ⟨rfl, rfl, by decide +kernel⟩) hin (fun x => ⟨rfl, rfl⟩) (zmem_o (zmem_o hthis)) rfl rfl dX1_init_35 (fun H locs hS => ?_)
  rw [zext_zext, zext_zext] at hS
  obtain ⟨qs, hS⟩ : ∃ qs, zS (zext G [39, 40, 41, 42] [(38, 1), (38, 2), (38, 3), (38, 4)] qs) h4 s.heap H locs := ⟨_, hS⟩
  have C := zC_ext [39, 40, 41, 42] [(38, 1), (38, 2), (38, 3), (38, 4)] qs C0
  refine lv_aload_n C.1 C.2.1 dX1_init_38 rfl (lv_at hl 0 rfl) ?_
  refine lv_bipush (v := (8 : Int32)) C.1 C.2.1 dX1_init_39 rfl ?_
  refine znewa (d := 43) C hS (zfresh (hfr 43 (by decide)) (by decide)) (zun1 (by decide) (zlk_f (hz 38 (by decide) 5) (by decide))) sh_43 (by decide) rfl (by decide) (Nat.le_of_ble_eq_true rfl) (Nat.le_of_ble_eq_true rfl) dX1_init_41 (fun q43 H hS => ?_)
  obtain ⟨h5, eh5, hf⟩ := zst_some hf
  rw [← eh5] at hS
  refine zputL (ty := .array .int) (zC_ext _ _ _ C) hS ff_X1_24_38 (zfinL sh_38 rfl ⟨rfl, rfl, by decide +kernel⟩) hin (fun x => ⟨rfl, rfl⟩) (zmem_o (zmem_o hthis)) rfl rfl dX1_init_43 (fun H locs hS => ?_)
  rw [zext_zext, zext_zext] at hS
  obtain ⟨qs, hS⟩ : ∃ qs, zS (zext G [39, 40, 41, 42, 43] [(38, 1), (38, 2), (38, 3), (38, 4), (38, 5)] qs) h5 s.heap H locs := ⟨_, hS⟩
  have C := zC_ext [39, 40, 41, 42, 43] [(38, 1), (38, 2), (38, 3), (38, 4), (38, 5)] qs C0
  refine lv_aload_n C.1 C.2.1 dX1_init_46 rfl (lv_at hl 0 rfl) ?_
  refine lv_aload_n C.1 C.2.1 dX1_init_47 rfl (lv_at hl 1 rfl) ?_
  refine zputL (ty := .object "HalfAJoke$House") C hS ff_X1_27_38 (zfinL sh_38 rfl ⟨rfl, rfl, by decide +kernel⟩) hin (fun x => ⟨rfl, rfl⟩) (zmem_o hthis) rfl rfl dX1_init_48 (fun H locs hS => ?_)
  rw [zext_zext] at hS
  obtain ⟨qs, hS⟩ : ∃ qs, zS (zext G [39, 40, 41, 42, 43] [(38, 1), (38, 2), (38, 3), (38, 4), (38, 5), (38, 0)] qs) h5 s.heap H locs := ⟨_, hS⟩
  have C := zC_ext [39, 40, 41, 42, 43] [(38, 1), (38, 2), (38, 3), (38, 4), (38, 5), (38, 0)] qs C0
  refine W.widen (k := 5) (n := 534) (Nat.le_of_ble_eq_true rfl) (Nat.le_of_ble_eq_true rfl) ?_
  exact zretC C0 hS hf dX1_init_51
end
section
theorem dX11_init_0 : decode cX11_init 0 = .ok (.aload_n 0, 1) := by decide +kernel
theorem dX11_init_1 : decode cX11_init 1 = .ok (.invokespecial 3, 3) := by decide +kernel
theorem dX11_init_4 : decode cX11_init 4 = .ok (.aload_n 0, 1) := by decide +kernel
theorem dX11_init_5 : decode cX11_init 5 = .ok (.new 9, 3) := by decide +kernel
theorem dX11_init_8 : decode cX11_init 8 = .ok (.dup, 1) := by decide +kernel
theorem dX11_init_9 : decode cX11_init 9 = .ok (.invokespecial 11, 3) := by decide +kernel
theorem dX11_init_12 : decode cX11_init 12 = .ok (.putfield 12, 3) := by decide +kernel
theorem dX11_init_15 : decode cX11_init 15 = .ok (.aload_n 0, 1) := by decide +kernel
theorem dX11_init_16 : decode cX11_init 16 = .ok (.new 16, 3) := by decide +kernel
theorem dX11_init_19 : decode cX11_init 19 = .ok (.dup, 1) := by decide +kernel
theorem dX11_init_20 : decode cX11_init 20 = .ok (.invokespecial 18, 3) := by decide +kernel
theorem dX11_init_23 : decode cX11_init 23 = .ok (.putfield 19, 3) := by decide +kernel
theorem dX11_init_26 : decode cX11_init 26 = .ok (.aload_n 0, 1) := by decide +kernel
theorem dX11_init_27 : decode cX11_init 27 = .ok (.new 23, 3) := by decide +kernel
theorem dX11_init_30 : decode cX11_init 30 = .ok (.dup, 1) := by decide +kernel
theorem dX11_init_31 : decode cX11_init 31 = .ok (.invokespecial 25, 3) := by decide +kernel
theorem dX11_init_34 : decode cX11_init 34 = .ok (.putfield 26, 3) := by decide +kernel
theorem dX11_init_37 : decode cX11_init 37 = .ok (.aload_n 0, 1) := by decide +kernel
theorem dX11_init_38 : decode cX11_init 38 = .ok (.new 30, 3) := by decide +kernel
theorem dX11_init_41 : decode cX11_init 41 = .ok (.dup, 1) := by decide +kernel
theorem dX11_init_42 : decode cX11_init 42 = .ok (.aload_n 0, 1) := by decide +kernel
theorem dX11_init_43 : decode cX11_init 43 = .ok (.getfield 12, 3) := by decide +kernel
theorem dX11_init_46 : decode cX11_init 46 = .ok (.invokespecial 32, 3) := by decide +kernel
theorem dX11_init_49 : decode cX11_init 49 = .ok (.putfield 35, 3) := by decide +kernel
theorem dX11_init_52 : decode cX11_init 52 = .ok (.aload_n 0, 1) := by decide +kernel
theorem dX11_init_53 : decode cX11_init 53 = .ok (.bipush 8, 2) := by decide +kernel
theorem dX11_init_55 : decode cX11_init 55 = .ok (.newarray .int, 2) := by decide +kernel
theorem dX11_init_57 : decode cX11_init 57 = .ok (.putfield 39, 3) := by decide +kernel
theorem dX11_init_60 : decode cX11_init 60 = .ok (.return_, 1) := by decide +kernel
def f_X11_init_t0 (h : zH) : zR := (zst (zz h 1) fun h1 => (zbd (f_X4_init_t1 h1) fun r2 h3 => (zst (zz h3 22) fun h4 => (zbd (f_X6_init_t22 h4) fun r5 h6 => (zst (zz h6 29) fun h7 => (zbd (f_X7_init_t29 h7) fun r8 h9 => (zst (zz h9 38) fun h10 => (zbd (f_X1_init_t38 h10) fun r11 h12 => (zst (zz h12 44) fun h13 => (some (0, h13)))))))))))
set_option maxHeartbeats 8000000 in
set_option maxRecDepth 100000 in
theorem c_X11_init_t0 (l : Launch) (G : zG) (h : zH) (q : Int32 × zH) (hthis : 0 ∈ znm G) (hfr : ∀ d ∈ ([1, 2, 3, 4, 5, 6, 7, 8, 9, 10, 11, 12, 13, 14, 15, 16, 17, 18, 19, 20, 21, 22, 23, 24, 25, 26, 27, 28, 29, 30, 31, 32, 33, 34, 35, 36, 37, 38, 39, 40, 41, 42, 43, 44] : List Nat), d ∉ znm G) (hz : ∀ d ∈ ([0, 1, 2, 3, 4, 5, 6, 7, 8, 9, 10, 11, 12, 13, 14, 15, 16, 17, 18, 19, 20, 21, 22, 23, 24, 25, 26, 27, 28, 29, 30, 31, 32, 33, 34, 35, 36, 37, 38, 39, 40, 41, 42, 43, 44] : List Nat), ∀ k, zlk G d k = false) (hx : ∀ q ∈ ([(71, 0)] : List (Nat × Nat)), zlk G q.1 q.2 = false) (hf : f_X11_init_t0 h = some q) : zCtC l yX11_init cX11_init 1 5 44 5342 [.ref (zal G 0)] G h [1, 2, 3, 4, 5, 6, 7, 8, 9, 10, 11, 12, 13, 14, 15, 16, 17, 18, 19, 20, 21, 22, 23, 24, 25, 26, 27, 28, 29, 30, 31, 32, 33, 34, 35, 36, 37, 38, 39, 40, 41, 42, 43, 44] [(2, 0), (2, 1), (2, 2), (2, 3), (1, 0), (7, 0), (7, 1), (7, 2), (1, 1), (11, 0), (11, 1), (11, 2), (11, 3), (1, 2), (16, 0), (16, 1), (16, 2), (1, 3), (1, 4), (1, 5), (0, 0), (22, 0), (22, 1), (22, 2), (22, 3), (22, 4), (22, 5), (0, 1), (29, 0), (29, 1), (29, 2), (29, 3), (34, 0), (34, 1), (34, 2), (29, 4), (0, 2), (38, 1), (38, 2), (38, 3), (38, 4), (38, 5), (38, 0), (0, 3), (0, 4)] q.2 := by
  refine zMetC (by decide) rfl (Nat.le_of_ble_eq_true rfl) ?_
  intro p e s m below meth c ls C0 hin hl hS
  have hl : lv_has ls 1 [(0, .ref (zal G 0))] := hl
  have C0 : zC G p s m [.ref (zal G 0)].toArray meth c cX11_init 1 RX11 none := C0
  obtain ⟨qs, hS⟩ : ∃ qs, zS (zext G [] [] qs) h s.heap s.heap [] := ⟨_, hS⟩
  have C := zC_ext [] [] qs C0
  unfold f_X11_init_t0 at hf
  refine lv_aload_n C.1 C.2.1 dX11_init_0 rfl (lv_at hl 0 rfl) ?_
  refine zobj C kw_109 (Nat.le_of_ble_eq_true rfl) hl.1 ⟨Nat.le_of_ble_eq_true rfl, Nat.le_of_ble_eq_true rfl⟩ dX11_init_1 ?_
  refine lv_aload_n C.1 C.2.1 dX11_init_4 rfl (lv_at hl 0 rfl) ?_
  refine znewo (d := 1) C hS (zfresh (hfr 1 (by decide)) (by decide)) (zun2 (by decide) (zlk_f (hz 0 (by decide) 0) (by decide)) (zlk_f (hz 38 (by decide) 0) (by decide))) (zlk_fn (hz 1 (by decide)) (by decide)) sh_1 rfl tyX4 tyX4_ok iz_X4 (by decide) (by decide) ⟨kw_112, kw_113, kw_85⟩ (Nat.le_of_ble_eq_true rfl) (Nat.le_of_ble_eq_true rfl) dX11_init_5 (fun q1 H hS => ?_)
  obtain ⟨h1, eh1, hf⟩ := zst_some hf
  rw [← eh1] at hS
  refine lv_dup C.1 C.2.1 dX11_init_8 rfl ?_
  obtain ⟨r2, h3, er2, hf⟩ := zbd_some hf
  refine zcallJ (As := []) (rest := [.ref (q1), .ref (zal G 0)]) (zC_ext _ _ _ C) hS mj_X11_11 (c_X4_init_t1 l (zext (zext G [] [] qs) [1] [] (fun _ => q1)) h1 (r2, h3) (zmem_n (by decide)) (fun d hd => zfresh (zfresh (hfr d ((by decide : ∀ d ∈ [2, 3, 4, 5, 6, 7, 8, 9, 10, 11, 12, 13, 14, 15, 16, 17, 18, 19, 20, 21], d ∈ [1, 2, 3, 4, 5, 6, 7, 8, 9, 10, 11, 12, 13, 14, 15, 16, 17, 18, 19, 20, 21, 22, 23, 24, 25, 26, 27, 28, 29, 30, 31, 32, 33, 34, 35, 36, 37, 38, 39, 40, 41, 42, 43, 44]) d hd)) ((by decide : ∀ d ∈ [2, 3, 4, 5, 6, 7, 8, 9, 10, 11, 12, 13, 14, 15, 16, 17, 18, 19, 20, 21], d ∉ []) d hd)) ((by decide : ∀ d ∈ [2, 3, 4, 5, 6, 7, 8, 9, 10, 11, 12, 13, 14, 15, 16, 17, 18, 19, 20, 21], d ∉ [1]) d hd)) (fun d hd => zlk_fn (zlk_fn (hz d ((by decide : ∀ d ∈ [1, 2, 3, 4, 5, 6, 7, 8, 9, 10, 11, 12, 13, 14, 15, 16, 17, 18, 19, 20, 21], d ∈ [0, 1, 2, 3, 4, 5, 6, 7, 8, 9, 10, 11, 12, 13, 14, 15, 16, 17, 18, 19, 20, 21, 22, 23, 24, 25, 26, 27, 28, 29, 30, 31, 32, 33, 34, 35, 36, 37, 38, 39, 40, 41, 42, 43, 44]) d hd)) ((by decide : ∀ d ∈ [1, 2, 3, 4, 5, 6, 7, 8, 9, 10, 11, 12, 13, 14, 15, 16, 17, 18, 19, 20, 21], ([] : List (Nat × Nat)).all (fun q => q.1 != d) = true) d hd)) rfl) (fun q hq => absurd hq List.not_mem_nil) er2) rfl rfl (Nat.le_of_ble_eq_true rfl) hl.1 ⟨Nat.le_of_ble_eq_true rfl, Nat.le_of_ble_eq_true rfl, Nat.le_of_ble_eq_true rfl, Nat.le_of_ble_eq_true rfl⟩ dX11_init_9 (fun qc1 H locs hS => ?_)
  refine zputL (ty := .object "HalfAJoke$House") (zC_ext _ _ _ (zC_ext _ _ _ C)) hS ff_X11_12_0 (zfinL sh_0 rfl ⟨rfl, rfl, by decide +kernel⟩) hin (fun x => ⟨rfl, rfl⟩) (zmem_o (zmem_o (zmem_o hthis))) rfl rfl dX11_init_12 (fun H locs hS => ?_)
  rw [zext_zext, zext_zext, zext_zext] at hS
  obtain ⟨qs, hS⟩ : ∃ qs, zS (zext G [1, 2, 3, 4, 5, 6, 7, 8, 9, 10, 11, 12, 13, 14, 15, 16, 17, 18, 19, 20, 21] [(2, 0), (2, 1), (2, 2), (2, 3), (1, 0), (7, 0), (7, 1), (7, 2), (1, 1), (11, 0), (11, 1), (11, 2), (11, 3), (1, 2), (16, 0), (16, 1), (16, 2), (1, 3), (1, 4), (1, 5), (0, 0)] qs) h3 s.heap H locs := ⟨_, hS⟩
  have C := zC_ext [1, 2, 3, 4, 5, 6, 7, 8, 9, 10, 11, 12, 13, 14, 15, 16, 17, 18, 19, 20, 21] [(2, 0), (2, 1), (2, 2), (2, 3), (1, 0), (7, 0), (7, 1), (7, 2), (1, 1), (11, 0), (11, 1), (11, 2), (11, 3), (1, 2), (16, 0), (16, 1), (16, 2), (1, 3), (1, 4), (1, 5), (0, 0)] qs C0
  refine lv_aload_n C.1 C.2.1 dX11_init_15 rfl (lv_at hl 0 rfl) ?_
  refine znewo (d := 22) C hS (zfresh (hfr 22 (by decide)) (by decide)) (zun1 (by decide) (zlk_f (hz 0 (by decide) 1) (by decide))) (zlk_fn (hz 22 (by decide)) (by decide)) sh_22 rfl tyX6 tyX6_ok iz_X6 (by decide) (by decide) ⟨kw_292, kw_293, kw_90⟩ (Nat.le_of_ble_eq_true rfl) (Nat.le_of_ble_eq_true rfl) dX11_init_16 (fun q22 H hS => ?_)
  obtain ⟨h4, eh4, hf⟩ := zst_some hf
  rw [← eh4] at hS
  refine lv_dup C.1 C.2.1 dX11_init_19 rfl ?_
  obtain ⟨r5, h6, er5, hf⟩ := zbd_some hf
  refine zcallJ (As := []) (rest := [.ref (q22), .ref (zal G 0)]) (zC_ext _ _ _ C) hS mj_X11_18 (c_X6_init_t22 l (zext (zext G [1, 2, 3, 4, 5, 6, 7, 8, 9, 10, 11, 12, 13, 14, 15, 16, 17, 18, 19, 20, 21] [(2, 0), (2, 1), (2, 2), (2, 3), (1, 0), (7, 0), (7, 1), (7, 2), (1, 1), (11, 0), (11, 1), (11, 2), (11, 3), (1, 2), (16, 0), (16, 1), (16, 2), (1, 3), (1, 4), (1, 5), (0, 0)] qs) [22] [] (fun _ => q22)) h4 (r5, h6) (zmem_n (by decide)) (fun d hd => zfresh (zfresh (hfr d ((by decide : ∀ d ∈ [23, 24, 25, 26, 27, 28], d ∈ [1, 2, 3, 4, 5, 6, 7, 8, 9, 10, 11, 12, 13, 14, 15, 16, 17, 18, 19, 20, 21, 22, 23, 24, 25, 26, 27, 28, 29, 30, 31, 32, 33, 34, 35, 36, 37, 38, 39, 40, 41, 42, 43, 44]) d hd)) ((by decide : ∀ d ∈ [23, 24, 25, 26, 27, 28], d ∉ [1, 2, 3, 4, 5, 6, 7, 8, 9, 10, 11, 12, 13, 14, 15, 16, 17, 18, 19, 20, 21]) d hd)) ((by decide : ∀ d ∈ [23, 24, 25, 26, 27, 28], d ∉ [22]) d hd)) (fun d hd => zlk_fn (zlk_fn (hz d ((by decide : ∀ d ∈ [22, 23, 24, 25, 26, 27, 28], d ∈ [0, 1, 2, 3, 4, 5, 6, 7, 8, 9, 10, 11, 12, 13, 14, 15, 16, 17, 18, 19, 20, 21, 22, 23, 24, 25, 26, 27, 28, 29, 30, 31, 32, 33, 34, 35, 36, 37, 38, 39, 40, 41, 42, 43, 44]) d hd)) ((by decide : ∀ d ∈ [22, 23, 24, 25, 26, 27, 28], ([(2, 0), (2, 1), (2, 2), (2, 3), (1, 0), (7, 0), (7, 1), (7, 2), (1, 1), (11, 0), (11, 1), (11, 2), (11, 3), (1, 2), (16, 0), (16, 1), (16, 2), (1, 3), (1, 4), (1, 5), (0, 0)] : List (Nat × Nat)).all (fun q => q.1 != d) = true) d hd)) rfl) (fun q hq => absurd hq List.not_mem_nil) er5) rfl rfl (Nat.le_of_ble_eq_true rfl) hl.1 ⟨Nat.le_of_ble_eq_true rfl, Nat.le_of_ble_eq_true rfl, Nat.le_of_ble_eq_true rfl, Nat.le_of_ble_eq_true rfl⟩ dX11_init_20 (fun qc22 H locs hS => ?_)
  refine zputL (ty := .object "HalfAJoke$Past") (zC_ext _ _ _ (zC_ext _ _ _ C)) hS ff_X11_19_0 (zfinL sh_0 rfl ⟨rfl, rfl, by decide +kernel⟩) hin (fun x => ⟨rfl, rfl⟩) (zmem_o (zmem_o (zmem_o hthis))) rfl rfl dX11_init_23 (fun H locs hS => ?_)
  rw [zext_zext, zext_zext, zext_zext] at hS
  obtain ⟨qs, hS⟩ : ∃ qs, zS (zext G [1, 2, 3, 4, 5, 6, 7, 8, 9, 10, 11, 12, 13, 14, 15, 16, 17, 18, 19, 20, 21, 22, 23, 24, 25, 26, 27, 28] [(2, 0), (2, 1), (2, 2), (2, 3), (1, 0), (7, 0), (7, 1), (7, 2), (1, 1), (11, 0), (11, 1), (11, 2), (11, 3), (1, 2), (16, 0), (16, 1), (16, 2), (1, 3), (1, 4), (1, 5), (0, 0), (22, 0), (22, 1), (22, 2), (22, 3), (22, 4), (22, 5), (0, 1)] qs) h6 s.heap H locs := ⟨_, hS⟩
  have C := zC_ext [1, 2, 3, 4, 5, 6, 7, 8, 9, 10, 11, 12, 13, 14, 15, 16, 17, 18, 19, 20, 21, 22, 23, 24, 25, 26, 27, 28] [(2, 0), (2, 1), (2, 2), (2, 3), (1, 0), (7, 0), (7, 1), (7, 2), (1, 1), (11, 0), (11, 1), (11, 2), (11, 3), (1, 2), (16, 0), (16, 1), (16, 2), (1, 3), (1, 4), (1, 5), (0, 0), (22, 0), (22, 1), (22, 2), (22, 3), (22, 4), (22, 5), (0, 1)] qs C0
  refine lv_aload_n C.1 C.2.1 dX11_init_26 rfl (lv_at hl 0 rfl) ?_
  refine znewo (d := 29) C hS (zfresh (hfr 29 (by decide)) (by decide)) (zun1 (by decide) (zlk_f (hz 0 (by decide) 2) (by decide))) (zlk_fn (hz 29 (by decide)) (by decide)) sh_29 rfl tyX7 tyX7_ok iz_X7 (by decide) (by decide) ⟨kw_324, kw_325, kw_91⟩ (Nat.le_of_ble_eq_true rfl) (Nat.le_of_ble_eq_true rfl) dX11_init_27 (fun q29 H hS => ?_)
  obtain ⟨h7, eh7, hf⟩ := zst_some hf
  rw [← eh7] at hS
  refine lv_dup C.1 C.2.1 dX11_init_30 rfl ?_
  obtain ⟨r8, h9, er8, hf⟩ := zbd_some hf
  refine zcallJ (As := []) (rest := [.ref (q29), .ref (zal G 0)]) (zC_ext _ _ _ C) hS mj_X11_25 (c_X7_init_t29 l (zext (zext G [1, 2, 3, 4, 5, 6, 7, 8, 9, 10, 11, 12, 13, 14, 15, 16, 17, 18, 19, 20, 21, 22, 23, 24, 25, 26, 27, 28] [(2, 0), (2, 1), (2, 2), (2, 3), (1, 0), (7, 0), (7, 1), (7, 2), (1, 1), (11, 0), (11, 1), (11, 2), (11, 3), (1, 2), (16, 0), (16, 1), (16, 2), (1, 3), (1, 4), (1, 5), (0, 0), (22, 0), (22, 1), (22, 2), (22, 3), (22, 4), (22, 5), (0, 1)] qs) [29] [] (fun _ => q29)) h7 (r8, h9) (zmem_n (by decide)) (fun d hd => zfresh (zfresh (hfr d ((by decide : ∀ d ∈ [30, 31, 32, 33, 34, 35, 36, 37], d ∈ [1, 2, 3, 4, 5, 6, 7, 8, 9, 10, 11, 12, 13, 14, 15, 16, 17, 18, 19, 20, 21, 22, 23, 24, 25, 26, 27, 28, 29, 30, 31, 32, 33, 34, 35, 36, 37, 38, 39, 40, 41, 42, 43, 44]) d hd)) ((by decide : ∀ d ∈ [30, 31, 32, 33, 34, 35, 36, 37], d ∉ [1, 2, 3, 4, 5, 6, 7, 8, 9, 10, 11, 12, 13, 14, 15, 16, 17, 18, 19, 20, 21, 22, 23, 24, 25, 26, 27, 28]) d hd)) ((by decide : ∀ d ∈ [30, 31, 32, 33, 34, 35, 36, 37], d ∉ [29]) d hd)) (fun d hd => zlk_fn (zlk_fn (hz d ((by decide : ∀ d ∈ [29, 30, 31, 32, 33, 34, 35, 36, 37], d ∈ [0, 1, 2, 3, 4, 5, 6, 7, 8, 9, 10, 11, 12, 13, 14, 15, 16, 17, 18, 19, 20, 21, 22, 23, 24, 25, 26, 27, 28, 29, 30, 31, 32, 33, 34, 35, 36, 37, 38, 39, 40, 41, 42, 43, 44]) d hd)) ((by decide : ∀ d ∈ [29, 30, 31, 32, 33, 34, 35, 36, 37], ([(2, 0), (2, 1), (2, 2), (2, 3), (1, 0), (7, 0), (7, 1), (7, 2), (1, 1), (11, 0), (11, 1), (11, 2), (11, 3), (1, 2), (16, 0), (16, 1), (16, 2), (1, 3), (1, 4), (1, 5), (0, 0), (22, 0), (22, 1), (22, 2), (22, 3), (22, 4), (22, 5), (0, 1)] : List (Nat × Nat)).all (fun q => q.1 != d) = true) d hd)) rfl) (fun q hq => absurd hq List.not_mem_nil) er8) rfl rfl (Nat.le_of_ble_eq_true rfl) hl.1 ⟨Nat.le_of_ble_eq_true rfl, Nat.le_of_ble_eq_true rfl, Nat.le_of_ble_eq_true rfl, Nat.le_of_ble_eq_true rfl⟩ dX11_init_31 (fun qc29 H locs hS => ?_)
  refine zputL (ty := .object "HalfAJoke$Reader") (zC_ext _ _ _ (zC_ext _ _ _ C)) hS ff_X11_26_0 (zfinL sh_0 rfl ⟨rfl, rfl, by decide +kernel⟩) hin (fun x => ⟨rfl, rfl⟩) (zmem_o (zmem_o (zmem_o hthis))) rfl rfl dX11_init_34 (fun H locs hS => ?_)
  rw [zext_zext, zext_zext, zext_zext] at hS
  obtain ⟨qs, hS⟩ : ∃ qs, zS (zext G [1, 2, 3, 4, 5, 6, 7, 8, 9, 10, 11, 12, 13, 14, 15, 16, 17, 18, 19, 20, 21, 22, 23, 24, 25, 26, 27, 28, 29, 30, 31, 32, 33, 34, 35, 36, 37] [(2, 0), (2, 1), (2, 2), (2, 3), (1, 0), (7, 0), (7, 1), (7, 2), (1, 1), (11, 0), (11, 1), (11, 2), (11, 3), (1, 2), (16, 0), (16, 1), (16, 2), (1, 3), (1, 4), (1, 5), (0, 0), (22, 0), (22, 1), (22, 2), (22, 3), (22, 4), (22, 5), (0, 1), (29, 0), (29, 1), (29, 2), (29, 3), (34, 0), (34, 1), (34, 2), (29, 4), (0, 2)] qs) h9 s.heap H locs := ⟨_, hS⟩
  have C := zC_ext [1, 2, 3, 4, 5, 6, 7, 8, 9, 10, 11, 12, 13, 14, 15, 16, 17, 18, 19, 20, 21, 22, 23, 24, 25, 26, 27, 28, 29, 30, 31, 32, 33, 34, 35, 36, 37] [(2, 0), (2, 1), (2, 2), (2, 3), (1, 0), (7, 0), (7, 1), (7, 2), (1, 1), (11, 0), (11, 1), (11, 2), (11, 3), (1, 2), (16, 0), (16, 1), (16, 2), (1, 3), (1, 4), (1, 5), (0, 0), (22, 0), (22, 1), (22, 2), (22, 3), (22, 4), (22, 5), (0, 1), (29, 0), (29, 1), (29, 2), (29, 3), (34, 0), (34, 1), (34, 2), (29, 4), (0, 2)] qs C0
  refine lv_aload_n C.1 C.2.1 dX11_init_37 rfl (lv_at hl 0 rfl) ?_
  refine znewo (d := 38) C hS (zfresh (hfr 38 (by decide)) (by decide)) (zun2 (by decide) (zlk_f (hz 0 (by decide) 3) (by decide)) (zlk_f (hx (71, 0) (by decide)) (by decide))) (zlk_fn (hz 38 (by decide)) (by decide)) sh_38 rfl tyX1 tyX1_ok iz_X1 (by decide) (by decide) ⟨kw_371, kw_372, kw_92⟩ (Nat.le_of_ble_eq_true rfl) (Nat.le_of_ble_eq_true rfl) dX11_init_38 (fun q38 H hS => ?_)
  obtain ⟨h10, eh10, hf⟩ := zst_some hf
  rw [← eh10] at hS
  refine lv_dup C.1 C.2.1 dX11_init_41 rfl ?_
  refine lv_aload_n C.1 C.2.1 dX11_init_42 rfl (lv_at hl 0 rfl) ?_
  refine zgetRA (zC_ext _ _ _ C) hS ff_X11_12_0 (zmem_o (zmem_o hthis)) rfl (zlk_o (zlk_t (by decide))) dX11_init_43 ?_
  obtain ⟨r11, h12, er11, hf⟩ := zbd_some hf
  refine zcallI (As := [.ref (zal (zext (zext G [1, 2, 3, 4, 5, 6, 7, 8, 9, 10, 11, 12, 13, 14, 15, 16, 17, 18, 19, 20, 21, 22, 23, 24, 25, 26, 27, 28, 29, 30, 31, 32, 33, 34, 35, 36, 37] [(2, 0), (2, 1), (2, 2), (2, 3), (1, 0), (7, 0), (7, 1), (7, 2), (1, 1), (11, 0), (11, 1), (11, 2), (11, 3), (1, 2), (16, 0), (16, 1), (16, 2), (1, 3), (1, 4), (1, 5), (0, 0), (22, 0), (22, 1), (22, 2), (22, 3), (22, 4), (22, 5), (0, 1), (29, 0), (29, 1), (29, 2), (29, 3), (34, 0), (34, 1), (34, 2), (29, 4), (0, 2)] qs) [38] [] (fun _ => q38)) 1)]) (rest := [.ref (q38), .ref (zal G 0)]) (zC_ext _ _ _ C) hS mi_X11_32 (c_X1_init_t38 l (zext (zext G [1, 2, 3, 4, 5, 6, 7, 8, 9, 10, 11, 12, 13, 14, 15, 16, 17, 18, 19, 20, 21, 22, 23, 24, 25, 26, 27, 28, 29, 30, 31, 32, 33, 34, 35, 36, 37] [(2, 0), (2, 1), (2, 2), (2, 3), (1, 0), (7, 0), (7, 1), (7, 2), (1, 1), (11, 0), (11, 1), (11, 2), (11, 3), (1, 2), (16, 0), (16, 1), (16, 2), (1, 3), (1, 4), (1, 5), (0, 0), (22, 0), (22, 1), (22, 2), (22, 3), (22, 4), (22, 5), (0, 1), (29, 0), (29, 1), (29, 2), (29, 3), (34, 0), (34, 1), (34, 2), (29, 4), (0, 2)] qs) [38] [] (fun _ => q38)) h10 (r11, h12) (zmem_n (by decide)) (fun d hd => zfresh (zfresh (hfr d ((by decide : ∀ d ∈ [39, 40, 41, 42, 43], d ∈ [1, 2, 3, 4, 5, 6, 7, 8, 9, 10, 11, 12, 13, 14, 15, 16, 17, 18, 19, 20, 21, 22, 23, 24, 25, 26, 27, 28, 29, 30, 31, 32, 33, 34, 35, 36, 37, 38, 39, 40, 41, 42, 43, 44]) d hd)) ((by decide : ∀ d ∈ [39, 40, 41, 42, 43], d ∉ [1, 2, 3, 4, 5, 6, 7, 8, 9, 10, 11, 12, 13, 14, 15, 16, 17, 18, 19, 20, 21, 22, 23, 24, 25, 26, 27, 28, 29, 30, 31, 32, 33, 34, 35, 36, 37]) d hd)) ((by decide : ∀ d ∈ [39, 40, 41, 42, 43], d ∉ [38]) d hd)) (fun d hd => zlk_fn (zlk_fn (hz d ((by decide : ∀ d ∈ [38, 39, 40, 41, 42, 43], d ∈ [0, 1, 2, 3, 4, 5, 6, 7, 8, 9, 10, 11, 12, 13, 14, 15, 16, 17, 18, 19, 20, 21, 22, 23, 24, 25, 26, 27, 28, 29, 30, 31, 32, 33, 34, 35, 36, 37, 38, 39, 40, 41, 42, 43, 44]) d hd)) ((by decide : ∀ d ∈ [38, 39, 40, 41, 42, 43], ([(2, 0), (2, 1), (2, 2), (2, 3), (1, 0), (7, 0), (7, 1), (7, 2), (1, 1), (11, 0), (11, 1), (11, 2), (11, 3), (1, 2), (16, 0), (16, 1), (16, 2), (1, 3), (1, 4), (1, 5), (0, 0), (22, 0), (22, 1), (22, 2), (22, 3), (22, 4), (22, 5), (0, 1), (29, 0), (29, 1), (29, 2), (29, 3), (34, 0), (34, 1), (34, 2), (29, 4), (0, 2)] : List (Nat × Nat)).all (fun q => q.1 != d) = true) d hd)) rfl) (fun q hq => absurd hq List.not_mem_nil) er11) rfl rfl (Nat.le_of_ble_eq_true rfl) hl.1 ⟨Nat.le_of_ble_eq_true rfl, Nat.le_of_ble_eq_true rfl, Nat.le_of_ble_eq_true rfl, Nat.le_of_ble_eq_true rfl⟩ dX11_init_46 (fun qc38 H locs hS => ?_)
  refine zputL (ty := .object "HalfAJoke$Evening") (zC_ext _ _ _ (zC_ext _ _ _ C)) hS ff_X11_35_0 (zfinL sh_0 rfl ⟨rfl, rfl, by decide +kernel⟩) hin (fun x => ⟨rfl, rfl⟩) (zmem_o (zmem_o (zmem_o hthis))) rfl rfl dX11_init_49 (fun H locs hS => ?_)
  rw [zext_zext, zext_zext, zext_zext] at hS
  obtain ⟨qs, hS⟩ : ∃ qs, zS (zext G [1, 2, 3, 4, 5, 6, 7, 8, 9, 10, 11, 12, 13, 14, 15, 16, 17, 18, 19, 20, 21, 22, 23, 24, 25, 26, 27, 28, 29, 30, 31, 32, 33, 34, 35, 36, 37, 38, 39, 40, 41, 42, 43] [(2, 0), (2, 1), (2, 2), (2, 3), (1, 0), (7, 0), (7, 1), (7, 2), (1, 1), (11, 0), (11, 1), (11, 2), (11, 3), (1, 2), (16, 0), (16, 1), (16, 2), (1, 3), (1, 4), (1, 5), (0, 0), (22, 0), (22, 1), (22, 2), (22, 3), (22, 4), (22, 5), (0, 1), (29, 0), (29, 1), (29, 2), (29, 3), (34, 0), (34, 1), (34, 2), (29, 4), (0, 2), (38, 1), (38, 2), (38, 3), (38, 4), (38, 5), (38, 0), (0, 3)] qs) h12 s.heap H locs := ⟨_, hS⟩
  have C := zC_ext [1, 2, 3, 4, 5, 6, 7, 8, 9, 10, 11, 12, 13, 14, 15, 16, 17, 18, 19, 20, 21, 22, 23, 24, 25, 26, 27, 28, 29, 30, 31, 32, 33, 34, 35, 36, 37, 38, 39, 40, 41, 42, 43] [(2, 0), (2, 1), (2, 2), (2, 3), (1, 0), (7, 0), (7, 1), (7, 2), (1, 1), (11, 0), (11, 1), (11, 2), (11, 3), (1, 2), (16, 0), (16, 1), (16, 2), (1, 3), (1, 4), (1, 5), (0, 0), (22, 0), (22, 1), (22, 2), (22, 3), (22, 4), (22, 5), (0, 1), (29, 0), (29, 1), (29, 2), (29, 3), (34, 0), (34, 1), (34, 2), (29, 4), (0, 2), (38, 1), (38, 2), (38, 3), (38, 4), (38, 5), (38, 0), (0, 3)] qs C0
  refine lv_aload_n C.1 C.2.1 dX11_init_52 rfl (lv_at hl 0 rfl) ?_
  refine lv_bipush (v := (8 : Int32)) C.1 C.2.1 dX11_init_53 rfl ?_
  refine znewa (d := 44) C hS (zfresh (hfr 44 (by decide)) (by decide)) (zun1 (by decide) (zlk_f (hz 0 (by decide) 4) (by decide))) sh_44 (by decide) rfl (by decide) (Nat.le_of_ble_eq_true rfl) (Nat.le_of_ble_eq_true rfl) dX11_init_55 (fun q44 H hS => ?_)
  obtain ⟨h13, eh13, hf⟩ := zst_some hf
  rw [← eh13] at hS
  refine zputL (ty := .array .int) (zC_ext _ _ _ C) hS ff_X11_39_0 (zfinL sh_0 rfl ⟨rfl, rfl, by decide +kernel⟩) hin (fun x => ⟨rfl, rfl⟩) (zmem_o (zmem_o hthis)) rfl rfl dX11_init_57 (fun H locs hS => ?_)
  rw [zext_zext, zext_zext] at hS
  obtain ⟨qs, hS⟩ : ∃ qs, zS (zext G [1, 2, 3, 4, 5, 6, 7, 8, 9, 10, 11, 12, 13, 14, 15, 16, 17, 18, 19, 20, 21, 22, 23, 24, 25, 26, 27, 28, 29, 30, 31, 32, 33, 34, 35, 36, 37, 38, 39, 40, 41, 42, 43, 44] [(2, 0), (2, 1), (2, 2), (2, 3), (1, 0), (7, 0), (7, 1), (7, 2), (1, 1), (11, 0), (11, 1), (11, 2), (11, 3), (1, 2), (16, 0), (16, 1), (16, 2), (1, 3), (1, 4), (1, 5), (0, 0), (22, 0), (22, 1), (22, 2), (22, 3), (22, 4), (22, 5), (0, 1), (29, 0), (29, 1), (29, 2), (29, 3), (34, 0), (34, 1), (34, 2), (29, 4), (0, 2), (38, 1), (38, 2), (38, 3), (38, 4), (38, 5), (38, 0), (0, 3), (0, 4)] qs) h13 s.heap H locs := ⟨_, hS⟩
  have C := zC_ext [1, 2, 3, 4, 5, 6, 7, 8, 9, 10, 11, 12, 13, 14, 15, 16, 17, 18, 19, 20, 21, 22, 23, 24, 25, 26, 27, 28, 29, 30, 31, 32, 33, 34, 35, 36, 37, 38, 39, 40, 41, 42, 43, 44] [(2, 0), (2, 1), (2, 2), (2, 3), (1, 0), (7, 0), (7, 1), (7, 2), (1, 1), (11, 0), (11, 1), (11, 2), (11, 3), (1, 2), (16, 0), (16, 1), (16, 2), (1, 3), (1, 4), (1, 5), (0, 0), (22, 0), (22, 1), (22, 2), (22, 3), (22, 4), (22, 5), (0, 1), (29, 0), (29, 1), (29, 2), (29, 3), (34, 0), (34, 1), (34, 2), (29, 4), (0, 2), (38, 1), (38, 2), (38, 3), (38, 4), (38, 5), (38, 0), (0, 3), (0, 4)] qs C0
  refine W.widen (k := 44) (n := 5342) (Nat.le_of_ble_eq_true rfl) (Nat.le_of_ble_eq_true rfl) ?_
  exact zretC C0 hS hf dX11_init_60
end
section
def f_X3_init_t51 (h : zH) : zR := (zst (zz h 52) fun h1 => (zst (zz h1 53) fun h2 => (zst (zz h2 54) fun h3 => (zst (zz h3 55) fun h4 => (some (0, h4))))))
set_option maxHeartbeats 8000000 in
set_option maxRecDepth 100000 in
theorem c_X3_init_t51 (l : Launch) (G : zG) (h : zH) (q : Int32 × zH) (hthis : 51 ∈ znm G) (hfr : ∀ d ∈ ([52, 53, 54, 55] : List Nat), d ∉ znm G) (hz : ∀ d ∈ ([51, 52, 53, 54, 55] : List Nat), ∀ k, zlk G d k = false) (hx : ∀ q ∈ ([] : List (Nat × Nat)), zlk G q.1 q.2 = false) (hf : f_X3_init_t51 h = some q) : zCtC l yX3_init cX3_init 1 2 4 144 [.ref (zal G 51)] G h [52, 53, 54, 55] [(51, 0), (51, 1), (51, 2), (51, 3)] q.2 := by
  refine zMetC (by decide) rfl (Nat.le_of_ble_eq_true rfl) ?_
  intro p e s m below meth c ls C0 hin hl hS
  have hl : lv_has ls 1 [(0, .ref (zal G 51))] := hl
  have C0 : zC G p s m [.ref (zal G 51)].toArray meth c cX3_init 1 RX3 none := C0
  obtain ⟨qs, hS⟩ : ∃ qs, zS (zext G [] [] qs) h s.heap s.heap [] := ⟨_, hS⟩
  have C := zC_ext [] [] qs C0
  unfold f_X3_init_t51 at hf
  refine lv_aload_n C.1 C.2.1 dX3_init_0 rfl (lv_at hl 0 rfl) ?_
  refine zobj C kw_123 (Nat.le_of_ble_eq_true rfl) hl.1 ⟨Nat.le_of_ble_eq_true rfl, Nat.le_of_ble_eq_true rfl⟩ dX3_init_1 ?_
  refine lv_aload_n C.1 C.2.1 dX3_init_4 rfl (lv_at hl 0 rfl) ?_
  refine lv_bipush (v := (16 : Int32)) C.1 C.2.1 dX3_init_5 rfl ?_
  refine znewa (d := 52) C hS (zfresh (hfr 52 (by decide)) (by decide)) (zun1 (by decide) (zlk_f (hz 51 (by decide) 0) (by decide))) sh_52 (by decide) rfl (by decide) (Nat.le_of_ble_eq_true rfl) (Nat.le_of_ble_eq_true rfl) dX3_init_7 (fun q52 H hS => ?_)
  obtain ⟨h1, eh1, hf⟩ := zst_some hf
  rw [← eh1] at hS
  refine zputL (ty := .array .int) (zC_ext _ _ _ C) hS ff_X3_9_51 (zfinL sh_51 rfl ⟨rfl, rfl, by decide +kernel⟩) hin (fun x => ⟨rfl, rfl⟩) (zmem_o (zmem_o hthis)) rfl rfl dX3_init_9 (fun H locs hS => ?_)
  rw [zext_zext, zext_zext] at hS
  obtain ⟨qs, hS⟩ : ∃ qs, zS (zext G [52] [(51, 0)] qs) h1 s.heap H locs := ⟨_, hS⟩
  have C := zC_ext [52] [(51, 0)] qs C0
  refine lv_aload_n C.1 C.2.1 dX3_init_12 rfl (lv_at hl 0 rfl) ?_
  refine lv_bipush (v := (16 : Int32)) C.1 C.2.1 dX3_init_13 rfl ?_
  refine znewa (d := 53) C hS (zfresh (hfr 53 (by decide)) (by decide)) (zun1 (by decide) (zlk_f (hz 51 (by decide) 1) (by decide))) sh_53 (by decide) rfl (by decide) (Nat.le_of_ble_eq_true rfl) (Nat.le_of_ble_eq_true rfl) dX3_init_15 (fun q53 H hS => ?_)
  obtain ⟨h2, eh2, hf⟩ := zst_some hf
  rw [← eh2] at hS
  refine zputL (ty := .array .int) (zC_ext _ _ _ C) hS ff_X3_15_51 (zfinL sh_51 rfl ⟨rfl, rfl, by decide +kernel⟩) hin (fun x => ⟨rfl, rfl⟩) (zmem_o (zmem_o hthis)) rfl rfl dX3_init_17 (fun H locs hS => ?_)
  rw [zext_zext, zext_zext] at hS
  obtain ⟨qs, hS⟩ : ∃ qs, zS (zext G [52, 53] [(51, 0), (51, 1)] qs) h2 s.heap H locs := ⟨_, hS⟩
  have C := zC_ext [52, 53] [(51, 0), (51, 1)] qs C0
  refine lv_aload_n C.1 C.2.1 dX3_init_20 rfl (lv_at hl 0 rfl) ?_
  refine lv_bipush (v := (16 : Int32)) C.1 C.2.1 dX3_init_21 rfl ?_
  refine znewa (d := 54) C hS (zfresh (hfr 54 (by decide)) (by decide)) (zun1 (by decide) (zlk_f (hz 51 (by decide) 2) (by decide))) sh_54 (by decide) rfl (by decide) (Nat.le_of_ble_eq_true rfl) (Nat.le_of_ble_eq_true rfl) dX3_init_23 (fun q54 H hS => ?_)
  obtain ⟨h3, eh3, hf⟩ := zst_some hf
  rw [← eh3] at hS
  refine zputL (ty := .array .int) (zC_ext _ _ _ C) hS ff_X3_18_51 (zfinL sh_51 rfl ⟨rfl, rfl, by decide +kernel⟩) hin (fun x => ⟨rfl, rfl⟩) (zmem_o (zmem_o hthis)) rfl rfl dX3_init_25 (fun H locs hS => ?_)
  rw [zext_zext, zext_zext] at hS
  obtain ⟨qs, hS⟩ : ∃ qs, zS (zext G [52, 53, 54] [(51, 0), (51, 1), (51, 2)] qs) h3 s.heap H locs := ⟨_, hS⟩
  have C := zC_ext [52, 53, 54] [(51, 0), (51, 1), (51, 2)] qs C0
  refine lv_aload_n C.1 C.2.1 dX3_init_28 rfl (lv_at hl 0 rfl) ?_
  refine lv_bipush (v := (96 : Int32)) C.1 C.2.1 dX3_init_29 rfl ?_
  refine znewa (d := 55) C hS (zfresh (hfr 55 (by decide)) (by decide)) (zun1 (by decide) (zlk_f (hz 51 (by decide) 3) (by decide))) sh_55 (by decide) rfl (by decide) (Nat.le_of_ble_eq_true rfl) (Nat.le_of_ble_eq_true rfl) dX3_init_31 (fun q55 H hS => ?_)
  obtain ⟨h4, eh4, hf⟩ := zst_some hf
  rw [← eh4] at hS
  refine zputL (ty := .array .int) (zC_ext _ _ _ C) hS ff_X3_21_51 (zfinL sh_51 rfl ⟨rfl, rfl, by decide +kernel⟩) hin (fun x => ⟨rfl, rfl⟩) (zmem_o (zmem_o hthis)) rfl rfl dX3_init_33 (fun H locs hS => ?_)
  rw [zext_zext, zext_zext] at hS
  obtain ⟨qs, hS⟩ : ∃ qs, zS (zext G [52, 53, 54, 55] [(51, 0), (51, 1), (51, 2), (51, 3)] qs) h4 s.heap H locs := ⟨_, hS⟩
  have C := zC_ext [52, 53, 54, 55] [(51, 0), (51, 1), (51, 2), (51, 3)] qs C0
  refine W.widen (k := 4) (n := 144) (Nat.le_of_ble_eq_true rfl) (Nat.le_of_ble_eq_true rfl) ?_
  exact zretC C0 hS hf dX3_init_36
end
section
def f_X9_init_t56 (h : zH) : zR := (zst (zz h 57) fun h1 => (zst (zz h1 58) fun h2 => (zst (zz h2 59) fun h3 => (zbd (f_X9_layFor_t56 (6 : Int32) h3) fun r4 h5 => (some (0, h5))))))
set_option maxHeartbeats 8000000 in
set_option maxRecDepth 100000 in
theorem c_X9_init_t56 (l : Launch) (G : zG) (h : zH) (q : Int32 × zH) (hthis : 56 ∈ znm G) (hfr : ∀ d ∈ ([57, 58, 59] : List Nat), d ∉ znm G) (hz : ∀ d ∈ ([56, 57, 58, 59] : List Nat), ∀ k, zlk G d k = false) (hx : ∀ q ∈ ([] : List (Nat × Nat)), zlk G q.1 q.2 = false) (hf : f_X9_init_t56 h = some q) : zCtC l yX9_init cX9_init 1 3 3 24 [.ref (zal G 56)] G h [57, 58, 59] [(56, 0), (56, 1), (56, 2)] q.2 := by
  refine zMetC (by decide) rfl (Nat.le_of_ble_eq_true rfl) ?_
  intro p e s m below meth c ls C0 hin hl hS
  have hl : lv_has ls 1 [(0, .ref (zal G 56))] := hl
  have C0 : zC G p s m [.ref (zal G 56)].toArray meth c cX9_init 1 RX9 none := C0
  obtain ⟨qs, hS⟩ : ∃ qs, zS (zext G [] [] qs) h s.heap s.heap [] := ⟨_, hS⟩
  have C := zC_ext [] [] qs C0
  unfold f_X9_init_t56 at hf
  refine lv_aload_n C.1 C.2.1 dX9_init_0 rfl (lv_at hl 0 rfl) ?_
  refine zobj C kw_158 (Nat.le_of_ble_eq_true rfl) hl.1 ⟨Nat.le_of_ble_eq_true rfl, Nat.le_of_ble_eq_true rfl⟩ dX9_init_1 ?_
  refine lv_aload_n C.1 C.2.1 dX9_init_4 rfl (lv_at hl 0 rfl) ?_
  refine lv_bipush (v := (8 : Int32)) C.1 C.2.1 dX9_init_5 rfl ?_
  refine znewa (d := 57) C hS (zfresh (hfr 57 (by decide)) (by decide)) (zun1 (by decide) (zlk_f (hz 56 (by decide) 0) (by decide))) sh_57 (by decide) rfl (by decide) (Nat.le_of_ble_eq_true rfl) (Nat.le_of_ble_eq_true rfl) dX9_init_7 (fun q57 H hS => ?_)
  obtain ⟨h1, eh1, hf⟩ := zst_some hf
  rw [← eh1] at hS
  refine zputL (ty := .array .int) (zC_ext _ _ _ C) hS ff_X9_9_56 (zfinL sh_56 rfl ⟨rfl, rfl, by decide +kernel⟩) hin (fun x => ⟨rfl, rfl⟩) (zmem_o (zmem_o hthis)) rfl rfl dX9_init_9 (fun H locs hS => ?_)
  rw [zext_zext, zext_zext] at hS
  obtain ⟨qs, hS⟩ : ∃ qs, zS (zext G [57] [(56, 0)] qs) h1 s.heap H locs := ⟨_, hS⟩
  have C := zC_ext [57] [(56, 0)] qs C0
  refine lv_aload_n C.1 C.2.1 dX9_init_12 rfl (lv_at hl 0 rfl) ?_
  refine lv_bipush (v := (8 : Int32)) C.1 C.2.1 dX9_init_13 rfl ?_
  refine znewa (d := 58) C hS (zfresh (hfr 58 (by decide)) (by decide)) (zun1 (by decide) (zlk_f (hz 56 (by decide) 1) (by decide))) sh_58 (by decide) rfl (by decide) (Nat.le_of_ble_eq_true rfl) (Nat.le_of_ble_eq_true rfl) dX9_init_15 (fun q58 H hS => ?_)
  obtain ⟨h2, eh2, hf⟩ := zst_some hf
  rw [← eh2] at hS
  refine zputL (ty := .array .int) (zC_ext _ _ _ C) hS ff_X9_15_56 (zfinL sh_56 rfl ⟨rfl, rfl, by decide +kernel⟩) hin (fun x => ⟨rfl, rfl⟩) (zmem_o (zmem_o hthis)) rfl rfl dX9_init_17 (fun H locs hS => ?_)
  rw [zext_zext, zext_zext] at hS
  obtain ⟨qs, hS⟩ : ∃ qs, zS (zext G [57, 58] [(56, 0), (56, 1)] qs) h2 s.heap H locs := ⟨_, hS⟩
  have C := zC_ext [57, 58] [(56, 0), (56, 1)] qs C0
  refine lv_aload_n C.1 C.2.1 dX9_init_20 rfl (lv_at hl 0 rfl) ?_
  refine lv_bipush (v := (8 : Int32)) C.1 C.2.1 dX9_init_21 rfl ?_
  refine znewa (d := 59) C hS (zfresh (hfr 59 (by decide)) (by decide)) (zun1 (by decide) (zlk_f (hz 56 (by decide) 2) (by decide))) sh_59 (by decide) rfl (by decide) (Nat.le_of_ble_eq_true rfl) (Nat.le_of_ble_eq_true rfl) dX9_init_23 (fun q59 H hS => ?_)
  obtain ⟨h3, eh3, hf⟩ := zst_some hf
  rw [← eh3] at hS
  refine zputL (ty := .array .int) (zC_ext _ _ _ C) hS ff_X9_18_56 (zfinL sh_56 rfl ⟨rfl, rfl, by decide +kernel⟩) hin (fun x => ⟨rfl, rfl⟩) (zmem_o (zmem_o hthis)) rfl rfl dX9_init_25 (fun H locs hS => ?_)
  rw [zext_zext, zext_zext] at hS
  obtain ⟨qs, hS⟩ : ∃ qs, zS (zext G [57, 58, 59] [(56, 0), (56, 1), (56, 2)] qs) h3 s.heap H locs := ⟨_, hS⟩
  have C := zC_ext [57, 58, 59] [(56, 0), (56, 1), (56, 2)] qs C0
  refine lv_aload_n C.1 C.2.1 dX9_init_28 rfl (lv_at hl 0 rfl) ?_
  refine lv_bipush (v := (6 : Int32)) C.1 C.2.1 dX9_init_29 rfl ?_
  obtain ⟨r4, h5, er4, hf⟩ := zbd_some hf
  refine zcallVV (As := [.int (6 : Int32)]) (rest := []) C hS mv_X9_21 (c_X9_layFor_t56 l (zext G [57, 58, 59] [(56, 0), (56, 1), (56, 2)] qs) h3 (6 : Int32) (r4, h5) (fun c hc => ((by decide : ∀ c ∈ nd_X9_layFor_t56, c ∈ [57, 58, 59] ∨ c = 56) c hc).elim zmem_n (fun e9 => by subst e9; exact zmem_o hthis)) (fun q hq => zlk_t ((by decide : ∀ q ∈ ld_X9_layFor_t56, ([(56, 0), (56, 1), (56, 2)] : List (Nat × Nat)).contains (q.1, q.2) = true) q hq)) er4) (zmem_o hthis) ⟨_, _, _, sh_56, rfl, rfl⟩ rfl rfl (Nat.le_of_ble_eq_true rfl) hl.1 ⟨Nat.le_of_ble_eq_true rfl, Nat.le_of_ble_eq_true rfl, Nat.le_of_ble_eq_true rfl, Nat.le_of_ble_eq_true rfl⟩ dX9_init_31 (fun H locs hS => ?_)
  refine W.widen (k := 3) (n := 24) (Nat.le_of_ble_eq_true rfl) (Nat.le_of_ble_eq_true rfl) ?_
  exact zretC C0 hS hf dX9_init_34
end
section
def f_X0_init_t60 (h : zH) : zR := (zst (zz h 61) fun h1 => (zst (zz h1 62) fun h2 => (zst (zz h2 63) fun h3 => (zst (zz h3 64) fun h4 => (some (0, h4))))))
set_option maxHeartbeats 8000000 in
set_option maxRecDepth 100000 in
theorem c_X0_init_t60 (l : Launch) (G : zG) (h : zH) (q : Int32 × zH) (hthis : 60 ∈ znm G) (hfr : ∀ d ∈ ([61, 62, 63, 64] : List Nat), d ∉ znm G) (hz : ∀ d ∈ ([60, 61, 62, 63, 64] : List Nat), ∀ k, zlk G d k = false) (hx : ∀ q ∈ ([] : List (Nat × Nat)), zlk G q.1 q.2 = false) (hf : f_X0_init_t60 h = some q) : zCtC l yX0_init cX0_init 1 2 4 1118 [.ref (zal G 60)] G h [61, 62, 63, 64] [(60, 0), (60, 1), (60, 2), (60, 3)] q.2 := by
  refine zMetC (by decide) rfl (Nat.le_of_ble_eq_true rfl) ?_
  intro p e s m below meth c ls C0 hin hl hS
  have hl : lv_has ls 1 [(0, .ref (zal G 60))] := hl
  have C0 : zC G p s m [.ref (zal G 60)].toArray meth c cX0_init 1 RX0 none := C0
  obtain ⟨qs, hS⟩ : ∃ qs, zS (zext G [] [] qs) h s.heap s.heap [] := ⟨_, hS⟩
  have C := zC_ext [] [] qs C0
  unfold f_X0_init_t60 at hf
  refine lv_aload_n C.1 C.2.1 dX0_init_0 rfl (lv_at hl 0 rfl) ?_
  refine zobj C kw_190 (Nat.le_of_ble_eq_true rfl) hl.1 ⟨Nat.le_of_ble_eq_true rfl, Nat.le_of_ble_eq_true rfl⟩ dX0_init_1 ?_
  refine lv_aload_n C.1 C.2.1 dX0_init_4 rfl (lv_at hl 0 rfl) ?_
  refine lv_sipush (v := (256 : Int32)) C.1 C.2.1 dX0_init_5 rfl ?_
  refine znewa (d := 61) C hS (zfresh (hfr 61 (by decide)) (by decide)) (zun1 (by decide) (zlk_f (hz 60 (by decide) 0) (by decide))) sh_61 (by decide) rfl (by decide) (Nat.le_of_ble_eq_true rfl) (Nat.le_of_ble_eq_true rfl) dX0_init_8 (fun q61 H hS => ?_)
  obtain ⟨h1, eh1, hf⟩ := zst_some hf
  rw [← eh1] at hS
  refine zputL (ty := .array .int) (zC_ext _ _ _ C) hS ff_X0_9_60 (zfinL sh_60 rfl ⟨rfl, rfl, by decide +kernel⟩) hin (fun x => ⟨rfl, rfl⟩) (zmem_o (zmem_o hthis)) rfl rfl dX0_init_10 (fun H locs hS => ?_)
  rw [zext_zext, zext_zext] at hS
  obtain ⟨qs, hS⟩ : ∃ qs, zS (zext G [61] [(60, 0)] qs) h1 s.heap H locs := ⟨_, hS⟩
  have C := zC_ext [61] [(60, 0)] qs C0
  refine lv_aload_n C.1 C.2.1 dX0_init_13 rfl (lv_at hl 0 rfl) ?_
  refine lv_sipush (v := (256 : Int32)) C.1 C.2.1 dX0_init_14 rfl ?_
  refine znewa (d := 62) C hS (zfresh (hfr 62 (by decide)) (by decide)) (zun1 (by decide) (zlk_f (hz 60 (by decide) 1) (by decide))) sh_62 (by decide) rfl (by decide) (Nat.le_of_ble_eq_true rfl) (Nat.le_of_ble_eq_true rfl) dX0_init_17 (fun q62 H hS => ?_)
  obtain ⟨h2, eh2, hf⟩ := zst_some hf
  rw [← eh2] at hS
  refine zputL (ty := .array .int) (zC_ext _ _ _ C) hS ff_X0_15_60 (zfinL sh_60 rfl ⟨rfl, rfl, by decide +kernel⟩) hin (fun x => ⟨rfl, rfl⟩) (zmem_o (zmem_o hthis)) rfl rfl dX0_init_19 (fun H locs hS => ?_)
  rw [zext_zext, zext_zext] at hS
  obtain ⟨qs, hS⟩ : ∃ qs, zS (zext G [61, 62] [(60, 0), (60, 1)] qs) h2 s.heap H locs := ⟨_, hS⟩
  have C := zC_ext [61, 62] [(60, 0), (60, 1)] qs C0
  refine lv_aload_n C.1 C.2.1 dX0_init_22 rfl (lv_at hl 0 rfl) ?_
  refine lv_bipush (v := (6 : Int32)) C.1 C.2.1 dX0_init_23 rfl ?_
  refine znewa (d := 63) C hS (zfresh (hfr 63 (by decide)) (by decide)) (zun1 (by decide) (zlk_f (hz 60 (by decide) 2) (by decide))) sh_63 (by decide) rfl (by decide) (Nat.le_of_ble_eq_true rfl) (Nat.le_of_ble_eq_true rfl) dX0_init_25 (fun q63 H hS => ?_)
  obtain ⟨h3, eh3, hf⟩ := zst_some hf
  rw [← eh3] at hS
  refine zputL (ty := .array .int) (zC_ext _ _ _ C) hS ff_X0_18_60 (zfinL sh_60 rfl ⟨rfl, rfl, by decide +kernel⟩) hin (fun x => ⟨rfl, rfl⟩) (zmem_o (zmem_o hthis)) rfl rfl dX0_init_27 (fun H locs hS => ?_)
  rw [zext_zext, zext_zext] at hS
  obtain ⟨qs, hS⟩ : ∃ qs, zS (zext G [61, 62, 63] [(60, 0), (60, 1), (60, 2)] qs) h3 s.heap H locs := ⟨_, hS⟩
  have C := zC_ext [61, 62, 63] [(60, 0), (60, 1), (60, 2)] qs C0
  refine lv_aload_n C.1 C.2.1 dX0_init_30 rfl (lv_at hl 0 rfl) ?_
  refine lv_sipush (v := (600 : Int32)) C.1 C.2.1 dX0_init_31 rfl ?_
  refine znewa (d := 64) C hS (zfresh (hfr 64 (by decide)) (by decide)) (zun1 (by decide) (zlk_f (hz 60 (by decide) 3) (by decide))) sh_64 (by decide) rfl (by decide) (Nat.le_of_ble_eq_true rfl) (Nat.le_of_ble_eq_true rfl) dX0_init_34 (fun q64 H hS => ?_)
  obtain ⟨h4, eh4, hf⟩ := zst_some hf
  rw [← eh4] at hS
  refine zputL (ty := .array .int) (zC_ext _ _ _ C) hS ff_X0_21_60 (zfinL sh_60 rfl ⟨rfl, rfl, by decide +kernel⟩) hin (fun x => ⟨rfl, rfl⟩) (zmem_o (zmem_o hthis)) rfl rfl dX0_init_36 (fun H locs hS => ?_)
  rw [zext_zext, zext_zext] at hS
  obtain ⟨qs, hS⟩ : ∃ qs, zS (zext G [61, 62, 63, 64] [(60, 0), (60, 1), (60, 2), (60, 3)] qs) h4 s.heap H locs := ⟨_, hS⟩
  have C := zC_ext [61, 62, 63, 64] [(60, 0), (60, 1), (60, 2), (60, 3)] qs C0
  refine W.widen (k := 4) (n := 1118) (Nat.le_of_ble_eq_true rfl) (Nat.le_of_ble_eq_true rfl) ?_
  exact zretC C0 hS hf dX0_init_39
end
section
def f_X5_init_t65 (h : zH) : zR := (zst (zz h 66) fun h1 => (zst (zz h1 67) fun h2 => (zst (zz h2 68) fun h3 => (some (0, h3)))))
set_option maxHeartbeats 8000000 in
set_option maxRecDepth 100000 in
theorem c_X5_init_t65 (l : Launch) (G : zG) (h : zH) (q : Int32 × zH) (hthis : 65 ∈ znm G) (hfr : ∀ d ∈ ([66, 67, 68] : List Nat), d ∉ znm G) (hz : ∀ d ∈ ([65, 66, 67, 68] : List Nat), ∀ k, zlk G d k = false) (hx : ∀ q ∈ ([] : List (Nat × Nat)), zlk G q.1 q.2 = false) (hf : f_X5_init_t65 h = some q) : zCtC l yX5_init cX5_init 1 2 3 840 [.ref (zal G 65)] G h [66, 67, 68] [(65, 0), (65, 1), (65, 2)] q.2 := by
  refine zMetC (by decide) rfl (Nat.le_of_ble_eq_true rfl) ?_
  intro p e s m below meth c ls C0 hin hl hS
  have hl : lv_has ls 1 [(0, .ref (zal G 65))] := hl
  have C0 : zC G p s m [.ref (zal G 65)].toArray meth c cX5_init 1 RX5 none := C0
  obtain ⟨qs, hS⟩ : ∃ qs, zS (zext G [] [] qs) h s.heap s.heap [] := ⟨_, hS⟩
  have C := zC_ext [] [] qs C0
  unfold f_X5_init_t65 at hf
  refine lv_aload_n C.1 C.2.1 dX5_init_0 rfl (lv_at hl 0 rfl) ?_
  refine zobj C kw_229 (Nat.le_of_ble_eq_true rfl) hl.1 ⟨Nat.le_of_ble_eq_true rfl, Nat.le_of_ble_eq_true rfl⟩ dX5_init_1 ?_
  refine lv_aload_n C.1 C.2.1 dX5_init_4 rfl (lv_at hl 0 rfl) ?_
  refine lv_sipush (v := (400 : Int32)) C.1 C.2.1 dX5_init_5 rfl ?_
  refine znewa (d := 66) C hS (zfresh (hfr 66 (by decide)) (by decide)) (zun1 (by decide) (zlk_f (hz 65 (by decide) 0) (by decide))) sh_66 (by decide) rfl (by decide) (Nat.le_of_ble_eq_true rfl) (Nat.le_of_ble_eq_true rfl) dX5_init_8 (fun q66 H hS => ?_)
  obtain ⟨h1, eh1, hf⟩ := zst_some hf
  rw [← eh1] at hS
  refine zputL (ty := .array .int) (zC_ext _ _ _ C) hS ff_X5_11_65 (zfinL sh_65 rfl ⟨rfl, rfl, by decide +kernel⟩) hin (fun x => ⟨rfl, rfl⟩) (zmem_o (zmem_o hthis)) rfl rfl dX5_init_10 (fun H locs hS => ?_)
  rw [zext_zext, zext_zext] at hS
  obtain ⟨qs, hS⟩ : ∃ qs, zS (zext G [66] [(65, 0)] qs) h1 s.heap H locs := ⟨_, hS⟩
  have C := zC_ext [66] [(65, 0)] qs C0
  refine lv_aload_n C.1 C.2.1 dX5_init_13 rfl (lv_at hl 0 rfl) ?_
  refine lv_sipush (v := (400 : Int32)) C.1 C.2.1 dX5_init_14 rfl ?_
  refine znewa (d := 67) C hS (zfresh (hfr 67 (by decide)) (by decide)) (zun1 (by decide) (zlk_f (hz 65 (by decide) 1) (by decide))) sh_67 (by decide) rfl (by decide) (Nat.le_of_ble_eq_true rfl) (Nat.le_of_ble_eq_true rfl) dX5_init_17 (fun q67 H hS => ?_)
  obtain ⟨h2, eh2, hf⟩ := zst_some hf
  rw [← eh2] at hS
  refine zputL (ty := .array .int) (zC_ext _ _ _ C) hS ff_X5_15_65 (zfinL sh_65 rfl ⟨rfl, rfl, by decide +kernel⟩) hin (fun x => ⟨rfl, rfl⟩) (zmem_o (zmem_o hthis)) rfl rfl dX5_init_19 (fun H locs hS => ?_)
  rw [zext_zext, zext_zext] at hS
  obtain ⟨qs, hS⟩ : ∃ qs, zS (zext G [66, 67] [(65, 0), (65, 1)] qs) h2 s.heap H locs := ⟨_, hS⟩
  have C := zC_ext [66, 67] [(65, 0), (65, 1)] qs C0
  refine lv_aload_n C.1 C.2.1 dX5_init_22 rfl (lv_at hl 0 rfl) ?_
  refine lv_bipush (v := (40 : Int32)) C.1 C.2.1 dX5_init_23 rfl ?_
  refine znewa (d := 68) C hS (zfresh (hfr 68 (by decide)) (by decide)) (zun1 (by decide) (zlk_f (hz 65 (by decide) 2) (by decide))) sh_68 (by decide) rfl (by decide) (Nat.le_of_ble_eq_true rfl) (Nat.le_of_ble_eq_true rfl) dX5_init_25 (fun q68 H hS => ?_)
  obtain ⟨h3, eh3, hf⟩ := zst_some hf
  rw [← eh3] at hS
  refine zputL (ty := .array .int) (zC_ext _ _ _ C) hS ff_X5_18_65 (zfinL sh_65 rfl ⟨rfl, rfl, by decide +kernel⟩) hin (fun x => ⟨rfl, rfl⟩) (zmem_o (zmem_o hthis)) rfl rfl dX5_init_27 (fun H locs hS => ?_)
  rw [zext_zext, zext_zext] at hS
  obtain ⟨qs, hS⟩ : ∃ qs, zS (zext G [66, 67, 68] [(65, 0), (65, 1), (65, 2)] qs) h3 s.heap H locs := ⟨_, hS⟩
  have C := zC_ext [66, 67, 68] [(65, 0), (65, 1), (65, 2)] qs C0
  refine W.widen (k := 3) (n := 840) (Nat.le_of_ble_eq_true rfl) (Nat.le_of_ble_eq_true rfl) ?_
  exact zretC C0 hS hf dX5_init_30
end
section
def f_X4_init_t50 (h : zH) : zR := (zst (zz h 51) fun h1 => (zbd (f_X3_init_t51 h1) fun r2 h3 => (zst (zz h3 56) fun h4 => (zbd (f_X9_init_t56 h4) fun r5 h6 => (zst (zz h6 60) fun h7 => (zbd (f_X0_init_t60 h7) fun r8 h9 => (zst (zz h9 65) fun h10 => (zbd (f_X5_init_t65 h10) fun r11 h12 => (zst (zz h12 69) fun h13 => (zst (zz h13 70) fun h14 => (zst (zup h14 50 6 (2 : Int32)) fun h15 => (some (0, h15)))))))))))))
set_option maxHeartbeats 8000000 in
set_option maxRecDepth 100000 in
theorem c_X4_init_t50 (l : Launch) (G : zG) (h : zH) (q : Int32 × zH) (hthis : 50 ∈ znm G) (hfr : ∀ d ∈ ([51, 52, 53, 54, 55, 56, 57, 58, 59, 60, 61, 62, 63, 64, 65, 66, 67, 68, 69, 70] : List Nat), d ∉ znm G) (hz : ∀ d ∈ ([50, 51, 52, 53, 54, 55, 56, 57, 58, 59, 60, 61, 62, 63, 64, 65, 66, 67, 68, 69, 70] : List Nat), ∀ k, zlk G d k = false) (hx : ∀ q ∈ ([] : List (Nat × Nat)), zlk G q.1 q.2 = false) (hf : f_X4_init_t50 h = some q) : zCtC l yX4_init cX4_init 1 4 20 2160 [.ref (zal G 50)] G h [51, 52, 53, 54, 55, 56, 57, 58, 59, 60, 61, 62, 63, 64, 65, 66, 67, 68, 69, 70] [(51, 0), (51, 1), (51, 2), (51, 3), (50, 0), (56, 0), (56, 1), (56, 2), (50, 1), (60, 0), (60, 1), (60, 2), (60, 3), (50, 2), (65, 0), (65, 1), (65, 2), (50, 3), (50, 4), (50, 5)] q.2 := by
  refine zMetC (by decide) rfl (Nat.le_of_ble_eq_true rfl) ?_
  intro p e s m below meth c ls C0 hin hl hS
  have hl : lv_has ls 1 [(0, .ref (zal G 50))] := hl
  have C0 : zC G p s m [.ref (zal G 50)].toArray meth c cX4_init 1 RX4 none := C0
  obtain ⟨qs, hS⟩ : ∃ qs, zS (zext G [] [] qs) h s.heap s.heap [] := ⟨_, hS⟩
  have C := zC_ext [] [] qs C0
  unfold f_X4_init_t50 at hf
  refine lv_aload_n C.1 C.2.1 dX4_init_0 rfl (lv_at hl 0 rfl) ?_
  refine zobj C kw_117 (Nat.le_of_ble_eq_true rfl) hl.1 ⟨Nat.le_of_ble_eq_true rfl, Nat.le_of_ble_eq_true rfl⟩ dX4_init_1 ?_
  refine lv_aload_n C.1 C.2.1 dX4_init_4 rfl (lv_at hl 0 rfl) ?_
  refine znewo (d := 51) C hS (zfresh (hfr 51 (by decide)) (by decide)) (zun1 (by decide) (zlk_f (hz 50 (by decide) 0) (by decide))) (zlk_fn (hz 51 (by decide)) (by decide)) sh_51 rfl tyX3 tyX3_ok iz_X3 (by decide) (by decide) ⟨kw_118, kw_119, kw_86⟩ (Nat.le_of_ble_eq_true rfl) (Nat.le_of_ble_eq_true rfl) dX4_init_5 (fun q51 H hS => ?_)
  obtain ⟨h1, eh1, hf⟩ := zst_some hf
  rw [← eh1] at hS
  refine lv_dup C.1 C.2.1 dX4_init_8 rfl ?_
  obtain ⟨r2, h3, er2, hf⟩ := zbd_some hf
  refine zcallJ (As := []) (rest := [.ref (q51), .ref (zal G 50)]) (zC_ext _ _ _ C) hS mj_X4_11 (c_X3_init_t51 l (zext (zext G [] [] qs) [51] [] (fun _ => q51)) h1 (r2, h3) (zmem_n (by decide)) (fun d hd => zfresh (zfresh (hfr d ((by decide : ∀ d ∈ [52, 53, 54, 55], d ∈ [51, 52, 53, 54, 55, 56, 57, 58, 59, 60, 61, 62, 63, 64, 65, 66, 67, 68, 69, 70]) d hd)) ((by decide : ∀ d ∈ [52, 53, 54, 55], d ∉ []) d hd)) ((by decide : ∀ d ∈ [52, 53, 54, 55], d ∉ [51]) d hd)) (fun d hd => zlk_fn (zlk_fn (hz d ((by decide : ∀ d ∈ [51, 52, 53, 54, 55], d ∈ [50, 51, 52, 53, 54, 55, 56, 57, 58, 59, 60, 61, 62, 63, 64, 65, 66, 67, 68, 69, 70]) d hd)) ((by decide : ∀ d ∈ [51, 52, 53, 54, 55], ([] : List (Nat × Nat)).all (fun q => q.1 != d) = true) d hd)) rfl) (fun q hq => absurd hq List.not_mem_nil) er2) rfl rfl (Nat.le_of_ble_eq_true rfl) hl.1 ⟨Nat.le_of_ble_eq_true rfl, Nat.le_of_ble_eq_true rfl, Nat.le_of_ble_eq_true rfl, Nat.le_of_ble_eq_true rfl⟩ dX4_init_9 (fun qc51 H locs hS => ?_)
  refine zputL (ty := .object "HalfAJoke$Halves") (zC_ext _ _ _ (zC_ext _ _ _ C)) hS ff_X4_12_50 (zfinL sh_50 rfl ⟨rfl, rfl, by decide +kernel⟩) hin (fun x => ⟨rfl, rfl⟩) (zmem_o (zmem_o (zmem_o hthis))) rfl rfl dX4_init_12 (fun H locs hS => ?_)
  rw [zext_zext, zext_zext, zext_zext] at hS
  obtain ⟨qs, hS⟩ : ∃ qs, zS (zext G [51, 52, 53, 54, 55] [(51, 0), (51, 1), (51, 2), (51, 3), (50, 0)] qs) h3 s.heap H locs := ⟨_, hS⟩
  have C := zC_ext [51, 52, 53, 54, 55] [(51, 0), (51, 1), (51, 2), (51, 3), (50, 0)] qs C0
  refine lv_aload_n C.1 C.2.1 dX4_init_15 rfl (lv_at hl 0 rfl) ?_
  refine znewo (d := 56) C hS (zfresh (hfr 56 (by decide)) (by decide)) (zun1 (by decide) (zlk_f (hz 50 (by decide) 1) (by decide))) (zlk_fn (hz 56 (by decide)) (by decide)) sh_56 rfl tyX9 tyX9_ok iz_X9 (by decide) (by decide) ⟨kw_153, kw_154, kw_87⟩ (Nat.le_of_ble_eq_true rfl) (Nat.le_of_ble_eq_true rfl) dX4_init_16 (fun q56 H hS => ?_)
  obtain ⟨h4, eh4, hf⟩ := zst_some hf
  rw [← eh4] at hS
  refine lv_dup C.1 C.2.1 dX4_init_19 rfl ?_
  obtain ⟨r5, h6, er5, hf⟩ := zbd_some hf
  refine zcallI (As := []) (rest := [.ref (q56), .ref (zal G 50)]) (zC_ext _ _ _ C) hS mi_X4_20 (c_X9_init_t56 l (zext (zext G [51, 52, 53, 54, 55] [(51, 0), (51, 1), (51, 2), (51, 3), (50, 0)] qs) [56] [] (fun _ => q56)) h4 (r5, h6) (zmem_n (by decide)) (fun d hd => zfresh (zfresh (hfr d ((by decide : ∀ d ∈ [57, 58, 59], d ∈ [51, 52, 53, 54, 55, 56, 57, 58, 59, 60, 61, 62, 63, 64, 65, 66, 67, 68, 69, 70]) d hd)) ((by decide : ∀ d ∈ [57, 58, 59], d ∉ [51, 52, 53, 54, 55]) d hd)) ((by decide : ∀ d ∈ [57, 58, 59], d ∉ [56]) d hd)) (fun d hd => zlk_fn (zlk_fn (hz d ((by decide : ∀ d ∈ [56, 57, 58, 59], d ∈ [50, 51, 52, 53, 54, 55, 56, 57, 58, 59, 60, 61, 62, 63, 64, 65, 66, 67, 68, 69, 70]) d hd)) ((by decide : ∀ d ∈ [56, 57, 58, 59], ([(51, 0), (51, 1), (51, 2), (51, 3), (50, 0)] : List (Nat × Nat)).all (fun q => q.1 != d) = true) d hd)) rfl) (fun q hq => absurd hq List.not_mem_nil) er5) rfl rfl (Nat.le_of_ble_eq_true rfl) hl.1 ⟨Nat.le_of_ble_eq_true rfl, Nat.le_of_ble_eq_true rfl, Nat.le_of_ble_eq_true rfl, Nat.le_of_ble_eq_true rfl⟩ dX4_init_20 (fun qc56 H locs hS => ?_)
  refine zputL (ty := .object "HalfAJoke$Table") (zC_ext _ _ _ (zC_ext _ _ _ C)) hS ff_X4_21_50 (zfinL sh_50 rfl ⟨rfl, rfl, by decide +kernel⟩) hin (fun x => ⟨rfl, rfl⟩) (zmem_o (zmem_o (zmem_o hthis))) rfl rfl dX4_init_23 (fun H locs hS => ?_)
  rw [zext_zext, zext_zext, zext_zext] at hS
  obtain ⟨qs, hS⟩ : ∃ qs, zS (zext G [51, 52, 53, 54, 55, 56, 57, 58, 59] [(51, 0), (51, 1), (51, 2), (51, 3), (50, 0), (56, 0), (56, 1), (56, 2), (50, 1)] qs) h6 s.heap H locs := ⟨_, hS⟩
  have C := zC_ext [51, 52, 53, 54, 55, 56, 57, 58, 59] [(51, 0), (51, 1), (51, 2), (51, 3), (50, 0), (56, 0), (56, 1), (56, 2), (50, 1)] qs C0
  refine lv_aload_n C.1 C.2.1 dX4_init_26 rfl (lv_at hl 0 rfl) ?_
  refine znewo (d := 60) C hS (zfresh (hfr 60 (by decide)) (by decide)) (zun1 (by decide) (zlk_f (hz 50 (by decide) 2) (by decide))) (zlk_fn (hz 60 (by decide)) (by decide)) sh_60 rfl tyX0 tyX0_ok iz_X0 (by decide) (by decide) ⟨kw_185, kw_186, kw_88⟩ (Nat.le_of_ble_eq_true rfl) (Nat.le_of_ble_eq_true rfl) dX4_init_27 (fun q60 H hS => ?_)
  obtain ⟨h7, eh7, hf⟩ := zst_some hf
  rw [← eh7] at hS
  refine lv_dup C.1 C.2.1 dX4_init_30 rfl ?_
  obtain ⟨r8, h9, er8, hf⟩ := zbd_some hf
  refine zcallJ (As := []) (rest := [.ref (q60), .ref (zal G 50)]) (zC_ext _ _ _ C) hS mj_X4_27 (c_X0_init_t60 l (zext (zext G [51, 52, 53, 54, 55, 56, 57, 58, 59] [(51, 0), (51, 1), (51, 2), (51, 3), (50, 0), (56, 0), (56, 1), (56, 2), (50, 1)] qs) [60] [] (fun _ => q60)) h7 (r8, h9) (zmem_n (by decide)) (fun d hd => zfresh (zfresh (hfr d ((by decide : ∀ d ∈ [61, 62, 63, 64], d ∈ [51, 52, 53, 54, 55, 56, 57, 58, 59, 60, 61, 62, 63, 64, 65, 66, 67, 68, 69, 70]) d hd)) ((by decide : ∀ d ∈ [61, 62, 63, 64], d ∉ [51, 52, 53, 54, 55, 56, 57, 58, 59]) d hd)) ((by decide : ∀ d ∈ [61, 62, 63, 64], d ∉ [60]) d hd)) (fun d hd => zlk_fn (zlk_fn (hz d ((by decide : ∀ d ∈ [60, 61, 62, 63, 64], d ∈ [50, 51, 52, 53, 54, 55, 56, 57, 58, 59, 60, 61, 62, 63, 64, 65, 66, 67, 68, 69, 70]) d hd)) ((by decide : ∀ d ∈ [60, 61, 62, 63, 64], ([(51, 0), (51, 1), (51, 2), (51, 3), (50, 0), (56, 0), (56, 1), (56, 2), (50, 1)] : List (Nat × Nat)).all (fun q => q.1 != d) = true) d hd)) rfl) (fun q hq => absurd hq List.not_mem_nil) er8) rfl rfl (Nat.le_of_ble_eq_true rfl) hl.1 ⟨Nat.le_of_ble_eq_true rfl, Nat.le_of_ble_eq_true rfl, Nat.le_of_ble_eq_true rfl, Nat.le_of_ble_eq_true rfl⟩ dX4_init_31 (fun qc60 H locs hS => ?_)
  refine zputL (ty := .object "HalfAJoke$Book") (zC_ext _ _ _ (zC_ext _ _ _ C)) hS ff_X4_28_50 (zfinL sh_50 rfl ⟨rfl, rfl, by decide +kernel⟩) hin (fun x => ⟨rfl, rfl⟩) (zmem_o (zmem_o (zmem_o hthis))) rfl rfl dX4_init_34 (fun H locs hS => ?_)
  rw [zext_zext, zext_zext, zext_zext] at hS
  obtain ⟨qs, hS⟩ : ∃ qs, zS (zext G [51, 52, 53, 54, 55, 56, 57, 58, 59, 60, 61, 62, 63, 64] [(51, 0), (51, 1), (51, 2), (51, 3), (50, 0), (56, 0), (56, 1), (56, 2), (50, 1), (60, 0), (60, 1), (60, 2), (60, 3), (50, 2)] qs) h9 s.heap H locs := ⟨_, hS⟩
  have C := zC_ext [51, 52, 53, 54, 55, 56, 57, 58, 59, 60, 61, 62, 63, 64] [(51, 0), (51, 1), (51, 2), (51, 3), (50, 0), (56, 0), (56, 1), (56, 2), (50, 1), (60, 0), (60, 1), (60, 2), (60, 3), (50, 2)] qs C0
  refine lv_aload_n C.1 C.2.1 dX4_init_37 rfl (lv_at hl 0 rfl) ?_
  refine znewo (d := 65) C hS (zfresh (hfr 65 (by decide)) (by decide)) (zun1 (by decide) (zlk_f (hz 50 (by decide) 3) (by decide))) (zlk_fn (hz 65 (by decide)) (by decide)) sh_65 rfl tyX5 tyX5_ok iz_X5 (by decide) (by decide) ⟨kw_224, kw_225, kw_89⟩ (Nat.le_of_ble_eq_true rfl) (Nat.le_of_ble_eq_true rfl) dX4_init_38 (fun q65 H hS => ?_)
  obtain ⟨h10, eh10, hf⟩ := zst_some hf
  rw [← eh10] at hS
  refine lv_dup C.1 C.2.1 dX4_init_41 rfl ?_
  obtain ⟨r11, h12, er11, hf⟩ := zbd_some hf
  refine zcallJ (As := []) (rest := [.ref (q65), .ref (zal G 50)]) (zC_ext _ _ _ C) hS mj_X4_34 (c_X5_init_t65 l (zext (zext G [51, 52, 53, 54, 55, 56, 57, 58, 59, 60, 61, 62, 63, 64] [(51, 0), (51, 1), (51, 2), (51, 3), (50, 0), (56, 0), (56, 1), (56, 2), (50, 1), (60, 0), (60, 1), (60, 2), (60, 3), (50, 2)] qs) [65] [] (fun _ => q65)) h10 (r11, h12) (zmem_n (by decide)) (fun d hd => zfresh (zfresh (hfr d ((by decide : ∀ d ∈ [66, 67, 68], d ∈ [51, 52, 53, 54, 55, 56, 57, 58, 59, 60, 61, 62, 63, 64, 65, 66, 67, 68, 69, 70]) d hd)) ((by decide : ∀ d ∈ [66, 67, 68], d ∉ [51, 52, 53, 54, 55, 56, 57, 58, 59, 60, 61, 62, 63, 64]) d hd)) ((by decide : ∀ d ∈ [66, 67, 68], d ∉ [65]) d hd)) (fun d hd => zlk_fn (zlk_fn (hz d ((by decide : ∀ d ∈ [65, 66, 67, 68], d ∈ [50, 51, 52, 53, 54, 55, 56, 57, 58, 59, 60, 61, 62, 63, 64, 65, 66, 67, 68, 69, 70]) d hd)) ((by decide : ∀ d ∈ [65, 66, 67, 68], ([(51, 0), (51, 1), (51, 2), (51, 3), (50, 0), (56, 0), (56, 1), (56, 2), (50, 1), (60, 0), (60, 1), (60, 2), (60, 3), (50, 2)] : List (Nat × Nat)).all (fun q => q.1 != d) = true) d hd)) rfl) (fun q hq => absurd hq List.not_mem_nil) er11) rfl rfl (Nat.le_of_ble_eq_true rfl) hl.1 ⟨Nat.le_of_ble_eq_true rfl, Nat.le_of_ble_eq_true rfl, Nat.le_of_ble_eq_true rfl, Nat.le_of_ble_eq_true rfl⟩ dX4_init_42 (fun qc65 H locs hS => ?_)
  refine zputL (ty := .object "HalfAJoke$Law") (zC_ext _ _ _ (zC_ext _ _ _ C)) hS ff_X4_35_50 (zfinL sh_50 rfl ⟨rfl, rfl, by decide +kernel⟩) hin (fun x => ⟨rfl, rfl⟩) (zmem_o (zmem_o (zmem_o hthis))) rfl rfl dX4_init_45 (fun H locs hS => ?_)
  rw [zext_zext, zext_zext, zext_zext] at hS
  obtain ⟨qs, hS⟩ : ∃ qs, zS (zext G [51, 52, 53, 54, 55, 56, 57, 58, 59, 60, 61, 62, 63, 64, 65, 66, 67, 68] [(51, 0), (51, 1), (51, 2), (51, 3), (50, 0), (56, 0), (56, 1), (56, 2), (50, 1), (60, 0), (60, 1), (60, 2), (60, 3), (50, 2), (65, 0), (65, 1), (65, 2), (50, 3)] qs) h12 s.heap H locs := ⟨_, hS⟩
  have C := zC_ext [51, 52, 53, 54, 55, 56, 57, 58, 59, 60, 61, 62, 63, 64, 65, 66, 67, 68] [(51, 0), (51, 1), (51, 2), (51, 3), (50, 0), (56, 0), (56, 1), (56, 2), (50, 1), (60, 0), (60, 1), (60, 2), (60, 3), (50, 2), (65, 0), (65, 1), (65, 2), (50, 3)] qs C0
  refine lv_aload_n C.1 C.2.1 dX4_init_48 rfl (lv_at hl 0 rfl) ?_
  refine lv_bipush (v := (6 : Int32)) C.1 C.2.1 dX4_init_49 rfl ?_
  refine znewa (d := 69) C hS (zfresh (hfr 69 (by decide)) (by decide)) (zun1 (by decide) (zlk_f (hz 50 (by decide) 4) (by decide))) sh_69 (by decide) rfl (by decide) (Nat.le_of_ble_eq_true rfl) (Nat.le_of_ble_eq_true rfl) dX4_init_51 (fun q69 H hS => ?_)
  obtain ⟨h13, eh13, hf⟩ := zst_some hf
  rw [← eh13] at hS
  refine zputL (ty := .array .int) (zC_ext _ _ _ C) hS ff_X4_39_50 (zfinL sh_50 rfl ⟨rfl, rfl, by decide +kernel⟩) hin (fun x => ⟨rfl, rfl⟩) (zmem_o (zmem_o hthis)) rfl rfl dX4_init_53 (fun H locs hS => ?_)
  rw [zext_zext, zext_zext] at hS
  obtain ⟨qs, hS⟩ : ∃ qs, zS (zext G [51, 52, 53, 54, 55, 56, 57, 58, 59, 60, 61, 62, 63, 64, 65, 66, 67, 68, 69] [(51, 0), (51, 1), (51, 2), (51, 3), (50, 0), (56, 0), (56, 1), (56, 2), (50, 1), (60, 0), (60, 1), (60, 2), (60, 3), (50, 2), (65, 0), (65, 1), (65, 2), (50, 3), (50, 4)] qs) h13 s.heap H locs := ⟨_, hS⟩
  have C := zC_ext [51, 52, 53, 54, 55, 56, 57, 58, 59, 60, 61, 62, 63, 64, 65, 66, 67, 68, 69] [(51, 0), (51, 1), (51, 2), (51, 3), (50, 0), (56, 0), (56, 1), (56, 2), (50, 1), (60, 0), (60, 1), (60, 2), (60, 3), (50, 2), (65, 0), (65, 1), (65, 2), (50, 3), (50, 4)] qs C0
  refine lv_aload_n C.1 C.2.1 dX4_init_56 rfl (lv_at hl 0 rfl) ?_
  refine lv_bipush (v := (7 : Int32)) C.1 C.2.1 dX4_init_57 rfl ?_
  refine znewa (d := 70) C hS (zfresh (hfr 70 (by decide)) (by decide)) (zun1 (by decide) (zlk_f (hz 50 (by decide) 5) (by decide))) sh_70 (by decide) rfl (by decide) (Nat.le_of_ble_eq_true rfl) (Nat.le_of_ble_eq_true rfl) dX4_init_59 (fun q70 H hS => ?_)
  obtain ⟨h14, eh14, hf⟩ := zst_some hf
  rw [← eh14] at hS
  refine zputL (ty := .array .int) (zC_ext _ _ _ C) hS ff_X4_43_50 (zfinL sh_50 rfl ⟨rfl, rfl, by decide +kernel⟩) hin (fun x => ⟨rfl, rfl⟩) (zmem_o (zmem_o hthis)) rfl rfl dX4_init_61 (fun H locs hS => ?_)
  rw [zext_zext, zext_zext] at hS
  obtain ⟨qs, hS⟩ : ∃ qs, zS (zext G [51, 52, 53, 54, 55, 56, 57, 58, 59, 60, 61, 62, 63, 64, 65, 66, 67, 68, 69, 70] [(51, 0), (51, 1), (51, 2), (51, 3), (50, 0), (56, 0), (56, 1), (56, 2), (50, 1), (60, 0), (60, 1), (60, 2), (60, 3), (50, 2), (65, 0), (65, 1), (65, 2), (50, 3), (50, 4), (50, 5)] qs) h14 s.heap H locs := ⟨_, hS⟩
  have C := zC_ext [51, 52, 53, 54, 55, 56, 57, 58, 59, 60, 61, 62, 63, 64, 65, 66, 67, 68, 69, 70] [(51, 0), (51, 1), (51, 2), (51, 3), (50, 0), (56, 0), (56, 1), (56, 2), (50, 1), (60, 0), (60, 1), (60, 2), (60, 3), (50, 2), (65, 0), (65, 1), (65, 2), (50, 3), (50, 4), (50, 5)] qs C0
  refine lv_aload_n C.1 C.2.1 dX4_init_64 rfl (lv_at hl 0 rfl) ?_
  refine lv_iconst (v := (2 : Int32)) C.1 C.2.1 dX4_init_65 rfl ?_
  refine zputIA C hS ff_X4_46_50 fw_50_6 (zmem_o hthis) rfl dX4_init_66 (fun H locs hS => ?_)
  obtain ⟨h15, eh15, hf⟩ := zst_some hf
  have hS : zS (zext G [51, 52, 53, 54, 55, 56, 57, 58, 59, 60, 61, 62, 63, 64, 65, 66, 67, 68, 69, 70] [(51, 0), (51, 1), (51, 2), (51, 3), (50, 0), (56, 0), (56, 1), (56, 2), (50, 1), (60, 0), (60, 1), (60, 2), (60, 3), (50, 2), (65, 0), (65, 1), (65, 2), (50, 3), (50, 4), (50, 5)] qs) h15 s.heap H locs := by rw [eh15]; exact hS
  refine W.widen (k := 20) (n := 2160) (Nat.le_of_ble_eq_true rfl) (Nat.le_of_ble_eq_true rfl) ?_
  exact zretC C0 hS hf dX4_init_69
end
section
theorem dX8_init_0 : decode cX8_init 0 = .ok (.aload_n 0, 1) := by decide +kernel
theorem dX8_init_1 : decode cX8_init 1 = .ok (.invokespecial 3, 3) := by decide +kernel
theorem dX8_init_4 : decode cX8_init 4 = .ok (.aload_n 0, 1) := by decide +kernel
theorem dX8_init_5 : decode cX8_init 5 = .ok (.bipush 7, 2) := by decide +kernel
theorem dX8_init_7 : decode cX8_init 7 = .ok (.newarray .int, 2) := by decide +kernel
theorem dX8_init_9 : decode cX8_init 9 = .ok (.putfield 11, 3) := by decide +kernel
theorem dX8_init_12 : decode cX8_init 12 = .ok (.aload_n 0, 1) := by decide +kernel
theorem dX8_init_13 : decode cX8_init 13 = .ok (.bipush 7, 2) := by decide +kernel
theorem dX8_init_15 : decode cX8_init 15 = .ok (.newarray .int, 2) := by decide +kernel
theorem dX8_init_17 : decode cX8_init 17 = .ok (.putfield 15, 3) := by decide +kernel
theorem dX8_init_20 : decode cX8_init 20 = .ok (.aload_n 0, 1) := by decide +kernel
theorem dX8_init_21 : decode cX8_init 21 = .ok (.aload_n 1, 1) := by decide +kernel
theorem dX8_init_22 : decode cX8_init 22 = .ok (.putfield 18, 3) := by decide +kernel
theorem dX8_init_25 : decode cX8_init 25 = .ok (.return_, 1) := by decide +kernel
def f_X8_init_t71 (h : zH) : zR := (zst (zz h 72) fun h1 => (zst (zz h1 73) fun h2 => (some (0, h2))))
set_option maxHeartbeats 8000000 in
set_option maxRecDepth 100000 in
theorem c_X8_init_t71 (l : Launch) (G : zG) (h : zH) (q : Int32 × zH) (hthis : 71 ∈ znm G) (hfr : ∀ d ∈ ([72, 73] : List Nat), d ∉ znm G) (hz : ∀ d ∈ ([71, 72, 73] : List Nat), ∀ k, zlk G d k = false) (hx : ∀ q ∈ ([] : List (Nat × Nat)), zlk G q.1 q.2 = false) (hf : f_X8_init_t71 h = some q) : zCtC l yX8_init cX8_init 2 2 2 14 [.ref (zal G 71), .ref (zal G 38)] G h [72, 73] [(71, 1), (71, 2), (71, 0)] q.2 := by
  refine zMetC (by decide) rfl (Nat.le_of_ble_eq_true rfl) ?_
  intro p e s m below meth c ls C0 hin hl hS
  have hl : lv_has ls 2 [(0, .ref (zal G 71)), (1, .ref (zal G 38))] := hl
  have C0 : zC G p s m [.ref (zal G 71), .ref (zal G 38)].toArray meth c cX8_init 2 RX8 none := C0
  obtain ⟨qs, hS⟩ : ∃ qs, zS (zext G [] [] qs) h s.heap s.heap [] := ⟨_, hS⟩
  have C := zC_ext [] [] qs C0
  unfold f_X8_init_t71 at hf
  refine lv_aload_n C.1 C.2.1 dX8_init_0 rfl (lv_at hl 0 rfl) ?_
  refine zobj C kw_963 (Nat.le_of_ble_eq_true rfl) hl.1 ⟨Nat.le_of_ble_eq_true rfl, Nat.le_of_ble_eq_true rfl⟩ dX8_init_1 ?_
  refine lv_aload_n C.1 C.2.1 dX8_init_4 rfl (lv_at hl 0 rfl) ?_
  refine lv_bipush (v := (7 : Int32)) C.1 C.2.1 dX8_init_5 rfl ?_
  refine znewa (d := 72) C hS (zfresh (hfr 72 (by decide)) (by decide)) (zun1 (by decide) (zlk_f (hz 71 (by decide) 1) (by decide))) sh_72 (by decide) rfl (by decide) (Nat.le_of_ble_eq_true rfl) (Nat.le_of_ble_eq_true rfl) dX8_init_7 (fun q72 H hS => ?_)
  obtain ⟨h1, eh1, hf⟩ := zst_some hf
  rw [← eh1] at hS
  refine zputL (ty := .array .int) (zC_ext _ _ _ C) hS ff_X8_11_71 (zfinL sh_71 rfl ⟨rfl, rfl, by decide +kernel⟩) hin (fun x => ⟨rfl, rfl⟩) (zmem_o (zmem_o hthis)) rfl rfl dX8_init_9 (fun H locs hS => ?_)
  rw [zext_zext, zext_zext] at hS
  obtain ⟨qs, hS⟩ : ∃ qs, zS (zext G [72] [(71, 1)] qs) h1 s.heap H locs := ⟨_, hS⟩
  have C := zC_ext [72] [(71, 1)] qs C0
  refine lv_aload_n C.1 C.2.1 dX8_init_12 rfl (lv_at hl 0 rfl) ?_
  refine lv_bipush (v := (7 : Int32)) C.1 C.2.1 dX8_init_13 rfl ?_
  refine znewa (d := 73) C hS (zfresh (hfr 73 (by decide)) (by decide)) (zun1 (by decide) (zlk_f (hz 71 (by decide) 2) (by decide))) sh_73 (by decide) rfl (by decide) (Nat.le_of_ble_eq_true rfl) (Nat.le_of_ble_eq_true rfl) dX8_init_15 (fun q73 H hS => ?_)
  obtain ⟨h2, eh2, hf⟩ := zst_some hf
  rw [← eh2] at hS
  refine zputL (ty := .array .int) (zC_ext _ _ _ C) hS ff_X8_15_71 (zfinL sh_71 rfl ⟨rfl, rfl, by decide +kernel⟩) hin (fun x => ⟨rfl, rfl⟩) (zmem_o (zmem_o hthis)) rfl rfl dX8_init_17 (fun H locs hS => ?_)
  rw [zext_zext, zext_zext] at hS
  obtain ⟨qs, hS⟩ : ∃ qs, zS (zext G [72, 73] [(71, 1), (71, 2)] qs) h2 s.heap H locs := ⟨_, hS⟩
  have C := zC_ext [72, 73] [(71, 1), (71, 2)] qs C0
  refine lv_aload_n C.1 C.2.1 dX8_init_20 rfl (lv_at hl 0 rfl) ?_
  refine lv_aload_n C.1 C.2.1 dX8_init_21 rfl (lv_at hl 1 rfl) ?_
  refine zputL (ty := .object "HalfAJoke$Evening") C hS ff_X8_18_71 (zfinL sh_71 rfl ⟨rfl, rfl, by decide +kernel⟩) hin (fun x => ⟨rfl, rfl⟩) (zmem_o hthis) rfl rfl dX8_init_22 (fun H locs hS => ?_)
  rw [zext_zext] at hS
  obtain ⟨qs, hS⟩ : ∃ qs, zS (zext G [72, 73] [(71, 1), (71, 2), (71, 0)] qs) h2 s.heap H locs := ⟨_, hS⟩
  have C := zC_ext [72, 73] [(71, 1), (71, 2), (71, 0)] qs C0
  refine W.widen (k := 2) (n := 14) (Nat.le_of_ble_eq_true rfl) (Nat.le_of_ble_eq_true rfl) ?_
  exact zretC C0 hS hf dX8_init_25
end
section
theorem dX2_init_0 : decode cX2_init 0 = .ok (.aload_n 0, 1) := by decide +kernel
theorem dX2_init_1 : decode cX2_init 1 = .ok (.invokespecial 5, 3) := by decide +kernel
theorem dX2_init_4 : decode cX2_init 4 = .ok (.aload_n 0, 1) := by decide +kernel
theorem dX2_init_5 : decode cX2_init 5 = .ok (.sipush 2304, 3) := by decide +kernel
theorem dX2_init_8 : decode cX2_init 8 = .ok (.newarray .int, 2) := by decide +kernel
theorem dX2_init_10 : decode cX2_init 10 = .ok (.putfield 11, 3) := by decide +kernel
theorem dX2_init_13 : decode cX2_init 13 = .ok (.aload_n 0, 1) := by decide +kernel
theorem dX2_init_14 : decode cX2_init 14 = .ok (.bipush 64, 2) := by decide +kernel
theorem dX2_init_16 : decode cX2_init 16 = .ok (.newarray .int, 2) := by decide +kernel
theorem dX2_init_18 : decode cX2_init 18 = .ok (.putfield 15, 3) := by decide +kernel
theorem dX2_init_21 : decode cX2_init 21 = .ok (.aload_n 0, 1) := by decide +kernel
theorem dX2_init_22 : decode cX2_init 22 = .ok (.bipush 8, 2) := by decide +kernel
theorem dX2_init_24 : decode cX2_init 24 = .ok (.newarray .int, 2) := by decide +kernel
theorem dX2_init_26 : decode cX2_init 26 = .ok (.putfield 18, 3) := by decide +kernel
theorem dX2_init_29 : decode cX2_init 29 = .ok (.aload_n 0, 1) := by decide +kernel
theorem dX2_init_30 : decode cX2_init 30 = .ok (.bipush 8, 2) := by decide +kernel
theorem dX2_init_32 : decode cX2_init 32 = .ok (.newarray .int, 2) := by decide +kernel
theorem dX2_init_34 : decode cX2_init 34 = .ok (.putfield 21, 3) := by decide +kernel
theorem dX2_init_37 : decode cX2_init 37 = .ok (.aload_n 0, 1) := by decide +kernel
theorem dX2_init_38 : decode cX2_init 38 = .ok (.bipush 16, 2) := by decide +kernel
theorem dX2_init_40 : decode cX2_init 40 = .ok (.newarray .int, 2) := by decide +kernel
theorem dX2_init_42 : decode cX2_init 42 = .ok (.putfield 24, 3) := by decide +kernel
theorem dX2_init_45 : decode cX2_init 45 = .ok (.return_, 1) := by decide +kernel
def f_X2_init_t74 (h : zH) : zR := (zst (zz h 75) fun h1 => (zst (zz h1 76) fun h2 => (zst (zz h2 77) fun h3 => (zst (zz h3 78) fun h4 => (zst (zz h4 79) fun h5 => (some (0, h5)))))))
set_option maxHeartbeats 8000000 in
set_option maxRecDepth 100000 in
theorem c_X2_init_t74 (l : Launch) (G : zG) (h : zH) (q : Int32 × zH) (hthis : 74 ∈ znm G) (hfr : ∀ d ∈ ([75, 76, 77, 78, 79] : List Nat), d ∉ znm G) (hz : ∀ d ∈ ([74, 75, 76, 77, 78, 79] : List Nat), ∀ k, zlk G d k = false) (hx : ∀ q ∈ ([] : List (Nat × Nat)), zlk G q.1 q.2 = false) (hf : f_X2_init_t74 h = some q) : zCtC l yX2_init cX2_init 1 2 5 2400 [.ref (zal G 74)] G h [75, 76, 77, 78, 79] [(74, 0), (74, 1), (74, 2), (74, 3), (74, 4)] q.2 := by
  refine zMetC (by decide) rfl (Nat.le_of_ble_eq_true rfl) ?_
  intro p e s m below meth c ls C0 hin hl hS
  have hl : lv_has ls 1 [(0, .ref (zal G 74))] := hl
  have C0 : zC G p s m [.ref (zal G 74)].toArray meth c cX2_init 1 RX2 none := C0
  obtain ⟨qs, hS⟩ : ∃ qs, zS (zext G [] [] qs) h s.heap s.heap [] := ⟨_, hS⟩
  have C := zC_ext [] [] qs C0
  unfold f_X2_init_t74 at hf
  refine lv_aload_n C.1 C.2.1 dX2_init_0 rfl (lv_at hl 0 rfl) ?_
  refine zobj C kw_899 (Nat.le_of_ble_eq_true rfl) hl.1 ⟨Nat.le_of_ble_eq_true rfl, Nat.le_of_ble_eq_true rfl⟩ dX2_init_1 ?_
  refine lv_aload_n C.1 C.2.1 dX2_init_4 rfl (lv_at hl 0 rfl) ?_
  refine lv_sipush (v := (2304 : Int32)) C.1 C.2.1 dX2_init_5 rfl ?_
  refine znewa (d := 75) C hS (zfresh (hfr 75 (by decide)) (by decide)) (zun1 (by decide) (zlk_f (hz 74 (by decide) 0) (by decide))) sh_75 (by decide) rfl (by decide) (Nat.le_of_ble_eq_true rfl) (Nat.le_of_ble_eq_true rfl) dX2_init_8 (fun q75 H hS => ?_)
  obtain ⟨h1, eh1, hf⟩ := zst_some hf
  rw [← eh1] at hS
  refine zputL (ty := .array .int) (zC_ext _ _ _ C) hS ff_X2_11_74 (zfinL sh_74 rfl ⟨rfl, rfl, by decide +kernel⟩) hin (fun x => ⟨rfl, rfl⟩) (zmem_o (zmem_o hthis)) rfl rfl dX2_init_10 (fun H locs hS => ?_)
  rw [zext_zext, zext_zext] at hS
  obtain ⟨qs, hS⟩ : ∃ qs, zS (zext G [75] [(74, 0)] qs) h1 s.heap H locs := ⟨_, hS⟩
  have C := zC_ext [75] [(74, 0)] qs C0
  refine lv_aload_n C.1 C.2.1 dX2_init_13 rfl (lv_at hl 0 rfl) ?_
  refine lv_bipush (v := (64 : Int32)) C.1 C.2.1 dX2_init_14 rfl ?_
  refine znewa (d := 76) C hS (zfresh (hfr 76 (by decide)) (by decide)) (zun1 (by decide) (zlk_f (hz 74 (by decide) 1) (by decide))) sh_76 (by decide) rfl (by decide) (Nat.le_of_ble_eq_true rfl) (Nat.le_of_ble_eq_true rfl) dX2_init_16 (fun q76 H hS => ?_)
  obtain ⟨h2, eh2, hf⟩ := zst_some hf
  rw [← eh2] at hS
  refine zputL (ty := .array .int) (zC_ext _ _ _ C) hS ff_X2_15_74 (zfinL sh_74 rfl ⟨rfl, rfl, by decide +kernel⟩) hin (fun x => ⟨rfl, rfl⟩) (zmem_o (zmem_o hthis)) rfl rfl dX2_init_18 (fun H locs hS => ?_)
  rw [zext_zext, zext_zext] at hS
  obtain ⟨qs, hS⟩ : ∃ qs, zS (zext G [75, 76] [(74, 0), (74, 1)] qs) h2 s.heap H locs := ⟨_, hS⟩
  have C := zC_ext [75, 76] [(74, 0), (74, 1)] qs C0
  refine lv_aload_n C.1 C.2.1 dX2_init_21 rfl (lv_at hl 0 rfl) ?_
  refine lv_bipush (v := (8 : Int32)) C.1 C.2.1 dX2_init_22 rfl ?_
  refine znewa (d := 77) C hS (zfresh (hfr 77 (by decide)) (by decide)) (zun1 (by decide) (zlk_f (hz 74 (by decide) 2) (by decide))) sh_77 (by decide) rfl (by decide) (Nat.le_of_ble_eq_true rfl) (Nat.le_of_ble_eq_true rfl) dX2_init_24 (fun q77 H hS => ?_)
  obtain ⟨h3, eh3, hf⟩ := zst_some hf
  rw [← eh3] at hS
  refine zputL (ty := .array .int) (zC_ext _ _ _ C) hS ff_X2_18_74 (zfinL sh_74 rfl ⟨rfl, rfl, by decide +kernel⟩) hin (fun x => ⟨rfl, rfl⟩) (zmem_o (zmem_o hthis)) rfl rfl dX2_init_26 (fun H locs hS => ?_)
  rw [zext_zext, zext_zext] at hS
  obtain ⟨qs, hS⟩ : ∃ qs, zS (zext G [75, 76, 77] [(74, 0), (74, 1), (74, 2)] qs) h3 s.heap H locs := ⟨_, hS⟩
  have C := zC_ext [75, 76, 77] [(74, 0), (74, 1), (74, 2)] qs C0
  refine lv_aload_n C.1 C.2.1 dX2_init_29 rfl (lv_at hl 0 rfl) ?_
  refine lv_bipush (v := (8 : Int32)) C.1 C.2.1 dX2_init_30 rfl ?_
  refine znewa (d := 78) C hS (zfresh (hfr 78 (by decide)) (by decide)) (zun1 (by decide) (zlk_f (hz 74 (by decide) 3) (by decide))) sh_78 (by decide) rfl (by decide) (Nat.le_of_ble_eq_true rfl) (Nat.le_of_ble_eq_true rfl) dX2_init_32 (fun q78 H hS => ?_)
  obtain ⟨h4, eh4, hf⟩ := zst_some hf
  rw [← eh4] at hS
  refine zputL (ty := .array .int) (zC_ext _ _ _ C) hS ff_X2_21_74 (zfinL sh_74 rfl ⟨rfl, rfl, by decide +kernel⟩) hin (fun x => ⟨rfl, rfl⟩) (zmem_o (zmem_o hthis)) rfl rfl dX2_init_34 (fun H locs hS => ?_)
  rw [zext_zext, zext_zext] at hS
  obtain ⟨qs, hS⟩ : ∃ qs, zS (zext G [75, 76, 77, 78] [(74, 0), (74, 1), (74, 2), (74, 3)] qs) h4 s.heap H locs := ⟨_, hS⟩
  have C := zC_ext [75, 76, 77, 78] [(74, 0), (74, 1), (74, 2), (74, 3)] qs C0
  refine lv_aload_n C.1 C.2.1 dX2_init_37 rfl (lv_at hl 0 rfl) ?_
  refine lv_bipush (v := (16 : Int32)) C.1 C.2.1 dX2_init_38 rfl ?_
  refine znewa (d := 79) C hS (zfresh (hfr 79 (by decide)) (by decide)) (zun1 (by decide) (zlk_f (hz 74 (by decide) 4) (by decide))) sh_79 (by decide) rfl (by decide) (Nat.le_of_ble_eq_true rfl) (Nat.le_of_ble_eq_true rfl) dX2_init_40 (fun q79 H hS => ?_)
  obtain ⟨h5, eh5, hf⟩ := zst_some hf
  rw [← eh5] at hS
  refine zputL (ty := .array .int) (zC_ext _ _ _ C) hS ff_X2_24_74 (zfinL sh_74 rfl ⟨rfl, rfl, by decide +kernel⟩) hin (fun x => ⟨rfl, rfl⟩) (zmem_o (zmem_o hthis)) rfl rfl dX2_init_42 (fun H locs hS => ?_)
  rw [zext_zext, zext_zext] at hS
  obtain ⟨qs, hS⟩ : ∃ qs, zS (zext G [75, 76, 77, 78, 79] [(74, 0), (74, 1), (74, 2), (74, 3), (74, 4)] qs) h5 s.heap H locs := ⟨_, hS⟩
  have C := zC_ext [75, 76, 77, 78, 79] [(74, 0), (74, 1), (74, 2), (74, 3), (74, 4)] qs C0
  refine W.widen (k := 5) (n := 2400) (Nat.le_of_ble_eq_true rfl) (Nat.le_of_ble_eq_true rfl) ?_
  exact zretC C0 hS hf dX2_init_45
end
section
theorem dX10_init_0 : decode cX10_init 0 = .ok (.aload_n 0, 1) := by decide +kernel
theorem dX10_init_1 : decode cX10_init 1 = .ok (.invokespecial 3, 3) := by decide +kernel
theorem dX10_init_4 : decode cX10_init 4 = .ok (.aload_n 0, 1) := by decide +kernel
theorem dX10_init_5 : decode cX10_init 5 = .ok (.sipush 656, 3) := by decide +kernel
theorem dX10_init_8 : decode cX10_init 8 = .ok (.newarray .int, 2) := by decide +kernel
theorem dX10_init_10 : decode cX10_init 10 = .ok (.putfield 11, 3) := by decide +kernel
theorem dX10_init_13 : decode cX10_init 13 = .ok (.aload_n 0, 1) := by decide +kernel
theorem dX10_init_14 : decode cX10_init 14 = .ok (.sipush 256, 3) := by decide +kernel
theorem dX10_init_17 : decode cX10_init 17 = .ok (.newarray .int, 2) := by decide +kernel
theorem dX10_init_19 : decode cX10_init 19 = .ok (.putfield 15, 3) := by decide +kernel
theorem dX10_init_22 : decode cX10_init 22 = .ok (.return_, 1) := by decide +kernel
def f_X10_init_t80 (h : zH) : zR := (zst (zz h 81) fun h1 => (zst (zz h1 82) fun h2 => (some (0, h2))))
set_option maxHeartbeats 8000000 in
set_option maxRecDepth 100000 in
theorem c_X10_init_t80 (l : Launch) (G : zG) (h : zH) (q : Int32 × zH) (hthis : 80 ∈ znm G) (hfr : ∀ d ∈ ([81, 82] : List Nat), d ∉ znm G) (hz : ∀ d ∈ ([80, 81, 82] : List Nat), ∀ k, zlk G d k = false) (hx : ∀ q ∈ ([] : List (Nat × Nat)), zlk G q.1 q.2 = false) (hf : f_X10_init_t80 h = some q) : zCtC l yX10_init cX10_init 1 2 2 912 [.ref (zal G 80)] G h [81, 82] [(80, 0), (80, 1)] q.2 := by
  refine zMetC (by decide) rfl (Nat.le_of_ble_eq_true rfl) ?_
  intro p e s m below meth c ls C0 hin hl hS
  have hl : lv_has ls 1 [(0, .ref (zal G 80))] := hl
  have C0 : zC G p s m [.ref (zal G 80)].toArray meth c cX10_init 1 RX10 none := C0
  obtain ⟨qs, hS⟩ : ∃ qs, zS (zext G [] [] qs) h s.heap s.heap [] := ⟨_, hS⟩
  have C := zC_ext [] [] qs C0
  unfold f_X10_init_t80 at hf
  refine lv_aload_n C.1 C.2.1 dX10_init_0 rfl (lv_at hl 0 rfl) ?_
  refine zobj C kw_1038 (Nat.le_of_ble_eq_true rfl) hl.1 ⟨Nat.le_of_ble_eq_true rfl, Nat.le_of_ble_eq_true rfl⟩ dX10_init_1 ?_
  refine lv_aload_n C.1 C.2.1 dX10_init_4 rfl (lv_at hl 0 rfl) ?_
  refine lv_sipush (v := (656 : Int32)) C.1 C.2.1 dX10_init_5 rfl ?_
  refine znewa (d := 81) C hS (zfresh (hfr 81 (by decide)) (by decide)) (zun1 (by decide) (zlk_f (hz 80 (by decide) 0) (by decide))) sh_81 (by decide) rfl (by decide) (Nat.le_of_ble_eq_true rfl) (Nat.le_of_ble_eq_true rfl) dX10_init_8 (fun q81 H hS => ?_)
  obtain ⟨h1, eh1, hf⟩ := zst_some hf
  rw [← eh1] at hS
  refine zputL (ty := .array .int) (zC_ext _ _ _ C) hS ff_X10_11_80 (zfinL sh_80 rfl ⟨rfl, rfl, by decide +kernel⟩) hin (fun x => ⟨rfl, rfl⟩) (zmem_o (zmem_o hthis)) rfl rfl dX10_init_10 (fun H locs hS => ?_)
  rw [zext_zext, zext_zext] at hS
  obtain ⟨qs, hS⟩ : ∃ qs, zS (zext G [81] [(80, 0)] qs) h1 s.heap H locs := ⟨_, hS⟩
  have C := zC_ext [81] [(80, 0)] qs C0
  refine lv_aload_n C.1 C.2.1 dX10_init_13 rfl (lv_at hl 0 rfl) ?_
  refine lv_sipush (v := (256 : Int32)) C.1 C.2.1 dX10_init_14 rfl ?_
  refine znewa (d := 82) C hS (zfresh (hfr 82 (by decide)) (by decide)) (zun1 (by decide) (zlk_f (hz 80 (by decide) 1) (by decide))) sh_82 (by decide) rfl (by decide) (Nat.le_of_ble_eq_true rfl) (Nat.le_of_ble_eq_true rfl) dX10_init_17 (fun q82 H hS => ?_)
  obtain ⟨h2, eh2, hf⟩ := zst_some hf
  rw [← eh2] at hS
  refine zputL (ty := .array .int) (zC_ext _ _ _ C) hS ff_X10_15_80 (zfinL sh_80 rfl ⟨rfl, rfl, by decide +kernel⟩) hin (fun x => ⟨rfl, rfl⟩) (zmem_o (zmem_o hthis)) rfl rfl dX10_init_19 (fun H locs hS => ?_)
  rw [zext_zext, zext_zext] at hS
  obtain ⟨qs, hS⟩ : ∃ qs, zS (zext G [81, 82] [(80, 0), (80, 1)] qs) h2 s.heap H locs := ⟨_, hS⟩
  have C := zC_ext [81, 82] [(80, 0), (80, 1)] qs C0
  refine W.widen (k := 2) (n := 912) (Nat.le_of_ble_eq_true rfl) (Nat.le_of_ble_eq_true rfl) ?_
  exact zretC C0 hS hf dX10_init_22
end
section
theorem dX12_init_0 : decode cX12_init 0 = .ok (.aload_n 0, 1) := by decide +kernel
theorem dX12_init_1 : decode cX12_init 1 = .ok (.invokespecial 1, 3) := by decide +kernel
theorem dX12_init_4 : decode cX12_init 4 = .ok (.aload_n 0, 1) := by decide +kernel
theorem dX12_init_5 : decode cX12_init 5 = .ok (.sipush 2220, 3) := by decide +kernel
theorem dX12_init_8 : decode cX12_init 8 = .ok (.newarray .int, 2) := by decide +kernel
theorem dX12_init_10 : decode cX12_init 10 = .ok (.putfield 7, 3) := by decide +kernel
theorem dX12_init_13 : decode cX12_init 13 = .ok (.aload_n 0, 1) := by decide +kernel
theorem dX12_init_14 : decode cX12_init 14 = .ok (.sipush 2220, 3) := by decide +kernel
theorem dX12_init_17 : decode cX12_init 17 = .ok (.newarray .int, 2) := by decide +kernel
theorem dX12_init_19 : decode cX12_init 19 = .ok (.putfield 13, 3) := by decide +kernel
theorem dX12_init_22 : decode cX12_init 22 = .ok (.aload_n 0, 1) := by decide +kernel
theorem dX12_init_23 : decode cX12_init 23 = .ok (.sipush 3150, 3) := by decide +kernel
theorem dX12_init_26 : decode cX12_init 26 = .ok (.newarray .int, 2) := by decide +kernel
theorem dX12_init_28 : decode cX12_init 28 = .ok (.putfield 16, 3) := by decide +kernel
theorem dX12_init_31 : decode cX12_init 31 = .ok (.aload_n 0, 1) := by decide +kernel
theorem dX12_init_32 : decode cX12_init 32 = .ok (.sipush 512, 3) := by decide +kernel
theorem dX12_init_35 : decode cX12_init 35 = .ok (.newarray .int, 2) := by decide +kernel
theorem dX12_init_37 : decode cX12_init 37 = .ok (.putfield 19, 3) := by decide +kernel
theorem dX12_init_40 : decode cX12_init 40 = .ok (.aload_n 0, 1) := by decide +kernel
theorem dX12_init_41 : decode cX12_init 41 = .ok (.bipush 48, 2) := by decide +kernel
theorem dX12_init_43 : decode cX12_init 43 = .ok (.newarray .int, 2) := by decide +kernel
theorem dX12_init_45 : decode cX12_init 45 = .ok (.putfield 22, 3) := by decide +kernel
theorem dX12_init_48 : decode cX12_init 48 = .ok (.aload_n 0, 1) := by decide +kernel
theorem dX12_init_49 : decode cX12_init 49 = .ok (.sipush 820, 3) := by decide +kernel
theorem dX12_init_52 : decode cX12_init 52 = .ok (.newarray .int, 2) := by decide +kernel
theorem dX12_init_54 : decode cX12_init 54 = .ok (.putfield 25, 3) := by decide +kernel
theorem dX12_init_57 : decode cX12_init 57 = .ok (.aload_n 0, 1) := by decide +kernel
theorem dX12_init_58 : decode cX12_init 58 = .ok (.sipush 400, 3) := by decide +kernel
theorem dX12_init_61 : decode cX12_init 61 = .ok (.newarray .int, 2) := by decide +kernel
theorem dX12_init_63 : decode cX12_init 63 = .ok (.putfield 28, 3) := by decide +kernel
theorem dX12_init_66 : decode cX12_init 66 = .ok (.aload_n 0, 1) := by decide +kernel
theorem dX12_init_67 : decode cX12_init 67 = .ok (.sipush 420, 3) := by decide +kernel
theorem dX12_init_70 : decode cX12_init 70 = .ok (.newarray .int, 2) := by decide +kernel
theorem dX12_init_72 : decode cX12_init 72 = .ok (.putfield 31, 3) := by decide +kernel
theorem dX12_init_75 : decode cX12_init 75 = .ok (.aload_n 0, 1) := by decide +kernel
theorem dX12_init_76 : decode cX12_init 76 = .ok (.bipush 8, 2) := by decide +kernel
theorem dX12_init_78 : decode cX12_init 78 = .ok (.newarray .int, 2) := by decide +kernel
theorem dX12_init_80 : decode cX12_init 80 = .ok (.putfield 34, 3) := by decide +kernel
theorem dX12_init_83 : decode cX12_init 83 = .ok (.aload_n 0, 1) := by decide +kernel
theorem dX12_init_84 : decode cX12_init 84 = .ok (.iconst (-1), 1) := by decide +kernel
theorem dX12_init_85 : decode cX12_init 85 = .ok (.putfield 37, 3) := by decide +kernel
theorem dX12_init_88 : decode cX12_init 88 = .ok (.aload_n 0, 1) := by decide +kernel
theorem dX12_init_89 : decode cX12_init 89 = .ok (.bipush 16, 2) := by decide +kernel
theorem dX12_init_91 : decode cX12_init 91 = .ok (.newarray .int, 2) := by decide +kernel
theorem dX12_init_93 : decode cX12_init 93 = .ok (.putfield 41, 3) := by decide +kernel
theorem dX12_init_96 : decode cX12_init 96 = .ok (.aload_n 0, 1) := by decide +kernel
theorem dX12_init_97 : decode cX12_init 97 = .ok (.bipush 16, 2) := by decide +kernel
theorem dX12_init_99 : decode cX12_init 99 = .ok (.newarray .int, 2) := by decide +kernel
theorem dX12_init_101 : decode cX12_init 101 = .ok (.putfield 44, 3) := by decide +kernel
theorem dX12_init_104 : decode cX12_init 104 = .ok (.aload_n 0, 1) := by decide +kernel
theorem dX12_init_105 : decode cX12_init 105 = .ok (.sipush 2304, 3) := by decide +kernel
theorem dX12_init_108 : decode cX12_init 108 = .ok (.newarray .int, 2) := by decide +kernel
theorem dX12_init_110 : decode cX12_init 110 = .ok (.putfield 47, 3) := by decide +kernel
theorem dX12_init_113 : decode cX12_init 113 = .ok (.aload_n 0, 1) := by decide +kernel
theorem dX12_init_114 : decode cX12_init 114 = .ok (.bipush 16, 2) := by decide +kernel
theorem dX12_init_116 : decode cX12_init 116 = .ok (.newarray .int, 2) := by decide +kernel
theorem dX12_init_118 : decode cX12_init 118 = .ok (.putfield 50, 3) := by decide +kernel
theorem dX12_init_121 : decode cX12_init 121 = .ok (.aload_n 0, 1) := by decide +kernel
theorem dX12_init_122 : decode cX12_init 122 = .ok (.bipush 8, 2) := by decide +kernel
theorem dX12_init_124 : decode cX12_init 124 = .ok (.newarray .int, 2) := by decide +kernel
theorem dX12_init_126 : decode cX12_init 126 = .ok (.putfield 53, 3) := by decide +kernel
theorem dX12_init_129 : decode cX12_init 129 = .ok (.aload_n 0, 1) := by decide +kernel
theorem dX12_init_130 : decode cX12_init 130 = .ok (.bipush 8, 2) := by decide +kernel
theorem dX12_init_132 : decode cX12_init 132 = .ok (.newarray .int, 2) := by decide +kernel
theorem dX12_init_134 : decode cX12_init 134 = .ok (.putfield 56, 3) := by decide +kernel
theorem dX12_init_137 : decode cX12_init 137 = .ok (.aload_n 0, 1) := by decide +kernel
theorem dX12_init_138 : decode cX12_init 138 = .ok (.sipush 656, 3) := by decide +kernel
theorem dX12_init_141 : decode cX12_init 141 = .ok (.newarray .int, 2) := by decide +kernel
theorem dX12_init_143 : decode cX12_init 143 = .ok (.putfield 59, 3) := by decide +kernel
theorem dX12_init_146 : decode cX12_init 146 = .ok (.aload_n 0, 1) := by decide +kernel
theorem dX12_init_147 : decode cX12_init 147 = .ok (.bipush 96, 2) := by decide +kernel
theorem dX12_init_149 : decode cX12_init 149 = .ok (.newarray .int, 2) := by decide +kernel
theorem dX12_init_151 : decode cX12_init 151 = .ok (.putfield 62, 3) := by decide +kernel
theorem dX12_init_154 : decode cX12_init 154 = .ok (.aload_n 0, 1) := by decide +kernel
theorem dX12_init_155 : decode cX12_init 155 = .ok (.getfield 7, 3) := by decide +kernel
theorem dX12_init_158 : decode cX12_init 158 = .ok (.iconst 0, 1) := by decide +kernel
theorem dX12_init_159 : decode cX12_init 159 = .ok (.bipush 6, 2) := by decide +kernel
theorem dX12_init_161 : decode cX12_init 161 = .ok (.iastore, 1) := by decide +kernel
theorem dX12_init_162 : decode cX12_init 162 = .ok (.aload_n 0, 1) := by decide +kernel
theorem dX12_init_163 : decode cX12_init 163 = .ok (.getfield 7, 3) := by decide +kernel
theorem dX12_init_166 : decode cX12_init 166 = .ok (.iconst 1, 1) := by decide +kernel
theorem dX12_init_167 : decode cX12_init 167 = .ok (.iconst 2, 1) := by decide +kernel
theorem dX12_init_168 : decode cX12_init 168 = .ok (.iastore, 1) := by decide +kernel
theorem dX12_init_169 : decode cX12_init 169 = .ok (.iconst 0, 1) := by decide +kernel
theorem dX12_init_170 : decode cX12_init 170 = .ok (.istore_n 1, 1) := by decide +kernel
theorem dX12_init_171 : decode cX12_init 171 = .ok (.iload_n 1, 1) := by decide +kernel
theorem dX12_init_172 : decode cX12_init 172 = .ok (.sipush 256, 3) := by decide +kernel
theorem dX12_init_175 : decode cX12_init 175 = .ok (.if_icmp .ge 20, 3) := by decide +kernel
theorem dX12_init_178 : decode cX12_init 178 = .ok (.aload_n 0, 1) := by decide +kernel
theorem dX12_init_179 : decode cX12_init 179 = .ok (.getfield 7, 3) := by decide +kernel
theorem dX12_init_182 : decode cX12_init 182 = .ok (.sipush 466, 3) := by decide +kernel
theorem dX12_init_185 : decode cX12_init 185 = .ok (.iload_n 1, 1) := by decide +kernel
theorem dX12_init_186 : decode cX12_init 186 = .ok (.iadd, 1) := by decide +kernel
theorem dX12_init_187 : decode cX12_init 187 = .ok (.iconst (-1), 1) := by decide +kernel
theorem dX12_init_188 : decode cX12_init 188 = .ok (.iastore, 1) := by decide +kernel
theorem dX12_init_189 : decode cX12_init 189 = .ok (.iinc 1 1, 3) := by decide +kernel
theorem dX12_init_192 : decode cX12_init 192 = .ok (.goto (-21), 3) := by decide +kernel
theorem dX12_init_195 : decode cX12_init 195 = .ok (.return_, 1) := by decide +kernel
def f_X12_init_t100_L : Nat → Int32 → zH → zR
  | 0 => fun _ _ => none
  | n + 1 => fun x1 h => (if (256 : Int32) ≤ x1 then (some (0, h)) else (zck ((466 : Int32) + x1) 2220 (zst (zup h 101 (Int32.toNatClampNeg ((466 : Int32) + x1)) (-1 : Int32)) fun h1 => (zlt (x1 + (1 : Int32)) fun y1 => (f_X12_init_t100_L n y1 h1)))))

def f_X12_init_t100 (h : zH) : zR := (zst (zz h 101) fun h1 => (zst (zz h1 102) fun h2 => (zst (zz h2 103) fun h3 => (zst (zz h3 104) fun h4 => (zst (zz h4 105) fun h5 => (zst (zz h5 106) fun h6 => (zst (zz h6 107) fun h7 => (zst (zz h7 108) fun h8 => (zst (zz h8 109) fun h9 => (zst (zup h9 100 22 (-1 : Int32)) fun h10 => (zst (zz h10 110) fun h11 => (zst (zz h11 111) fun h12 => (zst (zz h12 112) fun h13 => (zst (zz h13 113) fun h14 => (zst (zz h14 114) fun h15 => (zst (zz h15 115) fun h16 => (zst (zz h16 116) fun h17 => (zst (zz h17 117) fun h18 => (zst (zup h18 101 0 (6 : Int32)) fun h19 => (zst (zup h19 101 1 (2 : Int32)) fun h20 => (f_X12_init_t100_L zN (0 : Int32) h20)))))))))))))))))))))
set_option maxHeartbeats 8000000 in
set_option maxRecDepth 100000 in
theorem c_X12_init_t100 (l : Launch) (G : zG) (h : zH) (q : Int32 × zH) (hthis : 100 ∈ znm G) (hfr : ∀ d ∈ ([101, 102, 103, 104, 105, 106, 107, 108, 109, 110, 111, 112, 113, 114, 115, 116, 117] : List Nat), d ∉ znm G) (hz : ∀ d ∈ ([100, 101, 102, 103, 104, 105, 106, 107, 108, 109, 110, 111, 112, 113, 114, 115, 116, 117] : List Nat), ∀ k, zlk G d k = false) (hx : ∀ q ∈ ([] : List (Nat × Nat)), zlk G q.1 q.2 = false) (hf : f_X12_init_t100 h = some q) : zCtC l yX12_init cX12_init 2 2 17 12918 [.ref (zal G 100)] G h [101, 102, 103, 104, 105, 106, 107, 108, 109, 110, 111, 112, 113, 114, 115, 116, 117] [(100, 0), (100, 1), (100, 2), (100, 3), (100, 6), (100, 7), (100, 8), (100, 9), (100, 10), (100, 27), (100, 28), (100, 29), (100, 30), (100, 33), (100, 34), (100, 36), (100, 37)] q.2 := by
  refine zMetC (by decide) rfl (Nat.le_of_ble_eq_true rfl) ?_
  intro p e s m below meth c ls C0 hin hl hS
  have hl : lv_has ls 2 [(0, .ref (zal G 100))] := hl
  have C0 : zC G p s m [.ref (zal G 100)].toArray meth c cX12_init 2 RX12 none := C0
  obtain ⟨qs, hS⟩ : ∃ qs, zS (zext G [] [] qs) h s.heap s.heap [] := ⟨_, hS⟩
  have C := zC_ext [] [] qs C0
  unfold f_X12_init_t100 at hf
  refine lv_aload_n C.1 C.2.1 dX12_init_0 rfl (lv_at hl 0 rfl) ?_
  refine zobj C kw_1132 (Nat.le_of_ble_eq_true rfl) hl.1 ⟨Nat.le_of_ble_eq_true rfl, Nat.le_of_ble_eq_true rfl⟩ dX12_init_1 ?_
  refine lv_aload_n C.1 C.2.1 dX12_init_4 rfl (lv_at hl 0 rfl) ?_
  refine lv_sipush (v := (2220 : Int32)) C.1 C.2.1 dX12_init_5 rfl ?_
  refine znewa (d := 101) C hS (zfresh (hfr 101 (by decide)) (by decide)) (zun1 (by decide) (zlk_f (hz 100 (by decide) 0) (by decide))) sh_101 (by decide) rfl (by decide) (Nat.le_of_ble_eq_true rfl) (Nat.le_of_ble_eq_true rfl) dX12_init_8 (fun q101 H hS => ?_)
  obtain ⟨h1, eh1, hf⟩ := zst_some hf
  rw [← eh1] at hS
  refine zputL (ty := .array .int) (zC_ext _ _ _ C) hS ff_X12_7_100 (zfinL sh_100 rfl ⟨rfl, rfl, by decide +kernel⟩) hin (fun x => ⟨rfl, rfl⟩) (zmem_o (zmem_o hthis)) rfl rfl dX12_init_10 (fun H locs hS => ?_)
  rw [zext_zext, zext_zext] at hS
  obtain ⟨qs, hS⟩ : ∃ qs, zS (zext G [101] [(100, 0)] qs) h1 s.heap H locs := ⟨_, hS⟩
  have C := zC_ext [101] [(100, 0)] qs C0
  refine lv_aload_n C.1 C.2.1 dX12_init_13 rfl (lv_at hl 0 rfl) ?_
  refine lv_sipush (v := (2220 : Int32)) C.1 C.2.1 dX12_init_14 rfl ?_
  refine znewa (d := 102) C hS (zfresh (hfr 102 (by decide)) (by decide)) (zun1 (by decide) (zlk_f (hz 100 (by decide) 1) (by decide))) sh_102 (by decide) rfl (by decide) (Nat.le_of_ble_eq_true rfl) (Nat.le_of_ble_eq_true rfl) dX12_init_17 (fun q102 H hS => ?_)
  obtain ⟨h2, eh2, hf⟩ := zst_some hf
  rw [← eh2] at hS
  refine zputL (ty := .array .int) (zC_ext _ _ _ C) hS ff_X12_13_100 (zfinL sh_100 rfl ⟨rfl, rfl, by decide +kernel⟩) hin (fun x => ⟨rfl, rfl⟩) (zmem_o (zmem_o hthis)) rfl rfl dX12_init_19 (fun H locs hS => ?_)
  rw [zext_zext, zext_zext] at hS
  obtain ⟨qs, hS⟩ : ∃ qs, zS (zext G [101, 102] [(100, 0), (100, 1)] qs) h2 s.heap H locs := ⟨_, hS⟩
  have C := zC_ext [101, 102] [(100, 0), (100, 1)] qs C0
  refine lv_aload_n C.1 C.2.1 dX12_init_22 rfl (lv_at hl 0 rfl) ?_
  refine lv_sipush (v := (3150 : Int32)) C.1 C.2.1 dX12_init_23 rfl ?_
  refine znewa (d := 103) C hS (zfresh (hfr 103 (by decide)) (by decide)) (zun1 (by decide) (zlk_f (hz 100 (by decide) 2) (by decide))) sh_103 (by decide) rfl (by decide) (Nat.le_of_ble_eq_true rfl) (Nat.le_of_ble_eq_true rfl) dX12_init_26 (fun q103 H hS => ?_)
  obtain ⟨h3, eh3, hf⟩ := zst_some hf
  rw [← eh3] at hS
  refine zputL (ty := .array .int) (zC_ext _ _ _ C) hS ff_X12_16_100 (zfinL sh_100 rfl ⟨rfl, rfl, by decide +kernel⟩) hin (fun x => ⟨rfl, rfl⟩) (zmem_o (zmem_o hthis)) rfl rfl dX12_init_28 (fun H locs hS => ?_)
  rw [zext_zext, zext_zext] at hS
  obtain ⟨qs, hS⟩ : ∃ qs, zS (zext G [101, 102, 103] [(100, 0), (100, 1), (100, 2)] qs) h3 s.heap H locs := ⟨_, hS⟩
  have C := zC_ext [101, 102, 103] [(100, 0), (100, 1), (100, 2)] qs C0
  refine lv_aload_n C.1 C.2.1 dX12_init_31 rfl (lv_at hl 0 rfl) ?_
  refine lv_sipush (v := (512 : Int32)) C.1 C.2.1 dX12_init_32 rfl ?_
  refine znewa (d := 104) C hS (zfresh (hfr 104 (by decide)) (by decide)) (zun1 (by decide) (zlk_f (hz 100 (by decide) 3) (by decide))) sh_104 (by decide) rfl (by decide) (Nat.le_of_ble_eq_true rfl) (Nat.le_of_ble_eq_true rfl) dX12_init_35 (fun q104 H hS => ?_)
  obtain ⟨h4, eh4, hf⟩ := zst_some hf
  rw [← eh4] at hS
  refine zputL (ty := .array .int) (zC_ext _ _ _ C) hS ff_X12_19_100 (zfinL sh_100 rfl ⟨rfl, rfl, by decide +kernel⟩) hin (fun x => ⟨rfl, rfl⟩) (zmem_o (zmem_o hthis)) rfl rfl dX12_init_37 (fun H locs hS => ?_)
  rw [zext_zext, zext_zext] at hS
  obtain ⟨qs, hS⟩ : ∃ qs, zS (zext G [101, 102, 103, 104] [(100, 0), (100, 1), (100, 2), (100, 3)] qs) h4 s.heap H locs := ⟨_, hS⟩
  have C := zC_ext [101, 102, 103, 104] [(100, 0), (100, 1), (100, 2), (100, 3)] qs C0
  refine lv_aload_n C.1 C.2.1 dX12_init_40 rfl (lv_at hl 0 rfl) ?_
  refine lv_bipush (v := (48 : Int32)) C.1 C.2.1 dX12_init_41 rfl ?_
  refine znewa (d := 105) C hS (zfresh (hfr 105 (by decide)) (by decide)) (zun1 (by decide) (zlk_f (hz 100 (by decide) 6) (by decide))) sh_105 (by decide) rfl (by decide) (Nat.le_of_ble_eq_true rfl) (Nat.le_of_ble_eq_true rfl) dX12_init_43 (fun q105 H hS => ?_)
  obtain ⟨h5, eh5, hf⟩ := zst_some hf
  rw [← eh5] at hS
  refine zputL (ty := .array .int) (zC_ext _ _ _ C) hS ff_X12_22_100 (zfinL sh_100 rfl ⟨rfl, rfl, by decide +kernel⟩) hin (fun x => ⟨rfl, rfl⟩) (zmem_o (zmem_o hthis)) rfl rfl dX12_init_45 (fun H locs hS => ?_)
  rw [zext_zext, zext_zext] at hS
  obtain ⟨qs, hS⟩ : ∃ qs, zS (zext G [101, 102, 103, 104, 105] [(100, 0), (100, 1), (100, 2), (100, 3), (100, 6)] qs) h5 s.heap H locs := ⟨_, hS⟩
  have C := zC_ext [101, 102, 103, 104, 105] [(100, 0), (100, 1), (100, 2), (100, 3), (100, 6)] qs C0
  refine lv_aload_n C.1 C.2.1 dX12_init_48 rfl (lv_at hl 0 rfl) ?_
  refine lv_sipush (v := (820 : Int32)) C.1 C.2.1 dX12_init_49 rfl ?_
  refine znewa (d := 106) C hS (zfresh (hfr 106 (by decide)) (by decide)) (zun1 (by decide) (zlk_f (hz 100 (by decide) 7) (by decide))) sh_106 (by decide) rfl (by decide) (Nat.le_of_ble_eq_true rfl) (Nat.le_of_ble_eq_true rfl) dX12_init_52 (fun q106 H hS => ?_)
  obtain ⟨h6, eh6, hf⟩ := zst_some hf
  rw [← eh6] at hS
  refine zputL (ty := .array .int) (zC_ext _ _ _ C) hS ff_X12_25_100 (zfinL sh_100 rfl ⟨rfl, rfl, by decide +kernel⟩) hin (fun x => ⟨rfl, rfl⟩) (zmem_o (zmem_o hthis)) rfl rfl dX12_init_54 (fun H locs hS => ?_)
  rw [zext_zext, zext_zext] at hS
  obtain ⟨qs, hS⟩ : ∃ qs, zS (zext G [101, 102, 103, 104, 105, 106] [(100, 0), (100, 1), (100, 2), (100, 3), (100, 6), (100, 7)] qs) h6 s.heap H locs := ⟨_, hS⟩
  have C := zC_ext [101, 102, 103, 104, 105, 106] [(100, 0), (100, 1), (100, 2), (100, 3), (100, 6), (100, 7)] qs C0
  refine lv_aload_n C.1 C.2.1 dX12_init_57 rfl (lv_at hl 0 rfl) ?_
  refine lv_sipush (v := (400 : Int32)) C.1 C.2.1 dX12_init_58 rfl ?_
  refine znewa (d := 107) C hS (zfresh (hfr 107 (by decide)) (by decide)) (zun1 (by decide) (zlk_f (hz 100 (by decide) 8) (by decide))) sh_107 (by decide) rfl (by decide) (Nat.le_of_ble_eq_true rfl) (Nat.le_of_ble_eq_true rfl) dX12_init_61 (fun q107 H hS => ?_)
  obtain ⟨h7, eh7, hf⟩ := zst_some hf
  rw [← eh7] at hS
  refine zputL (ty := .array .int) (zC_ext _ _ _ C) hS ff_X12_28_100 (zfinL sh_100 rfl ⟨rfl, rfl, by decide +kernel⟩) hin (fun x => ⟨rfl, rfl⟩) (zmem_o (zmem_o hthis)) rfl rfl dX12_init_63 (fun H locs hS => ?_)
  rw [zext_zext, zext_zext] at hS
  obtain ⟨qs, hS⟩ : ∃ qs, zS (zext G [101, 102, 103, 104, 105, 106, 107] [(100, 0), (100, 1), (100, 2), (100, 3), (100, 6), (100, 7), (100, 8)] qs) h7 s.heap H locs := ⟨_, hS⟩
  have C := zC_ext [101, 102, 103, 104, 105, 106, 107] [(100, 0), (100, 1), (100, 2), (100, 3), (100, 6), (100, 7), (100, 8)] qs C0
  refine lv_aload_n C.1 C.2.1 dX12_init_66 rfl (lv_at hl 0 rfl) ?_
  refine lv_sipush (v := (420 : Int32)) C.1 C.2.1 dX12_init_67 rfl ?_
  refine znewa (d := 108) C hS (zfresh (hfr 108 (by decide)) (by decide)) (zun1 (by decide) (zlk_f (hz 100 (by decide) 9) (by decide))) sh_108 (by decide) rfl (by decide) (Nat.le_of_ble_eq_true rfl) (Nat.le_of_ble_eq_true rfl) dX12_init_70 (fun q108 H hS => ?_)
  obtain ⟨h8, eh8, hf⟩ := zst_some hf
  rw [← eh8] at hS
  refine zputL (ty := .array .int) (zC_ext _ _ _ C) hS ff_X12_31_100 (zfinL sh_100 rfl ⟨rfl, rfl, by decide +kernel⟩) hin (fun x => ⟨rfl, rfl⟩) (zmem_o (zmem_o hthis)) rfl rfl dX12_init_72 (fun H locs hS => ?_)
  rw [zext_zext, zext_zext] at hS
  obtain ⟨qs, hS⟩ : ∃ qs, zS (zext G [101, 102, 103, 104, 105, 106, 107, 108] [(100, 0), (100, 1), (100, 2), (100, 3), (100, 6), (100, 7), (100, 8), (100, 9)] qs) h8 s.heap H locs := ⟨_, hS⟩
  have C := zC_ext [101, 102, 103, 104, 105, 106, 107, 108] [(100, 0), (100, 1), (100, 2), (100, 3), (100, 6), (100, 7), (100, 8), (100, 9)] qs C0
  refine lv_aload_n C.1 C.2.1 dX12_init_75 rfl (lv_at hl 0 rfl) ?_
  refine lv_bipush (v := (8 : Int32)) C.1 C.2.1 dX12_init_76 rfl ?_
  refine znewa (d := 109) C hS (zfresh (hfr 109 (by decide)) (by decide)) (zun1 (by decide) (zlk_f (hz 100 (by decide) 10) (by decide))) sh_109 (by decide) rfl (by decide) (Nat.le_of_ble_eq_true rfl) (Nat.le_of_ble_eq_true rfl) dX12_init_78 (fun q109 H hS => ?_)
  obtain ⟨h9, eh9, hf⟩ := zst_some hf
  rw [← eh9] at hS
  refine zputL (ty := .array .int) (zC_ext _ _ _ C) hS ff_X12_34_100 (zfinL sh_100 rfl ⟨rfl, rfl, by decide +kernel⟩) hin (fun x => ⟨rfl, rfl⟩) (zmem_o (zmem_o hthis)) rfl rfl dX12_init_80 (fun H locs hS => ?_)
  rw [zext_zext, zext_zext] at hS
  obtain ⟨qs, hS⟩ : ∃ qs, zS (zext G [101, 102, 103, 104, 105, 106, 107, 108, 109] [(100, 0), (100, 1), (100, 2), (100, 3), (100, 6), (100, 7), (100, 8), (100, 9), (100, 10)] qs) h9 s.heap H locs := ⟨_, hS⟩
  have C := zC_ext [101, 102, 103, 104, 105, 106, 107, 108, 109] [(100, 0), (100, 1), (100, 2), (100, 3), (100, 6), (100, 7), (100, 8), (100, 9), (100, 10)] qs C0
  refine lv_aload_n C.1 C.2.1 dX12_init_83 rfl (lv_at hl 0 rfl) ?_
  refine lv_iconst (v := (-1 : Int32)) C.1 C.2.1 dX12_init_84 rfl ?_
  refine zputIA C hS ff_X12_37_100 fw_100_22 (zmem_o hthis) rfl dX12_init_85 (fun H locs hS => ?_)
  obtain ⟨h10, eh10, hf⟩ := zst_some hf
  have hS : zS (zext G [101, 102, 103, 104, 105, 106, 107, 108, 109] [(100, 0), (100, 1), (100, 2), (100, 3), (100, 6), (100, 7), (100, 8), (100, 9), (100, 10)] qs) h10 s.heap H locs := by rw [eh10]; exact hS
  refine lv_aload_n C.1 C.2.1 dX12_init_88 rfl (lv_at hl 0 rfl) ?_
  refine lv_bipush (v := (16 : Int32)) C.1 C.2.1 dX12_init_89 rfl ?_
  refine znewa (d := 110) C hS (zfresh (hfr 110 (by decide)) (by decide)) (zun1 (by decide) (zlk_f (hz 100 (by decide) 27) (by decide))) sh_110 (by decide) rfl (by decide) (Nat.le_of_ble_eq_true rfl) (Nat.le_of_ble_eq_true rfl) dX12_init_91 (fun q110 H hS => ?_)
  obtain ⟨h11, eh11, hf⟩ := zst_some hf
  rw [← eh11] at hS
  refine zputL (ty := .array .int) (zC_ext _ _ _ C) hS ff_X12_41_100 (zfinL sh_100 rfl ⟨rfl, rfl, by decide +kernel⟩) hin (fun x => ⟨rfl, rfl⟩) (zmem_o (zmem_o hthis)) rfl rfl dX12_init_93 (fun H locs hS => ?_)
  rw [zext_zext, zext_zext] at hS
  obtain ⟨qs, hS⟩ : ∃ qs, zS (zext G [101, 102, 103, 104, 105, 106, 107, 108, 109, 110] [(100, 0), (100, 1), (100, 2), (100, 3), (100, 6), (100, 7), (100, 8), (100, 9), (100, 10), (100, 27)] qs) h11 s.heap H locs := ⟨_, hS⟩
  have C := zC_ext [101, 102, 103, 104, 105, 106, 107, 108, 109, 110] [(100, 0), (100, 1), (100, 2), (100, 3), (100, 6), (100, 7), (100, 8), (100, 9), (100, 10), (100, 27)] qs C0
  refine lv_aload_n C.1 C.2.1 dX12_init_96 rfl (lv_at hl 0 rfl) ?_
  refine lv_bipush (v := (16 : Int32)) C.1 C.2.1 dX12_init_97 rfl ?_
  refine znewa (d := 111) C hS (zfresh (hfr 111 (by decide)) (by decide)) (zun1 (by decide) (zlk_f (hz 100 (by decide) 28) (by decide))) sh_111 (by decide) rfl (by decide) (Nat.le_of_ble_eq_true rfl) (Nat.le_of_ble_eq_true rfl) dX12_init_99 (fun q111 H hS => ?_)
  obtain ⟨h12, eh12, hf⟩ := zst_some hf
  rw [← eh12] at hS
  refine zputL (ty := .array .int) (zC_ext _ _ _ C) hS ff_X12_44_100 (zfinL sh_100 rfl ⟨rfl, rfl, by decide +kernel⟩) hin (fun x => ⟨rfl, rfl⟩) (zmem_o (zmem_o hthis)) rfl rfl dX12_init_101 (fun H locs hS => ?_)
  rw [zext_zext, zext_zext] at hS
  obtain ⟨qs, hS⟩ : ∃ qs, zS (zext G [101, 102, 103, 104, 105, 106, 107, 108, 109, 110, 111] [(100, 0), (100, 1), (100, 2), (100, 3), (100, 6), (100, 7), (100, 8), (100, 9), (100, 10), (100, 27), (100, 28)] qs) h12 s.heap H locs := ⟨_, hS⟩
  have C := zC_ext [101, 102, 103, 104, 105, 106, 107, 108, 109, 110, 111] [(100, 0), (100, 1), (100, 2), (100, 3), (100, 6), (100, 7), (100, 8), (100, 9), (100, 10), (100, 27), (100, 28)] qs C0
  refine lv_aload_n C.1 C.2.1 dX12_init_104 rfl (lv_at hl 0 rfl) ?_
  refine lv_sipush (v := (2304 : Int32)) C.1 C.2.1 dX12_init_105 rfl ?_
  refine znewa (d := 112) C hS (zfresh (hfr 112 (by decide)) (by decide)) (zun1 (by decide) (zlk_f (hz 100 (by decide) 29) (by decide))) sh_112 (by decide) rfl (by decide) (Nat.le_of_ble_eq_true rfl) (Nat.le_of_ble_eq_true rfl) dX12_init_108 (fun q112 H hS => ?_)
  obtain ⟨h13, eh13, hf⟩ := zst_some hf
  rw [← eh13] at hS
  refine zputL (ty := .array .int) (zC_ext _ _ _ C) hS ff_X12_47_100 (zfinL sh_100 rfl ⟨rfl, rfl, by decide +kernel⟩) hin (fun x => ⟨rfl, rfl⟩) (zmem_o (zmem_o hthis)) rfl rfl dX12_init_110 (fun H locs hS => ?_)
  rw [zext_zext, zext_zext] at hS
  obtain ⟨qs, hS⟩ : ∃ qs, zS (zext G [101, 102, 103, 104, 105, 106, 107, 108, 109, 110, 111, 112] [(100, 0), (100, 1), (100, 2), (100, 3), (100, 6), (100, 7), (100, 8), (100, 9), (100, 10), (100, 27), (100, 28), (100, 29)] qs) h13 s.heap H locs := ⟨_, hS⟩
  have C := zC_ext [101, 102, 103, 104, 105, 106, 107, 108, 109, 110, 111, 112] [(100, 0), (100, 1), (100, 2), (100, 3), (100, 6), (100, 7), (100, 8), (100, 9), (100, 10), (100, 27), (100, 28), (100, 29)] qs C0
  refine lv_aload_n C.1 C.2.1 dX12_init_113 rfl (lv_at hl 0 rfl) ?_
  refine lv_bipush (v := (16 : Int32)) C.1 C.2.1 dX12_init_114 rfl ?_
  refine znewa (d := 113) C hS (zfresh (hfr 113 (by decide)) (by decide)) (zun1 (by decide) (zlk_f (hz 100 (by decide) 30) (by decide))) sh_113 (by decide) rfl (by decide) (Nat.le_of_ble_eq_true rfl) (Nat.le_of_ble_eq_true rfl) dX12_init_116 (fun q113 H hS => ?_)
  obtain ⟨h14, eh14, hf⟩ := zst_some hf
  rw [← eh14] at hS
  refine zputL (ty := .array .int) (zC_ext _ _ _ C) hS ff_X12_50_100 (zfinL sh_100 rfl ⟨rfl, rfl, by decide +kernel⟩) hin (fun x => ⟨rfl, rfl⟩) (zmem_o (zmem_o hthis)) rfl rfl dX12_init_118 (fun H locs hS => ?_)
  rw [zext_zext, zext_zext] at hS
  obtain ⟨qs, hS⟩ : ∃ qs, zS (zext G [101, 102, 103, 104, 105, 106, 107, 108, 109, 110, 111, 112, 113] [(100, 0), (100, 1), (100, 2), (100, 3), (100, 6), (100, 7), (100, 8), (100, 9), (100, 10), (100, 27), (100, 28), (100, 29), (100, 30)] qs) h14 s.heap H locs := ⟨_, hS⟩
  have C := zC_ext [101, 102, 103, 104, 105, 106, 107, 108, 109, 110, 111, 112, 113] [(100, 0), (100, 1), (100, 2), (100, 3), (100, 6), (100, 7), (100, 8), (100, 9), (100, 10), (100, 27), (100, 28), (100, 29), (100, 30)] qs C0
  refine lv_aload_n C.1 C.2.1 dX12_init_121 rfl (lv_at hl 0 rfl) ?_
  refine lv_bipush (v := (8 : Int32)) C.1 C.2.1 dX12_init_122 rfl ?_
  refine znewa (d := 114) C hS (zfresh (hfr 114 (by decide)) (by decide)) (zun1 (by decide) (zlk_f (hz 100 (by decide) 33) (by decide))) sh_114 (by decide) rfl (by decide) (Nat.le_of_ble_eq_true rfl) (Nat.le_of_ble_eq_true rfl) dX12_init_124 (fun q114 H hS => ?_)
  obtain ⟨h15, eh15, hf⟩ := zst_some hf
  rw [← eh15] at hS
  refine zputL (ty := .array .int) (zC_ext _ _ _ C) hS ff_X12_53_100 (zfinL sh_100 rfl ⟨rfl, rfl, by decide +kernel⟩) hin (fun x => ⟨rfl, rfl⟩) (zmem_o (zmem_o hthis)) rfl rfl dX12_init_126 (fun H locs hS => ?_)
  rw [zext_zext, zext_zext] at hS
  obtain ⟨qs, hS⟩ : ∃ qs, zS (zext G [101, 102, 103, 104, 105, 106, 107, 108, 109, 110, 111, 112, 113, 114] [(100, 0), (100, 1), (100, 2), (100, 3), (100, 6), (100, 7), (100, 8), (100, 9), (100, 10), (100, 27), (100, 28), (100, 29), (100, 30), (100, 33)] qs) h15 s.heap H locs := ⟨_, hS⟩
  have C := zC_ext [101, 102, 103, 104, 105, 106, 107, 108, 109, 110, 111, 112, 113, 114] [(100, 0), (100, 1), (100, 2), (100, 3), (100, 6), (100, 7), (100, 8), (100, 9), (100, 10), (100, 27), (100, 28), (100, 29), (100, 30), (100, 33)] qs C0
  refine lv_aload_n C.1 C.2.1 dX12_init_129 rfl (lv_at hl 0 rfl) ?_
  refine lv_bipush (v := (8 : Int32)) C.1 C.2.1 dX12_init_130 rfl ?_
  refine znewa (d := 115) C hS (zfresh (hfr 115 (by decide)) (by decide)) (zun1 (by decide) (zlk_f (hz 100 (by decide) 34) (by decide))) sh_115 (by decide) rfl (by decide) (Nat.le_of_ble_eq_true rfl) (Nat.le_of_ble_eq_true rfl) dX12_init_132 (fun q115 H hS => ?_)
  obtain ⟨h16, eh16, hf⟩ := zst_some hf
  rw [← eh16] at hS
  refine zputL (ty := .array .int) (zC_ext _ _ _ C) hS ff_X12_56_100 (zfinL sh_100 rfl ⟨rfl, rfl, by decide +kernel⟩) hin (fun x => ⟨rfl, rfl⟩) (zmem_o (zmem_o hthis)) rfl rfl dX12_init_134 (fun H locs hS => ?_)
  rw [zext_zext, zext_zext] at hS
  obtain ⟨qs, hS⟩ : ∃ qs, zS (zext G [101, 102, 103, 104, 105, 106, 107, 108, 109, 110, 111, 112, 113, 114, 115] [(100, 0), (100, 1), (100, 2), (100, 3), (100, 6), (100, 7), (100, 8), (100, 9), (100, 10), (100, 27), (100, 28), (100, 29), (100, 30), (100, 33), (100, 34)] qs) h16 s.heap H locs := ⟨_, hS⟩
  have C := zC_ext [101, 102, 103, 104, 105, 106, 107, 108, 109, 110, 111, 112, 113, 114, 115] [(100, 0), (100, 1), (100, 2), (100, 3), (100, 6), (100, 7), (100, 8), (100, 9), (100, 10), (100, 27), (100, 28), (100, 29), (100, 30), (100, 33), (100, 34)] qs C0
  refine lv_aload_n C.1 C.2.1 dX12_init_137 rfl (lv_at hl 0 rfl) ?_
  refine lv_sipush (v := (656 : Int32)) C.1 C.2.1 dX12_init_138 rfl ?_
  refine znewa (d := 116) C hS (zfresh (hfr 116 (by decide)) (by decide)) (zun1 (by decide) (zlk_f (hz 100 (by decide) 36) (by decide))) sh_116 (by decide) rfl (by decide) (Nat.le_of_ble_eq_true rfl) (Nat.le_of_ble_eq_true rfl) dX12_init_141 (fun q116 H hS => ?_)
  obtain ⟨h17, eh17, hf⟩ := zst_some hf
  rw [← eh17] at hS
  refine zputL (ty := .array .int) (zC_ext _ _ _ C) hS ff_X12_59_100 (zfinL sh_100 rfl ⟨rfl, rfl, by decide +kernel⟩) hin (fun x => ⟨rfl, rfl⟩) (zmem_o (zmem_o hthis)) rfl rfl dX12_init_143 (fun H locs hS => ?_)
  rw [zext_zext, zext_zext] at hS
  obtain ⟨qs, hS⟩ : ∃ qs, zS (zext G [101, 102, 103, 104, 105, 106, 107, 108, 109, 110, 111, 112, 113, 114, 115, 116] [(100, 0), (100, 1), (100, 2), (100, 3), (100, 6), (100, 7), (100, 8), (100, 9), (100, 10), (100, 27), (100, 28), (100, 29), (100, 30), (100, 33), (100, 34), (100, 36)] qs) h17 s.heap H locs := ⟨_, hS⟩
  have C := zC_ext [101, 102, 103, 104, 105, 106, 107, 108, 109, 110, 111, 112, 113, 114, 115, 116] [(100, 0), (100, 1), (100, 2), (100, 3), (100, 6), (100, 7), (100, 8), (100, 9), (100, 10), (100, 27), (100, 28), (100, 29), (100, 30), (100, 33), (100, 34), (100, 36)] qs C0
  refine lv_aload_n C.1 C.2.1 dX12_init_146 rfl (lv_at hl 0 rfl) ?_
  refine lv_bipush (v := (96 : Int32)) C.1 C.2.1 dX12_init_147 rfl ?_
  refine znewa (d := 117) C hS (zfresh (hfr 117 (by decide)) (by decide)) (zun1 (by decide) (zlk_f (hz 100 (by decide) 37) (by decide))) sh_117 (by decide) rfl (by decide) (Nat.le_of_ble_eq_true rfl) (Nat.le_of_ble_eq_true rfl) dX12_init_149 (fun q117 H hS => ?_)
  obtain ⟨h18, eh18, hf⟩ := zst_some hf
  rw [← eh18] at hS
  refine zputL (ty := .array .int) (zC_ext _ _ _ C) hS ff_X12_62_100 (zfinL sh_100 rfl ⟨rfl, rfl, by decide +kernel⟩) hin (fun x => ⟨rfl, rfl⟩) (zmem_o (zmem_o hthis)) rfl rfl dX12_init_151 (fun H locs hS => ?_)
  rw [zext_zext, zext_zext] at hS
  obtain ⟨qs, hS⟩ : ∃ qs, zS (zext G [101, 102, 103, 104, 105, 106, 107, 108, 109, 110, 111, 112, 113, 114, 115, 116, 117] [(100, 0), (100, 1), (100, 2), (100, 3), (100, 6), (100, 7), (100, 8), (100, 9), (100, 10), (100, 27), (100, 28), (100, 29), (100, 30), (100, 33), (100, 34), (100, 36), (100, 37)] qs) h18 s.heap H locs := ⟨_, hS⟩
  have C := zC_ext [101, 102, 103, 104, 105, 106, 107, 108, 109, 110, 111, 112, 113, 114, 115, 116, 117] [(100, 0), (100, 1), (100, 2), (100, 3), (100, 6), (100, 7), (100, 8), (100, 9), (100, 10), (100, 27), (100, 28), (100, 29), (100, 30), (100, 33), (100, 34), (100, 36), (100, 37)] qs C0
  refine lv_aload_n C.1 C.2.1 dX12_init_154 rfl (lv_at hl 0 rfl) ?_
  refine zgetRA C hS ff_X12_7_100 (zmem_o hthis) rfl (zlk_t (by decide)) dX12_init_155 ?_
  refine lv_iconst (v := (0 : Int32)) C.1 C.2.1 dX12_init_158 rfl ?_
  refine lv_bipush (v := (6 : Int32)) C.1 C.2.1 dX12_init_159 rfl ?_
  refine zast C hS sh_101 (zmem_n (by decide)) (vp_in_iff.mpr (by decide)) dX12_init_161 (fun H locs hS => ?_)
  obtain ⟨h19, eh19, hf⟩ := zst_some hf
  have hS : zS (zext G [101, 102, 103, 104, 105, 106, 107, 108, 109, 110, 111, 112, 113, 114, 115, 116, 117] [(100, 0), (100, 1), (100, 2), (100, 3), (100, 6), (100, 7), (100, 8), (100, 9), (100, 10), (100, 27), (100, 28), (100, 29), (100, 30), (100, 33), (100, 34), (100, 36), (100, 37)] qs) h19 s.heap H locs := by rw [eh19]; exact hS
  refine lv_aload_n C.1 C.2.1 dX12_init_162 rfl (lv_at hl 0 rfl) ?_
  refine zgetRA C hS ff_X12_7_100 (zmem_o hthis) rfl (zlk_t (by decide)) dX12_init_163 ?_
  refine lv_iconst (v := (1 : Int32)) C.1 C.2.1 dX12_init_166 rfl ?_
  refine lv_iconst (v := (2 : Int32)) C.1 C.2.1 dX12_init_167 rfl ?_
  refine zast C hS sh_101 (zmem_n (by decide)) (vp_in_iff.mpr (by decide)) dX12_init_168 (fun H locs hS => ?_)
  obtain ⟨h20, eh20, hf⟩ := zst_some hf
  have hS : zS (zext G [101, 102, 103, 104, 105, 106, 107, 108, 109, 110, 111, 112, 113, 114, 115, 116, 117] [(100, 0), (100, 1), (100, 2), (100, 3), (100, 6), (100, 7), (100, 8), (100, 9), (100, 10), (100, 27), (100, 28), (100, 29), (100, 30), (100, 33), (100, 34), (100, 36), (100, 37)] qs) h20 s.heap H locs := by rw [eh20]; exact hS
  refine lv_iconst (v := (0 : Int32)) C.1 C.2.1 dX12_init_169 rfl ?_
  refine lv_istore_n (lv' := [(1, .int (0 : Int32)), (0, .ref (zal G 100))]) C.1 C.2.1 dX12_init_170 rfl hl (by decide) rfl (fun ls hl => ?_)
  refine W.widen (k := 17) (n := 12918) (Nat.le_of_ble_eq_true rfl) (Nat.le_of_ble_eq_true rfl) ?_
  have loop : ∀ (n : Nat) (ls : Array Slot) (H : Heap) (locs : List Loc) (h : zH) (x1 : Int32), lv_has ls 2 [(1, .int x1), (0, .ref (zal G 100))] → zS (zext G [101, 102, 103, 104, 105, 106, 107, 108, 109, 110, 111, 112, 113, 114, 115, 116, 117] [(100, 0), (100, 1), (100, 2), (100, 3), (100, 6), (100, 7), (100, 8), (100, 9), (100, 10), (100, 27), (100, 28), (100, 29), (100, 30), (100, 33), (100, 34), (100, 36), (100, 37)] qs) h s.heap H locs → f_X12_init_t100_L n x1 h = some q → W p l e (zrmC 2 17 12918) s m [.ref (zal G 100)].toArray below meth c H locs 17 12918 (MQ below (zQC G [101, 102, 103, 104, 105, 106, 107, 108, 109, 110, 111, 112, 113, 114, 115, 116, 117] [(100, 0), (100, 1), (100, 2), (100, 3), (100, 6), (100, 7), (100, 8), (100, 9), (100, 10), (100, 27), (100, 28), (100, 29), (100, 30), (100, 33), (100, 34), (100, 36), (100, 37)] q.2) [.ref (zal G 100)].toArray s 17 12918 (zA G)) (F0 m 171 ls []) := by
    clear hl hS hf
    intro n
    induction n with
    | zero => intro ls H locs h x1 hl hS hf; cases hf
    | succ n ih =>
      intro ls H locs h x1 hl hS hf
      rw [f_X12_init_t100_L] at hf
      refine lv_iload_n C.1 C.2.1 dX12_init_171 rfl (lv_at hl 0 rfl) ?_
      refine lv_sipush (v := (256 : Int32)) C.1 C.2.1 dX12_init_172 rfl ?_
      refine lv_icmp_ge (tgt := 195) C.1 C.2.1 dX12_init_175 (by decide) (fun hc => ?_) (fun hc => ?_)
      · have hf := zif_t hc hf
        exact zretC C0 hS hf dX12_init_195
      · have hf := zif_f hc hf
        refine lv_aload_n C.1 C.2.1 dX12_init_178 rfl (lv_at hl 1 rfl) ?_
        refine zgetRA C hS ff_X12_7_100 (zmem_o hthis) rfl (zlk_t (by decide)) dX12_init_179 ?_
        refine lv_sipush (v := (466 : Int32)) C.1 C.2.1 dX12_init_182 rfl ?_
        refine lv_iload_n C.1 C.2.1 dX12_init_185 rfl (lv_at hl 0 rfl) ?_
        refine lv_iadd C.1 C.2.1 dX12_init_186 ?_
        refine lv_iconst (v := (-1 : Int32)) C.1 C.2.1 dX12_init_187 rfl ?_
        obtain ⟨hi, hf⟩ := zck_some hf
        refine zast C hS sh_101 (zmem_n (by decide)) hi dX12_init_188 (fun H locs hS => ?_)
        obtain ⟨h1, eh1, hf⟩ := zst_some hf
        have hS : zS (zext G [101, 102, 103, 104, 105, 106, 107, 108, 109, 110, 111, 112, 113, 114, 115, 116, 117] [(100, 0), (100, 1), (100, 2), (100, 3), (100, 6), (100, 7), (100, 8), (100, 9), (100, 10), (100, 27), (100, 28), (100, 29), (100, 30), (100, 33), (100, 34), (100, 36), (100, 37)] qs) h1 s.heap H locs := by rw [eh1]; exact hS
        obtain ⟨y1, ey1, hf⟩ := zlt_some hf
        refine lv_iinc (v := y1) (lv' := [(1, .int y1), (0, .ref (zal G 100))]) C.1 C.2.1 dX12_init_189 hl (k := 0) rfl ey1.symm (by decide) rfl (fun ls hl => ?_)
        refine lv_goto (tgt := 171) C.1 C.2.1 dX12_init_192 (by decide) ?_
        exact ih _ _ _ _ _ hl hS hf
  exact loop zN _ _ _ _ _ hl hS hf
end
