theorem kw_1555 : Cond.code yX12_laysSeats cX12_laysSeats 2 none ∈ zg := zg_of (List.mem_of_getElem? (i := 1555) (by decide +kernel)) (by decide +kernel)
theorem kw_1552 : Cond.methodLink RX12 323 yX12_laysSeats ∈ zg := zg_of (List.mem_of_getElem? (i := 1552) (by decide +kernel)) (by decide +kernel)
theorem kw_1554 : Cond.instanceMethod yX12_laysSeats ∈ zg := zg_of (List.mem_of_getElem? (i := 1554) (by decide +kernel)) (by decide +kernel)
theorem kw_74 : Cond.selects RX12 yX12_laysSeats yX12_laysSeats ∈ zg := zg_of (List.mem_of_getElem? (i := 74) (by decide +kernel)) (by decide +kernel)
theorem mv_X12_323 : zMV RX12 323 yX12_laysSeats cX12_laysSeats 2 none 0 := ⟨⟨kw_1552, kw_1554, kw_74, kw_93, kw_1555⟩, ⟨by decide, by decide, by decide +kernel⟩, by decide⟩
theorem kw_1166 : Cond.fieldLink RX12 53 "HalfAJokeModel" "seats" "[I" ∈ zg := zg_of (List.mem_of_getElem? (i := 1166) (by decide +kernel)) (by decide +kernel)
theorem ff_X12_53_100 : zFc RX12 53 100 33 (some (114, false)) := ⟨_, _, _, tyX12, sh_100, rfl, by decide, iz_X12, kw_1166, rfl, tyX12_ok, nmX12⟩
theorem kw_1563 : Cond.code yX12_backToSeats cX12_backToSeats 2 none ∈ zg := zg_of (List.mem_of_getElem? (i := 1563) (by decide +kernel)) (by decide +kernel)
theorem kw_1560 : Cond.methodLink RX12 326 yX12_backToSeats ∈ zg := zg_of (List.mem_of_getElem? (i := 1560) (by decide +kernel)) (by decide +kernel)
theorem kw_1562 : Cond.instanceMethod yX12_backToSeats ∈ zg := zg_of (List.mem_of_getElem? (i := 1562) (by decide +kernel)) (by decide +kernel)
theorem kw_76 : Cond.selects RX12 yX12_backToSeats yX12_backToSeats ∈ zg := zg_of (List.mem_of_getElem? (i := 76) (by decide +kernel)) (by decide +kernel)
theorem mv_X12_326 : zMV RX12 326 yX12_backToSeats cX12_backToSeats 2 none 0 := ⟨⟨kw_1560, kw_1562, kw_76, kw_93, kw_1563⟩, ⟨by decide, by decide, by decide +kernel⟩, by decide⟩
theorem kw_1607 : Cond.code yX12_laysQuarters cX12_laysQuarters 3 none ∈ zg := zg_of (List.mem_of_getElem? (i := 1607) (by decide +kernel)) (by decide +kernel)
theorem kw_1604 : Cond.methodLink RX12 341 yX12_laysQuarters ∈ zg := zg_of (List.mem_of_getElem? (i := 1604) (by decide +kernel)) (by decide +kernel)
theorem kw_1606 : Cond.instanceMethod yX12_laysQuarters ∈ zg := zg_of (List.mem_of_getElem? (i := 1606) (by decide +kernel)) (by decide +kernel)
theorem kw_81 : Cond.selects RX12 yX12_laysQuarters yX12_laysQuarters ∈ zg := zg_of (List.mem_of_getElem? (i := 81) (by decide +kernel)) (by decide +kernel)
theorem mv_X12_341 : zMV RX12 341 yX12_laysQuarters cX12_laysQuarters 3 none 0 := ⟨⟨kw_1604, kw_1606, kw_81, kw_93, kw_1607⟩, ⟨by decide, by decide, by decide +kernel⟩, by decide⟩
theorem kw_1170 : Cond.fieldLink RX12 62 "HalfAJokeModel" "hadQuarters" "[I" ∈ zg := zg_of (List.mem_of_getElem? (i := 1170) (by decide +kernel)) (by decide +kernel)
theorem ff_X12_62_100 : zFc RX12 62 100 37 (some (117, false)) := ⟨_, _, _, tyX12, sh_100, rfl, by decide, iz_X12, kw_1170, rfl, tyX12_ok, nmX12⟩
theorem kw_1611 : Cond.code yX12_putsQuarters cX12_putsQuarters 3 none ∈ zg := zg_of (List.mem_of_getElem? (i := 1611) (by decide +kernel)) (by decide +kernel)
theorem kw_1608 : Cond.methodLink RX12 344 yX12_putsQuarters ∈ zg := zg_of (List.mem_of_getElem? (i := 1608) (by decide +kernel)) (by decide +kernel)
theorem kw_1610 : Cond.instanceMethod yX12_putsQuarters ∈ zg := zg_of (List.mem_of_getElem? (i := 1610) (by decide +kernel)) (by decide +kernel)
theorem kw_82 : Cond.selects RX12 yX12_putsQuarters yX12_putsQuarters ∈ zg := zg_of (List.mem_of_getElem? (i := 82) (by decide +kernel)) (by decide +kernel)
theorem mv_X12_344 : zMV RX12 344 yX12_putsQuarters cX12_putsQuarters 3 none 0 := ⟨⟨kw_1608, kw_1610, kw_82, kw_93, kw_1611⟩, ⟨by decide, by decide, by decide +kernel⟩, by decide⟩
theorem kw_1539 : Cond.code yX12_sorts cX12_sorts 2 none ∈ zg := zg_of (List.mem_of_getElem? (i := 1539) (by decide +kernel)) (by decide +kernel)
theorem kw_1536 : Cond.methodLink RX12 311 yX12_sorts ∈ zg := zg_of (List.mem_of_getElem? (i := 1536) (by decide +kernel)) (by decide +kernel)
theorem kw_1538 : Cond.instanceMethod yX12_sorts ∈ zg := zg_of (List.mem_of_getElem? (i := 1538) (by decide +kernel)) (by decide +kernel)
theorem kw_71 : Cond.selects RX12 yX12_sorts yX12_sorts ∈ zg := zg_of (List.mem_of_getElem? (i := 71) (by decide +kernel)) (by decide +kernel)
theorem mv_X12_311 : zMV RX12 311 yX12_sorts cX12_sorts 2 none 0 := ⟨⟨kw_1536, kw_1538, kw_71, kw_93, kw_1539⟩, ⟨by decide, by decide, by decide +kernel⟩, by decide⟩
theorem kw_1164 : Cond.fieldLink RX12 302 "HalfAJokeModel" "frontMany" "I" ∈ zg := zg_of (List.mem_of_getElem? (i := 1164) (by decide +kernel)) (by decide +kernel)
theorem ff_X12_302_100 : zFc RX12 302 100 31 none := ⟨_, _, _, tyX12, sh_100, rfl, by decide, iz_X12, kw_1164, rfl, tyX12_ok, nmX12⟩
theorem fw_100_31 : ∀ q : vw_C, ∀ ci fl, zsh 100 = .inr (ci, fl) → zcl[ci]? = some q → (q.2.1 31).2.2.2 = false ∧ (q.2.1 31).2.2.1 = "I" := zfin sh_100 rfl ⟨rfl, rfl⟩
theorem kw_1165 : Cond.fieldLink RX12 305 "HalfAJokeModel" "endMany" "I" ∈ zg := zg_of (List.mem_of_getElem? (i := 1165) (by decide +kernel)) (by decide +kernel)
theorem ff_X12_305_100 : zFc RX12 305 100 32 none := ⟨_, _, _, tyX12, sh_100, rfl, by decide, iz_X12, kw_1165, rfl, tyX12_ok, nmX12⟩
theorem fw_100_32 : ∀ q : vw_C, ∀ ci fl, zsh 100 = .inr (ci, fl) → zcl[ci]? = some q → (q.2.1 32).2.2.2 = false ∧ (q.2.1 32).2.2.1 = "I" := zfin sh_100 rfl ⟨rfl, rfl⟩
theorem kw_1161 : Cond.fieldLink RX12 44 "HalfAJokeModel" "ends" "[I" ∈ zg := zg_of (List.mem_of_getElem? (i := 1161) (by decide +kernel)) (by decide +kernel)
theorem ff_X12_44_100 : zFc RX12 44 100 28 (some (111, false)) := ⟨_, _, _, tyX12, sh_100, rfl, by decide, iz_X12, kw_1161, rfl, tyX12_ok, nmX12⟩
theorem kw_1160 : Cond.fieldLink RX12 41 "HalfAJokeModel" "fronts" "[I" ∈ zg := zg_of (List.mem_of_getElem? (i := 1160) (by decide +kernel)) (by decide +kernel)
theorem ff_X12_41_100 : zFc RX12 41 100 27 (some (110, false)) := ⟨_, _, _, tyX12, sh_100, rfl, by decide, iz_X12, kw_1160, rfl, tyX12_ok, nmX12⟩
theorem kw_1543 : Cond.code yX12_laysFit cX12_laysFit 6 none ∈ zg := zg_of (List.mem_of_getElem? (i := 1543) (by decide +kernel)) (by decide +kernel)
theorem kw_1540 : Cond.methodLink RX12 314 yX12_laysFit ∈ zg := zg_of (List.mem_of_getElem? (i := 1540) (by decide +kernel)) (by decide +kernel)
theorem kw_1542 : Cond.instanceMethod yX12_laysFit ∈ zg := zg_of (List.mem_of_getElem? (i := 1542) (by decide +kernel)) (by decide +kernel)
theorem kw_72 : Cond.selects RX12 yX12_laysFit yX12_laysFit ∈ zg := zg_of (List.mem_of_getElem? (i := 72) (by decide +kernel)) (by decide +kernel)
theorem mv_X12_314 : zMV RX12 314 yX12_laysFit cX12_laysFit 6 none 0 := ⟨⟨kw_1540, kw_1542, kw_72, kw_93, kw_1543⟩, ⟨by decide, by decide, by decide +kernel⟩, by decide⟩
theorem kw_1163 : Cond.fieldLink RX12 50 "HalfAJokeModel" "partner" "[I" ∈ zg := zg_of (List.mem_of_getElem? (i := 1163) (by decide +kernel)) (by decide +kernel)
theorem ff_X12_50_100 : zFc RX12 50 100 30 (some (113, false)) := ⟨_, _, _, tyX12, sh_100, rfl, by decide, iz_X12, kw_1163, rfl, tyX12_ok, nmX12⟩
theorem kw_1547 : Cond.code yX12_fitted cX12_fitted 3 (some .int) ∈ zg := zg_of (List.mem_of_getElem? (i := 1547) (by decide +kernel)) (by decide +kernel)
theorem kw_1544 : Cond.methodLink RX12 308 yX12_fitted ∈ zg := zg_of (List.mem_of_getElem? (i := 1544) (by decide +kernel)) (by decide +kernel)
theorem kw_1546 : Cond.instanceMethod yX12_fitted ∈ zg := zg_of (List.mem_of_getElem? (i := 1546) (by decide +kernel)) (by decide +kernel)
theorem kw_73 : Cond.selects RX12 yX12_fitted yX12_fitted ∈ zg := zg_of (List.mem_of_getElem? (i := 73) (by decide +kernel)) (by decide +kernel)
theorem mv_X12_308 : zMV RX12 308 yX12_fitted cX12_fitted 3 (some .int) 2 := ⟨⟨kw_1544, kw_1546, kw_73, kw_93, kw_1547⟩, ⟨by decide, by decide, by decide +kernel⟩, by decide⟩
theorem kw_1162 : Cond.fieldLink RX12 47 "HalfAJokeModel" "fits" "[I" ∈ zg := zg_of (List.mem_of_getElem? (i := 1162) (by decide +kernel)) (by decide +kernel)
theorem ff_X12_47_100 : zFc RX12 47 100 29 (some (112, false)) := ⟨_, _, _, tyX12, sh_100, rfl, by decide, iz_X12, kw_1162, rfl, tyX12_ok, nmX12⟩
theorem kw_1599 : Cond.code yX12_isAlike cX12_isAlike 4 (some .boolean) ∈ zg := zg_of (List.mem_of_getElem? (i := 1599) (by decide +kernel)) (by decide +kernel)
theorem kw_1596 : Cond.methodLink RX12 338 yX12_isAlike ∈ zg := zg_of (List.mem_of_getElem? (i := 1596) (by decide +kernel)) (by decide +kernel)
theorem kw_1598 : Cond.instanceMethod yX12_isAlike ∈ zg := zg_of (List.mem_of_getElem? (i := 1598) (by decide +kernel)) (by decide +kernel)
theorem kw_80 : Cond.selects RX12 yX12_isAlike yX12_isAlike ∈ zg := zg_of (List.mem_of_getElem? (i := 80) (by decide +kernel)) (by decide +kernel)
theorem mv_X12_338 : zMV RX12 338 yX12_isAlike cX12_isAlike 4 (some .boolean) 2 := ⟨⟨kw_1596, kw_1598, kw_80, kw_93, kw_1599⟩, ⟨by decide, by decide, by decide +kernel⟩, by decide⟩
theorem kw_1169 : Cond.fieldLink RX12 59 "HalfAJokeModel" "worths" "[I" ∈ zg := zg_of (List.mem_of_getElem? (i := 1169) (by decide +kernel)) (by decide +kernel)
theorem ff_X12_59_100 : zFc RX12 59 100 36 (some (116, false)) := ⟨_, _, _, tyX12, sh_100, rfl, by decide, iz_X12, kw_1169, rfl, tyX12_ok, nmX12⟩
theorem kw_1595 : Cond.code yX12_worthBehind cX12_worthBehind 6 (some .int) ∈ zg := zg_of (List.mem_of_getElem? (i := 1595) (by decide +kernel)) (by decide +kernel)
theorem kw_1592 : Cond.methodLink RX12 335 yX12_worthBehind ∈ zg := zg_of (List.mem_of_getElem? (i := 1592) (by decide +kernel)) (by decide +kernel)
theorem kw_1594 : Cond.instanceMethod yX12_worthBehind ∈ zg := zg_of (List.mem_of_getElem? (i := 1594) (by decide +kernel)) (by decide +kernel)
theorem kw_79 : Cond.selects RX12 yX12_worthBehind yX12_worthBehind ∈ zg := zg_of (List.mem_of_getElem? (i := 79) (by decide +kernel)) (by decide +kernel)
theorem mv_X12_335 : zMV RX12 335 yX12_worthBehind cX12_worthBehind 6 (some .int) 2 := ⟨⟨kw_1592, kw_1594, kw_79, kw_93, kw_1595⟩, ⟨by decide, by decide, by decide +kernel⟩, by decide⟩
section
theorem dX12_laysSeats_0 : decode cX12_laysSeats 0 = .ok (.iconst 0, 1) := by decide +kernel
theorem dX12_laysSeats_1 : decode cX12_laysSeats 1 = .ok (.istore_n 1, 1) := by decide +kernel
theorem dX12_laysSeats_2 : decode cX12_laysSeats 2 = .ok (.iload_n 1, 1) := by decide +kernel
theorem dX12_laysSeats_3 : decode cX12_laysSeats 3 = .ok (.aload_n 0, 1) := by decide +kernel
theorem dX12_laysSeats_4 : decode cX12_laysSeats 4 = .ok (.getfield 7, 3) := by decide +kernel
theorem dX12_laysSeats_7 : decode cX12_laysSeats 7 = .ok (.iconst 4, 1) := by decide +kernel
theorem dX12_laysSeats_8 : decode cX12_laysSeats 8 = .ok (.iaload, 1) := by decide +kernel
theorem dX12_laysSeats_9 : decode cX12_laysSeats 9 = .ok (.if_icmp .ge 21, 3) := by decide +kernel
theorem dX12_laysSeats_12 : decode cX12_laysSeats 12 = .ok (.aload_n 0, 1) := by decide +kernel
theorem dX12_laysSeats_13 : decode cX12_laysSeats 13 = .ok (.getfield 53, 3) := by decide +kernel
theorem dX12_laysSeats_16 : decode cX12_laysSeats 16 = .ok (.iload_n 1, 1) := by decide +kernel
theorem dX12_laysSeats_17 : decode cX12_laysSeats 17 = .ok (.aload_n 0, 1) := by decide +kernel
theorem dX12_laysSeats_18 : decode cX12_laysSeats 18 = .ok (.iload_n 1, 1) := by decide +kernel
theorem dX12_laysSeats_19 : decode cX12_laysSeats 19 = .ok (.iconst 1, 1) := by decide +kernel
theorem dX12_laysSeats_20 : decode cX12_laysSeats 20 = .ok (.invokevirtual 106, 3) := by decide +kernel
theorem dX12_laysSeats_23 : decode cX12_laysSeats 23 = .ok (.iastore, 1) := by decide +kernel
theorem dX12_laysSeats_24 : decode cX12_laysSeats 24 = .ok (.iinc 1 1, 3) := by decide +kernel
theorem dX12_laysSeats_27 : decode cX12_laysSeats 27 = .ok (.goto (-25), 3) := by decide +kernel
theorem dX12_laysSeats_30 : decode cX12_laysSeats 30 = .ok (.return_, 1) := by decide +kernel
abbrev nd_X12_laysSeats : List Nat := [100, 101, 114]
abbrev ld_X12_laysSeats : List (Nat × Nat) := [(100, 0), (100, 33)]
theorem sn_X12_laysSeats_X12_ofGuest : ∀ c ∈ nd_X12_ofGuest, c ∈ nd_X12_laysSeats := by decide
theorem sl_X12_laysSeats_X12_ofGuest : ∀ q ∈ ld_X12_ofGuest, q ∈ ld_X12_laysSeats := by decide
def f_X12_laysSeats_2  : Nat → Int32 → zH → zR
  | 0 => fun _ _ => none
  | n + 1 => fun x1 h => (if (h 101 4) ≤ x1 then (some (0, h)) else (zbd (f_X12_ofGuest x1 (1 : Int32) h) fun r1 h2 => (zck x1 8 (zst (zup h2 114 (Int32.toNatClampNeg x1) r1) fun h3 => (zlt (x1 + (1 : Int32)) fun y4 => (f_X12_laysSeats_2  n y4 h3))))))
def f_X12_laysSeats  (h : zH) : zR := (f_X12_laysSeats_2  zN (0 : Int32) h)
variable {p : Program} {l : Launch} {e : Env} {s : State} {m : MethodId} {args : Array Value} {below : List Frame} {meth : Method} {c : Code} {G : zG} {q : Int32 × zH}
set_option maxHeartbeats 4000000 in
set_option maxRecDepth 100000 in
theorem w_X12_laysSeats_2  (C : zC G p s m args meth c cX12_laysSeats 2 RX12 none) (hm : ∀ c ∈ nd_X12_laysSeats, c ∈ znm G) (hk : ∀ q ∈ ld_X12_laysSeats, zlk G q.1 q.2 = true)  : ∀ n, ∀ (ls : Array Slot) (H : Heap) (locs : List Loc) (h : zH) (x1 : Int32), lv_has ls 2 [(0, .ref (zal G 100)), (1, .int x1)] → zS G h s.heap H locs → f_X12_laysSeats_2  n x1 h = some q → W p l e (zrm (3)) s m args below meth c H locs 0 0 (MQ below (zQV G q.2) args s 0 0 (zA G)) (F0 m 2 ls []) := by
  intro n
  induction n with
  | zero => intro ls H locs h x1 hl hS hf; cases hf
  | succ n ih =>
    intro ls H locs h x1 hl hS hf
    rw [f_X12_laysSeats_2] at hf
    refine lv_iload_n C.1 C.2.1 dX12_laysSeats_2 rfl (lv_at hl 1 rfl) ?_
    refine lv_aload_n C.1 C.2.1 dX12_laysSeats_3 rfl (lv_at hl 0 rfl) ?_
    refine zgetR C hS ff_X12_7_100 (hm 100 (by decide)) (hk (100, 0) (by decide)) dX12_laysSeats_4 ?_
    refine lv_iconst (v := (4 : Int32)) C.1 C.2.1 dX12_laysSeats_7 rfl ?_
    refine zald C hS sh_101 (hm 101 (by decide)) (vp_in_iff.mpr (by decide)) dX12_laysSeats_8 ?_
    refine lv_icmp_ge (tgt := 30) C.1 C.2.1 dX12_laysSeats_9 (by decide) (fun hc => ?_) (fun hc => ?_)
    · have hf := zif_t hc hf
      exact zretV C hS hf dX12_laysSeats_30
    · have hf := zif_f hc hf
      refine lv_aload_n C.1 C.2.1 dX12_laysSeats_12 rfl (lv_at hl 0 rfl) ?_
      refine zgetR C hS ff_X12_53_100 (hm 100 (by decide)) (hk (100, 33) (by decide)) dX12_laysSeats_13 ?_
      refine lv_iload_n C.1 C.2.1 dX12_laysSeats_16 rfl (lv_at hl 1 rfl) ?_
      refine lv_aload_n C.1 C.2.1 dX12_laysSeats_17 rfl (lv_at hl 0 rfl) ?_
      refine lv_iload_n C.1 C.2.1 dX12_laysSeats_18 rfl (lv_at hl 1 rfl) ?_
      refine lv_iconst (v := (1 : Int32)) C.1 C.2.1 dX12_laysSeats_19 rfl ?_
      obtain ⟨r1, h2, er1, hf⟩ := zbd_some hf
      refine zcallVI (As := [.int x1, .int (1 : Int32)]) (rest := [.int x1, .ref (zal G 114)]) C hS mv_X12_106 (c_X12_ofGuest l G h x1 (1 : Int32) (r1, h2) (fun c h => hm c (sn_X12_laysSeats_X12_ofGuest c h)) (fun q h => hk q (sl_X12_laysSeats_X12_ofGuest q h)) er1) (hm 100 (by decide)) ⟨_, _, _, sh_100, rfl, rfl⟩ rfl rfl (Nat.le_of_ble_eq_true rfl) hl.1 ⟨Nat.le_of_ble_eq_true rfl, Nat.le_of_ble_eq_true rfl, Nat.le_of_ble_eq_true rfl, Nat.le_of_ble_eq_true rfl⟩ dX12_laysSeats_20 (fun H locs hS => ?_)
      obtain ⟨hi, hf⟩ := zck_some hf
      refine zast C hS sh_114 (hm 114 (by decide)) hi dX12_laysSeats_23 (fun H locs hS => ?_)
      obtain ⟨h3, eh3, hf⟩ := zst_some hf
      have hS : zS G h3 s.heap H locs := by rw [eh3]; exact hS
      obtain ⟨y4, ey4, hf⟩ := zlt_some hf
      refine lv_iinc (v := y4) (lv' := [(1, .int y4), (0, .ref (zal G 100))]) C.1 C.2.1 dX12_laysSeats_24 hl (k := 1) rfl ey4.symm (by decide) rfl (fun ls hl => ?_)
      refine lv_goto (tgt := 2) C.1 C.2.1 dX12_laysSeats_27 (by decide) ?_
      exact ih _ _ _ _ _ (lv_sub hl [1, 0] rfl) hS hf
set_option maxHeartbeats 4000000 in
set_option maxRecDepth 100000 in
theorem c_X12_laysSeats (l : Launch) (G : zG) (h : zH) (q : Int32 × zH) (hm : ∀ c ∈ nd_X12_laysSeats, c ∈ znm G) (hk : ∀ q ∈ ld_X12_laysSeats, zlk G q.1 q.2 = true) (hf : f_X12_laysSeats h = some q) : zCtV l yX12_laysSeats cX12_laysSeats 2 none (3) [.ref (zal G 100)] G h q.2 := by
  refine zMetV (by decide) (Nat.le_of_ble_eq_true rfl) ?_
  intro p e s m below meth c ls C hl hS
  have hl : lv_has ls 2 [(0, .ref (zal G 100))] := hl
  have C : zC G p s m [.ref (zal G 100)].toArray meth c cX12_laysSeats 2 RX12 none := C
  unfold f_X12_laysSeats at hf
  refine lv_iconst (v := (0 : Int32)) C.1 C.2.1 dX12_laysSeats_0 rfl ?_
  refine lv_istore_n (lv' := [(1, .int (0 : Int32)), (0, .ref (zal G 100))]) C.1 C.2.1 dX12_laysSeats_1 rfl hl (by decide) rfl (fun ls hl => ?_)
  exact w_X12_laysSeats_2 C hm hk  zN _ _ _ _ _ (lv_sub hl [1, 0] rfl) hS hf
end
section
theorem dX12_backToSeats_0 : decode cX12_backToSeats 0 = .ok (.iconst 0, 1) := by decide +kernel
theorem dX12_backToSeats_1 : decode cX12_backToSeats 1 = .ok (.istore_n 1, 1) := by decide +kernel
theorem dX12_backToSeats_2 : decode cX12_backToSeats 2 = .ok (.iload_n 1, 1) := by decide +kernel
theorem dX12_backToSeats_3 : decode cX12_backToSeats 3 = .ok (.aload_n 0, 1) := by decide +kernel
theorem dX12_backToSeats_4 : decode cX12_backToSeats 4 = .ok (.getfield 7, 3) := by decide +kernel
theorem dX12_backToSeats_7 : decode cX12_backToSeats 7 = .ok (.iconst 4, 1) := by decide +kernel
theorem dX12_backToSeats_8 : decode cX12_backToSeats 8 = .ok (.iaload, 1) := by decide +kernel
theorem dX12_backToSeats_9 : decode cX12_backToSeats 9 = .ok (.if_icmp .ge 20, 3) := by decide +kernel
theorem dX12_backToSeats_12 : decode cX12_backToSeats 12 = .ok (.aload_n 0, 1) := by decide +kernel
theorem dX12_backToSeats_13 : decode cX12_backToSeats 13 = .ok (.iload_n 1, 1) := by decide +kernel
theorem dX12_backToSeats_14 : decode cX12_backToSeats 14 = .ok (.aload_n 0, 1) := by decide +kernel
theorem dX12_backToSeats_15 : decode cX12_backToSeats 15 = .ok (.getfield 53, 3) := by decide +kernel
theorem dX12_backToSeats_18 : decode cX12_backToSeats 18 = .ok (.iload_n 1, 1) := by decide +kernel
theorem dX12_backToSeats_19 : decode cX12_backToSeats 19 = .ok (.iaload, 1) := by decide +kernel
theorem dX12_backToSeats_20 : decode cX12_backToSeats 20 = .ok (.invokevirtual 102, 3) := by decide +kernel
theorem dX12_backToSeats_23 : decode cX12_backToSeats 23 = .ok (.iinc 1 1, 3) := by decide +kernel
theorem dX12_backToSeats_26 : decode cX12_backToSeats 26 = .ok (.goto (-24), 3) := by decide +kernel
theorem dX12_backToSeats_29 : decode cX12_backToSeats 29 = .ok (.return_, 1) := by decide +kernel
abbrev nd_X12_backToSeats : List Nat := [100, 101, 114]
abbrev ld_X12_backToSeats : List (Nat × Nat) := [(100, 0), (100, 33)]
theorem sn_X12_backToSeats_X12_sits : ∀ c ∈ nd_X12_sits, c ∈ nd_X12_backToSeats := by decide
theorem sl_X12_backToSeats_X12_sits : ∀ q ∈ ld_X12_sits, q ∈ ld_X12_backToSeats := by decide
def f_X12_backToSeats_2  : Nat → Int32 → zH → zR
  | 0 => fun _ _ => none
  | n + 1 => fun x1 h => (if (h 101 4) ≤ x1 then (some (0, h)) else (zck x1 8 (zbd (f_X12_sits x1 (h 114 (Int32.toNatClampNeg x1)) h) fun r1 h2 => (zlt (x1 + (1 : Int32)) fun y3 => (f_X12_backToSeats_2  n y3 h2)))))
def f_X12_backToSeats  (h : zH) : zR := (f_X12_backToSeats_2  zN (0 : Int32) h)
variable {p : Program} {l : Launch} {e : Env} {s : State} {m : MethodId} {args : Array Value} {below : List Frame} {meth : Method} {c : Code} {G : zG} {q : Int32 × zH}
set_option maxHeartbeats 4000000 in
set_option maxRecDepth 100000 in
theorem w_X12_backToSeats_2  (C : zC G p s m args meth c cX12_backToSeats 2 RX12 none) (hm : ∀ c ∈ nd_X12_backToSeats, c ∈ znm G) (hk : ∀ q ∈ ld_X12_backToSeats, zlk G q.1 q.2 = true)  : ∀ n, ∀ (ls : Array Slot) (H : Heap) (locs : List Loc) (h : zH) (x1 : Int32), lv_has ls 2 [(0, .ref (zal G 100)), (1, .int x1)] → zS G h s.heap H locs → f_X12_backToSeats_2  n x1 h = some q → W p l e (zrm (3)) s m args below meth c H locs 0 0 (MQ below (zQV G q.2) args s 0 0 (zA G)) (F0 m 2 ls []) := by
  intro n
  induction n with
  | zero => intro ls H locs h x1 hl hS hf; cases hf
  | succ n ih =>
    intro ls H locs h x1 hl hS hf
    rw [f_X12_backToSeats_2] at hf
    refine lv_iload_n C.1 C.2.1 dX12_backToSeats_2 rfl (lv_at hl 1 rfl) ?_
    refine lv_aload_n C.1 C.2.1 dX12_backToSeats_3 rfl (lv_at hl 0 rfl) ?_
    refine zgetR C hS ff_X12_7_100 (hm 100 (by decide)) (hk (100, 0) (by decide)) dX12_backToSeats_4 ?_
    refine lv_iconst (v := (4 : Int32)) C.1 C.2.1 dX12_backToSeats_7 rfl ?_
    refine zald C hS sh_101 (hm 101 (by decide)) (vp_in_iff.mpr (by decide)) dX12_backToSeats_8 ?_
    refine lv_icmp_ge (tgt := 29) C.1 C.2.1 dX12_backToSeats_9 (by decide) (fun hc => ?_) (fun hc => ?_)
    · have hf := zif_t hc hf
      exact zretV C hS hf dX12_backToSeats_29
    · have hf := zif_f hc hf
      refine lv_aload_n C.1 C.2.1 dX12_backToSeats_12 rfl (lv_at hl 0 rfl) ?_
      refine lv_iload_n C.1 C.2.1 dX12_backToSeats_13 rfl (lv_at hl 1 rfl) ?_
      refine lv_aload_n C.1 C.2.1 dX12_backToSeats_14 rfl (lv_at hl 0 rfl) ?_
      refine zgetR C hS ff_X12_53_100 (hm 100 (by decide)) (hk (100, 33) (by decide)) dX12_backToSeats_15 ?_
      refine lv_iload_n C.1 C.2.1 dX12_backToSeats_18 rfl (lv_at hl 1 rfl) ?_
      obtain ⟨hi, hf⟩ := zck_some hf
      refine zald C hS sh_114 (hm 114 (by decide)) hi dX12_backToSeats_19 ?_
      obtain ⟨r1, h2, er1, hf⟩ := zbd_some hf
      refine zcallVV (As := [.int x1, .int (h 114 (Int32.toNatClampNeg x1))]) (rest := []) C hS mv_X12_102 (c_X12_sits l G h x1 (h 114 (Int32.toNatClampNeg x1)) (r1, h2) (fun c h => hm c (sn_X12_backToSeats_X12_sits c h)) (fun q h => hk q (sl_X12_backToSeats_X12_sits q h)) er1) (hm 100 (by decide)) ⟨_, _, _, sh_100, rfl, rfl⟩ rfl rfl (Nat.le_of_ble_eq_true rfl) hl.1 ⟨Nat.le_of_ble_eq_true rfl, Nat.le_of_ble_eq_true rfl, Nat.le_of_ble_eq_true rfl, Nat.le_of_ble_eq_true rfl⟩ dX12_backToSeats_20 (fun H locs hS => ?_)
      obtain ⟨y3, ey3, hf⟩ := zlt_some hf
      refine lv_iinc (v := y3) (lv' := [(1, .int y3), (0, .ref (zal G 100))]) C.1 C.2.1 dX12_backToSeats_23 hl (k := 1) rfl ey3.symm (by decide) rfl (fun ls hl => ?_)
      refine lv_goto (tgt := 2) C.1 C.2.1 dX12_backToSeats_26 (by decide) ?_
      exact ih _ _ _ _ _ (lv_sub hl [1, 0] rfl) hS hf
set_option maxHeartbeats 4000000 in
set_option maxRecDepth 100000 in
theorem c_X12_backToSeats (l : Launch) (G : zG) (h : zH) (q : Int32 × zH) (hm : ∀ c ∈ nd_X12_backToSeats, c ∈ znm G) (hk : ∀ q ∈ ld_X12_backToSeats, zlk G q.1 q.2 = true) (hf : f_X12_backToSeats h = some q) : zCtV l yX12_backToSeats cX12_backToSeats 2 none (3) [.ref (zal G 100)] G h q.2 := by
  refine zMetV (by decide) (Nat.le_of_ble_eq_true rfl) ?_
  intro p e s m below meth c ls C hl hS
  have hl : lv_has ls 2 [(0, .ref (zal G 100))] := hl
  have C : zC G p s m [.ref (zal G 100)].toArray meth c cX12_backToSeats 2 RX12 none := C
  unfold f_X12_backToSeats at hf
  refine lv_iconst (v := (0 : Int32)) C.1 C.2.1 dX12_backToSeats_0 rfl ?_
  refine lv_istore_n (lv' := [(1, .int (0 : Int32)), (0, .ref (zal G 100))]) C.1 C.2.1 dX12_backToSeats_1 rfl hl (by decide) rfl (fun ls hl => ?_)
  exact w_X12_backToSeats_2 C hm hk  zN _ _ _ _ _ (lv_sub hl [1, 0] rfl) hS hf
end
section
theorem dX12_change_0 : decode cX12_change 0 = .ok (.iload_n 1, 1) := by decide +kernel
theorem dX12_change_1 : decode cX12_change 1 = .ok (.iconst 0, 1) := by decide +kernel
theorem dX12_change_2 : decode cX12_change 2 = .ok (.iconst 2, 1) := by decide +kernel
theorem dX12_change_3 : decode cX12_change 3 = .ok (.invokestatic 65, 3) := by decide +kernel
theorem dX12_change_6 : decode cX12_change 6 = .ok (.ifCond .ne 5, 3) := by decide +kernel
theorem dX12_change_9 : decode cX12_change 9 = .ok (.iconst (-1), 1) := by decide +kernel
theorem dX12_change_10 : decode cX12_change 10 = .ok (.ireturn, 1) := by decide +kernel
theorem dX12_change_11 : decode cX12_change 11 = .ok (.aload_n 0, 1) := by decide +kernel
theorem dX12_change_12 : decode cX12_change 12 = .ok (.invokevirtual 323, 3) := by decide +kernel
theorem dX12_change_15 : decode cX12_change 15 = .ok (.aload_n 0, 1) := by decide +kernel
theorem dX12_change_16 : decode cX12_change 16 = .ok (.invokevirtual 299, 3) := by decide +kernel
theorem dX12_change_19 : decode cX12_change 19 = .ok (.istore_n 2, 1) := by decide +kernel
theorem dX12_change_20 : decode cX12_change 20 = .ok (.iconst 0, 1) := by decide +kernel
theorem dX12_change_21 : decode cX12_change 21 = .ok (.istore_n 3, 1) := by decide +kernel
theorem dX12_change_22 : decode cX12_change 22 = .ok (.iconst (-1), 1) := by decide +kernel
theorem dX12_change_23 : decode cX12_change 23 = .ok (.istore 4, 2) := by decide +kernel
theorem dX12_change_25 : decode cX12_change 25 = .ok (.iconst (-1), 1) := by decide +kernel
theorem dX12_change_26 : decode cX12_change 26 = .ok (.istore 5, 2) := by decide +kernel
theorem dX12_change_28 : decode cX12_change 28 = .ok (.iconst 0, 1) := by decide +kernel
theorem dX12_change_29 : decode cX12_change 29 = .ok (.istore 6, 2) := by decide +kernel
theorem dX12_change_31 : decode cX12_change 31 = .ok (.iload 6, 2) := by decide +kernel
theorem dX12_change_33 : decode cX12_change 33 = .ok (.aload_n 0, 1) := by decide +kernel
theorem dX12_change_34 : decode cX12_change 34 = .ok (.getfield 7, 3) := by decide +kernel
theorem dX12_change_37 : decode cX12_change 37 = .ok (.iconst 4, 1) := by decide +kernel
theorem dX12_change_38 : decode cX12_change 38 = .ok (.iaload, 1) := by decide +kernel
theorem dX12_change_39 : decode cX12_change 39 = .ok (.if_icmp .ge 115, 3) := by decide +kernel
theorem dX12_change_42 : decode cX12_change 42 = .ok (.iload 6, 2) := by decide +kernel
theorem dX12_change_44 : decode cX12_change 44 = .ok (.iconst 1, 1) := by decide +kernel
theorem dX12_change_45 : decode cX12_change 45 = .ok (.iadd, 1) := by decide +kernel
theorem dX12_change_46 : decode cX12_change 46 = .ok (.istore 7, 2) := by decide +kernel
theorem dX12_change_48 : decode cX12_change 48 = .ok (.iload 7, 2) := by decide +kernel
theorem dX12_change_50 : decode cX12_change 50 = .ok (.aload_n 0, 1) := by decide +kernel
theorem dX12_change_51 : decode cX12_change 51 = .ok (.getfield 7, 3) := by decide +kernel
theorem dX12_change_54 : decode cX12_change 54 = .ok (.iconst 4, 1) := by decide +kernel
theorem dX12_change_55 : decode cX12_change 55 = .ok (.iaload, 1) := by decide +kernel
theorem dX12_change_56 : decode cX12_change 56 = .ok (.if_icmp .ge 92, 3) := by decide +kernel
theorem dX12_change_59 : decode cX12_change 59 = .ok (.aload_n 0, 1) := by decide +kernel
theorem dX12_change_60 : decode cX12_change 60 = .ok (.getfield 53, 3) := by decide +kernel
theorem dX12_change_63 : decode cX12_change 63 = .ok (.iload 6, 2) := by decide +kernel
theorem dX12_change_65 : decode cX12_change 65 = .ok (.iaload, 1) := by decide +kernel
theorem dX12_change_66 : decode cX12_change 66 = .ok (.iconst (-1), 1) := by decide +kernel
theorem dX12_change_67 : decode cX12_change 67 = .ok (.if_icmp .eq 75, 3) := by decide +kernel
theorem dX12_change_70 : decode cX12_change 70 = .ok (.aload_n 0, 1) := by decide +kernel
theorem dX12_change_71 : decode cX12_change 71 = .ok (.getfield 53, 3) := by decide +kernel
theorem dX12_change_74 : decode cX12_change 74 = .ok (.iload 7, 2) := by decide +kernel
theorem dX12_change_76 : decode cX12_change 76 = .ok (.iaload, 1) := by decide +kernel
theorem dX12_change_77 : decode cX12_change 77 = .ok (.iconst (-1), 1) := by decide +kernel
theorem dX12_change_78 : decode cX12_change 78 = .ok (.if_icmp .ne 6, 3) := by decide +kernel
theorem dX12_change_81 : decode cX12_change 81 = .ok (.goto 61, 3) := by decide +kernel
theorem dX12_change_84 : decode cX12_change 84 = .ok (.aload_n 0, 1) := by decide +kernel
theorem dX12_change_85 : decode cX12_change 85 = .ok (.iload 6, 2) := by decide +kernel
theorem dX12_change_87 : decode cX12_change 87 = .ok (.aload_n 0, 1) := by decide +kernel
theorem dX12_change_88 : decode cX12_change 88 = .ok (.getfield 53, 3) := by decide +kernel
theorem dX12_change_91 : decode cX12_change 91 = .ok (.iload 7, 2) := by decide +kernel
theorem dX12_change_93 : decode cX12_change 93 = .ok (.iaload, 1) := by decide +kernel
theorem dX12_change_94 : decode cX12_change 94 = .ok (.invokevirtual 102, 3) := by decide +kernel
theorem dX12_change_97 : decode cX12_change 97 = .ok (.aload_n 0, 1) := by decide +kernel
theorem dX12_change_98 : decode cX12_change 98 = .ok (.iload 7, 2) := by decide +kernel
theorem dX12_change_100 : decode cX12_change 100 = .ok (.aload_n 0, 1) := by decide +kernel
theorem dX12_change_101 : decode cX12_change 101 = .ok (.getfield 53, 3) := by decide +kernel
theorem dX12_change_104 : decode cX12_change 104 = .ok (.iload 6, 2) := by decide +kernel
theorem dX12_change_106 : decode cX12_change 106 = .ok (.iaload, 1) := by decide +kernel
theorem dX12_change_107 : decode cX12_change 107 = .ok (.invokevirtual 102, 3) := by decide +kernel
theorem dX12_change_110 : decode cX12_change 110 = .ok (.aload_n 0, 1) := by decide +kernel
theorem dX12_change_111 : decode cX12_change 111 = .ok (.invokevirtual 299, 3) := by decide +kernel
theorem dX12_change_114 : decode cX12_change 114 = .ok (.iload_n 2, 1) := by decide +kernel
theorem dX12_change_115 : decode cX12_change 115 = .ok (.isub, 1) := by decide +kernel
theorem dX12_change_116 : decode cX12_change 116 = .ok (.istore 8, 2) := by decide +kernel
theorem dX12_change_118 : decode cX12_change 118 = .ok (.aload_n 0, 1) := by decide +kernel
theorem dX12_change_119 : decode cX12_change 119 = .ok (.invokevirtual 326, 3) := by decide +kernel
theorem dX12_change_122 : decode cX12_change 122 = .ok (.iload 8, 2) := by decide +kernel
theorem dX12_change_124 : decode cX12_change 124 = .ok (.iload_n 3, 1) := by decide +kernel
theorem dX12_change_125 : decode cX12_change 125 = .ok (.if_icmp .gt 6, 3) := by decide +kernel
theorem dX12_change_128 : decode cX12_change 128 = .ok (.goto 14, 3) := by decide +kernel
theorem dX12_change_131 : decode cX12_change 131 = .ok (.iload 8, 2) := by decide +kernel
theorem dX12_change_133 : decode cX12_change 133 = .ok (.istore_n 3, 1) := by decide +kernel
theorem dX12_change_134 : decode cX12_change 134 = .ok (.iload 6, 2) := by decide +kernel
theorem dX12_change_136 : decode cX12_change 136 = .ok (.istore 4, 2) := by decide +kernel
theorem dX12_change_138 : decode cX12_change 138 = .ok (.iload 7, 2) := by decide +kernel
theorem dX12_change_140 : decode cX12_change 140 = .ok (.istore 5, 2) := by decide +kernel
theorem dX12_change_142 : decode cX12_change 142 = .ok (.iinc 7 1, 3) := by decide +kernel
theorem dX12_change_145 : decode cX12_change 145 = .ok (.goto (-97), 3) := by decide +kernel
theorem dX12_change_148 : decode cX12_change 148 = .ok (.iinc 6 1, 3) := by decide +kernel
theorem dX12_change_151 : decode cX12_change 151 = .ok (.goto (-120), 3) := by decide +kernel
theorem dX12_change_154 : decode cX12_change 154 = .ok (.iload 4, 2) := by decide +kernel
theorem dX12_change_156 : decode cX12_change 156 = .ok (.iconst (-1), 1) := by decide +kernel
theorem dX12_change_157 : decode cX12_change 157 = .ok (.if_icmp .ne 7, 3) := by decide +kernel
theorem dX12_change_160 : decode cX12_change 160 = .ok (.iconst (-1), 1) := by decide +kernel
theorem dX12_change_161 : decode cX12_change 161 = .ok (.goto 23, 3) := by decide +kernel
theorem dX12_change_164 : decode cX12_change 164 = .ok (.iload_n 1, 1) := by decide +kernel
theorem dX12_change_165 : decode cX12_change 165 = .ok (.ifCond .ne 8, 3) := by decide +kernel
theorem dX12_change_168 : decode cX12_change 168 = .ok (.iload 4, 2) := by decide +kernel
theorem dX12_change_170 : decode cX12_change 170 = .ok (.goto 14, 3) := by decide +kernel
theorem dX12_change_173 : decode cX12_change 173 = .ok (.iload_n 1, 1) := by decide +kernel
theorem dX12_change_174 : decode cX12_change 174 = .ok (.iconst 1, 1) := by decide +kernel
theorem dX12_change_175 : decode cX12_change 175 = .ok (.if_icmp .ne 8, 3) := by decide +kernel
theorem dX12_change_178 : decode cX12_change 178 = .ok (.iload 5, 2) := by decide +kernel
theorem dX12_change_180 : decode cX12_change 180 = .ok (.goto 4, 3) := by decide +kernel
theorem dX12_change_183 : decode cX12_change 183 = .ok (.iload_n 3, 1) := by decide +kernel
theorem dX12_change_184 : decode cX12_change 184 = .ok (.ireturn, 1) := by decide +kernel
abbrev nd_X12_change : List Nat := [100, 101, 104, 108, 109, 114]
abbrev ld_X12_change : List (Nat × Nat) := [(100, 0), (100, 3), (100, 9), (100, 10), (100, 33)]
theorem sn_X12_change_X12_isIn : ∀ c ∈ nd_X12_isIn, c ∈ nd_X12_change := by decide
theorem sl_X12_change_X12_isIn : ∀ q ∈ ld_X12_isIn, q ∈ ld_X12_change := by decide
theorem sn_X12_change_X12_laysSeats : ∀ c ∈ nd_X12_laysSeats, c ∈ nd_X12_change := by decide
theorem sl_X12_change_X12_laysSeats : ∀ q ∈ ld_X12_laysSeats, q ∈ ld_X12_change := by decide
theorem sn_X12_change_X12_merryNow : ∀ c ∈ nd_X12_merryNow, c ∈ nd_X12_change := by decide
theorem sl_X12_change_X12_merryNow : ∀ q ∈ ld_X12_merryNow, q ∈ ld_X12_change := by decide
theorem sn_X12_change_X12_sits : ∀ c ∈ nd_X12_sits, c ∈ nd_X12_change := by decide
theorem sl_X12_change_X12_sits : ∀ q ∈ ld_X12_sits, q ∈ ld_X12_change := by decide
theorem sn_X12_change_X12_backToSeats : ∀ c ∈ nd_X12_backToSeats, c ∈ nd_X12_change := by decide
theorem sl_X12_change_X12_backToSeats : ∀ q ∈ ld_X12_backToSeats, q ∈ ld_X12_change := by decide
def f_X12_change_142 (k31 : Int32 → Int32 → Int32 → Int32 → Int32 → Int32 → zH → zR) (k48 : Int32 → Int32 → Int32 → Int32 → Int32 → Int32 → Int32 → zH → zR) (x1 : Int32) (x2 : Int32) (x3 : Int32) (x4 : Int32) (x5 : Int32) (x6 : Int32) (x7 : Int32) (h : zH) : zR := (zlt (x7 + (1 : Int32)) fun y9 => (k48 x1 x2 x3 x4 x5 x6 y9 h))
def f_X12_change_48 (k31 : Int32 → Int32 → Int32 → Int32 → Int32 → Int32 → zH → zR) : Nat → Int32 → Int32 → Int32 → Int32 → Int32 → Int32 → Int32 → zH → zR
  | 0 => fun _ _ _ _ _ _ _ _ => none
  | n + 1 => fun x1 x2 x3 x4 x5 x6 x7 h => (if (h 101 4) ≤ x7 then (zlt (x6 + (1 : Int32)) fun y8 => (k31 x1 x2 x3 x4 x5 y8 h)) else (zck x6 8 (if (h 114 (Int32.toNatClampNeg x6)) = (-1 : Int32) then (f_X12_change_142 k31 (f_X12_change_48 k31 n) x1 x2 x3 x4 x5 x6 x7 h) else (zck x7 8 (if (h 114 (Int32.toNatClampNeg x7)) = (-1 : Int32) then (f_X12_change_142 k31 (f_X12_change_48 k31 n) x1 x2 x3 x4 x5 x6 x7 h) else (zck x7 8 (zbd (f_X12_sits x6 (h 114 (Int32.toNatClampNeg x7)) h) fun r10 h11 => (zck x6 8 (zbd (f_X12_sits x7 (h11 114 (Int32.toNatClampNeg x6)) h11) fun r12 h13 => (zbd (f_X12_merryNow  h13) fun r14 h15 => (zlt (r14 - x2) fun y16 => (zbd (f_X12_backToSeats  h15) fun r17 h18 => (if x3 < y16 then (f_X12_change_142 k31 (f_X12_change_48 k31 n) x1 x2 y16 x6 x7 x6 x7 h18) else (f_X12_change_142 k31 (f_X12_change_48 k31 n) x1 x2 x3 x4 x5 x6 x7 h18))))))))))))))
def f_X12_change_31  : Nat → Int32 → Int32 → Int32 → Int32 → Int32 → Int32 → zH → zR
  | 0 => fun _ _ _ _ _ _ _ => none
  | n + 1 => fun x1 x2 x3 x4 x5 x6 h => (if (h 101 4) ≤ x6 then (if x4 = (-1 : Int32) then (some ((-1 : Int32), h)) else (if x1 = 0 then (some (x4, h)) else (if x1 = (1 : Int32) then (some (x5, h)) else (some (x3, h))))) else (zlt (x6 + (1 : Int32)) fun y7 => (f_X12_change_48 (f_X12_change_31  n) zN x1 x2 x3 x4 x5 x6 y7 h)))
def f_X12_change  (x1 : Int32) (h : zH) : zR := (zbd (f_X12_isIn x1 (0 : Int32) (2 : Int32) h) fun r1 h2 => (if r1 = 0 then (some ((-1 : Int32), h2)) else (zbd (f_X12_laysSeats  h2) fun r3 h4 => (zbd (f_X12_merryNow  h4) fun r5 h6 => (f_X12_change_31  zN x1 r5 (0 : Int32) (-1 : Int32) (-1 : Int32) (0 : Int32) h6)))))
variable {p : Program} {l : Launch} {e : Env} {s : State} {m : MethodId} {args : Array Value} {below : List Frame} {meth : Method} {c : Code} {G : zG} {q : Int32 × zH}
set_option maxHeartbeats 4000000 in
set_option maxRecDepth 100000 in
theorem w_X12_change_142 {k31 : Int32 → Int32 → Int32 → Int32 → Int32 → Int32 → zH → zR} {k48 : Int32 → Int32 → Int32 → Int32 → Int32 → Int32 → Int32 → zH → zR} (C : zC G p s m args meth c cX12_change 9 RX12 (some .int)) (hm : ∀ c ∈ nd_X12_change, c ∈ znm G) (hk : ∀ q ∈ ld_X12_change, zlk G q.1 q.2 = true) (hk31 : ∀ (ls : Array Slot) (H : Heap) (locs : List Loc) (h : zH) (x1 : Int32) (x2 : Int32) (x3 : Int32) (x4 : Int32) (x5 : Int32) (x6 : Int32), lv_has ls 9 [(0, .ref (zal G 100)), (1, .int x1), (2, .int x2), (3, .int x3), (4, .int x4), (5, .int x5), (6, .int x6)] → zS G h s.heap H locs → k31 x1 x2 x3 x4 x5 x6 h = some q → W p l e (zrm (8)) s m args below meth c H locs 0 0 (MQ below (zQI G q.2 q.1) args s 0 0 (zA G)) (F0 m 31 ls [])) (hk48 : ∀ (ls : Array Slot) (H : Heap) (locs : List Loc) (h : zH) (x1 : Int32) (x2 : Int32) (x3 : Int32) (x4 : Int32) (x5 : Int32) (x6 : Int32) (x7 : Int32), lv_has ls 9 [(0, .ref (zal G 100)), (1, .int x1), (2, .int x2), (3, .int x3), (4, .int x4), (5, .int x5), (6, .int x6), (7, .int x7)] → zS G h s.heap H locs → k48 x1 x2 x3 x4 x5 x6 x7 h = some q → W p l e (zrm (8)) s m args below meth c H locs 0 0 (MQ below (zQI G q.2 q.1) args s 0 0 (zA G)) (F0 m 48 ls [])) : ∀ (ls : Array Slot) (H : Heap) (locs : List Loc) (h : zH) (x1 : Int32) (x2 : Int32) (x3 : Int32) (x4 : Int32) (x5 : Int32) (x6 : Int32) (x7 : Int32), lv_has ls 9 [(0, .ref (zal G 100)), (1, .int x1), (2, .int x2), (3, .int x3), (4, .int x4), (5, .int x5), (6, .int x6), (7, .int x7)] → zS G h s.heap H locs → f_X12_change_142 k31 k48 x1 x2 x3 x4 x5 x6 x7 h = some q → W p l e (zrm (8)) s m args below meth c H locs 0 0 (MQ below (zQI G q.2 q.1) args s 0 0 (zA G)) (F0 m 142 ls []) := by
  intro ls H locs h x1 x2 x3 x4 x5 x6 x7 hl hS hf
  unfold f_X12_change_142 at hf
  obtain ⟨y9, ey9, hf⟩ := zlt_some hf
  refine lv_iinc (v := y9) (lv' := [(7, .int y9), (0, .ref (zal G 100)), (1, .int x1), (2, .int x2), (3, .int x3), (4, .int x4), (5, .int x5), (6, .int x6)]) C.1 C.2.1 dX12_change_142 hl (k := 7) rfl ey9.symm (by decide) rfl (fun ls hl => ?_)
  refine lv_goto (tgt := 48) C.1 C.2.1 dX12_change_145 (by decide) ?_
  exact hk48 _ _ _ _ _ _ _ _ _ _ _ (lv_sub hl [1, 2, 3, 4, 5, 6, 7, 0] rfl) hS hf
set_option maxHeartbeats 4000000 in
set_option maxRecDepth 100000 in
theorem w_X12_change_48 {k31 : Int32 → Int32 → Int32 → Int32 → Int32 → Int32 → zH → zR} (C : zC G p s m args meth c cX12_change 9 RX12 (some .int)) (hm : ∀ c ∈ nd_X12_change, c ∈ znm G) (hk : ∀ q ∈ ld_X12_change, zlk G q.1 q.2 = true) (hk31 : ∀ (ls : Array Slot) (H : Heap) (locs : List Loc) (h : zH) (x1 : Int32) (x2 : Int32) (x3 : Int32) (x4 : Int32) (x5 : Int32) (x6 : Int32), lv_has ls 9 [(0, .ref (zal G 100)), (1, .int x1), (2, .int x2), (3, .int x3), (4, .int x4), (5, .int x5), (6, .int x6)] → zS G h s.heap H locs → k31 x1 x2 x3 x4 x5 x6 h = some q → W p l e (zrm (8)) s m args below meth c H locs 0 0 (MQ below (zQI G q.2 q.1) args s 0 0 (zA G)) (F0 m 31 ls [])) : ∀ n, ∀ (ls : Array Slot) (H : Heap) (locs : List Loc) (h : zH) (x1 : Int32) (x2 : Int32) (x3 : Int32) (x4 : Int32) (x5 : Int32) (x6 : Int32) (x7 : Int32), lv_has ls 9 [(0, .ref (zal G 100)), (1, .int x1), (2, .int x2), (3, .int x3), (4, .int x4), (5, .int x5), (6, .int x6), (7, .int x7)] → zS G h s.heap H locs → f_X12_change_48 k31 n x1 x2 x3 x4 x5 x6 x7 h = some q → W p l e (zrm (8)) s m args below meth c H locs 0 0 (MQ below (zQI G q.2 q.1) args s 0 0 (zA G)) (F0 m 48 ls []) := by
  intro n
  induction n with
  | zero => intro ls H locs h x1 x2 x3 x4 x5 x6 x7 hl hS hf; cases hf
  | succ n ih =>
    intro ls H locs h x1 x2 x3 x4 x5 x6 x7 hl hS hf
    rw [f_X12_change_48] at hf
    refine lv_iload C.1 C.2.1 dX12_change_48 (lv_at hl 7 rfl) ?_
    refine lv_aload_n C.1 C.2.1 dX12_change_50 rfl (lv_at hl 0 rfl) ?_
    refine zgetR C hS ff_X12_7_100 (hm 100 (by decide)) (hk (100, 0) (by decide)) dX12_change_51 ?_
    refine lv_iconst (v := (4 : Int32)) C.1 C.2.1 dX12_change_54 rfl ?_
    refine zald C hS sh_101 (hm 101 (by decide)) (vp_in_iff.mpr (by decide)) dX12_change_55 ?_
    refine lv_icmp_ge (tgt := 148) C.1 C.2.1 dX12_change_56 (by decide) (fun hc => ?_) (fun hc => ?_)
    · have hf := zif_t hc hf
      obtain ⟨y8, ey8, hf⟩ := zlt_some hf
      refine lv_iinc (v := y8) (lv' := [(6, .int y8), (0, .ref (zal G 100)), (1, .int x1), (2, .int x2), (3, .int x3), (4, .int x4), (5, .int x5), (7, .int x7)]) C.1 C.2.1 dX12_change_148 hl (k := 6) rfl ey8.symm (by decide) rfl (fun ls hl => ?_)
      refine lv_goto (tgt := 31) C.1 C.2.1 dX12_change_151 (by decide) ?_
      exact hk31 _ _ _ _ _ _ _ _ _ _ (lv_sub hl [1, 2, 3, 4, 5, 6, 0] rfl) hS hf
    · have hf := zif_f hc hf
      refine lv_aload_n C.1 C.2.1 dX12_change_59 rfl (lv_at hl 0 rfl) ?_
      refine zgetR C hS ff_X12_53_100 (hm 100 (by decide)) (hk (100, 33) (by decide)) dX12_change_60 ?_
      refine lv_iload C.1 C.2.1 dX12_change_63 (lv_at hl 6 rfl) ?_
      obtain ⟨hi, hf⟩ := zck_some hf
      refine zald C hS sh_114 (hm 114 (by decide)) hi dX12_change_65 ?_
      refine lv_iconst (v := (-1 : Int32)) C.1 C.2.1 dX12_change_66 rfl ?_
      refine lv_icmp_eq (tgt := 142) C.1 C.2.1 dX12_change_67 (by decide) (fun hc => ?_) (fun hc => ?_)
      · have hf := zif_t hc hf
        exact w_X12_change_142 C hm hk hk31 ih _ _ _ _ _ _ _ _ _ _ _ (lv_sub hl [0, 1, 2, 3, 4, 5, 6, 7] rfl) hS hf
      · have hf := zif_f hc hf
        refine lv_aload_n C.1 C.2.1 dX12_change_70 rfl (lv_at hl 0 rfl) ?_
        refine zgetR C hS ff_X12_53_100 (hm 100 (by decide)) (hk (100, 33) (by decide)) dX12_change_71 ?_
        refine lv_iload C.1 C.2.1 dX12_change_74 (lv_at hl 7 rfl) ?_
        obtain ⟨hi, hf⟩ := zck_some hf
        refine zald C hS sh_114 (hm 114 (by decide)) hi dX12_change_76 ?_
        refine lv_iconst (v := (-1 : Int32)) C.1 C.2.1 dX12_change_77 rfl ?_
        refine lv_icmp_ne (tgt := 84) C.1 C.2.1 dX12_change_78 (by decide) (fun hc => ?_) (fun hc => ?_)
        · have hf := zif_f hc hf
          refine lv_aload_n C.1 C.2.1 dX12_change_84 rfl (lv_at hl 0 rfl) ?_
          refine lv_iload C.1 C.2.1 dX12_change_85 (lv_at hl 6 rfl) ?_
          refine lv_aload_n C.1 C.2.1 dX12_change_87 rfl (lv_at hl 0 rfl) ?_
          refine zgetR C hS ff_X12_53_100 (hm 100 (by decide)) (hk (100, 33) (by decide)) dX12_change_88 ?_
          refine lv_iload C.1 C.2.1 dX12_change_91 (lv_at hl 7 rfl) ?_
          obtain ⟨hi, hf⟩ := zck_some hf
          refine zald C hS sh_114 (hm 114 (by decide)) hi dX12_change_93 ?_
          obtain ⟨r10, h11, er10, hf⟩ := zbd_some hf
          refine zcallVV (As := [.int x6, .int (h 114 (Int32.toNatClampNeg x7))]) (rest := []) C hS mv_X12_102 (c_X12_sits l G h x6 (h 114 (Int32.toNatClampNeg x7)) (r10, h11) (fun c h => hm c (sn_X12_change_X12_sits c h)) (fun q h => hk q (sl_X12_change_X12_sits q h)) er10) (hm 100 (by decide)) ⟨_, _, _, sh_100, rfl, rfl⟩ rfl rfl (Nat.le_of_ble_eq_true rfl) hl.1 ⟨Nat.le_of_ble_eq_true rfl, Nat.le_of_ble_eq_true rfl, Nat.le_of_ble_eq_true rfl, Nat.le_of_ble_eq_true rfl⟩ dX12_change_94 (fun H locs hS => ?_)
          refine lv_aload_n C.1 C.2.1 dX12_change_97 rfl (lv_at hl 0 rfl) ?_
          refine lv_iload C.1 C.2.1 dX12_change_98 (lv_at hl 7 rfl) ?_
          refine lv_aload_n C.1 C.2.1 dX12_change_100 rfl (lv_at hl 0 rfl) ?_
          refine zgetR C hS ff_X12_53_100 (hm 100 (by decide)) (hk (100, 33) (by decide)) dX12_change_101 ?_
          refine lv_iload C.1 C.2.1 dX12_change_104 (lv_at hl 6 rfl) ?_
          obtain ⟨hi, hf⟩ := zck_some hf
          refine zald C hS sh_114 (hm 114 (by decide)) hi dX12_change_106 ?_
          obtain ⟨r12, h13, er12, hf⟩ := zbd_some hf
          refine zcallVV (As := [.int x7, .int (h11 114 (Int32.toNatClampNeg x6))]) (rest := []) C hS mv_X12_102 (c_X12_sits l G h11 x7 (h11 114 (Int32.toNatClampNeg x6)) (r12, h13) (fun c h => hm c (sn_X12_change_X12_sits c h)) (fun q h => hk q (sl_X12_change_X12_sits q h)) er12) (hm 100 (by decide)) ⟨_, _, _, sh_100, rfl, rfl⟩ rfl rfl (Nat.le_of_ble_eq_true rfl) hl.1 ⟨Nat.le_of_ble_eq_true rfl, Nat.le_of_ble_eq_true rfl, Nat.le_of_ble_eq_true rfl, Nat.le_of_ble_eq_true rfl⟩ dX12_change_107 (fun H locs hS => ?_)
          refine lv_aload_n C.1 C.2.1 dX12_change_110 rfl (lv_at hl 0 rfl) ?_
          obtain ⟨r14, h15, er14, hf⟩ := zbd_some hf
          refine zcallVI (As := []) (rest := []) C hS mv_X12_299 (c_X12_merryNow l G h13  (r14, h15) (fun c h => hm c (sn_X12_change_X12_merryNow c h)) (fun q h => hk q (sl_X12_change_X12_merryNow q h)) er14) (hm 100 (by decide)) ⟨_, _, _, sh_100, rfl, rfl⟩ rfl rfl (Nat.le_of_ble_eq_true rfl) hl.1 ⟨Nat.le_of_ble_eq_true rfl, Nat.le_of_ble_eq_true rfl, Nat.le_of_ble_eq_true rfl, Nat.le_of_ble_eq_true rfl⟩ dX12_change_111 (fun H locs hS => ?_)
          refine lv_iload_n C.1 C.2.1 dX12_change_114 rfl (lv_at hl 2 rfl) ?_
          refine lv_isub C.1 C.2.1 dX12_change_115 ?_
          obtain ⟨y16, ey16, hf⟩ := zlt_some hf
          refine ztop ey16 ?_
          refine lv_istore (lv' := [(8, .int y16), (0, .ref (zal G 100)), (1, .int x1), (2, .int x2), (3, .int x3), (4, .int x4), (5, .int x5), (6, .int x6), (7, .int x7)]) C.1 C.2.1 dX12_change_116 hl (by decide) rfl (fun ls hl => ?_)
          refine lv_aload_n C.1 C.2.1 dX12_change_118 rfl (lv_at hl 1 rfl) ?_
          obtain ⟨r17, h18, er17, hf⟩ := zbd_some hf
          refine zcallVV (As := []) (rest := []) C hS mv_X12_326 (c_X12_backToSeats l G h15  (r17, h18) (fun c h => hm c (sn_X12_change_X12_backToSeats c h)) (fun q h => hk q (sl_X12_change_X12_backToSeats q h)) er17) (hm 100 (by decide)) ⟨_, _, _, sh_100, rfl, rfl⟩ rfl rfl (Nat.le_of_ble_eq_true rfl) hl.1 ⟨Nat.le_of_ble_eq_true rfl, Nat.le_of_ble_eq_true rfl, Nat.le_of_ble_eq_true rfl, Nat.le_of_ble_eq_true rfl⟩ dX12_change_119 (fun H locs hS => ?_)
          refine lv_iload C.1 C.2.1 dX12_change_122 (lv_at hl 0 rfl) ?_
          refine lv_iload_n C.1 C.2.1 dX12_change_124 rfl (lv_at hl 4 rfl) ?_
          refine lv_icmp_gt (tgt := 131) C.1 C.2.1 dX12_change_125 (by decide) (fun hc => ?_) (fun hc => ?_)
          · have hf := zif_t hc hf
            refine lv_iload C.1 C.2.1 dX12_change_131 (lv_at hl 0 rfl) ?_
            refine lv_istore_n (lv' := [(3, .int y16), (8, .int y16), (0, .ref (zal G 100)), (1, .int x1), (2, .int x2), (4, .int x4), (5, .int x5), (6, .int x6), (7, .int x7)]) C.1 C.2.1 dX12_change_133 rfl hl (by decide) rfl (fun ls hl => ?_)
            refine lv_iload C.1 C.2.1 dX12_change_134 (lv_at hl 7 rfl) ?_
            refine lv_istore (lv' := [(4, .int x6), (3, .int y16), (8, .int y16), (0, .ref (zal G 100)), (1, .int x1), (2, .int x2), (5, .int x5), (6, .int x6), (7, .int x7)]) C.1 C.2.1 dX12_change_136 hl (by decide) rfl (fun ls hl => ?_)
            refine lv_iload C.1 C.2.1 dX12_change_138 (lv_at hl 8 rfl) ?_
            refine lv_istore (lv' := [(5, .int x7), (4, .int x6), (3, .int y16), (8, .int y16), (0, .ref (zal G 100)), (1, .int x1), (2, .int x2), (6, .int x6), (7, .int x7)]) C.1 C.2.1 dX12_change_140 hl (by decide) rfl (fun ls hl => ?_)
            exact w_X12_change_142 C hm hk hk31 ih _ _ _ _ _ _ _ _ _ _ _ (lv_sub hl [4, 5, 6, 2, 1, 0, 7, 8] rfl) hS hf
          · have hf := zif_f hc hf
            refine lv_goto (tgt := 142) C.1 C.2.1 dX12_change_128 (by decide) ?_
            exact w_X12_change_142 C hm hk hk31 ih _ _ _ _ _ _ _ _ _ _ _ (lv_sub hl [1, 2, 3, 4, 5, 6, 7, 8] rfl) hS hf
        · have hf := zif_t hc hf
          refine lv_goto (tgt := 142) C.1 C.2.1 dX12_change_81 (by decide) ?_
          exact w_X12_change_142 C hm hk hk31 ih _ _ _ _ _ _ _ _ _ _ _ (lv_sub hl [0, 1, 2, 3, 4, 5, 6, 7] rfl) hS hf
set_option maxHeartbeats 4000000 in
set_option maxRecDepth 100000 in
theorem w_X12_change_31  (C : zC G p s m args meth c cX12_change 9 RX12 (some .int)) (hm : ∀ c ∈ nd_X12_change, c ∈ znm G) (hk : ∀ q ∈ ld_X12_change, zlk G q.1 q.2 = true)  : ∀ n, ∀ (ls : Array Slot) (H : Heap) (locs : List Loc) (h : zH) (x1 : Int32) (x2 : Int32) (x3 : Int32) (x4 : Int32) (x5 : Int32) (x6 : Int32), lv_has ls 9 [(0, .ref (zal G 100)), (1, .int x1), (2, .int x2), (3, .int x3), (4, .int x4), (5, .int x5), (6, .int x6)] → zS G h s.heap H locs → f_X12_change_31  n x1 x2 x3 x4 x5 x6 h = some q → W p l e (zrm (8)) s m args below meth c H locs 0 0 (MQ below (zQI G q.2 q.1) args s 0 0 (zA G)) (F0 m 31 ls []) := by
  intro n
  induction n with
  | zero => intro ls H locs h x1 x2 x3 x4 x5 x6 hl hS hf; cases hf
  | succ n ih =>
    intro ls H locs h x1 x2 x3 x4 x5 x6 hl hS hf
    rw [f_X12_change_31] at hf
    refine lv_iload C.1 C.2.1 dX12_change_31 (lv_at hl 6 rfl) ?_
    refine lv_aload_n C.1 C.2.1 dX12_change_33 rfl (lv_at hl 0 rfl) ?_
    refine zgetR C hS ff_X12_7_100 (hm 100 (by decide)) (hk (100, 0) (by decide)) dX12_change_34 ?_
    refine lv_iconst (v := (4 : Int32)) C.1 C.2.1 dX12_change_37 rfl ?_
    refine zald C hS sh_101 (hm 101 (by decide)) (vp_in_iff.mpr (by decide)) dX12_change_38 ?_
    refine lv_icmp_ge (tgt := 154) C.1 C.2.1 dX12_change_39 (by decide) (fun hc => ?_) (fun hc => ?_)
    · have hf := zif_t hc hf
      refine lv_iload C.1 C.2.1 dX12_change_154 (lv_at hl 4 rfl) ?_
      refine lv_iconst (v := (-1 : Int32)) C.1 C.2.1 dX12_change_156 rfl ?_
      refine lv_icmp_ne (tgt := 164) C.1 C.2.1 dX12_change_157 (by decide) (fun hc => ?_) (fun hc => ?_)
      · have hf := zif_f hc hf
        refine lv_iload_n C.1 C.2.1 dX12_change_164 rfl (lv_at hl 1 rfl) ?_
        refine lv_if_ne (tgt := 173) C.1 C.2.1 dX12_change_165 (by decide) (fun hc => ?_) (fun hc => ?_)
        · have hf := zif_f hc hf
          refine lv_iload_n C.1 C.2.1 dX12_change_173 rfl (lv_at hl 1 rfl) ?_
          refine lv_iconst (v := (1 : Int32)) C.1 C.2.1 dX12_change_174 rfl ?_
          refine lv_icmp_ne (tgt := 183) C.1 C.2.1 dX12_change_175 (by decide) (fun hc => ?_) (fun hc => ?_)
          · have hf := zif_f hc hf
            refine lv_iload_n C.1 C.2.1 dX12_change_183 rfl (lv_at hl 3 rfl) ?_
            exact zretI C hS hf dX12_change_184
          · have hf := zif_t hc hf
            refine lv_iload C.1 C.2.1 dX12_change_178 (lv_at hl 5 rfl) ?_
            refine lv_goto (tgt := 184) C.1 C.2.1 dX12_change_180 (by decide) ?_
            exact zretI C hS hf dX12_change_184
        · have hf := zif_t hc hf
          refine lv_iload C.1 C.2.1 dX12_change_168 (lv_at hl 4 rfl) ?_
          refine lv_goto (tgt := 184) C.1 C.2.1 dX12_change_170 (by decide) ?_
          exact zretI C hS hf dX12_change_184
      · have hf := zif_t hc hf
        refine lv_iconst (v := (-1 : Int32)) C.1 C.2.1 dX12_change_160 rfl ?_
        refine lv_goto (tgt := 184) C.1 C.2.1 dX12_change_161 (by decide) ?_
        exact zretI C hS hf dX12_change_184
    · have hf := zif_f hc hf
      refine lv_iload C.1 C.2.1 dX12_change_42 (lv_at hl 6 rfl) ?_
      refine lv_iconst (v := (1 : Int32)) C.1 C.2.1 dX12_change_44 rfl ?_
      refine lv_iadd C.1 C.2.1 dX12_change_45 ?_
      obtain ⟨y7, ey7, hf⟩ := zlt_some hf
      refine ztop ey7 ?_
      refine lv_istore (lv' := [(7, .int y7), (0, .ref (zal G 100)), (1, .int x1), (2, .int x2), (3, .int x3), (4, .int x4), (5, .int x5), (6, .int x6)]) C.1 C.2.1 dX12_change_46 hl (by decide) rfl (fun ls hl => ?_)
      exact w_X12_change_48 C hm hk ih zN _ _ _ _ _ _ _ _ _ _ _ (lv_sub hl [1, 2, 3, 4, 5, 6, 7, 0] rfl) hS hf
set_option maxHeartbeats 4000000 in
set_option maxRecDepth 100000 in
theorem c_X12_change (l : Launch) (G : zG) (h : zH) (x1 : Int32) (q : Int32 × zH) (hm : ∀ c ∈ nd_X12_change, c ∈ znm G) (hk : ∀ q ∈ ld_X12_change, zlk G q.1 q.2 = true) (hf : f_X12_change x1 h = some q) : zCtI l yX12_change cX12_change 9 (some .int) (8) [.ref (zal G 100), .int x1] G h q.2 q.1 := by
  refine zMetI (by decide) (Nat.le_of_ble_eq_true rfl) ?_
  intro p e s m below meth c ls C hl hS
  have hl : lv_has ls 9 [(0, .ref (zal G 100)), (1, .int x1)] := hl
  have C : zC G p s m [.ref (zal G 100), .int x1].toArray meth c cX12_change 9 RX12 (some .int) := C
  unfold f_X12_change at hf
  refine lv_iload_n C.1 C.2.1 dX12_change_0 rfl (lv_at hl 1 rfl) ?_
  refine lv_iconst (v := (0 : Int32)) C.1 C.2.1 dX12_change_1 rfl ?_
  refine lv_iconst (v := (2 : Int32)) C.1 C.2.1 dX12_change_2 rfl ?_
  obtain ⟨r1, h2, er1, hf⟩ := zbd_some hf
  refine zcallSI (As := [.int x1, .int (0 : Int32), .int (2 : Int32)]) (rest := []) C hS ms_X12_65 (c_X12_isIn l G h x1 (0 : Int32) (2 : Int32) (r1, h2) (fun c h => hm c (sn_X12_change_X12_isIn c h)) (fun q h => hk q (sl_X12_change_X12_isIn q h)) er1) rfl rfl (Nat.le_of_ble_eq_true rfl) hl.1 ⟨Nat.le_of_ble_eq_true rfl, Nat.le_of_ble_eq_true rfl, Nat.le_of_ble_eq_true rfl, Nat.le_of_ble_eq_true rfl⟩ dX12_change_3 (fun H locs hS => ?_)
  refine lv_if_ne (tgt := 11) C.1 C.2.1 dX12_change_6 (by decide) (fun hc => ?_) (fun hc => ?_)
  · have hf := zif_f hc hf
    refine lv_aload_n C.1 C.2.1 dX12_change_11 rfl (lv_at hl 0 rfl) ?_
    obtain ⟨r3, h4, er3, hf⟩ := zbd_some hf
    refine zcallVV (As := []) (rest := []) C hS mv_X12_323 (c_X12_laysSeats l G h2  (r3, h4) (fun c h => hm c (sn_X12_change_X12_laysSeats c h)) (fun q h => hk q (sl_X12_change_X12_laysSeats q h)) er3) (hm 100 (by decide)) ⟨_, _, _, sh_100, rfl, rfl⟩ rfl rfl (Nat.le_of_ble_eq_true rfl) hl.1 ⟨Nat.le_of_ble_eq_true rfl, Nat.le_of_ble_eq_true rfl, Nat.le_of_ble_eq_true rfl, Nat.le_of_ble_eq_true rfl⟩ dX12_change_12 (fun H locs hS => ?_)
    refine lv_aload_n C.1 C.2.1 dX12_change_15 rfl (lv_at hl 0 rfl) ?_
    obtain ⟨r5, h6, er5, hf⟩ := zbd_some hf
    refine zcallVI (As := []) (rest := []) C hS mv_X12_299 (c_X12_merryNow l G h4  (r5, h6) (fun c h => hm c (sn_X12_change_X12_merryNow c h)) (fun q h => hk q (sl_X12_change_X12_merryNow q h)) er5) (hm 100 (by decide)) ⟨_, _, _, sh_100, rfl, rfl⟩ rfl rfl (Nat.le_of_ble_eq_true rfl) hl.1 ⟨Nat.le_of_ble_eq_true rfl, Nat.le_of_ble_eq_true rfl, Nat.le_of_ble_eq_true rfl, Nat.le_of_ble_eq_true rfl⟩ dX12_change_16 (fun H locs hS => ?_)
    refine lv_istore_n (lv' := [(2, .int r5), (0, .ref (zal G 100)), (1, .int x1)]) C.1 C.2.1 dX12_change_19 rfl hl (by decide) rfl (fun ls hl => ?_)
    refine lv_iconst (v := (0 : Int32)) C.1 C.2.1 dX12_change_20 rfl ?_
    refine lv_istore_n (lv' := [(3, .int (0 : Int32)), (2, .int r5), (0, .ref (zal G 100)), (1, .int x1)]) C.1 C.2.1 dX12_change_21 rfl hl (by decide) rfl (fun ls hl => ?_)
    refine lv_iconst (v := (-1 : Int32)) C.1 C.2.1 dX12_change_22 rfl ?_
    refine lv_istore (lv' := [(4, .int (-1 : Int32)), (3, .int (0 : Int32)), (2, .int r5), (0, .ref (zal G 100)), (1, .int x1)]) C.1 C.2.1 dX12_change_23 hl (by decide) rfl (fun ls hl => ?_)
    refine lv_iconst (v := (-1 : Int32)) C.1 C.2.1 dX12_change_25 rfl ?_
    refine lv_istore (lv' := [(5, .int (-1 : Int32)), (4, .int (-1 : Int32)), (3, .int (0 : Int32)), (2, .int r5), (0, .ref (zal G 100)), (1, .int x1)]) C.1 C.2.1 dX12_change_26 hl (by decide) rfl (fun ls hl => ?_)
    refine lv_iconst (v := (0 : Int32)) C.1 C.2.1 dX12_change_28 rfl ?_
    refine lv_istore (lv' := [(6, .int (0 : Int32)), (5, .int (-1 : Int32)), (4, .int (-1 : Int32)), (3, .int (0 : Int32)), (2, .int r5), (0, .ref (zal G 100)), (1, .int x1)]) C.1 C.2.1 dX12_change_29 hl (by decide) rfl (fun ls hl => ?_)
    exact w_X12_change_31 C hm hk  zN _ _ _ _ _ _ _ _ _ _ (lv_sub hl [5, 6, 4, 3, 2, 1, 0] rfl) hS hf
  · have hf := zif_t hc hf
    refine lv_iconst (v := (-1 : Int32)) C.1 C.2.1 dX12_change_9 rfl ?_
    exact zretI C hS hf dX12_change_10
end
section
theorem dX12_away_0 : decode cX12_away 0 = .ok (.aload_n 0, 1) := by decide +kernel
theorem dX12_away_1 : decode cX12_away 1 = .ok (.invokevirtual 323, 3) := by decide +kernel
theorem dX12_away_4 : decode cX12_away 4 = .ok (.iconst 0, 1) := by decide +kernel
theorem dX12_away_5 : decode cX12_away 5 = .ok (.istore_n 2, 1) := by decide +kernel
theorem dX12_away_6 : decode cX12_away 6 = .ok (.iconst 0, 1) := by decide +kernel
theorem dX12_away_7 : decode cX12_away 7 = .ok (.istore_n 3, 1) := by decide +kernel
theorem dX12_away_8 : decode cX12_away 8 = .ok (.iload_n 3, 1) := by decide +kernel
theorem dX12_away_9 : decode cX12_away 9 = .ok (.aload_n 0, 1) := by decide +kernel
theorem dX12_away_10 : decode cX12_away 10 = .ok (.getfield 7, 3) := by decide +kernel
theorem dX12_away_13 : decode cX12_away 13 = .ok (.iconst 4, 1) := by decide +kernel
theorem dX12_away_14 : decode cX12_away 14 = .ok (.iaload, 1) := by decide +kernel
theorem dX12_away_15 : decode cX12_away 15 = .ok (.if_icmp .ge 57, 3) := by decide +kernel
theorem dX12_away_18 : decode cX12_away 18 = .ok (.aload_n 0, 1) := by decide +kernel
theorem dX12_away_19 : decode cX12_away 19 = .ok (.getfield 53, 3) := by decide +kernel
theorem dX12_away_22 : decode cX12_away 22 = .ok (.iload_n 3, 1) := by decide +kernel
theorem dX12_away_23 : decode cX12_away 23 = .ok (.iaload, 1) := by decide +kernel
theorem dX12_away_24 : decode cX12_away 24 = .ok (.iconst (-1), 1) := by decide +kernel
theorem dX12_away_25 : decode cX12_away 25 = .ok (.if_icmp .ne 6, 3) := by decide +kernel
theorem dX12_away_28 : decode cX12_away 28 = .ok (.goto 38, 3) := by decide +kernel
theorem dX12_away_31 : decode cX12_away 31 = .ok (.aload_n 0, 1) := by decide +kernel
theorem dX12_away_32 : decode cX12_away 32 = .ok (.iload_n 3, 1) := by decide +kernel
theorem dX12_away_33 : decode cX12_away 33 = .ok (.iconst (-1), 1) := by decide +kernel
theorem dX12_away_34 : decode cX12_away 34 = .ok (.invokevirtual 102, 3) := by decide +kernel
theorem dX12_away_37 : decode cX12_away 37 = .ok (.iload_n 2, 1) := by decide +kernel
theorem dX12_away_38 : decode cX12_away 38 = .ok (.aload_n 0, 1) := by decide +kernel
theorem dX12_away_39 : decode cX12_away 39 = .ok (.invokevirtual 299, 3) := by decide +kernel
theorem dX12_away_42 : decode cX12_away 42 = .ok (.iload_n 1, 1) := by decide +kernel
theorem dX12_away_43 : decode cX12_away 43 = .ok (.if_icmp .ne 9, 3) := by decide +kernel
theorem dX12_away_46 : decode cX12_away 46 = .ok (.iconst 1, 1) := by decide +kernel
theorem dX12_away_47 : decode cX12_away 47 = .ok (.iload_n 3, 1) := by decide +kernel
theorem dX12_away_48 : decode cX12_away 48 = .ok (.ishl, 1) := by decide +kernel
theorem dX12_away_49 : decode cX12_away 49 = .ok (.goto 4, 3) := by decide +kernel
theorem dX12_away_52 : decode cX12_away 52 = .ok (.iconst 0, 1) := by decide +kernel
theorem dX12_away_53 : decode cX12_away 53 = .ok (.ior, 1) := by decide +kernel
theorem dX12_away_54 : decode cX12_away 54 = .ok (.istore_n 2, 1) := by decide +kernel
theorem dX12_away_55 : decode cX12_away 55 = .ok (.aload_n 0, 1) := by decide +kernel
theorem dX12_away_56 : decode cX12_away 56 = .ok (.iload_n 3, 1) := by decide +kernel
theorem dX12_away_57 : decode cX12_away 57 = .ok (.aload_n 0, 1) := by decide +kernel
theorem dX12_away_58 : decode cX12_away 58 = .ok (.getfield 53, 3) := by decide +kernel
theorem dX12_away_61 : decode cX12_away 61 = .ok (.iload_n 3, 1) := by decide +kernel
theorem dX12_away_62 : decode cX12_away 62 = .ok (.iaload, 1) := by decide +kernel
theorem dX12_away_63 : decode cX12_away 63 = .ok (.invokevirtual 102, 3) := by decide +kernel
theorem dX12_away_66 : decode cX12_away 66 = .ok (.iinc 3 1, 3) := by decide +kernel
theorem dX12_away_69 : decode cX12_away 69 = .ok (.goto (-61), 3) := by decide +kernel
theorem dX12_away_72 : decode cX12_away 72 = .ok (.iload_n 2, 1) := by decide +kernel
theorem dX12_away_73 : decode cX12_away 73 = .ok (.ireturn, 1) := by decide +kernel
abbrev nd_X12_away : List Nat := [100, 101, 104, 108, 109, 114]
abbrev ld_X12_away : List (Nat × Nat) := [(100, 0), (100, 3), (100, 9), (100, 10), (100, 33)]
theorem sn_X12_away_X12_laysSeats : ∀ c ∈ nd_X12_laysSeats, c ∈ nd_X12_away := by decide
theorem sl_X12_away_X12_laysSeats : ∀ q ∈ ld_X12_laysSeats, q ∈ ld_X12_away := by decide
theorem sn_X12_away_X12_sits : ∀ c ∈ nd_X12_sits, c ∈ nd_X12_away := by decide
theorem sl_X12_away_X12_sits : ∀ q ∈ ld_X12_sits, q ∈ ld_X12_away := by decide
theorem sn_X12_away_X12_merryNow : ∀ c ∈ nd_X12_merryNow, c ∈ nd_X12_away := by decide
theorem sl_X12_away_X12_merryNow : ∀ q ∈ ld_X12_merryNow, q ∈ ld_X12_away := by decide
def f_X12_away_66 (k8 : Int32 → Int32 → Int32 → zH → zR) (x1 : Int32) (x2 : Int32) (x3 : Int32) (h : zH) : zR := (zlt (x3 + (1 : Int32)) fun y10 => (k8 x1 x2 y10 h))
def f_X12_away_53 (k8 : Int32 → Int32 → Int32 → zH → zR) (x1 : Int32) (x3 : Int32) (s0 : Int32) (s1 : Int32) (h : zH) : zR := (zlt (s1 ||| s0) fun y7 => (zck x3 8 (zbd (f_X12_sits x3 (h 114 (Int32.toNatClampNeg x3)) h) fun r8 h9 => (f_X12_away_66 k8 x1 y7 x3 h9))))
def f_X12_away_8  : Nat → Int32 → Int32 → Int32 → zH → zR
  | 0 => fun _ _ _ _ => none
  | n + 1 => fun x1 x2 x3 h => (if (h 101 4) ≤ x3 then (some (x2, h)) else (zck x3 8 (if (h 114 (Int32.toNatClampNeg x3)) = (-1 : Int32) then (f_X12_away_66 (f_X12_away_8  n) x1 x2 x3 h) else (zbd (f_X12_sits x3 (-1 : Int32) h) fun r3 h4 => (zbd (f_X12_merryNow  h4) fun r5 h6 => (if r5 = x1 then (f_X12_away_53 (f_X12_away_8  n) x1 x3 ((1 : Int32) <<< (x3 &&& 31)) x2 h6) else (f_X12_away_53 (f_X12_away_8  n) x1 x3 (0 : Int32) x2 h6)))))))
def f_X12_away  (x1 : Int32) (h : zH) : zR := (zbd (f_X12_laysSeats  h) fun r1 h2 => (f_X12_away_8  zN x1 (0 : Int32) (0 : Int32) h2))
variable {p : Program} {l : Launch} {e : Env} {s : State} {m : MethodId} {args : Array Value} {below : List Frame} {meth : Method} {c : Code} {G : zG} {q : Int32 × zH}
set_option maxHeartbeats 4000000 in
set_option maxRecDepth 100000 in
theorem w_X12_away_66 {k8 : Int32 → Int32 → Int32 → zH → zR} (C : zC G p s m args meth c cX12_away 4 RX12 (some .int)) (hm : ∀ c ∈ nd_X12_away, c ∈ znm G) (hk : ∀ q ∈ ld_X12_away, zlk G q.1 q.2 = true) (hk8 : ∀ (ls : Array Slot) (H : Heap) (locs : List Loc) (h : zH) (x1 : Int32) (x2 : Int32) (x3 : Int32), lv_has ls 4 [(0, .ref (zal G 100)), (1, .int x1), (2, .int x2), (3, .int x3)] → zS G h s.heap H locs → k8 x1 x2 x3 h = some q → W p l e (zrm (8)) s m args below meth c H locs 0 0 (MQ below (zQI G q.2 q.1) args s 0 0 (zA G)) (F0 m 8 ls [])) : ∀ (ls : Array Slot) (H : Heap) (locs : List Loc) (h : zH) (x1 : Int32) (x2 : Int32) (x3 : Int32), lv_has ls 4 [(0, .ref (zal G 100)), (1, .int x1), (2, .int x2), (3, .int x3)] → zS G h s.heap H locs → f_X12_away_66 k8 x1 x2 x3 h = some q → W p l e (zrm (8)) s m args below meth c H locs 0 0 (MQ below (zQI G q.2 q.1) args s 0 0 (zA G)) (F0 m 66 ls []) := by
  intro ls H locs h x1 x2 x3 hl hS hf
  unfold f_X12_away_66 at hf
  obtain ⟨y10, ey10, hf⟩ := zlt_some hf
  refine lv_iinc (v := y10) (lv' := [(3, .int y10), (0, .ref (zal G 100)), (1, .int x1), (2, .int x2)]) C.1 C.2.1 dX12_away_66 hl (k := 3) rfl ey10.symm (by decide) rfl (fun ls hl => ?_)
  refine lv_goto (tgt := 8) C.1 C.2.1 dX12_away_69 (by decide) ?_
  exact hk8 _ _ _ _ _ _ _ (lv_sub hl [1, 2, 3, 0] rfl) hS hf
set_option maxHeartbeats 4000000 in
set_option maxRecDepth 100000 in
theorem w_X12_away_53 {k8 : Int32 → Int32 → Int32 → zH → zR} (C : zC G p s m args meth c cX12_away 4 RX12 (some .int)) (hm : ∀ c ∈ nd_X12_away, c ∈ znm G) (hk : ∀ q ∈ ld_X12_away, zlk G q.1 q.2 = true) (hk8 : ∀ (ls : Array Slot) (H : Heap) (locs : List Loc) (h : zH) (x1 : Int32) (x2 : Int32) (x3 : Int32), lv_has ls 4 [(0, .ref (zal G 100)), (1, .int x1), (2, .int x2), (3, .int x3)] → zS G h s.heap H locs → k8 x1 x2 x3 h = some q → W p l e (zrm (8)) s m args below meth c H locs 0 0 (MQ below (zQI G q.2 q.1) args s 0 0 (zA G)) (F0 m 8 ls [])) : ∀ (ls : Array Slot) (H : Heap) (locs : List Loc) (h : zH) (x1 : Int32) (x3 : Int32) (s0 : Int32) (s1 : Int32), lv_has ls 4 [(0, .ref (zal G 100)), (1, .int x1), (3, .int x3)] → zS G h s.heap H locs → f_X12_away_53 k8 x1 x3 s0 s1 h = some q → W p l e (zrm (8)) s m args below meth c H locs 0 0 (MQ below (zQI G q.2 q.1) args s 0 0 (zA G)) (F0 m 53 ls [.int s0, .int s1]) := by
  intro ls H locs h x1 x3 s0 s1 hl hS hf
  unfold f_X12_away_53 at hf
  refine lv_ior C.1 C.2.1 dX12_away_53 ?_
  obtain ⟨y7, ey7, hf⟩ := zlt_some hf
  refine ztop ey7 ?_
  refine lv_istore_n (lv' := [(2, .int y7), (0, .ref (zal G 100)), (1, .int x1), (3, .int x3)]) C.1 C.2.1 dX12_away_54 rfl hl (by decide) rfl (fun ls hl => ?_)
  refine lv_aload_n C.1 C.2.1 dX12_away_55 rfl (lv_at hl 1 rfl) ?_
  refine lv_iload_n C.1 C.2.1 dX12_away_56 rfl (lv_at hl 3 rfl) ?_
  refine lv_aload_n C.1 C.2.1 dX12_away_57 rfl (lv_at hl 1 rfl) ?_
  refine zgetR C hS ff_X12_53_100 (hm 100 (by decide)) (hk (100, 33) (by decide)) dX12_away_58 ?_
  refine lv_iload_n C.1 C.2.1 dX12_away_61 rfl (lv_at hl 3 rfl) ?_
  obtain ⟨hi, hf⟩ := zck_some hf
  refine zald C hS sh_114 (hm 114 (by decide)) hi dX12_away_62 ?_
  obtain ⟨r8, h9, er8, hf⟩ := zbd_some hf
  refine zcallVV (As := [.int x3, .int (h 114 (Int32.toNatClampNeg x3))]) (rest := []) C hS mv_X12_102 (c_X12_sits l G h x3 (h 114 (Int32.toNatClampNeg x3)) (r8, h9) (fun c h => hm c (sn_X12_away_X12_sits c h)) (fun q h => hk q (sl_X12_away_X12_sits q h)) er8) (hm 100 (by decide)) ⟨_, _, _, sh_100, rfl, rfl⟩ rfl rfl (Nat.le_of_ble_eq_true rfl) hl.1 ⟨Nat.le_of_ble_eq_true rfl, Nat.le_of_ble_eq_true rfl, Nat.le_of_ble_eq_true rfl, Nat.le_of_ble_eq_true rfl⟩ dX12_away_63 (fun H locs hS => ?_)
  exact w_X12_away_66 C hm hk hk8 _ _ _ _ _ _ _ (lv_sub hl [1, 2, 0, 3] rfl) hS hf
set_option maxHeartbeats 4000000 in
set_option maxRecDepth 100000 in
theorem w_X12_away_8  (C : zC G p s m args meth c cX12_away 4 RX12 (some .int)) (hm : ∀ c ∈ nd_X12_away, c ∈ znm G) (hk : ∀ q ∈ ld_X12_away, zlk G q.1 q.2 = true)  : ∀ n, ∀ (ls : Array Slot) (H : Heap) (locs : List Loc) (h : zH) (x1 : Int32) (x2 : Int32) (x3 : Int32), lv_has ls 4 [(0, .ref (zal G 100)), (1, .int x1), (2, .int x2), (3, .int x3)] → zS G h s.heap H locs → f_X12_away_8  n x1 x2 x3 h = some q → W p l e (zrm (8)) s m args below meth c H locs 0 0 (MQ below (zQI G q.2 q.1) args s 0 0 (zA G)) (F0 m 8 ls []) := by
  intro n
  induction n with
  | zero => intro ls H locs h x1 x2 x3 hl hS hf; cases hf
  | succ n ih =>
    intro ls H locs h x1 x2 x3 hl hS hf
    rw [f_X12_away_8] at hf
    refine lv_iload_n C.1 C.2.1 dX12_away_8 rfl (lv_at hl 3 rfl) ?_
    refine lv_aload_n C.1 C.2.1 dX12_away_9 rfl (lv_at hl 0 rfl) ?_
    refine zgetR C hS ff_X12_7_100 (hm 100 (by decide)) (hk (100, 0) (by decide)) dX12_away_10 ?_
    refine lv_iconst (v := (4 : Int32)) C.1 C.2.1 dX12_away_13 rfl ?_
    refine zald C hS sh_101 (hm 101 (by decide)) (vp_in_iff.mpr (by decide)) dX12_away_14 ?_
    refine lv_icmp_ge (tgt := 72) C.1 C.2.1 dX12_away_15 (by decide) (fun hc => ?_) (fun hc => ?_)
    · have hf := zif_t hc hf
      refine lv_iload_n C.1 C.2.1 dX12_away_72 rfl (lv_at hl 2 rfl) ?_
      exact zretI C hS hf dX12_away_73
    · have hf := zif_f hc hf
      refine lv_aload_n C.1 C.2.1 dX12_away_18 rfl (lv_at hl 0 rfl) ?_
      refine zgetR C hS ff_X12_53_100 (hm 100 (by decide)) (hk (100, 33) (by decide)) dX12_away_19 ?_
      refine lv_iload_n C.1 C.2.1 dX12_away_22 rfl (lv_at hl 3 rfl) ?_
      obtain ⟨hi, hf⟩ := zck_some hf
      refine zald C hS sh_114 (hm 114 (by decide)) hi dX12_away_23 ?_
      refine lv_iconst (v := (-1 : Int32)) C.1 C.2.1 dX12_away_24 rfl ?_
      refine lv_icmp_ne (tgt := 31) C.1 C.2.1 dX12_away_25 (by decide) (fun hc => ?_) (fun hc => ?_)
      · have hf := zif_f hc hf
        refine lv_aload_n C.1 C.2.1 dX12_away_31 rfl (lv_at hl 0 rfl) ?_
        refine lv_iload_n C.1 C.2.1 dX12_away_32 rfl (lv_at hl 3 rfl) ?_
        refine lv_iconst (v := (-1 : Int32)) C.1 C.2.1 dX12_away_33 rfl ?_
        obtain ⟨r3, h4, er3, hf⟩ := zbd_some hf
        refine zcallVV (As := [.int x3, .int (-1 : Int32)]) (rest := []) C hS mv_X12_102 (c_X12_sits l G h x3 (-1 : Int32) (r3, h4) (fun c h => hm c (sn_X12_away_X12_sits c h)) (fun q h => hk q (sl_X12_away_X12_sits q h)) er3) (hm 100 (by decide)) ⟨_, _, _, sh_100, rfl, rfl⟩ rfl rfl (Nat.le_of_ble_eq_true rfl) hl.1 ⟨Nat.le_of_ble_eq_true rfl, Nat.le_of_ble_eq_true rfl, Nat.le_of_ble_eq_true rfl, Nat.le_of_ble_eq_true rfl⟩ dX12_away_34 (fun H locs hS => ?_)
        refine lv_iload_n C.1 C.2.1 dX12_away_37 rfl (lv_at hl 2 rfl) ?_
        refine lv_aload_n C.1 C.2.1 dX12_away_38 rfl (lv_at hl 0 rfl) ?_
        obtain ⟨r5, h6, er5, hf⟩ := zbd_some hf
        refine zcallVI (As := []) (rest := [.int x2]) C hS mv_X12_299 (c_X12_merryNow l G h4  (r5, h6) (fun c h => hm c (sn_X12_away_X12_merryNow c h)) (fun q h => hk q (sl_X12_away_X12_merryNow q h)) er5) (hm 100 (by decide)) ⟨_, _, _, sh_100, rfl, rfl⟩ rfl rfl (Nat.le_of_ble_eq_true rfl) hl.1 ⟨Nat.le_of_ble_eq_true rfl, Nat.le_of_ble_eq_true rfl, Nat.le_of_ble_eq_true rfl, Nat.le_of_ble_eq_true rfl⟩ dX12_away_39 (fun H locs hS => ?_)
        refine lv_iload_n C.1 C.2.1 dX12_away_42 rfl (lv_at hl 1 rfl) ?_
        refine lv_icmp_ne (tgt := 52) C.1 C.2.1 dX12_away_43 (by decide) (fun hc => ?_) (fun hc => ?_)
        · have hf := zif_f hc hf
          refine lv_iconst (v := (0 : Int32)) C.1 C.2.1 dX12_away_52 rfl ?_
          exact w_X12_away_53 C hm hk ih _ _ _ _ _ _ _ _ (lv_sub hl [0, 1, 3] rfl) hS hf
        · have hf := zif_t hc hf
          refine lv_iconst (v := (1 : Int32)) C.1 C.2.1 dX12_away_46 rfl ?_
          refine lv_iload_n C.1 C.2.1 dX12_away_47 rfl (lv_at hl 3 rfl) ?_
          refine lv_ishl C.1 C.2.1 dX12_away_48 ?_
          refine lv_goto (tgt := 53) C.1 C.2.1 dX12_away_49 (by decide) ?_
          exact w_X12_away_53 C hm hk ih _ _ _ _ _ _ _ _ (lv_sub hl [0, 1, 3] rfl) hS hf
      · have hf := zif_t hc hf
        refine lv_goto (tgt := 66) C.1 C.2.1 dX12_away_28 (by decide) ?_
        exact w_X12_away_66 C hm hk ih _ _ _ _ _ _ _ (lv_sub hl [0, 1, 2, 3] rfl) hS hf
set_option maxHeartbeats 4000000 in
set_option maxRecDepth 100000 in
theorem c_X12_away (l : Launch) (G : zG) (h : zH) (x1 : Int32) (q : Int32 × zH) (hm : ∀ c ∈ nd_X12_away, c ∈ znm G) (hk : ∀ q ∈ ld_X12_away, zlk G q.1 q.2 = true) (hf : f_X12_away x1 h = some q) : zCtI l yX12_away cX12_away 4 (some .int) (8) [.ref (zal G 100), .int x1] G h q.2 q.1 := by
  refine zMetI (by decide) (Nat.le_of_ble_eq_true rfl) ?_
  intro p e s m below meth c ls C hl hS
  have hl : lv_has ls 4 [(0, .ref (zal G 100)), (1, .int x1)] := hl
  have C : zC G p s m [.ref (zal G 100), .int x1].toArray meth c cX12_away 4 RX12 (some .int) := C
  unfold f_X12_away at hf
  refine lv_aload_n C.1 C.2.1 dX12_away_0 rfl (lv_at hl 0 rfl) ?_
  obtain ⟨r1, h2, er1, hf⟩ := zbd_some hf
  refine zcallVV (As := []) (rest := []) C hS mv_X12_323 (c_X12_laysSeats l G h  (r1, h2) (fun c h => hm c (sn_X12_away_X12_laysSeats c h)) (fun q h => hk q (sl_X12_away_X12_laysSeats q h)) er1) (hm 100 (by decide)) ⟨_, _, _, sh_100, rfl, rfl⟩ rfl rfl (Nat.le_of_ble_eq_true rfl) hl.1 ⟨Nat.le_of_ble_eq_true rfl, Nat.le_of_ble_eq_true rfl, Nat.le_of_ble_eq_true rfl, Nat.le_of_ble_eq_true rfl⟩ dX12_away_1 (fun H locs hS => ?_)
  refine lv_iconst (v := (0 : Int32)) C.1 C.2.1 dX12_away_4 rfl ?_
  refine lv_istore_n (lv' := [(2, .int (0 : Int32)), (0, .ref (zal G 100)), (1, .int x1)]) C.1 C.2.1 dX12_away_5 rfl hl (by decide) rfl (fun ls hl => ?_)
  refine lv_iconst (v := (0 : Int32)) C.1 C.2.1 dX12_away_6 rfl ?_
  refine lv_istore_n (lv' := [(3, .int (0 : Int32)), (2, .int (0 : Int32)), (0, .ref (zal G 100)), (1, .int x1)]) C.1 C.2.1 dX12_away_7 rfl hl (by decide) rfl (fun ls hl => ?_)
  exact w_X12_away_8 C hm hk  zN _ _ _ _ _ _ _ (lv_sub hl [2, 3, 1, 0] rfl) hS hf
end
section
theorem dX12_laysQuarters_0 : decode cX12_laysQuarters 0 = .ok (.iconst 0, 1) := by decide +kernel
theorem dX12_laysQuarters_1 : decode cX12_laysQuarters 1 = .ok (.istore_n 1, 1) := by decide +kernel
theorem dX12_laysQuarters_2 : decode cX12_laysQuarters 2 = .ok (.iload_n 1, 1) := by decide +kernel
theorem dX12_laysQuarters_3 : decode cX12_laysQuarters 3 = .ok (.aload_n 0, 1) := by decide +kernel
theorem dX12_laysQuarters_4 : decode cX12_laysQuarters 4 = .ok (.getfield 7, 3) := by decide +kernel
theorem dX12_laysQuarters_7 : decode cX12_laysQuarters 7 = .ok (.iconst 3, 1) := by decide +kernel
theorem dX12_laysQuarters_8 : decode cX12_laysQuarters 8 = .ok (.iaload, 1) := by decide +kernel
theorem dX12_laysQuarters_9 : decode cX12_laysQuarters 9 = .ok (.if_icmp .ge 40, 3) := by decide +kernel
theorem dX12_laysQuarters_12 : decode cX12_laysQuarters 12 = .ok (.iconst 0, 1) := by decide +kernel
theorem dX12_laysQuarters_13 : decode cX12_laysQuarters 13 = .ok (.istore_n 2, 1) := by decide +kernel
theorem dX12_laysQuarters_14 : decode cX12_laysQuarters 14 = .ok (.iload_n 2, 1) := by decide +kernel
theorem dX12_laysQuarters_15 : decode cX12_laysQuarters 15 = .ok (.bipush 6, 2) := by decide +kernel
theorem dX12_laysQuarters_17 : decode cX12_laysQuarters 17 = .ok (.if_icmp .ge 26, 3) := by decide +kernel
theorem dX12_laysQuarters_20 : decode cX12_laysQuarters 20 = .ok (.aload_n 0, 1) := by decide +kernel
theorem dX12_laysQuarters_21 : decode cX12_laysQuarters 21 = .ok (.getfield 62, 3) := by decide +kernel
theorem dX12_laysQuarters_24 : decode cX12_laysQuarters 24 = .ok (.bipush 6, 2) := by decide +kernel
theorem dX12_laysQuarters_26 : decode cX12_laysQuarters 26 = .ok (.iload_n 1, 1) := by decide +kernel
theorem dX12_laysQuarters_27 : decode cX12_laysQuarters 27 = .ok (.imul, 1) := by decide +kernel
theorem dX12_laysQuarters_28 : decode cX12_laysQuarters 28 = .ok (.iload_n 2, 1) := by decide +kernel
theorem dX12_laysQuarters_29 : decode cX12_laysQuarters 29 = .ok (.iadd, 1) := by decide +kernel
theorem dX12_laysQuarters_30 : decode cX12_laysQuarters 30 = .ok (.aload_n 0, 1) := by decide +kernel
theorem dX12_laysQuarters_31 : decode cX12_laysQuarters 31 = .ok (.iload_n 1, 1) := by decide +kernel
theorem dX12_laysQuarters_32 : decode cX12_laysQuarters 32 = .ok (.iload_n 2, 1) := by decide +kernel
theorem dX12_laysQuarters_33 : decode cX12_laysQuarters 33 = .ok (.invokevirtual 88, 3) := by decide +kernel
theorem dX12_laysQuarters_36 : decode cX12_laysQuarters 36 = .ok (.iastore, 1) := by decide +kernel
theorem dX12_laysQuarters_37 : decode cX12_laysQuarters 37 = .ok (.iinc 2 1, 3) := by decide +kernel
theorem dX12_laysQuarters_40 : decode cX12_laysQuarters 40 = .ok (.goto (-26), 3) := by decide +kernel
theorem dX12_laysQuarters_43 : decode cX12_laysQuarters 43 = .ok (.iinc 1 1, 3) := by decide +kernel
theorem dX12_laysQuarters_46 : decode cX12_laysQuarters 46 = .ok (.goto (-44), 3) := by decide +kernel
theorem dX12_laysQuarters_49 : decode cX12_laysQuarters 49 = .ok (.return_, 1) := by decide +kernel
abbrev nd_X12_laysQuarters : List Nat := [100, 101, 117]
abbrev ld_X12_laysQuarters : List (Nat × Nat) := [(100, 0), (100, 37)]
theorem sn_X12_laysQuarters_X12_quarters : ∀ c ∈ nd_X12_quarters, c ∈ nd_X12_laysQuarters := by decide
theorem sl_X12_laysQuarters_X12_quarters : ∀ q ∈ ld_X12_quarters, q ∈ ld_X12_laysQuarters := by decide
def f_X12_laysQuarters_14 (k2 : Int32 → zH → zR) : Nat → Int32 → Int32 → zH → zR
  | 0 => fun _ _ _ => none
  | n + 1 => fun x1 x2 h => (if (6 : Int32) ≤ x2 then (zlt (x1 + (1 : Int32)) fun y1 => (k2 y1 h)) else (zbd (f_X12_quarters x1 x2 h) fun r2 h3 => (zck (((6 : Int32) * x1) + x2) 96 (zst (zup h3 117 (Int32.toNatClampNeg (((6 : Int32) * x1) + x2)) r2) fun h4 => (zlt (x2 + (1 : Int32)) fun y5 => (f_X12_laysQuarters_14 k2 n x1 y5 h4))))))
def f_X12_laysQuarters_2  : Nat → Int32 → zH → zR
  | 0 => fun _ _ => none
  | n + 1 => fun x1 h => (if (h 101 3) ≤ x1 then (some (0, h)) else (f_X12_laysQuarters_14 (f_X12_laysQuarters_2  n) zN x1 (0 : Int32) h))
def f_X12_laysQuarters  (h : zH) : zR := (f_X12_laysQuarters_2  zN (0 : Int32) h)
variable {p : Program} {l : Launch} {e : Env} {s : State} {m : MethodId} {args : Array Value} {below : List Frame} {meth : Method} {c : Code} {G : zG} {q : Int32 × zH}
set_option maxHeartbeats 4000000 in
set_option maxRecDepth 100000 in
theorem w_X12_laysQuarters_14 {k2 : Int32 → zH → zR} (C : zC G p s m args meth c cX12_laysQuarters 3 RX12 none) (hm : ∀ c ∈ nd_X12_laysQuarters, c ∈ znm G) (hk : ∀ q ∈ ld_X12_laysQuarters, zlk G q.1 q.2 = true) (hk2 : ∀ (ls : Array Slot) (H : Heap) (locs : List Loc) (h : zH) (x1 : Int32), lv_has ls 3 [(0, .ref (zal G 100)), (1, .int x1)] → zS G h s.heap H locs → k2 x1 h = some q → W p l e (zrm (4)) s m args below meth c H locs 0 0 (MQ below (zQV G q.2) args s 0 0 (zA G)) (F0 m 2 ls [])) : ∀ n, ∀ (ls : Array Slot) (H : Heap) (locs : List Loc) (h : zH) (x1 : Int32) (x2 : Int32), lv_has ls 3 [(0, .ref (zal G 100)), (1, .int x1), (2, .int x2)] → zS G h s.heap H locs → f_X12_laysQuarters_14 k2 n x1 x2 h = some q → W p l e (zrm (4)) s m args below meth c H locs 0 0 (MQ below (zQV G q.2) args s 0 0 (zA G)) (F0 m 14 ls []) := by
  intro n
  induction n with
  | zero => intro ls H locs h x1 x2 hl hS hf; cases hf
  | succ n ih =>
    intro ls H locs h x1 x2 hl hS hf
    rw [f_X12_laysQuarters_14] at hf
    refine lv_iload_n C.1 C.2.1 dX12_laysQuarters_14 rfl (lv_at hl 2 rfl) ?_
    refine lv_bipush (v := (6 : Int32)) C.1 C.2.1 dX12_laysQuarters_15 rfl ?_
    refine lv_icmp_ge (tgt := 43) C.1 C.2.1 dX12_laysQuarters_17 (by decide) (fun hc => ?_) (fun hc => ?_)
    · have hf := zif_t hc hf
      obtain ⟨y1, ey1, hf⟩ := zlt_some hf
      refine lv_iinc (v := y1) (lv' := [(1, .int y1), (0, .ref (zal G 100)), (2, .int x2)]) C.1 C.2.1 dX12_laysQuarters_43 hl (k := 1) rfl ey1.symm (by decide) rfl (fun ls hl => ?_)
      refine lv_goto (tgt := 2) C.1 C.2.1 dX12_laysQuarters_46 (by decide) ?_
      exact hk2 _ _ _ _ _ (lv_sub hl [1, 0] rfl) hS hf
    · have hf := zif_f hc hf
      refine lv_aload_n C.1 C.2.1 dX12_laysQuarters_20 rfl (lv_at hl 0 rfl) ?_
      refine zgetR C hS ff_X12_62_100 (hm 100 (by decide)) (hk (100, 37) (by decide)) dX12_laysQuarters_21 ?_
      refine lv_bipush (v := (6 : Int32)) C.1 C.2.1 dX12_laysQuarters_24 rfl ?_
      refine lv_iload_n C.1 C.2.1 dX12_laysQuarters_26 rfl (lv_at hl 1 rfl) ?_
      refine lv_imul C.1 C.2.1 dX12_laysQuarters_27 ?_
      refine lv_iload_n C.1 C.2.1 dX12_laysQuarters_28 rfl (lv_at hl 2 rfl) ?_
      refine lv_iadd C.1 C.2.1 dX12_laysQuarters_29 ?_
      refine lv_aload_n C.1 C.2.1 dX12_laysQuarters_30 rfl (lv_at hl 0 rfl) ?_
      refine lv_iload_n C.1 C.2.1 dX12_laysQuarters_31 rfl (lv_at hl 1 rfl) ?_
      refine lv_iload_n C.1 C.2.1 dX12_laysQuarters_32 rfl (lv_at hl 2 rfl) ?_
      obtain ⟨r2, h3, er2, hf⟩ := zbd_some hf
      refine zcallVI (As := [.int x1, .int x2]) (rest := [.int (((6 : Int32) * x1) + x2), .ref (zal G 117)]) C hS mv_X12_88 (c_X12_quarters l G h x1 x2 (r2, h3) (fun c h => hm c (sn_X12_laysQuarters_X12_quarters c h)) (fun q h => hk q (sl_X12_laysQuarters_X12_quarters q h)) er2) (hm 100 (by decide)) ⟨_, _, _, sh_100, rfl, rfl⟩ rfl rfl (Nat.le_of_ble_eq_true rfl) hl.1 ⟨Nat.le_of_ble_eq_true rfl, Nat.le_of_ble_eq_true rfl, Nat.le_of_ble_eq_true rfl, Nat.le_of_ble_eq_true rfl⟩ dX12_laysQuarters_33 (fun H locs hS => ?_)
      obtain ⟨hi, hf⟩ := zck_some hf
      refine zast C hS sh_117 (hm 117 (by decide)) hi dX12_laysQuarters_36 (fun H locs hS => ?_)
      obtain ⟨h4, eh4, hf⟩ := zst_some hf
      have hS : zS G h4 s.heap H locs := by rw [eh4]; exact hS
      obtain ⟨y5, ey5, hf⟩ := zlt_some hf
      refine lv_iinc (v := y5) (lv' := [(2, .int y5), (0, .ref (zal G 100)), (1, .int x1)]) C.1 C.2.1 dX12_laysQuarters_37 hl (k := 2) rfl ey5.symm (by decide) rfl (fun ls hl => ?_)
      refine lv_goto (tgt := 14) C.1 C.2.1 dX12_laysQuarters_40 (by decide) ?_
      exact ih _ _ _ _ _ _ (lv_sub hl [1, 2, 0] rfl) hS hf
set_option maxHeartbeats 4000000 in
set_option maxRecDepth 100000 in
theorem w_X12_laysQuarters_2  (C : zC G p s m args meth c cX12_laysQuarters 3 RX12 none) (hm : ∀ c ∈ nd_X12_laysQuarters, c ∈ znm G) (hk : ∀ q ∈ ld_X12_laysQuarters, zlk G q.1 q.2 = true)  : ∀ n, ∀ (ls : Array Slot) (H : Heap) (locs : List Loc) (h : zH) (x1 : Int32), lv_has ls 3 [(0, .ref (zal G 100)), (1, .int x1)] → zS G h s.heap H locs → f_X12_laysQuarters_2  n x1 h = some q → W p l e (zrm (4)) s m args below meth c H locs 0 0 (MQ below (zQV G q.2) args s 0 0 (zA G)) (F0 m 2 ls []) := by
  intro n
  induction n with
  | zero => intro ls H locs h x1 hl hS hf; cases hf
  | succ n ih =>
    intro ls H locs h x1 hl hS hf
    rw [f_X12_laysQuarters_2] at hf
    refine lv_iload_n C.1 C.2.1 dX12_laysQuarters_2 rfl (lv_at hl 1 rfl) ?_
    refine lv_aload_n C.1 C.2.1 dX12_laysQuarters_3 rfl (lv_at hl 0 rfl) ?_
    refine zgetR C hS ff_X12_7_100 (hm 100 (by decide)) (hk (100, 0) (by decide)) dX12_laysQuarters_4 ?_
    refine lv_iconst (v := (3 : Int32)) C.1 C.2.1 dX12_laysQuarters_7 rfl ?_
    refine zald C hS sh_101 (hm 101 (by decide)) (vp_in_iff.mpr (by decide)) dX12_laysQuarters_8 ?_
    refine lv_icmp_ge (tgt := 49) C.1 C.2.1 dX12_laysQuarters_9 (by decide) (fun hc => ?_) (fun hc => ?_)
    · have hf := zif_t hc hf
      exact zretV C hS hf dX12_laysQuarters_49
    · have hf := zif_f hc hf
      refine lv_iconst (v := (0 : Int32)) C.1 C.2.1 dX12_laysQuarters_12 rfl ?_
      refine lv_istore_n (lv' := [(2, .int (0 : Int32)), (0, .ref (zal G 100)), (1, .int x1)]) C.1 C.2.1 dX12_laysQuarters_13 rfl hl (by decide) rfl (fun ls hl => ?_)
      exact w_X12_laysQuarters_14 C hm hk ih zN _ _ _ _ _ _ (lv_sub hl [1, 2, 0] rfl) hS hf
set_option maxHeartbeats 4000000 in
set_option maxRecDepth 100000 in
theorem c_X12_laysQuarters (l : Launch) (G : zG) (h : zH) (q : Int32 × zH) (hm : ∀ c ∈ nd_X12_laysQuarters, c ∈ znm G) (hk : ∀ q ∈ ld_X12_laysQuarters, zlk G q.1 q.2 = true) (hf : f_X12_laysQuarters h = some q) : zCtV l yX12_laysQuarters cX12_laysQuarters 3 none (4) [.ref (zal G 100)] G h q.2 := by
  refine zMetV (by decide) (Nat.le_of_ble_eq_true rfl) ?_
  intro p e s m below meth c ls C hl hS
  have hl : lv_has ls 3 [(0, .ref (zal G 100))] := hl
  have C : zC G p s m [.ref (zal G 100)].toArray meth c cX12_laysQuarters 3 RX12 none := C
  unfold f_X12_laysQuarters at hf
  refine lv_iconst (v := (0 : Int32)) C.1 C.2.1 dX12_laysQuarters_0 rfl ?_
  refine lv_istore_n (lv' := [(1, .int (0 : Int32)), (0, .ref (zal G 100))]) C.1 C.2.1 dX12_laysQuarters_1 rfl hl (by decide) rfl (fun ls hl => ?_)
  exact w_X12_laysQuarters_2 C hm hk  zN _ _ _ _ _ (lv_sub hl [1, 0] rfl) hS hf
end
section
theorem dX12_putsQuarters_0 : decode cX12_putsQuarters 0 = .ok (.iconst 0, 1) := by decide +kernel
theorem dX12_putsQuarters_1 : decode cX12_putsQuarters 1 = .ok (.istore_n 1, 1) := by decide +kernel
theorem dX12_putsQuarters_2 : decode cX12_putsQuarters 2 = .ok (.iload_n 1, 1) := by decide +kernel
theorem dX12_putsQuarters_3 : decode cX12_putsQuarters 3 = .ok (.aload_n 0, 1) := by decide +kernel
theorem dX12_putsQuarters_4 : decode cX12_putsQuarters 4 = .ok (.getfield 7, 3) := by decide +kernel
theorem dX12_putsQuarters_7 : decode cX12_putsQuarters 7 = .ok (.iconst 3, 1) := by decide +kernel
theorem dX12_putsQuarters_8 : decode cX12_putsQuarters 8 = .ok (.iaload, 1) := by decide +kernel
theorem dX12_putsQuarters_9 : decode cX12_putsQuarters 9 = .ok (.if_icmp .ge 50, 3) := by decide +kernel
theorem dX12_putsQuarters_12 : decode cX12_putsQuarters 12 = .ok (.iconst 0, 1) := by decide +kernel
theorem dX12_putsQuarters_13 : decode cX12_putsQuarters 13 = .ok (.istore_n 2, 1) := by decide +kernel
theorem dX12_putsQuarters_14 : decode cX12_putsQuarters 14 = .ok (.iload_n 2, 1) := by decide +kernel
theorem dX12_putsQuarters_15 : decode cX12_putsQuarters 15 = .ok (.bipush 6, 2) := by decide +kernel
theorem dX12_putsQuarters_17 : decode cX12_putsQuarters 17 = .ok (.if_icmp .ge 36, 3) := by decide +kernel
theorem dX12_putsQuarters_20 : decode cX12_putsQuarters 20 = .ok (.aload_n 0, 1) := by decide +kernel
theorem dX12_putsQuarters_21 : decode cX12_putsQuarters 21 = .ok (.getfield 7, 3) := by decide +kernel
theorem dX12_putsQuarters_24 : decode cX12_putsQuarters 24 = .ok (.bipush 20, 2) := by decide +kernel
theorem dX12_putsQuarters_26 : decode cX12_putsQuarters 26 = .ok (.bipush 10, 2) := by decide +kernel
theorem dX12_putsQuarters_28 : decode cX12_putsQuarters 28 = .ok (.iload_n 1, 1) := by decide +kernel
theorem dX12_putsQuarters_29 : decode cX12_putsQuarters 29 = .ok (.imul, 1) := by decide +kernel
theorem dX12_putsQuarters_30 : decode cX12_putsQuarters 30 = .ok (.iadd, 1) := by decide +kernel
theorem dX12_putsQuarters_31 : decode cX12_putsQuarters 31 = .ok (.iconst 3, 1) := by decide +kernel
theorem dX12_putsQuarters_32 : decode cX12_putsQuarters 32 = .ok (.iadd, 1) := by decide +kernel
theorem dX12_putsQuarters_33 : decode cX12_putsQuarters 33 = .ok (.iload_n 2, 1) := by decide +kernel
theorem dX12_putsQuarters_34 : decode cX12_putsQuarters 34 = .ok (.iadd, 1) := by decide +kernel
theorem dX12_putsQuarters_35 : decode cX12_putsQuarters 35 = .ok (.aload_n 0, 1) := by decide +kernel
theorem dX12_putsQuarters_36 : decode cX12_putsQuarters 36 = .ok (.getfield 62, 3) := by decide +kernel
theorem dX12_putsQuarters_39 : decode cX12_putsQuarters 39 = .ok (.bipush 6, 2) := by decide +kernel
theorem dX12_putsQuarters_41 : decode cX12_putsQuarters 41 = .ok (.iload_n 1, 1) := by decide +kernel
theorem dX12_putsQuarters_42 : decode cX12_putsQuarters 42 = .ok (.imul, 1) := by decide +kernel
theorem dX12_putsQuarters_43 : decode cX12_putsQuarters 43 = .ok (.iload_n 2, 1) := by decide +kernel
theorem dX12_putsQuarters_44 : decode cX12_putsQuarters 44 = .ok (.iadd, 1) := by decide +kernel
theorem dX12_putsQuarters_45 : decode cX12_putsQuarters 45 = .ok (.iaload, 1) := by decide +kernel
theorem dX12_putsQuarters_46 : decode cX12_putsQuarters 46 = .ok (.iastore, 1) := by decide +kernel
theorem dX12_putsQuarters_47 : decode cX12_putsQuarters 47 = .ok (.iinc 2 1, 3) := by decide +kernel
theorem dX12_putsQuarters_50 : decode cX12_putsQuarters 50 = .ok (.goto (-36), 3) := by decide +kernel
theorem dX12_putsQuarters_53 : decode cX12_putsQuarters 53 = .ok (.iinc 1 1, 3) := by decide +kernel
theorem dX12_putsQuarters_56 : decode cX12_putsQuarters 56 = .ok (.goto (-54), 3) := by decide +kernel
theorem dX12_putsQuarters_59 : decode cX12_putsQuarters 59 = .ok (.return_, 1) := by decide +kernel
abbrev nd_X12_putsQuarters : List Nat := [100, 101, 117]
abbrev ld_X12_putsQuarters : List (Nat × Nat) := [(100, 0), (100, 37)]
def f_X12_putsQuarters_14 (k2 : Int32 → zH → zR) : Nat → Int32 → Int32 → zH → zR
  | 0 => fun _ _ _ => none
  | n + 1 => fun x1 x2 h => (if (6 : Int32) ≤ x2 then (zlt (x1 + (1 : Int32)) fun y1 => (k2 y1 h)) else (zck (((6 : Int32) * x1) + x2) 96 (zck ((((20 : Int32) + ((10 : Int32) * x1)) + (3 : Int32)) + x2) 2220 (zst (zup h 101 (Int32.toNatClampNeg ((((20 : Int32) + ((10 : Int32) * x1)) + (3 : Int32)) + x2)) (h 117 (Int32.toNatClampNeg (((6 : Int32) * x1) + x2)))) fun h2 => (zlt (x2 + (1 : Int32)) fun y3 => (f_X12_putsQuarters_14 k2 n x1 y3 h2))))))
def f_X12_putsQuarters_2  : Nat → Int32 → zH → zR
  | 0 => fun _ _ => none
  | n + 1 => fun x1 h => (if (h 101 3) ≤ x1 then (some (0, h)) else (f_X12_putsQuarters_14 (f_X12_putsQuarters_2  n) zN x1 (0 : Int32) h))
def f_X12_putsQuarters  (h : zH) : zR := (f_X12_putsQuarters_2  zN (0 : Int32) h)
variable {p : Program} {l : Launch} {e : Env} {s : State} {m : MethodId} {args : Array Value} {below : List Frame} {meth : Method} {c : Code} {G : zG} {q : Int32 × zH}
set_option maxHeartbeats 4000000 in
set_option maxRecDepth 100000 in
theorem w_X12_putsQuarters_14 {k2 : Int32 → zH → zR} (C : zC G p s m args meth c cX12_putsQuarters 3 RX12 none) (hm : ∀ c ∈ nd_X12_putsQuarters, c ∈ znm G) (hk : ∀ q ∈ ld_X12_putsQuarters, zlk G q.1 q.2 = true) (hk2 : ∀ (ls : Array Slot) (H : Heap) (locs : List Loc) (h : zH) (x1 : Int32), lv_has ls 3 [(0, .ref (zal G 100)), (1, .int x1)] → zS G h s.heap H locs → k2 x1 h = some q → W p l e (zrm (2)) s m args below meth c H locs 0 0 (MQ below (zQV G q.2) args s 0 0 (zA G)) (F0 m 2 ls [])) : ∀ n, ∀ (ls : Array Slot) (H : Heap) (locs : List Loc) (h : zH) (x1 : Int32) (x2 : Int32), lv_has ls 3 [(0, .ref (zal G 100)), (1, .int x1), (2, .int x2)] → zS G h s.heap H locs → f_X12_putsQuarters_14 k2 n x1 x2 h = some q → W p l e (zrm (2)) s m args below meth c H locs 0 0 (MQ below (zQV G q.2) args s 0 0 (zA G)) (F0 m 14 ls []) := by
  intro n
  induction n with
  | zero => intro ls H locs h x1 x2 hl hS hf; cases hf
  | succ n ih =>
    intro ls H locs h x1 x2 hl hS hf
    rw [f_X12_putsQuarters_14] at hf
    refine lv_iload_n C.1 C.2.1 dX12_putsQuarters_14 rfl (lv_at hl 2 rfl) ?_
    refine lv_bipush (v := (6 : Int32)) C.1 C.2.1 dX12_putsQuarters_15 rfl ?_
    refine lv_icmp_ge (tgt := 53) C.1 C.2.1 dX12_putsQuarters_17 (by decide) (fun hc => ?_) (fun hc => ?_)
    · have hf := zif_t hc hf
      obtain ⟨y1, ey1, hf⟩ := zlt_some hf
      refine lv_iinc (v := y1) (lv' := [(1, .int y1), (0, .ref (zal G 100)), (2, .int x2)]) C.1 C.2.1 dX12_putsQuarters_53 hl (k := 1) rfl ey1.symm (by decide) rfl (fun ls hl => ?_)
      refine lv_goto (tgt := 2) C.1 C.2.1 dX12_putsQuarters_56 (by decide) ?_
      exact hk2 _ _ _ _ _ (lv_sub hl [1, 0] rfl) hS hf
    · have hf := zif_f hc hf
      refine lv_aload_n C.1 C.2.1 dX12_putsQuarters_20 rfl (lv_at hl 0 rfl) ?_
      refine zgetR C hS ff_X12_7_100 (hm 100 (by decide)) (hk (100, 0) (by decide)) dX12_putsQuarters_21 ?_
      refine lv_bipush (v := (20 : Int32)) C.1 C.2.1 dX12_putsQuarters_24 rfl ?_
      refine lv_bipush (v := (10 : Int32)) C.1 C.2.1 dX12_putsQuarters_26 rfl ?_
      refine lv_iload_n C.1 C.2.1 dX12_putsQuarters_28 rfl (lv_at hl 1 rfl) ?_
      refine lv_imul C.1 C.2.1 dX12_putsQuarters_29 ?_
      refine lv_iadd C.1 C.2.1 dX12_putsQuarters_30 ?_
      refine lv_iconst (v := (3 : Int32)) C.1 C.2.1 dX12_putsQuarters_31 rfl ?_
      refine lv_iadd C.1 C.2.1 dX12_putsQuarters_32 ?_
      refine lv_iload_n C.1 C.2.1 dX12_putsQuarters_33 rfl (lv_at hl 2 rfl) ?_
      refine lv_iadd C.1 C.2.1 dX12_putsQuarters_34 ?_
      refine lv_aload_n C.1 C.2.1 dX12_putsQuarters_35 rfl (lv_at hl 0 rfl) ?_
      refine zgetR C hS ff_X12_62_100 (hm 100 (by decide)) (hk (100, 37) (by decide)) dX12_putsQuarters_36 ?_
      refine lv_bipush (v := (6 : Int32)) C.1 C.2.1 dX12_putsQuarters_39 rfl ?_
      refine lv_iload_n C.1 C.2.1 dX12_putsQuarters_41 rfl (lv_at hl 1 rfl) ?_
      refine lv_imul C.1 C.2.1 dX12_putsQuarters_42 ?_
      refine lv_iload_n C.1 C.2.1 dX12_putsQuarters_43 rfl (lv_at hl 2 rfl) ?_
      refine lv_iadd C.1 C.2.1 dX12_putsQuarters_44 ?_
      obtain ⟨hi, hf⟩ := zck_some hf
      refine zald C hS sh_117 (hm 117 (by decide)) hi dX12_putsQuarters_45 ?_
      obtain ⟨hi, hf⟩ := zck_some hf
      refine zast C hS sh_101 (hm 101 (by decide)) hi dX12_putsQuarters_46 (fun H locs hS => ?_)
      obtain ⟨h2, eh2, hf⟩ := zst_some hf
      have hS : zS G h2 s.heap H locs := by rw [eh2]; exact hS
      obtain ⟨y3, ey3, hf⟩ := zlt_some hf
      refine lv_iinc (v := y3) (lv' := [(2, .int y3), (0, .ref (zal G 100)), (1, .int x1)]) C.1 C.2.1 dX12_putsQuarters_47 hl (k := 2) rfl ey3.symm (by decide) rfl (fun ls hl => ?_)
      refine lv_goto (tgt := 14) C.1 C.2.1 dX12_putsQuarters_50 (by decide) ?_
      exact ih _ _ _ _ _ _ (lv_sub hl [1, 2, 0] rfl) hS hf
set_option maxHeartbeats 4000000 in
set_option maxRecDepth 100000 in
theorem w_X12_putsQuarters_2  (C : zC G p s m args meth c cX12_putsQuarters 3 RX12 none) (hm : ∀ c ∈ nd_X12_putsQuarters, c ∈ znm G) (hk : ∀ q ∈ ld_X12_putsQuarters, zlk G q.1 q.2 = true)  : ∀ n, ∀ (ls : Array Slot) (H : Heap) (locs : List Loc) (h : zH) (x1 : Int32), lv_has ls 3 [(0, .ref (zal G 100)), (1, .int x1)] → zS G h s.heap H locs → f_X12_putsQuarters_2  n x1 h = some q → W p l e (zrm (2)) s m args below meth c H locs 0 0 (MQ below (zQV G q.2) args s 0 0 (zA G)) (F0 m 2 ls []) := by
  intro n
  induction n with
  | zero => intro ls H locs h x1 hl hS hf; cases hf
  | succ n ih =>
    intro ls H locs h x1 hl hS hf
    rw [f_X12_putsQuarters_2] at hf
    refine lv_iload_n C.1 C.2.1 dX12_putsQuarters_2 rfl (lv_at hl 1 rfl) ?_
    refine lv_aload_n C.1 C.2.1 dX12_putsQuarters_3 rfl (lv_at hl 0 rfl) ?_
    refine zgetR C hS ff_X12_7_100 (hm 100 (by decide)) (hk (100, 0) (by decide)) dX12_putsQuarters_4 ?_
    refine lv_iconst (v := (3 : Int32)) C.1 C.2.1 dX12_putsQuarters_7 rfl ?_
    refine zald C hS sh_101 (hm 101 (by decide)) (vp_in_iff.mpr (by decide)) dX12_putsQuarters_8 ?_
    refine lv_icmp_ge (tgt := 59) C.1 C.2.1 dX12_putsQuarters_9 (by decide) (fun hc => ?_) (fun hc => ?_)
    · have hf := zif_t hc hf
      exact zretV C hS hf dX12_putsQuarters_59
    · have hf := zif_f hc hf
      refine lv_iconst (v := (0 : Int32)) C.1 C.2.1 dX12_putsQuarters_12 rfl ?_
      refine lv_istore_n (lv' := [(2, .int (0 : Int32)), (0, .ref (zal G 100)), (1, .int x1)]) C.1 C.2.1 dX12_putsQuarters_13 rfl hl (by decide) rfl (fun ls hl => ?_)
      exact w_X12_putsQuarters_14 C hm hk ih zN _ _ _ _ _ _ (lv_sub hl [1, 2, 0] rfl) hS hf
set_option maxHeartbeats 4000000 in
set_option maxRecDepth 100000 in
theorem c_X12_putsQuarters (l : Launch) (G : zG) (h : zH) (q : Int32 × zH) (hm : ∀ c ∈ nd_X12_putsQuarters, c ∈ znm G) (hk : ∀ q ∈ ld_X12_putsQuarters, zlk G q.1 q.2 = true) (hf : f_X12_putsQuarters h = some q) : zCtV l yX12_putsQuarters cX12_putsQuarters 3 none (2) [.ref (zal G 100)] G h q.2 := by
  refine zMetV (by decide) (Nat.le_of_ble_eq_true rfl) ?_
  intro p e s m below meth c ls C hl hS
  have hl : lv_has ls 3 [(0, .ref (zal G 100))] := hl
  have C : zC G p s m [.ref (zal G 100)].toArray meth c cX12_putsQuarters 3 RX12 none := C
  unfold f_X12_putsQuarters at hf
  refine lv_iconst (v := (0 : Int32)) C.1 C.2.1 dX12_putsQuarters_0 rfl ?_
  refine lv_istore_n (lv' := [(1, .int (0 : Int32)), (0, .ref (zal G 100))]) C.1 C.2.1 dX12_putsQuarters_1 rfl hl (by decide) rfl (fun ls hl => ?_)
  exact w_X12_putsQuarters_2 C hm hk  zN _ _ _ _ _ (lv_sub hl [1, 0] rfl) hS hf
end
section
theorem dX12_uncle_0 : decode cX12_uncle 0 = .ok (.iload_n 1, 1) := by decide +kernel
theorem dX12_uncle_1 : decode cX12_uncle 1 = .ok (.invokestatic 81, 3) := by decide +kernel
theorem dX12_uncle_4 : decode cX12_uncle 4 = .ok (.ifCond .eq 12, 3) := by decide +kernel
theorem dX12_uncle_7 : decode cX12_uncle 7 = .ok (.iload_n 2, 1) := by decide +kernel
theorem dX12_uncle_8 : decode cX12_uncle 8 = .ok (.iconst 0, 1) := by decide +kernel
theorem dX12_uncle_9 : decode cX12_uncle 9 = .ok (.iconst 1, 1) := by decide +kernel
theorem dX12_uncle_10 : decode cX12_uncle 10 = .ok (.invokestatic 65, 3) := by decide +kernel
theorem dX12_uncle_13 : decode cX12_uncle 13 = .ok (.ifCond .ne 5, 3) := by decide +kernel
theorem dX12_uncle_16 : decode cX12_uncle 16 = .ok (.iconst (-1), 1) := by decide +kernel
theorem dX12_uncle_17 : decode cX12_uncle 17 = .ok (.ireturn, 1) := by decide +kernel
theorem dX12_uncle_18 : decode cX12_uncle 18 = .ok (.aload_n 0, 1) := by decide +kernel
theorem dX12_uncle_19 : decode cX12_uncle 19 = .ok (.invokevirtual 341, 3) := by decide +kernel
theorem dX12_uncle_22 : decode cX12_uncle 22 = .ok (.iconst (-1), 1) := by decide +kernel
theorem dX12_uncle_23 : decode cX12_uncle 23 = .ok (.istore_n 3, 1) := by decide +kernel
theorem dX12_uncle_24 : decode cX12_uncle 24 = .ok (.iconst (-1), 1) := by decide +kernel
theorem dX12_uncle_25 : decode cX12_uncle 25 = .ok (.istore 4, 2) := by decide +kernel
theorem dX12_uncle_27 : decode cX12_uncle 27 = .ok (.iconst 0, 1) := by decide +kernel
theorem dX12_uncle_28 : decode cX12_uncle 28 = .ok (.istore 5, 2) := by decide +kernel
theorem dX12_uncle_30 : decode cX12_uncle 30 = .ok (.iload 5, 2) := by decide +kernel
theorem dX12_uncle_32 : decode cX12_uncle 32 = .ok (.bipush 6, 2) := by decide +kernel
theorem dX12_uncle_34 : decode cX12_uncle 34 = .ok (.if_icmp .ge 95, 3) := by decide +kernel
theorem dX12_uncle_37 : decode cX12_uncle 37 = .ok (.iload 5, 2) := by decide +kernel
theorem dX12_uncle_39 : decode cX12_uncle 39 = .ok (.iload_n 1, 1) := by decide +kernel
theorem dX12_uncle_40 : decode cX12_uncle 40 = .ok (.if_icmp .ne 6, 3) := by decide +kernel
theorem dX12_uncle_43 : decode cX12_uncle 43 = .ok (.goto 80, 3) := by decide +kernel
theorem dX12_uncle_46 : decode cX12_uncle 46 = .ok (.iconst 0, 1) := by decide +kernel
theorem dX12_uncle_47 : decode cX12_uncle 47 = .ok (.istore 6, 2) := by decide +kernel
theorem dX12_uncle_49 : decode cX12_uncle 49 = .ok (.iload 6, 2) := by decide +kernel
theorem dX12_uncle_51 : decode cX12_uncle 51 = .ok (.aload_n 0, 1) := by decide +kernel
theorem dX12_uncle_52 : decode cX12_uncle 52 = .ok (.getfield 7, 3) := by decide +kernel
theorem dX12_uncle_55 : decode cX12_uncle 55 = .ok (.iconst 3, 1) := by decide +kernel
theorem dX12_uncle_56 : decode cX12_uncle 56 = .ok (.iaload, 1) := by decide +kernel
theorem dX12_uncle_57 : decode cX12_uncle 57 = .ok (.if_icmp .ge 39, 3) := by decide +kernel
theorem dX12_uncle_60 : decode cX12_uncle 60 = .ok (.aload_n 0, 1) := by decide +kernel
theorem dX12_uncle_61 : decode cX12_uncle 61 = .ok (.iload 6, 2) := by decide +kernel
theorem dX12_uncle_63 : decode cX12_uncle 63 = .ok (.iload 5, 2) := by decide +kernel
theorem dX12_uncle_65 : decode cX12_uncle 65 = .ok (.aload_n 0, 1) := by decide +kernel
theorem dX12_uncle_66 : decode cX12_uncle 66 = .ok (.iload 6, 2) := by decide +kernel
theorem dX12_uncle_68 : decode cX12_uncle 68 = .ok (.iload_n 1, 1) := by decide +kernel
theorem dX12_uncle_69 : decode cX12_uncle 69 = .ok (.invokevirtual 88, 3) := by decide +kernel
theorem dX12_uncle_72 : decode cX12_uncle 72 = .ok (.invokevirtual 91, 3) := by decide +kernel
theorem dX12_uncle_75 : decode cX12_uncle 75 = .ok (.aload_n 0, 1) := by decide +kernel
theorem dX12_uncle_76 : decode cX12_uncle 76 = .ok (.iload 6, 2) := by decide +kernel
theorem dX12_uncle_78 : decode cX12_uncle 78 = .ok (.iload_n 1, 1) := by decide +kernel
theorem dX12_uncle_79 : decode cX12_uncle 79 = .ok (.aload_n 0, 1) := by decide +kernel
theorem dX12_uncle_80 : decode cX12_uncle 80 = .ok (.iload 6, 2) := by decide +kernel
theorem dX12_uncle_82 : decode cX12_uncle 82 = .ok (.iload_n 1, 1) := by decide +kernel
theorem dX12_uncle_83 : decode cX12_uncle 83 = .ok (.invokevirtual 88, 3) := by decide +kernel
theorem dX12_uncle_86 : decode cX12_uncle 86 = .ok (.ineg, 1) := by decide +kernel
theorem dX12_uncle_87 : decode cX12_uncle 87 = .ok (.invokevirtual 91, 3) := by decide +kernel
theorem dX12_uncle_90 : decode cX12_uncle 90 = .ok (.iinc 6 1, 3) := by decide +kernel
theorem dX12_uncle_93 : decode cX12_uncle 93 = .ok (.goto (-44), 3) := by decide +kernel
theorem dX12_uncle_96 : decode cX12_uncle 96 = .ok (.aload_n 0, 1) := by decide +kernel
theorem dX12_uncle_97 : decode cX12_uncle 97 = .ok (.invokevirtual 299, 3) := by decide +kernel
theorem dX12_uncle_100 : decode cX12_uncle 100 = .ok (.istore 6, 2) := by decide +kernel
theorem dX12_uncle_102 : decode cX12_uncle 102 = .ok (.aload_n 0, 1) := by decide +kernel
theorem dX12_uncle_103 : decode cX12_uncle 103 = .ok (.invokevirtual 344, 3) := by decide +kernel
theorem dX12_uncle_106 : decode cX12_uncle 106 = .ok (.iload 6, 2) := by decide +kernel
theorem dX12_uncle_108 : decode cX12_uncle 108 = .ok (.iload 4, 2) := by decide +kernel
theorem dX12_uncle_110 : decode cX12_uncle 110 = .ok (.if_icmp .gt 6, 3) := by decide +kernel
theorem dX12_uncle_113 : decode cX12_uncle 113 = .ok (.goto 10, 3) := by decide +kernel
theorem dX12_uncle_116 : decode cX12_uncle 116 = .ok (.iload 6, 2) := by decide +kernel
theorem dX12_uncle_118 : decode cX12_uncle 118 = .ok (.istore 4, 2) := by decide +kernel
theorem dX12_uncle_120 : decode cX12_uncle 120 = .ok (.iload 5, 2) := by decide +kernel
theorem dX12_uncle_122 : decode cX12_uncle 122 = .ok (.istore_n 3, 1) := by decide +kernel
theorem dX12_uncle_123 : decode cX12_uncle 123 = .ok (.iinc 5 1, 3) := by decide +kernel
theorem dX12_uncle_126 : decode cX12_uncle 126 = .ok (.goto (-96), 3) := by decide +kernel
theorem dX12_uncle_129 : decode cX12_uncle 129 = .ok (.iload_n 2, 1) := by decide +kernel
theorem dX12_uncle_130 : decode cX12_uncle 130 = .ok (.ifCond .ne 7, 3) := by decide +kernel
theorem dX12_uncle_133 : decode cX12_uncle 133 = .ok (.iload_n 3, 1) := by decide +kernel
theorem dX12_uncle_134 : decode cX12_uncle 134 = .ok (.goto 5, 3) := by decide +kernel
theorem dX12_uncle_137 : decode cX12_uncle 137 = .ok (.iload 4, 2) := by decide +kernel
theorem dX12_uncle_139 : decode cX12_uncle 139 = .ok (.ireturn, 1) := by decide +kernel
abbrev nd_X12_uncle : List Nat := [100, 101, 104, 108, 109, 117]
abbrev ld_X12_uncle : List (Nat × Nat) := [(100, 0), (100, 3), (100, 9), (100, 10), (100, 37)]
theorem sn_X12_uncle_X12_isFamily : ∀ c ∈ nd_X12_isFamily, c ∈ nd_X12_uncle := by decide
theorem sl_X12_uncle_X12_isFamily : ∀ q ∈ ld_X12_isFamily, q ∈ ld_X12_uncle := by decide
theorem sn_X12_uncle_X12_isIn : ∀ c ∈ nd_X12_isIn, c ∈ nd_X12_uncle := by decide
theorem sl_X12_uncle_X12_isIn : ∀ q ∈ ld_X12_isIn, q ∈ ld_X12_uncle := by decide
theorem sn_X12_uncle_X12_laysQuarters : ∀ c ∈ nd_X12_laysQuarters, c ∈ nd_X12_uncle := by decide
theorem sl_X12_uncle_X12_laysQuarters : ∀ q ∈ ld_X12_laysQuarters, q ∈ ld_X12_uncle := by decide
theorem sn_X12_uncle_X12_merryNow : ∀ c ∈ nd_X12_merryNow, c ∈ nd_X12_uncle := by decide
theorem sl_X12_uncle_X12_merryNow : ∀ q ∈ ld_X12_merryNow, q ∈ ld_X12_uncle := by decide
theorem sn_X12_uncle_X12_putsQuarters : ∀ c ∈ nd_X12_putsQuarters, c ∈ nd_X12_uncle := by decide
theorem sl_X12_uncle_X12_putsQuarters : ∀ q ∈ ld_X12_putsQuarters, q ∈ ld_X12_uncle := by decide
theorem sn_X12_uncle_X12_quarters : ∀ c ∈ nd_X12_quarters, c ∈ nd_X12_uncle := by decide
theorem sl_X12_uncle_X12_quarters : ∀ q ∈ ld_X12_quarters, q ∈ ld_X12_uncle := by decide
theorem sn_X12_uncle_X12_adds : ∀ c ∈ nd_X12_adds, c ∈ nd_X12_uncle := by decide
theorem sl_X12_uncle_X12_adds : ∀ q ∈ ld_X12_adds, q ∈ ld_X12_uncle := by decide
def f_X12_uncle_16  (h : zH) : zR := (some ((-1 : Int32), h))
def f_X12_uncle_123 (k30 : Int32 → Int32 → Int32 → Int32 → Int32 → zH → zR) (x1 : Int32) (x2 : Int32) (x3 : Int32) (x4 : Int32) (x5 : Int32) (h : zH) : zR := (zlt (x5 + (1 : Int32)) fun y11 => (k30 x1 x2 x3 x4 y11 h))
def f_X12_uncle_49 (k30 : Int32 → Int32 → Int32 → Int32 → Int32 → zH → zR) : Nat → Int32 → Int32 → Int32 → Int32 → Int32 → Int32 → zH → zR
  | 0 => fun _ _ _ _ _ _ _ => none
  | n + 1 => fun x1 x2 x3 x4 x5 x6 h => (if (h 101 3) ≤ x6 then (zbd (f_X12_merryNow  h) fun r7 h8 => (zbd (f_X12_putsQuarters  h8) fun r9 h10 => (if x4 < r7 then (f_X12_uncle_123 k30 x1 x2 x5 r7 x5 h10) else (f_X12_uncle_123 k30 x1 x2 x3 x4 x5 h10)))) else (zbd (f_X12_quarters x6 x1 h) fun r12 h13 => (zbd (f_X12_adds x6 x5 r12 h13) fun r14 h15 => (zbd (f_X12_quarters x6 x1 h15) fun r16 h17 => (zbd (f_X12_adds x6 x1 (-r16) h17) fun r18 h19 => (zlt (x6 + (1 : Int32)) fun y20 => (f_X12_uncle_49 k30 n x1 x2 x3 x4 x5 y20 h19)))))))
def f_X12_uncle_30  : Nat → Int32 → Int32 → Int32 → Int32 → Int32 → zH → zR
  | 0 => fun _ _ _ _ _ _ => none
  | n + 1 => fun x1 x2 x3 x4 x5 h => (if (6 : Int32) ≤ x5 then (if x2 = 0 then (some (x3, h)) else (some (x4, h))) else (if x5 = x1 then (f_X12_uncle_123 (f_X12_uncle_30  n) x1 x2 x3 x4 x5 h) else (f_X12_uncle_49 (f_X12_uncle_30  n) zN x1 x2 x3 x4 x5 (0 : Int32) h)))
def f_X12_uncle  (x1 : Int32) (x2 : Int32) (h : zH) : zR := (zbd (f_X12_isFamily x1 h) fun r1 h2 => (if r1 = 0 then (f_X12_uncle_16   h2) else (zbd (f_X12_isIn x2 (0 : Int32) (1 : Int32) h2) fun r3 h4 => (if r3 = 0 then (f_X12_uncle_16   h4) else (zbd (f_X12_laysQuarters  h4) fun r5 h6 => (f_X12_uncle_30  zN x1 x2 (-1 : Int32) (-1 : Int32) (0 : Int32) h6))))))
variable {p : Program} {l : Launch} {e : Env} {s : State} {m : MethodId} {args : Array Value} {below : List Frame} {meth : Method} {c : Code} {G : zG} {q : Int32 × zH}
set_option maxHeartbeats 4000000 in
set_option maxRecDepth 100000 in
theorem w_X12_uncle_16  (C : zC G p s m args meth c cX12_uncle 7 RX12 (some .int)) (hm : ∀ c ∈ nd_X12_uncle, c ∈ znm G) (hk : ∀ q ∈ ld_X12_uncle, zlk G q.1 q.2 = true)  : ∀ (ls : Array Slot) (H : Heap) (locs : List Loc) (h : zH), lv_has ls 7 [] → zS G h s.heap H locs → f_X12_uncle_16  h = some q → W p l e (zrm (8)) s m args below meth c H locs 0 0 (MQ below (zQI G q.2 q.1) args s 0 0 (zA G)) (F0 m 16 ls []) := by
  intro ls H locs h hl hS hf
  unfold f_X12_uncle_16 at hf
  refine lv_iconst (v := (-1 : Int32)) C.1 C.2.1 dX12_uncle_16 rfl ?_
  exact zretI C hS hf dX12_uncle_17
set_option maxHeartbeats 4000000 in
set_option maxRecDepth 100000 in
theorem w_X12_uncle_123 {k30 : Int32 → Int32 → Int32 → Int32 → Int32 → zH → zR} (C : zC G p s m args meth c cX12_uncle 7 RX12 (some .int)) (hm : ∀ c ∈ nd_X12_uncle, c ∈ znm G) (hk : ∀ q ∈ ld_X12_uncle, zlk G q.1 q.2 = true) (hk30 : ∀ (ls : Array Slot) (H : Heap) (locs : List Loc) (h : zH) (x1 : Int32) (x2 : Int32) (x3 : Int32) (x4 : Int32) (x5 : Int32), lv_has ls 7 [(0, .ref (zal G 100)), (1, .int x1), (2, .int x2), (3, .int x3), (4, .int x4), (5, .int x5)] → zS G h s.heap H locs → k30 x1 x2 x3 x4 x5 h = some q → W p l e (zrm (8)) s m args below meth c H locs 0 0 (MQ below (zQI G q.2 q.1) args s 0 0 (zA G)) (F0 m 30 ls [])) : ∀ (ls : Array Slot) (H : Heap) (locs : List Loc) (h : zH) (x1 : Int32) (x2 : Int32) (x3 : Int32) (x4 : Int32) (x5 : Int32), lv_has ls 7 [(0, .ref (zal G 100)), (1, .int x1), (2, .int x2), (3, .int x3), (4, .int x4), (5, .int x5)] → zS G h s.heap H locs → f_X12_uncle_123 k30 x1 x2 x3 x4 x5 h = some q → W p l e (zrm (8)) s m args below meth c H locs 0 0 (MQ below (zQI G q.2 q.1) args s 0 0 (zA G)) (F0 m 123 ls []) := by
  intro ls H locs h x1 x2 x3 x4 x5 hl hS hf
  unfold f_X12_uncle_123 at hf
  obtain ⟨y11, ey11, hf⟩ := zlt_some hf
  refine lv_iinc (v := y11) (lv' := [(5, .int y11), (0, .ref (zal G 100)), (1, .int x1), (2, .int x2), (3, .int x3), (4, .int x4)]) C.1 C.2.1 dX12_uncle_123 hl (k := 5) rfl ey11.symm (by decide) rfl (fun ls hl => ?_)
  refine lv_goto (tgt := 30) C.1 C.2.1 dX12_uncle_126 (by decide) ?_
  exact hk30 _ _ _ _ _ _ _ _ _ (lv_sub hl [1, 2, 3, 4, 5, 0] rfl) hS hf
set_option maxHeartbeats 4000000 in
set_option maxRecDepth 100000 in
theorem w_X12_uncle_49 {k30 : Int32 → Int32 → Int32 → Int32 → Int32 → zH → zR} (C : zC G p s m args meth c cX12_uncle 7 RX12 (some .int)) (hm : ∀ c ∈ nd_X12_uncle, c ∈ znm G) (hk : ∀ q ∈ ld_X12_uncle, zlk G q.1 q.2 = true) (hk30 : ∀ (ls : Array Slot) (H : Heap) (locs : List Loc) (h : zH) (x1 : Int32) (x2 : Int32) (x3 : Int32) (x4 : Int32) (x5 : Int32), lv_has ls 7 [(0, .ref (zal G 100)), (1, .int x1), (2, .int x2), (3, .int x3), (4, .int x4), (5, .int x5)] → zS G h s.heap H locs → k30 x1 x2 x3 x4 x5 h = some q → W p l e (zrm (8)) s m args below meth c H locs 0 0 (MQ below (zQI G q.2 q.1) args s 0 0 (zA G)) (F0 m 30 ls [])) : ∀ n, ∀ (ls : Array Slot) (H : Heap) (locs : List Loc) (h : zH) (x1 : Int32) (x2 : Int32) (x3 : Int32) (x4 : Int32) (x5 : Int32) (x6 : Int32), lv_has ls 7 [(0, .ref (zal G 100)), (1, .int x1), (2, .int x2), (3, .int x3), (4, .int x4), (5, .int x5), (6, .int x6)] → zS G h s.heap H locs → f_X12_uncle_49 k30 n x1 x2 x3 x4 x5 x6 h = some q → W p l e (zrm (8)) s m args below meth c H locs 0 0 (MQ below (zQI G q.2 q.1) args s 0 0 (zA G)) (F0 m 49 ls []) := by
  intro n
  induction n with
  | zero => intro ls H locs h x1 x2 x3 x4 x5 x6 hl hS hf; cases hf
  | succ n ih =>
    intro ls H locs h x1 x2 x3 x4 x5 x6 hl hS hf
    rw [f_X12_uncle_49] at hf
    refine lv_iload C.1 C.2.1 dX12_uncle_49 (lv_at hl 6 rfl) ?_
    refine lv_aload_n C.1 C.2.1 dX12_uncle_51 rfl (lv_at hl 0 rfl) ?_
    refine zgetR C hS ff_X12_7_100 (hm 100 (by decide)) (hk (100, 0) (by decide)) dX12_uncle_52 ?_
    refine lv_iconst (v := (3 : Int32)) C.1 C.2.1 dX12_uncle_55 rfl ?_
    refine zald C hS sh_101 (hm 101 (by decide)) (vp_in_iff.mpr (by decide)) dX12_uncle_56 ?_
    refine lv_icmp_ge (tgt := 96) C.1 C.2.1 dX12_uncle_57 (by decide) (fun hc => ?_) (fun hc => ?_)
    · have hf := zif_t hc hf
      refine lv_aload_n C.1 C.2.1 dX12_uncle_96 rfl (lv_at hl 0 rfl) ?_
      obtain ⟨r7, h8, er7, hf⟩ := zbd_some hf
      refine zcallVI (As := []) (rest := []) C hS mv_X12_299 (c_X12_merryNow l G h  (r7, h8) (fun c h => hm c (sn_X12_uncle_X12_merryNow c h)) (fun q h => hk q (sl_X12_uncle_X12_merryNow q h)) er7) (hm 100 (by decide)) ⟨_, _, _, sh_100, rfl, rfl⟩ rfl rfl (Nat.le_of_ble_eq_true rfl) hl.1 ⟨Nat.le_of_ble_eq_true rfl, Nat.le_of_ble_eq_true rfl, Nat.le_of_ble_eq_true rfl, Nat.le_of_ble_eq_true rfl⟩ dX12_uncle_97 (fun H locs hS => ?_)
      refine lv_istore (lv' := [(6, .int r7), (0, .ref (zal G 100)), (1, .int x1), (2, .int x2), (3, .int x3), (4, .int x4), (5, .int x5)]) C.1 C.2.1 dX12_uncle_100 hl (by decide) rfl (fun ls hl => ?_)
      refine lv_aload_n C.1 C.2.1 dX12_uncle_102 rfl (lv_at hl 1 rfl) ?_
      obtain ⟨r9, h10, er9, hf⟩ := zbd_some hf
      refine zcallVV (As := []) (rest := []) C hS mv_X12_344 (c_X12_putsQuarters l G h8  (r9, h10) (fun c h => hm c (sn_X12_uncle_X12_putsQuarters c h)) (fun q h => hk q (sl_X12_uncle_X12_putsQuarters q h)) er9) (hm 100 (by decide)) ⟨_, _, _, sh_100, rfl, rfl⟩ rfl rfl (Nat.le_of_ble_eq_true rfl) hl.1 ⟨Nat.le_of_ble_eq_true rfl, Nat.le_of_ble_eq_true rfl, Nat.le_of_ble_eq_true rfl, Nat.le_of_ble_eq_true rfl⟩ dX12_uncle_103 (fun H locs hS => ?_)
      refine lv_iload C.1 C.2.1 dX12_uncle_106 (lv_at hl 0 rfl) ?_
      refine lv_iload C.1 C.2.1 dX12_uncle_108 (lv_at hl 5 rfl) ?_
      refine lv_icmp_gt (tgt := 116) C.1 C.2.1 dX12_uncle_110 (by decide) (fun hc => ?_) (fun hc => ?_)
      · have hf := zif_t hc hf
        refine lv_iload C.1 C.2.1 dX12_uncle_116 (lv_at hl 0 rfl) ?_
        refine lv_istore (lv' := [(4, .int r7), (6, .int r7), (0, .ref (zal G 100)), (1, .int x1), (2, .int x2), (3, .int x3), (5, .int x5)]) C.1 C.2.1 dX12_uncle_118 hl (by decide) rfl (fun ls hl => ?_)
        refine lv_iload C.1 C.2.1 dX12_uncle_120 (lv_at hl 6 rfl) ?_
        refine lv_istore_n (lv' := [(3, .int x5), (4, .int r7), (6, .int r7), (0, .ref (zal G 100)), (1, .int x1), (2, .int x2), (5, .int x5)]) C.1 C.2.1 dX12_uncle_122 rfl hl (by decide) rfl (fun ls hl => ?_)
        exact w_X12_uncle_123 C hm hk hk30 _ _ _ _ _ _ _ _ _ (lv_sub hl [3, 4, 5, 0, 1, 6] rfl) hS hf
      · have hf := zif_f hc hf
        refine lv_goto (tgt := 123) C.1 C.2.1 dX12_uncle_113 (by decide) ?_
        exact w_X12_uncle_123 C hm hk hk30 _ _ _ _ _ _ _ _ _ (lv_sub hl [1, 2, 3, 4, 5, 6] rfl) hS hf
    · have hf := zif_f hc hf
      refine lv_aload_n C.1 C.2.1 dX12_uncle_60 rfl (lv_at hl 0 rfl) ?_
      refine lv_iload C.1 C.2.1 dX12_uncle_61 (lv_at hl 6 rfl) ?_
      refine lv_iload C.1 C.2.1 dX12_uncle_63 (lv_at hl 5 rfl) ?_
      refine lv_aload_n C.1 C.2.1 dX12_uncle_65 rfl (lv_at hl 0 rfl) ?_
      refine lv_iload C.1 C.2.1 dX12_uncle_66 (lv_at hl 6 rfl) ?_
      refine lv_iload_n C.1 C.2.1 dX12_uncle_68 rfl (lv_at hl 1 rfl) ?_
      obtain ⟨r12, h13, er12, hf⟩ := zbd_some hf
      refine zcallVI (As := [.int x6, .int x1]) (rest := [.int x5, .int x6, .ref (zal G 100)]) C hS mv_X12_88 (c_X12_quarters l G h x6 x1 (r12, h13) (fun c h => hm c (sn_X12_uncle_X12_quarters c h)) (fun q h => hk q (sl_X12_uncle_X12_quarters q h)) er12) (hm 100 (by decide)) ⟨_, _, _, sh_100, rfl, rfl⟩ rfl rfl (Nat.le_of_ble_eq_true rfl) hl.1 ⟨Nat.le_of_ble_eq_true rfl, Nat.le_of_ble_eq_true rfl, Nat.le_of_ble_eq_true rfl, Nat.le_of_ble_eq_true rfl⟩ dX12_uncle_69 (fun H locs hS => ?_)
      obtain ⟨r14, h15, er14, hf⟩ := zbd_some hf
      refine zcallVV (As := [.int x6, .int x5, .int r12]) (rest := []) C hS mv_X12_91 (c_X12_adds l G h13 x6 x5 r12 (r14, h15) (fun c h => hm c (sn_X12_uncle_X12_adds c h)) (fun q h => hk q (sl_X12_uncle_X12_adds q h)) er14) (hm 100 (by decide)) ⟨_, _, _, sh_100, rfl, rfl⟩ rfl rfl (Nat.le_of_ble_eq_true rfl) hl.1 ⟨Nat.le_of_ble_eq_true rfl, Nat.le_of_ble_eq_true rfl, Nat.le_of_ble_eq_true rfl, Nat.le_of_ble_eq_true rfl⟩ dX12_uncle_72 (fun H locs hS => ?_)
      refine lv_aload_n C.1 C.2.1 dX12_uncle_75 rfl (lv_at hl 0 rfl) ?_
      refine lv_iload C.1 C.2.1 dX12_uncle_76 (lv_at hl 6 rfl) ?_
      refine lv_iload_n C.1 C.2.1 dX12_uncle_78 rfl (lv_at hl 1 rfl) ?_
      refine lv_aload_n C.1 C.2.1 dX12_uncle_79 rfl (lv_at hl 0 rfl) ?_
      refine lv_iload C.1 C.2.1 dX12_uncle_80 (lv_at hl 6 rfl) ?_
      refine lv_iload_n C.1 C.2.1 dX12_uncle_82 rfl (lv_at hl 1 rfl) ?_
      obtain ⟨r16, h17, er16, hf⟩ := zbd_some hf
      refine zcallVI (As := [.int x6, .int x1]) (rest := [.int x1, .int x6, .ref (zal G 100)]) C hS mv_X12_88 (c_X12_quarters l G h15 x6 x1 (r16, h17) (fun c h => hm c (sn_X12_uncle_X12_quarters c h)) (fun q h => hk q (sl_X12_uncle_X12_quarters q h)) er16) (hm 100 (by decide)) ⟨_, _, _, sh_100, rfl, rfl⟩ rfl rfl (Nat.le_of_ble_eq_true rfl) hl.1 ⟨Nat.le_of_ble_eq_true rfl, Nat.le_of_ble_eq_true rfl, Nat.le_of_ble_eq_true rfl, Nat.le_of_ble_eq_true rfl⟩ dX12_uncle_83 (fun H locs hS => ?_)
      refine lv_ineg C.1 C.2.1 dX12_uncle_86 ?_
      obtain ⟨r18, h19, er18, hf⟩ := zbd_some hf
      refine zcallVV (As := [.int x6, .int x1, .int (-r16)]) (rest := []) C hS mv_X12_91 (c_X12_adds l G h17 x6 x1 (-r16) (r18, h19) (fun c h => hm c (sn_X12_uncle_X12_adds c h)) (fun q h => hk q (sl_X12_uncle_X12_adds q h)) er18) (hm 100 (by decide)) ⟨_, _, _, sh_100, rfl, rfl⟩ rfl rfl (Nat.le_of_ble_eq_true rfl) hl.1 ⟨Nat.le_of_ble_eq_true rfl, Nat.le_of_ble_eq_true rfl, Nat.le_of_ble_eq_true rfl, Nat.le_of_ble_eq_true rfl⟩ dX12_uncle_87 (fun H locs hS => ?_)
      obtain ⟨y20, ey20, hf⟩ := zlt_some hf
      refine lv_iinc (v := y20) (lv' := [(6, .int y20), (0, .ref (zal G 100)), (1, .int x1), (2, .int x2), (3, .int x3), (4, .int x4), (5, .int x5)]) C.1 C.2.1 dX12_uncle_90 hl (k := 6) rfl ey20.symm (by decide) rfl (fun ls hl => ?_)
      refine lv_goto (tgt := 49) C.1 C.2.1 dX12_uncle_93 (by decide) ?_
      exact ih _ _ _ _ _ _ _ _ _ _ (lv_sub hl [1, 2, 3, 4, 5, 6, 0] rfl) hS hf
set_option maxHeartbeats 4000000 in
set_option maxRecDepth 100000 in
theorem w_X12_uncle_30  (C : zC G p s m args meth c cX12_uncle 7 RX12 (some .int)) (hm : ∀ c ∈ nd_X12_uncle, c ∈ znm G) (hk : ∀ q ∈ ld_X12_uncle, zlk G q.1 q.2 = true)  : ∀ n, ∀ (ls : Array Slot) (H : Heap) (locs : List Loc) (h : zH) (x1 : Int32) (x2 : Int32) (x3 : Int32) (x4 : Int32) (x5 : Int32), lv_has ls 7 [(0, .ref (zal G 100)), (1, .int x1), (2, .int x2), (3, .int x3), (4, .int x4), (5, .int x5)] → zS G h s.heap H locs → f_X12_uncle_30  n x1 x2 x3 x4 x5 h = some q → W p l e (zrm (8)) s m args below meth c H locs 0 0 (MQ below (zQI G q.2 q.1) args s 0 0 (zA G)) (F0 m 30 ls []) := by
  intro n
  induction n with
  | zero => intro ls H locs h x1 x2 x3 x4 x5 hl hS hf; cases hf
  | succ n ih =>
    intro ls H locs h x1 x2 x3 x4 x5 hl hS hf
    rw [f_X12_uncle_30] at hf
    refine lv_iload C.1 C.2.1 dX12_uncle_30 (lv_at hl 5 rfl) ?_
    refine lv_bipush (v := (6 : Int32)) C.1 C.2.1 dX12_uncle_32 rfl ?_
    refine lv_icmp_ge (tgt := 129) C.1 C.2.1 dX12_uncle_34 (by decide) (fun hc => ?_) (fun hc => ?_)
    · have hf := zif_t hc hf
      refine lv_iload_n C.1 C.2.1 dX12_uncle_129 rfl (lv_at hl 2 rfl) ?_
      refine lv_if_ne (tgt := 137) C.1 C.2.1 dX12_uncle_130 (by decide) (fun hc => ?_) (fun hc => ?_)
      · have hf := zif_f hc hf
        refine lv_iload C.1 C.2.1 dX12_uncle_137 (lv_at hl 4 rfl) ?_
        exact zretI C hS hf dX12_uncle_139
      · have hf := zif_t hc hf
        refine lv_iload_n C.1 C.2.1 dX12_uncle_133 rfl (lv_at hl 3 rfl) ?_
        refine lv_goto (tgt := 139) C.1 C.2.1 dX12_uncle_134 (by decide) ?_
        exact zretI C hS hf dX12_uncle_139
    · have hf := zif_f hc hf
      refine lv_iload C.1 C.2.1 dX12_uncle_37 (lv_at hl 5 rfl) ?_
      refine lv_iload_n C.1 C.2.1 dX12_uncle_39 rfl (lv_at hl 1 rfl) ?_
      refine lv_icmp_ne (tgt := 46) C.1 C.2.1 dX12_uncle_40 (by decide) (fun hc => ?_) (fun hc => ?_)
      · have hf := zif_f hc hf
        refine lv_iconst (v := (0 : Int32)) C.1 C.2.1 dX12_uncle_46 rfl ?_
        refine lv_istore (lv' := [(6, .int (0 : Int32)), (0, .ref (zal G 100)), (1, .int x1), (2, .int x2), (3, .int x3), (4, .int x4), (5, .int x5)]) C.1 C.2.1 dX12_uncle_47 hl (by decide) rfl (fun ls hl => ?_)
        exact w_X12_uncle_49 C hm hk ih zN _ _ _ _ _ _ _ _ _ _ (lv_sub hl [1, 2, 3, 4, 5, 6, 0] rfl) hS hf
      · have hf := zif_t hc hf
        refine lv_goto (tgt := 123) C.1 C.2.1 dX12_uncle_43 (by decide) ?_
        exact w_X12_uncle_123 C hm hk ih _ _ _ _ _ _ _ _ _ (lv_sub hl [0, 1, 2, 3, 4, 5] rfl) hS hf
set_option maxHeartbeats 4000000 in
set_option maxRecDepth 100000 in
theorem c_X12_uncle (l : Launch) (G : zG) (h : zH) (x1 : Int32) (x2 : Int32) (q : Int32 × zH) (hm : ∀ c ∈ nd_X12_uncle, c ∈ znm G) (hk : ∀ q ∈ ld_X12_uncle, zlk G q.1 q.2 = true) (hf : f_X12_uncle x1 x2 h = some q) : zCtI l yX12_uncle cX12_uncle 7 (some .int) (8) [.ref (zal G 100), .int x1, .int x2] G h q.2 q.1 := by
  refine zMetI (by decide) (Nat.le_of_ble_eq_true rfl) ?_
  intro p e s m below meth c ls C hl hS
  have hl : lv_has ls 7 [(0, .ref (zal G 100)), (1, .int x1), (2, .int x2)] := hl
  have C : zC G p s m [.ref (zal G 100), .int x1, .int x2].toArray meth c cX12_uncle 7 RX12 (some .int) := C
  unfold f_X12_uncle at hf
  refine lv_iload_n C.1 C.2.1 dX12_uncle_0 rfl (lv_at hl 1 rfl) ?_
  obtain ⟨r1, h2, er1, hf⟩ := zbd_some hf
  refine zcallSI (As := [.int x1]) (rest := []) C hS ms_X12_81 (c_X12_isFamily l G h x1 (r1, h2) (fun c h => hm c (sn_X12_uncle_X12_isFamily c h)) (fun q h => hk q (sl_X12_uncle_X12_isFamily q h)) er1) rfl rfl (Nat.le_of_ble_eq_true rfl) hl.1 ⟨Nat.le_of_ble_eq_true rfl, Nat.le_of_ble_eq_true rfl, Nat.le_of_ble_eq_true rfl, Nat.le_of_ble_eq_true rfl⟩ dX12_uncle_1 (fun H locs hS => ?_)
  refine lv_if_eq (tgt := 16) C.1 C.2.1 dX12_uncle_4 (by decide) (fun hc => ?_) (fun hc => ?_)
  · have hf := zif_t hc hf
    exact w_X12_uncle_16 C hm hk  _ _ _ _ (lv_sub hl [] rfl) hS hf
  · have hf := zif_f hc hf
    refine lv_iload_n C.1 C.2.1 dX12_uncle_7 rfl (lv_at hl 2 rfl) ?_
    refine lv_iconst (v := (0 : Int32)) C.1 C.2.1 dX12_uncle_8 rfl ?_
    refine lv_iconst (v := (1 : Int32)) C.1 C.2.1 dX12_uncle_9 rfl ?_
    obtain ⟨r3, h4, er3, hf⟩ := zbd_some hf
    refine zcallSI (As := [.int x2, .int (0 : Int32), .int (1 : Int32)]) (rest := []) C hS ms_X12_65 (c_X12_isIn l G h2 x2 (0 : Int32) (1 : Int32) (r3, h4) (fun c h => hm c (sn_X12_uncle_X12_isIn c h)) (fun q h => hk q (sl_X12_uncle_X12_isIn q h)) er3) rfl rfl (Nat.le_of_ble_eq_true rfl) hl.1 ⟨Nat.le_of_ble_eq_true rfl, Nat.le_of_ble_eq_true rfl, Nat.le_of_ble_eq_true rfl, Nat.le_of_ble_eq_true rfl⟩ dX12_uncle_10 (fun H locs hS => ?_)
    refine lv_if_ne (tgt := 18) C.1 C.2.1 dX12_uncle_13 (by decide) (fun hc => ?_) (fun hc => ?_)
    · have hf := zif_f hc hf
      refine lv_aload_n C.1 C.2.1 dX12_uncle_18 rfl (lv_at hl 0 rfl) ?_
      obtain ⟨r5, h6, er5, hf⟩ := zbd_some hf
      refine zcallVV (As := []) (rest := []) C hS mv_X12_341 (c_X12_laysQuarters l G h4  (r5, h6) (fun c h => hm c (sn_X12_uncle_X12_laysQuarters c h)) (fun q h => hk q (sl_X12_uncle_X12_laysQuarters q h)) er5) (hm 100 (by decide)) ⟨_, _, _, sh_100, rfl, rfl⟩ rfl rfl (Nat.le_of_ble_eq_true rfl) hl.1 ⟨Nat.le_of_ble_eq_true rfl, Nat.le_of_ble_eq_true rfl, Nat.le_of_ble_eq_true rfl, Nat.le_of_ble_eq_true rfl⟩ dX12_uncle_19 (fun H locs hS => ?_)
      refine lv_iconst (v := (-1 : Int32)) C.1 C.2.1 dX12_uncle_22 rfl ?_
      refine lv_istore_n (lv' := [(3, .int (-1 : Int32)), (0, .ref (zal G 100)), (1, .int x1), (2, .int x2)]) C.1 C.2.1 dX12_uncle_23 rfl hl (by decide) rfl (fun ls hl => ?_)
      refine lv_iconst (v := (-1 : Int32)) C.1 C.2.1 dX12_uncle_24 rfl ?_
      refine lv_istore (lv' := [(4, .int (-1 : Int32)), (3, .int (-1 : Int32)), (0, .ref (zal G 100)), (1, .int x1), (2, .int x2)]) C.1 C.2.1 dX12_uncle_25 hl (by decide) rfl (fun ls hl => ?_)
      refine lv_iconst (v := (0 : Int32)) C.1 C.2.1 dX12_uncle_27 rfl ?_
      refine lv_istore (lv' := [(5, .int (0 : Int32)), (4, .int (-1 : Int32)), (3, .int (-1 : Int32)), (0, .ref (zal G 100)), (1, .int x1), (2, .int x2)]) C.1 C.2.1 dX12_uncle_28 hl (by decide) rfl (fun ls hl => ?_)
      exact w_X12_uncle_30 C hm hk  zN _ _ _ _ _ _ _ _ _ (lv_sub hl [3, 4, 5, 2, 1, 0] rfl) hS hf
    · have hf := zif_t hc hf
      exact w_X12_uncle_16 C hm hk  _ _ _ _ (lv_sub hl [] rfl) hS hf
end
section
theorem dX12_sorts_0 : decode cX12_sorts 0 = .ok (.aload_n 0, 1) := by decide +kernel
theorem dX12_sorts_1 : decode cX12_sorts 1 = .ok (.iconst 0, 1) := by decide +kernel
theorem dX12_sorts_2 : decode cX12_sorts 2 = .ok (.putfield 302, 3) := by decide +kernel
theorem dX12_sorts_5 : decode cX12_sorts 5 = .ok (.aload_n 0, 1) := by decide +kernel
theorem dX12_sorts_6 : decode cX12_sorts 6 = .ok (.iconst 0, 1) := by decide +kernel
theorem dX12_sorts_7 : decode cX12_sorts 7 = .ok (.putfield 305, 3) := by decide +kernel
theorem dX12_sorts_10 : decode cX12_sorts 10 = .ok (.iconst 0, 1) := by decide +kernel
theorem dX12_sorts_11 : decode cX12_sorts 11 = .ok (.istore_n 1, 1) := by decide +kernel
theorem dX12_sorts_12 : decode cX12_sorts 12 = .ok (.iload_n 1, 1) := by decide +kernel
theorem dX12_sorts_13 : decode cX12_sorts 13 = .ok (.aload_n 0, 1) := by decide +kernel
theorem dX12_sorts_14 : decode cX12_sorts 14 = .ok (.getfield 7, 3) := by decide +kernel
theorem dX12_sorts_17 : decode cX12_sorts 17 = .ok (.iconst 3, 1) := by decide +kernel
theorem dX12_sorts_18 : decode cX12_sorts 18 = .ok (.iaload, 1) := by decide +kernel
theorem dX12_sorts_19 : decode cX12_sorts 19 = .ok (.if_icmp .ge 60, 3) := by decide +kernel
theorem dX12_sorts_22 : decode cX12_sorts 22 = .ok (.aload_n 0, 1) := by decide +kernel
theorem dX12_sorts_23 : decode cX12_sorts 23 = .ok (.iload_n 1, 1) := by decide +kernel
theorem dX12_sorts_24 : decode cX12_sorts 24 = .ok (.invokevirtual 259, 3) := by decide +kernel
theorem dX12_sorts_27 : decode cX12_sorts 27 = .ok (.ifCond .eq 26, 3) := by decide +kernel
theorem dX12_sorts_30 : decode cX12_sorts 30 = .ok (.aload_n 0, 1) := by decide +kernel
theorem dX12_sorts_31 : decode cX12_sorts 31 = .ok (.getfield 41, 3) := by decide +kernel
theorem dX12_sorts_34 : decode cX12_sorts 34 = .ok (.aload_n 0, 1) := by decide +kernel
theorem dX12_sorts_35 : decode cX12_sorts 35 = .ok (.getfield 302, 3) := by decide +kernel
theorem dX12_sorts_38 : decode cX12_sorts 38 = .ok (.iload_n 1, 1) := by decide +kernel
theorem dX12_sorts_39 : decode cX12_sorts 39 = .ok (.iastore, 1) := by decide +kernel
theorem dX12_sorts_40 : decode cX12_sorts 40 = .ok (.aload_n 0, 1) := by decide +kernel
theorem dX12_sorts_41 : decode cX12_sorts 41 = .ok (.dup, 1) := by decide +kernel
theorem dX12_sorts_42 : decode cX12_sorts 42 = .ok (.getfield 302, 3) := by decide +kernel
theorem dX12_sorts_45 : decode cX12_sorts 45 = .ok (.iconst 1, 1) := by decide +kernel
theorem dX12_sorts_46 : decode cX12_sorts 46 = .ok (.iadd, 1) := by decide +kernel
theorem dX12_sorts_47 : decode cX12_sorts 47 = .ok (.putfield 302, 3) := by decide +kernel
theorem dX12_sorts_50 : decode cX12_sorts 50 = .ok (.goto 23, 3) := by decide +kernel
theorem dX12_sorts_53 : decode cX12_sorts 53 = .ok (.aload_n 0, 1) := by decide +kernel
theorem dX12_sorts_54 : decode cX12_sorts 54 = .ok (.getfield 44, 3) := by decide +kernel
theorem dX12_sorts_57 : decode cX12_sorts 57 = .ok (.aload_n 0, 1) := by decide +kernel
theorem dX12_sorts_58 : decode cX12_sorts 58 = .ok (.getfield 305, 3) := by decide +kernel
theorem dX12_sorts_61 : decode cX12_sorts 61 = .ok (.iload_n 1, 1) := by decide +kernel
theorem dX12_sorts_62 : decode cX12_sorts 62 = .ok (.iastore, 1) := by decide +kernel
theorem dX12_sorts_63 : decode cX12_sorts 63 = .ok (.aload_n 0, 1) := by decide +kernel
theorem dX12_sorts_64 : decode cX12_sorts 64 = .ok (.dup, 1) := by decide +kernel
theorem dX12_sorts_65 : decode cX12_sorts 65 = .ok (.getfield 305, 3) := by decide +kernel
theorem dX12_sorts_68 : decode cX12_sorts 68 = .ok (.iconst 1, 1) := by decide +kernel
theorem dX12_sorts_69 : decode cX12_sorts 69 = .ok (.iadd, 1) := by decide +kernel
theorem dX12_sorts_70 : decode cX12_sorts 70 = .ok (.putfield 305, 3) := by decide +kernel
theorem dX12_sorts_73 : decode cX12_sorts 73 = .ok (.iinc 1 1, 3) := by decide +kernel
theorem dX12_sorts_76 : decode cX12_sorts 76 = .ok (.goto (-64), 3) := by decide +kernel
theorem dX12_sorts_79 : decode cX12_sorts 79 = .ok (.return_, 1) := by decide +kernel
abbrev nd_X12_sorts : List Nat := [100, 101, 110, 111]
abbrev ld_X12_sorts : List (Nat × Nat) := [(100, 0), (100, 27), (100, 28)]
theorem sn_X12_sorts_X12_isFront : ∀ c ∈ nd_X12_isFront, c ∈ nd_X12_sorts := by decide
theorem sl_X12_sorts_X12_isFront : ∀ q ∈ ld_X12_isFront, q ∈ ld_X12_sorts := by decide
def f_X12_sorts_73 (k12 : Int32 → zH → zR) (x1 : Int32) (h : zH) : zR := (zlt (x1 + (1 : Int32)) fun y7 => (k12 y7 h))
def f_X12_sorts_12  : Nat → Int32 → zH → zR
  | 0 => fun _ _ => none
  | n + 1 => fun x1 h => (if (h 101 3) ≤ x1 then (some (0, h)) else (zbd (f_X12_isFront x1 h) fun r3 h4 => (if r3 = 0 then (zck (h4 100 32) 16 (zst (zup h4 111 (Int32.toNatClampNeg (h4 100 32)) x1) fun h5 => (zst (zup h5 100 32 ((h5 100 32) + (1 : Int32))) fun h6 => (f_X12_sorts_73 (f_X12_sorts_12  n) x1 h6)))) else (zck (h4 100 31) 16 (zst (zup h4 110 (Int32.toNatClampNeg (h4 100 31)) x1) fun h8 => (zst (zup h8 100 31 ((h8 100 31) + (1 : Int32))) fun h9 => (f_X12_sorts_73 (f_X12_sorts_12  n) x1 h9)))))))
def f_X12_sorts  (h : zH) : zR := (zst (zup h 100 31 (0 : Int32)) fun h1 => (zst (zup h1 100 32 (0 : Int32)) fun h2 => (f_X12_sorts_12  zN (0 : Int32) h2)))
variable {p : Program} {l : Launch} {e : Env} {s : State} {m : MethodId} {args : Array Value} {below : List Frame} {meth : Method} {c : Code} {G : zG} {q : Int32 × zH}
set_option maxHeartbeats 4000000 in
set_option maxRecDepth 100000 in
theorem w_X12_sorts_73 {k12 : Int32 → zH → zR} (C : zC G p s m args meth c cX12_sorts 2 RX12 none) (hm : ∀ c ∈ nd_X12_sorts, c ∈ znm G) (hk : ∀ q ∈ ld_X12_sorts, zlk G q.1 q.2 = true) (hk12 : ∀ (ls : Array Slot) (H : Heap) (locs : List Loc) (h : zH) (x1 : Int32), lv_has ls 2 [(0, .ref (zal G 100)), (1, .int x1)] → zS G h s.heap H locs → k12 x1 h = some q → W p l e (zrm (5)) s m args below meth c H locs 0 0 (MQ below (zQV G q.2) args s 0 0 (zA G)) (F0 m 12 ls [])) : ∀ (ls : Array Slot) (H : Heap) (locs : List Loc) (h : zH) (x1 : Int32), lv_has ls 2 [(0, .ref (zal G 100)), (1, .int x1)] → zS G h s.heap H locs → f_X12_sorts_73 k12 x1 h = some q → W p l e (zrm (5)) s m args below meth c H locs 0 0 (MQ below (zQV G q.2) args s 0 0 (zA G)) (F0 m 73 ls []) := by
  intro ls H locs h x1 hl hS hf
  unfold f_X12_sorts_73 at hf
  obtain ⟨y7, ey7, hf⟩ := zlt_some hf
  refine lv_iinc (v := y7) (lv' := [(1, .int y7), (0, .ref (zal G 100))]) C.1 C.2.1 dX12_sorts_73 hl (k := 1) rfl ey7.symm (by decide) rfl (fun ls hl => ?_)
  refine lv_goto (tgt := 12) C.1 C.2.1 dX12_sorts_76 (by decide) ?_
  exact hk12 _ _ _ _ _ (lv_sub hl [1, 0] rfl) hS hf
set_option maxHeartbeats 4000000 in
set_option maxRecDepth 100000 in
theorem w_X12_sorts_12  (C : zC G p s m args meth c cX12_sorts 2 RX12 none) (hm : ∀ c ∈ nd_X12_sorts, c ∈ znm G) (hk : ∀ q ∈ ld_X12_sorts, zlk G q.1 q.2 = true)  : ∀ n, ∀ (ls : Array Slot) (H : Heap) (locs : List Loc) (h : zH) (x1 : Int32), lv_has ls 2 [(0, .ref (zal G 100)), (1, .int x1)] → zS G h s.heap H locs → f_X12_sorts_12  n x1 h = some q → W p l e (zrm (5)) s m args below meth c H locs 0 0 (MQ below (zQV G q.2) args s 0 0 (zA G)) (F0 m 12 ls []) := by
  intro n
  induction n with
  | zero => intro ls H locs h x1 hl hS hf; cases hf
  | succ n ih =>
    intro ls H locs h x1 hl hS hf
    rw [f_X12_sorts_12] at hf
    refine lv_iload_n C.1 C.2.1 dX12_sorts_12 rfl (lv_at hl 1 rfl) ?_
    refine lv_aload_n C.1 C.2.1 dX12_sorts_13 rfl (lv_at hl 0 rfl) ?_
    refine zgetR C hS ff_X12_7_100 (hm 100 (by decide)) (hk (100, 0) (by decide)) dX12_sorts_14 ?_
    refine lv_iconst (v := (3 : Int32)) C.1 C.2.1 dX12_sorts_17 rfl ?_
    refine zald C hS sh_101 (hm 101 (by decide)) (vp_in_iff.mpr (by decide)) dX12_sorts_18 ?_
    refine lv_icmp_ge (tgt := 79) C.1 C.2.1 dX12_sorts_19 (by decide) (fun hc => ?_) (fun hc => ?_)
    · have hf := zif_t hc hf
      exact zretV C hS hf dX12_sorts_79
    · have hf := zif_f hc hf
      refine lv_aload_n C.1 C.2.1 dX12_sorts_22 rfl (lv_at hl 0 rfl) ?_
      refine lv_iload_n C.1 C.2.1 dX12_sorts_23 rfl (lv_at hl 1 rfl) ?_
      obtain ⟨r3, h4, er3, hf⟩ := zbd_some hf
      refine zcallVI (As := [.int x1]) (rest := []) C hS mv_X12_259 (c_X12_isFront l G h x1 (r3, h4) (fun c h => hm c (sn_X12_sorts_X12_isFront c h)) (fun q h => hk q (sl_X12_sorts_X12_isFront q h)) er3) (hm 100 (by decide)) ⟨_, _, _, sh_100, rfl, rfl⟩ rfl rfl (Nat.le_of_ble_eq_true rfl) hl.1 ⟨Nat.le_of_ble_eq_true rfl, Nat.le_of_ble_eq_true rfl, Nat.le_of_ble_eq_true rfl, Nat.le_of_ble_eq_true rfl⟩ dX12_sorts_24 (fun H locs hS => ?_)
      refine lv_if_eq (tgt := 53) C.1 C.2.1 dX12_sorts_27 (by decide) (fun hc => ?_) (fun hc => ?_)
      · have hf := zif_t hc hf
        refine lv_aload_n C.1 C.2.1 dX12_sorts_53 rfl (lv_at hl 0 rfl) ?_
        refine zgetR C hS ff_X12_44_100 (hm 100 (by decide)) (hk (100, 28) (by decide)) dX12_sorts_54 ?_
        refine lv_aload_n C.1 C.2.1 dX12_sorts_57 rfl (lv_at hl 0 rfl) ?_
        refine zgetI C hS ff_X12_305_100 (hm 100 (by decide)) dX12_sorts_58 ?_
        refine lv_iload_n C.1 C.2.1 dX12_sorts_61 rfl (lv_at hl 1 rfl) ?_
        obtain ⟨hi, hf⟩ := zck_some hf
        refine zast C hS sh_111 (hm 111 (by decide)) hi dX12_sorts_62 (fun H locs hS => ?_)
        obtain ⟨h5, eh5, hf⟩ := zst_some hf
        have hS : zS G h5 s.heap H locs := by rw [eh5]; exact hS
        refine lv_aload_n C.1 C.2.1 dX12_sorts_63 rfl (lv_at hl 0 rfl) ?_
        refine lv_dup C.1 C.2.1 dX12_sorts_64 rfl ?_
        refine zgetI C hS ff_X12_305_100 (hm 100 (by decide)) dX12_sorts_65 ?_
        refine lv_iconst (v := (1 : Int32)) C.1 C.2.1 dX12_sorts_68 rfl ?_
        refine lv_iadd C.1 C.2.1 dX12_sorts_69 ?_
        refine zputI C hS ff_X12_305_100 fw_100_32 (hm 100 (by decide)) dX12_sorts_70 (fun H locs hS => ?_)
        obtain ⟨h6, eh6, hf⟩ := zst_some hf
        have hS : zS G h6 s.heap H locs := by rw [eh6]; exact hS
        exact w_X12_sorts_73 C hm hk ih _ _ _ _ _ (lv_sub hl [0, 1] rfl) hS hf
      · have hf := zif_f hc hf
        refine lv_aload_n C.1 C.2.1 dX12_sorts_30 rfl (lv_at hl 0 rfl) ?_
        refine zgetR C hS ff_X12_41_100 (hm 100 (by decide)) (hk (100, 27) (by decide)) dX12_sorts_31 ?_
        refine lv_aload_n C.1 C.2.1 dX12_sorts_34 rfl (lv_at hl 0 rfl) ?_
        refine zgetI C hS ff_X12_302_100 (hm 100 (by decide)) dX12_sorts_35 ?_
        refine lv_iload_n C.1 C.2.1 dX12_sorts_38 rfl (lv_at hl 1 rfl) ?_
        obtain ⟨hi, hf⟩ := zck_some hf
        refine zast C hS sh_110 (hm 110 (by decide)) hi dX12_sorts_39 (fun H locs hS => ?_)
        obtain ⟨h8, eh8, hf⟩ := zst_some hf
        have hS : zS G h8 s.heap H locs := by rw [eh8]; exact hS
        refine lv_aload_n C.1 C.2.1 dX12_sorts_40 rfl (lv_at hl 0 rfl) ?_
        refine lv_dup C.1 C.2.1 dX12_sorts_41 rfl ?_
        refine zgetI C hS ff_X12_302_100 (hm 100 (by decide)) dX12_sorts_42 ?_
        refine lv_iconst (v := (1 : Int32)) C.1 C.2.1 dX12_sorts_45 rfl ?_
        refine lv_iadd C.1 C.2.1 dX12_sorts_46 ?_
        refine zputI C hS ff_X12_302_100 fw_100_31 (hm 100 (by decide)) dX12_sorts_47 (fun H locs hS => ?_)
        obtain ⟨h9, eh9, hf⟩ := zst_some hf
        have hS : zS G h9 s.heap H locs := by rw [eh9]; exact hS
        refine lv_goto (tgt := 73) C.1 C.2.1 dX12_sorts_50 (by decide) ?_
        exact w_X12_sorts_73 C hm hk ih _ _ _ _ _ (lv_sub hl [0, 1] rfl) hS hf
set_option maxHeartbeats 4000000 in
set_option maxRecDepth 100000 in
theorem c_X12_sorts (l : Launch) (G : zG) (h : zH) (q : Int32 × zH) (hm : ∀ c ∈ nd_X12_sorts, c ∈ znm G) (hk : ∀ q ∈ ld_X12_sorts, zlk G q.1 q.2 = true) (hf : f_X12_sorts h = some q) : zCtV l yX12_sorts cX12_sorts 2 none (5) [.ref (zal G 100)] G h q.2 := by
  refine zMetV (by decide) (Nat.le_of_ble_eq_true rfl) ?_
  intro p e s m below meth c ls C hl hS
  have hl : lv_has ls 2 [(0, .ref (zal G 100))] := hl
  have C : zC G p s m [.ref (zal G 100)].toArray meth c cX12_sorts 2 RX12 none := C
  unfold f_X12_sorts at hf
  refine lv_aload_n C.1 C.2.1 dX12_sorts_0 rfl (lv_at hl 0 rfl) ?_
  refine lv_iconst (v := (0 : Int32)) C.1 C.2.1 dX12_sorts_1 rfl ?_
  refine zputI C hS ff_X12_302_100 fw_100_31 (hm 100 (by decide)) dX12_sorts_2 (fun H locs hS => ?_)
  obtain ⟨h1, eh1, hf⟩ := zst_some hf
  have hS : zS G h1 s.heap H locs := by rw [eh1]; exact hS
  refine lv_aload_n C.1 C.2.1 dX12_sorts_5 rfl (lv_at hl 0 rfl) ?_
  refine lv_iconst (v := (0 : Int32)) C.1 C.2.1 dX12_sorts_6 rfl ?_
  refine zputI C hS ff_X12_305_100 fw_100_32 (hm 100 (by decide)) dX12_sorts_7 (fun H locs hS => ?_)
  obtain ⟨h2, eh2, hf⟩ := zst_some hf
  have hS : zS G h2 s.heap H locs := by rw [eh2]; exact hS
  refine lv_iconst (v := (0 : Int32)) C.1 C.2.1 dX12_sorts_10 rfl ?_
  refine lv_istore_n (lv' := [(1, .int (0 : Int32)), (0, .ref (zal G 100))]) C.1 C.2.1 dX12_sorts_11 rfl hl (by decide) rfl (fun ls hl => ?_)
  exact w_X12_sorts_12 C hm hk  zN _ _ _ _ _ (lv_sub hl [1, 0] rfl) hS hf
end
section
theorem dX12_fitted_0 : decode cX12_fitted 0 = .ok (.aload_n 0, 1) := by decide +kernel
theorem dX12_fitted_1 : decode cX12_fitted 1 = .ok (.getfield 47, 3) := by decide +kernel
theorem dX12_fitted_4 : decode cX12_fitted 4 = .ok (.sipush 256, 3) := by decide +kernel
theorem dX12_fitted_7 : decode cX12_fitted 7 = .ok (.iload_n 1, 1) := by decide +kernel
theorem dX12_fitted_8 : decode cX12_fitted 8 = .ok (.imul, 1) := by decide +kernel
theorem dX12_fitted_9 : decode cX12_fitted 9 = .ok (.iload_n 2, 1) := by decide +kernel
theorem dX12_fitted_10 : decode cX12_fitted 10 = .ok (.iadd, 1) := by decide +kernel
theorem dX12_fitted_11 : decode cX12_fitted 11 = .ok (.iaload, 1) := by decide +kernel
theorem dX12_fitted_12 : decode cX12_fitted 12 = .ok (.ireturn, 1) := by decide +kernel
abbrev nd_X12_fitted : List Nat := [100, 112]
abbrev ld_X12_fitted : List (Nat × Nat) := [(100, 29)]
def f_X12_fitted  (x1 : Int32) (x2 : Int32) (h : zH) : zR := (zck (((256 : Int32) * x1) + x2) 2304 (some ((h 112 (Int32.toNatClampNeg (((256 : Int32) * x1) + x2))), h)))
variable {p : Program} {l : Launch} {e : Env} {s : State} {m : MethodId} {args : Array Value} {below : List Frame} {meth : Method} {c : Code} {G : zG} {q : Int32 × zH}
set_option maxHeartbeats 4000000 in
set_option maxRecDepth 100000 in
theorem c_X12_fitted (l : Launch) (G : zG) (h : zH) (x1 : Int32) (x2 : Int32) (q : Int32 × zH) (hm : ∀ c ∈ nd_X12_fitted, c ∈ znm G) (hk : ∀ q ∈ ld_X12_fitted, zlk G q.1 q.2 = true) (hf : f_X12_fitted x1 x2 h = some q) : zCtI l yX12_fitted cX12_fitted 3 (some .int) (2) [.ref (zal G 100), .int x1, .int x2] G h q.2 q.1 := by
  refine zMetI (by decide) (Nat.le_of_ble_eq_true rfl) ?_
  intro p e s m below meth c ls C hl hS
  have hl : lv_has ls 3 [(0, .ref (zal G 100)), (1, .int x1), (2, .int x2)] := hl
  have C : zC G p s m [.ref (zal G 100), .int x1, .int x2].toArray meth c cX12_fitted 3 RX12 (some .int) := C
  unfold f_X12_fitted at hf
  refine lv_aload_n C.1 C.2.1 dX12_fitted_0 rfl (lv_at hl 0 rfl) ?_
  refine zgetR C hS ff_X12_47_100 (hm 100 (by decide)) (hk (100, 29) (by decide)) dX12_fitted_1 ?_
  refine lv_sipush (v := (256 : Int32)) C.1 C.2.1 dX12_fitted_4 rfl ?_
  refine lv_iload_n C.1 C.2.1 dX12_fitted_7 rfl (lv_at hl 1 rfl) ?_
  refine lv_imul C.1 C.2.1 dX12_fitted_8 ?_
  refine lv_iload_n C.1 C.2.1 dX12_fitted_9 rfl (lv_at hl 2 rfl) ?_
  refine lv_iadd C.1 C.2.1 dX12_fitted_10 ?_
  obtain ⟨hi, hf⟩ := zck_some hf
  refine zald C hS sh_112 (hm 112 (by decide)) hi dX12_fitted_11 ?_
  exact zretI C hS hf dX12_fitted_12
end
section
theorem dX12_laysFit_0 : decode cX12_laysFit 0 = .ok (.iconst 1, 1) := by decide +kernel
theorem dX12_laysFit_1 : decode cX12_laysFit 1 = .ok (.aload_n 0, 1) := by decide +kernel
theorem dX12_laysFit_2 : decode cX12_laysFit 2 = .ok (.getfield 305, 3) := by decide +kernel
theorem dX12_laysFit_5 : decode cX12_laysFit 5 = .ok (.ishl, 1) := by decide +kernel
theorem dX12_laysFit_6 : decode cX12_laysFit 6 = .ok (.istore_n 1, 1) := by decide +kernel
theorem dX12_laysFit_7 : decode cX12_laysFit 7 = .ok (.iconst 0, 1) := by decide +kernel
theorem dX12_laysFit_8 : decode cX12_laysFit 8 = .ok (.istore_n 2, 1) := by decide +kernel
theorem dX12_laysFit_9 : decode cX12_laysFit 9 = .ok (.iload_n 2, 1) := by decide +kernel
theorem dX12_laysFit_10 : decode cX12_laysFit 10 = .ok (.iload_n 1, 1) := by decide +kernel
theorem dX12_laysFit_11 : decode cX12_laysFit 11 = .ok (.if_icmp .ge 25, 3) := by decide +kernel
theorem dX12_laysFit_14 : decode cX12_laysFit 14 = .ok (.aload_n 0, 1) := by decide +kernel
theorem dX12_laysFit_15 : decode cX12_laysFit 15 = .ok (.getfield 47, 3) := by decide +kernel
theorem dX12_laysFit_18 : decode cX12_laysFit 18 = .ok (.sipush 256, 3) := by decide +kernel
theorem dX12_laysFit_21 : decode cX12_laysFit 21 = .ok (.aload_n 0, 1) := by decide +kernel
theorem dX12_laysFit_22 : decode cX12_laysFit 22 = .ok (.getfield 302, 3) := by decide +kernel
theorem dX12_laysFit_25 : decode cX12_laysFit 25 = .ok (.imul, 1) := by decide +kernel
theorem dX12_laysFit_26 : decode cX12_laysFit 26 = .ok (.iload_n 2, 1) := by decide +kernel
theorem dX12_laysFit_27 : decode cX12_laysFit 27 = .ok (.iadd, 1) := by decide +kernel
theorem dX12_laysFit_28 : decode cX12_laysFit 28 = .ok (.iconst 0, 1) := by decide +kernel
theorem dX12_laysFit_29 : decode cX12_laysFit 29 = .ok (.iastore, 1) := by decide +kernel
theorem dX12_laysFit_30 : decode cX12_laysFit 30 = .ok (.iinc 2 1, 3) := by decide +kernel
theorem dX12_laysFit_33 : decode cX12_laysFit 33 = .ok (.goto (-24), 3) := by decide +kernel
theorem dX12_laysFit_36 : decode cX12_laysFit 36 = .ok (.aload_n 0, 1) := by decide +kernel
theorem dX12_laysFit_37 : decode cX12_laysFit 37 = .ok (.getfield 302, 3) := by decide +kernel
theorem dX12_laysFit_40 : decode cX12_laysFit 40 = .ok (.iconst 1, 1) := by decide +kernel
theorem dX12_laysFit_41 : decode cX12_laysFit 41 = .ok (.isub, 1) := by decide +kernel
theorem dX12_laysFit_42 : decode cX12_laysFit 42 = .ok (.istore_n 2, 1) := by decide +kernel
theorem dX12_laysFit_43 : decode cX12_laysFit 43 = .ok (.iload_n 2, 1) := by decide +kernel
theorem dX12_laysFit_44 : decode cX12_laysFit 44 = .ok (.ifCond .lt 111, 3) := by decide +kernel
theorem dX12_laysFit_47 : decode cX12_laysFit 47 = .ok (.iconst 0, 1) := by decide +kernel
theorem dX12_laysFit_48 : decode cX12_laysFit 48 = .ok (.istore_n 3, 1) := by decide +kernel
theorem dX12_laysFit_49 : decode cX12_laysFit 49 = .ok (.iload_n 3, 1) := by decide +kernel
theorem dX12_laysFit_50 : decode cX12_laysFit 50 = .ok (.iload_n 1, 1) := by decide +kernel
theorem dX12_laysFit_51 : decode cX12_laysFit 51 = .ok (.if_icmp .ge 98, 3) := by decide +kernel
theorem dX12_laysFit_54 : decode cX12_laysFit 54 = .ok (.aload_n 0, 1) := by decide +kernel
theorem dX12_laysFit_55 : decode cX12_laysFit 55 = .ok (.iload_n 2, 1) := by decide +kernel
theorem dX12_laysFit_56 : decode cX12_laysFit 56 = .ok (.iconst 1, 1) := by decide +kernel
theorem dX12_laysFit_57 : decode cX12_laysFit 57 = .ok (.iadd, 1) := by decide +kernel
theorem dX12_laysFit_58 : decode cX12_laysFit 58 = .ok (.iload_n 3, 1) := by decide +kernel
theorem dX12_laysFit_59 : decode cX12_laysFit 59 = .ok (.invokevirtual 308, 3) := by decide +kernel
theorem dX12_laysFit_62 : decode cX12_laysFit 62 = .ok (.istore 4, 2) := by decide +kernel
theorem dX12_laysFit_64 : decode cX12_laysFit 64 = .ok (.iconst 0, 1) := by decide +kernel
theorem dX12_laysFit_65 : decode cX12_laysFit 65 = .ok (.istore 5, 2) := by decide +kernel
theorem dX12_laysFit_67 : decode cX12_laysFit 67 = .ok (.iload 5, 2) := by decide +kernel
theorem dX12_laysFit_69 : decode cX12_laysFit 69 = .ok (.aload_n 0, 1) := by decide +kernel
theorem dX12_laysFit_70 : decode cX12_laysFit 70 = .ok (.getfield 305, 3) := by decide +kernel
theorem dX12_laysFit_73 : decode cX12_laysFit 73 = .ok (.if_icmp .ge 56, 3) := by decide +kernel
theorem dX12_laysFit_76 : decode cX12_laysFit 76 = .ok (.iload_n 3, 1) := by decide +kernel
theorem dX12_laysFit_77 : decode cX12_laysFit 77 = .ok (.iload 5, 2) := by decide +kernel
theorem dX12_laysFit_79 : decode cX12_laysFit 79 = .ok (.ishr, 1) := by decide +kernel
theorem dX12_laysFit_80 : decode cX12_laysFit 80 = .ok (.iconst 1, 1) := by decide +kernel
theorem dX12_laysFit_81 : decode cX12_laysFit 81 = .ok (.iand, 1) := by decide +kernel
theorem dX12_laysFit_82 : decode cX12_laysFit 82 = .ok (.ifCond .ne 41, 3) := by decide +kernel
theorem dX12_laysFit_85 : decode cX12_laysFit 85 = .ok (.iload 4, 2) := by decide +kernel
theorem dX12_laysFit_87 : decode cX12_laysFit 87 = .ok (.aload_n 0, 1) := by decide +kernel
theorem dX12_laysFit_88 : decode cX12_laysFit 88 = .ok (.aload_n 0, 1) := by decide +kernel
theorem dX12_laysFit_89 : decode cX12_laysFit 89 = .ok (.getfield 41, 3) := by decide +kernel
theorem dX12_laysFit_92 : decode cX12_laysFit 92 = .ok (.iload_n 2, 1) := by decide +kernel
theorem dX12_laysFit_93 : decode cX12_laysFit 93 = .ok (.iaload, 1) := by decide +kernel
theorem dX12_laysFit_94 : decode cX12_laysFit 94 = .ok (.aload_n 0, 1) := by decide +kernel
theorem dX12_laysFit_95 : decode cX12_laysFit 95 = .ok (.getfield 44, 3) := by decide +kernel
theorem dX12_laysFit_98 : decode cX12_laysFit 98 = .ok (.iload 5, 2) := by decide +kernel
theorem dX12_laysFit_100 : decode cX12_laysFit 100 = .ok (.iaload, 1) := by decide +kernel
theorem dX12_laysFit_101 : decode cX12_laysFit 101 = .ok (.invokevirtual 269, 3) := by decide +kernel
theorem dX12_laysFit_104 : decode cX12_laysFit 104 = .ok (.aload_n 0, 1) := by decide +kernel
theorem dX12_laysFit_105 : decode cX12_laysFit 105 = .ok (.iload_n 2, 1) := by decide +kernel
theorem dX12_laysFit_106 : decode cX12_laysFit 106 = .ok (.iconst 1, 1) := by decide +kernel
theorem dX12_laysFit_107 : decode cX12_laysFit 107 = .ok (.iadd, 1) := by decide +kernel
theorem dX12_laysFit_108 : decode cX12_laysFit 108 = .ok (.iload_n 3, 1) := by decide +kernel
theorem dX12_laysFit_109 : decode cX12_laysFit 109 = .ok (.iconst 1, 1) := by decide +kernel
theorem dX12_laysFit_110 : decode cX12_laysFit 110 = .ok (.iload 5, 2) := by decide +kernel
theorem dX12_laysFit_112 : decode cX12_laysFit 112 = .ok (.ishl, 1) := by decide +kernel
theorem dX12_laysFit_113 : decode cX12_laysFit 113 = .ok (.ior, 1) := by decide +kernel
theorem dX12_laysFit_114 : decode cX12_laysFit 114 = .ok (.invokevirtual 308, 3) := by decide +kernel
theorem dX12_laysFit_117 : decode cX12_laysFit 117 = .ok (.iadd, 1) := by decide +kernel
theorem dX12_laysFit_118 : decode cX12_laysFit 118 = .ok (.invokestatic 249, 3) := by decide +kernel
theorem dX12_laysFit_121 : decode cX12_laysFit 121 = .ok (.istore 4, 2) := by decide +kernel
theorem dX12_laysFit_123 : decode cX12_laysFit 123 = .ok (.iinc 5 1, 3) := by decide +kernel
theorem dX12_laysFit_126 : decode cX12_laysFit 126 = .ok (.goto (-59), 3) := by decide +kernel
theorem dX12_laysFit_129 : decode cX12_laysFit 129 = .ok (.aload_n 0, 1) := by decide +kernel
theorem dX12_laysFit_130 : decode cX12_laysFit 130 = .ok (.getfield 47, 3) := by decide +kernel
theorem dX12_laysFit_133 : decode cX12_laysFit 133 = .ok (.sipush 256, 3) := by decide +kernel
theorem dX12_laysFit_136 : decode cX12_laysFit 136 = .ok (.iload_n 2, 1) := by decide +kernel
theorem dX12_laysFit_137 : decode cX12_laysFit 137 = .ok (.imul, 1) := by decide +kernel
theorem dX12_laysFit_138 : decode cX12_laysFit 138 = .ok (.iload_n 3, 1) := by decide +kernel
theorem dX12_laysFit_139 : decode cX12_laysFit 139 = .ok (.iadd, 1) := by decide +kernel
theorem dX12_laysFit_140 : decode cX12_laysFit 140 = .ok (.iload 4, 2) := by decide +kernel
theorem dX12_laysFit_142 : decode cX12_laysFit 142 = .ok (.iastore, 1) := by decide +kernel
theorem dX12_laysFit_143 : decode cX12_laysFit 143 = .ok (.iinc 3 1, 3) := by decide +kernel
theorem dX12_laysFit_146 : decode cX12_laysFit 146 = .ok (.goto (-97), 3) := by decide +kernel
theorem dX12_laysFit_149 : decode cX12_laysFit 149 = .ok (.iinc 2 (-1), 3) := by decide +kernel
theorem dX12_laysFit_152 : decode cX12_laysFit 152 = .ok (.goto (-109), 3) := by decide +kernel
theorem dX12_laysFit_155 : decode cX12_laysFit 155 = .ok (.iconst 0, 1) := by decide +kernel
theorem dX12_laysFit_156 : decode cX12_laysFit 156 = .ok (.istore_n 2, 1) := by decide +kernel
theorem dX12_laysFit_157 : decode cX12_laysFit 157 = .ok (.iload_n 2, 1) := by decide +kernel
theorem dX12_laysFit_158 : decode cX12_laysFit 158 = .ok (.bipush 16, 2) := by decide +kernel
theorem dX12_laysFit_160 : decode cX12_laysFit 160 = .ok (.if_icmp .ge 16, 3) := by decide +kernel
theorem dX12_laysFit_163 : decode cX12_laysFit 163 = .ok (.aload_n 0, 1) := by decide +kernel
theorem dX12_laysFit_164 : decode cX12_laysFit 164 = .ok (.getfield 50, 3) := by decide +kernel
theorem dX12_laysFit_167 : decode cX12_laysFit 167 = .ok (.iload_n 2, 1) := by decide +kernel
theorem dX12_laysFit_168 : decode cX12_laysFit 168 = .ok (.iconst (-1), 1) := by decide +kernel
theorem dX12_laysFit_169 : decode cX12_laysFit 169 = .ok (.iastore, 1) := by decide +kernel
theorem dX12_laysFit_170 : decode cX12_laysFit 170 = .ok (.iinc 2 1, 3) := by decide +kernel
theorem dX12_laysFit_173 : decode cX12_laysFit 173 = .ok (.goto (-16), 3) := by decide +kernel
theorem dX12_laysFit_176 : decode cX12_laysFit 176 = .ok (.iconst 0, 1) := by decide +kernel
theorem dX12_laysFit_177 : decode cX12_laysFit 177 = .ok (.istore_n 2, 1) := by decide +kernel
theorem dX12_laysFit_178 : decode cX12_laysFit 178 = .ok (.iconst 0, 1) := by decide +kernel
theorem dX12_laysFit_179 : decode cX12_laysFit 179 = .ok (.istore_n 3, 1) := by decide +kernel
theorem dX12_laysFit_180 : decode cX12_laysFit 180 = .ok (.iload_n 3, 1) := by decide +kernel
theorem dX12_laysFit_181 : decode cX12_laysFit 181 = .ok (.aload_n 0, 1) := by decide +kernel
theorem dX12_laysFit_182 : decode cX12_laysFit 182 = .ok (.getfield 302, 3) := by decide +kernel
theorem dX12_laysFit_185 : decode cX12_laysFit 185 = .ok (.if_icmp .ge 132, 3) := by decide +kernel
theorem dX12_laysFit_188 : decode cX12_laysFit 188 = .ok (.iconst 0, 1) := by decide +kernel
theorem dX12_laysFit_189 : decode cX12_laysFit 189 = .ok (.istore 4, 2) := by decide +kernel
theorem dX12_laysFit_191 : decode cX12_laysFit 191 = .ok (.iload 4, 2) := by decide +kernel
theorem dX12_laysFit_193 : decode cX12_laysFit 193 = .ok (.aload_n 0, 1) := by decide +kernel
theorem dX12_laysFit_194 : decode cX12_laysFit 194 = .ok (.getfield 305, 3) := by decide +kernel
theorem dX12_laysFit_197 : decode cX12_laysFit 197 = .ok (.if_icmp .ge 59, 3) := by decide +kernel
theorem dX12_laysFit_200 : decode cX12_laysFit 200 = .ok (.iload_n 2, 1) := by decide +kernel
theorem dX12_laysFit_201 : decode cX12_laysFit 201 = .ok (.iload 4, 2) := by decide +kernel
theorem dX12_laysFit_203 : decode cX12_laysFit 203 = .ok (.ishr, 1) := by decide +kernel
theorem dX12_laysFit_204 : decode cX12_laysFit 204 = .ok (.iconst 1, 1) := by decide +kernel
theorem dX12_laysFit_205 : decode cX12_laysFit 205 = .ok (.iand, 1) := by decide +kernel
theorem dX12_laysFit_206 : decode cX12_laysFit 206 = .ok (.iconst 1, 1) := by decide +kernel
theorem dX12_laysFit_207 : decode cX12_laysFit 207 = .ok (.if_icmp .eq 43, 3) := by decide +kernel
theorem dX12_laysFit_210 : decode cX12_laysFit 210 = .ok (.aload_n 0, 1) := by decide +kernel
theorem dX12_laysFit_211 : decode cX12_laysFit 211 = .ok (.aload_n 0, 1) := by decide +kernel
theorem dX12_laysFit_212 : decode cX12_laysFit 212 = .ok (.getfield 41, 3) := by decide +kernel
theorem dX12_laysFit_215 : decode cX12_laysFit 215 = .ok (.iload_n 3, 1) := by decide +kernel
theorem dX12_laysFit_216 : decode cX12_laysFit 216 = .ok (.iaload, 1) := by decide +kernel
theorem dX12_laysFit_217 : decode cX12_laysFit 217 = .ok (.aload_n 0, 1) := by decide +kernel
theorem dX12_laysFit_218 : decode cX12_laysFit 218 = .ok (.getfield 44, 3) := by decide +kernel
theorem dX12_laysFit_221 : decode cX12_laysFit 221 = .ok (.iload 4, 2) := by decide +kernel
theorem dX12_laysFit_223 : decode cX12_laysFit 223 = .ok (.iaload, 1) := by decide +kernel
theorem dX12_laysFit_224 : decode cX12_laysFit 224 = .ok (.invokevirtual 269, 3) := by decide +kernel
theorem dX12_laysFit_227 : decode cX12_laysFit 227 = .ok (.aload_n 0, 1) := by decide +kernel
theorem dX12_laysFit_228 : decode cX12_laysFit 228 = .ok (.iload_n 3, 1) := by decide +kernel
theorem dX12_laysFit_229 : decode cX12_laysFit 229 = .ok (.iconst 1, 1) := by decide +kernel
theorem dX12_laysFit_230 : decode cX12_laysFit 230 = .ok (.iadd, 1) := by decide +kernel
theorem dX12_laysFit_231 : decode cX12_laysFit 231 = .ok (.iload_n 2, 1) := by decide +kernel
theorem dX12_laysFit_232 : decode cX12_laysFit 232 = .ok (.iconst 1, 1) := by decide +kernel
theorem dX12_laysFit_233 : decode cX12_laysFit 233 = .ok (.iload 4, 2) := by decide +kernel
theorem dX12_laysFit_235 : decode cX12_laysFit 235 = .ok (.ishl, 1) := by decide +kernel
theorem dX12_laysFit_236 : decode cX12_laysFit 236 = .ok (.ior, 1) := by decide +kernel
theorem dX12_laysFit_237 : decode cX12_laysFit 237 = .ok (.invokevirtual 308, 3) := by decide +kernel
theorem dX12_laysFit_240 : decode cX12_laysFit 240 = .ok (.iadd, 1) := by decide +kernel
theorem dX12_laysFit_241 : decode cX12_laysFit 241 = .ok (.aload_n 0, 1) := by decide +kernel
theorem dX12_laysFit_242 : decode cX12_laysFit 242 = .ok (.iload_n 3, 1) := by decide +kernel
theorem dX12_laysFit_243 : decode cX12_laysFit 243 = .ok (.iload_n 2, 1) := by decide +kernel
theorem dX12_laysFit_244 : decode cX12_laysFit 244 = .ok (.invokevirtual 308, 3) := by decide +kernel
theorem dX12_laysFit_247 : decode cX12_laysFit 247 = .ok (.if_icmp .eq 9, 3) := by decide +kernel
theorem dX12_laysFit_250 : decode cX12_laysFit 250 = .ok (.iinc 4 1, 3) := by decide +kernel
theorem dX12_laysFit_253 : decode cX12_laysFit 253 = .ok (.goto (-62), 3) := by decide +kernel
theorem dX12_laysFit_256 : decode cX12_laysFit 256 = .ok (.iload 4, 2) := by decide +kernel
theorem dX12_laysFit_258 : decode cX12_laysFit 258 = .ok (.aload_n 0, 1) := by decide +kernel
theorem dX12_laysFit_259 : decode cX12_laysFit 259 = .ok (.getfield 305, 3) := by decide +kernel
theorem dX12_laysFit_262 : decode cX12_laysFit 262 = .ok (.if_icmp .ne 6, 3) := by decide +kernel
theorem dX12_laysFit_265 : decode cX12_laysFit 265 = .ok (.goto 46, 3) := by decide +kernel
theorem dX12_laysFit_268 : decode cX12_laysFit 268 = .ok (.aload_n 0, 1) := by decide +kernel
theorem dX12_laysFit_269 : decode cX12_laysFit 269 = .ok (.getfield 50, 3) := by decide +kernel
theorem dX12_laysFit_272 : decode cX12_laysFit 272 = .ok (.aload_n 0, 1) := by decide +kernel
theorem dX12_laysFit_273 : decode cX12_laysFit 273 = .ok (.getfield 41, 3) := by decide +kernel
theorem dX12_laysFit_276 : decode cX12_laysFit 276 = .ok (.iload_n 3, 1) := by decide +kernel
theorem dX12_laysFit_277 : decode cX12_laysFit 277 = .ok (.iaload, 1) := by decide +kernel
theorem dX12_laysFit_278 : decode cX12_laysFit 278 = .ok (.aload_n 0, 1) := by decide +kernel
theorem dX12_laysFit_279 : decode cX12_laysFit 279 = .ok (.getfield 44, 3) := by decide +kernel
theorem dX12_laysFit_282 : decode cX12_laysFit 282 = .ok (.iload 4, 2) := by decide +kernel
theorem dX12_laysFit_284 : decode cX12_laysFit 284 = .ok (.iaload, 1) := by decide +kernel
theorem dX12_laysFit_285 : decode cX12_laysFit 285 = .ok (.iastore, 1) := by decide +kernel
theorem dX12_laysFit_286 : decode cX12_laysFit 286 = .ok (.aload_n 0, 1) := by decide +kernel
theorem dX12_laysFit_287 : decode cX12_laysFit 287 = .ok (.getfield 50, 3) := by decide +kernel
theorem dX12_laysFit_290 : decode cX12_laysFit 290 = .ok (.aload_n 0, 1) := by decide +kernel
theorem dX12_laysFit_291 : decode cX12_laysFit 291 = .ok (.getfield 44, 3) := by decide +kernel
theorem dX12_laysFit_294 : decode cX12_laysFit 294 = .ok (.iload 4, 2) := by decide +kernel
theorem dX12_laysFit_296 : decode cX12_laysFit 296 = .ok (.iaload, 1) := by decide +kernel
theorem dX12_laysFit_297 : decode cX12_laysFit 297 = .ok (.aload_n 0, 1) := by decide +kernel
theorem dX12_laysFit_298 : decode cX12_laysFit 298 = .ok (.getfield 41, 3) := by decide +kernel
theorem dX12_laysFit_301 : decode cX12_laysFit 301 = .ok (.iload_n 3, 1) := by decide +kernel
theorem dX12_laysFit_302 : decode cX12_laysFit 302 = .ok (.iaload, 1) := by decide +kernel
theorem dX12_laysFit_303 : decode cX12_laysFit 303 = .ok (.iastore, 1) := by decide +kernel
theorem dX12_laysFit_304 : decode cX12_laysFit 304 = .ok (.iload_n 2, 1) := by decide +kernel
theorem dX12_laysFit_305 : decode cX12_laysFit 305 = .ok (.iconst 1, 1) := by decide +kernel
theorem dX12_laysFit_306 : decode cX12_laysFit 306 = .ok (.iload 4, 2) := by decide +kernel
theorem dX12_laysFit_308 : decode cX12_laysFit 308 = .ok (.ishl, 1) := by decide +kernel
theorem dX12_laysFit_309 : decode cX12_laysFit 309 = .ok (.ior, 1) := by decide +kernel
theorem dX12_laysFit_310 : decode cX12_laysFit 310 = .ok (.istore_n 2, 1) := by decide +kernel
theorem dX12_laysFit_311 : decode cX12_laysFit 311 = .ok (.iinc 3 1, 3) := by decide +kernel
theorem dX12_laysFit_314 : decode cX12_laysFit 314 = .ok (.goto (-134), 3) := by decide +kernel
theorem dX12_laysFit_317 : decode cX12_laysFit 317 = .ok (.return_, 1) := by decide +kernel
abbrev nd_X12_laysFit : List Nat := [100, 101, 108, 109, 110, 111, 112, 113]
abbrev ld_X12_laysFit : List (Nat × Nat) := [(100, 0), (100, 9), (100, 10), (100, 27), (100, 28), (100, 29), (100, 30)]
theorem sn_X12_laysFit_X12_laughOf : ∀ c ∈ nd_X12_laughOf, c ∈ nd_X12_laysFit := by decide
theorem sl_X12_laysFit_X12_laughOf : ∀ q ∈ ld_X12_laughOf, q ∈ ld_X12_laysFit := by decide
theorem sn_X12_laysFit_X12_fitted : ∀ c ∈ nd_X12_fitted, c ∈ nd_X12_laysFit := by decide
theorem sl_X12_laysFit_X12_fitted : ∀ q ∈ ld_X12_fitted, q ∈ ld_X12_laysFit := by decide
theorem sn_X12_laysFit_X12_most : ∀ c ∈ nd_X12_most, c ∈ nd_X12_laysFit := by decide
theorem sl_X12_laysFit_X12_most : ∀ q ∈ ld_X12_most, q ∈ ld_X12_laysFit := by decide
def f_X12_laysFit_311 (k180 : Int32 → Int32 → zH → zR) (x2 : Int32) (x3 : Int32) (h : zH) : zR := (zlt (x3 + (1 : Int32)) fun y6 => (k180 x2 y6 h))
def f_X12_laysFit_256 (k180 : Int32 → Int32 → zH → zR) (x2 : Int32) (x3 : Int32) (x4 : Int32) (h : zH) : zR := (if x4 = (h 100 32) then (f_X12_laysFit_311 k180 x2 x3 h) else (zck x3 16 (zck x4 16 (zck (h 110 (Int32.toNatClampNeg x3)) 16 (zst (zup h 113 (Int32.toNatClampNeg (h 110 (Int32.toNatClampNeg x3))) (h 111 (Int32.toNatClampNeg x4))) fun h3 => (zck x4 16 (zck x3 16 (zck (h3 111 (Int32.toNatClampNeg x4)) 16 (zst (zup h3 113 (Int32.toNatClampNeg (h3 111 (Int32.toNatClampNeg x4))) (h3 110 (Int32.toNatClampNeg x3))) fun h4 => (zlt (x2 ||| ((1 : Int32) <<< (x4 &&& 31))) fun y5 => (f_X12_laysFit_311 k180 y5 x3 h4)))))))))))
def f_X12_laysFit_250 (k180 : Int32 → Int32 → zH → zR) (k191 : Int32 → Int32 → Int32 → zH → zR) (x2 : Int32) (x3 : Int32) (x4 : Int32) (h : zH) : zR := (zlt (x4 + (1 : Int32)) fun y7 => (k191 x2 x3 y7 h))
def f_X12_laysFit_191 (k180 : Int32 → Int32 → zH → zR) : Nat → Int32 → Int32 → Int32 → zH → zR
  | 0 => fun _ _ _ _ => none
  | n + 1 => fun x2 x3 x4 h => (if (h 100 32) ≤ x4 then (f_X12_laysFit_256 k180 x2 x3 x4 h) else (if ((x2 >>> (x4 &&& 31)) &&& (1 : Int32)) = (1 : Int32) then (f_X12_laysFit_250 k180 (f_X12_laysFit_191 k180 n) x2 x3 x4 h) else (zck x3 16 (zck x4 16 (zbd (f_X12_laughOf (h 110 (Int32.toNatClampNeg x3)) (h 111 (Int32.toNatClampNeg x4)) h) fun r8 h9 => (zbd (f_X12_fitted (x3 + (1 : Int32)) (x2 ||| ((1 : Int32) <<< (x4 &&& 31))) h9) fun r10 h11 => (zbd (f_X12_fitted x3 x2 h11) fun r12 h13 => (if (r8 + r10) = r12 then (f_X12_laysFit_256 k180 x2 x3 x4 h13) else (f_X12_laysFit_250 k180 (f_X12_laysFit_191 k180 n) x2 x3 x4 h13)))))))))
def f_X12_laysFit_180  : Nat → Int32 → Int32 → zH → zR
  | 0 => fun _ _ _ => none
  | n + 1 => fun x2 x3 h => (if (h 100 31) ≤ x3 then (some (0, h)) else (f_X12_laysFit_191 (f_X12_laysFit_180  n) zN x2 x3 (0 : Int32) h))
def f_X12_laysFit_157  : Nat → Int32 → zH → zR
  | 0 => fun _ _ => none
  | n + 1 => fun x2 h => (if (16 : Int32) ≤ x2 then (f_X12_laysFit_180  zN (0 : Int32) (0 : Int32) h) else (zck x2 16 (zst (zup h 113 (Int32.toNatClampNeg x2) (-1 : Int32)) fun h14 => (zlt (x2 + (1 : Int32)) fun y15 => (f_X12_laysFit_157  n y15 h14)))))
def f_X12_laysFit_123 (k43 : Int32 → Int32 → zH → zR) (k49 : Int32 → Int32 → Int32 → zH → zR) (k67 : Int32 → Int32 → Int32 → Int32 → Int32 → zH → zR) (x1 : Int32) (x2 : Int32) (x3 : Int32) (x4 : Int32) (x5 : Int32) (h : zH) : zR := (zlt (x5 + (1 : Int32)) fun y21 => (k67 x1 x2 x3 x4 y21 h))
def f_X12_laysFit_67 (k43 : Int32 → Int32 → zH → zR) (k49 : Int32 → Int32 → Int32 → zH → zR) : Nat → Int32 → Int32 → Int32 → Int32 → Int32 → zH → zR
  | 0 => fun _ _ _ _ _ _ => none
  | n + 1 => fun x1 x2 x3 x4 x5 h => (if (h 100 32) ≤ x5 then (zck (((256 : Int32) * x2) + x3) 2304 (zst (zup h 112 (Int32.toNatClampNeg (((256 : Int32) * x2) + x3)) x4) fun h19 => (zlt (x3 + (1 : Int32)) fun y20 => (k49 x1 x2 y20 h19)))) else (if ((x3 >>> (x5 &&& 31)) &&& (1 : Int32)) = 0 then (zck x2 16 (zck x5 16 (zbd (f_X12_laughOf (h 110 (Int32.toNatClampNeg x2)) (h 111 (Int32.toNatClampNeg x5)) h) fun r22 h23 => (zbd (f_X12_fitted (x2 + (1 : Int32)) (x3 ||| ((1 : Int32) <<< (x5 &&& 31))) h23) fun r24 h25 => (zbd (f_X12_most x4 (r22 + r24) h25) fun r26 h27 => (f_X12_laysFit_123 k43 k49 (f_X12_laysFit_67 k43 k49 n) x1 x2 x3 r26 x5 h27)))))) else (f_X12_laysFit_123 k43 k49 (f_X12_laysFit_67 k43 k49 n) x1 x2 x3 x4 x5 h)))
def f_X12_laysFit_49 (k43 : Int32 → Int32 → zH → zR) : Nat → Int32 → Int32 → Int32 → zH → zR
  | 0 => fun _ _ _ _ => none
  | n + 1 => fun x1 x2 x3 h => (if x1 ≤ x3 then (zlt (x2 + (-1 : Int32)) fun y16 => (k43 x1 y16 h)) else (zbd (f_X12_fitted (x2 + (1 : Int32)) x3 h) fun r17 h18 => (f_X12_laysFit_67 k43 (f_X12_laysFit_49 k43 n) zN x1 x2 x3 r17 (0 : Int32) h18)))
def f_X12_laysFit_43  : Nat → Int32 → Int32 → zH → zR
  | 0 => fun _ _ _ => none
  | n + 1 => fun x1 x2 h => (if x2 < 0 then (f_X12_laysFit_157  zN (0 : Int32) h) else (f_X12_laysFit_49 (f_X12_laysFit_43  n) zN x1 x2 (0 : Int32) h))
def f_X12_laysFit_9  : Nat → Int32 → Int32 → zH → zR
  | 0 => fun _ _ _ => none
  | n + 1 => fun x1 x2 h => (if x1 ≤ x2 then (zlt ((h 100 31) - (1 : Int32)) fun y2 => (f_X12_laysFit_43  zN x1 y2 h)) else (zck (((256 : Int32) * (h 100 31)) + x2) 2304 (zst (zup h 112 (Int32.toNatClampNeg (((256 : Int32) * (h 100 31)) + x2)) (0 : Int32)) fun h28 => (zlt (x2 + (1 : Int32)) fun y29 => (f_X12_laysFit_9  n x1 y29 h28)))))
def f_X12_laysFit  (h : zH) : zR := (zlt ((1 : Int32) <<< ((h 100 32) &&& 31)) fun y1 => (f_X12_laysFit_9  zN y1 (0 : Int32) h))
variable {p : Program} {l : Launch} {e : Env} {s : State} {m : MethodId} {args : Array Value} {below : List Frame} {meth : Method} {c : Code} {G : zG} {q : Int32 × zH}
set_option maxHeartbeats 4000000 in
set_option maxRecDepth 100000 in
theorem w_X12_laysFit_311 {k180 : Int32 → Int32 → zH → zR} (C : zC G p s m args meth c cX12_laysFit 6 RX12 none) (hm : ∀ c ∈ nd_X12_laysFit, c ∈ znm G) (hk : ∀ q ∈ ld_X12_laysFit, zlk G q.1 q.2 = true) (hk180 : ∀ (ls : Array Slot) (H : Heap) (locs : List Loc) (h : zH) (x2 : Int32) (x3 : Int32), lv_has ls 6 [(0, .ref (zal G 100)), (2, .int x2), (3, .int x3)] → zS G h s.heap H locs → k180 x2 x3 h = some q → W p l e (zrm (5)) s m args below meth c H locs 0 0 (MQ below (zQV G q.2) args s 0 0 (zA G)) (F0 m 180 ls [])) : ∀ (ls : Array Slot) (H : Heap) (locs : List Loc) (h : zH) (x2 : Int32) (x3 : Int32), lv_has ls 6 [(0, .ref (zal G 100)), (2, .int x2), (3, .int x3)] → zS G h s.heap H locs → f_X12_laysFit_311 k180 x2 x3 h = some q → W p l e (zrm (5)) s m args below meth c H locs 0 0 (MQ below (zQV G q.2) args s 0 0 (zA G)) (F0 m 311 ls []) := by
  intro ls H locs h x2 x3 hl hS hf
  unfold f_X12_laysFit_311 at hf
  obtain ⟨y6, ey6, hf⟩ := zlt_some hf
  refine lv_iinc (v := y6) (lv' := [(3, .int y6), (0, .ref (zal G 100)), (2, .int x2)]) C.1 C.2.1 dX12_laysFit_311 hl (k := 2) rfl ey6.symm (by decide) rfl (fun ls hl => ?_)
  refine lv_goto (tgt := 180) C.1 C.2.1 dX12_laysFit_314 (by decide) ?_
  exact hk180 _ _ _ _ _ _ (lv_sub hl [1, 2, 0] rfl) hS hf
set_option maxHeartbeats 4000000 in
set_option maxRecDepth 100000 in
theorem w_X12_laysFit_256 {k180 : Int32 → Int32 → zH → zR} (C : zC G p s m args meth c cX12_laysFit 6 RX12 none) (hm : ∀ c ∈ nd_X12_laysFit, c ∈ znm G) (hk : ∀ q ∈ ld_X12_laysFit, zlk G q.1 q.2 = true) (hk180 : ∀ (ls : Array Slot) (H : Heap) (locs : List Loc) (h : zH) (x2 : Int32) (x3 : Int32), lv_has ls 6 [(0, .ref (zal G 100)), (2, .int x2), (3, .int x3)] → zS G h s.heap H locs → k180 x2 x3 h = some q → W p l e (zrm (5)) s m args below meth c H locs 0 0 (MQ below (zQV G q.2) args s 0 0 (zA G)) (F0 m 180 ls [])) : ∀ (ls : Array Slot) (H : Heap) (locs : List Loc) (h : zH) (x2 : Int32) (x3 : Int32) (x4 : Int32), lv_has ls 6 [(0, .ref (zal G 100)), (2, .int x2), (3, .int x3), (4, .int x4)] → zS G h s.heap H locs → f_X12_laysFit_256 k180 x2 x3 x4 h = some q → W p l e (zrm (5)) s m args below meth c H locs 0 0 (MQ below (zQV G q.2) args s 0 0 (zA G)) (F0 m 256 ls []) := by
  intro ls H locs h x2 x3 x4 hl hS hf
  unfold f_X12_laysFit_256 at hf
  refine lv_iload C.1 C.2.1 dX12_laysFit_256 (lv_at hl 3 rfl) ?_
  refine lv_aload_n C.1 C.2.1 dX12_laysFit_258 rfl (lv_at hl 0 rfl) ?_
  refine zgetI C hS ff_X12_305_100 (hm 100 (by decide)) dX12_laysFit_259 ?_
  refine lv_icmp_ne (tgt := 268) C.1 C.2.1 dX12_laysFit_262 (by decide) (fun hc => ?_) (fun hc => ?_)
  · have hf := zif_f hc hf
    refine lv_aload_n C.1 C.2.1 dX12_laysFit_268 rfl (lv_at hl 0 rfl) ?_
    refine zgetR C hS ff_X12_50_100 (hm 100 (by decide)) (hk (100, 30) (by decide)) dX12_laysFit_269 ?_
    refine lv_aload_n C.1 C.2.1 dX12_laysFit_272 rfl (lv_at hl 0 rfl) ?_
    refine zgetR C hS ff_X12_41_100 (hm 100 (by decide)) (hk (100, 27) (by decide)) dX12_laysFit_273 ?_
    refine lv_iload_n C.1 C.2.1 dX12_laysFit_276 rfl (lv_at hl 2 rfl) ?_
    obtain ⟨hi, hf⟩ := zck_some hf
    refine zald C hS sh_110 (hm 110 (by decide)) hi dX12_laysFit_277 ?_
    refine lv_aload_n C.1 C.2.1 dX12_laysFit_278 rfl (lv_at hl 0 rfl) ?_
    refine zgetR C hS ff_X12_44_100 (hm 100 (by decide)) (hk (100, 28) (by decide)) dX12_laysFit_279 ?_
    refine lv_iload C.1 C.2.1 dX12_laysFit_282 (lv_at hl 3 rfl) ?_
    obtain ⟨hi, hf⟩ := zck_some hf
    refine zald C hS sh_111 (hm 111 (by decide)) hi dX12_laysFit_284 ?_
    obtain ⟨hi, hf⟩ := zck_some hf
    refine zast C hS sh_113 (hm 113 (by decide)) hi dX12_laysFit_285 (fun H locs hS => ?_)
    obtain ⟨h3, eh3, hf⟩ := zst_some hf
    have hS : zS G h3 s.heap H locs := by rw [eh3]; exact hS
    refine lv_aload_n C.1 C.2.1 dX12_laysFit_286 rfl (lv_at hl 0 rfl) ?_
    refine zgetR C hS ff_X12_50_100 (hm 100 (by decide)) (hk (100, 30) (by decide)) dX12_laysFit_287 ?_
    refine lv_aload_n C.1 C.2.1 dX12_laysFit_290 rfl (lv_at hl 0 rfl) ?_
    refine zgetR C hS ff_X12_44_100 (hm 100 (by decide)) (hk (100, 28) (by decide)) dX12_laysFit_291 ?_
    refine lv_iload C.1 C.2.1 dX12_laysFit_294 (lv_at hl 3 rfl) ?_
    obtain ⟨hi, hf⟩ := zck_some hf
    refine zald C hS sh_111 (hm 111 (by decide)) hi dX12_laysFit_296 ?_
    refine lv_aload_n C.1 C.2.1 dX12_laysFit_297 rfl (lv_at hl 0 rfl) ?_
    refine zgetR C hS ff_X12_41_100 (hm 100 (by decide)) (hk (100, 27) (by decide)) dX12_laysFit_298 ?_
    refine lv_iload_n C.1 C.2.1 dX12_laysFit_301 rfl (lv_at hl 2 rfl) ?_
    obtain ⟨hi, hf⟩ := zck_some hf
    refine zald C hS sh_110 (hm 110 (by decide)) hi dX12_laysFit_302 ?_
    obtain ⟨hi, hf⟩ := zck_some hf
    refine zast C hS sh_113 (hm 113 (by decide)) hi dX12_laysFit_303 (fun H locs hS => ?_)
    obtain ⟨h4, eh4, hf⟩ := zst_some hf
    have hS : zS G h4 s.heap H locs := by rw [eh4]; exact hS
    refine lv_iload_n C.1 C.2.1 dX12_laysFit_304 rfl (lv_at hl 1 rfl) ?_
    refine lv_iconst (v := (1 : Int32)) C.1 C.2.1 dX12_laysFit_305 rfl ?_
    refine lv_iload C.1 C.2.1 dX12_laysFit_306 (lv_at hl 3 rfl) ?_
    refine lv_ishl C.1 C.2.1 dX12_laysFit_308 ?_
    refine lv_ior C.1 C.2.1 dX12_laysFit_309 ?_
    obtain ⟨y5, ey5, hf⟩ := zlt_some hf
    refine ztop ey5 ?_
    refine lv_istore_n (lv' := [(2, .int y5), (0, .ref (zal G 100)), (3, .int x3), (4, .int x4)]) C.1 C.2.1 dX12_laysFit_310 rfl hl (by decide) rfl (fun ls hl => ?_)
    exact w_X12_laysFit_311 C hm hk hk180 _ _ _ _ _ _ (lv_sub hl [1, 0, 2] rfl) hS hf
  · have hf := zif_t hc hf
    refine lv_goto (tgt := 311) C.1 C.2.1 dX12_laysFit_265 (by decide) ?_
    exact w_X12_laysFit_311 C hm hk hk180 _ _ _ _ _ _ (lv_sub hl [0, 1, 2] rfl) hS hf
set_option maxHeartbeats 4000000 in
set_option maxRecDepth 100000 in
theorem w_X12_laysFit_250 {k180 : Int32 → Int32 → zH → zR} {k191 : Int32 → Int32 → Int32 → zH → zR} (C : zC G p s m args meth c cX12_laysFit 6 RX12 none) (hm : ∀ c ∈ nd_X12_laysFit, c ∈ znm G) (hk : ∀ q ∈ ld_X12_laysFit, zlk G q.1 q.2 = true) (hk180 : ∀ (ls : Array Slot) (H : Heap) (locs : List Loc) (h : zH) (x2 : Int32) (x3 : Int32), lv_has ls 6 [(0, .ref (zal G 100)), (2, .int x2), (3, .int x3)] → zS G h s.heap H locs → k180 x2 x3 h = some q → W p l e (zrm (5)) s m args below meth c H locs 0 0 (MQ below (zQV G q.2) args s 0 0 (zA G)) (F0 m 180 ls [])) (hk191 : ∀ (ls : Array Slot) (H : Heap) (locs : List Loc) (h : zH) (x2 : Int32) (x3 : Int32) (x4 : Int32), lv_has ls 6 [(0, .ref (zal G 100)), (2, .int x2), (3, .int x3), (4, .int x4)] → zS G h s.heap H locs → k191 x2 x3 x4 h = some q → W p l e (zrm (5)) s m args below meth c H locs 0 0 (MQ below (zQV G q.2) args s 0 0 (zA G)) (F0 m 191 ls [])) : ∀ (ls : Array Slot) (H : Heap) (locs : List Loc) (h : zH) (x2 : Int32) (x3 : Int32) (x4 : Int32), lv_has ls 6 [(0, .ref (zal G 100)), (2, .int x2), (3, .int x3), (4, .int x4)] → zS G h s.heap H locs → f_X12_laysFit_250 k180 k191 x2 x3 x4 h = some q → W p l e (zrm (5)) s m args below meth c H locs 0 0 (MQ below (zQV G q.2) args s 0 0 (zA G)) (F0 m 250 ls []) := by
  intro ls H locs h x2 x3 x4 hl hS hf
  unfold f_X12_laysFit_250 at hf
  obtain ⟨y7, ey7, hf⟩ := zlt_some hf
  refine lv_iinc (v := y7) (lv' := [(4, .int y7), (0, .ref (zal G 100)), (2, .int x2), (3, .int x3)]) C.1 C.2.1 dX12_laysFit_250 hl (k := 3) rfl ey7.symm (by decide) rfl (fun ls hl => ?_)
  refine lv_goto (tgt := 191) C.1 C.2.1 dX12_laysFit_253 (by decide) ?_
  exact hk191 _ _ _ _ _ _ _ (lv_sub hl [1, 2, 3, 0] rfl) hS hf
set_option maxHeartbeats 4000000 in
set_option maxRecDepth 100000 in
theorem w_X12_laysFit_191 {k180 : Int32 → Int32 → zH → zR} (C : zC G p s m args meth c cX12_laysFit 6 RX12 none) (hm : ∀ c ∈ nd_X12_laysFit, c ∈ znm G) (hk : ∀ q ∈ ld_X12_laysFit, zlk G q.1 q.2 = true) (hk180 : ∀ (ls : Array Slot) (H : Heap) (locs : List Loc) (h : zH) (x2 : Int32) (x3 : Int32), lv_has ls 6 [(0, .ref (zal G 100)), (2, .int x2), (3, .int x3)] → zS G h s.heap H locs → k180 x2 x3 h = some q → W p l e (zrm (5)) s m args below meth c H locs 0 0 (MQ below (zQV G q.2) args s 0 0 (zA G)) (F0 m 180 ls [])) : ∀ n, ∀ (ls : Array Slot) (H : Heap) (locs : List Loc) (h : zH) (x2 : Int32) (x3 : Int32) (x4 : Int32), lv_has ls 6 [(0, .ref (zal G 100)), (2, .int x2), (3, .int x3), (4, .int x4)] → zS G h s.heap H locs → f_X12_laysFit_191 k180 n x2 x3 x4 h = some q → W p l e (zrm (5)) s m args below meth c H locs 0 0 (MQ below (zQV G q.2) args s 0 0 (zA G)) (F0 m 191 ls []) := by
  intro n
  induction n with
  | zero => intro ls H locs h x2 x3 x4 hl hS hf; cases hf
  | succ n ih =>
    intro ls H locs h x2 x3 x4 hl hS hf
    rw [f_X12_laysFit_191] at hf
    refine lv_iload C.1 C.2.1 dX12_laysFit_191 (lv_at hl 3 rfl) ?_
    refine lv_aload_n C.1 C.2.1 dX12_laysFit_193 rfl (lv_at hl 0 rfl) ?_
    refine zgetI C hS ff_X12_305_100 (hm 100 (by decide)) dX12_laysFit_194 ?_
    refine lv_icmp_ge (tgt := 256) C.1 C.2.1 dX12_laysFit_197 (by decide) (fun hc => ?_) (fun hc => ?_)
    · have hf := zif_t hc hf
      exact w_X12_laysFit_256 C hm hk hk180 _ _ _ _ _ _ _ (lv_sub hl [0, 1, 2, 3] rfl) hS hf
    · have hf := zif_f hc hf
      refine lv_iload_n C.1 C.2.1 dX12_laysFit_200 rfl (lv_at hl 1 rfl) ?_
      refine lv_iload C.1 C.2.1 dX12_laysFit_201 (lv_at hl 3 rfl) ?_
      refine lv_ishr C.1 C.2.1 dX12_laysFit_203 ?_
      refine lv_iconst (v := (1 : Int32)) C.1 C.2.1 dX12_laysFit_204 rfl ?_
      refine lv_iand C.1 C.2.1 dX12_laysFit_205 ?_
      refine lv_iconst (v := (1 : Int32)) C.1 C.2.1 dX12_laysFit_206 rfl ?_
      refine lv_icmp_eq (tgt := 250) C.1 C.2.1 dX12_laysFit_207 (by decide) (fun hc => ?_) (fun hc => ?_)
      · have hf := zif_t hc hf
        exact w_X12_laysFit_250 C hm hk hk180 ih _ _ _ _ _ _ _ (lv_sub hl [0, 1, 2, 3] rfl) hS hf
      · have hf := zif_f hc hf
        refine lv_aload_n C.1 C.2.1 dX12_laysFit_210 rfl (lv_at hl 0 rfl) ?_
        refine lv_aload_n C.1 C.2.1 dX12_laysFit_211 rfl (lv_at hl 0 rfl) ?_
        refine zgetR C hS ff_X12_41_100 (hm 100 (by decide)) (hk (100, 27) (by decide)) dX12_laysFit_212 ?_
        refine lv_iload_n C.1 C.2.1 dX12_laysFit_215 rfl (lv_at hl 2 rfl) ?_
        obtain ⟨hi, hf⟩ := zck_some hf
        refine zald C hS sh_110 (hm 110 (by decide)) hi dX12_laysFit_216 ?_
        refine lv_aload_n C.1 C.2.1 dX12_laysFit_217 rfl (lv_at hl 0 rfl) ?_
        refine zgetR C hS ff_X12_44_100 (hm 100 (by decide)) (hk (100, 28) (by decide)) dX12_laysFit_218 ?_
        refine lv_iload C.1 C.2.1 dX12_laysFit_221 (lv_at hl 3 rfl) ?_
        obtain ⟨hi, hf⟩ := zck_some hf
        refine zald C hS sh_111 (hm 111 (by decide)) hi dX12_laysFit_223 ?_
        obtain ⟨r8, h9, er8, hf⟩ := zbd_some hf
        refine zcallVI (As := [.int (h 110 (Int32.toNatClampNeg x3)), .int (h 111 (Int32.toNatClampNeg x4))]) (rest := []) C hS mv_X12_269 (c_X12_laughOf l G h (h 110 (Int32.toNatClampNeg x3)) (h 111 (Int32.toNatClampNeg x4)) (r8, h9) (fun c h => hm c (sn_X12_laysFit_X12_laughOf c h)) (fun q h => hk q (sl_X12_laysFit_X12_laughOf q h)) er8) (hm 100 (by decide)) ⟨_, _, _, sh_100, rfl, rfl⟩ rfl rfl (Nat.le_of_ble_eq_true rfl) hl.1 ⟨Nat.le_of_ble_eq_true rfl, Nat.le_of_ble_eq_true rfl, Nat.le_of_ble_eq_true rfl, Nat.le_of_ble_eq_true rfl⟩ dX12_laysFit_224 (fun H locs hS => ?_)
        refine lv_aload_n C.1 C.2.1 dX12_laysFit_227 rfl (lv_at hl 0 rfl) ?_
        refine lv_iload_n C.1 C.2.1 dX12_laysFit_228 rfl (lv_at hl 2 rfl) ?_
        refine lv_iconst (v := (1 : Int32)) C.1 C.2.1 dX12_laysFit_229 rfl ?_
        refine lv_iadd C.1 C.2.1 dX12_laysFit_230 ?_
        refine lv_iload_n C.1 C.2.1 dX12_laysFit_231 rfl (lv_at hl 1 rfl) ?_
        refine lv_iconst (v := (1 : Int32)) C.1 C.2.1 dX12_laysFit_232 rfl ?_
        refine lv_iload C.1 C.2.1 dX12_laysFit_233 (lv_at hl 3 rfl) ?_
        refine lv_ishl C.1 C.2.1 dX12_laysFit_235 ?_
        refine lv_ior C.1 C.2.1 dX12_laysFit_236 ?_
        obtain ⟨r10, h11, er10, hf⟩ := zbd_some hf
        refine zcallVI (As := [.int (x3 + (1 : Int32)), .int (x2 ||| ((1 : Int32) <<< (x4 &&& 31)))]) (rest := [.int r8]) C hS mv_X12_308 (c_X12_fitted l G h9 (x3 + (1 : Int32)) (x2 ||| ((1 : Int32) <<< (x4 &&& 31))) (r10, h11) (fun c h => hm c (sn_X12_laysFit_X12_fitted c h)) (fun q h => hk q (sl_X12_laysFit_X12_fitted q h)) er10) (hm 100 (by decide)) ⟨_, _, _, sh_100, rfl, rfl⟩ rfl rfl (Nat.le_of_ble_eq_true rfl) hl.1 ⟨Nat.le_of_ble_eq_true rfl, Nat.le_of_ble_eq_true rfl, Nat.le_of_ble_eq_true rfl, Nat.le_of_ble_eq_true rfl⟩ dX12_laysFit_237 (fun H locs hS => ?_)
        refine lv_iadd C.1 C.2.1 dX12_laysFit_240 ?_
        refine lv_aload_n C.1 C.2.1 dX12_laysFit_241 rfl (lv_at hl 0 rfl) ?_
        refine lv_iload_n C.1 C.2.1 dX12_laysFit_242 rfl (lv_at hl 2 rfl) ?_
        refine lv_iload_n C.1 C.2.1 dX12_laysFit_243 rfl (lv_at hl 1 rfl) ?_
        obtain ⟨r12, h13, er12, hf⟩ := zbd_some hf
        refine zcallVI (As := [.int x3, .int x2]) (rest := [.int (r8 + r10)]) C hS mv_X12_308 (c_X12_fitted l G h11 x3 x2 (r12, h13) (fun c h => hm c (sn_X12_laysFit_X12_fitted c h)) (fun q h => hk q (sl_X12_laysFit_X12_fitted q h)) er12) (hm 100 (by decide)) ⟨_, _, _, sh_100, rfl, rfl⟩ rfl rfl (Nat.le_of_ble_eq_true rfl) hl.1 ⟨Nat.le_of_ble_eq_true rfl, Nat.le_of_ble_eq_true rfl, Nat.le_of_ble_eq_true rfl, Nat.le_of_ble_eq_true rfl⟩ dX12_laysFit_244 (fun H locs hS => ?_)
        refine lv_icmp_eq (tgt := 256) C.1 C.2.1 dX12_laysFit_247 (by decide) (fun hc => ?_) (fun hc => ?_)
        · have hf := zif_t hc hf
          exact w_X12_laysFit_256 C hm hk hk180 _ _ _ _ _ _ _ (lv_sub hl [0, 1, 2, 3] rfl) hS hf
        · have hf := zif_f hc hf
          exact w_X12_laysFit_250 C hm hk hk180 ih _ _ _ _ _ _ _ (lv_sub hl [0, 1, 2, 3] rfl) hS hf
set_option maxHeartbeats 4000000 in
set_option maxRecDepth 100000 in
theorem w_X12_laysFit_180  (C : zC G p s m args meth c cX12_laysFit 6 RX12 none) (hm : ∀ c ∈ nd_X12_laysFit, c ∈ znm G) (hk : ∀ q ∈ ld_X12_laysFit, zlk G q.1 q.2 = true)  : ∀ n, ∀ (ls : Array Slot) (H : Heap) (locs : List Loc) (h : zH) (x2 : Int32) (x3 : Int32), lv_has ls 6 [(0, .ref (zal G 100)), (2, .int x2), (3, .int x3)] → zS G h s.heap H locs → f_X12_laysFit_180  n x2 x3 h = some q → W p l e (zrm (5)) s m args below meth c H locs 0 0 (MQ below (zQV G q.2) args s 0 0 (zA G)) (F0 m 180 ls []) := by
  intro n
  induction n with
  | zero => intro ls H locs h x2 x3 hl hS hf; cases hf
  | succ n ih =>
    intro ls H locs h x2 x3 hl hS hf
    rw [f_X12_laysFit_180] at hf
    refine lv_iload_n C.1 C.2.1 dX12_laysFit_180 rfl (lv_at hl 2 rfl) ?_
    refine lv_aload_n C.1 C.2.1 dX12_laysFit_181 rfl (lv_at hl 0 rfl) ?_
    refine zgetI C hS ff_X12_302_100 (hm 100 (by decide)) dX12_laysFit_182 ?_
    refine lv_icmp_ge (tgt := 317) C.1 C.2.1 dX12_laysFit_185 (by decide) (fun hc => ?_) (fun hc => ?_)
    · have hf := zif_t hc hf
      exact zretV C hS hf dX12_laysFit_317
    · have hf := zif_f hc hf
      refine lv_iconst (v := (0 : Int32)) C.1 C.2.1 dX12_laysFit_188 rfl ?_
      refine lv_istore (lv' := [(4, .int (0 : Int32)), (0, .ref (zal G 100)), (2, .int x2), (3, .int x3)]) C.1 C.2.1 dX12_laysFit_189 hl (by decide) rfl (fun ls hl => ?_)
      exact w_X12_laysFit_191 C hm hk ih zN _ _ _ _ _ _ _ (lv_sub hl [1, 2, 3, 0] rfl) hS hf
set_option maxHeartbeats 4000000 in
set_option maxRecDepth 100000 in
theorem w_X12_laysFit_157  (C : zC G p s m args meth c cX12_laysFit 6 RX12 none) (hm : ∀ c ∈ nd_X12_laysFit, c ∈ znm G) (hk : ∀ q ∈ ld_X12_laysFit, zlk G q.1 q.2 = true)  : ∀ n, ∀ (ls : Array Slot) (H : Heap) (locs : List Loc) (h : zH) (x2 : Int32), lv_has ls 6 [(0, .ref (zal G 100)), (2, .int x2)] → zS G h s.heap H locs → f_X12_laysFit_157  n x2 h = some q → W p l e (zrm (5)) s m args below meth c H locs 0 0 (MQ below (zQV G q.2) args s 0 0 (zA G)) (F0 m 157 ls []) := by
  intro n
  induction n with
  | zero => intro ls H locs h x2 hl hS hf; cases hf
  | succ n ih =>
    intro ls H locs h x2 hl hS hf
    rw [f_X12_laysFit_157] at hf
    refine lv_iload_n C.1 C.2.1 dX12_laysFit_157 rfl (lv_at hl 1 rfl) ?_
    refine lv_bipush (v := (16 : Int32)) C.1 C.2.1 dX12_laysFit_158 rfl ?_
    refine lv_icmp_ge (tgt := 176) C.1 C.2.1 dX12_laysFit_160 (by decide) (fun hc => ?_) (fun hc => ?_)
    · have hf := zif_t hc hf
      refine lv_iconst (v := (0 : Int32)) C.1 C.2.1 dX12_laysFit_176 rfl ?_
      refine lv_istore_n (lv' := [(2, .int (0 : Int32)), (0, .ref (zal G 100))]) C.1 C.2.1 dX12_laysFit_177 rfl hl (by decide) rfl (fun ls hl => ?_)
      refine lv_iconst (v := (0 : Int32)) C.1 C.2.1 dX12_laysFit_178 rfl ?_
      refine lv_istore_n (lv' := [(3, .int (0 : Int32)), (2, .int (0 : Int32)), (0, .ref (zal G 100))]) C.1 C.2.1 dX12_laysFit_179 rfl hl (by decide) rfl (fun ls hl => ?_)
      exact w_X12_laysFit_180 C hm hk  zN _ _ _ _ _ _ (lv_sub hl [2, 1, 0] rfl) hS hf
    · have hf := zif_f hc hf
      refine lv_aload_n C.1 C.2.1 dX12_laysFit_163 rfl (lv_at hl 0 rfl) ?_
      refine zgetR C hS ff_X12_50_100 (hm 100 (by decide)) (hk (100, 30) (by decide)) dX12_laysFit_164 ?_
      refine lv_iload_n C.1 C.2.1 dX12_laysFit_167 rfl (lv_at hl 1 rfl) ?_
      refine lv_iconst (v := (-1 : Int32)) C.1 C.2.1 dX12_laysFit_168 rfl ?_
      obtain ⟨hi, hf⟩ := zck_some hf
      refine zast C hS sh_113 (hm 113 (by decide)) hi dX12_laysFit_169 (fun H locs hS => ?_)
      obtain ⟨h14, eh14, hf⟩ := zst_some hf
      have hS : zS G h14 s.heap H locs := by rw [eh14]; exact hS
      obtain ⟨y15, ey15, hf⟩ := zlt_some hf
      refine lv_iinc (v := y15) (lv' := [(2, .int y15), (0, .ref (zal G 100))]) C.1 C.2.1 dX12_laysFit_170 hl (k := 1) rfl ey15.symm (by decide) rfl (fun ls hl => ?_)
      refine lv_goto (tgt := 157) C.1 C.2.1 dX12_laysFit_173 (by decide) ?_
      exact ih _ _ _ _ _ (lv_sub hl [1, 0] rfl) hS hf
set_option maxHeartbeats 4000000 in
set_option maxRecDepth 100000 in
theorem w_X12_laysFit_123 {k43 : Int32 → Int32 → zH → zR} {k49 : Int32 → Int32 → Int32 → zH → zR} {k67 : Int32 → Int32 → Int32 → Int32 → Int32 → zH → zR} (C : zC G p s m args meth c cX12_laysFit 6 RX12 none) (hm : ∀ c ∈ nd_X12_laysFit, c ∈ znm G) (hk : ∀ q ∈ ld_X12_laysFit, zlk G q.1 q.2 = true) (hk43 : ∀ (ls : Array Slot) (H : Heap) (locs : List Loc) (h : zH) (x1 : Int32) (x2 : Int32), lv_has ls 6 [(0, .ref (zal G 100)), (1, .int x1), (2, .int x2)] → zS G h s.heap H locs → k43 x1 x2 h = some q → W p l e (zrm (5)) s m args below meth c H locs 0 0 (MQ below (zQV G q.2) args s 0 0 (zA G)) (F0 m 43 ls [])) (hk49 : ∀ (ls : Array Slot) (H : Heap) (locs : List Loc) (h : zH) (x1 : Int32) (x2 : Int32) (x3 : Int32), lv_has ls 6 [(0, .ref (zal G 100)), (1, .int x1), (2, .int x2), (3, .int x3)] → zS G h s.heap H locs → k49 x1 x2 x3 h = some q → W p l e (zrm (5)) s m args below meth c H locs 0 0 (MQ below (zQV G q.2) args s 0 0 (zA G)) (F0 m 49 ls [])) (hk67 : ∀ (ls : Array Slot) (H : Heap) (locs : List Loc) (h : zH) (x1 : Int32) (x2 : Int32) (x3 : Int32) (x4 : Int32) (x5 : Int32), lv_has ls 6 [(0, .ref (zal G 100)), (1, .int x1), (2, .int x2), (3, .int x3), (4, .int x4), (5, .int x5)] → zS G h s.heap H locs → k67 x1 x2 x3 x4 x5 h = some q → W p l e (zrm (5)) s m args below meth c H locs 0 0 (MQ below (zQV G q.2) args s 0 0 (zA G)) (F0 m 67 ls [])) : ∀ (ls : Array Slot) (H : Heap) (locs : List Loc) (h : zH) (x1 : Int32) (x2 : Int32) (x3 : Int32) (x4 : Int32) (x5 : Int32), lv_has ls 6 [(0, .ref (zal G 100)), (1, .int x1), (2, .int x2), (3, .int x3), (4, .int x4), (5, .int x5)] → zS G h s.heap H locs → f_X12_laysFit_123 k43 k49 k67 x1 x2 x3 x4 x5 h = some q → W p l e (zrm (5)) s m args below meth c H locs 0 0 (MQ below (zQV G q.2) args s 0 0 (zA G)) (F0 m 123 ls []) := by
  intro ls H locs h x1 x2 x3 x4 x5 hl hS hf
  unfold f_X12_laysFit_123 at hf
  obtain ⟨y21, ey21, hf⟩ := zlt_some hf
  refine lv_iinc (v := y21) (lv' := [(5, .int y21), (0, .ref (zal G 100)), (1, .int x1), (2, .int x2), (3, .int x3), (4, .int x4)]) C.1 C.2.1 dX12_laysFit_123 hl (k := 5) rfl ey21.symm (by decide) rfl (fun ls hl => ?_)
  refine lv_goto (tgt := 67) C.1 C.2.1 dX12_laysFit_126 (by decide) ?_
  exact hk67 _ _ _ _ _ _ _ _ _ (lv_sub hl [1, 2, 3, 4, 5, 0] rfl) hS hf
set_option maxHeartbeats 4000000 in
set_option maxRecDepth 100000 in
theorem w_X12_laysFit_67 {k43 : Int32 → Int32 → zH → zR} {k49 : Int32 → Int32 → Int32 → zH → zR} (C : zC G p s m args meth c cX12_laysFit 6 RX12 none) (hm : ∀ c ∈ nd_X12_laysFit, c ∈ znm G) (hk : ∀ q ∈ ld_X12_laysFit, zlk G q.1 q.2 = true) (hk43 : ∀ (ls : Array Slot) (H : Heap) (locs : List Loc) (h : zH) (x1 : Int32) (x2 : Int32), lv_has ls 6 [(0, .ref (zal G 100)), (1, .int x1), (2, .int x2)] → zS G h s.heap H locs → k43 x1 x2 h = some q → W p l e (zrm (5)) s m args below meth c H locs 0 0 (MQ below (zQV G q.2) args s 0 0 (zA G)) (F0 m 43 ls [])) (hk49 : ∀ (ls : Array Slot) (H : Heap) (locs : List Loc) (h : zH) (x1 : Int32) (x2 : Int32) (x3 : Int32), lv_has ls 6 [(0, .ref (zal G 100)), (1, .int x1), (2, .int x2), (3, .int x3)] → zS G h s.heap H locs → k49 x1 x2 x3 h = some q → W p l e (zrm (5)) s m args below meth c H locs 0 0 (MQ below (zQV G q.2) args s 0 0 (zA G)) (F0 m 49 ls [])) : ∀ n, ∀ (ls : Array Slot) (H : Heap) (locs : List Loc) (h : zH) (x1 : Int32) (x2 : Int32) (x3 : Int32) (x4 : Int32) (x5 : Int32), lv_has ls 6 [(0, .ref (zal G 100)), (1, .int x1), (2, .int x2), (3, .int x3), (4, .int x4), (5, .int x5)] → zS G h s.heap H locs → f_X12_laysFit_67 k43 k49 n x1 x2 x3 x4 x5 h = some q → W p l e (zrm (5)) s m args below meth c H locs 0 0 (MQ below (zQV G q.2) args s 0 0 (zA G)) (F0 m 67 ls []) := by
  intro n
  induction n with
  | zero => intro ls H locs h x1 x2 x3 x4 x5 hl hS hf; cases hf
  | succ n ih =>
    intro ls H locs h x1 x2 x3 x4 x5 hl hS hf
    rw [f_X12_laysFit_67] at hf
    refine lv_iload C.1 C.2.1 dX12_laysFit_67 (lv_at hl 5 rfl) ?_
    refine lv_aload_n C.1 C.2.1 dX12_laysFit_69 rfl (lv_at hl 0 rfl) ?_
    refine zgetI C hS ff_X12_305_100 (hm 100 (by decide)) dX12_laysFit_70 ?_
    refine lv_icmp_ge (tgt := 129) C.1 C.2.1 dX12_laysFit_73 (by decide) (fun hc => ?_) (fun hc => ?_)
    · have hf := zif_t hc hf
      refine lv_aload_n C.1 C.2.1 dX12_laysFit_129 rfl (lv_at hl 0 rfl) ?_
      refine zgetR C hS ff_X12_47_100 (hm 100 (by decide)) (hk (100, 29) (by decide)) dX12_laysFit_130 ?_
      refine lv_sipush (v := (256 : Int32)) C.1 C.2.1 dX12_laysFit_133 rfl ?_
      refine lv_iload_n C.1 C.2.1 dX12_laysFit_136 rfl (lv_at hl 2 rfl) ?_
      refine lv_imul C.1 C.2.1 dX12_laysFit_137 ?_
      refine lv_iload_n C.1 C.2.1 dX12_laysFit_138 rfl (lv_at hl 3 rfl) ?_
      refine lv_iadd C.1 C.2.1 dX12_laysFit_139 ?_
      refine lv_iload C.1 C.2.1 dX12_laysFit_140 (lv_at hl 4 rfl) ?_
      obtain ⟨hi, hf⟩ := zck_some hf
      refine zast C hS sh_112 (hm 112 (by decide)) hi dX12_laysFit_142 (fun H locs hS => ?_)
      obtain ⟨h19, eh19, hf⟩ := zst_some hf
      have hS : zS G h19 s.heap H locs := by rw [eh19]; exact hS
      obtain ⟨y20, ey20, hf⟩ := zlt_some hf
      refine lv_iinc (v := y20) (lv' := [(3, .int y20), (0, .ref (zal G 100)), (1, .int x1), (2, .int x2), (4, .int x4), (5, .int x5)]) C.1 C.2.1 dX12_laysFit_143 hl (k := 3) rfl ey20.symm (by decide) rfl (fun ls hl => ?_)
      refine lv_goto (tgt := 49) C.1 C.2.1 dX12_laysFit_146 (by decide) ?_
      exact hk49 _ _ _ _ _ _ _ (lv_sub hl [1, 2, 3, 0] rfl) hS hf
    · have hf := zif_f hc hf
      refine lv_iload_n C.1 C.2.1 dX12_laysFit_76 rfl (lv_at hl 3 rfl) ?_
      refine lv_iload C.1 C.2.1 dX12_laysFit_77 (lv_at hl 5 rfl) ?_
      refine lv_ishr C.1 C.2.1 dX12_laysFit_79 ?_
      refine lv_iconst (v := (1 : Int32)) C.1 C.2.1 dX12_laysFit_80 rfl ?_
      refine lv_iand C.1 C.2.1 dX12_laysFit_81 ?_
      refine lv_if_ne (tgt := 123) C.1 C.2.1 dX12_laysFit_82 (by decide) (fun hc => ?_) (fun hc => ?_)
      · have hf := zif_f hc hf
        exact w_X12_laysFit_123 C hm hk hk43 hk49 ih _ _ _ _ _ _ _ _ _ (lv_sub hl [0, 1, 2, 3, 4, 5] rfl) hS hf
      · have hf := zif_t hc hf
        refine lv_iload C.1 C.2.1 dX12_laysFit_85 (lv_at hl 4 rfl) ?_
        refine lv_aload_n C.1 C.2.1 dX12_laysFit_87 rfl (lv_at hl 0 rfl) ?_
        refine lv_aload_n C.1 C.2.1 dX12_laysFit_88 rfl (lv_at hl 0 rfl) ?_
        refine zgetR C hS ff_X12_41_100 (hm 100 (by decide)) (hk (100, 27) (by decide)) dX12_laysFit_89 ?_
        refine lv_iload_n C.1 C.2.1 dX12_laysFit_92 rfl (lv_at hl 2 rfl) ?_
        obtain ⟨hi, hf⟩ := zck_some hf
        refine zald C hS sh_110 (hm 110 (by decide)) hi dX12_laysFit_93 ?_
        refine lv_aload_n C.1 C.2.1 dX12_laysFit_94 rfl (lv_at hl 0 rfl) ?_
        refine zgetR C hS ff_X12_44_100 (hm 100 (by decide)) (hk (100, 28) (by decide)) dX12_laysFit_95 ?_
        refine lv_iload C.1 C.2.1 dX12_laysFit_98 (lv_at hl 5 rfl) ?_
        obtain ⟨hi, hf⟩ := zck_some hf
        refine zald C hS sh_111 (hm 111 (by decide)) hi dX12_laysFit_100 ?_
        obtain ⟨r22, h23, er22, hf⟩ := zbd_some hf
        refine zcallVI (As := [.int (h 110 (Int32.toNatClampNeg x2)), .int (h 111 (Int32.toNatClampNeg x5))]) (rest := [.int x4]) C hS mv_X12_269 (c_X12_laughOf l G h (h 110 (Int32.toNatClampNeg x2)) (h 111 (Int32.toNatClampNeg x5)) (r22, h23) (fun c h => hm c (sn_X12_laysFit_X12_laughOf c h)) (fun q h => hk q (sl_X12_laysFit_X12_laughOf q h)) er22) (hm 100 (by decide)) ⟨_, _, _, sh_100, rfl, rfl⟩ rfl rfl (Nat.le_of_ble_eq_true rfl) hl.1 ⟨Nat.le_of_ble_eq_true rfl, Nat.le_of_ble_eq_true rfl, Nat.le_of_ble_eq_true rfl, Nat.le_of_ble_eq_true rfl⟩ dX12_laysFit_101 (fun H locs hS => ?_)
        refine lv_aload_n C.1 C.2.1 dX12_laysFit_104 rfl (lv_at hl 0 rfl) ?_
        refine lv_iload_n C.1 C.2.1 dX12_laysFit_105 rfl (lv_at hl 2 rfl) ?_
        refine lv_iconst (v := (1 : Int32)) C.1 C.2.1 dX12_laysFit_106 rfl ?_
        refine lv_iadd C.1 C.2.1 dX12_laysFit_107 ?_
        refine lv_iload_n C.1 C.2.1 dX12_laysFit_108 rfl (lv_at hl 3 rfl) ?_
        refine lv_iconst (v := (1 : Int32)) C.1 C.2.1 dX12_laysFit_109 rfl ?_
        refine lv_iload C.1 C.2.1 dX12_laysFit_110 (lv_at hl 5 rfl) ?_
        refine lv_ishl C.1 C.2.1 dX12_laysFit_112 ?_
        refine lv_ior C.1 C.2.1 dX12_laysFit_113 ?_
        obtain ⟨r24, h25, er24, hf⟩ := zbd_some hf
        refine zcallVI (As := [.int (x2 + (1 : Int32)), .int (x3 ||| ((1 : Int32) <<< (x5 &&& 31)))]) (rest := [.int r22, .int x4]) C hS mv_X12_308 (c_X12_fitted l G h23 (x2 + (1 : Int32)) (x3 ||| ((1 : Int32) <<< (x5 &&& 31))) (r24, h25) (fun c h => hm c (sn_X12_laysFit_X12_fitted c h)) (fun q h => hk q (sl_X12_laysFit_X12_fitted q h)) er24) (hm 100 (by decide)) ⟨_, _, _, sh_100, rfl, rfl⟩ rfl rfl (Nat.le_of_ble_eq_true rfl) hl.1 ⟨Nat.le_of_ble_eq_true rfl, Nat.le_of_ble_eq_true rfl, Nat.le_of_ble_eq_true rfl, Nat.le_of_ble_eq_true rfl⟩ dX12_laysFit_114 (fun H locs hS => ?_)
        refine lv_iadd C.1 C.2.1 dX12_laysFit_117 ?_
        obtain ⟨r26, h27, er26, hf⟩ := zbd_some hf
        refine zcallSI (As := [.int x4, .int (r22 + r24)]) (rest := []) C hS ms_X12_249 (c_X12_most l G h25 x4 (r22 + r24) (r26, h27) (fun c h => hm c (sn_X12_laysFit_X12_most c h)) (fun q h => hk q (sl_X12_laysFit_X12_most q h)) er26) rfl rfl (Nat.le_of_ble_eq_true rfl) hl.1 ⟨Nat.le_of_ble_eq_true rfl, Nat.le_of_ble_eq_true rfl, Nat.le_of_ble_eq_true rfl, Nat.le_of_ble_eq_true rfl⟩ dX12_laysFit_118 (fun H locs hS => ?_)
        refine lv_istore (lv' := [(4, .int r26), (0, .ref (zal G 100)), (1, .int x1), (2, .int x2), (3, .int x3), (5, .int x5)]) C.1 C.2.1 dX12_laysFit_121 hl (by decide) rfl (fun ls hl => ?_)
        exact w_X12_laysFit_123 C hm hk hk43 hk49 ih _ _ _ _ _ _ _ _ _ (lv_sub hl [1, 2, 3, 4, 0, 5] rfl) hS hf
set_option maxHeartbeats 4000000 in
set_option maxRecDepth 100000 in
theorem w_X12_laysFit_49 {k43 : Int32 → Int32 → zH → zR} (C : zC G p s m args meth c cX12_laysFit 6 RX12 none) (hm : ∀ c ∈ nd_X12_laysFit, c ∈ znm G) (hk : ∀ q ∈ ld_X12_laysFit, zlk G q.1 q.2 = true) (hk43 : ∀ (ls : Array Slot) (H : Heap) (locs : List Loc) (h : zH) (x1 : Int32) (x2 : Int32), lv_has ls 6 [(0, .ref (zal G 100)), (1, .int x1), (2, .int x2)] → zS G h s.heap H locs → k43 x1 x2 h = some q → W p l e (zrm (5)) s m args below meth c H locs 0 0 (MQ below (zQV G q.2) args s 0 0 (zA G)) (F0 m 43 ls [])) : ∀ n, ∀ (ls : Array Slot) (H : Heap) (locs : List Loc) (h : zH) (x1 : Int32) (x2 : Int32) (x3 : Int32), lv_has ls 6 [(0, .ref (zal G 100)), (1, .int x1), (2, .int x2), (3, .int x3)] → zS G h s.heap H locs → f_X12_laysFit_49 k43 n x1 x2 x3 h = some q → W p l e (zrm (5)) s m args below meth c H locs 0 0 (MQ below (zQV G q.2) args s 0 0 (zA G)) (F0 m 49 ls []) := by
  intro n
  induction n with
  | zero => intro ls H locs h x1 x2 x3 hl hS hf; cases hf
  | succ n ih =>
    intro ls H locs h x1 x2 x3 hl hS hf
    rw [f_X12_laysFit_49] at hf
    refine lv_iload_n C.1 C.2.1 dX12_laysFit_49 rfl (lv_at hl 3 rfl) ?_
    refine lv_iload_n C.1 C.2.1 dX12_laysFit_50 rfl (lv_at hl 1 rfl) ?_
    refine lv_icmp_ge (tgt := 149) C.1 C.2.1 dX12_laysFit_51 (by decide) (fun hc => ?_) (fun hc => ?_)
    · have hf := zif_t hc hf
      obtain ⟨y16, ey16, hf⟩ := zlt_some hf
      refine lv_iinc (v := y16) (lv' := [(2, .int y16), (0, .ref (zal G 100)), (1, .int x1), (3, .int x3)]) C.1 C.2.1 dX12_laysFit_149 hl (k := 2) rfl ey16.symm (by decide) rfl (fun ls hl => ?_)
      refine lv_goto (tgt := 43) C.1 C.2.1 dX12_laysFit_152 (by decide) ?_
      exact hk43 _ _ _ _ _ _ (lv_sub hl [1, 2, 0] rfl) hS hf
    · have hf := zif_f hc hf
      refine lv_aload_n C.1 C.2.1 dX12_laysFit_54 rfl (lv_at hl 0 rfl) ?_
      refine lv_iload_n C.1 C.2.1 dX12_laysFit_55 rfl (lv_at hl 2 rfl) ?_
      refine lv_iconst (v := (1 : Int32)) C.1 C.2.1 dX12_laysFit_56 rfl ?_
      refine lv_iadd C.1 C.2.1 dX12_laysFit_57 ?_
      refine lv_iload_n C.1 C.2.1 dX12_laysFit_58 rfl (lv_at hl 3 rfl) ?_
      obtain ⟨r17, h18, er17, hf⟩ := zbd_some hf
      refine zcallVI (As := [.int (x2 + (1 : Int32)), .int x3]) (rest := []) C hS mv_X12_308 (c_X12_fitted l G h (x2 + (1 : Int32)) x3 (r17, h18) (fun c h => hm c (sn_X12_laysFit_X12_fitted c h)) (fun q h => hk q (sl_X12_laysFit_X12_fitted q h)) er17) (hm 100 (by decide)) ⟨_, _, _, sh_100, rfl, rfl⟩ rfl rfl (Nat.le_of_ble_eq_true rfl) hl.1 ⟨Nat.le_of_ble_eq_true rfl, Nat.le_of_ble_eq_true rfl, Nat.le_of_ble_eq_true rfl, Nat.le_of_ble_eq_true rfl⟩ dX12_laysFit_59 (fun H locs hS => ?_)
      refine lv_istore (lv' := [(4, .int r17), (0, .ref (zal G 100)), (1, .int x1), (2, .int x2), (3, .int x3)]) C.1 C.2.1 dX12_laysFit_62 hl (by decide) rfl (fun ls hl => ?_)
      refine lv_iconst (v := (0 : Int32)) C.1 C.2.1 dX12_laysFit_64 rfl ?_
      refine lv_istore (lv' := [(5, .int (0 : Int32)), (4, .int r17), (0, .ref (zal G 100)), (1, .int x1), (2, .int x2), (3, .int x3)]) C.1 C.2.1 dX12_laysFit_65 hl (by decide) rfl (fun ls hl => ?_)
      exact w_X12_laysFit_67 C hm hk hk43 ih zN _ _ _ _ _ _ _ _ _ (lv_sub hl [2, 3, 4, 5, 1, 0] rfl) hS hf
set_option maxHeartbeats 4000000 in
set_option maxRecDepth 100000 in
theorem w_X12_laysFit_43  (C : zC G p s m args meth c cX12_laysFit 6 RX12 none) (hm : ∀ c ∈ nd_X12_laysFit, c ∈ znm G) (hk : ∀ q ∈ ld_X12_laysFit, zlk G q.1 q.2 = true)  : ∀ n, ∀ (ls : Array Slot) (H : Heap) (locs : List Loc) (h : zH) (x1 : Int32) (x2 : Int32), lv_has ls 6 [(0, .ref (zal G 100)), (1, .int x1), (2, .int x2)] → zS G h s.heap H locs → f_X12_laysFit_43  n x1 x2 h = some q → W p l e (zrm (5)) s m args below meth c H locs 0 0 (MQ below (zQV G q.2) args s 0 0 (zA G)) (F0 m 43 ls []) := by
  intro n
  induction n with
  | zero => intro ls H locs h x1 x2 hl hS hf; cases hf
  | succ n ih =>
    intro ls H locs h x1 x2 hl hS hf
    rw [f_X12_laysFit_43] at hf
    refine lv_iload_n C.1 C.2.1 dX12_laysFit_43 rfl (lv_at hl 2 rfl) ?_
    refine lv_if_lt (tgt := 155) C.1 C.2.1 dX12_laysFit_44 (by decide) (fun hc => ?_) (fun hc => ?_)
    · have hf := zif_t hc hf
      refine lv_iconst (v := (0 : Int32)) C.1 C.2.1 dX12_laysFit_155 rfl ?_
      refine lv_istore_n (lv' := [(2, .int (0 : Int32)), (0, .ref (zal G 100)), (1, .int x1)]) C.1 C.2.1 dX12_laysFit_156 rfl hl (by decide) rfl (fun ls hl => ?_)
      exact w_X12_laysFit_157 C hm hk  zN _ _ _ _ _ (lv_sub hl [1, 0] rfl) hS hf
    · have hf := zif_f hc hf
      refine lv_iconst (v := (0 : Int32)) C.1 C.2.1 dX12_laysFit_47 rfl ?_
      refine lv_istore_n (lv' := [(3, .int (0 : Int32)), (0, .ref (zal G 100)), (1, .int x1), (2, .int x2)]) C.1 C.2.1 dX12_laysFit_48 rfl hl (by decide) rfl (fun ls hl => ?_)
      exact w_X12_laysFit_49 C hm hk ih zN _ _ _ _ _ _ _ (lv_sub hl [1, 2, 3, 0] rfl) hS hf
set_option maxHeartbeats 4000000 in
set_option maxRecDepth 100000 in
theorem w_X12_laysFit_9  (C : zC G p s m args meth c cX12_laysFit 6 RX12 none) (hm : ∀ c ∈ nd_X12_laysFit, c ∈ znm G) (hk : ∀ q ∈ ld_X12_laysFit, zlk G q.1 q.2 = true)  : ∀ n, ∀ (ls : Array Slot) (H : Heap) (locs : List Loc) (h : zH) (x1 : Int32) (x2 : Int32), lv_has ls 6 [(0, .ref (zal G 100)), (1, .int x1), (2, .int x2)] → zS G h s.heap H locs → f_X12_laysFit_9  n x1 x2 h = some q → W p l e (zrm (5)) s m args below meth c H locs 0 0 (MQ below (zQV G q.2) args s 0 0 (zA G)) (F0 m 9 ls []) := by
  intro n
  induction n with
  | zero => intro ls H locs h x1 x2 hl hS hf; cases hf
  | succ n ih =>
    intro ls H locs h x1 x2 hl hS hf
    rw [f_X12_laysFit_9] at hf
    refine lv_iload_n C.1 C.2.1 dX12_laysFit_9 rfl (lv_at hl 2 rfl) ?_
    refine lv_iload_n C.1 C.2.1 dX12_laysFit_10 rfl (lv_at hl 1 rfl) ?_
    refine lv_icmp_ge (tgt := 36) C.1 C.2.1 dX12_laysFit_11 (by decide) (fun hc => ?_) (fun hc => ?_)
    · have hf := zif_t hc hf
      refine lv_aload_n C.1 C.2.1 dX12_laysFit_36 rfl (lv_at hl 0 rfl) ?_
      refine zgetI C hS ff_X12_302_100 (hm 100 (by decide)) dX12_laysFit_37 ?_
      refine lv_iconst (v := (1 : Int32)) C.1 C.2.1 dX12_laysFit_40 rfl ?_
      refine lv_isub C.1 C.2.1 dX12_laysFit_41 ?_
      obtain ⟨y2, ey2, hf⟩ := zlt_some hf
      refine ztop ey2 ?_
      refine lv_istore_n (lv' := [(2, .int y2), (0, .ref (zal G 100)), (1, .int x1)]) C.1 C.2.1 dX12_laysFit_42 rfl hl (by decide) rfl (fun ls hl => ?_)
      exact w_X12_laysFit_43 C hm hk  zN _ _ _ _ _ _ (lv_sub hl [1, 2, 0] rfl) hS hf
    · have hf := zif_f hc hf
      refine lv_aload_n C.1 C.2.1 dX12_laysFit_14 rfl (lv_at hl 0 rfl) ?_
      refine zgetR C hS ff_X12_47_100 (hm 100 (by decide)) (hk (100, 29) (by decide)) dX12_laysFit_15 ?_
      refine lv_sipush (v := (256 : Int32)) C.1 C.2.1 dX12_laysFit_18 rfl ?_
      refine lv_aload_n C.1 C.2.1 dX12_laysFit_21 rfl (lv_at hl 0 rfl) ?_
      refine zgetI C hS ff_X12_302_100 (hm 100 (by decide)) dX12_laysFit_22 ?_
      refine lv_imul C.1 C.2.1 dX12_laysFit_25 ?_
      refine lv_iload_n C.1 C.2.1 dX12_laysFit_26 rfl (lv_at hl 2 rfl) ?_
      refine lv_iadd C.1 C.2.1 dX12_laysFit_27 ?_
      refine lv_iconst (v := (0 : Int32)) C.1 C.2.1 dX12_laysFit_28 rfl ?_
      obtain ⟨hi, hf⟩ := zck_some hf
      refine zast C hS sh_112 (hm 112 (by decide)) hi dX12_laysFit_29 (fun H locs hS => ?_)
      obtain ⟨h28, eh28, hf⟩ := zst_some hf
      have hS : zS G h28 s.heap H locs := by rw [eh28]; exact hS
      obtain ⟨y29, ey29, hf⟩ := zlt_some hf
      refine lv_iinc (v := y29) (lv' := [(2, .int y29), (0, .ref (zal G 100)), (1, .int x1)]) C.1 C.2.1 dX12_laysFit_30 hl (k := 2) rfl ey29.symm (by decide) rfl (fun ls hl => ?_)
      refine lv_goto (tgt := 9) C.1 C.2.1 dX12_laysFit_33 (by decide) ?_
      exact ih _ _ _ _ _ _ (lv_sub hl [1, 2, 0] rfl) hS hf
set_option maxHeartbeats 4000000 in
set_option maxRecDepth 100000 in
theorem c_X12_laysFit (l : Launch) (G : zG) (h : zH) (q : Int32 × zH) (hm : ∀ c ∈ nd_X12_laysFit, c ∈ znm G) (hk : ∀ q ∈ ld_X12_laysFit, zlk G q.1 q.2 = true) (hf : f_X12_laysFit h = some q) : zCtV l yX12_laysFit cX12_laysFit 6 none (5) [.ref (zal G 100)] G h q.2 := by
  refine zMetV (by decide) (Nat.le_of_ble_eq_true rfl) ?_
  intro p e s m below meth c ls C hl hS
  have hl : lv_has ls 6 [(0, .ref (zal G 100))] := hl
  have C : zC G p s m [.ref (zal G 100)].toArray meth c cX12_laysFit 6 RX12 none := C
  unfold f_X12_laysFit at hf
  refine lv_iconst (v := (1 : Int32)) C.1 C.2.1 dX12_laysFit_0 rfl ?_
  refine lv_aload_n C.1 C.2.1 dX12_laysFit_1 rfl (lv_at hl 0 rfl) ?_
  refine zgetI C hS ff_X12_305_100 (hm 100 (by decide)) dX12_laysFit_2 ?_
  refine lv_ishl C.1 C.2.1 dX12_laysFit_5 ?_
  obtain ⟨y1, ey1, hf⟩ := zlt_some hf
  refine ztop ey1 ?_
  refine lv_istore_n (lv' := [(1, .int y1), (0, .ref (zal G 100))]) C.1 C.2.1 dX12_laysFit_6 rfl hl (by decide) rfl (fun ls hl => ?_)
  refine lv_iconst (v := (0 : Int32)) C.1 C.2.1 dX12_laysFit_7 rfl ?_
  refine lv_istore_n (lv' := [(2, .int (0 : Int32)), (1, .int y1), (0, .ref (zal G 100))]) C.1 C.2.1 dX12_laysFit_8 rfl hl (by decide) rfl (fun ls hl => ?_)
  exact w_X12_laysFit_9 C hm hk  zN _ _ _ _ _ _ (lv_sub hl [2, 1, 0] rfl) hS hf
end
section
theorem dX12_fit_0 : decode cX12_fit 0 = .ok (.iload_n 1, 1) := by decide +kernel
theorem dX12_fit_1 : decode cX12_fit 1 = .ok (.ifCond .eq 23, 3) := by decide +kernel
theorem dX12_fit_4 : decode cX12_fit 4 = .ok (.iload_n 1, 1) := by decide +kernel
theorem dX12_fit_5 : decode cX12_fit 5 = .ok (.bipush 10, 2) := by decide +kernel
theorem dX12_fit_7 : decode cX12_fit 7 = .ok (.bipush 9, 2) := by decide +kernel
theorem dX12_fit_9 : decode cX12_fit 9 = .ok (.aload_n 0, 1) := by decide +kernel
theorem dX12_fit_10 : decode cX12_fit 10 = .ok (.getfield 7, 3) := by decide +kernel
theorem dX12_fit_13 : decode cX12_fit 13 = .ok (.iconst 3, 1) := by decide +kernel
theorem dX12_fit_14 : decode cX12_fit 14 = .ok (.iaload, 1) := by decide +kernel
theorem dX12_fit_15 : decode cX12_fit 15 = .ok (.iadd, 1) := by decide +kernel
theorem dX12_fit_16 : decode cX12_fit 16 = .ok (.invokestatic 65, 3) := by decide +kernel
theorem dX12_fit_19 : decode cX12_fit 19 = .ok (.ifCond .ne 5, 3) := by decide +kernel
theorem dX12_fit_22 : decode cX12_fit 22 = .ok (.iconst (-1), 1) := by decide +kernel
theorem dX12_fit_23 : decode cX12_fit 23 = .ok (.ireturn, 1) := by decide +kernel
theorem dX12_fit_24 : decode cX12_fit 24 = .ok (.aload_n 0, 1) := by decide +kernel
theorem dX12_fit_25 : decode cX12_fit 25 = .ok (.invokevirtual 311, 3) := by decide +kernel
theorem dX12_fit_28 : decode cX12_fit 28 = .ok (.aload_n 0, 1) := by decide +kernel
theorem dX12_fit_29 : decode cX12_fit 29 = .ok (.getfield 302, 3) := by decide +kernel
theorem dX12_fit_32 : decode cX12_fit 32 = .ok (.bipush 8, 2) := by decide +kernel
theorem dX12_fit_34 : decode cX12_fit 34 = .ok (.if_icmp .gt 12, 3) := by decide +kernel
theorem dX12_fit_37 : decode cX12_fit 37 = .ok (.aload_n 0, 1) := by decide +kernel
theorem dX12_fit_38 : decode cX12_fit 38 = .ok (.getfield 305, 3) := by decide +kernel
theorem dX12_fit_41 : decode cX12_fit 41 = .ok (.bipush 8, 2) := by decide +kernel
theorem dX12_fit_43 : decode cX12_fit 43 = .ok (.if_icmp .le 5, 3) := by decide +kernel
theorem dX12_fit_46 : decode cX12_fit 46 = .ok (.iconst (-1), 1) := by decide +kernel
theorem dX12_fit_47 : decode cX12_fit 47 = .ok (.ireturn, 1) := by decide +kernel
theorem dX12_fit_48 : decode cX12_fit 48 = .ok (.aload_n 0, 1) := by decide +kernel
theorem dX12_fit_49 : decode cX12_fit 49 = .ok (.invokevirtual 314, 3) := by decide +kernel
theorem dX12_fit_52 : decode cX12_fit 52 = .ok (.iload_n 1, 1) := by decide +kernel
theorem dX12_fit_53 : decode cX12_fit 53 = .ok (.ifCond .ne 12, 3) := by decide +kernel
theorem dX12_fit_56 : decode cX12_fit 56 = .ok (.aload_n 0, 1) := by decide +kernel
theorem dX12_fit_57 : decode cX12_fit 57 = .ok (.iconst 0, 1) := by decide +kernel
theorem dX12_fit_58 : decode cX12_fit 58 = .ok (.iconst 0, 1) := by decide +kernel
theorem dX12_fit_59 : decode cX12_fit 59 = .ok (.invokevirtual 308, 3) := by decide +kernel
theorem dX12_fit_62 : decode cX12_fit 62 = .ok (.goto 12, 3) := by decide +kernel
theorem dX12_fit_65 : decode cX12_fit 65 = .ok (.aload_n 0, 1) := by decide +kernel
theorem dX12_fit_66 : decode cX12_fit 66 = .ok (.getfield 50, 3) := by decide +kernel
theorem dX12_fit_69 : decode cX12_fit 69 = .ok (.iload_n 1, 1) := by decide +kernel
theorem dX12_fit_70 : decode cX12_fit 70 = .ok (.bipush 10, 2) := by decide +kernel
theorem dX12_fit_72 : decode cX12_fit 72 = .ok (.isub, 1) := by decide +kernel
theorem dX12_fit_73 : decode cX12_fit 73 = .ok (.iaload, 1) := by decide +kernel
theorem dX12_fit_74 : decode cX12_fit 74 = .ok (.ireturn, 1) := by decide +kernel
abbrev nd_X12_fit : List Nat := [100, 101, 108, 109, 110, 111, 112, 113]
abbrev ld_X12_fit : List (Nat × Nat) := [(100, 0), (100, 9), (100, 10), (100, 27), (100, 28), (100, 29), (100, 30)]
theorem sn_X12_fit_X12_sorts : ∀ c ∈ nd_X12_sorts, c ∈ nd_X12_fit := by decide
theorem sl_X12_fit_X12_sorts : ∀ q ∈ ld_X12_sorts, q ∈ ld_X12_fit := by decide
theorem sn_X12_fit_X12_laysFit : ∀ c ∈ nd_X12_laysFit, c ∈ nd_X12_fit := by decide
theorem sl_X12_fit_X12_laysFit : ∀ q ∈ ld_X12_laysFit, q ∈ ld_X12_fit := by decide
theorem sn_X12_fit_X12_fitted : ∀ c ∈ nd_X12_fitted, c ∈ nd_X12_fit := by decide
theorem sl_X12_fit_X12_fitted : ∀ q ∈ ld_X12_fitted, q ∈ ld_X12_fit := by decide
theorem sn_X12_fit_X12_isIn : ∀ c ∈ nd_X12_isIn, c ∈ nd_X12_fit := by decide
theorem sl_X12_fit_X12_isIn : ∀ q ∈ ld_X12_isIn, q ∈ ld_X12_fit := by decide
def f_X12_fit_46  (h : zH) : zR := (some ((-1 : Int32), h))
def f_X12_fit_24  (x1 : Int32) (h : zH) : zR := (zbd (f_X12_sorts  h) fun r1 h2 => (if (8 : Int32) < (h2 100 31) then (f_X12_fit_46   h2) else (if (h2 100 32) ≤ (8 : Int32) then (zbd (f_X12_laysFit  h2) fun r3 h4 => (if x1 = 0 then (zbd (f_X12_fitted (0 : Int32) (0 : Int32) h4) fun r5 h6 => (some (r5, h6))) else (zck (x1 - (10 : Int32)) 16 (some ((h4 113 (Int32.toNatClampNeg (x1 - (10 : Int32)))), h4))))) else (f_X12_fit_46   h2))))
def f_X12_fit  (x1 : Int32) (h : zH) : zR := (if x1 = 0 then (f_X12_fit_24  x1 h) else (zbd (f_X12_isIn x1 (10 : Int32) ((9 : Int32) + (h 101 3)) h) fun r7 h8 => (if r7 = 0 then (some ((-1 : Int32), h8)) else (f_X12_fit_24  x1 h8))))
variable {p : Program} {l : Launch} {e : Env} {s : State} {m : MethodId} {args : Array Value} {below : List Frame} {meth : Method} {c : Code} {G : zG} {q : Int32 × zH}
set_option maxHeartbeats 4000000 in
set_option maxRecDepth 100000 in
theorem w_X12_fit_46  (C : zC G p s m args meth c cX12_fit 2 RX12 (some .int)) (hm : ∀ c ∈ nd_X12_fit, c ∈ znm G) (hk : ∀ q ∈ ld_X12_fit, zlk G q.1 q.2 = true)  : ∀ (ls : Array Slot) (H : Heap) (locs : List Loc) (h : zH), lv_has ls 2 [] → zS G h s.heap H locs → f_X12_fit_46  h = some q → W p l e (zrm (6)) s m args below meth c H locs 0 0 (MQ below (zQI G q.2 q.1) args s 0 0 (zA G)) (F0 m 46 ls []) := by
  intro ls H locs h hl hS hf
  unfold f_X12_fit_46 at hf
  refine lv_iconst (v := (-1 : Int32)) C.1 C.2.1 dX12_fit_46 rfl ?_
  exact zretI C hS hf dX12_fit_47
set_option maxHeartbeats 4000000 in
set_option maxRecDepth 100000 in
theorem w_X12_fit_24  (C : zC G p s m args meth c cX12_fit 2 RX12 (some .int)) (hm : ∀ c ∈ nd_X12_fit, c ∈ znm G) (hk : ∀ q ∈ ld_X12_fit, zlk G q.1 q.2 = true)  : ∀ (ls : Array Slot) (H : Heap) (locs : List Loc) (h : zH) (x1 : Int32), lv_has ls 2 [(0, .ref (zal G 100)), (1, .int x1)] → zS G h s.heap H locs → f_X12_fit_24  x1 h = some q → W p l e (zrm (6)) s m args below meth c H locs 0 0 (MQ below (zQI G q.2 q.1) args s 0 0 (zA G)) (F0 m 24 ls []) := by
  intro ls H locs h x1 hl hS hf
  unfold f_X12_fit_24 at hf
  refine lv_aload_n C.1 C.2.1 dX12_fit_24 rfl (lv_at hl 0 rfl) ?_
  obtain ⟨r1, h2, er1, hf⟩ := zbd_some hf
  refine zcallVV (As := []) (rest := []) C hS mv_X12_311 (c_X12_sorts l G h  (r1, h2) (fun c h => hm c (sn_X12_fit_X12_sorts c h)) (fun q h => hk q (sl_X12_fit_X12_sorts q h)) er1) (hm 100 (by decide)) ⟨_, _, _, sh_100, rfl, rfl⟩ rfl rfl (Nat.le_of_ble_eq_true rfl) hl.1 ⟨Nat.le_of_ble_eq_true rfl, Nat.le_of_ble_eq_true rfl, Nat.le_of_ble_eq_true rfl, Nat.le_of_ble_eq_true rfl⟩ dX12_fit_25 (fun H locs hS => ?_)
  refine lv_aload_n C.1 C.2.1 dX12_fit_28 rfl (lv_at hl 0 rfl) ?_
  refine zgetI C hS ff_X12_302_100 (hm 100 (by decide)) dX12_fit_29 ?_
  refine lv_bipush (v := (8 : Int32)) C.1 C.2.1 dX12_fit_32 rfl ?_
  refine lv_icmp_gt (tgt := 46) C.1 C.2.1 dX12_fit_34 (by decide) (fun hc => ?_) (fun hc => ?_)
  · have hf := zif_t hc hf
    exact w_X12_fit_46 C hm hk  _ _ _ _ (lv_sub hl [] rfl) hS hf
  · have hf := zif_f hc hf
    refine lv_aload_n C.1 C.2.1 dX12_fit_37 rfl (lv_at hl 0 rfl) ?_
    refine zgetI C hS ff_X12_305_100 (hm 100 (by decide)) dX12_fit_38 ?_
    refine lv_bipush (v := (8 : Int32)) C.1 C.2.1 dX12_fit_41 rfl ?_
    refine lv_icmp_le (tgt := 48) C.1 C.2.1 dX12_fit_43 (by decide) (fun hc => ?_) (fun hc => ?_)
    · have hf := zif_t hc hf
      refine lv_aload_n C.1 C.2.1 dX12_fit_48 rfl (lv_at hl 0 rfl) ?_
      obtain ⟨r3, h4, er3, hf⟩ := zbd_some hf
      refine zcallVV (As := []) (rest := []) C hS mv_X12_314 (c_X12_laysFit l G h2  (r3, h4) (fun c h => hm c (sn_X12_fit_X12_laysFit c h)) (fun q h => hk q (sl_X12_fit_X12_laysFit q h)) er3) (hm 100 (by decide)) ⟨_, _, _, sh_100, rfl, rfl⟩ rfl rfl (Nat.le_of_ble_eq_true rfl) hl.1 ⟨Nat.le_of_ble_eq_true rfl, Nat.le_of_ble_eq_true rfl, Nat.le_of_ble_eq_true rfl, Nat.le_of_ble_eq_true rfl⟩ dX12_fit_49 (fun H locs hS => ?_)
      refine lv_iload_n C.1 C.2.1 dX12_fit_52 rfl (lv_at hl 1 rfl) ?_
      refine lv_if_ne (tgt := 65) C.1 C.2.1 dX12_fit_53 (by decide) (fun hc => ?_) (fun hc => ?_)
      · have hf := zif_f hc hf
        refine lv_aload_n C.1 C.2.1 dX12_fit_65 rfl (lv_at hl 0 rfl) ?_
        refine zgetR C hS ff_X12_50_100 (hm 100 (by decide)) (hk (100, 30) (by decide)) dX12_fit_66 ?_
        refine lv_iload_n C.1 C.2.1 dX12_fit_69 rfl (lv_at hl 1 rfl) ?_
        refine lv_bipush (v := (10 : Int32)) C.1 C.2.1 dX12_fit_70 rfl ?_
        refine lv_isub C.1 C.2.1 dX12_fit_72 ?_
        obtain ⟨hi, hf⟩ := zck_some hf
        refine zald C hS sh_113 (hm 113 (by decide)) hi dX12_fit_73 ?_
        exact zretI C hS hf dX12_fit_74
      · have hf := zif_t hc hf
        refine lv_aload_n C.1 C.2.1 dX12_fit_56 rfl (lv_at hl 0 rfl) ?_
        refine lv_iconst (v := (0 : Int32)) C.1 C.2.1 dX12_fit_57 rfl ?_
        refine lv_iconst (v := (0 : Int32)) C.1 C.2.1 dX12_fit_58 rfl ?_
        obtain ⟨r5, h6, er5, hf⟩ := zbd_some hf
        refine zcallVI (As := [.int (0 : Int32), .int (0 : Int32)]) (rest := []) C hS mv_X12_308 (c_X12_fitted l G h4 (0 : Int32) (0 : Int32) (r5, h6) (fun c h => hm c (sn_X12_fit_X12_fitted c h)) (fun q h => hk q (sl_X12_fit_X12_fitted q h)) er5) (hm 100 (by decide)) ⟨_, _, _, sh_100, rfl, rfl⟩ rfl rfl (Nat.le_of_ble_eq_true rfl) hl.1 ⟨Nat.le_of_ble_eq_true rfl, Nat.le_of_ble_eq_true rfl, Nat.le_of_ble_eq_true rfl, Nat.le_of_ble_eq_true rfl⟩ dX12_fit_59 (fun H locs hS => ?_)
        refine lv_goto (tgt := 74) C.1 C.2.1 dX12_fit_62 (by decide) ?_
        exact zretI C hS hf dX12_fit_74
    · have hf := zif_f hc hf
      exact w_X12_fit_46 C hm hk  _ _ _ _ (lv_sub hl [] rfl) hS hf
set_option maxHeartbeats 4000000 in
set_option maxRecDepth 100000 in
theorem c_X12_fit (l : Launch) (G : zG) (h : zH) (x1 : Int32) (q : Int32 × zH) (hm : ∀ c ∈ nd_X12_fit, c ∈ znm G) (hk : ∀ q ∈ ld_X12_fit, zlk G q.1 q.2 = true) (hf : f_X12_fit x1 h = some q) : zCtI l yX12_fit cX12_fit 2 (some .int) (6) [.ref (zal G 100), .int x1] G h q.2 q.1 := by
  refine zMetI (by decide) (Nat.le_of_ble_eq_true rfl) ?_
  intro p e s m below meth c ls C hl hS
  have hl : lv_has ls 2 [(0, .ref (zal G 100)), (1, .int x1)] := hl
  have C : zC G p s m [.ref (zal G 100), .int x1].toArray meth c cX12_fit 2 RX12 (some .int) := C
  unfold f_X12_fit at hf
  refine lv_iload_n C.1 C.2.1 dX12_fit_0 rfl (lv_at hl 1 rfl) ?_
  refine lv_if_eq (tgt := 24) C.1 C.2.1 dX12_fit_1 (by decide) (fun hc => ?_) (fun hc => ?_)
  · have hf := zif_t hc hf
    exact w_X12_fit_24 C hm hk  _ _ _ _ _ (lv_sub hl [0, 1] rfl) hS hf
  · have hf := zif_f hc hf
    refine lv_iload_n C.1 C.2.1 dX12_fit_4 rfl (lv_at hl 1 rfl) ?_
    refine lv_bipush (v := (10 : Int32)) C.1 C.2.1 dX12_fit_5 rfl ?_
    refine lv_bipush (v := (9 : Int32)) C.1 C.2.1 dX12_fit_7 rfl ?_
    refine lv_aload_n C.1 C.2.1 dX12_fit_9 rfl (lv_at hl 0 rfl) ?_
    refine zgetR C hS ff_X12_7_100 (hm 100 (by decide)) (hk (100, 0) (by decide)) dX12_fit_10 ?_
    refine lv_iconst (v := (3 : Int32)) C.1 C.2.1 dX12_fit_13 rfl ?_
    refine zald C hS sh_101 (hm 101 (by decide)) (vp_in_iff.mpr (by decide)) dX12_fit_14 ?_
    refine lv_iadd C.1 C.2.1 dX12_fit_15 ?_
    obtain ⟨r7, h8, er7, hf⟩ := zbd_some hf
    refine zcallSI (As := [.int x1, .int (10 : Int32), .int ((9 : Int32) + (h 101 3))]) (rest := []) C hS ms_X12_65 (c_X12_isIn l G h x1 (10 : Int32) ((9 : Int32) + (h 101 3)) (r7, h8) (fun c h => hm c (sn_X12_fit_X12_isIn c h)) (fun q h => hk q (sl_X12_fit_X12_isIn q h)) er7) rfl rfl (Nat.le_of_ble_eq_true rfl) hl.1 ⟨Nat.le_of_ble_eq_true rfl, Nat.le_of_ble_eq_true rfl, Nat.le_of_ble_eq_true rfl, Nat.le_of_ble_eq_true rfl⟩ dX12_fit_16 (fun H locs hS => ?_)
    refine lv_if_ne (tgt := 24) C.1 C.2.1 dX12_fit_19 (by decide) (fun hc => ?_) (fun hc => ?_)
    · have hf := zif_f hc hf
      exact w_X12_fit_24 C hm hk  _ _ _ _ _ (lv_sub hl [0, 1] rfl) hS hf
    · have hf := zif_t hc hf
      refine lv_iconst (v := (-1 : Int32)) C.1 C.2.1 dX12_fit_22 rfl ?_
      exact zretI C hS hf dX12_fit_23
end
section
theorem dX12_isAlike_0 : decode cX12_isAlike 0 = .ok (.iconst 0, 1) := by decide +kernel
theorem dX12_isAlike_1 : decode cX12_isAlike 1 = .ok (.istore_n 3, 1) := by decide +kernel
theorem dX12_isAlike_2 : decode cX12_isAlike 2 = .ok (.iload_n 3, 1) := by decide +kernel
theorem dX12_isAlike_3 : decode cX12_isAlike 3 = .ok (.aload_n 0, 1) := by decide +kernel
theorem dX12_isAlike_4 : decode cX12_isAlike 4 = .ok (.getfield 7, 3) := by decide +kernel
theorem dX12_isAlike_7 : decode cX12_isAlike 7 = .ok (.iconst 3, 1) := by decide +kernel
theorem dX12_isAlike_8 : decode cX12_isAlike 8 = .ok (.iaload, 1) := by decide +kernel
theorem dX12_isAlike_9 : decode cX12_isAlike 9 = .ok (.if_icmp .ge 36, 3) := by decide +kernel
theorem dX12_isAlike_12 : decode cX12_isAlike 12 = .ok (.aload_n 0, 1) := by decide +kernel
theorem dX12_isAlike_13 : decode cX12_isAlike 13 = .ok (.getfield 59, 3) := by decide +kernel
theorem dX12_isAlike_16 : decode cX12_isAlike 16 = .ok (.bipush 16, 2) := by decide +kernel
theorem dX12_isAlike_18 : decode cX12_isAlike 18 = .ok (.iload_n 1, 1) := by decide +kernel
theorem dX12_isAlike_19 : decode cX12_isAlike 19 = .ok (.imul, 1) := by decide +kernel
theorem dX12_isAlike_20 : decode cX12_isAlike 20 = .ok (.iload_n 3, 1) := by decide +kernel
theorem dX12_isAlike_21 : decode cX12_isAlike 21 = .ok (.iadd, 1) := by decide +kernel
theorem dX12_isAlike_22 : decode cX12_isAlike 22 = .ok (.iaload, 1) := by decide +kernel
theorem dX12_isAlike_23 : decode cX12_isAlike 23 = .ok (.aload_n 0, 1) := by decide +kernel
theorem dX12_isAlike_24 : decode cX12_isAlike 24 = .ok (.getfield 59, 3) := by decide +kernel
theorem dX12_isAlike_27 : decode cX12_isAlike 27 = .ok (.bipush 16, 2) := by decide +kernel
theorem dX12_isAlike_29 : decode cX12_isAlike 29 = .ok (.iload_n 2, 1) := by decide +kernel
theorem dX12_isAlike_30 : decode cX12_isAlike 30 = .ok (.imul, 1) := by decide +kernel
theorem dX12_isAlike_31 : decode cX12_isAlike 31 = .ok (.iload_n 3, 1) := by decide +kernel
theorem dX12_isAlike_32 : decode cX12_isAlike 32 = .ok (.iadd, 1) := by decide +kernel
theorem dX12_isAlike_33 : decode cX12_isAlike 33 = .ok (.iaload, 1) := by decide +kernel
theorem dX12_isAlike_34 : decode cX12_isAlike 34 = .ok (.if_icmp .eq 5, 3) := by decide +kernel
theorem dX12_isAlike_37 : decode cX12_isAlike 37 = .ok (.iconst 0, 1) := by decide +kernel
theorem dX12_isAlike_38 : decode cX12_isAlike 38 = .ok (.ireturn, 1) := by decide +kernel
theorem dX12_isAlike_39 : decode cX12_isAlike 39 = .ok (.iinc 3 1, 3) := by decide +kernel
theorem dX12_isAlike_42 : decode cX12_isAlike 42 = .ok (.goto (-40), 3) := by decide +kernel
theorem dX12_isAlike_45 : decode cX12_isAlike 45 = .ok (.iconst 1, 1) := by decide +kernel
theorem dX12_isAlike_46 : decode cX12_isAlike 46 = .ok (.ireturn, 1) := by decide +kernel
abbrev nd_X12_isAlike : List Nat := [100, 101, 116]
abbrev ld_X12_isAlike : List (Nat × Nat) := [(100, 0), (100, 36)]
def f_X12_isAlike_2  : Nat → Int32 → Int32 → Int32 → zH → zR
  | 0 => fun _ _ _ _ => none
  | n + 1 => fun x1 x2 x3 h => (if (h 101 3) ≤ x3 then (some ((1 : Int32), h)) else (zck (((16 : Int32) * x1) + x3) 656 (zck (((16 : Int32) * x2) + x3) 656 (if (h 116 (Int32.toNatClampNeg (((16 : Int32) * x1) + x3))) = (h 116 (Int32.toNatClampNeg (((16 : Int32) * x2) + x3))) then (zlt (x3 + (1 : Int32)) fun y1 => (f_X12_isAlike_2  n x1 x2 y1 h)) else (some ((0 : Int32), h))))))
def f_X12_isAlike  (x1 : Int32) (x2 : Int32) (h : zH) : zR := (f_X12_isAlike_2  zN x1 x2 (0 : Int32) h)
variable {p : Program} {l : Launch} {e : Env} {s : State} {m : MethodId} {args : Array Value} {below : List Frame} {meth : Method} {c : Code} {G : zG} {q : Int32 × zH}
set_option maxHeartbeats 4000000 in
set_option maxRecDepth 100000 in
theorem w_X12_isAlike_2  (C : zC G p s m args meth c cX12_isAlike 4 RX12 (some .boolean)) (hm : ∀ c ∈ nd_X12_isAlike, c ∈ znm G) (hk : ∀ q ∈ ld_X12_isAlike, zlk G q.1 q.2 = true)  : ∀ n, ∀ (ls : Array Slot) (H : Heap) (locs : List Loc) (h : zH) (x1 : Int32) (x2 : Int32) (x3 : Int32), lv_has ls 4 [(0, .ref (zal G 100)), (1, .int x1), (2, .int x2), (3, .int x3)] → zS G h s.heap H locs → f_X12_isAlike_2  n x1 x2 x3 h = some q → W p l e (zrm (2)) s m args below meth c H locs 0 0 (MQ below (zQI G q.2 q.1) args s 0 0 (zA G)) (F0 m 2 ls []) := by
  intro n
  induction n with
  | zero => intro ls H locs h x1 x2 x3 hl hS hf; cases hf
  | succ n ih =>
    intro ls H locs h x1 x2 x3 hl hS hf
    rw [f_X12_isAlike_2] at hf
    refine lv_iload_n C.1 C.2.1 dX12_isAlike_2 rfl (lv_at hl 3 rfl) ?_
    refine lv_aload_n C.1 C.2.1 dX12_isAlike_3 rfl (lv_at hl 0 rfl) ?_
    refine zgetR C hS ff_X12_7_100 (hm 100 (by decide)) (hk (100, 0) (by decide)) dX12_isAlike_4 ?_
    refine lv_iconst (v := (3 : Int32)) C.1 C.2.1 dX12_isAlike_7 rfl ?_
    refine zald C hS sh_101 (hm 101 (by decide)) (vp_in_iff.mpr (by decide)) dX12_isAlike_8 ?_
    refine lv_icmp_ge (tgt := 45) C.1 C.2.1 dX12_isAlike_9 (by decide) (fun hc => ?_) (fun hc => ?_)
    · have hf := zif_t hc hf
      refine lv_iconst (v := (1 : Int32)) C.1 C.2.1 dX12_isAlike_45 rfl ?_
      exact zretZ C hS rfl hf dX12_isAlike_46
    · have hf := zif_f hc hf
      refine lv_aload_n C.1 C.2.1 dX12_isAlike_12 rfl (lv_at hl 0 rfl) ?_
      refine zgetR C hS ff_X12_59_100 (hm 100 (by decide)) (hk (100, 36) (by decide)) dX12_isAlike_13 ?_
      refine lv_bipush (v := (16 : Int32)) C.1 C.2.1 dX12_isAlike_16 rfl ?_
      refine lv_iload_n C.1 C.2.1 dX12_isAlike_18 rfl (lv_at hl 1 rfl) ?_
      refine lv_imul C.1 C.2.1 dX12_isAlike_19 ?_
      refine lv_iload_n C.1 C.2.1 dX12_isAlike_20 rfl (lv_at hl 3 rfl) ?_
      refine lv_iadd C.1 C.2.1 dX12_isAlike_21 ?_
      obtain ⟨hi, hf⟩ := zck_some hf
      refine zald C hS sh_116 (hm 116 (by decide)) hi dX12_isAlike_22 ?_
      refine lv_aload_n C.1 C.2.1 dX12_isAlike_23 rfl (lv_at hl 0 rfl) ?_
      refine zgetR C hS ff_X12_59_100 (hm 100 (by decide)) (hk (100, 36) (by decide)) dX12_isAlike_24 ?_
      refine lv_bipush (v := (16 : Int32)) C.1 C.2.1 dX12_isAlike_27 rfl ?_
      refine lv_iload_n C.1 C.2.1 dX12_isAlike_29 rfl (lv_at hl 2 rfl) ?_
      refine lv_imul C.1 C.2.1 dX12_isAlike_30 ?_
      refine lv_iload_n C.1 C.2.1 dX12_isAlike_31 rfl (lv_at hl 3 rfl) ?_
      refine lv_iadd C.1 C.2.1 dX12_isAlike_32 ?_
      obtain ⟨hi, hf⟩ := zck_some hf
      refine zald C hS sh_116 (hm 116 (by decide)) hi dX12_isAlike_33 ?_
      refine lv_icmp_eq (tgt := 39) C.1 C.2.1 dX12_isAlike_34 (by decide) (fun hc => ?_) (fun hc => ?_)
      · have hf := zif_t hc hf
        obtain ⟨y1, ey1, hf⟩ := zlt_some hf
        refine lv_iinc (v := y1) (lv' := [(3, .int y1), (0, .ref (zal G 100)), (1, .int x1), (2, .int x2)]) C.1 C.2.1 dX12_isAlike_39 hl (k := 3) rfl ey1.symm (by decide) rfl (fun ls hl => ?_)
        refine lv_goto (tgt := 2) C.1 C.2.1 dX12_isAlike_42 (by decide) ?_
        exact ih _ _ _ _ _ _ _ (lv_sub hl [1, 2, 3, 0] rfl) hS hf
      · have hf := zif_f hc hf
        refine lv_iconst (v := (0 : Int32)) C.1 C.2.1 dX12_isAlike_37 rfl ?_
        exact zretZ C hS rfl hf dX12_isAlike_38
set_option maxHeartbeats 4000000 in
set_option maxRecDepth 100000 in
theorem c_X12_isAlike (l : Launch) (G : zG) (h : zH) (x1 : Int32) (x2 : Int32) (q : Int32 × zH) (hm : ∀ c ∈ nd_X12_isAlike, c ∈ znm G) (hk : ∀ q ∈ ld_X12_isAlike, zlk G q.1 q.2 = true) (hf : f_X12_isAlike x1 x2 h = some q) : zCtI l yX12_isAlike cX12_isAlike 4 (some .boolean) (2) [.ref (zal G 100), .int x1, .int x2] G h q.2 q.1 := by
  refine zMetI (by decide) (Nat.le_of_ble_eq_true rfl) ?_
  intro p e s m below meth c ls C hl hS
  have hl : lv_has ls 4 [(0, .ref (zal G 100)), (1, .int x1), (2, .int x2)] := hl
  have C : zC G p s m [.ref (zal G 100), .int x1, .int x2].toArray meth c cX12_isAlike 4 RX12 (some .boolean) := C
  unfold f_X12_isAlike at hf
  refine lv_iconst (v := (0 : Int32)) C.1 C.2.1 dX12_isAlike_0 rfl ?_
  refine lv_istore_n (lv' := [(3, .int (0 : Int32)), (0, .ref (zal G 100)), (1, .int x1), (2, .int x2)]) C.1 C.2.1 dX12_isAlike_1 rfl hl (by decide) rfl (fun ls hl => ?_)
  exact w_X12_isAlike_2 C hm hk  zN _ _ _ _ _ _ _ (lv_sub hl [1, 2, 3, 0] rfl) hS hf
end
section
theorem dX12_worthBehind_0 : decode cX12_worthBehind 0 = .ok (.iconst 0, 1) := by decide +kernel
theorem dX12_worthBehind_1 : decode cX12_worthBehind 1 = .ok (.istore_n 3, 1) := by decide +kernel
theorem dX12_worthBehind_2 : decode cX12_worthBehind 2 = .ok (.iconst 0, 1) := by decide +kernel
theorem dX12_worthBehind_3 : decode cX12_worthBehind 3 = .ok (.istore 4, 2) := by decide +kernel
theorem dX12_worthBehind_5 : decode cX12_worthBehind 5 = .ok (.iload 4, 2) := by decide +kernel
theorem dX12_worthBehind_7 : decode cX12_worthBehind 7 = .ok (.aload_n 0, 1) := by decide +kernel
theorem dX12_worthBehind_8 : decode cX12_worthBehind 8 = .ok (.getfield 7, 3) := by decide +kernel
theorem dX12_worthBehind_11 : decode cX12_worthBehind 11 = .ok (.iconst 3, 1) := by decide +kernel
theorem dX12_worthBehind_12 : decode cX12_worthBehind 12 = .ok (.iaload, 1) := by decide +kernel
theorem dX12_worthBehind_13 : decode cX12_worthBehind 13 = .ok (.if_icmp .ge 77, 3) := by decide +kernel
theorem dX12_worthBehind_16 : decode cX12_worthBehind 16 = .ok (.aload_n 0, 1) := by decide +kernel
theorem dX12_worthBehind_17 : decode cX12_worthBehind 17 = .ok (.iload 4, 2) := by decide +kernel
theorem dX12_worthBehind_19 : decode cX12_worthBehind 19 = .ok (.iconst 0, 1) := by decide +kernel
theorem dX12_worthBehind_20 : decode cX12_worthBehind 20 = .ok (.invokevirtual 69, 3) := by decide +kernel
theorem dX12_worthBehind_23 : decode cX12_worthBehind 23 = .ok (.aload_n 0, 1) := by decide +kernel
theorem dX12_worthBehind_24 : decode cX12_worthBehind 24 = .ok (.iload_n 2, 1) := by decide +kernel
theorem dX12_worthBehind_25 : decode cX12_worthBehind 25 = .ok (.iconst 0, 1) := by decide +kernel
theorem dX12_worthBehind_26 : decode cX12_worthBehind 26 = .ok (.invokevirtual 69, 3) := by decide +kernel
theorem dX12_worthBehind_29 : decode cX12_worthBehind 29 = .ok (.if_icmp .ne 6, 3) := by decide +kernel
theorem dX12_worthBehind_32 : decode cX12_worthBehind 32 = .ok (.goto 52, 3) := by decide +kernel
theorem dX12_worthBehind_35 : decode cX12_worthBehind 35 = .ok (.aload_n 0, 1) := by decide +kernel
theorem dX12_worthBehind_36 : decode cX12_worthBehind 36 = .ok (.iload_n 2, 1) := by decide +kernel
theorem dX12_worthBehind_37 : decode cX12_worthBehind 37 = .ok (.invokevirtual 259, 3) := by decide +kernel
theorem dX12_worthBehind_40 : decode cX12_worthBehind 40 = .ok (.ifCond .eq 13, 3) := by decide +kernel
theorem dX12_worthBehind_43 : decode cX12_worthBehind 43 = .ok (.aload_n 0, 1) := by decide +kernel
theorem dX12_worthBehind_44 : decode cX12_worthBehind 44 = .ok (.iload_n 2, 1) := by decide +kernel
theorem dX12_worthBehind_45 : decode cX12_worthBehind 45 = .ok (.iload 4, 2) := by decide +kernel
theorem dX12_worthBehind_47 : decode cX12_worthBehind 47 = .ok (.invokevirtual 269, 3) := by decide +kernel
theorem dX12_worthBehind_50 : decode cX12_worthBehind 50 = .ok (.goto 10, 3) := by decide +kernel
theorem dX12_worthBehind_53 : decode cX12_worthBehind 53 = .ok (.aload_n 0, 1) := by decide +kernel
theorem dX12_worthBehind_54 : decode cX12_worthBehind 54 = .ok (.iload 4, 2) := by decide +kernel
theorem dX12_worthBehind_56 : decode cX12_worthBehind 56 = .ok (.iload_n 2, 1) := by decide +kernel
theorem dX12_worthBehind_57 : decode cX12_worthBehind 57 = .ok (.invokevirtual 269, 3) := by decide +kernel
theorem dX12_worthBehind_60 : decode cX12_worthBehind 60 = .ok (.istore 5, 2) := by decide +kernel
theorem dX12_worthBehind_62 : decode cX12_worthBehind 62 = .ok (.iload_n 3, 1) := by decide +kernel
theorem dX12_worthBehind_63 : decode cX12_worthBehind 63 = .ok (.iload 5, 2) := by decide +kernel
theorem dX12_worthBehind_65 : decode cX12_worthBehind 65 = .ok (.aload_n 0, 1) := by decide +kernel
theorem dX12_worthBehind_66 : decode cX12_worthBehind 66 = .ok (.getfield 59, 3) := by decide +kernel
theorem dX12_worthBehind_69 : decode cX12_worthBehind 69 = .ok (.bipush 16, 2) := by decide +kernel
theorem dX12_worthBehind_71 : decode cX12_worthBehind 71 = .ok (.iload_n 1, 1) := by decide +kernel
theorem dX12_worthBehind_72 : decode cX12_worthBehind 72 = .ok (.iconst 1, 1) := by decide +kernel
theorem dX12_worthBehind_73 : decode cX12_worthBehind 73 = .ok (.isub, 1) := by decide +kernel
theorem dX12_worthBehind_74 : decode cX12_worthBehind 74 = .ok (.imul, 1) := by decide +kernel
theorem dX12_worthBehind_75 : decode cX12_worthBehind 75 = .ok (.iload 4, 2) := by decide +kernel
theorem dX12_worthBehind_77 : decode cX12_worthBehind 77 = .ok (.iadd, 1) := by decide +kernel
theorem dX12_worthBehind_78 : decode cX12_worthBehind 78 = .ok (.iaload, 1) := by decide +kernel
theorem dX12_worthBehind_79 : decode cX12_worthBehind 79 = .ok (.isub, 1) := by decide +kernel
theorem dX12_worthBehind_80 : decode cX12_worthBehind 80 = .ok (.invokestatic 249, 3) := by decide +kernel
theorem dX12_worthBehind_83 : decode cX12_worthBehind 83 = .ok (.istore_n 3, 1) := by decide +kernel
theorem dX12_worthBehind_84 : decode cX12_worthBehind 84 = .ok (.iinc 4 1, 3) := by decide +kernel
theorem dX12_worthBehind_87 : decode cX12_worthBehind 87 = .ok (.goto (-82), 3) := by decide +kernel
theorem dX12_worthBehind_90 : decode cX12_worthBehind 90 = .ok (.iload_n 3, 1) := by decide +kernel
theorem dX12_worthBehind_91 : decode cX12_worthBehind 91 = .ok (.ireturn, 1) := by decide +kernel
abbrev nd_X12_worthBehind : List Nat := [100, 101, 108, 109, 116]
abbrev ld_X12_worthBehind : List (Nat × Nat) := [(100, 0), (100, 9), (100, 10), (100, 36)]
theorem sn_X12_worthBehind_X12_ofHalf : ∀ c ∈ nd_X12_ofHalf, c ∈ nd_X12_worthBehind := by decide
theorem sl_X12_worthBehind_X12_ofHalf : ∀ q ∈ ld_X12_ofHalf, q ∈ ld_X12_worthBehind := by decide
theorem sn_X12_worthBehind_X12_isFront : ∀ c ∈ nd_X12_isFront, c ∈ nd_X12_worthBehind := by decide
theorem sl_X12_worthBehind_X12_isFront : ∀ q ∈ ld_X12_isFront, q ∈ ld_X12_worthBehind := by decide
theorem sn_X12_worthBehind_X12_laughOf : ∀ c ∈ nd_X12_laughOf, c ∈ nd_X12_worthBehind := by decide
theorem sl_X12_worthBehind_X12_laughOf : ∀ q ∈ ld_X12_laughOf, q ∈ ld_X12_worthBehind := by decide
theorem sn_X12_worthBehind_X12_most : ∀ c ∈ nd_X12_most, c ∈ nd_X12_worthBehind := by decide
theorem sl_X12_worthBehind_X12_most : ∀ q ∈ ld_X12_most, q ∈ ld_X12_worthBehind := by decide
def f_X12_worthBehind_84 (k5 : Int32 → Int32 → Int32 → Int32 → zH → zR) (x1 : Int32) (x2 : Int32) (x3 : Int32) (x4 : Int32) (h : zH) : zR := (zlt (x4 + (1 : Int32)) fun y11 => (k5 x1 x2 x3 y11 h))
def f_X12_worthBehind_60 (k5 : Int32 → Int32 → Int32 → Int32 → zH → zR) (x1 : Int32) (x2 : Int32) (x3 : Int32) (x4 : Int32) (s0 : Int32) (h : zH) : zR := (zck (((16 : Int32) * (x1 - (1 : Int32))) + x4) 656 (zbd (f_X12_most x3 (s0 - (h 116 (Int32.toNatClampNeg (((16 : Int32) * (x1 - (1 : Int32))) + x4)))) h) fun r9 h10 => (f_X12_worthBehind_84 k5 x1 x2 r9 x4 h10)))
def f_X12_worthBehind_5  : Nat → Int32 → Int32 → Int32 → Int32 → zH → zR
  | 0 => fun _ _ _ _ _ => none
  | n + 1 => fun x1 x2 x3 x4 h => (if (h 101 3) ≤ x4 then (some (x3, h)) else (zbd (f_X12_ofHalf x4 (0 : Int32) h) fun r1 h2 => (zbd (f_X12_ofHalf x2 (0 : Int32) h2) fun r3 h4 => (if r1 = r3 then (f_X12_worthBehind_84 (f_X12_worthBehind_5  n) x1 x2 x3 x4 h4) else (zbd (f_X12_isFront x2 h4) fun r5 h6 => (if r5 = 0 then (zbd (f_X12_laughOf x4 x2 h6) fun r7 h8 => (f_X12_worthBehind_60 (f_X12_worthBehind_5  n) x1 x2 x3 x4 r7 h8)) else (zbd (f_X12_laughOf x2 x4 h6) fun r12 h13 => (f_X12_worthBehind_60 (f_X12_worthBehind_5  n) x1 x2 x3 x4 r12 h13))))))))
def f_X12_worthBehind  (x1 : Int32) (x2 : Int32) (h : zH) : zR := (f_X12_worthBehind_5  zN x1 x2 (0 : Int32) (0 : Int32) h)
variable {p : Program} {l : Launch} {e : Env} {s : State} {m : MethodId} {args : Array Value} {below : List Frame} {meth : Method} {c : Code} {G : zG} {q : Int32 × zH}
set_option maxHeartbeats 4000000 in
set_option maxRecDepth 100000 in
theorem w_X12_worthBehind_84 {k5 : Int32 → Int32 → Int32 → Int32 → zH → zR} (C : zC G p s m args meth c cX12_worthBehind 6 RX12 (some .int)) (hm : ∀ c ∈ nd_X12_worthBehind, c ∈ znm G) (hk : ∀ q ∈ ld_X12_worthBehind, zlk G q.1 q.2 = true) (hk5 : ∀ (ls : Array Slot) (H : Heap) (locs : List Loc) (h : zH) (x1 : Int32) (x2 : Int32) (x3 : Int32) (x4 : Int32), lv_has ls 6 [(0, .ref (zal G 100)), (1, .int x1), (2, .int x2), (3, .int x3), (4, .int x4)] → zS G h s.heap H locs → k5 x1 x2 x3 x4 h = some q → W p l e (zrm (5)) s m args below meth c H locs 0 0 (MQ below (zQI G q.2 q.1) args s 0 0 (zA G)) (F0 m 5 ls [])) : ∀ (ls : Array Slot) (H : Heap) (locs : List Loc) (h : zH) (x1 : Int32) (x2 : Int32) (x3 : Int32) (x4 : Int32), lv_has ls 6 [(0, .ref (zal G 100)), (1, .int x1), (2, .int x2), (3, .int x3), (4, .int x4)] → zS G h s.heap H locs → f_X12_worthBehind_84 k5 x1 x2 x3 x4 h = some q → W p l e (zrm (5)) s m args below meth c H locs 0 0 (MQ below (zQI G q.2 q.1) args s 0 0 (zA G)) (F0 m 84 ls []) := by
  intro ls H locs h x1 x2 x3 x4 hl hS hf
  unfold f_X12_worthBehind_84 at hf
  obtain ⟨y11, ey11, hf⟩ := zlt_some hf
  refine lv_iinc (v := y11) (lv' := [(4, .int y11), (0, .ref (zal G 100)), (1, .int x1), (2, .int x2), (3, .int x3)]) C.1 C.2.1 dX12_worthBehind_84 hl (k := 4) rfl ey11.symm (by decide) rfl (fun ls hl => ?_)
  refine lv_goto (tgt := 5) C.1 C.2.1 dX12_worthBehind_87 (by decide) ?_
  exact hk5 _ _ _ _ _ _ _ _ (lv_sub hl [1, 2, 3, 4, 0] rfl) hS hf
set_option maxHeartbeats 4000000 in
set_option maxRecDepth 100000 in
theorem w_X12_worthBehind_60 {k5 : Int32 → Int32 → Int32 → Int32 → zH → zR} (C : zC G p s m args meth c cX12_worthBehind 6 RX12 (some .int)) (hm : ∀ c ∈ nd_X12_worthBehind, c ∈ znm G) (hk : ∀ q ∈ ld_X12_worthBehind, zlk G q.1 q.2 = true) (hk5 : ∀ (ls : Array Slot) (H : Heap) (locs : List Loc) (h : zH) (x1 : Int32) (x2 : Int32) (x3 : Int32) (x4 : Int32), lv_has ls 6 [(0, .ref (zal G 100)), (1, .int x1), (2, .int x2), (3, .int x3), (4, .int x4)] → zS G h s.heap H locs → k5 x1 x2 x3 x4 h = some q → W p l e (zrm (5)) s m args below meth c H locs 0 0 (MQ below (zQI G q.2 q.1) args s 0 0 (zA G)) (F0 m 5 ls [])) : ∀ (ls : Array Slot) (H : Heap) (locs : List Loc) (h : zH) (x1 : Int32) (x2 : Int32) (x3 : Int32) (x4 : Int32) (s0 : Int32), lv_has ls 6 [(0, .ref (zal G 100)), (1, .int x1), (2, .int x2), (3, .int x3), (4, .int x4)] → zS G h s.heap H locs → f_X12_worthBehind_60 k5 x1 x2 x3 x4 s0 h = some q → W p l e (zrm (5)) s m args below meth c H locs 0 0 (MQ below (zQI G q.2 q.1) args s 0 0 (zA G)) (F0 m 60 ls [.int s0]) := by
  intro ls H locs h x1 x2 x3 x4 s0 hl hS hf
  unfold f_X12_worthBehind_60 at hf
  refine lv_istore (lv' := [(5, .int s0), (0, .ref (zal G 100)), (1, .int x1), (2, .int x2), (3, .int x3), (4, .int x4)]) C.1 C.2.1 dX12_worthBehind_60 hl (by decide) rfl (fun ls hl => ?_)
  refine lv_iload_n C.1 C.2.1 dX12_worthBehind_62 rfl (lv_at hl 4 rfl) ?_
  refine lv_iload C.1 C.2.1 dX12_worthBehind_63 (lv_at hl 0 rfl) ?_
  refine lv_aload_n C.1 C.2.1 dX12_worthBehind_65 rfl (lv_at hl 1 rfl) ?_
  refine zgetR C hS ff_X12_59_100 (hm 100 (by decide)) (hk (100, 36) (by decide)) dX12_worthBehind_66 ?_
  refine lv_bipush (v := (16 : Int32)) C.1 C.2.1 dX12_worthBehind_69 rfl ?_
  refine lv_iload_n C.1 C.2.1 dX12_worthBehind_71 rfl (lv_at hl 2 rfl) ?_
  refine lv_iconst (v := (1 : Int32)) C.1 C.2.1 dX12_worthBehind_72 rfl ?_
  refine lv_isub C.1 C.2.1 dX12_worthBehind_73 ?_
  refine lv_imul C.1 C.2.1 dX12_worthBehind_74 ?_
  refine lv_iload C.1 C.2.1 dX12_worthBehind_75 (lv_at hl 5 rfl) ?_
  refine lv_iadd C.1 C.2.1 dX12_worthBehind_77 ?_
  obtain ⟨hi, hf⟩ := zck_some hf
  refine zald C hS sh_116 (hm 116 (by decide)) hi dX12_worthBehind_78 ?_
  refine lv_isub C.1 C.2.1 dX12_worthBehind_79 ?_
  obtain ⟨r9, h10, er9, hf⟩ := zbd_some hf
  refine zcallSI (As := [.int x3, .int (s0 - (h 116 (Int32.toNatClampNeg (((16 : Int32) * (x1 - (1 : Int32))) + x4))))]) (rest := []) C hS ms_X12_249 (c_X12_most l G h x3 (s0 - (h 116 (Int32.toNatClampNeg (((16 : Int32) * (x1 - (1 : Int32))) + x4)))) (r9, h10) (fun c h => hm c (sn_X12_worthBehind_X12_most c h)) (fun q h => hk q (sl_X12_worthBehind_X12_most q h)) er9) rfl rfl (Nat.le_of_ble_eq_true rfl) hl.1 ⟨Nat.le_of_ble_eq_true rfl, Nat.le_of_ble_eq_true rfl, Nat.le_of_ble_eq_true rfl, Nat.le_of_ble_eq_true rfl⟩ dX12_worthBehind_80 (fun H locs hS => ?_)
  refine lv_istore_n (lv' := [(3, .int r9), (5, .int s0), (0, .ref (zal G 100)), (1, .int x1), (2, .int x2), (4, .int x4)]) C.1 C.2.1 dX12_worthBehind_83 rfl hl (by decide) rfl (fun ls hl => ?_)
  exact w_X12_worthBehind_84 C hm hk hk5 _ _ _ _ _ _ _ _ (lv_sub hl [2, 3, 4, 0, 5] rfl) hS hf
set_option maxHeartbeats 4000000 in
set_option maxRecDepth 100000 in
theorem w_X12_worthBehind_5  (C : zC G p s m args meth c cX12_worthBehind 6 RX12 (some .int)) (hm : ∀ c ∈ nd_X12_worthBehind, c ∈ znm G) (hk : ∀ q ∈ ld_X12_worthBehind, zlk G q.1 q.2 = true)  : ∀ n, ∀ (ls : Array Slot) (H : Heap) (locs : List Loc) (h : zH) (x1 : Int32) (x2 : Int32) (x3 : Int32) (x4 : Int32), lv_has ls 6 [(0, .ref (zal G 100)), (1, .int x1), (2, .int x2), (3, .int x3), (4, .int x4)] → zS G h s.heap H locs → f_X12_worthBehind_5  n x1 x2 x3 x4 h = some q → W p l e (zrm (5)) s m args below meth c H locs 0 0 (MQ below (zQI G q.2 q.1) args s 0 0 (zA G)) (F0 m 5 ls []) := by
  intro n
  induction n with
  | zero => intro ls H locs h x1 x2 x3 x4 hl hS hf; cases hf
  | succ n ih =>
    intro ls H locs h x1 x2 x3 x4 hl hS hf
    rw [f_X12_worthBehind_5] at hf
    refine lv_iload C.1 C.2.1 dX12_worthBehind_5 (lv_at hl 4 rfl) ?_
    refine lv_aload_n C.1 C.2.1 dX12_worthBehind_7 rfl (lv_at hl 0 rfl) ?_
    refine zgetR C hS ff_X12_7_100 (hm 100 (by decide)) (hk (100, 0) (by decide)) dX12_worthBehind_8 ?_
    refine lv_iconst (v := (3 : Int32)) C.1 C.2.1 dX12_worthBehind_11 rfl ?_
    refine zald C hS sh_101 (hm 101 (by decide)) (vp_in_iff.mpr (by decide)) dX12_worthBehind_12 ?_
    refine lv_icmp_ge (tgt := 90) C.1 C.2.1 dX12_worthBehind_13 (by decide) (fun hc => ?_) (fun hc => ?_)
    · have hf := zif_t hc hf
      refine lv_iload_n C.1 C.2.1 dX12_worthBehind_90 rfl (lv_at hl 3 rfl) ?_
      exact zretI C hS hf dX12_worthBehind_91
    · have hf := zif_f hc hf
      refine lv_aload_n C.1 C.2.1 dX12_worthBehind_16 rfl (lv_at hl 0 rfl) ?_
      refine lv_iload C.1 C.2.1 dX12_worthBehind_17 (lv_at hl 4 rfl) ?_
      refine lv_iconst (v := (0 : Int32)) C.1 C.2.1 dX12_worthBehind_19 rfl ?_
      obtain ⟨r1, h2, er1, hf⟩ := zbd_some hf
      refine zcallVI (As := [.int x4, .int (0 : Int32)]) (rest := []) C hS mv_X12_69 (c_X12_ofHalf l G h x4 (0 : Int32) (r1, h2) (fun c h => hm c (sn_X12_worthBehind_X12_ofHalf c h)) (fun q h => hk q (sl_X12_worthBehind_X12_ofHalf q h)) er1) (hm 100 (by decide)) ⟨_, _, _, sh_100, rfl, rfl⟩ rfl rfl (Nat.le_of_ble_eq_true rfl) hl.1 ⟨Nat.le_of_ble_eq_true rfl, Nat.le_of_ble_eq_true rfl, Nat.le_of_ble_eq_true rfl, Nat.le_of_ble_eq_true rfl⟩ dX12_worthBehind_20 (fun H locs hS => ?_)
      refine lv_aload_n C.1 C.2.1 dX12_worthBehind_23 rfl (lv_at hl 0 rfl) ?_
      refine lv_iload_n C.1 C.2.1 dX12_worthBehind_24 rfl (lv_at hl 2 rfl) ?_
      refine lv_iconst (v := (0 : Int32)) C.1 C.2.1 dX12_worthBehind_25 rfl ?_
      obtain ⟨r3, h4, er3, hf⟩ := zbd_some hf
      refine zcallVI (As := [.int x2, .int (0 : Int32)]) (rest := [.int r1]) C hS mv_X12_69 (c_X12_ofHalf l G h2 x2 (0 : Int32) (r3, h4) (fun c h => hm c (sn_X12_worthBehind_X12_ofHalf c h)) (fun q h => hk q (sl_X12_worthBehind_X12_ofHalf q h)) er3) (hm 100 (by decide)) ⟨_, _, _, sh_100, rfl, rfl⟩ rfl rfl (Nat.le_of_ble_eq_true rfl) hl.1 ⟨Nat.le_of_ble_eq_true rfl, Nat.le_of_ble_eq_true rfl, Nat.le_of_ble_eq_true rfl, Nat.le_of_ble_eq_true rfl⟩ dX12_worthBehind_26 (fun H locs hS => ?_)
      refine lv_icmp_ne (tgt := 35) C.1 C.2.1 dX12_worthBehind_29 (by decide) (fun hc => ?_) (fun hc => ?_)
      · have hf := zif_f hc hf
        refine lv_aload_n C.1 C.2.1 dX12_worthBehind_35 rfl (lv_at hl 0 rfl) ?_
        refine lv_iload_n C.1 C.2.1 dX12_worthBehind_36 rfl (lv_at hl 2 rfl) ?_
        obtain ⟨r5, h6, er5, hf⟩ := zbd_some hf
        refine zcallVI (As := [.int x2]) (rest := []) C hS mv_X12_259 (c_X12_isFront l G h4 x2 (r5, h6) (fun c h => hm c (sn_X12_worthBehind_X12_isFront c h)) (fun q h => hk q (sl_X12_worthBehind_X12_isFront q h)) er5) (hm 100 (by decide)) ⟨_, _, _, sh_100, rfl, rfl⟩ rfl rfl (Nat.le_of_ble_eq_true rfl) hl.1 ⟨Nat.le_of_ble_eq_true rfl, Nat.le_of_ble_eq_true rfl, Nat.le_of_ble_eq_true rfl, Nat.le_of_ble_eq_true rfl⟩ dX12_worthBehind_37 (fun H locs hS => ?_)
        refine lv_if_eq (tgt := 53) C.1 C.2.1 dX12_worthBehind_40 (by decide) (fun hc => ?_) (fun hc => ?_)
        · have hf := zif_t hc hf
          refine lv_aload_n C.1 C.2.1 dX12_worthBehind_53 rfl (lv_at hl 0 rfl) ?_
          refine lv_iload C.1 C.2.1 dX12_worthBehind_54 (lv_at hl 4 rfl) ?_
          refine lv_iload_n C.1 C.2.1 dX12_worthBehind_56 rfl (lv_at hl 2 rfl) ?_
          obtain ⟨r7, h8, er7, hf⟩ := zbd_some hf
          refine zcallVI (As := [.int x4, .int x2]) (rest := []) C hS mv_X12_269 (c_X12_laughOf l G h6 x4 x2 (r7, h8) (fun c h => hm c (sn_X12_worthBehind_X12_laughOf c h)) (fun q h => hk q (sl_X12_worthBehind_X12_laughOf q h)) er7) (hm 100 (by decide)) ⟨_, _, _, sh_100, rfl, rfl⟩ rfl rfl (Nat.le_of_ble_eq_true rfl) hl.1 ⟨Nat.le_of_ble_eq_true rfl, Nat.le_of_ble_eq_true rfl, Nat.le_of_ble_eq_true rfl, Nat.le_of_ble_eq_true rfl⟩ dX12_worthBehind_57 (fun H locs hS => ?_)
          exact w_X12_worthBehind_60 C hm hk ih _ _ _ _ _ _ _ _ _ (lv_sub hl [0, 1, 2, 3, 4] rfl) hS hf
        · have hf := zif_f hc hf
          refine lv_aload_n C.1 C.2.1 dX12_worthBehind_43 rfl (lv_at hl 0 rfl) ?_
          refine lv_iload_n C.1 C.2.1 dX12_worthBehind_44 rfl (lv_at hl 2 rfl) ?_
          refine lv_iload C.1 C.2.1 dX12_worthBehind_45 (lv_at hl 4 rfl) ?_
          obtain ⟨r12, h13, er12, hf⟩ := zbd_some hf
          refine zcallVI (As := [.int x2, .int x4]) (rest := []) C hS mv_X12_269 (c_X12_laughOf l G h6 x2 x4 (r12, h13) (fun c h => hm c (sn_X12_worthBehind_X12_laughOf c h)) (fun q h => hk q (sl_X12_worthBehind_X12_laughOf q h)) er12) (hm 100 (by decide)) ⟨_, _, _, sh_100, rfl, rfl⟩ rfl rfl (Nat.le_of_ble_eq_true rfl) hl.1 ⟨Nat.le_of_ble_eq_true rfl, Nat.le_of_ble_eq_true rfl, Nat.le_of_ble_eq_true rfl, Nat.le_of_ble_eq_true rfl⟩ dX12_worthBehind_47 (fun H locs hS => ?_)
          refine lv_goto (tgt := 60) C.1 C.2.1 dX12_worthBehind_50 (by decide) ?_
          exact w_X12_worthBehind_60 C hm hk ih _ _ _ _ _ _ _ _ _ (lv_sub hl [0, 1, 2, 3, 4] rfl) hS hf
      · have hf := zif_t hc hf
        refine lv_goto (tgt := 84) C.1 C.2.1 dX12_worthBehind_32 (by decide) ?_
        exact w_X12_worthBehind_84 C hm hk ih _ _ _ _ _ _ _ _ (lv_sub hl [0, 1, 2, 3, 4] rfl) hS hf
set_option maxHeartbeats 4000000 in
set_option maxRecDepth 100000 in
theorem c_X12_worthBehind (l : Launch) (G : zG) (h : zH) (x1 : Int32) (x2 : Int32) (q : Int32 × zH) (hm : ∀ c ∈ nd_X12_worthBehind, c ∈ znm G) (hk : ∀ q ∈ ld_X12_worthBehind, zlk G q.1 q.2 = true) (hf : f_X12_worthBehind x1 x2 h = some q) : zCtI l yX12_worthBehind cX12_worthBehind 6 (some .int) (5) [.ref (zal G 100), .int x1, .int x2] G h q.2 q.1 := by
  refine zMetI (by decide) (Nat.le_of_ble_eq_true rfl) ?_
  intro p e s m below meth c ls C hl hS
  have hl : lv_has ls 6 [(0, .ref (zal G 100)), (1, .int x1), (2, .int x2)] := hl
  have C : zC G p s m [.ref (zal G 100), .int x1, .int x2].toArray meth c cX12_worthBehind 6 RX12 (some .int) := C
  unfold f_X12_worthBehind at hf
  refine lv_iconst (v := (0 : Int32)) C.1 C.2.1 dX12_worthBehind_0 rfl ?_
  refine lv_istore_n (lv' := [(3, .int (0 : Int32)), (0, .ref (zal G 100)), (1, .int x1), (2, .int x2)]) C.1 C.2.1 dX12_worthBehind_1 rfl hl (by decide) rfl (fun ls hl => ?_)
  refine lv_iconst (v := (0 : Int32)) C.1 C.2.1 dX12_worthBehind_2 rfl ?_
  refine lv_istore (lv' := [(4, .int (0 : Int32)), (3, .int (0 : Int32)), (0, .ref (zal G 100)), (1, .int x1), (2, .int x2)]) C.1 C.2.1 dX12_worthBehind_3 hl (by decide) rfl (fun ls hl => ?_)
  exact w_X12_worthBehind_5 C hm hk  zN _ _ _ _ _ _ _ _ (lv_sub hl [2, 3, 4, 1, 0] rfl) hS hf
end
section
theorem dX12_worth_0 : decode cX12_worth 0 = .ok (.iload_n 2, 1) := by decide +kernel
theorem dX12_worth_1 : decode cX12_worth 1 = .ok (.iconst 0, 1) := by decide +kernel
theorem dX12_worth_2 : decode cX12_worth 2 = .ok (.iconst 1, 1) := by decide +kernel
theorem dX12_worth_3 : decode cX12_worth 3 = .ok (.invokestatic 65, 3) := by decide +kernel
theorem dX12_worth_6 : decode cX12_worth 6 = .ok (.ifCond .ne 33, 3) := by decide +kernel
theorem dX12_worth_9 : decode cX12_worth 9 = .ok (.iload_n 2, 1) := by decide +kernel
theorem dX12_worth_10 : decode cX12_worth 10 = .ok (.bipush 10, 2) := by decide +kernel
theorem dX12_worth_12 : decode cX12_worth 12 = .ok (.bipush 9, 2) := by decide +kernel
theorem dX12_worth_14 : decode cX12_worth 14 = .ok (.aload_n 0, 1) := by decide +kernel
theorem dX12_worth_15 : decode cX12_worth 15 = .ok (.getfield 7, 3) := by decide +kernel
theorem dX12_worth_18 : decode cX12_worth 18 = .ok (.iconst 3, 1) := by decide +kernel
theorem dX12_worth_19 : decode cX12_worth 19 = .ok (.iaload, 1) := by decide +kernel
theorem dX12_worth_20 : decode cX12_worth 20 = .ok (.iadd, 1) := by decide +kernel
theorem dX12_worth_21 : decode cX12_worth 21 = .ok (.invokestatic 65, 3) := by decide +kernel
theorem dX12_worth_24 : decode cX12_worth 24 = .ok (.ifCond .eq 13, 3) := by decide +kernel
theorem dX12_worth_27 : decode cX12_worth 27 = .ok (.iload_n 1, 1) := by decide +kernel
theorem dX12_worth_28 : decode cX12_worth 28 = .ok (.iconst 0, 1) := by decide +kernel
theorem dX12_worth_29 : decode cX12_worth 29 = .ok (.bipush 40, 2) := by decide +kernel
theorem dX12_worth_31 : decode cX12_worth 31 = .ok (.invokestatic 65, 3) := by decide +kernel
theorem dX12_worth_34 : decode cX12_worth 34 = .ok (.ifCond .ne 5, 3) := by decide +kernel
theorem dX12_worth_37 : decode cX12_worth 37 = .ok (.iconst (-1), 1) := by decide +kernel
theorem dX12_worth_38 : decode cX12_worth 38 = .ok (.ireturn, 1) := by decide +kernel
theorem dX12_worth_39 : decode cX12_worth 39 = .ok (.iconst 0, 1) := by decide +kernel
theorem dX12_worth_40 : decode cX12_worth 40 = .ok (.istore_n 3, 1) := by decide +kernel
theorem dX12_worth_41 : decode cX12_worth 41 = .ok (.iload_n 3, 1) := by decide +kernel
theorem dX12_worth_42 : decode cX12_worth 42 = .ok (.aload_n 0, 1) := by decide +kernel
theorem dX12_worth_43 : decode cX12_worth 43 = .ok (.getfield 7, 3) := by decide +kernel
theorem dX12_worth_46 : decode cX12_worth 46 = .ok (.iconst 3, 1) := by decide +kernel
theorem dX12_worth_47 : decode cX12_worth 47 = .ok (.iaload, 1) := by decide +kernel
theorem dX12_worth_48 : decode cX12_worth 48 = .ok (.if_icmp .ge 21, 3) := by decide +kernel
theorem dX12_worth_51 : decode cX12_worth 51 = .ok (.aload_n 0, 1) := by decide +kernel
theorem dX12_worth_52 : decode cX12_worth 52 = .ok (.getfield 59, 3) := by decide +kernel
theorem dX12_worth_55 : decode cX12_worth 55 = .ok (.iload_n 3, 1) := by decide +kernel
theorem dX12_worth_56 : decode cX12_worth 56 = .ok (.aload_n 0, 1) := by decide +kernel
theorem dX12_worth_57 : decode cX12_worth 57 = .ok (.iload_n 3, 1) := by decide +kernel
theorem dX12_worth_58 : decode cX12_worth 58 = .ok (.iconst 2, 1) := by decide +kernel
theorem dX12_worth_59 : decode cX12_worth 59 = .ok (.invokevirtual 69, 3) := by decide +kernel
theorem dX12_worth_62 : decode cX12_worth 62 = .ok (.iastore, 1) := by decide +kernel
theorem dX12_worth_63 : decode cX12_worth 63 = .ok (.iinc 3 1, 3) := by decide +kernel
theorem dX12_worth_66 : decode cX12_worth 66 = .ok (.goto (-25), 3) := by decide +kernel
theorem dX12_worth_69 : decode cX12_worth 69 = .ok (.iconst 1, 1) := by decide +kernel
theorem dX12_worth_70 : decode cX12_worth 70 = .ok (.istore_n 3, 1) := by decide +kernel
theorem dX12_worth_71 : decode cX12_worth 71 = .ok (.iload_n 3, 1) := by decide +kernel
theorem dX12_worth_72 : decode cX12_worth 72 = .ok (.bipush 40, 2) := by decide +kernel
theorem dX12_worth_74 : decode cX12_worth 74 = .ok (.if_icmp .gt 48, 3) := by decide +kernel
theorem dX12_worth_77 : decode cX12_worth 77 = .ok (.iconst 0, 1) := by decide +kernel
theorem dX12_worth_78 : decode cX12_worth 78 = .ok (.istore 4, 2) := by decide +kernel
theorem dX12_worth_80 : decode cX12_worth 80 = .ok (.iload 4, 2) := by decide +kernel
theorem dX12_worth_82 : decode cX12_worth 82 = .ok (.aload_n 0, 1) := by decide +kernel
theorem dX12_worth_83 : decode cX12_worth 83 = .ok (.getfield 7, 3) := by decide +kernel
theorem dX12_worth_86 : decode cX12_worth 86 = .ok (.iconst 3, 1) := by decide +kernel
theorem dX12_worth_87 : decode cX12_worth 87 = .ok (.iaload, 1) := by decide +kernel
theorem dX12_worth_88 : decode cX12_worth 88 = .ok (.if_icmp .ge 28, 3) := by decide +kernel
theorem dX12_worth_91 : decode cX12_worth 91 = .ok (.aload_n 0, 1) := by decide +kernel
theorem dX12_worth_92 : decode cX12_worth 92 = .ok (.getfield 59, 3) := by decide +kernel
theorem dX12_worth_95 : decode cX12_worth 95 = .ok (.bipush 16, 2) := by decide +kernel
theorem dX12_worth_97 : decode cX12_worth 97 = .ok (.iload_n 3, 1) := by decide +kernel
theorem dX12_worth_98 : decode cX12_worth 98 = .ok (.imul, 1) := by decide +kernel
theorem dX12_worth_99 : decode cX12_worth 99 = .ok (.iload 4, 2) := by decide +kernel
theorem dX12_worth_101 : decode cX12_worth 101 = .ok (.iadd, 1) := by decide +kernel
theorem dX12_worth_102 : decode cX12_worth 102 = .ok (.aload_n 0, 1) := by decide +kernel
theorem dX12_worth_103 : decode cX12_worth 103 = .ok (.iload_n 3, 1) := by decide +kernel
theorem dX12_worth_104 : decode cX12_worth 104 = .ok (.iload 4, 2) := by decide +kernel
theorem dX12_worth_106 : decode cX12_worth 106 = .ok (.invokevirtual 335, 3) := by decide +kernel
theorem dX12_worth_109 : decode cX12_worth 109 = .ok (.iastore, 1) := by decide +kernel
theorem dX12_worth_110 : decode cX12_worth 110 = .ok (.iinc 4 1, 3) := by decide +kernel
theorem dX12_worth_113 : decode cX12_worth 113 = .ok (.goto (-33), 3) := by decide +kernel
theorem dX12_worth_116 : decode cX12_worth 116 = .ok (.iinc 3 1, 3) := by decide +kernel
theorem dX12_worth_119 : decode cX12_worth 119 = .ok (.goto (-48), 3) := by decide +kernel
theorem dX12_worth_122 : decode cX12_worth 122 = .ok (.iload_n 2, 1) := by decide +kernel
theorem dX12_worth_123 : decode cX12_worth 123 = .ok (.iconst 1, 1) := by decide +kernel
theorem dX12_worth_124 : decode cX12_worth 124 = .ok (.if_icmp .le 18, 3) := by decide +kernel
theorem dX12_worth_127 : decode cX12_worth 127 = .ok (.aload_n 0, 1) := by decide +kernel
theorem dX12_worth_128 : decode cX12_worth 128 = .ok (.getfield 59, 3) := by decide +kernel
theorem dX12_worth_131 : decode cX12_worth 131 = .ok (.bipush 16, 2) := by decide +kernel
theorem dX12_worth_133 : decode cX12_worth 133 = .ok (.iload_n 1, 1) := by decide +kernel
theorem dX12_worth_134 : decode cX12_worth 134 = .ok (.imul, 1) := by decide +kernel
theorem dX12_worth_135 : decode cX12_worth 135 = .ok (.iload_n 2, 1) := by decide +kernel
theorem dX12_worth_136 : decode cX12_worth 136 = .ok (.iadd, 1) := by decide +kernel
theorem dX12_worth_137 : decode cX12_worth 137 = .ok (.bipush 10, 2) := by decide +kernel
theorem dX12_worth_139 : decode cX12_worth 139 = .ok (.isub, 1) := by decide +kernel
theorem dX12_worth_140 : decode cX12_worth 140 = .ok (.iaload, 1) := by decide +kernel
theorem dX12_worth_141 : decode cX12_worth 141 = .ok (.ireturn, 1) := by decide +kernel
theorem dX12_worth_142 : decode cX12_worth 142 = .ok (.iconst 1, 1) := by decide +kernel
theorem dX12_worth_143 : decode cX12_worth 143 = .ok (.istore_n 3, 1) := by decide +kernel
theorem dX12_worth_144 : decode cX12_worth 144 = .ok (.iload_n 3, 1) := by decide +kernel
theorem dX12_worth_145 : decode cX12_worth 145 = .ok (.bipush 40, 2) := by decide +kernel
theorem dX12_worth_147 : decode cX12_worth 147 = .ok (.if_icmp .gt 72, 3) := by decide +kernel
theorem dX12_worth_150 : decode cX12_worth 150 = .ok (.aload_n 0, 1) := by decide +kernel
theorem dX12_worth_151 : decode cX12_worth 151 = .ok (.iload_n 3, 1) := by decide +kernel
theorem dX12_worth_152 : decode cX12_worth 152 = .ok (.iload_n 3, 1) := by decide +kernel
theorem dX12_worth_153 : decode cX12_worth 153 = .ok (.iconst 1, 1) := by decide +kernel
theorem dX12_worth_154 : decode cX12_worth 154 = .ok (.isub, 1) := by decide +kernel
theorem dX12_worth_155 : decode cX12_worth 155 = .ok (.invokevirtual 338, 3) := by decide +kernel
theorem dX12_worth_158 : decode cX12_worth 158 = .ok (.ifCond .eq 15, 3) := by decide +kernel
theorem dX12_worth_161 : decode cX12_worth 161 = .ok (.iload_n 2, 1) := by decide +kernel
theorem dX12_worth_162 : decode cX12_worth 162 = .ok (.ifCond .ne 9, 3) := by decide +kernel
theorem dX12_worth_165 : decode cX12_worth 165 = .ok (.iload_n 3, 1) := by decide +kernel
theorem dX12_worth_166 : decode cX12_worth 166 = .ok (.iconst 1, 1) := by decide +kernel
theorem dX12_worth_167 : decode cX12_worth 167 = .ok (.isub, 1) := by decide +kernel
theorem dX12_worth_168 : decode cX12_worth 168 = .ok (.goto 4, 3) := by decide +kernel
theorem dX12_worth_171 : decode cX12_worth 171 = .ok (.iconst 0, 1) := by decide +kernel
theorem dX12_worth_172 : decode cX12_worth 172 = .ok (.ireturn, 1) := by decide +kernel
theorem dX12_worth_173 : decode cX12_worth 173 = .ok (.iconst 0, 1) := by decide +kernel
theorem dX12_worth_174 : decode cX12_worth 174 = .ok (.istore 4, 2) := by decide +kernel
theorem dX12_worth_176 : decode cX12_worth 176 = .ok (.iload 4, 2) := by decide +kernel
theorem dX12_worth_178 : decode cX12_worth 178 = .ok (.iload_n 3, 1) := by decide +kernel
theorem dX12_worth_179 : decode cX12_worth 179 = .ok (.iconst 1, 1) := by decide +kernel
theorem dX12_worth_180 : decode cX12_worth 180 = .ok (.isub, 1) := by decide +kernel
theorem dX12_worth_181 : decode cX12_worth 181 = .ok (.if_icmp .ge 32, 3) := by decide +kernel
theorem dX12_worth_184 : decode cX12_worth 184 = .ok (.aload_n 0, 1) := by decide +kernel
theorem dX12_worth_185 : decode cX12_worth 185 = .ok (.iload_n 3, 1) := by decide +kernel
theorem dX12_worth_186 : decode cX12_worth 186 = .ok (.iload 4, 2) := by decide +kernel
theorem dX12_worth_188 : decode cX12_worth 188 = .ok (.invokevirtual 338, 3) := by decide +kernel
theorem dX12_worth_191 : decode cX12_worth 191 = .ok (.ifCond .eq 16, 3) := by decide +kernel
theorem dX12_worth_194 : decode cX12_worth 194 = .ok (.iload_n 2, 1) := by decide +kernel
theorem dX12_worth_195 : decode cX12_worth 195 = .ok (.ifCond .ne 7, 3) := by decide +kernel
theorem dX12_worth_198 : decode cX12_worth 198 = .ok (.iconst (-1), 1) := by decide +kernel
theorem dX12_worth_199 : decode cX12_worth 199 = .ok (.goto 7, 3) := by decide +kernel
theorem dX12_worth_202 : decode cX12_worth 202 = .ok (.iload_n 3, 1) := by decide +kernel
theorem dX12_worth_203 : decode cX12_worth 203 = .ok (.iload 4, 2) := by decide +kernel
theorem dX12_worth_205 : decode cX12_worth 205 = .ok (.isub, 1) := by decide +kernel
theorem dX12_worth_206 : decode cX12_worth 206 = .ok (.ireturn, 1) := by decide +kernel
theorem dX12_worth_207 : decode cX12_worth 207 = .ok (.iinc 4 1, 3) := by decide +kernel
theorem dX12_worth_210 : decode cX12_worth 210 = .ok (.goto (-34), 3) := by decide +kernel
theorem dX12_worth_213 : decode cX12_worth 213 = .ok (.iinc 3 1, 3) := by decide +kernel
theorem dX12_worth_216 : decode cX12_worth 216 = .ok (.goto (-72), 3) := by decide +kernel
theorem dX12_worth_219 : decode cX12_worth 219 = .ok (.iload_n 2, 1) := by decide +kernel
theorem dX12_worth_220 : decode cX12_worth 220 = .ok (.ifCond .ne 7, 3) := by decide +kernel
theorem dX12_worth_223 : decode cX12_worth 223 = .ok (.iconst (-1), 1) := by decide +kernel
theorem dX12_worth_224 : decode cX12_worth 224 = .ok (.goto 4, 3) := by decide +kernel
theorem dX12_worth_227 : decode cX12_worth 227 = .ok (.iconst 0, 1) := by decide +kernel
theorem dX12_worth_228 : decode cX12_worth 228 = .ok (.ireturn, 1) := by decide +kernel
abbrev nd_X12_worth : List Nat := [100, 101, 108, 109, 116]
abbrev ld_X12_worth : List (Nat × Nat) := [(100, 0), (100, 9), (100, 10), (100, 36)]
theorem sn_X12_worth_X12_isIn : ∀ c ∈ nd_X12_isIn, c ∈ nd_X12_worth := by decide
theorem sl_X12_worth_X12_isIn : ∀ q ∈ ld_X12_isIn, q ∈ ld_X12_worth := by decide
theorem sn_X12_worth_X12_isAlike : ∀ c ∈ nd_X12_isAlike, c ∈ nd_X12_worth := by decide
theorem sl_X12_worth_X12_isAlike : ∀ q ∈ ld_X12_isAlike, q ∈ ld_X12_worth := by decide
theorem sn_X12_worth_X12_worthBehind : ∀ c ∈ nd_X12_worthBehind, c ∈ nd_X12_worth := by decide
theorem sl_X12_worth_X12_worthBehind : ∀ q ∈ ld_X12_worthBehind, q ∈ ld_X12_worth := by decide
theorem sn_X12_worth_X12_ofHalf : ∀ c ∈ nd_X12_ofHalf, c ∈ nd_X12_worth := by decide
theorem sl_X12_worth_X12_ofHalf : ∀ q ∈ ld_X12_ofHalf, q ∈ ld_X12_worth := by decide
def f_X12_worth_176 (k144 : Int32 → Int32 → zH → zR) : Nat → Int32 → Int32 → Int32 → zH → zR
  | 0 => fun _ _ _ _ => none
  | n + 1 => fun x2 x3 x4 h => (if (x3 - (1 : Int32)) ≤ x4 then (zlt (x3 + (1 : Int32)) fun y5 => (k144 x2 y5 h)) else (zbd (f_X12_isAlike x3 x4 h) fun r6 h7 => (if r6 = 0 then (zlt (x4 + (1 : Int32)) fun y8 => (f_X12_worth_176 k144 n x2 x3 y8 h7)) else (if x2 = 0 then (some ((-1 : Int32), h7)) else (some ((x3 - x4), h7))))))
def f_X12_worth_144  : Nat → Int32 → Int32 → zH → zR
  | 0 => fun _ _ _ => none
  | n + 1 => fun x2 x3 h => (if (40 : Int32) < x3 then (if x2 = 0 then (some ((-1 : Int32), h)) else (some ((0 : Int32), h))) else (zbd (f_X12_isAlike x3 (x3 - (1 : Int32)) h) fun r3 h4 => (if r3 = 0 then (f_X12_worth_176 (f_X12_worth_144  n) zN x2 x3 (0 : Int32) h4) else (if x2 = 0 then (some ((x3 - (1 : Int32)), h4)) else (some ((0 : Int32), h4))))))
def f_X12_worth_80 (k71 : Int32 → Int32 → Int32 → zH → zR) : Nat → Int32 → Int32 → Int32 → Int32 → zH → zR
  | 0 => fun _ _ _ _ _ => none
  | n + 1 => fun x1 x2 x3 x4 h => (if (h 101 3) ≤ x4 then (zlt (x3 + (1 : Int32)) fun y9 => (k71 x1 x2 y9 h)) else (zbd (f_X12_worthBehind x3 x4 h) fun r10 h11 => (zck (((16 : Int32) * x3) + x4) 656 (zst (zup h11 116 (Int32.toNatClampNeg (((16 : Int32) * x3) + x4)) r10) fun h12 => (zlt (x4 + (1 : Int32)) fun y13 => (f_X12_worth_80 k71 n x1 x2 x3 y13 h12))))))
def f_X12_worth_71  : Nat → Int32 → Int32 → Int32 → zH → zR
  | 0 => fun _ _ _ _ => none
  | n + 1 => fun x1 x2 x3 h => (if (40 : Int32) < x3 then (if x2 ≤ (1 : Int32) then (f_X12_worth_144  zN x2 (1 : Int32) h) else (zck ((((16 : Int32) * x1) + x2) - (10 : Int32)) 656 (some ((h 116 (Int32.toNatClampNeg ((((16 : Int32) * x1) + x2) - (10 : Int32)))), h)))) else (f_X12_worth_80 (f_X12_worth_71  n) zN x1 x2 x3 (0 : Int32) h))
def f_X12_worth_41  : Nat → Int32 → Int32 → Int32 → zH → zR
  | 0 => fun _ _ _ _ => none
  | n + 1 => fun x1 x2 x3 h => (if (h 101 3) ≤ x3 then (f_X12_worth_71  zN x1 x2 (1 : Int32) h) else (zbd (f_X12_ofHalf x3 (2 : Int32) h) fun r14 h15 => (zck x3 656 (zst (zup h15 116 (Int32.toNatClampNeg x3) r14) fun h16 => (zlt (x3 + (1 : Int32)) fun y17 => (f_X12_worth_41  n x1 x2 y17 h16))))))
def f_X12_worth_39  (x1 : Int32) (x2 : Int32) (h : zH) : zR := (f_X12_worth_41  zN x1 x2 (0 : Int32) h)
def f_X12_worth_37  (h : zH) : zR := (some ((-1 : Int32), h))
def f_X12_worth  (x1 : Int32) (x2 : Int32) (h : zH) : zR := (zbd (f_X12_isIn x2 (0 : Int32) (1 : Int32) h) fun r1 h2 => (if r1 = 0 then (zbd (f_X12_isIn x2 (10 : Int32) ((9 : Int32) + (h2 101 3)) h2) fun r18 h19 => (if r18 = 0 then (f_X12_worth_37   h19) else (zbd (f_X12_isIn x1 (0 : Int32) (40 : Int32) h19) fun r20 h21 => (if r20 = 0 then (f_X12_worth_37   h21) else (f_X12_worth_39  x1 x2 h21))))) else (f_X12_worth_39  x1 x2 h2)))
variable {p : Program} {l : Launch} {e : Env} {s : State} {m : MethodId} {args : Array Value} {below : List Frame} {meth : Method} {c : Code} {G : zG} {q : Int32 × zH}
set_option maxHeartbeats 4000000 in
set_option maxRecDepth 100000 in
theorem w_X12_worth_176 {k144 : Int32 → Int32 → zH → zR} (C : zC G p s m args meth c cX12_worth 5 RX12 (some .int)) (hm : ∀ c ∈ nd_X12_worth, c ∈ znm G) (hk : ∀ q ∈ ld_X12_worth, zlk G q.1 q.2 = true) (hk144 : ∀ (ls : Array Slot) (H : Heap) (locs : List Loc) (h : zH) (x2 : Int32) (x3 : Int32), lv_has ls 5 [(0, .ref (zal G 100)), (2, .int x2), (3, .int x3)] → zS G h s.heap H locs → k144 x2 x3 h = some q → W p l e (zrm (6)) s m args below meth c H locs 0 0 (MQ below (zQI G q.2 q.1) args s 0 0 (zA G)) (F0 m 144 ls [])) : ∀ n, ∀ (ls : Array Slot) (H : Heap) (locs : List Loc) (h : zH) (x2 : Int32) (x3 : Int32) (x4 : Int32), lv_has ls 5 [(0, .ref (zal G 100)), (2, .int x2), (3, .int x3), (4, .int x4)] → zS G h s.heap H locs → f_X12_worth_176 k144 n x2 x3 x4 h = some q → W p l e (zrm (6)) s m args below meth c H locs 0 0 (MQ below (zQI G q.2 q.1) args s 0 0 (zA G)) (F0 m 176 ls []) := by
  intro n
  induction n with
  | zero => intro ls H locs h x2 x3 x4 hl hS hf; cases hf
  | succ n ih =>
    intro ls H locs h x2 x3 x4 hl hS hf
    rw [f_X12_worth_176] at hf
    refine lv_iload C.1 C.2.1 dX12_worth_176 (lv_at hl 3 rfl) ?_
    refine lv_iload_n C.1 C.2.1 dX12_worth_178 rfl (lv_at hl 2 rfl) ?_
    refine lv_iconst (v := (1 : Int32)) C.1 C.2.1 dX12_worth_179 rfl ?_
    refine lv_isub C.1 C.2.1 dX12_worth_180 ?_
    refine lv_icmp_ge (tgt := 213) C.1 C.2.1 dX12_worth_181 (by decide) (fun hc => ?_) (fun hc => ?_)
    · have hf := zif_t hc hf
      obtain ⟨y5, ey5, hf⟩ := zlt_some hf
      refine lv_iinc (v := y5) (lv' := [(3, .int y5), (0, .ref (zal G 100)), (2, .int x2), (4, .int x4)]) C.1 C.2.1 dX12_worth_213 hl (k := 2) rfl ey5.symm (by decide) rfl (fun ls hl => ?_)
      refine lv_goto (tgt := 144) C.1 C.2.1 dX12_worth_216 (by decide) ?_
      exact hk144 _ _ _ _ _ _ (lv_sub hl [1, 2, 0] rfl) hS hf
    · have hf := zif_f hc hf
      refine lv_aload_n C.1 C.2.1 dX12_worth_184 rfl (lv_at hl 0 rfl) ?_
      refine lv_iload_n C.1 C.2.1 dX12_worth_185 rfl (lv_at hl 2 rfl) ?_
      refine lv_iload C.1 C.2.1 dX12_worth_186 (lv_at hl 3 rfl) ?_
      obtain ⟨r6, h7, er6, hf⟩ := zbd_some hf
      refine zcallVI (As := [.int x3, .int x4]) (rest := []) C hS mv_X12_338 (c_X12_isAlike l G h x3 x4 (r6, h7) (fun c h => hm c (sn_X12_worth_X12_isAlike c h)) (fun q h => hk q (sl_X12_worth_X12_isAlike q h)) er6) (hm 100 (by decide)) ⟨_, _, _, sh_100, rfl, rfl⟩ rfl rfl (Nat.le_of_ble_eq_true rfl) hl.1 ⟨Nat.le_of_ble_eq_true rfl, Nat.le_of_ble_eq_true rfl, Nat.le_of_ble_eq_true rfl, Nat.le_of_ble_eq_true rfl⟩ dX12_worth_188 (fun H locs hS => ?_)
      refine lv_if_eq (tgt := 207) C.1 C.2.1 dX12_worth_191 (by decide) (fun hc => ?_) (fun hc => ?_)
      · have hf := zif_t hc hf
        obtain ⟨y8, ey8, hf⟩ := zlt_some hf
        refine lv_iinc (v := y8) (lv' := [(4, .int y8), (0, .ref (zal G 100)), (2, .int x2), (3, .int x3)]) C.1 C.2.1 dX12_worth_207 hl (k := 3) rfl ey8.symm (by decide) rfl (fun ls hl => ?_)
        refine lv_goto (tgt := 176) C.1 C.2.1 dX12_worth_210 (by decide) ?_
        exact ih _ _ _ _ _ _ _ (lv_sub hl [1, 2, 3, 0] rfl) hS hf
      · have hf := zif_f hc hf
        refine lv_iload_n C.1 C.2.1 dX12_worth_194 rfl (lv_at hl 1 rfl) ?_
        refine lv_if_ne (tgt := 202) C.1 C.2.1 dX12_worth_195 (by decide) (fun hc => ?_) (fun hc => ?_)
        · have hf := zif_f hc hf
          refine lv_iload_n C.1 C.2.1 dX12_worth_202 rfl (lv_at hl 2 rfl) ?_
          refine lv_iload C.1 C.2.1 dX12_worth_203 (lv_at hl 3 rfl) ?_
          refine lv_isub C.1 C.2.1 dX12_worth_205 ?_
          exact zretI C hS hf dX12_worth_206
        · have hf := zif_t hc hf
          refine lv_iconst (v := (-1 : Int32)) C.1 C.2.1 dX12_worth_198 rfl ?_
          refine lv_goto (tgt := 206) C.1 C.2.1 dX12_worth_199 (by decide) ?_
          exact zretI C hS hf dX12_worth_206
set_option maxHeartbeats 4000000 in
set_option maxRecDepth 100000 in
theorem w_X12_worth_144  (C : zC G p s m args meth c cX12_worth 5 RX12 (some .int)) (hm : ∀ c ∈ nd_X12_worth, c ∈ znm G) (hk : ∀ q ∈ ld_X12_worth, zlk G q.1 q.2 = true)  : ∀ n, ∀ (ls : Array Slot) (H : Heap) (locs : List Loc) (h : zH) (x2 : Int32) (x3 : Int32), lv_has ls 5 [(0, .ref (zal G 100)), (2, .int x2), (3, .int x3)] → zS G h s.heap H locs → f_X12_worth_144  n x2 x3 h = some q → W p l e (zrm (6)) s m args below meth c H locs 0 0 (MQ below (zQI G q.2 q.1) args s 0 0 (zA G)) (F0 m 144 ls []) := by
  intro n
  induction n with
  | zero => intro ls H locs h x2 x3 hl hS hf; cases hf
  | succ n ih =>
    intro ls H locs h x2 x3 hl hS hf
    rw [f_X12_worth_144] at hf
    refine lv_iload_n C.1 C.2.1 dX12_worth_144 rfl (lv_at hl 2 rfl) ?_
    refine lv_bipush (v := (40 : Int32)) C.1 C.2.1 dX12_worth_145 rfl ?_
    refine lv_icmp_gt (tgt := 219) C.1 C.2.1 dX12_worth_147 (by decide) (fun hc => ?_) (fun hc => ?_)
    · have hf := zif_t hc hf
      refine lv_iload_n C.1 C.2.1 dX12_worth_219 rfl (lv_at hl 1 rfl) ?_
      refine lv_if_ne (tgt := 227) C.1 C.2.1 dX12_worth_220 (by decide) (fun hc => ?_) (fun hc => ?_)
      · have hf := zif_f hc hf
        refine lv_iconst (v := (0 : Int32)) C.1 C.2.1 dX12_worth_227 rfl ?_
        exact zretI C hS hf dX12_worth_228
      · have hf := zif_t hc hf
        refine lv_iconst (v := (-1 : Int32)) C.1 C.2.1 dX12_worth_223 rfl ?_
        refine lv_goto (tgt := 228) C.1 C.2.1 dX12_worth_224 (by decide) ?_
        exact zretI C hS hf dX12_worth_228
    · have hf := zif_f hc hf
      refine lv_aload_n C.1 C.2.1 dX12_worth_150 rfl (lv_at hl 0 rfl) ?_
      refine lv_iload_n C.1 C.2.1 dX12_worth_151 rfl (lv_at hl 2 rfl) ?_
      refine lv_iload_n C.1 C.2.1 dX12_worth_152 rfl (lv_at hl 2 rfl) ?_
      refine lv_iconst (v := (1 : Int32)) C.1 C.2.1 dX12_worth_153 rfl ?_
      refine lv_isub C.1 C.2.1 dX12_worth_154 ?_
      obtain ⟨r3, h4, er3, hf⟩ := zbd_some hf
      refine zcallVI (As := [.int x3, .int (x3 - (1 : Int32))]) (rest := []) C hS mv_X12_338 (c_X12_isAlike l G h x3 (x3 - (1 : Int32)) (r3, h4) (fun c h => hm c (sn_X12_worth_X12_isAlike c h)) (fun q h => hk q (sl_X12_worth_X12_isAlike q h)) er3) (hm 100 (by decide)) ⟨_, _, _, sh_100, rfl, rfl⟩ rfl rfl (Nat.le_of_ble_eq_true rfl) hl.1 ⟨Nat.le_of_ble_eq_true rfl, Nat.le_of_ble_eq_true rfl, Nat.le_of_ble_eq_true rfl, Nat.le_of_ble_eq_true rfl⟩ dX12_worth_155 (fun H locs hS => ?_)
      refine lv_if_eq (tgt := 173) C.1 C.2.1 dX12_worth_158 (by decide) (fun hc => ?_) (fun hc => ?_)
      · have hf := zif_t hc hf
        refine lv_iconst (v := (0 : Int32)) C.1 C.2.1 dX12_worth_173 rfl ?_
        refine lv_istore (lv' := [(4, .int (0 : Int32)), (0, .ref (zal G 100)), (2, .int x2), (3, .int x3)]) C.1 C.2.1 dX12_worth_174 hl (by decide) rfl (fun ls hl => ?_)
        exact w_X12_worth_176 C hm hk ih zN _ _ _ _ _ _ _ (lv_sub hl [1, 2, 3, 0] rfl) hS hf
      · have hf := zif_f hc hf
        refine lv_iload_n C.1 C.2.1 dX12_worth_161 rfl (lv_at hl 1 rfl) ?_
        refine lv_if_ne (tgt := 171) C.1 C.2.1 dX12_worth_162 (by decide) (fun hc => ?_) (fun hc => ?_)
        · have hf := zif_f hc hf
          refine lv_iconst (v := (0 : Int32)) C.1 C.2.1 dX12_worth_171 rfl ?_
          exact zretI C hS hf dX12_worth_172
        · have hf := zif_t hc hf
          refine lv_iload_n C.1 C.2.1 dX12_worth_165 rfl (lv_at hl 2 rfl) ?_
          refine lv_iconst (v := (1 : Int32)) C.1 C.2.1 dX12_worth_166 rfl ?_
          refine lv_isub C.1 C.2.1 dX12_worth_167 ?_
          refine lv_goto (tgt := 172) C.1 C.2.1 dX12_worth_168 (by decide) ?_
          exact zretI C hS hf dX12_worth_172
set_option maxHeartbeats 4000000 in
set_option maxRecDepth 100000 in
theorem w_X12_worth_80 {k71 : Int32 → Int32 → Int32 → zH → zR} (C : zC G p s m args meth c cX12_worth 5 RX12 (some .int)) (hm : ∀ c ∈ nd_X12_worth, c ∈ znm G) (hk : ∀ q ∈ ld_X12_worth, zlk G q.1 q.2 = true) (hk71 : ∀ (ls : Array Slot) (H : Heap) (locs : List Loc) (h : zH) (x1 : Int32) (x2 : Int32) (x3 : Int32), lv_has ls 5 [(0, .ref (zal G 100)), (1, .int x1), (2, .int x2), (3, .int x3)] → zS G h s.heap H locs → k71 x1 x2 x3 h = some q → W p l e (zrm (6)) s m args below meth c H locs 0 0 (MQ below (zQI G q.2 q.1) args s 0 0 (zA G)) (F0 m 71 ls [])) : ∀ n, ∀ (ls : Array Slot) (H : Heap) (locs : List Loc) (h : zH) (x1 : Int32) (x2 : Int32) (x3 : Int32) (x4 : Int32), lv_has ls 5 [(0, .ref (zal G 100)), (1, .int x1), (2, .int x2), (3, .int x3), (4, .int x4)] → zS G h s.heap H locs → f_X12_worth_80 k71 n x1 x2 x3 x4 h = some q → W p l e (zrm (6)) s m args below meth c H locs 0 0 (MQ below (zQI G q.2 q.1) args s 0 0 (zA G)) (F0 m 80 ls []) := by
  intro n
  induction n with
  | zero => intro ls H locs h x1 x2 x3 x4 hl hS hf; cases hf
  | succ n ih =>
    intro ls H locs h x1 x2 x3 x4 hl hS hf
    rw [f_X12_worth_80] at hf
    refine lv_iload C.1 C.2.1 dX12_worth_80 (lv_at hl 4 rfl) ?_
    refine lv_aload_n C.1 C.2.1 dX12_worth_82 rfl (lv_at hl 0 rfl) ?_
    refine zgetR C hS ff_X12_7_100 (hm 100 (by decide)) (hk (100, 0) (by decide)) dX12_worth_83 ?_
    refine lv_iconst (v := (3 : Int32)) C.1 C.2.1 dX12_worth_86 rfl ?_
    refine zald C hS sh_101 (hm 101 (by decide)) (vp_in_iff.mpr (by decide)) dX12_worth_87 ?_
    refine lv_icmp_ge (tgt := 116) C.1 C.2.1 dX12_worth_88 (by decide) (fun hc => ?_) (fun hc => ?_)
    · have hf := zif_t hc hf
      obtain ⟨y9, ey9, hf⟩ := zlt_some hf
      refine lv_iinc (v := y9) (lv' := [(3, .int y9), (0, .ref (zal G 100)), (1, .int x1), (2, .int x2), (4, .int x4)]) C.1 C.2.1 dX12_worth_116 hl (k := 3) rfl ey9.symm (by decide) rfl (fun ls hl => ?_)
      refine lv_goto (tgt := 71) C.1 C.2.1 dX12_worth_119 (by decide) ?_
      exact hk71 _ _ _ _ _ _ _ (lv_sub hl [1, 2, 3, 0] rfl) hS hf
    · have hf := zif_f hc hf
      refine lv_aload_n C.1 C.2.1 dX12_worth_91 rfl (lv_at hl 0 rfl) ?_
      refine zgetR C hS ff_X12_59_100 (hm 100 (by decide)) (hk (100, 36) (by decide)) dX12_worth_92 ?_
      refine lv_bipush (v := (16 : Int32)) C.1 C.2.1 dX12_worth_95 rfl ?_
      refine lv_iload_n C.1 C.2.1 dX12_worth_97 rfl (lv_at hl 3 rfl) ?_
      refine lv_imul C.1 C.2.1 dX12_worth_98 ?_
      refine lv_iload C.1 C.2.1 dX12_worth_99 (lv_at hl 4 rfl) ?_
      refine lv_iadd C.1 C.2.1 dX12_worth_101 ?_
      refine lv_aload_n C.1 C.2.1 dX12_worth_102 rfl (lv_at hl 0 rfl) ?_
      refine lv_iload_n C.1 C.2.1 dX12_worth_103 rfl (lv_at hl 3 rfl) ?_
      refine lv_iload C.1 C.2.1 dX12_worth_104 (lv_at hl 4 rfl) ?_
      obtain ⟨r10, h11, er10, hf⟩ := zbd_some hf
      refine zcallVI (As := [.int x3, .int x4]) (rest := [.int (((16 : Int32) * x3) + x4), .ref (zal G 116)]) C hS mv_X12_335 (c_X12_worthBehind l G h x3 x4 (r10, h11) (fun c h => hm c (sn_X12_worth_X12_worthBehind c h)) (fun q h => hk q (sl_X12_worth_X12_worthBehind q h)) er10) (hm 100 (by decide)) ⟨_, _, _, sh_100, rfl, rfl⟩ rfl rfl (Nat.le_of_ble_eq_true rfl) hl.1 ⟨Nat.le_of_ble_eq_true rfl, Nat.le_of_ble_eq_true rfl, Nat.le_of_ble_eq_true rfl, Nat.le_of_ble_eq_true rfl⟩ dX12_worth_106 (fun H locs hS => ?_)
      obtain ⟨hi, hf⟩ := zck_some hf
      refine zast C hS sh_116 (hm 116 (by decide)) hi dX12_worth_109 (fun H locs hS => ?_)
      obtain ⟨h12, eh12, hf⟩ := zst_some hf
      have hS : zS G h12 s.heap H locs := by rw [eh12]; exact hS
      obtain ⟨y13, ey13, hf⟩ := zlt_some hf
      refine lv_iinc (v := y13) (lv' := [(4, .int y13), (0, .ref (zal G 100)), (1, .int x1), (2, .int x2), (3, .int x3)]) C.1 C.2.1 dX12_worth_110 hl (k := 4) rfl ey13.symm (by decide) rfl (fun ls hl => ?_)
      refine lv_goto (tgt := 80) C.1 C.2.1 dX12_worth_113 (by decide) ?_
      exact ih _ _ _ _ _ _ _ _ (lv_sub hl [1, 2, 3, 4, 0] rfl) hS hf
set_option maxHeartbeats 4000000 in
set_option maxRecDepth 100000 in
theorem w_X12_worth_71  (C : zC G p s m args meth c cX12_worth 5 RX12 (some .int)) (hm : ∀ c ∈ nd_X12_worth, c ∈ znm G) (hk : ∀ q ∈ ld_X12_worth, zlk G q.1 q.2 = true)  : ∀ n, ∀ (ls : Array Slot) (H : Heap) (locs : List Loc) (h : zH) (x1 : Int32) (x2 : Int32) (x3 : Int32), lv_has ls 5 [(0, .ref (zal G 100)), (1, .int x1), (2, .int x2), (3, .int x3)] → zS G h s.heap H locs → f_X12_worth_71  n x1 x2 x3 h = some q → W p l e (zrm (6)) s m args below meth c H locs 0 0 (MQ below (zQI G q.2 q.1) args s 0 0 (zA G)) (F0 m 71 ls []) := by
  intro n
  induction n with
  | zero => intro ls H locs h x1 x2 x3 hl hS hf; cases hf
  | succ n ih =>
    intro ls H locs h x1 x2 x3 hl hS hf
    rw [f_X12_worth_71] at hf
    refine lv_iload_n C.1 C.2.1 dX12_worth_71 rfl (lv_at hl 3 rfl) ?_
    refine lv_bipush (v := (40 : Int32)) C.1 C.2.1 dX12_worth_72 rfl ?_
    refine lv_icmp_gt (tgt := 122) C.1 C.2.1 dX12_worth_74 (by decide) (fun hc => ?_) (fun hc => ?_)
    · have hf := zif_t hc hf
      refine lv_iload_n C.1 C.2.1 dX12_worth_122 rfl (lv_at hl 2 rfl) ?_
      refine lv_iconst (v := (1 : Int32)) C.1 C.2.1 dX12_worth_123 rfl ?_
      refine lv_icmp_le (tgt := 142) C.1 C.2.1 dX12_worth_124 (by decide) (fun hc => ?_) (fun hc => ?_)
      · have hf := zif_t hc hf
        refine lv_iconst (v := (1 : Int32)) C.1 C.2.1 dX12_worth_142 rfl ?_
        refine lv_istore_n (lv' := [(3, .int (1 : Int32)), (0, .ref (zal G 100)), (1, .int x1), (2, .int x2)]) C.1 C.2.1 dX12_worth_143 rfl hl (by decide) rfl (fun ls hl => ?_)
        exact w_X12_worth_144 C hm hk  zN _ _ _ _ _ _ (lv_sub hl [1, 3, 0] rfl) hS hf
      · have hf := zif_f hc hf
        refine lv_aload_n C.1 C.2.1 dX12_worth_127 rfl (lv_at hl 0 rfl) ?_
        refine zgetR C hS ff_X12_59_100 (hm 100 (by decide)) (hk (100, 36) (by decide)) dX12_worth_128 ?_
        refine lv_bipush (v := (16 : Int32)) C.1 C.2.1 dX12_worth_131 rfl ?_
        refine lv_iload_n C.1 C.2.1 dX12_worth_133 rfl (lv_at hl 1 rfl) ?_
        refine lv_imul C.1 C.2.1 dX12_worth_134 ?_
        refine lv_iload_n C.1 C.2.1 dX12_worth_135 rfl (lv_at hl 2 rfl) ?_
        refine lv_iadd C.1 C.2.1 dX12_worth_136 ?_
        refine lv_bipush (v := (10 : Int32)) C.1 C.2.1 dX12_worth_137 rfl ?_
        refine lv_isub C.1 C.2.1 dX12_worth_139 ?_
        obtain ⟨hi, hf⟩ := zck_some hf
        refine zald C hS sh_116 (hm 116 (by decide)) hi dX12_worth_140 ?_
        exact zretI C hS hf dX12_worth_141
    · have hf := zif_f hc hf
      refine lv_iconst (v := (0 : Int32)) C.1 C.2.1 dX12_worth_77 rfl ?_
      refine lv_istore (lv' := [(4, .int (0 : Int32)), (0, .ref (zal G 100)), (1, .int x1), (2, .int x2), (3, .int x3)]) C.1 C.2.1 dX12_worth_78 hl (by decide) rfl (fun ls hl => ?_)
      exact w_X12_worth_80 C hm hk ih zN _ _ _ _ _ _ _ _ (lv_sub hl [1, 2, 3, 4, 0] rfl) hS hf
set_option maxHeartbeats 4000000 in
set_option maxRecDepth 100000 in
theorem w_X12_worth_41  (C : zC G p s m args meth c cX12_worth 5 RX12 (some .int)) (hm : ∀ c ∈ nd_X12_worth, c ∈ znm G) (hk : ∀ q ∈ ld_X12_worth, zlk G q.1 q.2 = true)  : ∀ n, ∀ (ls : Array Slot) (H : Heap) (locs : List Loc) (h : zH) (x1 : Int32) (x2 : Int32) (x3 : Int32), lv_has ls 5 [(0, .ref (zal G 100)), (1, .int x1), (2, .int x2), (3, .int x3)] → zS G h s.heap H locs → f_X12_worth_41  n x1 x2 x3 h = some q → W p l e (zrm (6)) s m args below meth c H locs 0 0 (MQ below (zQI G q.2 q.1) args s 0 0 (zA G)) (F0 m 41 ls []) := by
  intro n
  induction n with
  | zero => intro ls H locs h x1 x2 x3 hl hS hf; cases hf
  | succ n ih =>
    intro ls H locs h x1 x2 x3 hl hS hf
    rw [f_X12_worth_41] at hf
    refine lv_iload_n C.1 C.2.1 dX12_worth_41 rfl (lv_at hl 3 rfl) ?_
    refine lv_aload_n C.1 C.2.1 dX12_worth_42 rfl (lv_at hl 0 rfl) ?_
    refine zgetR C hS ff_X12_7_100 (hm 100 (by decide)) (hk (100, 0) (by decide)) dX12_worth_43 ?_
    refine lv_iconst (v := (3 : Int32)) C.1 C.2.1 dX12_worth_46 rfl ?_
    refine zald C hS sh_101 (hm 101 (by decide)) (vp_in_iff.mpr (by decide)) dX12_worth_47 ?_
    refine lv_icmp_ge (tgt := 69) C.1 C.2.1 dX12_worth_48 (by decide) (fun hc => ?_) (fun hc => ?_)
    · have hf := zif_t hc hf
      refine lv_iconst (v := (1 : Int32)) C.1 C.2.1 dX12_worth_69 rfl ?_
      refine lv_istore_n (lv' := [(3, .int (1 : Int32)), (0, .ref (zal G 100)), (1, .int x1), (2, .int x2)]) C.1 C.2.1 dX12_worth_70 rfl hl (by decide) rfl (fun ls hl => ?_)
      exact w_X12_worth_71 C hm hk  zN _ _ _ _ _ _ _ (lv_sub hl [1, 2, 3, 0] rfl) hS hf
    · have hf := zif_f hc hf
      refine lv_aload_n C.1 C.2.1 dX12_worth_51 rfl (lv_at hl 0 rfl) ?_
      refine zgetR C hS ff_X12_59_100 (hm 100 (by decide)) (hk (100, 36) (by decide)) dX12_worth_52 ?_
      refine lv_iload_n C.1 C.2.1 dX12_worth_55 rfl (lv_at hl 3 rfl) ?_
      refine lv_aload_n C.1 C.2.1 dX12_worth_56 rfl (lv_at hl 0 rfl) ?_
      refine lv_iload_n C.1 C.2.1 dX12_worth_57 rfl (lv_at hl 3 rfl) ?_
      refine lv_iconst (v := (2 : Int32)) C.1 C.2.1 dX12_worth_58 rfl ?_
      obtain ⟨r14, h15, er14, hf⟩ := zbd_some hf
      refine zcallVI (As := [.int x3, .int (2 : Int32)]) (rest := [.int x3, .ref (zal G 116)]) C hS mv_X12_69 (c_X12_ofHalf l G h x3 (2 : Int32) (r14, h15) (fun c h => hm c (sn_X12_worth_X12_ofHalf c h)) (fun q h => hk q (sl_X12_worth_X12_ofHalf q h)) er14) (hm 100 (by decide)) ⟨_, _, _, sh_100, rfl, rfl⟩ rfl rfl (Nat.le_of_ble_eq_true rfl) hl.1 ⟨Nat.le_of_ble_eq_true rfl, Nat.le_of_ble_eq_true rfl, Nat.le_of_ble_eq_true rfl, Nat.le_of_ble_eq_true rfl⟩ dX12_worth_59 (fun H locs hS => ?_)
      obtain ⟨hi, hf⟩ := zck_some hf
      refine zast C hS sh_116 (hm 116 (by decide)) hi dX12_worth_62 (fun H locs hS => ?_)
      obtain ⟨h16, eh16, hf⟩ := zst_some hf
      have hS : zS G h16 s.heap H locs := by rw [eh16]; exact hS
      obtain ⟨y17, ey17, hf⟩ := zlt_some hf
      refine lv_iinc (v := y17) (lv' := [(3, .int y17), (0, .ref (zal G 100)), (1, .int x1), (2, .int x2)]) C.1 C.2.1 dX12_worth_63 hl (k := 3) rfl ey17.symm (by decide) rfl (fun ls hl => ?_)
      refine lv_goto (tgt := 41) C.1 C.2.1 dX12_worth_66 (by decide) ?_
      exact ih _ _ _ _ _ _ _ (lv_sub hl [1, 2, 3, 0] rfl) hS hf
set_option maxHeartbeats 4000000 in
set_option maxRecDepth 100000 in
theorem w_X12_worth_39  (C : zC G p s m args meth c cX12_worth 5 RX12 (some .int)) (hm : ∀ c ∈ nd_X12_worth, c ∈ znm G) (hk : ∀ q ∈ ld_X12_worth, zlk G q.1 q.2 = true)  : ∀ (ls : Array Slot) (H : Heap) (locs : List Loc) (h : zH) (x1 : Int32) (x2 : Int32), lv_has ls 5 [(0, .ref (zal G 100)), (1, .int x1), (2, .int x2)] → zS G h s.heap H locs → f_X12_worth_39  x1 x2 h = some q → W p l e (zrm (6)) s m args below meth c H locs 0 0 (MQ below (zQI G q.2 q.1) args s 0 0 (zA G)) (F0 m 39 ls []) := by
  intro ls H locs h x1 x2 hl hS hf
  unfold f_X12_worth_39 at hf
  refine lv_iconst (v := (0 : Int32)) C.1 C.2.1 dX12_worth_39 rfl ?_
  refine lv_istore_n (lv' := [(3, .int (0 : Int32)), (0, .ref (zal G 100)), (1, .int x1), (2, .int x2)]) C.1 C.2.1 dX12_worth_40 rfl hl (by decide) rfl (fun ls hl => ?_)
  exact w_X12_worth_41 C hm hk  zN _ _ _ _ _ _ _ (lv_sub hl [1, 2, 3, 0] rfl) hS hf
set_option maxHeartbeats 4000000 in
set_option maxRecDepth 100000 in
theorem w_X12_worth_37  (C : zC G p s m args meth c cX12_worth 5 RX12 (some .int)) (hm : ∀ c ∈ nd_X12_worth, c ∈ znm G) (hk : ∀ q ∈ ld_X12_worth, zlk G q.1 q.2 = true)  : ∀ (ls : Array Slot) (H : Heap) (locs : List Loc) (h : zH), lv_has ls 5 [] → zS G h s.heap H locs → f_X12_worth_37  h = some q → W p l e (zrm (6)) s m args below meth c H locs 0 0 (MQ below (zQI G q.2 q.1) args s 0 0 (zA G)) (F0 m 37 ls []) := by
  intro ls H locs h hl hS hf
  unfold f_X12_worth_37 at hf
  refine lv_iconst (v := (-1 : Int32)) C.1 C.2.1 dX12_worth_37 rfl ?_
  exact zretI C hS hf dX12_worth_38
set_option maxHeartbeats 4000000 in
set_option maxRecDepth 100000 in
theorem c_X12_worth (l : Launch) (G : zG) (h : zH) (x1 : Int32) (x2 : Int32) (q : Int32 × zH) (hm : ∀ c ∈ nd_X12_worth, c ∈ znm G) (hk : ∀ q ∈ ld_X12_worth, zlk G q.1 q.2 = true) (hf : f_X12_worth x1 x2 h = some q) : zCtI l yX12_worth cX12_worth 5 (some .int) (6) [.ref (zal G 100), .int x1, .int x2] G h q.2 q.1 := by
  refine zMetI (by decide) (Nat.le_of_ble_eq_true rfl) ?_
  intro p e s m below meth c ls C hl hS
  have hl : lv_has ls 5 [(0, .ref (zal G 100)), (1, .int x1), (2, .int x2)] := hl
  have C : zC G p s m [.ref (zal G 100), .int x1, .int x2].toArray meth c cX12_worth 5 RX12 (some .int) := C
  unfold f_X12_worth at hf
  refine lv_iload_n C.1 C.2.1 dX12_worth_0 rfl (lv_at hl 2 rfl) ?_
  refine lv_iconst (v := (0 : Int32)) C.1 C.2.1 dX12_worth_1 rfl ?_
  refine lv_iconst (v := (1 : Int32)) C.1 C.2.1 dX12_worth_2 rfl ?_
  obtain ⟨r1, h2, er1, hf⟩ := zbd_some hf
  refine zcallSI (As := [.int x2, .int (0 : Int32), .int (1 : Int32)]) (rest := []) C hS ms_X12_65 (c_X12_isIn l G h x2 (0 : Int32) (1 : Int32) (r1, h2) (fun c h => hm c (sn_X12_worth_X12_isIn c h)) (fun q h => hk q (sl_X12_worth_X12_isIn q h)) er1) rfl rfl (Nat.le_of_ble_eq_true rfl) hl.1 ⟨Nat.le_of_ble_eq_true rfl, Nat.le_of_ble_eq_true rfl, Nat.le_of_ble_eq_true rfl, Nat.le_of_ble_eq_true rfl⟩ dX12_worth_3 (fun H locs hS => ?_)
  refine lv_if_ne (tgt := 39) C.1 C.2.1 dX12_worth_6 (by decide) (fun hc => ?_) (fun hc => ?_)
  · have hf := zif_f hc hf
    exact w_X12_worth_39 C hm hk  _ _ _ _ _ _ (lv_sub hl [0, 1, 2] rfl) hS hf
  · have hf := zif_t hc hf
    refine lv_iload_n C.1 C.2.1 dX12_worth_9 rfl (lv_at hl 2 rfl) ?_
    refine lv_bipush (v := (10 : Int32)) C.1 C.2.1 dX12_worth_10 rfl ?_
    refine lv_bipush (v := (9 : Int32)) C.1 C.2.1 dX12_worth_12 rfl ?_
    refine lv_aload_n C.1 C.2.1 dX12_worth_14 rfl (lv_at hl 0 rfl) ?_
    refine zgetR C hS ff_X12_7_100 (hm 100 (by decide)) (hk (100, 0) (by decide)) dX12_worth_15 ?_
    refine lv_iconst (v := (3 : Int32)) C.1 C.2.1 dX12_worth_18 rfl ?_
    refine zald C hS sh_101 (hm 101 (by decide)) (vp_in_iff.mpr (by decide)) dX12_worth_19 ?_
    refine lv_iadd C.1 C.2.1 dX12_worth_20 ?_
    obtain ⟨r18, h19, er18, hf⟩ := zbd_some hf
    refine zcallSI (As := [.int x2, .int (10 : Int32), .int ((9 : Int32) + (h2 101 3))]) (rest := []) C hS ms_X12_65 (c_X12_isIn l G h2 x2 (10 : Int32) ((9 : Int32) + (h2 101 3)) (r18, h19) (fun c h => hm c (sn_X12_worth_X12_isIn c h)) (fun q h => hk q (sl_X12_worth_X12_isIn q h)) er18) rfl rfl (Nat.le_of_ble_eq_true rfl) hl.1 ⟨Nat.le_of_ble_eq_true rfl, Nat.le_of_ble_eq_true rfl, Nat.le_of_ble_eq_true rfl, Nat.le_of_ble_eq_true rfl⟩ dX12_worth_21 (fun H locs hS => ?_)
    refine lv_if_eq (tgt := 37) C.1 C.2.1 dX12_worth_24 (by decide) (fun hc => ?_) (fun hc => ?_)
    · have hf := zif_t hc hf
      exact w_X12_worth_37 C hm hk  _ _ _ _ (lv_sub hl [] rfl) hS hf
    · have hf := zif_f hc hf
      refine lv_iload_n C.1 C.2.1 dX12_worth_27 rfl (lv_at hl 1 rfl) ?_
      refine lv_iconst (v := (0 : Int32)) C.1 C.2.1 dX12_worth_28 rfl ?_
      refine lv_bipush (v := (40 : Int32)) C.1 C.2.1 dX12_worth_29 rfl ?_
      obtain ⟨r20, h21, er20, hf⟩ := zbd_some hf
      refine zcallSI (As := [.int x1, .int (0 : Int32), .int (40 : Int32)]) (rest := []) C hS ms_X12_65 (c_X12_isIn l G h19 x1 (0 : Int32) (40 : Int32) (r20, h21) (fun c h => hm c (sn_X12_worth_X12_isIn c h)) (fun q h => hk q (sl_X12_worth_X12_isIn q h)) er20) rfl rfl (Nat.le_of_ble_eq_true rfl) hl.1 ⟨Nat.le_of_ble_eq_true rfl, Nat.le_of_ble_eq_true rfl, Nat.le_of_ble_eq_true rfl, Nat.le_of_ble_eq_true rfl⟩ dX12_worth_31 (fun H locs hS => ?_)
      refine lv_if_ne (tgt := 39) C.1 C.2.1 dX12_worth_34 (by decide) (fun hc => ?_) (fun hc => ?_)
      · have hf := zif_f hc hf
        exact w_X12_worth_39 C hm hk  _ _ _ _ _ _ (lv_sub hl [0, 1, 2] rfl) hS hf
      · have hf := zif_t hc hf
        exact w_X12_worth_37 C hm hk  _ _ _ _ (lv_sub hl [] rfl) hS hf
end
