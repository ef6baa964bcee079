theorem kw_986 : Cond.methodLink RX8 22 Lib.Math.min.name ∈ zg := zg_of (List.mem_of_getElem? (i := 986) (by decide +kernel)) (by decide +kernel)
theorem kw_968 : Cond.fieldLink RX8 28 "HalfAJoke$Seating" "guests" "I" ∈ zg := zg_of (List.mem_of_getElem? (i := 968) (by decide +kernel)) (by decide +kernel)
theorem iz_X8 : ∀ w ∈ u_ws RX8 TX8 5, w ∈ zg := by decide +kernel
theorem ff_X8_28_71 : zFc RX8 28 71 3 none := ⟨_, _, _, tyX8, sh_71, rfl, by decide, iz_X8, kw_968, rfl, tyX8_ok, nmX8⟩
theorem fw_71_3 : ∀ q : vw_C, ∀ ci fl, zsh 71 = .inr (ci, fl) → zcl[ci]? = some q → (q.2.1 3).2.2.2 = false ∧ (q.2.1 3).2.2.1 = "I" := zfin sh_71 rfl ⟨rfl, rfl⟩
theorem kw_969 : Cond.fieldLink RX8 32 "HalfAJoke$Seating" "merry" "I" ∈ zg := zg_of (List.mem_of_getElem? (i := 969) (by decide +kernel)) (by decide +kernel)
theorem ff_X8_32_71 : zFc RX8 32 71 4 none := ⟨_, _, _, tyX8, sh_71, rfl, by decide, iz_X8, kw_969, rfl, tyX8_ok, nmX8⟩
theorem fw_71_4 : ∀ q : vw_C, ∀ ci fl, zsh 71 = .inr (ci, fl) → zcl[ci]? = some q → (q.2.1 4).2.2.2 = false ∧ (q.2.1 4).2.2.1 = "I" := zfin sh_71 rfl ⟨rfl, rfl⟩
theorem kw_965 : Cond.fieldLink RX8 11 "HalfAJoke$Seating" "tried" "[I" ∈ zg := zg_of (List.mem_of_getElem? (i := 965) (by decide +kernel)) (by decide +kernel)
theorem ff_X8_11_71 : zFc RX8 11 71 1 (some (72, false)) := ⟨_, _, _, tyX8, sh_71, rfl, by decide, iz_X8, kw_965, rfl, tyX8_ok, nmX8⟩
theorem kw_964 : Cond.fieldLink RX8 18 "HalfAJoke$Seating" "evening" "LHalfAJoke$Evening;" ∈ zg := zg_of (List.mem_of_getElem? (i := 964) (by decide +kernel)) (by decide +kernel)
theorem ff_X8_18_71 : zFc RX8 18 71 0 (some (38, false)) := ⟨_, _, _, tyX8, sh_71, rfl, by decide, iz_X8, kw_964, rfl, tyX8_ok, nmX8⟩
theorem kw_987 : Cond.methodLink RX8 35 yX1_begin ∈ zg := zg_of (List.mem_of_getElem? (i := 987) (by decide +kernel)) (by decide +kernel)
theorem mv_X8_35 : zMV RX8 35 yX1_begin cX1_begin 2 none 0 := ⟨⟨kw_987, kw_771, kw_772, kw_92, kw_773⟩, ⟨by decide, by decide, by decide +kernel⟩, by decide⟩
theorem kw_102 : Cond.initialized RX8 ∈ zg := zg_of (List.mem_of_getElem? (i := 102) (by decide +kernel)) (by decide +kernel)
theorem kw_991 : Cond.code yX8_place cX8_place 6 none ∈ zg := zg_of (List.mem_of_getElem? (i := 991) (by decide +kernel)) (by decide +kernel)
theorem kw_988 : Cond.methodLink RX8 40 yX8_place ∈ zg := zg_of (List.mem_of_getElem? (i := 988) (by decide +kernel)) (by decide +kernel)
theorem kw_990 : Cond.instanceMethod yX8_place ∈ zg := zg_of (List.mem_of_getElem? (i := 990) (by decide +kernel)) (by decide +kernel)
theorem kw_24 : Cond.selects RX8 yX8_place yX8_place ∈ zg := zg_of (List.mem_of_getElem? (i := 24) (by decide +kernel)) (by decide +kernel)
theorem mv_X8_40 : zMV RX8 40 yX8_place cX8_place 6 none 3 := ⟨⟨kw_988, kw_990, kw_24, kw_102, kw_991⟩, ⟨by decide, by decide, by decide +kernel⟩, by decide⟩
theorem mn_X8_54 : zMN RX8 54 yX11_isIn cX11_isIn 2 (some .boolean) 2 := ⟨⟨(by decide +kernel), kw_498, kw_84, kw_499⟩, ⟨by decide, by decide, by decide +kernel⟩, by decide⟩
theorem kw_992 : Cond.methodLink RX8 44 yX1_tellBetween ∈ zg := zg_of (List.mem_of_getElem? (i := 992) (by decide +kernel)) (by decide +kernel)
theorem mv_X8_44 : zMV RX8 44 yX1_tellBetween cX1_tellBetween 4 (some .int) 2 := ⟨⟨kw_992, kw_883, kw_884, kw_92, kw_885⟩, ⟨by decide, by decide, by decide +kernel⟩, by decide⟩
theorem kw_996 : Cond.code yX8_takeBack cX8_takeBack 2 none ∈ zg := zg_of (List.mem_of_getElem? (i := 996) (by decide +kernel)) (by decide +kernel)
theorem kw_993 : Cond.methodLink RX8 47 yX8_takeBack ∈ zg := zg_of (List.mem_of_getElem? (i := 993) (by decide +kernel)) (by decide +kernel)
theorem kw_995 : Cond.instanceMethod yX8_takeBack ∈ zg := zg_of (List.mem_of_getElem? (i := 995) (by decide +kernel)) (by decide +kernel)
theorem kw_25 : Cond.selects RX8 yX8_takeBack yX8_takeBack ∈ zg := zg_of (List.mem_of_getElem? (i := 25) (by decide +kernel)) (by decide +kernel)
theorem mv_X8_47 : zMV RX8 47 yX8_takeBack cX8_takeBack 2 none 1 := ⟨⟨kw_993, kw_995, kw_25, kw_102, kw_996⟩, ⟨by decide, by decide, by decide +kernel⟩, by decide⟩
theorem kw_997 : Cond.methodLink RX8 58 yX1_untell ∈ zg := zg_of (List.mem_of_getElem? (i := 997) (by decide +kernel)) (by decide +kernel)
theorem mv_X8_58 : zMV RX8 58 yX1_untell cX1_untell 2 none 0 := ⟨⟨kw_997, kw_887, kw_888, kw_92, kw_889⟩, ⟨by decide, by decide, by decide +kernel⟩, by decide⟩
theorem kw_1001 : Cond.code yX8_keepBest cX8_keepBest 2 none ∈ zg := zg_of (List.mem_of_getElem? (i := 1001) (by decide +kernel)) (by decide +kernel)
theorem kw_998 : Cond.methodLink RX8 51 yX8_keepBest ∈ zg := zg_of (List.mem_of_getElem? (i := 998) (by decide +kernel)) (by decide +kernel)
theorem kw_1000 : Cond.instanceMethod yX8_keepBest ∈ zg := zg_of (List.mem_of_getElem? (i := 1000) (by decide +kernel)) (by decide +kernel)
theorem kw_26 : Cond.selects RX8 yX8_keepBest yX8_keepBest ∈ zg := zg_of (List.mem_of_getElem? (i := 26) (by decide +kernel)) (by decide +kernel)
theorem mv_X8_51 : zMV RX8 51 yX8_keepBest cX8_keepBest 2 none 1 := ⟨⟨kw_998, kw_1000, kw_26, kw_102, kw_1001⟩, ⟨by decide, by decide, by decide +kernel⟩, by decide⟩
theorem kw_966 : Cond.fieldLink RX8 15 "HalfAJoke$Seating" "best" "[I" ∈ zg := zg_of (List.mem_of_getElem? (i := 966) (by decide +kernel)) (by decide +kernel)
theorem ff_X8_15_71 : zFc RX8 15 71 2 (some (73, false)) := ⟨_, _, _, tyX8, sh_71, rfl, by decide, iz_X8, kw_966, rfl, tyX8_ok, nmX8⟩
theorem kw_1002 : Cond.methodLink RX8 61 arraycopyName ∈ zg := zg_of (List.mem_of_getElem? (i := 1002) (by decide +kernel)) (by decide +kernel)
theorem kw_1168 : Cond.fieldLink RX12 317 "HalfAJokeModel" "bestMerry" "I" ∈ zg := zg_of (List.mem_of_getElem? (i := 1168) (by decide +kernel)) (by decide +kernel)
theorem ff_X12_317_100 : zFc RX12 317 100 35 none := ⟨_, _, _, tyX12, sh_100, rfl, by decide, iz_X12, kw_1168, rfl, tyX12_ok, nmX12⟩
theorem fw_100_35 : ∀ q : vw_C, ∀ ci fl, zsh 100 = .inr (ci, fl) → zcl[ci]? = some q → (q.2.1 35).2.2.2 = false ∧ (q.2.1 35).2.2.1 = "I" := zfin sh_100 rfl ⟨rfl, rfl⟩
theorem kw_1559 : Cond.code yX12_seatsAll cX12_seatsAll 5 none ∈ zg := zg_of (List.mem_of_getElem? (i := 1559) (by decide +kernel)) (by decide +kernel)
theorem kw_1556 : Cond.methodLink RX12 320 yX12_seatsAll ∈ zg := zg_of (List.mem_of_getElem? (i := 1556) (by decide +kernel)) (by decide +kernel)
theorem kw_1558 : Cond.instanceMethod yX12_seatsAll ∈ zg := zg_of (List.mem_of_getElem? (i := 1558) (by decide +kernel)) (by decide +kernel)
theorem kw_75 : Cond.selects RX12 yX12_seatsAll yX12_seatsAll ∈ zg := zg_of (List.mem_of_getElem? (i := 75) (by decide +kernel)) (by decide +kernel)
theorem mv_X12_320 : zMV RX12 320 yX12_seatsAll cX12_seatsAll 5 none 2 := ⟨⟨kw_1556, kw_1558, kw_75, kw_93, kw_1559⟩, ⟨by decide, by decide, by decide +kernel⟩, by decide⟩
theorem kw_1167 : Cond.fieldLink RX12 56 "HalfAJokeModel" "bestRow" "[I" ∈ zg := zg_of (List.mem_of_getElem? (i := 1167) (by decide +kernel)) (by decide +kernel)
theorem ff_X12_56_100 : zFc RX12 56 100 34 (some (115, false)) := ⟨_, _, _, tyX12, sh_100, rfl, by decide, iz_X12, kw_1167, rfl, tyX12_ok, nmX12⟩
theorem kw_1138 : Cond.fieldLink RX12 347 "HalfAJokeModel" "hasImage" "Z" ∈ zg := zg_of (List.mem_of_getElem? (i := 1138) (by decide +kernel)) (by decide +kernel)
theorem ff_X12_347_100 : zFc RX12 347 100 5 none := ⟨_, _, _, tyX12, sh_100, rfl, by decide, iz_X12, kw_1138, rfl, tyX12_ok, nmX12⟩
theorem fz_100_5 : ∀ q : vw_C, ∀ ci fl, zsh 100 = .inr (ci, fl) → zcl[ci]? = some q → (q.2.1 5).2.2.2 = false ∧ (q.2.1 5).2.2.1 = "Z" := zfinZ sh_100 rfl ⟨rfl, rfl⟩
theorem kw_1134 : Cond.fieldLink RX12 13 "HalfAJokeModel" "kept" "[I" ∈ zg := zg_of (List.mem_of_getElem? (i := 1134) (by decide +kernel)) (by decide +kernel)
theorem ff_X12_13_100 : zFc RX12 13 100 1 (some (102, false)) := ⟨_, _, _, tyX12, sh_100, rfl, by decide, iz_X12, kw_1134, rfl, tyX12_ok, nmX12⟩
section
theorem dX8_takeBack_0 : decode cX8_takeBack 0 = .ok (.iload_n 1, 1) := by decide +kernel
theorem dX8_takeBack_1 : decode cX8_takeBack 1 = .ok (.ifCond .le 10, 3) := by decide +kernel
theorem dX8_takeBack_4 : decode cX8_takeBack 4 = .ok (.aload_n 0, 1) := by decide +kernel
theorem dX8_takeBack_5 : decode cX8_takeBack 5 = .ok (.getfield 18, 3) := by decide +kernel
theorem dX8_takeBack_8 : decode cX8_takeBack 8 = .ok (.invokevirtual 58, 3) := by decide +kernel
theorem dX8_takeBack_11 : decode cX8_takeBack 11 = .ok (.return_, 1) := by decide +kernel
abbrev nd_X8_takeBack : List Nat := [38, 39, 40, 42, 43, 71]
abbrev ld_X8_takeBack : List (Nat × Nat) := [(38, 1), (38, 2), (38, 4), (38, 5), (71, 0)]
theorem sn_X8_takeBack_X1_untell : ∀ c ∈ nd_X1_untell, c ∈ nd_X8_takeBack := by decide
theorem sl_X8_takeBack_X1_untell : ∀ q ∈ ld_X1_untell, q ∈ ld_X8_takeBack := by decide
def f_X8_takeBack  (x1 : Int32) (h : zH) : zR := (if x1 ≤ 0 then (some (0, h)) else (zbd (f_X1_untell  h) fun r1 h2 => (some (0, h2))))
variable {p : Program} {l : Launch} {e : Env} {s : State} {m : MethodId} {args : Array Value} {below : List Frame} {meth : Method} {c : Code} {G : zG} {q : Int32 × zH}
set_option maxHeartbeats 4000000 in
set_option maxRecDepth 100000 in
theorem c_X8_takeBack (l : Launch) (G : zG) (h : zH) (x1 : Int32) (q : Int32 × zH) (hm : ∀ c ∈ nd_X8_takeBack, c ∈ znm G) (hk : ∀ q ∈ ld_X8_takeBack, zlk G q.1 q.2 = true) (hf : f_X8_takeBack x1 h = some q) : zCtV l yX8_takeBack cX8_takeBack 2 none (3) [.ref (zal G 71), .int x1] G h q.2 := by
  refine zMetV (by decide) (Nat.le_of_ble_eq_true rfl) ?_
  intro p e s m below meth c ls C hl hS
  have hl : lv_has ls 2 [(0, .ref (zal G 71)), (1, .int x1)] := hl
  have C : zC G p s m [.ref (zal G 71), .int x1].toArray meth c cX8_takeBack 2 RX8 none := C
  unfold f_X8_takeBack at hf
  refine lv_iload_n C.1 C.2.1 dX8_takeBack_0 rfl (lv_at hl 1 rfl) ?_
  refine lv_if_le (tgt := 11) C.1 C.2.1 dX8_takeBack_1 (by decide) (fun hc => ?_) (fun hc => ?_)
  · have hf := zif_t hc hf
    exact zretV C hS hf dX8_takeBack_11
  · have hf := zif_f hc hf
    refine lv_aload_n C.1 C.2.1 dX8_takeBack_4 rfl (lv_at hl 0 rfl) ?_
    refine zgetR C hS ff_X8_18_71 (hm 71 (by decide)) (hk (71, 0) (by decide)) dX8_takeBack_5 ?_
    obtain ⟨r1, h2, er1, hf⟩ := zbd_some hf
    refine zcallVV (As := []) (rest := []) C hS mv_X8_58 (c_X1_untell l G h  (r1, h2) (fun c h => hm c (sn_X8_takeBack_X1_untell c h)) (fun q h => hk q (sl_X8_takeBack_X1_untell q h)) er1) (hm 38 (by decide)) ⟨_, _, _, sh_38, rfl, rfl⟩ rfl rfl (Nat.le_of_ble_eq_true rfl) hl.1 ⟨Nat.le_of_ble_eq_true rfl, Nat.le_of_ble_eq_true rfl, Nat.le_of_ble_eq_true rfl, Nat.le_of_ble_eq_true rfl⟩ dX8_takeBack_8 (fun H locs hS => ?_)
    exact zretV C hS hf dX8_takeBack_11
end
section
theorem dX8_keepBest_0 : decode cX8_keepBest 0 = .ok (.iload_n 1, 1) := by decide +kernel
theorem dX8_keepBest_1 : decode cX8_keepBest 1 = .ok (.aload_n 0, 1) := by decide +kernel
theorem dX8_keepBest_2 : decode cX8_keepBest 2 = .ok (.getfield 32, 3) := by decide +kernel
theorem dX8_keepBest_5 : decode cX8_keepBest 5 = .ok (.if_icmp .le 25, 3) := by decide +kernel
theorem dX8_keepBest_8 : decode cX8_keepBest 8 = .ok (.aload_n 0, 1) := by decide +kernel
theorem dX8_keepBest_9 : decode cX8_keepBest 9 = .ok (.iload_n 1, 1) := by decide +kernel
theorem dX8_keepBest_10 : decode cX8_keepBest 10 = .ok (.putfield 32, 3) := by decide +kernel
theorem dX8_keepBest_13 : decode cX8_keepBest 13 = .ok (.aload_n 0, 1) := by decide +kernel
theorem dX8_keepBest_14 : decode cX8_keepBest 14 = .ok (.getfield 11, 3) := by decide +kernel
theorem dX8_keepBest_17 : decode cX8_keepBest 17 = .ok (.iconst 0, 1) := by decide +kernel
theorem dX8_keepBest_18 : decode cX8_keepBest 18 = .ok (.aload_n 0, 1) := by decide +kernel
theorem dX8_keepBest_19 : decode cX8_keepBest 19 = .ok (.getfield 15, 3) := by decide +kernel
theorem dX8_keepBest_22 : decode cX8_keepBest 22 = .ok (.iconst 0, 1) := by decide +kernel
theorem dX8_keepBest_23 : decode cX8_keepBest 23 = .ok (.aload_n 0, 1) := by decide +kernel
theorem dX8_keepBest_24 : decode cX8_keepBest 24 = .ok (.getfield 28, 3) := by decide +kernel
theorem dX8_keepBest_27 : decode cX8_keepBest 27 = .ok (.invokestatic 61, 3) := by decide +kernel
theorem dX8_keepBest_30 : decode cX8_keepBest 30 = .ok (.return_, 1) := by decide +kernel
abbrev nd_X8_keepBest : List Nat := [71, 72, 73]
abbrev ld_X8_keepBest : List (Nat × Nat) := [(71, 1), (71, 2)]
def f_X8_keepBest  (x1 : Int32) (h : zH) : zR := (if x1 ≤ (h 71 4) then (some (0, h)) else (zst (zup h 71 4 x1) fun h1 => (zcc 7 7 (0 : Int32) (0 : Int32) (h1 71 3) (zst (zcp h1 72 73 (0 : Int32) (0 : Int32) (h1 71 3)) fun h2 => (some (0, h2))))))
variable {p : Program} {l : Launch} {e : Env} {s : State} {m : MethodId} {args : Array Value} {below : List Frame} {meth : Method} {c : Code} {G : zG} {q : Int32 × zH}
set_option maxHeartbeats 4000000 in
set_option maxRecDepth 100000 in
theorem c_X8_keepBest (l : Launch) (G : zG) (h : zH) (x1 : Int32) (q : Int32 × zH) (hm : ∀ c ∈ nd_X8_keepBest, c ∈ znm G) (hk : ∀ q ∈ ld_X8_keepBest, zlk G q.1 q.2 = true) (hf : f_X8_keepBest x1 h = some q) : zCtV l yX8_keepBest cX8_keepBest 2 none (2) [.ref (zal G 71), .int x1] G h q.2 := by
  refine zMetV (by decide) (Nat.le_of_ble_eq_true rfl) ?_
  intro p e s m below meth c ls C hl hS
  have hl : lv_has ls 2 [(0, .ref (zal G 71)), (1, .int x1)] := hl
  have C : zC G p s m [.ref (zal G 71), .int x1].toArray meth c cX8_keepBest 2 RX8 none := C
  unfold f_X8_keepBest at hf
  refine lv_iload_n C.1 C.2.1 dX8_keepBest_0 rfl (lv_at hl 1 rfl) ?_
  refine lv_aload_n C.1 C.2.1 dX8_keepBest_1 rfl (lv_at hl 0 rfl) ?_
  refine zgetI C hS ff_X8_32_71 (hm 71 (by decide)) dX8_keepBest_2 ?_
  refine lv_icmp_le (tgt := 30) C.1 C.2.1 dX8_keepBest_5 (by decide) (fun hc => ?_) (fun hc => ?_)
  · have hf := zif_t hc hf
    exact zretV C hS hf dX8_keepBest_30
  · have hf := zif_f hc hf
    refine lv_aload_n C.1 C.2.1 dX8_keepBest_8 rfl (lv_at hl 0 rfl) ?_
    refine lv_iload_n C.1 C.2.1 dX8_keepBest_9 rfl (lv_at hl 1 rfl) ?_
    refine zputI C hS ff_X8_32_71 fw_71_4 (hm 71 (by decide)) dX8_keepBest_10 (fun H locs hS => ?_)
    obtain ⟨h1, eh1, hf⟩ := zst_some hf
    have hS : zS G h1 s.heap H locs := by rw [eh1]; exact hS
    refine lv_aload_n C.1 C.2.1 dX8_keepBest_13 rfl (lv_at hl 0 rfl) ?_
    refine zgetR C hS ff_X8_11_71 (hm 71 (by decide)) (hk (71, 1) (by decide)) dX8_keepBest_14 ?_
    refine lv_iconst (v := (0 : Int32)) C.1 C.2.1 dX8_keepBest_17 rfl ?_
    refine lv_aload_n C.1 C.2.1 dX8_keepBest_18 rfl (lv_at hl 0 rfl) ?_
    refine zgetR C hS ff_X8_15_71 (hm 71 (by decide)) (hk (71, 2) (by decide)) dX8_keepBest_19 ?_
    refine lv_iconst (v := (0 : Int32)) C.1 C.2.1 dX8_keepBest_22 rfl ?_
    refine lv_aload_n C.1 C.2.1 dX8_keepBest_23 rfl (lv_at hl 0 rfl) ?_
    refine zgetI C hS ff_X8_28_71 (hm 71 (by decide)) dX8_keepBest_24 ?_
    obtain ⟨hi, hf⟩ := zcc_some hf
    refine zacp C hS kw_1002 sh_72 sh_73 (hm 72 (by decide)) (hm 73 (by decide)) hi (Nat.le_of_ble_eq_true rfl) hl.1 ⟨Nat.le_of_ble_eq_true rfl, Nat.le_of_ble_eq_true rfl⟩ dX8_keepBest_27 (fun H locs hS => ?_)
    obtain ⟨h2, eh2, hf⟩ := zst_some hf
    have hS : zS G h2 s.heap H locs := by rw [eh2]; exact hS
    exact zretV C hS hf dX8_keepBest_30
end
section
theorem dX8_place_0 : decode cX8_place 0 = .ok (.iload_n 1, 1) := by decide +kernel
theorem dX8_place_1 : decode cX8_place 1 = .ok (.aload_n 0, 1) := by decide +kernel
theorem dX8_place_2 : decode cX8_place 2 = .ok (.getfield 28, 3) := by decide +kernel
theorem dX8_place_5 : decode cX8_place 5 = .ok (.if_icmp .lt 44, 3) := by decide +kernel
theorem dX8_place_8 : decode cX8_place 8 = .ok (.aload_n 0, 1) := by decide +kernel
theorem dX8_place_9 : decode cX8_place 9 = .ok (.getfield 18, 3) := by decide +kernel
theorem dX8_place_12 : decode cX8_place 12 = .ok (.aload_n 0, 1) := by decide +kernel
theorem dX8_place_13 : decode cX8_place 13 = .ok (.getfield 11, 3) := by decide +kernel
theorem dX8_place_16 : decode cX8_place 16 = .ok (.aload_n 0, 1) := by decide +kernel
theorem dX8_place_17 : decode cX8_place 17 = .ok (.getfield 28, 3) := by decide +kernel
theorem dX8_place_20 : decode cX8_place 20 = .ok (.iconst 1, 1) := by decide +kernel
theorem dX8_place_21 : decode cX8_place 21 = .ok (.isub, 1) := by decide +kernel
theorem dX8_place_22 : decode cX8_place 22 = .ok (.iaload, 1) := by decide +kernel
theorem dX8_place_23 : decode cX8_place 23 = .ok (.aload_n 0, 1) := by decide +kernel
theorem dX8_place_24 : decode cX8_place 24 = .ok (.getfield 11, 3) := by decide +kernel
theorem dX8_place_27 : decode cX8_place 27 = .ok (.iconst 0, 1) := by decide +kernel
theorem dX8_place_28 : decode cX8_place 28 = .ok (.iaload, 1) := by decide +kernel
theorem dX8_place_29 : decode cX8_place 29 = .ok (.invokevirtual 44, 3) := by decide +kernel
theorem dX8_place_32 : decode cX8_place 32 = .ok (.istore 4, 2) := by decide +kernel
theorem dX8_place_34 : decode cX8_place 34 = .ok (.aload_n 0, 1) := by decide +kernel
theorem dX8_place_35 : decode cX8_place 35 = .ok (.iload 4, 2) := by decide +kernel
theorem dX8_place_37 : decode cX8_place 37 = .ok (.invokevirtual 47, 3) := by decide +kernel
theorem dX8_place_40 : decode cX8_place 40 = .ok (.aload_n 0, 1) := by decide +kernel
theorem dX8_place_41 : decode cX8_place 41 = .ok (.iload_n 3, 1) := by decide +kernel
theorem dX8_place_42 : decode cX8_place 42 = .ok (.iload 4, 2) := by decide +kernel
theorem dX8_place_44 : decode cX8_place 44 = .ok (.iadd, 1) := by decide +kernel
theorem dX8_place_45 : decode cX8_place 45 = .ok (.invokevirtual 51, 3) := by decide +kernel
theorem dX8_place_48 : decode cX8_place 48 = .ok (.return_, 1) := by decide +kernel
theorem dX8_place_49 : decode cX8_place 49 = .ok (.iconst 1, 1) := by decide +kernel
theorem dX8_place_50 : decode cX8_place 50 = .ok (.istore 4, 2) := by decide +kernel
theorem dX8_place_52 : decode cX8_place 52 = .ok (.iload 4, 2) := by decide +kernel
theorem dX8_place_54 : decode cX8_place 54 = .ok (.aload_n 0, 1) := by decide +kernel
theorem dX8_place_55 : decode cX8_place 55 = .ok (.getfield 28, 3) := by decide +kernel
theorem dX8_place_58 : decode cX8_place 58 = .ok (.if_icmp .ge 68, 3) := by decide +kernel
theorem dX8_place_61 : decode cX8_place 61 = .ok (.iload 4, 2) := by decide +kernel
theorem dX8_place_63 : decode cX8_place 63 = .ok (.iload_n 2, 1) := by decide +kernel
theorem dX8_place_64 : decode cX8_place 64 = .ok (.invokestatic 54, 3) := by decide +kernel
theorem dX8_place_67 : decode cX8_place 67 = .ok (.ifCond .ne 53, 3) := by decide +kernel
theorem dX8_place_70 : decode cX8_place 70 = .ok (.aload_n 0, 1) := by decide +kernel
theorem dX8_place_71 : decode cX8_place 71 = .ok (.getfield 11, 3) := by decide +kernel
theorem dX8_place_74 : decode cX8_place 74 = .ok (.iload_n 1, 1) := by decide +kernel
theorem dX8_place_75 : decode cX8_place 75 = .ok (.iload 4, 2) := by decide +kernel
theorem dX8_place_77 : decode cX8_place 77 = .ok (.iastore, 1) := by decide +kernel
theorem dX8_place_78 : decode cX8_place 78 = .ok (.aload_n 0, 1) := by decide +kernel
theorem dX8_place_79 : decode cX8_place 79 = .ok (.getfield 18, 3) := by decide +kernel
theorem dX8_place_82 : decode cX8_place 82 = .ok (.aload_n 0, 1) := by decide +kernel
theorem dX8_place_83 : decode cX8_place 83 = .ok (.getfield 11, 3) := by decide +kernel
theorem dX8_place_86 : decode cX8_place 86 = .ok (.iload_n 1, 1) := by decide +kernel
theorem dX8_place_87 : decode cX8_place 87 = .ok (.iconst 1, 1) := by decide +kernel
theorem dX8_place_88 : decode cX8_place 88 = .ok (.isub, 1) := by decide +kernel
theorem dX8_place_89 : decode cX8_place 89 = .ok (.iaload, 1) := by decide +kernel
theorem dX8_place_90 : decode cX8_place 90 = .ok (.iload 4, 2) := by decide +kernel
theorem dX8_place_92 : decode cX8_place 92 = .ok (.invokevirtual 44, 3) := by decide +kernel
theorem dX8_place_95 : decode cX8_place 95 = .ok (.istore 5, 2) := by decide +kernel
theorem dX8_place_97 : decode cX8_place 97 = .ok (.aload_n 0, 1) := by decide +kernel
theorem dX8_place_98 : decode cX8_place 98 = .ok (.iload_n 1, 1) := by decide +kernel
theorem dX8_place_99 : decode cX8_place 99 = .ok (.iconst 1, 1) := by decide +kernel
theorem dX8_place_100 : decode cX8_place 100 = .ok (.iadd, 1) := by decide +kernel
theorem dX8_place_101 : decode cX8_place 101 = .ok (.iload_n 2, 1) := by decide +kernel
theorem dX8_place_102 : decode cX8_place 102 = .ok (.iconst 1, 1) := by decide +kernel
theorem dX8_place_103 : decode cX8_place 103 = .ok (.iload 4, 2) := by decide +kernel
theorem dX8_place_105 : decode cX8_place 105 = .ok (.ishl, 1) := by decide +kernel
theorem dX8_place_106 : decode cX8_place 106 = .ok (.ior, 1) := by decide +kernel
theorem dX8_place_107 : decode cX8_place 107 = .ok (.iload_n 3, 1) := by decide +kernel
theorem dX8_place_108 : decode cX8_place 108 = .ok (.iload 5, 2) := by decide +kernel
theorem dX8_place_110 : decode cX8_place 110 = .ok (.iadd, 1) := by decide +kernel
theorem dX8_place_111 : decode cX8_place 111 = .ok (.invokevirtual 40, 3) := by decide +kernel
theorem dX8_place_114 : decode cX8_place 114 = .ok (.aload_n 0, 1) := by decide +kernel
theorem dX8_place_115 : decode cX8_place 115 = .ok (.iload 5, 2) := by decide +kernel
theorem dX8_place_117 : decode cX8_place 117 = .ok (.invokevirtual 47, 3) := by decide +kernel
theorem dX8_place_120 : decode cX8_place 120 = .ok (.iinc 4 1, 3) := by decide +kernel
theorem dX8_place_123 : decode cX8_place 123 = .ok (.goto (-71), 3) := by decide +kernel
theorem dX8_place_126 : decode cX8_place 126 = .ok (.return_, 1) := by decide +kernel
abbrev nd_X8_place_b : List Nat := [1, 2, 4, 5, 7, 8, 11, 12, 13, 16, 17, 18, 19, 20, 21, 38, 39, 40, 41, 42, 43, 71, 72, 73]
abbrev ld_X8_place_b : List (Nat × Nat) := [(1, 0), (1, 1), (1, 2), (1, 3), (1, 4), (1, 5), (2, 1), (2, 2), (7, 0), (11, 0), (11, 1), (16, 0), (16, 1), (16, 2), (38, 0), (38, 1), (38, 2), (38, 3), (38, 4), (38, 5), (71, 0), (71, 1), (71, 2)]
theorem sn_X8_place_b_X11_isIn : ∀ c ∈ nd_X11_isIn, c ∈ nd_X8_place_b := by decide
theorem sl_X8_place_b_X11_isIn : ∀ q ∈ ld_X11_isIn, q ∈ ld_X8_place_b := by decide
theorem sn_X8_place_b_X1_tellBetween : ∀ c ∈ nd_X1_tellBetween, c ∈ nd_X8_place_b := by decide
theorem sl_X8_place_b_X1_tellBetween : ∀ q ∈ ld_X1_tellBetween, q ∈ ld_X8_place_b := by decide
theorem sn_X8_place_b_X8_takeBack : ∀ c ∈ nd_X8_takeBack, c ∈ nd_X8_place_b := by decide
theorem sl_X8_place_b_X8_takeBack : ∀ q ∈ ld_X8_takeBack, q ∈ ld_X8_place_b := by decide
theorem sn_X8_place_b_X8_keepBest : ∀ c ∈ nd_X8_keepBest, c ∈ nd_X8_place_b := by decide
theorem sl_X8_place_b_X8_keepBest : ∀ q ∈ ld_X8_keepBest, q ∈ ld_X8_place_b := by decide
def f_X8_place_b_120 (F : Int32 → Int32 → Int32 → zH → zR) (k52 : Int32 → Int32 → Int32 → Int32 → zH → zR) (x1 : Int32) (x2 : Int32) (x3 : Int32) (x4 : Int32) (h : zH) : zR := (zlt (x4 + (1 : Int32)) fun y3 => (k52 x1 x2 x3 y3 h))
def f_X8_place_b_52 (F : Int32 → Int32 → Int32 → zH → zR)  : Nat → Int32 → Int32 → Int32 → Int32 → zH → zR
  | 0 => fun _ _ _ _ _ => none
  | n + 1 => fun x1 x2 x3 x4 h => (if (h 71 3) ≤ x4 then (some (0, h)) else (zbd (f_X11_isIn x4 x2 h) fun r1 h2 => (if r1 = 0 then (zck x1 7 (zst (zup h2 72 (Int32.toNatClampNeg x1) x4) fun h4 => (zck (x1 - (1 : Int32)) 7 (zbd (f_X1_tellBetween (h4 72 (Int32.toNatClampNeg (x1 - (1 : Int32)))) x4 h4) fun r5 h6 => (zbd (F (x1 + (1 : Int32)) (x2 ||| ((1 : Int32) <<< (x4 &&& 31))) (x3 + r5) h6) fun r7 h8 => (zbd (f_X8_takeBack r5 h8) fun r9 h10 => (f_X8_place_b_120 F (f_X8_place_b_52 F  n) x1 x2 x3 x4 h10))))))) else (f_X8_place_b_120 F (f_X8_place_b_52 F  n) x1 x2 x3 x4 h2))))
def f_X8_place_b (F : Int32 → Int32 → Int32 → zH → zR)  (x1 : Int32) (x2 : Int32) (x3 : Int32) (h : zH) : zR := (if x1 < (h 71 3) then (f_X8_place_b_52 F  zN x1 x2 x3 (1 : Int32) h) else (zck ((h 71 3) - (1 : Int32)) 7 (zbd (f_X1_tellBetween (h 72 (Int32.toNatClampNeg ((h 71 3) - (1 : Int32)))) (h 72 0) h) fun r11 h12 => (zbd (f_X8_takeBack r11 h12) fun r13 h14 => (zbd (f_X8_keepBest (x3 + r11) h14) fun r15 h16 => (some (0, h16)))))))
variable {p : Program} {l : Launch} {e : Env} {s : State} {m : MethodId} {args : Array Value} {below : List Frame} {meth : Method} {c : Code} {G : zG} {q : Int32 × zH}
set_option maxHeartbeats 4000000 in
set_option maxRecDepth 100000 in
theorem w_X8_place_b_120 {F : Int32 → Int32 → Int32 → zH → zR} {nq : Nat} {k52 : Int32 → Int32 → Int32 → Int32 → zH → zR} (C : zC G p s m args meth c cX8_place 6 RX8 none) (hm : ∀ c ∈ nd_X8_place_b, c ∈ znm G) (hk : ∀ q ∈ ld_X8_place_b, zlk G q.1 q.2 = true) (hn : 6 ≤ nq) (hF : ∀ (h : zH) (x1 : Int32) (x2 : Int32) (x3 : Int32) (q : Int32 × zH), F x1 x2 x3 h = some q → zCtV l yX8_place cX8_place 6 none nq [.ref (zal G 71), .int x1, .int x2, .int x3] G h q.2) (hk52 : ∀ (ls : Array Slot) (H : Heap) (locs : List Loc) (h : zH) (x1 : Int32) (x2 : Int32) (x3 : Int32) (x4 : Int32), lv_has ls 6 [(0, .ref (zal G 71)), (1, .int x1), (2, .int x2), (3, .int x3), (4, .int x4)] → zS G h s.heap H locs → k52 x1 x2 x3 x4 h = some q → W p l e (zrm (nq + 1)) s m args below meth c H locs 0 0 (MQ below (zQV G q.2) args s 0 0 (zA G)) (F0 m 52 ls [])) : ∀ (ls : Array Slot) (H : Heap) (locs : List Loc) (h : zH) (x1 : Int32) (x2 : Int32) (x3 : Int32) (x4 : Int32), lv_has ls 6 [(0, .ref (zal G 71)), (1, .int x1), (2, .int x2), (3, .int x3), (4, .int x4)] → zS G h s.heap H locs → f_X8_place_b_120 F k52 x1 x2 x3 x4 h = some q → W p l e (zrm (nq + 1)) s m args below meth c H locs 0 0 (MQ below (zQV G q.2) args s 0 0 (zA G)) (F0 m 120 ls []) := by
  intro ls H locs h x1 x2 x3 x4 hl hS hf
  unfold f_X8_place_b_120 at hf
  obtain ⟨y3, ey3, hf⟩ := zlt_some hf
  refine lv_iinc (v := y3) (lv' := [(4, .int y3), (0, .ref (zal G 71)), (1, .int x1), (2, .int x2), (3, .int x3)]) C.1 C.2.1 dX8_place_120 hl (k := 4) rfl ey3.symm (by decide) rfl (fun ls hl => ?_)
  refine lv_goto (tgt := 52) C.1 C.2.1 dX8_place_123 (by decide) ?_
  exact hk52 _ _ _ _ _ _ _ _ (lv_sub hl [1, 2, 3, 4, 0] rfl) hS hf
set_option maxHeartbeats 4000000 in
set_option maxRecDepth 100000 in
theorem w_X8_place_b_52 {F : Int32 → Int32 → Int32 → zH → zR} {nq : Nat}  (C : zC G p s m args meth c cX8_place 6 RX8 none) (hm : ∀ c ∈ nd_X8_place_b, c ∈ znm G) (hk : ∀ q ∈ ld_X8_place_b, zlk G q.1 q.2 = true) (hn : 6 ≤ nq) (hF : ∀ (h : zH) (x1 : Int32) (x2 : Int32) (x3 : Int32) (q : Int32 × zH), F x1 x2 x3 h = some q → zCtV l yX8_place cX8_place 6 none nq [.ref (zal G 71), .int x1, .int x2, .int x3] G h q.2)  : ∀ n, ∀ (ls : Array Slot) (H : Heap) (locs : List Loc) (h : zH) (x1 : Int32) (x2 : Int32) (x3 : Int32) (x4 : Int32), lv_has ls 6 [(0, .ref (zal G 71)), (1, .int x1), (2, .int x2), (3, .int x3), (4, .int x4)] → zS G h s.heap H locs → f_X8_place_b_52 F  n x1 x2 x3 x4 h = some q → W p l e (zrm (nq + 1)) s m args below meth c H locs 0 0 (MQ below (zQV G q.2) args s 0 0 (zA G)) (F0 m 52 ls []) := by
  intro n
  induction n with
  | zero => intro ls H locs h x1 x2 x3 x4 hl hS hf; cases hf
  | succ n ih =>
    intro ls H locs h x1 x2 x3 x4 hl hS hf
    rw [f_X8_place_b_52] at hf
    refine lv_iload C.1 C.2.1 dX8_place_52 (lv_at hl 4 rfl) ?_
    refine lv_aload_n C.1 C.2.1 dX8_place_54 rfl (lv_at hl 0 rfl) ?_
    refine zgetI C hS ff_X8_28_71 (hm 71 (by decide)) dX8_place_55 ?_
    refine lv_icmp_ge (tgt := 126) C.1 C.2.1 dX8_place_58 (by decide) (fun hc => ?_) (fun hc => ?_)
    · have hf := zif_t hc hf
      exact zretV C hS hf dX8_place_126
    · have hf := zif_f hc hf
      refine lv_iload C.1 C.2.1 dX8_place_61 (lv_at hl 4 rfl) ?_
      refine lv_iload_n C.1 C.2.1 dX8_place_63 rfl (lv_at hl 2 rfl) ?_
      obtain ⟨r1, h2, er1, hf⟩ := zbd_some hf
      refine zcallNI (As := [.int x4, .int x2]) (rest := []) C hS mn_X8_54 (c_X11_isIn l G h x4 x2 (r1, h2) (fun c h => hm c (sn_X8_place_b_X11_isIn c h)) (fun q h => hk q (sl_X8_place_b_X11_isIn q h)) er1) rfl rfl (Nat.le_of_ble_eq_true rfl) hl.1 ⟨by show 2 + 1 ≤ nq + 1; omega, by show 60 + 60 * (2) ≤ 60 * (nq + 1); omega, Nat.le_of_ble_eq_true rfl, Nat.le_of_ble_eq_true rfl⟩ dX8_place_64 (fun H locs hS => ?_)
      refine lv_if_ne (tgt := 120) C.1 C.2.1 dX8_place_67 (by decide) (fun hc => ?_) (fun hc => ?_)
      · have hf := zif_f hc hf
        exact w_X8_place_b_120 C hm hk hn hF ih _ _ _ _ _ _ _ _ (lv_sub hl [0, 1, 2, 3, 4] rfl) hS hf
      · have hf := zif_t hc hf
        refine lv_aload_n C.1 C.2.1 dX8_place_70 rfl (lv_at hl 0 rfl) ?_
        refine zgetR C hS ff_X8_11_71 (hm 71 (by decide)) (hk (71, 1) (by decide)) dX8_place_71 ?_
        refine lv_iload_n C.1 C.2.1 dX8_place_74 rfl (lv_at hl 1 rfl) ?_
        refine lv_iload C.1 C.2.1 dX8_place_75 (lv_at hl 4 rfl) ?_
        obtain ⟨hi, hf⟩ := zck_some hf
        refine zast C hS sh_72 (hm 72 (by decide)) hi dX8_place_77 (fun H locs hS => ?_)
        obtain ⟨h4, eh4, hf⟩ := zst_some hf
        have hS : zS G h4 s.heap H locs := by rw [eh4]; exact hS
        refine lv_aload_n C.1 C.2.1 dX8_place_78 rfl (lv_at hl 0 rfl) ?_
        refine zgetR C hS ff_X8_18_71 (hm 71 (by decide)) (hk (71, 0) (by decide)) dX8_place_79 ?_
        refine lv_aload_n C.1 C.2.1 dX8_place_82 rfl (lv_at hl 0 rfl) ?_
        refine zgetR C hS ff_X8_11_71 (hm 71 (by decide)) (hk (71, 1) (by decide)) dX8_place_83 ?_
        refine lv_iload_n C.1 C.2.1 dX8_place_86 rfl (lv_at hl 1 rfl) ?_
        refine lv_iconst (v := (1 : Int32)) C.1 C.2.1 dX8_place_87 rfl ?_
        refine lv_isub C.1 C.2.1 dX8_place_88 ?_
        obtain ⟨hi, hf⟩ := zck_some hf
        refine zald C hS sh_72 (hm 72 (by decide)) hi dX8_place_89 ?_
        refine lv_iload C.1 C.2.1 dX8_place_90 (lv_at hl 4 rfl) ?_
        obtain ⟨r5, h6, er5, hf⟩ := zbd_some hf
        refine zcallVI (As := [.int (h4 72 (Int32.toNatClampNeg (x1 - (1 : Int32)))), .int x4]) (rest := []) C hS mv_X8_44 (c_X1_tellBetween l G h4 (h4 72 (Int32.toNatClampNeg (x1 - (1 : Int32)))) x4 (r5, h6) (fun c h => hm c (sn_X8_place_b_X1_tellBetween c h)) (fun q h => hk q (sl_X8_place_b_X1_tellBetween q h)) er5) (hm 38 (by decide)) ⟨_, _, _, sh_38, rfl, rfl⟩ rfl rfl (Nat.le_of_ble_eq_true rfl) hl.1 ⟨by show 6 + 1 ≤ nq + 1; omega, by show 60 + 60 * (6) ≤ 60 * (nq + 1); omega, Nat.le_of_ble_eq_true rfl, Nat.le_of_ble_eq_true rfl⟩ dX8_place_92 (fun H locs hS => ?_)
        refine lv_istore (lv' := [(5, .int r5), (0, .ref (zal G 71)), (1, .int x1), (2, .int x2), (3, .int x3), (4, .int x4)]) C.1 C.2.1 dX8_place_95 hl (by decide) rfl (fun ls hl => ?_)
        refine lv_aload_n C.1 C.2.1 dX8_place_97 rfl (lv_at hl 1 rfl) ?_
        refine lv_iload_n C.1 C.2.1 dX8_place_98 rfl (lv_at hl 2 rfl) ?_
        refine lv_iconst (v := (1 : Int32)) C.1 C.2.1 dX8_place_99 rfl ?_
        refine lv_iadd C.1 C.2.1 dX8_place_100 ?_
        refine lv_iload_n C.1 C.2.1 dX8_place_101 rfl (lv_at hl 3 rfl) ?_
        refine lv_iconst (v := (1 : Int32)) C.1 C.2.1 dX8_place_102 rfl ?_
        refine lv_iload C.1 C.2.1 dX8_place_103 (lv_at hl 5 rfl) ?_
        refine lv_ishl C.1 C.2.1 dX8_place_105 ?_
        refine lv_ior C.1 C.2.1 dX8_place_106 ?_
        refine lv_iload_n C.1 C.2.1 dX8_place_107 rfl (lv_at hl 4 rfl) ?_
        refine lv_iload C.1 C.2.1 dX8_place_108 (lv_at hl 0 rfl) ?_
        refine lv_iadd C.1 C.2.1 dX8_place_110 ?_
        obtain ⟨r7, h8, er7, hf⟩ := zbd_some hf
        refine zcallVV (As := [.int (x1 + (1 : Int32)), .int (x2 ||| ((1 : Int32) <<< (x4 &&& 31))), .int (x3 + r5)]) (rest := []) C hS mv_X8_40 (hF h6 (x1 + (1 : Int32)) (x2 ||| ((1 : Int32) <<< (x4 &&& 31))) (x3 + r5) (r7, h8) er7) (hm 71 (by decide)) ⟨_, _, _, sh_71, rfl, rfl⟩ rfl rfl (Nat.le_of_ble_eq_true rfl) hl.1 ⟨by show nq + 1 ≤ nq + 1; omega, by show 60 + 60 * (nq) ≤ 60 * (nq + 1); omega, Nat.le_of_ble_eq_true rfl, Nat.le_of_ble_eq_true rfl⟩ dX8_place_111 (fun H locs hS => ?_)
        refine lv_aload_n C.1 C.2.1 dX8_place_114 rfl (lv_at hl 1 rfl) ?_
        refine lv_iload C.1 C.2.1 dX8_place_115 (lv_at hl 0 rfl) ?_
        obtain ⟨r9, h10, er9, hf⟩ := zbd_some hf
        refine zcallVV (As := [.int r5]) (rest := []) C hS mv_X8_47 (c_X8_takeBack l G h8 r5 (r9, h10) (fun c h => hm c (sn_X8_place_b_X8_takeBack c h)) (fun q h => hk q (sl_X8_place_b_X8_takeBack q h)) er9) (hm 71 (by decide)) ⟨_, _, _, sh_71, rfl, rfl⟩ rfl rfl (Nat.le_of_ble_eq_true rfl) hl.1 ⟨by show 3 + 1 ≤ nq + 1; omega, by show 60 + 60 * (3) ≤ 60 * (nq + 1); omega, Nat.le_of_ble_eq_true rfl, Nat.le_of_ble_eq_true rfl⟩ dX8_place_117 (fun H locs hS => ?_)
        exact w_X8_place_b_120 C hm hk hn hF ih _ _ _ _ _ _ _ _ (lv_sub hl [1, 2, 3, 4, 5] rfl) hS hf
set_option maxHeartbeats 4000000 in
set_option maxRecDepth 100000 in
theorem c_X8_place_b (l : Launch) (G : zG) (h : zH) (F : Int32 → Int32 → Int32 → zH → zR) (nq : Nat) (hn : 6 ≤ nq) (hF : ∀ (h : zH) (x1 : Int32) (x2 : Int32) (x3 : Int32) (q : Int32 × zH), F x1 x2 x3 h = some q → zCtV l yX8_place cX8_place 6 none nq [.ref (zal G 71), .int x1, .int x2, .int x3] G h q.2)  (x1 : Int32) (x2 : Int32) (x3 : Int32) (q : Int32 × zH) (hm : ∀ c ∈ nd_X8_place_b, c ∈ znm G) (hk : ∀ q ∈ ld_X8_place_b, zlk G q.1 q.2 = true) (hf : f_X8_place_b F x1 x2 x3 h = some q) : zCtV l yX8_place cX8_place 6 none (nq + 1) [.ref (zal G 71), .int x1, .int x2, .int x3] G h q.2 := by
  refine zMetV (by decide) (Nat.le_of_ble_eq_true rfl) ?_
  intro p e s m below meth c ls C hl hS
  have hl : lv_has ls 6 [(0, .ref (zal G 71)), (1, .int x1), (2, .int x2), (3, .int x3)] := hl
  have C : zC G p s m [.ref (zal G 71), .int x1, .int x2, .int x3].toArray meth c cX8_place 6 RX8 none := C
  unfold f_X8_place_b at hf
  refine lv_iload_n C.1 C.2.1 dX8_place_0 rfl (lv_at hl 1 rfl) ?_
  refine lv_aload_n C.1 C.2.1 dX8_place_1 rfl (lv_at hl 0 rfl) ?_
  refine zgetI C hS ff_X8_28_71 (hm 71 (by decide)) dX8_place_2 ?_
  refine lv_icmp_lt (tgt := 49) C.1 C.2.1 dX8_place_5 (by decide) (fun hc => ?_) (fun hc => ?_)
  · have hf := zif_t hc hf
    refine lv_iconst (v := (1 : Int32)) C.1 C.2.1 dX8_place_49 rfl ?_
    refine lv_istore (lv' := [(4, .int (1 : Int32)), (0, .ref (zal G 71)), (1, .int x1), (2, .int x2), (3, .int x3)]) C.1 C.2.1 dX8_place_50 hl (by decide) rfl (fun ls hl => ?_)
    exact w_X8_place_b_52 C hm hk hn hF  zN _ _ _ _ _ _ _ _ (lv_sub hl [1, 2, 3, 4, 0] rfl) hS hf
  · have hf := zif_f hc hf
    refine lv_aload_n C.1 C.2.1 dX8_place_8 rfl (lv_at hl 0 rfl) ?_
    refine zgetR C hS ff_X8_18_71 (hm 71 (by decide)) (hk (71, 0) (by decide)) dX8_place_9 ?_
    refine lv_aload_n C.1 C.2.1 dX8_place_12 rfl (lv_at hl 0 rfl) ?_
    refine zgetR C hS ff_X8_11_71 (hm 71 (by decide)) (hk (71, 1) (by decide)) dX8_place_13 ?_
    refine lv_aload_n C.1 C.2.1 dX8_place_16 rfl (lv_at hl 0 rfl) ?_
    refine zgetI C hS ff_X8_28_71 (hm 71 (by decide)) dX8_place_17 ?_
    refine lv_iconst (v := (1 : Int32)) C.1 C.2.1 dX8_place_20 rfl ?_
    refine lv_isub C.1 C.2.1 dX8_place_21 ?_
    obtain ⟨hi, hf⟩ := zck_some hf
    refine zald C hS sh_72 (hm 72 (by decide)) hi dX8_place_22 ?_
    refine lv_aload_n C.1 C.2.1 dX8_place_23 rfl (lv_at hl 0 rfl) ?_
    refine zgetR C hS ff_X8_11_71 (hm 71 (by decide)) (hk (71, 1) (by decide)) dX8_place_24 ?_
    refine lv_iconst (v := (0 : Int32)) C.1 C.2.1 dX8_place_27 rfl ?_
    refine zald C hS sh_72 (hm 72 (by decide)) (vp_in_iff.mpr (by decide)) dX8_place_28 ?_
    obtain ⟨r11, h12, er11, hf⟩ := zbd_some hf
    refine zcallVI (As := [.int (h 72 (Int32.toNatClampNeg ((h 71 3) - (1 : Int32)))), .int (h 72 0)]) (rest := []) C hS mv_X8_44 (c_X1_tellBetween l G h (h 72 (Int32.toNatClampNeg ((h 71 3) - (1 : Int32)))) (h 72 0) (r11, h12) (fun c h => hm c (sn_X8_place_b_X1_tellBetween c h)) (fun q h => hk q (sl_X8_place_b_X1_tellBetween q h)) er11) (hm 38 (by decide)) ⟨_, _, _, sh_38, rfl, rfl⟩ rfl rfl (Nat.le_of_ble_eq_true rfl) hl.1 ⟨by show 6 + 1 ≤ nq + 1; omega, by show 60 + 60 * (6) ≤ 60 * (nq + 1); omega, Nat.le_of_ble_eq_true rfl, Nat.le_of_ble_eq_true rfl⟩ dX8_place_29 (fun H locs hS => ?_)
    refine lv_istore (lv' := [(4, .int r11), (0, .ref (zal G 71)), (1, .int x1), (2, .int x2), (3, .int x3)]) C.1 C.2.1 dX8_place_32 hl (by decide) rfl (fun ls hl => ?_)
    refine lv_aload_n C.1 C.2.1 dX8_place_34 rfl (lv_at hl 1 rfl) ?_
    refine lv_iload C.1 C.2.1 dX8_place_35 (lv_at hl 0 rfl) ?_
    obtain ⟨r13, h14, er13, hf⟩ := zbd_some hf
    refine zcallVV (As := [.int r11]) (rest := []) C hS mv_X8_47 (c_X8_takeBack l G h12 r11 (r13, h14) (fun c h => hm c (sn_X8_place_b_X8_takeBack c h)) (fun q h => hk q (sl_X8_place_b_X8_takeBack q h)) er13) (hm 71 (by decide)) ⟨_, _, _, sh_71, rfl, rfl⟩ rfl rfl (Nat.le_of_ble_eq_true rfl) hl.1 ⟨by show 3 + 1 ≤ nq + 1; omega, by show 60 + 60 * (3) ≤ 60 * (nq + 1); omega, Nat.le_of_ble_eq_true rfl, Nat.le_of_ble_eq_true rfl⟩ dX8_place_37 (fun H locs hS => ?_)
    refine lv_aload_n C.1 C.2.1 dX8_place_40 rfl (lv_at hl 1 rfl) ?_
    refine lv_iload_n C.1 C.2.1 dX8_place_41 rfl (lv_at hl 4 rfl) ?_
    refine lv_iload C.1 C.2.1 dX8_place_42 (lv_at hl 0 rfl) ?_
    refine lv_iadd C.1 C.2.1 dX8_place_44 ?_
    obtain ⟨r15, h16, er15, hf⟩ := zbd_some hf
    refine zcallVV (As := [.int (x3 + r11)]) (rest := []) C hS mv_X8_51 (c_X8_keepBest l G h14 (x3 + r11) (r15, h16) (fun c h => hm c (sn_X8_place_b_X8_keepBest c h)) (fun q h => hk q (sl_X8_place_b_X8_keepBest q h)) er15) (hm 71 (by decide)) ⟨_, _, _, sh_71, rfl, rfl⟩ rfl rfl (Nat.le_of_ble_eq_true rfl) hl.1 ⟨by show 2 + 1 ≤ nq + 1; omega, by show 60 + 60 * (2) ≤ 60 * (nq + 1); omega, Nat.le_of_ble_eq_true rfl, Nat.le_of_ble_eq_true rfl⟩ dX8_place_45 (fun H locs hS => ?_)
    exact zretV C hS hf dX8_place_48
def f_X8_place : Nat → Int32 → Int32 → Int32 → zH → zR
  | 0 => fun _ _ _ _ => none
  | d + 1 => fun x1 x2 x3 h => f_X8_place_b (f_X8_place d) x1 x2 x3 h
theorem c_X8_place (l : Launch) (G : zG) (hm : ∀ c ∈ nd_X8_place_b, c ∈ znm G) (hk : ∀ q ∈ ld_X8_place_b, zlk G q.1 q.2 = true) : ∀ (d : Nat) (h : zH) (x1 : Int32) (x2 : Int32) (x3 : Int32) (q : Int32 × zH), f_X8_place d x1 x2 x3 h = some q → zCtV l yX8_place cX8_place 6 none (6 + 1 * d) [.ref (zal G 71), .int x1, .int x2, .int x3] G h q.2 := by
  intro d
  induction d with
  | zero => intro h x1 x2 x3 q hf; cases hf
  | succ d ih =>
    intro h x1 x2 x3 q hf
    have e := c_X8_place_b l G h (f_X8_place d) (6 + 1 * d) (Nat.le_add_right _ _) ih x1 x2 x3 q hm hk hf
    rw [show 6 + 1 * d + 1 = 6 + 1 * (d + 1) by omega] at e
    exact e
end
section
theorem dX8_solve_0 : decode cX8_solve 0 = .ok (.aload_n 0, 1) := by decide +kernel
theorem dX8_solve_1 : decode cX8_solve 1 = .ok (.iload_n 1, 1) := by decide +kernel
theorem dX8_solve_2 : decode cX8_solve 2 = .ok (.bipush 7, 2) := by decide +kernel
theorem dX8_solve_4 : decode cX8_solve 4 = .ok (.invokestatic 22, 3) := by decide +kernel
theorem dX8_solve_7 : decode cX8_solve 7 = .ok (.putfield 28, 3) := by decide +kernel
theorem dX8_solve_10 : decode cX8_solve 10 = .ok (.aload_n 0, 1) := by decide +kernel
theorem dX8_solve_11 : decode cX8_solve 11 = .ok (.iconst (-1), 1) := by decide +kernel
theorem dX8_solve_12 : decode cX8_solve 12 = .ok (.putfield 32, 3) := by decide +kernel
theorem dX8_solve_15 : decode cX8_solve 15 = .ok (.aload_n 0, 1) := by decide +kernel
theorem dX8_solve_16 : decode cX8_solve 16 = .ok (.getfield 11, 3) := by decide +kernel
theorem dX8_solve_19 : decode cX8_solve 19 = .ok (.iconst 0, 1) := by decide +kernel
theorem dX8_solve_20 : decode cX8_solve 20 = .ok (.iconst 0, 1) := by decide +kernel
theorem dX8_solve_21 : decode cX8_solve 21 = .ok (.iastore, 1) := by decide +kernel
theorem dX8_solve_22 : decode cX8_solve 22 = .ok (.aload_n 0, 1) := by decide +kernel
theorem dX8_solve_23 : decode cX8_solve 23 = .ok (.getfield 18, 3) := by decide +kernel
theorem dX8_solve_26 : decode cX8_solve 26 = .ok (.invokevirtual 35, 3) := by decide +kernel
theorem dX8_solve_29 : decode cX8_solve 29 = .ok (.aload_n 0, 1) := by decide +kernel
theorem dX8_solve_30 : decode cX8_solve 30 = .ok (.iconst 1, 1) := by decide +kernel
theorem dX8_solve_31 : decode cX8_solve 31 = .ok (.iconst 1, 1) := by decide +kernel
theorem dX8_solve_32 : decode cX8_solve 32 = .ok (.iconst 0, 1) := by decide +kernel
theorem dX8_solve_33 : decode cX8_solve 33 = .ok (.invokevirtual 40, 3) := by decide +kernel
theorem dX8_solve_36 : decode cX8_solve 36 = .ok (.return_, 1) := by decide +kernel
abbrev nd_X8_solve : List Nat := [1, 2, 3, 4, 5, 6, 7, 8, 11, 12, 13, 16, 17, 18, 19, 20, 21, 38, 39, 40, 41, 42, 43, 71, 72, 73]
abbrev ld_X8_solve : List (Nat × Nat) := [(1, 0), (1, 1), (1, 2), (1, 3), (1, 4), (1, 5), (2, 0), (2, 1), (2, 2), (2, 3), (7, 0), (11, 0), (11, 1), (16, 0), (16, 1), (16, 2), (38, 0), (38, 1), (38, 2), (38, 3), (38, 4), (38, 5), (71, 0), (71, 1), (71, 2)]
theorem sn_X8_solve_X1_begin : ∀ c ∈ nd_X1_begin, c ∈ nd_X8_solve := by decide
theorem sl_X8_solve_X1_begin : ∀ q ∈ ld_X1_begin, q ∈ ld_X8_solve := by decide
theorem sn_X8_solve_X8_place_b : ∀ c ∈ nd_X8_place_b, c ∈ nd_X8_solve := by decide
theorem sl_X8_solve_X8_place_b : ∀ q ∈ ld_X8_place_b, q ∈ ld_X8_solve := by decide
def f_X8_solve  (x1 : Int32) (h : zH) : zR := (zst (zup h 71 3 (if (7 : Int32) < x1 then (7 : Int32) else x1)) fun h1 => (zst (zup h1 71 4 (-1 : Int32)) fun h2 => (zst (zup h2 72 0 (0 : Int32)) fun h3 => (zbd (f_X1_begin  h3) fun r4 h5 => (zbd (f_X8_place 12 (1 : Int32) (1 : Int32) (0 : Int32) h5) fun r6 h7 => (some (0, h7)))))))
variable {p : Program} {l : Launch} {e : Env} {s : State} {m : MethodId} {args : Array Value} {below : List Frame} {meth : Method} {c : Code} {G : zG} {q : Int32 × zH}
set_option maxHeartbeats 4000000 in
set_option maxRecDepth 100000 in
theorem c_X8_solve (l : Launch) (G : zG) (h : zH) (x1 : Int32) (q : Int32 × zH) (hm : ∀ c ∈ nd_X8_solve, c ∈ znm G) (hk : ∀ q ∈ ld_X8_solve, zlk G q.1 q.2 = true) (hf : f_X8_solve x1 h = some q) : zCtV l yX8_solve cX8_solve 2 none (19) [.ref (zal G 71), .int x1] G h q.2 := by
  refine zMetV (by decide) (Nat.le_of_ble_eq_true rfl) ?_
  intro p e s m below meth c ls C hl hS
  have hl : lv_has ls 2 [(0, .ref (zal G 71)), (1, .int x1)] := hl
  have C : zC G p s m [.ref (zal G 71), .int x1].toArray meth c cX8_solve 2 RX8 none := C
  unfold f_X8_solve at hf
  refine lv_aload_n C.1 C.2.1 dX8_solve_0 rfl (lv_at hl 0 rfl) ?_
  refine lv_iload_n C.1 C.2.1 dX8_solve_1 rfl (lv_at hl 1 rfl) ?_
  refine lv_bipush (v := (7 : Int32)) C.1 C.2.1 dX8_solve_2 rfl ?_
  refine zmin C kw_986 (Nat.le_of_ble_eq_true rfl) hl.1 ⟨Nat.le_of_ble_eq_true rfl, Nat.le_of_ble_eq_true rfl, Nat.le_of_ble_eq_true rfl, Nat.le_of_ble_eq_true rfl⟩ dX8_solve_4 ?_
  refine zputI C hS ff_X8_28_71 fw_71_3 (hm 71 (by decide)) dX8_solve_7 (fun H locs hS => ?_)
  obtain ⟨h1, eh1, hf⟩ := zst_some hf
  have hS : zS G h1 s.heap H locs := by rw [eh1]; exact hS
  refine lv_aload_n C.1 C.2.1 dX8_solve_10 rfl (lv_at hl 0 rfl) ?_
  refine lv_iconst (v := (-1 : Int32)) C.1 C.2.1 dX8_solve_11 rfl ?_
  refine zputI C hS ff_X8_32_71 fw_71_4 (hm 71 (by decide)) dX8_solve_12 (fun H locs hS => ?_)
  obtain ⟨h2, eh2, hf⟩ := zst_some hf
  have hS : zS G h2 s.heap H locs := by rw [eh2]; exact hS
  refine lv_aload_n C.1 C.2.1 dX8_solve_15 rfl (lv_at hl 0 rfl) ?_
  refine zgetR C hS ff_X8_11_71 (hm 71 (by decide)) (hk (71, 1) (by decide)) dX8_solve_16 ?_
  refine lv_iconst (v := (0 : Int32)) C.1 C.2.1 dX8_solve_19 rfl ?_
  refine lv_iconst (v := (0 : Int32)) C.1 C.2.1 dX8_solve_20 rfl ?_
  refine zast C hS sh_72 (hm 72 (by decide)) (vp_in_iff.mpr (by decide)) dX8_solve_21 (fun H locs hS => ?_)
  obtain ⟨h3, eh3, hf⟩ := zst_some hf
  have hS : zS G h3 s.heap H locs := by rw [eh3]; exact hS
  refine lv_aload_n C.1 C.2.1 dX8_solve_22 rfl (lv_at hl 0 rfl) ?_
  refine zgetR C hS ff_X8_18_71 (hm 71 (by decide)) (hk (71, 0) (by decide)) dX8_solve_23 ?_
  obtain ⟨r4, h5, er4, hf⟩ := zbd_some hf
  refine zcallVV (As := []) (rest := []) C hS mv_X8_35 (c_X1_begin l G h3  (r4, h5) (fun c h => hm c (sn_X8_solve_X1_begin c h)) (fun q h => hk q (sl_X8_solve_X1_begin q h)) er4) (hm 38 (by decide)) ⟨_, _, _, sh_38, rfl, rfl⟩ rfl rfl (Nat.le_of_ble_eq_true rfl) hl.1 ⟨Nat.le_of_ble_eq_true rfl, Nat.le_of_ble_eq_true rfl, Nat.le_of_ble_eq_true rfl, Nat.le_of_ble_eq_true rfl⟩ dX8_solve_26 (fun H locs hS => ?_)
  refine lv_aload_n C.1 C.2.1 dX8_solve_29 rfl (lv_at hl 0 rfl) ?_
  refine lv_iconst (v := (1 : Int32)) C.1 C.2.1 dX8_solve_30 rfl ?_
  refine lv_iconst (v := (1 : Int32)) C.1 C.2.1 dX8_solve_31 rfl ?_
  refine lv_iconst (v := (0 : Int32)) C.1 C.2.1 dX8_solve_32 rfl ?_
  obtain ⟨r6, h7, er6, hf⟩ := zbd_some hf
  refine zcallVV (As := [.int (1 : Int32), .int (1 : Int32), .int (0 : Int32)]) (rest := []) C hS mv_X8_40 (c_X8_place l G (fun c h => hm c (sn_X8_solve_X8_place_b c h)) (fun q h => hk q (sl_X8_solve_X8_place_b q h)) 12 h5 (1 : Int32) (1 : Int32) (0 : Int32) (r6, h7) er6) (hm 71 (by decide)) ⟨_, _, _, sh_71, rfl, rfl⟩ rfl rfl (Nat.le_of_ble_eq_true rfl) hl.1 ⟨Nat.le_of_ble_eq_true rfl, Nat.le_of_ble_eq_true rfl, Nat.le_of_ble_eq_true rfl, Nat.le_of_ble_eq_true rfl⟩ dX8_solve_33 (fun H locs hS => ?_)
  exact zretV C hS hf dX8_solve_36
end
section
theorem dX12_seatsAll_0 : decode cX12_seatsAll 0 = .ok (.iload_n 2, 1) := by decide +kernel
theorem dX12_seatsAll_1 : decode cX12_seatsAll 1 = .ok (.aload_n 0, 1) := by decide +kernel
theorem dX12_seatsAll_2 : decode cX12_seatsAll 2 = .ok (.getfield 7, 3) := by decide +kernel
theorem dX12_seatsAll_5 : decode cX12_seatsAll 5 = .ok (.iconst 0, 1) := by decide +kernel
theorem dX12_seatsAll_6 : decode cX12_seatsAll 6 = .ok (.iaload, 1) := by decide +kernel
theorem dX12_seatsAll_7 : decode cX12_seatsAll 7 = .ok (.if_icmp .ne 57, 3) := by decide +kernel
theorem dX12_seatsAll_10 : decode cX12_seatsAll 10 = .ok (.aload_n 0, 1) := by decide +kernel
theorem dX12_seatsAll_11 : decode cX12_seatsAll 11 = .ok (.invokevirtual 299, 3) := by decide +kernel
theorem dX12_seatsAll_14 : decode cX12_seatsAll 14 = .ok (.istore_n 3, 1) := by decide +kernel
theorem dX12_seatsAll_15 : decode cX12_seatsAll 15 = .ok (.iload_n 3, 1) := by decide +kernel
theorem dX12_seatsAll_16 : decode cX12_seatsAll 16 = .ok (.aload_n 0, 1) := by decide +kernel
theorem dX12_seatsAll_17 : decode cX12_seatsAll 17 = .ok (.getfield 317, 3) := by decide +kernel
theorem dX12_seatsAll_20 : decode cX12_seatsAll 20 = .ok (.if_icmp .gt 4, 3) := by decide +kernel
theorem dX12_seatsAll_23 : decode cX12_seatsAll 23 = .ok (.return_, 1) := by decide +kernel
theorem dX12_seatsAll_24 : decode cX12_seatsAll 24 = .ok (.aload_n 0, 1) := by decide +kernel
theorem dX12_seatsAll_25 : decode cX12_seatsAll 25 = .ok (.iload_n 3, 1) := by decide +kernel
theorem dX12_seatsAll_26 : decode cX12_seatsAll 26 = .ok (.putfield 317, 3) := by decide +kernel
theorem dX12_seatsAll_29 : decode cX12_seatsAll 29 = .ok (.iconst 0, 1) := by decide +kernel
theorem dX12_seatsAll_30 : decode cX12_seatsAll 30 = .ok (.istore 4, 2) := by decide +kernel
theorem dX12_seatsAll_32 : decode cX12_seatsAll 32 = .ok (.iload 4, 2) := by decide +kernel
theorem dX12_seatsAll_34 : decode cX12_seatsAll 34 = .ok (.aload_n 0, 1) := by decide +kernel
theorem dX12_seatsAll_35 : decode cX12_seatsAll 35 = .ok (.getfield 7, 3) := by decide +kernel
theorem dX12_seatsAll_38 : decode cX12_seatsAll 38 = .ok (.iconst 4, 1) := by decide +kernel
theorem dX12_seatsAll_39 : decode cX12_seatsAll 39 = .ok (.iaload, 1) := by decide +kernel
theorem dX12_seatsAll_40 : decode cX12_seatsAll 40 = .ok (.if_icmp .ge 23, 3) := by decide +kernel
theorem dX12_seatsAll_43 : decode cX12_seatsAll 43 = .ok (.aload_n 0, 1) := by decide +kernel
theorem dX12_seatsAll_44 : decode cX12_seatsAll 44 = .ok (.getfield 56, 3) := by decide +kernel
theorem dX12_seatsAll_47 : decode cX12_seatsAll 47 = .ok (.aload_n 0, 1) := by decide +kernel
theorem dX12_seatsAll_48 : decode cX12_seatsAll 48 = .ok (.iload 4, 2) := by decide +kernel
theorem dX12_seatsAll_50 : decode cX12_seatsAll 50 = .ok (.iconst 1, 1) := by decide +kernel
theorem dX12_seatsAll_51 : decode cX12_seatsAll 51 = .ok (.invokevirtual 106, 3) := by decide +kernel
theorem dX12_seatsAll_54 : decode cX12_seatsAll 54 = .ok (.iload 4, 2) := by decide +kernel
theorem dX12_seatsAll_56 : decode cX12_seatsAll 56 = .ok (.iastore, 1) := by decide +kernel
theorem dX12_seatsAll_57 : decode cX12_seatsAll 57 = .ok (.iinc 4 1, 3) := by decide +kernel
theorem dX12_seatsAll_60 : decode cX12_seatsAll 60 = .ok (.goto (-28), 3) := by decide +kernel
theorem dX12_seatsAll_63 : decode cX12_seatsAll 63 = .ok (.return_, 1) := by decide +kernel
theorem dX12_seatsAll_64 : decode cX12_seatsAll 64 = .ok (.iconst 1, 1) := by decide +kernel
theorem dX12_seatsAll_65 : decode cX12_seatsAll 65 = .ok (.istore_n 3, 1) := by decide +kernel
theorem dX12_seatsAll_66 : decode cX12_seatsAll 66 = .ok (.iload_n 3, 1) := by decide +kernel
theorem dX12_seatsAll_67 : decode cX12_seatsAll 67 = .ok (.aload_n 0, 1) := by decide +kernel
theorem dX12_seatsAll_68 : decode cX12_seatsAll 68 = .ok (.getfield 7, 3) := by decide +kernel
theorem dX12_seatsAll_71 : decode cX12_seatsAll 71 = .ok (.iconst 4, 1) := by decide +kernel
theorem dX12_seatsAll_72 : decode cX12_seatsAll 72 = .ok (.iaload, 1) := by decide +kernel
theorem dX12_seatsAll_73 : decode cX12_seatsAll 73 = .ok (.if_icmp .ge 39, 3) := by decide +kernel
theorem dX12_seatsAll_76 : decode cX12_seatsAll 76 = .ok (.iload_n 1, 1) := by decide +kernel
theorem dX12_seatsAll_77 : decode cX12_seatsAll 77 = .ok (.iload_n 3, 1) := by decide +kernel
theorem dX12_seatsAll_78 : decode cX12_seatsAll 78 = .ok (.ishr, 1) := by decide +kernel
theorem dX12_seatsAll_79 : decode cX12_seatsAll 79 = .ok (.iconst 1, 1) := by decide +kernel
theorem dX12_seatsAll_80 : decode cX12_seatsAll 80 = .ok (.iand, 1) := by decide +kernel
theorem dX12_seatsAll_81 : decode cX12_seatsAll 81 = .ok (.iconst 1, 1) := by decide +kernel
theorem dX12_seatsAll_82 : decode cX12_seatsAll 82 = .ok (.if_icmp .ne 6, 3) := by decide +kernel
theorem dX12_seatsAll_85 : decode cX12_seatsAll 85 = .ok (.goto 21, 3) := by decide +kernel
theorem dX12_seatsAll_88 : decode cX12_seatsAll 88 = .ok (.aload_n 0, 1) := by decide +kernel
theorem dX12_seatsAll_89 : decode cX12_seatsAll 89 = .ok (.iload_n 3, 1) := by decide +kernel
theorem dX12_seatsAll_90 : decode cX12_seatsAll 90 = .ok (.iload_n 2, 1) := by decide +kernel
theorem dX12_seatsAll_91 : decode cX12_seatsAll 91 = .ok (.invokevirtual 102, 3) := by decide +kernel
theorem dX12_seatsAll_94 : decode cX12_seatsAll 94 = .ok (.aload_n 0, 1) := by decide +kernel
theorem dX12_seatsAll_95 : decode cX12_seatsAll 95 = .ok (.iload_n 1, 1) := by decide +kernel
theorem dX12_seatsAll_96 : decode cX12_seatsAll 96 = .ok (.iconst 1, 1) := by decide +kernel
theorem dX12_seatsAll_97 : decode cX12_seatsAll 97 = .ok (.iload_n 3, 1) := by decide +kernel
theorem dX12_seatsAll_98 : decode cX12_seatsAll 98 = .ok (.ishl, 1) := by decide +kernel
theorem dX12_seatsAll_99 : decode cX12_seatsAll 99 = .ok (.ior, 1) := by decide +kernel
theorem dX12_seatsAll_100 : decode cX12_seatsAll 100 = .ok (.iload_n 2, 1) := by decide +kernel
theorem dX12_seatsAll_101 : decode cX12_seatsAll 101 = .ok (.iconst 1, 1) := by decide +kernel
theorem dX12_seatsAll_102 : decode cX12_seatsAll 102 = .ok (.iadd, 1) := by decide +kernel
theorem dX12_seatsAll_103 : decode cX12_seatsAll 103 = .ok (.invokevirtual 320, 3) := by decide +kernel
theorem dX12_seatsAll_106 : decode cX12_seatsAll 106 = .ok (.iinc 3 1, 3) := by decide +kernel
theorem dX12_seatsAll_109 : decode cX12_seatsAll 109 = .ok (.goto (-43), 3) := by decide +kernel
theorem dX12_seatsAll_112 : decode cX12_seatsAll 112 = .ok (.return_, 1) := by decide +kernel
abbrev nd_X12_seatsAll_b : List Nat := [100, 101, 104, 108, 109, 115]
abbrev ld_X12_seatsAll_b : List (Nat × Nat) := [(100, 0), (100, 3), (100, 9), (100, 10), (100, 34)]
theorem sn_X12_seatsAll_b_X12_sits : ∀ c ∈ nd_X12_sits, c ∈ nd_X12_seatsAll_b := by decide
theorem sl_X12_seatsAll_b_X12_sits : ∀ q ∈ ld_X12_sits, q ∈ ld_X12_seatsAll_b := by decide
theorem sn_X12_seatsAll_b_X12_merryNow : ∀ c ∈ nd_X12_merryNow, c ∈ nd_X12_seatsAll_b := by decide
theorem sl_X12_seatsAll_b_X12_merryNow : ∀ q ∈ ld_X12_merryNow, q ∈ ld_X12_seatsAll_b := by decide
theorem sn_X12_seatsAll_b_X12_ofGuest : ∀ c ∈ nd_X12_ofGuest, c ∈ nd_X12_seatsAll_b := by decide
theorem sl_X12_seatsAll_b_X12_ofGuest : ∀ q ∈ ld_X12_ofGuest, q ∈ ld_X12_seatsAll_b := by decide
def f_X12_seatsAll_b_106 (F : Int32 → Int32 → zH → zR) (k66 : Int32 → Int32 → Int32 → zH → zR) (x1 : Int32) (x2 : Int32) (x3 : Int32) (h : zH) : zR := (zlt (x3 + (1 : Int32)) fun y5 => (k66 x1 x2 y5 h))
def f_X12_seatsAll_b_66 (F : Int32 → Int32 → zH → zR)  : Nat → Int32 → Int32 → Int32 → zH → zR
  | 0 => fun _ _ _ _ => none
  | n + 1 => fun x1 x2 x3 h => (if (h 101 4) ≤ x3 then (some (0, h)) else (if ((x1 >>> (x3 &&& 31)) &&& (1 : Int32)) = (1 : Int32) then (f_X12_seatsAll_b_106 F (f_X12_seatsAll_b_66 F  n) x1 x2 x3 h) else (zbd (f_X12_sits x3 x2 h) fun r1 h2 => (zbd (F (x1 ||| ((1 : Int32) <<< (x3 &&& 31))) (x2 + (1 : Int32)) h2) fun r3 h4 => (f_X12_seatsAll_b_106 F (f_X12_seatsAll_b_66 F  n) x1 x2 x3 h4)))))
def f_X12_seatsAll_b_32 (F : Int32 → Int32 → zH → zR)  : Nat → Int32 → zH → zR
  | 0 => fun _ _ => none
  | n + 1 => fun x4 h => (if (h 101 4) ≤ x4 then (some (0, h)) else (zbd (f_X12_ofGuest x4 (1 : Int32) h) fun r9 h10 => (zck r9 8 (zst (zup h10 115 (Int32.toNatClampNeg r9) x4) fun h11 => (zlt (x4 + (1 : Int32)) fun y12 => (f_X12_seatsAll_b_32 F  n y12 h11))))))
def f_X12_seatsAll_b (F : Int32 → Int32 → zH → zR)  (x1 : Int32) (x2 : Int32) (h : zH) : zR := (if x2 = (h 101 0) then (zbd (f_X12_merryNow  h) fun r6 h7 => (if (h7 100 35) < r6 then (zst (zup h7 100 35 r6) fun h8 => (f_X12_seatsAll_b_32 F  zN (0 : Int32) h8)) else (some (0, h7)))) else (f_X12_seatsAll_b_66 F  zN x1 x2 (1 : Int32) h))
variable {p : Program} {l : Launch} {e : Env} {s : State} {m : MethodId} {args : Array Value} {below : List Frame} {meth : Method} {c : Code} {G : zG} {q : Int32 × zH}
set_option maxHeartbeats 4000000 in
set_option maxRecDepth 100000 in
theorem w_X12_seatsAll_b_106 {F : Int32 → Int32 → zH → zR} {nq : Nat} {k66 : Int32 → Int32 → Int32 → zH → zR} (C : zC G p s m args meth c cX12_seatsAll 5 RX12 none) (hm : ∀ c ∈ nd_X12_seatsAll_b, c ∈ znm G) (hk : ∀ q ∈ ld_X12_seatsAll_b, zlk G q.1 q.2 = true) (hn : 7 ≤ nq) (hF : ∀ (h : zH) (x1 : Int32) (x2 : Int32) (q : Int32 × zH), F x1 x2 h = some q → zCtV l yX12_seatsAll cX12_seatsAll 5 none nq [.ref (zal G 100), .int x1, .int x2] G h q.2) (hk66 : ∀ (ls : Array Slot) (H : Heap) (locs : List Loc) (h : zH) (x1 : Int32) (x2 : Int32) (x3 : Int32), lv_has ls 5 [(0, .ref (zal G 100)), (1, .int x1), (2, .int x2), (3, .int x3)] → zS G h s.heap H locs → k66 x1 x2 x3 h = some q → W p l e (zrm (nq + 1)) s m args below meth c H locs 0 0 (MQ below (zQV G q.2) args s 0 0 (zA G)) (F0 m 66 ls [])) : ∀ (ls : Array Slot) (H : Heap) (locs : List Loc) (h : zH) (x1 : Int32) (x2 : Int32) (x3 : Int32), lv_has ls 5 [(0, .ref (zal G 100)), (1, .int x1), (2, .int x2), (3, .int x3)] → zS G h s.heap H locs → f_X12_seatsAll_b_106 F k66 x1 x2 x3 h = some q → W p l e (zrm (nq + 1)) s m args below meth c H locs 0 0 (MQ below (zQV G q.2) args s 0 0 (zA G)) (F0 m 106 ls []) := by
  intro ls H locs h x1 x2 x3 hl hS hf
  unfold f_X12_seatsAll_b_106 at hf
  obtain ⟨y5, ey5, hf⟩ := zlt_some hf
  refine lv_iinc (v := y5) (lv' := [(3, .int y5), (0, .ref (zal G 100)), (1, .int x1), (2, .int x2)]) C.1 C.2.1 dX12_seatsAll_106 hl (k := 3) rfl ey5.symm (by decide) rfl (fun ls hl => ?_)
  refine lv_goto (tgt := 66) C.1 C.2.1 dX12_seatsAll_109 (by decide) ?_
  exact hk66 _ _ _ _ _ _ _ (lv_sub hl [1, 2, 3, 0] rfl) hS hf
set_option maxHeartbeats 4000000 in
set_option maxRecDepth 100000 in
theorem w_X12_seatsAll_b_66 {F : Int32 → Int32 → zH → zR} {nq : Nat}  (C : zC G p s m args meth c cX12_seatsAll 5 RX12 none) (hm : ∀ c ∈ nd_X12_seatsAll_b, c ∈ znm G) (hk : ∀ q ∈ ld_X12_seatsAll_b, zlk G q.1 q.2 = true) (hn : 7 ≤ nq) (hF : ∀ (h : zH) (x1 : Int32) (x2 : Int32) (q : Int32 × zH), F x1 x2 h = some q → zCtV l yX12_seatsAll cX12_seatsAll 5 none nq [.ref (zal G 100), .int x1, .int x2] G h q.2)  : ∀ n, ∀ (ls : Array Slot) (H : Heap) (locs : List Loc) (h : zH) (x1 : Int32) (x2 : Int32) (x3 : Int32), lv_has ls 5 [(0, .ref (zal G 100)), (1, .int x1), (2, .int x2), (3, .int x3)] → zS G h s.heap H locs → f_X12_seatsAll_b_66 F  n x1 x2 x3 h = some q → W p l e (zrm (nq + 1)) s m args below meth c H locs 0 0 (MQ below (zQV G q.2) args s 0 0 (zA G)) (F0 m 66 ls []) := by
  intro n
  induction n with
  | zero => intro ls H locs h x1 x2 x3 hl hS hf; cases hf
  | succ n ih =>
    intro ls H locs h x1 x2 x3 hl hS hf
    rw [f_X12_seatsAll_b_66] at hf
    refine lv_iload_n C.1 C.2.1 dX12_seatsAll_66 rfl (lv_at hl 3 rfl) ?_
    refine lv_aload_n C.1 C.2.1 dX12_seatsAll_67 rfl (lv_at hl 0 rfl) ?_
    refine zgetR C hS ff_X12_7_100 (hm 100 (by decide)) (hk (100, 0) (by decide)) dX12_seatsAll_68 ?_
    refine lv_iconst (v := (4 : Int32)) C.1 C.2.1 dX12_seatsAll_71 rfl ?_
    refine zald C hS sh_101 (hm 101 (by decide)) (vp_in_iff.mpr (by decide)) dX12_seatsAll_72 ?_
    refine lv_icmp_ge (tgt := 112) C.1 C.2.1 dX12_seatsAll_73 (by decide) (fun hc => ?_) (fun hc => ?_)
    · have hf := zif_t hc hf
      exact zretV C hS hf dX12_seatsAll_112
    · have hf := zif_f hc hf
      refine lv_iload_n C.1 C.2.1 dX12_seatsAll_76 rfl (lv_at hl 1 rfl) ?_
      refine lv_iload_n C.1 C.2.1 dX12_seatsAll_77 rfl (lv_at hl 3 rfl) ?_
      refine lv_ishr C.1 C.2.1 dX12_seatsAll_78 ?_
      refine lv_iconst (v := (1 : Int32)) C.1 C.2.1 dX12_seatsAll_79 rfl ?_
      refine lv_iand C.1 C.2.1 dX12_seatsAll_80 ?_
      refine lv_iconst (v := (1 : Int32)) C.1 C.2.1 dX12_seatsAll_81 rfl ?_
      refine lv_icmp_ne (tgt := 88) C.1 C.2.1 dX12_seatsAll_82 (by decide) (fun hc => ?_) (fun hc => ?_)
      · have hf := zif_f hc hf
        refine lv_aload_n C.1 C.2.1 dX12_seatsAll_88 rfl (lv_at hl 0 rfl) ?_
        refine lv_iload_n C.1 C.2.1 dX12_seatsAll_89 rfl (lv_at hl 3 rfl) ?_
        refine lv_iload_n C.1 C.2.1 dX12_seatsAll_90 rfl (lv_at hl 2 rfl) ?_
        obtain ⟨r1, h2, er1, hf⟩ := zbd_some hf
        refine zcallVV (As := [.int x3, .int x2]) (rest := []) C hS mv_X12_102 (c_X12_sits l G h x3 x2 (r1, h2) (fun c h => hm c (sn_X12_seatsAll_b_X12_sits c h)) (fun q h => hk q (sl_X12_seatsAll_b_X12_sits q h)) er1) (hm 100 (by decide)) ⟨_, _, _, sh_100, rfl, rfl⟩ rfl rfl (Nat.le_of_ble_eq_true rfl) hl.1 ⟨by show 2 + 1 ≤ nq + 1; omega, by show 60 + 60 * (2) ≤ 60 * (nq + 1); omega, Nat.le_of_ble_eq_true rfl, Nat.le_of_ble_eq_true rfl⟩ dX12_seatsAll_91 (fun H locs hS => ?_)
        refine lv_aload_n C.1 C.2.1 dX12_seatsAll_94 rfl (lv_at hl 0 rfl) ?_
        refine lv_iload_n C.1 C.2.1 dX12_seatsAll_95 rfl (lv_at hl 1 rfl) ?_
        refine lv_iconst (v := (1 : Int32)) C.1 C.2.1 dX12_seatsAll_96 rfl ?_
        refine lv_iload_n C.1 C.2.1 dX12_seatsAll_97 rfl (lv_at hl 3 rfl) ?_
        refine lv_ishl C.1 C.2.1 dX12_seatsAll_98 ?_
        refine lv_ior C.1 C.2.1 dX12_seatsAll_99 ?_
        refine lv_iload_n C.1 C.2.1 dX12_seatsAll_100 rfl (lv_at hl 2 rfl) ?_
        refine lv_iconst (v := (1 : Int32)) C.1 C.2.1 dX12_seatsAll_101 rfl ?_
        refine lv_iadd C.1 C.2.1 dX12_seatsAll_102 ?_
        obtain ⟨r3, h4, er3, hf⟩ := zbd_some hf
        refine zcallVV (As := [.int (x1 ||| ((1 : Int32) <<< (x3 &&& 31))), .int (x2 + (1 : Int32))]) (rest := []) C hS mv_X12_320 (hF h2 (x1 ||| ((1 : Int32) <<< (x3 &&& 31))) (x2 + (1 : Int32)) (r3, h4) er3) (hm 100 (by decide)) ⟨_, _, _, sh_100, rfl, rfl⟩ rfl rfl (Nat.le_of_ble_eq_true rfl) hl.1 ⟨by show nq + 1 ≤ nq + 1; omega, by show 60 + 60 * (nq) ≤ 60 * (nq + 1); omega, Nat.le_of_ble_eq_true rfl, Nat.le_of_ble_eq_true rfl⟩ dX12_seatsAll_103 (fun H locs hS => ?_)
        exact w_X12_seatsAll_b_106 C hm hk hn hF ih _ _ _ _ _ _ _ (lv_sub hl [0, 1, 2, 3] rfl) hS hf
      · have hf := zif_t hc hf
        refine lv_goto (tgt := 106) C.1 C.2.1 dX12_seatsAll_85 (by decide) ?_
        exact w_X12_seatsAll_b_106 C hm hk hn hF ih _ _ _ _ _ _ _ (lv_sub hl [0, 1, 2, 3] rfl) hS hf
set_option maxHeartbeats 4000000 in
set_option maxRecDepth 100000 in
theorem w_X12_seatsAll_b_32 {F : Int32 → Int32 → zH → zR} {nq : Nat}  (C : zC G p s m args meth c cX12_seatsAll 5 RX12 none) (hm : ∀ c ∈ nd_X12_seatsAll_b, c ∈ znm G) (hk : ∀ q ∈ ld_X12_seatsAll_b, zlk G q.1 q.2 = true) (hn : 7 ≤ nq) (hF : ∀ (h : zH) (x1 : Int32) (x2 : Int32) (q : Int32 × zH), F x1 x2 h = some q → zCtV l yX12_seatsAll cX12_seatsAll 5 none nq [.ref (zal G 100), .int x1, .int x2] G h q.2)  : ∀ n, ∀ (ls : Array Slot) (H : Heap) (locs : List Loc) (h : zH) (x4 : Int32), lv_has ls 5 [(0, .ref (zal G 100)), (4, .int x4)] → zS G h s.heap H locs → f_X12_seatsAll_b_32 F  n x4 h = some q → W p l e (zrm (nq + 1)) s m args below meth c H locs 0 0 (MQ below (zQV G q.2) args s 0 0 (zA G)) (F0 m 32 ls []) := by
  intro n
  induction n with
  | zero => intro ls H locs h x4 hl hS hf; cases hf
  | succ n ih =>
    intro ls H locs h x4 hl hS hf
    rw [f_X12_seatsAll_b_32] at hf
    refine lv_iload C.1 C.2.1 dX12_seatsAll_32 (lv_at hl 1 rfl) ?_
    refine lv_aload_n C.1 C.2.1 dX12_seatsAll_34 rfl (lv_at hl 0 rfl) ?_
    refine zgetR C hS ff_X12_7_100 (hm 100 (by decide)) (hk (100, 0) (by decide)) dX12_seatsAll_35 ?_
    refine lv_iconst (v := (4 : Int32)) C.1 C.2.1 dX12_seatsAll_38 rfl ?_
    refine zald C hS sh_101 (hm 101 (by decide)) (vp_in_iff.mpr (by decide)) dX12_seatsAll_39 ?_
    refine lv_icmp_ge (tgt := 63) C.1 C.2.1 dX12_seatsAll_40 (by decide) (fun hc => ?_) (fun hc => ?_)
    · have hf := zif_t hc hf
      exact zretV C hS hf dX12_seatsAll_63
    · have hf := zif_f hc hf
      refine lv_aload_n C.1 C.2.1 dX12_seatsAll_43 rfl (lv_at hl 0 rfl) ?_
      refine zgetR C hS ff_X12_56_100 (hm 100 (by decide)) (hk (100, 34) (by decide)) dX12_seatsAll_44 ?_
      refine lv_aload_n C.1 C.2.1 dX12_seatsAll_47 rfl (lv_at hl 0 rfl) ?_
      refine lv_iload C.1 C.2.1 dX12_seatsAll_48 (lv_at hl 1 rfl) ?_
      refine lv_iconst (v := (1 : Int32)) C.1 C.2.1 dX12_seatsAll_50 rfl ?_
      obtain ⟨r9, h10, er9, hf⟩ := zbd_some hf
      refine zcallVI (As := [.int x4, .int (1 : Int32)]) (rest := [.ref (zal G 115)]) C hS mv_X12_106 (c_X12_ofGuest l G h x4 (1 : Int32) (r9, h10) (fun c h => hm c (sn_X12_seatsAll_b_X12_ofGuest c h)) (fun q h => hk q (sl_X12_seatsAll_b_X12_ofGuest q h)) er9) (hm 100 (by decide)) ⟨_, _, _, sh_100, rfl, rfl⟩ rfl rfl (Nat.le_of_ble_eq_true rfl) hl.1 ⟨by show 2 + 1 ≤ nq + 1; omega, by show 60 + 60 * (2) ≤ 60 * (nq + 1); omega, Nat.le_of_ble_eq_true rfl, Nat.le_of_ble_eq_true rfl⟩ dX12_seatsAll_51 (fun H locs hS => ?_)
      refine lv_iload C.1 C.2.1 dX12_seatsAll_54 (lv_at hl 1 rfl) ?_
      obtain ⟨hi, hf⟩ := zck_some hf
      refine zast C hS sh_115 (hm 115 (by decide)) hi dX12_seatsAll_56 (fun H locs hS => ?_)
      obtain ⟨h11, eh11, hf⟩ := zst_some hf
      have hS : zS G h11 s.heap H locs := by rw [eh11]; exact hS
      obtain ⟨y12, ey12, hf⟩ := zlt_some hf
      refine lv_iinc (v := y12) (lv' := [(4, .int y12), (0, .ref (zal G 100))]) C.1 C.2.1 dX12_seatsAll_57 hl (k := 1) rfl ey12.symm (by decide) rfl (fun ls hl => ?_)
      refine lv_goto (tgt := 32) C.1 C.2.1 dX12_seatsAll_60 (by decide) ?_
      exact ih _ _ _ _ _ (lv_sub hl [1, 0] rfl) hS hf
set_option maxHeartbeats 4000000 in
set_option maxRecDepth 100000 in
theorem c_X12_seatsAll_b (l : Launch) (G : zG) (h : zH) (F : Int32 → Int32 → zH → zR) (nq : Nat) (hn : 7 ≤ nq) (hF : ∀ (h : zH) (x1 : Int32) (x2 : Int32) (q : Int32 × zH), F x1 x2 h = some q → zCtV l yX12_seatsAll cX12_seatsAll 5 none nq [.ref (zal G 100), .int x1, .int x2] G h q.2)  (x1 : Int32) (x2 : Int32) (q : Int32 × zH) (hm : ∀ c ∈ nd_X12_seatsAll_b, c ∈ znm G) (hk : ∀ q ∈ ld_X12_seatsAll_b, zlk G q.1 q.2 = true) (hf : f_X12_seatsAll_b F x1 x2 h = some q) : zCtV l yX12_seatsAll cX12_seatsAll 5 none (nq + 1) [.ref (zal G 100), .int x1, .int x2] G h q.2 := by
  refine zMetV (by decide) (Nat.le_of_ble_eq_true rfl) ?_
  intro p e s m below meth c ls C hl hS
  have hl : lv_has ls 5 [(0, .ref (zal G 100)), (1, .int x1), (2, .int x2)] := hl
  have C : zC G p s m [.ref (zal G 100), .int x1, .int x2].toArray meth c cX12_seatsAll 5 RX12 none := C
  unfold f_X12_seatsAll_b at hf
  refine lv_iload_n C.1 C.2.1 dX12_seatsAll_0 rfl (lv_at hl 2 rfl) ?_
  refine lv_aload_n C.1 C.2.1 dX12_seatsAll_1 rfl (lv_at hl 0 rfl) ?_
  refine zgetR C hS ff_X12_7_100 (hm 100 (by decide)) (hk (100, 0) (by decide)) dX12_seatsAll_2 ?_
  refine lv_iconst (v := (0 : Int32)) C.1 C.2.1 dX12_seatsAll_5 rfl ?_
  refine zald C hS sh_101 (hm 101 (by decide)) (vp_in_iff.mpr (by decide)) dX12_seatsAll_6 ?_
  refine lv_icmp_ne (tgt := 64) C.1 C.2.1 dX12_seatsAll_7 (by decide) (fun hc => ?_) (fun hc => ?_)
  · have hf := zif_f hc hf
    refine lv_iconst (v := (1 : Int32)) C.1 C.2.1 dX12_seatsAll_64 rfl ?_
    refine lv_istore_n (lv' := [(3, .int (1 : Int32)), (0, .ref (zal G 100)), (1, .int x1), (2, .int x2)]) C.1 C.2.1 dX12_seatsAll_65 rfl hl (by decide) rfl (fun ls hl => ?_)
    exact w_X12_seatsAll_b_66 C hm hk hn hF  zN _ _ _ _ _ _ _ (lv_sub hl [1, 2, 3, 0] rfl) hS hf
  · have hf := zif_t hc hf
    refine lv_aload_n C.1 C.2.1 dX12_seatsAll_10 rfl (lv_at hl 0 rfl) ?_
    obtain ⟨r6, h7, er6, hf⟩ := zbd_some hf
    refine zcallVI (As := []) (rest := []) C hS mv_X12_299 (c_X12_merryNow l G h  (r6, h7) (fun c h => hm c (sn_X12_seatsAll_b_X12_merryNow c h)) (fun q h => hk q (sl_X12_seatsAll_b_X12_merryNow q h)) er6) (hm 100 (by decide)) ⟨_, _, _, sh_100, rfl, rfl⟩ rfl rfl (Nat.le_of_ble_eq_true rfl) hl.1 ⟨by show 7 + 1 ≤ nq + 1; omega, by show 60 + 60 * (7) ≤ 60 * (nq + 1); omega, Nat.le_of_ble_eq_true rfl, Nat.le_of_ble_eq_true rfl⟩ dX12_seatsAll_11 (fun H locs hS => ?_)
    refine lv_istore_n (lv' := [(3, .int r6), (0, .ref (zal G 100)), (1, .int x1), (2, .int x2)]) C.1 C.2.1 dX12_seatsAll_14 rfl hl (by decide) rfl (fun ls hl => ?_)
    refine lv_iload_n C.1 C.2.1 dX12_seatsAll_15 rfl (lv_at hl 0 rfl) ?_
    refine lv_aload_n C.1 C.2.1 dX12_seatsAll_16 rfl (lv_at hl 1 rfl) ?_
    refine zgetI C hS ff_X12_317_100 (hm 100 (by decide)) dX12_seatsAll_17 ?_
    refine lv_icmp_gt (tgt := 24) C.1 C.2.1 dX12_seatsAll_20 (by decide) (fun hc => ?_) (fun hc => ?_)
    · have hf := zif_t hc hf
      refine lv_aload_n C.1 C.2.1 dX12_seatsAll_24 rfl (lv_at hl 1 rfl) ?_
      refine lv_iload_n C.1 C.2.1 dX12_seatsAll_25 rfl (lv_at hl 0 rfl) ?_
      refine zputI C hS ff_X12_317_100 fw_100_35 (hm 100 (by decide)) dX12_seatsAll_26 (fun H locs hS => ?_)
      obtain ⟨h8, eh8, hf⟩ := zst_some hf
      have hS : zS G h8 s.heap H locs := by rw [eh8]; exact hS
      refine lv_iconst (v := (0 : Int32)) C.1 C.2.1 dX12_seatsAll_29 rfl ?_
      refine lv_istore (lv' := [(4, .int (0 : Int32)), (3, .int r6), (0, .ref (zal G 100)), (1, .int x1), (2, .int x2)]) C.1 C.2.1 dX12_seatsAll_30 hl (by decide) rfl (fun ls hl => ?_)
      exact w_X12_seatsAll_b_32 C hm hk hn hF  zN _ _ _ _ _ (lv_sub hl [2, 0] rfl) hS hf
    · have hf := zif_f hc hf
      exact zretV C hS hf dX12_seatsAll_23
def f_X12_seatsAll : Nat → Int32 → Int32 → zH → zR
  | 0 => fun _ _ _ => none
  | d + 1 => fun x1 x2 h => f_X12_seatsAll_b (f_X12_seatsAll d) x1 x2 h
theorem c_X12_seatsAll (l : Launch) (G : zG) (hm : ∀ c ∈ nd_X12_seatsAll_b, c ∈ znm G) (hk : ∀ q ∈ ld_X12_seatsAll_b, zlk G q.1 q.2 = true) : ∀ (d : Nat) (h : zH) (x1 : Int32) (x2 : Int32) (q : Int32 × zH), f_X12_seatsAll d x1 x2 h = some q → zCtV l yX12_seatsAll cX12_seatsAll 5 none (7 + 1 * d) [.ref (zal G 100), .int x1, .int x2] G h q.2 := by
  intro d
  induction d with
  | zero => intro h x1 x2 q hf; cases hf
  | succ d ih =>
    intro h x1 x2 q hf
    have e := c_X12_seatsAll_b l G h (f_X12_seatsAll d) (7 + 1 * d) (Nat.le_add_right _ _) ih x1 x2 q hm hk hf
    rw [show 7 + 1 * d + 1 = 7 + 1 * (d + 1) by omega] at e
    exact e
end
section
theorem dX12_seating_0 : decode cX12_seating 0 = .ok (.aload_n 0, 1) := by decide +kernel
theorem dX12_seating_1 : decode cX12_seating 1 = .ok (.getfield 7, 3) := by decide +kernel
theorem dX12_seating_4 : decode cX12_seating 4 = .ok (.iconst 4, 1) := by decide +kernel
theorem dX12_seating_5 : decode cX12_seating 5 = .ok (.iaload, 1) := by decide +kernel
theorem dX12_seating_6 : decode cX12_seating 6 = .ok (.istore_n 2, 1) := by decide +kernel
theorem dX12_seating_7 : decode cX12_seating 7 = .ok (.iload_n 2, 1) := by decide +kernel
theorem dX12_seating_8 : decode cX12_seating 8 = .ok (.iconst 3, 1) := by decide +kernel
theorem dX12_seating_9 : decode cX12_seating 9 = .ok (.bipush 7, 2) := by decide +kernel
theorem dX12_seating_11 : decode cX12_seating 11 = .ok (.invokestatic 65, 3) := by decide +kernel
theorem dX12_seating_14 : decode cX12_seating 14 = .ok (.ifCond .eq 20, 3) := by decide +kernel
theorem dX12_seating_17 : decode cX12_seating 17 = .ok (.iload_n 1, 1) := by decide +kernel
theorem dX12_seating_18 : decode cX12_seating 18 = .ok (.ifCond .eq 18, 3) := by decide +kernel
theorem dX12_seating_21 : decode cX12_seating 21 = .ok (.iload_n 1, 1) := by decide +kernel
theorem dX12_seating_22 : decode cX12_seating 22 = .ok (.bipush 10, 2) := by decide +kernel
theorem dX12_seating_24 : decode cX12_seating 24 = .ok (.bipush 9, 2) := by decide +kernel
theorem dX12_seating_26 : decode cX12_seating 26 = .ok (.iload_n 2, 1) := by decide +kernel
theorem dX12_seating_27 : decode cX12_seating 27 = .ok (.iadd, 1) := by decide +kernel
theorem dX12_seating_28 : decode cX12_seating 28 = .ok (.invokestatic 65, 3) := by decide +kernel
theorem dX12_seating_31 : decode cX12_seating 31 = .ok (.ifCond .ne 5, 3) := by decide +kernel
theorem dX12_seating_34 : decode cX12_seating 34 = .ok (.iconst (-1), 1) := by decide +kernel
theorem dX12_seating_35 : decode cX12_seating 35 = .ok (.ireturn, 1) := by decide +kernel
theorem dX12_seating_36 : decode cX12_seating 36 = .ok (.aload_n 0, 1) := by decide +kernel
theorem dX12_seating_37 : decode cX12_seating 37 = .ok (.getfield 7, 3) := by decide +kernel
theorem dX12_seating_40 : decode cX12_seating 40 = .ok (.iconst 0, 1) := by decide +kernel
theorem dX12_seating_41 : decode cX12_seating 41 = .ok (.iaload, 1) := by decide +kernel
theorem dX12_seating_42 : decode cX12_seating 42 = .ok (.istore_n 3, 1) := by decide +kernel
theorem dX12_seating_43 : decode cX12_seating 43 = .ok (.aload_n 0, 1) := by decide +kernel
theorem dX12_seating_44 : decode cX12_seating 44 = .ok (.invokevirtual 323, 3) := by decide +kernel
theorem dX12_seating_47 : decode cX12_seating 47 = .ok (.aload_n 0, 1) := by decide +kernel
theorem dX12_seating_48 : decode cX12_seating 48 = .ok (.getfield 7, 3) := by decide +kernel
theorem dX12_seating_51 : decode cX12_seating 51 = .ok (.iconst 0, 1) := by decide +kernel
theorem dX12_seating_52 : decode cX12_seating 52 = .ok (.iload_n 2, 1) := by decide +kernel
theorem dX12_seating_53 : decode cX12_seating 53 = .ok (.iastore, 1) := by decide +kernel
theorem dX12_seating_54 : decode cX12_seating 54 = .ok (.aload_n 0, 1) := by decide +kernel
theorem dX12_seating_55 : decode cX12_seating 55 = .ok (.iconst (-1), 1) := by decide +kernel
theorem dX12_seating_56 : decode cX12_seating 56 = .ok (.putfield 317, 3) := by decide +kernel
theorem dX12_seating_59 : decode cX12_seating 59 = .ok (.aload_n 0, 1) := by decide +kernel
theorem dX12_seating_60 : decode cX12_seating 60 = .ok (.iconst 0, 1) := by decide +kernel
theorem dX12_seating_61 : decode cX12_seating 61 = .ok (.iconst 0, 1) := by decide +kernel
theorem dX12_seating_62 : decode cX12_seating 62 = .ok (.invokevirtual 102, 3) := by decide +kernel
theorem dX12_seating_65 : decode cX12_seating 65 = .ok (.aload_n 0, 1) := by decide +kernel
theorem dX12_seating_66 : decode cX12_seating 66 = .ok (.iconst 1, 1) := by decide +kernel
theorem dX12_seating_67 : decode cX12_seating 67 = .ok (.iconst 1, 1) := by decide +kernel
theorem dX12_seating_68 : decode cX12_seating 68 = .ok (.invokevirtual 320, 3) := by decide +kernel
theorem dX12_seating_71 : decode cX12_seating 71 = .ok (.aload_n 0, 1) := by decide +kernel
theorem dX12_seating_72 : decode cX12_seating 72 = .ok (.getfield 7, 3) := by decide +kernel
theorem dX12_seating_75 : decode cX12_seating 75 = .ok (.iconst 0, 1) := by decide +kernel
theorem dX12_seating_76 : decode cX12_seating 76 = .ok (.iload_n 3, 1) := by decide +kernel
theorem dX12_seating_77 : decode cX12_seating 77 = .ok (.iastore, 1) := by decide +kernel
theorem dX12_seating_78 : decode cX12_seating 78 = .ok (.aload_n 0, 1) := by decide +kernel
theorem dX12_seating_79 : decode cX12_seating 79 = .ok (.invokevirtual 326, 3) := by decide +kernel
theorem dX12_seating_82 : decode cX12_seating 82 = .ok (.iload_n 1, 1) := by decide +kernel
theorem dX12_seating_83 : decode cX12_seating 83 = .ok (.ifCond .ne 10, 3) := by decide +kernel
theorem dX12_seating_86 : decode cX12_seating 86 = .ok (.aload_n 0, 1) := by decide +kernel
theorem dX12_seating_87 : decode cX12_seating 87 = .ok (.getfield 317, 3) := by decide +kernel
theorem dX12_seating_90 : decode cX12_seating 90 = .ok (.goto 12, 3) := by decide +kernel
theorem dX12_seating_93 : decode cX12_seating 93 = .ok (.aload_n 0, 1) := by decide +kernel
theorem dX12_seating_94 : decode cX12_seating 94 = .ok (.getfield 56, 3) := by decide +kernel
theorem dX12_seating_97 : decode cX12_seating 97 = .ok (.iload_n 1, 1) := by decide +kernel
theorem dX12_seating_98 : decode cX12_seating 98 = .ok (.bipush 10, 2) := by decide +kernel
theorem dX12_seating_100 : decode cX12_seating 100 = .ok (.isub, 1) := by decide +kernel
theorem dX12_seating_101 : decode cX12_seating 101 = .ok (.iaload, 1) := by decide +kernel
theorem dX12_seating_102 : decode cX12_seating 102 = .ok (.ireturn, 1) := by decide +kernel
abbrev nd_X12_seating : List Nat := [100, 101, 104, 108, 109, 114, 115]
abbrev ld_X12_seating : List (Nat × Nat) := [(100, 0), (100, 3), (100, 9), (100, 10), (100, 33), (100, 34)]
theorem sn_X12_seating_X12_isIn : ∀ c ∈ nd_X12_isIn, c ∈ nd_X12_seating := by decide
theorem sl_X12_seating_X12_isIn : ∀ q ∈ ld_X12_isIn, q ∈ ld_X12_seating := by decide
theorem sn_X12_seating_X12_laysSeats : ∀ c ∈ nd_X12_laysSeats, c ∈ nd_X12_seating := by decide
theorem sl_X12_seating_X12_laysSeats : ∀ q ∈ ld_X12_laysSeats, q ∈ ld_X12_seating := by decide
theorem sn_X12_seating_X12_sits : ∀ c ∈ nd_X12_sits, c ∈ nd_X12_seating := by decide
theorem sl_X12_seating_X12_sits : ∀ q ∈ ld_X12_sits, q ∈ ld_X12_seating := by decide
theorem sn_X12_seating_X12_seatsAll_b : ∀ c ∈ nd_X12_seatsAll_b, c ∈ nd_X12_seating := by decide
theorem sl_X12_seating_X12_seatsAll_b : ∀ q ∈ ld_X12_seatsAll_b, q ∈ ld_X12_seating := by decide
theorem sn_X12_seating_X12_backToSeats : ∀ c ∈ nd_X12_backToSeats, c ∈ nd_X12_seating := by decide
theorem sl_X12_seating_X12_backToSeats : ∀ q ∈ ld_X12_backToSeats, q ∈ ld_X12_seating := by decide
def f_X12_seating_34  (h : zH) : zR := (some ((-1 : Int32), h))
def f_X12_seating_36  (x1 : Int32) (x2 : Int32) (h : zH) : zR := (zlt (h 101 0) fun y4 => (zbd (f_X12_laysSeats  h) fun r5 h6 => (zst (zup h6 101 0 x2) fun h7 => (zst (zup h7 100 35 (-1 : Int32)) fun h8 => (zbd (f_X12_sits (0 : Int32) (0 : Int32) h8) fun r9 h10 => (zbd (f_X12_seatsAll 12 (1 : Int32) (1 : Int32) h10) fun r11 h12 => (zst (zup h12 101 0 y4) fun h13 => (zbd (f_X12_backToSeats  h13) fun r14 h15 => (if x1 = 0 then (some ((h15 100 35), h15)) else (zck (x1 - (10 : Int32)) 8 (some ((h15 115 (Int32.toNatClampNeg (x1 - (10 : Int32)))), h15))))))))))))
def f_X12_seating  (x1 : Int32) (h : zH) : zR := (zlt (h 101 4) fun y1 => (zbd (f_X12_isIn y1 (3 : Int32) (7 : Int32) h) fun r2 h3 => (if r2 = 0 then (f_X12_seating_34   h3) else (if x1 = 0 then (f_X12_seating_36  x1 y1 h3) else (zbd (f_X12_isIn x1 (10 : Int32) ((9 : Int32) + y1) h3) fun r16 h17 => (if r16 = 0 then (f_X12_seating_34   h17) else (f_X12_seating_36  x1 y1 h17)))))))
variable {p : Program} {l : Launch} {e : Env} {s : State} {m : MethodId} {args : Array Value} {below : List Frame} {meth : Method} {c : Code} {G : zG} {q : Int32 × zH}
set_option maxHeartbeats 4000000 in
set_option maxRecDepth 100000 in
theorem w_X12_seating_34  (C : zC G p s m args meth c cX12_seating 4 RX12 (some .int)) (hm : ∀ c ∈ nd_X12_seating, c ∈ znm G) (hk : ∀ q ∈ ld_X12_seating, zlk G q.1 q.2 = true)  : ∀ (ls : Array Slot) (H : Heap) (locs : List Loc) (h : zH), lv_has ls 4 [] → zS G h s.heap H locs → f_X12_seating_34  h = some q → W p l e (zrm (20)) s m args below meth c H locs 0 0 (MQ below (zQI G q.2 q.1) args s 0 0 (zA G)) (F0 m 34 ls []) := by
  intro ls H locs h hl hS hf
  unfold f_X12_seating_34 at hf
  refine lv_iconst (v := (-1 : Int32)) C.1 C.2.1 dX12_seating_34 rfl ?_
  exact zretI C hS hf dX12_seating_35
set_option maxHeartbeats 4000000 in
set_option maxRecDepth 100000 in
theorem w_X12_seating_36  (C : zC G p s m args meth c cX12_seating 4 RX12 (some .int)) (hm : ∀ c ∈ nd_X12_seating, c ∈ znm G) (hk : ∀ q ∈ ld_X12_seating, zlk G q.1 q.2 = true)  : ∀ (ls : Array Slot) (H : Heap) (locs : List Loc) (h : zH) (x1 : Int32) (x2 : Int32), lv_has ls 4 [(0, .ref (zal G 100)), (1, .int x1), (2, .int x2)] → zS G h s.heap H locs → f_X12_seating_36  x1 x2 h = some q → W p l e (zrm (20)) s m args below meth c H locs 0 0 (MQ below (zQI G q.2 q.1) args s 0 0 (zA G)) (F0 m 36 ls []) := by
  intro ls H locs h x1 x2 hl hS hf
  unfold f_X12_seating_36 at hf
  refine lv_aload_n C.1 C.2.1 dX12_seating_36 rfl (lv_at hl 0 rfl) ?_
  refine zgetR C hS ff_X12_7_100 (hm 100 (by decide)) (hk (100, 0) (by decide)) dX12_seating_37 ?_
  refine lv_iconst (v := (0 : Int32)) C.1 C.2.1 dX12_seating_40 rfl ?_
  refine zald C hS sh_101 (hm 101 (by decide)) (vp_in_iff.mpr (by decide)) dX12_seating_41 ?_
  obtain ⟨y4, ey4, hf⟩ := zlt_some hf
  refine ztop ey4 ?_
  refine lv_istore_n (lv' := [(3, .int y4), (0, .ref (zal G 100)), (1, .int x1), (2, .int x2)]) C.1 C.2.1 dX12_seating_42 rfl hl (by decide) rfl (fun ls hl => ?_)
  refine lv_aload_n C.1 C.2.1 dX12_seating_43 rfl (lv_at hl 1 rfl) ?_
  obtain ⟨r5, h6, er5, hf⟩ := zbd_some hf
  refine zcallVV (As := []) (rest := []) C hS mv_X12_323 (c_X12_laysSeats l G h  (r5, h6) (fun c h => hm c (sn_X12_seating_X12_laysSeats c h)) (fun q h => hk q (sl_X12_seating_X12_laysSeats q h)) er5) (hm 100 (by decide)) ⟨_, _, _, sh_100, rfl, rfl⟩ rfl rfl (Nat.le_of_ble_eq_true rfl) hl.1 ⟨Nat.le_of_ble_eq_true rfl, Nat.le_of_ble_eq_true rfl, Nat.le_of_ble_eq_true rfl, Nat.le_of_ble_eq_true rfl⟩ dX12_seating_44 (fun H locs hS => ?_)
  refine lv_aload_n C.1 C.2.1 dX12_seating_47 rfl (lv_at hl 1 rfl) ?_
  refine zgetR C hS ff_X12_7_100 (hm 100 (by decide)) (hk (100, 0) (by decide)) dX12_seating_48 ?_
  refine lv_iconst (v := (0 : Int32)) C.1 C.2.1 dX12_seating_51 rfl ?_
  refine lv_iload_n C.1 C.2.1 dX12_seating_52 rfl (lv_at hl 3 rfl) ?_
  refine zast C hS sh_101 (hm 101 (by decide)) (vp_in_iff.mpr (by decide)) dX12_seating_53 (fun H locs hS => ?_)
  obtain ⟨h7, eh7, hf⟩ := zst_some hf
  have hS : zS G h7 s.heap H locs := by rw [eh7]; exact hS
  refine lv_aload_n C.1 C.2.1 dX12_seating_54 rfl (lv_at hl 1 rfl) ?_
  refine lv_iconst (v := (-1 : Int32)) C.1 C.2.1 dX12_seating_55 rfl ?_
  refine zputI C hS ff_X12_317_100 fw_100_35 (hm 100 (by decide)) dX12_seating_56 (fun H locs hS => ?_)
  obtain ⟨h8, eh8, hf⟩ := zst_some hf
  have hS : zS G h8 s.heap H locs := by rw [eh8]; exact hS
  refine lv_aload_n C.1 C.2.1 dX12_seating_59 rfl (lv_at hl 1 rfl) ?_
  refine lv_iconst (v := (0 : Int32)) C.1 C.2.1 dX12_seating_60 rfl ?_
  refine lv_iconst (v := (0 : Int32)) C.1 C.2.1 dX12_seating_61 rfl ?_
  obtain ⟨r9, h10, er9, hf⟩ := zbd_some hf
  refine zcallVV (As := [.int (0 : Int32), .int (0 : Int32)]) (rest := []) C hS mv_X12_102 (c_X12_sits l G h8 (0 : Int32) (0 : Int32) (r9, h10) (fun c h => hm c (sn_X12_seating_X12_sits c h)) (fun q h => hk q (sl_X12_seating_X12_sits q h)) er9) (hm 100 (by decide)) ⟨_, _, _, sh_100, rfl, rfl⟩ rfl rfl (Nat.le_of_ble_eq_true rfl) hl.1 ⟨Nat.le_of_ble_eq_true rfl, Nat.le_of_ble_eq_true rfl, Nat.le_of_ble_eq_true rfl, Nat.le_of_ble_eq_true rfl⟩ dX12_seating_62 (fun H locs hS => ?_)
  refine lv_aload_n C.1 C.2.1 dX12_seating_65 rfl (lv_at hl 1 rfl) ?_
  refine lv_iconst (v := (1 : Int32)) C.1 C.2.1 dX12_seating_66 rfl ?_
  refine lv_iconst (v := (1 : Int32)) C.1 C.2.1 dX12_seating_67 rfl ?_
  obtain ⟨r11, h12, er11, hf⟩ := zbd_some hf
  refine zcallVV (As := [.int (1 : Int32), .int (1 : Int32)]) (rest := []) C hS mv_X12_320 (c_X12_seatsAll l G (fun c h => hm c (sn_X12_seating_X12_seatsAll_b c h)) (fun q h => hk q (sl_X12_seating_X12_seatsAll_b q h)) 12 h10 (1 : Int32) (1 : Int32) (r11, h12) er11) (hm 100 (by decide)) ⟨_, _, _, sh_100, rfl, rfl⟩ rfl rfl (Nat.le_of_ble_eq_true rfl) hl.1 ⟨Nat.le_of_ble_eq_true rfl, Nat.le_of_ble_eq_true rfl, Nat.le_of_ble_eq_true rfl, Nat.le_of_ble_eq_true rfl⟩ dX12_seating_68 (fun H locs hS => ?_)
  refine lv_aload_n C.1 C.2.1 dX12_seating_71 rfl (lv_at hl 1 rfl) ?_
  refine zgetR C hS ff_X12_7_100 (hm 100 (by decide)) (hk (100, 0) (by decide)) dX12_seating_72 ?_
  refine lv_iconst (v := (0 : Int32)) C.1 C.2.1 dX12_seating_75 rfl ?_
  refine lv_iload_n C.1 C.2.1 dX12_seating_76 rfl (lv_at hl 0 rfl) ?_
  refine zast C hS sh_101 (hm 101 (by decide)) (vp_in_iff.mpr (by decide)) dX12_seating_77 (fun H locs hS => ?_)
  obtain ⟨h13, eh13, hf⟩ := zst_some hf
  have hS : zS G h13 s.heap H locs := by rw [eh13]; exact hS
  refine lv_aload_n C.1 C.2.1 dX12_seating_78 rfl (lv_at hl 1 rfl) ?_
  obtain ⟨r14, h15, er14, hf⟩ := zbd_some hf
  refine zcallVV (As := []) (rest := []) C hS mv_X12_326 (c_X12_backToSeats l G h13  (r14, h15) (fun c h => hm c (sn_X12_seating_X12_backToSeats c h)) (fun q h => hk q (sl_X12_seating_X12_backToSeats q h)) er14) (hm 100 (by decide)) ⟨_, _, _, sh_100, rfl, rfl⟩ rfl rfl (Nat.le_of_ble_eq_true rfl) hl.1 ⟨Nat.le_of_ble_eq_true rfl, Nat.le_of_ble_eq_true rfl, Nat.le_of_ble_eq_true rfl, Nat.le_of_ble_eq_true rfl⟩ dX12_seating_79 (fun H locs hS => ?_)
  refine lv_iload_n C.1 C.2.1 dX12_seating_82 rfl (lv_at hl 2 rfl) ?_
  refine lv_if_ne (tgt := 93) C.1 C.2.1 dX12_seating_83 (by decide) (fun hc => ?_) (fun hc => ?_)
  · have hf := zif_f hc hf
    refine lv_aload_n C.1 C.2.1 dX12_seating_93 rfl (lv_at hl 1 rfl) ?_
    refine zgetR C hS ff_X12_56_100 (hm 100 (by decide)) (hk (100, 34) (by decide)) dX12_seating_94 ?_
    refine lv_iload_n C.1 C.2.1 dX12_seating_97 rfl (lv_at hl 2 rfl) ?_
    refine lv_bipush (v := (10 : Int32)) C.1 C.2.1 dX12_seating_98 rfl ?_
    refine lv_isub C.1 C.2.1 dX12_seating_100 ?_
    obtain ⟨hi, hf⟩ := zck_some hf
    refine zald C hS sh_115 (hm 115 (by decide)) hi dX12_seating_101 ?_
    exact zretI C hS hf dX12_seating_102
  · have hf := zif_t hc hf
    refine lv_aload_n C.1 C.2.1 dX12_seating_86 rfl (lv_at hl 1 rfl) ?_
    refine zgetI C hS ff_X12_317_100 (hm 100 (by decide)) dX12_seating_87 ?_
    refine lv_goto (tgt := 102) C.1 C.2.1 dX12_seating_90 (by decide) ?_
    exact zretI C hS hf dX12_seating_102
set_option maxHeartbeats 4000000 in
set_option maxRecDepth 100000 in
theorem c_X12_seating (l : Launch) (G : zG) (h : zH) (x1 : Int32) (q : Int32 × zH) (hm : ∀ c ∈ nd_X12_seating, c ∈ znm G) (hk : ∀ q ∈ ld_X12_seating, zlk G q.1 q.2 = true) (hf : f_X12_seating x1 h = some q) : zCtI l yX12_seating cX12_seating 4 (some .int) (20) [.ref (zal G 100), .int x1] G h q.2 q.1 := by
  refine zMetI (by decide) (Nat.le_of_ble_eq_true rfl) ?_
  intro p e s m below meth c ls C hl hS
  have hl : lv_has ls 4 [(0, .ref (zal G 100)), (1, .int x1)] := hl
  have C : zC G p s m [.ref (zal G 100), .int x1].toArray meth c cX12_seating 4 RX12 (some .int) := C
  unfold f_X12_seating at hf
  refine lv_aload_n C.1 C.2.1 dX12_seating_0 rfl (lv_at hl 0 rfl) ?_
  refine zgetR C hS ff_X12_7_100 (hm 100 (by decide)) (hk (100, 0) (by decide)) dX12_seating_1 ?_
  refine lv_iconst (v := (4 : Int32)) C.1 C.2.1 dX12_seating_4 rfl ?_
  refine zald C hS sh_101 (hm 101 (by decide)) (vp_in_iff.mpr (by decide)) dX12_seating_5 ?_
  obtain ⟨y1, ey1, hf⟩ := zlt_some hf
  refine ztop ey1 ?_
  refine lv_istore_n (lv' := [(2, .int y1), (0, .ref (zal G 100)), (1, .int x1)]) C.1 C.2.1 dX12_seating_6 rfl hl (by decide) rfl (fun ls hl => ?_)
  refine lv_iload_n C.1 C.2.1 dX12_seating_7 rfl (lv_at hl 0 rfl) ?_
  refine lv_iconst (v := (3 : Int32)) C.1 C.2.1 dX12_seating_8 rfl ?_
  refine lv_bipush (v := (7 : Int32)) C.1 C.2.1 dX12_seating_9 rfl ?_
  obtain ⟨r2, h3, er2, hf⟩ := zbd_some hf
  refine zcallSI (As := [.int y1, .int (3 : Int32), .int (7 : Int32)]) (rest := []) C hS ms_X12_65 (c_X12_isIn l G h y1 (3 : Int32) (7 : Int32) (r2, h3) (fun c h => hm c (sn_X12_seating_X12_isIn c h)) (fun q h => hk q (sl_X12_seating_X12_isIn q h)) er2) rfl rfl (Nat.le_of_ble_eq_true rfl) hl.1 ⟨Nat.le_of_ble_eq_true rfl, Nat.le_of_ble_eq_true rfl, Nat.le_of_ble_eq_true rfl, Nat.le_of_ble_eq_true rfl⟩ dX12_seating_11 (fun H locs hS => ?_)
  refine lv_if_eq (tgt := 34) C.1 C.2.1 dX12_seating_14 (by decide) (fun hc => ?_) (fun hc => ?_)
  · have hf := zif_t hc hf
    exact w_X12_seating_34 C hm hk  _ _ _ _ (lv_sub hl [] rfl) hS hf
  · have hf := zif_f hc hf
    refine lv_iload_n C.1 C.2.1 dX12_seating_17 rfl (lv_at hl 2 rfl) ?_
    refine lv_if_eq (tgt := 36) C.1 C.2.1 dX12_seating_18 (by decide) (fun hc => ?_) (fun hc => ?_)
    · have hf := zif_t hc hf
      exact w_X12_seating_36 C hm hk  _ _ _ _ _ _ (lv_sub hl [1, 2, 0] rfl) hS hf
    · have hf := zif_f hc hf
      refine lv_iload_n C.1 C.2.1 dX12_seating_21 rfl (lv_at hl 2 rfl) ?_
      refine lv_bipush (v := (10 : Int32)) C.1 C.2.1 dX12_seating_22 rfl ?_
      refine lv_bipush (v := (9 : Int32)) C.1 C.2.1 dX12_seating_24 rfl ?_
      refine lv_iload_n C.1 C.2.1 dX12_seating_26 rfl (lv_at hl 0 rfl) ?_
      refine lv_iadd C.1 C.2.1 dX12_seating_27 ?_
      obtain ⟨r16, h17, er16, hf⟩ := zbd_some hf
      refine zcallSI (As := [.int x1, .int (10 : Int32), .int ((9 : Int32) + y1)]) (rest := []) C hS ms_X12_65 (c_X12_isIn l G h3 x1 (10 : Int32) ((9 : Int32) + y1) (r16, h17) (fun c h => hm c (sn_X12_seating_X12_isIn c h)) (fun q h => hk q (sl_X12_seating_X12_isIn q h)) er16) rfl rfl (Nat.le_of_ble_eq_true rfl) hl.1 ⟨Nat.le_of_ble_eq_true rfl, Nat.le_of_ble_eq_true rfl, Nat.le_of_ble_eq_true rfl, Nat.le_of_ble_eq_true rfl⟩ dX12_seating_28 (fun H locs hS => ?_)
      refine lv_if_ne (tgt := 36) C.1 C.2.1 dX12_seating_31 (by decide) (fun hc => ?_) (fun hc => ?_)
      · have hf := zif_f hc hf
        exact w_X12_seating_36 C hm hk  _ _ _ _ _ _ (lv_sub hl [1, 2, 0] rfl) hS hf
      · have hf := zif_t hc hf
        exact w_X12_seating_34 C hm hk  _ _ _ _ (lv_sub hl [] rfl) hS hf
end
section
theorem dX12_image_0 : decode cX12_image 0 = .ok (.iload_n 1, 1) := by decide +kernel
theorem dX12_image_1 : decode cX12_image 1 = .ok (.ifCond .ne 12, 3) := by decide +kernel
theorem dX12_image_4 : decode cX12_image 4 = .ok (.aload_n 0, 1) := by decide +kernel
theorem dX12_image_5 : decode cX12_image 5 = .ok (.getfield 347, 3) := by decide +kernel
theorem dX12_image_8 : decode cX12_image 8 = .ok (.ifCond .ne 5, 3) := by decide +kernel
theorem dX12_image_11 : decode cX12_image 11 = .ok (.iconst 0, 1) := by decide +kernel
theorem dX12_image_12 : decode cX12_image 12 = .ok (.ireturn, 1) := by decide +kernel
theorem dX12_image_13 : decode cX12_image 13 = .ok (.iconst 0, 1) := by decide +kernel
theorem dX12_image_14 : decode cX12_image 14 = .ok (.istore_n 2, 1) := by decide +kernel
theorem dX12_image_15 : decode cX12_image 15 = .ok (.iload_n 2, 1) := by decide +kernel
theorem dX12_image_16 : decode cX12_image 16 = .ok (.sipush 2220, 3) := by decide +kernel
theorem dX12_image_19 : decode cX12_image 19 = .ok (.if_icmp .ge 40, 3) := by decide +kernel
theorem dX12_image_22 : decode cX12_image 22 = .ok (.iload_n 1, 1) := by decide +kernel
theorem dX12_image_23 : decode cX12_image 23 = .ok (.ifCond .eq 18, 3) := by decide +kernel
theorem dX12_image_26 : decode cX12_image 26 = .ok (.aload_n 0, 1) := by decide +kernel
theorem dX12_image_27 : decode cX12_image 27 = .ok (.getfield 13, 3) := by decide +kernel
theorem dX12_image_30 : decode cX12_image 30 = .ok (.iload_n 2, 1) := by decide +kernel
theorem dX12_image_31 : decode cX12_image 31 = .ok (.aload_n 0, 1) := by decide +kernel
theorem dX12_image_32 : decode cX12_image 32 = .ok (.getfield 7, 3) := by decide +kernel
theorem dX12_image_35 : decode cX12_image 35 = .ok (.iload_n 2, 1) := by decide +kernel
theorem dX12_image_36 : decode cX12_image 36 = .ok (.iaload, 1) := by decide +kernel
theorem dX12_image_37 : decode cX12_image 37 = .ok (.iastore, 1) := by decide +kernel
theorem dX12_image_38 : decode cX12_image 38 = .ok (.goto 15, 3) := by decide +kernel
theorem dX12_image_41 : decode cX12_image 41 = .ok (.aload_n 0, 1) := by decide +kernel
theorem dX12_image_42 : decode cX12_image 42 = .ok (.getfield 7, 3) := by decide +kernel
theorem dX12_image_45 : decode cX12_image 45 = .ok (.iload_n 2, 1) := by decide +kernel
theorem dX12_image_46 : decode cX12_image 46 = .ok (.aload_n 0, 1) := by decide +kernel
theorem dX12_image_47 : decode cX12_image 47 = .ok (.getfield 13, 3) := by decide +kernel
theorem dX12_image_50 : decode cX12_image 50 = .ok (.iload_n 2, 1) := by decide +kernel
theorem dX12_image_51 : decode cX12_image 51 = .ok (.iaload, 1) := by decide +kernel
theorem dX12_image_52 : decode cX12_image 52 = .ok (.iastore, 1) := by decide +kernel
theorem dX12_image_53 : decode cX12_image 53 = .ok (.iinc 2 1, 3) := by decide +kernel
theorem dX12_image_56 : decode cX12_image 56 = .ok (.goto (-41), 3) := by decide +kernel
theorem dX12_image_59 : decode cX12_image 59 = .ok (.iload_n 1, 1) := by decide +kernel
theorem dX12_image_60 : decode cX12_image 60 = .ok (.ifCond .ne 7, 3) := by decide +kernel
theorem dX12_image_63 : decode cX12_image 63 = .ok (.aload_n 0, 1) := by decide +kernel
theorem dX12_image_64 : decode cX12_image 64 = .ok (.invokevirtual 76, 3) := by decide +kernel
theorem dX12_image_67 : decode cX12_image 67 = .ok (.aload_n 0, 1) := by decide +kernel
theorem dX12_image_68 : decode cX12_image 68 = .ok (.iconst 1, 1) := by decide +kernel
theorem dX12_image_69 : decode cX12_image 69 = .ok (.putfield 347, 3) := by decide +kernel
theorem dX12_image_72 : decode cX12_image 72 = .ok (.iconst 1, 1) := by decide +kernel
theorem dX12_image_73 : decode cX12_image 73 = .ok (.ireturn, 1) := by decide +kernel
abbrev nd_X12_image : List Nat := [100, 101, 102]
abbrev ld_X12_image : List (Nat × Nat) := [(100, 0), (100, 1)]
theorem sn_X12_image_X12_forgets : ∀ c ∈ nd_X12_forgets, c ∈ nd_X12_image := by decide
theorem sl_X12_image_X12_forgets : ∀ q ∈ ld_X12_forgets, q ∈ ld_X12_image := by decide
def f_X12_image_67  (h : zH) : zR := (zst (zup h 100 5 (1 : Int32)) fun h1 => (some ((1 : Int32), h1)))
def f_X12_image_53 (k15 : Int32 → Int32 → zH → zR) (x1 : Int32) (x2 : Int32) (h : zH) : zR := (zlt (x2 + (1 : Int32)) fun y5 => (k15 x1 y5 h))
def f_X12_image_15  : Nat → Int32 → Int32 → zH → zR
  | 0 => fun _ _ _ => none
  | n + 1 => fun x1 x2 h => (if (2220 : Int32) ≤ x2 then (if x1 = 0 then (zbd (f_X12_forgets  h) fun r2 h3 => (f_X12_image_67   h3)) else (f_X12_image_67   h)) else (if x1 = 0 then (zck x2 2220 (zck x2 2220 (zst (zup h 101 (Int32.toNatClampNeg x2) (h 102 (Int32.toNatClampNeg x2))) fun h4 => (f_X12_image_53 (f_X12_image_15  n) x1 x2 h4)))) else (zck x2 2220 (zck x2 2220 (zst (zup h 102 (Int32.toNatClampNeg x2) (h 101 (Int32.toNatClampNeg x2))) fun h6 => (f_X12_image_53 (f_X12_image_15  n) x1 x2 h6))))))
def f_X12_image_13  (x1 : Int32) (h : zH) : zR := (f_X12_image_15  zN x1 (0 : Int32) h)
def f_X12_image  (x1 : Int32) (h : zH) : zR := (if x1 = 0 then (if (h 100 5) = 0 then (some ((0 : Int32), h)) else (f_X12_image_13  x1 h)) else (f_X12_image_13  x1 h))
variable {p : Program} {l : Launch} {e : Env} {s : State} {m : MethodId} {args : Array Value} {below : List Frame} {meth : Method} {c : Code} {G : zG} {q : Int32 × zH}
set_option maxHeartbeats 4000000 in
set_option maxRecDepth 100000 in
theorem w_X12_image_67  (C : zC G p s m args meth c cX12_image 3 RX12 (some .boolean)) (hm : ∀ c ∈ nd_X12_image, c ∈ znm G) (hk : ∀ q ∈ ld_X12_image, zlk G q.1 q.2 = true)  : ∀ (ls : Array Slot) (H : Heap) (locs : List Loc) (h : zH), lv_has ls 3 [(0, .ref (zal G 100))] → zS G h s.heap H locs → f_X12_image_67  h = some q → W p l e (zrm (3)) s m args below meth c H locs 0 0 (MQ below (zQI G q.2 q.1) args s 0 0 (zA G)) (F0 m 67 ls []) := by
  intro ls H locs h hl hS hf
  unfold f_X12_image_67 at hf
  refine lv_aload_n C.1 C.2.1 dX12_image_67 rfl (lv_at hl 0 rfl) ?_
  refine lv_iconst (v := (1 : Int32)) C.1 C.2.1 dX12_image_68 rfl ?_
  refine zputB C hS ff_X12_347_100 ⟨rfl, rfl⟩ fz_100_5 (hm 100 (by decide)) dX12_image_69 (fun H locs hS => ?_)
  obtain ⟨h1, eh1, hf⟩ := zst_some hf
  have hS : zS G h1 s.heap H locs := by rw [eh1]; exact hS
  refine lv_iconst (v := (1 : Int32)) C.1 C.2.1 dX12_image_72 rfl ?_
  exact zretZ C hS rfl hf dX12_image_73
set_option maxHeartbeats 4000000 in
set_option maxRecDepth 100000 in
theorem w_X12_image_53 {k15 : Int32 → Int32 → zH → zR} (C : zC G p s m args meth c cX12_image 3 RX12 (some .boolean)) (hm : ∀ c ∈ nd_X12_image, c ∈ znm G) (hk : ∀ q ∈ ld_X12_image, zlk G q.1 q.2 = true) (hk15 : ∀ (ls : Array Slot) (H : Heap) (locs : List Loc) (h : zH) (x1 : Int32) (x2 : Int32), lv_has ls 3 [(0, .ref (zal G 100)), (1, .int x1), (2, .int x2)] → zS G h s.heap H locs → k15 x1 x2 h = some q → W p l e (zrm (3)) s m args below meth c H locs 0 0 (MQ below (zQI G q.2 q.1) args s 0 0 (zA G)) (F0 m 15 ls [])) : ∀ (ls : Array Slot) (H : Heap) (locs : List Loc) (h : zH) (x1 : Int32) (x2 : Int32), lv_has ls 3 [(0, .ref (zal G 100)), (1, .int x1), (2, .int x2)] → zS G h s.heap H locs → f_X12_image_53 k15 x1 x2 h = some q → W p l e (zrm (3)) s m args below meth c H locs 0 0 (MQ below (zQI G q.2 q.1) args s 0 0 (zA G)) (F0 m 53 ls []) := by
  intro ls H locs h x1 x2 hl hS hf
  unfold f_X12_image_53 at hf
  obtain ⟨y5, ey5, hf⟩ := zlt_some hf
  refine lv_iinc (v := y5) (lv' := [(2, .int y5), (0, .ref (zal G 100)), (1, .int x1)]) C.1 C.2.1 dX12_image_53 hl (k := 2) rfl ey5.symm (by decide) rfl (fun ls hl => ?_)
  refine lv_goto (tgt := 15) C.1 C.2.1 dX12_image_56 (by decide) ?_
  exact hk15 _ _ _ _ _ _ (lv_sub hl [1, 2, 0] rfl) hS hf
set_option maxHeartbeats 4000000 in
set_option maxRecDepth 100000 in
theorem w_X12_image_15  (C : zC G p s m args meth c cX12_image 3 RX12 (some .boolean)) (hm : ∀ c ∈ nd_X12_image, c ∈ znm G) (hk : ∀ q ∈ ld_X12_image, zlk G q.1 q.2 = true)  : ∀ n, ∀ (ls : Array Slot) (H : Heap) (locs : List Loc) (h : zH) (x1 : Int32) (x2 : Int32), lv_has ls 3 [(0, .ref (zal G 100)), (1, .int x1), (2, .int x2)] → zS G h s.heap H locs → f_X12_image_15  n x1 x2 h = some q → W p l e (zrm (3)) s m args below meth c H locs 0 0 (MQ below (zQI G q.2 q.1) args s 0 0 (zA G)) (F0 m 15 ls []) := by
  intro n
  induction n with
  | zero => intro ls H locs h x1 x2 hl hS hf; cases hf
  | succ n ih =>
    intro ls H locs h x1 x2 hl hS hf
    rw [f_X12_image_15] at hf
    refine lv_iload_n C.1 C.2.1 dX12_image_15 rfl (lv_at hl 2 rfl) ?_
    refine lv_sipush (v := (2220 : Int32)) C.1 C.2.1 dX12_image_16 rfl ?_
    refine lv_icmp_ge (tgt := 59) C.1 C.2.1 dX12_image_19 (by decide) (fun hc => ?_) (fun hc => ?_)
    · have hf := zif_t hc hf
      refine lv_iload_n C.1 C.2.1 dX12_image_59 rfl (lv_at hl 1 rfl) ?_
      refine lv_if_ne (tgt := 67) C.1 C.2.1 dX12_image_60 (by decide) (fun hc => ?_) (fun hc => ?_)
      · have hf := zif_f hc hf
        exact w_X12_image_67 C hm hk  _ _ _ _ (lv_sub hl [0] rfl) hS hf
      · have hf := zif_t hc hf
        refine lv_aload_n C.1 C.2.1 dX12_image_63 rfl (lv_at hl 0 rfl) ?_
        obtain ⟨r2, h3, er2, hf⟩ := zbd_some hf
        refine zcallVV (As := []) (rest := []) C hS mv_X12_76 (c_X12_forgets l G h  (r2, h3) (fun c h => hm c (sn_X12_image_X12_forgets c h)) (fun q h => hk q (sl_X12_image_X12_forgets q h)) er2) (hm 100 (by decide)) ⟨_, _, _, sh_100, rfl, rfl⟩ rfl rfl (Nat.le_of_ble_eq_true rfl) hl.1 ⟨Nat.le_of_ble_eq_true rfl, Nat.le_of_ble_eq_true rfl, Nat.le_of_ble_eq_true rfl, Nat.le_of_ble_eq_true rfl⟩ dX12_image_64 (fun H locs hS => ?_)
        exact w_X12_image_67 C hm hk  _ _ _ _ (lv_sub hl [0] rfl) hS hf
    · have hf := zif_f hc hf
      refine lv_iload_n C.1 C.2.1 dX12_image_22 rfl (lv_at hl 1 rfl) ?_
      refine lv_if_eq (tgt := 41) C.1 C.2.1 dX12_image_23 (by decide) (fun hc => ?_) (fun hc => ?_)
      · have hf := zif_t hc hf
        refine lv_aload_n C.1 C.2.1 dX12_image_41 rfl (lv_at hl 0 rfl) ?_
        refine zgetR C hS ff_X12_7_100 (hm 100 (by decide)) (hk (100, 0) (by decide)) dX12_image_42 ?_
        refine lv_iload_n C.1 C.2.1 dX12_image_45 rfl (lv_at hl 2 rfl) ?_
        refine lv_aload_n C.1 C.2.1 dX12_image_46 rfl (lv_at hl 0 rfl) ?_
        refine zgetR C hS ff_X12_13_100 (hm 100 (by decide)) (hk (100, 1) (by decide)) dX12_image_47 ?_
        refine lv_iload_n C.1 C.2.1 dX12_image_50 rfl (lv_at hl 2 rfl) ?_
        obtain ⟨hi, hf⟩ := zck_some hf
        refine zald C hS sh_102 (hm 102 (by decide)) hi dX12_image_51 ?_
        obtain ⟨hi, hf⟩ := zck_some hf
        refine zast C hS sh_101 (hm 101 (by decide)) hi dX12_image_52 (fun H locs hS => ?_)
        obtain ⟨h4, eh4, hf⟩ := zst_some hf
        have hS : zS G h4 s.heap H locs := by rw [eh4]; exact hS
        exact w_X12_image_53 C hm hk ih _ _ _ _ _ _ (lv_sub hl [0, 1, 2] rfl) hS hf
      · have hf := zif_f hc hf
        refine lv_aload_n C.1 C.2.1 dX12_image_26 rfl (lv_at hl 0 rfl) ?_
        refine zgetR C hS ff_X12_13_100 (hm 100 (by decide)) (hk (100, 1) (by decide)) dX12_image_27 ?_
        refine lv_iload_n C.1 C.2.1 dX12_image_30 rfl (lv_at hl 2 rfl) ?_
        refine lv_aload_n C.1 C.2.1 dX12_image_31 rfl (lv_at hl 0 rfl) ?_
        refine zgetR C hS ff_X12_7_100 (hm 100 (by decide)) (hk (100, 0) (by decide)) dX12_image_32 ?_
        refine lv_iload_n C.1 C.2.1 dX12_image_35 rfl (lv_at hl 2 rfl) ?_
        obtain ⟨hi, hf⟩ := zck_some hf
        refine zald C hS sh_101 (hm 101 (by decide)) hi dX12_image_36 ?_
        obtain ⟨hi, hf⟩ := zck_some hf
        refine zast C hS sh_102 (hm 102 (by decide)) hi dX12_image_37 (fun H locs hS => ?_)
        obtain ⟨h6, eh6, hf⟩ := zst_some hf
        have hS : zS G h6 s.heap H locs := by rw [eh6]; exact hS
        refine lv_goto (tgt := 53) C.1 C.2.1 dX12_image_38 (by decide) ?_
        exact w_X12_image_53 C hm hk ih _ _ _ _ _ _ (lv_sub hl [0, 1, 2] rfl) hS hf
set_option maxHeartbeats 4000000 in
set_option maxRecDepth 100000 in
theorem w_X12_image_13  (C : zC G p s m args meth c cX12_image 3 RX12 (some .boolean)) (hm : ∀ c ∈ nd_X12_image, c ∈ znm G) (hk : ∀ q ∈ ld_X12_image, zlk G q.1 q.2 = true)  : ∀ (ls : Array Slot) (H : Heap) (locs : List Loc) (h : zH) (x1 : Int32), lv_has ls 3 [(0, .ref (zal G 100)), (1, .int x1)] → zS G h s.heap H locs → f_X12_image_13  x1 h = some q → W p l e (zrm (3)) s m args below meth c H locs 0 0 (MQ below (zQI G q.2 q.1) args s 0 0 (zA G)) (F0 m 13 ls []) := by
  intro ls H locs h x1 hl hS hf
  unfold f_X12_image_13 at hf
  refine lv_iconst (v := (0 : Int32)) C.1 C.2.1 dX12_image_13 rfl ?_
  refine lv_istore_n (lv' := [(2, .int (0 : Int32)), (0, .ref (zal G 100)), (1, .int x1)]) C.1 C.2.1 dX12_image_14 rfl hl (by decide) rfl (fun ls hl => ?_)
  exact w_X12_image_15 C hm hk  zN _ _ _ _ _ _ (lv_sub hl [1, 2, 0] rfl) hS hf
set_option maxHeartbeats 4000000 in
set_option maxRecDepth 100000 in
theorem c_X12_image (l : Launch) (G : zG) (h : zH) (x1 : Int32) (q : Int32 × zH) (hm : ∀ c ∈ nd_X12_image, c ∈ znm G) (hk : ∀ q ∈ ld_X12_image, zlk G q.1 q.2 = true) (hf : f_X12_image x1 h = some q) : zCtI l yX12_image cX12_image 3 (some .boolean) (3) [.ref (zal G 100), .int x1] G h q.2 q.1 := by
  refine zMetI (by decide) (Nat.le_of_ble_eq_true rfl) ?_
  intro p e s m below meth c ls C hl hS
  have hl : lv_has ls 3 [(0, .ref (zal G 100)), (1, .int x1)] := hl
  have C : zC G p s m [.ref (zal G 100), .int x1].toArray meth c cX12_image 3 RX12 (some .boolean) := C
  unfold f_X12_image at hf
  refine lv_iload_n C.1 C.2.1 dX12_image_0 rfl (lv_at hl 1 rfl) ?_
  refine lv_if_ne (tgt := 13) C.1 C.2.1 dX12_image_1 (by decide) (fun hc => ?_) (fun hc => ?_)
  · have hf := zif_f hc hf
    exact w_X12_image_13 C hm hk  _ _ _ _ _ (lv_sub hl [0, 1] rfl) hS hf
  · have hf := zif_t hc hf
    refine lv_aload_n C.1 C.2.1 dX12_image_4 rfl (lv_at hl 0 rfl) ?_
    refine zgetI C hS ff_X12_347_100 (hm 100 (by decide)) dX12_image_5 ?_
    refine lv_if_ne (tgt := 13) C.1 C.2.1 dX12_image_8 (by decide) (fun hc => ?_) (fun hc => ?_)
    · have hf := zif_f hc hf
      exact w_X12_image_13 C hm hk  _ _ _ _ _ (lv_sub hl [0, 1] rfl) hS hf
    · have hf := zif_t hc hf
      refine lv_iconst (v := (0 : Int32)) C.1 C.2.1 dX12_image_11 rfl ?_
      exact zretZ C hS rfl hf dX12_image_12
end
