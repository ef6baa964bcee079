theorem kw_1133 : Cond.fieldLink RX12 7 "HalfAJokeModel" "w" "[I" ∈ zg := zg_of (List.mem_of_getElem? (i := 1133) (by decide +kernel)) (by decide +kernel)
theorem iz_X12 : ∀ w ∈ u_ws RX12 TX12 38, w ∈ zg := by decide +kernel
theorem ff_X12_7_100 : zFc RX12 7 100 0 (some (101, false)) := ⟨_, _, _, tyX12, sh_100, rfl, by decide, iz_X12, kw_1133, rfl, tyX12_ok, nmX12⟩
theorem kw_93 : Cond.initialized RX12 ∈ zg := zg_of (List.mem_of_getElem? (i := 93) (by decide +kernel)) (by decide +kernel)
theorem kw_1255 : Cond.code yX12_forgets cX12_forgets 1 none ∈ zg := zg_of (List.mem_of_getElem? (i := 1255) (by decide +kernel)) (by decide +kernel)
theorem kw_1252 : Cond.methodLink RX12 76 yX12_forgets ∈ zg := zg_of (List.mem_of_getElem? (i := 1252) (by decide +kernel)) (by decide +kernel)
theorem kw_1254 : Cond.instanceMethod yX12_forgets ∈ zg := zg_of (List.mem_of_getElem? (i := 1254) (by decide +kernel)) (by decide +kernel)
theorem kw_32 : Cond.selects RX12 yX12_forgets yX12_forgets ∈ zg := zg_of (List.mem_of_getElem? (i := 32) (by decide +kernel)) (by decide +kernel)
theorem mv_X12_76 : zMV RX12 76 yX12_forgets cX12_forgets 1 none 0 := ⟨⟨kw_1252, kw_1254, kw_32, kw_93, kw_1255⟩, ⟨by decide, by decide, by decide +kernel⟩, by decide⟩
theorem kw_1137 : Cond.fieldLink RX12 73 "HalfAJokeModel" "backMany" "I" ∈ zg := zg_of (List.mem_of_getElem? (i := 1137) (by decide +kernel)) (by decide +kernel)
theorem ff_X12_73_100 : zFc RX12 73 100 4 none := ⟨_, _, _, tyX12, sh_100, rfl, by decide, iz_X12, kw_1137, rfl, tyX12_ok, nmX12⟩
theorem fw_100_4 : ∀ q : vw_C, ∀ ci fl, zsh 100 = .inr (ci, fl) → zcl[ci]? = some q → (q.2.1 4).2.2.2 = false ∧ (q.2.1 4).2.2.1 = "I" := zfin sh_100 rfl ⟨rfl, rfl⟩
theorem kw_1262 : Cond.code yX12_isIn cX12_isIn 3 (some .boolean) ∈ zg := zg_of (List.mem_of_getElem? (i := 1262) (by decide +kernel)) (by decide +kernel)
theorem kw_1260 : Cond.methodLink RX12 65 yX12_isIn ∈ zg := zg_of (List.mem_of_getElem? (i := 1260) (by decide +kernel)) (by decide +kernel)
theorem kw_1261 : Cond.static yX12_isIn ∈ zg := zg_of (List.mem_of_getElem? (i := 1261) (by decide +kernel)) (by decide +kernel)
theorem ms_X12_65 : zMS RX12 65 yX12_isIn cX12_isIn 3 (some .boolean) 3 := ⟨⟨kw_1260, kw_1261, kw_93, kw_1262⟩, ⟨by decide, by decide, by decide +kernel⟩, by decide⟩
theorem kw_1265 : Cond.code yX12_isFamily cX12_isFamily 1 (some .boolean) ∈ zg := zg_of (List.mem_of_getElem? (i := 1265) (by decide +kernel)) (by decide +kernel)
theorem kw_1263 : Cond.methodLink RX12 81 yX12_isFamily ∈ zg := zg_of (List.mem_of_getElem? (i := 1263) (by decide +kernel)) (by decide +kernel)
theorem kw_1264 : Cond.static yX12_isFamily ∈ zg := zg_of (List.mem_of_getElem? (i := 1264) (by decide +kernel)) (by decide +kernel)
theorem ms_X12_81 : zMS RX12 81 yX12_isFamily cX12_isFamily 1 (some .boolean) 1 := ⟨⟨kw_1263, kw_1264, kw_93, kw_1265⟩, ⟨by decide, by decide, by decide +kernel⟩, by decide⟩
theorem kw_1273 : Cond.code yX12_isHalf cX12_isHalf 2 (some .boolean) ∈ zg := zg_of (List.mem_of_getElem? (i := 1273) (by decide +kernel)) (by decide +kernel)
theorem kw_1270 : Cond.methodLink RX12 85 yX12_isHalf ∈ zg := zg_of (List.mem_of_getElem? (i := 1270) (by decide +kernel)) (by decide +kernel)
theorem kw_1272 : Cond.instanceMethod yX12_isHalf ∈ zg := zg_of (List.mem_of_getElem? (i := 1272) (by decide +kernel)) (by decide +kernel)
theorem kw_33 : Cond.selects RX12 yX12_isHalf yX12_isHalf ∈ zg := zg_of (List.mem_of_getElem? (i := 33) (by decide +kernel)) (by decide +kernel)
theorem mv_X12_85 : zMV RX12 85 yX12_isHalf cX12_isHalf 2 (some .boolean) 1 := ⟨⟨kw_1270, kw_1272, kw_33, kw_93, kw_1273⟩, ⟨by decide, by decide, by decide +kernel⟩, by decide⟩
theorem kw_1277 : Cond.code yX12_quarters cX12_quarters 3 (some .int) ∈ zg := zg_of (List.mem_of_getElem? (i := 1277) (by decide +kernel)) (by decide +kernel)
theorem kw_1274 : Cond.methodLink RX12 88 yX12_quarters ∈ zg := zg_of (List.mem_of_getElem? (i := 1274) (by decide +kernel)) (by decide +kernel)
theorem kw_1276 : Cond.instanceMethod yX12_quarters ∈ zg := zg_of (List.mem_of_getElem? (i := 1276) (by decide +kernel)) (by decide +kernel)
theorem kw_34 : Cond.selects RX12 yX12_quarters yX12_quarters ∈ zg := zg_of (List.mem_of_getElem? (i := 34) (by decide +kernel)) (by decide +kernel)
theorem mv_X12_88 : zMV RX12 88 yX12_quarters cX12_quarters 3 (some .int) 2 := ⟨⟨kw_1274, kw_1276, kw_34, kw_93, kw_1277⟩, ⟨by decide, by decide, by decide +kernel⟩, by decide⟩
theorem kw_1281 : Cond.code yX12_ofHalf cX12_ofHalf 3 (some .int) ∈ zg := zg_of (List.mem_of_getElem? (i := 1281) (by decide +kernel)) (by decide +kernel)
theorem kw_1278 : Cond.methodLink RX12 69 yX12_ofHalf ∈ zg := zg_of (List.mem_of_getElem? (i := 1278) (by decide +kernel)) (by decide +kernel)
theorem kw_1280 : Cond.instanceMethod yX12_ofHalf ∈ zg := zg_of (List.mem_of_getElem? (i := 1280) (by decide +kernel)) (by decide +kernel)
theorem kw_35 : Cond.selects RX12 yX12_ofHalf yX12_ofHalf ∈ zg := zg_of (List.mem_of_getElem? (i := 35) (by decide +kernel)) (by decide +kernel)
theorem mv_X12_69 : zMV RX12 69 yX12_ofHalf cX12_ofHalf 3 (some .int) 2 := ⟨⟨kw_1278, kw_1280, kw_35, kw_93, kw_1281⟩, ⟨by decide, by decide, by decide +kernel⟩, by decide⟩
theorem kw_1285 : Cond.code yX12_adds cX12_adds 4 none ∈ zg := zg_of (List.mem_of_getElem? (i := 1285) (by decide +kernel)) (by decide +kernel)
theorem kw_1282 : Cond.methodLink RX12 91 yX12_adds ∈ zg := zg_of (List.mem_of_getElem? (i := 1282) (by decide +kernel)) (by decide +kernel)
theorem kw_1284 : Cond.instanceMethod yX12_adds ∈ zg := zg_of (List.mem_of_getElem? (i := 1284) (by decide +kernel)) (by decide +kernel)
theorem kw_36 : Cond.selects RX12 yX12_adds yX12_adds ∈ zg := zg_of (List.mem_of_getElem? (i := 36) (by decide +kernel)) (by decide +kernel)
theorem mv_X12_91 : zMV RX12 91 yX12_adds cX12_adds 4 none 3 := ⟨⟨kw_1282, kw_1284, kw_36, kw_93, kw_1285⟩, ⟨by decide, by decide, by decide +kernel⟩, by decide⟩
theorem kw_1292 : Cond.code yX12_nextOf cX12_nextOf 3 (some .int) ∈ zg := zg_of (List.mem_of_getElem? (i := 1292) (by decide +kernel)) (by decide +kernel)
theorem kw_1290 : Cond.methodLink RX12 95 yX12_nextOf ∈ zg := zg_of (List.mem_of_getElem? (i := 1290) (by decide +kernel)) (by decide +kernel)
theorem kw_1291 : Cond.static yX12_nextOf ∈ zg := zg_of (List.mem_of_getElem? (i := 1291) (by decide +kernel)) (by decide +kernel)
theorem ms_X12_95 : zMS RX12 95 yX12_nextOf cX12_nextOf 3 (some .int) 2 := ⟨⟨kw_1290, kw_1291, kw_93, kw_1292⟩, ⟨by decide, by decide, by decide +kernel⟩, by decide⟩
theorem kw_1300 : Cond.code yX12_feuds cX12_feuds 4 none ∈ zg := zg_of (List.mem_of_getElem? (i := 1300) (by decide +kernel)) (by decide +kernel)
theorem kw_1297 : Cond.methodLink RX12 98 yX12_feuds ∈ zg := zg_of (List.mem_of_getElem? (i := 1297) (by decide +kernel)) (by decide +kernel)
theorem kw_1299 : Cond.instanceMethod yX12_feuds ∈ zg := zg_of (List.mem_of_getElem? (i := 1299) (by decide +kernel)) (by decide +kernel)
theorem kw_37 : Cond.selects RX12 yX12_feuds yX12_feuds ∈ zg := zg_of (List.mem_of_getElem? (i := 37) (by decide +kernel)) (by decide +kernel)
theorem mv_X12_98 : zMV RX12 98 yX12_feuds cX12_feuds 4 none 3 := ⟨⟨kw_1297, kw_1299, kw_37, kw_93, kw_1300⟩, ⟨by decide, by decide, by decide +kernel⟩, by decide⟩
theorem kw_1308 : Cond.code yX12_sits cX12_sits 3 none ∈ zg := zg_of (List.mem_of_getElem? (i := 1308) (by decide +kernel)) (by decide +kernel)
theorem kw_1305 : Cond.methodLink RX12 102 yX12_sits ∈ zg := zg_of (List.mem_of_getElem? (i := 1305) (by decide +kernel)) (by decide +kernel)
theorem kw_1307 : Cond.instanceMethod yX12_sits ∈ zg := zg_of (List.mem_of_getElem? (i := 1307) (by decide +kernel)) (by decide +kernel)
theorem kw_38 : Cond.selects RX12 yX12_sits yX12_sits ∈ zg := zg_of (List.mem_of_getElem? (i := 38) (by decide +kernel)) (by decide +kernel)
theorem mv_X12_102 : zMV RX12 102 yX12_sits cX12_sits 3 none 2 := ⟨⟨kw_1305, kw_1307, kw_38, kw_93, kw_1308⟩, ⟨by decide, by decide, by decide +kernel⟩, by decide⟩
theorem kw_1316 : Cond.code yX12_isGuest cX12_isGuest 2 (some .boolean) ∈ zg := zg_of (List.mem_of_getElem? (i := 1316) (by decide +kernel)) (by decide +kernel)
theorem kw_1313 : Cond.methodLink RX12 109 yX12_isGuest ∈ zg := zg_of (List.mem_of_getElem? (i := 1313) (by decide +kernel)) (by decide +kernel)
theorem kw_1315 : Cond.instanceMethod yX12_isGuest ∈ zg := zg_of (List.mem_of_getElem? (i := 1315) (by decide +kernel)) (by decide +kernel)
theorem kw_39 : Cond.selects RX12 yX12_isGuest yX12_isGuest ∈ zg := zg_of (List.mem_of_getElem? (i := 39) (by decide +kernel)) (by decide +kernel)
theorem mv_X12_109 : zMV RX12 109 yX12_isGuest cX12_isGuest 2 (some .boolean) 1 := ⟨⟨kw_1313, kw_1315, kw_39, kw_93, kw_1316⟩, ⟨by decide, by decide, by decide +kernel⟩, by decide⟩
theorem kw_1320 : Cond.code yX12_guestAt cX12_guestAt 3 (some .int) ∈ zg := zg_of (List.mem_of_getElem? (i := 1320) (by decide +kernel)) (by decide +kernel)
theorem kw_1317 : Cond.methodLink RX12 112 yX12_guestAt ∈ zg := zg_of (List.mem_of_getElem? (i := 1317) (by decide +kernel)) (by decide +kernel)
theorem kw_1319 : Cond.instanceMethod yX12_guestAt ∈ zg := zg_of (List.mem_of_getElem? (i := 1319) (by decide +kernel)) (by decide +kernel)
theorem kw_40 : Cond.selects RX12 yX12_guestAt yX12_guestAt ∈ zg := zg_of (List.mem_of_getElem? (i := 40) (by decide +kernel)) (by decide +kernel)
theorem mv_X12_112 : zMV RX12 112 yX12_guestAt cX12_guestAt 3 (some .int) 1 := ⟨⟨kw_1317, kw_1319, kw_40, kw_93, kw_1320⟩, ⟨by decide, by decide, by decide +kernel⟩, by decide⟩
theorem kw_1324 : Cond.code yX12_ofGuest cX12_ofGuest 3 (some .int) ∈ zg := zg_of (List.mem_of_getElem? (i := 1324) (by decide +kernel)) (by decide +kernel)
theorem kw_1321 : Cond.methodLink RX12 106 yX12_ofGuest ∈ zg := zg_of (List.mem_of_getElem? (i := 1321) (by decide +kernel)) (by decide +kernel)
theorem kw_1323 : Cond.instanceMethod yX12_ofGuest ∈ zg := zg_of (List.mem_of_getElem? (i := 1323) (by decide +kernel)) (by decide +kernel)
theorem kw_41 : Cond.selects RX12 yX12_ofGuest yX12_ofGuest ∈ zg := zg_of (List.mem_of_getElem? (i := 41) (by decide +kernel)) (by decide +kernel)
theorem mv_X12_106 : zMV RX12 106 yX12_ofGuest cX12_ofGuest 3 (some .int) 2 := ⟨⟨kw_1321, kw_1323, kw_41, kw_93, kw_1324⟩, ⟨by decide, by decide, by decide +kernel⟩, by decide⟩
theorem kw_1146 : Cond.fieldLink RX12 116 "HalfAJokeModel" "taped" "I" ∈ zg := zg_of (List.mem_of_getElem? (i := 1146) (by decide +kernel)) (by decide +kernel)
theorem ff_X12_116_100 : zFc RX12 116 100 13 none := ⟨_, _, _, tyX12, sh_100, rfl, by decide, iz_X12, kw_1146, rfl, tyX12_ok, nmX12⟩
theorem kw_1141 : Cond.fieldLink RX12 28 "HalfAJokeModel" "tape" "[I" ∈ zg := zg_of (List.mem_of_getElem? (i := 1141) (by decide +kernel)) (by decide +kernel)
theorem ff_X12_28_100 : zFc RX12 28 100 8 (some (107, false)) := ⟨_, _, _, tyX12, sh_100, rfl, by decide, iz_X12, kw_1141, rfl, tyX12_ok, nmX12⟩
theorem fw_100_13 : ∀ q : vw_C, ∀ ci fl, zsh 100 = .inr (ci, fl) → zcl[ci]? = some q → (q.2.1 13).2.2.2 = false ∧ (q.2.1 13).2.2.1 = "I" := zfin sh_100 rfl ⟨rfl, rfl⟩
theorem kw_1155 : Cond.fieldLink RX12 37 "HalfAJokeModel" "faultPlace" "I" ∈ zg := zg_of (List.mem_of_getElem? (i := 1155) (by decide +kernel)) (by decide +kernel)
theorem ff_X12_37_100 : zFc RX12 37 100 22 none := ⟨_, _, _, tyX12, sh_100, rfl, by decide, iz_X12, kw_1155, rfl, tyX12_ok, nmX12⟩
theorem kw_1153 : Cond.fieldLink RX12 236 "HalfAJokeModel" "faultKind" "I" ∈ zg := zg_of (List.mem_of_getElem? (i := 1153) (by decide +kernel)) (by decide +kernel)
theorem ff_X12_236_100 : zFc RX12 236 100 20 none := ⟨_, _, _, tyX12, sh_100, rfl, by decide, iz_X12, kw_1153, rfl, tyX12_ok, nmX12⟩
theorem kw_1452 : Cond.code yX12_isFront cX12_isFront 2 (some .boolean) ∈ zg := zg_of (List.mem_of_getElem? (i := 1452) (by decide +kernel)) (by decide +kernel)
theorem kw_1449 : Cond.methodLink RX12 259 yX12_isFront ∈ zg := zg_of (List.mem_of_getElem? (i := 1449) (by decide +kernel)) (by decide +kernel)
theorem kw_1451 : Cond.instanceMethod yX12_isFront ∈ zg := zg_of (List.mem_of_getElem? (i := 1451) (by decide +kernel)) (by decide +kernel)
theorem kw_61 : Cond.selects RX12 yX12_isFront yX12_isFront ∈ zg := zg_of (List.mem_of_getElem? (i := 61) (by decide +kernel)) (by decide +kernel)
theorem mv_X12_259 : zMV RX12 259 yX12_isFront cX12_isFront 2 (some .boolean) 1 := ⟨⟨kw_1449, kw_1451, kw_61, kw_93, kw_1452⟩, ⟨by decide, by decide, by decide +kernel⟩, by decide⟩
theorem kw_1456 : Cond.code yX12_isEnd cX12_isEnd 2 (some .boolean) ∈ zg := zg_of (List.mem_of_getElem? (i := 1456) (by decide +kernel)) (by decide +kernel)
theorem kw_1453 : Cond.methodLink RX12 262 yX12_isEnd ∈ zg := zg_of (List.mem_of_getElem? (i := 1453) (by decide +kernel)) (by decide +kernel)
theorem kw_1455 : Cond.instanceMethod yX12_isEnd ∈ zg := zg_of (List.mem_of_getElem? (i := 1455) (by decide +kernel)) (by decide +kernel)
theorem kw_62 : Cond.selects RX12 yX12_isEnd yX12_isEnd ∈ zg := zg_of (List.mem_of_getElem? (i := 62) (by decide +kernel)) (by decide +kernel)
theorem mv_X12_262 : zMV RX12 262 yX12_isEnd cX12_isEnd 2 (some .boolean) 1 := ⟨⟨kw_1453, kw_1455, kw_62, kw_93, kw_1456⟩, ⟨by decide, by decide, by decide +kernel⟩, by decide⟩
theorem kw_1579 : Cond.code yX12_isElsewhere cX12_isElsewhere 4 (some .boolean) ∈ zg := zg_of (List.mem_of_getElem? (i := 1579) (by decide +kernel)) (by decide +kernel)
theorem kw_1576 : Cond.methodLink RX12 329 yX12_isElsewhere ∈ zg := zg_of (List.mem_of_getElem? (i := 1576) (by decide +kernel)) (by decide +kernel)
theorem kw_1578 : Cond.instanceMethod yX12_isElsewhere ∈ zg := zg_of (List.mem_of_getElem? (i := 1578) (by decide +kernel)) (by decide +kernel)
theorem kw_77 : Cond.selects RX12 yX12_isElsewhere yX12_isElsewhere ∈ zg := zg_of (List.mem_of_getElem? (i := 77) (by decide +kernel)) (by decide +kernel)
theorem mv_X12_329 : zMV RX12 329 yX12_isElsewhere cX12_isElsewhere 4 (some .boolean) 2 := ⟨⟨kw_1576, kw_1578, kw_77, kw_93, kw_1579⟩, ⟨by decide, by decide, by decide +kernel⟩, by decide⟩
theorem kw_1135 : Cond.fieldLink RX12 16 "HalfAJokeModel" "back" "[I" ∈ zg := zg_of (List.mem_of_getElem? (i := 1135) (by decide +kernel)) (by decide +kernel)
theorem ff_X12_16_100 : zFc RX12 16 100 2 (some (103, false)) := ⟨_, _, _, tyX12, sh_100, rfl, by decide, iz_X12, kw_1135, rfl, tyX12_ok, nmX12⟩
section
theorem dX12_forgets_0 : decode cX12_forgets 0 = .ok (.aload_n 0, 1) := by decide +kernel
theorem dX12_forgets_1 : decode cX12_forgets 1 = .ok (.iconst 0, 1) := by decide +kernel
theorem dX12_forgets_2 : decode cX12_forgets 2 = .ok (.putfield 73, 3) := by decide +kernel
theorem dX12_forgets_5 : decode cX12_forgets 5 = .ok (.return_, 1) := by decide +kernel
abbrev nd_X12_forgets : List Nat := [100]
abbrev ld_X12_forgets : List (Nat × Nat) := []
def f_X12_forgets  (h : zH) : zR := (zst (zup h 100 4 (0 : Int32)) fun h1 => (some (0, h1)))
variable {p : Program} {l : Launch} {e : Env} {s : State} {m : MethodId} {args : Array Value} {below : List Frame} {meth : Method} {c : Code} {G : zG} {q : Int32 × zH}
set_option maxHeartbeats 4000000 in
set_option maxRecDepth 100000 in
theorem c_X12_forgets (l : Launch) (G : zG) (h : zH) (q : Int32 × zH) (hm : ∀ c ∈ nd_X12_forgets, c ∈ znm G) (hk : ∀ q ∈ ld_X12_forgets, zlk G q.1 q.2 = true) (hf : f_X12_forgets h = some q) : zCtV l yX12_forgets cX12_forgets 1 none (2) [.ref (zal G 100)] G h q.2 := by
  refine zMetV (by decide) (Nat.le_of_ble_eq_true rfl) ?_
  intro p e s m below meth c ls C hl hS
  have hl : lv_has ls 1 [(0, .ref (zal G 100))] := hl
  have C : zC G p s m [.ref (zal G 100)].toArray meth c cX12_forgets 1 RX12 none := C
  unfold f_X12_forgets at hf
  refine lv_aload_n C.1 C.2.1 dX12_forgets_0 rfl (lv_at hl 0 rfl) ?_
  refine lv_iconst (v := (0 : Int32)) C.1 C.2.1 dX12_forgets_1 rfl ?_
  refine zputI C hS ff_X12_73_100 fw_100_4 (hm 100 (by decide)) dX12_forgets_2 (fun H locs hS => ?_)
  obtain ⟨h1, eh1, hf⟩ := zst_some hf
  have hS : zS G h1 s.heap H locs := by rw [eh1]; exact hS
  exact zretV C hS hf dX12_forgets_5
end
section
theorem dX12_state_0 : decode cX12_state 0 = .ok (.aload_n 0, 1) := by decide +kernel
theorem dX12_state_1 : decode cX12_state 1 = .ok (.getfield 7, 3) := by decide +kernel
theorem dX12_state_4 : decode cX12_state 4 = .ok (.bipush 7, 2) := by decide +kernel
theorem dX12_state_6 : decode cX12_state 6 = .ok (.iaload, 1) := by decide +kernel
theorem dX12_state_7 : decode cX12_state 7 = .ok (.istore_n 2, 1) := by decide +kernel
theorem dX12_state_8 : decode cX12_state 8 = .ok (.aload_n 0, 1) := by decide +kernel
theorem dX12_state_9 : decode cX12_state 9 = .ok (.getfield 7, 3) := by decide +kernel
theorem dX12_state_12 : decode cX12_state 12 = .ok (.bipush 7, 2) := by decide +kernel
theorem dX12_state_14 : decode cX12_state 14 = .ok (.iload_n 1, 1) := by decide +kernel
theorem dX12_state_15 : decode cX12_state 15 = .ok (.iastore, 1) := by decide +kernel
theorem dX12_state_16 : decode cX12_state 16 = .ok (.aload_n 0, 1) := by decide +kernel
theorem dX12_state_17 : decode cX12_state 17 = .ok (.invokevirtual 76, 3) := by decide +kernel
theorem dX12_state_20 : decode cX12_state 20 = .ok (.iload_n 2, 1) := by decide +kernel
theorem dX12_state_21 : decode cX12_state 21 = .ok (.ireturn, 1) := by decide +kernel
abbrev nd_X12_state : List Nat := [100, 101]
abbrev ld_X12_state : List (Nat × Nat) := [(100, 0)]
theorem sn_X12_state_X12_forgets : ∀ c ∈ nd_X12_forgets, c ∈ nd_X12_state := by decide
theorem sl_X12_state_X12_forgets : ∀ q ∈ ld_X12_forgets, q ∈ ld_X12_state := by decide
def f_X12_state  (x1 : Int32) (h : zH) : zR := (zlt (h 101 7) fun y1 => (zst (zup h 101 7 x1) fun h2 => (zbd (f_X12_forgets  h2) fun r3 h4 => (some (y1, h4)))))
variable {p : Program} {l : Launch} {e : Env} {s : State} {m : MethodId} {args : Array Value} {below : List Frame} {meth : Method} {c : Code} {G : zG} {q : Int32 × zH}
set_option maxHeartbeats 4000000 in
set_option maxRecDepth 100000 in
theorem c_X12_state (l : Launch) (G : zG) (h : zH) (x1 : Int32) (q : Int32 × zH) (hm : ∀ c ∈ nd_X12_state, c ∈ znm G) (hk : ∀ q ∈ ld_X12_state, zlk G q.1 q.2 = true) (hf : f_X12_state x1 h = some q) : zCtI l yX12_state cX12_state 3 (some .int) (3) [.ref (zal G 100), .int x1] G h q.2 q.1 := by
  refine zMetI (by decide) (Nat.le_of_ble_eq_true rfl) ?_
  intro p e s m below meth c ls C hl hS
  have hl : lv_has ls 3 [(0, .ref (zal G 100)), (1, .int x1)] := hl
  have C : zC G p s m [.ref (zal G 100), .int x1].toArray meth c cX12_state 3 RX12 (some .int) := C
  unfold f_X12_state at hf
  refine lv_aload_n C.1 C.2.1 dX12_state_0 rfl (lv_at hl 0 rfl) ?_
  refine zgetR C hS ff_X12_7_100 (hm 100 (by decide)) (hk (100, 0) (by decide)) dX12_state_1 ?_
  refine lv_bipush (v := (7 : Int32)) C.1 C.2.1 dX12_state_4 rfl ?_
  refine zald C hS sh_101 (hm 101 (by decide)) (vp_in_iff.mpr (by decide)) dX12_state_6 ?_
  obtain ⟨y1, ey1, hf⟩ := zlt_some hf
  refine ztop ey1 ?_
  refine lv_istore_n (lv' := [(2, .int y1), (0, .ref (zal G 100)), (1, .int x1)]) C.1 C.2.1 dX12_state_7 rfl hl (by decide) rfl (fun ls hl => ?_)
  refine lv_aload_n C.1 C.2.1 dX12_state_8 rfl (lv_at hl 1 rfl) ?_
  refine zgetR C hS ff_X12_7_100 (hm 100 (by decide)) (hk (100, 0) (by decide)) dX12_state_9 ?_
  refine lv_bipush (v := (7 : Int32)) C.1 C.2.1 dX12_state_12 rfl ?_
  refine lv_iload_n C.1 C.2.1 dX12_state_14 rfl (lv_at hl 2 rfl) ?_
  refine zast C hS sh_101 (hm 101 (by decide)) (vp_in_iff.mpr (by decide)) dX12_state_15 (fun H locs hS => ?_)
  obtain ⟨h2, eh2, hf⟩ := zst_some hf
  have hS : zS G h2 s.heap H locs := by rw [eh2]; exact hS
  refine lv_aload_n C.1 C.2.1 dX12_state_16 rfl (lv_at hl 1 rfl) ?_
  obtain ⟨r3, h4, er3, hf⟩ := zbd_some hf
  refine zcallVV (As := []) (rest := []) C hS mv_X12_76 (c_X12_forgets l G h2  (r3, h4) (fun c h => hm c (sn_X12_state_X12_forgets c h)) (fun q h => hk q (sl_X12_state_X12_forgets q h)) er3) (hm 100 (by decide)) ⟨_, _, _, sh_100, rfl, rfl⟩ rfl rfl (Nat.le_of_ble_eq_true rfl) hl.1 ⟨Nat.le_of_ble_eq_true rfl, Nat.le_of_ble_eq_true rfl, Nat.le_of_ble_eq_true rfl, Nat.le_of_ble_eq_true rfl⟩ dX12_state_17 (fun H locs hS => ?_)
  refine lv_iload_n C.1 C.2.1 dX12_state_20 rfl (lv_at hl 0 rfl) ?_
  exact zretI C hS hf dX12_state_21
end
section
theorem dX12_isIn_0 : decode cX12_isIn 0 = .ok (.iload_n 0, 1) := by decide +kernel
theorem dX12_isIn_1 : decode cX12_isIn 1 = .ok (.iload_n 1, 1) := by decide +kernel
theorem dX12_isIn_2 : decode cX12_isIn 2 = .ok (.if_icmp .lt 12, 3) := by decide +kernel
theorem dX12_isIn_5 : decode cX12_isIn 5 = .ok (.iload_n 0, 1) := by decide +kernel
theorem dX12_isIn_6 : decode cX12_isIn 6 = .ok (.iload_n 2, 1) := by decide +kernel
theorem dX12_isIn_7 : decode cX12_isIn 7 = .ok (.if_icmp .gt 7, 3) := by decide +kernel
theorem dX12_isIn_10 : decode cX12_isIn 10 = .ok (.iconst 1, 1) := by decide +kernel
theorem dX12_isIn_11 : decode cX12_isIn 11 = .ok (.goto 4, 3) := by decide +kernel
theorem dX12_isIn_14 : decode cX12_isIn 14 = .ok (.iconst 0, 1) := by decide +kernel
theorem dX12_isIn_15 : decode cX12_isIn 15 = .ok (.ireturn, 1) := by decide +kernel
abbrev nd_X12_isIn : List Nat := []
abbrev ld_X12_isIn : List (Nat × Nat) := []
def f_X12_isIn_14  (h : zH) : zR := (some ((0 : Int32), h))
def f_X12_isIn  (x0 : Int32) (x1 : Int32) (x2 : Int32) (h : zH) : zR := (if x0 < x1 then (f_X12_isIn_14   h) else (if x2 < x0 then (f_X12_isIn_14   h) else (some ((1 : Int32), h))))
variable {p : Program} {l : Launch} {e : Env} {s : State} {m : MethodId} {args : Array Value} {below : List Frame} {meth : Method} {c : Code} {G : zG} {q : Int32 × zH}
set_option maxHeartbeats 4000000 in
set_option maxRecDepth 100000 in
theorem w_X12_isIn_14  (C : zC G p s m args meth c cX12_isIn 3 RX12 (some .boolean)) (hm : ∀ c ∈ nd_X12_isIn, c ∈ znm G) (hk : ∀ q ∈ ld_X12_isIn, zlk G q.1 q.2 = true)  : ∀ (ls : Array Slot) (H : Heap) (locs : List Loc) (h : zH), lv_has ls 3 [] → zS G h s.heap H locs → f_X12_isIn_14  h = some q → W p l e (zrm (2)) s m args below meth c H locs 0 0 (MQ below (zQI G q.2 q.1) args s 0 0 (zA G)) (F0 m 14 ls []) := by
  intro ls H locs h hl hS hf
  unfold f_X12_isIn_14 at hf
  refine lv_iconst (v := (0 : Int32)) C.1 C.2.1 dX12_isIn_14 rfl ?_
  exact zretZ C hS rfl hf dX12_isIn_15
set_option maxHeartbeats 4000000 in
set_option maxRecDepth 100000 in
theorem c_X12_isIn (l : Launch) (G : zG) (h : zH) (x0 : Int32) (x1 : Int32) (x2 : Int32) (q : Int32 × zH) (hm : ∀ c ∈ nd_X12_isIn, c ∈ znm G) (hk : ∀ q ∈ ld_X12_isIn, zlk G q.1 q.2 = true) (hf : f_X12_isIn x0 x1 x2 h = some q) : zCtI l yX12_isIn cX12_isIn 3 (some .boolean) (2) [.int x0, .int x1, .int x2] G h q.2 q.1 := by
  refine zMetI (by decide) (Nat.le_of_ble_eq_true rfl) ?_
  intro p e s m below meth c ls C hl hS
  have hl : lv_has ls 3 [(0, .int x0), (1, .int x1), (2, .int x2)] := hl
  have C : zC G p s m [.int x0, .int x1, .int x2].toArray meth c cX12_isIn 3 RX12 (some .boolean) := C
  unfold f_X12_isIn at hf
  refine lv_iload_n C.1 C.2.1 dX12_isIn_0 rfl (lv_at hl 0 rfl) ?_
  refine lv_iload_n C.1 C.2.1 dX12_isIn_1 rfl (lv_at hl 1 rfl) ?_
  refine lv_icmp_lt (tgt := 14) C.1 C.2.1 dX12_isIn_2 (by decide) (fun hc => ?_) (fun hc => ?_)
  · have hf := zif_t hc hf
    exact w_X12_isIn_14 C hm hk  _ _ _ _ (lv_sub hl [] rfl) hS hf
  · have hf := zif_f hc hf
    refine lv_iload_n C.1 C.2.1 dX12_isIn_5 rfl (lv_at hl 0 rfl) ?_
    refine lv_iload_n C.1 C.2.1 dX12_isIn_6 rfl (lv_at hl 2 rfl) ?_
    refine lv_icmp_gt (tgt := 14) C.1 C.2.1 dX12_isIn_7 (by decide) (fun hc => ?_) (fun hc => ?_)
    · have hf := zif_t hc hf
      exact w_X12_isIn_14 C hm hk  _ _ _ _ (lv_sub hl [] rfl) hS hf
    · have hf := zif_f hc hf
      refine lv_iconst (v := (1 : Int32)) C.1 C.2.1 dX12_isIn_10 rfl ?_
      refine lv_goto (tgt := 15) C.1 C.2.1 dX12_isIn_11 (by decide) ?_
      exact zretZ C hS rfl hf dX12_isIn_15
end
section
theorem dX12_isFamily_0 : decode cX12_isFamily 0 = .ok (.iload_n 0, 1) := by decide +kernel
theorem dX12_isFamily_1 : decode cX12_isFamily 1 = .ok (.iconst 0, 1) := by decide +kernel
theorem dX12_isFamily_2 : decode cX12_isFamily 2 = .ok (.iconst 5, 1) := by decide +kernel
theorem dX12_isFamily_3 : decode cX12_isFamily 3 = .ok (.invokestatic 65, 3) := by decide +kernel
theorem dX12_isFamily_6 : decode cX12_isFamily 6 = .ok (.ireturn, 1) := by decide +kernel
abbrev nd_X12_isFamily : List Nat := []
abbrev ld_X12_isFamily : List (Nat × Nat) := []
theorem sn_X12_isFamily_X12_isIn : ∀ c ∈ nd_X12_isIn, c ∈ nd_X12_isFamily := by decide
theorem sl_X12_isFamily_X12_isIn : ∀ q ∈ ld_X12_isIn, q ∈ ld_X12_isFamily := by decide
def f_X12_isFamily  (x0 : Int32) (h : zH) : zR := (zbd (f_X12_isIn x0 (0 : Int32) (5 : Int32) h) fun r1 h2 => (zbo r1 (some (r1, h2))))
variable {p : Program} {l : Launch} {e : Env} {s : State} {m : MethodId} {args : Array Value} {below : List Frame} {meth : Method} {c : Code} {G : zG} {q : Int32 × zH}
set_option maxHeartbeats 4000000 in
set_option maxRecDepth 100000 in
theorem c_X12_isFamily (l : Launch) (G : zG) (h : zH) (x0 : Int32) (q : Int32 × zH) (hm : ∀ c ∈ nd_X12_isFamily, c ∈ znm G) (hk : ∀ q ∈ ld_X12_isFamily, zlk G q.1 q.2 = true) (hf : f_X12_isFamily x0 h = some q) : zCtI l yX12_isFamily cX12_isFamily 1 (some .boolean) (3) [.int x0] G h q.2 q.1 := by
  refine zMetI (by decide) (Nat.le_of_ble_eq_true rfl) ?_
  intro p e s m below meth c ls C hl hS
  have hl : lv_has ls 1 [(0, .int x0)] := hl
  have C : zC G p s m [.int x0].toArray meth c cX12_isFamily 1 RX12 (some .boolean) := C
  unfold f_X12_isFamily at hf
  refine lv_iload_n C.1 C.2.1 dX12_isFamily_0 rfl (lv_at hl 0 rfl) ?_
  refine lv_iconst (v := (0 : Int32)) C.1 C.2.1 dX12_isFamily_1 rfl ?_
  refine lv_iconst (v := (5 : Int32)) C.1 C.2.1 dX12_isFamily_2 rfl ?_
  obtain ⟨r1, h2, er1, hf⟩ := zbd_some hf
  refine zcallSI (As := [.int x0, .int (0 : Int32), .int (5 : Int32)]) (rest := []) C hS ms_X12_65 (c_X12_isIn l G h x0 (0 : Int32) (5 : Int32) (r1, h2) (fun c h => hm c (sn_X12_isFamily_X12_isIn c h)) (fun q h => hk q (sl_X12_isFamily_X12_isIn q h)) er1) rfl rfl (Nat.le_of_ble_eq_true rfl) hl.1 ⟨Nat.le_of_ble_eq_true rfl, Nat.le_of_ble_eq_true rfl, Nat.le_of_ble_eq_true rfl, Nat.le_of_ble_eq_true rfl⟩ dX12_isFamily_3 (fun H locs hS => ?_)
  obtain ⟨hb, hf⟩ := zbo_some hf
  exact zretZ C hS hb hf dX12_isFamily_6
end
section
theorem dX12_half_0 : decode cX12_half 0 = .ok (.iload_n 1, 1) := by decide +kernel
theorem dX12_half_1 : decode cX12_half 1 = .ok (.iconst 0, 1) := by decide +kernel
theorem dX12_half_2 : decode cX12_half 2 = .ok (.iconst 1, 1) := by decide +kernel
theorem dX12_half_3 : decode cX12_half 3 = .ok (.invokestatic 65, 3) := by decide +kernel
theorem dX12_half_6 : decode cX12_half 6 = .ok (.ifCond .eq 42, 3) := by decide +kernel
theorem dX12_half_9 : decode cX12_half 9 = .ok (.iload_n 2, 1) := by decide +kernel
theorem dX12_half_10 : decode cX12_half 10 = .ok (.iconst 0, 1) := by decide +kernel
theorem dX12_half_11 : decode cX12_half 11 = .ok (.bipush 9, 2) := by decide +kernel
theorem dX12_half_13 : decode cX12_half 13 = .ok (.invokestatic 65, 3) := by decide +kernel
theorem dX12_half_16 : decode cX12_half 16 = .ok (.ifCond .eq 32, 3) := by decide +kernel
theorem dX12_half_19 : decode cX12_half 19 = .ok (.iload_n 3, 1) := by decide +kernel
theorem dX12_half_20 : decode cX12_half 20 = .ok (.iconst 0, 1) := by decide +kernel
theorem dX12_half_21 : decode cX12_half 21 = .ok (.bipush 99, 2) := by decide +kernel
theorem dX12_half_23 : decode cX12_half 23 = .ok (.invokestatic 65, 3) := by decide +kernel
theorem dX12_half_26 : decode cX12_half 26 = .ok (.ifCond .eq 22, 3) := by decide +kernel
theorem dX12_half_29 : decode cX12_half 29 = .ok (.iload 4, 2) := by decide +kernel
theorem dX12_half_31 : decode cX12_half 31 = .ok (.invokestatic 81, 3) := by decide +kernel
theorem dX12_half_34 : decode cX12_half 34 = .ok (.ifCond .eq 14, 3) := by decide +kernel
theorem dX12_half_37 : decode cX12_half 37 = .ok (.aload_n 0, 1) := by decide +kernel
theorem dX12_half_38 : decode cX12_half 38 = .ok (.getfield 7, 3) := by decide +kernel
theorem dX12_half_41 : decode cX12_half 41 = .ok (.iconst 3, 1) := by decide +kernel
theorem dX12_half_42 : decode cX12_half 42 = .ok (.iaload, 1) := by decide +kernel
theorem dX12_half_43 : decode cX12_half 43 = .ok (.bipush 16, 2) := by decide +kernel
theorem dX12_half_45 : decode cX12_half 45 = .ok (.if_icmp .ne 5, 3) := by decide +kernel
theorem dX12_half_48 : decode cX12_half 48 = .ok (.iconst (-1), 1) := by decide +kernel
theorem dX12_half_49 : decode cX12_half 49 = .ok (.ireturn, 1) := by decide +kernel
theorem dX12_half_50 : decode cX12_half 50 = .ok (.bipush 20, 2) := by decide +kernel
theorem dX12_half_52 : decode cX12_half 52 = .ok (.bipush 10, 2) := by decide +kernel
theorem dX12_half_54 : decode cX12_half 54 = .ok (.aload_n 0, 1) := by decide +kernel
theorem dX12_half_55 : decode cX12_half 55 = .ok (.getfield 7, 3) := by decide +kernel
theorem dX12_half_58 : decode cX12_half 58 = .ok (.iconst 3, 1) := by decide +kernel
theorem dX12_half_59 : decode cX12_half 59 = .ok (.iaload, 1) := by decide +kernel
theorem dX12_half_60 : decode cX12_half 60 = .ok (.imul, 1) := by decide +kernel
theorem dX12_half_61 : decode cX12_half 61 = .ok (.iadd, 1) := by decide +kernel
theorem dX12_half_62 : decode cX12_half 62 = .ok (.istore 5, 2) := by decide +kernel
theorem dX12_half_64 : decode cX12_half 64 = .ok (.iconst 0, 1) := by decide +kernel
theorem dX12_half_65 : decode cX12_half 65 = .ok (.istore 6, 2) := by decide +kernel
theorem dX12_half_67 : decode cX12_half 67 = .ok (.iload 6, 2) := by decide +kernel
theorem dX12_half_69 : decode cX12_half 69 = .ok (.bipush 10, 2) := by decide +kernel
theorem dX12_half_71 : decode cX12_half 71 = .ok (.if_icmp .ge 20, 3) := by decide +kernel
theorem dX12_half_74 : decode cX12_half 74 = .ok (.aload_n 0, 1) := by decide +kernel
theorem dX12_half_75 : decode cX12_half 75 = .ok (.getfield 7, 3) := by decide +kernel
theorem dX12_half_78 : decode cX12_half 78 = .ok (.iload 5, 2) := by decide +kernel
theorem dX12_half_80 : decode cX12_half 80 = .ok (.iload 6, 2) := by decide +kernel
theorem dX12_half_82 : decode cX12_half 82 = .ok (.iadd, 1) := by decide +kernel
theorem dX12_half_83 : decode cX12_half 83 = .ok (.iconst 0, 1) := by decide +kernel
theorem dX12_half_84 : decode cX12_half 84 = .ok (.iastore, 1) := by decide +kernel
theorem dX12_half_85 : decode cX12_half 85 = .ok (.iinc 6 1, 3) := by decide +kernel
theorem dX12_half_88 : decode cX12_half 88 = .ok (.goto (-21), 3) := by decide +kernel
theorem dX12_half_91 : decode cX12_half 91 = .ok (.aload_n 0, 1) := by decide +kernel
theorem dX12_half_92 : decode cX12_half 92 = .ok (.getfield 7, 3) := by decide +kernel
theorem dX12_half_95 : decode cX12_half 95 = .ok (.iload 5, 2) := by decide +kernel
theorem dX12_half_97 : decode cX12_half 97 = .ok (.iconst 0, 1) := by decide +kernel
theorem dX12_half_98 : decode cX12_half 98 = .ok (.iadd, 1) := by decide +kernel
theorem dX12_half_99 : decode cX12_half 99 = .ok (.iload_n 1, 1) := by decide +kernel
theorem dX12_half_100 : decode cX12_half 100 = .ok (.iastore, 1) := by decide +kernel
theorem dX12_half_101 : decode cX12_half 101 = .ok (.aload_n 0, 1) := by decide +kernel
theorem dX12_half_102 : decode cX12_half 102 = .ok (.getfield 7, 3) := by decide +kernel
theorem dX12_half_105 : decode cX12_half 105 = .ok (.iload 5, 2) := by decide +kernel
theorem dX12_half_107 : decode cX12_half 107 = .ok (.iconst 1, 1) := by decide +kernel
theorem dX12_half_108 : decode cX12_half 108 = .ok (.iadd, 1) := by decide +kernel
theorem dX12_half_109 : decode cX12_half 109 = .ok (.iload_n 2, 1) := by decide +kernel
theorem dX12_half_110 : decode cX12_half 110 = .ok (.iastore, 1) := by decide +kernel
theorem dX12_half_111 : decode cX12_half 111 = .ok (.aload_n 0, 1) := by decide +kernel
theorem dX12_half_112 : decode cX12_half 112 = .ok (.getfield 7, 3) := by decide +kernel
theorem dX12_half_115 : decode cX12_half 115 = .ok (.iload 5, 2) := by decide +kernel
theorem dX12_half_117 : decode cX12_half 117 = .ok (.iconst 2, 1) := by decide +kernel
theorem dX12_half_118 : decode cX12_half 118 = .ok (.iadd, 1) := by decide +kernel
theorem dX12_half_119 : decode cX12_half 119 = .ok (.iload_n 3, 1) := by decide +kernel
theorem dX12_half_120 : decode cX12_half 120 = .ok (.iastore, 1) := by decide +kernel
theorem dX12_half_121 : decode cX12_half 121 = .ok (.aload_n 0, 1) := by decide +kernel
theorem dX12_half_122 : decode cX12_half 122 = .ok (.getfield 7, 3) := by decide +kernel
theorem dX12_half_125 : decode cX12_half 125 = .ok (.iload 5, 2) := by decide +kernel
theorem dX12_half_127 : decode cX12_half 127 = .ok (.iconst 3, 1) := by decide +kernel
theorem dX12_half_128 : decode cX12_half 128 = .ok (.iadd, 1) := by decide +kernel
theorem dX12_half_129 : decode cX12_half 129 = .ok (.iload 4, 2) := by decide +kernel
theorem dX12_half_131 : decode cX12_half 131 = .ok (.iadd, 1) := by decide +kernel
theorem dX12_half_132 : decode cX12_half 132 = .ok (.iconst 4, 1) := by decide +kernel
theorem dX12_half_133 : decode cX12_half 133 = .ok (.iastore, 1) := by decide +kernel
theorem dX12_half_134 : decode cX12_half 134 = .ok (.aload_n 0, 1) := by decide +kernel
theorem dX12_half_135 : decode cX12_half 135 = .ok (.getfield 7, 3) := by decide +kernel
theorem dX12_half_138 : decode cX12_half 138 = .ok (.iconst 3, 1) := by decide +kernel
theorem dX12_half_139 : decode cX12_half 139 = .ok (.dup2, 1) := by decide +kernel
theorem dX12_half_140 : decode cX12_half 140 = .ok (.iaload, 1) := by decide +kernel
theorem dX12_half_141 : decode cX12_half 141 = .ok (.iconst 1, 1) := by decide +kernel
theorem dX12_half_142 : decode cX12_half 142 = .ok (.iadd, 1) := by decide +kernel
theorem dX12_half_143 : decode cX12_half 143 = .ok (.iastore, 1) := by decide +kernel
theorem dX12_half_144 : decode cX12_half 144 = .ok (.aload_n 0, 1) := by decide +kernel
theorem dX12_half_145 : decode cX12_half 145 = .ok (.invokevirtual 76, 3) := by decide +kernel
theorem dX12_half_148 : decode cX12_half 148 = .ok (.aload_n 0, 1) := by decide +kernel
theorem dX12_half_149 : decode cX12_half 149 = .ok (.getfield 7, 3) := by decide +kernel
theorem dX12_half_152 : decode cX12_half 152 = .ok (.iconst 3, 1) := by decide +kernel
theorem dX12_half_153 : decode cX12_half 153 = .ok (.iaload, 1) := by decide +kernel
theorem dX12_half_154 : decode cX12_half 154 = .ok (.iconst 1, 1) := by decide +kernel
theorem dX12_half_155 : decode cX12_half 155 = .ok (.isub, 1) := by decide +kernel
theorem dX12_half_156 : decode cX12_half 156 = .ok (.ireturn, 1) := by decide +kernel
abbrev nd_X12_half : List Nat := [100, 101]
abbrev ld_X12_half : List (Nat × Nat) := [(100, 0)]
theorem sn_X12_half_X12_isIn : ∀ c ∈ nd_X12_isIn, c ∈ nd_X12_half := by decide
theorem sl_X12_half_X12_isIn : ∀ q ∈ ld_X12_isIn, q ∈ ld_X12_half := by decide
theorem sn_X12_half_X12_isFamily : ∀ c ∈ nd_X12_isFamily, c ∈ nd_X12_half := by decide
theorem sl_X12_half_X12_isFamily : ∀ q ∈ ld_X12_isFamily, q ∈ ld_X12_half := by decide
theorem sn_X12_half_X12_forgets : ∀ c ∈ nd_X12_forgets, c ∈ nd_X12_half := by decide
theorem sl_X12_half_X12_forgets : ∀ q ∈ ld_X12_forgets, q ∈ ld_X12_half := by decide
def f_X12_half_48  (h : zH) : zR := (some ((-1 : Int32), h))
def f_X12_half_67  : Nat → Int32 → Int32 → Int32 → Int32 → Int32 → Int32 → zH → zR
  | 0 => fun _ _ _ _ _ _ _ => none
  | n + 1 => fun x1 x2 x3 x4 x5 x6 h => (if (10 : Int32) ≤ x6 then (zck (x5 + (0 : Int32)) 2220 (zst (zup h 101 (Int32.toNatClampNeg (x5 + (0 : Int32))) x1) fun h10 => (zck (x5 + (1 : Int32)) 2220 (zst (zup h10 101 (Int32.toNatClampNeg (x5 + (1 : Int32))) x2) fun h11 => (zck (x5 + (2 : Int32)) 2220 (zst (zup h11 101 (Int32.toNatClampNeg (x5 + (2 : Int32))) x3) fun h12 => (zck ((x5 + (3 : Int32)) + x4) 2220 (zst (zup h12 101 (Int32.toNatClampNeg ((x5 + (3 : Int32)) + x4)) (4 : Int32)) fun h13 => (zst (zup h13 101 3 ((h13 101 3) + (1 : Int32))) fun h14 => (zbd (f_X12_forgets  h14) fun r15 h16 => (some (((h16 101 3) - (1 : Int32)), h16)))))))))))) else (zck (x5 + x6) 2220 (zst (zup h 101 (Int32.toNatClampNeg (x5 + x6)) (0 : Int32)) fun h17 => (zlt (x6 + (1 : Int32)) fun y18 => (f_X12_half_67  n x1 x2 x3 x4 x5 y18 h17)))))
def f_X12_half  (x1 : Int32) (x2 : Int32) (x3 : Int32) (x4 : Int32) (h : zH) : zR := (zbd (f_X12_isIn x1 (0 : Int32) (1 : Int32) h) fun r1 h2 => (if r1 = 0 then (f_X12_half_48   h2) else (zbd (f_X12_isIn x2 (0 : Int32) (9 : Int32) h2) fun r3 h4 => (if r3 = 0 then (f_X12_half_48   h4) else (zbd (f_X12_isIn x3 (0 : Int32) (99 : Int32) h4) fun r5 h6 => (if r5 = 0 then (f_X12_half_48   h6) else (zbd (f_X12_isFamily x4 h6) fun r7 h8 => (if r7 = 0 then (f_X12_half_48   h8) else (if (h8 101 3) = (16 : Int32) then (f_X12_half_48   h8) else (zlt ((20 : Int32) + ((10 : Int32) * (h8 101 3))) fun y9 => (f_X12_half_67  zN x1 x2 x3 x4 y9 (0 : Int32) h8)))))))))))
variable {p : Program} {l : Launch} {e : Env} {s : State} {m : MethodId} {args : Array Value} {below : List Frame} {meth : Method} {c : Code} {G : zG} {q : Int32 × zH}
set_option maxHeartbeats 4000000 in
set_option maxRecDepth 100000 in
theorem w_X12_half_48  (C : zC G p s m args meth c cX12_half 7 RX12 (some .int)) (hm : ∀ c ∈ nd_X12_half, c ∈ znm G) (hk : ∀ q ∈ ld_X12_half, zlk G q.1 q.2 = true)  : ∀ (ls : Array Slot) (H : Heap) (locs : List Loc) (h : zH), lv_has ls 7 [] → zS G h s.heap H locs → f_X12_half_48  h = some q → W p l e (zrm (4)) s m args below meth c H locs 0 0 (MQ below (zQI G q.2 q.1) args s 0 0 (zA G)) (F0 m 48 ls []) := by
  intro ls H locs h hl hS hf
  unfold f_X12_half_48 at hf
  refine lv_iconst (v := (-1 : Int32)) C.1 C.2.1 dX12_half_48 rfl ?_
  exact zretI C hS hf dX12_half_49
set_option maxHeartbeats 4000000 in
set_option maxRecDepth 100000 in
theorem w_X12_half_67  (C : zC G p s m args meth c cX12_half 7 RX12 (some .int)) (hm : ∀ c ∈ nd_X12_half, c ∈ znm G) (hk : ∀ q ∈ ld_X12_half, zlk G q.1 q.2 = true)  : ∀ n, ∀ (ls : Array Slot) (H : Heap) (locs : List Loc) (h : zH) (x1 : Int32) (x2 : Int32) (x3 : Int32) (x4 : Int32) (x5 : Int32) (x6 : Int32), lv_has ls 7 [(0, .ref (zal G 100)), (1, .int x1), (2, .int x2), (3, .int x3), (4, .int x4), (5, .int x5), (6, .int x6)] → zS G h s.heap H locs → f_X12_half_67  n x1 x2 x3 x4 x5 x6 h = some q → W p l e (zrm (4)) s m args below meth c H locs 0 0 (MQ below (zQI G q.2 q.1) args s 0 0 (zA G)) (F0 m 67 ls []) := by
  intro n
  induction n with
  | zero => intro ls H locs h x1 x2 x3 x4 x5 x6 hl hS hf; cases hf
  | succ n ih =>
    intro ls H locs h x1 x2 x3 x4 x5 x6 hl hS hf
    rw [f_X12_half_67] at hf
    refine lv_iload C.1 C.2.1 dX12_half_67 (lv_at hl 6 rfl) ?_
    refine lv_bipush (v := (10 : Int32)) C.1 C.2.1 dX12_half_69 rfl ?_
    refine lv_icmp_ge (tgt := 91) C.1 C.2.1 dX12_half_71 (by decide) (fun hc => ?_) (fun hc => ?_)
    · have hf := zif_t hc hf
      refine lv_aload_n C.1 C.2.1 dX12_half_91 rfl (lv_at hl 0 rfl) ?_
      refine zgetR C hS ff_X12_7_100 (hm 100 (by decide)) (hk (100, 0) (by decide)) dX12_half_92 ?_
      refine lv_iload C.1 C.2.1 dX12_half_95 (lv_at hl 5 rfl) ?_
      refine lv_iconst (v := (0 : Int32)) C.1 C.2.1 dX12_half_97 rfl ?_
      refine lv_iadd C.1 C.2.1 dX12_half_98 ?_
      refine lv_iload_n C.1 C.2.1 dX12_half_99 rfl (lv_at hl 1 rfl) ?_
      obtain ⟨hi, hf⟩ := zck_some hf
      refine zast C hS sh_101 (hm 101 (by decide)) hi dX12_half_100 (fun H locs hS => ?_)
      obtain ⟨h10, eh10, hf⟩ := zst_some hf
      have hS : zS G h10 s.heap H locs := by rw [eh10]; exact hS
      refine lv_aload_n C.1 C.2.1 dX12_half_101 rfl (lv_at hl 0 rfl) ?_
      refine zgetR C hS ff_X12_7_100 (hm 100 (by decide)) (hk (100, 0) (by decide)) dX12_half_102 ?_
      refine lv_iload C.1 C.2.1 dX12_half_105 (lv_at hl 5 rfl) ?_
      refine lv_iconst (v := (1 : Int32)) C.1 C.2.1 dX12_half_107 rfl ?_
      refine lv_iadd C.1 C.2.1 dX12_half_108 ?_
      refine lv_iload_n C.1 C.2.1 dX12_half_109 rfl (lv_at hl 2 rfl) ?_
      obtain ⟨hi, hf⟩ := zck_some hf
      refine zast C hS sh_101 (hm 101 (by decide)) hi dX12_half_110 (fun H locs hS => ?_)
      obtain ⟨h11, eh11, hf⟩ := zst_some hf
      have hS : zS G h11 s.heap H locs := by rw [eh11]; exact hS
      refine lv_aload_n C.1 C.2.1 dX12_half_111 rfl (lv_at hl 0 rfl) ?_
      refine zgetR C hS ff_X12_7_100 (hm 100 (by decide)) (hk (100, 0) (by decide)) dX12_half_112 ?_
      refine lv_iload C.1 C.2.1 dX12_half_115 (lv_at hl 5 rfl) ?_
      refine lv_iconst (v := (2 : Int32)) C.1 C.2.1 dX12_half_117 rfl ?_
      refine lv_iadd C.1 C.2.1 dX12_half_118 ?_
      refine lv_iload_n C.1 C.2.1 dX12_half_119 rfl (lv_at hl 3 rfl) ?_
      obtain ⟨hi, hf⟩ := zck_some hf
      refine zast C hS sh_101 (hm 101 (by decide)) hi dX12_half_120 (fun H locs hS => ?_)
      obtain ⟨h12, eh12, hf⟩ := zst_some hf
      have hS : zS G h12 s.heap H locs := by rw [eh12]; exact hS
      refine lv_aload_n C.1 C.2.1 dX12_half_121 rfl (lv_at hl 0 rfl) ?_
      refine zgetR C hS ff_X12_7_100 (hm 100 (by decide)) (hk (100, 0) (by decide)) dX12_half_122 ?_
      refine lv_iload C.1 C.2.1 dX12_half_125 (lv_at hl 5 rfl) ?_
      refine lv_iconst (v := (3 : Int32)) C.1 C.2.1 dX12_half_127 rfl ?_
      refine lv_iadd C.1 C.2.1 dX12_half_128 ?_
      refine lv_iload C.1 C.2.1 dX12_half_129 (lv_at hl 4 rfl) ?_
      refine lv_iadd C.1 C.2.1 dX12_half_131 ?_
      refine lv_iconst (v := (4 : Int32)) C.1 C.2.1 dX12_half_132 rfl ?_
      obtain ⟨hi, hf⟩ := zck_some hf
      refine zast C hS sh_101 (hm 101 (by decide)) hi dX12_half_133 (fun H locs hS => ?_)
      obtain ⟨h13, eh13, hf⟩ := zst_some hf
      have hS : zS G h13 s.heap H locs := by rw [eh13]; exact hS
      refine lv_aload_n C.1 C.2.1 dX12_half_134 rfl (lv_at hl 0 rfl) ?_
      refine zgetR C hS ff_X12_7_100 (hm 100 (by decide)) (hk (100, 0) (by decide)) dX12_half_135 ?_
      refine lv_iconst (v := (3 : Int32)) C.1 C.2.1 dX12_half_138 rfl ?_
      refine lv_dup2_11 C.1 C.2.1 dX12_half_139 rfl rfl ?_
      refine zald C hS sh_101 (hm 101 (by decide)) (vp_in_iff.mpr (by decide)) dX12_half_140 ?_
      refine lv_iconst (v := (1 : Int32)) C.1 C.2.1 dX12_half_141 rfl ?_
      refine lv_iadd C.1 C.2.1 dX12_half_142 ?_
      refine zast C hS sh_101 (hm 101 (by decide)) (vp_in_iff.mpr (by decide)) dX12_half_143 (fun H locs hS => ?_)
      obtain ⟨h14, eh14, hf⟩ := zst_some hf
      have hS : zS G h14 s.heap H locs := by rw [eh14]; exact hS
      refine lv_aload_n C.1 C.2.1 dX12_half_144 rfl (lv_at hl 0 rfl) ?_
      obtain ⟨r15, h16, er15, hf⟩ := zbd_some hf
      refine zcallVV (As := []) (rest := []) C hS mv_X12_76 (c_X12_forgets l G h14  (r15, h16) (fun c h => hm c (sn_X12_half_X12_forgets c h)) (fun q h => hk q (sl_X12_half_X12_forgets q h)) er15) (hm 100 (by decide)) ⟨_, _, _, sh_100, rfl, rfl⟩ rfl rfl (Nat.le_of_ble_eq_true rfl) hl.1 ⟨Nat.le_of_ble_eq_true rfl, Nat.le_of_ble_eq_true rfl, Nat.le_of_ble_eq_true rfl, Nat.le_of_ble_eq_true rfl⟩ dX12_half_145 (fun H locs hS => ?_)
      refine lv_aload_n C.1 C.2.1 dX12_half_148 rfl (lv_at hl 0 rfl) ?_
      refine zgetR C hS ff_X12_7_100 (hm 100 (by decide)) (hk (100, 0) (by decide)) dX12_half_149 ?_
      refine lv_iconst (v := (3 : Int32)) C.1 C.2.1 dX12_half_152 rfl ?_
      refine zald C hS sh_101 (hm 101 (by decide)) (vp_in_iff.mpr (by decide)) dX12_half_153 ?_
      refine lv_iconst (v := (1 : Int32)) C.1 C.2.1 dX12_half_154 rfl ?_
      refine lv_isub C.1 C.2.1 dX12_half_155 ?_
      exact zretI C hS hf dX12_half_156
    · have hf := zif_f hc hf
      refine lv_aload_n C.1 C.2.1 dX12_half_74 rfl (lv_at hl 0 rfl) ?_
      refine zgetR C hS ff_X12_7_100 (hm 100 (by decide)) (hk (100, 0) (by decide)) dX12_half_75 ?_
      refine lv_iload C.1 C.2.1 dX12_half_78 (lv_at hl 5 rfl) ?_
      refine lv_iload C.1 C.2.1 dX12_half_80 (lv_at hl 6 rfl) ?_
      refine lv_iadd C.1 C.2.1 dX12_half_82 ?_
      refine lv_iconst (v := (0 : Int32)) C.1 C.2.1 dX12_half_83 rfl ?_
      obtain ⟨hi, hf⟩ := zck_some hf
      refine zast C hS sh_101 (hm 101 (by decide)) hi dX12_half_84 (fun H locs hS => ?_)
      obtain ⟨h17, eh17, hf⟩ := zst_some hf
      have hS : zS G h17 s.heap H locs := by rw [eh17]; exact hS
      obtain ⟨y18, ey18, hf⟩ := zlt_some hf
      refine lv_iinc (v := y18) (lv' := [(6, .int y18), (0, .ref (zal G 100)), (1, .int x1), (2, .int x2), (3, .int x3), (4, .int x4), (5, .int x5)]) C.1 C.2.1 dX12_half_85 hl (k := 6) rfl ey18.symm (by decide) rfl (fun ls hl => ?_)
      refine lv_goto (tgt := 67) C.1 C.2.1 dX12_half_88 (by decide) ?_
      exact ih _ _ _ _ _ _ _ _ _ _ (lv_sub hl [1, 2, 3, 4, 5, 6, 0] rfl) hS hf
set_option maxHeartbeats 4000000 in
set_option maxRecDepth 100000 in
theorem c_X12_half (l : Launch) (G : zG) (h : zH) (x1 : Int32) (x2 : Int32) (x3 : Int32) (x4 : Int32) (q : Int32 × zH) (hm : ∀ c ∈ nd_X12_half, c ∈ znm G) (hk : ∀ q ∈ ld_X12_half, zlk G q.1 q.2 = true) (hf : f_X12_half x1 x2 x3 x4 h = some q) : zCtI l yX12_half cX12_half 7 (some .int) (4) [.ref (zal G 100), .int x1, .int x2, .int x3, .int x4] G h q.2 q.1 := by
  refine zMetI (by decide) (Nat.le_of_ble_eq_true rfl) ?_
  intro p e s m below meth c ls C hl hS
  have hl : lv_has ls 7 [(0, .ref (zal G 100)), (1, .int x1), (2, .int x2), (3, .int x3), (4, .int x4)] := hl
  have C : zC G p s m [.ref (zal G 100), .int x1, .int x2, .int x3, .int x4].toArray meth c cX12_half 7 RX12 (some .int) := C
  unfold f_X12_half at hf
  refine lv_iload_n C.1 C.2.1 dX12_half_0 rfl (lv_at hl 1 rfl) ?_
  refine lv_iconst (v := (0 : Int32)) C.1 C.2.1 dX12_half_1 rfl ?_
  refine lv_iconst (v := (1 : Int32)) C.1 C.2.1 dX12_half_2 rfl ?_
  obtain ⟨r1, h2, er1, hf⟩ := zbd_some hf
  refine zcallSI (As := [.int x1, .int (0 : Int32), .int (1 : Int32)]) (rest := []) C hS ms_X12_65 (c_X12_isIn l G h x1 (0 : Int32) (1 : Int32) (r1, h2) (fun c h => hm c (sn_X12_half_X12_isIn c h)) (fun q h => hk q (sl_X12_half_X12_isIn q h)) er1) rfl rfl (Nat.le_of_ble_eq_true rfl) hl.1 ⟨Nat.le_of_ble_eq_true rfl, Nat.le_of_ble_eq_true rfl, Nat.le_of_ble_eq_true rfl, Nat.le_of_ble_eq_true rfl⟩ dX12_half_3 (fun H locs hS => ?_)
  refine lv_if_eq (tgt := 48) C.1 C.2.1 dX12_half_6 (by decide) (fun hc => ?_) (fun hc => ?_)
  · have hf := zif_t hc hf
    exact w_X12_half_48 C hm hk  _ _ _ _ (lv_sub hl [] rfl) hS hf
  · have hf := zif_f hc hf
    refine lv_iload_n C.1 C.2.1 dX12_half_9 rfl (lv_at hl 2 rfl) ?_
    refine lv_iconst (v := (0 : Int32)) C.1 C.2.1 dX12_half_10 rfl ?_
    refine lv_bipush (v := (9 : Int32)) C.1 C.2.1 dX12_half_11 rfl ?_
    obtain ⟨r3, h4, er3, hf⟩ := zbd_some hf
    refine zcallSI (As := [.int x2, .int (0 : Int32), .int (9 : Int32)]) (rest := []) C hS ms_X12_65 (c_X12_isIn l G h2 x2 (0 : Int32) (9 : Int32) (r3, h4) (fun c h => hm c (sn_X12_half_X12_isIn c h)) (fun q h => hk q (sl_X12_half_X12_isIn q h)) er3) rfl rfl (Nat.le_of_ble_eq_true rfl) hl.1 ⟨Nat.le_of_ble_eq_true rfl, Nat.le_of_ble_eq_true rfl, Nat.le_of_ble_eq_true rfl, Nat.le_of_ble_eq_true rfl⟩ dX12_half_13 (fun H locs hS => ?_)
    refine lv_if_eq (tgt := 48) C.1 C.2.1 dX12_half_16 (by decide) (fun hc => ?_) (fun hc => ?_)
    · have hf := zif_t hc hf
      exact w_X12_half_48 C hm hk  _ _ _ _ (lv_sub hl [] rfl) hS hf
    · have hf := zif_f hc hf
      refine lv_iload_n C.1 C.2.1 dX12_half_19 rfl (lv_at hl 3 rfl) ?_
      refine lv_iconst (v := (0 : Int32)) C.1 C.2.1 dX12_half_20 rfl ?_
      refine lv_bipush (v := (99 : Int32)) C.1 C.2.1 dX12_half_21 rfl ?_
      obtain ⟨r5, h6, er5, hf⟩ := zbd_some hf
      refine zcallSI (As := [.int x3, .int (0 : Int32), .int (99 : Int32)]) (rest := []) C hS ms_X12_65 (c_X12_isIn l G h4 x3 (0 : Int32) (99 : Int32) (r5, h6) (fun c h => hm c (sn_X12_half_X12_isIn c h)) (fun q h => hk q (sl_X12_half_X12_isIn q h)) er5) rfl rfl (Nat.le_of_ble_eq_true rfl) hl.1 ⟨Nat.le_of_ble_eq_true rfl, Nat.le_of_ble_eq_true rfl, Nat.le_of_ble_eq_true rfl, Nat.le_of_ble_eq_true rfl⟩ dX12_half_23 (fun H locs hS => ?_)
      refine lv_if_eq (tgt := 48) C.1 C.2.1 dX12_half_26 (by decide) (fun hc => ?_) (fun hc => ?_)
      · have hf := zif_t hc hf
        exact w_X12_half_48 C hm hk  _ _ _ _ (lv_sub hl [] rfl) hS hf
      · have hf := zif_f hc hf
        refine lv_iload C.1 C.2.1 dX12_half_29 (lv_at hl 4 rfl) ?_
        obtain ⟨r7, h8, er7, hf⟩ := zbd_some hf
        refine zcallSI (As := [.int x4]) (rest := []) C hS ms_X12_81 (c_X12_isFamily l G h6 x4 (r7, h8) (fun c h => hm c (sn_X12_half_X12_isFamily c h)) (fun q h => hk q (sl_X12_half_X12_isFamily q h)) er7) rfl rfl (Nat.le_of_ble_eq_true rfl) hl.1 ⟨Nat.le_of_ble_eq_true rfl, Nat.le_of_ble_eq_true rfl, Nat.le_of_ble_eq_true rfl, Nat.le_of_ble_eq_true rfl⟩ dX12_half_31 (fun H locs hS => ?_)
        refine lv_if_eq (tgt := 48) C.1 C.2.1 dX12_half_34 (by decide) (fun hc => ?_) (fun hc => ?_)
        · have hf := zif_t hc hf
          exact w_X12_half_48 C hm hk  _ _ _ _ (lv_sub hl [] rfl) hS hf
        · have hf := zif_f hc hf
          refine lv_aload_n C.1 C.2.1 dX12_half_37 rfl (lv_at hl 0 rfl) ?_
          refine zgetR C hS ff_X12_7_100 (hm 100 (by decide)) (hk (100, 0) (by decide)) dX12_half_38 ?_
          refine lv_iconst (v := (3 : Int32)) C.1 C.2.1 dX12_half_41 rfl ?_
          refine zald C hS sh_101 (hm 101 (by decide)) (vp_in_iff.mpr (by decide)) dX12_half_42 ?_
          refine lv_bipush (v := (16 : Int32)) C.1 C.2.1 dX12_half_43 rfl ?_
          refine lv_icmp_ne (tgt := 50) C.1 C.2.1 dX12_half_45 (by decide) (fun hc => ?_) (fun hc => ?_)
          · have hf := zif_f hc hf
            refine lv_bipush (v := (20 : Int32)) C.1 C.2.1 dX12_half_50 rfl ?_
            refine lv_bipush (v := (10 : Int32)) C.1 C.2.1 dX12_half_52 rfl ?_
            refine lv_aload_n C.1 C.2.1 dX12_half_54 rfl (lv_at hl 0 rfl) ?_
            refine zgetR C hS ff_X12_7_100 (hm 100 (by decide)) (hk (100, 0) (by decide)) dX12_half_55 ?_
            refine lv_iconst (v := (3 : Int32)) C.1 C.2.1 dX12_half_58 rfl ?_
            refine zald C hS sh_101 (hm 101 (by decide)) (vp_in_iff.mpr (by decide)) dX12_half_59 ?_
            refine lv_imul C.1 C.2.1 dX12_half_60 ?_
            refine lv_iadd C.1 C.2.1 dX12_half_61 ?_
            obtain ⟨y9, ey9, hf⟩ := zlt_some hf
            refine ztop ey9 ?_
            refine lv_istore (lv' := [(5, .int y9), (0, .ref (zal G 100)), (1, .int x1), (2, .int x2), (3, .int x3), (4, .int x4)]) C.1 C.2.1 dX12_half_62 hl (by decide) rfl (fun ls hl => ?_)
            refine lv_iconst (v := (0 : Int32)) C.1 C.2.1 dX12_half_64 rfl ?_
            refine lv_istore (lv' := [(6, .int (0 : Int32)), (5, .int y9), (0, .ref (zal G 100)), (1, .int x1), (2, .int x2), (3, .int x3), (4, .int x4)]) C.1 C.2.1 dX12_half_65 hl (by decide) rfl (fun ls hl => ?_)
            exact w_X12_half_67 C hm hk  zN _ _ _ _ _ _ _ _ _ _ (lv_sub hl [2, 3, 4, 5, 6, 1, 0] rfl) hS hf
          · have hf := zif_t hc hf
            exact w_X12_half_48 C hm hk  _ _ _ _ (lv_sub hl [] rfl) hS hf
end
section
theorem dX12_isHalf_0 : decode cX12_isHalf 0 = .ok (.iload_n 1, 1) := by decide +kernel
theorem dX12_isHalf_1 : decode cX12_isHalf 1 = .ok (.iconst 0, 1) := by decide +kernel
theorem dX12_isHalf_2 : decode cX12_isHalf 2 = .ok (.aload_n 0, 1) := by decide +kernel
theorem dX12_isHalf_3 : decode cX12_isHalf 3 = .ok (.getfield 7, 3) := by decide +kernel
theorem dX12_isHalf_6 : decode cX12_isHalf 6 = .ok (.iconst 3, 1) := by decide +kernel
theorem dX12_isHalf_7 : decode cX12_isHalf 7 = .ok (.iaload, 1) := by decide +kernel
theorem dX12_isHalf_8 : decode cX12_isHalf 8 = .ok (.iconst 1, 1) := by decide +kernel
theorem dX12_isHalf_9 : decode cX12_isHalf 9 = .ok (.isub, 1) := by decide +kernel
theorem dX12_isHalf_10 : decode cX12_isHalf 10 = .ok (.invokestatic 65, 3) := by decide +kernel
theorem dX12_isHalf_13 : decode cX12_isHalf 13 = .ok (.ireturn, 1) := by decide +kernel
abbrev nd_X12_isHalf : List Nat := [100, 101]
abbrev ld_X12_isHalf : List (Nat × Nat) := [(100, 0)]
theorem sn_X12_isHalf_X12_isIn : ∀ c ∈ nd_X12_isIn, c ∈ nd_X12_isHalf := by decide
theorem sl_X12_isHalf_X12_isIn : ∀ q ∈ ld_X12_isIn, q ∈ ld_X12_isHalf := by decide
def f_X12_isHalf  (x1 : Int32) (h : zH) : zR := (zbd (f_X12_isIn x1 (0 : Int32) ((h 101 3) - (1 : Int32)) h) fun r1 h2 => (zbo r1 (some (r1, h2))))
variable {p : Program} {l : Launch} {e : Env} {s : State} {m : MethodId} {args : Array Value} {below : List Frame} {meth : Method} {c : Code} {G : zG} {q : Int32 × zH}
set_option maxHeartbeats 4000000 in
set_option maxRecDepth 100000 in
theorem c_X12_isHalf (l : Launch) (G : zG) (h : zH) (x1 : Int32) (q : Int32 × zH) (hm : ∀ c ∈ nd_X12_isHalf, c ∈ znm G) (hk : ∀ q ∈ ld_X12_isHalf, zlk G q.1 q.2 = true) (hf : f_X12_isHalf x1 h = some q) : zCtI l yX12_isHalf cX12_isHalf 2 (some .boolean) (3) [.ref (zal G 100), .int x1] G h q.2 q.1 := by
  refine zMetI (by decide) (Nat.le_of_ble_eq_true rfl) ?_
  intro p e s m below meth c ls C hl hS
  have hl : lv_has ls 2 [(0, .ref (zal G 100)), (1, .int x1)] := hl
  have C : zC G p s m [.ref (zal G 100), .int x1].toArray meth c cX12_isHalf 2 RX12 (some .boolean) := C
  unfold f_X12_isHalf at hf
  refine lv_iload_n C.1 C.2.1 dX12_isHalf_0 rfl (lv_at hl 1 rfl) ?_
  refine lv_iconst (v := (0 : Int32)) C.1 C.2.1 dX12_isHalf_1 rfl ?_
  refine lv_aload_n C.1 C.2.1 dX12_isHalf_2 rfl (lv_at hl 0 rfl) ?_
  refine zgetR C hS ff_X12_7_100 (hm 100 (by decide)) (hk (100, 0) (by decide)) dX12_isHalf_3 ?_
  refine lv_iconst (v := (3 : Int32)) C.1 C.2.1 dX12_isHalf_6 rfl ?_
  refine zald C hS sh_101 (hm 101 (by decide)) (vp_in_iff.mpr (by decide)) dX12_isHalf_7 ?_
  refine lv_iconst (v := (1 : Int32)) C.1 C.2.1 dX12_isHalf_8 rfl ?_
  refine lv_isub C.1 C.2.1 dX12_isHalf_9 ?_
  obtain ⟨r1, h2, er1, hf⟩ := zbd_some hf
  refine zcallSI (As := [.int x1, .int (0 : Int32), .int ((h 101 3) - (1 : Int32))]) (rest := []) C hS ms_X12_65 (c_X12_isIn l G h x1 (0 : Int32) ((h 101 3) - (1 : Int32)) (r1, h2) (fun c h => hm c (sn_X12_isHalf_X12_isIn c h)) (fun q h => hk q (sl_X12_isHalf_X12_isIn q h)) er1) rfl rfl (Nat.le_of_ble_eq_true rfl) hl.1 ⟨Nat.le_of_ble_eq_true rfl, Nat.le_of_ble_eq_true rfl, Nat.le_of_ble_eq_true rfl, Nat.le_of_ble_eq_true rfl⟩ dX12_isHalf_10 (fun H locs hS => ?_)
  obtain ⟨hb, hf⟩ := zbo_some hf
  exact zretZ C hS hb hf dX12_isHalf_13
end
section
theorem dX12_ofHalf_0 : decode cX12_ofHalf 0 = .ok (.aload_n 0, 1) := by decide +kernel
theorem dX12_ofHalf_1 : decode cX12_ofHalf 1 = .ok (.getfield 7, 3) := by decide +kernel
theorem dX12_ofHalf_4 : decode cX12_ofHalf 4 = .ok (.bipush 20, 2) := by decide +kernel
theorem dX12_ofHalf_6 : decode cX12_ofHalf 6 = .ok (.bipush 10, 2) := by decide +kernel
theorem dX12_ofHalf_8 : decode cX12_ofHalf 8 = .ok (.iload_n 1, 1) := by decide +kernel
theorem dX12_ofHalf_9 : decode cX12_ofHalf 9 = .ok (.imul, 1) := by decide +kernel
theorem dX12_ofHalf_10 : decode cX12_ofHalf 10 = .ok (.iadd, 1) := by decide +kernel
theorem dX12_ofHalf_11 : decode cX12_ofHalf 11 = .ok (.iload_n 2, 1) := by decide +kernel
theorem dX12_ofHalf_12 : decode cX12_ofHalf 12 = .ok (.iadd, 1) := by decide +kernel
theorem dX12_ofHalf_13 : decode cX12_ofHalf 13 = .ok (.iaload, 1) := by decide +kernel
theorem dX12_ofHalf_14 : decode cX12_ofHalf 14 = .ok (.ireturn, 1) := by decide +kernel
abbrev nd_X12_ofHalf : List Nat := [100, 101]
abbrev ld_X12_ofHalf : List (Nat × Nat) := [(100, 0)]
def f_X12_ofHalf  (x1 : Int32) (x2 : Int32) (h : zH) : zR := (zck (((20 : Int32) + ((10 : Int32) * x1)) + x2) 2220 (some ((h 101 (Int32.toNatClampNeg (((20 : Int32) + ((10 : Int32) * x1)) + x2))), h)))
variable {p : Program} {l : Launch} {e : Env} {s : State} {m : MethodId} {args : Array Value} {below : List Frame} {meth : Method} {c : Code} {G : zG} {q : Int32 × zH}
set_option maxHeartbeats 4000000 in
set_option maxRecDepth 100000 in
theorem c_X12_ofHalf (l : Launch) (G : zG) (h : zH) (x1 : Int32) (x2 : Int32) (q : Int32 × zH) (hm : ∀ c ∈ nd_X12_ofHalf, c ∈ znm G) (hk : ∀ q ∈ ld_X12_ofHalf, zlk G q.1 q.2 = true) (hf : f_X12_ofHalf x1 x2 h = some q) : zCtI l yX12_ofHalf cX12_ofHalf 3 (some .int) (2) [.ref (zal G 100), .int x1, .int x2] G h q.2 q.1 := by
  refine zMetI (by decide) (Nat.le_of_ble_eq_true rfl) ?_
  intro p e s m below meth c ls C hl hS
  have hl : lv_has ls 3 [(0, .ref (zal G 100)), (1, .int x1), (2, .int x2)] := hl
  have C : zC G p s m [.ref (zal G 100), .int x1, .int x2].toArray meth c cX12_ofHalf 3 RX12 (some .int) := C
  unfold f_X12_ofHalf at hf
  refine lv_aload_n C.1 C.2.1 dX12_ofHalf_0 rfl (lv_at hl 0 rfl) ?_
  refine zgetR C hS ff_X12_7_100 (hm 100 (by decide)) (hk (100, 0) (by decide)) dX12_ofHalf_1 ?_
  refine lv_bipush (v := (20 : Int32)) C.1 C.2.1 dX12_ofHalf_4 rfl ?_
  refine lv_bipush (v := (10 : Int32)) C.1 C.2.1 dX12_ofHalf_6 rfl ?_
  refine lv_iload_n C.1 C.2.1 dX12_ofHalf_8 rfl (lv_at hl 1 rfl) ?_
  refine lv_imul C.1 C.2.1 dX12_ofHalf_9 ?_
  refine lv_iadd C.1 C.2.1 dX12_ofHalf_10 ?_
  refine lv_iload_n C.1 C.2.1 dX12_ofHalf_11 rfl (lv_at hl 2 rfl) ?_
  refine lv_iadd C.1 C.2.1 dX12_ofHalf_12 ?_
  obtain ⟨hi, hf⟩ := zck_some hf
  refine zald C hS sh_101 (hm 101 (by decide)) hi dX12_ofHalf_13 ?_
  exact zretI C hS hf dX12_ofHalf_14
end
section
theorem dX12_quarters_0 : decode cX12_quarters 0 = .ok (.aload_n 0, 1) := by decide +kernel
theorem dX12_quarters_1 : decode cX12_quarters 1 = .ok (.iload_n 1, 1) := by decide +kernel
theorem dX12_quarters_2 : decode cX12_quarters 2 = .ok (.iconst 3, 1) := by decide +kernel
theorem dX12_quarters_3 : decode cX12_quarters 3 = .ok (.iload_n 2, 1) := by decide +kernel
theorem dX12_quarters_4 : decode cX12_quarters 4 = .ok (.iadd, 1) := by decide +kernel
theorem dX12_quarters_5 : decode cX12_quarters 5 = .ok (.invokevirtual 69, 3) := by decide +kernel
theorem dX12_quarters_8 : decode cX12_quarters 8 = .ok (.ireturn, 1) := by decide +kernel
abbrev nd_X12_quarters : List Nat := [100, 101]
abbrev ld_X12_quarters : List (Nat × Nat) := [(100, 0)]
theorem sn_X12_quarters_X12_ofHalf : ∀ c ∈ nd_X12_ofHalf, c ∈ nd_X12_quarters := by decide
theorem sl_X12_quarters_X12_ofHalf : ∀ q ∈ ld_X12_ofHalf, q ∈ ld_X12_quarters := by decide
def f_X12_quarters  (x1 : Int32) (x2 : Int32) (h : zH) : zR := (zbd (f_X12_ofHalf x1 ((3 : Int32) + x2) h) fun r1 h2 => (some (r1, h2)))
variable {p : Program} {l : Launch} {e : Env} {s : State} {m : MethodId} {args : Array Value} {below : List Frame} {meth : Method} {c : Code} {G : zG} {q : Int32 × zH}
set_option maxHeartbeats 4000000 in
set_option maxRecDepth 100000 in
theorem c_X12_quarters (l : Launch) (G : zG) (h : zH) (x1 : Int32) (x2 : Int32) (q : Int32 × zH) (hm : ∀ c ∈ nd_X12_quarters, c ∈ znm G) (hk : ∀ q ∈ ld_X12_quarters, zlk G q.1 q.2 = true) (hf : f_X12_quarters x1 x2 h = some q) : zCtI l yX12_quarters cX12_quarters 3 (some .int) (3) [.ref (zal G 100), .int x1, .int x2] G h q.2 q.1 := by
  refine zMetI (by decide) (Nat.le_of_ble_eq_true rfl) ?_
  intro p e s m below meth c ls C hl hS
  have hl : lv_has ls 3 [(0, .ref (zal G 100)), (1, .int x1), (2, .int x2)] := hl
  have C : zC G p s m [.ref (zal G 100), .int x1, .int x2].toArray meth c cX12_quarters 3 RX12 (some .int) := C
  unfold f_X12_quarters at hf
  refine lv_aload_n C.1 C.2.1 dX12_quarters_0 rfl (lv_at hl 0 rfl) ?_
  refine lv_iload_n C.1 C.2.1 dX12_quarters_1 rfl (lv_at hl 1 rfl) ?_
  refine lv_iconst (v := (3 : Int32)) C.1 C.2.1 dX12_quarters_2 rfl ?_
  refine lv_iload_n C.1 C.2.1 dX12_quarters_3 rfl (lv_at hl 2 rfl) ?_
  refine lv_iadd C.1 C.2.1 dX12_quarters_4 ?_
  obtain ⟨r1, h2, er1, hf⟩ := zbd_some hf
  refine zcallVI (As := [.int x1, .int ((3 : Int32) + x2)]) (rest := []) C hS mv_X12_69 (c_X12_ofHalf l G h x1 ((3 : Int32) + x2) (r1, h2) (fun c h => hm c (sn_X12_quarters_X12_ofHalf c h)) (fun q h => hk q (sl_X12_quarters_X12_ofHalf q h)) er1) (hm 100 (by decide)) ⟨_, _, _, sh_100, rfl, rfl⟩ rfl rfl (Nat.le_of_ble_eq_true rfl) hl.1 ⟨Nat.le_of_ble_eq_true rfl, Nat.le_of_ble_eq_true rfl, Nat.le_of_ble_eq_true rfl, Nat.le_of_ble_eq_true rfl⟩ dX12_quarters_5 (fun H locs hS => ?_)
  exact zretI C hS hf dX12_quarters_8
end
section
theorem dX12_adds_0 : decode cX12_adds 0 = .ok (.aload_n 0, 1) := by decide +kernel
theorem dX12_adds_1 : decode cX12_adds 1 = .ok (.getfield 7, 3) := by decide +kernel
theorem dX12_adds_4 : decode cX12_adds 4 = .ok (.bipush 20, 2) := by decide +kernel
theorem dX12_adds_6 : decode cX12_adds 6 = .ok (.bipush 10, 2) := by decide +kernel
theorem dX12_adds_8 : decode cX12_adds 8 = .ok (.iload_n 1, 1) := by decide +kernel
theorem dX12_adds_9 : decode cX12_adds 9 = .ok (.imul, 1) := by decide +kernel
theorem dX12_adds_10 : decode cX12_adds 10 = .ok (.iadd, 1) := by decide +kernel
theorem dX12_adds_11 : decode cX12_adds 11 = .ok (.iconst 3, 1) := by decide +kernel
theorem dX12_adds_12 : decode cX12_adds 12 = .ok (.iadd, 1) := by decide +kernel
theorem dX12_adds_13 : decode cX12_adds 13 = .ok (.iload_n 2, 1) := by decide +kernel
theorem dX12_adds_14 : decode cX12_adds 14 = .ok (.iadd, 1) := by decide +kernel
theorem dX12_adds_15 : decode cX12_adds 15 = .ok (.dup2, 1) := by decide +kernel
theorem dX12_adds_16 : decode cX12_adds 16 = .ok (.iaload, 1) := by decide +kernel
theorem dX12_adds_17 : decode cX12_adds 17 = .ok (.iload_n 3, 1) := by decide +kernel
theorem dX12_adds_18 : decode cX12_adds 18 = .ok (.iadd, 1) := by decide +kernel
theorem dX12_adds_19 : decode cX12_adds 19 = .ok (.iastore, 1) := by decide +kernel
theorem dX12_adds_20 : decode cX12_adds 20 = .ok (.return_, 1) := by decide +kernel
abbrev nd_X12_adds : List Nat := [100, 101]
abbrev ld_X12_adds : List (Nat × Nat) := [(100, 0)]
def f_X12_adds  (x1 : Int32) (x2 : Int32) (x3 : Int32) (h : zH) : zR := (zck ((((20 : Int32) + ((10 : Int32) * x1)) + (3 : Int32)) + x2) 2220 (zck ((((20 : Int32) + ((10 : Int32) * x1)) + (3 : Int32)) + x2) 2220 (zst (zup h 101 (Int32.toNatClampNeg ((((20 : Int32) + ((10 : Int32) * x1)) + (3 : Int32)) + x2)) ((h 101 (Int32.toNatClampNeg ((((20 : Int32) + ((10 : Int32) * x1)) + (3 : Int32)) + x2))) + x3)) fun h1 => (some (0, h1)))))
variable {p : Program} {l : Launch} {e : Env} {s : State} {m : MethodId} {args : Array Value} {below : List Frame} {meth : Method} {c : Code} {G : zG} {q : Int32 × zH}
set_option maxHeartbeats 4000000 in
set_option maxRecDepth 100000 in
theorem c_X12_adds (l : Launch) (G : zG) (h : zH) (x1 : Int32) (x2 : Int32) (x3 : Int32) (q : Int32 × zH) (hm : ∀ c ∈ nd_X12_adds, c ∈ znm G) (hk : ∀ q ∈ ld_X12_adds, zlk G q.1 q.2 = true) (hf : f_X12_adds x1 x2 x3 h = some q) : zCtV l yX12_adds cX12_adds 4 none (2) [.ref (zal G 100), .int x1, .int x2, .int x3] G h q.2 := by
  refine zMetV (by decide) (Nat.le_of_ble_eq_true rfl) ?_
  intro p e s m below meth c ls C hl hS
  have hl : lv_has ls 4 [(0, .ref (zal G 100)), (1, .int x1), (2, .int x2), (3, .int x3)] := hl
  have C : zC G p s m [.ref (zal G 100), .int x1, .int x2, .int x3].toArray meth c cX12_adds 4 RX12 none := C
  unfold f_X12_adds at hf
  refine lv_aload_n C.1 C.2.1 dX12_adds_0 rfl (lv_at hl 0 rfl) ?_
  refine zgetR C hS ff_X12_7_100 (hm 100 (by decide)) (hk (100, 0) (by decide)) dX12_adds_1 ?_
  refine lv_bipush (v := (20 : Int32)) C.1 C.2.1 dX12_adds_4 rfl ?_
  refine lv_bipush (v := (10 : Int32)) C.1 C.2.1 dX12_adds_6 rfl ?_
  refine lv_iload_n C.1 C.2.1 dX12_adds_8 rfl (lv_at hl 1 rfl) ?_
  refine lv_imul C.1 C.2.1 dX12_adds_9 ?_
  refine lv_iadd C.1 C.2.1 dX12_adds_10 ?_
  refine lv_iconst (v := (3 : Int32)) C.1 C.2.1 dX12_adds_11 rfl ?_
  refine lv_iadd C.1 C.2.1 dX12_adds_12 ?_
  refine lv_iload_n C.1 C.2.1 dX12_adds_13 rfl (lv_at hl 2 rfl) ?_
  refine lv_iadd C.1 C.2.1 dX12_adds_14 ?_
  refine lv_dup2_11 C.1 C.2.1 dX12_adds_15 rfl rfl ?_
  obtain ⟨hi, hf⟩ := zck_some hf
  refine zald C hS sh_101 (hm 101 (by decide)) hi dX12_adds_16 ?_
  refine lv_iload_n C.1 C.2.1 dX12_adds_17 rfl (lv_at hl 3 rfl) ?_
  refine lv_iadd C.1 C.2.1 dX12_adds_18 ?_
  obtain ⟨hi, hf⟩ := zck_some hf
  refine zast C hS sh_101 (hm 101 (by decide)) hi dX12_adds_19 (fun H locs hS => ?_)
  obtain ⟨h1, eh1, hf⟩ := zst_some hf
  have hS : zS G h1 s.heap H locs := by rw [eh1]; exact hS
  exact zretV C hS hf dX12_adds_20
end
section
theorem dX12_give_0 : decode cX12_give 0 = .ok (.aload_n 0, 1) := by decide +kernel
theorem dX12_give_1 : decode cX12_give 1 = .ok (.iload_n 1, 1) := by decide +kernel
theorem dX12_give_2 : decode cX12_give 2 = .ok (.invokevirtual 85, 3) := by decide +kernel
theorem dX12_give_5 : decode cX12_give 5 = .ok (.ifCond .eq 38, 3) := by decide +kernel
theorem dX12_give_8 : decode cX12_give 8 = .ok (.iload_n 3, 1) := by decide +kernel
theorem dX12_give_9 : decode cX12_give 9 = .ok (.invokestatic 81, 3) := by decide +kernel
theorem dX12_give_12 : decode cX12_give 12 = .ok (.ifCond .eq 31, 3) := by decide +kernel
theorem dX12_give_15 : decode cX12_give 15 = .ok (.iload 4, 2) := by decide +kernel
theorem dX12_give_17 : decode cX12_give 17 = .ok (.invokestatic 81, 3) := by decide +kernel
theorem dX12_give_20 : decode cX12_give 20 = .ok (.ifCond .eq 23, 3) := by decide +kernel
theorem dX12_give_23 : decode cX12_give 23 = .ok (.iload_n 3, 1) := by decide +kernel
theorem dX12_give_24 : decode cX12_give 24 = .ok (.iload 4, 2) := by decide +kernel
theorem dX12_give_26 : decode cX12_give 26 = .ok (.if_icmp .eq 17, 3) := by decide +kernel
theorem dX12_give_29 : decode cX12_give 29 = .ok (.iload_n 2, 1) := by decide +kernel
theorem dX12_give_30 : decode cX12_give 30 = .ok (.iconst 1, 1) := by decide +kernel
theorem dX12_give_31 : decode cX12_give 31 = .ok (.aload_n 0, 1) := by decide +kernel
theorem dX12_give_32 : decode cX12_give 32 = .ok (.iload_n 1, 1) := by decide +kernel
theorem dX12_give_33 : decode cX12_give 33 = .ok (.iload_n 3, 1) := by decide +kernel
theorem dX12_give_34 : decode cX12_give 34 = .ok (.invokevirtual 88, 3) := by decide +kernel
theorem dX12_give_37 : decode cX12_give 37 = .ok (.invokestatic 65, 3) := by decide +kernel
theorem dX12_give_40 : decode cX12_give 40 = .ok (.ifCond .ne 5, 3) := by decide +kernel
theorem dX12_give_43 : decode cX12_give 43 = .ok (.iconst 0, 1) := by decide +kernel
theorem dX12_give_44 : decode cX12_give 44 = .ok (.ireturn, 1) := by decide +kernel
theorem dX12_give_45 : decode cX12_give 45 = .ok (.aload_n 0, 1) := by decide +kernel
theorem dX12_give_46 : decode cX12_give 46 = .ok (.iload_n 1, 1) := by decide +kernel
theorem dX12_give_47 : decode cX12_give 47 = .ok (.iload_n 3, 1) := by decide +kernel
theorem dX12_give_48 : decode cX12_give 48 = .ok (.iload_n 2, 1) := by decide +kernel
theorem dX12_give_49 : decode cX12_give 49 = .ok (.ineg, 1) := by decide +kernel
theorem dX12_give_50 : decode cX12_give 50 = .ok (.invokevirtual 91, 3) := by decide +kernel
theorem dX12_give_53 : decode cX12_give 53 = .ok (.aload_n 0, 1) := by decide +kernel
theorem dX12_give_54 : decode cX12_give 54 = .ok (.iload_n 1, 1) := by decide +kernel
theorem dX12_give_55 : decode cX12_give 55 = .ok (.iload 4, 2) := by decide +kernel
theorem dX12_give_57 : decode cX12_give 57 = .ok (.iload_n 2, 1) := by decide +kernel
theorem dX12_give_58 : decode cX12_give 58 = .ok (.invokevirtual 91, 3) := by decide +kernel
theorem dX12_give_61 : decode cX12_give 61 = .ok (.aload_n 0, 1) := by decide +kernel
theorem dX12_give_62 : decode cX12_give 62 = .ok (.invokevirtual 76, 3) := by decide +kernel
theorem dX12_give_65 : decode cX12_give 65 = .ok (.iconst 1, 1) := by decide +kernel
theorem dX12_give_66 : decode cX12_give 66 = .ok (.ireturn, 1) := by decide +kernel
abbrev nd_X12_give : List Nat := [100, 101]
abbrev ld_X12_give : List (Nat × Nat) := [(100, 0)]
theorem sn_X12_give_X12_isHalf : ∀ c ∈ nd_X12_isHalf, c ∈ nd_X12_give := by decide
theorem sl_X12_give_X12_isHalf : ∀ q ∈ ld_X12_isHalf, q ∈ ld_X12_give := by decide
theorem sn_X12_give_X12_isFamily : ∀ c ∈ nd_X12_isFamily, c ∈ nd_X12_give := by decide
theorem sl_X12_give_X12_isFamily : ∀ q ∈ ld_X12_isFamily, q ∈ ld_X12_give := by decide
theorem sn_X12_give_X12_quarters : ∀ c ∈ nd_X12_quarters, c ∈ nd_X12_give := by decide
theorem sl_X12_give_X12_quarters : ∀ q ∈ ld_X12_quarters, q ∈ ld_X12_give := by decide
theorem sn_X12_give_X12_isIn : ∀ c ∈ nd_X12_isIn, c ∈ nd_X12_give := by decide
theorem sl_X12_give_X12_isIn : ∀ q ∈ ld_X12_isIn, q ∈ ld_X12_give := by decide
theorem sn_X12_give_X12_adds : ∀ c ∈ nd_X12_adds, c ∈ nd_X12_give := by decide
theorem sl_X12_give_X12_adds : ∀ q ∈ ld_X12_adds, q ∈ ld_X12_give := by decide
theorem sn_X12_give_X12_forgets : ∀ c ∈ nd_X12_forgets, c ∈ nd_X12_give := by decide
theorem sl_X12_give_X12_forgets : ∀ q ∈ ld_X12_forgets, q ∈ ld_X12_give := by decide
def f_X12_give_43  (h : zH) : zR := (some ((0 : Int32), h))
def f_X12_give  (x1 : Int32) (x2 : Int32) (x3 : Int32) (x4 : Int32) (h : zH) : zR := (zbd (f_X12_isHalf x1 h) fun r1 h2 => (if r1 = 0 then (f_X12_give_43   h2) else (zbd (f_X12_isFamily x3 h2) fun r3 h4 => (if r3 = 0 then (f_X12_give_43   h4) else (zbd (f_X12_isFamily x4 h4) fun r5 h6 => (if r5 = 0 then (f_X12_give_43   h6) else (if x3 = x4 then (f_X12_give_43   h6) else (zbd (f_X12_quarters x1 x3 h6) fun r7 h8 => (zbd (f_X12_isIn x2 (1 : Int32) r7 h8) fun r9 h10 => (if r9 = 0 then (f_X12_give_43   h10) else (zbd (f_X12_adds x1 x3 (-x2) h10) fun r11 h12 => (zbd (f_X12_adds x1 x4 x2 h12) fun r13 h14 => (zbd (f_X12_forgets  h14) fun r15 h16 => (some ((1 : Int32), h16)))))))))))))))
variable {p : Program} {l : Launch} {e : Env} {s : State} {m : MethodId} {args : Array Value} {below : List Frame} {meth : Method} {c : Code} {G : zG} {q : Int32 × zH}
set_option maxHeartbeats 4000000 in
set_option maxRecDepth 100000 in
theorem w_X12_give_43  (C : zC G p s m args meth c cX12_give 5 RX12 (some .boolean)) (hm : ∀ c ∈ nd_X12_give, c ∈ znm G) (hk : ∀ q ∈ ld_X12_give, zlk G q.1 q.2 = true)  : ∀ (ls : Array Slot) (H : Heap) (locs : List Loc) (h : zH), lv_has ls 5 [] → zS G h s.heap H locs → f_X12_give_43  h = some q → W p l e (zrm (4)) s m args below meth c H locs 0 0 (MQ below (zQI G q.2 q.1) args s 0 0 (zA G)) (F0 m 43 ls []) := by
  intro ls H locs h hl hS hf
  unfold f_X12_give_43 at hf
  refine lv_iconst (v := (0 : Int32)) C.1 C.2.1 dX12_give_43 rfl ?_
  exact zretZ C hS rfl hf dX12_give_44
set_option maxHeartbeats 4000000 in
set_option maxRecDepth 100000 in
theorem c_X12_give (l : Launch) (G : zG) (h : zH) (x1 : Int32) (x2 : Int32) (x3 : Int32) (x4 : Int32) (q : Int32 × zH) (hm : ∀ c ∈ nd_X12_give, c ∈ znm G) (hk : ∀ q ∈ ld_X12_give, zlk G q.1 q.2 = true) (hf : f_X12_give x1 x2 x3 x4 h = some q) : zCtI l yX12_give cX12_give 5 (some .boolean) (4) [.ref (zal G 100), .int x1, .int x2, .int x3, .int x4] G h q.2 q.1 := by
  refine zMetI (by decide) (Nat.le_of_ble_eq_true rfl) ?_
  intro p e s m below meth c ls C hl hS
  have hl : lv_has ls 5 [(0, .ref (zal G 100)), (1, .int x1), (2, .int x2), (3, .int x3), (4, .int x4)] := hl
  have C : zC G p s m [.ref (zal G 100), .int x1, .int x2, .int x3, .int x4].toArray meth c cX12_give 5 RX12 (some .boolean) := C
  unfold f_X12_give at hf
  refine lv_aload_n C.1 C.2.1 dX12_give_0 rfl (lv_at hl 0 rfl) ?_
  refine lv_iload_n C.1 C.2.1 dX12_give_1 rfl (lv_at hl 1 rfl) ?_
  obtain ⟨r1, h2, er1, hf⟩ := zbd_some hf
  refine zcallVI (As := [.int x1]) (rest := []) C hS mv_X12_85 (c_X12_isHalf l G h x1 (r1, h2) (fun c h => hm c (sn_X12_give_X12_isHalf c h)) (fun q h => hk q (sl_X12_give_X12_isHalf q h)) er1) (hm 100 (by decide)) ⟨_, _, _, sh_100, rfl, rfl⟩ rfl rfl (Nat.le_of_ble_eq_true rfl) hl.1 ⟨Nat.le_of_ble_eq_true rfl, Nat.le_of_ble_eq_true rfl, Nat.le_of_ble_eq_true rfl, Nat.le_of_ble_eq_true rfl⟩ dX12_give_2 (fun H locs hS => ?_)
  refine lv_if_eq (tgt := 43) C.1 C.2.1 dX12_give_5 (by decide) (fun hc => ?_) (fun hc => ?_)
  · have hf := zif_t hc hf
    exact w_X12_give_43 C hm hk  _ _ _ _ (lv_sub hl [] rfl) hS hf
  · have hf := zif_f hc hf
    refine lv_iload_n C.1 C.2.1 dX12_give_8 rfl (lv_at hl 3 rfl) ?_
    obtain ⟨r3, h4, er3, hf⟩ := zbd_some hf
    refine zcallSI (As := [.int x3]) (rest := []) C hS ms_X12_81 (c_X12_isFamily l G h2 x3 (r3, h4) (fun c h => hm c (sn_X12_give_X12_isFamily c h)) (fun q h => hk q (sl_X12_give_X12_isFamily q h)) er3) rfl rfl (Nat.le_of_ble_eq_true rfl) hl.1 ⟨Nat.le_of_ble_eq_true rfl, Nat.le_of_ble_eq_true rfl, Nat.le_of_ble_eq_true rfl, Nat.le_of_ble_eq_true rfl⟩ dX12_give_9 (fun H locs hS => ?_)
    refine lv_if_eq (tgt := 43) C.1 C.2.1 dX12_give_12 (by decide) (fun hc => ?_) (fun hc => ?_)
    · have hf := zif_t hc hf
      exact w_X12_give_43 C hm hk  _ _ _ _ (lv_sub hl [] rfl) hS hf
    · have hf := zif_f hc hf
      refine lv_iload C.1 C.2.1 dX12_give_15 (lv_at hl 4 rfl) ?_
      obtain ⟨r5, h6, er5, hf⟩ := zbd_some hf
      refine zcallSI (As := [.int x4]) (rest := []) C hS ms_X12_81 (c_X12_isFamily l G h4 x4 (r5, h6) (fun c h => hm c (sn_X12_give_X12_isFamily c h)) (fun q h => hk q (sl_X12_give_X12_isFamily q h)) er5) rfl rfl (Nat.le_of_ble_eq_true rfl) hl.1 ⟨Nat.le_of_ble_eq_true rfl, Nat.le_of_ble_eq_true rfl, Nat.le_of_ble_eq_true rfl, Nat.le_of_ble_eq_true rfl⟩ dX12_give_17 (fun H locs hS => ?_)
      refine lv_if_eq (tgt := 43) C.1 C.2.1 dX12_give_20 (by decide) (fun hc => ?_) (fun hc => ?_)
      · have hf := zif_t hc hf
        exact w_X12_give_43 C hm hk  _ _ _ _ (lv_sub hl [] rfl) hS hf
      · have hf := zif_f hc hf
        refine lv_iload_n C.1 C.2.1 dX12_give_23 rfl (lv_at hl 3 rfl) ?_
        refine lv_iload C.1 C.2.1 dX12_give_24 (lv_at hl 4 rfl) ?_
        refine lv_icmp_eq (tgt := 43) C.1 C.2.1 dX12_give_26 (by decide) (fun hc => ?_) (fun hc => ?_)
        · have hf := zif_t hc hf
          exact w_X12_give_43 C hm hk  _ _ _ _ (lv_sub hl [] rfl) hS hf
        · have hf := zif_f hc hf
          refine lv_iload_n C.1 C.2.1 dX12_give_29 rfl (lv_at hl 2 rfl) ?_
          refine lv_iconst (v := (1 : Int32)) C.1 C.2.1 dX12_give_30 rfl ?_
          refine lv_aload_n C.1 C.2.1 dX12_give_31 rfl (lv_at hl 0 rfl) ?_
          refine lv_iload_n C.1 C.2.1 dX12_give_32 rfl (lv_at hl 1 rfl) ?_
          refine lv_iload_n C.1 C.2.1 dX12_give_33 rfl (lv_at hl 3 rfl) ?_
          obtain ⟨r7, h8, er7, hf⟩ := zbd_some hf
          refine zcallVI (As := [.int x1, .int x3]) (rest := [.int (1 : Int32), .int x2]) C hS mv_X12_88 (c_X12_quarters l G h6 x1 x3 (r7, h8) (fun c h => hm c (sn_X12_give_X12_quarters c h)) (fun q h => hk q (sl_X12_give_X12_quarters q h)) er7) (hm 100 (by decide)) ⟨_, _, _, sh_100, rfl, rfl⟩ rfl rfl (Nat.le_of_ble_eq_true rfl) hl.1 ⟨Nat.le_of_ble_eq_true rfl, Nat.le_of_ble_eq_true rfl, Nat.le_of_ble_eq_true rfl, Nat.le_of_ble_eq_true rfl⟩ dX12_give_34 (fun H locs hS => ?_)
          obtain ⟨r9, h10, er9, hf⟩ := zbd_some hf
          refine zcallSI (As := [.int x2, .int (1 : Int32), .int r7]) (rest := []) C hS ms_X12_65 (c_X12_isIn l G h8 x2 (1 : Int32) r7 (r9, h10) (fun c h => hm c (sn_X12_give_X12_isIn c h)) (fun q h => hk q (sl_X12_give_X12_isIn q h)) er9) rfl rfl (Nat.le_of_ble_eq_true rfl) hl.1 ⟨Nat.le_of_ble_eq_true rfl, Nat.le_of_ble_eq_true rfl, Nat.le_of_ble_eq_true rfl, Nat.le_of_ble_eq_true rfl⟩ dX12_give_37 (fun H locs hS => ?_)
          refine lv_if_ne (tgt := 45) C.1 C.2.1 dX12_give_40 (by decide) (fun hc => ?_) (fun hc => ?_)
          · have hf := zif_f hc hf
            refine lv_aload_n C.1 C.2.1 dX12_give_45 rfl (lv_at hl 0 rfl) ?_
            refine lv_iload_n C.1 C.2.1 dX12_give_46 rfl (lv_at hl 1 rfl) ?_
            refine lv_iload_n C.1 C.2.1 dX12_give_47 rfl (lv_at hl 3 rfl) ?_
            refine lv_iload_n C.1 C.2.1 dX12_give_48 rfl (lv_at hl 2 rfl) ?_
            refine lv_ineg C.1 C.2.1 dX12_give_49 ?_
            obtain ⟨r11, h12, er11, hf⟩ := zbd_some hf
            refine zcallVV (As := [.int x1, .int x3, .int (-x2)]) (rest := []) C hS mv_X12_91 (c_X12_adds l G h10 x1 x3 (-x2) (r11, h12) (fun c h => hm c (sn_X12_give_X12_adds c h)) (fun q h => hk q (sl_X12_give_X12_adds q h)) er11) (hm 100 (by decide)) ⟨_, _, _, sh_100, rfl, rfl⟩ rfl rfl (Nat.le_of_ble_eq_true rfl) hl.1 ⟨Nat.le_of_ble_eq_true rfl, Nat.le_of_ble_eq_true rfl, Nat.le_of_ble_eq_true rfl, Nat.le_of_ble_eq_true rfl⟩ dX12_give_50 (fun H locs hS => ?_)
            refine lv_aload_n C.1 C.2.1 dX12_give_53 rfl (lv_at hl 0 rfl) ?_
            refine lv_iload_n C.1 C.2.1 dX12_give_54 rfl (lv_at hl 1 rfl) ?_
            refine lv_iload C.1 C.2.1 dX12_give_55 (lv_at hl 4 rfl) ?_
            refine lv_iload_n C.1 C.2.1 dX12_give_57 rfl (lv_at hl 2 rfl) ?_
            obtain ⟨r13, h14, er13, hf⟩ := zbd_some hf
            refine zcallVV (As := [.int x1, .int x4, .int x2]) (rest := []) C hS mv_X12_91 (c_X12_adds l G h12 x1 x4 x2 (r13, h14) (fun c h => hm c (sn_X12_give_X12_adds c h)) (fun q h => hk q (sl_X12_give_X12_adds q h)) er13) (hm 100 (by decide)) ⟨_, _, _, sh_100, rfl, rfl⟩ rfl rfl (Nat.le_of_ble_eq_true rfl) hl.1 ⟨Nat.le_of_ble_eq_true rfl, Nat.le_of_ble_eq_true rfl, Nat.le_of_ble_eq_true rfl, Nat.le_of_ble_eq_true rfl⟩ dX12_give_58 (fun H locs hS => ?_)
            refine lv_aload_n C.1 C.2.1 dX12_give_61 rfl (lv_at hl 0 rfl) ?_
            obtain ⟨r15, h16, er15, hf⟩ := zbd_some hf
            refine zcallVV (As := []) (rest := []) C hS mv_X12_76 (c_X12_forgets l G h14  (r15, h16) (fun c h => hm c (sn_X12_give_X12_forgets c h)) (fun q h => hk q (sl_X12_give_X12_forgets q h)) er15) (hm 100 (by decide)) ⟨_, _, _, sh_100, rfl, rfl⟩ rfl rfl (Nat.le_of_ble_eq_true rfl) hl.1 ⟨Nat.le_of_ble_eq_true rfl, Nat.le_of_ble_eq_true rfl, Nat.le_of_ble_eq_true rfl, Nat.le_of_ble_eq_true rfl⟩ dX12_give_62 (fun H locs hS => ?_)
            refine lv_iconst (v := (1 : Int32)) C.1 C.2.1 dX12_give_65 rfl ?_
            exact zretZ C hS rfl hf dX12_give_66
          · have hf := zif_t hc hf
            exact w_X12_give_43 C hm hk  _ _ _ _ (lv_sub hl [] rfl) hS hf
end
section
theorem dX12_nextOf_0 : decode cX12_nextOf 0 = .ok (.iload_n 1, 1) := by decide +kernel
theorem dX12_nextOf_1 : decode cX12_nextOf 1 = .ok (.istore_n 2, 1) := by decide +kernel
theorem dX12_nextOf_2 : decode cX12_nextOf 2 = .ok (.iload_n 0, 1) := by decide +kernel
theorem dX12_nextOf_3 : decode cX12_nextOf 3 = .ok (.iload_n 2, 1) := by decide +kernel
theorem dX12_nextOf_4 : decode cX12_nextOf 4 = .ok (.ishr, 1) := by decide +kernel
theorem dX12_nextOf_5 : decode cX12_nextOf 5 = .ok (.iconst 1, 1) := by decide +kernel
theorem dX12_nextOf_6 : decode cX12_nextOf 6 = .ok (.iand, 1) := by decide +kernel
theorem dX12_nextOf_7 : decode cX12_nextOf 7 = .ok (.ifCond .ne 13, 3) := by decide +kernel
theorem dX12_nextOf_10 : decode cX12_nextOf 10 = .ok (.iload_n 2, 1) := by decide +kernel
theorem dX12_nextOf_11 : decode cX12_nextOf 11 = .ok (.iconst 1, 1) := by decide +kernel
theorem dX12_nextOf_12 : decode cX12_nextOf 12 = .ok (.iadd, 1) := by decide +kernel
theorem dX12_nextOf_13 : decode cX12_nextOf 13 = .ok (.bipush 6, 2) := by decide +kernel
theorem dX12_nextOf_15 : decode cX12_nextOf 15 = .ok (.irem, 1) := by decide +kernel
theorem dX12_nextOf_16 : decode cX12_nextOf 16 = .ok (.istore_n 2, 1) := by decide +kernel
theorem dX12_nextOf_17 : decode cX12_nextOf 17 = .ok (.goto (-15), 3) := by decide +kernel
theorem dX12_nextOf_20 : decode cX12_nextOf 20 = .ok (.iload_n 2, 1) := by decide +kernel
theorem dX12_nextOf_21 : decode cX12_nextOf 21 = .ok (.ireturn, 1) := by decide +kernel
abbrev nd_X12_nextOf : List Nat := []
abbrev ld_X12_nextOf : List (Nat × Nat) := []
def f_X12_nextOf_2  : Nat → Int32 → Int32 → zH → zR
  | 0 => fun _ _ _ => none
  | n + 1 => fun x0 x2 h => (if ((x0 >>> (x2 &&& 31)) &&& (1 : Int32)) = 0 then (zlt ((x2 + (1 : Int32)) - (x2 + (1 : Int32)) / (6 : Int32) * (6 : Int32)) fun y1 => (f_X12_nextOf_2  n x0 y1 h)) else (some (x2, h)))
def f_X12_nextOf  (x0 : Int32) (x1 : Int32) (h : zH) : zR := (f_X12_nextOf_2  zN x0 x1 h)
variable {p : Program} {l : Launch} {e : Env} {s : State} {m : MethodId} {args : Array Value} {below : List Frame} {meth : Method} {c : Code} {G : zG} {q : Int32 × zH}
set_option maxHeartbeats 4000000 in
set_option maxRecDepth 100000 in
theorem w_X12_nextOf_2  (C : zC G p s m args meth c cX12_nextOf 3 RX12 (some .int)) (hm : ∀ c ∈ nd_X12_nextOf, c ∈ znm G) (hk : ∀ q ∈ ld_X12_nextOf, zlk G q.1 q.2 = true)  : ∀ n, ∀ (ls : Array Slot) (H : Heap) (locs : List Loc) (h : zH) (x0 : Int32) (x2 : Int32), lv_has ls 3 [(0, .int x0), (2, .int x2)] → zS G h s.heap H locs → f_X12_nextOf_2  n x0 x2 h = some q → W p l e (zrm (2)) s m args below meth c H locs 0 0 (MQ below (zQI G q.2 q.1) args s 0 0 (zA G)) (F0 m 2 ls []) := by
  intro n
  induction n with
  | zero => intro ls H locs h x0 x2 hl hS hf; cases hf
  | succ n ih =>
    intro ls H locs h x0 x2 hl hS hf
    rw [f_X12_nextOf_2] at hf
    refine lv_iload_n C.1 C.2.1 dX12_nextOf_2 rfl (lv_at hl 0 rfl) ?_
    refine lv_iload_n C.1 C.2.1 dX12_nextOf_3 rfl (lv_at hl 1 rfl) ?_
    refine lv_ishr C.1 C.2.1 dX12_nextOf_4 ?_
    refine lv_iconst (v := (1 : Int32)) C.1 C.2.1 dX12_nextOf_5 rfl ?_
    refine lv_iand C.1 C.2.1 dX12_nextOf_6 ?_
    refine lv_if_ne (tgt := 20) C.1 C.2.1 dX12_nextOf_7 (by decide) (fun hc => ?_) (fun hc => ?_)
    · have hf := zif_f hc hf
      refine lv_iload_n C.1 C.2.1 dX12_nextOf_20 rfl (lv_at hl 1 rfl) ?_
      exact zretI C hS hf dX12_nextOf_21
    · have hf := zif_t hc hf
      refine lv_iload_n C.1 C.2.1 dX12_nextOf_10 rfl (lv_at hl 1 rfl) ?_
      refine lv_iconst (v := (1 : Int32)) C.1 C.2.1 dX12_nextOf_11 rfl ?_
      refine lv_iadd C.1 C.2.1 dX12_nextOf_12 ?_
      refine lv_bipush (v := (6 : Int32)) C.1 C.2.1 dX12_nextOf_13 rfl ?_
      refine lv_irem C.1 C.2.1 dX12_nextOf_15 (by decide) ?_
      obtain ⟨y1, ey1, hf⟩ := zlt_some hf
      refine ztop ey1 ?_
      refine lv_istore_n (lv' := [(2, .int y1), (0, .int x0)]) C.1 C.2.1 dX12_nextOf_16 rfl hl (by decide) rfl (fun ls hl => ?_)
      refine lv_goto (tgt := 2) C.1 C.2.1 dX12_nextOf_17 (by decide) ?_
      exact ih _ _ _ _ _ _ (lv_sub hl [1, 0] rfl) hS hf
set_option maxHeartbeats 4000000 in
set_option maxRecDepth 100000 in
theorem c_X12_nextOf (l : Launch) (G : zG) (h : zH) (x0 : Int32) (x1 : Int32) (q : Int32 × zH) (hm : ∀ c ∈ nd_X12_nextOf, c ∈ znm G) (hk : ∀ q ∈ ld_X12_nextOf, zlk G q.1 q.2 = true) (hf : f_X12_nextOf x0 x1 h = some q) : zCtI l yX12_nextOf cX12_nextOf 3 (some .int) (2) [.int x0, .int x1] G h q.2 q.1 := by
  refine zMetI (by decide) (Nat.le_of_ble_eq_true rfl) ?_
  intro p e s m below meth c ls C hl hS
  have hl : lv_has ls 3 [(0, .int x0), (1, .int x1)] := hl
  have C : zC G p s m [.int x0, .int x1].toArray meth c cX12_nextOf 3 RX12 (some .int) := C
  unfold f_X12_nextOf at hf
  refine lv_iload_n C.1 C.2.1 dX12_nextOf_0 rfl (lv_at hl 1 rfl) ?_
  refine lv_istore_n (lv' := [(2, .int x1), (0, .int x0), (1, .int x1)]) C.1 C.2.1 dX12_nextOf_1 rfl hl (by decide) rfl (fun ls hl => ?_)
  exact w_X12_nextOf_2 C hm hk  zN _ _ _ _ _ _ (lv_sub hl [1, 0] rfl) hS hf
end
section
theorem dX12_heirs_0 : decode cX12_heirs 0 = .ok (.iload_n 1, 1) := by decide +kernel
theorem dX12_heirs_1 : decode cX12_heirs 1 = .ok (.invokestatic 81, 3) := by decide +kernel
theorem dX12_heirs_4 : decode cX12_heirs 4 = .ok (.ifCond .eq 22, 3) := by decide +kernel
theorem dX12_heirs_7 : decode cX12_heirs 7 = .ok (.iload_n 2, 1) := by decide +kernel
theorem dX12_heirs_8 : decode cX12_heirs 8 = .ok (.iconst 1, 1) := by decide +kernel
theorem dX12_heirs_9 : decode cX12_heirs 9 = .ok (.bipush 63, 2) := by decide +kernel
theorem dX12_heirs_11 : decode cX12_heirs 11 = .ok (.invokestatic 65, 3) := by decide +kernel
theorem dX12_heirs_14 : decode cX12_heirs 14 = .ok (.ifCond .eq 12, 3) := by decide +kernel
theorem dX12_heirs_17 : decode cX12_heirs 17 = .ok (.iload_n 2, 1) := by decide +kernel
theorem dX12_heirs_18 : decode cX12_heirs 18 = .ok (.iload_n 1, 1) := by decide +kernel
theorem dX12_heirs_19 : decode cX12_heirs 19 = .ok (.ishr, 1) := by decide +kernel
theorem dX12_heirs_20 : decode cX12_heirs 20 = .ok (.iconst 1, 1) := by decide +kernel
theorem dX12_heirs_21 : decode cX12_heirs 21 = .ok (.iand, 1) := by decide +kernel
theorem dX12_heirs_22 : decode cX12_heirs 22 = .ok (.iconst 1, 1) := by decide +kernel
theorem dX12_heirs_23 : decode cX12_heirs 23 = .ok (.if_icmp .ne 5, 3) := by decide +kernel
theorem dX12_heirs_26 : decode cX12_heirs 26 = .ok (.iconst (-1), 1) := by decide +kernel
theorem dX12_heirs_27 : decode cX12_heirs 27 = .ok (.ireturn, 1) := by decide +kernel
theorem dX12_heirs_28 : decode cX12_heirs 28 = .ok (.iconst 0, 1) := by decide +kernel
theorem dX12_heirs_29 : decode cX12_heirs 29 = .ok (.istore_n 3, 1) := by decide +kernel
theorem dX12_heirs_30 : decode cX12_heirs 30 = .ok (.iconst 0, 1) := by decide +kernel
theorem dX12_heirs_31 : decode cX12_heirs 31 = .ok (.istore 4, 2) := by decide +kernel
theorem dX12_heirs_33 : decode cX12_heirs 33 = .ok (.iload 4, 2) := by decide +kernel
theorem dX12_heirs_35 : decode cX12_heirs 35 = .ok (.aload_n 0, 1) := by decide +kernel
theorem dX12_heirs_36 : decode cX12_heirs 36 = .ok (.getfield 7, 3) := by decide +kernel
theorem dX12_heirs_39 : decode cX12_heirs 39 = .ok (.iconst 3, 1) := by decide +kernel
theorem dX12_heirs_40 : decode cX12_heirs 40 = .ok (.iaload, 1) := by decide +kernel
theorem dX12_heirs_41 : decode cX12_heirs 41 = .ok (.if_icmp .ge 69, 3) := by decide +kernel
theorem dX12_heirs_44 : decode cX12_heirs 44 = .ok (.iload_n 2, 1) := by decide +kernel
theorem dX12_heirs_45 : decode cX12_heirs 45 = .ok (.iconst 0, 1) := by decide +kernel
theorem dX12_heirs_46 : decode cX12_heirs 46 = .ok (.invokestatic 95, 3) := by decide +kernel
theorem dX12_heirs_49 : decode cX12_heirs 49 = .ok (.istore 5, 2) := by decide +kernel
theorem dX12_heirs_51 : decode cX12_heirs 51 = .ok (.aload_n 0, 1) := by decide +kernel
theorem dX12_heirs_52 : decode cX12_heirs 52 = .ok (.iload 4, 2) := by decide +kernel
theorem dX12_heirs_54 : decode cX12_heirs 54 = .ok (.iload_n 1, 1) := by decide +kernel
theorem dX12_heirs_55 : decode cX12_heirs 55 = .ok (.invokevirtual 88, 3) := by decide +kernel
theorem dX12_heirs_58 : decode cX12_heirs 58 = .ok (.istore 6, 2) := by decide +kernel
theorem dX12_heirs_60 : decode cX12_heirs 60 = .ok (.iload 6, 2) := by decide +kernel
theorem dX12_heirs_62 : decode cX12_heirs 62 = .ok (.ifCond .le 42, 3) := by decide +kernel
theorem dX12_heirs_65 : decode cX12_heirs 65 = .ok (.aload_n 0, 1) := by decide +kernel
theorem dX12_heirs_66 : decode cX12_heirs 66 = .ok (.iload 4, 2) := by decide +kernel
theorem dX12_heirs_68 : decode cX12_heirs 68 = .ok (.iload_n 1, 1) := by decide +kernel
theorem dX12_heirs_69 : decode cX12_heirs 69 = .ok (.iconst (-1), 1) := by decide +kernel
theorem dX12_heirs_70 : decode cX12_heirs 70 = .ok (.invokevirtual 91, 3) := by decide +kernel
theorem dX12_heirs_73 : decode cX12_heirs 73 = .ok (.aload_n 0, 1) := by decide +kernel
theorem dX12_heirs_74 : decode cX12_heirs 74 = .ok (.iload 4, 2) := by decide +kernel
theorem dX12_heirs_76 : decode cX12_heirs 76 = .ok (.iload 5, 2) := by decide +kernel
theorem dX12_heirs_78 : decode cX12_heirs 78 = .ok (.iconst 1, 1) := by decide +kernel
theorem dX12_heirs_79 : decode cX12_heirs 79 = .ok (.invokevirtual 91, 3) := by decide +kernel
theorem dX12_heirs_82 : decode cX12_heirs 82 = .ok (.iload_n 2, 1) := by decide +kernel
theorem dX12_heirs_83 : decode cX12_heirs 83 = .ok (.iload 5, 2) := by decide +kernel
theorem dX12_heirs_85 : decode cX12_heirs 85 = .ok (.iconst 1, 1) := by decide +kernel
theorem dX12_heirs_86 : decode cX12_heirs 86 = .ok (.iadd, 1) := by decide +kernel
theorem dX12_heirs_87 : decode cX12_heirs 87 = .ok (.bipush 6, 2) := by decide +kernel
theorem dX12_heirs_89 : decode cX12_heirs 89 = .ok (.irem, 1) := by decide +kernel
theorem dX12_heirs_90 : decode cX12_heirs 90 = .ok (.invokestatic 95, 3) := by decide +kernel
theorem dX12_heirs_93 : decode cX12_heirs 93 = .ok (.istore 5, 2) := by decide +kernel
theorem dX12_heirs_95 : decode cX12_heirs 95 = .ok (.iinc 3 1, 3) := by decide +kernel
theorem dX12_heirs_98 : decode cX12_heirs 98 = .ok (.iinc 6 (-1), 3) := by decide +kernel
theorem dX12_heirs_101 : decode cX12_heirs 101 = .ok (.goto (-41), 3) := by decide +kernel
theorem dX12_heirs_104 : decode cX12_heirs 104 = .ok (.iinc 4 1, 3) := by decide +kernel
theorem dX12_heirs_107 : decode cX12_heirs 107 = .ok (.goto (-74), 3) := by decide +kernel
theorem dX12_heirs_110 : decode cX12_heirs 110 = .ok (.aload_n 0, 1) := by decide +kernel
theorem dX12_heirs_111 : decode cX12_heirs 111 = .ok (.invokevirtual 76, 3) := by decide +kernel
theorem dX12_heirs_114 : decode cX12_heirs 114 = .ok (.iload_n 3, 1) := by decide +kernel
theorem dX12_heirs_115 : decode cX12_heirs 115 = .ok (.ireturn, 1) := by decide +kernel
abbrev nd_X12_heirs : List Nat := [100, 101]
abbrev ld_X12_heirs : List (Nat × Nat) := [(100, 0)]
theorem sn_X12_heirs_X12_isFamily : ∀ c ∈ nd_X12_isFamily, c ∈ nd_X12_heirs := by decide
theorem sl_X12_heirs_X12_isFamily : ∀ q ∈ ld_X12_isFamily, q ∈ ld_X12_heirs := by decide
theorem sn_X12_heirs_X12_isIn : ∀ c ∈ nd_X12_isIn, c ∈ nd_X12_heirs := by decide
theorem sl_X12_heirs_X12_isIn : ∀ q ∈ ld_X12_isIn, q ∈ ld_X12_heirs := by decide
theorem sn_X12_heirs_X12_forgets : ∀ c ∈ nd_X12_forgets, c ∈ nd_X12_heirs := by decide
theorem sl_X12_heirs_X12_forgets : ∀ q ∈ ld_X12_forgets, q ∈ ld_X12_heirs := by decide
theorem sn_X12_heirs_X12_nextOf : ∀ c ∈ nd_X12_nextOf, c ∈ nd_X12_heirs := by decide
theorem sl_X12_heirs_X12_nextOf : ∀ q ∈ ld_X12_nextOf, q ∈ ld_X12_heirs := by decide
theorem sn_X12_heirs_X12_quarters : ∀ c ∈ nd_X12_quarters, c ∈ nd_X12_heirs := by decide
theorem sl_X12_heirs_X12_quarters : ∀ q ∈ ld_X12_quarters, q ∈ ld_X12_heirs := by decide
theorem sn_X12_heirs_X12_adds : ∀ c ∈ nd_X12_adds, c ∈ nd_X12_heirs := by decide
theorem sl_X12_heirs_X12_adds : ∀ q ∈ ld_X12_adds, q ∈ ld_X12_heirs := by decide
def f_X12_heirs_26  (h : zH) : zR := (some ((-1 : Int32), h))
def f_X12_heirs_60 (k33 : Int32 → Int32 → Int32 → Int32 → zH → zR) : Nat → Int32 → Int32 → Int32 → Int32 → Int32 → Int32 → zH → zR
  | 0 => fun _ _ _ _ _ _ _ => none
  | n + 1 => fun x1 x2 x3 x4 x5 x6 h => (if x6 ≤ 0 then (zlt (x4 + (1 : Int32)) fun y11 => (k33 x1 x2 x3 y11 h)) else (zbd (f_X12_adds x4 x1 (-1 : Int32) h) fun r12 h13 => (zbd (f_X12_adds x4 x5 (1 : Int32) h13) fun r14 h15 => (zbd (f_X12_nextOf x2 ((x5 + (1 : Int32)) - (x5 + (1 : Int32)) / (6 : Int32) * (6 : Int32)) h15) fun r16 h17 => (zlt (x3 + (1 : Int32)) fun y18 => (zlt (x6 + (-1 : Int32)) fun y19 => (f_X12_heirs_60 k33 n x1 x2 y18 x4 r16 y19 h17)))))))
def f_X12_heirs_33  : Nat → Int32 → Int32 → Int32 → Int32 → zH → zR
  | 0 => fun _ _ _ _ _ => none
  | n + 1 => fun x1 x2 x3 x4 h => (if (h 101 3) ≤ x4 then (zbd (f_X12_forgets  h) fun r5 h6 => (some (x3, h6))) else (zbd (f_X12_nextOf x2 (0 : Int32) h) fun r7 h8 => (zbd (f_X12_quarters x4 x1 h8) fun r9 h10 => (f_X12_heirs_60 (f_X12_heirs_33  n) zN x1 x2 x3 x4 r7 r9 h10))))
def f_X12_heirs  (x1 : Int32) (x2 : Int32) (h : zH) : zR := (zbd (f_X12_isFamily x1 h) fun r1 h2 => (if r1 = 0 then (f_X12_heirs_26   h2) else (zbd (f_X12_isIn x2 (1 : Int32) (63 : Int32) h2) fun r3 h4 => (if r3 = 0 then (f_X12_heirs_26   h4) else (if ((x2 >>> (x1 &&& 31)) &&& (1 : Int32)) = (1 : Int32) then (f_X12_heirs_26   h4) else (f_X12_heirs_33  zN x1 x2 (0 : Int32) (0 : Int32) h4))))))
variable {p : Program} {l : Launch} {e : Env} {s : State} {m : MethodId} {args : Array Value} {below : List Frame} {meth : Method} {c : Code} {G : zG} {q : Int32 × zH}
set_option maxHeartbeats 4000000 in
set_option maxRecDepth 100000 in
theorem w_X12_heirs_26  (C : zC G p s m args meth c cX12_heirs 7 RX12 (some .int)) (hm : ∀ c ∈ nd_X12_heirs, c ∈ znm G) (hk : ∀ q ∈ ld_X12_heirs, zlk G q.1 q.2 = true)  : ∀ (ls : Array Slot) (H : Heap) (locs : List Loc) (h : zH), lv_has ls 7 [] → zS G h s.heap H locs → f_X12_heirs_26  h = some q → W p l e (zrm (4)) s m args below meth c H locs 0 0 (MQ below (zQI G q.2 q.1) args s 0 0 (zA G)) (F0 m 26 ls []) := by
  intro ls H locs h hl hS hf
  unfold f_X12_heirs_26 at hf
  refine lv_iconst (v := (-1 : Int32)) C.1 C.2.1 dX12_heirs_26 rfl ?_
  exact zretI C hS hf dX12_heirs_27
set_option maxHeartbeats 4000000 in
set_option maxRecDepth 100000 in
theorem w_X12_heirs_60 {k33 : Int32 → Int32 → Int32 → Int32 → zH → zR} (C : zC G p s m args meth c cX12_heirs 7 RX12 (some .int)) (hm : ∀ c ∈ nd_X12_heirs, c ∈ znm G) (hk : ∀ q ∈ ld_X12_heirs, zlk G q.1 q.2 = true) (hk33 : ∀ (ls : Array Slot) (H : Heap) (locs : List Loc) (h : zH) (x1 : Int32) (x2 : Int32) (x3 : Int32) (x4 : Int32), lv_has ls 7 [(0, .ref (zal G 100)), (1, .int x1), (2, .int x2), (3, .int x3), (4, .int x4)] → zS G h s.heap H locs → k33 x1 x2 x3 x4 h = some q → W p l e (zrm (4)) s m args below meth c H locs 0 0 (MQ below (zQI G q.2 q.1) args s 0 0 (zA G)) (F0 m 33 ls [])) : ∀ n, ∀ (ls : Array Slot) (H : Heap) (locs : List Loc) (h : zH) (x1 : Int32) (x2 : Int32) (x3 : Int32) (x4 : Int32) (x5 : Int32) (x6 : Int32), lv_has ls 7 [(0, .ref (zal G 100)), (1, .int x1), (2, .int x2), (3, .int x3), (4, .int x4), (5, .int x5), (6, .int x6)] → zS G h s.heap H locs → f_X12_heirs_60 k33 n x1 x2 x3 x4 x5 x6 h = some q → W p l e (zrm (4)) s m args below meth c H locs 0 0 (MQ below (zQI G q.2 q.1) args s 0 0 (zA G)) (F0 m 60 ls []) := by
  intro n
  induction n with
  | zero => intro ls H locs h x1 x2 x3 x4 x5 x6 hl hS hf; cases hf
  | succ n ih =>
    intro ls H locs h x1 x2 x3 x4 x5 x6 hl hS hf
    rw [f_X12_heirs_60] at hf
    refine lv_iload C.1 C.2.1 dX12_heirs_60 (lv_at hl 6 rfl) ?_
    refine lv_if_le (tgt := 104) C.1 C.2.1 dX12_heirs_62 (by decide) (fun hc => ?_) (fun hc => ?_)
    · have hf := zif_t hc hf
      obtain ⟨y11, ey11, hf⟩ := zlt_some hf
      refine lv_iinc (v := y11) (lv' := [(4, .int y11), (0, .ref (zal G 100)), (1, .int x1), (2, .int x2), (3, .int x3), (5, .int x5), (6, .int x6)]) C.1 C.2.1 dX12_heirs_104 hl (k := 4) rfl ey11.symm (by decide) rfl (fun ls hl => ?_)
      refine lv_goto (tgt := 33) C.1 C.2.1 dX12_heirs_107 (by decide) ?_
      exact hk33 _ _ _ _ _ _ _ _ (lv_sub hl [1, 2, 3, 4, 0] rfl) hS hf
    · have hf := zif_f hc hf
      refine lv_aload_n C.1 C.2.1 dX12_heirs_65 rfl (lv_at hl 0 rfl) ?_
      refine lv_iload C.1 C.2.1 dX12_heirs_66 (lv_at hl 4 rfl) ?_
      refine lv_iload_n C.1 C.2.1 dX12_heirs_68 rfl (lv_at hl 1 rfl) ?_
      refine lv_iconst (v := (-1 : Int32)) C.1 C.2.1 dX12_heirs_69 rfl ?_
      obtain ⟨r12, h13, er12, hf⟩ := zbd_some hf
      refine zcallVV (As := [.int x4, .int x1, .int (-1 : Int32)]) (rest := []) C hS mv_X12_91 (c_X12_adds l G h x4 x1 (-1 : Int32) (r12, h13) (fun c h => hm c (sn_X12_heirs_X12_adds c h)) (fun q h => hk q (sl_X12_heirs_X12_adds q h)) er12) (hm 100 (by decide)) ⟨_, _, _, sh_100, rfl, rfl⟩ rfl rfl (Nat.le_of_ble_eq_true rfl) hl.1 ⟨Nat.le_of_ble_eq_true rfl, Nat.le_of_ble_eq_true rfl, Nat.le_of_ble_eq_true rfl, Nat.le_of_ble_eq_true rfl⟩ dX12_heirs_70 (fun H locs hS => ?_)
      refine lv_aload_n C.1 C.2.1 dX12_heirs_73 rfl (lv_at hl 0 rfl) ?_
      refine lv_iload C.1 C.2.1 dX12_heirs_74 (lv_at hl 4 rfl) ?_
      refine lv_iload C.1 C.2.1 dX12_heirs_76 (lv_at hl 5 rfl) ?_
      refine lv_iconst (v := (1 : Int32)) C.1 C.2.1 dX12_heirs_78 rfl ?_
      obtain ⟨r14, h15, er14, hf⟩ := zbd_some hf
      refine zcallVV (As := [.int x4, .int x5, .int (1 : Int32)]) (rest := []) C hS mv_X12_91 (c_X12_adds l G h13 x4 x5 (1 : Int32) (r14, h15) (fun c h => hm c (sn_X12_heirs_X12_adds c h)) (fun q h => hk q (sl_X12_heirs_X12_adds q h)) er14) (hm 100 (by decide)) ⟨_, _, _, sh_100, rfl, rfl⟩ rfl rfl (Nat.le_of_ble_eq_true rfl) hl.1 ⟨Nat.le_of_ble_eq_true rfl, Nat.le_of_ble_eq_true rfl, Nat.le_of_ble_eq_true rfl, Nat.le_of_ble_eq_true rfl⟩ dX12_heirs_79 (fun H locs hS => ?_)
      refine lv_iload_n C.1 C.2.1 dX12_heirs_82 rfl (lv_at hl 2 rfl) ?_
      refine lv_iload C.1 C.2.1 dX12_heirs_83 (lv_at hl 5 rfl) ?_
      refine lv_iconst (v := (1 : Int32)) C.1 C.2.1 dX12_heirs_85 rfl ?_
      refine lv_iadd C.1 C.2.1 dX12_heirs_86 ?_
      refine lv_bipush (v := (6 : Int32)) C.1 C.2.1 dX12_heirs_87 rfl ?_
      refine lv_irem C.1 C.2.1 dX12_heirs_89 (by decide) ?_
      obtain ⟨r16, h17, er16, hf⟩ := zbd_some hf
      refine zcallSI (As := [.int x2, .int ((x5 + (1 : Int32)) - (x5 + (1 : Int32)) / (6 : Int32) * (6 : Int32))]) (rest := []) C hS ms_X12_95 (c_X12_nextOf l G h15 x2 ((x5 + (1 : Int32)) - (x5 + (1 : Int32)) / (6 : Int32) * (6 : Int32)) (r16, h17) (fun c h => hm c (sn_X12_heirs_X12_nextOf c h)) (fun q h => hk q (sl_X12_heirs_X12_nextOf q h)) er16) rfl rfl (Nat.le_of_ble_eq_true rfl) hl.1 ⟨Nat.le_of_ble_eq_true rfl, Nat.le_of_ble_eq_true rfl, Nat.le_of_ble_eq_true rfl, Nat.le_of_ble_eq_true rfl⟩ dX12_heirs_90 (fun H locs hS => ?_)
      refine lv_istore (lv' := [(5, .int r16), (0, .ref (zal G 100)), (1, .int x1), (2, .int x2), (3, .int x3), (4, .int x4), (6, .int x6)]) C.1 C.2.1 dX12_heirs_93 hl (by decide) rfl (fun ls hl => ?_)
      obtain ⟨y18, ey18, hf⟩ := zlt_some hf
      refine lv_iinc (v := y18) (lv' := [(3, .int y18), (5, .int r16), (0, .ref (zal G 100)), (1, .int x1), (2, .int x2), (4, .int x4), (6, .int x6)]) C.1 C.2.1 dX12_heirs_95 hl (k := 4) rfl ey18.symm (by decide) rfl (fun ls hl => ?_)
      obtain ⟨y19, ey19, hf⟩ := zlt_some hf
      refine lv_iinc (v := y19) (lv' := [(6, .int y19), (3, .int y18), (5, .int r16), (0, .ref (zal G 100)), (1, .int x1), (2, .int x2), (4, .int x4)]) C.1 C.2.1 dX12_heirs_98 hl (k := 6) rfl ey19.symm (by decide) rfl (fun ls hl => ?_)
      refine lv_goto (tgt := 60) C.1 C.2.1 dX12_heirs_101 (by decide) ?_
      exact ih _ _ _ _ _ _ _ _ _ _ (lv_sub hl [3, 4, 5, 1, 6, 2, 0] rfl) hS hf
set_option maxHeartbeats 4000000 in
set_option maxRecDepth 100000 in
theorem w_X12_heirs_33  (C : zC G p s m args meth c cX12_heirs 7 RX12 (some .int)) (hm : ∀ c ∈ nd_X12_heirs, c ∈ znm G) (hk : ∀ q ∈ ld_X12_heirs, zlk G q.1 q.2 = true)  : ∀ n, ∀ (ls : Array Slot) (H : Heap) (locs : List Loc) (h : zH) (x1 : Int32) (x2 : Int32) (x3 : Int32) (x4 : Int32), lv_has ls 7 [(0, .ref (zal G 100)), (1, .int x1), (2, .int x2), (3, .int x3), (4, .int x4)] → zS G h s.heap H locs → f_X12_heirs_33  n x1 x2 x3 x4 h = some q → W p l e (zrm (4)) s m args below meth c H locs 0 0 (MQ below (zQI G q.2 q.1) args s 0 0 (zA G)) (F0 m 33 ls []) := by
  intro n
  induction n with
  | zero => intro ls H locs h x1 x2 x3 x4 hl hS hf; cases hf
  | succ n ih =>
    intro ls H locs h x1 x2 x3 x4 hl hS hf
    rw [f_X12_heirs_33] at hf
    refine lv_iload C.1 C.2.1 dX12_heirs_33 (lv_at hl 4 rfl) ?_
    refine lv_aload_n C.1 C.2.1 dX12_heirs_35 rfl (lv_at hl 0 rfl) ?_
    refine zgetR C hS ff_X12_7_100 (hm 100 (by decide)) (hk (100, 0) (by decide)) dX12_heirs_36 ?_
    refine lv_iconst (v := (3 : Int32)) C.1 C.2.1 dX12_heirs_39 rfl ?_
    refine zald C hS sh_101 (hm 101 (by decide)) (vp_in_iff.mpr (by decide)) dX12_heirs_40 ?_
    refine lv_icmp_ge (tgt := 110) C.1 C.2.1 dX12_heirs_41 (by decide) (fun hc => ?_) (fun hc => ?_)
    · have hf := zif_t hc hf
      refine lv_aload_n C.1 C.2.1 dX12_heirs_110 rfl (lv_at hl 0 rfl) ?_
      obtain ⟨r5, h6, er5, hf⟩ := zbd_some hf
      refine zcallVV (As := []) (rest := []) C hS mv_X12_76 (c_X12_forgets l G h  (r5, h6) (fun c h => hm c (sn_X12_heirs_X12_forgets c h)) (fun q h => hk q (sl_X12_heirs_X12_forgets q h)) er5) (hm 100 (by decide)) ⟨_, _, _, sh_100, rfl, rfl⟩ rfl rfl (Nat.le_of_ble_eq_true rfl) hl.1 ⟨Nat.le_of_ble_eq_true rfl, Nat.le_of_ble_eq_true rfl, Nat.le_of_ble_eq_true rfl, Nat.le_of_ble_eq_true rfl⟩ dX12_heirs_111 (fun H locs hS => ?_)
      refine lv_iload_n C.1 C.2.1 dX12_heirs_114 rfl (lv_at hl 3 rfl) ?_
      exact zretI C hS hf dX12_heirs_115
    · have hf := zif_f hc hf
      refine lv_iload_n C.1 C.2.1 dX12_heirs_44 rfl (lv_at hl 2 rfl) ?_
      refine lv_iconst (v := (0 : Int32)) C.1 C.2.1 dX12_heirs_45 rfl ?_
      obtain ⟨r7, h8, er7, hf⟩ := zbd_some hf
      refine zcallSI (As := [.int x2, .int (0 : Int32)]) (rest := []) C hS ms_X12_95 (c_X12_nextOf l G h x2 (0 : Int32) (r7, h8) (fun c h => hm c (sn_X12_heirs_X12_nextOf c h)) (fun q h => hk q (sl_X12_heirs_X12_nextOf q h)) er7) rfl rfl (Nat.le_of_ble_eq_true rfl) hl.1 ⟨Nat.le_of_ble_eq_true rfl, Nat.le_of_ble_eq_true rfl, Nat.le_of_ble_eq_true rfl, Nat.le_of_ble_eq_true rfl⟩ dX12_heirs_46 (fun H locs hS => ?_)
      refine lv_istore (lv' := [(5, .int r7), (0, .ref (zal G 100)), (1, .int x1), (2, .int x2), (3, .int x3), (4, .int x4)]) C.1 C.2.1 dX12_heirs_49 hl (by decide) rfl (fun ls hl => ?_)
      refine lv_aload_n C.1 C.2.1 dX12_heirs_51 rfl (lv_at hl 1 rfl) ?_
      refine lv_iload C.1 C.2.1 dX12_heirs_52 (lv_at hl 5 rfl) ?_
      refine lv_iload_n C.1 C.2.1 dX12_heirs_54 rfl (lv_at hl 2 rfl) ?_
      obtain ⟨r9, h10, er9, hf⟩ := zbd_some hf
      refine zcallVI (As := [.int x4, .int x1]) (rest := []) C hS mv_X12_88 (c_X12_quarters l G h8 x4 x1 (r9, h10) (fun c h => hm c (sn_X12_heirs_X12_quarters c h)) (fun q h => hk q (sl_X12_heirs_X12_quarters q h)) er9) (hm 100 (by decide)) ⟨_, _, _, sh_100, rfl, rfl⟩ rfl rfl (Nat.le_of_ble_eq_true rfl) hl.1 ⟨Nat.le_of_ble_eq_true rfl, Nat.le_of_ble_eq_true rfl, Nat.le_of_ble_eq_true rfl, Nat.le_of_ble_eq_true rfl⟩ dX12_heirs_55 (fun H locs hS => ?_)
      refine lv_istore (lv' := [(6, .int r9), (5, .int r7), (0, .ref (zal G 100)), (1, .int x1), (2, .int x2), (3, .int x3), (4, .int x4)]) C.1 C.2.1 dX12_heirs_58 hl (by decide) rfl (fun ls hl => ?_)
      exact w_X12_heirs_60 C hm hk ih zN _ _ _ _ _ _ _ _ _ _ (lv_sub hl [2, 3, 4, 5, 6, 1, 0] rfl) hS hf
set_option maxHeartbeats 4000000 in
set_option maxRecDepth 100000 in
theorem c_X12_heirs (l : Launch) (G : zG) (h : zH) (x1 : Int32) (x2 : Int32) (q : Int32 × zH) (hm : ∀ c ∈ nd_X12_heirs, c ∈ znm G) (hk : ∀ q ∈ ld_X12_heirs, zlk G q.1 q.2 = true) (hf : f_X12_heirs x1 x2 h = some q) : zCtI l yX12_heirs cX12_heirs 7 (some .int) (4) [.ref (zal G 100), .int x1, .int x2] G h q.2 q.1 := by
  refine zMetI (by decide) (Nat.le_of_ble_eq_true rfl) ?_
  intro p e s m below meth c ls C hl hS
  have hl : lv_has ls 7 [(0, .ref (zal G 100)), (1, .int x1), (2, .int x2)] := hl
  have C : zC G p s m [.ref (zal G 100), .int x1, .int x2].toArray meth c cX12_heirs 7 RX12 (some .int) := C
  unfold f_X12_heirs at hf
  refine lv_iload_n C.1 C.2.1 dX12_heirs_0 rfl (lv_at hl 1 rfl) ?_
  obtain ⟨r1, h2, er1, hf⟩ := zbd_some hf
  refine zcallSI (As := [.int x1]) (rest := []) C hS ms_X12_81 (c_X12_isFamily l G h x1 (r1, h2) (fun c h => hm c (sn_X12_heirs_X12_isFamily c h)) (fun q h => hk q (sl_X12_heirs_X12_isFamily q h)) er1) rfl rfl (Nat.le_of_ble_eq_true rfl) hl.1 ⟨Nat.le_of_ble_eq_true rfl, Nat.le_of_ble_eq_true rfl, Nat.le_of_ble_eq_true rfl, Nat.le_of_ble_eq_true rfl⟩ dX12_heirs_1 (fun H locs hS => ?_)
  refine lv_if_eq (tgt := 26) C.1 C.2.1 dX12_heirs_4 (by decide) (fun hc => ?_) (fun hc => ?_)
  · have hf := zif_t hc hf
    exact w_X12_heirs_26 C hm hk  _ _ _ _ (lv_sub hl [] rfl) hS hf
  · have hf := zif_f hc hf
    refine lv_iload_n C.1 C.2.1 dX12_heirs_7 rfl (lv_at hl 2 rfl) ?_
    refine lv_iconst (v := (1 : Int32)) C.1 C.2.1 dX12_heirs_8 rfl ?_
    refine lv_bipush (v := (63 : Int32)) C.1 C.2.1 dX12_heirs_9 rfl ?_
    obtain ⟨r3, h4, er3, hf⟩ := zbd_some hf
    refine zcallSI (As := [.int x2, .int (1 : Int32), .int (63 : Int32)]) (rest := []) C hS ms_X12_65 (c_X12_isIn l G h2 x2 (1 : Int32) (63 : Int32) (r3, h4) (fun c h => hm c (sn_X12_heirs_X12_isIn c h)) (fun q h => hk q (sl_X12_heirs_X12_isIn q h)) er3) rfl rfl (Nat.le_of_ble_eq_true rfl) hl.1 ⟨Nat.le_of_ble_eq_true rfl, Nat.le_of_ble_eq_true rfl, Nat.le_of_ble_eq_true rfl, Nat.le_of_ble_eq_true rfl⟩ dX12_heirs_11 (fun H locs hS => ?_)
    refine lv_if_eq (tgt := 26) C.1 C.2.1 dX12_heirs_14 (by decide) (fun hc => ?_) (fun hc => ?_)
    · have hf := zif_t hc hf
      exact w_X12_heirs_26 C hm hk  _ _ _ _ (lv_sub hl [] rfl) hS hf
    · have hf := zif_f hc hf
      refine lv_iload_n C.1 C.2.1 dX12_heirs_17 rfl (lv_at hl 2 rfl) ?_
      refine lv_iload_n C.1 C.2.1 dX12_heirs_18 rfl (lv_at hl 1 rfl) ?_
      refine lv_ishr C.1 C.2.1 dX12_heirs_19 ?_
      refine lv_iconst (v := (1 : Int32)) C.1 C.2.1 dX12_heirs_20 rfl ?_
      refine lv_iand C.1 C.2.1 dX12_heirs_21 ?_
      refine lv_iconst (v := (1 : Int32)) C.1 C.2.1 dX12_heirs_22 rfl ?_
      refine lv_icmp_ne (tgt := 28) C.1 C.2.1 dX12_heirs_23 (by decide) (fun hc => ?_) (fun hc => ?_)
      · have hf := zif_f hc hf
        refine lv_iconst (v := (0 : Int32)) C.1 C.2.1 dX12_heirs_28 rfl ?_
        refine lv_istore_n (lv' := [(3, .int (0 : Int32)), (0, .ref (zal G 100)), (1, .int x1), (2, .int x2)]) C.1 C.2.1 dX12_heirs_29 rfl hl (by decide) rfl (fun ls hl => ?_)
        refine lv_iconst (v := (0 : Int32)) C.1 C.2.1 dX12_heirs_30 rfl ?_
        refine lv_istore (lv' := [(4, .int (0 : Int32)), (3, .int (0 : Int32)), (0, .ref (zal G 100)), (1, .int x1), (2, .int x2)]) C.1 C.2.1 dX12_heirs_31 hl (by decide) rfl (fun ls hl => ?_)
        exact w_X12_heirs_33 C hm hk  zN _ _ _ _ _ _ _ _ (lv_sub hl [2, 3, 4, 1, 0] rfl) hS hf
      · have hf := zif_t hc hf
        exact w_X12_heirs_26 C hm hk  _ _ _ _ (lv_sub hl [] rfl) hS hf
end
section
theorem dX12_feuds_0 : decode cX12_feuds 0 = .ok (.aload_n 0, 1) := by decide +kernel
theorem dX12_feuds_1 : decode cX12_feuds 1 = .ok (.getfield 7, 3) := by decide +kernel
theorem dX12_feuds_4 : decode cX12_feuds 4 = .ok (.bipush 10, 2) := by decide +kernel
theorem dX12_feuds_6 : decode cX12_feuds 6 = .ok (.iload_n 1, 1) := by decide +kernel
theorem dX12_feuds_7 : decode cX12_feuds 7 = .ok (.iadd, 1) := by decide +kernel
theorem dX12_feuds_8 : decode cX12_feuds 8 = .ok (.iload_n 3, 1) := by decide +kernel
theorem dX12_feuds_9 : decode cX12_feuds 9 = .ok (.ifCond .eq 19, 3) := by decide +kernel
theorem dX12_feuds_12 : decode cX12_feuds 12 = .ok (.aload_n 0, 1) := by decide +kernel
theorem dX12_feuds_13 : decode cX12_feuds 13 = .ok (.getfield 7, 3) := by decide +kernel
theorem dX12_feuds_16 : decode cX12_feuds 16 = .ok (.bipush 10, 2) := by decide +kernel
theorem dX12_feuds_18 : decode cX12_feuds 18 = .ok (.iload_n 1, 1) := by decide +kernel
theorem dX12_feuds_19 : decode cX12_feuds 19 = .ok (.iadd, 1) := by decide +kernel
theorem dX12_feuds_20 : decode cX12_feuds 20 = .ok (.iaload, 1) := by decide +kernel
theorem dX12_feuds_21 : decode cX12_feuds 21 = .ok (.iconst 1, 1) := by decide +kernel
theorem dX12_feuds_22 : decode cX12_feuds 22 = .ok (.iload_n 2, 1) := by decide +kernel
theorem dX12_feuds_23 : decode cX12_feuds 23 = .ok (.ishl, 1) := by decide +kernel
theorem dX12_feuds_24 : decode cX12_feuds 24 = .ok (.ior, 1) := by decide +kernel
theorem dX12_feuds_25 : decode cX12_feuds 25 = .ok (.goto 18, 3) := by decide +kernel
theorem dX12_feuds_28 : decode cX12_feuds 28 = .ok (.aload_n 0, 1) := by decide +kernel
theorem dX12_feuds_29 : decode cX12_feuds 29 = .ok (.getfield 7, 3) := by decide +kernel
theorem dX12_feuds_32 : decode cX12_feuds 32 = .ok (.bipush 10, 2) := by decide +kernel
theorem dX12_feuds_34 : decode cX12_feuds 34 = .ok (.iload_n 1, 1) := by decide +kernel
theorem dX12_feuds_35 : decode cX12_feuds 35 = .ok (.iadd, 1) := by decide +kernel
theorem dX12_feuds_36 : decode cX12_feuds 36 = .ok (.iaload, 1) := by decide +kernel
theorem dX12_feuds_37 : decode cX12_feuds 37 = .ok (.iconst 1, 1) := by decide +kernel
theorem dX12_feuds_38 : decode cX12_feuds 38 = .ok (.iload_n 2, 1) := by decide +kernel
theorem dX12_feuds_39 : decode cX12_feuds 39 = .ok (.ishl, 1) := by decide +kernel
theorem dX12_feuds_40 : decode cX12_feuds 40 = .ok (.iconst (-1), 1) := by decide +kernel
theorem dX12_feuds_41 : decode cX12_feuds 41 = .ok (.ixor, 1) := by decide +kernel
theorem dX12_feuds_42 : decode cX12_feuds 42 = .ok (.iand, 1) := by decide +kernel
theorem dX12_feuds_43 : decode cX12_feuds 43 = .ok (.iastore, 1) := by decide +kernel
theorem dX12_feuds_44 : decode cX12_feuds 44 = .ok (.return_, 1) := by decide +kernel
abbrev nd_X12_feuds : List Nat := [100, 101]
abbrev ld_X12_feuds : List (Nat × Nat) := [(100, 0)]
def f_X12_feuds_43  (s0 : Int32) (s1 : Int32) (h : zH) : zR := (zck s1 2220 (zst (zup h 101 (Int32.toNatClampNeg s1) s0) fun h1 => (some (0, h1))))
def f_X12_feuds  (x1 : Int32) (x2 : Int32) (x3 : Int32) (h : zH) : zR := (if x3 = 0 then (zck ((10 : Int32) + x1) 2220 (f_X12_feuds_43  ((h 101 (Int32.toNatClampNeg ((10 : Int32) + x1))) &&& (((1 : Int32) <<< (x2 &&& 31)) ^^^ (-1 : Int32))) ((10 : Int32) + x1) h)) else (zck ((10 : Int32) + x1) 2220 (f_X12_feuds_43  ((h 101 (Int32.toNatClampNeg ((10 : Int32) + x1))) ||| ((1 : Int32) <<< (x2 &&& 31))) ((10 : Int32) + x1) h)))
variable {p : Program} {l : Launch} {e : Env} {s : State} {m : MethodId} {args : Array Value} {below : List Frame} {meth : Method} {c : Code} {G : zG} {q : Int32 × zH}
set_option maxHeartbeats 4000000 in
set_option maxRecDepth 100000 in
theorem w_X12_feuds_43  (C : zC G p s m args meth c cX12_feuds 4 RX12 none) (hm : ∀ c ∈ nd_X12_feuds, c ∈ znm G) (hk : ∀ q ∈ ld_X12_feuds, zlk G q.1 q.2 = true)  : ∀ (ls : Array Slot) (H : Heap) (locs : List Loc) (h : zH) (s0 : Int32) (s1 : Int32), lv_has ls 4 [] → zS G h s.heap H locs → f_X12_feuds_43  s0 s1 h = some q → W p l e (zrm (2)) s m args below meth c H locs 0 0 (MQ below (zQV G q.2) args s 0 0 (zA G)) (F0 m 43 ls [.int s0, .int s1, .ref (zal G 101)]) := by
  intro ls H locs h s0 s1 hl hS hf
  unfold f_X12_feuds_43 at hf
  obtain ⟨hi, hf⟩ := zck_some hf
  refine zast C hS sh_101 (hm 101 (by decide)) hi dX12_feuds_43 (fun H locs hS => ?_)
  obtain ⟨h1, eh1, hf⟩ := zst_some hf
  have hS : zS G h1 s.heap H locs := by rw [eh1]; exact hS
  exact zretV C hS hf dX12_feuds_44
set_option maxHeartbeats 4000000 in
set_option maxRecDepth 100000 in
theorem c_X12_feuds (l : Launch) (G : zG) (h : zH) (x1 : Int32) (x2 : Int32) (x3 : Int32) (q : Int32 × zH) (hm : ∀ c ∈ nd_X12_feuds, c ∈ znm G) (hk : ∀ q ∈ ld_X12_feuds, zlk G q.1 q.2 = true) (hf : f_X12_feuds x1 x2 x3 h = some q) : zCtV l yX12_feuds cX12_feuds 4 none (2) [.ref (zal G 100), .int x1, .int x2, .int x3] G h q.2 := by
  refine zMetV (by decide) (Nat.le_of_ble_eq_true rfl) ?_
  intro p e s m below meth c ls C hl hS
  have hl : lv_has ls 4 [(0, .ref (zal G 100)), (1, .int x1), (2, .int x2), (3, .int x3)] := hl
  have C : zC G p s m [.ref (zal G 100), .int x1, .int x2, .int x3].toArray meth c cX12_feuds 4 RX12 none := C
  unfold f_X12_feuds at hf
  refine lv_aload_n C.1 C.2.1 dX12_feuds_0 rfl (lv_at hl 0 rfl) ?_
  refine zgetR C hS ff_X12_7_100 (hm 100 (by decide)) (hk (100, 0) (by decide)) dX12_feuds_1 ?_
  refine lv_bipush (v := (10 : Int32)) C.1 C.2.1 dX12_feuds_4 rfl ?_
  refine lv_iload_n C.1 C.2.1 dX12_feuds_6 rfl (lv_at hl 1 rfl) ?_
  refine lv_iadd C.1 C.2.1 dX12_feuds_7 ?_
  refine lv_iload_n C.1 C.2.1 dX12_feuds_8 rfl (lv_at hl 3 rfl) ?_
  refine lv_if_eq (tgt := 28) C.1 C.2.1 dX12_feuds_9 (by decide) (fun hc => ?_) (fun hc => ?_)
  · have hf := zif_t hc hf
    refine lv_aload_n C.1 C.2.1 dX12_feuds_28 rfl (lv_at hl 0 rfl) ?_
    refine zgetR C hS ff_X12_7_100 (hm 100 (by decide)) (hk (100, 0) (by decide)) dX12_feuds_29 ?_
    refine lv_bipush (v := (10 : Int32)) C.1 C.2.1 dX12_feuds_32 rfl ?_
    refine lv_iload_n C.1 C.2.1 dX12_feuds_34 rfl (lv_at hl 1 rfl) ?_
    refine lv_iadd C.1 C.2.1 dX12_feuds_35 ?_
    obtain ⟨hi, hf⟩ := zck_some hf
    refine zald C hS sh_101 (hm 101 (by decide)) hi dX12_feuds_36 ?_
    refine lv_iconst (v := (1 : Int32)) C.1 C.2.1 dX12_feuds_37 rfl ?_
    refine lv_iload_n C.1 C.2.1 dX12_feuds_38 rfl (lv_at hl 2 rfl) ?_
    refine lv_ishl C.1 C.2.1 dX12_feuds_39 ?_
    refine lv_iconst (v := (-1 : Int32)) C.1 C.2.1 dX12_feuds_40 rfl ?_
    refine lv_ixor C.1 C.2.1 dX12_feuds_41 ?_
    refine lv_iand C.1 C.2.1 dX12_feuds_42 ?_
    exact w_X12_feuds_43 C hm hk  _ _ _ _ _ _ (lv_sub hl [] rfl) hS hf
  · have hf := zif_f hc hf
    refine lv_aload_n C.1 C.2.1 dX12_feuds_12 rfl (lv_at hl 0 rfl) ?_
    refine zgetR C hS ff_X12_7_100 (hm 100 (by decide)) (hk (100, 0) (by decide)) dX12_feuds_13 ?_
    refine lv_bipush (v := (10 : Int32)) C.1 C.2.1 dX12_feuds_16 rfl ?_
    refine lv_iload_n C.1 C.2.1 dX12_feuds_18 rfl (lv_at hl 1 rfl) ?_
    refine lv_iadd C.1 C.2.1 dX12_feuds_19 ?_
    obtain ⟨hi, hf⟩ := zck_some hf
    refine zald C hS sh_101 (hm 101 (by decide)) hi dX12_feuds_20 ?_
    refine lv_iconst (v := (1 : Int32)) C.1 C.2.1 dX12_feuds_21 rfl ?_
    refine lv_iload_n C.1 C.2.1 dX12_feuds_22 rfl (lv_at hl 2 rfl) ?_
    refine lv_ishl C.1 C.2.1 dX12_feuds_23 ?_
    refine lv_ior C.1 C.2.1 dX12_feuds_24 ?_
    refine lv_goto (tgt := 43) C.1 C.2.1 dX12_feuds_25 (by decide) ?_
    exact w_X12_feuds_43 C hm hk  _ _ _ _ _ _ (lv_sub hl [] rfl) hS hf
end
section
theorem dX12_feud_0 : decode cX12_feud 0 = .ok (.iload_n 1, 1) := by decide +kernel
theorem dX12_feud_1 : decode cX12_feud 1 = .ok (.invokestatic 81, 3) := by decide +kernel
theorem dX12_feud_4 : decode cX12_feud 4 = .ok (.ifCond .eq 15, 3) := by decide +kernel
theorem dX12_feud_7 : decode cX12_feud 7 = .ok (.iload_n 2, 1) := by decide +kernel
theorem dX12_feud_8 : decode cX12_feud 8 = .ok (.invokestatic 81, 3) := by decide +kernel
theorem dX12_feud_11 : decode cX12_feud 11 = .ok (.ifCond .eq 8, 3) := by decide +kernel
theorem dX12_feud_14 : decode cX12_feud 14 = .ok (.iload_n 1, 1) := by decide +kernel
theorem dX12_feud_15 : decode cX12_feud 15 = .ok (.iload_n 2, 1) := by decide +kernel
theorem dX12_feud_16 : decode cX12_feud 16 = .ok (.if_icmp .ne 5, 3) := by decide +kernel
theorem dX12_feud_19 : decode cX12_feud 19 = .ok (.iconst 0, 1) := by decide +kernel
theorem dX12_feud_20 : decode cX12_feud 20 = .ok (.ireturn, 1) := by decide +kernel
theorem dX12_feud_21 : decode cX12_feud 21 = .ok (.aload_n 0, 1) := by decide +kernel
theorem dX12_feud_22 : decode cX12_feud 22 = .ok (.iload_n 1, 1) := by decide +kernel
theorem dX12_feud_23 : decode cX12_feud 23 = .ok (.iload_n 2, 1) := by decide +kernel
theorem dX12_feud_24 : decode cX12_feud 24 = .ok (.iload_n 3, 1) := by decide +kernel
theorem dX12_feud_25 : decode cX12_feud 25 = .ok (.invokevirtual 98, 3) := by decide +kernel
theorem dX12_feud_28 : decode cX12_feud 28 = .ok (.aload_n 0, 1) := by decide +kernel
theorem dX12_feud_29 : decode cX12_feud 29 = .ok (.iload_n 2, 1) := by decide +kernel
theorem dX12_feud_30 : decode cX12_feud 30 = .ok (.iload_n 1, 1) := by decide +kernel
theorem dX12_feud_31 : decode cX12_feud 31 = .ok (.iload_n 3, 1) := by decide +kernel
theorem dX12_feud_32 : decode cX12_feud 32 = .ok (.invokevirtual 98, 3) := by decide +kernel
theorem dX12_feud_35 : decode cX12_feud 35 = .ok (.aload_n 0, 1) := by decide +kernel
theorem dX12_feud_36 : decode cX12_feud 36 = .ok (.invokevirtual 76, 3) := by decide +kernel
theorem dX12_feud_39 : decode cX12_feud 39 = .ok (.iconst 1, 1) := by decide +kernel
theorem dX12_feud_40 : decode cX12_feud 40 = .ok (.ireturn, 1) := by decide +kernel
abbrev nd_X12_feud : List Nat := [100, 101]
abbrev ld_X12_feud : List (Nat × Nat) := [(100, 0)]
theorem sn_X12_feud_X12_isFamily : ∀ c ∈ nd_X12_isFamily, c ∈ nd_X12_feud := by decide
theorem sl_X12_feud_X12_isFamily : ∀ q ∈ ld_X12_isFamily, q ∈ ld_X12_feud := by decide
theorem sn_X12_feud_X12_feuds : ∀ c ∈ nd_X12_feuds, c ∈ nd_X12_feud := by decide
theorem sl_X12_feud_X12_feuds : ∀ q ∈ ld_X12_feuds, q ∈ ld_X12_feud := by decide
theorem sn_X12_feud_X12_forgets : ∀ c ∈ nd_X12_forgets, c ∈ nd_X12_feud := by decide
theorem sl_X12_feud_X12_forgets : ∀ q ∈ ld_X12_forgets, q ∈ ld_X12_feud := by decide
def f_X12_feud_19  (h : zH) : zR := (some ((0 : Int32), h))
def f_X12_feud  (x1 : Int32) (x2 : Int32) (x3 : Int32) (h : zH) : zR := (zbd (f_X12_isFamily x1 h) fun r1 h2 => (if r1 = 0 then (f_X12_feud_19   h2) else (zbd (f_X12_isFamily x2 h2) fun r3 h4 => (if r3 = 0 then (f_X12_feud_19   h4) else (if x1 = x2 then (f_X12_feud_19   h4) else (zbd (f_X12_feuds x1 x2 x3 h4) fun r5 h6 => (zbd (f_X12_feuds x2 x1 x3 h6) fun r7 h8 => (zbd (f_X12_forgets  h8) fun r9 h10 => (some ((1 : Int32), h10))))))))))
variable {p : Program} {l : Launch} {e : Env} {s : State} {m : MethodId} {args : Array Value} {below : List Frame} {meth : Method} {c : Code} {G : zG} {q : Int32 × zH}
set_option maxHeartbeats 4000000 in
set_option maxRecDepth 100000 in
theorem w_X12_feud_19  (C : zC G p s m args meth c cX12_feud 4 RX12 (some .boolean)) (hm : ∀ c ∈ nd_X12_feud, c ∈ znm G) (hk : ∀ q ∈ ld_X12_feud, zlk G q.1 q.2 = true)  : ∀ (ls : Array Slot) (H : Heap) (locs : List Loc) (h : zH), lv_has ls 4 [] → zS G h s.heap H locs → f_X12_feud_19  h = some q → W p l e (zrm (4)) s m args below meth c H locs 0 0 (MQ below (zQI G q.2 q.1) args s 0 0 (zA G)) (F0 m 19 ls []) := by
  intro ls H locs h hl hS hf
  unfold f_X12_feud_19 at hf
  refine lv_iconst (v := (0 : Int32)) C.1 C.2.1 dX12_feud_19 rfl ?_
  exact zretZ C hS rfl hf dX12_feud_20
set_option maxHeartbeats 4000000 in
set_option maxRecDepth 100000 in
theorem c_X12_feud (l : Launch) (G : zG) (h : zH) (x1 : Int32) (x2 : Int32) (x3 : Int32) (q : Int32 × zH) (hm : ∀ c ∈ nd_X12_feud, c ∈ znm G) (hk : ∀ q ∈ ld_X12_feud, zlk G q.1 q.2 = true) (hf : f_X12_feud x1 x2 x3 h = some q) : zCtI l yX12_feud cX12_feud 4 (some .boolean) (4) [.ref (zal G 100), .int x1, .int x2, .int x3] G h q.2 q.1 := by
  refine zMetI (by decide) (Nat.le_of_ble_eq_true rfl) ?_
  intro p e s m below meth c ls C hl hS
  have hl : lv_has ls 4 [(0, .ref (zal G 100)), (1, .int x1), (2, .int x2), (3, .int x3)] := hl
  have C : zC G p s m [.ref (zal G 100), .int x1, .int x2, .int x3].toArray meth c cX12_feud 4 RX12 (some .boolean) := C
  unfold f_X12_feud at hf
  refine lv_iload_n C.1 C.2.1 dX12_feud_0 rfl (lv_at hl 1 rfl) ?_
  obtain ⟨r1, h2, er1, hf⟩ := zbd_some hf
  refine zcallSI (As := [.int x1]) (rest := []) C hS ms_X12_81 (c_X12_isFamily l G h x1 (r1, h2) (fun c h => hm c (sn_X12_feud_X12_isFamily c h)) (fun q h => hk q (sl_X12_feud_X12_isFamily q h)) er1) rfl rfl (Nat.le_of_ble_eq_true rfl) hl.1 ⟨Nat.le_of_ble_eq_true rfl, Nat.le_of_ble_eq_true rfl, Nat.le_of_ble_eq_true rfl, Nat.le_of_ble_eq_true rfl⟩ dX12_feud_1 (fun H locs hS => ?_)
  refine lv_if_eq (tgt := 19) C.1 C.2.1 dX12_feud_4 (by decide) (fun hc => ?_) (fun hc => ?_)
  · have hf := zif_t hc hf
    exact w_X12_feud_19 C hm hk  _ _ _ _ (lv_sub hl [] rfl) hS hf
  · have hf := zif_f hc hf
    refine lv_iload_n C.1 C.2.1 dX12_feud_7 rfl (lv_at hl 2 rfl) ?_
    obtain ⟨r3, h4, er3, hf⟩ := zbd_some hf
    refine zcallSI (As := [.int x2]) (rest := []) C hS ms_X12_81 (c_X12_isFamily l G h2 x2 (r3, h4) (fun c h => hm c (sn_X12_feud_X12_isFamily c h)) (fun q h => hk q (sl_X12_feud_X12_isFamily q h)) er3) rfl rfl (Nat.le_of_ble_eq_true rfl) hl.1 ⟨Nat.le_of_ble_eq_true rfl, Nat.le_of_ble_eq_true rfl, Nat.le_of_ble_eq_true rfl, Nat.le_of_ble_eq_true rfl⟩ dX12_feud_8 (fun H locs hS => ?_)
    refine lv_if_eq (tgt := 19) C.1 C.2.1 dX12_feud_11 (by decide) (fun hc => ?_) (fun hc => ?_)
    · have hf := zif_t hc hf
      exact w_X12_feud_19 C hm hk  _ _ _ _ (lv_sub hl [] rfl) hS hf
    · have hf := zif_f hc hf
      refine lv_iload_n C.1 C.2.1 dX12_feud_14 rfl (lv_at hl 1 rfl) ?_
      refine lv_iload_n C.1 C.2.1 dX12_feud_15 rfl (lv_at hl 2 rfl) ?_
      refine lv_icmp_ne (tgt := 21) C.1 C.2.1 dX12_feud_16 (by decide) (fun hc => ?_) (fun hc => ?_)
      · have hf := zif_f hc hf
        refine lv_aload_n C.1 C.2.1 dX12_feud_21 rfl (lv_at hl 0 rfl) ?_
        refine lv_iload_n C.1 C.2.1 dX12_feud_22 rfl (lv_at hl 1 rfl) ?_
        refine lv_iload_n C.1 C.2.1 dX12_feud_23 rfl (lv_at hl 2 rfl) ?_
        refine lv_iload_n C.1 C.2.1 dX12_feud_24 rfl (lv_at hl 3 rfl) ?_
        obtain ⟨r5, h6, er5, hf⟩ := zbd_some hf
        refine zcallVV (As := [.int x1, .int x2, .int x3]) (rest := []) C hS mv_X12_98 (c_X12_feuds l G h4 x1 x2 x3 (r5, h6) (fun c h => hm c (sn_X12_feud_X12_feuds c h)) (fun q h => hk q (sl_X12_feud_X12_feuds q h)) er5) (hm 100 (by decide)) ⟨_, _, _, sh_100, rfl, rfl⟩ rfl rfl (Nat.le_of_ble_eq_true rfl) hl.1 ⟨Nat.le_of_ble_eq_true rfl, Nat.le_of_ble_eq_true rfl, Nat.le_of_ble_eq_true rfl, Nat.le_of_ble_eq_true rfl⟩ dX12_feud_25 (fun H locs hS => ?_)
        refine lv_aload_n C.1 C.2.1 dX12_feud_28 rfl (lv_at hl 0 rfl) ?_
        refine lv_iload_n C.1 C.2.1 dX12_feud_29 rfl (lv_at hl 2 rfl) ?_
        refine lv_iload_n C.1 C.2.1 dX12_feud_30 rfl (lv_at hl 1 rfl) ?_
        refine lv_iload_n C.1 C.2.1 dX12_feud_31 rfl (lv_at hl 3 rfl) ?_
        obtain ⟨r7, h8, er7, hf⟩ := zbd_some hf
        refine zcallVV (As := [.int x2, .int x1, .int x3]) (rest := []) C hS mv_X12_98 (c_X12_feuds l G h6 x2 x1 x3 (r7, h8) (fun c h => hm c (sn_X12_feud_X12_feuds c h)) (fun q h => hk q (sl_X12_feud_X12_feuds q h)) er7) (hm 100 (by decide)) ⟨_, _, _, sh_100, rfl, rfl⟩ rfl rfl (Nat.le_of_ble_eq_true rfl) hl.1 ⟨Nat.le_of_ble_eq_true rfl, Nat.le_of_ble_eq_true rfl, Nat.le_of_ble_eq_true rfl, Nat.le_of_ble_eq_true rfl⟩ dX12_feud_32 (fun H locs hS => ?_)
        refine lv_aload_n C.1 C.2.1 dX12_feud_35 rfl (lv_at hl 0 rfl) ?_
        obtain ⟨r9, h10, er9, hf⟩ := zbd_some hf
        refine zcallVV (As := []) (rest := []) C hS mv_X12_76 (c_X12_forgets l G h8  (r9, h10) (fun c h => hm c (sn_X12_feud_X12_forgets c h)) (fun q h => hk q (sl_X12_feud_X12_forgets q h)) er9) (hm 100 (by decide)) ⟨_, _, _, sh_100, rfl, rfl⟩ rfl rfl (Nat.le_of_ble_eq_true rfl) hl.1 ⟨Nat.le_of_ble_eq_true rfl, Nat.le_of_ble_eq_true rfl, Nat.le_of_ble_eq_true rfl, Nat.le_of_ble_eq_true rfl⟩ dX12_feud_36 (fun H locs hS => ?_)
        refine lv_iconst (v := (1 : Int32)) C.1 C.2.1 dX12_feud_39 rfl ?_
        exact zretZ C hS rfl hf dX12_feud_40
      · have hf := zif_t hc hf
        exact w_X12_feud_19 C hm hk  _ _ _ _ (lv_sub hl [] rfl) hS hf
end
section
theorem dX12_sits_0 : decode cX12_sits 0 = .ok (.aload_n 0, 1) := by decide +kernel
theorem dX12_sits_1 : decode cX12_sits 1 = .ok (.getfield 7, 3) := by decide +kernel
theorem dX12_sits_4 : decode cX12_sits 4 = .ok (.sipush 180, 3) := by decide +kernel
theorem dX12_sits_7 : decode cX12_sits 7 = .ok (.iconst 2, 1) := by decide +kernel
theorem dX12_sits_8 : decode cX12_sits 8 = .ok (.iload_n 1, 1) := by decide +kernel
theorem dX12_sits_9 : decode cX12_sits 9 = .ok (.imul, 1) := by decide +kernel
theorem dX12_sits_10 : decode cX12_sits 10 = .ok (.iadd, 1) := by decide +kernel
theorem dX12_sits_11 : decode cX12_sits 11 = .ok (.iconst 1, 1) := by decide +kernel
theorem dX12_sits_12 : decode cX12_sits 12 = .ok (.iadd, 1) := by decide +kernel
theorem dX12_sits_13 : decode cX12_sits 13 = .ok (.iload_n 2, 1) := by decide +kernel
theorem dX12_sits_14 : decode cX12_sits 14 = .ok (.iastore, 1) := by decide +kernel
theorem dX12_sits_15 : decode cX12_sits 15 = .ok (.return_, 1) := by decide +kernel
abbrev nd_X12_sits : List Nat := [100, 101]
abbrev ld_X12_sits : List (Nat × Nat) := [(100, 0)]
def f_X12_sits  (x1 : Int32) (x2 : Int32) (h : zH) : zR := (zck (((180 : Int32) + ((2 : Int32) * x1)) + (1 : Int32)) 2220 (zst (zup h 101 (Int32.toNatClampNeg (((180 : Int32) + ((2 : Int32) * x1)) + (1 : Int32))) x2) fun h1 => (some (0, h1))))
variable {p : Program} {l : Launch} {e : Env} {s : State} {m : MethodId} {args : Array Value} {below : List Frame} {meth : Method} {c : Code} {G : zG} {q : Int32 × zH}
set_option maxHeartbeats 4000000 in
set_option maxRecDepth 100000 in
theorem c_X12_sits (l : Launch) (G : zG) (h : zH) (x1 : Int32) (x2 : Int32) (q : Int32 × zH) (hm : ∀ c ∈ nd_X12_sits, c ∈ znm G) (hk : ∀ q ∈ ld_X12_sits, zlk G q.1 q.2 = true) (hf : f_X12_sits x1 x2 h = some q) : zCtV l yX12_sits cX12_sits 3 none (2) [.ref (zal G 100), .int x1, .int x2] G h q.2 := by
  refine zMetV (by decide) (Nat.le_of_ble_eq_true rfl) ?_
  intro p e s m below meth c ls C hl hS
  have hl : lv_has ls 3 [(0, .ref (zal G 100)), (1, .int x1), (2, .int x2)] := hl
  have C : zC G p s m [.ref (zal G 100), .int x1, .int x2].toArray meth c cX12_sits 3 RX12 none := C
  unfold f_X12_sits at hf
  refine lv_aload_n C.1 C.2.1 dX12_sits_0 rfl (lv_at hl 0 rfl) ?_
  refine zgetR C hS ff_X12_7_100 (hm 100 (by decide)) (hk (100, 0) (by decide)) dX12_sits_1 ?_
  refine lv_sipush (v := (180 : Int32)) C.1 C.2.1 dX12_sits_4 rfl ?_
  refine lv_iconst (v := (2 : Int32)) C.1 C.2.1 dX12_sits_7 rfl ?_
  refine lv_iload_n C.1 C.2.1 dX12_sits_8 rfl (lv_at hl 1 rfl) ?_
  refine lv_imul C.1 C.2.1 dX12_sits_9 ?_
  refine lv_iadd C.1 C.2.1 dX12_sits_10 ?_
  refine lv_iconst (v := (1 : Int32)) C.1 C.2.1 dX12_sits_11 rfl ?_
  refine lv_iadd C.1 C.2.1 dX12_sits_12 ?_
  refine lv_iload_n C.1 C.2.1 dX12_sits_13 rfl (lv_at hl 2 rfl) ?_
  obtain ⟨hi, hf⟩ := zck_some hf
  refine zast C hS sh_101 (hm 101 (by decide)) hi dX12_sits_14 (fun H locs hS => ?_)
  obtain ⟨h1, eh1, hf⟩ := zst_some hf
  have hS : zS G h1 s.heap H locs := by rw [eh1]; exact hS
  exact zretV C hS hf dX12_sits_15
end
section
theorem dX12_guest_0 : decode cX12_guest 0 = .ok (.iload_n 1, 1) := by decide +kernel
theorem dX12_guest_1 : decode cX12_guest 1 = .ok (.invokestatic 81, 3) := by decide +kernel
theorem dX12_guest_4 : decode cX12_guest 4 = .ok (.ifCond .eq 14, 3) := by decide +kernel
theorem dX12_guest_7 : decode cX12_guest 7 = .ok (.aload_n 0, 1) := by decide +kernel
theorem dX12_guest_8 : decode cX12_guest 8 = .ok (.getfield 7, 3) := by decide +kernel
theorem dX12_guest_11 : decode cX12_guest 11 = .ok (.iconst 4, 1) := by decide +kernel
theorem dX12_guest_12 : decode cX12_guest 12 = .ok (.iaload, 1) := by decide +kernel
theorem dX12_guest_13 : decode cX12_guest 13 = .ok (.bipush 8, 2) := by decide +kernel
theorem dX12_guest_15 : decode cX12_guest 15 = .ok (.if_icmp .ne 5, 3) := by decide +kernel
theorem dX12_guest_18 : decode cX12_guest 18 = .ok (.iconst (-1), 1) := by decide +kernel
theorem dX12_guest_19 : decode cX12_guest 19 = .ok (.ireturn, 1) := by decide +kernel
theorem dX12_guest_20 : decode cX12_guest 20 = .ok (.aload_n 0, 1) := by decide +kernel
theorem dX12_guest_21 : decode cX12_guest 21 = .ok (.getfield 7, 3) := by decide +kernel
theorem dX12_guest_24 : decode cX12_guest 24 = .ok (.sipush 180, 3) := by decide +kernel
theorem dX12_guest_27 : decode cX12_guest 27 = .ok (.iconst 2, 1) := by decide +kernel
theorem dX12_guest_28 : decode cX12_guest 28 = .ok (.aload_n 0, 1) := by decide +kernel
theorem dX12_guest_29 : decode cX12_guest 29 = .ok (.getfield 7, 3) := by decide +kernel
theorem dX12_guest_32 : decode cX12_guest 32 = .ok (.iconst 4, 1) := by decide +kernel
theorem dX12_guest_33 : decode cX12_guest 33 = .ok (.iaload, 1) := by decide +kernel
theorem dX12_guest_34 : decode cX12_guest 34 = .ok (.imul, 1) := by decide +kernel
theorem dX12_guest_35 : decode cX12_guest 35 = .ok (.iadd, 1) := by decide +kernel
theorem dX12_guest_36 : decode cX12_guest 36 = .ok (.iload_n 1, 1) := by decide +kernel
theorem dX12_guest_37 : decode cX12_guest 37 = .ok (.iastore, 1) := by decide +kernel
theorem dX12_guest_38 : decode cX12_guest 38 = .ok (.aload_n 0, 1) := by decide +kernel
theorem dX12_guest_39 : decode cX12_guest 39 = .ok (.aload_n 0, 1) := by decide +kernel
theorem dX12_guest_40 : decode cX12_guest 40 = .ok (.getfield 7, 3) := by decide +kernel
theorem dX12_guest_43 : decode cX12_guest 43 = .ok (.iconst 4, 1) := by decide +kernel
theorem dX12_guest_44 : decode cX12_guest 44 = .ok (.iaload, 1) := by decide +kernel
theorem dX12_guest_45 : decode cX12_guest 45 = .ok (.iconst (-1), 1) := by decide +kernel
theorem dX12_guest_46 : decode cX12_guest 46 = .ok (.invokevirtual 102, 3) := by decide +kernel
theorem dX12_guest_49 : decode cX12_guest 49 = .ok (.aload_n 0, 1) := by decide +kernel
theorem dX12_guest_50 : decode cX12_guest 50 = .ok (.getfield 7, 3) := by decide +kernel
theorem dX12_guest_53 : decode cX12_guest 53 = .ok (.iconst 4, 1) := by decide +kernel
theorem dX12_guest_54 : decode cX12_guest 54 = .ok (.dup2, 1) := by decide +kernel
theorem dX12_guest_55 : decode cX12_guest 55 = .ok (.iaload, 1) := by decide +kernel
theorem dX12_guest_56 : decode cX12_guest 56 = .ok (.iconst 1, 1) := by decide +kernel
theorem dX12_guest_57 : decode cX12_guest 57 = .ok (.iadd, 1) := by decide +kernel
theorem dX12_guest_58 : decode cX12_guest 58 = .ok (.iastore, 1) := by decide +kernel
theorem dX12_guest_59 : decode cX12_guest 59 = .ok (.aload_n 0, 1) := by decide +kernel
theorem dX12_guest_60 : decode cX12_guest 60 = .ok (.invokevirtual 76, 3) := by decide +kernel
theorem dX12_guest_63 : decode cX12_guest 63 = .ok (.aload_n 0, 1) := by decide +kernel
theorem dX12_guest_64 : decode cX12_guest 64 = .ok (.getfield 7, 3) := by decide +kernel
theorem dX12_guest_67 : decode cX12_guest 67 = .ok (.iconst 4, 1) := by decide +kernel
theorem dX12_guest_68 : decode cX12_guest 68 = .ok (.iaload, 1) := by decide +kernel
theorem dX12_guest_69 : decode cX12_guest 69 = .ok (.iconst 1, 1) := by decide +kernel
theorem dX12_guest_70 : decode cX12_guest 70 = .ok (.isub, 1) := by decide +kernel
theorem dX12_guest_71 : decode cX12_guest 71 = .ok (.ireturn, 1) := by decide +kernel
abbrev nd_X12_guest : List Nat := [100, 101]
abbrev ld_X12_guest : List (Nat × Nat) := [(100, 0)]
theorem sn_X12_guest_X12_isFamily : ∀ c ∈ nd_X12_isFamily, c ∈ nd_X12_guest := by decide
theorem sl_X12_guest_X12_isFamily : ∀ q ∈ ld_X12_isFamily, q ∈ ld_X12_guest := by decide
theorem sn_X12_guest_X12_sits : ∀ c ∈ nd_X12_sits, c ∈ nd_X12_guest := by decide
theorem sl_X12_guest_X12_sits : ∀ q ∈ ld_X12_sits, q ∈ ld_X12_guest := by decide
theorem sn_X12_guest_X12_forgets : ∀ c ∈ nd_X12_forgets, c ∈ nd_X12_guest := by decide
theorem sl_X12_guest_X12_forgets : ∀ q ∈ ld_X12_forgets, q ∈ ld_X12_guest := by decide
def f_X12_guest_18  (h : zH) : zR := (some ((-1 : Int32), h))
def f_X12_guest  (x1 : Int32) (h : zH) : zR := (zbd (f_X12_isFamily x1 h) fun r1 h2 => (if r1 = 0 then (f_X12_guest_18   h2) else (if (h2 101 4) = (8 : Int32) then (f_X12_guest_18   h2) else (zck ((180 : Int32) + ((2 : Int32) * (h2 101 4))) 2220 (zst (zup h2 101 (Int32.toNatClampNeg ((180 : Int32) + ((2 : Int32) * (h2 101 4)))) x1) fun h3 => (zbd (f_X12_sits (h3 101 4) (-1 : Int32) h3) fun r4 h5 => (zst (zup h5 101 4 ((h5 101 4) + (1 : Int32))) fun h6 => (zbd (f_X12_forgets  h6) fun r7 h8 => (some (((h8 101 4) - (1 : Int32)), h8))))))))))
variable {p : Program} {l : Launch} {e : Env} {s : State} {m : MethodId} {args : Array Value} {below : List Frame} {meth : Method} {c : Code} {G : zG} {q : Int32 × zH}
set_option maxHeartbeats 4000000 in
set_option maxRecDepth 100000 in
theorem w_X12_guest_18  (C : zC G p s m args meth c cX12_guest 2 RX12 (some .int)) (hm : ∀ c ∈ nd_X12_guest, c ∈ znm G) (hk : ∀ q ∈ ld_X12_guest, zlk G q.1 q.2 = true)  : ∀ (ls : Array Slot) (H : Heap) (locs : List Loc) (h : zH), lv_has ls 2 [] → zS G h s.heap H locs → f_X12_guest_18  h = some q → W p l e (zrm (4)) s m args below meth c H locs 0 0 (MQ below (zQI G q.2 q.1) args s 0 0 (zA G)) (F0 m 18 ls []) := by
  intro ls H locs h hl hS hf
  unfold f_X12_guest_18 at hf
  refine lv_iconst (v := (-1 : Int32)) C.1 C.2.1 dX12_guest_18 rfl ?_
  exact zretI C hS hf dX12_guest_19
set_option maxHeartbeats 4000000 in
set_option maxRecDepth 100000 in
theorem c_X12_guest (l : Launch) (G : zG) (h : zH) (x1 : Int32) (q : Int32 × zH) (hm : ∀ c ∈ nd_X12_guest, c ∈ znm G) (hk : ∀ q ∈ ld_X12_guest, zlk G q.1 q.2 = true) (hf : f_X12_guest x1 h = some q) : zCtI l yX12_guest cX12_guest 2 (some .int) (4) [.ref (zal G 100), .int x1] G h q.2 q.1 := by
  refine zMetI (by decide) (Nat.le_of_ble_eq_true rfl) ?_
  intro p e s m below meth c ls C hl hS
  have hl : lv_has ls 2 [(0, .ref (zal G 100)), (1, .int x1)] := hl
  have C : zC G p s m [.ref (zal G 100), .int x1].toArray meth c cX12_guest 2 RX12 (some .int) := C
  unfold f_X12_guest at hf
  refine lv_iload_n C.1 C.2.1 dX12_guest_0 rfl (lv_at hl 1 rfl) ?_
  obtain ⟨r1, h2, er1, hf⟩ := zbd_some hf
  refine zcallSI (As := [.int x1]) (rest := []) C hS ms_X12_81 (c_X12_isFamily l G h x1 (r1, h2) (fun c h => hm c (sn_X12_guest_X12_isFamily c h)) (fun q h => hk q (sl_X12_guest_X12_isFamily q h)) er1) rfl rfl (Nat.le_of_ble_eq_true rfl) hl.1 ⟨Nat.le_of_ble_eq_true rfl, Nat.le_of_ble_eq_true rfl, Nat.le_of_ble_eq_true rfl, Nat.le_of_ble_eq_true rfl⟩ dX12_guest_1 (fun H locs hS => ?_)
  refine lv_if_eq (tgt := 18) C.1 C.2.1 dX12_guest_4 (by decide) (fun hc => ?_) (fun hc => ?_)
  · have hf := zif_t hc hf
    exact w_X12_guest_18 C hm hk  _ _ _ _ (lv_sub hl [] rfl) hS hf
  · have hf := zif_f hc hf
    refine lv_aload_n C.1 C.2.1 dX12_guest_7 rfl (lv_at hl 0 rfl) ?_
    refine zgetR C hS ff_X12_7_100 (hm 100 (by decide)) (hk (100, 0) (by decide)) dX12_guest_8 ?_
    refine lv_iconst (v := (4 : Int32)) C.1 C.2.1 dX12_guest_11 rfl ?_
    refine zald C hS sh_101 (hm 101 (by decide)) (vp_in_iff.mpr (by decide)) dX12_guest_12 ?_
    refine lv_bipush (v := (8 : Int32)) C.1 C.2.1 dX12_guest_13 rfl ?_
    refine lv_icmp_ne (tgt := 20) C.1 C.2.1 dX12_guest_15 (by decide) (fun hc => ?_) (fun hc => ?_)
    · have hf := zif_f hc hf
      refine lv_aload_n C.1 C.2.1 dX12_guest_20 rfl (lv_at hl 0 rfl) ?_
      refine zgetR C hS ff_X12_7_100 (hm 100 (by decide)) (hk (100, 0) (by decide)) dX12_guest_21 ?_
      refine lv_sipush (v := (180 : Int32)) C.1 C.2.1 dX12_guest_24 rfl ?_
      refine lv_iconst (v := (2 : Int32)) C.1 C.2.1 dX12_guest_27 rfl ?_
      refine lv_aload_n C.1 C.2.1 dX12_guest_28 rfl (lv_at hl 0 rfl) ?_
      refine zgetR C hS ff_X12_7_100 (hm 100 (by decide)) (hk (100, 0) (by decide)) dX12_guest_29 ?_
      refine lv_iconst (v := (4 : Int32)) C.1 C.2.1 dX12_guest_32 rfl ?_
      refine zald C hS sh_101 (hm 101 (by decide)) (vp_in_iff.mpr (by decide)) dX12_guest_33 ?_
      refine lv_imul C.1 C.2.1 dX12_guest_34 ?_
      refine lv_iadd C.1 C.2.1 dX12_guest_35 ?_
      refine lv_iload_n C.1 C.2.1 dX12_guest_36 rfl (lv_at hl 1 rfl) ?_
      obtain ⟨hi, hf⟩ := zck_some hf
      refine zast C hS sh_101 (hm 101 (by decide)) hi dX12_guest_37 (fun H locs hS => ?_)
      obtain ⟨h3, eh3, hf⟩ := zst_some hf
      have hS : zS G h3 s.heap H locs := by rw [eh3]; exact hS
      refine lv_aload_n C.1 C.2.1 dX12_guest_38 rfl (lv_at hl 0 rfl) ?_
      refine lv_aload_n C.1 C.2.1 dX12_guest_39 rfl (lv_at hl 0 rfl) ?_
      refine zgetR C hS ff_X12_7_100 (hm 100 (by decide)) (hk (100, 0) (by decide)) dX12_guest_40 ?_
      refine lv_iconst (v := (4 : Int32)) C.1 C.2.1 dX12_guest_43 rfl ?_
      refine zald C hS sh_101 (hm 101 (by decide)) (vp_in_iff.mpr (by decide)) dX12_guest_44 ?_
      refine lv_iconst (v := (-1 : Int32)) C.1 C.2.1 dX12_guest_45 rfl ?_
      obtain ⟨r4, h5, er4, hf⟩ := zbd_some hf
      refine zcallVV (As := [.int (h3 101 4), .int (-1 : Int32)]) (rest := []) C hS mv_X12_102 (c_X12_sits l G h3 (h3 101 4) (-1 : Int32) (r4, h5) (fun c h => hm c (sn_X12_guest_X12_sits c h)) (fun q h => hk q (sl_X12_guest_X12_sits q h)) er4) (hm 100 (by decide)) ⟨_, _, _, sh_100, rfl, rfl⟩ rfl rfl (Nat.le_of_ble_eq_true rfl) hl.1 ⟨Nat.le_of_ble_eq_true rfl, Nat.le_of_ble_eq_true rfl, Nat.le_of_ble_eq_true rfl, Nat.le_of_ble_eq_true rfl⟩ dX12_guest_46 (fun H locs hS => ?_)
      refine lv_aload_n C.1 C.2.1 dX12_guest_49 rfl (lv_at hl 0 rfl) ?_
      refine zgetR C hS ff_X12_7_100 (hm 100 (by decide)) (hk (100, 0) (by decide)) dX12_guest_50 ?_
      refine lv_iconst (v := (4 : Int32)) C.1 C.2.1 dX12_guest_53 rfl ?_
      refine lv_dup2_11 C.1 C.2.1 dX12_guest_54 rfl rfl ?_
      refine zald C hS sh_101 (hm 101 (by decide)) (vp_in_iff.mpr (by decide)) dX12_guest_55 ?_
      refine lv_iconst (v := (1 : Int32)) C.1 C.2.1 dX12_guest_56 rfl ?_
      refine lv_iadd C.1 C.2.1 dX12_guest_57 ?_
      refine zast C hS sh_101 (hm 101 (by decide)) (vp_in_iff.mpr (by decide)) dX12_guest_58 (fun H locs hS => ?_)
      obtain ⟨h6, eh6, hf⟩ := zst_some hf
      have hS : zS G h6 s.heap H locs := by rw [eh6]; exact hS
      refine lv_aload_n C.1 C.2.1 dX12_guest_59 rfl (lv_at hl 0 rfl) ?_
      obtain ⟨r7, h8, er7, hf⟩ := zbd_some hf
      refine zcallVV (As := []) (rest := []) C hS mv_X12_76 (c_X12_forgets l G h6  (r7, h8) (fun c h => hm c (sn_X12_guest_X12_forgets c h)) (fun q h => hk q (sl_X12_guest_X12_forgets q h)) er7) (hm 100 (by decide)) ⟨_, _, _, sh_100, rfl, rfl⟩ rfl rfl (Nat.le_of_ble_eq_true rfl) hl.1 ⟨Nat.le_of_ble_eq_true rfl, Nat.le_of_ble_eq_true rfl, Nat.le_of_ble_eq_true rfl, Nat.le_of_ble_eq_true rfl⟩ dX12_guest_60 (fun H locs hS => ?_)
      refine lv_aload_n C.1 C.2.1 dX12_guest_63 rfl (lv_at hl 0 rfl) ?_
      refine zgetR C hS ff_X12_7_100 (hm 100 (by decide)) (hk (100, 0) (by decide)) dX12_guest_64 ?_
      refine lv_iconst (v := (4 : Int32)) C.1 C.2.1 dX12_guest_67 rfl ?_
      refine zald C hS sh_101 (hm 101 (by decide)) (vp_in_iff.mpr (by decide)) dX12_guest_68 ?_
      refine lv_iconst (v := (1 : Int32)) C.1 C.2.1 dX12_guest_69 rfl ?_
      refine lv_isub C.1 C.2.1 dX12_guest_70 ?_
      exact zretI C hS hf dX12_guest_71
    · have hf := zif_t hc hf
      exact w_X12_guest_18 C hm hk  _ _ _ _ (lv_sub hl [] rfl) hS hf
end
section
theorem dX12_isGuest_0 : decode cX12_isGuest 0 = .ok (.iload_n 1, 1) := by decide +kernel
theorem dX12_isGuest_1 : decode cX12_isGuest 1 = .ok (.iconst 0, 1) := by decide +kernel
theorem dX12_isGuest_2 : decode cX12_isGuest 2 = .ok (.aload_n 0, 1) := by decide +kernel
theorem dX12_isGuest_3 : decode cX12_isGuest 3 = .ok (.getfield 7, 3) := by decide +kernel
theorem dX12_isGuest_6 : decode cX12_isGuest 6 = .ok (.iconst 4, 1) := by decide +kernel
theorem dX12_isGuest_7 : decode cX12_isGuest 7 = .ok (.iaload, 1) := by decide +kernel
theorem dX12_isGuest_8 : decode cX12_isGuest 8 = .ok (.iconst 1, 1) := by decide +kernel
theorem dX12_isGuest_9 : decode cX12_isGuest 9 = .ok (.isub, 1) := by decide +kernel
theorem dX12_isGuest_10 : decode cX12_isGuest 10 = .ok (.invokestatic 65, 3) := by decide +kernel
theorem dX12_isGuest_13 : decode cX12_isGuest 13 = .ok (.ireturn, 1) := by decide +kernel
abbrev nd_X12_isGuest : List Nat := [100, 101]
abbrev ld_X12_isGuest : List (Nat × Nat) := [(100, 0)]
theorem sn_X12_isGuest_X12_isIn : ∀ c ∈ nd_X12_isIn, c ∈ nd_X12_isGuest := by decide
theorem sl_X12_isGuest_X12_isIn : ∀ q ∈ ld_X12_isIn, q ∈ ld_X12_isGuest := by decide
def f_X12_isGuest  (x1 : Int32) (h : zH) : zR := (zbd (f_X12_isIn x1 (0 : Int32) ((h 101 4) - (1 : Int32)) h) fun r1 h2 => (zbo r1 (some (r1, h2))))
variable {p : Program} {l : Launch} {e : Env} {s : State} {m : MethodId} {args : Array Value} {below : List Frame} {meth : Method} {c : Code} {G : zG} {q : Int32 × zH}
set_option maxHeartbeats 4000000 in
set_option maxRecDepth 100000 in
theorem c_X12_isGuest (l : Launch) (G : zG) (h : zH) (x1 : Int32) (q : Int32 × zH) (hm : ∀ c ∈ nd_X12_isGuest, c ∈ znm G) (hk : ∀ q ∈ ld_X12_isGuest, zlk G q.1 q.2 = true) (hf : f_X12_isGuest x1 h = some q) : zCtI l yX12_isGuest cX12_isGuest 2 (some .boolean) (3) [.ref (zal G 100), .int x1] G h q.2 q.1 := by
  refine zMetI (by decide) (Nat.le_of_ble_eq_true rfl) ?_
  intro p e s m below meth c ls C hl hS
  have hl : lv_has ls 2 [(0, .ref (zal G 100)), (1, .int x1)] := hl
  have C : zC G p s m [.ref (zal G 100), .int x1].toArray meth c cX12_isGuest 2 RX12 (some .boolean) := C
  unfold f_X12_isGuest at hf
  refine lv_iload_n C.1 C.2.1 dX12_isGuest_0 rfl (lv_at hl 1 rfl) ?_
  refine lv_iconst (v := (0 : Int32)) C.1 C.2.1 dX12_isGuest_1 rfl ?_
  refine lv_aload_n C.1 C.2.1 dX12_isGuest_2 rfl (lv_at hl 0 rfl) ?_
  refine zgetR C hS ff_X12_7_100 (hm 100 (by decide)) (hk (100, 0) (by decide)) dX12_isGuest_3 ?_
  refine lv_iconst (v := (4 : Int32)) C.1 C.2.1 dX12_isGuest_6 rfl ?_
  refine zald C hS sh_101 (hm 101 (by decide)) (vp_in_iff.mpr (by decide)) dX12_isGuest_7 ?_
  refine lv_iconst (v := (1 : Int32)) C.1 C.2.1 dX12_isGuest_8 rfl ?_
  refine lv_isub C.1 C.2.1 dX12_isGuest_9 ?_
  obtain ⟨r1, h2, er1, hf⟩ := zbd_some hf
  refine zcallSI (As := [.int x1, .int (0 : Int32), .int ((h 101 4) - (1 : Int32))]) (rest := []) C hS ms_X12_65 (c_X12_isIn l G h x1 (0 : Int32) ((h 101 4) - (1 : Int32)) (r1, h2) (fun c h => hm c (sn_X12_isGuest_X12_isIn c h)) (fun q h => hk q (sl_X12_isGuest_X12_isIn q h)) er1) rfl rfl (Nat.le_of_ble_eq_true rfl) hl.1 ⟨Nat.le_of_ble_eq_true rfl, Nat.le_of_ble_eq_true rfl, Nat.le_of_ble_eq_true rfl, Nat.le_of_ble_eq_true rfl⟩ dX12_isGuest_10 (fun H locs hS => ?_)
  obtain ⟨hb, hf⟩ := zbo_some hf
  exact zretZ C hS hb hf dX12_isGuest_13
end
section
theorem dX12_ofGuest_0 : decode cX12_ofGuest 0 = .ok (.aload_n 0, 1) := by decide +kernel
theorem dX12_ofGuest_1 : decode cX12_ofGuest 1 = .ok (.getfield 7, 3) := by decide +kernel
theorem dX12_ofGuest_4 : decode cX12_ofGuest 4 = .ok (.sipush 180, 3) := by decide +kernel
theorem dX12_ofGuest_7 : decode cX12_ofGuest 7 = .ok (.iconst 2, 1) := by decide +kernel
theorem dX12_ofGuest_8 : decode cX12_ofGuest 8 = .ok (.iload_n 1, 1) := by decide +kernel
theorem dX12_ofGuest_9 : decode cX12_ofGuest 9 = .ok (.imul, 1) := by decide +kernel
theorem dX12_ofGuest_10 : decode cX12_ofGuest 10 = .ok (.iadd, 1) := by decide +kernel
theorem dX12_ofGuest_11 : decode cX12_ofGuest 11 = .ok (.iload_n 2, 1) := by decide +kernel
theorem dX12_ofGuest_12 : decode cX12_ofGuest 12 = .ok (.iadd, 1) := by decide +kernel
theorem dX12_ofGuest_13 : decode cX12_ofGuest 13 = .ok (.iaload, 1) := by decide +kernel
theorem dX12_ofGuest_14 : decode cX12_ofGuest 14 = .ok (.ireturn, 1) := by decide +kernel
abbrev nd_X12_ofGuest : List Nat := [100, 101]
abbrev ld_X12_ofGuest : List (Nat × Nat) := [(100, 0)]
def f_X12_ofGuest  (x1 : Int32) (x2 : Int32) (h : zH) : zR := (zck (((180 : Int32) + ((2 : Int32) * x1)) + x2) 2220 (some ((h 101 (Int32.toNatClampNeg (((180 : Int32) + ((2 : Int32) * x1)) + x2))), h)))
variable {p : Program} {l : Launch} {e : Env} {s : State} {m : MethodId} {args : Array Value} {below : List Frame} {meth : Method} {c : Code} {G : zG} {q : Int32 × zH}
set_option maxHeartbeats 4000000 in
set_option maxRecDepth 100000 in
theorem c_X12_ofGuest (l : Launch) (G : zG) (h : zH) (x1 : Int32) (x2 : Int32) (q : Int32 × zH) (hm : ∀ c ∈ nd_X12_ofGuest, c ∈ znm G) (hk : ∀ q ∈ ld_X12_ofGuest, zlk G q.1 q.2 = true) (hf : f_X12_ofGuest x1 x2 h = some q) : zCtI l yX12_ofGuest cX12_ofGuest 3 (some .int) (2) [.ref (zal G 100), .int x1, .int x2] G h q.2 q.1 := by
  refine zMetI (by decide) (Nat.le_of_ble_eq_true rfl) ?_
  intro p e s m below meth c ls C hl hS
  have hl : lv_has ls 3 [(0, .ref (zal G 100)), (1, .int x1), (2, .int x2)] := hl
  have C : zC G p s m [.ref (zal G 100), .int x1, .int x2].toArray meth c cX12_ofGuest 3 RX12 (some .int) := C
  unfold f_X12_ofGuest at hf
  refine lv_aload_n C.1 C.2.1 dX12_ofGuest_0 rfl (lv_at hl 0 rfl) ?_
  refine zgetR C hS ff_X12_7_100 (hm 100 (by decide)) (hk (100, 0) (by decide)) dX12_ofGuest_1 ?_
  refine lv_sipush (v := (180 : Int32)) C.1 C.2.1 dX12_ofGuest_4 rfl ?_
  refine lv_iconst (v := (2 : Int32)) C.1 C.2.1 dX12_ofGuest_7 rfl ?_
  refine lv_iload_n C.1 C.2.1 dX12_ofGuest_8 rfl (lv_at hl 1 rfl) ?_
  refine lv_imul C.1 C.2.1 dX12_ofGuest_9 ?_
  refine lv_iadd C.1 C.2.1 dX12_ofGuest_10 ?_
  refine lv_iload_n C.1 C.2.1 dX12_ofGuest_11 rfl (lv_at hl 2 rfl) ?_
  refine lv_iadd C.1 C.2.1 dX12_ofGuest_12 ?_
  obtain ⟨hi, hf⟩ := zck_some hf
  refine zald C hS sh_101 (hm 101 (by decide)) hi dX12_ofGuest_13 ?_
  exact zretI C hS hf dX12_ofGuest_14
end
section
theorem dX12_guestAt_0 : decode cX12_guestAt 0 = .ok (.iconst 0, 1) := by decide +kernel
theorem dX12_guestAt_1 : decode cX12_guestAt 1 = .ok (.istore_n 2, 1) := by decide +kernel
theorem dX12_guestAt_2 : decode cX12_guestAt 2 = .ok (.iload_n 2, 1) := by decide +kernel
theorem dX12_guestAt_3 : decode cX12_guestAt 3 = .ok (.aload_n 0, 1) := by decide +kernel
theorem dX12_guestAt_4 : decode cX12_guestAt 4 = .ok (.getfield 7, 3) := by decide +kernel
theorem dX12_guestAt_7 : decode cX12_guestAt 7 = .ok (.iconst 4, 1) := by decide +kernel
theorem dX12_guestAt_8 : decode cX12_guestAt 8 = .ok (.iaload, 1) := by decide +kernel
theorem dX12_guestAt_9 : decode cX12_guestAt 9 = .ok (.if_icmp .ge 21, 3) := by decide +kernel
theorem dX12_guestAt_12 : decode cX12_guestAt 12 = .ok (.aload_n 0, 1) := by decide +kernel
theorem dX12_guestAt_13 : decode cX12_guestAt 13 = .ok (.iload_n 2, 1) := by decide +kernel
theorem dX12_guestAt_14 : decode cX12_guestAt 14 = .ok (.iconst 1, 1) := by decide +kernel
theorem dX12_guestAt_15 : decode cX12_guestAt 15 = .ok (.invokevirtual 106, 3) := by decide +kernel
theorem dX12_guestAt_18 : decode cX12_guestAt 18 = .ok (.iload_n 1, 1) := by decide +kernel
theorem dX12_guestAt_19 : decode cX12_guestAt 19 = .ok (.if_icmp .ne 5, 3) := by decide +kernel
theorem dX12_guestAt_22 : decode cX12_guestAt 22 = .ok (.iload_n 2, 1) := by decide +kernel
theorem dX12_guestAt_23 : decode cX12_guestAt 23 = .ok (.ireturn, 1) := by decide +kernel
theorem dX12_guestAt_24 : decode cX12_guestAt 24 = .ok (.iinc 2 1, 3) := by decide +kernel
theorem dX12_guestAt_27 : decode cX12_guestAt 27 = .ok (.goto (-25), 3) := by decide +kernel
theorem dX12_guestAt_30 : decode cX12_guestAt 30 = .ok (.iconst (-1), 1) := by decide +kernel
theorem dX12_guestAt_31 : decode cX12_guestAt 31 = .ok (.ireturn, 1) := by decide +kernel
abbrev nd_X12_guestAt : List Nat := [100, 101]
abbrev ld_X12_guestAt : List (Nat × Nat) := [(100, 0)]
theorem sn_X12_guestAt_X12_ofGuest : ∀ c ∈ nd_X12_ofGuest, c ∈ nd_X12_guestAt := by decide
theorem sl_X12_guestAt_X12_ofGuest : ∀ q ∈ ld_X12_ofGuest, q ∈ ld_X12_guestAt := by decide
def f_X12_guestAt_2  : Nat → Int32 → Int32 → zH → zR
  | 0 => fun _ _ _ => none
  | n + 1 => fun x1 x2 h => (if (h 101 4) ≤ x2 then (some ((-1 : Int32), h)) else (zbd (f_X12_ofGuest x2 (1 : Int32) h) fun r1 h2 => (if r1 = x1 then (some (x2, h2)) else (zlt (x2 + (1 : Int32)) fun y3 => (f_X12_guestAt_2  n x1 y3 h2)))))
def f_X12_guestAt  (x1 : Int32) (h : zH) : zR := (f_X12_guestAt_2  zN x1 (0 : Int32) h)
variable {p : Program} {l : Launch} {e : Env} {s : State} {m : MethodId} {args : Array Value} {below : List Frame} {meth : Method} {c : Code} {G : zG} {q : Int32 × zH}
set_option maxHeartbeats 4000000 in
set_option maxRecDepth 100000 in
theorem w_X12_guestAt_2  (C : zC G p s m args meth c cX12_guestAt 3 RX12 (some .int)) (hm : ∀ c ∈ nd_X12_guestAt, c ∈ znm G) (hk : ∀ q ∈ ld_X12_guestAt, zlk G q.1 q.2 = true)  : ∀ n, ∀ (ls : Array Slot) (H : Heap) (locs : List Loc) (h : zH) (x1 : Int32) (x2 : Int32), lv_has ls 3 [(0, .ref (zal G 100)), (1, .int x1), (2, .int x2)] → zS G h s.heap H locs → f_X12_guestAt_2  n x1 x2 h = some q → W p l e (zrm (3)) s m args below meth c H locs 0 0 (MQ below (zQI G q.2 q.1) args s 0 0 (zA G)) (F0 m 2 ls []) := by
  intro n
  induction n with
  | zero => intro ls H locs h x1 x2 hl hS hf; cases hf
  | succ n ih =>
    intro ls H locs h x1 x2 hl hS hf
    rw [f_X12_guestAt_2] at hf
    refine lv_iload_n C.1 C.2.1 dX12_guestAt_2 rfl (lv_at hl 2 rfl) ?_
    refine lv_aload_n C.1 C.2.1 dX12_guestAt_3 rfl (lv_at hl 0 rfl) ?_
    refine zgetR C hS ff_X12_7_100 (hm 100 (by decide)) (hk (100, 0) (by decide)) dX12_guestAt_4 ?_
    refine lv_iconst (v := (4 : Int32)) C.1 C.2.1 dX12_guestAt_7 rfl ?_
    refine zald C hS sh_101 (hm 101 (by decide)) (vp_in_iff.mpr (by decide)) dX12_guestAt_8 ?_
    refine lv_icmp_ge (tgt := 30) C.1 C.2.1 dX12_guestAt_9 (by decide) (fun hc => ?_) (fun hc => ?_)
    · have hf := zif_t hc hf
      refine lv_iconst (v := (-1 : Int32)) C.1 C.2.1 dX12_guestAt_30 rfl ?_
      exact zretI C hS hf dX12_guestAt_31
    · have hf := zif_f hc hf
      refine lv_aload_n C.1 C.2.1 dX12_guestAt_12 rfl (lv_at hl 0 rfl) ?_
      refine lv_iload_n C.1 C.2.1 dX12_guestAt_13 rfl (lv_at hl 2 rfl) ?_
      refine lv_iconst (v := (1 : Int32)) C.1 C.2.1 dX12_guestAt_14 rfl ?_
      obtain ⟨r1, h2, er1, hf⟩ := zbd_some hf
      refine zcallVI (As := [.int x2, .int (1 : Int32)]) (rest := []) C hS mv_X12_106 (c_X12_ofGuest l G h x2 (1 : Int32) (r1, h2) (fun c h => hm c (sn_X12_guestAt_X12_ofGuest c h)) (fun q h => hk q (sl_X12_guestAt_X12_ofGuest q h)) er1) (hm 100 (by decide)) ⟨_, _, _, sh_100, rfl, rfl⟩ rfl rfl (Nat.le_of_ble_eq_true rfl) hl.1 ⟨Nat.le_of_ble_eq_true rfl, Nat.le_of_ble_eq_true rfl, Nat.le_of_ble_eq_true rfl, Nat.le_of_ble_eq_true rfl⟩ dX12_guestAt_15 (fun H locs hS => ?_)
      refine lv_iload_n C.1 C.2.1 dX12_guestAt_18 rfl (lv_at hl 1 rfl) ?_
      refine lv_icmp_ne (tgt := 24) C.1 C.2.1 dX12_guestAt_19 (by decide) (fun hc => ?_) (fun hc => ?_)
      · have hf := zif_f hc hf
        obtain ⟨y3, ey3, hf⟩ := zlt_some hf
        refine lv_iinc (v := y3) (lv' := [(2, .int y3), (0, .ref (zal G 100)), (1, .int x1)]) C.1 C.2.1 dX12_guestAt_24 hl (k := 2) rfl ey3.symm (by decide) rfl (fun ls hl => ?_)
        refine lv_goto (tgt := 2) C.1 C.2.1 dX12_guestAt_27 (by decide) ?_
        exact ih _ _ _ _ _ _ (lv_sub hl [1, 2, 0] rfl) hS hf
      · have hf := zif_t hc hf
        refine lv_iload_n C.1 C.2.1 dX12_guestAt_22 rfl (lv_at hl 2 rfl) ?_
        exact zretI C hS hf dX12_guestAt_23
set_option maxHeartbeats 4000000 in
set_option maxRecDepth 100000 in
theorem c_X12_guestAt (l : Launch) (G : zG) (h : zH) (x1 : Int32) (q : Int32 × zH) (hm : ∀ c ∈ nd_X12_guestAt, c ∈ znm G) (hk : ∀ q ∈ ld_X12_guestAt, zlk G q.1 q.2 = true) (hf : f_X12_guestAt x1 h = some q) : zCtI l yX12_guestAt cX12_guestAt 3 (some .int) (3) [.ref (zal G 100), .int x1] G h q.2 q.1 := by
  refine zMetI (by decide) (Nat.le_of_ble_eq_true rfl) ?_
  intro p e s m below meth c ls C hl hS
  have hl : lv_has ls 3 [(0, .ref (zal G 100)), (1, .int x1)] := hl
  have C : zC G p s m [.ref (zal G 100), .int x1].toArray meth c cX12_guestAt 3 RX12 (some .int) := C
  unfold f_X12_guestAt at hf
  refine lv_iconst (v := (0 : Int32)) C.1 C.2.1 dX12_guestAt_0 rfl ?_
  refine lv_istore_n (lv' := [(2, .int (0 : Int32)), (0, .ref (zal G 100)), (1, .int x1)]) C.1 C.2.1 dX12_guestAt_1 rfl hl (by decide) rfl (fun ls hl => ?_)
  exact w_X12_guestAt_2 C hm hk  zN _ _ _ _ _ _ (lv_sub hl [1, 2, 0] rfl) hS hf
end
section
theorem dX12_seat_0 : decode cX12_seat 0 = .ok (.aload_n 0, 1) := by decide +kernel
theorem dX12_seat_1 : decode cX12_seat 1 = .ok (.iload_n 1, 1) := by decide +kernel
theorem dX12_seat_2 : decode cX12_seat 2 = .ok (.invokevirtual 109, 3) := by decide +kernel
theorem dX12_seat_5 : decode cX12_seat 5 = .ok (.ifCond .eq 42, 3) := by decide +kernel
theorem dX12_seat_8 : decode cX12_seat 8 = .ok (.iload_n 2, 1) := by decide +kernel
theorem dX12_seat_9 : decode cX12_seat 9 = .ok (.iconst (-1), 1) := by decide +kernel
theorem dX12_seat_10 : decode cX12_seat 10 = .ok (.if_icmp .eq 39, 3) := by decide +kernel
theorem dX12_seat_13 : decode cX12_seat 13 = .ok (.iload_n 2, 1) := by decide +kernel
theorem dX12_seat_14 : decode cX12_seat 14 = .ok (.iconst 0, 1) := by decide +kernel
theorem dX12_seat_15 : decode cX12_seat 15 = .ok (.aload_n 0, 1) := by decide +kernel
theorem dX12_seat_16 : decode cX12_seat 16 = .ok (.getfield 7, 3) := by decide +kernel
theorem dX12_seat_19 : decode cX12_seat 19 = .ok (.iconst 0, 1) := by decide +kernel
theorem dX12_seat_20 : decode cX12_seat 20 = .ok (.iaload, 1) := by decide +kernel
theorem dX12_seat_21 : decode cX12_seat 21 = .ok (.iconst 1, 1) := by decide +kernel
theorem dX12_seat_22 : decode cX12_seat 22 = .ok (.isub, 1) := by decide +kernel
theorem dX12_seat_23 : decode cX12_seat 23 = .ok (.invokestatic 65, 3) := by decide +kernel
theorem dX12_seat_26 : decode cX12_seat 26 = .ok (.ifCond .eq 21, 3) := by decide +kernel
theorem dX12_seat_29 : decode cX12_seat 29 = .ok (.aload_n 0, 1) := by decide +kernel
theorem dX12_seat_30 : decode cX12_seat 30 = .ok (.iload_n 2, 1) := by decide +kernel
theorem dX12_seat_31 : decode cX12_seat 31 = .ok (.invokevirtual 112, 3) := by decide +kernel
theorem dX12_seat_34 : decode cX12_seat 34 = .ok (.iconst (-1), 1) := by decide +kernel
theorem dX12_seat_35 : decode cX12_seat 35 = .ok (.if_icmp .eq 14, 3) := by decide +kernel
theorem dX12_seat_38 : decode cX12_seat 38 = .ok (.aload_n 0, 1) := by decide +kernel
theorem dX12_seat_39 : decode cX12_seat 39 = .ok (.iload_n 2, 1) := by decide +kernel
theorem dX12_seat_40 : decode cX12_seat 40 = .ok (.invokevirtual 112, 3) := by decide +kernel
theorem dX12_seat_43 : decode cX12_seat 43 = .ok (.iload_n 1, 1) := by decide +kernel
theorem dX12_seat_44 : decode cX12_seat 44 = .ok (.if_icmp .eq 5, 3) := by decide +kernel
theorem dX12_seat_47 : decode cX12_seat 47 = .ok (.iconst 0, 1) := by decide +kernel
theorem dX12_seat_48 : decode cX12_seat 48 = .ok (.ireturn, 1) := by decide +kernel
theorem dX12_seat_49 : decode cX12_seat 49 = .ok (.aload_n 0, 1) := by decide +kernel
theorem dX12_seat_50 : decode cX12_seat 50 = .ok (.iload_n 1, 1) := by decide +kernel
theorem dX12_seat_51 : decode cX12_seat 51 = .ok (.iload_n 2, 1) := by decide +kernel
theorem dX12_seat_52 : decode cX12_seat 52 = .ok (.invokevirtual 102, 3) := by decide +kernel
theorem dX12_seat_55 : decode cX12_seat 55 = .ok (.aload_n 0, 1) := by decide +kernel
theorem dX12_seat_56 : decode cX12_seat 56 = .ok (.invokevirtual 76, 3) := by decide +kernel
theorem dX12_seat_59 : decode cX12_seat 59 = .ok (.iconst 1, 1) := by decide +kernel
theorem dX12_seat_60 : decode cX12_seat 60 = .ok (.ireturn, 1) := by decide +kernel
abbrev nd_X12_seat : List Nat := [100, 101]
abbrev ld_X12_seat : List (Nat × Nat) := [(100, 0)]
theorem sn_X12_seat_X12_isGuest : ∀ c ∈ nd_X12_isGuest, c ∈ nd_X12_seat := by decide
theorem sl_X12_seat_X12_isGuest : ∀ q ∈ ld_X12_isGuest, q ∈ ld_X12_seat := by decide
theorem sn_X12_seat_X12_sits : ∀ c ∈ nd_X12_sits, c ∈ nd_X12_seat := by decide
theorem sl_X12_seat_X12_sits : ∀ q ∈ ld_X12_sits, q ∈ ld_X12_seat := by decide
theorem sn_X12_seat_X12_forgets : ∀ c ∈ nd_X12_forgets, c ∈ nd_X12_seat := by decide
theorem sl_X12_seat_X12_forgets : ∀ q ∈ ld_X12_forgets, q ∈ ld_X12_seat := by decide
theorem sn_X12_seat_X12_isIn : ∀ c ∈ nd_X12_isIn, c ∈ nd_X12_seat := by decide
theorem sl_X12_seat_X12_isIn : ∀ q ∈ ld_X12_isIn, q ∈ ld_X12_seat := by decide
theorem sn_X12_seat_X12_guestAt : ∀ c ∈ nd_X12_guestAt, c ∈ nd_X12_seat := by decide
theorem sl_X12_seat_X12_guestAt : ∀ q ∈ ld_X12_guestAt, q ∈ ld_X12_seat := by decide
def f_X12_seat_47  (h : zH) : zR := (some ((0 : Int32), h))
def f_X12_seat_49  (x1 : Int32) (x2 : Int32) (h : zH) : zR := (zbd (f_X12_sits x1 x2 h) fun r3 h4 => (zbd (f_X12_forgets  h4) fun r5 h6 => (some ((1 : Int32), h6))))
def f_X12_seat  (x1 : Int32) (x2 : Int32) (h : zH) : zR := (zbd (f_X12_isGuest x1 h) fun r1 h2 => (if r1 = 0 then (f_X12_seat_47   h2) else (if x2 = (-1 : Int32) then (f_X12_seat_49  x1 x2 h2) else (zbd (f_X12_isIn x2 (0 : Int32) ((h2 101 0) - (1 : Int32)) h2) fun r7 h8 => (if r7 = 0 then (f_X12_seat_47   h8) else (zbd (f_X12_guestAt x2 h8) fun r9 h10 => (if r9 = (-1 : Int32) then (f_X12_seat_49  x1 x2 h10) else (zbd (f_X12_guestAt x2 h10) fun r11 h12 => (if r11 = x1 then (f_X12_seat_49  x1 x2 h12) else (f_X12_seat_47   h12))))))))))
variable {p : Program} {l : Launch} {e : Env} {s : State} {m : MethodId} {args : Array Value} {below : List Frame} {meth : Method} {c : Code} {G : zG} {q : Int32 × zH}
set_option maxHeartbeats 4000000 in
set_option maxRecDepth 100000 in
theorem w_X12_seat_47  (C : zC G p s m args meth c cX12_seat 3 RX12 (some .boolean)) (hm : ∀ c ∈ nd_X12_seat, c ∈ znm G) (hk : ∀ q ∈ ld_X12_seat, zlk G q.1 q.2 = true)  : ∀ (ls : Array Slot) (H : Heap) (locs : List Loc) (h : zH), lv_has ls 3 [] → zS G h s.heap H locs → f_X12_seat_47  h = some q → W p l e (zrm (4)) s m args below meth c H locs 0 0 (MQ below (zQI G q.2 q.1) args s 0 0 (zA G)) (F0 m 47 ls []) := by
  intro ls H locs h hl hS hf
  unfold f_X12_seat_47 at hf
  refine lv_iconst (v := (0 : Int32)) C.1 C.2.1 dX12_seat_47 rfl ?_
  exact zretZ C hS rfl hf dX12_seat_48
set_option maxHeartbeats 4000000 in
set_option maxRecDepth 100000 in
theorem w_X12_seat_49  (C : zC G p s m args meth c cX12_seat 3 RX12 (some .boolean)) (hm : ∀ c ∈ nd_X12_seat, c ∈ znm G) (hk : ∀ q ∈ ld_X12_seat, zlk G q.1 q.2 = true)  : ∀ (ls : Array Slot) (H : Heap) (locs : List Loc) (h : zH) (x1 : Int32) (x2 : Int32), lv_has ls 3 [(0, .ref (zal G 100)), (1, .int x1), (2, .int x2)] → zS G h s.heap H locs → f_X12_seat_49  x1 x2 h = some q → W p l e (zrm (4)) s m args below meth c H locs 0 0 (MQ below (zQI G q.2 q.1) args s 0 0 (zA G)) (F0 m 49 ls []) := by
  intro ls H locs h x1 x2 hl hS hf
  unfold f_X12_seat_49 at hf
  refine lv_aload_n C.1 C.2.1 dX12_seat_49 rfl (lv_at hl 0 rfl) ?_
  refine lv_iload_n C.1 C.2.1 dX12_seat_50 rfl (lv_at hl 1 rfl) ?_
  refine lv_iload_n C.1 C.2.1 dX12_seat_51 rfl (lv_at hl 2 rfl) ?_
  obtain ⟨r3, h4, er3, hf⟩ := zbd_some hf
  refine zcallVV (As := [.int x1, .int x2]) (rest := []) C hS mv_X12_102 (c_X12_sits l G h x1 x2 (r3, h4) (fun c h => hm c (sn_X12_seat_X12_sits c h)) (fun q h => hk q (sl_X12_seat_X12_sits q h)) er3) (hm 100 (by decide)) ⟨_, _, _, sh_100, rfl, rfl⟩ rfl rfl (Nat.le_of_ble_eq_true rfl) hl.1 ⟨Nat.le_of_ble_eq_true rfl, Nat.le_of_ble_eq_true rfl, Nat.le_of_ble_eq_true rfl, Nat.le_of_ble_eq_true rfl⟩ dX12_seat_52 (fun H locs hS => ?_)
  refine lv_aload_n C.1 C.2.1 dX12_seat_55 rfl (lv_at hl 0 rfl) ?_
  obtain ⟨r5, h6, er5, hf⟩ := zbd_some hf
  refine zcallVV (As := []) (rest := []) C hS mv_X12_76 (c_X12_forgets l G h4  (r5, h6) (fun c h => hm c (sn_X12_seat_X12_forgets c h)) (fun q h => hk q (sl_X12_seat_X12_forgets q h)) er5) (hm 100 (by decide)) ⟨_, _, _, sh_100, rfl, rfl⟩ rfl rfl (Nat.le_of_ble_eq_true rfl) hl.1 ⟨Nat.le_of_ble_eq_true rfl, Nat.le_of_ble_eq_true rfl, Nat.le_of_ble_eq_true rfl, Nat.le_of_ble_eq_true rfl⟩ dX12_seat_56 (fun H locs hS => ?_)
  refine lv_iconst (v := (1 : Int32)) C.1 C.2.1 dX12_seat_59 rfl ?_
  exact zretZ C hS rfl hf dX12_seat_60
set_option maxHeartbeats 4000000 in
set_option maxRecDepth 100000 in
theorem c_X12_seat (l : Launch) (G : zG) (h : zH) (x1 : Int32) (x2 : Int32) (q : Int32 × zH) (hm : ∀ c ∈ nd_X12_seat, c ∈ znm G) (hk : ∀ q ∈ ld_X12_seat, zlk G q.1 q.2 = true) (hf : f_X12_seat x1 x2 h = some q) : zCtI l yX12_seat cX12_seat 3 (some .boolean) (4) [.ref (zal G 100), .int x1, .int x2] G h q.2 q.1 := by
  refine zMetI (by decide) (Nat.le_of_ble_eq_true rfl) ?_
  intro p e s m below meth c ls C hl hS
  have hl : lv_has ls 3 [(0, .ref (zal G 100)), (1, .int x1), (2, .int x2)] := hl
  have C : zC G p s m [.ref (zal G 100), .int x1, .int x2].toArray meth c cX12_seat 3 RX12 (some .boolean) := C
  unfold f_X12_seat at hf
  refine lv_aload_n C.1 C.2.1 dX12_seat_0 rfl (lv_at hl 0 rfl) ?_
  refine lv_iload_n C.1 C.2.1 dX12_seat_1 rfl (lv_at hl 1 rfl) ?_
  obtain ⟨r1, h2, er1, hf⟩ := zbd_some hf
  refine zcallVI (As := [.int x1]) (rest := []) C hS mv_X12_109 (c_X12_isGuest l G h x1 (r1, h2) (fun c h => hm c (sn_X12_seat_X12_isGuest c h)) (fun q h => hk q (sl_X12_seat_X12_isGuest q h)) er1) (hm 100 (by decide)) ⟨_, _, _, sh_100, rfl, rfl⟩ rfl rfl (Nat.le_of_ble_eq_true rfl) hl.1 ⟨Nat.le_of_ble_eq_true rfl, Nat.le_of_ble_eq_true rfl, Nat.le_of_ble_eq_true rfl, Nat.le_of_ble_eq_true rfl⟩ dX12_seat_2 (fun H locs hS => ?_)
  refine lv_if_eq (tgt := 47) C.1 C.2.1 dX12_seat_5 (by decide) (fun hc => ?_) (fun hc => ?_)
  · have hf := zif_t hc hf
    exact w_X12_seat_47 C hm hk  _ _ _ _ (lv_sub hl [] rfl) hS hf
  · have hf := zif_f hc hf
    refine lv_iload_n C.1 C.2.1 dX12_seat_8 rfl (lv_at hl 2 rfl) ?_
    refine lv_iconst (v := (-1 : Int32)) C.1 C.2.1 dX12_seat_9 rfl ?_
    refine lv_icmp_eq (tgt := 49) C.1 C.2.1 dX12_seat_10 (by decide) (fun hc => ?_) (fun hc => ?_)
    · have hf := zif_t hc hf
      exact w_X12_seat_49 C hm hk  _ _ _ _ _ _ (lv_sub hl [0, 1, 2] rfl) hS hf
    · have hf := zif_f hc hf
      refine lv_iload_n C.1 C.2.1 dX12_seat_13 rfl (lv_at hl 2 rfl) ?_
      refine lv_iconst (v := (0 : Int32)) C.1 C.2.1 dX12_seat_14 rfl ?_
      refine lv_aload_n C.1 C.2.1 dX12_seat_15 rfl (lv_at hl 0 rfl) ?_
      refine zgetR C hS ff_X12_7_100 (hm 100 (by decide)) (hk (100, 0) (by decide)) dX12_seat_16 ?_
      refine lv_iconst (v := (0 : Int32)) C.1 C.2.1 dX12_seat_19 rfl ?_
      refine zald C hS sh_101 (hm 101 (by decide)) (vp_in_iff.mpr (by decide)) dX12_seat_20 ?_
      refine lv_iconst (v := (1 : Int32)) C.1 C.2.1 dX12_seat_21 rfl ?_
      refine lv_isub C.1 C.2.1 dX12_seat_22 ?_
      obtain ⟨r7, h8, er7, hf⟩ := zbd_some hf
      refine zcallSI (As := [.int x2, .int (0 : Int32), .int ((h2 101 0) - (1 : Int32))]) (rest := []) C hS ms_X12_65 (c_X12_isIn l G h2 x2 (0 : Int32) ((h2 101 0) - (1 : Int32)) (r7, h8) (fun c h => hm c (sn_X12_seat_X12_isIn c h)) (fun q h => hk q (sl_X12_seat_X12_isIn q h)) er7) rfl rfl (Nat.le_of_ble_eq_true rfl) hl.1 ⟨Nat.le_of_ble_eq_true rfl, Nat.le_of_ble_eq_true rfl, Nat.le_of_ble_eq_true rfl, Nat.le_of_ble_eq_true rfl⟩ dX12_seat_23 (fun H locs hS => ?_)
      refine lv_if_eq (tgt := 47) C.1 C.2.1 dX12_seat_26 (by decide) (fun hc => ?_) (fun hc => ?_)
      · have hf := zif_t hc hf
        exact w_X12_seat_47 C hm hk  _ _ _ _ (lv_sub hl [] rfl) hS hf
      · have hf := zif_f hc hf
        refine lv_aload_n C.1 C.2.1 dX12_seat_29 rfl (lv_at hl 0 rfl) ?_
        refine lv_iload_n C.1 C.2.1 dX12_seat_30 rfl (lv_at hl 2 rfl) ?_
        obtain ⟨r9, h10, er9, hf⟩ := zbd_some hf
        refine zcallVI (As := [.int x2]) (rest := []) C hS mv_X12_112 (c_X12_guestAt l G h8 x2 (r9, h10) (fun c h => hm c (sn_X12_seat_X12_guestAt c h)) (fun q h => hk q (sl_X12_seat_X12_guestAt q h)) er9) (hm 100 (by decide)) ⟨_, _, _, sh_100, rfl, rfl⟩ rfl rfl (Nat.le_of_ble_eq_true rfl) hl.1 ⟨Nat.le_of_ble_eq_true rfl, Nat.le_of_ble_eq_true rfl, Nat.le_of_ble_eq_true rfl, Nat.le_of_ble_eq_true rfl⟩ dX12_seat_31 (fun H locs hS => ?_)
        refine lv_iconst (v := (-1 : Int32)) C.1 C.2.1 dX12_seat_34 rfl ?_
        refine lv_icmp_eq (tgt := 49) C.1 C.2.1 dX12_seat_35 (by decide) (fun hc => ?_) (fun hc => ?_)
        · have hf := zif_t hc hf
          exact w_X12_seat_49 C hm hk  _ _ _ _ _ _ (lv_sub hl [0, 1, 2] rfl) hS hf
        · have hf := zif_f hc hf
          refine lv_aload_n C.1 C.2.1 dX12_seat_38 rfl (lv_at hl 0 rfl) ?_
          refine lv_iload_n C.1 C.2.1 dX12_seat_39 rfl (lv_at hl 2 rfl) ?_
          obtain ⟨r11, h12, er11, hf⟩ := zbd_some hf
          refine zcallVI (As := [.int x2]) (rest := []) C hS mv_X12_112 (c_X12_guestAt l G h10 x2 (r11, h12) (fun c h => hm c (sn_X12_seat_X12_guestAt c h)) (fun q h => hk q (sl_X12_seat_X12_guestAt q h)) er11) (hm 100 (by decide)) ⟨_, _, _, sh_100, rfl, rfl⟩ rfl rfl (Nat.le_of_ble_eq_true rfl) hl.1 ⟨Nat.le_of_ble_eq_true rfl, Nat.le_of_ble_eq_true rfl, Nat.le_of_ble_eq_true rfl, Nat.le_of_ble_eq_true rfl⟩ dX12_seat_40 (fun H locs hS => ?_)
          refine lv_iload_n C.1 C.2.1 dX12_seat_43 rfl (lv_at hl 1 rfl) ?_
          refine lv_icmp_eq (tgt := 49) C.1 C.2.1 dX12_seat_44 (by decide) (fun hc => ?_) (fun hc => ?_)
          · have hf := zif_t hc hf
            exact w_X12_seat_49 C hm hk  _ _ _ _ _ _ (lv_sub hl [0, 1, 2] rfl) hS hf
          · have hf := zif_f hc hf
            exact w_X12_seat_47 C hm hk  _ _ _ _ (lv_sub hl [] rfl) hS hf
end
section
theorem dX12_set_0 : decode cX12_set 0 = .ok (.iload_n 1, 1) := by decide +kernel
theorem dX12_set_1 : decode cX12_set 1 = .ok (.ifCond .ne 47, 3) := by decide +kernel
theorem dX12_set_4 : decode cX12_set 4 = .ok (.iload_n 2, 1) := by decide +kernel
theorem dX12_set_5 : decode cX12_set 5 = .ok (.iconst 3, 1) := by decide +kernel
theorem dX12_set_6 : decode cX12_set 6 = .ok (.bipush 8, 2) := by decide +kernel
theorem dX12_set_8 : decode cX12_set 8 = .ok (.invokestatic 65, 3) := by decide +kernel
theorem dX12_set_11 : decode cX12_set 11 = .ok (.ifCond .eq 37, 3) := by decide +kernel
theorem dX12_set_14 : decode cX12_set 14 = .ok (.aload_n 0, 1) := by decide +kernel
theorem dX12_set_15 : decode cX12_set 15 = .ok (.getfield 7, 3) := by decide +kernel
theorem dX12_set_18 : decode cX12_set 18 = .ok (.iconst 0, 1) := by decide +kernel
theorem dX12_set_19 : decode cX12_set 19 = .ok (.iload_n 2, 1) := by decide +kernel
theorem dX12_set_20 : decode cX12_set 20 = .ok (.iastore, 1) := by decide +kernel
theorem dX12_set_21 : decode cX12_set 21 = .ok (.iconst 0, 1) := by decide +kernel
theorem dX12_set_22 : decode cX12_set 22 = .ok (.istore_n 3, 1) := by decide +kernel
theorem dX12_set_23 : decode cX12_set 23 = .ok (.iload_n 3, 1) := by decide +kernel
theorem dX12_set_24 : decode cX12_set 24 = .ok (.aload_n 0, 1) := by decide +kernel
theorem dX12_set_25 : decode cX12_set 25 = .ok (.getfield 7, 3) := by decide +kernel
theorem dX12_set_28 : decode cX12_set 28 = .ok (.iconst 4, 1) := by decide +kernel
theorem dX12_set_29 : decode cX12_set 29 = .ok (.iaload, 1) := by decide +kernel
theorem dX12_set_30 : decode cX12_set 30 = .ok (.if_icmp .ge 15, 3) := by decide +kernel
theorem dX12_set_33 : decode cX12_set 33 = .ok (.aload_n 0, 1) := by decide +kernel
theorem dX12_set_34 : decode cX12_set 34 = .ok (.iload_n 3, 1) := by decide +kernel
theorem dX12_set_35 : decode cX12_set 35 = .ok (.iconst (-1), 1) := by decide +kernel
theorem dX12_set_36 : decode cX12_set 36 = .ok (.invokevirtual 102, 3) := by decide +kernel
theorem dX12_set_39 : decode cX12_set 39 = .ok (.iinc 3 1, 3) := by decide +kernel
theorem dX12_set_42 : decode cX12_set 42 = .ok (.goto (-19), 3) := by decide +kernel
theorem dX12_set_45 : decode cX12_set 45 = .ok (.goto 55, 3) := by decide +kernel
theorem dX12_set_48 : decode cX12_set 48 = .ok (.iload_n 1, 1) := by decide +kernel
theorem dX12_set_49 : decode cX12_set 49 = .ok (.iconst 1, 1) := by decide +kernel
theorem dX12_set_50 : decode cX12_set 50 = .ok (.if_icmp .ne 22, 3) := by decide +kernel
theorem dX12_set_53 : decode cX12_set 53 = .ok (.iload_n 2, 1) := by decide +kernel
theorem dX12_set_54 : decode cX12_set 54 = .ok (.iconst 1, 1) := by decide +kernel
theorem dX12_set_55 : decode cX12_set 55 = .ok (.iconst 4, 1) := by decide +kernel
theorem dX12_set_56 : decode cX12_set 56 = .ok (.invokestatic 65, 3) := by decide +kernel
theorem dX12_set_59 : decode cX12_set 59 = .ok (.ifCond .eq 13, 3) := by decide +kernel
theorem dX12_set_62 : decode cX12_set 62 = .ok (.aload_n 0, 1) := by decide +kernel
theorem dX12_set_63 : decode cX12_set 63 = .ok (.getfield 7, 3) := by decide +kernel
theorem dX12_set_66 : decode cX12_set 66 = .ok (.iconst 1, 1) := by decide +kernel
theorem dX12_set_67 : decode cX12_set 67 = .ok (.iload_n 2, 1) := by decide +kernel
theorem dX12_set_68 : decode cX12_set 68 = .ok (.iastore, 1) := by decide +kernel
theorem dX12_set_69 : decode cX12_set 69 = .ok (.goto 31, 3) := by decide +kernel
theorem dX12_set_72 : decode cX12_set 72 = .ok (.iload_n 1, 1) := by decide +kernel
theorem dX12_set_73 : decode cX12_set 73 = .ok (.iconst 2, 1) := by decide +kernel
theorem dX12_set_74 : decode cX12_set 74 = .ok (.if_icmp .ne 24, 3) := by decide +kernel
theorem dX12_set_77 : decode cX12_set 77 = .ok (.iload_n 2, 1) := by decide +kernel
theorem dX12_set_78 : decode cX12_set 78 = .ok (.iconst 0, 1) := by decide +kernel
theorem dX12_set_79 : decode cX12_set 79 = .ok (.sipush 1000, 3) := by decide +kernel
theorem dX12_set_82 : decode cX12_set 82 = .ok (.invokestatic 65, 3) := by decide +kernel
theorem dX12_set_85 : decode cX12_set 85 = .ok (.ifCond .eq 13, 3) := by decide +kernel
theorem dX12_set_88 : decode cX12_set 88 = .ok (.aload_n 0, 1) := by decide +kernel
theorem dX12_set_89 : decode cX12_set 89 = .ok (.getfield 7, 3) := by decide +kernel
theorem dX12_set_92 : decode cX12_set 92 = .ok (.iconst 2, 1) := by decide +kernel
theorem dX12_set_93 : decode cX12_set 93 = .ok (.iload_n 2, 1) := by decide +kernel
theorem dX12_set_94 : decode cX12_set 94 = .ok (.iastore, 1) := by decide +kernel
theorem dX12_set_95 : decode cX12_set 95 = .ok (.goto 5, 3) := by decide +kernel
theorem dX12_set_98 : decode cX12_set 98 = .ok (.iconst 0, 1) := by decide +kernel
theorem dX12_set_99 : decode cX12_set 99 = .ok (.ireturn, 1) := by decide +kernel
theorem dX12_set_100 : decode cX12_set 100 = .ok (.aload_n 0, 1) := by decide +kernel
theorem dX12_set_101 : decode cX12_set 101 = .ok (.invokevirtual 76, 3) := by decide +kernel
theorem dX12_set_104 : decode cX12_set 104 = .ok (.iconst 1, 1) := by decide +kernel
theorem dX12_set_105 : decode cX12_set 105 = .ok (.ireturn, 1) := by decide +kernel
abbrev nd_X12_set : List Nat := [100, 101]
abbrev ld_X12_set : List (Nat × Nat) := [(100, 0)]
theorem sn_X12_set_X12_isIn : ∀ c ∈ nd_X12_isIn, c ∈ nd_X12_set := by decide
theorem sl_X12_set_X12_isIn : ∀ q ∈ ld_X12_isIn, q ∈ ld_X12_set := by decide
theorem sn_X12_set_X12_forgets : ∀ c ∈ nd_X12_forgets, c ∈ nd_X12_set := by decide
theorem sl_X12_set_X12_forgets : ∀ q ∈ ld_X12_forgets, q ∈ ld_X12_set := by decide
theorem sn_X12_set_X12_sits : ∀ c ∈ nd_X12_sits, c ∈ nd_X12_set := by decide
theorem sl_X12_set_X12_sits : ∀ q ∈ ld_X12_sits, q ∈ ld_X12_set := by decide
def f_X12_set_98  (h : zH) : zR := (some ((0 : Int32), h))
def f_X12_set_100  (h : zH) : zR := (zbd (f_X12_forgets  h) fun r4 h5 => (some ((1 : Int32), h5)))
def f_X12_set_72  (x1 : Int32) (x2 : Int32) (h : zH) : zR := (if x1 = (2 : Int32) then (zbd (f_X12_isIn x2 (0 : Int32) (1000 : Int32) h) fun r1 h2 => (if r1 = 0 then (f_X12_set_98   h2) else (zst (zup h2 101 2 x2) fun h3 => (f_X12_set_100   h3)))) else (f_X12_set_98   h))
def f_X12_set_48  (x1 : Int32) (x2 : Int32) (h : zH) : zR := (if x1 = (1 : Int32) then (zbd (f_X12_isIn x2 (1 : Int32) (4 : Int32) h) fun r6 h7 => (if r6 = 0 then (f_X12_set_72  x1 x2 h7) else (zst (zup h7 101 1 x2) fun h8 => (f_X12_set_100   h8)))) else (f_X12_set_72  x1 x2 h))
def f_X12_set_23  : Nat → Int32 → zH → zR
  | 0 => fun _ _ => none
  | n + 1 => fun x3 h => (if (h 101 4) ≤ x3 then (f_X12_set_100   h) else (zbd (f_X12_sits x3 (-1 : Int32) h) fun r12 h13 => (zlt (x3 + (1 : Int32)) fun y14 => (f_X12_set_23  n y14 h13))))
def f_X12_set  (x1 : Int32) (x2 : Int32) (h : zH) : zR := (if x1 = 0 then (zbd (f_X12_isIn x2 (3 : Int32) (8 : Int32) h) fun r9 h10 => (if r9 = 0 then (f_X12_set_48  x1 x2 h10) else (zst (zup h10 101 0 x2) fun h11 => (f_X12_set_23  zN (0 : Int32) h11)))) else (f_X12_set_48  x1 x2 h))
variable {p : Program} {l : Launch} {e : Env} {s : State} {m : MethodId} {args : Array Value} {below : List Frame} {meth : Method} {c : Code} {G : zG} {q : Int32 × zH}
set_option maxHeartbeats 4000000 in
set_option maxRecDepth 100000 in
theorem w_X12_set_98  (C : zC G p s m args meth c cX12_set 4 RX12 (some .boolean)) (hm : ∀ c ∈ nd_X12_set, c ∈ znm G) (hk : ∀ q ∈ ld_X12_set, zlk G q.1 q.2 = true)  : ∀ (ls : Array Slot) (H : Heap) (locs : List Loc) (h : zH), lv_has ls 4 [] → zS G h s.heap H locs → f_X12_set_98  h = some q → W p l e (zrm (3)) s m args below meth c H locs 0 0 (MQ below (zQI G q.2 q.1) args s 0 0 (zA G)) (F0 m 98 ls []) := by
  intro ls H locs h hl hS hf
  unfold f_X12_set_98 at hf
  refine lv_iconst (v := (0 : Int32)) C.1 C.2.1 dX12_set_98 rfl ?_
  exact zretZ C hS rfl hf dX12_set_99
set_option maxHeartbeats 4000000 in
set_option maxRecDepth 100000 in
theorem w_X12_set_100  (C : zC G p s m args meth c cX12_set 4 RX12 (some .boolean)) (hm : ∀ c ∈ nd_X12_set, c ∈ znm G) (hk : ∀ q ∈ ld_X12_set, zlk G q.1 q.2 = true)  : ∀ (ls : Array Slot) (H : Heap) (locs : List Loc) (h : zH), lv_has ls 4 [(0, .ref (zal G 100))] → zS G h s.heap H locs → f_X12_set_100  h = some q → W p l e (zrm (3)) s m args below meth c H locs 0 0 (MQ below (zQI G q.2 q.1) args s 0 0 (zA G)) (F0 m 100 ls []) := by
  intro ls H locs h hl hS hf
  unfold f_X12_set_100 at hf
  refine lv_aload_n C.1 C.2.1 dX12_set_100 rfl (lv_at hl 0 rfl) ?_
  obtain ⟨r4, h5, er4, hf⟩ := zbd_some hf
  refine zcallVV (As := []) (rest := []) C hS mv_X12_76 (c_X12_forgets l G h  (r4, h5) (fun c h => hm c (sn_X12_set_X12_forgets c h)) (fun q h => hk q (sl_X12_set_X12_forgets q h)) er4) (hm 100 (by decide)) ⟨_, _, _, sh_100, rfl, rfl⟩ rfl rfl (Nat.le_of_ble_eq_true rfl) hl.1 ⟨Nat.le_of_ble_eq_true rfl, Nat.le_of_ble_eq_true rfl, Nat.le_of_ble_eq_true rfl, Nat.le_of_ble_eq_true rfl⟩ dX12_set_101 (fun H locs hS => ?_)
  refine lv_iconst (v := (1 : Int32)) C.1 C.2.1 dX12_set_104 rfl ?_
  exact zretZ C hS rfl hf dX12_set_105
set_option maxHeartbeats 4000000 in
set_option maxRecDepth 100000 in
theorem w_X12_set_72  (C : zC G p s m args meth c cX12_set 4 RX12 (some .boolean)) (hm : ∀ c ∈ nd_X12_set, c ∈ znm G) (hk : ∀ q ∈ ld_X12_set, zlk G q.1 q.2 = true)  : ∀ (ls : Array Slot) (H : Heap) (locs : List Loc) (h : zH) (x1 : Int32) (x2 : Int32), lv_has ls 4 [(0, .ref (zal G 100)), (1, .int x1), (2, .int x2)] → zS G h s.heap H locs → f_X12_set_72  x1 x2 h = some q → W p l e (zrm (3)) s m args below meth c H locs 0 0 (MQ below (zQI G q.2 q.1) args s 0 0 (zA G)) (F0 m 72 ls []) := by
  intro ls H locs h x1 x2 hl hS hf
  unfold f_X12_set_72 at hf
  refine lv_iload_n C.1 C.2.1 dX12_set_72 rfl (lv_at hl 1 rfl) ?_
  refine lv_iconst (v := (2 : Int32)) C.1 C.2.1 dX12_set_73 rfl ?_
  refine lv_icmp_ne (tgt := 98) C.1 C.2.1 dX12_set_74 (by decide) (fun hc => ?_) (fun hc => ?_)
  · have hf := zif_f hc hf
    exact w_X12_set_98 C hm hk  _ _ _ _ (lv_sub hl [] rfl) hS hf
  · have hf := zif_t hc hf
    refine lv_iload_n C.1 C.2.1 dX12_set_77 rfl (lv_at hl 2 rfl) ?_
    refine lv_iconst (v := (0 : Int32)) C.1 C.2.1 dX12_set_78 rfl ?_
    refine lv_sipush (v := (1000 : Int32)) C.1 C.2.1 dX12_set_79 rfl ?_
    obtain ⟨r1, h2, er1, hf⟩ := zbd_some hf
    refine zcallSI (As := [.int x2, .int (0 : Int32), .int (1000 : Int32)]) (rest := []) C hS ms_X12_65 (c_X12_isIn l G h x2 (0 : Int32) (1000 : Int32) (r1, h2) (fun c h => hm c (sn_X12_set_X12_isIn c h)) (fun q h => hk q (sl_X12_set_X12_isIn q h)) er1) rfl rfl (Nat.le_of_ble_eq_true rfl) hl.1 ⟨Nat.le_of_ble_eq_true rfl, Nat.le_of_ble_eq_true rfl, Nat.le_of_ble_eq_true rfl, Nat.le_of_ble_eq_true rfl⟩ dX12_set_82 (fun H locs hS => ?_)
    refine lv_if_eq (tgt := 98) C.1 C.2.1 dX12_set_85 (by decide) (fun hc => ?_) (fun hc => ?_)
    · have hf := zif_t hc hf
      exact w_X12_set_98 C hm hk  _ _ _ _ (lv_sub hl [] rfl) hS hf
    · have hf := zif_f hc hf
      refine lv_aload_n C.1 C.2.1 dX12_set_88 rfl (lv_at hl 0 rfl) ?_
      refine zgetR C hS ff_X12_7_100 (hm 100 (by decide)) (hk (100, 0) (by decide)) dX12_set_89 ?_
      refine lv_iconst (v := (2 : Int32)) C.1 C.2.1 dX12_set_92 rfl ?_
      refine lv_iload_n C.1 C.2.1 dX12_set_93 rfl (lv_at hl 2 rfl) ?_
      refine zast C hS sh_101 (hm 101 (by decide)) (vp_in_iff.mpr (by decide)) dX12_set_94 (fun H locs hS => ?_)
      obtain ⟨h3, eh3, hf⟩ := zst_some hf
      have hS : zS G h3 s.heap H locs := by rw [eh3]; exact hS
      refine lv_goto (tgt := 100) C.1 C.2.1 dX12_set_95 (by decide) ?_
      exact w_X12_set_100 C hm hk  _ _ _ _ (lv_sub hl [0] rfl) hS hf
set_option maxHeartbeats 4000000 in
set_option maxRecDepth 100000 in
theorem w_X12_set_48  (C : zC G p s m args meth c cX12_set 4 RX12 (some .boolean)) (hm : ∀ c ∈ nd_X12_set, c ∈ znm G) (hk : ∀ q ∈ ld_X12_set, zlk G q.1 q.2 = true)  : ∀ (ls : Array Slot) (H : Heap) (locs : List Loc) (h : zH) (x1 : Int32) (x2 : Int32), lv_has ls 4 [(0, .ref (zal G 100)), (1, .int x1), (2, .int x2)] → zS G h s.heap H locs → f_X12_set_48  x1 x2 h = some q → W p l e (zrm (3)) s m args below meth c H locs 0 0 (MQ below (zQI G q.2 q.1) args s 0 0 (zA G)) (F0 m 48 ls []) := by
  intro ls H locs h x1 x2 hl hS hf
  unfold f_X12_set_48 at hf
  refine lv_iload_n C.1 C.2.1 dX12_set_48 rfl (lv_at hl 1 rfl) ?_
  refine lv_iconst (v := (1 : Int32)) C.1 C.2.1 dX12_set_49 rfl ?_
  refine lv_icmp_ne (tgt := 72) C.1 C.2.1 dX12_set_50 (by decide) (fun hc => ?_) (fun hc => ?_)
  · have hf := zif_f hc hf
    exact w_X12_set_72 C hm hk  _ _ _ _ _ _ (lv_sub hl [0, 1, 2] rfl) hS hf
  · have hf := zif_t hc hf
    refine lv_iload_n C.1 C.2.1 dX12_set_53 rfl (lv_at hl 2 rfl) ?_
    refine lv_iconst (v := (1 : Int32)) C.1 C.2.1 dX12_set_54 rfl ?_
    refine lv_iconst (v := (4 : Int32)) C.1 C.2.1 dX12_set_55 rfl ?_
    obtain ⟨r6, h7, er6, hf⟩ := zbd_some hf
    refine zcallSI (As := [.int x2, .int (1 : Int32), .int (4 : Int32)]) (rest := []) C hS ms_X12_65 (c_X12_isIn l G h x2 (1 : Int32) (4 : Int32) (r6, h7) (fun c h => hm c (sn_X12_set_X12_isIn c h)) (fun q h => hk q (sl_X12_set_X12_isIn q h)) er6) rfl rfl (Nat.le_of_ble_eq_true rfl) hl.1 ⟨Nat.le_of_ble_eq_true rfl, Nat.le_of_ble_eq_true rfl, Nat.le_of_ble_eq_true rfl, Nat.le_of_ble_eq_true rfl⟩ dX12_set_56 (fun H locs hS => ?_)
    refine lv_if_eq (tgt := 72) C.1 C.2.1 dX12_set_59 (by decide) (fun hc => ?_) (fun hc => ?_)
    · have hf := zif_t hc hf
      exact w_X12_set_72 C hm hk  _ _ _ _ _ _ (lv_sub hl [0, 1, 2] rfl) hS hf
    · have hf := zif_f hc hf
      refine lv_aload_n C.1 C.2.1 dX12_set_62 rfl (lv_at hl 0 rfl) ?_
      refine zgetR C hS ff_X12_7_100 (hm 100 (by decide)) (hk (100, 0) (by decide)) dX12_set_63 ?_
      refine lv_iconst (v := (1 : Int32)) C.1 C.2.1 dX12_set_66 rfl ?_
      refine lv_iload_n C.1 C.2.1 dX12_set_67 rfl (lv_at hl 2 rfl) ?_
      refine zast C hS sh_101 (hm 101 (by decide)) (vp_in_iff.mpr (by decide)) dX12_set_68 (fun H locs hS => ?_)
      obtain ⟨h8, eh8, hf⟩ := zst_some hf
      have hS : zS G h8 s.heap H locs := by rw [eh8]; exact hS
      refine lv_goto (tgt := 100) C.1 C.2.1 dX12_set_69 (by decide) ?_
      exact w_X12_set_100 C hm hk  _ _ _ _ (lv_sub hl [0] rfl) hS hf
set_option maxHeartbeats 4000000 in
set_option maxRecDepth 100000 in
theorem w_X12_set_23  (C : zC G p s m args meth c cX12_set 4 RX12 (some .boolean)) (hm : ∀ c ∈ nd_X12_set, c ∈ znm G) (hk : ∀ q ∈ ld_X12_set, zlk G q.1 q.2 = true)  : ∀ n, ∀ (ls : Array Slot) (H : Heap) (locs : List Loc) (h : zH) (x3 : Int32), lv_has ls 4 [(0, .ref (zal G 100)), (3, .int x3)] → zS G h s.heap H locs → f_X12_set_23  n x3 h = some q → W p l e (zrm (3)) s m args below meth c H locs 0 0 (MQ below (zQI G q.2 q.1) args s 0 0 (zA G)) (F0 m 23 ls []) := by
  intro n
  induction n with
  | zero => intro ls H locs h x3 hl hS hf; cases hf
  | succ n ih =>
    intro ls H locs h x3 hl hS hf
    rw [f_X12_set_23] at hf
    refine lv_iload_n C.1 C.2.1 dX12_set_23 rfl (lv_at hl 1 rfl) ?_
    refine lv_aload_n C.1 C.2.1 dX12_set_24 rfl (lv_at hl 0 rfl) ?_
    refine zgetR C hS ff_X12_7_100 (hm 100 (by decide)) (hk (100, 0) (by decide)) dX12_set_25 ?_
    refine lv_iconst (v := (4 : Int32)) C.1 C.2.1 dX12_set_28 rfl ?_
    refine zald C hS sh_101 (hm 101 (by decide)) (vp_in_iff.mpr (by decide)) dX12_set_29 ?_
    refine lv_icmp_ge (tgt := 45) C.1 C.2.1 dX12_set_30 (by decide) (fun hc => ?_) (fun hc => ?_)
    · have hf := zif_t hc hf
      refine lv_goto (tgt := 100) C.1 C.2.1 dX12_set_45 (by decide) ?_
      exact w_X12_set_100 C hm hk  _ _ _ _ (lv_sub hl [0] rfl) hS hf
    · have hf := zif_f hc hf
      refine lv_aload_n C.1 C.2.1 dX12_set_33 rfl (lv_at hl 0 rfl) ?_
      refine lv_iload_n C.1 C.2.1 dX12_set_34 rfl (lv_at hl 1 rfl) ?_
      refine lv_iconst (v := (-1 : Int32)) C.1 C.2.1 dX12_set_35 rfl ?_
      obtain ⟨r12, h13, er12, hf⟩ := zbd_some hf
      refine zcallVV (As := [.int x3, .int (-1 : Int32)]) (rest := []) C hS mv_X12_102 (c_X12_sits l G h x3 (-1 : Int32) (r12, h13) (fun c h => hm c (sn_X12_set_X12_sits c h)) (fun q h => hk q (sl_X12_set_X12_sits q h)) er12) (hm 100 (by decide)) ⟨_, _, _, sh_100, rfl, rfl⟩ rfl rfl (Nat.le_of_ble_eq_true rfl) hl.1 ⟨Nat.le_of_ble_eq_true rfl, Nat.le_of_ble_eq_true rfl, Nat.le_of_ble_eq_true rfl, Nat.le_of_ble_eq_true rfl⟩ dX12_set_36 (fun H locs hS => ?_)
      obtain ⟨y14, ey14, hf⟩ := zlt_some hf
      refine lv_iinc (v := y14) (lv' := [(3, .int y14), (0, .ref (zal G 100))]) C.1 C.2.1 dX12_set_39 hl (k := 1) rfl ey14.symm (by decide) rfl (fun ls hl => ?_)
      refine lv_goto (tgt := 23) C.1 C.2.1 dX12_set_42 (by decide) ?_
      exact ih _ _ _ _ _ (lv_sub hl [1, 0] rfl) hS hf
set_option maxHeartbeats 4000000 in
set_option maxRecDepth 100000 in
theorem c_X12_set (l : Launch) (G : zG) (h : zH) (x1 : Int32) (x2 : Int32) (q : Int32 × zH) (hm : ∀ c ∈ nd_X12_set, c ∈ znm G) (hk : ∀ q ∈ ld_X12_set, zlk G q.1 q.2 = true) (hf : f_X12_set x1 x2 h = some q) : zCtI l yX12_set cX12_set 4 (some .boolean) (3) [.ref (zal G 100), .int x1, .int x2] G h q.2 q.1 := by
  refine zMetI (by decide) (Nat.le_of_ble_eq_true rfl) ?_
  intro p e s m below meth c ls C hl hS
  have hl : lv_has ls 4 [(0, .ref (zal G 100)), (1, .int x1), (2, .int x2)] := hl
  have C : zC G p s m [.ref (zal G 100), .int x1, .int x2].toArray meth c cX12_set 4 RX12 (some .boolean) := C
  unfold f_X12_set at hf
  refine lv_iload_n C.1 C.2.1 dX12_set_0 rfl (lv_at hl 1 rfl) ?_
  refine lv_if_ne (tgt := 48) C.1 C.2.1 dX12_set_1 (by decide) (fun hc => ?_) (fun hc => ?_)
  · have hf := zif_f hc hf
    exact w_X12_set_48 C hm hk  _ _ _ _ _ _ (lv_sub hl [0, 1, 2] rfl) hS hf
  · have hf := zif_t hc hf
    refine lv_iload_n C.1 C.2.1 dX12_set_4 rfl (lv_at hl 2 rfl) ?_
    refine lv_iconst (v := (3 : Int32)) C.1 C.2.1 dX12_set_5 rfl ?_
    refine lv_bipush (v := (8 : Int32)) C.1 C.2.1 dX12_set_6 rfl ?_
    obtain ⟨r9, h10, er9, hf⟩ := zbd_some hf
    refine zcallSI (As := [.int x2, .int (3 : Int32), .int (8 : Int32)]) (rest := []) C hS ms_X12_65 (c_X12_isIn l G h x2 (3 : Int32) (8 : Int32) (r9, h10) (fun c h => hm c (sn_X12_set_X12_isIn c h)) (fun q h => hk q (sl_X12_set_X12_isIn q h)) er9) rfl rfl (Nat.le_of_ble_eq_true rfl) hl.1 ⟨Nat.le_of_ble_eq_true rfl, Nat.le_of_ble_eq_true rfl, Nat.le_of_ble_eq_true rfl, Nat.le_of_ble_eq_true rfl⟩ dX12_set_8 (fun H locs hS => ?_)
    refine lv_if_eq (tgt := 48) C.1 C.2.1 dX12_set_11 (by decide) (fun hc => ?_) (fun hc => ?_)
    · have hf := zif_t hc hf
      exact w_X12_set_48 C hm hk  _ _ _ _ _ _ (lv_sub hl [0, 1, 2] rfl) hS hf
    · have hf := zif_f hc hf
      refine lv_aload_n C.1 C.2.1 dX12_set_14 rfl (lv_at hl 0 rfl) ?_
      refine zgetR C hS ff_X12_7_100 (hm 100 (by decide)) (hk (100, 0) (by decide)) dX12_set_15 ?_
      refine lv_iconst (v := (0 : Int32)) C.1 C.2.1 dX12_set_18 rfl ?_
      refine lv_iload_n C.1 C.2.1 dX12_set_19 rfl (lv_at hl 2 rfl) ?_
      refine zast C hS sh_101 (hm 101 (by decide)) (vp_in_iff.mpr (by decide)) dX12_set_20 (fun H locs hS => ?_)
      obtain ⟨h11, eh11, hf⟩ := zst_some hf
      have hS : zS G h11 s.heap H locs := by rw [eh11]; exact hS
      refine lv_iconst (v := (0 : Int32)) C.1 C.2.1 dX12_set_21 rfl ?_
      refine lv_istore_n (lv' := [(3, .int (0 : Int32)), (0, .ref (zal G 100)), (1, .int x1), (2, .int x2)]) C.1 C.2.1 dX12_set_22 rfl hl (by decide) rfl (fun ls hl => ?_)
      exact w_X12_set_23 C hm hk  zN _ _ _ _ _ (lv_sub hl [1, 0] rfl) hS hf
end
section
theorem dX12_feed_0 : decode cX12_feed 0 = .ok (.aload_n 0, 1) := by decide +kernel
theorem dX12_feed_1 : decode cX12_feed 1 = .ok (.getfield 116, 3) := by decide +kernel
theorem dX12_feed_4 : decode cX12_feed 4 = .ok (.bipush 20, 2) := by decide +kernel
theorem dX12_feed_6 : decode cX12_feed 6 = .ok (.iadd, 1) := by decide +kernel
theorem dX12_feed_7 : decode cX12_feed 7 = .ok (.sipush 400, 3) := by decide +kernel
theorem dX12_feed_10 : decode cX12_feed 10 = .ok (.if_icmp .le 5, 3) := by decide +kernel
theorem dX12_feed_13 : decode cX12_feed 13 = .ok (.iconst (-1), 1) := by decide +kernel
theorem dX12_feed_14 : decode cX12_feed 14 = .ok (.ireturn, 1) := by decide +kernel
theorem dX12_feed_15 : decode cX12_feed 15 = .ok (.iconst 0, 1) := by decide +kernel
theorem dX12_feed_16 : decode cX12_feed 16 = .ok (.istore 6, 2) := by decide +kernel
theorem dX12_feed_18 : decode cX12_feed 18 = .ok (.iload 6, 2) := by decide +kernel
theorem dX12_feed_20 : decode cX12_feed 20 = .ok (.bipush 20, 2) := by decide +kernel
theorem dX12_feed_22 : decode cX12_feed 22 = .ok (.if_icmp .ge 93, 3) := by decide +kernel
theorem dX12_feed_25 : decode cX12_feed 25 = .ok (.iload 6, 2) := by decide +kernel
theorem dX12_feed_27 : decode cX12_feed 27 = .ok (.iconst 4, 1) := by decide +kernel
theorem dX12_feed_28 : decode cX12_feed 28 = .ok (.if_icmp .ge 7, 3) := by decide +kernel
theorem dX12_feed_31 : decode cX12_feed 31 = .ok (.iload_n 1, 1) := by decide +kernel
theorem dX12_feed_32 : decode cX12_feed 32 = .ok (.goto 39, 3) := by decide +kernel
theorem dX12_feed_35 : decode cX12_feed 35 = .ok (.iload 6, 2) := by decide +kernel
theorem dX12_feed_37 : decode cX12_feed 37 = .ok (.bipush 8, 2) := by decide +kernel
theorem dX12_feed_39 : decode cX12_feed 39 = .ok (.if_icmp .ge 7, 3) := by decide +kernel
theorem dX12_feed_42 : decode cX12_feed 42 = .ok (.iload_n 2, 1) := by decide +kernel
theorem dX12_feed_43 : decode cX12_feed 43 = .ok (.goto 28, 3) := by decide +kernel
theorem dX12_feed_46 : decode cX12_feed 46 = .ok (.iload 6, 2) := by decide +kernel
theorem dX12_feed_48 : decode cX12_feed 48 = .ok (.bipush 12, 2) := by decide +kernel
theorem dX12_feed_50 : decode cX12_feed 50 = .ok (.if_icmp .ge 7, 3) := by decide +kernel
theorem dX12_feed_53 : decode cX12_feed 53 = .ok (.iload_n 3, 1) := by decide +kernel
theorem dX12_feed_54 : decode cX12_feed 54 = .ok (.goto 17, 3) := by decide +kernel
theorem dX12_feed_57 : decode cX12_feed 57 = .ok (.iload 6, 2) := by decide +kernel
theorem dX12_feed_59 : decode cX12_feed 59 = .ok (.bipush 16, 2) := by decide +kernel
theorem dX12_feed_61 : decode cX12_feed 61 = .ok (.if_icmp .ge 8, 3) := by decide +kernel
theorem dX12_feed_64 : decode cX12_feed 64 = .ok (.iload 4, 2) := by decide +kernel
theorem dX12_feed_66 : decode cX12_feed 66 = .ok (.goto 5, 3) := by decide +kernel
theorem dX12_feed_69 : decode cX12_feed 69 = .ok (.iload 5, 2) := by decide +kernel
theorem dX12_feed_71 : decode cX12_feed 71 = .ok (.istore 7, 2) := by decide +kernel
theorem dX12_feed_73 : decode cX12_feed 73 = .ok (.aload_n 0, 1) := by decide +kernel
theorem dX12_feed_74 : decode cX12_feed 74 = .ok (.getfield 28, 3) := by decide +kernel
theorem dX12_feed_77 : decode cX12_feed 77 = .ok (.aload_n 0, 1) := by decide +kernel
theorem dX12_feed_78 : decode cX12_feed 78 = .ok (.getfield 116, 3) := by decide +kernel
theorem dX12_feed_81 : decode cX12_feed 81 = .ok (.iload 7, 2) := by decide +kernel
theorem dX12_feed_83 : decode cX12_feed 83 = .ok (.bipush 24, 2) := by decide +kernel
theorem dX12_feed_85 : decode cX12_feed 85 = .ok (.bipush 8, 2) := by decide +kernel
theorem dX12_feed_87 : decode cX12_feed 87 = .ok (.iload 6, 2) := by decide +kernel
theorem dX12_feed_89 : decode cX12_feed 89 = .ok (.iconst 4, 1) := by decide +kernel
theorem dX12_feed_90 : decode cX12_feed 90 = .ok (.irem, 1) := by decide +kernel
theorem dX12_feed_91 : decode cX12_feed 91 = .ok (.imul, 1) := by decide +kernel
theorem dX12_feed_92 : decode cX12_feed 92 = .ok (.isub, 1) := by decide +kernel
theorem dX12_feed_93 : decode cX12_feed 93 = .ok (.ishr, 1) := by decide +kernel
theorem dX12_feed_94 : decode cX12_feed 94 = .ok (.sipush 255, 3) := by decide +kernel
theorem dX12_feed_97 : decode cX12_feed 97 = .ok (.iand, 1) := by decide +kernel
theorem dX12_feed_98 : decode cX12_feed 98 = .ok (.iastore, 1) := by decide +kernel
theorem dX12_feed_99 : decode cX12_feed 99 = .ok (.aload_n 0, 1) := by decide +kernel
theorem dX12_feed_100 : decode cX12_feed 100 = .ok (.dup, 1) := by decide +kernel
theorem dX12_feed_101 : decode cX12_feed 101 = .ok (.getfield 116, 3) := by decide +kernel
theorem dX12_feed_104 : decode cX12_feed 104 = .ok (.iconst 1, 1) := by decide +kernel
theorem dX12_feed_105 : decode cX12_feed 105 = .ok (.iadd, 1) := by decide +kernel
theorem dX12_feed_106 : decode cX12_feed 106 = .ok (.putfield 116, 3) := by decide +kernel
theorem dX12_feed_109 : decode cX12_feed 109 = .ok (.iinc 6 1, 3) := by decide +kernel
theorem dX12_feed_112 : decode cX12_feed 112 = .ok (.goto (-94), 3) := by decide +kernel
theorem dX12_feed_115 : decode cX12_feed 115 = .ok (.aload_n 0, 1) := by decide +kernel
theorem dX12_feed_116 : decode cX12_feed 116 = .ok (.getfield 116, 3) := by decide +kernel
theorem dX12_feed_119 : decode cX12_feed 119 = .ok (.ireturn, 1) := by decide +kernel
abbrev nd_X12_feed : List Nat := [100, 107]
abbrev ld_X12_feed : List (Nat × Nat) := [(100, 8)]
def f_X12_feed_71 (k18 : Int32 → Int32 → Int32 → Int32 → Int32 → Int32 → zH → zR) (x1 : Int32) (x2 : Int32) (x3 : Int32) (x4 : Int32) (x5 : Int32) (x6 : Int32) (s0 : Int32) (h : zH) : zR := (zck (h 100 13) 400 (zst (zup h 107 (Int32.toNatClampNeg (h 100 13)) ((s0 >>> (((24 : Int32) - ((8 : Int32) * (x6 - x6 / (4 : Int32) * (4 : Int32)))) &&& 31)) &&& (255 : Int32))) fun h1 => (zst (zup h1 100 13 ((h1 100 13) + (1 : Int32))) fun h2 => (zlt (x6 + (1 : Int32)) fun y3 => (k18 x1 x2 x3 x4 x5 y3 h2)))))
def f_X12_feed_18  : Nat → Int32 → Int32 → Int32 → Int32 → Int32 → Int32 → zH → zR
  | 0 => fun _ _ _ _ _ _ _ => none
  | n + 1 => fun x1 x2 x3 x4 x5 x6 h => (if (20 : Int32) ≤ x6 then (some ((h 100 13), h)) else (if (4 : Int32) ≤ x6 then (if (8 : Int32) ≤ x6 then (if (12 : Int32) ≤ x6 then (if (16 : Int32) ≤ x6 then (f_X12_feed_71 (f_X12_feed_18  n) x1 x2 x3 x4 x5 x6 x5 h) else (f_X12_feed_71 (f_X12_feed_18  n) x1 x2 x3 x4 x5 x6 x4 h)) else (f_X12_feed_71 (f_X12_feed_18  n) x1 x2 x3 x4 x5 x6 x3 h)) else (f_X12_feed_71 (f_X12_feed_18  n) x1 x2 x3 x4 x5 x6 x2 h)) else (f_X12_feed_71 (f_X12_feed_18  n) x1 x2 x3 x4 x5 x6 x1 h)))
def f_X12_feed  (x1 : Int32) (x2 : Int32) (x3 : Int32) (x4 : Int32) (x5 : Int32) (h : zH) : zR := (if ((h 100 13) + (20 : Int32)) ≤ (400 : Int32) then (f_X12_feed_18  zN x1 x2 x3 x4 x5 (0 : Int32) h) else (some ((-1 : Int32), h)))
variable {p : Program} {l : Launch} {e : Env} {s : State} {m : MethodId} {args : Array Value} {below : List Frame} {meth : Method} {c : Code} {G : zG} {q : Int32 × zH}
set_option maxHeartbeats 4000000 in
set_option maxRecDepth 100000 in
theorem w_X12_feed_71 {k18 : Int32 → Int32 → Int32 → Int32 → Int32 → Int32 → zH → zR} (C : zC G p s m args meth c cX12_feed 8 RX12 (some .int)) (hm : ∀ c ∈ nd_X12_feed, c ∈ znm G) (hk : ∀ q ∈ ld_X12_feed, zlk G q.1 q.2 = true) (hk18 : ∀ (ls : Array Slot) (H : Heap) (locs : List Loc) (h : zH) (x1 : Int32) (x2 : Int32) (x3 : Int32) (x4 : Int32) (x5 : Int32) (x6 : Int32), lv_has ls 8 [(0, .ref (zal G 100)), (1, .int x1), (2, .int x2), (3, .int x3), (4, .int x4), (5, .int x5), (6, .int x6)] → zS G h s.heap H locs → k18 x1 x2 x3 x4 x5 x6 h = some q → W p l e (zrm (2)) s m args below meth c H locs 0 0 (MQ below (zQI G q.2 q.1) args s 0 0 (zA G)) (F0 m 18 ls [])) : ∀ (ls : Array Slot) (H : Heap) (locs : List Loc) (h : zH) (x1 : Int32) (x2 : Int32) (x3 : Int32) (x4 : Int32) (x5 : Int32) (x6 : Int32) (s0 : Int32), lv_has ls 8 [(0, .ref (zal G 100)), (1, .int x1), (2, .int x2), (3, .int x3), (4, .int x4), (5, .int x5), (6, .int x6)] → zS G h s.heap H locs → f_X12_feed_71 k18 x1 x2 x3 x4 x5 x6 s0 h = some q → W p l e (zrm (2)) s m args below meth c H locs 0 0 (MQ below (zQI G q.2 q.1) args s 0 0 (zA G)) (F0 m 71 ls [.int s0]) := by
  intro ls H locs h x1 x2 x3 x4 x5 x6 s0 hl hS hf
  unfold f_X12_feed_71 at hf
  refine lv_istore (lv' := [(7, .int s0), (0, .ref (zal G 100)), (1, .int x1), (2, .int x2), (3, .int x3), (4, .int x4), (5, .int x5), (6, .int x6)]) C.1 C.2.1 dX12_feed_71 hl (by decide) rfl (fun ls hl => ?_)
  refine lv_aload_n C.1 C.2.1 dX12_feed_73 rfl (lv_at hl 1 rfl) ?_
  refine zgetR C hS ff_X12_28_100 (hm 100 (by decide)) (hk (100, 8) (by decide)) dX12_feed_74 ?_
  refine lv_aload_n C.1 C.2.1 dX12_feed_77 rfl (lv_at hl 1 rfl) ?_
  refine zgetI C hS ff_X12_116_100 (hm 100 (by decide)) dX12_feed_78 ?_
  refine lv_iload C.1 C.2.1 dX12_feed_81 (lv_at hl 0 rfl) ?_
  refine lv_bipush (v := (24 : Int32)) C.1 C.2.1 dX12_feed_83 rfl ?_
  refine lv_bipush (v := (8 : Int32)) C.1 C.2.1 dX12_feed_85 rfl ?_
  refine lv_iload C.1 C.2.1 dX12_feed_87 (lv_at hl 7 rfl) ?_
  refine lv_iconst (v := (4 : Int32)) C.1 C.2.1 dX12_feed_89 rfl ?_
  refine lv_irem C.1 C.2.1 dX12_feed_90 (by decide) ?_
  refine lv_imul C.1 C.2.1 dX12_feed_91 ?_
  refine lv_isub C.1 C.2.1 dX12_feed_92 ?_
  refine lv_ishr C.1 C.2.1 dX12_feed_93 ?_
  refine lv_sipush (v := (255 : Int32)) C.1 C.2.1 dX12_feed_94 rfl ?_
  refine lv_iand C.1 C.2.1 dX12_feed_97 ?_
  obtain ⟨hi, hf⟩ := zck_some hf
  refine zast C hS sh_107 (hm 107 (by decide)) hi dX12_feed_98 (fun H locs hS => ?_)
  obtain ⟨h1, eh1, hf⟩ := zst_some hf
  have hS : zS G h1 s.heap H locs := by rw [eh1]; exact hS
  refine lv_aload_n C.1 C.2.1 dX12_feed_99 rfl (lv_at hl 1 rfl) ?_
  refine lv_dup C.1 C.2.1 dX12_feed_100 rfl ?_
  refine zgetI C hS ff_X12_116_100 (hm 100 (by decide)) dX12_feed_101 ?_
  refine lv_iconst (v := (1 : Int32)) C.1 C.2.1 dX12_feed_104 rfl ?_
  refine lv_iadd C.1 C.2.1 dX12_feed_105 ?_
  refine zputI C hS ff_X12_116_100 fw_100_13 (hm 100 (by decide)) dX12_feed_106 (fun H locs hS => ?_)
  obtain ⟨h2, eh2, hf⟩ := zst_some hf
  have hS : zS G h2 s.heap H locs := by rw [eh2]; exact hS
  obtain ⟨y3, ey3, hf⟩ := zlt_some hf
  refine lv_iinc (v := y3) (lv' := [(6, .int y3), (7, .int s0), (0, .ref (zal G 100)), (1, .int x1), (2, .int x2), (3, .int x3), (4, .int x4), (5, .int x5)]) C.1 C.2.1 dX12_feed_109 hl (k := 7) rfl ey3.symm (by decide) rfl (fun ls hl => ?_)
  refine lv_goto (tgt := 18) C.1 C.2.1 dX12_feed_112 (by decide) ?_
  exact hk18 _ _ _ _ _ _ _ _ _ _ (lv_sub hl [2, 3, 4, 5, 6, 7, 0] rfl) hS hf
set_option maxHeartbeats 4000000 in
set_option maxRecDepth 100000 in
theorem w_X12_feed_18  (C : zC G p s m args meth c cX12_feed 8 RX12 (some .int)) (hm : ∀ c ∈ nd_X12_feed, c ∈ znm G) (hk : ∀ q ∈ ld_X12_feed, zlk G q.1 q.2 = true)  : ∀ n, ∀ (ls : Array Slot) (H : Heap) (locs : List Loc) (h : zH) (x1 : Int32) (x2 : Int32) (x3 : Int32) (x4 : Int32) (x5 : Int32) (x6 : Int32), lv_has ls 8 [(0, .ref (zal G 100)), (1, .int x1), (2, .int x2), (3, .int x3), (4, .int x4), (5, .int x5), (6, .int x6)] → zS G h s.heap H locs → f_X12_feed_18  n x1 x2 x3 x4 x5 x6 h = some q → W p l e (zrm (2)) s m args below meth c H locs 0 0 (MQ below (zQI G q.2 q.1) args s 0 0 (zA G)) (F0 m 18 ls []) := by
  intro n
  induction n with
  | zero => intro ls H locs h x1 x2 x3 x4 x5 x6 hl hS hf; cases hf
  | succ n ih =>
    intro ls H locs h x1 x2 x3 x4 x5 x6 hl hS hf
    rw [f_X12_feed_18] at hf
    refine lv_iload C.1 C.2.1 dX12_feed_18 (lv_at hl 6 rfl) ?_
    refine lv_bipush (v := (20 : Int32)) C.1 C.2.1 dX12_feed_20 rfl ?_
    refine lv_icmp_ge (tgt := 115) C.1 C.2.1 dX12_feed_22 (by decide) (fun hc => ?_) (fun hc => ?_)
    · have hf := zif_t hc hf
      refine lv_aload_n C.1 C.2.1 dX12_feed_115 rfl (lv_at hl 0 rfl) ?_
      refine zgetI C hS ff_X12_116_100 (hm 100 (by decide)) dX12_feed_116 ?_
      exact zretI C hS hf dX12_feed_119
    · have hf := zif_f hc hf
      refine lv_iload C.1 C.2.1 dX12_feed_25 (lv_at hl 6 rfl) ?_
      refine lv_iconst (v := (4 : Int32)) C.1 C.2.1 dX12_feed_27 rfl ?_
      refine lv_icmp_ge (tgt := 35) C.1 C.2.1 dX12_feed_28 (by decide) (fun hc => ?_) (fun hc => ?_)
      · have hf := zif_t hc hf
        refine lv_iload C.1 C.2.1 dX12_feed_35 (lv_at hl 6 rfl) ?_
        refine lv_bipush (v := (8 : Int32)) C.1 C.2.1 dX12_feed_37 rfl ?_
        refine lv_icmp_ge (tgt := 46) C.1 C.2.1 dX12_feed_39 (by decide) (fun hc => ?_) (fun hc => ?_)
        · have hf := zif_t hc hf
          refine lv_iload C.1 C.2.1 dX12_feed_46 (lv_at hl 6 rfl) ?_
          refine lv_bipush (v := (12 : Int32)) C.1 C.2.1 dX12_feed_48 rfl ?_
          refine lv_icmp_ge (tgt := 57) C.1 C.2.1 dX12_feed_50 (by decide) (fun hc => ?_) (fun hc => ?_)
          · have hf := zif_t hc hf
            refine lv_iload C.1 C.2.1 dX12_feed_57 (lv_at hl 6 rfl) ?_
            refine lv_bipush (v := (16 : Int32)) C.1 C.2.1 dX12_feed_59 rfl ?_
            refine lv_icmp_ge (tgt := 69) C.1 C.2.1 dX12_feed_61 (by decide) (fun hc => ?_) (fun hc => ?_)
            · have hf := zif_t hc hf
              refine lv_iload C.1 C.2.1 dX12_feed_69 (lv_at hl 5 rfl) ?_
              exact w_X12_feed_71 C hm hk ih _ _ _ _ _ _ _ _ _ _ _ (lv_sub hl [0, 1, 2, 3, 4, 5, 6] rfl) hS hf
            · have hf := zif_f hc hf
              refine lv_iload C.1 C.2.1 dX12_feed_64 (lv_at hl 4 rfl) ?_
              refine lv_goto (tgt := 71) C.1 C.2.1 dX12_feed_66 (by decide) ?_
              exact w_X12_feed_71 C hm hk ih _ _ _ _ _ _ _ _ _ _ _ (lv_sub hl [0, 1, 2, 3, 4, 5, 6] rfl) hS hf
          · have hf := zif_f hc hf
            refine lv_iload_n C.1 C.2.1 dX12_feed_53 rfl (lv_at hl 3 rfl) ?_
            refine lv_goto (tgt := 71) C.1 C.2.1 dX12_feed_54 (by decide) ?_
            exact w_X12_feed_71 C hm hk ih _ _ _ _ _ _ _ _ _ _ _ (lv_sub hl [0, 1, 2, 3, 4, 5, 6] rfl) hS hf
        · have hf := zif_f hc hf
          refine lv_iload_n C.1 C.2.1 dX12_feed_42 rfl (lv_at hl 2 rfl) ?_
          refine lv_goto (tgt := 71) C.1 C.2.1 dX12_feed_43 (by decide) ?_
          exact w_X12_feed_71 C hm hk ih _ _ _ _ _ _ _ _ _ _ _ (lv_sub hl [0, 1, 2, 3, 4, 5, 6] rfl) hS hf
      · have hf := zif_f hc hf
        refine lv_iload_n C.1 C.2.1 dX12_feed_31 rfl (lv_at hl 1 rfl) ?_
        refine lv_goto (tgt := 71) C.1 C.2.1 dX12_feed_32 (by decide) ?_
        exact w_X12_feed_71 C hm hk ih _ _ _ _ _ _ _ _ _ _ _ (lv_sub hl [0, 1, 2, 3, 4, 5, 6] rfl) hS hf
set_option maxHeartbeats 4000000 in
set_option maxRecDepth 100000 in
theorem c_X12_feed (l : Launch) (G : zG) (h : zH) (x1 : Int32) (x2 : Int32) (x3 : Int32) (x4 : Int32) (x5 : Int32) (q : Int32 × zH) (hm : ∀ c ∈ nd_X12_feed, c ∈ znm G) (hk : ∀ q ∈ ld_X12_feed, zlk G q.1 q.2 = true) (hf : f_X12_feed x1 x2 x3 x4 x5 h = some q) : zCtI l yX12_feed cX12_feed 8 (some .int) (2) [.ref (zal G 100), .int x1, .int x2, .int x3, .int x4, .int x5] G h q.2 q.1 := by
  refine zMetI (by decide) (Nat.le_of_ble_eq_true rfl) ?_
  intro p e s m below meth c ls C hl hS
  have hl : lv_has ls 8 [(0, .ref (zal G 100)), (1, .int x1), (2, .int x2), (3, .int x3), (4, .int x4), (5, .int x5)] := hl
  have C : zC G p s m [.ref (zal G 100), .int x1, .int x2, .int x3, .int x4, .int x5].toArray meth c cX12_feed 8 RX12 (some .int) := C
  unfold f_X12_feed at hf
  refine lv_aload_n C.1 C.2.1 dX12_feed_0 rfl (lv_at hl 0 rfl) ?_
  refine zgetI C hS ff_X12_116_100 (hm 100 (by decide)) dX12_feed_1 ?_
  refine lv_bipush (v := (20 : Int32)) C.1 C.2.1 dX12_feed_4 rfl ?_
  refine lv_iadd C.1 C.2.1 dX12_feed_6 ?_
  refine lv_sipush (v := (400 : Int32)) C.1 C.2.1 dX12_feed_7 rfl ?_
  refine lv_icmp_le (tgt := 15) C.1 C.2.1 dX12_feed_10 (by decide) (fun hc => ?_) (fun hc => ?_)
  · have hf := zif_t hc hf
    refine lv_iconst (v := (0 : Int32)) C.1 C.2.1 dX12_feed_15 rfl ?_
    refine lv_istore (lv' := [(6, .int (0 : Int32)), (0, .ref (zal G 100)), (1, .int x1), (2, .int x2), (3, .int x3), (4, .int x4), (5, .int x5)]) C.1 C.2.1 dX12_feed_16 hl (by decide) rfl (fun ls hl => ?_)
    exact w_X12_feed_18 C hm hk  zN _ _ _ _ _ _ _ _ _ _ (lv_sub hl [1, 2, 3, 4, 5, 6, 0] rfl) hS hf
  · have hf := zif_f hc hf
    refine lv_iconst (v := (-1 : Int32)) C.1 C.2.1 dX12_feed_13 rfl ?_
    exact zretI C hS hf dX12_feed_14
end
section
theorem dX12_end_0 : decode cX12_end 0 = .ok (.iload_n 1, 1) := by decide +kernel
theorem dX12_end_1 : decode cX12_end 1 = .ok (.iconst 0, 1) := by decide +kernel
theorem dX12_end_2 : decode cX12_end 2 = .ok (.aload_n 0, 1) := by decide +kernel
theorem dX12_end_3 : decode cX12_end 3 = .ok (.getfield 116, 3) := by decide +kernel
theorem dX12_end_6 : decode cX12_end 6 = .ok (.invokestatic 65, 3) := by decide +kernel
theorem dX12_end_9 : decode cX12_end 9 = .ok (.ifCond .ne 5, 3) := by decide +kernel
theorem dX12_end_12 : decode cX12_end 12 = .ok (.iconst 0, 1) := by decide +kernel
theorem dX12_end_13 : decode cX12_end 13 = .ok (.ireturn, 1) := by decide +kernel
theorem dX12_end_14 : decode cX12_end 14 = .ok (.aload_n 0, 1) := by decide +kernel
theorem dX12_end_15 : decode cX12_end 15 = .ok (.iload_n 1, 1) := by decide +kernel
theorem dX12_end_16 : decode cX12_end 16 = .ok (.putfield 116, 3) := by decide +kernel
theorem dX12_end_19 : decode cX12_end 19 = .ok (.iconst 1, 1) := by decide +kernel
theorem dX12_end_20 : decode cX12_end 20 = .ok (.ireturn, 1) := by decide +kernel
abbrev nd_X12_end : List Nat := [100]
abbrev ld_X12_end : List (Nat × Nat) := []
theorem sn_X12_end_X12_isIn : ∀ c ∈ nd_X12_isIn, c ∈ nd_X12_end := by decide
theorem sl_X12_end_X12_isIn : ∀ q ∈ ld_X12_isIn, q ∈ ld_X12_end := by decide
def f_X12_end  (x1 : Int32) (h : zH) : zR := (zbd (f_X12_isIn x1 (0 : Int32) (h 100 13) h) fun r1 h2 => (if r1 = 0 then (some ((0 : Int32), h2)) else (zst (zup h2 100 13 x1) fun h3 => (some ((1 : Int32), h3)))))
variable {p : Program} {l : Launch} {e : Env} {s : State} {m : MethodId} {args : Array Value} {below : List Frame} {meth : Method} {c : Code} {G : zG} {q : Int32 × zH}
set_option maxHeartbeats 4000000 in
set_option maxRecDepth 100000 in
theorem c_X12_end (l : Launch) (G : zG) (h : zH) (x1 : Int32) (q : Int32 × zH) (hm : ∀ c ∈ nd_X12_end, c ∈ znm G) (hk : ∀ q ∈ ld_X12_end, zlk G q.1 q.2 = true) (hf : f_X12_end x1 h = some q) : zCtI l yX12_end cX12_end 2 (some .boolean) (3) [.ref (zal G 100), .int x1] G h q.2 q.1 := by
  refine zMetI (by decide) (Nat.le_of_ble_eq_true rfl) ?_
  intro p e s m below meth c ls C hl hS
  have hl : lv_has ls 2 [(0, .ref (zal G 100)), (1, .int x1)] := hl
  have C : zC G p s m [.ref (zal G 100), .int x1].toArray meth c cX12_end 2 RX12 (some .boolean) := C
  unfold f_X12_end at hf
  refine lv_iload_n C.1 C.2.1 dX12_end_0 rfl (lv_at hl 1 rfl) ?_
  refine lv_iconst (v := (0 : Int32)) C.1 C.2.1 dX12_end_1 rfl ?_
  refine lv_aload_n C.1 C.2.1 dX12_end_2 rfl (lv_at hl 0 rfl) ?_
  refine zgetI C hS ff_X12_116_100 (hm 100 (by decide)) dX12_end_3 ?_
  obtain ⟨r1, h2, er1, hf⟩ := zbd_some hf
  refine zcallSI (As := [.int x1, .int (0 : Int32), .int (h 100 13)]) (rest := []) C hS ms_X12_65 (c_X12_isIn l G h x1 (0 : Int32) (h 100 13) (r1, h2) (fun c h => hm c (sn_X12_end_X12_isIn c h)) (fun q h => hk q (sl_X12_end_X12_isIn q h)) er1) rfl rfl (Nat.le_of_ble_eq_true rfl) hl.1 ⟨Nat.le_of_ble_eq_true rfl, Nat.le_of_ble_eq_true rfl, Nat.le_of_ble_eq_true rfl, Nat.le_of_ble_eq_true rfl⟩ dX12_end_6 (fun H locs hS => ?_)
  refine lv_if_ne (tgt := 14) C.1 C.2.1 dX12_end_9 (by decide) (fun hc => ?_) (fun hc => ?_)
  · have hf := zif_f hc hf
    refine lv_aload_n C.1 C.2.1 dX12_end_14 rfl (lv_at hl 0 rfl) ?_
    refine lv_iload_n C.1 C.2.1 dX12_end_15 rfl (lv_at hl 1 rfl) ?_
    refine zputI C hS ff_X12_116_100 fw_100_13 (hm 100 (by decide)) dX12_end_16 (fun H locs hS => ?_)
    obtain ⟨h3, eh3, hf⟩ := zst_some hf
    have hS : zS G h3 s.heap H locs := by rw [eh3]; exact hS
    refine lv_iconst (v := (1 : Int32)) C.1 C.2.1 dX12_end_19 rfl ?_
    exact zretZ C hS rfl hf dX12_end_20
  · have hf := zif_t hc hf
    refine lv_iconst (v := (0 : Int32)) C.1 C.2.1 dX12_end_12 rfl ?_
    exact zretZ C hS rfl hf dX12_end_13
end
section
theorem dX12_fault_0 : decode cX12_fault 0 = .ok (.iload_n 1, 1) := by decide +kernel
theorem dX12_fault_1 : decode cX12_fault 1 = .ok (.ifCond .ne 10, 3) := by decide +kernel
theorem dX12_fault_4 : decode cX12_fault 4 = .ok (.aload_n 0, 1) := by decide +kernel
theorem dX12_fault_5 : decode cX12_fault 5 = .ok (.getfield 236, 3) := by decide +kernel
theorem dX12_fault_8 : decode cX12_fault 8 = .ok (.goto 16, 3) := by decide +kernel
theorem dX12_fault_11 : decode cX12_fault 11 = .ok (.iload_n 1, 1) := by decide +kernel
theorem dX12_fault_12 : decode cX12_fault 12 = .ok (.iconst 1, 1) := by decide +kernel
theorem dX12_fault_13 : decode cX12_fault 13 = .ok (.if_icmp .ne 10, 3) := by decide +kernel
theorem dX12_fault_16 : decode cX12_fault 16 = .ok (.aload_n 0, 1) := by decide +kernel
theorem dX12_fault_17 : decode cX12_fault 17 = .ok (.getfield 37, 3) := by decide +kernel
theorem dX12_fault_20 : decode cX12_fault 20 = .ok (.goto 4, 3) := by decide +kernel
theorem dX12_fault_23 : decode cX12_fault 23 = .ok (.iconst (-1), 1) := by decide +kernel
theorem dX12_fault_24 : decode cX12_fault 24 = .ok (.ireturn, 1) := by decide +kernel
abbrev nd_X12_fault : List Nat := [100]
abbrev ld_X12_fault : List (Nat × Nat) := []
def f_X12_fault  (x1 : Int32) (h : zH) : zR := (if x1 = 0 then (some ((h 100 20), h)) else (if x1 = (1 : Int32) then (some ((h 100 22), h)) else (some ((-1 : Int32), h))))
variable {p : Program} {l : Launch} {e : Env} {s : State} {m : MethodId} {args : Array Value} {below : List Frame} {meth : Method} {c : Code} {G : zG} {q : Int32 × zH}
set_option maxHeartbeats 4000000 in
set_option maxRecDepth 100000 in
theorem c_X12_fault (l : Launch) (G : zG) (h : zH) (x1 : Int32) (q : Int32 × zH) (hm : ∀ c ∈ nd_X12_fault, c ∈ znm G) (hk : ∀ q ∈ ld_X12_fault, zlk G q.1 q.2 = true) (hf : f_X12_fault x1 h = some q) : zCtI l yX12_fault cX12_fault 2 (some .int) (2) [.ref (zal G 100), .int x1] G h q.2 q.1 := by
  refine zMetI (by decide) (Nat.le_of_ble_eq_true rfl) ?_
  intro p e s m below meth c ls C hl hS
  have hl : lv_has ls 2 [(0, .ref (zal G 100)), (1, .int x1)] := hl
  have C : zC G p s m [.ref (zal G 100), .int x1].toArray meth c cX12_fault 2 RX12 (some .int) := C
  unfold f_X12_fault at hf
  refine lv_iload_n C.1 C.2.1 dX12_fault_0 rfl (lv_at hl 1 rfl) ?_
  refine lv_if_ne (tgt := 11) C.1 C.2.1 dX12_fault_1 (by decide) (fun hc => ?_) (fun hc => ?_)
  · have hf := zif_f hc hf
    refine lv_iload_n C.1 C.2.1 dX12_fault_11 rfl (lv_at hl 1 rfl) ?_
    refine lv_iconst (v := (1 : Int32)) C.1 C.2.1 dX12_fault_12 rfl ?_
    refine lv_icmp_ne (tgt := 23) C.1 C.2.1 dX12_fault_13 (by decide) (fun hc => ?_) (fun hc => ?_)
    · have hf := zif_f hc hf
      refine lv_iconst (v := (-1 : Int32)) C.1 C.2.1 dX12_fault_23 rfl ?_
      exact zretI C hS hf dX12_fault_24
    · have hf := zif_t hc hf
      refine lv_aload_n C.1 C.2.1 dX12_fault_16 rfl (lv_at hl 0 rfl) ?_
      refine zgetI C hS ff_X12_37_100 (hm 100 (by decide)) dX12_fault_17 ?_
      refine lv_goto (tgt := 24) C.1 C.2.1 dX12_fault_20 (by decide) ?_
      exact zretI C hS hf dX12_fault_24
  · have hf := zif_t hc hf
    refine lv_aload_n C.1 C.2.1 dX12_fault_4 rfl (lv_at hl 0 rfl) ?_
    refine zgetI C hS ff_X12_236_100 (hm 100 (by decide)) dX12_fault_5 ?_
    refine lv_goto (tgt := 24) C.1 C.2.1 dX12_fault_8 (by decide) ?_
    exact zretI C hS hf dX12_fault_24
end
section
theorem dX12_of_0 : decode cX12_of 0 = .ok (.aload_n 0, 1) := by decide +kernel
theorem dX12_of_1 : decode cX12_of 1 = .ok (.iload_n 1, 1) := by decide +kernel
theorem dX12_of_2 : decode cX12_of 2 = .ok (.invokevirtual 85, 3) := by decide +kernel
theorem dX12_of_5 : decode cX12_of 5 = .ok (.ifCond .eq 46, 3) := by decide +kernel
theorem dX12_of_8 : decode cX12_of 8 = .ok (.iload_n 2, 1) := by decide +kernel
theorem dX12_of_9 : decode cX12_of 9 = .ok (.iconst 0, 1) := by decide +kernel
theorem dX12_of_10 : decode cX12_of 10 = .ok (.iconst 2, 1) := by decide +kernel
theorem dX12_of_11 : decode cX12_of 11 = .ok (.invokestatic 65, 3) := by decide +kernel
theorem dX12_of_14 : decode cX12_of 14 = .ok (.ifCond .ne 14, 3) := by decide +kernel
theorem dX12_of_17 : decode cX12_of 17 = .ok (.iload_n 2, 1) := by decide +kernel
theorem dX12_of_18 : decode cX12_of 18 = .ok (.bipush 10, 2) := by decide +kernel
theorem dX12_of_20 : decode cX12_of 20 = .ok (.bipush 15, 2) := by decide +kernel
theorem dX12_of_22 : decode cX12_of 22 = .ok (.invokestatic 65, 3) := by decide +kernel
theorem dX12_of_25 : decode cX12_of 25 = .ok (.ifCond .eq 26, 3) := by decide +kernel
theorem dX12_of_28 : decode cX12_of 28 = .ok (.aload_n 0, 1) := by decide +kernel
theorem dX12_of_29 : decode cX12_of 29 = .ok (.iload_n 1, 1) := by decide +kernel
theorem dX12_of_30 : decode cX12_of 30 = .ok (.iload_n 2, 1) := by decide +kernel
theorem dX12_of_31 : decode cX12_of 31 = .ok (.iconst 3, 1) := by decide +kernel
theorem dX12_of_32 : decode cX12_of 32 = .ok (.if_icmp .ge 7, 3) := by decide +kernel
theorem dX12_of_35 : decode cX12_of 35 = .ok (.iload_n 2, 1) := by decide +kernel
theorem dX12_of_36 : decode cX12_of 36 = .ok (.goto 9, 3) := by decide +kernel
theorem dX12_of_39 : decode cX12_of 39 = .ok (.iconst 3, 1) := by decide +kernel
theorem dX12_of_40 : decode cX12_of 40 = .ok (.iload_n 2, 1) := by decide +kernel
theorem dX12_of_41 : decode cX12_of 41 = .ok (.iadd, 1) := by decide +kernel
theorem dX12_of_42 : decode cX12_of 42 = .ok (.bipush 10, 2) := by decide +kernel
theorem dX12_of_44 : decode cX12_of 44 = .ok (.isub, 1) := by decide +kernel
theorem dX12_of_45 : decode cX12_of 45 = .ok (.invokevirtual 69, 3) := by decide +kernel
theorem dX12_of_48 : decode cX12_of 48 = .ok (.goto 4, 3) := by decide +kernel
theorem dX12_of_51 : decode cX12_of 51 = .ok (.iconst (-1), 1) := by decide +kernel
theorem dX12_of_52 : decode cX12_of 52 = .ok (.ireturn, 1) := by decide +kernel
abbrev nd_X12_of : List Nat := [100, 101]
abbrev ld_X12_of : List (Nat × Nat) := [(100, 0)]
theorem sn_X12_of_X12_isHalf : ∀ c ∈ nd_X12_isHalf, c ∈ nd_X12_of := by decide
theorem sl_X12_of_X12_isHalf : ∀ q ∈ ld_X12_isHalf, q ∈ ld_X12_of := by decide
theorem sn_X12_of_X12_isIn : ∀ c ∈ nd_X12_isIn, c ∈ nd_X12_of := by decide
theorem sl_X12_of_X12_isIn : ∀ q ∈ ld_X12_isIn, q ∈ ld_X12_of := by decide
theorem sn_X12_of_X12_ofHalf : ∀ c ∈ nd_X12_ofHalf, c ∈ nd_X12_of := by decide
theorem sl_X12_of_X12_ofHalf : ∀ q ∈ ld_X12_ofHalf, q ∈ ld_X12_of := by decide
def f_X12_of_51  (h : zH) : zR := (some ((-1 : Int32), h))
def f_X12_of_45  (s0 : Int32) (s1 : Int32) (h : zH) : zR := (zbd (f_X12_ofHalf s1 s0 h) fun r5 h6 => (some (r5, h6)))
def f_X12_of_28  (x1 : Int32) (x2 : Int32) (h : zH) : zR := (if (3 : Int32) ≤ x2 then (f_X12_of_45  (((3 : Int32) + x2) - (10 : Int32)) x1 h) else (f_X12_of_45  x2 x1 h))
def f_X12_of  (x1 : Int32) (x2 : Int32) (h : zH) : zR := (zbd (f_X12_isHalf x1 h) fun r1 h2 => (if r1 = 0 then (f_X12_of_51   h2) else (zbd (f_X12_isIn x2 (0 : Int32) (2 : Int32) h2) fun r3 h4 => (if r3 = 0 then (zbd (f_X12_isIn x2 (10 : Int32) (15 : Int32) h4) fun r7 h8 => (if r7 = 0 then (f_X12_of_51   h8) else (f_X12_of_28  x1 x2 h8))) else (f_X12_of_28  x1 x2 h4)))))
variable {p : Program} {l : Launch} {e : Env} {s : State} {m : MethodId} {args : Array Value} {below : List Frame} {meth : Method} {c : Code} {G : zG} {q : Int32 × zH}
set_option maxHeartbeats 4000000 in
set_option maxRecDepth 100000 in
theorem w_X12_of_51  (C : zC G p s m args meth c cX12_of 3 RX12 (some .int)) (hm : ∀ c ∈ nd_X12_of, c ∈ znm G) (hk : ∀ q ∈ ld_X12_of, zlk G q.1 q.2 = true)  : ∀ (ls : Array Slot) (H : Heap) (locs : List Loc) (h : zH), lv_has ls 3 [] → zS G h s.heap H locs → f_X12_of_51  h = some q → W p l e (zrm (4)) s m args below meth c H locs 0 0 (MQ below (zQI G q.2 q.1) args s 0 0 (zA G)) (F0 m 51 ls []) := by
  intro ls H locs h hl hS hf
  unfold f_X12_of_51 at hf
  refine lv_iconst (v := (-1 : Int32)) C.1 C.2.1 dX12_of_51 rfl ?_
  exact zretI C hS hf dX12_of_52
set_option maxHeartbeats 4000000 in
set_option maxRecDepth 100000 in
theorem w_X12_of_45  (C : zC G p s m args meth c cX12_of 3 RX12 (some .int)) (hm : ∀ c ∈ nd_X12_of, c ∈ znm G) (hk : ∀ q ∈ ld_X12_of, zlk G q.1 q.2 = true)  : ∀ (ls : Array Slot) (H : Heap) (locs : List Loc) (h : zH) (s0 : Int32) (s1 : Int32), lv_has ls 3 [] → zS G h s.heap H locs → f_X12_of_45  s0 s1 h = some q → W p l e (zrm (4)) s m args below meth c H locs 0 0 (MQ below (zQI G q.2 q.1) args s 0 0 (zA G)) (F0 m 45 ls [.int s0, .int s1, .ref (zal G 100)]) := by
  intro ls H locs h s0 s1 hl hS hf
  unfold f_X12_of_45 at hf
  obtain ⟨r5, h6, er5, hf⟩ := zbd_some hf
  refine zcallVI (As := [.int s1, .int s0]) (rest := []) C hS mv_X12_69 (c_X12_ofHalf l G h s1 s0 (r5, h6) (fun c h => hm c (sn_X12_of_X12_ofHalf c h)) (fun q h => hk q (sl_X12_of_X12_ofHalf q h)) er5) (hm 100 (by decide)) ⟨_, _, _, sh_100, rfl, rfl⟩ rfl rfl (Nat.le_of_ble_eq_true rfl) hl.1 ⟨Nat.le_of_ble_eq_true rfl, Nat.le_of_ble_eq_true rfl, Nat.le_of_ble_eq_true rfl, Nat.le_of_ble_eq_true rfl⟩ dX12_of_45 (fun H locs hS => ?_)
  refine lv_goto (tgt := 52) C.1 C.2.1 dX12_of_48 (by decide) ?_
  exact zretI C hS hf dX12_of_52
set_option maxHeartbeats 4000000 in
set_option maxRecDepth 100000 in
theorem w_X12_of_28  (C : zC G p s m args meth c cX12_of 3 RX12 (some .int)) (hm : ∀ c ∈ nd_X12_of, c ∈ znm G) (hk : ∀ q ∈ ld_X12_of, zlk G q.1 q.2 = true)  : ∀ (ls : Array Slot) (H : Heap) (locs : List Loc) (h : zH) (x1 : Int32) (x2 : Int32), lv_has ls 3 [(0, .ref (zal G 100)), (1, .int x1), (2, .int x2)] → zS G h s.heap H locs → f_X12_of_28  x1 x2 h = some q → W p l e (zrm (4)) s m args below meth c H locs 0 0 (MQ below (zQI G q.2 q.1) args s 0 0 (zA G)) (F0 m 28 ls []) := by
  intro ls H locs h x1 x2 hl hS hf
  unfold f_X12_of_28 at hf
  refine lv_aload_n C.1 C.2.1 dX12_of_28 rfl (lv_at hl 0 rfl) ?_
  refine lv_iload_n C.1 C.2.1 dX12_of_29 rfl (lv_at hl 1 rfl) ?_
  refine lv_iload_n C.1 C.2.1 dX12_of_30 rfl (lv_at hl 2 rfl) ?_
  refine lv_iconst (v := (3 : Int32)) C.1 C.2.1 dX12_of_31 rfl ?_
  refine lv_icmp_ge (tgt := 39) C.1 C.2.1 dX12_of_32 (by decide) (fun hc => ?_) (fun hc => ?_)
  · have hf := zif_t hc hf
    refine lv_iconst (v := (3 : Int32)) C.1 C.2.1 dX12_of_39 rfl ?_
    refine lv_iload_n C.1 C.2.1 dX12_of_40 rfl (lv_at hl 2 rfl) ?_
    refine lv_iadd C.1 C.2.1 dX12_of_41 ?_
    refine lv_bipush (v := (10 : Int32)) C.1 C.2.1 dX12_of_42 rfl ?_
    refine lv_isub C.1 C.2.1 dX12_of_44 ?_
    exact w_X12_of_45 C hm hk  _ _ _ _ _ _ (lv_sub hl [] rfl) hS hf
  · have hf := zif_f hc hf
    refine lv_iload_n C.1 C.2.1 dX12_of_35 rfl (lv_at hl 2 rfl) ?_
    refine lv_goto (tgt := 45) C.1 C.2.1 dX12_of_36 (by decide) ?_
    exact w_X12_of_45 C hm hk  _ _ _ _ _ _ (lv_sub hl [] rfl) hS hf
set_option maxHeartbeats 4000000 in
set_option maxRecDepth 100000 in
theorem c_X12_of (l : Launch) (G : zG) (h : zH) (x1 : Int32) (x2 : Int32) (q : Int32 × zH) (hm : ∀ c ∈ nd_X12_of, c ∈ znm G) (hk : ∀ q ∈ ld_X12_of, zlk G q.1 q.2 = true) (hf : f_X12_of x1 x2 h = some q) : zCtI l yX12_of cX12_of 3 (some .int) (4) [.ref (zal G 100), .int x1, .int x2] G h q.2 q.1 := by
  refine zMetI (by decide) (Nat.le_of_ble_eq_true rfl) ?_
  intro p e s m below meth c ls C hl hS
  have hl : lv_has ls 3 [(0, .ref (zal G 100)), (1, .int x1), (2, .int x2)] := hl
  have C : zC G p s m [.ref (zal G 100), .int x1, .int x2].toArray meth c cX12_of 3 RX12 (some .int) := C
  unfold f_X12_of at hf
  refine lv_aload_n C.1 C.2.1 dX12_of_0 rfl (lv_at hl 0 rfl) ?_
  refine lv_iload_n C.1 C.2.1 dX12_of_1 rfl (lv_at hl 1 rfl) ?_
  obtain ⟨r1, h2, er1, hf⟩ := zbd_some hf
  refine zcallVI (As := [.int x1]) (rest := []) C hS mv_X12_85 (c_X12_isHalf l G h x1 (r1, h2) (fun c h => hm c (sn_X12_of_X12_isHalf c h)) (fun q h => hk q (sl_X12_of_X12_isHalf q h)) er1) (hm 100 (by decide)) ⟨_, _, _, sh_100, rfl, rfl⟩ rfl rfl (Nat.le_of_ble_eq_true rfl) hl.1 ⟨Nat.le_of_ble_eq_true rfl, Nat.le_of_ble_eq_true rfl, Nat.le_of_ble_eq_true rfl, Nat.le_of_ble_eq_true rfl⟩ dX12_of_2 (fun H locs hS => ?_)
  refine lv_if_eq (tgt := 51) C.1 C.2.1 dX12_of_5 (by decide) (fun hc => ?_) (fun hc => ?_)
  · have hf := zif_t hc hf
    exact w_X12_of_51 C hm hk  _ _ _ _ (lv_sub hl [] rfl) hS hf
  · have hf := zif_f hc hf
    refine lv_iload_n C.1 C.2.1 dX12_of_8 rfl (lv_at hl 2 rfl) ?_
    refine lv_iconst (v := (0 : Int32)) C.1 C.2.1 dX12_of_9 rfl ?_
    refine lv_iconst (v := (2 : Int32)) C.1 C.2.1 dX12_of_10 rfl ?_
    obtain ⟨r3, h4, er3, hf⟩ := zbd_some hf
    refine zcallSI (As := [.int x2, .int (0 : Int32), .int (2 : Int32)]) (rest := []) C hS ms_X12_65 (c_X12_isIn l G h2 x2 (0 : Int32) (2 : Int32) (r3, h4) (fun c h => hm c (sn_X12_of_X12_isIn c h)) (fun q h => hk q (sl_X12_of_X12_isIn q h)) er3) rfl rfl (Nat.le_of_ble_eq_true rfl) hl.1 ⟨Nat.le_of_ble_eq_true rfl, Nat.le_of_ble_eq_true rfl, Nat.le_of_ble_eq_true rfl, Nat.le_of_ble_eq_true rfl⟩ dX12_of_11 (fun H locs hS => ?_)
    refine lv_if_ne (tgt := 28) C.1 C.2.1 dX12_of_14 (by decide) (fun hc => ?_) (fun hc => ?_)
    · have hf := zif_f hc hf
      exact w_X12_of_28 C hm hk  _ _ _ _ _ _ (lv_sub hl [0, 1, 2] rfl) hS hf
    · have hf := zif_t hc hf
      refine lv_iload_n C.1 C.2.1 dX12_of_17 rfl (lv_at hl 2 rfl) ?_
      refine lv_bipush (v := (10 : Int32)) C.1 C.2.1 dX12_of_18 rfl ?_
      refine lv_bipush (v := (15 : Int32)) C.1 C.2.1 dX12_of_20 rfl ?_
      obtain ⟨r7, h8, er7, hf⟩ := zbd_some hf
      refine zcallSI (As := [.int x2, .int (10 : Int32), .int (15 : Int32)]) (rest := []) C hS ms_X12_65 (c_X12_isIn l G h4 x2 (10 : Int32) (15 : Int32) (r7, h8) (fun c h => hm c (sn_X12_of_X12_isIn c h)) (fun q h => hk q (sl_X12_of_X12_isIn q h)) er7) rfl rfl (Nat.le_of_ble_eq_true rfl) hl.1 ⟨Nat.le_of_ble_eq_true rfl, Nat.le_of_ble_eq_true rfl, Nat.le_of_ble_eq_true rfl, Nat.le_of_ble_eq_true rfl⟩ dX12_of_22 (fun H locs hS => ?_)
      refine lv_if_eq (tgt := 51) C.1 C.2.1 dX12_of_25 (by decide) (fun hc => ?_) (fun hc => ?_)
      · have hf := zif_t hc hf
        exact w_X12_of_51 C hm hk  _ _ _ _ (lv_sub hl [] rfl) hS hf
      · have hf := zif_f hc hf
        exact w_X12_of_28 C hm hk  _ _ _ _ _ _ (lv_sub hl [0, 1, 2] rfl) hS hf
end
section
theorem dX12_who_0 : decode cX12_who 0 = .ok (.aload_n 0, 1) := by decide +kernel
theorem dX12_who_1 : decode cX12_who 1 = .ok (.iload_n 1, 1) := by decide +kernel
theorem dX12_who_2 : decode cX12_who 2 = .ok (.invokevirtual 109, 3) := by decide +kernel
theorem dX12_who_5 : decode cX12_who 5 = .ok (.ifCond .eq 21, 3) := by decide +kernel
theorem dX12_who_8 : decode cX12_who 8 = .ok (.iload_n 2, 1) := by decide +kernel
theorem dX12_who_9 : decode cX12_who 9 = .ok (.iconst 0, 1) := by decide +kernel
theorem dX12_who_10 : decode cX12_who 10 = .ok (.iconst 1, 1) := by decide +kernel
theorem dX12_who_11 : decode cX12_who 11 = .ok (.invokestatic 65, 3) := by decide +kernel
theorem dX12_who_14 : decode cX12_who 14 = .ok (.ifCond .eq 12, 3) := by decide +kernel
theorem dX12_who_17 : decode cX12_who 17 = .ok (.aload_n 0, 1) := by decide +kernel
theorem dX12_who_18 : decode cX12_who 18 = .ok (.iload_n 1, 1) := by decide +kernel
theorem dX12_who_19 : decode cX12_who 19 = .ok (.iload_n 2, 1) := by decide +kernel
theorem dX12_who_20 : decode cX12_who 20 = .ok (.invokevirtual 106, 3) := by decide +kernel
theorem dX12_who_23 : decode cX12_who 23 = .ok (.goto 5, 3) := by decide +kernel
theorem dX12_who_26 : decode cX12_who 26 = .ok (.bipush (-2), 2) := by decide +kernel
theorem dX12_who_28 : decode cX12_who 28 = .ok (.ireturn, 1) := by decide +kernel
abbrev nd_X12_who : List Nat := [100, 101]
abbrev ld_X12_who : List (Nat × Nat) := [(100, 0)]
theorem sn_X12_who_X12_isGuest : ∀ c ∈ nd_X12_isGuest, c ∈ nd_X12_who := by decide
theorem sl_X12_who_X12_isGuest : ∀ q ∈ ld_X12_isGuest, q ∈ ld_X12_who := by decide
theorem sn_X12_who_X12_isIn : ∀ c ∈ nd_X12_isIn, c ∈ nd_X12_who := by decide
theorem sl_X12_who_X12_isIn : ∀ q ∈ ld_X12_isIn, q ∈ ld_X12_who := by decide
theorem sn_X12_who_X12_ofGuest : ∀ c ∈ nd_X12_ofGuest, c ∈ nd_X12_who := by decide
theorem sl_X12_who_X12_ofGuest : ∀ q ∈ ld_X12_ofGuest, q ∈ ld_X12_who := by decide
def f_X12_who_26  (h : zH) : zR := (some ((-2 : Int32), h))
def f_X12_who  (x1 : Int32) (x2 : Int32) (h : zH) : zR := (zbd (f_X12_isGuest x1 h) fun r1 h2 => (if r1 = 0 then (f_X12_who_26   h2) else (zbd (f_X12_isIn x2 (0 : Int32) (1 : Int32) h2) fun r3 h4 => (if r3 = 0 then (f_X12_who_26   h4) else (zbd (f_X12_ofGuest x1 x2 h4) fun r5 h6 => (some (r5, h6)))))))
variable {p : Program} {l : Launch} {e : Env} {s : State} {m : MethodId} {args : Array Value} {below : List Frame} {meth : Method} {c : Code} {G : zG} {q : Int32 × zH}
set_option maxHeartbeats 4000000 in
set_option maxRecDepth 100000 in
theorem w_X12_who_26  (C : zC G p s m args meth c cX12_who 3 RX12 (some .int)) (hm : ∀ c ∈ nd_X12_who, c ∈ znm G) (hk : ∀ q ∈ ld_X12_who, zlk G q.1 q.2 = true)  : ∀ (ls : Array Slot) (H : Heap) (locs : List Loc) (h : zH), lv_has ls 3 [] → zS G h s.heap H locs → f_X12_who_26  h = some q → W p l e (zrm (4)) s m args below meth c H locs 0 0 (MQ below (zQI G q.2 q.1) args s 0 0 (zA G)) (F0 m 26 ls []) := by
  intro ls H locs h hl hS hf
  unfold f_X12_who_26 at hf
  refine lv_bipush (v := (-2 : Int32)) C.1 C.2.1 dX12_who_26 rfl ?_
  exact zretI C hS hf dX12_who_28
set_option maxHeartbeats 4000000 in
set_option maxRecDepth 100000 in
theorem c_X12_who (l : Launch) (G : zG) (h : zH) (x1 : Int32) (x2 : Int32) (q : Int32 × zH) (hm : ∀ c ∈ nd_X12_who, c ∈ znm G) (hk : ∀ q ∈ ld_X12_who, zlk G q.1 q.2 = true) (hf : f_X12_who x1 x2 h = some q) : zCtI l yX12_who cX12_who 3 (some .int) (4) [.ref (zal G 100), .int x1, .int x2] G h q.2 q.1 := by
  refine zMetI (by decide) (Nat.le_of_ble_eq_true rfl) ?_
  intro p e s m below meth c ls C hl hS
  have hl : lv_has ls 3 [(0, .ref (zal G 100)), (1, .int x1), (2, .int x2)] := hl
  have C : zC G p s m [.ref (zal G 100), .int x1, .int x2].toArray meth c cX12_who 3 RX12 (some .int) := C
  unfold f_X12_who at hf
  refine lv_aload_n C.1 C.2.1 dX12_who_0 rfl (lv_at hl 0 rfl) ?_
  refine lv_iload_n C.1 C.2.1 dX12_who_1 rfl (lv_at hl 1 rfl) ?_
  obtain ⟨r1, h2, er1, hf⟩ := zbd_some hf
  refine zcallVI (As := [.int x1]) (rest := []) C hS mv_X12_109 (c_X12_isGuest l G h x1 (r1, h2) (fun c h => hm c (sn_X12_who_X12_isGuest c h)) (fun q h => hk q (sl_X12_who_X12_isGuest q h)) er1) (hm 100 (by decide)) ⟨_, _, _, sh_100, rfl, rfl⟩ rfl rfl (Nat.le_of_ble_eq_true rfl) hl.1 ⟨Nat.le_of_ble_eq_true rfl, Nat.le_of_ble_eq_true rfl, Nat.le_of_ble_eq_true rfl, Nat.le_of_ble_eq_true rfl⟩ dX12_who_2 (fun H locs hS => ?_)
  refine lv_if_eq (tgt := 26) C.1 C.2.1 dX12_who_5 (by decide) (fun hc => ?_) (fun hc => ?_)
  · have hf := zif_t hc hf
    exact w_X12_who_26 C hm hk  _ _ _ _ (lv_sub hl [] rfl) hS hf
  · have hf := zif_f hc hf
    refine lv_iload_n C.1 C.2.1 dX12_who_8 rfl (lv_at hl 2 rfl) ?_
    refine lv_iconst (v := (0 : Int32)) C.1 C.2.1 dX12_who_9 rfl ?_
    refine lv_iconst (v := (1 : Int32)) C.1 C.2.1 dX12_who_10 rfl ?_
    obtain ⟨r3, h4, er3, hf⟩ := zbd_some hf
    refine zcallSI (As := [.int x2, .int (0 : Int32), .int (1 : Int32)]) (rest := []) C hS ms_X12_65 (c_X12_isIn l G h2 x2 (0 : Int32) (1 : Int32) (r3, h4) (fun c h => hm c (sn_X12_who_X12_isIn c h)) (fun q h => hk q (sl_X12_who_X12_isIn q h)) er3) rfl rfl (Nat.le_of_ble_eq_true rfl) hl.1 ⟨Nat.le_of_ble_eq_true rfl, Nat.le_of_ble_eq_true rfl, Nat.le_of_ble_eq_true rfl, Nat.le_of_ble_eq_true rfl⟩ dX12_who_11 (fun H locs hS => ?_)
    refine lv_if_eq (tgt := 26) C.1 C.2.1 dX12_who_14 (by decide) (fun hc => ?_) (fun hc => ?_)
    · have hf := zif_t hc hf
      exact w_X12_who_26 C hm hk  _ _ _ _ (lv_sub hl [] rfl) hS hf
    · have hf := zif_f hc hf
      refine lv_aload_n C.1 C.2.1 dX12_who_17 rfl (lv_at hl 0 rfl) ?_
      refine lv_iload_n C.1 C.2.1 dX12_who_18 rfl (lv_at hl 1 rfl) ?_
      refine lv_iload_n C.1 C.2.1 dX12_who_19 rfl (lv_at hl 2 rfl) ?_
      obtain ⟨r5, h6, er5, hf⟩ := zbd_some hf
      refine zcallVI (As := [.int x1, .int x2]) (rest := []) C hS mv_X12_106 (c_X12_ofGuest l G h4 x1 x2 (r5, h6) (fun c h => hm c (sn_X12_who_X12_ofGuest c h)) (fun q h => hk q (sl_X12_who_X12_ofGuest q h)) er5) (hm 100 (by decide)) ⟨_, _, _, sh_100, rfl, rfl⟩ rfl rfl (Nat.le_of_ble_eq_true rfl) hl.1 ⟨Nat.le_of_ble_eq_true rfl, Nat.le_of_ble_eq_true rfl, Nat.le_of_ble_eq_true rfl, Nat.le_of_ble_eq_true rfl⟩ dX12_who_20 (fun H locs hS => ?_)
      refine lv_goto (tgt := 28) C.1 C.2.1 dX12_who_23 (by decide) ?_
      exact zretI C hS hf dX12_who_28
end
section
theorem dX12_isFront_0 : decode cX12_isFront 0 = .ok (.aload_n 0, 1) := by decide +kernel
theorem dX12_isFront_1 : decode cX12_isFront 1 = .ok (.iload_n 1, 1) := by decide +kernel
theorem dX12_isFront_2 : decode cX12_isFront 2 = .ok (.invokevirtual 85, 3) := by decide +kernel
theorem dX12_isFront_5 : decode cX12_isFront 5 = .ok (.ifCond .eq 16, 3) := by decide +kernel
theorem dX12_isFront_8 : decode cX12_isFront 8 = .ok (.aload_n 0, 1) := by decide +kernel
theorem dX12_isFront_9 : decode cX12_isFront 9 = .ok (.iload_n 1, 1) := by decide +kernel
theorem dX12_isFront_10 : decode cX12_isFront 10 = .ok (.iconst 0, 1) := by decide +kernel
theorem dX12_isFront_11 : decode cX12_isFront 11 = .ok (.invokevirtual 69, 3) := by decide +kernel
theorem dX12_isFront_14 : decode cX12_isFront 14 = .ok (.ifCond .ne 7, 3) := by decide +kernel
theorem dX12_isFront_17 : decode cX12_isFront 17 = .ok (.iconst 1, 1) := by decide +kernel
theorem dX12_isFront_18 : decode cX12_isFront 18 = .ok (.goto 4, 3) := by decide +kernel
theorem dX12_isFront_21 : decode cX12_isFront 21 = .ok (.iconst 0, 1) := by decide +kernel
theorem dX12_isFront_22 : decode cX12_isFront 22 = .ok (.ireturn, 1) := by decide +kernel
abbrev nd_X12_isFront : List Nat := [100, 101]
abbrev ld_X12_isFront : List (Nat × Nat) := [(100, 0)]
theorem sn_X12_isFront_X12_isHalf : ∀ c ∈ nd_X12_isHalf, c ∈ nd_X12_isFront := by decide
theorem sl_X12_isFront_X12_isHalf : ∀ q ∈ ld_X12_isHalf, q ∈ ld_X12_isFront := by decide
theorem sn_X12_isFront_X12_ofHalf : ∀ c ∈ nd_X12_ofHalf, c ∈ nd_X12_isFront := by decide
theorem sl_X12_isFront_X12_ofHalf : ∀ q ∈ ld_X12_ofHalf, q ∈ ld_X12_isFront := by decide
def f_X12_isFront_21  (h : zH) : zR := (some ((0 : Int32), h))
def f_X12_isFront  (x1 : Int32) (h : zH) : zR := (zbd (f_X12_isHalf x1 h) fun r1 h2 => (if r1 = 0 then (f_X12_isFront_21   h2) else (zbd (f_X12_ofHalf x1 (0 : Int32) h2) fun r3 h4 => (if r3 = 0 then (some ((1 : Int32), h4)) else (f_X12_isFront_21   h4)))))
variable {p : Program} {l : Launch} {e : Env} {s : State} {m : MethodId} {args : Array Value} {below : List Frame} {meth : Method} {c : Code} {G : zG} {q : Int32 × zH}
set_option maxHeartbeats 4000000 in
set_option maxRecDepth 100000 in
theorem w_X12_isFront_21  (C : zC G p s m args meth c cX12_isFront 2 RX12 (some .boolean)) (hm : ∀ c ∈ nd_X12_isFront, c ∈ znm G) (hk : ∀ q ∈ ld_X12_isFront, zlk G q.1 q.2 = true)  : ∀ (ls : Array Slot) (H : Heap) (locs : List Loc) (h : zH), lv_has ls 2 [] → zS G h s.heap H locs → f_X12_isFront_21  h = some q → W p l e (zrm (4)) s m args below meth c H locs 0 0 (MQ below (zQI G q.2 q.1) args s 0 0 (zA G)) (F0 m 21 ls []) := by
  intro ls H locs h hl hS hf
  unfold f_X12_isFront_21 at hf
  refine lv_iconst (v := (0 : Int32)) C.1 C.2.1 dX12_isFront_21 rfl ?_
  exact zretZ C hS rfl hf dX12_isFront_22
set_option maxHeartbeats 4000000 in
set_option maxRecDepth 100000 in
theorem c_X12_isFront (l : Launch) (G : zG) (h : zH) (x1 : Int32) (q : Int32 × zH) (hm : ∀ c ∈ nd_X12_isFront, c ∈ znm G) (hk : ∀ q ∈ ld_X12_isFront, zlk G q.1 q.2 = true) (hf : f_X12_isFront x1 h = some q) : zCtI l yX12_isFront cX12_isFront 2 (some .boolean) (4) [.ref (zal G 100), .int x1] G h q.2 q.1 := by
  refine zMetI (by decide) (Nat.le_of_ble_eq_true rfl) ?_
  intro p e s m below meth c ls C hl hS
  have hl : lv_has ls 2 [(0, .ref (zal G 100)), (1, .int x1)] := hl
  have C : zC G p s m [.ref (zal G 100), .int x1].toArray meth c cX12_isFront 2 RX12 (some .boolean) := C
  unfold f_X12_isFront at hf
  refine lv_aload_n C.1 C.2.1 dX12_isFront_0 rfl (lv_at hl 0 rfl) ?_
  refine lv_iload_n C.1 C.2.1 dX12_isFront_1 rfl (lv_at hl 1 rfl) ?_
  obtain ⟨r1, h2, er1, hf⟩ := zbd_some hf
  refine zcallVI (As := [.int x1]) (rest := []) C hS mv_X12_85 (c_X12_isHalf l G h x1 (r1, h2) (fun c h => hm c (sn_X12_isFront_X12_isHalf c h)) (fun q h => hk q (sl_X12_isFront_X12_isHalf q h)) er1) (hm 100 (by decide)) ⟨_, _, _, sh_100, rfl, rfl⟩ rfl rfl (Nat.le_of_ble_eq_true rfl) hl.1 ⟨Nat.le_of_ble_eq_true rfl, Nat.le_of_ble_eq_true rfl, Nat.le_of_ble_eq_true rfl, Nat.le_of_ble_eq_true rfl⟩ dX12_isFront_2 (fun H locs hS => ?_)
  refine lv_if_eq (tgt := 21) C.1 C.2.1 dX12_isFront_5 (by decide) (fun hc => ?_) (fun hc => ?_)
  · have hf := zif_t hc hf
    exact w_X12_isFront_21 C hm hk  _ _ _ _ (lv_sub hl [] rfl) hS hf
  · have hf := zif_f hc hf
    refine lv_aload_n C.1 C.2.1 dX12_isFront_8 rfl (lv_at hl 0 rfl) ?_
    refine lv_iload_n C.1 C.2.1 dX12_isFront_9 rfl (lv_at hl 1 rfl) ?_
    refine lv_iconst (v := (0 : Int32)) C.1 C.2.1 dX12_isFront_10 rfl ?_
    obtain ⟨r3, h4, er3, hf⟩ := zbd_some hf
    refine zcallVI (As := [.int x1, .int (0 : Int32)]) (rest := []) C hS mv_X12_69 (c_X12_ofHalf l G h2 x1 (0 : Int32) (r3, h4) (fun c h => hm c (sn_X12_isFront_X12_ofHalf c h)) (fun q h => hk q (sl_X12_isFront_X12_ofHalf q h)) er3) (hm 100 (by decide)) ⟨_, _, _, sh_100, rfl, rfl⟩ rfl rfl (Nat.le_of_ble_eq_true rfl) hl.1 ⟨Nat.le_of_ble_eq_true rfl, Nat.le_of_ble_eq_true rfl, Nat.le_of_ble_eq_true rfl, Nat.le_of_ble_eq_true rfl⟩ dX12_isFront_11 (fun H locs hS => ?_)
    refine lv_if_ne (tgt := 21) C.1 C.2.1 dX12_isFront_14 (by decide) (fun hc => ?_) (fun hc => ?_)
    · have hf := zif_f hc hf
      exact w_X12_isFront_21 C hm hk  _ _ _ _ (lv_sub hl [] rfl) hS hf
    · have hf := zif_t hc hf
      refine lv_iconst (v := (1 : Int32)) C.1 C.2.1 dX12_isFront_17 rfl ?_
      refine lv_goto (tgt := 22) C.1 C.2.1 dX12_isFront_18 (by decide) ?_
      exact zretZ C hS rfl hf dX12_isFront_22
end
section
theorem dX12_isEnd_0 : decode cX12_isEnd 0 = .ok (.aload_n 0, 1) := by decide +kernel
theorem dX12_isEnd_1 : decode cX12_isEnd 1 = .ok (.iload_n 1, 1) := by decide +kernel
theorem dX12_isEnd_2 : decode cX12_isEnd 2 = .ok (.invokevirtual 85, 3) := by decide +kernel
theorem dX12_isEnd_5 : decode cX12_isEnd 5 = .ok (.ifCond .eq 17, 3) := by decide +kernel
theorem dX12_isEnd_8 : decode cX12_isEnd 8 = .ok (.aload_n 0, 1) := by decide +kernel
theorem dX12_isEnd_9 : decode cX12_isEnd 9 = .ok (.iload_n 1, 1) := by decide +kernel
theorem dX12_isEnd_10 : decode cX12_isEnd 10 = .ok (.iconst 0, 1) := by decide +kernel
theorem dX12_isEnd_11 : decode cX12_isEnd 11 = .ok (.invokevirtual 69, 3) := by decide +kernel
theorem dX12_isEnd_14 : decode cX12_isEnd 14 = .ok (.iconst 1, 1) := by decide +kernel
theorem dX12_isEnd_15 : decode cX12_isEnd 15 = .ok (.if_icmp .ne 7, 3) := by decide +kernel
theorem dX12_isEnd_18 : decode cX12_isEnd 18 = .ok (.iconst 1, 1) := by decide +kernel
theorem dX12_isEnd_19 : decode cX12_isEnd 19 = .ok (.goto 4, 3) := by decide +kernel
theorem dX12_isEnd_22 : decode cX12_isEnd 22 = .ok (.iconst 0, 1) := by decide +kernel
theorem dX12_isEnd_23 : decode cX12_isEnd 23 = .ok (.ireturn, 1) := by decide +kernel
abbrev nd_X12_isEnd : List Nat := [100, 101]
abbrev ld_X12_isEnd : List (Nat × Nat) := [(100, 0)]
theorem sn_X12_isEnd_X12_isHalf : ∀ c ∈ nd_X12_isHalf, c ∈ nd_X12_isEnd := by decide
theorem sl_X12_isEnd_X12_isHalf : ∀ q ∈ ld_X12_isHalf, q ∈ ld_X12_isEnd := by decide
theorem sn_X12_isEnd_X12_ofHalf : ∀ c ∈ nd_X12_ofHalf, c ∈ nd_X12_isEnd := by decide
theorem sl_X12_isEnd_X12_ofHalf : ∀ q ∈ ld_X12_ofHalf, q ∈ ld_X12_isEnd := by decide
def f_X12_isEnd_22  (h : zH) : zR := (some ((0 : Int32), h))
def f_X12_isEnd  (x1 : Int32) (h : zH) : zR := (zbd (f_X12_isHalf x1 h) fun r1 h2 => (if r1 = 0 then (f_X12_isEnd_22   h2) else (zbd (f_X12_ofHalf x1 (0 : Int32) h2) fun r3 h4 => (if r3 = (1 : Int32) then (some ((1 : Int32), h4)) else (f_X12_isEnd_22   h4)))))
variable {p : Program} {l : Launch} {e : Env} {s : State} {m : MethodId} {args : Array Value} {below : List Frame} {meth : Method} {c : Code} {G : zG} {q : Int32 × zH}
set_option maxHeartbeats 4000000 in
set_option maxRecDepth 100000 in
theorem w_X12_isEnd_22  (C : zC G p s m args meth c cX12_isEnd 2 RX12 (some .boolean)) (hm : ∀ c ∈ nd_X12_isEnd, c ∈ znm G) (hk : ∀ q ∈ ld_X12_isEnd, zlk G q.1 q.2 = true)  : ∀ (ls : Array Slot) (H : Heap) (locs : List Loc) (h : zH), lv_has ls 2 [] → zS G h s.heap H locs → f_X12_isEnd_22  h = some q → W p l e (zrm (4)) s m args below meth c H locs 0 0 (MQ below (zQI G q.2 q.1) args s 0 0 (zA G)) (F0 m 22 ls []) := by
  intro ls H locs h hl hS hf
  unfold f_X12_isEnd_22 at hf
  refine lv_iconst (v := (0 : Int32)) C.1 C.2.1 dX12_isEnd_22 rfl ?_
  exact zretZ C hS rfl hf dX12_isEnd_23
set_option maxHeartbeats 4000000 in
set_option maxRecDepth 100000 in
theorem c_X12_isEnd (l : Launch) (G : zG) (h : zH) (x1 : Int32) (q : Int32 × zH) (hm : ∀ c ∈ nd_X12_isEnd, c ∈ znm G) (hk : ∀ q ∈ ld_X12_isEnd, zlk G q.1 q.2 = true) (hf : f_X12_isEnd x1 h = some q) : zCtI l yX12_isEnd cX12_isEnd 2 (some .boolean) (4) [.ref (zal G 100), .int x1] G h q.2 q.1 := by
  refine zMetI (by decide) (Nat.le_of_ble_eq_true rfl) ?_
  intro p e s m below meth c ls C hl hS
  have hl : lv_has ls 2 [(0, .ref (zal G 100)), (1, .int x1)] := hl
  have C : zC G p s m [.ref (zal G 100), .int x1].toArray meth c cX12_isEnd 2 RX12 (some .boolean) := C
  unfold f_X12_isEnd at hf
  refine lv_aload_n C.1 C.2.1 dX12_isEnd_0 rfl (lv_at hl 0 rfl) ?_
  refine lv_iload_n C.1 C.2.1 dX12_isEnd_1 rfl (lv_at hl 1 rfl) ?_
  obtain ⟨r1, h2, er1, hf⟩ := zbd_some hf
  refine zcallVI (As := [.int x1]) (rest := []) C hS mv_X12_85 (c_X12_isHalf l G h x1 (r1, h2) (fun c h => hm c (sn_X12_isEnd_X12_isHalf c h)) (fun q h => hk q (sl_X12_isEnd_X12_isHalf q h)) er1) (hm 100 (by decide)) ⟨_, _, _, sh_100, rfl, rfl⟩ rfl rfl (Nat.le_of_ble_eq_true rfl) hl.1 ⟨Nat.le_of_ble_eq_true rfl, Nat.le_of_ble_eq_true rfl, Nat.le_of_ble_eq_true rfl, Nat.le_of_ble_eq_true rfl⟩ dX12_isEnd_2 (fun H locs hS => ?_)
  refine lv_if_eq (tgt := 22) C.1 C.2.1 dX12_isEnd_5 (by decide) (fun hc => ?_) (fun hc => ?_)
  · have hf := zif_t hc hf
    exact w_X12_isEnd_22 C hm hk  _ _ _ _ (lv_sub hl [] rfl) hS hf
  · have hf := zif_f hc hf
    refine lv_aload_n C.1 C.2.1 dX12_isEnd_8 rfl (lv_at hl 0 rfl) ?_
    refine lv_iload_n C.1 C.2.1 dX12_isEnd_9 rfl (lv_at hl 1 rfl) ?_
    refine lv_iconst (v := (0 : Int32)) C.1 C.2.1 dX12_isEnd_10 rfl ?_
    obtain ⟨r3, h4, er3, hf⟩ := zbd_some hf
    refine zcallVI (As := [.int x1, .int (0 : Int32)]) (rest := []) C hS mv_X12_69 (c_X12_ofHalf l G h2 x1 (0 : Int32) (r3, h4) (fun c h => hm c (sn_X12_isEnd_X12_ofHalf c h)) (fun q h => hk q (sl_X12_isEnd_X12_ofHalf q h)) er3) (hm 100 (by decide)) ⟨_, _, _, sh_100, rfl, rfl⟩ rfl rfl (Nat.le_of_ble_eq_true rfl) hl.1 ⟨Nat.le_of_ble_eq_true rfl, Nat.le_of_ble_eq_true rfl, Nat.le_of_ble_eq_true rfl, Nat.le_of_ble_eq_true rfl⟩ dX12_isEnd_11 (fun H locs hS => ?_)
    refine lv_iconst (v := (1 : Int32)) C.1 C.2.1 dX12_isEnd_14 rfl ?_
    refine lv_icmp_ne (tgt := 22) C.1 C.2.1 dX12_isEnd_15 (by decide) (fun hc => ?_) (fun hc => ?_)
    · have hf := zif_f hc hf
      exact w_X12_isEnd_22 C hm hk  _ _ _ _ (lv_sub hl [] rfl) hS hf
    · have hf := zif_t hc hf
      refine lv_iconst (v := (1 : Int32)) C.1 C.2.1 dX12_isEnd_18 rfl ?_
      refine lv_goto (tgt := 23) C.1 C.2.1 dX12_isEnd_19 (by decide) ?_
      exact zretZ C hS rfl hf dX12_isEnd_23
end
section
theorem dX12_told_0 : decode cX12_told 0 = .ok (.aload_n 0, 1) := by decide +kernel
theorem dX12_told_1 : decode cX12_told 1 = .ok (.iload_n 1, 1) := by decide +kernel
theorem dX12_told_2 : decode cX12_told 2 = .ok (.invokevirtual 259, 3) := by decide +kernel
theorem dX12_told_5 : decode cX12_told 5 = .ok (.ifCond .eq 29, 3) := by decide +kernel
theorem dX12_told_8 : decode cX12_told 8 = .ok (.aload_n 0, 1) := by decide +kernel
theorem dX12_told_9 : decode cX12_told 9 = .ok (.iload_n 2, 1) := by decide +kernel
theorem dX12_told_10 : decode cX12_told 10 = .ok (.invokevirtual 262, 3) := by decide +kernel
theorem dX12_told_13 : decode cX12_told 13 = .ok (.ifCond .eq 21, 3) := by decide +kernel
theorem dX12_told_16 : decode cX12_told 16 = .ok (.aload_n 0, 1) := by decide +kernel
theorem dX12_told_17 : decode cX12_told 17 = .ok (.getfield 7, 3) := by decide +kernel
theorem dX12_told_20 : decode cX12_told 20 = .ok (.sipush 210, 3) := by decide +kernel
theorem dX12_told_23 : decode cX12_told 23 = .ok (.bipush 16, 2) := by decide +kernel
theorem dX12_told_25 : decode cX12_told 25 = .ok (.iload_n 1, 1) := by decide +kernel
theorem dX12_told_26 : decode cX12_told 26 = .ok (.imul, 1) := by decide +kernel
theorem dX12_told_27 : decode cX12_told 27 = .ok (.iadd, 1) := by decide +kernel
theorem dX12_told_28 : decode cX12_told 28 = .ok (.iload_n 2, 1) := by decide +kernel
theorem dX12_told_29 : decode cX12_told 29 = .ok (.iadd, 1) := by decide +kernel
theorem dX12_told_30 : decode cX12_told 30 = .ok (.iaload, 1) := by decide +kernel
theorem dX12_told_31 : decode cX12_told 31 = .ok (.goto 4, 3) := by decide +kernel
theorem dX12_told_34 : decode cX12_told 34 = .ok (.iconst (-1), 1) := by decide +kernel
theorem dX12_told_35 : decode cX12_told 35 = .ok (.ireturn, 1) := by decide +kernel
abbrev nd_X12_told : List Nat := [100, 101]
abbrev ld_X12_told : List (Nat × Nat) := [(100, 0)]
theorem sn_X12_told_X12_isFront : ∀ c ∈ nd_X12_isFront, c ∈ nd_X12_told := by decide
theorem sl_X12_told_X12_isFront : ∀ q ∈ ld_X12_isFront, q ∈ ld_X12_told := by decide
theorem sn_X12_told_X12_isEnd : ∀ c ∈ nd_X12_isEnd, c ∈ nd_X12_told := by decide
theorem sl_X12_told_X12_isEnd : ∀ q ∈ ld_X12_isEnd, q ∈ ld_X12_told := by decide
def f_X12_told_34  (h : zH) : zR := (some ((-1 : Int32), h))
def f_X12_told  (x1 : Int32) (x2 : Int32) (h : zH) : zR := (zbd (f_X12_isFront x1 h) fun r1 h2 => (if r1 = 0 then (f_X12_told_34   h2) else (zbd (f_X12_isEnd x2 h2) fun r3 h4 => (if r3 = 0 then (f_X12_told_34   h4) else (zck (((210 : Int32) + ((16 : Int32) * x1)) + x2) 2220 (some ((h4 101 (Int32.toNatClampNeg (((210 : Int32) + ((16 : Int32) * x1)) + x2))), h4)))))))
variable {p : Program} {l : Launch} {e : Env} {s : State} {m : MethodId} {args : Array Value} {below : List Frame} {meth : Method} {c : Code} {G : zG} {q : Int32 × zH}
set_option maxHeartbeats 4000000 in
set_option maxRecDepth 100000 in
theorem w_X12_told_34  (C : zC G p s m args meth c cX12_told 3 RX12 (some .int)) (hm : ∀ c ∈ nd_X12_told, c ∈ znm G) (hk : ∀ q ∈ ld_X12_told, zlk G q.1 q.2 = true)  : ∀ (ls : Array Slot) (H : Heap) (locs : List Loc) (h : zH), lv_has ls 3 [] → zS G h s.heap H locs → f_X12_told_34  h = some q → W p l e (zrm (5)) s m args below meth c H locs 0 0 (MQ below (zQI G q.2 q.1) args s 0 0 (zA G)) (F0 m 34 ls []) := by
  intro ls H locs h hl hS hf
  unfold f_X12_told_34 at hf
  refine lv_iconst (v := (-1 : Int32)) C.1 C.2.1 dX12_told_34 rfl ?_
  exact zretI C hS hf dX12_told_35
set_option maxHeartbeats 4000000 in
set_option maxRecDepth 100000 in
theorem c_X12_told (l : Launch) (G : zG) (h : zH) (x1 : Int32) (x2 : Int32) (q : Int32 × zH) (hm : ∀ c ∈ nd_X12_told, c ∈ znm G) (hk : ∀ q ∈ ld_X12_told, zlk G q.1 q.2 = true) (hf : f_X12_told x1 x2 h = some q) : zCtI l yX12_told cX12_told 3 (some .int) (5) [.ref (zal G 100), .int x1, .int x2] G h q.2 q.1 := by
  refine zMetI (by decide) (Nat.le_of_ble_eq_true rfl) ?_
  intro p e s m below meth c ls C hl hS
  have hl : lv_has ls 3 [(0, .ref (zal G 100)), (1, .int x1), (2, .int x2)] := hl
  have C : zC G p s m [.ref (zal G 100), .int x1, .int x2].toArray meth c cX12_told 3 RX12 (some .int) := C
  unfold f_X12_told at hf
  refine lv_aload_n C.1 C.2.1 dX12_told_0 rfl (lv_at hl 0 rfl) ?_
  refine lv_iload_n C.1 C.2.1 dX12_told_1 rfl (lv_at hl 1 rfl) ?_
  obtain ⟨r1, h2, er1, hf⟩ := zbd_some hf
  refine zcallVI (As := [.int x1]) (rest := []) C hS mv_X12_259 (c_X12_isFront l G h x1 (r1, h2) (fun c h => hm c (sn_X12_told_X12_isFront c h)) (fun q h => hk q (sl_X12_told_X12_isFront q h)) er1) (hm 100 (by decide)) ⟨_, _, _, sh_100, rfl, rfl⟩ rfl rfl (Nat.le_of_ble_eq_true rfl) hl.1 ⟨Nat.le_of_ble_eq_true rfl, Nat.le_of_ble_eq_true rfl, Nat.le_of_ble_eq_true rfl, Nat.le_of_ble_eq_true rfl⟩ dX12_told_2 (fun H locs hS => ?_)
  refine lv_if_eq (tgt := 34) C.1 C.2.1 dX12_told_5 (by decide) (fun hc => ?_) (fun hc => ?_)
  · have hf := zif_t hc hf
    exact w_X12_told_34 C hm hk  _ _ _ _ (lv_sub hl [] rfl) hS hf
  · have hf := zif_f hc hf
    refine lv_aload_n C.1 C.2.1 dX12_told_8 rfl (lv_at hl 0 rfl) ?_
    refine lv_iload_n C.1 C.2.1 dX12_told_9 rfl (lv_at hl 2 rfl) ?_
    obtain ⟨r3, h4, er3, hf⟩ := zbd_some hf
    refine zcallVI (As := [.int x2]) (rest := []) C hS mv_X12_262 (c_X12_isEnd l G h2 x2 (r3, h4) (fun c h => hm c (sn_X12_told_X12_isEnd c h)) (fun q h => hk q (sl_X12_told_X12_isEnd q h)) er3) (hm 100 (by decide)) ⟨_, _, _, sh_100, rfl, rfl⟩ rfl rfl (Nat.le_of_ble_eq_true rfl) hl.1 ⟨Nat.le_of_ble_eq_true rfl, Nat.le_of_ble_eq_true rfl, Nat.le_of_ble_eq_true rfl, Nat.le_of_ble_eq_true rfl⟩ dX12_told_10 (fun H locs hS => ?_)
    refine lv_if_eq (tgt := 34) C.1 C.2.1 dX12_told_13 (by decide) (fun hc => ?_) (fun hc => ?_)
    · have hf := zif_t hc hf
      exact w_X12_told_34 C hm hk  _ _ _ _ (lv_sub hl [] rfl) hS hf
    · have hf := zif_f hc hf
      refine lv_aload_n C.1 C.2.1 dX12_told_16 rfl (lv_at hl 0 rfl) ?_
      refine zgetR C hS ff_X12_7_100 (hm 100 (by decide)) (hk (100, 0) (by decide)) dX12_told_17 ?_
      refine lv_sipush (v := (210 : Int32)) C.1 C.2.1 dX12_told_20 rfl ?_
      refine lv_bipush (v := (16 : Int32)) C.1 C.2.1 dX12_told_23 rfl ?_
      refine lv_iload_n C.1 C.2.1 dX12_told_25 rfl (lv_at hl 1 rfl) ?_
      refine lv_imul C.1 C.2.1 dX12_told_26 ?_
      refine lv_iadd C.1 C.2.1 dX12_told_27 ?_
      refine lv_iload_n C.1 C.2.1 dX12_told_28 rfl (lv_at hl 2 rfl) ?_
      refine lv_iadd C.1 C.2.1 dX12_told_29 ?_
      obtain ⟨hi, hf⟩ := zck_some hf
      refine zald C hS sh_101 (hm 101 (by decide)) hi dX12_told_30 ?_
      refine lv_goto (tgt := 35) C.1 C.2.1 dX12_told_31 (by decide) ?_
      exact zretI C hS hf dX12_told_35
end
section
theorem dX12_book_0 : decode cX12_book 0 = .ok (.iload_n 1, 1) := by decide +kernel
theorem dX12_book_1 : decode cX12_book 1 = .ok (.iconst 0, 1) := by decide +kernel
theorem dX12_book_2 : decode cX12_book 2 = .ok (.aload_n 0, 1) := by decide +kernel
theorem dX12_book_3 : decode cX12_book 3 = .ok (.getfield 7, 3) := by decide +kernel
theorem dX12_book_6 : decode cX12_book 6 = .ok (.bipush 6, 2) := by decide +kernel
theorem dX12_book_8 : decode cX12_book 8 = .ok (.iaload, 1) := by decide +kernel
theorem dX12_book_9 : decode cX12_book 9 = .ok (.iconst 1, 1) := by decide +kernel
theorem dX12_book_10 : decode cX12_book 10 = .ok (.isub, 1) := by decide +kernel
theorem dX12_book_11 : decode cX12_book 11 = .ok (.invokestatic 65, 3) := by decide +kernel
theorem dX12_book_14 : decode cX12_book 14 = .ok (.ifCond .eq 30, 3) := by decide +kernel
theorem dX12_book_17 : decode cX12_book 17 = .ok (.iload_n 2, 1) := by decide +kernel
theorem dX12_book_18 : decode cX12_book 18 = .ok (.iconst 0, 1) := by decide +kernel
theorem dX12_book_19 : decode cX12_book 19 = .ok (.iconst 5, 1) := by decide +kernel
theorem dX12_book_20 : decode cX12_book 20 = .ok (.invokestatic 65, 3) := by decide +kernel
theorem dX12_book_23 : decode cX12_book 23 = .ok (.ifCond .eq 21, 3) := by decide +kernel
theorem dX12_book_26 : decode cX12_book 26 = .ok (.aload_n 0, 1) := by decide +kernel
theorem dX12_book_27 : decode cX12_book 27 = .ok (.getfield 7, 3) := by decide +kernel
theorem dX12_book_30 : decode cX12_book 30 = .ok (.sipush 730, 3) := by decide +kernel
theorem dX12_book_33 : decode cX12_book 33 = .ok (.bipush 6, 2) := by decide +kernel
theorem dX12_book_35 : decode cX12_book 35 = .ok (.iload_n 1, 1) := by decide +kernel
theorem dX12_book_36 : decode cX12_book 36 = .ok (.imul, 1) := by decide +kernel
theorem dX12_book_37 : decode cX12_book 37 = .ok (.iadd, 1) := by decide +kernel
theorem dX12_book_38 : decode cX12_book 38 = .ok (.iload_n 2, 1) := by decide +kernel
theorem dX12_book_39 : decode cX12_book 39 = .ok (.iadd, 1) := by decide +kernel
theorem dX12_book_40 : decode cX12_book 40 = .ok (.iaload, 1) := by decide +kernel
theorem dX12_book_41 : decode cX12_book 41 = .ok (.goto 4, 3) := by decide +kernel
theorem dX12_book_44 : decode cX12_book 44 = .ok (.iconst (-1), 1) := by decide +kernel
theorem dX12_book_45 : decode cX12_book 45 = .ok (.ireturn, 1) := by decide +kernel
abbrev nd_X12_book : List Nat := [100, 101]
abbrev ld_X12_book : List (Nat × Nat) := [(100, 0)]
theorem sn_X12_book_X12_isIn : ∀ c ∈ nd_X12_isIn, c ∈ nd_X12_book := by decide
theorem sl_X12_book_X12_isIn : ∀ q ∈ ld_X12_isIn, q ∈ ld_X12_book := by decide
def f_X12_book_44  (h : zH) : zR := (some ((-1 : Int32), h))
def f_X12_book  (x1 : Int32) (x2 : Int32) (h : zH) : zR := (zbd (f_X12_isIn x1 (0 : Int32) ((h 101 6) - (1 : Int32)) h) fun r1 h2 => (if r1 = 0 then (f_X12_book_44   h2) else (zbd (f_X12_isIn x2 (0 : Int32) (5 : Int32) h2) fun r3 h4 => (if r3 = 0 then (f_X12_book_44   h4) else (zck (((730 : Int32) + ((6 : Int32) * x1)) + x2) 2220 (some ((h4 101 (Int32.toNatClampNeg (((730 : Int32) + ((6 : Int32) * x1)) + x2))), h4)))))))
variable {p : Program} {l : Launch} {e : Env} {s : State} {m : MethodId} {args : Array Value} {below : List Frame} {meth : Method} {c : Code} {G : zG} {q : Int32 × zH}
set_option maxHeartbeats 4000000 in
set_option maxRecDepth 100000 in
theorem w_X12_book_44  (C : zC G p s m args meth c cX12_book 3 RX12 (some .int)) (hm : ∀ c ∈ nd_X12_book, c ∈ znm G) (hk : ∀ q ∈ ld_X12_book, zlk G q.1 q.2 = true)  : ∀ (ls : Array Slot) (H : Heap) (locs : List Loc) (h : zH), lv_has ls 3 [] → zS G h s.heap H locs → f_X12_book_44  h = some q → W p l e (zrm (3)) s m args below meth c H locs 0 0 (MQ below (zQI G q.2 q.1) args s 0 0 (zA G)) (F0 m 44 ls []) := by
  intro ls H locs h hl hS hf
  unfold f_X12_book_44 at hf
  refine lv_iconst (v := (-1 : Int32)) C.1 C.2.1 dX12_book_44 rfl ?_
  exact zretI C hS hf dX12_book_45
set_option maxHeartbeats 4000000 in
set_option maxRecDepth 100000 in
theorem c_X12_book (l : Launch) (G : zG) (h : zH) (x1 : Int32) (x2 : Int32) (q : Int32 × zH) (hm : ∀ c ∈ nd_X12_book, c ∈ znm G) (hk : ∀ q ∈ ld_X12_book, zlk G q.1 q.2 = true) (hf : f_X12_book x1 x2 h = some q) : zCtI l yX12_book cX12_book 3 (some .int) (3) [.ref (zal G 100), .int x1, .int x2] G h q.2 q.1 := by
  refine zMetI (by decide) (Nat.le_of_ble_eq_true rfl) ?_
  intro p e s m below meth c ls C hl hS
  have hl : lv_has ls 3 [(0, .ref (zal G 100)), (1, .int x1), (2, .int x2)] := hl
  have C : zC G p s m [.ref (zal G 100), .int x1, .int x2].toArray meth c cX12_book 3 RX12 (some .int) := C
  unfold f_X12_book at hf
  refine lv_iload_n C.1 C.2.1 dX12_book_0 rfl (lv_at hl 1 rfl) ?_
  refine lv_iconst (v := (0 : Int32)) C.1 C.2.1 dX12_book_1 rfl ?_
  refine lv_aload_n C.1 C.2.1 dX12_book_2 rfl (lv_at hl 0 rfl) ?_
  refine zgetR C hS ff_X12_7_100 (hm 100 (by decide)) (hk (100, 0) (by decide)) dX12_book_3 ?_
  refine lv_bipush (v := (6 : Int32)) C.1 C.2.1 dX12_book_6 rfl ?_
  refine zald C hS sh_101 (hm 101 (by decide)) (vp_in_iff.mpr (by decide)) dX12_book_8 ?_
  refine lv_iconst (v := (1 : Int32)) C.1 C.2.1 dX12_book_9 rfl ?_
  refine lv_isub C.1 C.2.1 dX12_book_10 ?_
  obtain ⟨r1, h2, er1, hf⟩ := zbd_some hf
  refine zcallSI (As := [.int x1, .int (0 : Int32), .int ((h 101 6) - (1 : Int32))]) (rest := []) C hS ms_X12_65 (c_X12_isIn l G h x1 (0 : Int32) ((h 101 6) - (1 : Int32)) (r1, h2) (fun c h => hm c (sn_X12_book_X12_isIn c h)) (fun q h => hk q (sl_X12_book_X12_isIn q h)) er1) rfl rfl (Nat.le_of_ble_eq_true rfl) hl.1 ⟨Nat.le_of_ble_eq_true rfl, Nat.le_of_ble_eq_true rfl, Nat.le_of_ble_eq_true rfl, Nat.le_of_ble_eq_true rfl⟩ dX12_book_11 (fun H locs hS => ?_)
  refine lv_if_eq (tgt := 44) C.1 C.2.1 dX12_book_14 (by decide) (fun hc => ?_) (fun hc => ?_)
  · have hf := zif_t hc hf
    exact w_X12_book_44 C hm hk  _ _ _ _ (lv_sub hl [] rfl) hS hf
  · have hf := zif_f hc hf
    refine lv_iload_n C.1 C.2.1 dX12_book_17 rfl (lv_at hl 2 rfl) ?_
    refine lv_iconst (v := (0 : Int32)) C.1 C.2.1 dX12_book_18 rfl ?_
    refine lv_iconst (v := (5 : Int32)) C.1 C.2.1 dX12_book_19 rfl ?_
    obtain ⟨r3, h4, er3, hf⟩ := zbd_some hf
    refine zcallSI (As := [.int x2, .int (0 : Int32), .int (5 : Int32)]) (rest := []) C hS ms_X12_65 (c_X12_isIn l G h2 x2 (0 : Int32) (5 : Int32) (r3, h4) (fun c h => hm c (sn_X12_book_X12_isIn c h)) (fun q h => hk q (sl_X12_book_X12_isIn q h)) er3) rfl rfl (Nat.le_of_ble_eq_true rfl) hl.1 ⟨Nat.le_of_ble_eq_true rfl, Nat.le_of_ble_eq_true rfl, Nat.le_of_ble_eq_true rfl, Nat.le_of_ble_eq_true rfl⟩ dX12_book_20 (fun H locs hS => ?_)
    refine lv_if_eq (tgt := 44) C.1 C.2.1 dX12_book_23 (by decide) (fun hc => ?_) (fun hc => ?_)
    · have hf := zif_t hc hf
      exact w_X12_book_44 C hm hk  _ _ _ _ (lv_sub hl [] rfl) hS hf
    · have hf := zif_f hc hf
      refine lv_aload_n C.1 C.2.1 dX12_book_26 rfl (lv_at hl 0 rfl) ?_
      refine zgetR C hS ff_X12_7_100 (hm 100 (by decide)) (hk (100, 0) (by decide)) dX12_book_27 ?_
      refine lv_sipush (v := (730 : Int32)) C.1 C.2.1 dX12_book_30 rfl ?_
      refine lv_bipush (v := (6 : Int32)) C.1 C.2.1 dX12_book_33 rfl ?_
      refine lv_iload_n C.1 C.2.1 dX12_book_35 rfl (lv_at hl 1 rfl) ?_
      refine lv_imul C.1 C.2.1 dX12_book_36 ?_
      refine lv_iadd C.1 C.2.1 dX12_book_37 ?_
      refine lv_iload_n C.1 C.2.1 dX12_book_38 rfl (lv_at hl 2 rfl) ?_
      refine lv_iadd C.1 C.2.1 dX12_book_39 ?_
      obtain ⟨hi, hf⟩ := zck_some hf
      refine zald C hS sh_101 (hm 101 (by decide)) hi dX12_book_40 ?_
      refine lv_goto (tgt := 45) C.1 C.2.1 dX12_book_41 (by decide) ?_
      exact zretI C hS hf dX12_book_45
end
section
theorem dX12_fame_0 : decode cX12_fame 0 = .ok (.iload_n 1, 1) := by decide +kernel
theorem dX12_fame_1 : decode cX12_fame 1 = .ok (.invokestatic 81, 3) := by decide +kernel
theorem dX12_fame_4 : decode cX12_fame 4 = .ok (.ifCond .eq 16, 3) := by decide +kernel
theorem dX12_fame_7 : decode cX12_fame 7 = .ok (.aload_n 0, 1) := by decide +kernel
theorem dX12_fame_8 : decode cX12_fame 8 = .ok (.getfield 7, 3) := by decide +kernel
theorem dX12_fame_11 : decode cX12_fame 11 = .ok (.sipush 200, 3) := by decide +kernel
theorem dX12_fame_14 : decode cX12_fame 14 = .ok (.iload_n 1, 1) := by decide +kernel
theorem dX12_fame_15 : decode cX12_fame 15 = .ok (.iadd, 1) := by decide +kernel
theorem dX12_fame_16 : decode cX12_fame 16 = .ok (.iaload, 1) := by decide +kernel
theorem dX12_fame_17 : decode cX12_fame 17 = .ok (.goto 4, 3) := by decide +kernel
theorem dX12_fame_20 : decode cX12_fame 20 = .ok (.iconst (-1), 1) := by decide +kernel
theorem dX12_fame_21 : decode cX12_fame 21 = .ok (.ireturn, 1) := by decide +kernel
abbrev nd_X12_fame : List Nat := [100, 101]
abbrev ld_X12_fame : List (Nat × Nat) := [(100, 0)]
theorem sn_X12_fame_X12_isFamily : ∀ c ∈ nd_X12_isFamily, c ∈ nd_X12_fame := by decide
theorem sl_X12_fame_X12_isFamily : ∀ q ∈ ld_X12_isFamily, q ∈ ld_X12_fame := by decide
def f_X12_fame  (x1 : Int32) (h : zH) : zR := (zbd (f_X12_isFamily x1 h) fun r1 h2 => (if r1 = 0 then (some ((-1 : Int32), h2)) else (zck ((200 : Int32) + x1) 2220 (some ((h2 101 (Int32.toNatClampNeg ((200 : Int32) + x1))), h2)))))
variable {p : Program} {l : Launch} {e : Env} {s : State} {m : MethodId} {args : Array Value} {below : List Frame} {meth : Method} {c : Code} {G : zG} {q : Int32 × zH}
set_option maxHeartbeats 4000000 in
set_option maxRecDepth 100000 in
theorem c_X12_fame (l : Launch) (G : zG) (h : zH) (x1 : Int32) (q : Int32 × zH) (hm : ∀ c ∈ nd_X12_fame, c ∈ znm G) (hk : ∀ q ∈ ld_X12_fame, zlk G q.1 q.2 = true) (hf : f_X12_fame x1 h = some q) : zCtI l yX12_fame cX12_fame 2 (some .int) (4) [.ref (zal G 100), .int x1] G h q.2 q.1 := by
  refine zMetI (by decide) (Nat.le_of_ble_eq_true rfl) ?_
  intro p e s m below meth c ls C hl hS
  have hl : lv_has ls 2 [(0, .ref (zal G 100)), (1, .int x1)] := hl
  have C : zC G p s m [.ref (zal G 100), .int x1].toArray meth c cX12_fame 2 RX12 (some .int) := C
  unfold f_X12_fame at hf
  refine lv_iload_n C.1 C.2.1 dX12_fame_0 rfl (lv_at hl 1 rfl) ?_
  obtain ⟨r1, h2, er1, hf⟩ := zbd_some hf
  refine zcallSI (As := [.int x1]) (rest := []) C hS ms_X12_81 (c_X12_isFamily l G h x1 (r1, h2) (fun c h => hm c (sn_X12_fame_X12_isFamily c h)) (fun q h => hk q (sl_X12_fame_X12_isFamily q h)) er1) rfl rfl (Nat.le_of_ble_eq_true rfl) hl.1 ⟨Nat.le_of_ble_eq_true rfl, Nat.le_of_ble_eq_true rfl, Nat.le_of_ble_eq_true rfl, Nat.le_of_ble_eq_true rfl⟩ dX12_fame_1 (fun H locs hS => ?_)
  refine lv_if_eq (tgt := 20) C.1 C.2.1 dX12_fame_4 (by decide) (fun hc => ?_) (fun hc => ?_)
  · have hf := zif_t hc hf
    refine lv_iconst (v := (-1 : Int32)) C.1 C.2.1 dX12_fame_20 rfl ?_
    exact zretI C hS hf dX12_fame_21
  · have hf := zif_f hc hf
    refine lv_aload_n C.1 C.2.1 dX12_fame_7 rfl (lv_at hl 0 rfl) ?_
    refine zgetR C hS ff_X12_7_100 (hm 100 (by decide)) (hk (100, 0) (by decide)) dX12_fame_8 ?_
    refine lv_sipush (v := (200 : Int32)) C.1 C.2.1 dX12_fame_11 rfl ?_
    refine lv_iload_n C.1 C.2.1 dX12_fame_14 rfl (lv_at hl 1 rfl) ?_
    refine lv_iadd C.1 C.2.1 dX12_fame_15 ?_
    obtain ⟨hi, hf⟩ := zck_some hf
    refine zald C hS sh_101 (hm 101 (by decide)) hi dX12_fame_16 ?_
    refine lv_goto (tgt := 21) C.1 C.2.1 dX12_fame_17 (by decide) ?_
    exact zretI C hS hf dX12_fame_21
end
section
theorem dX12_isElsewhere_0 : decode cX12_isElsewhere 0 = .ok (.iconst 0, 1) := by decide +kernel
theorem dX12_isElsewhere_1 : decode cX12_isElsewhere 1 = .ok (.istore_n 3, 1) := by decide +kernel
theorem dX12_isElsewhere_2 : decode cX12_isElsewhere 2 = .ok (.iload_n 3, 1) := by decide +kernel
theorem dX12_isElsewhere_3 : decode cX12_isElsewhere 3 = .ok (.bipush 6, 2) := by decide +kernel
theorem dX12_isElsewhere_5 : decode cX12_isElsewhere 5 = .ok (.if_icmp .ge 29, 3) := by decide +kernel
theorem dX12_isElsewhere_8 : decode cX12_isElsewhere 8 = .ok (.aload_n 0, 1) := by decide +kernel
theorem dX12_isElsewhere_9 : decode cX12_isElsewhere 9 = .ok (.iload_n 1, 1) := by decide +kernel
theorem dX12_isElsewhere_10 : decode cX12_isElsewhere 10 = .ok (.iload_n 3, 1) := by decide +kernel
theorem dX12_isElsewhere_11 : decode cX12_isElsewhere 11 = .ok (.invokevirtual 88, 3) := by decide +kernel
theorem dX12_isElsewhere_14 : decode cX12_isElsewhere 14 = .ok (.ifCond .le 14, 3) := by decide +kernel
theorem dX12_isElsewhere_17 : decode cX12_isElsewhere 17 = .ok (.aload_n 0, 1) := by decide +kernel
theorem dX12_isElsewhere_18 : decode cX12_isElsewhere 18 = .ok (.iload_n 2, 1) := by decide +kernel
theorem dX12_isElsewhere_19 : decode cX12_isElsewhere 19 = .ok (.iload_n 3, 1) := by decide +kernel
theorem dX12_isElsewhere_20 : decode cX12_isElsewhere 20 = .ok (.invokevirtual 88, 3) := by decide +kernel
theorem dX12_isElsewhere_23 : decode cX12_isElsewhere 23 = .ok (.ifCond .ne 5, 3) := by decide +kernel
theorem dX12_isElsewhere_26 : decode cX12_isElsewhere 26 = .ok (.iconst 1, 1) := by decide +kernel
theorem dX12_isElsewhere_27 : decode cX12_isElsewhere 27 = .ok (.ireturn, 1) := by decide +kernel
theorem dX12_isElsewhere_28 : decode cX12_isElsewhere 28 = .ok (.iinc 3 1, 3) := by decide +kernel
theorem dX12_isElsewhere_31 : decode cX12_isElsewhere 31 = .ok (.goto (-29), 3) := by decide +kernel
theorem dX12_isElsewhere_34 : decode cX12_isElsewhere 34 = .ok (.iconst 0, 1) := by decide +kernel
theorem dX12_isElsewhere_35 : decode cX12_isElsewhere 35 = .ok (.ireturn, 1) := by decide +kernel
abbrev nd_X12_isElsewhere : List Nat := [100, 101]
abbrev ld_X12_isElsewhere : List (Nat × Nat) := [(100, 0)]
theorem sn_X12_isElsewhere_X12_quarters : ∀ c ∈ nd_X12_quarters, c ∈ nd_X12_isElsewhere := by decide
theorem sl_X12_isElsewhere_X12_quarters : ∀ q ∈ ld_X12_quarters, q ∈ ld_X12_isElsewhere := by decide
def f_X12_isElsewhere_28 (k2 : Int32 → Int32 → Int32 → zH → zR) (x1 : Int32) (x2 : Int32) (x3 : Int32) (h : zH) : zR := (zlt (x3 + (1 : Int32)) fun y3 => (k2 x1 x2 y3 h))
def f_X12_isElsewhere_2  : Nat → Int32 → Int32 → Int32 → zH → zR
  | 0 => fun _ _ _ _ => none
  | n + 1 => fun x1 x2 x3 h => (if (6 : Int32) ≤ x3 then (some ((0 : Int32), h)) else (zbd (f_X12_quarters x1 x3 h) fun r1 h2 => (if r1 ≤ 0 then (f_X12_isElsewhere_28 (f_X12_isElsewhere_2  n) x1 x2 x3 h2) else (zbd (f_X12_quarters x2 x3 h2) fun r4 h5 => (if r4 = 0 then (some ((1 : Int32), h5)) else (f_X12_isElsewhere_28 (f_X12_isElsewhere_2  n) x1 x2 x3 h5))))))
def f_X12_isElsewhere  (x1 : Int32) (x2 : Int32) (h : zH) : zR := (f_X12_isElsewhere_2  zN x1 x2 (0 : Int32) h)
variable {p : Program} {l : Launch} {e : Env} {s : State} {m : MethodId} {args : Array Value} {below : List Frame} {meth : Method} {c : Code} {G : zG} {q : Int32 × zH}
set_option maxHeartbeats 4000000 in
set_option maxRecDepth 100000 in
theorem w_X12_isElsewhere_28 {k2 : Int32 → Int32 → Int32 → zH → zR} (C : zC G p s m args meth c cX12_isElsewhere 4 RX12 (some .boolean)) (hm : ∀ c ∈ nd_X12_isElsewhere, c ∈ znm G) (hk : ∀ q ∈ ld_X12_isElsewhere, zlk G q.1 q.2 = true) (hk2 : ∀ (ls : Array Slot) (H : Heap) (locs : List Loc) (h : zH) (x1 : Int32) (x2 : Int32) (x3 : Int32), lv_has ls 4 [(0, .ref (zal G 100)), (1, .int x1), (2, .int x2), (3, .int x3)] → zS G h s.heap H locs → k2 x1 x2 x3 h = some q → W p l e (zrm (4)) s m args below meth c H locs 0 0 (MQ below (zQI G q.2 q.1) args s 0 0 (zA G)) (F0 m 2 ls [])) : ∀ (ls : Array Slot) (H : Heap) (locs : List Loc) (h : zH) (x1 : Int32) (x2 : Int32) (x3 : Int32), lv_has ls 4 [(0, .ref (zal G 100)), (1, .int x1), (2, .int x2), (3, .int x3)] → zS G h s.heap H locs → f_X12_isElsewhere_28 k2 x1 x2 x3 h = some q → W p l e (zrm (4)) s m args below meth c H locs 0 0 (MQ below (zQI G q.2 q.1) args s 0 0 (zA G)) (F0 m 28 ls []) := by
  intro ls H locs h x1 x2 x3 hl hS hf
  unfold f_X12_isElsewhere_28 at hf
  obtain ⟨y3, ey3, hf⟩ := zlt_some hf
  refine lv_iinc (v := y3) (lv' := [(3, .int y3), (0, .ref (zal G 100)), (1, .int x1), (2, .int x2)]) C.1 C.2.1 dX12_isElsewhere_28 hl (k := 3) rfl ey3.symm (by decide) rfl (fun ls hl => ?_)
  refine lv_goto (tgt := 2) C.1 C.2.1 dX12_isElsewhere_31 (by decide) ?_
  exact hk2 _ _ _ _ _ _ _ (lv_sub hl [1, 2, 3, 0] rfl) hS hf
set_option maxHeartbeats 4000000 in
set_option maxRecDepth 100000 in
theorem w_X12_isElsewhere_2  (C : zC G p s m args meth c cX12_isElsewhere 4 RX12 (some .boolean)) (hm : ∀ c ∈ nd_X12_isElsewhere, c ∈ znm G) (hk : ∀ q ∈ ld_X12_isElsewhere, zlk G q.1 q.2 = true)  : ∀ n, ∀ (ls : Array Slot) (H : Heap) (locs : List Loc) (h : zH) (x1 : Int32) (x2 : Int32) (x3 : Int32), lv_has ls 4 [(0, .ref (zal G 100)), (1, .int x1), (2, .int x2), (3, .int x3)] → zS G h s.heap H locs → f_X12_isElsewhere_2  n x1 x2 x3 h = some q → W p l e (zrm (4)) s m args below meth c H locs 0 0 (MQ below (zQI G q.2 q.1) args s 0 0 (zA G)) (F0 m 2 ls []) := by
  intro n
  induction n with
  | zero => intro ls H locs h x1 x2 x3 hl hS hf; cases hf
  | succ n ih =>
    intro ls H locs h x1 x2 x3 hl hS hf
    rw [f_X12_isElsewhere_2] at hf
    refine lv_iload_n C.1 C.2.1 dX12_isElsewhere_2 rfl (lv_at hl 3 rfl) ?_
    refine lv_bipush (v := (6 : Int32)) C.1 C.2.1 dX12_isElsewhere_3 rfl ?_
    refine lv_icmp_ge (tgt := 34) C.1 C.2.1 dX12_isElsewhere_5 (by decide) (fun hc => ?_) (fun hc => ?_)
    · have hf := zif_t hc hf
      refine lv_iconst (v := (0 : Int32)) C.1 C.2.1 dX12_isElsewhere_34 rfl ?_
      exact zretZ C hS rfl hf dX12_isElsewhere_35
    · have hf := zif_f hc hf
      refine lv_aload_n C.1 C.2.1 dX12_isElsewhere_8 rfl (lv_at hl 0 rfl) ?_
      refine lv_iload_n C.1 C.2.1 dX12_isElsewhere_9 rfl (lv_at hl 1 rfl) ?_
      refine lv_iload_n C.1 C.2.1 dX12_isElsewhere_10 rfl (lv_at hl 3 rfl) ?_
      obtain ⟨r1, h2, er1, hf⟩ := zbd_some hf
      refine zcallVI (As := [.int x1, .int x3]) (rest := []) C hS mv_X12_88 (c_X12_quarters l G h x1 x3 (r1, h2) (fun c h => hm c (sn_X12_isElsewhere_X12_quarters c h)) (fun q h => hk q (sl_X12_isElsewhere_X12_quarters q h)) er1) (hm 100 (by decide)) ⟨_, _, _, sh_100, rfl, rfl⟩ rfl rfl (Nat.le_of_ble_eq_true rfl) hl.1 ⟨Nat.le_of_ble_eq_true rfl, Nat.le_of_ble_eq_true rfl, Nat.le_of_ble_eq_true rfl, Nat.le_of_ble_eq_true rfl⟩ dX12_isElsewhere_11 (fun H locs hS => ?_)
      refine lv_if_le (tgt := 28) C.1 C.2.1 dX12_isElsewhere_14 (by decide) (fun hc => ?_) (fun hc => ?_)
      · have hf := zif_t hc hf
        exact w_X12_isElsewhere_28 C hm hk ih _ _ _ _ _ _ _ (lv_sub hl [0, 1, 2, 3] rfl) hS hf
      · have hf := zif_f hc hf
        refine lv_aload_n C.1 C.2.1 dX12_isElsewhere_17 rfl (lv_at hl 0 rfl) ?_
        refine lv_iload_n C.1 C.2.1 dX12_isElsewhere_18 rfl (lv_at hl 2 rfl) ?_
        refine lv_iload_n C.1 C.2.1 dX12_isElsewhere_19 rfl (lv_at hl 3 rfl) ?_
        obtain ⟨r4, h5, er4, hf⟩ := zbd_some hf
        refine zcallVI (As := [.int x2, .int x3]) (rest := []) C hS mv_X12_88 (c_X12_quarters l G h2 x2 x3 (r4, h5) (fun c h => hm c (sn_X12_isElsewhere_X12_quarters c h)) (fun q h => hk q (sl_X12_isElsewhere_X12_quarters q h)) er4) (hm 100 (by decide)) ⟨_, _, _, sh_100, rfl, rfl⟩ rfl rfl (Nat.le_of_ble_eq_true rfl) hl.1 ⟨Nat.le_of_ble_eq_true rfl, Nat.le_of_ble_eq_true rfl, Nat.le_of_ble_eq_true rfl, Nat.le_of_ble_eq_true rfl⟩ dX12_isElsewhere_20 (fun H locs hS => ?_)
        refine lv_if_ne (tgt := 28) C.1 C.2.1 dX12_isElsewhere_23 (by decide) (fun hc => ?_) (fun hc => ?_)
        · have hf := zif_f hc hf
          exact w_X12_isElsewhere_28 C hm hk ih _ _ _ _ _ _ _ (lv_sub hl [0, 1, 2, 3] rfl) hS hf
        · have hf := zif_t hc hf
          refine lv_iconst (v := (1 : Int32)) C.1 C.2.1 dX12_isElsewhere_26 rfl ?_
          exact zretZ C hS rfl hf dX12_isElsewhere_27
set_option maxHeartbeats 4000000 in
set_option maxRecDepth 100000 in
theorem c_X12_isElsewhere (l : Launch) (G : zG) (h : zH) (x1 : Int32) (x2 : Int32) (q : Int32 × zH) (hm : ∀ c ∈ nd_X12_isElsewhere, c ∈ znm G) (hk : ∀ q ∈ ld_X12_isElsewhere, zlk G q.1 q.2 = true) (hf : f_X12_isElsewhere x1 x2 h = some q) : zCtI l yX12_isElsewhere cX12_isElsewhere 4 (some .boolean) (4) [.ref (zal G 100), .int x1, .int x2] G h q.2 q.1 := by
  refine zMetI (by decide) (Nat.le_of_ble_eq_true rfl) ?_
  intro p e s m below meth c ls C hl hS
  have hl : lv_has ls 4 [(0, .ref (zal G 100)), (1, .int x1), (2, .int x2)] := hl
  have C : zC G p s m [.ref (zal G 100), .int x1, .int x2].toArray meth c cX12_isElsewhere 4 RX12 (some .boolean) := C
  unfold f_X12_isElsewhere at hf
  refine lv_iconst (v := (0 : Int32)) C.1 C.2.1 dX12_isElsewhere_0 rfl ?_
  refine lv_istore_n (lv' := [(3, .int (0 : Int32)), (0, .ref (zal G 100)), (1, .int x1), (2, .int x2)]) C.1 C.2.1 dX12_isElsewhere_1 rfl hl (by decide) rfl (fun ls hl => ?_)
  exact w_X12_isElsewhere_2 C hm hk  zN _ _ _ _ _ _ _ (lv_sub hl [1, 2, 3, 0] rfl) hS hf
end
section
theorem dX12_like_0 : decode cX12_like 0 = .ok (.aload_n 0, 1) := by decide +kernel
theorem dX12_like_1 : decode cX12_like 1 = .ok (.iload_n 1, 1) := by decide +kernel
theorem dX12_like_2 : decode cX12_like 2 = .ok (.invokevirtual 85, 3) := by decide +kernel
theorem dX12_like_5 : decode cX12_like 5 = .ok (.ifCond .eq 13, 3) := by decide +kernel
theorem dX12_like_8 : decode cX12_like 8 = .ok (.iload_n 2, 1) := by decide +kernel
theorem dX12_like_9 : decode cX12_like 9 = .ok (.iconst 0, 1) := by decide +kernel
theorem dX12_like_10 : decode cX12_like 10 = .ok (.bipush 99, 2) := by decide +kernel
theorem dX12_like_12 : decode cX12_like 12 = .ok (.invokestatic 65, 3) := by decide +kernel
theorem dX12_like_15 : decode cX12_like 15 = .ok (.ifCond .ne 5, 3) := by decide +kernel
theorem dX12_like_18 : decode cX12_like 18 = .ok (.iconst (-1), 1) := by decide +kernel
theorem dX12_like_19 : decode cX12_like 19 = .ok (.ireturn, 1) := by decide +kernel
theorem dX12_like_20 : decode cX12_like 20 = .ok (.iconst 0, 1) := by decide +kernel
theorem dX12_like_21 : decode cX12_like 21 = .ok (.istore_n 3, 1) := by decide +kernel
theorem dX12_like_22 : decode cX12_like 22 = .ok (.iconst 0, 1) := by decide +kernel
theorem dX12_like_23 : decode cX12_like 23 = .ok (.istore 4, 2) := by decide +kernel
theorem dX12_like_25 : decode cX12_like 25 = .ok (.iload 4, 2) := by decide +kernel
theorem dX12_like_27 : decode cX12_like 27 = .ok (.aload_n 0, 1) := by decide +kernel
theorem dX12_like_28 : decode cX12_like 28 = .ok (.getfield 7, 3) := by decide +kernel
theorem dX12_like_31 : decode cX12_like 31 = .ok (.iconst 3, 1) := by decide +kernel
theorem dX12_like_32 : decode cX12_like 32 = .ok (.iaload, 1) := by decide +kernel
theorem dX12_like_33 : decode cX12_like 33 = .ok (.if_icmp .ge 79, 3) := by decide +kernel
theorem dX12_like_36 : decode cX12_like 36 = .ok (.aload_n 0, 1) := by decide +kernel
theorem dX12_like_37 : decode cX12_like 37 = .ok (.iload 4, 2) := by decide +kernel
theorem dX12_like_39 : decode cX12_like 39 = .ok (.iconst 2, 1) := by decide +kernel
theorem dX12_like_40 : decode cX12_like 40 = .ok (.invokevirtual 69, 3) := by decide +kernel
theorem dX12_like_43 : decode cX12_like 43 = .ok (.aload_n 0, 1) := by decide +kernel
theorem dX12_like_44 : decode cX12_like 44 = .ok (.iload_n 1, 1) := by decide +kernel
theorem dX12_like_45 : decode cX12_like 45 = .ok (.iconst 2, 1) := by decide +kernel
theorem dX12_like_46 : decode cX12_like 46 = .ok (.invokevirtual 69, 3) := by decide +kernel
theorem dX12_like_49 : decode cX12_like 49 = .ok (.isub, 1) := by decide +kernel
theorem dX12_like_50 : decode cX12_like 50 = .ok (.istore 5, 2) := by decide +kernel
theorem dX12_like_52 : decode cX12_like 52 = .ok (.iload_n 3, 1) := by decide +kernel
theorem dX12_like_53 : decode cX12_like 53 = .ok (.iload 4, 2) := by decide +kernel
theorem dX12_like_55 : decode cX12_like 55 = .ok (.iload_n 1, 1) := by decide +kernel
theorem dX12_like_56 : decode cX12_like 56 = .ok (.if_icmp .eq 47, 3) := by decide +kernel
theorem dX12_like_59 : decode cX12_like 59 = .ok (.aload_n 0, 1) := by decide +kernel
theorem dX12_like_60 : decode cX12_like 60 = .ok (.iload 4, 2) := by decide +kernel
theorem dX12_like_62 : decode cX12_like 62 = .ok (.iconst 0, 1) := by decide +kernel
theorem dX12_like_63 : decode cX12_like 63 = .ok (.invokevirtual 69, 3) := by decide +kernel
theorem dX12_like_66 : decode cX12_like 66 = .ok (.aload_n 0, 1) := by decide +kernel
theorem dX12_like_67 : decode cX12_like 67 = .ok (.iload_n 1, 1) := by decide +kernel
theorem dX12_like_68 : decode cX12_like 68 = .ok (.iconst 0, 1) := by decide +kernel
theorem dX12_like_69 : decode cX12_like 69 = .ok (.invokevirtual 69, 3) := by decide +kernel
theorem dX12_like_72 : decode cX12_like 72 = .ok (.if_icmp .ne 31, 3) := by decide +kernel
theorem dX12_like_75 : decode cX12_like 75 = .ok (.iload 5, 2) := by decide +kernel
theorem dX12_like_77 : decode cX12_like 77 = .ok (.iload_n 2, 1) := by decide +kernel
theorem dX12_like_78 : decode cX12_like 78 = .ok (.ineg, 1) := by decide +kernel
theorem dX12_like_79 : decode cX12_like 79 = .ok (.iload_n 2, 1) := by decide +kernel
theorem dX12_like_80 : decode cX12_like 80 = .ok (.invokestatic 65, 3) := by decide +kernel
theorem dX12_like_83 : decode cX12_like 83 = .ok (.ifCond .eq 20, 3) := by decide +kernel
theorem dX12_like_86 : decode cX12_like 86 = .ok (.aload_n 0, 1) := by decide +kernel
theorem dX12_like_87 : decode cX12_like 87 = .ok (.iload 4, 2) := by decide +kernel
theorem dX12_like_89 : decode cX12_like 89 = .ok (.iload_n 1, 1) := by decide +kernel
theorem dX12_like_90 : decode cX12_like 90 = .ok (.invokevirtual 329, 3) := by decide +kernel
theorem dX12_like_93 : decode cX12_like 93 = .ok (.ifCond .eq 10, 3) := by decide +kernel
theorem dX12_like_96 : decode cX12_like 96 = .ok (.iconst 1, 1) := by decide +kernel
theorem dX12_like_97 : decode cX12_like 97 = .ok (.iload 4, 2) := by decide +kernel
theorem dX12_like_99 : decode cX12_like 99 = .ok (.ishl, 1) := by decide +kernel
theorem dX12_like_100 : decode cX12_like 100 = .ok (.goto 4, 3) := by decide +kernel
theorem dX12_like_103 : decode cX12_like 103 = .ok (.iconst 0, 1) := by decide +kernel
theorem dX12_like_104 : decode cX12_like 104 = .ok (.ior, 1) := by decide +kernel
theorem dX12_like_105 : decode cX12_like 105 = .ok (.istore_n 3, 1) := by decide +kernel
theorem dX12_like_106 : decode cX12_like 106 = .ok (.iinc 4 1, 3) := by decide +kernel
theorem dX12_like_109 : decode cX12_like 109 = .ok (.goto (-84), 3) := by decide +kernel
theorem dX12_like_112 : decode cX12_like 112 = .ok (.iload_n 3, 1) := by decide +kernel
theorem dX12_like_113 : decode cX12_like 113 = .ok (.ireturn, 1) := by decide +kernel
abbrev nd_X12_like : List Nat := [100, 101]
abbrev ld_X12_like : List (Nat × Nat) := [(100, 0)]
theorem sn_X12_like_X12_isHalf : ∀ c ∈ nd_X12_isHalf, c ∈ nd_X12_like := by decide
theorem sl_X12_like_X12_isHalf : ∀ q ∈ ld_X12_isHalf, q ∈ ld_X12_like := by decide
theorem sn_X12_like_X12_isIn : ∀ c ∈ nd_X12_isIn, c ∈ nd_X12_like := by decide
theorem sl_X12_like_X12_isIn : ∀ q ∈ ld_X12_isIn, q ∈ ld_X12_like := by decide
theorem sn_X12_like_X12_ofHalf : ∀ c ∈ nd_X12_ofHalf, c ∈ nd_X12_like := by decide
theorem sl_X12_like_X12_ofHalf : ∀ q ∈ ld_X12_ofHalf, q ∈ ld_X12_like := by decide
theorem sn_X12_like_X12_isElsewhere : ∀ c ∈ nd_X12_isElsewhere, c ∈ nd_X12_like := by decide
theorem sl_X12_like_X12_isElsewhere : ∀ q ∈ ld_X12_isElsewhere, q ∈ ld_X12_like := by decide
def f_X12_like_18  (h : zH) : zR := (some ((-1 : Int32), h))
def f_X12_like_104 (k25 : Int32 → Int32 → Int32 → Int32 → zH → zR) (x1 : Int32) (x2 : Int32) (x4 : Int32) (s0 : Int32) (s1 : Int32) (h : zH) : zR := (zlt (s1 ||| s0) fun y10 => (zlt (x4 + (1 : Int32)) fun y11 => (k25 x1 x2 y10 y11 h)))
def f_X12_like_103 (k25 : Int32 → Int32 → Int32 → Int32 → zH → zR) (x1 : Int32) (x2 : Int32) (x4 : Int32) (s0 : Int32) (h : zH) : zR := (f_X12_like_104 k25 x1 x2 x4 (0 : Int32) s0 h)
def f_X12_like_25  : Nat → Int32 → Int32 → Int32 → Int32 → zH → zR
  | 0 => fun _ _ _ _ _ => none
  | n + 1 => fun x1 x2 x3 x4 h => (if (h 101 3) ≤ x4 then (some (x3, h)) else (zbd (f_X12_ofHalf x4 (2 : Int32) h) fun r5 h6 => (zbd (f_X12_ofHalf x1 (2 : Int32) h6) fun r7 h8 => (zlt (r5 - r7) fun y9 => (if x4 = x1 then (f_X12_like_103 (f_X12_like_25  n) x1 x2 x4 x3 h8) else (zbd (f_X12_ofHalf x4 (0 : Int32) h8) fun r12 h13 => (zbd (f_X12_ofHalf x1 (0 : Int32) h13) fun r14 h15 => (if r12 = r14 then (zbd (f_X12_isIn y9 (-x2) x2 h15) fun r16 h17 => (if r16 = 0 then (f_X12_like_103 (f_X12_like_25  n) x1 x2 x4 x3 h17) else (zbd (f_X12_isElsewhere x4 x1 h17) fun r18 h19 => (if r18 = 0 then (f_X12_like_103 (f_X12_like_25  n) x1 x2 x4 x3 h19) else (f_X12_like_104 (f_X12_like_25  n) x1 x2 x4 ((1 : Int32) <<< (x4 &&& 31)) x3 h19))))) else (f_X12_like_103 (f_X12_like_25  n) x1 x2 x4 x3 h15)))))))))
def f_X12_like  (x1 : Int32) (x2 : Int32) (h : zH) : zR := (zbd (f_X12_isHalf x1 h) fun r1 h2 => (if r1 = 0 then (f_X12_like_18   h2) else (zbd (f_X12_isIn x2 (0 : Int32) (99 : Int32) h2) fun r3 h4 => (if r3 = 0 then (f_X12_like_18   h4) else (f_X12_like_25  zN x1 x2 (0 : Int32) (0 : Int32) h4)))))
variable {p : Program} {l : Launch} {e : Env} {s : State} {m : MethodId} {args : Array Value} {below : List Frame} {meth : Method} {c : Code} {G : zG} {q : Int32 × zH}
set_option maxHeartbeats 4000000 in
set_option maxRecDepth 100000 in
theorem w_X12_like_18  (C : zC G p s m args meth c cX12_like 6 RX12 (some .int)) (hm : ∀ c ∈ nd_X12_like, c ∈ znm G) (hk : ∀ q ∈ ld_X12_like, zlk G q.1 q.2 = true)  : ∀ (ls : Array Slot) (H : Heap) (locs : List Loc) (h : zH), lv_has ls 6 [] → zS G h s.heap H locs → f_X12_like_18  h = some q → W p l e (zrm (5)) s m args below meth c H locs 0 0 (MQ below (zQI G q.2 q.1) args s 0 0 (zA G)) (F0 m 18 ls []) := by
  intro ls H locs h hl hS hf
  unfold f_X12_like_18 at hf
  refine lv_iconst (v := (-1 : Int32)) C.1 C.2.1 dX12_like_18 rfl ?_
  exact zretI C hS hf dX12_like_19
set_option maxHeartbeats 4000000 in
set_option maxRecDepth 100000 in
theorem w_X12_like_104 {k25 : Int32 → Int32 → Int32 → Int32 → zH → zR} (C : zC G p s m args meth c cX12_like 6 RX12 (some .int)) (hm : ∀ c ∈ nd_X12_like, c ∈ znm G) (hk : ∀ q ∈ ld_X12_like, zlk G q.1 q.2 = true) (hk25 : ∀ (ls : Array Slot) (H : Heap) (locs : List Loc) (h : zH) (x1 : Int32) (x2 : Int32) (x3 : Int32) (x4 : Int32), lv_has ls 6 [(0, .ref (zal G 100)), (1, .int x1), (2, .int x2), (3, .int x3), (4, .int x4)] → zS G h s.heap H locs → k25 x1 x2 x3 x4 h = some q → W p l e (zrm (5)) s m args below meth c H locs 0 0 (MQ below (zQI G q.2 q.1) args s 0 0 (zA G)) (F0 m 25 ls [])) : ∀ (ls : Array Slot) (H : Heap) (locs : List Loc) (h : zH) (x1 : Int32) (x2 : Int32) (x4 : Int32) (s0 : Int32) (s1 : Int32), lv_has ls 6 [(0, .ref (zal G 100)), (1, .int x1), (2, .int x2), (4, .int x4)] → zS G h s.heap H locs → f_X12_like_104 k25 x1 x2 x4 s0 s1 h = some q → W p l e (zrm (5)) s m args below meth c H locs 0 0 (MQ below (zQI G q.2 q.1) args s 0 0 (zA G)) (F0 m 104 ls [.int s0, .int s1]) := by
  intro ls H locs h x1 x2 x4 s0 s1 hl hS hf
  unfold f_X12_like_104 at hf
  refine lv_ior C.1 C.2.1 dX12_like_104 ?_
  obtain ⟨y10, ey10, hf⟩ := zlt_some hf
  refine ztop ey10 ?_
  refine lv_istore_n (lv' := [(3, .int y10), (0, .ref (zal G 100)), (1, .int x1), (2, .int x2), (4, .int x4)]) C.1 C.2.1 dX12_like_105 rfl hl (by decide) rfl (fun ls hl => ?_)
  obtain ⟨y11, ey11, hf⟩ := zlt_some hf
  refine lv_iinc (v := y11) (lv' := [(4, .int y11), (3, .int y10), (0, .ref (zal G 100)), (1, .int x1), (2, .int x2)]) C.1 C.2.1 dX12_like_106 hl (k := 4) rfl ey11.symm (by decide) rfl (fun ls hl => ?_)
  refine lv_goto (tgt := 25) C.1 C.2.1 dX12_like_109 (by decide) ?_
  exact hk25 _ _ _ _ _ _ _ _ (lv_sub hl [2, 3, 4, 1, 0] rfl) hS hf
set_option maxHeartbeats 4000000 in
set_option maxRecDepth 100000 in
theorem w_X12_like_103 {k25 : Int32 → Int32 → Int32 → Int32 → zH → zR} (C : zC G p s m args meth c cX12_like 6 RX12 (some .int)) (hm : ∀ c ∈ nd_X12_like, c ∈ znm G) (hk : ∀ q ∈ ld_X12_like, zlk G q.1 q.2 = true) (hk25 : ∀ (ls : Array Slot) (H : Heap) (locs : List Loc) (h : zH) (x1 : Int32) (x2 : Int32) (x3 : Int32) (x4 : Int32), lv_has ls 6 [(0, .ref (zal G 100)), (1, .int x1), (2, .int x2), (3, .int x3), (4, .int x4)] → zS G h s.heap H locs → k25 x1 x2 x3 x4 h = some q → W p l e (zrm (5)) s m args below meth c H locs 0 0 (MQ below (zQI G q.2 q.1) args s 0 0 (zA G)) (F0 m 25 ls [])) : ∀ (ls : Array Slot) (H : Heap) (locs : List Loc) (h : zH) (x1 : Int32) (x2 : Int32) (x4 : Int32) (s0 : Int32), lv_has ls 6 [(0, .ref (zal G 100)), (1, .int x1), (2, .int x2), (4, .int x4)] → zS G h s.heap H locs → f_X12_like_103 k25 x1 x2 x4 s0 h = some q → W p l e (zrm (5)) s m args below meth c H locs 0 0 (MQ below (zQI G q.2 q.1) args s 0 0 (zA G)) (F0 m 103 ls [.int s0]) := by
  intro ls H locs h x1 x2 x4 s0 hl hS hf
  unfold f_X12_like_103 at hf
  refine lv_iconst (v := (0 : Int32)) C.1 C.2.1 dX12_like_103 rfl ?_
  exact w_X12_like_104 C hm hk hk25 _ _ _ _ _ _ _ _ _ (lv_sub hl [0, 1, 2, 3] rfl) hS hf
set_option maxHeartbeats 4000000 in
set_option maxRecDepth 100000 in
theorem w_X12_like_25  (C : zC G p s m args meth c cX12_like 6 RX12 (some .int)) (hm : ∀ c ∈ nd_X12_like, c ∈ znm G) (hk : ∀ q ∈ ld_X12_like, zlk G q.1 q.2 = true)  : ∀ n, ∀ (ls : Array Slot) (H : Heap) (locs : List Loc) (h : zH) (x1 : Int32) (x2 : Int32) (x3 : Int32) (x4 : Int32), lv_has ls 6 [(0, .ref (zal G 100)), (1, .int x1), (2, .int x2), (3, .int x3), (4, .int x4)] → zS G h s.heap H locs → f_X12_like_25  n x1 x2 x3 x4 h = some q → W p l e (zrm (5)) s m args below meth c H locs 0 0 (MQ below (zQI G q.2 q.1) args s 0 0 (zA G)) (F0 m 25 ls []) := by
  intro n
  induction n with
  | zero => intro ls H locs h x1 x2 x3 x4 hl hS hf; cases hf
  | succ n ih =>
    intro ls H locs h x1 x2 x3 x4 hl hS hf
    rw [f_X12_like_25] at hf
    refine lv_iload C.1 C.2.1 dX12_like_25 (lv_at hl 4 rfl) ?_
    refine lv_aload_n C.1 C.2.1 dX12_like_27 rfl (lv_at hl 0 rfl) ?_
    refine zgetR C hS ff_X12_7_100 (hm 100 (by decide)) (hk (100, 0) (by decide)) dX12_like_28 ?_
    refine lv_iconst (v := (3 : Int32)) C.1 C.2.1 dX12_like_31 rfl ?_
    refine zald C hS sh_101 (hm 101 (by decide)) (vp_in_iff.mpr (by decide)) dX12_like_32 ?_
    refine lv_icmp_ge (tgt := 112) C.1 C.2.1 dX12_like_33 (by decide) (fun hc => ?_) (fun hc => ?_)
    · have hf := zif_t hc hf
      refine lv_iload_n C.1 C.2.1 dX12_like_112 rfl (lv_at hl 3 rfl) ?_
      exact zretI C hS hf dX12_like_113
    · have hf := zif_f hc hf
      refine lv_aload_n C.1 C.2.1 dX12_like_36 rfl (lv_at hl 0 rfl) ?_
      refine lv_iload C.1 C.2.1 dX12_like_37 (lv_at hl 4 rfl) ?_
      refine lv_iconst (v := (2 : Int32)) C.1 C.2.1 dX12_like_39 rfl ?_
      obtain ⟨r5, h6, er5, hf⟩ := zbd_some hf
      refine zcallVI (As := [.int x4, .int (2 : Int32)]) (rest := []) C hS mv_X12_69 (c_X12_ofHalf l G h x4 (2 : Int32) (r5, h6) (fun c h => hm c (sn_X12_like_X12_ofHalf c h)) (fun q h => hk q (sl_X12_like_X12_ofHalf q h)) er5) (hm 100 (by decide)) ⟨_, _, _, sh_100, rfl, rfl⟩ rfl rfl (Nat.le_of_ble_eq_true rfl) hl.1 ⟨Nat.le_of_ble_eq_true rfl, Nat.le_of_ble_eq_true rfl, Nat.le_of_ble_eq_true rfl, Nat.le_of_ble_eq_true rfl⟩ dX12_like_40 (fun H locs hS => ?_)
      refine lv_aload_n C.1 C.2.1 dX12_like_43 rfl (lv_at hl 0 rfl) ?_
      refine lv_iload_n C.1 C.2.1 dX12_like_44 rfl (lv_at hl 1 rfl) ?_
      refine lv_iconst (v := (2 : Int32)) C.1 C.2.1 dX12_like_45 rfl ?_
      obtain ⟨r7, h8, er7, hf⟩ := zbd_some hf
      refine zcallVI (As := [.int x1, .int (2 : Int32)]) (rest := [.int r5]) C hS mv_X12_69 (c_X12_ofHalf l G h6 x1 (2 : Int32) (r7, h8) (fun c h => hm c (sn_X12_like_X12_ofHalf c h)) (fun q h => hk q (sl_X12_like_X12_ofHalf q h)) er7) (hm 100 (by decide)) ⟨_, _, _, sh_100, rfl, rfl⟩ rfl rfl (Nat.le_of_ble_eq_true rfl) hl.1 ⟨Nat.le_of_ble_eq_true rfl, Nat.le_of_ble_eq_true rfl, Nat.le_of_ble_eq_true rfl, Nat.le_of_ble_eq_true rfl⟩ dX12_like_46 (fun H locs hS => ?_)
      refine lv_isub C.1 C.2.1 dX12_like_49 ?_
      obtain ⟨y9, ey9, hf⟩ := zlt_some hf
      refine ztop ey9 ?_
      refine lv_istore (lv' := [(5, .int y9), (0, .ref (zal G 100)), (1, .int x1), (2, .int x2), (3, .int x3), (4, .int x4)]) C.1 C.2.1 dX12_like_50 hl (by decide) rfl (fun ls hl => ?_)
      refine lv_iload_n C.1 C.2.1 dX12_like_52 rfl (lv_at hl 4 rfl) ?_
      refine lv_iload C.1 C.2.1 dX12_like_53 (lv_at hl 5 rfl) ?_
      refine lv_iload_n C.1 C.2.1 dX12_like_55 rfl (lv_at hl 2 rfl) ?_
      refine lv_icmp_eq (tgt := 103) C.1 C.2.1 dX12_like_56 (by decide) (fun hc => ?_) (fun hc => ?_)
      · have hf := zif_t hc hf
        exact w_X12_like_103 C hm hk ih _ _ _ _ _ _ _ _ (lv_sub hl [1, 2, 3, 5] rfl) hS hf
      · have hf := zif_f hc hf
        refine lv_aload_n C.1 C.2.1 dX12_like_59 rfl (lv_at hl 1 rfl) ?_
        refine lv_iload C.1 C.2.1 dX12_like_60 (lv_at hl 5 rfl) ?_
        refine lv_iconst (v := (0 : Int32)) C.1 C.2.1 dX12_like_62 rfl ?_
        obtain ⟨r12, h13, er12, hf⟩ := zbd_some hf
        refine zcallVI (As := [.int x4, .int (0 : Int32)]) (rest := [.int x3]) C hS mv_X12_69 (c_X12_ofHalf l G h8 x4 (0 : Int32) (r12, h13) (fun c h => hm c (sn_X12_like_X12_ofHalf c h)) (fun q h => hk q (sl_X12_like_X12_ofHalf q h)) er12) (hm 100 (by decide)) ⟨_, _, _, sh_100, rfl, rfl⟩ rfl rfl (Nat.le_of_ble_eq_true rfl) hl.1 ⟨Nat.le_of_ble_eq_true rfl, Nat.le_of_ble_eq_true rfl, Nat.le_of_ble_eq_true rfl, Nat.le_of_ble_eq_true rfl⟩ dX12_like_63 (fun H locs hS => ?_)
        refine lv_aload_n C.1 C.2.1 dX12_like_66 rfl (lv_at hl 1 rfl) ?_
        refine lv_iload_n C.1 C.2.1 dX12_like_67 rfl (lv_at hl 2 rfl) ?_
        refine lv_iconst (v := (0 : Int32)) C.1 C.2.1 dX12_like_68 rfl ?_
        obtain ⟨r14, h15, er14, hf⟩ := zbd_some hf
        refine zcallVI (As := [.int x1, .int (0 : Int32)]) (rest := [.int r12, .int x3]) C hS mv_X12_69 (c_X12_ofHalf l G h13 x1 (0 : Int32) (r14, h15) (fun c h => hm c (sn_X12_like_X12_ofHalf c h)) (fun q h => hk q (sl_X12_like_X12_ofHalf q h)) er14) (hm 100 (by decide)) ⟨_, _, _, sh_100, rfl, rfl⟩ rfl rfl (Nat.le_of_ble_eq_true rfl) hl.1 ⟨Nat.le_of_ble_eq_true rfl, Nat.le_of_ble_eq_true rfl, Nat.le_of_ble_eq_true rfl, Nat.le_of_ble_eq_true rfl⟩ dX12_like_69 (fun H locs hS => ?_)
        refine lv_icmp_ne (tgt := 103) C.1 C.2.1 dX12_like_72 (by decide) (fun hc => ?_) (fun hc => ?_)
        · have hf := zif_f hc hf
          exact w_X12_like_103 C hm hk ih _ _ _ _ _ _ _ _ (lv_sub hl [1, 2, 3, 5] rfl) hS hf
        · have hf := zif_t hc hf
          refine lv_iload C.1 C.2.1 dX12_like_75 (lv_at hl 0 rfl) ?_
          refine lv_iload_n C.1 C.2.1 dX12_like_77 rfl (lv_at hl 3 rfl) ?_
          refine lv_ineg C.1 C.2.1 dX12_like_78 ?_
          refine lv_iload_n C.1 C.2.1 dX12_like_79 rfl (lv_at hl 3 rfl) ?_
          obtain ⟨r16, h17, er16, hf⟩ := zbd_some hf
          refine zcallSI (As := [.int y9, .int (-x2), .int x2]) (rest := [.int x3]) C hS ms_X12_65 (c_X12_isIn l G h15 y9 (-x2) x2 (r16, h17) (fun c h => hm c (sn_X12_like_X12_isIn c h)) (fun q h => hk q (sl_X12_like_X12_isIn q h)) er16) rfl rfl (Nat.le_of_ble_eq_true rfl) hl.1 ⟨Nat.le_of_ble_eq_true rfl, Nat.le_of_ble_eq_true rfl, Nat.le_of_ble_eq_true rfl, Nat.le_of_ble_eq_true rfl⟩ dX12_like_80 (fun H locs hS => ?_)
          refine lv_if_eq (tgt := 103) C.1 C.2.1 dX12_like_83 (by decide) (fun hc => ?_) (fun hc => ?_)
          · have hf := zif_t hc hf
            exact w_X12_like_103 C hm hk ih _ _ _ _ _ _ _ _ (lv_sub hl [1, 2, 3, 5] rfl) hS hf
          · have hf := zif_f hc hf
            refine lv_aload_n C.1 C.2.1 dX12_like_86 rfl (lv_at hl 1 rfl) ?_
            refine lv_iload C.1 C.2.1 dX12_like_87 (lv_at hl 5 rfl) ?_
            refine lv_iload_n C.1 C.2.1 dX12_like_89 rfl (lv_at hl 2 rfl) ?_
            obtain ⟨r18, h19, er18, hf⟩ := zbd_some hf
            refine zcallVI (As := [.int x4, .int x1]) (rest := [.int x3]) C hS mv_X12_329 (c_X12_isElsewhere l G h17 x4 x1 (r18, h19) (fun c h => hm c (sn_X12_like_X12_isElsewhere c h)) (fun q h => hk q (sl_X12_like_X12_isElsewhere q h)) er18) (hm 100 (by decide)) ⟨_, _, _, sh_100, rfl, rfl⟩ rfl rfl (Nat.le_of_ble_eq_true rfl) hl.1 ⟨Nat.le_of_ble_eq_true rfl, Nat.le_of_ble_eq_true rfl, Nat.le_of_ble_eq_true rfl, Nat.le_of_ble_eq_true rfl⟩ dX12_like_90 (fun H locs hS => ?_)
            refine lv_if_eq (tgt := 103) C.1 C.2.1 dX12_like_93 (by decide) (fun hc => ?_) (fun hc => ?_)
            · have hf := zif_t hc hf
              exact w_X12_like_103 C hm hk ih _ _ _ _ _ _ _ _ (lv_sub hl [1, 2, 3, 5] rfl) hS hf
            · have hf := zif_f hc hf
              refine lv_iconst (v := (1 : Int32)) C.1 C.2.1 dX12_like_96 rfl ?_
              refine lv_iload C.1 C.2.1 dX12_like_97 (lv_at hl 5 rfl) ?_
              refine lv_ishl C.1 C.2.1 dX12_like_99 ?_
              refine lv_goto (tgt := 104) C.1 C.2.1 dX12_like_100 (by decide) ?_
              exact w_X12_like_104 C hm hk ih _ _ _ _ _ _ _ _ _ (lv_sub hl [1, 2, 3, 5] rfl) hS hf
set_option maxHeartbeats 4000000 in
set_option maxRecDepth 100000 in
theorem c_X12_like (l : Launch) (G : zG) (h : zH) (x1 : Int32) (x2 : Int32) (q : Int32 × zH) (hm : ∀ c ∈ nd_X12_like, c ∈ znm G) (hk : ∀ q ∈ ld_X12_like, zlk G q.1 q.2 = true) (hf : f_X12_like x1 x2 h = some q) : zCtI l yX12_like cX12_like 6 (some .int) (5) [.ref (zal G 100), .int x1, .int x2] G h q.2 q.1 := by
  refine zMetI (by decide) (Nat.le_of_ble_eq_true rfl) ?_
  intro p e s m below meth c ls C hl hS
  have hl : lv_has ls 6 [(0, .ref (zal G 100)), (1, .int x1), (2, .int x2)] := hl
  have C : zC G p s m [.ref (zal G 100), .int x1, .int x2].toArray meth c cX12_like 6 RX12 (some .int) := C
  unfold f_X12_like at hf
  refine lv_aload_n C.1 C.2.1 dX12_like_0 rfl (lv_at hl 0 rfl) ?_
  refine lv_iload_n C.1 C.2.1 dX12_like_1 rfl (lv_at hl 1 rfl) ?_
  obtain ⟨r1, h2, er1, hf⟩ := zbd_some hf
  refine zcallVI (As := [.int x1]) (rest := []) C hS mv_X12_85 (c_X12_isHalf l G h x1 (r1, h2) (fun c h => hm c (sn_X12_like_X12_isHalf c h)) (fun q h => hk q (sl_X12_like_X12_isHalf q h)) er1) (hm 100 (by decide)) ⟨_, _, _, sh_100, rfl, rfl⟩ rfl rfl (Nat.le_of_ble_eq_true rfl) hl.1 ⟨Nat.le_of_ble_eq_true rfl, Nat.le_of_ble_eq_true rfl, Nat.le_of_ble_eq_true rfl, Nat.le_of_ble_eq_true rfl⟩ dX12_like_2 (fun H locs hS => ?_)
  refine lv_if_eq (tgt := 18) C.1 C.2.1 dX12_like_5 (by decide) (fun hc => ?_) (fun hc => ?_)
  · have hf := zif_t hc hf
    exact w_X12_like_18 C hm hk  _ _ _ _ (lv_sub hl [] rfl) hS hf
  · have hf := zif_f hc hf
    refine lv_iload_n C.1 C.2.1 dX12_like_8 rfl (lv_at hl 2 rfl) ?_
    refine lv_iconst (v := (0 : Int32)) C.1 C.2.1 dX12_like_9 rfl ?_
    refine lv_bipush (v := (99 : Int32)) C.1 C.2.1 dX12_like_10 rfl ?_
    obtain ⟨r3, h4, er3, hf⟩ := zbd_some hf
    refine zcallSI (As := [.int x2, .int (0 : Int32), .int (99 : Int32)]) (rest := []) C hS ms_X12_65 (c_X12_isIn l G h2 x2 (0 : Int32) (99 : Int32) (r3, h4) (fun c h => hm c (sn_X12_like_X12_isIn c h)) (fun q h => hk q (sl_X12_like_X12_isIn q h)) er3) rfl rfl (Nat.le_of_ble_eq_true rfl) hl.1 ⟨Nat.le_of_ble_eq_true rfl, Nat.le_of_ble_eq_true rfl, Nat.le_of_ble_eq_true rfl, Nat.le_of_ble_eq_true rfl⟩ dX12_like_12 (fun H locs hS => ?_)
    refine lv_if_ne (tgt := 20) C.1 C.2.1 dX12_like_15 (by decide) (fun hc => ?_) (fun hc => ?_)
    · have hf := zif_f hc hf
      refine lv_iconst (v := (0 : Int32)) C.1 C.2.1 dX12_like_20 rfl ?_
      refine lv_istore_n (lv' := [(3, .int (0 : Int32)), (0, .ref (zal G 100)), (1, .int x1), (2, .int x2)]) C.1 C.2.1 dX12_like_21 rfl hl (by decide) rfl (fun ls hl => ?_)
      refine lv_iconst (v := (0 : Int32)) C.1 C.2.1 dX12_like_22 rfl ?_
      refine lv_istore (lv' := [(4, .int (0 : Int32)), (3, .int (0 : Int32)), (0, .ref (zal G 100)), (1, .int x1), (2, .int x2)]) C.1 C.2.1 dX12_like_23 hl (by decide) rfl (fun ls hl => ?_)
      exact w_X12_like_25 C hm hk  zN _ _ _ _ _ _ _ _ (lv_sub hl [2, 3, 4, 1, 0] rfl) hS hf
    · have hf := zif_t hc hf
      exact w_X12_like_18 C hm hk  _ _ _ _ (lv_sub hl [] rfl) hS hf
end
section
theorem dX12_undo_0 : decode cX12_undo 0 = .ok (.aload_n 0, 1) := by decide +kernel
theorem dX12_undo_1 : decode cX12_undo 1 = .ok (.getfield 73, 3) := by decide +kernel
theorem dX12_undo_4 : decode cX12_undo 4 = .ok (.ifCond .ne 5, 3) := by decide +kernel
theorem dX12_undo_7 : decode cX12_undo 7 = .ok (.iconst 0, 1) := by decide +kernel
theorem dX12_undo_8 : decode cX12_undo 8 = .ok (.ireturn, 1) := by decide +kernel
theorem dX12_undo_9 : decode cX12_undo 9 = .ok (.aload_n 0, 1) := by decide +kernel
theorem dX12_undo_10 : decode cX12_undo 10 = .ok (.dup, 1) := by decide +kernel
theorem dX12_undo_11 : decode cX12_undo 11 = .ok (.getfield 73, 3) := by decide +kernel
theorem dX12_undo_14 : decode cX12_undo 14 = .ok (.iconst 1, 1) := by decide +kernel
theorem dX12_undo_15 : decode cX12_undo 15 = .ok (.isub, 1) := by decide +kernel
theorem dX12_undo_16 : decode cX12_undo 16 = .ok (.putfield 73, 3) := by decide +kernel
theorem dX12_undo_19 : decode cX12_undo 19 = .ok (.sipush 525, 3) := by decide +kernel
theorem dX12_undo_22 : decode cX12_undo 22 = .ok (.aload_n 0, 1) := by decide +kernel
theorem dX12_undo_23 : decode cX12_undo 23 = .ok (.getfield 73, 3) := by decide +kernel
theorem dX12_undo_26 : decode cX12_undo 26 = .ok (.imul, 1) := by decide +kernel
theorem dX12_undo_27 : decode cX12_undo 27 = .ok (.istore_n 1, 1) := by decide +kernel
theorem dX12_undo_28 : decode cX12_undo 28 = .ok (.aload_n 0, 1) := by decide +kernel
theorem dX12_undo_29 : decode cX12_undo 29 = .ok (.getfield 7, 3) := by decide +kernel
theorem dX12_undo_32 : decode cX12_undo 32 = .ok (.iconst 5, 1) := by decide +kernel
theorem dX12_undo_33 : decode cX12_undo 33 = .ok (.aload_n 0, 1) := by decide +kernel
theorem dX12_undo_34 : decode cX12_undo 34 = .ok (.getfield 16, 3) := by decide +kernel
theorem dX12_undo_37 : decode cX12_undo 37 = .ok (.iload_n 1, 1) := by decide +kernel
theorem dX12_undo_38 : decode cX12_undo 38 = .ok (.iaload, 1) := by decide +kernel
theorem dX12_undo_39 : decode cX12_undo 39 = .ok (.iastore, 1) := by decide +kernel
theorem dX12_undo_40 : decode cX12_undo 40 = .ok (.aload_n 0, 1) := by decide +kernel
theorem dX12_undo_41 : decode cX12_undo 41 = .ok (.getfield 7, 3) := by decide +kernel
theorem dX12_undo_44 : decode cX12_undo 44 = .ok (.bipush 6, 2) := by decide +kernel
theorem dX12_undo_46 : decode cX12_undo 46 = .ok (.aload_n 0, 1) := by decide +kernel
theorem dX12_undo_47 : decode cX12_undo 47 = .ok (.getfield 16, 3) := by decide +kernel
theorem dX12_undo_50 : decode cX12_undo 50 = .ok (.iload_n 1, 1) := by decide +kernel
theorem dX12_undo_51 : decode cX12_undo 51 = .ok (.iconst 1, 1) := by decide +kernel
theorem dX12_undo_52 : decode cX12_undo 52 = .ok (.iadd, 1) := by decide +kernel
theorem dX12_undo_53 : decode cX12_undo 53 = .ok (.iaload, 1) := by decide +kernel
theorem dX12_undo_54 : decode cX12_undo 54 = .ok (.iastore, 1) := by decide +kernel
theorem dX12_undo_55 : decode cX12_undo 55 = .ok (.aload_n 0, 1) := by decide +kernel
theorem dX12_undo_56 : decode cX12_undo 56 = .ok (.getfield 7, 3) := by decide +kernel
theorem dX12_undo_59 : decode cX12_undo 59 = .ok (.bipush 7, 2) := by decide +kernel
theorem dX12_undo_61 : decode cX12_undo 61 = .ok (.aload_n 0, 1) := by decide +kernel
theorem dX12_undo_62 : decode cX12_undo 62 = .ok (.getfield 16, 3) := by decide +kernel
theorem dX12_undo_65 : decode cX12_undo 65 = .ok (.iload_n 1, 1) := by decide +kernel
theorem dX12_undo_66 : decode cX12_undo 66 = .ok (.iconst 2, 1) := by decide +kernel
theorem dX12_undo_67 : decode cX12_undo 67 = .ok (.iadd, 1) := by decide +kernel
theorem dX12_undo_68 : decode cX12_undo 68 = .ok (.iaload, 1) := by decide +kernel
theorem dX12_undo_69 : decode cX12_undo 69 = .ok (.iastore, 1) := by decide +kernel
theorem dX12_undo_70 : decode cX12_undo 70 = .ok (.iconst 0, 1) := by decide +kernel
theorem dX12_undo_71 : decode cX12_undo 71 = .ok (.istore_n 2, 1) := by decide +kernel
theorem dX12_undo_72 : decode cX12_undo 72 = .ok (.iload_n 2, 1) := by decide +kernel
theorem dX12_undo_73 : decode cX12_undo 73 = .ok (.sipush 522, 3) := by decide +kernel
theorem dX12_undo_76 : decode cX12_undo 76 = .ok (.if_icmp .ge 29, 3) := by decide +kernel
theorem dX12_undo_79 : decode cX12_undo 79 = .ok (.aload_n 0, 1) := by decide +kernel
theorem dX12_undo_80 : decode cX12_undo 80 = .ok (.getfield 7, 3) := by decide +kernel
theorem dX12_undo_83 : decode cX12_undo 83 = .ok (.sipush 200, 3) := by decide +kernel
theorem dX12_undo_86 : decode cX12_undo 86 = .ok (.iload_n 2, 1) := by decide +kernel
theorem dX12_undo_87 : decode cX12_undo 87 = .ok (.iadd, 1) := by decide +kernel
theorem dX12_undo_88 : decode cX12_undo 88 = .ok (.aload_n 0, 1) := by decide +kernel
theorem dX12_undo_89 : decode cX12_undo 89 = .ok (.getfield 16, 3) := by decide +kernel
theorem dX12_undo_92 : decode cX12_undo 92 = .ok (.iload_n 1, 1) := by decide +kernel
theorem dX12_undo_93 : decode cX12_undo 93 = .ok (.iconst 3, 1) := by decide +kernel
theorem dX12_undo_94 : decode cX12_undo 94 = .ok (.iadd, 1) := by decide +kernel
theorem dX12_undo_95 : decode cX12_undo 95 = .ok (.iload_n 2, 1) := by decide +kernel
theorem dX12_undo_96 : decode cX12_undo 96 = .ok (.iadd, 1) := by decide +kernel
theorem dX12_undo_97 : decode cX12_undo 97 = .ok (.iaload, 1) := by decide +kernel
theorem dX12_undo_98 : decode cX12_undo 98 = .ok (.iastore, 1) := by decide +kernel
theorem dX12_undo_99 : decode cX12_undo 99 = .ok (.iinc 2 1, 3) := by decide +kernel
theorem dX12_undo_102 : decode cX12_undo 102 = .ok (.goto (-30), 3) := by decide +kernel
theorem dX12_undo_105 : decode cX12_undo 105 = .ok (.iconst 1, 1) := by decide +kernel
theorem dX12_undo_106 : decode cX12_undo 106 = .ok (.ireturn, 1) := by decide +kernel
abbrev nd_X12_undo : List Nat := [100, 101, 103]
abbrev ld_X12_undo : List (Nat × Nat) := [(100, 0), (100, 2)]
def f_X12_undo_72  : Nat → Int32 → Int32 → zH → zR
  | 0 => fun _ _ _ => none
  | n + 1 => fun x1 x2 h => (if (522 : Int32) ≤ x2 then (some ((1 : Int32), h)) else (zck ((x1 + (3 : Int32)) + x2) 3150 (zck ((200 : Int32) + x2) 2220 (zst (zup h 101 (Int32.toNatClampNeg ((200 : Int32) + x2)) (h 103 (Int32.toNatClampNeg ((x1 + (3 : Int32)) + x2)))) fun h6 => (zlt (x2 + (1 : Int32)) fun y7 => (f_X12_undo_72  n x1 y7 h6))))))
def f_X12_undo  (h : zH) : zR := (if (h 100 4) = 0 then (some ((0 : Int32), h)) else (zst (zup h 100 4 ((h 100 4) - (1 : Int32))) fun h1 => (zlt ((525 : Int32) * (h1 100 4)) fun y2 => (zck y2 3150 (zst (zup h1 101 5 (h1 103 (Int32.toNatClampNeg y2))) fun h3 => (zck (y2 + (1 : Int32)) 3150 (zst (zup h3 101 6 (h3 103 (Int32.toNatClampNeg (y2 + (1 : Int32))))) fun h4 => (zck (y2 + (2 : Int32)) 3150 (zst (zup h4 101 7 (h4 103 (Int32.toNatClampNeg (y2 + (2 : Int32))))) fun h5 => (f_X12_undo_72  zN y2 (0 : Int32) h5))))))))))
variable {p : Program} {l : Launch} {e : Env} {s : State} {m : MethodId} {args : Array Value} {below : List Frame} {meth : Method} {c : Code} {G : zG} {q : Int32 × zH}
set_option maxHeartbeats 4000000 in
set_option maxRecDepth 100000 in
theorem w_X12_undo_72  (C : zC G p s m args meth c cX12_undo 3 RX12 (some .boolean)) (hm : ∀ c ∈ nd_X12_undo, c ∈ znm G) (hk : ∀ q ∈ ld_X12_undo, zlk G q.1 q.2 = true)  : ∀ n, ∀ (ls : Array Slot) (H : Heap) (locs : List Loc) (h : zH) (x1 : Int32) (x2 : Int32), lv_has ls 3 [(0, .ref (zal G 100)), (1, .int x1), (2, .int x2)] → zS G h s.heap H locs → f_X12_undo_72  n x1 x2 h = some q → W p l e (zrm (2)) s m args below meth c H locs 0 0 (MQ below (zQI G q.2 q.1) args s 0 0 (zA G)) (F0 m 72 ls []) := by
  intro n
  induction n with
  | zero => intro ls H locs h x1 x2 hl hS hf; cases hf
  | succ n ih =>
    intro ls H locs h x1 x2 hl hS hf
    rw [f_X12_undo_72] at hf
    refine lv_iload_n C.1 C.2.1 dX12_undo_72 rfl (lv_at hl 2 rfl) ?_
    refine lv_sipush (v := (522 : Int32)) C.1 C.2.1 dX12_undo_73 rfl ?_
    refine lv_icmp_ge (tgt := 105) C.1 C.2.1 dX12_undo_76 (by decide) (fun hc => ?_) (fun hc => ?_)
    · have hf := zif_t hc hf
      refine lv_iconst (v := (1 : Int32)) C.1 C.2.1 dX12_undo_105 rfl ?_
      exact zretZ C hS rfl hf dX12_undo_106
    · have hf := zif_f hc hf
      refine lv_aload_n C.1 C.2.1 dX12_undo_79 rfl (lv_at hl 0 rfl) ?_
      refine zgetR C hS ff_X12_7_100 (hm 100 (by decide)) (hk (100, 0) (by decide)) dX12_undo_80 ?_
      refine lv_sipush (v := (200 : Int32)) C.1 C.2.1 dX12_undo_83 rfl ?_
      refine lv_iload_n C.1 C.2.1 dX12_undo_86 rfl (lv_at hl 2 rfl) ?_
      refine lv_iadd C.1 C.2.1 dX12_undo_87 ?_
      refine lv_aload_n C.1 C.2.1 dX12_undo_88 rfl (lv_at hl 0 rfl) ?_
      refine zgetR C hS ff_X12_16_100 (hm 100 (by decide)) (hk (100, 2) (by decide)) dX12_undo_89 ?_
      refine lv_iload_n C.1 C.2.1 dX12_undo_92 rfl (lv_at hl 1 rfl) ?_
      refine lv_iconst (v := (3 : Int32)) C.1 C.2.1 dX12_undo_93 rfl ?_
      refine lv_iadd C.1 C.2.1 dX12_undo_94 ?_
      refine lv_iload_n C.1 C.2.1 dX12_undo_95 rfl (lv_at hl 2 rfl) ?_
      refine lv_iadd C.1 C.2.1 dX12_undo_96 ?_
      obtain ⟨hi, hf⟩ := zck_some hf
      refine zald C hS sh_103 (hm 103 (by decide)) hi dX12_undo_97 ?_
      obtain ⟨hi, hf⟩ := zck_some hf
      refine zast C hS sh_101 (hm 101 (by decide)) hi dX12_undo_98 (fun H locs hS => ?_)
      obtain ⟨h6, eh6, hf⟩ := zst_some hf
      have hS : zS G h6 s.heap H locs := by rw [eh6]; exact hS
      obtain ⟨y7, ey7, hf⟩ := zlt_some hf
      refine lv_iinc (v := y7) (lv' := [(2, .int y7), (0, .ref (zal G 100)), (1, .int x1)]) C.1 C.2.1 dX12_undo_99 hl (k := 2) rfl ey7.symm (by decide) rfl (fun ls hl => ?_)
      refine lv_goto (tgt := 72) C.1 C.2.1 dX12_undo_102 (by decide) ?_
      exact ih _ _ _ _ _ _ (lv_sub hl [1, 2, 0] rfl) hS hf
set_option maxHeartbeats 4000000 in
set_option maxRecDepth 100000 in
theorem c_X12_undo (l : Launch) (G : zG) (h : zH) (q : Int32 × zH) (hm : ∀ c ∈ nd_X12_undo, c ∈ znm G) (hk : ∀ q ∈ ld_X12_undo, zlk G q.1 q.2 = true) (hf : f_X12_undo h = some q) : zCtI l yX12_undo cX12_undo 3 (some .boolean) (2) [.ref (zal G 100)] G h q.2 q.1 := by
  refine zMetI (by decide) (Nat.le_of_ble_eq_true rfl) ?_
  intro p e s m below meth c ls C hl hS
  have hl : lv_has ls 3 [(0, .ref (zal G 100))] := hl
  have C : zC G p s m [.ref (zal G 100)].toArray meth c cX12_undo 3 RX12 (some .boolean) := C
  unfold f_X12_undo at hf
  refine lv_aload_n C.1 C.2.1 dX12_undo_0 rfl (lv_at hl 0 rfl) ?_
  refine zgetI C hS ff_X12_73_100 (hm 100 (by decide)) dX12_undo_1 ?_
  refine lv_if_ne (tgt := 9) C.1 C.2.1 dX12_undo_4 (by decide) (fun hc => ?_) (fun hc => ?_)
  · have hf := zif_f hc hf
    refine lv_aload_n C.1 C.2.1 dX12_undo_9 rfl (lv_at hl 0 rfl) ?_
    refine lv_dup C.1 C.2.1 dX12_undo_10 rfl ?_
    refine zgetI C hS ff_X12_73_100 (hm 100 (by decide)) dX12_undo_11 ?_
    refine lv_iconst (v := (1 : Int32)) C.1 C.2.1 dX12_undo_14 rfl ?_
    refine lv_isub C.1 C.2.1 dX12_undo_15 ?_
    refine zputI C hS ff_X12_73_100 fw_100_4 (hm 100 (by decide)) dX12_undo_16 (fun H locs hS => ?_)
    obtain ⟨h1, eh1, hf⟩ := zst_some hf
    have hS : zS G h1 s.heap H locs := by rw [eh1]; exact hS
    refine lv_sipush (v := (525 : Int32)) C.1 C.2.1 dX12_undo_19 rfl ?_
    refine lv_aload_n C.1 C.2.1 dX12_undo_22 rfl (lv_at hl 0 rfl) ?_
    refine zgetI C hS ff_X12_73_100 (hm 100 (by decide)) dX12_undo_23 ?_
    refine lv_imul C.1 C.2.1 dX12_undo_26 ?_
    obtain ⟨y2, ey2, hf⟩ := zlt_some hf
    refine ztop ey2 ?_
    refine lv_istore_n (lv' := [(1, .int y2), (0, .ref (zal G 100))]) C.1 C.2.1 dX12_undo_27 rfl hl (by decide) rfl (fun ls hl => ?_)
    refine lv_aload_n C.1 C.2.1 dX12_undo_28 rfl (lv_at hl 1 rfl) ?_
    refine zgetR C hS ff_X12_7_100 (hm 100 (by decide)) (hk (100, 0) (by decide)) dX12_undo_29 ?_
    refine lv_iconst (v := (5 : Int32)) C.1 C.2.1 dX12_undo_32 rfl ?_
    refine lv_aload_n C.1 C.2.1 dX12_undo_33 rfl (lv_at hl 1 rfl) ?_
    refine zgetR C hS ff_X12_16_100 (hm 100 (by decide)) (hk (100, 2) (by decide)) dX12_undo_34 ?_
    refine lv_iload_n C.1 C.2.1 dX12_undo_37 rfl (lv_at hl 0 rfl) ?_
    obtain ⟨hi, hf⟩ := zck_some hf
    refine zald C hS sh_103 (hm 103 (by decide)) hi dX12_undo_38 ?_
    refine zast C hS sh_101 (hm 101 (by decide)) (vp_in_iff.mpr (by decide)) dX12_undo_39 (fun H locs hS => ?_)
    obtain ⟨h3, eh3, hf⟩ := zst_some hf
    have hS : zS G h3 s.heap H locs := by rw [eh3]; exact hS
    refine lv_aload_n C.1 C.2.1 dX12_undo_40 rfl (lv_at hl 1 rfl) ?_
    refine zgetR C hS ff_X12_7_100 (hm 100 (by decide)) (hk (100, 0) (by decide)) dX12_undo_41 ?_
    refine lv_bipush (v := (6 : Int32)) C.1 C.2.1 dX12_undo_44 rfl ?_
    refine lv_aload_n C.1 C.2.1 dX12_undo_46 rfl (lv_at hl 1 rfl) ?_
    refine zgetR C hS ff_X12_16_100 (hm 100 (by decide)) (hk (100, 2) (by decide)) dX12_undo_47 ?_
    refine lv_iload_n C.1 C.2.1 dX12_undo_50 rfl (lv_at hl 0 rfl) ?_
    refine lv_iconst (v := (1 : Int32)) C.1 C.2.1 dX12_undo_51 rfl ?_
    refine lv_iadd C.1 C.2.1 dX12_undo_52 ?_
    obtain ⟨hi, hf⟩ := zck_some hf
    refine zald C hS sh_103 (hm 103 (by decide)) hi dX12_undo_53 ?_
    refine zast C hS sh_101 (hm 101 (by decide)) (vp_in_iff.mpr (by decide)) dX12_undo_54 (fun H locs hS => ?_)
    obtain ⟨h4, eh4, hf⟩ := zst_some hf
    have hS : zS G h4 s.heap H locs := by rw [eh4]; exact hS
    refine lv_aload_n C.1 C.2.1 dX12_undo_55 rfl (lv_at hl 1 rfl) ?_
    refine zgetR C hS ff_X12_7_100 (hm 100 (by decide)) (hk (100, 0) (by decide)) dX12_undo_56 ?_
    refine lv_bipush (v := (7 : Int32)) C.1 C.2.1 dX12_undo_59 rfl ?_
    refine lv_aload_n C.1 C.2.1 dX12_undo_61 rfl (lv_at hl 1 rfl) ?_
    refine zgetR C hS ff_X12_16_100 (hm 100 (by decide)) (hk (100, 2) (by decide)) dX12_undo_62 ?_
    refine lv_iload_n C.1 C.2.1 dX12_undo_65 rfl (lv_at hl 0 rfl) ?_
    refine lv_iconst (v := (2 : Int32)) C.1 C.2.1 dX12_undo_66 rfl ?_
    refine lv_iadd C.1 C.2.1 dX12_undo_67 ?_
    obtain ⟨hi, hf⟩ := zck_some hf
    refine zald C hS sh_103 (hm 103 (by decide)) hi dX12_undo_68 ?_
    refine zast C hS sh_101 (hm 101 (by decide)) (vp_in_iff.mpr (by decide)) dX12_undo_69 (fun H locs hS => ?_)
    obtain ⟨h5, eh5, hf⟩ := zst_some hf
    have hS : zS G h5 s.heap H locs := by rw [eh5]; exact hS
    refine lv_iconst (v := (0 : Int32)) C.1 C.2.1 dX12_undo_70 rfl ?_
    refine lv_istore_n (lv' := [(2, .int (0 : Int32)), (1, .int y2), (0, .ref (zal G 100))]) C.1 C.2.1 dX12_undo_71 rfl hl (by decide) rfl (fun ls hl => ?_)
    exact w_X12_undo_72 C hm hk  zN _ _ _ _ _ _ (lv_sub hl [2, 1, 0] rfl) hS hf
  · have hf := zif_t hc hf
    refine lv_iconst (v := (0 : Int32)) C.1 C.2.1 dX12_undo_7 rfl ?_
    exact zretZ C hS rfl hf dX12_undo_8
end
section
theorem dX12_look_0 : decode cX12_look 0 = .ok (.iload_n 1, 1) := by decide +kernel
theorem dX12_look_1 : decode cX12_look 1 = .ok (.iconst 0, 1) := by decide +kernel
theorem dX12_look_2 : decode cX12_look 2 = .ok (.bipush 7, 2) := by decide +kernel
theorem dX12_look_4 : decode cX12_look 4 = .ok (.invokestatic 65, 3) := by decide +kernel
theorem dX12_look_7 : decode cX12_look 7 = .ok (.ifCond .eq 10, 3) := by decide +kernel
theorem dX12_look_10 : decode cX12_look 10 = .ok (.aload_n 0, 1) := by decide +kernel
theorem dX12_look_11 : decode cX12_look 11 = .ok (.getfield 7, 3) := by decide +kernel
theorem dX12_look_14 : decode cX12_look 14 = .ok (.iload_n 1, 1) := by decide +kernel
theorem dX12_look_15 : decode cX12_look 15 = .ok (.iaload, 1) := by decide +kernel
theorem dX12_look_16 : decode cX12_look 16 = .ok (.ireturn, 1) := by decide +kernel
theorem dX12_look_17 : decode cX12_look 17 = .ok (.iload_n 1, 1) := by decide +kernel
theorem dX12_look_18 : decode cX12_look 18 = .ok (.bipush 8, 2) := by decide +kernel
theorem dX12_look_20 : decode cX12_look 20 = .ok (.if_icmp .ne 12, 3) := by decide +kernel
theorem dX12_look_23 : decode cX12_look 23 = .ok (.aload_n 0, 1) := by decide +kernel
theorem dX12_look_24 : decode cX12_look 24 = .ok (.getfield 7, 3) := by decide +kernel
theorem dX12_look_27 : decode cX12_look 27 = .ok (.sipush 1335, 3) := by decide +kernel
theorem dX12_look_30 : decode cX12_look 30 = .ok (.iaload, 1) := by decide +kernel
theorem dX12_look_31 : decode cX12_look 31 = .ok (.ireturn, 1) := by decide +kernel
theorem dX12_look_32 : decode cX12_look 32 = .ok (.iload_n 1, 1) := by decide +kernel
theorem dX12_look_33 : decode cX12_look 33 = .ok (.bipush 9, 2) := by decide +kernel
theorem dX12_look_35 : decode cX12_look 35 = .ok (.if_icmp .ne 8, 3) := by decide +kernel
theorem dX12_look_38 : decode cX12_look 38 = .ok (.aload_n 0, 1) := by decide +kernel
theorem dX12_look_39 : decode cX12_look 39 = .ok (.getfield 73, 3) := by decide +kernel
theorem dX12_look_42 : decode cX12_look 42 = .ok (.ireturn, 1) := by decide +kernel
theorem dX12_look_43 : decode cX12_look 43 = .ok (.iload_n 1, 1) := by decide +kernel
theorem dX12_look_44 : decode cX12_look 44 = .ok (.bipush 10, 2) := by decide +kernel
theorem dX12_look_46 : decode cX12_look 46 = .ok (.bipush 9, 2) := by decide +kernel
theorem dX12_look_48 : decode cX12_look 48 = .ok (.aload_n 0, 1) := by decide +kernel
theorem dX12_look_49 : decode cX12_look 49 = .ok (.getfield 7, 3) := by decide +kernel
theorem dX12_look_52 : decode cX12_look 52 = .ok (.iconst 0, 1) := by decide +kernel
theorem dX12_look_53 : decode cX12_look 53 = .ok (.iaload, 1) := by decide +kernel
theorem dX12_look_54 : decode cX12_look 54 = .ok (.iadd, 1) := by decide +kernel
theorem dX12_look_55 : decode cX12_look 55 = .ok (.invokestatic 65, 3) := by decide +kernel
theorem dX12_look_58 : decode cX12_look 58 = .ok (.ifCond .eq 12, 3) := by decide +kernel
theorem dX12_look_61 : decode cX12_look 61 = .ok (.aload_n 0, 1) := by decide +kernel
theorem dX12_look_62 : decode cX12_look 62 = .ok (.iload_n 1, 1) := by decide +kernel
theorem dX12_look_63 : decode cX12_look 63 = .ok (.bipush 10, 2) := by decide +kernel
theorem dX12_look_65 : decode cX12_look 65 = .ok (.isub, 1) := by decide +kernel
theorem dX12_look_66 : decode cX12_look 66 = .ok (.invokevirtual 112, 3) := by decide +kernel
theorem dX12_look_69 : decode cX12_look 69 = .ok (.ireturn, 1) := by decide +kernel
theorem dX12_look_70 : decode cX12_look 70 = .ok (.iload_n 1, 1) := by decide +kernel
theorem dX12_look_71 : decode cX12_look 71 = .ok (.bipush 20, 2) := by decide +kernel
theorem dX12_look_73 : decode cX12_look 73 = .ok (.bipush 25, 2) := by decide +kernel
theorem dX12_look_75 : decode cX12_look 75 = .ok (.invokestatic 65, 3) := by decide +kernel
theorem dX12_look_78 : decode cX12_look 78 = .ok (.ifCond .eq 18, 3) := by decide +kernel
theorem dX12_look_81 : decode cX12_look 81 = .ok (.aload_n 0, 1) := by decide +kernel
theorem dX12_look_82 : decode cX12_look 82 = .ok (.getfield 7, 3) := by decide +kernel
theorem dX12_look_85 : decode cX12_look 85 = .ok (.bipush 10, 2) := by decide +kernel
theorem dX12_look_87 : decode cX12_look 87 = .ok (.iload_n 1, 1) := by decide +kernel
theorem dX12_look_88 : decode cX12_look 88 = .ok (.iadd, 1) := by decide +kernel
theorem dX12_look_89 : decode cX12_look 89 = .ok (.bipush 20, 2) := by decide +kernel
theorem dX12_look_91 : decode cX12_look 91 = .ok (.isub, 1) := by decide +kernel
theorem dX12_look_92 : decode cX12_look 92 = .ok (.iaload, 1) := by decide +kernel
theorem dX12_look_93 : decode cX12_look 93 = .ok (.goto 4, 3) := by decide +kernel
theorem dX12_look_96 : decode cX12_look 96 = .ok (.iconst (-1), 1) := by decide +kernel
theorem dX12_look_97 : decode cX12_look 97 = .ok (.ireturn, 1) := by decide +kernel
abbrev nd_X12_look : List Nat := [100, 101]
abbrev ld_X12_look : List (Nat × Nat) := [(100, 0)]
theorem sn_X12_look_X12_isIn : ∀ c ∈ nd_X12_isIn, c ∈ nd_X12_look := by decide
theorem sl_X12_look_X12_isIn : ∀ q ∈ ld_X12_isIn, q ∈ ld_X12_look := by decide
theorem sn_X12_look_X12_guestAt : ∀ c ∈ nd_X12_guestAt, c ∈ nd_X12_look := by decide
theorem sl_X12_look_X12_guestAt : ∀ q ∈ ld_X12_guestAt, q ∈ ld_X12_look := by decide
def f_X12_look  (x1 : Int32) (h : zH) : zR := (zbd (f_X12_isIn x1 (0 : Int32) (7 : Int32) h) fun r1 h2 => (if r1 = 0 then (if x1 = (8 : Int32) then (some ((h2 101 1335), h2)) else (if x1 = (9 : Int32) then (some ((h2 100 4), h2)) else (zbd (f_X12_isIn x1 (10 : Int32) ((9 : Int32) + (h2 101 0)) h2) fun r3 h4 => (if r3 = 0 then (zbd (f_X12_isIn x1 (20 : Int32) (25 : Int32) h4) fun r5 h6 => (if r5 = 0 then (some ((-1 : Int32), h6)) else (zck (((10 : Int32) + x1) - (20 : Int32)) 2220 (some ((h6 101 (Int32.toNatClampNeg (((10 : Int32) + x1) - (20 : Int32)))), h6))))) else (zbd (f_X12_guestAt (x1 - (10 : Int32)) h4) fun r7 h8 => (some (r7, h8))))))) else (zck x1 2220 (some ((h2 101 (Int32.toNatClampNeg x1)), h2)))))
variable {p : Program} {l : Launch} {e : Env} {s : State} {m : MethodId} {args : Array Value} {below : List Frame} {meth : Method} {c : Code} {G : zG} {q : Int32 × zH}
set_option maxHeartbeats 4000000 in
set_option maxRecDepth 100000 in
theorem c_X12_look (l : Launch) (G : zG) (h : zH) (x1 : Int32) (q : Int32 × zH) (hm : ∀ c ∈ nd_X12_look, c ∈ znm G) (hk : ∀ q ∈ ld_X12_look, zlk G q.1 q.2 = true) (hf : f_X12_look x1 h = some q) : zCtI l yX12_look cX12_look 2 (some .int) (4) [.ref (zal G 100), .int x1] G h q.2 q.1 := by
  refine zMetI (by decide) (Nat.le_of_ble_eq_true rfl) ?_
  intro p e s m below meth c ls C hl hS
  have hl : lv_has ls 2 [(0, .ref (zal G 100)), (1, .int x1)] := hl
  have C : zC G p s m [.ref (zal G 100), .int x1].toArray meth c cX12_look 2 RX12 (some .int) := C
  unfold f_X12_look at hf
  refine lv_iload_n C.1 C.2.1 dX12_look_0 rfl (lv_at hl 1 rfl) ?_
  refine lv_iconst (v := (0 : Int32)) C.1 C.2.1 dX12_look_1 rfl ?_
  refine lv_bipush (v := (7 : Int32)) C.1 C.2.1 dX12_look_2 rfl ?_
  obtain ⟨r1, h2, er1, hf⟩ := zbd_some hf
  refine zcallSI (As := [.int x1, .int (0 : Int32), .int (7 : Int32)]) (rest := []) C hS ms_X12_65 (c_X12_isIn l G h x1 (0 : Int32) (7 : Int32) (r1, h2) (fun c h => hm c (sn_X12_look_X12_isIn c h)) (fun q h => hk q (sl_X12_look_X12_isIn q h)) er1) rfl rfl (Nat.le_of_ble_eq_true rfl) hl.1 ⟨Nat.le_of_ble_eq_true rfl, Nat.le_of_ble_eq_true rfl, Nat.le_of_ble_eq_true rfl, Nat.le_of_ble_eq_true rfl⟩ dX12_look_4 (fun H locs hS => ?_)
  refine lv_if_eq (tgt := 17) C.1 C.2.1 dX12_look_7 (by decide) (fun hc => ?_) (fun hc => ?_)
  · have hf := zif_t hc hf
    refine lv_iload_n C.1 C.2.1 dX12_look_17 rfl (lv_at hl 1 rfl) ?_
    refine lv_bipush (v := (8 : Int32)) C.1 C.2.1 dX12_look_18 rfl ?_
    refine lv_icmp_ne (tgt := 32) C.1 C.2.1 dX12_look_20 (by decide) (fun hc => ?_) (fun hc => ?_)
    · have hf := zif_f hc hf
      refine lv_iload_n C.1 C.2.1 dX12_look_32 rfl (lv_at hl 1 rfl) ?_
      refine lv_bipush (v := (9 : Int32)) C.1 C.2.1 dX12_look_33 rfl ?_
      refine lv_icmp_ne (tgt := 43) C.1 C.2.1 dX12_look_35 (by decide) (fun hc => ?_) (fun hc => ?_)
      · have hf := zif_f hc hf
        refine lv_iload_n C.1 C.2.1 dX12_look_43 rfl (lv_at hl 1 rfl) ?_
        refine lv_bipush (v := (10 : Int32)) C.1 C.2.1 dX12_look_44 rfl ?_
        refine lv_bipush (v := (9 : Int32)) C.1 C.2.1 dX12_look_46 rfl ?_
        refine lv_aload_n C.1 C.2.1 dX12_look_48 rfl (lv_at hl 0 rfl) ?_
        refine zgetR C hS ff_X12_7_100 (hm 100 (by decide)) (hk (100, 0) (by decide)) dX12_look_49 ?_
        refine lv_iconst (v := (0 : Int32)) C.1 C.2.1 dX12_look_52 rfl ?_
        refine zald C hS sh_101 (hm 101 (by decide)) (vp_in_iff.mpr (by decide)) dX12_look_53 ?_
        refine lv_iadd C.1 C.2.1 dX12_look_54 ?_
        obtain ⟨r3, h4, er3, hf⟩ := zbd_some hf
        refine zcallSI (As := [.int x1, .int (10 : Int32), .int ((9 : Int32) + (h2 101 0))]) (rest := []) C hS ms_X12_65 (c_X12_isIn l G h2 x1 (10 : Int32) ((9 : Int32) + (h2 101 0)) (r3, h4) (fun c h => hm c (sn_X12_look_X12_isIn c h)) (fun q h => hk q (sl_X12_look_X12_isIn q h)) er3) rfl rfl (Nat.le_of_ble_eq_true rfl) hl.1 ⟨Nat.le_of_ble_eq_true rfl, Nat.le_of_ble_eq_true rfl, Nat.le_of_ble_eq_true rfl, Nat.le_of_ble_eq_true rfl⟩ dX12_look_55 (fun H locs hS => ?_)
        refine lv_if_eq (tgt := 70) C.1 C.2.1 dX12_look_58 (by decide) (fun hc => ?_) (fun hc => ?_)
        · have hf := zif_t hc hf
          refine lv_iload_n C.1 C.2.1 dX12_look_70 rfl (lv_at hl 1 rfl) ?_
          refine lv_bipush (v := (20 : Int32)) C.1 C.2.1 dX12_look_71 rfl ?_
          refine lv_bipush (v := (25 : Int32)) C.1 C.2.1 dX12_look_73 rfl ?_
          obtain ⟨r5, h6, er5, hf⟩ := zbd_some hf
          refine zcallSI (As := [.int x1, .int (20 : Int32), .int (25 : Int32)]) (rest := []) C hS ms_X12_65 (c_X12_isIn l G h4 x1 (20 : Int32) (25 : Int32) (r5, h6) (fun c h => hm c (sn_X12_look_X12_isIn c h)) (fun q h => hk q (sl_X12_look_X12_isIn q h)) er5) rfl rfl (Nat.le_of_ble_eq_true rfl) hl.1 ⟨Nat.le_of_ble_eq_true rfl, Nat.le_of_ble_eq_true rfl, Nat.le_of_ble_eq_true rfl, Nat.le_of_ble_eq_true rfl⟩ dX12_look_75 (fun H locs hS => ?_)
          refine lv_if_eq (tgt := 96) C.1 C.2.1 dX12_look_78 (by decide) (fun hc => ?_) (fun hc => ?_)
          · have hf := zif_t hc hf
            refine lv_iconst (v := (-1 : Int32)) C.1 C.2.1 dX12_look_96 rfl ?_
            exact zretI C hS hf dX12_look_97
          · have hf := zif_f hc hf
            refine lv_aload_n C.1 C.2.1 dX12_look_81 rfl (lv_at hl 0 rfl) ?_
            refine zgetR C hS ff_X12_7_100 (hm 100 (by decide)) (hk (100, 0) (by decide)) dX12_look_82 ?_
            refine lv_bipush (v := (10 : Int32)) C.1 C.2.1 dX12_look_85 rfl ?_
            refine lv_iload_n C.1 C.2.1 dX12_look_87 rfl (lv_at hl 1 rfl) ?_
            refine lv_iadd C.1 C.2.1 dX12_look_88 ?_
            refine lv_bipush (v := (20 : Int32)) C.1 C.2.1 dX12_look_89 rfl ?_
            refine lv_isub C.1 C.2.1 dX12_look_91 ?_
            obtain ⟨hi, hf⟩ := zck_some hf
            refine zald C hS sh_101 (hm 101 (by decide)) hi dX12_look_92 ?_
            refine lv_goto (tgt := 97) C.1 C.2.1 dX12_look_93 (by decide) ?_
            exact zretI C hS hf dX12_look_97
        · have hf := zif_f hc hf
          refine lv_aload_n C.1 C.2.1 dX12_look_61 rfl (lv_at hl 0 rfl) ?_
          refine lv_iload_n C.1 C.2.1 dX12_look_62 rfl (lv_at hl 1 rfl) ?_
          refine lv_bipush (v := (10 : Int32)) C.1 C.2.1 dX12_look_63 rfl ?_
          refine lv_isub C.1 C.2.1 dX12_look_65 ?_
          obtain ⟨r7, h8, er7, hf⟩ := zbd_some hf
          refine zcallVI (As := [.int (x1 - (10 : Int32))]) (rest := []) C hS mv_X12_112 (c_X12_guestAt l G h4 (x1 - (10 : Int32)) (r7, h8) (fun c h => hm c (sn_X12_look_X12_guestAt c h)) (fun q h => hk q (sl_X12_look_X12_guestAt q h)) er7) (hm 100 (by decide)) ⟨_, _, _, sh_100, rfl, rfl⟩ rfl rfl (Nat.le_of_ble_eq_true rfl) hl.1 ⟨Nat.le_of_ble_eq_true rfl, Nat.le_of_ble_eq_true rfl, Nat.le_of_ble_eq_true rfl, Nat.le_of_ble_eq_true rfl⟩ dX12_look_66 (fun H locs hS => ?_)
          exact zretI C hS hf dX12_look_69
      · have hf := zif_t hc hf
        refine lv_aload_n C.1 C.2.1 dX12_look_38 rfl (lv_at hl 0 rfl) ?_
        refine zgetI C hS ff_X12_73_100 (hm 100 (by decide)) dX12_look_39 ?_
        exact zretI C hS hf dX12_look_42
    · have hf := zif_t hc hf
      refine lv_aload_n C.1 C.2.1 dX12_look_23 rfl (lv_at hl 0 rfl) ?_
      refine zgetR C hS ff_X12_7_100 (hm 100 (by decide)) (hk (100, 0) (by decide)) dX12_look_24 ?_
      refine lv_sipush (v := (1335 : Int32)) C.1 C.2.1 dX12_look_27 rfl ?_
      refine zald C hS sh_101 (hm 101 (by decide)) (vp_in_iff.mpr (by decide)) dX12_look_30 ?_
      exact zretI C hS hf dX12_look_31
  · have hf := zif_f hc hf
    refine lv_aload_n C.1 C.2.1 dX12_look_10 rfl (lv_at hl 0 rfl) ?_
    refine zgetR C hS ff_X12_7_100 (hm 100 (by decide)) (hk (100, 0) (by decide)) dX12_look_11 ?_
    refine lv_iload_n C.1 C.2.1 dX12_look_14 rfl (lv_at hl 1 rfl) ?_
    obtain ⟨hi, hf⟩ := zck_some hf
    refine zald C hS sh_101 (hm 101 (by decide)) hi dX12_look_15 ?_
    exact zretI C hS hf dX12_look_16
end
