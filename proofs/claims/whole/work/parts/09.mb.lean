theorem kw_1468 : Cond.code yX12_laughOf cX12_laughOf 5 (some .int) ∈ zg := zg_of (List.mem_of_getElem? (i := 1468) (by decide +kernel)) (by decide +kernel)
theorem kw_1465 : Cond.methodLink RX12 269 yX12_laughOf ∈ zg := zg_of (List.mem_of_getElem? (i := 1465) (by decide +kernel)) (by decide +kernel)
theorem kw_1467 : Cond.instanceMethod yX12_laughOf ∈ zg := zg_of (List.mem_of_getElem? (i := 1467) (by decide +kernel)) (by decide +kernel)
theorem kw_65 : Cond.selects RX12 yX12_laughOf yX12_laughOf ∈ zg := zg_of (List.mem_of_getElem? (i := 65) (by decide +kernel)) (by decide +kernel)
theorem mv_X12_269 : zMV RX12 269 yX12_laughOf cX12_laughOf 5 (some .int) 2 := ⟨⟨kw_1465, kw_1467, kw_65, kw_93, kw_1468⟩, ⟨by decide, by decide, by decide +kernel⟩, by decide⟩
theorem kw_1143 : Cond.fieldLink RX12 34 "HalfAJokeModel" "facts" "[I" ∈ zg := zg_of (List.mem_of_getElem? (i := 1143) (by decide +kernel)) (by decide +kernel)
theorem ff_X12_34_100 : zFc RX12 34 100 10 (some (109, false)) := ⟨_, _, _, tyX12, sh_100, rfl, by decide, iz_X12, kw_1143, rfl, tyX12_ok, nmX12⟩
theorem kw_1472 : Cond.code yX12_comesTo cX12_comesTo 7 (some .int) ∈ zg := zg_of (List.mem_of_getElem? (i := 1472) (by decide +kernel)) (by decide +kernel)
theorem kw_1469 : Cond.methodLink RX12 243 yX12_comesTo ∈ zg := zg_of (List.mem_of_getElem? (i := 1469) (by decide +kernel)) (by decide +kernel)
theorem kw_1471 : Cond.instanceMethod yX12_comesTo ∈ zg := zg_of (List.mem_of_getElem? (i := 1471) (by decide +kernel)) (by decide +kernel)
theorem kw_66 : Cond.selects RX12 yX12_comesTo yX12_comesTo ∈ zg := zg_of (List.mem_of_getElem? (i := 66) (by decide +kernel)) (by decide +kernel)
theorem mv_X12_243 : zMV RX12 243 yX12_comesTo cX12_comesTo 7 (some .int) 2 := ⟨⟨kw_1469, kw_1471, kw_66, kw_93, kw_1472⟩, ⟨by decide, by decide, by decide +kernel⟩, by decide⟩
theorem kw_1142 : Cond.fieldLink RX12 31 "HalfAJokeModel" "pile" "[I" ∈ zg := zg_of (List.mem_of_getElem? (i := 1142) (by decide +kernel)) (by decide +kernel)
theorem ff_X12_31_100 : zFc RX12 31 100 9 (some (108, false)) := ⟨_, _, _, tyX12, sh_100, rfl, by decide, iz_X12, kw_1142, rfl, tyX12_ok, nmX12⟩
theorem kw_1475 : Cond.code yX12_both cX12_both 3 (some .int) ∈ zg := zg_of (List.mem_of_getElem? (i := 1475) (by decide +kernel)) (by decide +kernel)
theorem kw_1473 : Cond.methodLink RX12 239 yX12_both ∈ zg := zg_of (List.mem_of_getElem? (i := 1473) (by decide +kernel)) (by decide +kernel)
theorem kw_1474 : Cond.static yX12_both ∈ zg := zg_of (List.mem_of_getElem? (i := 1474) (by decide +kernel)) (by decide +kernel)
theorem ms_X12_239 : zMS RX12 239 yX12_both cX12_both 3 (some .int) 3 := ⟨⟨kw_1473, kw_1474, kw_93, kw_1475⟩, ⟨by decide, by decide, by decide +kernel⟩, by decide⟩
theorem kw_1478 : Cond.code yX12_least cX12_least 2 (some .int) ∈ zg := zg_of (List.mem_of_getElem? (i := 1478) (by decide +kernel)) (by decide +kernel)
theorem kw_1476 : Cond.methodLink RX12 246 yX12_least ∈ zg := zg_of (List.mem_of_getElem? (i := 1476) (by decide +kernel)) (by decide +kernel)
theorem kw_1477 : Cond.static yX12_least ∈ zg := zg_of (List.mem_of_getElem? (i := 1477) (by decide +kernel)) (by decide +kernel)
theorem ms_X12_246 : zMS RX12 246 yX12_least cX12_least 2 (some .int) 2 := ⟨⟨kw_1476, kw_1477, kw_93, kw_1478⟩, ⟨by decide, by decide, by decide +kernel⟩, by decide⟩
theorem kw_1481 : Cond.code yX12_most cX12_most 2 (some .int) ∈ zg := zg_of (List.mem_of_getElem? (i := 1481) (by decide +kernel)) (by decide +kernel)
theorem kw_1479 : Cond.methodLink RX12 249 yX12_most ∈ zg := zg_of (List.mem_of_getElem? (i := 1479) (by decide +kernel)) (by decide +kernel)
theorem kw_1480 : Cond.static yX12_most ∈ zg := zg_of (List.mem_of_getElem? (i := 1480) (by decide +kernel)) (by decide +kernel)
theorem ms_X12_249 : zMS RX12 249 yX12_most cX12_most 2 (some .int) 2 := ⟨⟨kw_1479, kw_1480, kw_93, kw_1481⟩, ⟨by decide, by decide, by decide +kernel⟩, by decide⟩
theorem kw_1448 : Cond.code yX12_laysTelling cX12_laysTelling 9 (some .boolean) ∈ zg := zg_of (List.mem_of_getElem? (i := 1448) (by decide +kernel)) (by decide +kernel)
theorem kw_1445 : Cond.methodLink RX12 281 yX12_laysTelling ∈ zg := zg_of (List.mem_of_getElem? (i := 1445) (by decide +kernel)) (by decide +kernel)
theorem kw_1447 : Cond.instanceMethod yX12_laysTelling ∈ zg := zg_of (List.mem_of_getElem? (i := 1447) (by decide +kernel)) (by decide +kernel)
theorem kw_60 : Cond.selects RX12 yX12_laysTelling yX12_laysTelling ∈ zg := zg_of (List.mem_of_getElem? (i := 60) (by decide +kernel)) (by decide +kernel)
theorem mv_X12_281 : zMV RX12 281 yX12_laysTelling cX12_laysTelling 9 (some .boolean) 1 := ⟨⟨kw_1445, kw_1447, kw_60, kw_93, kw_1448⟩, ⟨by decide, by decide, by decide +kernel⟩, by decide⟩
theorem kw_1159 : Cond.fieldLink RX12 256 "HalfAJokeModel" "tellLaugh" "I" ∈ zg := zg_of (List.mem_of_getElem? (i := 1159) (by decide +kernel)) (by decide +kernel)
theorem ff_X12_256_100 : zFc RX12 256 100 26 none := ⟨_, _, _, tyX12, sh_100, rfl, by decide, iz_X12, kw_1159, rfl, tyX12_ok, nmX12⟩
theorem fw_100_26 : ∀ q : vw_C, ∀ ci fl, zsh 100 = .inr (ci, fl) → zcl[ci]? = some q → (q.2.1 26).2.2.2 = false ∧ (q.2.1 26).2.2.1 = "I" := zfin sh_100 rfl ⟨rfl, rfl⟩
theorem kw_1460 : Cond.code yX12_canBoth cX12_canBoth 5 (some .boolean) ∈ zg := zg_of (List.mem_of_getElem? (i := 1460) (by decide +kernel)) (by decide +kernel)
theorem kw_1457 : Cond.methodLink RX12 265 yX12_canBoth ∈ zg := zg_of (List.mem_of_getElem? (i := 1457) (by decide +kernel)) (by decide +kernel)
theorem kw_1459 : Cond.instanceMethod yX12_canBoth ∈ zg := zg_of (List.mem_of_getElem? (i := 1459) (by decide +kernel)) (by decide +kernel)
theorem kw_63 : Cond.selects RX12 yX12_canBoth yX12_canBoth ∈ zg := zg_of (List.mem_of_getElem? (i := 63) (by decide +kernel)) (by decide +kernel)
theorem mv_X12_265 : zMV RX12 265 yX12_canBoth cX12_canBoth 5 (some .boolean) 4 := ⟨⟨kw_1457, kw_1459, kw_63, kw_93, kw_1460⟩, ⟨by decide, by decide, by decide +kernel⟩, by decide⟩
theorem kw_1464 : Cond.code yX12_canTell cX12_canTell 3 (some .boolean) ∈ zg := zg_of (List.mem_of_getElem? (i := 1464) (by decide +kernel)) (by decide +kernel)
theorem kw_1461 : Cond.methodLink RX12 252 yX12_canTell ∈ zg := zg_of (List.mem_of_getElem? (i := 1461) (by decide +kernel)) (by decide +kernel)
theorem kw_1463 : Cond.instanceMethod yX12_canTell ∈ zg := zg_of (List.mem_of_getElem? (i := 1463) (by decide +kernel)) (by decide +kernel)
theorem kw_64 : Cond.selects RX12 yX12_canTell yX12_canTell ∈ zg := zg_of (List.mem_of_getElem? (i := 64) (by decide +kernel)) (by decide +kernel)
theorem mv_X12_252 : zMV RX12 252 yX12_canTell cX12_canTell 3 (some .boolean) 2 := ⟨⟨kw_1461, kw_1463, kw_64, kw_93, kw_1464⟩, ⟨by decide, by decide, by decide +kernel⟩, by decide⟩
theorem kw_1156 : Cond.fieldLink RX12 272 "HalfAJokeModel" "tellFront" "I" ∈ zg := zg_of (List.mem_of_getElem? (i := 1156) (by decide +kernel)) (by decide +kernel)
theorem ff_X12_272_100 : zFc RX12 272 100 23 none := ⟨_, _, _, tyX12, sh_100, rfl, by decide, iz_X12, kw_1156, rfl, tyX12_ok, nmX12⟩
theorem fw_100_23 : ∀ q : vw_C, ∀ ci fl, zsh 100 = .inr (ci, fl) → zcl[ci]? = some q → (q.2.1 23).2.2.2 = false ∧ (q.2.1 23).2.2.1 = "I" := zfin sh_100 rfl ⟨rfl, rfl⟩
theorem kw_1157 : Cond.fieldLink RX12 275 "HalfAJokeModel" "tellEnd" "I" ∈ zg := zg_of (List.mem_of_getElem? (i := 1157) (by decide +kernel)) (by decide +kernel)
theorem ff_X12_275_100 : zFc RX12 275 100 24 none := ⟨_, _, _, tyX12, sh_100, rfl, by decide, iz_X12, kw_1157, rfl, tyX12_ok, nmX12⟩
theorem fw_100_24 : ∀ q : vw_C, ∀ ci fl, zsh 100 = .inr (ci, fl) → zcl[ci]? = some q → (q.2.1 24).2.2.2 = false ∧ (q.2.1 24).2.2.1 = "I" := zfin sh_100 rfl ⟨rfl, rfl⟩
theorem kw_1158 : Cond.fieldLink RX12 278 "HalfAJokeModel" "tellWho" "I" ∈ zg := zg_of (List.mem_of_getElem? (i := 1158) (by decide +kernel)) (by decide +kernel)
theorem ff_X12_278_100 : zFc RX12 278 100 25 none := ⟨_, _, _, tyX12, sh_100, rfl, by decide, iz_X12, kw_1158, rfl, tyX12_ok, nmX12⟩
theorem fw_100_25 : ∀ q : vw_C, ∀ ci fl, zsh 100 = .inr (ci, fl) → zcl[ci]? = some q → (q.2.1 25).2.2.2 = false ∧ (q.2.1 25).2.2.1 = "I" := zfin sh_100 rfl ⟨rfl, rfl⟩
theorem kw_1531 : Cond.code yX12_merryNow cX12_merryNow 3 (some .int) ∈ zg := zg_of (List.mem_of_getElem? (i := 1531) (by decide +kernel)) (by decide +kernel)
theorem kw_1528 : Cond.methodLink RX12 299 yX12_merryNow ∈ zg := zg_of (List.mem_of_getElem? (i := 1528) (by decide +kernel)) (by decide +kernel)
theorem kw_1530 : Cond.instanceMethod yX12_merryNow ∈ zg := zg_of (List.mem_of_getElem? (i := 1530) (by decide +kernel)) (by decide +kernel)
theorem kw_70 : Cond.selects RX12 yX12_merryNow yX12_merryNow ∈ zg := zg_of (List.mem_of_getElem? (i := 70) (by decide +kernel)) (by decide +kernel)
theorem mv_X12_299 : zMV RX12 299 yX12_merryNow cX12_merryNow 3 (some .int) 0 := ⟨⟨kw_1528, kw_1530, kw_70, kw_93, kw_1531⟩, ⟨by decide, by decide, by decide +kernel⟩, by decide⟩
theorem kw_1136 : Cond.fieldLink RX12 19 "HalfAJokeModel" "lying" "[I" ∈ zg := zg_of (List.mem_of_getElem? (i := 1136) (by decide +kernel)) (by decide +kernel)
theorem ff_X12_19_100 : zFc RX12 19 100 3 (some (104, false)) := ⟨_, _, _, tyX12, sh_100, rfl, by decide, iz_X12, kw_1136, rfl, tyX12_ok, nmX12⟩
theorem kw_1491 : Cond.code yX12_isTold cX12_isTold 1 none ∈ zg := zg_of (List.mem_of_getElem? (i := 1491) (by decide +kernel)) (by decide +kernel)
theorem kw_1488 : Cond.methodLink RX12 284 yX12_isTold ∈ zg := zg_of (List.mem_of_getElem? (i := 1488) (by decide +kernel)) (by decide +kernel)
theorem kw_1490 : Cond.instanceMethod yX12_isTold ∈ zg := zg_of (List.mem_of_getElem? (i := 1490) (by decide +kernel)) (by decide +kernel)
theorem kw_68 : Cond.selects RX12 yX12_isTold yX12_isTold ∈ zg := zg_of (List.mem_of_getElem? (i := 68) (by decide +kernel)) (by decide +kernel)
theorem mv_X12_284 : zMV RX12 284 yX12_isTold cX12_isTold 1 none 0 := ⟨⟨kw_1488, kw_1490, kw_68, kw_93, kw_1491⟩, ⟨by decide, by decide, by decide +kernel⟩, by decide⟩
theorem kw_1587 : Cond.code yX12_canLaugh cX12_canLaugh 5 (some .boolean) ∈ zg := zg_of (List.mem_of_getElem? (i := 1587) (by decide +kernel)) (by decide +kernel)
theorem kw_1584 : Cond.methodLink RX12 332 yX12_canLaugh ∈ zg := zg_of (List.mem_of_getElem? (i := 1584) (by decide +kernel)) (by decide +kernel)
theorem kw_1586 : Cond.instanceMethod yX12_canLaugh ∈ zg := zg_of (List.mem_of_getElem? (i := 1586) (by decide +kernel)) (by decide +kernel)
theorem kw_78 : Cond.selects RX12 yX12_canLaugh yX12_canLaugh ∈ zg := zg_of (List.mem_of_getElem? (i := 78) (by decide +kernel)) (by decide +kernel)
theorem mv_X12_332 : zMV RX12 332 yX12_canLaugh cX12_canLaugh 5 (some .boolean) 2 := ⟨⟨kw_1584, kw_1586, kw_78, kw_93, kw_1587⟩, ⟨by decide, by decide, by decide +kernel⟩, by decide⟩
theorem kw_1440 : Cond.code yX12_keeps cX12_keeps 3 none ∈ zg := zg_of (List.mem_of_getElem? (i := 1440) (by decide +kernel)) (by decide +kernel)
theorem kw_1437 : Cond.methodLink RX12 293 yX12_keeps ∈ zg := zg_of (List.mem_of_getElem? (i := 1437) (by decide +kernel)) (by decide +kernel)
theorem kw_1439 : Cond.instanceMethod yX12_keeps ∈ zg := zg_of (List.mem_of_getElem? (i := 1439) (by decide +kernel)) (by decide +kernel)
theorem kw_58 : Cond.selects RX12 yX12_keeps yX12_keeps ∈ zg := zg_of (List.mem_of_getElem? (i := 58) (by decide +kernel)) (by decide +kernel)
theorem mv_X12_293 : zMV RX12 293 yX12_keeps cX12_keeps 3 none 0 := ⟨⟨kw_1437, kw_1439, kw_58, kw_93, kw_1440⟩, ⟨by decide, by decide, by decide +kernel⟩, by decide⟩
theorem kw_1444 : Cond.code yX12_anEvening cX12_anEvening 7 (some .int) ∈ zg := zg_of (List.mem_of_getElem? (i := 1444) (by decide +kernel)) (by decide +kernel)
theorem kw_1441 : Cond.methodLink RX12 296 yX12_anEvening ∈ zg := zg_of (List.mem_of_getElem? (i := 1441) (by decide +kernel)) (by decide +kernel)
theorem kw_1443 : Cond.instanceMethod yX12_anEvening ∈ zg := zg_of (List.mem_of_getElem? (i := 1443) (by decide +kernel)) (by decide +kernel)
theorem kw_59 : Cond.selects RX12 yX12_anEvening yX12_anEvening ∈ zg := zg_of (List.mem_of_getElem? (i := 59) (by decide +kernel)) (by decide +kernel)
theorem mv_X12_296 : zMV RX12 296 yX12_anEvening cX12_anEvening 7 (some .int) 0 := ⟨⟨kw_1441, kw_1443, kw_59, kw_93, kw_1444⟩, ⟨by decide, by decide, by decide +kernel⟩, by decide⟩
theorem kw_1495 : Cond.code yX12_writes cX12_writes 4 none ∈ zg := zg_of (List.mem_of_getElem? (i := 1495) (by decide +kernel)) (by decide +kernel)
theorem kw_1492 : Cond.methodLink RX12 290 yX12_writes ∈ zg := zg_of (List.mem_of_getElem? (i := 1492) (by decide +kernel)) (by decide +kernel)
theorem kw_1494 : Cond.instanceMethod yX12_writes ∈ zg := zg_of (List.mem_of_getElem? (i := 1494) (by decide +kernel)) (by decide +kernel)
theorem kw_69 : Cond.selects RX12 yX12_writes yX12_writes ∈ zg := zg_of (List.mem_of_getElem? (i := 69) (by decide +kernel)) (by decide +kernel)
theorem mv_X12_290 : zMV RX12 290 yX12_writes cX12_writes 4 none 2 := ⟨⟨kw_1492, kw_1494, kw_69, kw_93, kw_1495⟩, ⟨by decide, by decide, by decide +kernel⟩, by decide⟩
theorem kw_1485 : Cond.code yX12_draw cX12_draw 2 (some .int) ∈ zg := zg_of (List.mem_of_getElem? (i := 1485) (by decide +kernel)) (by decide +kernel)
theorem kw_1482 : Cond.methodLink RX12 287 yX12_draw ∈ zg := zg_of (List.mem_of_getElem? (i := 1482) (by decide +kernel)) (by decide +kernel)
theorem kw_1484 : Cond.instanceMethod yX12_draw ∈ zg := zg_of (List.mem_of_getElem? (i := 1484) (by decide +kernel)) (by decide +kernel)
theorem kw_67 : Cond.selects RX12 yX12_draw yX12_draw ∈ zg := zg_of (List.mem_of_getElem? (i := 67) (by decide +kernel)) (by decide +kernel)
theorem mv_X12_287 : zMV RX12 287 yX12_draw cX12_draw 2 (some .int) 1 := ⟨⟨kw_1482, kw_1484, kw_67, kw_93, kw_1485⟩, ⟨by decide, by decide, by decide +kernel⟩, by decide⟩
theorem kw_1486 : Cond.constant RX12 79 (1664525 : Int32) ∈ zg := zg_of (List.mem_of_getElem? (i := 1486) (by decide +kernel)) (by decide +kernel)
theorem kw_1487 : Cond.constant RX12 80 (1013904223 : Int32) ∈ zg := zg_of (List.mem_of_getElem? (i := 1487) (by decide +kernel)) (by decide +kernel)
section
theorem dX12_both_0 : decode cX12_both 0 = .ok (.iload_n 0, 1) := by decide +kernel
theorem dX12_both_1 : decode cX12_both 1 = .ok (.tableswitch 100 13 21 #[51, 55, 59, 100, 63, 74, 85, 100, 96], 51) := by decide +kernel
theorem dX12_both_52 : decode cX12_both 52 = .ok (.iload_n 1, 1) := by decide +kernel
theorem dX12_both_53 : decode cX12_both 53 = .ok (.iload_n 2, 1) := by decide +kernel
theorem dX12_both_54 : decode cX12_both 54 = .ok (.iadd, 1) := by decide +kernel
theorem dX12_both_55 : decode cX12_both 55 = .ok (.ireturn, 1) := by decide +kernel
theorem dX12_both_56 : decode cX12_both 56 = .ok (.iload_n 1, 1) := by decide +kernel
theorem dX12_both_57 : decode cX12_both 57 = .ok (.iload_n 2, 1) := by decide +kernel
theorem dX12_both_58 : decode cX12_both 58 = .ok (.isub, 1) := by decide +kernel
theorem dX12_both_59 : decode cX12_both 59 = .ok (.ireturn, 1) := by decide +kernel
theorem dX12_both_60 : decode cX12_both 60 = .ok (.iload_n 1, 1) := by decide +kernel
theorem dX12_both_61 : decode cX12_both 61 = .ok (.iload_n 2, 1) := by decide +kernel
theorem dX12_both_62 : decode cX12_both 62 = .ok (.imul, 1) := by decide +kernel
theorem dX12_both_63 : decode cX12_both 63 = .ok (.ireturn, 1) := by decide +kernel
theorem dX12_both_64 : decode cX12_both 64 = .ok (.iload_n 1, 1) := by decide +kernel
theorem dX12_both_65 : decode cX12_both 65 = .ok (.iload_n 2, 1) := by decide +kernel
theorem dX12_both_66 : decode cX12_both 66 = .ok (.if_icmp .ge 7, 3) := by decide +kernel
theorem dX12_both_69 : decode cX12_both 69 = .ok (.iconst 1, 1) := by decide +kernel
theorem dX12_both_70 : decode cX12_both 70 = .ok (.goto 4, 3) := by decide +kernel
theorem dX12_both_73 : decode cX12_both 73 = .ok (.iconst 0, 1) := by decide +kernel
theorem dX12_both_74 : decode cX12_both 74 = .ok (.ireturn, 1) := by decide +kernel
theorem dX12_both_75 : decode cX12_both 75 = .ok (.iload_n 1, 1) := by decide +kernel
theorem dX12_both_76 : decode cX12_both 76 = .ok (.iload_n 2, 1) := by decide +kernel
theorem dX12_both_77 : decode cX12_both 77 = .ok (.if_icmp .ne 7, 3) := by decide +kernel
theorem dX12_both_80 : decode cX12_both 80 = .ok (.iconst 1, 1) := by decide +kernel
theorem dX12_both_81 : decode cX12_both 81 = .ok (.goto 4, 3) := by decide +kernel
theorem dX12_both_84 : decode cX12_both 84 = .ok (.iconst 0, 1) := by decide +kernel
theorem dX12_both_85 : decode cX12_both 85 = .ok (.ireturn, 1) := by decide +kernel
theorem dX12_both_86 : decode cX12_both 86 = .ok (.iload_n 1, 1) := by decide +kernel
theorem dX12_both_87 : decode cX12_both 87 = .ok (.iload_n 2, 1) := by decide +kernel
theorem dX12_both_88 : decode cX12_both 88 = .ok (.if_icmp .le 7, 3) := by decide +kernel
theorem dX12_both_91 : decode cX12_both 91 = .ok (.iconst 1, 1) := by decide +kernel
theorem dX12_both_92 : decode cX12_both 92 = .ok (.goto 4, 3) := by decide +kernel
theorem dX12_both_95 : decode cX12_both 95 = .ok (.iconst 0, 1) := by decide +kernel
theorem dX12_both_96 : decode cX12_both 96 = .ok (.ireturn, 1) := by decide +kernel
theorem dX12_both_97 : decode cX12_both 97 = .ok (.iload_n 1, 1) := by decide +kernel
theorem dX12_both_98 : decode cX12_both 98 = .ok (.iload_n 2, 1) := by decide +kernel
theorem dX12_both_99 : decode cX12_both 99 = .ok (.iand, 1) := by decide +kernel
theorem dX12_both_100 : decode cX12_both 100 = .ok (.ireturn, 1) := by decide +kernel
theorem dX12_both_101 : decode cX12_both 101 = .ok (.iload_n 1, 1) := by decide +kernel
theorem dX12_both_102 : decode cX12_both 102 = .ok (.iload_n 2, 1) := by decide +kernel
theorem dX12_both_103 : decode cX12_both 103 = .ok (.ior, 1) := by decide +kernel
theorem dX12_both_104 : decode cX12_both 104 = .ok (.ireturn, 1) := by decide +kernel
abbrev nd_X12_both : List Nat := []
abbrev ld_X12_both : List (Nat × Nat) := []
def f_X12_both_101  (x1 : Int32) (x2 : Int32) (h : zH) : zR := (some ((x1 ||| x2), h))
def f_X12_both  (x0 : Int32) (x1 : Int32) (x2 : Int32) (h : zH) : zR := (if x0 = (13 : Int32) then (some ((x1 + x2), h)) else (if x0 = (14 : Int32) then (some ((x1 - x2), h)) else (if x0 = (15 : Int32) then (some ((x1 * x2), h)) else (if x0 = (16 : Int32) then (f_X12_both_101  x1 x2 h) else (if x0 = (17 : Int32) then (if x2 ≤ x1 then (some ((0 : Int32), h)) else (some ((1 : Int32), h))) else (if x0 = (18 : Int32) then (if x1 = x2 then (some ((1 : Int32), h)) else (some ((0 : Int32), h))) else (if x0 = (19 : Int32) then (if x1 ≤ x2 then (some ((0 : Int32), h)) else (some ((1 : Int32), h))) else (if x0 = (20 : Int32) then (f_X12_both_101  x1 x2 h) else (if x0 = (21 : Int32) then (some ((x1 &&& x2), h)) else (f_X12_both_101  x1 x2 h))))))))))
variable {p : Program} {l : Launch} {e : Env} {s : State} {m : MethodId} {args : Array Value} {below : List Frame} {meth : Method} {c : Code} {G : zG} {q : Int32 × zH}
set_option maxHeartbeats 4000000 in
set_option maxRecDepth 100000 in
theorem w_X12_both_101  (C : zC G p s m args meth c cX12_both 3 RX12 (some .int)) (hm : ∀ c ∈ nd_X12_both, c ∈ znm G) (hk : ∀ q ∈ ld_X12_both, zlk G q.1 q.2 = true)  : ∀ (ls : Array Slot) (H : Heap) (locs : List Loc) (h : zH) (x1 : Int32) (x2 : Int32), lv_has ls 3 [(1, .int x1), (2, .int x2)] → zS G h s.heap H locs → f_X12_both_101  x1 x2 h = some q → W p l e (zrm (2)) s m args below meth c H locs 0 0 (MQ below (zQI G q.2 q.1) args s 0 0 (zA G)) (F0 m 101 ls []) := by
  intro ls H locs h x1 x2 hl hS hf
  unfold f_X12_both_101 at hf
  refine lv_iload_n C.1 C.2.1 dX12_both_101 rfl (lv_at hl 0 rfl) ?_
  refine lv_iload_n C.1 C.2.1 dX12_both_102 rfl (lv_at hl 1 rfl) ?_
  refine lv_ior C.1 C.2.1 dX12_both_103 ?_
  exact zretI C hS hf dX12_both_104
set_option maxHeartbeats 4000000 in
set_option maxRecDepth 100000 in
theorem c_X12_both (l : Launch) (G : zG) (h : zH) (x0 : Int32) (x1 : Int32) (x2 : Int32) (q : Int32 × zH) (hm : ∀ c ∈ nd_X12_both, c ∈ znm G) (hk : ∀ q ∈ ld_X12_both, zlk G q.1 q.2 = true) (hf : f_X12_both x0 x1 x2 h = some q) : zCtI l yX12_both cX12_both 3 (some .int) (2) [.int x0, .int x1, .int x2] G h q.2 q.1 := by
  refine zMetI (by decide) (Nat.le_of_ble_eq_true rfl) ?_
  intro p e s m below meth c ls C hl hS
  have hl : lv_has ls 3 [(0, .int x0), (1, .int x1), (2, .int x2)] := hl
  have C : zC G p s m [.int x0, .int x1, .int x2].toArray meth c cX12_both 3 RX12 (some .int) := C
  unfold f_X12_both at hf
  refine lv_iload_n C.1 C.2.1 dX12_both_0 rfl (lv_at hl 0 rfl) ?_
  by_cases hc13 : x0 = (13 : Int32)
  · have hf := zif_t hc13 hf
    refine lv_tableIn (off := 51) (tgt := 52) C.1 C.2.1 dX12_both_1 (by rw [hc13]; decide) (by rw [hc13]; decide) (by rw [hc13]; rfl) (by decide) ?_
    refine lv_iload_n C.1 C.2.1 dX12_both_52 rfl (lv_at hl 1 rfl) ?_
    refine lv_iload_n C.1 C.2.1 dX12_both_53 rfl (lv_at hl 2 rfl) ?_
    refine lv_iadd C.1 C.2.1 dX12_both_54 ?_
    exact zretI C hS hf dX12_both_55
  have hf := zif_f hc13 hf
  by_cases hc14 : x0 = (14 : Int32)
  · have hf := zif_t hc14 hf
    refine lv_tableIn (off := 55) (tgt := 56) C.1 C.2.1 dX12_both_1 (by rw [hc14]; decide) (by rw [hc14]; decide) (by rw [hc14]; rfl) (by decide) ?_
    refine lv_iload_n C.1 C.2.1 dX12_both_56 rfl (lv_at hl 1 rfl) ?_
    refine lv_iload_n C.1 C.2.1 dX12_both_57 rfl (lv_at hl 2 rfl) ?_
    refine lv_isub C.1 C.2.1 dX12_both_58 ?_
    exact zretI C hS hf dX12_both_59
  have hf := zif_f hc14 hf
  by_cases hc15 : x0 = (15 : Int32)
  · have hf := zif_t hc15 hf
    refine lv_tableIn (off := 59) (tgt := 60) C.1 C.2.1 dX12_both_1 (by rw [hc15]; decide) (by rw [hc15]; decide) (by rw [hc15]; rfl) (by decide) ?_
    refine lv_iload_n C.1 C.2.1 dX12_both_60 rfl (lv_at hl 1 rfl) ?_
    refine lv_iload_n C.1 C.2.1 dX12_both_61 rfl (lv_at hl 2 rfl) ?_
    refine lv_imul C.1 C.2.1 dX12_both_62 ?_
    exact zretI C hS hf dX12_both_63
  have hf := zif_f hc15 hf
  by_cases hc16 : x0 = (16 : Int32)
  · have hf := zif_t hc16 hf
    refine lv_tableIn (off := 100) (tgt := 101) C.1 C.2.1 dX12_both_1 (by rw [hc16]; decide) (by rw [hc16]; decide) (by rw [hc16]; rfl) (by decide) ?_
    exact w_X12_both_101 C hm hk  _ _ _ _ _ _ (lv_sub hl [1, 2] rfl) hS hf
  have hf := zif_f hc16 hf
  by_cases hc17 : x0 = (17 : Int32)
  · have hf := zif_t hc17 hf
    refine lv_tableIn (off := 63) (tgt := 64) C.1 C.2.1 dX12_both_1 (by rw [hc17]; decide) (by rw [hc17]; decide) (by rw [hc17]; rfl) (by decide) ?_
    refine lv_iload_n C.1 C.2.1 dX12_both_64 rfl (lv_at hl 1 rfl) ?_
    refine lv_iload_n C.1 C.2.1 dX12_both_65 rfl (lv_at hl 2 rfl) ?_
    refine lv_icmp_ge (tgt := 73) C.1 C.2.1 dX12_both_66 (by decide) (fun hc => ?_) (fun hc => ?_)
    · have hf := zif_t hc hf
      refine lv_iconst (v := (0 : Int32)) C.1 C.2.1 dX12_both_73 rfl ?_
      exact zretI C hS hf dX12_both_74
    · have hf := zif_f hc hf
      refine lv_iconst (v := (1 : Int32)) C.1 C.2.1 dX12_both_69 rfl ?_
      refine lv_goto (tgt := 74) C.1 C.2.1 dX12_both_70 (by decide) ?_
      exact zretI C hS hf dX12_both_74
  have hf := zif_f hc17 hf
  by_cases hc18 : x0 = (18 : Int32)
  · have hf := zif_t hc18 hf
    refine lv_tableIn (off := 74) (tgt := 75) C.1 C.2.1 dX12_both_1 (by rw [hc18]; decide) (by rw [hc18]; decide) (by rw [hc18]; rfl) (by decide) ?_
    refine lv_iload_n C.1 C.2.1 dX12_both_75 rfl (lv_at hl 1 rfl) ?_
    refine lv_iload_n C.1 C.2.1 dX12_both_76 rfl (lv_at hl 2 rfl) ?_
    refine lv_icmp_ne (tgt := 84) C.1 C.2.1 dX12_both_77 (by decide) (fun hc => ?_) (fun hc => ?_)
    · have hf := zif_f hc hf
      refine lv_iconst (v := (0 : Int32)) C.1 C.2.1 dX12_both_84 rfl ?_
      exact zretI C hS hf dX12_both_85
    · have hf := zif_t hc hf
      refine lv_iconst (v := (1 : Int32)) C.1 C.2.1 dX12_both_80 rfl ?_
      refine lv_goto (tgt := 85) C.1 C.2.1 dX12_both_81 (by decide) ?_
      exact zretI C hS hf dX12_both_85
  have hf := zif_f hc18 hf
  by_cases hc19 : x0 = (19 : Int32)
  · have hf := zif_t hc19 hf
    refine lv_tableIn (off := 85) (tgt := 86) C.1 C.2.1 dX12_both_1 (by rw [hc19]; decide) (by rw [hc19]; decide) (by rw [hc19]; rfl) (by decide) ?_
    refine lv_iload_n C.1 C.2.1 dX12_both_86 rfl (lv_at hl 1 rfl) ?_
    refine lv_iload_n C.1 C.2.1 dX12_both_87 rfl (lv_at hl 2 rfl) ?_
    refine lv_icmp_le (tgt := 95) C.1 C.2.1 dX12_both_88 (by decide) (fun hc => ?_) (fun hc => ?_)
    · have hf := zif_t hc hf
      refine lv_iconst (v := (0 : Int32)) C.1 C.2.1 dX12_both_95 rfl ?_
      exact zretI C hS hf dX12_both_96
    · have hf := zif_f hc hf
      refine lv_iconst (v := (1 : Int32)) C.1 C.2.1 dX12_both_91 rfl ?_
      refine lv_goto (tgt := 96) C.1 C.2.1 dX12_both_92 (by decide) ?_
      exact zretI C hS hf dX12_both_96
  have hf := zif_f hc19 hf
  by_cases hc20 : x0 = (20 : Int32)
  · have hf := zif_t hc20 hf
    refine lv_tableIn (off := 100) (tgt := 101) C.1 C.2.1 dX12_both_1 (by rw [hc20]; decide) (by rw [hc20]; decide) (by rw [hc20]; rfl) (by decide) ?_
    exact w_X12_both_101 C hm hk  _ _ _ _ _ _ (lv_sub hl [1, 2] rfl) hS hf
  have hf := zif_f hc20 hf
  by_cases hc21 : x0 = (21 : Int32)
  · have hf := zif_t hc21 hf
    refine lv_tableIn (off := 96) (tgt := 97) C.1 C.2.1 dX12_both_1 (by rw [hc21]; decide) (by rw [hc21]; decide) (by rw [hc21]; rfl) (by decide) ?_
    refine lv_iload_n C.1 C.2.1 dX12_both_97 rfl (lv_at hl 1 rfl) ?_
    refine lv_iload_n C.1 C.2.1 dX12_both_98 rfl (lv_at hl 2 rfl) ?_
    refine lv_iand C.1 C.2.1 dX12_both_99 ?_
    exact zretI C hS hf dX12_both_100
  have hf := zif_f hc21 hf
  refine lv_tableOut (tgt := 101) C.1 C.2.1 dX12_both_1 (zso 13 9 (fun k hk => by match k, hk with | 0, _ => exact hc13 | 1, _ => exact hc14 | 2, _ => exact hc15 | 3, _ => exact hc16 | 4, _ => exact hc17 | 5, _ => exact hc18 | 6, _ => exact hc19 | 7, _ => exact hc20 | 8, _ => exact hc21)) (by decide) ?_
  exact w_X12_both_101 C hm hk  _ _ _ _ _ _ (lv_sub hl [1, 2] rfl) hS hf
end
section
theorem dX12_comesTo_0 : decode cX12_comesTo 0 = .ok (.iconst 0, 1) := by decide +kernel
theorem dX12_comesTo_1 : decode cX12_comesTo 1 = .ok (.istore_n 3, 1) := by decide +kernel
theorem dX12_comesTo_2 : decode cX12_comesTo 2 = .ok (.iload_n 1, 1) := by decide +kernel
theorem dX12_comesTo_3 : decode cX12_comesTo 3 = .ok (.istore 4, 2) := by decide +kernel
theorem dX12_comesTo_5 : decode cX12_comesTo 5 = .ok (.iload 4, 2) := by decide +kernel
theorem dX12_comesTo_7 : decode cX12_comesTo 7 = .ok (.iload_n 2, 1) := by decide +kernel
theorem dX12_comesTo_8 : decode cX12_comesTo 8 = .ok (.if_icmp .ge 158, 3) := by decide +kernel
theorem dX12_comesTo_11 : decode cX12_comesTo 11 = .ok (.aload_n 0, 1) := by decide +kernel
theorem dX12_comesTo_12 : decode cX12_comesTo 12 = .ok (.getfield 7, 3) := by decide +kernel
theorem dX12_comesTo_15 : decode cX12_comesTo 15 = .ok (.sipush 1400, 3) := by decide +kernel
theorem dX12_comesTo_18 : decode cX12_comesTo 18 = .ok (.iconst 2, 1) := by decide +kernel
theorem dX12_comesTo_19 : decode cX12_comesTo 19 = .ok (.iload 4, 2) := by decide +kernel
theorem dX12_comesTo_21 : decode cX12_comesTo 21 = .ok (.imul, 1) := by decide +kernel
theorem dX12_comesTo_22 : decode cX12_comesTo 22 = .ok (.iadd, 1) := by decide +kernel
theorem dX12_comesTo_23 : decode cX12_comesTo 23 = .ok (.iaload, 1) := by decide +kernel
theorem dX12_comesTo_24 : decode cX12_comesTo 24 = .ok (.istore 5, 2) := by decide +kernel
theorem dX12_comesTo_26 : decode cX12_comesTo 26 = .ok (.aload_n 0, 1) := by decide +kernel
theorem dX12_comesTo_27 : decode cX12_comesTo 27 = .ok (.getfield 7, 3) := by decide +kernel
theorem dX12_comesTo_30 : decode cX12_comesTo 30 = .ok (.sipush 1400, 3) := by decide +kernel
theorem dX12_comesTo_33 : decode cX12_comesTo 33 = .ok (.iconst 2, 1) := by decide +kernel
theorem dX12_comesTo_34 : decode cX12_comesTo 34 = .ok (.iload 4, 2) := by decide +kernel
theorem dX12_comesTo_36 : decode cX12_comesTo 36 = .ok (.imul, 1) := by decide +kernel
theorem dX12_comesTo_37 : decode cX12_comesTo 37 = .ok (.iadd, 1) := by decide +kernel
theorem dX12_comesTo_38 : decode cX12_comesTo 38 = .ok (.iconst 1, 1) := by decide +kernel
theorem dX12_comesTo_39 : decode cX12_comesTo 39 = .ok (.iadd, 1) := by decide +kernel
theorem dX12_comesTo_40 : decode cX12_comesTo 40 = .ok (.iaload, 1) := by decide +kernel
theorem dX12_comesTo_41 : decode cX12_comesTo 41 = .ok (.istore 6, 2) := by decide +kernel
theorem dX12_comesTo_43 : decode cX12_comesTo 43 = .ok (.iload 5, 2) := by decide +kernel
theorem dX12_comesTo_45 : decode cX12_comesTo 45 = .ok (.bipush 13, 2) := by decide +kernel
theorem dX12_comesTo_47 : decode cX12_comesTo 47 = .ok (.if_icmp .ge 32, 3) := by decide +kernel
theorem dX12_comesTo_50 : decode cX12_comesTo 50 = .ok (.aload_n 0, 1) := by decide +kernel
theorem dX12_comesTo_51 : decode cX12_comesTo 51 = .ok (.getfield 31, 3) := by decide +kernel
theorem dX12_comesTo_54 : decode cX12_comesTo 54 = .ok (.iload_n 3, 1) := by decide +kernel
theorem dX12_comesTo_55 : decode cX12_comesTo 55 = .ok (.iload 5, 2) := by decide +kernel
theorem dX12_comesTo_57 : decode cX12_comesTo 57 = .ok (.ifCond .ne 8, 3) := by decide +kernel
theorem dX12_comesTo_60 : decode cX12_comesTo 60 = .ok (.iload 6, 2) := by decide +kernel
theorem dX12_comesTo_62 : decode cX12_comesTo 62 = .ok (.goto 10, 3) := by decide +kernel
theorem dX12_comesTo_65 : decode cX12_comesTo 65 = .ok (.aload_n 0, 1) := by decide +kernel
theorem dX12_comesTo_66 : decode cX12_comesTo 66 = .ok (.getfield 34, 3) := by decide +kernel
theorem dX12_comesTo_69 : decode cX12_comesTo 69 = .ok (.iload 5, 2) := by decide +kernel
theorem dX12_comesTo_71 : decode cX12_comesTo 71 = .ok (.iaload, 1) := by decide +kernel
theorem dX12_comesTo_72 : decode cX12_comesTo 72 = .ok (.iastore, 1) := by decide +kernel
theorem dX12_comesTo_73 : decode cX12_comesTo 73 = .ok (.iinc 3 1, 3) := by decide +kernel
theorem dX12_comesTo_76 : decode cX12_comesTo 76 = .ok (.goto 84, 3) := by decide +kernel
theorem dX12_comesTo_79 : decode cX12_comesTo 79 = .ok (.iload 5, 2) := by decide +kernel
theorem dX12_comesTo_81 : decode cX12_comesTo 81 = .ok (.bipush 16, 2) := by decide +kernel
theorem dX12_comesTo_83 : decode cX12_comesTo 83 = .ok (.if_icmp .ne 19, 3) := by decide +kernel
theorem dX12_comesTo_86 : decode cX12_comesTo 86 = .ok (.aload_n 0, 1) := by decide +kernel
theorem dX12_comesTo_87 : decode cX12_comesTo 87 = .ok (.getfield 31, 3) := by decide +kernel
theorem dX12_comesTo_90 : decode cX12_comesTo 90 = .ok (.iload_n 3, 1) := by decide +kernel
theorem dX12_comesTo_91 : decode cX12_comesTo 91 = .ok (.iconst 1, 1) := by decide +kernel
theorem dX12_comesTo_92 : decode cX12_comesTo 92 = .ok (.isub, 1) := by decide +kernel
theorem dX12_comesTo_93 : decode cX12_comesTo 93 = .ok (.dup2, 1) := by decide +kernel
theorem dX12_comesTo_94 : decode cX12_comesTo 94 = .ok (.iaload, 1) := by decide +kernel
theorem dX12_comesTo_95 : decode cX12_comesTo 95 = .ok (.iload 6, 2) := by decide +kernel
theorem dX12_comesTo_97 : decode cX12_comesTo 97 = .ok (.idiv, 1) := by decide +kernel
theorem dX12_comesTo_98 : decode cX12_comesTo 98 = .ok (.iastore, 1) := by decide +kernel
theorem dX12_comesTo_99 : decode cX12_comesTo 99 = .ok (.goto 61, 3) := by decide +kernel
theorem dX12_comesTo_102 : decode cX12_comesTo 102 = .ok (.iload 5, 2) := by decide +kernel
theorem dX12_comesTo_104 : decode cX12_comesTo 104 = .ok (.bipush 20, 2) := by decide +kernel
theorem dX12_comesTo_106 : decode cX12_comesTo 106 = .ok (.if_icmp .ne 24, 3) := by decide +kernel
theorem dX12_comesTo_109 : decode cX12_comesTo 109 = .ok (.aload_n 0, 1) := by decide +kernel
theorem dX12_comesTo_110 : decode cX12_comesTo 110 = .ok (.getfield 31, 3) := by decide +kernel
theorem dX12_comesTo_113 : decode cX12_comesTo 113 = .ok (.iload_n 3, 1) := by decide +kernel
theorem dX12_comesTo_114 : decode cX12_comesTo 114 = .ok (.iconst 1, 1) := by decide +kernel
theorem dX12_comesTo_115 : decode cX12_comesTo 115 = .ok (.isub, 1) := by decide +kernel
theorem dX12_comesTo_116 : decode cX12_comesTo 116 = .ok (.iconst 1, 1) := by decide +kernel
theorem dX12_comesTo_117 : decode cX12_comesTo 117 = .ok (.aload_n 0, 1) := by decide +kernel
theorem dX12_comesTo_118 : decode cX12_comesTo 118 = .ok (.getfield 31, 3) := by decide +kernel
theorem dX12_comesTo_121 : decode cX12_comesTo 121 = .ok (.iload_n 3, 1) := by decide +kernel
theorem dX12_comesTo_122 : decode cX12_comesTo 122 = .ok (.iconst 1, 1) := by decide +kernel
theorem dX12_comesTo_123 : decode cX12_comesTo 123 = .ok (.isub, 1) := by decide +kernel
theorem dX12_comesTo_124 : decode cX12_comesTo 124 = .ok (.iaload, 1) := by decide +kernel
theorem dX12_comesTo_125 : decode cX12_comesTo 125 = .ok (.isub, 1) := by decide +kernel
theorem dX12_comesTo_126 : decode cX12_comesTo 126 = .ok (.iastore, 1) := by decide +kernel
theorem dX12_comesTo_127 : decode cX12_comesTo 127 = .ok (.goto 33, 3) := by decide +kernel
theorem dX12_comesTo_130 : decode cX12_comesTo 130 = .ok (.iinc 3 (-1), 3) := by decide +kernel
theorem dX12_comesTo_133 : decode cX12_comesTo 133 = .ok (.aload_n 0, 1) := by decide +kernel
theorem dX12_comesTo_134 : decode cX12_comesTo 134 = .ok (.getfield 31, 3) := by decide +kernel
theorem dX12_comesTo_137 : decode cX12_comesTo 137 = .ok (.iload_n 3, 1) := by decide +kernel
theorem dX12_comesTo_138 : decode cX12_comesTo 138 = .ok (.iconst 1, 1) := by decide +kernel
theorem dX12_comesTo_139 : decode cX12_comesTo 139 = .ok (.isub, 1) := by decide +kernel
theorem dX12_comesTo_140 : decode cX12_comesTo 140 = .ok (.iload 5, 2) := by decide +kernel
theorem dX12_comesTo_142 : decode cX12_comesTo 142 = .ok (.aload_n 0, 1) := by decide +kernel
theorem dX12_comesTo_143 : decode cX12_comesTo 143 = .ok (.getfield 31, 3) := by decide +kernel
theorem dX12_comesTo_146 : decode cX12_comesTo 146 = .ok (.iload_n 3, 1) := by decide +kernel
theorem dX12_comesTo_147 : decode cX12_comesTo 147 = .ok (.iconst 1, 1) := by decide +kernel
theorem dX12_comesTo_148 : decode cX12_comesTo 148 = .ok (.isub, 1) := by decide +kernel
theorem dX12_comesTo_149 : decode cX12_comesTo 149 = .ok (.iaload, 1) := by decide +kernel
theorem dX12_comesTo_150 : decode cX12_comesTo 150 = .ok (.aload_n 0, 1) := by decide +kernel
theorem dX12_comesTo_151 : decode cX12_comesTo 151 = .ok (.getfield 31, 3) := by decide +kernel
theorem dX12_comesTo_154 : decode cX12_comesTo 154 = .ok (.iload_n 3, 1) := by decide +kernel
theorem dX12_comesTo_155 : decode cX12_comesTo 155 = .ok (.iaload, 1) := by decide +kernel
theorem dX12_comesTo_156 : decode cX12_comesTo 156 = .ok (.invokestatic 239, 3) := by decide +kernel
theorem dX12_comesTo_159 : decode cX12_comesTo 159 = .ok (.iastore, 1) := by decide +kernel
theorem dX12_comesTo_160 : decode cX12_comesTo 160 = .ok (.iinc 4 1, 3) := by decide +kernel
theorem dX12_comesTo_163 : decode cX12_comesTo 163 = .ok (.goto (-158), 3) := by decide +kernel
theorem dX12_comesTo_166 : decode cX12_comesTo 166 = .ok (.aload_n 0, 1) := by decide +kernel
theorem dX12_comesTo_167 : decode cX12_comesTo 167 = .ok (.getfield 31, 3) := by decide +kernel
theorem dX12_comesTo_170 : decode cX12_comesTo 170 = .ok (.iconst 0, 1) := by decide +kernel
theorem dX12_comesTo_171 : decode cX12_comesTo 171 = .ok (.iaload, 1) := by decide +kernel
theorem dX12_comesTo_172 : decode cX12_comesTo 172 = .ok (.ireturn, 1) := by decide +kernel
abbrev nd_X12_comesTo : List Nat := [100, 101, 108, 109]
abbrev ld_X12_comesTo : List (Nat × Nat) := [(100, 0), (100, 9), (100, 10)]
theorem sn_X12_comesTo_X12_both : ∀ c ∈ nd_X12_both, c ∈ nd_X12_comesTo := by decide
theorem sl_X12_comesTo_X12_both : ∀ q ∈ ld_X12_both, q ∈ ld_X12_comesTo := by decide
def f_X12_comesTo_160 (k5 : Int32 → Int32 → Int32 → zH → zR) (x2 : Int32) (x3 : Int32) (x4 : Int32) (h : zH) : zR := (zlt (x4 + (1 : Int32)) fun y7 => (k5 x2 x3 y7 h))
def f_X12_comesTo_72 (k5 : Int32 → Int32 → Int32 → zH → zR) (x2 : Int32) (x3 : Int32) (x4 : Int32) (s0 : Int32) (s1 : Int32) (h : zH) : zR := (zck s1 420 (zst (zup h 108 (Int32.toNatClampNeg s1) s0) fun h10 => (zlt (x3 + (1 : Int32)) fun y11 => (f_X12_comesTo_160 k5 x2 y11 x4 h10))))
def f_X12_comesTo_5  : Nat → Int32 → Int32 → Int32 → zH → zR
  | 0 => fun _ _ _ _ => none
  | n + 1 => fun x2 x3 x4 h => (if x2 ≤ x4 then (some ((h 108 0), h)) else (zck ((1400 : Int32) + ((2 : Int32) * x4)) 2220 (zlt (h 101 (Int32.toNatClampNeg ((1400 : Int32) + ((2 : Int32) * x4)))) fun y1 => (zck (((1400 : Int32) + ((2 : Int32) * x4)) + (1 : Int32)) 2220 (zlt (h 101 (Int32.toNatClampNeg (((1400 : Int32) + ((2 : Int32) * x4)) + (1 : Int32)))) fun y2 => (if (13 : Int32) ≤ y1 then (if y1 = (16 : Int32) then (zck (x3 - (1 : Int32)) 420 (znz y2 (zck (x3 - (1 : Int32)) 420 (zst (zup h 108 (Int32.toNatClampNeg (x3 - (1 : Int32))) ((h 108 (Int32.toNatClampNeg (x3 - (1 : Int32)))) / y2)) fun h9 => (f_X12_comesTo_160 (f_X12_comesTo_5  n) x2 x3 x4 h9))))) else (if y1 = (20 : Int32) then (zck (x3 - (1 : Int32)) 420 (zck (x3 - (1 : Int32)) 420 (zst (zup h 108 (Int32.toNatClampNeg (x3 - (1 : Int32))) ((1 : Int32) - (h 108 (Int32.toNatClampNeg (x3 - (1 : Int32)))))) fun h8 => (f_X12_comesTo_160 (f_X12_comesTo_5  n) x2 x3 x4 h8)))) else (zlt (x3 + (-1 : Int32)) fun y3 => (zck (y3 - (1 : Int32)) 420 (zck y3 420 (zbd (f_X12_both y1 (h 108 (Int32.toNatClampNeg (y3 - (1 : Int32)))) (h 108 (Int32.toNatClampNeg y3)) h) fun r4 h5 => (zck (y3 - (1 : Int32)) 420 (zst (zup h5 108 (Int32.toNatClampNeg (y3 - (1 : Int32))) r4) fun h6 => (f_X12_comesTo_160 (f_X12_comesTo_5  n) x2 y3 x4 h6))))))))) else (if y1 = 0 then (f_X12_comesTo_72 (f_X12_comesTo_5  n) x2 x3 x4 y2 x3 h) else (zck y1 8 (f_X12_comesTo_72 (f_X12_comesTo_5  n) x2 x3 x4 (h 109 (Int32.toNatClampNeg y1)) x3 h)))))))))
def f_X12_comesTo  (x1 : Int32) (x2 : Int32) (h : zH) : zR := (f_X12_comesTo_5  zN x2 (0 : Int32) x1 h)
variable {p : Program} {l : Launch} {e : Env} {s : State} {m : MethodId} {args : Array Value} {below : List Frame} {meth : Method} {c : Code} {G : zG} {q : Int32 × zH}
set_option maxHeartbeats 4000000 in
set_option maxRecDepth 100000 in
theorem w_X12_comesTo_160 {k5 : Int32 → Int32 → Int32 → zH → zR} (C : zC G p s m args meth c cX12_comesTo 7 RX12 (some .int)) (hm : ∀ c ∈ nd_X12_comesTo, c ∈ znm G) (hk : ∀ q ∈ ld_X12_comesTo, zlk G q.1 q.2 = true) (hk5 : ∀ (ls : Array Slot) (H : Heap) (locs : List Loc) (h : zH) (x2 : Int32) (x3 : Int32) (x4 : Int32), lv_has ls 7 [(0, .ref (zal G 100)), (2, .int x2), (3, .int x3), (4, .int x4)] → zS G h s.heap H locs → k5 x2 x3 x4 h = some q → W p l e (zrm (3)) s m args below meth c H locs 0 0 (MQ below (zQI G q.2 q.1) args s 0 0 (zA G)) (F0 m 5 ls [])) : ∀ (ls : Array Slot) (H : Heap) (locs : List Loc) (h : zH) (x2 : Int32) (x3 : Int32) (x4 : Int32), lv_has ls 7 [(0, .ref (zal G 100)), (2, .int x2), (3, .int x3), (4, .int x4)] → zS G h s.heap H locs → f_X12_comesTo_160 k5 x2 x3 x4 h = some q → W p l e (zrm (3)) s m args below meth c H locs 0 0 (MQ below (zQI G q.2 q.1) args s 0 0 (zA G)) (F0 m 160 ls []) := by
  intro ls H locs h x2 x3 x4 hl hS hf
  unfold f_X12_comesTo_160 at hf
  obtain ⟨y7, ey7, hf⟩ := zlt_some hf
  refine lv_iinc (v := y7) (lv' := [(4, .int y7), (0, .ref (zal G 100)), (2, .int x2), (3, .int x3)]) C.1 C.2.1 dX12_comesTo_160 hl (k := 3) rfl ey7.symm (by decide) rfl (fun ls hl => ?_)
  refine lv_goto (tgt := 5) C.1 C.2.1 dX12_comesTo_163 (by decide) ?_
  exact hk5 _ _ _ _ _ _ _ (lv_sub hl [1, 2, 3, 0] rfl) hS hf
set_option maxHeartbeats 4000000 in
set_option maxRecDepth 100000 in
theorem w_X12_comesTo_72 {k5 : Int32 → Int32 → Int32 → zH → zR} (C : zC G p s m args meth c cX12_comesTo 7 RX12 (some .int)) (hm : ∀ c ∈ nd_X12_comesTo, c ∈ znm G) (hk : ∀ q ∈ ld_X12_comesTo, zlk G q.1 q.2 = true) (hk5 : ∀ (ls : Array Slot) (H : Heap) (locs : List Loc) (h : zH) (x2 : Int32) (x3 : Int32) (x4 : Int32), lv_has ls 7 [(0, .ref (zal G 100)), (2, .int x2), (3, .int x3), (4, .int x4)] → zS G h s.heap H locs → k5 x2 x3 x4 h = some q → W p l e (zrm (3)) s m args below meth c H locs 0 0 (MQ below (zQI G q.2 q.1) args s 0 0 (zA G)) (F0 m 5 ls [])) : ∀ (ls : Array Slot) (H : Heap) (locs : List Loc) (h : zH) (x2 : Int32) (x3 : Int32) (x4 : Int32) (s0 : Int32) (s1 : Int32), lv_has ls 7 [(0, .ref (zal G 100)), (2, .int x2), (3, .int x3), (4, .int x4)] → zS G h s.heap H locs → f_X12_comesTo_72 k5 x2 x3 x4 s0 s1 h = some q → W p l e (zrm (3)) s m args below meth c H locs 0 0 (MQ below (zQI G q.2 q.1) args s 0 0 (zA G)) (F0 m 72 ls [.int s0, .int s1, .ref (zal G 108)]) := by
  intro ls H locs h x2 x3 x4 s0 s1 hl hS hf
  unfold f_X12_comesTo_72 at hf
  obtain ⟨hi, hf⟩ := zck_some hf
  refine zast C hS sh_108 (hm 108 (by decide)) hi dX12_comesTo_72 (fun H locs hS => ?_)
  obtain ⟨h10, eh10, hf⟩ := zst_some hf
  have hS : zS G h10 s.heap H locs := by rw [eh10]; exact hS
  obtain ⟨y11, ey11, hf⟩ := zlt_some hf
  refine lv_iinc (v := y11) (lv' := [(3, .int y11), (0, .ref (zal G 100)), (2, .int x2), (4, .int x4)]) C.1 C.2.1 dX12_comesTo_73 hl (k := 2) rfl ey11.symm (by decide) rfl (fun ls hl => ?_)
  refine lv_goto (tgt := 160) C.1 C.2.1 dX12_comesTo_76 (by decide) ?_
  exact w_X12_comesTo_160 C hm hk hk5 _ _ _ _ _ _ _ (lv_sub hl [1, 2, 0, 3] rfl) hS hf
set_option maxHeartbeats 4000000 in
set_option maxRecDepth 100000 in
theorem w_X12_comesTo_5  (C : zC G p s m args meth c cX12_comesTo 7 RX12 (some .int)) (hm : ∀ c ∈ nd_X12_comesTo, c ∈ znm G) (hk : ∀ q ∈ ld_X12_comesTo, zlk G q.1 q.2 = true)  : ∀ n, ∀ (ls : Array Slot) (H : Heap) (locs : List Loc) (h : zH) (x2 : Int32) (x3 : Int32) (x4 : Int32), lv_has ls 7 [(0, .ref (zal G 100)), (2, .int x2), (3, .int x3), (4, .int x4)] → zS G h s.heap H locs → f_X12_comesTo_5  n x2 x3 x4 h = some q → W p l e (zrm (3)) s m args below meth c H locs 0 0 (MQ below (zQI G q.2 q.1) args s 0 0 (zA G)) (F0 m 5 ls []) := by
  intro n
  induction n with
  | zero => intro ls H locs h x2 x3 x4 hl hS hf; cases hf
  | succ n ih =>
    intro ls H locs h x2 x3 x4 hl hS hf
    rw [f_X12_comesTo_5] at hf
    refine lv_iload C.1 C.2.1 dX12_comesTo_5 (lv_at hl 3 rfl) ?_
    refine lv_iload_n C.1 C.2.1 dX12_comesTo_7 rfl (lv_at hl 1 rfl) ?_
    refine lv_icmp_ge (tgt := 166) C.1 C.2.1 dX12_comesTo_8 (by decide) (fun hc => ?_) (fun hc => ?_)
    · have hf := zif_t hc hf
      refine lv_aload_n C.1 C.2.1 dX12_comesTo_166 rfl (lv_at hl 0 rfl) ?_
      refine zgetR C hS ff_X12_31_100 (hm 100 (by decide)) (hk (100, 9) (by decide)) dX12_comesTo_167 ?_
      refine lv_iconst (v := (0 : Int32)) C.1 C.2.1 dX12_comesTo_170 rfl ?_
      refine zald C hS sh_108 (hm 108 (by decide)) (vp_in_iff.mpr (by decide)) dX12_comesTo_171 ?_
      exact zretI C hS hf dX12_comesTo_172
    · have hf := zif_f hc hf
      refine lv_aload_n C.1 C.2.1 dX12_comesTo_11 rfl (lv_at hl 0 rfl) ?_
      refine zgetR C hS ff_X12_7_100 (hm 100 (by decide)) (hk (100, 0) (by decide)) dX12_comesTo_12 ?_
      refine lv_sipush (v := (1400 : Int32)) C.1 C.2.1 dX12_comesTo_15 rfl ?_
      refine lv_iconst (v := (2 : Int32)) C.1 C.2.1 dX12_comesTo_18 rfl ?_
      refine lv_iload C.1 C.2.1 dX12_comesTo_19 (lv_at hl 3 rfl) ?_
      refine lv_imul C.1 C.2.1 dX12_comesTo_21 ?_
      refine lv_iadd C.1 C.2.1 dX12_comesTo_22 ?_
      obtain ⟨hi, hf⟩ := zck_some hf
      refine zald C hS sh_101 (hm 101 (by decide)) hi dX12_comesTo_23 ?_
      obtain ⟨y1, ey1, hf⟩ := zlt_some hf
      refine ztop ey1 ?_
      refine lv_istore (lv' := [(5, .int y1), (0, .ref (zal G 100)), (2, .int x2), (3, .int x3), (4, .int x4)]) C.1 C.2.1 dX12_comesTo_24 hl (by decide) rfl (fun ls hl => ?_)
      refine lv_aload_n C.1 C.2.1 dX12_comesTo_26 rfl (lv_at hl 1 rfl) ?_
      refine zgetR C hS ff_X12_7_100 (hm 100 (by decide)) (hk (100, 0) (by decide)) dX12_comesTo_27 ?_
      refine lv_sipush (v := (1400 : Int32)) C.1 C.2.1 dX12_comesTo_30 rfl ?_
      refine lv_iconst (v := (2 : Int32)) C.1 C.2.1 dX12_comesTo_33 rfl ?_
      refine lv_iload C.1 C.2.1 dX12_comesTo_34 (lv_at hl 4 rfl) ?_
      refine lv_imul C.1 C.2.1 dX12_comesTo_36 ?_
      refine lv_iadd C.1 C.2.1 dX12_comesTo_37 ?_
      refine lv_iconst (v := (1 : Int32)) C.1 C.2.1 dX12_comesTo_38 rfl ?_
      refine lv_iadd C.1 C.2.1 dX12_comesTo_39 ?_
      obtain ⟨hi, hf⟩ := zck_some hf
      refine zald C hS sh_101 (hm 101 (by decide)) hi dX12_comesTo_40 ?_
      obtain ⟨y2, ey2, hf⟩ := zlt_some hf
      refine ztop ey2 ?_
      refine lv_istore (lv' := [(6, .int y2), (5, .int y1), (0, .ref (zal G 100)), (2, .int x2), (3, .int x3), (4, .int x4)]) C.1 C.2.1 dX12_comesTo_41 hl (by decide) rfl (fun ls hl => ?_)
      refine lv_iload C.1 C.2.1 dX12_comesTo_43 (lv_at hl 1 rfl) ?_
      refine lv_bipush (v := (13 : Int32)) C.1 C.2.1 dX12_comesTo_45 rfl ?_
      refine lv_icmp_ge (tgt := 79) C.1 C.2.1 dX12_comesTo_47 (by decide) (fun hc => ?_) (fun hc => ?_)
      · have hf := zif_t hc hf
        refine lv_iload C.1 C.2.1 dX12_comesTo_79 (lv_at hl 1 rfl) ?_
        refine lv_bipush (v := (16 : Int32)) C.1 C.2.1 dX12_comesTo_81 rfl ?_
        refine lv_icmp_ne (tgt := 102) C.1 C.2.1 dX12_comesTo_83 (by decide) (fun hc => ?_) (fun hc => ?_)
        · have hf := zif_f hc hf
          refine lv_iload C.1 C.2.1 dX12_comesTo_102 (lv_at hl 1 rfl) ?_
          refine lv_bipush (v := (20 : Int32)) C.1 C.2.1 dX12_comesTo_104 rfl ?_
          refine lv_icmp_ne (tgt := 130) C.1 C.2.1 dX12_comesTo_106 (by decide) (fun hc => ?_) (fun hc => ?_)
          · have hf := zif_f hc hf
            obtain ⟨y3, ey3, hf⟩ := zlt_some hf
            refine lv_iinc (v := y3) (lv' := [(3, .int y3), (6, .int y2), (5, .int y1), (0, .ref (zal G 100)), (2, .int x2), (4, .int x4)]) C.1 C.2.1 dX12_comesTo_130 hl (k := 4) rfl ey3.symm (by decide) rfl (fun ls hl => ?_)
            refine lv_aload_n C.1 C.2.1 dX12_comesTo_133 rfl (lv_at hl 3 rfl) ?_
            refine zgetR C hS ff_X12_31_100 (hm 100 (by decide)) (hk (100, 9) (by decide)) dX12_comesTo_134 ?_
            refine lv_iload_n C.1 C.2.1 dX12_comesTo_137 rfl (lv_at hl 0 rfl) ?_
            refine lv_iconst (v := (1 : Int32)) C.1 C.2.1 dX12_comesTo_138 rfl ?_
            refine lv_isub C.1 C.2.1 dX12_comesTo_139 ?_
            refine lv_iload C.1 C.2.1 dX12_comesTo_140 (lv_at hl 2 rfl) ?_
            refine lv_aload_n C.1 C.2.1 dX12_comesTo_142 rfl (lv_at hl 3 rfl) ?_
            refine zgetR C hS ff_X12_31_100 (hm 100 (by decide)) (hk (100, 9) (by decide)) dX12_comesTo_143 ?_
            refine lv_iload_n C.1 C.2.1 dX12_comesTo_146 rfl (lv_at hl 0 rfl) ?_
            refine lv_iconst (v := (1 : Int32)) C.1 C.2.1 dX12_comesTo_147 rfl ?_
            refine lv_isub C.1 C.2.1 dX12_comesTo_148 ?_
            obtain ⟨hi, hf⟩ := zck_some hf
            refine zald C hS sh_108 (hm 108 (by decide)) hi dX12_comesTo_149 ?_
            refine lv_aload_n C.1 C.2.1 dX12_comesTo_150 rfl (lv_at hl 3 rfl) ?_
            refine zgetR C hS ff_X12_31_100 (hm 100 (by decide)) (hk (100, 9) (by decide)) dX12_comesTo_151 ?_
            refine lv_iload_n C.1 C.2.1 dX12_comesTo_154 rfl (lv_at hl 0 rfl) ?_
            obtain ⟨hi, hf⟩ := zck_some hf
            refine zald C hS sh_108 (hm 108 (by decide)) hi dX12_comesTo_155 ?_
            obtain ⟨r4, h5, er4, hf⟩ := zbd_some hf
            refine zcallSI (As := [.int y1, .int (h 108 (Int32.toNatClampNeg (y3 - (1 : Int32)))), .int (h 108 (Int32.toNatClampNeg y3))]) (rest := [.int (y3 - (1 : Int32)), .ref (zal G 108)]) C hS ms_X12_239 (c_X12_both l G h y1 (h 108 (Int32.toNatClampNeg (y3 - (1 : Int32)))) (h 108 (Int32.toNatClampNeg y3)) (r4, h5) (fun c h => hm c (sn_X12_comesTo_X12_both c h)) (fun q h => hk q (sl_X12_comesTo_X12_both q h)) er4) rfl rfl (Nat.le_of_ble_eq_true rfl) hl.1 ⟨Nat.le_of_ble_eq_true rfl, Nat.le_of_ble_eq_true rfl, Nat.le_of_ble_eq_true rfl, Nat.le_of_ble_eq_true rfl⟩ dX12_comesTo_156 (fun H locs hS => ?_)
            obtain ⟨hi, hf⟩ := zck_some hf
            refine zast C hS sh_108 (hm 108 (by decide)) hi dX12_comesTo_159 (fun H locs hS => ?_)
            obtain ⟨h6, eh6, hf⟩ := zst_some hf
            have hS : zS G h6 s.heap H locs := by rw [eh6]; exact hS
            exact w_X12_comesTo_160 C hm hk ih _ _ _ _ _ _ _ (lv_sub hl [3, 4, 0, 5] rfl) hS hf
          · have hf := zif_t hc hf
            refine lv_aload_n C.1 C.2.1 dX12_comesTo_109 rfl (lv_at hl 2 rfl) ?_
            refine zgetR C hS ff_X12_31_100 (hm 100 (by decide)) (hk (100, 9) (by decide)) dX12_comesTo_110 ?_
            refine lv_iload_n C.1 C.2.1 dX12_comesTo_113 rfl (lv_at hl 4 rfl) ?_
            refine lv_iconst (v := (1 : Int32)) C.1 C.2.1 dX12_comesTo_114 rfl ?_
            refine lv_isub C.1 C.2.1 dX12_comesTo_115 ?_
            refine lv_iconst (v := (1 : Int32)) C.1 C.2.1 dX12_comesTo_116 rfl ?_
            refine lv_aload_n C.1 C.2.1 dX12_comesTo_117 rfl (lv_at hl 2 rfl) ?_
            refine zgetR C hS ff_X12_31_100 (hm 100 (by decide)) (hk (100, 9) (by decide)) dX12_comesTo_118 ?_
            refine lv_iload_n C.1 C.2.1 dX12_comesTo_121 rfl (lv_at hl 4 rfl) ?_
            refine lv_iconst (v := (1 : Int32)) C.1 C.2.1 dX12_comesTo_122 rfl ?_
            refine lv_isub C.1 C.2.1 dX12_comesTo_123 ?_
            obtain ⟨hi, hf⟩ := zck_some hf
            refine zald C hS sh_108 (hm 108 (by decide)) hi dX12_comesTo_124 ?_
            refine lv_isub C.1 C.2.1 dX12_comesTo_125 ?_
            obtain ⟨hi, hf⟩ := zck_some hf
            refine zast C hS sh_108 (hm 108 (by decide)) hi dX12_comesTo_126 (fun H locs hS => ?_)
            obtain ⟨h8, eh8, hf⟩ := zst_some hf
            have hS : zS G h8 s.heap H locs := by rw [eh8]; exact hS
            refine lv_goto (tgt := 160) C.1 C.2.1 dX12_comesTo_127 (by decide) ?_
            exact w_X12_comesTo_160 C hm hk ih _ _ _ _ _ _ _ (lv_sub hl [2, 3, 4, 5] rfl) hS hf
        · have hf := zif_t hc hf
          refine lv_aload_n C.1 C.2.1 dX12_comesTo_86 rfl (lv_at hl 2 rfl) ?_
          refine zgetR C hS ff_X12_31_100 (hm 100 (by decide)) (hk (100, 9) (by decide)) dX12_comesTo_87 ?_
          refine lv_iload_n C.1 C.2.1 dX12_comesTo_90 rfl (lv_at hl 4 rfl) ?_
          refine lv_iconst (v := (1 : Int32)) C.1 C.2.1 dX12_comesTo_91 rfl ?_
          refine lv_isub C.1 C.2.1 dX12_comesTo_92 ?_
          refine lv_dup2_11 C.1 C.2.1 dX12_comesTo_93 rfl rfl ?_
          obtain ⟨hi, hf⟩ := zck_some hf
          refine zald C hS sh_108 (hm 108 (by decide)) hi dX12_comesTo_94 ?_
          refine lv_iload C.1 C.2.1 dX12_comesTo_95 (lv_at hl 0 rfl) ?_
          obtain ⟨hz, hf⟩ := znz_some hf
          refine lv_idiv C.1 C.2.1 dX12_comesTo_97 hz ?_
          obtain ⟨hi, hf⟩ := zck_some hf
          refine zast C hS sh_108 (hm 108 (by decide)) hi dX12_comesTo_98 (fun H locs hS => ?_)
          obtain ⟨h9, eh9, hf⟩ := zst_some hf
          have hS : zS G h9 s.heap H locs := by rw [eh9]; exact hS
          refine lv_goto (tgt := 160) C.1 C.2.1 dX12_comesTo_99 (by decide) ?_
          exact w_X12_comesTo_160 C hm hk ih _ _ _ _ _ _ _ (lv_sub hl [2, 3, 4, 5] rfl) hS hf
      · have hf := zif_f hc hf
        refine lv_aload_n C.1 C.2.1 dX12_comesTo_50 rfl (lv_at hl 2 rfl) ?_
        refine zgetR C hS ff_X12_31_100 (hm 100 (by decide)) (hk (100, 9) (by decide)) dX12_comesTo_51 ?_
        refine lv_iload_n C.1 C.2.1 dX12_comesTo_54 rfl (lv_at hl 4 rfl) ?_
        refine lv_iload C.1 C.2.1 dX12_comesTo_55 (lv_at hl 1 rfl) ?_
        refine lv_if_ne (tgt := 65) C.1 C.2.1 dX12_comesTo_57 (by decide) (fun hc => ?_) (fun hc => ?_)
        · have hf := zif_f hc hf
          refine lv_aload_n C.1 C.2.1 dX12_comesTo_65 rfl (lv_at hl 2 rfl) ?_
          refine zgetR C hS ff_X12_34_100 (hm 100 (by decide)) (hk (100, 10) (by decide)) dX12_comesTo_66 ?_
          refine lv_iload C.1 C.2.1 dX12_comesTo_69 (lv_at hl 1 rfl) ?_
          obtain ⟨hi, hf⟩ := zck_some hf
          refine zald C hS sh_109 (hm 109 (by decide)) hi dX12_comesTo_71 ?_
          exact w_X12_comesTo_72 C hm hk ih _ _ _ _ _ _ _ _ _ (lv_sub hl [2, 3, 4, 5] rfl) hS hf
        · have hf := zif_t hc hf
          refine lv_iload C.1 C.2.1 dX12_comesTo_60 (lv_at hl 0 rfl) ?_
          refine lv_goto (tgt := 72) C.1 C.2.1 dX12_comesTo_62 (by decide) ?_
          exact w_X12_comesTo_72 C hm hk ih _ _ _ _ _ _ _ _ _ (lv_sub hl [2, 3, 4, 5] rfl) hS hf
set_option maxHeartbeats 4000000 in
set_option maxRecDepth 100000 in
theorem c_X12_comesTo (l : Launch) (G : zG) (h : zH) (x1 : Int32) (x2 : Int32) (q : Int32 × zH) (hm : ∀ c ∈ nd_X12_comesTo, c ∈ znm G) (hk : ∀ q ∈ ld_X12_comesTo, zlk G q.1 q.2 = true) (hf : f_X12_comesTo x1 x2 h = some q) : zCtI l yX12_comesTo cX12_comesTo 7 (some .int) (3) [.ref (zal G 100), .int x1, .int x2] G h q.2 q.1 := by
  refine zMetI (by decide) (Nat.le_of_ble_eq_true rfl) ?_
  intro p e s m below meth c ls C hl hS
  have hl : lv_has ls 7 [(0, .ref (zal G 100)), (1, .int x1), (2, .int x2)] := hl
  have C : zC G p s m [.ref (zal G 100), .int x1, .int x2].toArray meth c cX12_comesTo 7 RX12 (some .int) := C
  unfold f_X12_comesTo at hf
  refine lv_iconst (v := (0 : Int32)) C.1 C.2.1 dX12_comesTo_0 rfl ?_
  refine lv_istore_n (lv' := [(3, .int (0 : Int32)), (0, .ref (zal G 100)), (1, .int x1), (2, .int x2)]) C.1 C.2.1 dX12_comesTo_1 rfl hl (by decide) rfl (fun ls hl => ?_)
  refine lv_iload_n C.1 C.2.1 dX12_comesTo_2 rfl (lv_at hl 2 rfl) ?_
  refine lv_istore (lv' := [(4, .int x1), (3, .int (0 : Int32)), (0, .ref (zal G 100)), (1, .int x1), (2, .int x2)]) C.1 C.2.1 dX12_comesTo_3 hl (by decide) rfl (fun ls hl => ?_)
  exact w_X12_comesTo_5 C hm hk  zN _ _ _ _ _ _ _ (lv_sub hl [2, 4, 1, 0] rfl) hS hf
end
section
theorem dX12_least_0 : decode cX12_least 0 = .ok (.iload_n 0, 1) := by decide +kernel
theorem dX12_least_1 : decode cX12_least 1 = .ok (.iload_n 1, 1) := by decide +kernel
theorem dX12_least_2 : decode cX12_least 2 = .ok (.if_icmp .ge 7, 3) := by decide +kernel
theorem dX12_least_5 : decode cX12_least 5 = .ok (.iload_n 0, 1) := by decide +kernel
theorem dX12_least_6 : decode cX12_least 6 = .ok (.goto 4, 3) := by decide +kernel
theorem dX12_least_9 : decode cX12_least 9 = .ok (.iload_n 1, 1) := by decide +kernel
theorem dX12_least_10 : decode cX12_least 10 = .ok (.ireturn, 1) := by decide +kernel
abbrev nd_X12_least : List Nat := []
abbrev ld_X12_least : List (Nat × Nat) := []
def f_X12_least  (x0 : Int32) (x1 : Int32) (h : zH) : zR := (if x1 ≤ x0 then (some (x1, h)) else (some (x0, h)))
variable {p : Program} {l : Launch} {e : Env} {s : State} {m : MethodId} {args : Array Value} {below : List Frame} {meth : Method} {c : Code} {G : zG} {q : Int32 × zH}
set_option maxHeartbeats 4000000 in
set_option maxRecDepth 100000 in
theorem c_X12_least (l : Launch) (G : zG) (h : zH) (x0 : Int32) (x1 : Int32) (q : Int32 × zH) (hm : ∀ c ∈ nd_X12_least, c ∈ znm G) (hk : ∀ q ∈ ld_X12_least, zlk G q.1 q.2 = true) (hf : f_X12_least x0 x1 h = some q) : zCtI l yX12_least cX12_least 2 (some .int) (2) [.int x0, .int x1] G h q.2 q.1 := by
  refine zMetI (by decide) (Nat.le_of_ble_eq_true rfl) ?_
  intro p e s m below meth c ls C hl hS
  have hl : lv_has ls 2 [(0, .int x0), (1, .int x1)] := hl
  have C : zC G p s m [.int x0, .int x1].toArray meth c cX12_least 2 RX12 (some .int) := C
  unfold f_X12_least at hf
  refine lv_iload_n C.1 C.2.1 dX12_least_0 rfl (lv_at hl 0 rfl) ?_
  refine lv_iload_n C.1 C.2.1 dX12_least_1 rfl (lv_at hl 1 rfl) ?_
  refine lv_icmp_ge (tgt := 9) C.1 C.2.1 dX12_least_2 (by decide) (fun hc => ?_) (fun hc => ?_)
  · have hf := zif_t hc hf
    refine lv_iload_n C.1 C.2.1 dX12_least_9 rfl (lv_at hl 1 rfl) ?_
    exact zretI C hS hf dX12_least_10
  · have hf := zif_f hc hf
    refine lv_iload_n C.1 C.2.1 dX12_least_5 rfl (lv_at hl 0 rfl) ?_
    refine lv_goto (tgt := 10) C.1 C.2.1 dX12_least_6 (by decide) ?_
    exact zretI C hS hf dX12_least_10
end
section
theorem dX12_most_0 : decode cX12_most 0 = .ok (.iload_n 0, 1) := by decide +kernel
theorem dX12_most_1 : decode cX12_most 1 = .ok (.iload_n 1, 1) := by decide +kernel
theorem dX12_most_2 : decode cX12_most 2 = .ok (.if_icmp .le 7, 3) := by decide +kernel
theorem dX12_most_5 : decode cX12_most 5 = .ok (.iload_n 0, 1) := by decide +kernel
theorem dX12_most_6 : decode cX12_most 6 = .ok (.goto 4, 3) := by decide +kernel
theorem dX12_most_9 : decode cX12_most 9 = .ok (.iload_n 1, 1) := by decide +kernel
theorem dX12_most_10 : decode cX12_most 10 = .ok (.ireturn, 1) := by decide +kernel
abbrev nd_X12_most : List Nat := []
abbrev ld_X12_most : List (Nat × Nat) := []
def f_X12_most  (x0 : Int32) (x1 : Int32) (h : zH) : zR := (if x0 ≤ x1 then (some (x1, h)) else (some (x0, h)))
variable {p : Program} {l : Launch} {e : Env} {s : State} {m : MethodId} {args : Array Value} {below : List Frame} {meth : Method} {c : Code} {G : zG} {q : Int32 × zH}
set_option maxHeartbeats 4000000 in
set_option maxRecDepth 100000 in
theorem c_X12_most (l : Launch) (G : zG) (h : zH) (x0 : Int32) (x1 : Int32) (q : Int32 × zH) (hm : ∀ c ∈ nd_X12_most, c ∈ znm G) (hk : ∀ q ∈ ld_X12_most, zlk G q.1 q.2 = true) (hf : f_X12_most x0 x1 h = some q) : zCtI l yX12_most cX12_most 2 (some .int) (2) [.int x0, .int x1] G h q.2 q.1 := by
  refine zMetI (by decide) (Nat.le_of_ble_eq_true rfl) ?_
  intro p e s m below meth c ls C hl hS
  have hl : lv_has ls 2 [(0, .int x0), (1, .int x1)] := hl
  have C : zC G p s m [.int x0, .int x1].toArray meth c cX12_most 2 RX12 (some .int) := C
  unfold f_X12_most at hf
  refine lv_iload_n C.1 C.2.1 dX12_most_0 rfl (lv_at hl 0 rfl) ?_
  refine lv_iload_n C.1 C.2.1 dX12_most_1 rfl (lv_at hl 1 rfl) ?_
  refine lv_icmp_le (tgt := 9) C.1 C.2.1 dX12_most_2 (by decide) (fun hc => ?_) (fun hc => ?_)
  · have hf := zif_t hc hf
    refine lv_iload_n C.1 C.2.1 dX12_most_9 rfl (lv_at hl 1 rfl) ?_
    exact zretI C hS hf dX12_most_10
  · have hf := zif_f hc hf
    refine lv_iload_n C.1 C.2.1 dX12_most_5 rfl (lv_at hl 0 rfl) ?_
    refine lv_goto (tgt := 10) C.1 C.2.1 dX12_most_6 (by decide) ?_
    exact zretI C hS hf dX12_most_10
end
section
theorem dX12_laughOf_0 : decode cX12_laughOf 0 = .ok (.aload_n 0, 1) := by decide +kernel
theorem dX12_laughOf_1 : decode cX12_laughOf 1 = .ok (.getfield 7, 3) := by decide +kernel
theorem dX12_laughOf_4 : decode cX12_laughOf 4 = .ok (.sipush 466, 3) := by decide +kernel
theorem dX12_laughOf_7 : decode cX12_laughOf 7 = .ok (.bipush 16, 2) := by decide +kernel
theorem dX12_laughOf_9 : decode cX12_laughOf 9 = .ok (.iload_n 1, 1) := by decide +kernel
theorem dX12_laughOf_10 : decode cX12_laughOf 10 = .ok (.imul, 1) := by decide +kernel
theorem dX12_laughOf_11 : decode cX12_laughOf 11 = .ok (.iadd, 1) := by decide +kernel
theorem dX12_laughOf_12 : decode cX12_laughOf 12 = .ok (.iload_n 2, 1) := by decide +kernel
theorem dX12_laughOf_13 : decode cX12_laughOf 13 = .ok (.iadd, 1) := by decide +kernel
theorem dX12_laughOf_14 : decode cX12_laughOf 14 = .ok (.iaload, 1) := by decide +kernel
theorem dX12_laughOf_15 : decode cX12_laughOf 15 = .ok (.istore_n 3, 1) := by decide +kernel
theorem dX12_laughOf_16 : decode cX12_laughOf 16 = .ok (.aload_n 0, 1) := by decide +kernel
theorem dX12_laughOf_17 : decode cX12_laughOf 17 = .ok (.getfield 34, 3) := by decide +kernel
theorem dX12_laughOf_20 : decode cX12_laughOf 20 = .ok (.iconst 1, 1) := by decide +kernel
theorem dX12_laughOf_21 : decode cX12_laughOf 21 = .ok (.aload_n 0, 1) := by decide +kernel
theorem dX12_laughOf_22 : decode cX12_laughOf 22 = .ok (.iload_n 1, 1) := by decide +kernel
theorem dX12_laughOf_23 : decode cX12_laughOf 23 = .ok (.iconst 2, 1) := by decide +kernel
theorem dX12_laughOf_24 : decode cX12_laughOf 24 = .ok (.invokevirtual 69, 3) := by decide +kernel
theorem dX12_laughOf_27 : decode cX12_laughOf 27 = .ok (.iastore, 1) := by decide +kernel
theorem dX12_laughOf_28 : decode cX12_laughOf 28 = .ok (.aload_n 0, 1) := by decide +kernel
theorem dX12_laughOf_29 : decode cX12_laughOf 29 = .ok (.getfield 34, 3) := by decide +kernel
theorem dX12_laughOf_32 : decode cX12_laughOf 32 = .ok (.iconst 2, 1) := by decide +kernel
theorem dX12_laughOf_33 : decode cX12_laughOf 33 = .ok (.aload_n 0, 1) := by decide +kernel
theorem dX12_laughOf_34 : decode cX12_laughOf 34 = .ok (.iload_n 2, 1) := by decide +kernel
theorem dX12_laughOf_35 : decode cX12_laughOf 35 = .ok (.iconst 2, 1) := by decide +kernel
theorem dX12_laughOf_36 : decode cX12_laughOf 36 = .ok (.invokevirtual 69, 3) := by decide +kernel
theorem dX12_laughOf_39 : decode cX12_laughOf 39 = .ok (.iastore, 1) := by decide +kernel
theorem dX12_laughOf_40 : decode cX12_laughOf 40 = .ok (.aload_n 0, 1) := by decide +kernel
theorem dX12_laughOf_41 : decode cX12_laughOf 41 = .ok (.getfield 34, 3) := by decide +kernel
theorem dX12_laughOf_44 : decode cX12_laughOf 44 = .ok (.iconst 3, 1) := by decide +kernel
theorem dX12_laughOf_45 : decode cX12_laughOf 45 = .ok (.aload_n 0, 1) := by decide +kernel
theorem dX12_laughOf_46 : decode cX12_laughOf 46 = .ok (.iload_n 1, 1) := by decide +kernel
theorem dX12_laughOf_47 : decode cX12_laughOf 47 = .ok (.iconst 1, 1) := by decide +kernel
theorem dX12_laughOf_48 : decode cX12_laughOf 48 = .ok (.invokevirtual 69, 3) := by decide +kernel
theorem dX12_laughOf_51 : decode cX12_laughOf 51 = .ok (.aload_n 0, 1) := by decide +kernel
theorem dX12_laughOf_52 : decode cX12_laughOf 52 = .ok (.iload_n 2, 1) := by decide +kernel
theorem dX12_laughOf_53 : decode cX12_laughOf 53 = .ok (.iconst 1, 1) := by decide +kernel
theorem dX12_laughOf_54 : decode cX12_laughOf 54 = .ok (.invokevirtual 69, 3) := by decide +kernel
theorem dX12_laughOf_57 : decode cX12_laughOf 57 = .ok (.if_icmp .ne 7, 3) := by decide +kernel
theorem dX12_laughOf_60 : decode cX12_laughOf 60 = .ok (.iconst 1, 1) := by decide +kernel
theorem dX12_laughOf_61 : decode cX12_laughOf 61 = .ok (.goto 4, 3) := by decide +kernel
theorem dX12_laughOf_64 : decode cX12_laughOf 64 = .ok (.iconst 0, 1) := by decide +kernel
theorem dX12_laughOf_65 : decode cX12_laughOf 65 = .ok (.iastore, 1) := by decide +kernel
theorem dX12_laughOf_66 : decode cX12_laughOf 66 = .ok (.aload_n 0, 1) := by decide +kernel
theorem dX12_laughOf_67 : decode cX12_laughOf 67 = .ok (.getfield 34, 3) := by decide +kernel
theorem dX12_laughOf_70 : decode cX12_laughOf 70 = .ok (.iconst 4, 1) := by decide +kernel
theorem dX12_laughOf_71 : decode cX12_laughOf 71 = .ok (.aload_n 0, 1) := by decide +kernel
theorem dX12_laughOf_72 : decode cX12_laughOf 72 = .ok (.getfield 7, 3) := by decide +kernel
theorem dX12_laughOf_75 : decode cX12_laughOf 75 = .ok (.sipush 210, 3) := by decide +kernel
theorem dX12_laughOf_78 : decode cX12_laughOf 78 = .ok (.bipush 16, 2) := by decide +kernel
theorem dX12_laughOf_80 : decode cX12_laughOf 80 = .ok (.iload_n 1, 1) := by decide +kernel
theorem dX12_laughOf_81 : decode cX12_laughOf 81 = .ok (.imul, 1) := by decide +kernel
theorem dX12_laughOf_82 : decode cX12_laughOf 82 = .ok (.iadd, 1) := by decide +kernel
theorem dX12_laughOf_83 : decode cX12_laughOf 83 = .ok (.iload_n 2, 1) := by decide +kernel
theorem dX12_laughOf_84 : decode cX12_laughOf 84 = .ok (.iadd, 1) := by decide +kernel
theorem dX12_laughOf_85 : decode cX12_laughOf 85 = .ok (.iaload, 1) := by decide +kernel
theorem dX12_laughOf_86 : decode cX12_laughOf 86 = .ok (.iastore, 1) := by decide +kernel
theorem dX12_laughOf_87 : decode cX12_laughOf 87 = .ok (.aload_n 0, 1) := by decide +kernel
theorem dX12_laughOf_88 : decode cX12_laughOf 88 = .ok (.getfield 34, 3) := by decide +kernel
theorem dX12_laughOf_91 : decode cX12_laughOf 91 = .ok (.iconst 5, 1) := by decide +kernel
theorem dX12_laughOf_92 : decode cX12_laughOf 92 = .ok (.iload_n 3, 1) := by decide +kernel
theorem dX12_laughOf_93 : decode cX12_laughOf 93 = .ok (.iconst (-1), 1) := by decide +kernel
theorem dX12_laughOf_94 : decode cX12_laughOf 94 = .ok (.if_icmp .ne 9, 3) := by decide +kernel
theorem dX12_laughOf_97 : decode cX12_laughOf 97 = .ok (.sipush 9999, 3) := by decide +kernel
theorem dX12_laughOf_100 : decode cX12_laughOf 100 = .ok (.goto 11, 3) := by decide +kernel
theorem dX12_laughOf_103 : decode cX12_laughOf 103 = .ok (.aload_n 0, 1) := by decide +kernel
theorem dX12_laughOf_104 : decode cX12_laughOf 104 = .ok (.getfield 7, 3) := by decide +kernel
theorem dX12_laughOf_107 : decode cX12_laughOf 107 = .ok (.iconst 5, 1) := by decide +kernel
theorem dX12_laughOf_108 : decode cX12_laughOf 108 = .ok (.iaload, 1) := by decide +kernel
theorem dX12_laughOf_109 : decode cX12_laughOf 109 = .ok (.iload_n 3, 1) := by decide +kernel
theorem dX12_laughOf_110 : decode cX12_laughOf 110 = .ok (.isub, 1) := by decide +kernel
theorem dX12_laughOf_111 : decode cX12_laughOf 111 = .ok (.iastore, 1) := by decide +kernel
theorem dX12_laughOf_112 : decode cX12_laughOf 112 = .ok (.aload_n 0, 1) := by decide +kernel
theorem dX12_laughOf_113 : decode cX12_laughOf 113 = .ok (.getfield 34, 3) := by decide +kernel
theorem dX12_laughOf_116 : decode cX12_laughOf 116 = .ok (.bipush 6, 2) := by decide +kernel
theorem dX12_laughOf_118 : decode cX12_laughOf 118 = .ok (.aload_n 0, 1) := by decide +kernel
theorem dX12_laughOf_119 : decode cX12_laughOf 119 = .ok (.getfield 7, 3) := by decide +kernel
theorem dX12_laughOf_122 : decode cX12_laughOf 122 = .ok (.iconst 5, 1) := by decide +kernel
theorem dX12_laughOf_123 : decode cX12_laughOf 123 = .ok (.iaload, 1) := by decide +kernel
theorem dX12_laughOf_124 : decode cX12_laughOf 124 = .ok (.iastore, 1) := by decide +kernel
theorem dX12_laughOf_125 : decode cX12_laughOf 125 = .ok (.aload_n 0, 1) := by decide +kernel
theorem dX12_laughOf_126 : decode cX12_laughOf 126 = .ok (.getfield 34, 3) := by decide +kernel
theorem dX12_laughOf_129 : decode cX12_laughOf 129 = .ok (.bipush 7, 2) := by decide +kernel
theorem dX12_laughOf_131 : decode cX12_laughOf 131 = .ok (.aload_n 0, 1) := by decide +kernel
theorem dX12_laughOf_132 : decode cX12_laughOf 132 = .ok (.iload_n 1, 1) := by decide +kernel
theorem dX12_laughOf_133 : decode cX12_laughOf 133 = .ok (.iconst 1, 1) := by decide +kernel
theorem dX12_laughOf_134 : decode cX12_laughOf 134 = .ok (.invokevirtual 69, 3) := by decide +kernel
theorem dX12_laughOf_137 : decode cX12_laughOf 137 = .ok (.iastore, 1) := by decide +kernel
theorem dX12_laughOf_138 : decode cX12_laughOf 138 = .ok (.iconst 0, 1) := by decide +kernel
theorem dX12_laughOf_139 : decode cX12_laughOf 139 = .ok (.istore 4, 2) := by decide +kernel
theorem dX12_laughOf_141 : decode cX12_laughOf 141 = .ok (.iload 4, 2) := by decide +kernel
theorem dX12_laughOf_143 : decode cX12_laughOf 143 = .ok (.aload_n 0, 1) := by decide +kernel
theorem dX12_laughOf_144 : decode cX12_laughOf 144 = .ok (.getfield 7, 3) := by decide +kernel
theorem dX12_laughOf_147 : decode cX12_laughOf 147 = .ok (.sipush 1335, 3) := by decide +kernel
theorem dX12_laughOf_150 : decode cX12_laughOf 150 = .ok (.iaload, 1) := by decide +kernel
theorem dX12_laughOf_151 : decode cX12_laughOf 151 = .ok (.if_icmp .ge 101, 3) := by decide +kernel
theorem dX12_laughOf_154 : decode cX12_laughOf 154 = .ok (.aload_n 0, 1) := by decide +kernel
theorem dX12_laughOf_155 : decode cX12_laughOf 155 = .ok (.getfield 7, 3) := by decide +kernel
theorem dX12_laughOf_158 : decode cX12_laughOf 158 = .ok (.sipush 1380, 3) := by decide +kernel
theorem dX12_laughOf_161 : decode cX12_laughOf 161 = .ok (.iload 4, 2) := by decide +kernel
theorem dX12_laughOf_163 : decode cX12_laughOf 163 = .ok (.iadd, 1) := by decide +kernel
theorem dX12_laughOf_164 : decode cX12_laughOf 164 = .ok (.iaload, 1) := by decide +kernel
theorem dX12_laughOf_165 : decode cX12_laughOf 165 = .ok (.aload_n 0, 1) := by decide +kernel
theorem dX12_laughOf_166 : decode cX12_laughOf 166 = .ok (.getfield 7, 3) := by decide +kernel
theorem dX12_laughOf_169 : decode cX12_laughOf 169 = .ok (.sipush 1360, 3) := by decide +kernel
theorem dX12_laughOf_172 : decode cX12_laughOf 172 = .ok (.iload 4, 2) := by decide +kernel
theorem dX12_laughOf_174 : decode cX12_laughOf 174 = .ok (.iadd, 1) := by decide +kernel
theorem dX12_laughOf_175 : decode cX12_laughOf 175 = .ok (.iaload, 1) := by decide +kernel
theorem dX12_laughOf_176 : decode cX12_laughOf 176 = .ok (.if_icmp .eq 33, 3) := by decide +kernel
theorem dX12_laughOf_179 : decode cX12_laughOf 179 = .ok (.aload_n 0, 1) := by decide +kernel
theorem dX12_laughOf_180 : decode cX12_laughOf 180 = .ok (.aload_n 0, 1) := by decide +kernel
theorem dX12_laughOf_181 : decode cX12_laughOf 181 = .ok (.getfield 7, 3) := by decide +kernel
theorem dX12_laughOf_184 : decode cX12_laughOf 184 = .ok (.sipush 1360, 3) := by decide +kernel
theorem dX12_laughOf_187 : decode cX12_laughOf 187 = .ok (.iload 4, 2) := by decide +kernel
theorem dX12_laughOf_189 : decode cX12_laughOf 189 = .ok (.iadd, 1) := by decide +kernel
theorem dX12_laughOf_190 : decode cX12_laughOf 190 = .ok (.iaload, 1) := by decide +kernel
theorem dX12_laughOf_191 : decode cX12_laughOf 191 = .ok (.aload_n 0, 1) := by decide +kernel
theorem dX12_laughOf_192 : decode cX12_laughOf 192 = .ok (.getfield 7, 3) := by decide +kernel
theorem dX12_laughOf_195 : decode cX12_laughOf 195 = .ok (.sipush 1380, 3) := by decide +kernel
theorem dX12_laughOf_198 : decode cX12_laughOf 198 = .ok (.iload 4, 2) := by decide +kernel
theorem dX12_laughOf_200 : decode cX12_laughOf 200 = .ok (.iadd, 1) := by decide +kernel
theorem dX12_laughOf_201 : decode cX12_laughOf 201 = .ok (.iaload, 1) := by decide +kernel
theorem dX12_laughOf_202 : decode cX12_laughOf 202 = .ok (.invokevirtual 243, 3) := by decide +kernel
theorem dX12_laughOf_205 : decode cX12_laughOf 205 = .ok (.iconst 1, 1) := by decide +kernel
theorem dX12_laughOf_206 : decode cX12_laughOf 206 = .ok (.if_icmp .ne 40, 3) := by decide +kernel
theorem dX12_laughOf_209 : decode cX12_laughOf 209 = .ok (.iconst 0, 1) := by decide +kernel
theorem dX12_laughOf_210 : decode cX12_laughOf 210 = .ok (.sipush 999, 3) := by decide +kernel
theorem dX12_laughOf_213 : decode cX12_laughOf 213 = .ok (.aload_n 0, 1) := by decide +kernel
theorem dX12_laughOf_214 : decode cX12_laughOf 214 = .ok (.aload_n 0, 1) := by decide +kernel
theorem dX12_laughOf_215 : decode cX12_laughOf 215 = .ok (.getfield 7, 3) := by decide +kernel
theorem dX12_laughOf_218 : decode cX12_laughOf 218 = .ok (.sipush 1340, 3) := by decide +kernel
theorem dX12_laughOf_221 : decode cX12_laughOf 221 = .ok (.iload 4, 2) := by decide +kernel
theorem dX12_laughOf_223 : decode cX12_laughOf 223 = .ok (.iadd, 1) := by decide +kernel
theorem dX12_laughOf_224 : decode cX12_laughOf 224 = .ok (.iaload, 1) := by decide +kernel
theorem dX12_laughOf_225 : decode cX12_laughOf 225 = .ok (.aload_n 0, 1) := by decide +kernel
theorem dX12_laughOf_226 : decode cX12_laughOf 226 = .ok (.getfield 7, 3) := by decide +kernel
theorem dX12_laughOf_229 : decode cX12_laughOf 229 = .ok (.sipush 1360, 3) := by decide +kernel
theorem dX12_laughOf_232 : decode cX12_laughOf 232 = .ok (.iload 4, 2) := by decide +kernel
theorem dX12_laughOf_234 : decode cX12_laughOf 234 = .ok (.iadd, 1) := by decide +kernel
theorem dX12_laughOf_235 : decode cX12_laughOf 235 = .ok (.iaload, 1) := by decide +kernel
theorem dX12_laughOf_236 : decode cX12_laughOf 236 = .ok (.invokevirtual 243, 3) := by decide +kernel
theorem dX12_laughOf_239 : decode cX12_laughOf 239 = .ok (.invokestatic 246, 3) := by decide +kernel
theorem dX12_laughOf_242 : decode cX12_laughOf 242 = .ok (.invokestatic 249, 3) := by decide +kernel
theorem dX12_laughOf_245 : decode cX12_laughOf 245 = .ok (.ireturn, 1) := by decide +kernel
theorem dX12_laughOf_246 : decode cX12_laughOf 246 = .ok (.iinc 4 1, 3) := by decide +kernel
theorem dX12_laughOf_249 : decode cX12_laughOf 249 = .ok (.goto (-108), 3) := by decide +kernel
theorem dX12_laughOf_252 : decode cX12_laughOf 252 = .ok (.iconst 0, 1) := by decide +kernel
theorem dX12_laughOf_253 : decode cX12_laughOf 253 = .ok (.ireturn, 1) := by decide +kernel
abbrev nd_X12_laughOf : List Nat := [100, 101, 108, 109]
abbrev ld_X12_laughOf : List (Nat × Nat) := [(100, 0), (100, 9), (100, 10)]
theorem sn_X12_laughOf_X12_ofHalf : ∀ c ∈ nd_X12_ofHalf, c ∈ nd_X12_laughOf := by decide
theorem sl_X12_laughOf_X12_ofHalf : ∀ q ∈ ld_X12_ofHalf, q ∈ ld_X12_laughOf := by decide
theorem sn_X12_laughOf_X12_comesTo : ∀ c ∈ nd_X12_comesTo, c ∈ nd_X12_laughOf := by decide
theorem sl_X12_laughOf_X12_comesTo : ∀ q ∈ ld_X12_comesTo, q ∈ ld_X12_laughOf := by decide
theorem sn_X12_laughOf_X12_least : ∀ c ∈ nd_X12_least, c ∈ nd_X12_laughOf := by decide
theorem sl_X12_laughOf_X12_least : ∀ q ∈ ld_X12_least, q ∈ ld_X12_laughOf := by decide
theorem sn_X12_laughOf_X12_most : ∀ c ∈ nd_X12_most, c ∈ nd_X12_laughOf := by decide
theorem sl_X12_laughOf_X12_most : ∀ q ∈ ld_X12_most, q ∈ ld_X12_laughOf := by decide
def f_X12_laughOf_209  (x4 : Int32) (h : zH) : zR := (zck ((1340 : Int32) + x4) 2220 (zck ((1360 : Int32) + x4) 2220 (zbd (f_X12_comesTo (h 101 (Int32.toNatClampNeg ((1340 : Int32) + x4))) (h 101 (Int32.toNatClampNeg ((1360 : Int32) + x4))) h) fun r19 h20 => (zbd (f_X12_least (999 : Int32) r19 h20) fun r21 h22 => (zbd (f_X12_most (0 : Int32) r21 h22) fun r23 h24 => (some (r23, h24)))))))
def f_X12_laughOf_141  : Nat → Int32 → zH → zR
  | 0 => fun _ _ => none
  | n + 1 => fun x4 h => (if (h 101 1335) ≤ x4 then (some ((0 : Int32), h)) else (zck ((1380 : Int32) + x4) 2220 (zck ((1360 : Int32) + x4) 2220 (if (h 101 (Int32.toNatClampNeg ((1380 : Int32) + x4))) = (h 101 (Int32.toNatClampNeg ((1360 : Int32) + x4))) then (f_X12_laughOf_209  x4 h) else (zck ((1360 : Int32) + x4) 2220 (zck ((1380 : Int32) + x4) 2220 (zbd (f_X12_comesTo (h 101 (Int32.toNatClampNeg ((1360 : Int32) + x4))) (h 101 (Int32.toNatClampNeg ((1380 : Int32) + x4))) h) fun r25 h26 => (if r25 = (1 : Int32) then (f_X12_laughOf_209  x4 h26) else (zlt (x4 + (1 : Int32)) fun y27 => (f_X12_laughOf_141  n y27 h26))))))))))
def f_X12_laughOf_111  (x1 : Int32) (s0 : Int32) (s1 : Int32) (h : zH) : zR := (zck s1 8 (zst (zup h 109 (Int32.toNatClampNeg s1) s0) fun h14 => (zst (zup h14 109 6 (h14 101 5)) fun h15 => (zbd (f_X12_ofHalf x1 (1 : Int32) h15) fun r16 h17 => (zst (zup h17 109 7 r16) fun h18 => (f_X12_laughOf_141  zN (0 : Int32) h18))))))
def f_X12_laughOf_65  (x1 : Int32) (x2 : Int32) (x3 : Int32) (s0 : Int32) (s1 : Int32) (h : zH) : zR := (zck s1 8 (zst (zup h 109 (Int32.toNatClampNeg s1) s0) fun h12 => (zck (((210 : Int32) + ((16 : Int32) * x1)) + x2) 2220 (zst (zup h12 109 4 (h12 101 (Int32.toNatClampNeg (((210 : Int32) + ((16 : Int32) * x1)) + x2)))) fun h13 => (if x3 = (-1 : Int32) then (f_X12_laughOf_111  x1 (9999 : Int32) (5 : Int32) h13) else (f_X12_laughOf_111  x1 ((h13 101 5) - x3) (5 : Int32) h13))))))
def f_X12_laughOf  (x1 : Int32) (x2 : Int32) (h : zH) : zR := (zck (((466 : Int32) + ((16 : Int32) * x1)) + x2) 2220 (zlt (h 101 (Int32.toNatClampNeg (((466 : Int32) + ((16 : Int32) * x1)) + x2))) fun y1 => (zbd (f_X12_ofHalf x1 (2 : Int32) h) fun r2 h3 => (zst (zup h3 109 1 r2) fun h4 => (zbd (f_X12_ofHalf x2 (2 : Int32) h4) fun r5 h6 => (zst (zup h6 109 2 r5) fun h7 => (zbd (f_X12_ofHalf x1 (1 : Int32) h7) fun r8 h9 => (zbd (f_X12_ofHalf x2 (1 : Int32) h9) fun r10 h11 => (if r8 = r10 then (f_X12_laughOf_65  x1 x2 y1 (1 : Int32) (3 : Int32) h11) else (f_X12_laughOf_65  x1 x2 y1 (0 : Int32) (3 : Int32) h11))))))))))
variable {p : Program} {l : Launch} {e : Env} {s : State} {m : MethodId} {args : Array Value} {below : List Frame} {meth : Method} {c : Code} {G : zG} {q : Int32 × zH}
set_option maxHeartbeats 4000000 in
set_option maxRecDepth 100000 in
theorem w_X12_laughOf_209  (C : zC G p s m args meth c cX12_laughOf 5 RX12 (some .int)) (hm : ∀ c ∈ nd_X12_laughOf, c ∈ znm G) (hk : ∀ q ∈ ld_X12_laughOf, zlk G q.1 q.2 = true)  : ∀ (ls : Array Slot) (H : Heap) (locs : List Loc) (h : zH) (x4 : Int32), lv_has ls 5 [(0, .ref (zal G 100)), (4, .int x4)] → zS G h s.heap H locs → f_X12_laughOf_209  x4 h = some q → W p l e (zrm (4)) s m args below meth c H locs 0 0 (MQ below (zQI G q.2 q.1) args s 0 0 (zA G)) (F0 m 209 ls []) := by
  intro ls H locs h x4 hl hS hf
  unfold f_X12_laughOf_209 at hf
  refine lv_iconst (v := (0 : Int32)) C.1 C.2.1 dX12_laughOf_209 rfl ?_
  refine lv_sipush (v := (999 : Int32)) C.1 C.2.1 dX12_laughOf_210 rfl ?_
  refine lv_aload_n C.1 C.2.1 dX12_laughOf_213 rfl (lv_at hl 0 rfl) ?_
  refine lv_aload_n C.1 C.2.1 dX12_laughOf_214 rfl (lv_at hl 0 rfl) ?_
  refine zgetR C hS ff_X12_7_100 (hm 100 (by decide)) (hk (100, 0) (by decide)) dX12_laughOf_215 ?_
  refine lv_sipush (v := (1340 : Int32)) C.1 C.2.1 dX12_laughOf_218 rfl ?_
  refine lv_iload C.1 C.2.1 dX12_laughOf_221 (lv_at hl 1 rfl) ?_
  refine lv_iadd C.1 C.2.1 dX12_laughOf_223 ?_
  obtain ⟨hi, hf⟩ := zck_some hf
  refine zald C hS sh_101 (hm 101 (by decide)) hi dX12_laughOf_224 ?_
  refine lv_aload_n C.1 C.2.1 dX12_laughOf_225 rfl (lv_at hl 0 rfl) ?_
  refine zgetR C hS ff_X12_7_100 (hm 100 (by decide)) (hk (100, 0) (by decide)) dX12_laughOf_226 ?_
  refine lv_sipush (v := (1360 : Int32)) C.1 C.2.1 dX12_laughOf_229 rfl ?_
  refine lv_iload C.1 C.2.1 dX12_laughOf_232 (lv_at hl 1 rfl) ?_
  refine lv_iadd C.1 C.2.1 dX12_laughOf_234 ?_
  obtain ⟨hi, hf⟩ := zck_some hf
  refine zald C hS sh_101 (hm 101 (by decide)) hi dX12_laughOf_235 ?_
  obtain ⟨r19, h20, er19, hf⟩ := zbd_some hf
  refine zcallVI (As := [.int (h 101 (Int32.toNatClampNeg ((1340 : Int32) + x4))), .int (h 101 (Int32.toNatClampNeg ((1360 : Int32) + x4)))]) (rest := [.int (999 : Int32), .int (0 : Int32)]) C hS mv_X12_243 (c_X12_comesTo l G h (h 101 (Int32.toNatClampNeg ((1340 : Int32) + x4))) (h 101 (Int32.toNatClampNeg ((1360 : Int32) + x4))) (r19, h20) (fun c h => hm c (sn_X12_laughOf_X12_comesTo c h)) (fun q h => hk q (sl_X12_laughOf_X12_comesTo q h)) er19) (hm 100 (by decide)) ⟨_, _, _, sh_100, rfl, rfl⟩ rfl rfl (Nat.le_of_ble_eq_true rfl) hl.1 ⟨Nat.le_of_ble_eq_true rfl, Nat.le_of_ble_eq_true rfl, Nat.le_of_ble_eq_true rfl, Nat.le_of_ble_eq_true rfl⟩ dX12_laughOf_236 (fun H locs hS => ?_)
  obtain ⟨r21, h22, er21, hf⟩ := zbd_some hf
  refine zcallSI (As := [.int (999 : Int32), .int r19]) (rest := [.int (0 : Int32)]) C hS ms_X12_246 (c_X12_least l G h20 (999 : Int32) r19 (r21, h22) (fun c h => hm c (sn_X12_laughOf_X12_least c h)) (fun q h => hk q (sl_X12_laughOf_X12_least q h)) er21) rfl rfl (Nat.le_of_ble_eq_true rfl) hl.1 ⟨Nat.le_of_ble_eq_true rfl, Nat.le_of_ble_eq_true rfl, Nat.le_of_ble_eq_true rfl, Nat.le_of_ble_eq_true rfl⟩ dX12_laughOf_239 (fun H locs hS => ?_)
  obtain ⟨r23, h24, er23, hf⟩ := zbd_some hf
  refine zcallSI (As := [.int (0 : Int32), .int r21]) (rest := []) C hS ms_X12_249 (c_X12_most l G h22 (0 : Int32) r21 (r23, h24) (fun c h => hm c (sn_X12_laughOf_X12_most c h)) (fun q h => hk q (sl_X12_laughOf_X12_most q h)) er23) rfl rfl (Nat.le_of_ble_eq_true rfl) hl.1 ⟨Nat.le_of_ble_eq_true rfl, Nat.le_of_ble_eq_true rfl, Nat.le_of_ble_eq_true rfl, Nat.le_of_ble_eq_true rfl⟩ dX12_laughOf_242 (fun H locs hS => ?_)
  exact zretI C hS hf dX12_laughOf_245
set_option maxHeartbeats 4000000 in
set_option maxRecDepth 100000 in
theorem w_X12_laughOf_141  (C : zC G p s m args meth c cX12_laughOf 5 RX12 (some .int)) (hm : ∀ c ∈ nd_X12_laughOf, c ∈ znm G) (hk : ∀ q ∈ ld_X12_laughOf, zlk G q.1 q.2 = true)  : ∀ n, ∀ (ls : Array Slot) (H : Heap) (locs : List Loc) (h : zH) (x4 : Int32), lv_has ls 5 [(0, .ref (zal G 100)), (4, .int x4)] → zS G h s.heap H locs → f_X12_laughOf_141  n x4 h = some q → W p l e (zrm (4)) s m args below meth c H locs 0 0 (MQ below (zQI G q.2 q.1) args s 0 0 (zA G)) (F0 m 141 ls []) := by
  intro n
  induction n with
  | zero => intro ls H locs h x4 hl hS hf; cases hf
  | succ n ih =>
    intro ls H locs h x4 hl hS hf
    rw [f_X12_laughOf_141] at hf
    refine lv_iload C.1 C.2.1 dX12_laughOf_141 (lv_at hl 1 rfl) ?_
    refine lv_aload_n C.1 C.2.1 dX12_laughOf_143 rfl (lv_at hl 0 rfl) ?_
    refine zgetR C hS ff_X12_7_100 (hm 100 (by decide)) (hk (100, 0) (by decide)) dX12_laughOf_144 ?_
    refine lv_sipush (v := (1335 : Int32)) C.1 C.2.1 dX12_laughOf_147 rfl ?_
    refine zald C hS sh_101 (hm 101 (by decide)) (vp_in_iff.mpr (by decide)) dX12_laughOf_150 ?_
    refine lv_icmp_ge (tgt := 252) C.1 C.2.1 dX12_laughOf_151 (by decide) (fun hc => ?_) (fun hc => ?_)
    · have hf := zif_t hc hf
      refine lv_iconst (v := (0 : Int32)) C.1 C.2.1 dX12_laughOf_252 rfl ?_
      exact zretI C hS hf dX12_laughOf_253
    · have hf := zif_f hc hf
      refine lv_aload_n C.1 C.2.1 dX12_laughOf_154 rfl (lv_at hl 0 rfl) ?_
      refine zgetR C hS ff_X12_7_100 (hm 100 (by decide)) (hk (100, 0) (by decide)) dX12_laughOf_155 ?_
      refine lv_sipush (v := (1380 : Int32)) C.1 C.2.1 dX12_laughOf_158 rfl ?_
      refine lv_iload C.1 C.2.1 dX12_laughOf_161 (lv_at hl 1 rfl) ?_
      refine lv_iadd C.1 C.2.1 dX12_laughOf_163 ?_
      obtain ⟨hi, hf⟩ := zck_some hf
      refine zald C hS sh_101 (hm 101 (by decide)) hi dX12_laughOf_164 ?_
      refine lv_aload_n C.1 C.2.1 dX12_laughOf_165 rfl (lv_at hl 0 rfl) ?_
      refine zgetR C hS ff_X12_7_100 (hm 100 (by decide)) (hk (100, 0) (by decide)) dX12_laughOf_166 ?_
      refine lv_sipush (v := (1360 : Int32)) C.1 C.2.1 dX12_laughOf_169 rfl ?_
      refine lv_iload C.1 C.2.1 dX12_laughOf_172 (lv_at hl 1 rfl) ?_
      refine lv_iadd C.1 C.2.1 dX12_laughOf_174 ?_
      obtain ⟨hi, hf⟩ := zck_some hf
      refine zald C hS sh_101 (hm 101 (by decide)) hi dX12_laughOf_175 ?_
      refine lv_icmp_eq (tgt := 209) C.1 C.2.1 dX12_laughOf_176 (by decide) (fun hc => ?_) (fun hc => ?_)
      · have hf := zif_t hc hf
        exact w_X12_laughOf_209 C hm hk  _ _ _ _ _ (lv_sub hl [0, 1] rfl) hS hf
      · have hf := zif_f hc hf
        refine lv_aload_n C.1 C.2.1 dX12_laughOf_179 rfl (lv_at hl 0 rfl) ?_
        refine lv_aload_n C.1 C.2.1 dX12_laughOf_180 rfl (lv_at hl 0 rfl) ?_
        refine zgetR C hS ff_X12_7_100 (hm 100 (by decide)) (hk (100, 0) (by decide)) dX12_laughOf_181 ?_
        refine lv_sipush (v := (1360 : Int32)) C.1 C.2.1 dX12_laughOf_184 rfl ?_
        refine lv_iload C.1 C.2.1 dX12_laughOf_187 (lv_at hl 1 rfl) ?_
        refine lv_iadd C.1 C.2.1 dX12_laughOf_189 ?_
        obtain ⟨hi, hf⟩ := zck_some hf
        refine zald C hS sh_101 (hm 101 (by decide)) hi dX12_laughOf_190 ?_
        refine lv_aload_n C.1 C.2.1 dX12_laughOf_191 rfl (lv_at hl 0 rfl) ?_
        refine zgetR C hS ff_X12_7_100 (hm 100 (by decide)) (hk (100, 0) (by decide)) dX12_laughOf_192 ?_
        refine lv_sipush (v := (1380 : Int32)) C.1 C.2.1 dX12_laughOf_195 rfl ?_
        refine lv_iload C.1 C.2.1 dX12_laughOf_198 (lv_at hl 1 rfl) ?_
        refine lv_iadd C.1 C.2.1 dX12_laughOf_200 ?_
        obtain ⟨hi, hf⟩ := zck_some hf
        refine zald C hS sh_101 (hm 101 (by decide)) hi dX12_laughOf_201 ?_
        obtain ⟨r25, h26, er25, hf⟩ := zbd_some hf
        refine zcallVI (As := [.int (h 101 (Int32.toNatClampNeg ((1360 : Int32) + x4))), .int (h 101 (Int32.toNatClampNeg ((1380 : Int32) + x4)))]) (rest := []) C hS mv_X12_243 (c_X12_comesTo l G h (h 101 (Int32.toNatClampNeg ((1360 : Int32) + x4))) (h 101 (Int32.toNatClampNeg ((1380 : Int32) + x4))) (r25, h26) (fun c h => hm c (sn_X12_laughOf_X12_comesTo c h)) (fun q h => hk q (sl_X12_laughOf_X12_comesTo q h)) er25) (hm 100 (by decide)) ⟨_, _, _, sh_100, rfl, rfl⟩ rfl rfl (Nat.le_of_ble_eq_true rfl) hl.1 ⟨Nat.le_of_ble_eq_true rfl, Nat.le_of_ble_eq_true rfl, Nat.le_of_ble_eq_true rfl, Nat.le_of_ble_eq_true rfl⟩ dX12_laughOf_202 (fun H locs hS => ?_)
        refine lv_iconst (v := (1 : Int32)) C.1 C.2.1 dX12_laughOf_205 rfl ?_
        refine lv_icmp_ne (tgt := 246) C.1 C.2.1 dX12_laughOf_206 (by decide) (fun hc => ?_) (fun hc => ?_)
        · have hf := zif_f hc hf
          obtain ⟨y27, ey27, hf⟩ := zlt_some hf
          refine lv_iinc (v := y27) (lv' := [(4, .int y27), (0, .ref (zal G 100))]) C.1 C.2.1 dX12_laughOf_246 hl (k := 1) rfl ey27.symm (by decide) rfl (fun ls hl => ?_)
          refine lv_goto (tgt := 141) C.1 C.2.1 dX12_laughOf_249 (by decide) ?_
          exact ih _ _ _ _ _ (lv_sub hl [1, 0] rfl) hS hf
        · have hf := zif_t hc hf
          exact w_X12_laughOf_209 C hm hk  _ _ _ _ _ (lv_sub hl [0, 1] rfl) hS hf
set_option maxHeartbeats 4000000 in
set_option maxRecDepth 100000 in
theorem w_X12_laughOf_111  (C : zC G p s m args meth c cX12_laughOf 5 RX12 (some .int)) (hm : ∀ c ∈ nd_X12_laughOf, c ∈ znm G) (hk : ∀ q ∈ ld_X12_laughOf, zlk G q.1 q.2 = true)  : ∀ (ls : Array Slot) (H : Heap) (locs : List Loc) (h : zH) (x1 : Int32) (s0 : Int32) (s1 : Int32), lv_has ls 5 [(0, .ref (zal G 100)), (1, .int x1)] → zS G h s.heap H locs → f_X12_laughOf_111  x1 s0 s1 h = some q → W p l e (zrm (4)) s m args below meth c H locs 0 0 (MQ below (zQI G q.2 q.1) args s 0 0 (zA G)) (F0 m 111 ls [.int s0, .int s1, .ref (zal G 109)]) := by
  intro ls H locs h x1 s0 s1 hl hS hf
  unfold f_X12_laughOf_111 at hf
  obtain ⟨hi, hf⟩ := zck_some hf
  refine zast C hS sh_109 (hm 109 (by decide)) hi dX12_laughOf_111 (fun H locs hS => ?_)
  obtain ⟨h14, eh14, hf⟩ := zst_some hf
  have hS : zS G h14 s.heap H locs := by rw [eh14]; exact hS
  refine lv_aload_n C.1 C.2.1 dX12_laughOf_112 rfl (lv_at hl 0 rfl) ?_
  refine zgetR C hS ff_X12_34_100 (hm 100 (by decide)) (hk (100, 10) (by decide)) dX12_laughOf_113 ?_
  refine lv_bipush (v := (6 : Int32)) C.1 C.2.1 dX12_laughOf_116 rfl ?_
  refine lv_aload_n C.1 C.2.1 dX12_laughOf_118 rfl (lv_at hl 0 rfl) ?_
  refine zgetR C hS ff_X12_7_100 (hm 100 (by decide)) (hk (100, 0) (by decide)) dX12_laughOf_119 ?_
  refine lv_iconst (v := (5 : Int32)) C.1 C.2.1 dX12_laughOf_122 rfl ?_
  refine zald C hS sh_101 (hm 101 (by decide)) (vp_in_iff.mpr (by decide)) dX12_laughOf_123 ?_
  refine zast C hS sh_109 (hm 109 (by decide)) (vp_in_iff.mpr (by decide)) dX12_laughOf_124 (fun H locs hS => ?_)
  obtain ⟨h15, eh15, hf⟩ := zst_some hf
  have hS : zS G h15 s.heap H locs := by rw [eh15]; exact hS
  refine lv_aload_n C.1 C.2.1 dX12_laughOf_125 rfl (lv_at hl 0 rfl) ?_
  refine zgetR C hS ff_X12_34_100 (hm 100 (by decide)) (hk (100, 10) (by decide)) dX12_laughOf_126 ?_
  refine lv_bipush (v := (7 : Int32)) C.1 C.2.1 dX12_laughOf_129 rfl ?_
  refine lv_aload_n C.1 C.2.1 dX12_laughOf_131 rfl (lv_at hl 0 rfl) ?_
  refine lv_iload_n C.1 C.2.1 dX12_laughOf_132 rfl (lv_at hl 1 rfl) ?_
  refine lv_iconst (v := (1 : Int32)) C.1 C.2.1 dX12_laughOf_133 rfl ?_
  obtain ⟨r16, h17, er16, hf⟩ := zbd_some hf
  refine zcallVI (As := [.int x1, .int (1 : Int32)]) (rest := [.int (7 : Int32), .ref (zal G 109)]) C hS mv_X12_69 (c_X12_ofHalf l G h15 x1 (1 : Int32) (r16, h17) (fun c h => hm c (sn_X12_laughOf_X12_ofHalf c h)) (fun q h => hk q (sl_X12_laughOf_X12_ofHalf q h)) er16) (hm 100 (by decide)) ⟨_, _, _, sh_100, rfl, rfl⟩ rfl rfl (Nat.le_of_ble_eq_true rfl) hl.1 ⟨Nat.le_of_ble_eq_true rfl, Nat.le_of_ble_eq_true rfl, Nat.le_of_ble_eq_true rfl, Nat.le_of_ble_eq_true rfl⟩ dX12_laughOf_134 (fun H locs hS => ?_)
  refine zast C hS sh_109 (hm 109 (by decide)) (vp_in_iff.mpr (by decide)) dX12_laughOf_137 (fun H locs hS => ?_)
  obtain ⟨h18, eh18, hf⟩ := zst_some hf
  have hS : zS G h18 s.heap H locs := by rw [eh18]; exact hS
  refine lv_iconst (v := (0 : Int32)) C.1 C.2.1 dX12_laughOf_138 rfl ?_
  refine lv_istore (lv' := [(4, .int (0 : Int32)), (0, .ref (zal G 100)), (1, .int x1)]) C.1 C.2.1 dX12_laughOf_139 hl (by decide) rfl (fun ls hl => ?_)
  exact w_X12_laughOf_141 C hm hk  zN _ _ _ _ _ (lv_sub hl [1, 0] rfl) hS hf
set_option maxHeartbeats 4000000 in
set_option maxRecDepth 100000 in
theorem w_X12_laughOf_65  (C : zC G p s m args meth c cX12_laughOf 5 RX12 (some .int)) (hm : ∀ c ∈ nd_X12_laughOf, c ∈ znm G) (hk : ∀ q ∈ ld_X12_laughOf, zlk G q.1 q.2 = true)  : ∀ (ls : Array Slot) (H : Heap) (locs : List Loc) (h : zH) (x1 : Int32) (x2 : Int32) (x3 : Int32) (s0 : Int32) (s1 : Int32), lv_has ls 5 [(0, .ref (zal G 100)), (1, .int x1), (2, .int x2), (3, .int x3)] → zS G h s.heap H locs → f_X12_laughOf_65  x1 x2 x3 s0 s1 h = some q → W p l e (zrm (4)) s m args below meth c H locs 0 0 (MQ below (zQI G q.2 q.1) args s 0 0 (zA G)) (F0 m 65 ls [.int s0, .int s1, .ref (zal G 109)]) := by
  intro ls H locs h x1 x2 x3 s0 s1 hl hS hf
  unfold f_X12_laughOf_65 at hf
  obtain ⟨hi, hf⟩ := zck_some hf
  refine zast C hS sh_109 (hm 109 (by decide)) hi dX12_laughOf_65 (fun H locs hS => ?_)
  obtain ⟨h12, eh12, hf⟩ := zst_some hf
  have hS : zS G h12 s.heap H locs := by rw [eh12]; exact hS
  refine lv_aload_n C.1 C.2.1 dX12_laughOf_66 rfl (lv_at hl 0 rfl) ?_
  refine zgetR C hS ff_X12_34_100 (hm 100 (by decide)) (hk (100, 10) (by decide)) dX12_laughOf_67 ?_
  refine lv_iconst (v := (4 : Int32)) C.1 C.2.1 dX12_laughOf_70 rfl ?_
  refine lv_aload_n C.1 C.2.1 dX12_laughOf_71 rfl (lv_at hl 0 rfl) ?_
  refine zgetR C hS ff_X12_7_100 (hm 100 (by decide)) (hk (100, 0) (by decide)) dX12_laughOf_72 ?_
  refine lv_sipush (v := (210 : Int32)) C.1 C.2.1 dX12_laughOf_75 rfl ?_
  refine lv_bipush (v := (16 : Int32)) C.1 C.2.1 dX12_laughOf_78 rfl ?_
  refine lv_iload_n C.1 C.2.1 dX12_laughOf_80 rfl (lv_at hl 1 rfl) ?_
  refine lv_imul C.1 C.2.1 dX12_laughOf_81 ?_
  refine lv_iadd C.1 C.2.1 dX12_laughOf_82 ?_
  refine lv_iload_n C.1 C.2.1 dX12_laughOf_83 rfl (lv_at hl 2 rfl) ?_
  refine lv_iadd C.1 C.2.1 dX12_laughOf_84 ?_
  obtain ⟨hi, hf⟩ := zck_some hf
  refine zald C hS sh_101 (hm 101 (by decide)) hi dX12_laughOf_85 ?_
  refine zast C hS sh_109 (hm 109 (by decide)) (vp_in_iff.mpr (by decide)) dX12_laughOf_86 (fun H locs hS => ?_)
  obtain ⟨h13, eh13, hf⟩ := zst_some hf
  have hS : zS G h13 s.heap H locs := by rw [eh13]; exact hS
  refine lv_aload_n C.1 C.2.1 dX12_laughOf_87 rfl (lv_at hl 0 rfl) ?_
  refine zgetR C hS ff_X12_34_100 (hm 100 (by decide)) (hk (100, 10) (by decide)) dX12_laughOf_88 ?_
  refine lv_iconst (v := (5 : Int32)) C.1 C.2.1 dX12_laughOf_91 rfl ?_
  refine lv_iload_n C.1 C.2.1 dX12_laughOf_92 rfl (lv_at hl 3 rfl) ?_
  refine lv_iconst (v := (-1 : Int32)) C.1 C.2.1 dX12_laughOf_93 rfl ?_
  refine lv_icmp_ne (tgt := 103) C.1 C.2.1 dX12_laughOf_94 (by decide) (fun hc => ?_) (fun hc => ?_)
  · have hf := zif_f hc hf
    refine lv_aload_n C.1 C.2.1 dX12_laughOf_103 rfl (lv_at hl 0 rfl) ?_
    refine zgetR C hS ff_X12_7_100 (hm 100 (by decide)) (hk (100, 0) (by decide)) dX12_laughOf_104 ?_
    refine lv_iconst (v := (5 : Int32)) C.1 C.2.1 dX12_laughOf_107 rfl ?_
    refine zald C hS sh_101 (hm 101 (by decide)) (vp_in_iff.mpr (by decide)) dX12_laughOf_108 ?_
    refine lv_iload_n C.1 C.2.1 dX12_laughOf_109 rfl (lv_at hl 3 rfl) ?_
    refine lv_isub C.1 C.2.1 dX12_laughOf_110 ?_
    exact w_X12_laughOf_111 C hm hk  _ _ _ _ _ _ _ (lv_sub hl [0, 1] rfl) hS hf
  · have hf := zif_t hc hf
    refine lv_sipush (v := (9999 : Int32)) C.1 C.2.1 dX12_laughOf_97 rfl ?_
    refine lv_goto (tgt := 111) C.1 C.2.1 dX12_laughOf_100 (by decide) ?_
    exact w_X12_laughOf_111 C hm hk  _ _ _ _ _ _ _ (lv_sub hl [0, 1] rfl) hS hf
set_option maxHeartbeats 4000000 in
set_option maxRecDepth 100000 in
theorem c_X12_laughOf (l : Launch) (G : zG) (h : zH) (x1 : Int32) (x2 : Int32) (q : Int32 × zH) (hm : ∀ c ∈ nd_X12_laughOf, c ∈ znm G) (hk : ∀ q ∈ ld_X12_laughOf, zlk G q.1 q.2 = true) (hf : f_X12_laughOf x1 x2 h = some q) : zCtI l yX12_laughOf cX12_laughOf 5 (some .int) (4) [.ref (zal G 100), .int x1, .int x2] G h q.2 q.1 := by
  refine zMetI (by decide) (Nat.le_of_ble_eq_true rfl) ?_
  intro p e s m below meth c ls C hl hS
  have hl : lv_has ls 5 [(0, .ref (zal G 100)), (1, .int x1), (2, .int x2)] := hl
  have C : zC G p s m [.ref (zal G 100), .int x1, .int x2].toArray meth c cX12_laughOf 5 RX12 (some .int) := C
  unfold f_X12_laughOf at hf
  refine lv_aload_n C.1 C.2.1 dX12_laughOf_0 rfl (lv_at hl 0 rfl) ?_
  refine zgetR C hS ff_X12_7_100 (hm 100 (by decide)) (hk (100, 0) (by decide)) dX12_laughOf_1 ?_
  refine lv_sipush (v := (466 : Int32)) C.1 C.2.1 dX12_laughOf_4 rfl ?_
  refine lv_bipush (v := (16 : Int32)) C.1 C.2.1 dX12_laughOf_7 rfl ?_
  refine lv_iload_n C.1 C.2.1 dX12_laughOf_9 rfl (lv_at hl 1 rfl) ?_
  refine lv_imul C.1 C.2.1 dX12_laughOf_10 ?_
  refine lv_iadd C.1 C.2.1 dX12_laughOf_11 ?_
  refine lv_iload_n C.1 C.2.1 dX12_laughOf_12 rfl (lv_at hl 2 rfl) ?_
  refine lv_iadd C.1 C.2.1 dX12_laughOf_13 ?_
  obtain ⟨hi, hf⟩ := zck_some hf
  refine zald C hS sh_101 (hm 101 (by decide)) hi dX12_laughOf_14 ?_
  obtain ⟨y1, ey1, hf⟩ := zlt_some hf
  refine ztop ey1 ?_
  refine lv_istore_n (lv' := [(3, .int y1), (0, .ref (zal G 100)), (1, .int x1), (2, .int x2)]) C.1 C.2.1 dX12_laughOf_15 rfl hl (by decide) rfl (fun ls hl => ?_)
  refine lv_aload_n C.1 C.2.1 dX12_laughOf_16 rfl (lv_at hl 1 rfl) ?_
  refine zgetR C hS ff_X12_34_100 (hm 100 (by decide)) (hk (100, 10) (by decide)) dX12_laughOf_17 ?_
  refine lv_iconst (v := (1 : Int32)) C.1 C.2.1 dX12_laughOf_20 rfl ?_
  refine lv_aload_n C.1 C.2.1 dX12_laughOf_21 rfl (lv_at hl 1 rfl) ?_
  refine lv_iload_n C.1 C.2.1 dX12_laughOf_22 rfl (lv_at hl 2 rfl) ?_
  refine lv_iconst (v := (2 : Int32)) C.1 C.2.1 dX12_laughOf_23 rfl ?_
  obtain ⟨r2, h3, er2, hf⟩ := zbd_some hf
  refine zcallVI (As := [.int x1, .int (2 : Int32)]) (rest := [.int (1 : Int32), .ref (zal G 109)]) C hS mv_X12_69 (c_X12_ofHalf l G h x1 (2 : Int32) (r2, h3) (fun c h => hm c (sn_X12_laughOf_X12_ofHalf c h)) (fun q h => hk q (sl_X12_laughOf_X12_ofHalf q h)) er2) (hm 100 (by decide)) ⟨_, _, _, sh_100, rfl, rfl⟩ rfl rfl (Nat.le_of_ble_eq_true rfl) hl.1 ⟨Nat.le_of_ble_eq_true rfl, Nat.le_of_ble_eq_true rfl, Nat.le_of_ble_eq_true rfl, Nat.le_of_ble_eq_true rfl⟩ dX12_laughOf_24 (fun H locs hS => ?_)
  refine zast C hS sh_109 (hm 109 (by decide)) (vp_in_iff.mpr (by decide)) dX12_laughOf_27 (fun H locs hS => ?_)
  obtain ⟨h4, eh4, hf⟩ := zst_some hf
  have hS : zS G h4 s.heap H locs := by rw [eh4]; exact hS
  refine lv_aload_n C.1 C.2.1 dX12_laughOf_28 rfl (lv_at hl 1 rfl) ?_
  refine zgetR C hS ff_X12_34_100 (hm 100 (by decide)) (hk (100, 10) (by decide)) dX12_laughOf_29 ?_
  refine lv_iconst (v := (2 : Int32)) C.1 C.2.1 dX12_laughOf_32 rfl ?_
  refine lv_aload_n C.1 C.2.1 dX12_laughOf_33 rfl (lv_at hl 1 rfl) ?_
  refine lv_iload_n C.1 C.2.1 dX12_laughOf_34 rfl (lv_at hl 3 rfl) ?_
  refine lv_iconst (v := (2 : Int32)) C.1 C.2.1 dX12_laughOf_35 rfl ?_
  obtain ⟨r5, h6, er5, hf⟩ := zbd_some hf
  refine zcallVI (As := [.int x2, .int (2 : Int32)]) (rest := [.int (2 : Int32), .ref (zal G 109)]) C hS mv_X12_69 (c_X12_ofHalf l G h4 x2 (2 : Int32) (r5, h6) (fun c h => hm c (sn_X12_laughOf_X12_ofHalf c h)) (fun q h => hk q (sl_X12_laughOf_X12_ofHalf q h)) er5) (hm 100 (by decide)) ⟨_, _, _, sh_100, rfl, rfl⟩ rfl rfl (Nat.le_of_ble_eq_true rfl) hl.1 ⟨Nat.le_of_ble_eq_true rfl, Nat.le_of_ble_eq_true rfl, Nat.le_of_ble_eq_true rfl, Nat.le_of_ble_eq_true rfl⟩ dX12_laughOf_36 (fun H locs hS => ?_)
  refine zast C hS sh_109 (hm 109 (by decide)) (vp_in_iff.mpr (by decide)) dX12_laughOf_39 (fun H locs hS => ?_)
  obtain ⟨h7, eh7, hf⟩ := zst_some hf
  have hS : zS G h7 s.heap H locs := by rw [eh7]; exact hS
  refine lv_aload_n C.1 C.2.1 dX12_laughOf_40 rfl (lv_at hl 1 rfl) ?_
  refine zgetR C hS ff_X12_34_100 (hm 100 (by decide)) (hk (100, 10) (by decide)) dX12_laughOf_41 ?_
  refine lv_iconst (v := (3 : Int32)) C.1 C.2.1 dX12_laughOf_44 rfl ?_
  refine lv_aload_n C.1 C.2.1 dX12_laughOf_45 rfl (lv_at hl 1 rfl) ?_
  refine lv_iload_n C.1 C.2.1 dX12_laughOf_46 rfl (lv_at hl 2 rfl) ?_
  refine lv_iconst (v := (1 : Int32)) C.1 C.2.1 dX12_laughOf_47 rfl ?_
  obtain ⟨r8, h9, er8, hf⟩ := zbd_some hf
  refine zcallVI (As := [.int x1, .int (1 : Int32)]) (rest := [.int (3 : Int32), .ref (zal G 109)]) C hS mv_X12_69 (c_X12_ofHalf l G h7 x1 (1 : Int32) (r8, h9) (fun c h => hm c (sn_X12_laughOf_X12_ofHalf c h)) (fun q h => hk q (sl_X12_laughOf_X12_ofHalf q h)) er8) (hm 100 (by decide)) ⟨_, _, _, sh_100, rfl, rfl⟩ rfl rfl (Nat.le_of_ble_eq_true rfl) hl.1 ⟨Nat.le_of_ble_eq_true rfl, Nat.le_of_ble_eq_true rfl, Nat.le_of_ble_eq_true rfl, Nat.le_of_ble_eq_true rfl⟩ dX12_laughOf_48 (fun H locs hS => ?_)
  refine lv_aload_n C.1 C.2.1 dX12_laughOf_51 rfl (lv_at hl 1 rfl) ?_
  refine lv_iload_n C.1 C.2.1 dX12_laughOf_52 rfl (lv_at hl 3 rfl) ?_
  refine lv_iconst (v := (1 : Int32)) C.1 C.2.1 dX12_laughOf_53 rfl ?_
  obtain ⟨r10, h11, er10, hf⟩ := zbd_some hf
  refine zcallVI (As := [.int x2, .int (1 : Int32)]) (rest := [.int r8, .int (3 : Int32), .ref (zal G 109)]) C hS mv_X12_69 (c_X12_ofHalf l G h9 x2 (1 : Int32) (r10, h11) (fun c h => hm c (sn_X12_laughOf_X12_ofHalf c h)) (fun q h => hk q (sl_X12_laughOf_X12_ofHalf q h)) er10) (hm 100 (by decide)) ⟨_, _, _, sh_100, rfl, rfl⟩ rfl rfl (Nat.le_of_ble_eq_true rfl) hl.1 ⟨Nat.le_of_ble_eq_true rfl, Nat.le_of_ble_eq_true rfl, Nat.le_of_ble_eq_true rfl, Nat.le_of_ble_eq_true rfl⟩ dX12_laughOf_54 (fun H locs hS => ?_)
  refine lv_icmp_ne (tgt := 64) C.1 C.2.1 dX12_laughOf_57 (by decide) (fun hc => ?_) (fun hc => ?_)
  · have hf := zif_f hc hf
    refine lv_iconst (v := (0 : Int32)) C.1 C.2.1 dX12_laughOf_64 rfl ?_
    exact w_X12_laughOf_65 C hm hk  _ _ _ _ _ _ _ _ _ (lv_sub hl [1, 2, 3, 0] rfl) hS hf
  · have hf := zif_t hc hf
    refine lv_iconst (v := (1 : Int32)) C.1 C.2.1 dX12_laughOf_60 rfl ?_
    refine lv_goto (tgt := 65) C.1 C.2.1 dX12_laughOf_61 (by decide) ?_
    exact w_X12_laughOf_65 C hm hk  _ _ _ _ _ _ _ _ _ (lv_sub hl [1, 2, 3, 0] rfl) hS hf
end
section
theorem dX12_laugh_0 : decode cX12_laugh 0 = .ok (.aload_n 0, 1) := by decide +kernel
theorem dX12_laugh_1 : decode cX12_laugh 1 = .ok (.iload_n 1, 1) := by decide +kernel
theorem dX12_laugh_2 : decode cX12_laugh 2 = .ok (.invokevirtual 259, 3) := by decide +kernel
theorem dX12_laugh_5 : decode cX12_laugh 5 = .ok (.ifCond .eq 20, 3) := by decide +kernel
theorem dX12_laugh_8 : decode cX12_laugh 8 = .ok (.aload_n 0, 1) := by decide +kernel
theorem dX12_laugh_9 : decode cX12_laugh 9 = .ok (.iload_n 2, 1) := by decide +kernel
theorem dX12_laugh_10 : decode cX12_laugh 10 = .ok (.invokevirtual 262, 3) := by decide +kernel
theorem dX12_laugh_13 : decode cX12_laugh 13 = .ok (.ifCond .eq 12, 3) := by decide +kernel
theorem dX12_laugh_16 : decode cX12_laugh 16 = .ok (.aload_n 0, 1) := by decide +kernel
theorem dX12_laugh_17 : decode cX12_laugh 17 = .ok (.iload_n 1, 1) := by decide +kernel
theorem dX12_laugh_18 : decode cX12_laugh 18 = .ok (.iload_n 2, 1) := by decide +kernel
theorem dX12_laugh_19 : decode cX12_laugh 19 = .ok (.invokevirtual 269, 3) := by decide +kernel
theorem dX12_laugh_22 : decode cX12_laugh 22 = .ok (.goto 4, 3) := by decide +kernel
theorem dX12_laugh_25 : decode cX12_laugh 25 = .ok (.iconst (-1), 1) := by decide +kernel
theorem dX12_laugh_26 : decode cX12_laugh 26 = .ok (.ireturn, 1) := by decide +kernel
abbrev nd_X12_laugh : List Nat := [100, 101, 108, 109]
abbrev ld_X12_laugh : List (Nat × Nat) := [(100, 0), (100, 9), (100, 10)]
theorem sn_X12_laugh_X12_isFront : ∀ c ∈ nd_X12_isFront, c ∈ nd_X12_laugh := by decide
theorem sl_X12_laugh_X12_isFront : ∀ q ∈ ld_X12_isFront, q ∈ ld_X12_laugh := by decide
theorem sn_X12_laugh_X12_isEnd : ∀ c ∈ nd_X12_isEnd, c ∈ nd_X12_laugh := by decide
theorem sl_X12_laugh_X12_isEnd : ∀ q ∈ ld_X12_isEnd, q ∈ ld_X12_laugh := by decide
theorem sn_X12_laugh_X12_laughOf : ∀ c ∈ nd_X12_laughOf, c ∈ nd_X12_laugh := by decide
theorem sl_X12_laugh_X12_laughOf : ∀ q ∈ ld_X12_laughOf, q ∈ ld_X12_laugh := by decide
def f_X12_laugh_25  (h : zH) : zR := (some ((-1 : Int32), h))
def f_X12_laugh  (x1 : Int32) (x2 : Int32) (h : zH) : zR := (zbd (f_X12_isFront x1 h) fun r1 h2 => (if r1 = 0 then (f_X12_laugh_25   h2) else (zbd (f_X12_isEnd x2 h2) fun r3 h4 => (if r3 = 0 then (f_X12_laugh_25   h4) else (zbd (f_X12_laughOf x1 x2 h4) fun r5 h6 => (some (r5, h6)))))))
variable {p : Program} {l : Launch} {e : Env} {s : State} {m : MethodId} {args : Array Value} {below : List Frame} {meth : Method} {c : Code} {G : zG} {q : Int32 × zH}
set_option maxHeartbeats 4000000 in
set_option maxRecDepth 100000 in
theorem w_X12_laugh_25  (C : zC G p s m args meth c cX12_laugh 3 RX12 (some .int)) (hm : ∀ c ∈ nd_X12_laugh, c ∈ znm G) (hk : ∀ q ∈ ld_X12_laugh, zlk G q.1 q.2 = true)  : ∀ (ls : Array Slot) (H : Heap) (locs : List Loc) (h : zH), lv_has ls 3 [] → zS G h s.heap H locs → f_X12_laugh_25  h = some q → W p l e (zrm (5)) s m args below meth c H locs 0 0 (MQ below (zQI G q.2 q.1) args s 0 0 (zA G)) (F0 m 25 ls []) := by
  intro ls H locs h hl hS hf
  unfold f_X12_laugh_25 at hf
  refine lv_iconst (v := (-1 : Int32)) C.1 C.2.1 dX12_laugh_25 rfl ?_
  exact zretI C hS hf dX12_laugh_26
set_option maxHeartbeats 4000000 in
set_option maxRecDepth 100000 in
theorem c_X12_laugh (l : Launch) (G : zG) (h : zH) (x1 : Int32) (x2 : Int32) (q : Int32 × zH) (hm : ∀ c ∈ nd_X12_laugh, c ∈ znm G) (hk : ∀ q ∈ ld_X12_laugh, zlk G q.1 q.2 = true) (hf : f_X12_laugh x1 x2 h = some q) : zCtI l yX12_laugh cX12_laugh 3 (some .int) (5) [.ref (zal G 100), .int x1, .int x2] G h q.2 q.1 := by
  refine zMetI (by decide) (Nat.le_of_ble_eq_true rfl) ?_
  intro p e s m below meth c ls C hl hS
  have hl : lv_has ls 3 [(0, .ref (zal G 100)), (1, .int x1), (2, .int x2)] := hl
  have C : zC G p s m [.ref (zal G 100), .int x1, .int x2].toArray meth c cX12_laugh 3 RX12 (some .int) := C
  unfold f_X12_laugh at hf
  refine lv_aload_n C.1 C.2.1 dX12_laugh_0 rfl (lv_at hl 0 rfl) ?_
  refine lv_iload_n C.1 C.2.1 dX12_laugh_1 rfl (lv_at hl 1 rfl) ?_
  obtain ⟨r1, h2, er1, hf⟩ := zbd_some hf
  refine zcallVI (As := [.int x1]) (rest := []) C hS mv_X12_259 (c_X12_isFront l G h x1 (r1, h2) (fun c h => hm c (sn_X12_laugh_X12_isFront c h)) (fun q h => hk q (sl_X12_laugh_X12_isFront q h)) er1) (hm 100 (by decide)) ⟨_, _, _, sh_100, rfl, rfl⟩ rfl rfl (Nat.le_of_ble_eq_true rfl) hl.1 ⟨Nat.le_of_ble_eq_true rfl, Nat.le_of_ble_eq_true rfl, Nat.le_of_ble_eq_true rfl, Nat.le_of_ble_eq_true rfl⟩ dX12_laugh_2 (fun H locs hS => ?_)
  refine lv_if_eq (tgt := 25) C.1 C.2.1 dX12_laugh_5 (by decide) (fun hc => ?_) (fun hc => ?_)
  · have hf := zif_t hc hf
    exact w_X12_laugh_25 C hm hk  _ _ _ _ (lv_sub hl [] rfl) hS hf
  · have hf := zif_f hc hf
    refine lv_aload_n C.1 C.2.1 dX12_laugh_8 rfl (lv_at hl 0 rfl) ?_
    refine lv_iload_n C.1 C.2.1 dX12_laugh_9 rfl (lv_at hl 2 rfl) ?_
    obtain ⟨r3, h4, er3, hf⟩ := zbd_some hf
    refine zcallVI (As := [.int x2]) (rest := []) C hS mv_X12_262 (c_X12_isEnd l G h2 x2 (r3, h4) (fun c h => hm c (sn_X12_laugh_X12_isEnd c h)) (fun q h => hk q (sl_X12_laugh_X12_isEnd q h)) er3) (hm 100 (by decide)) ⟨_, _, _, sh_100, rfl, rfl⟩ rfl rfl (Nat.le_of_ble_eq_true rfl) hl.1 ⟨Nat.le_of_ble_eq_true rfl, Nat.le_of_ble_eq_true rfl, Nat.le_of_ble_eq_true rfl, Nat.le_of_ble_eq_true rfl⟩ dX12_laugh_10 (fun H locs hS => ?_)
    refine lv_if_eq (tgt := 25) C.1 C.2.1 dX12_laugh_13 (by decide) (fun hc => ?_) (fun hc => ?_)
    · have hf := zif_t hc hf
      exact w_X12_laugh_25 C hm hk  _ _ _ _ (lv_sub hl [] rfl) hS hf
    · have hf := zif_f hc hf
      refine lv_aload_n C.1 C.2.1 dX12_laugh_16 rfl (lv_at hl 0 rfl) ?_
      refine lv_iload_n C.1 C.2.1 dX12_laugh_17 rfl (lv_at hl 1 rfl) ?_
      refine lv_iload_n C.1 C.2.1 dX12_laugh_18 rfl (lv_at hl 2 rfl) ?_
      obtain ⟨r5, h6, er5, hf⟩ := zbd_some hf
      refine zcallVI (As := [.int x1, .int x2]) (rest := []) C hS mv_X12_269 (c_X12_laughOf l G h4 x1 x2 (r5, h6) (fun c h => hm c (sn_X12_laugh_X12_laughOf c h)) (fun q h => hk q (sl_X12_laugh_X12_laughOf q h)) er5) (hm 100 (by decide)) ⟨_, _, _, sh_100, rfl, rfl⟩ rfl rfl (Nat.le_of_ble_eq_true rfl) hl.1 ⟨Nat.le_of_ble_eq_true rfl, Nat.le_of_ble_eq_true rfl, Nat.le_of_ble_eq_true rfl, Nat.le_of_ble_eq_true rfl⟩ dX12_laugh_19 (fun H locs hS => ?_)
      refine lv_goto (tgt := 26) C.1 C.2.1 dX12_laugh_22 (by decide) ?_
      exact zretI C hS hf dX12_laugh_26
end
section
theorem dX12_canTell_0 : decode cX12_canTell 0 = .ok (.aload_n 0, 1) := by decide +kernel
theorem dX12_canTell_1 : decode cX12_canTell 1 = .ok (.iload_n 2, 1) := by decide +kernel
theorem dX12_canTell_2 : decode cX12_canTell 2 = .ok (.iload_n 1, 1) := by decide +kernel
theorem dX12_canTell_3 : decode cX12_canTell 3 = .ok (.invokevirtual 88, 3) := by decide +kernel
theorem dX12_canTell_6 : decode cX12_canTell 6 = .ok (.aload_n 0, 1) := by decide +kernel
theorem dX12_canTell_7 : decode cX12_canTell 7 = .ok (.getfield 7, 3) := by decide +kernel
theorem dX12_canTell_10 : decode cX12_canTell 10 = .ok (.iconst 1, 1) := by decide +kernel
theorem dX12_canTell_11 : decode cX12_canTell 11 = .ok (.iaload, 1) := by decide +kernel
theorem dX12_canTell_12 : decode cX12_canTell 12 = .ok (.if_icmp .lt 7, 3) := by decide +kernel
theorem dX12_canTell_15 : decode cX12_canTell 15 = .ok (.iconst 1, 1) := by decide +kernel
theorem dX12_canTell_16 : decode cX12_canTell 16 = .ok (.goto 4, 3) := by decide +kernel
theorem dX12_canTell_19 : decode cX12_canTell 19 = .ok (.iconst 0, 1) := by decide +kernel
theorem dX12_canTell_20 : decode cX12_canTell 20 = .ok (.ireturn, 1) := by decide +kernel
abbrev nd_X12_canTell : List Nat := [100, 101]
abbrev ld_X12_canTell : List (Nat × Nat) := [(100, 0)]
theorem sn_X12_canTell_X12_quarters : ∀ c ∈ nd_X12_quarters, c ∈ nd_X12_canTell := by decide
theorem sl_X12_canTell_X12_quarters : ∀ q ∈ ld_X12_quarters, q ∈ ld_X12_canTell := by decide
def f_X12_canTell  (x1 : Int32) (x2 : Int32) (h : zH) : zR := (zbd (f_X12_quarters x2 x1 h) fun r1 h2 => (if r1 < (h2 101 1) then (some ((0 : Int32), h2)) else (some ((1 : Int32), h2))))
variable {p : Program} {l : Launch} {e : Env} {s : State} {m : MethodId} {args : Array Value} {below : List Frame} {meth : Method} {c : Code} {G : zG} {q : Int32 × zH}
set_option maxHeartbeats 4000000 in
set_option maxRecDepth 100000 in
theorem c_X12_canTell (l : Launch) (G : zG) (h : zH) (x1 : Int32) (x2 : Int32) (q : Int32 × zH) (hm : ∀ c ∈ nd_X12_canTell, c ∈ znm G) (hk : ∀ q ∈ ld_X12_canTell, zlk G q.1 q.2 = true) (hf : f_X12_canTell x1 x2 h = some q) : zCtI l yX12_canTell cX12_canTell 3 (some .boolean) (4) [.ref (zal G 100), .int x1, .int x2] G h q.2 q.1 := by
  refine zMetI (by decide) (Nat.le_of_ble_eq_true rfl) ?_
  intro p e s m below meth c ls C hl hS
  have hl : lv_has ls 3 [(0, .ref (zal G 100)), (1, .int x1), (2, .int x2)] := hl
  have C : zC G p s m [.ref (zal G 100), .int x1, .int x2].toArray meth c cX12_canTell 3 RX12 (some .boolean) := C
  unfold f_X12_canTell at hf
  refine lv_aload_n C.1 C.2.1 dX12_canTell_0 rfl (lv_at hl 0 rfl) ?_
  refine lv_iload_n C.1 C.2.1 dX12_canTell_1 rfl (lv_at hl 2 rfl) ?_
  refine lv_iload_n C.1 C.2.1 dX12_canTell_2 rfl (lv_at hl 1 rfl) ?_
  obtain ⟨r1, h2, er1, hf⟩ := zbd_some hf
  refine zcallVI (As := [.int x2, .int x1]) (rest := []) C hS mv_X12_88 (c_X12_quarters l G h x2 x1 (r1, h2) (fun c h => hm c (sn_X12_canTell_X12_quarters c h)) (fun q h => hk q (sl_X12_canTell_X12_quarters q h)) er1) (hm 100 (by decide)) ⟨_, _, _, sh_100, rfl, rfl⟩ rfl rfl (Nat.le_of_ble_eq_true rfl) hl.1 ⟨Nat.le_of_ble_eq_true rfl, Nat.le_of_ble_eq_true rfl, Nat.le_of_ble_eq_true rfl, Nat.le_of_ble_eq_true rfl⟩ dX12_canTell_3 (fun H locs hS => ?_)
  refine lv_aload_n C.1 C.2.1 dX12_canTell_6 rfl (lv_at hl 0 rfl) ?_
  refine zgetR C hS ff_X12_7_100 (hm 100 (by decide)) (hk (100, 0) (by decide)) dX12_canTell_7 ?_
  refine lv_iconst (v := (1 : Int32)) C.1 C.2.1 dX12_canTell_10 rfl ?_
  refine zald C hS sh_101 (hm 101 (by decide)) (vp_in_iff.mpr (by decide)) dX12_canTell_11 ?_
  refine lv_icmp_lt (tgt := 19) C.1 C.2.1 dX12_canTell_12 (by decide) (fun hc => ?_) (fun hc => ?_)
  · have hf := zif_t hc hf
    refine lv_iconst (v := (0 : Int32)) C.1 C.2.1 dX12_canTell_19 rfl ?_
    exact zretZ C hS rfl hf dX12_canTell_20
  · have hf := zif_f hc hf
    refine lv_iconst (v := (1 : Int32)) C.1 C.2.1 dX12_canTell_15 rfl ?_
    refine lv_goto (tgt := 20) C.1 C.2.1 dX12_canTell_16 (by decide) ?_
    exact zretZ C hS rfl hf dX12_canTell_20
end
section
theorem dX12_canBoth_0 : decode cX12_canBoth 0 = .ok (.aload_n 0, 1) := by decide +kernel
theorem dX12_canBoth_1 : decode cX12_canBoth 1 = .ok (.iload_n 1, 1) := by decide +kernel
theorem dX12_canBoth_2 : decode cX12_canBoth 2 = .ok (.iload_n 3, 1) := by decide +kernel
theorem dX12_canBoth_3 : decode cX12_canBoth 3 = .ok (.invokevirtual 252, 3) := by decide +kernel
theorem dX12_canBoth_6 : decode cX12_canBoth 6 = .ok (.ifCond .eq 17, 3) := by decide +kernel
theorem dX12_canBoth_9 : decode cX12_canBoth 9 = .ok (.aload_n 0, 1) := by decide +kernel
theorem dX12_canBoth_10 : decode cX12_canBoth 10 = .ok (.iload_n 2, 1) := by decide +kernel
theorem dX12_canBoth_11 : decode cX12_canBoth 11 = .ok (.iload 4, 2) := by decide +kernel
theorem dX12_canBoth_13 : decode cX12_canBoth 13 = .ok (.invokevirtual 252, 3) := by decide +kernel
theorem dX12_canBoth_16 : decode cX12_canBoth 16 = .ok (.ifCond .eq 7, 3) := by decide +kernel
theorem dX12_canBoth_19 : decode cX12_canBoth 19 = .ok (.iconst 1, 1) := by decide +kernel
theorem dX12_canBoth_20 : decode cX12_canBoth 20 = .ok (.goto 4, 3) := by decide +kernel
theorem dX12_canBoth_23 : decode cX12_canBoth 23 = .ok (.iconst 0, 1) := by decide +kernel
theorem dX12_canBoth_24 : decode cX12_canBoth 24 = .ok (.ireturn, 1) := by decide +kernel
abbrev nd_X12_canBoth : List Nat := [100, 101]
abbrev ld_X12_canBoth : List (Nat × Nat) := [(100, 0)]
theorem sn_X12_canBoth_X12_canTell : ∀ c ∈ nd_X12_canTell, c ∈ nd_X12_canBoth := by decide
theorem sl_X12_canBoth_X12_canTell : ∀ q ∈ ld_X12_canTell, q ∈ ld_X12_canBoth := by decide
def f_X12_canBoth_23  (h : zH) : zR := (some ((0 : Int32), h))
def f_X12_canBoth  (x1 : Int32) (x2 : Int32) (x3 : Int32) (x4 : Int32) (h : zH) : zR := (zbd (f_X12_canTell x1 x3 h) fun r1 h2 => (if r1 = 0 then (f_X12_canBoth_23   h2) else (zbd (f_X12_canTell x2 x4 h2) fun r3 h4 => (if r3 = 0 then (f_X12_canBoth_23   h4) else (some ((1 : Int32), h4))))))
variable {p : Program} {l : Launch} {e : Env} {s : State} {m : MethodId} {args : Array Value} {below : List Frame} {meth : Method} {c : Code} {G : zG} {q : Int32 × zH}
set_option maxHeartbeats 4000000 in
set_option maxRecDepth 100000 in
theorem w_X12_canBoth_23  (C : zC G p s m args meth c cX12_canBoth 5 RX12 (some .boolean)) (hm : ∀ c ∈ nd_X12_canBoth, c ∈ znm G) (hk : ∀ q ∈ ld_X12_canBoth, zlk G q.1 q.2 = true)  : ∀ (ls : Array Slot) (H : Heap) (locs : List Loc) (h : zH), lv_has ls 5 [] → zS G h s.heap H locs → f_X12_canBoth_23  h = some q → W p l e (zrm (5)) s m args below meth c H locs 0 0 (MQ below (zQI G q.2 q.1) args s 0 0 (zA G)) (F0 m 23 ls []) := by
  intro ls H locs h hl hS hf
  unfold f_X12_canBoth_23 at hf
  refine lv_iconst (v := (0 : Int32)) C.1 C.2.1 dX12_canBoth_23 rfl ?_
  exact zretZ C hS rfl hf dX12_canBoth_24
set_option maxHeartbeats 4000000 in
set_option maxRecDepth 100000 in
theorem c_X12_canBoth (l : Launch) (G : zG) (h : zH) (x1 : Int32) (x2 : Int32) (x3 : Int32) (x4 : Int32) (q : Int32 × zH) (hm : ∀ c ∈ nd_X12_canBoth, c ∈ znm G) (hk : ∀ q ∈ ld_X12_canBoth, zlk G q.1 q.2 = true) (hf : f_X12_canBoth x1 x2 x3 x4 h = some q) : zCtI l yX12_canBoth cX12_canBoth 5 (some .boolean) (5) [.ref (zal G 100), .int x1, .int x2, .int x3, .int x4] G h q.2 q.1 := by
  refine zMetI (by decide) (Nat.le_of_ble_eq_true rfl) ?_
  intro p e s m below meth c ls C hl hS
  have hl : lv_has ls 5 [(0, .ref (zal G 100)), (1, .int x1), (2, .int x2), (3, .int x3), (4, .int x4)] := hl
  have C : zC G p s m [.ref (zal G 100), .int x1, .int x2, .int x3, .int x4].toArray meth c cX12_canBoth 5 RX12 (some .boolean) := C
  unfold f_X12_canBoth at hf
  refine lv_aload_n C.1 C.2.1 dX12_canBoth_0 rfl (lv_at hl 0 rfl) ?_
  refine lv_iload_n C.1 C.2.1 dX12_canBoth_1 rfl (lv_at hl 1 rfl) ?_
  refine lv_iload_n C.1 C.2.1 dX12_canBoth_2 rfl (lv_at hl 3 rfl) ?_
  obtain ⟨r1, h2, er1, hf⟩ := zbd_some hf
  refine zcallVI (As := [.int x1, .int x3]) (rest := []) C hS mv_X12_252 (c_X12_canTell l G h x1 x3 (r1, h2) (fun c h => hm c (sn_X12_canBoth_X12_canTell c h)) (fun q h => hk q (sl_X12_canBoth_X12_canTell q h)) er1) (hm 100 (by decide)) ⟨_, _, _, sh_100, rfl, rfl⟩ rfl rfl (Nat.le_of_ble_eq_true rfl) hl.1 ⟨Nat.le_of_ble_eq_true rfl, Nat.le_of_ble_eq_true rfl, Nat.le_of_ble_eq_true rfl, Nat.le_of_ble_eq_true rfl⟩ dX12_canBoth_3 (fun H locs hS => ?_)
  refine lv_if_eq (tgt := 23) C.1 C.2.1 dX12_canBoth_6 (by decide) (fun hc => ?_) (fun hc => ?_)
  · have hf := zif_t hc hf
    exact w_X12_canBoth_23 C hm hk  _ _ _ _ (lv_sub hl [] rfl) hS hf
  · have hf := zif_f hc hf
    refine lv_aload_n C.1 C.2.1 dX12_canBoth_9 rfl (lv_at hl 0 rfl) ?_
    refine lv_iload_n C.1 C.2.1 dX12_canBoth_10 rfl (lv_at hl 2 rfl) ?_
    refine lv_iload C.1 C.2.1 dX12_canBoth_11 (lv_at hl 4 rfl) ?_
    obtain ⟨r3, h4, er3, hf⟩ := zbd_some hf
    refine zcallVI (As := [.int x2, .int x4]) (rest := []) C hS mv_X12_252 (c_X12_canTell l G h2 x2 x4 (r3, h4) (fun c h => hm c (sn_X12_canBoth_X12_canTell c h)) (fun q h => hk q (sl_X12_canBoth_X12_canTell q h)) er3) (hm 100 (by decide)) ⟨_, _, _, sh_100, rfl, rfl⟩ rfl rfl (Nat.le_of_ble_eq_true rfl) hl.1 ⟨Nat.le_of_ble_eq_true rfl, Nat.le_of_ble_eq_true rfl, Nat.le_of_ble_eq_true rfl, Nat.le_of_ble_eq_true rfl⟩ dX12_canBoth_13 (fun H locs hS => ?_)
    refine lv_if_eq (tgt := 23) C.1 C.2.1 dX12_canBoth_16 (by decide) (fun hc => ?_) (fun hc => ?_)
    · have hf := zif_t hc hf
      exact w_X12_canBoth_23 C hm hk  _ _ _ _ (lv_sub hl [] rfl) hS hf
    · have hf := zif_f hc hf
      refine lv_iconst (v := (1 : Int32)) C.1 C.2.1 dX12_canBoth_19 rfl ?_
      refine lv_goto (tgt := 24) C.1 C.2.1 dX12_canBoth_20 (by decide) ?_
      exact zretZ C hS rfl hf dX12_canBoth_24
end
section
theorem dX12_laysTelling_0 : decode cX12_laysTelling 0 = .ok (.aload_n 0, 1) := by decide +kernel
theorem dX12_laysTelling_1 : decode cX12_laysTelling 1 = .ok (.iload_n 1, 1) := by decide +kernel
theorem dX12_laysTelling_2 : decode cX12_laysTelling 2 = .ok (.invokevirtual 112, 3) := by decide +kernel
theorem dX12_laysTelling_5 : decode cX12_laysTelling 5 = .ok (.istore_n 2, 1) := by decide +kernel
theorem dX12_laysTelling_6 : decode cX12_laysTelling 6 = .ok (.aload_n 0, 1) := by decide +kernel
theorem dX12_laysTelling_7 : decode cX12_laysTelling 7 = .ok (.iload_n 1, 1) := by decide +kernel
theorem dX12_laysTelling_8 : decode cX12_laysTelling 8 = .ok (.iconst 1, 1) := by decide +kernel
theorem dX12_laysTelling_9 : decode cX12_laysTelling 9 = .ok (.iadd, 1) := by decide +kernel
theorem dX12_laysTelling_10 : decode cX12_laysTelling 10 = .ok (.aload_n 0, 1) := by decide +kernel
theorem dX12_laysTelling_11 : decode cX12_laysTelling 11 = .ok (.getfield 7, 3) := by decide +kernel
theorem dX12_laysTelling_14 : decode cX12_laysTelling 14 = .ok (.iconst 0, 1) := by decide +kernel
theorem dX12_laysTelling_15 : decode cX12_laysTelling 15 = .ok (.iaload, 1) := by decide +kernel
theorem dX12_laysTelling_16 : decode cX12_laysTelling 16 = .ok (.irem, 1) := by decide +kernel
theorem dX12_laysTelling_17 : decode cX12_laysTelling 17 = .ok (.invokevirtual 112, 3) := by decide +kernel
theorem dX12_laysTelling_20 : decode cX12_laysTelling 20 = .ok (.istore_n 3, 1) := by decide +kernel
theorem dX12_laysTelling_21 : decode cX12_laysTelling 21 = .ok (.aload_n 0, 1) := by decide +kernel
theorem dX12_laysTelling_22 : decode cX12_laysTelling 22 = .ok (.iconst 0, 1) := by decide +kernel
theorem dX12_laysTelling_23 : decode cX12_laysTelling 23 = .ok (.putfield 256, 3) := by decide +kernel
theorem dX12_laysTelling_26 : decode cX12_laysTelling 26 = .ok (.iload_n 2, 1) := by decide +kernel
theorem dX12_laysTelling_27 : decode cX12_laysTelling 27 = .ok (.iconst (-1), 1) := by decide +kernel
theorem dX12_laysTelling_28 : decode cX12_laysTelling 28 = .ok (.if_icmp .eq 8, 3) := by decide +kernel
theorem dX12_laysTelling_31 : decode cX12_laysTelling 31 = .ok (.iload_n 3, 1) := by decide +kernel
theorem dX12_laysTelling_32 : decode cX12_laysTelling 32 = .ok (.iconst (-1), 1) := by decide +kernel
theorem dX12_laysTelling_33 : decode cX12_laysTelling 33 = .ok (.if_icmp .ne 5, 3) := by decide +kernel
theorem dX12_laysTelling_36 : decode cX12_laysTelling 36 = .ok (.iconst 0, 1) := by decide +kernel
theorem dX12_laysTelling_37 : decode cX12_laysTelling 37 = .ok (.ireturn, 1) := by decide +kernel
theorem dX12_laysTelling_38 : decode cX12_laysTelling 38 = .ok (.aload_n 0, 1) := by decide +kernel
theorem dX12_laysTelling_39 : decode cX12_laysTelling 39 = .ok (.iload_n 2, 1) := by decide +kernel
theorem dX12_laysTelling_40 : decode cX12_laysTelling 40 = .ok (.iconst 0, 1) := by decide +kernel
theorem dX12_laysTelling_41 : decode cX12_laysTelling 41 = .ok (.invokevirtual 106, 3) := by decide +kernel
theorem dX12_laysTelling_44 : decode cX12_laysTelling 44 = .ok (.istore 4, 2) := by decide +kernel
theorem dX12_laysTelling_46 : decode cX12_laysTelling 46 = .ok (.aload_n 0, 1) := by decide +kernel
theorem dX12_laysTelling_47 : decode cX12_laysTelling 47 = .ok (.iload_n 3, 1) := by decide +kernel
theorem dX12_laysTelling_48 : decode cX12_laysTelling 48 = .ok (.iconst 0, 1) := by decide +kernel
theorem dX12_laysTelling_49 : decode cX12_laysTelling 49 = .ok (.invokevirtual 106, 3) := by decide +kernel
theorem dX12_laysTelling_52 : decode cX12_laysTelling 52 = .ok (.istore 5, 2) := by decide +kernel
theorem dX12_laysTelling_54 : decode cX12_laysTelling 54 = .ok (.iload 4, 2) := by decide +kernel
theorem dX12_laysTelling_56 : decode cX12_laysTelling 56 = .ok (.iload 5, 2) := by decide +kernel
theorem dX12_laysTelling_58 : decode cX12_laysTelling 58 = .ok (.if_icmp .eq 22, 3) := by decide +kernel
theorem dX12_laysTelling_61 : decode cX12_laysTelling 61 = .ok (.aload_n 0, 1) := by decide +kernel
theorem dX12_laysTelling_62 : decode cX12_laysTelling 62 = .ok (.getfield 7, 3) := by decide +kernel
theorem dX12_laysTelling_65 : decode cX12_laysTelling 65 = .ok (.bipush 10, 2) := by decide +kernel
theorem dX12_laysTelling_67 : decode cX12_laysTelling 67 = .ok (.iload 4, 2) := by decide +kernel
theorem dX12_laysTelling_69 : decode cX12_laysTelling 69 = .ok (.iadd, 1) := by decide +kernel
theorem dX12_laysTelling_70 : decode cX12_laysTelling 70 = .ok (.iaload, 1) := by decide +kernel
theorem dX12_laysTelling_71 : decode cX12_laysTelling 71 = .ok (.iload 5, 2) := by decide +kernel
theorem dX12_laysTelling_73 : decode cX12_laysTelling 73 = .ok (.ishr, 1) := by decide +kernel
theorem dX12_laysTelling_74 : decode cX12_laysTelling 74 = .ok (.iconst 1, 1) := by decide +kernel
theorem dX12_laysTelling_75 : decode cX12_laysTelling 75 = .ok (.iand, 1) := by decide +kernel
theorem dX12_laysTelling_76 : decode cX12_laysTelling 76 = .ok (.iconst 1, 1) := by decide +kernel
theorem dX12_laysTelling_77 : decode cX12_laysTelling 77 = .ok (.if_icmp .ne 5, 3) := by decide +kernel
theorem dX12_laysTelling_80 : decode cX12_laysTelling 80 = .ok (.iconst 0, 1) := by decide +kernel
theorem dX12_laysTelling_81 : decode cX12_laysTelling 81 = .ok (.ireturn, 1) := by decide +kernel
theorem dX12_laysTelling_82 : decode cX12_laysTelling 82 = .ok (.iconst 0, 1) := by decide +kernel
theorem dX12_laysTelling_83 : decode cX12_laysTelling 83 = .ok (.istore 6, 2) := by decide +kernel
theorem dX12_laysTelling_85 : decode cX12_laysTelling 85 = .ok (.iload 6, 2) := by decide +kernel
theorem dX12_laysTelling_87 : decode cX12_laysTelling 87 = .ok (.aload_n 0, 1) := by decide +kernel
theorem dX12_laysTelling_88 : decode cX12_laysTelling 88 = .ok (.getfield 7, 3) := by decide +kernel
theorem dX12_laysTelling_91 : decode cX12_laysTelling 91 = .ok (.iconst 3, 1) := by decide +kernel
theorem dX12_laysTelling_92 : decode cX12_laysTelling 92 = .ok (.iaload, 1) := by decide +kernel
theorem dX12_laysTelling_93 : decode cX12_laysTelling 93 = .ok (.if_icmp .ge 144, 3) := by decide +kernel
theorem dX12_laysTelling_96 : decode cX12_laysTelling 96 = .ok (.iconst 0, 1) := by decide +kernel
theorem dX12_laysTelling_97 : decode cX12_laysTelling 97 = .ok (.istore 7, 2) := by decide +kernel
theorem dX12_laysTelling_99 : decode cX12_laysTelling 99 = .ok (.iload 7, 2) := by decide +kernel
theorem dX12_laysTelling_101 : decode cX12_laysTelling 101 = .ok (.aload_n 0, 1) := by decide +kernel
theorem dX12_laysTelling_102 : decode cX12_laysTelling 102 = .ok (.getfield 7, 3) := by decide +kernel
theorem dX12_laysTelling_105 : decode cX12_laysTelling 105 = .ok (.iconst 3, 1) := by decide +kernel
theorem dX12_laysTelling_106 : decode cX12_laysTelling 106 = .ok (.iaload, 1) := by decide +kernel
theorem dX12_laysTelling_107 : decode cX12_laysTelling 107 = .ok (.if_icmp .ge 124, 3) := by decide +kernel
theorem dX12_laysTelling_110 : decode cX12_laysTelling 110 = .ok (.aload_n 0, 1) := by decide +kernel
theorem dX12_laysTelling_111 : decode cX12_laysTelling 111 = .ok (.iload 6, 2) := by decide +kernel
theorem dX12_laysTelling_113 : decode cX12_laysTelling 113 = .ok (.invokevirtual 259, 3) := by decide +kernel
theorem dX12_laysTelling_116 : decode cX12_laysTelling 116 = .ok (.ifCond .eq 109, 3) := by decide +kernel
theorem dX12_laysTelling_119 : decode cX12_laysTelling 119 = .ok (.aload_n 0, 1) := by decide +kernel
theorem dX12_laysTelling_120 : decode cX12_laysTelling 120 = .ok (.iload 7, 2) := by decide +kernel
theorem dX12_laysTelling_122 : decode cX12_laysTelling 122 = .ok (.invokevirtual 262, 3) := by decide +kernel
theorem dX12_laysTelling_125 : decode cX12_laysTelling 125 = .ok (.ifCond .eq 100, 3) := by decide +kernel
theorem dX12_laysTelling_128 : decode cX12_laysTelling 128 = .ok (.aload_n 0, 1) := by decide +kernel
theorem dX12_laysTelling_129 : decode cX12_laysTelling 129 = .ok (.iload 4, 2) := by decide +kernel
theorem dX12_laysTelling_131 : decode cX12_laysTelling 131 = .ok (.iload 5, 2) := by decide +kernel
theorem dX12_laysTelling_133 : decode cX12_laysTelling 133 = .ok (.iload 6, 2) := by decide +kernel
theorem dX12_laysTelling_135 : decode cX12_laysTelling 135 = .ok (.iload 7, 2) := by decide +kernel
theorem dX12_laysTelling_137 : decode cX12_laysTelling 137 = .ok (.invokevirtual 265, 3) := by decide +kernel
theorem dX12_laysTelling_140 : decode cX12_laysTelling 140 = .ok (.ifCond .ne 21, 3) := by decide +kernel
theorem dX12_laysTelling_143 : decode cX12_laysTelling 143 = .ok (.aload_n 0, 1) := by decide +kernel
theorem dX12_laysTelling_144 : decode cX12_laysTelling 144 = .ok (.iload 5, 2) := by decide +kernel
theorem dX12_laysTelling_146 : decode cX12_laysTelling 146 = .ok (.iload 4, 2) := by decide +kernel
theorem dX12_laysTelling_148 : decode cX12_laysTelling 148 = .ok (.iload 6, 2) := by decide +kernel
theorem dX12_laysTelling_150 : decode cX12_laysTelling 150 = .ok (.iload 7, 2) := by decide +kernel
theorem dX12_laysTelling_152 : decode cX12_laysTelling 152 = .ok (.invokevirtual 265, 3) := by decide +kernel
theorem dX12_laysTelling_155 : decode cX12_laysTelling 155 = .ok (.ifCond .ne 6, 3) := by decide +kernel
theorem dX12_laysTelling_158 : decode cX12_laysTelling 158 = .ok (.goto 67, 3) := by decide +kernel
theorem dX12_laysTelling_161 : decode cX12_laysTelling 161 = .ok (.aload_n 0, 1) := by decide +kernel
theorem dX12_laysTelling_162 : decode cX12_laysTelling 162 = .ok (.iload 6, 2) := by decide +kernel
theorem dX12_laysTelling_164 : decode cX12_laysTelling 164 = .ok (.iload 7, 2) := by decide +kernel
theorem dX12_laysTelling_166 : decode cX12_laysTelling 166 = .ok (.invokevirtual 269, 3) := by decide +kernel
theorem dX12_laysTelling_169 : decode cX12_laysTelling 169 = .ok (.istore 8, 2) := by decide +kernel
theorem dX12_laysTelling_171 : decode cX12_laysTelling 171 = .ok (.iload 8, 2) := by decide +kernel
theorem dX12_laysTelling_173 : decode cX12_laysTelling 173 = .ok (.aload_n 0, 1) := by decide +kernel
theorem dX12_laysTelling_174 : decode cX12_laysTelling 174 = .ok (.getfield 256, 3) := by decide +kernel
theorem dX12_laysTelling_177 : decode cX12_laysTelling 177 = .ok (.if_icmp .gt 6, 3) := by decide +kernel
theorem dX12_laysTelling_180 : decode cX12_laysTelling 180 = .ok (.goto 45, 3) := by decide +kernel
theorem dX12_laysTelling_183 : decode cX12_laysTelling 183 = .ok (.aload_n 0, 1) := by decide +kernel
theorem dX12_laysTelling_184 : decode cX12_laysTelling 184 = .ok (.iload 8, 2) := by decide +kernel
theorem dX12_laysTelling_186 : decode cX12_laysTelling 186 = .ok (.putfield 256, 3) := by decide +kernel
theorem dX12_laysTelling_189 : decode cX12_laysTelling 189 = .ok (.aload_n 0, 1) := by decide +kernel
theorem dX12_laysTelling_190 : decode cX12_laysTelling 190 = .ok (.iload 6, 2) := by decide +kernel
theorem dX12_laysTelling_192 : decode cX12_laysTelling 192 = .ok (.putfield 272, 3) := by decide +kernel
theorem dX12_laysTelling_195 : decode cX12_laysTelling 195 = .ok (.aload_n 0, 1) := by decide +kernel
theorem dX12_laysTelling_196 : decode cX12_laysTelling 196 = .ok (.iload 7, 2) := by decide +kernel
theorem dX12_laysTelling_198 : decode cX12_laysTelling 198 = .ok (.putfield 275, 3) := by decide +kernel
theorem dX12_laysTelling_201 : decode cX12_laysTelling 201 = .ok (.aload_n 0, 1) := by decide +kernel
theorem dX12_laysTelling_202 : decode cX12_laysTelling 202 = .ok (.aload_n 0, 1) := by decide +kernel
theorem dX12_laysTelling_203 : decode cX12_laysTelling 203 = .ok (.iload 4, 2) := by decide +kernel
theorem dX12_laysTelling_205 : decode cX12_laysTelling 205 = .ok (.iload 5, 2) := by decide +kernel
theorem dX12_laysTelling_207 : decode cX12_laysTelling 207 = .ok (.iload 6, 2) := by decide +kernel
theorem dX12_laysTelling_209 : decode cX12_laysTelling 209 = .ok (.iload 7, 2) := by decide +kernel
theorem dX12_laysTelling_211 : decode cX12_laysTelling 211 = .ok (.invokevirtual 265, 3) := by decide +kernel
theorem dX12_laysTelling_214 : decode cX12_laysTelling 214 = .ok (.ifCond .eq 7, 3) := by decide +kernel
theorem dX12_laysTelling_217 : decode cX12_laysTelling 217 = .ok (.iload_n 2, 1) := by decide +kernel
theorem dX12_laysTelling_218 : decode cX12_laysTelling 218 = .ok (.goto 4, 3) := by decide +kernel
theorem dX12_laysTelling_221 : decode cX12_laysTelling 221 = .ok (.iload_n 3, 1) := by decide +kernel
theorem dX12_laysTelling_222 : decode cX12_laysTelling 222 = .ok (.putfield 278, 3) := by decide +kernel
theorem dX12_laysTelling_225 : decode cX12_laysTelling 225 = .ok (.iinc 7 1, 3) := by decide +kernel
theorem dX12_laysTelling_228 : decode cX12_laysTelling 228 = .ok (.goto (-129), 3) := by decide +kernel
theorem dX12_laysTelling_231 : decode cX12_laysTelling 231 = .ok (.iinc 6 1, 3) := by decide +kernel
theorem dX12_laysTelling_234 : decode cX12_laysTelling 234 = .ok (.goto (-149), 3) := by decide +kernel
theorem dX12_laysTelling_237 : decode cX12_laysTelling 237 = .ok (.aload_n 0, 1) := by decide +kernel
theorem dX12_laysTelling_238 : decode cX12_laysTelling 238 = .ok (.getfield 256, 3) := by decide +kernel
theorem dX12_laysTelling_241 : decode cX12_laysTelling 241 = .ok (.ifCond .le 7, 3) := by decide +kernel
theorem dX12_laysTelling_244 : decode cX12_laysTelling 244 = .ok (.iconst 1, 1) := by decide +kernel
theorem dX12_laysTelling_245 : decode cX12_laysTelling 245 = .ok (.goto 4, 3) := by decide +kernel
theorem dX12_laysTelling_248 : decode cX12_laysTelling 248 = .ok (.iconst 0, 1) := by decide +kernel
theorem dX12_laysTelling_249 : decode cX12_laysTelling 249 = .ok (.ireturn, 1) := by decide +kernel
abbrev nd_X12_laysTelling : List Nat := [100, 101, 108, 109]
abbrev ld_X12_laysTelling : List (Nat × Nat) := [(100, 0), (100, 9), (100, 10)]
theorem sn_X12_laysTelling_X12_guestAt : ∀ c ∈ nd_X12_guestAt, c ∈ nd_X12_laysTelling := by decide
theorem sl_X12_laysTelling_X12_guestAt : ∀ q ∈ ld_X12_guestAt, q ∈ ld_X12_laysTelling := by decide
theorem sn_X12_laysTelling_X12_ofGuest : ∀ c ∈ nd_X12_ofGuest, c ∈ nd_X12_laysTelling := by decide
theorem sl_X12_laysTelling_X12_ofGuest : ∀ q ∈ ld_X12_ofGuest, q ∈ ld_X12_laysTelling := by decide
theorem sn_X12_laysTelling_X12_isFront : ∀ c ∈ nd_X12_isFront, c ∈ nd_X12_laysTelling := by decide
theorem sl_X12_laysTelling_X12_isFront : ∀ q ∈ ld_X12_isFront, q ∈ ld_X12_laysTelling := by decide
theorem sn_X12_laysTelling_X12_isEnd : ∀ c ∈ nd_X12_isEnd, c ∈ nd_X12_laysTelling := by decide
theorem sl_X12_laysTelling_X12_isEnd : ∀ q ∈ ld_X12_isEnd, q ∈ ld_X12_laysTelling := by decide
theorem sn_X12_laysTelling_X12_canBoth : ∀ c ∈ nd_X12_canBoth, c ∈ nd_X12_laysTelling := by decide
theorem sl_X12_laysTelling_X12_canBoth : ∀ q ∈ ld_X12_canBoth, q ∈ ld_X12_laysTelling := by decide
theorem sn_X12_laysTelling_X12_laughOf : ∀ c ∈ nd_X12_laughOf, c ∈ nd_X12_laysTelling := by decide
theorem sl_X12_laysTelling_X12_laughOf : ∀ q ∈ ld_X12_laughOf, q ∈ ld_X12_laysTelling := by decide
def f_X12_laysTelling_36  (h : zH) : zR := (some ((0 : Int32), h))
def f_X12_laysTelling_80  (h : zH) : zR := (some ((0 : Int32), h))
def f_X12_laysTelling_225 (k85 : Int32 → Int32 → Int32 → Int32 → Int32 → zH → zR) (k99 : Int32 → Int32 → Int32 → Int32 → Int32 → Int32 → zH → zR) (x2 : Int32) (x3 : Int32) (x4 : Int32) (x5 : Int32) (x6 : Int32) (x7 : Int32) (h : zH) : zR := (zlt (x7 + (1 : Int32)) fun y13 => (k99 x2 x3 x4 x5 x6 y13 h))
def f_X12_laysTelling_222 (k85 : Int32 → Int32 → Int32 → Int32 → Int32 → zH → zR) (k99 : Int32 → Int32 → Int32 → Int32 → Int32 → Int32 → zH → zR) (x2 : Int32) (x3 : Int32) (x4 : Int32) (x5 : Int32) (x6 : Int32) (x7 : Int32) (s0 : Int32) (h : zH) : zR := (zst (zup h 100 25 s0) fun h25 => (f_X12_laysTelling_225 k85 k99 x2 x3 x4 x5 x6 x7 h25))
def f_X12_laysTelling_161 (k85 : Int32 → Int32 → Int32 → Int32 → Int32 → zH → zR) (k99 : Int32 → Int32 → Int32 → Int32 → Int32 → Int32 → zH → zR) (x2 : Int32) (x3 : Int32) (x4 : Int32) (x5 : Int32) (x6 : Int32) (x7 : Int32) (h : zH) : zR := (zbd (f_X12_laughOf x6 x7 h) fun r18 h19 => (if (h19 100 26) < r18 then (zst (zup h19 100 26 r18) fun h20 => (zst (zup h20 100 23 x6) fun h21 => (zst (zup h21 100 24 x7) fun h22 => (zbd (f_X12_canBoth x4 x5 x6 x7 h22) fun r23 h24 => (if r23 = 0 then (f_X12_laysTelling_222 k85 k99 x2 x3 x4 x5 x6 x7 x3 h24) else (f_X12_laysTelling_222 k85 k99 x2 x3 x4 x5 x6 x7 x2 h24)))))) else (f_X12_laysTelling_225 k85 k99 x2 x3 x4 x5 x6 x7 h19)))
def f_X12_laysTelling_99 (k85 : Int32 → Int32 → Int32 → Int32 → Int32 → zH → zR) : Nat → Int32 → Int32 → Int32 → Int32 → Int32 → Int32 → zH → zR
  | 0 => fun _ _ _ _ _ _ _ => none
  | n + 1 => fun x2 x3 x4 x5 x6 x7 h => (if (h 101 3) ≤ x7 then (zlt (x6 + (1 : Int32)) fun y10 => (k85 x2 x3 x4 x5 y10 h)) else (zbd (f_X12_isFront x6 h) fun r11 h12 => (if r11 = 0 then (f_X12_laysTelling_225 k85 (f_X12_laysTelling_99 k85 n) x2 x3 x4 x5 x6 x7 h12) else (zbd (f_X12_isEnd x7 h12) fun r14 h15 => (if r14 = 0 then (f_X12_laysTelling_225 k85 (f_X12_laysTelling_99 k85 n) x2 x3 x4 x5 x6 x7 h15) else (zbd (f_X12_canBoth x4 x5 x6 x7 h15) fun r16 h17 => (if r16 = 0 then (zbd (f_X12_canBoth x5 x4 x6 x7 h17) fun r26 h27 => (if r26 = 0 then (f_X12_laysTelling_225 k85 (f_X12_laysTelling_99 k85 n) x2 x3 x4 x5 x6 x7 h27) else (f_X12_laysTelling_161 k85 (f_X12_laysTelling_99 k85 n) x2 x3 x4 x5 x6 x7 h27))) else (f_X12_laysTelling_161 k85 (f_X12_laysTelling_99 k85 n) x2 x3 x4 x5 x6 x7 h17))))))))
def f_X12_laysTelling_85  : Nat → Int32 → Int32 → Int32 → Int32 → Int32 → zH → zR
  | 0 => fun _ _ _ _ _ _ => none
  | n + 1 => fun x2 x3 x4 x5 x6 h => (if (h 101 3) ≤ x6 then (if (h 100 26) ≤ 0 then (some ((0 : Int32), h)) else (some ((1 : Int32), h))) else (f_X12_laysTelling_99 (f_X12_laysTelling_85  n) zN x2 x3 x4 x5 x6 (0 : Int32) h))
def f_X12_laysTelling  (x1 : Int32) (h : zH) : zR := (zbd (f_X12_guestAt x1 h) fun r1 h2 => (znz (h2 101 0) (zbd (f_X12_guestAt ((x1 + (1 : Int32)) - (x1 + (1 : Int32)) / (h2 101 0) * (h2 101 0)) h2) fun r3 h4 => (zst (zup h4 100 26 (0 : Int32)) fun h5 => (if r1 = (-1 : Int32) then (f_X12_laysTelling_36   h5) else (if r3 = (-1 : Int32) then (f_X12_laysTelling_36   h5) else (zbd (f_X12_ofGuest r1 (0 : Int32) h5) fun r6 h7 => (zbd (f_X12_ofGuest r3 (0 : Int32) h7) fun r8 h9 => (if r6 = r8 then (f_X12_laysTelling_80   h9) else (zck ((10 : Int32) + r6) 2220 (if (((h9 101 (Int32.toNatClampNeg ((10 : Int32) + r6))) >>> (r8 &&& 31)) &&& (1 : Int32)) = (1 : Int32) then (f_X12_laysTelling_80   h9) else (f_X12_laysTelling_85  zN r1 r3 r6 r8 (0 : Int32) h9))))))))))))
variable {p : Program} {l : Launch} {e : Env} {s : State} {m : MethodId} {args : Array Value} {below : List Frame} {meth : Method} {c : Code} {G : zG} {q : Int32 × zH}
set_option maxHeartbeats 4000000 in
set_option maxRecDepth 100000 in
theorem w_X12_laysTelling_36  (C : zC G p s m args meth c cX12_laysTelling 9 RX12 (some .boolean)) (hm : ∀ c ∈ nd_X12_laysTelling, c ∈ znm G) (hk : ∀ q ∈ ld_X12_laysTelling, zlk G q.1 q.2 = true)  : ∀ (ls : Array Slot) (H : Heap) (locs : List Loc) (h : zH), lv_has ls 9 [] → zS G h s.heap H locs → f_X12_laysTelling_36  h = some q → W p l e (zrm (6)) s m args below meth c H locs 0 0 (MQ below (zQI G q.2 q.1) args s 0 0 (zA G)) (F0 m 36 ls []) := by
  intro ls H locs h hl hS hf
  unfold f_X12_laysTelling_36 at hf
  refine lv_iconst (v := (0 : Int32)) C.1 C.2.1 dX12_laysTelling_36 rfl ?_
  exact zretZ C hS rfl hf dX12_laysTelling_37
set_option maxHeartbeats 4000000 in
set_option maxRecDepth 100000 in
theorem w_X12_laysTelling_80  (C : zC G p s m args meth c cX12_laysTelling 9 RX12 (some .boolean)) (hm : ∀ c ∈ nd_X12_laysTelling, c ∈ znm G) (hk : ∀ q ∈ ld_X12_laysTelling, zlk G q.1 q.2 = true)  : ∀ (ls : Array Slot) (H : Heap) (locs : List Loc) (h : zH), lv_has ls 9 [] → zS G h s.heap H locs → f_X12_laysTelling_80  h = some q → W p l e (zrm (6)) s m args below meth c H locs 0 0 (MQ below (zQI G q.2 q.1) args s 0 0 (zA G)) (F0 m 80 ls []) := by
  intro ls H locs h hl hS hf
  unfold f_X12_laysTelling_80 at hf
  refine lv_iconst (v := (0 : Int32)) C.1 C.2.1 dX12_laysTelling_80 rfl ?_
  exact zretZ C hS rfl hf dX12_laysTelling_81
set_option maxHeartbeats 4000000 in
set_option maxRecDepth 100000 in
theorem w_X12_laysTelling_225 {k85 : Int32 → Int32 → Int32 → Int32 → Int32 → zH → zR} {k99 : Int32 → Int32 → Int32 → Int32 → Int32 → Int32 → zH → zR} (C : zC G p s m args meth c cX12_laysTelling 9 RX12 (some .boolean)) (hm : ∀ c ∈ nd_X12_laysTelling, c ∈ znm G) (hk : ∀ q ∈ ld_X12_laysTelling, zlk G q.1 q.2 = true) (hk85 : ∀ (ls : Array Slot) (H : Heap) (locs : List Loc) (h : zH) (x2 : Int32) (x3 : Int32) (x4 : Int32) (x5 : Int32) (x6 : Int32), lv_has ls 9 [(0, .ref (zal G 100)), (2, .int x2), (3, .int x3), (4, .int x4), (5, .int x5), (6, .int x6)] → zS G h s.heap H locs → k85 x2 x3 x4 x5 x6 h = some q → W p l e (zrm (6)) s m args below meth c H locs 0 0 (MQ below (zQI G q.2 q.1) args s 0 0 (zA G)) (F0 m 85 ls [])) (hk99 : ∀ (ls : Array Slot) (H : Heap) (locs : List Loc) (h : zH) (x2 : Int32) (x3 : Int32) (x4 : Int32) (x5 : Int32) (x6 : Int32) (x7 : Int32), lv_has ls 9 [(0, .ref (zal G 100)), (2, .int x2), (3, .int x3), (4, .int x4), (5, .int x5), (6, .int x6), (7, .int x7)] → zS G h s.heap H locs → k99 x2 x3 x4 x5 x6 x7 h = some q → W p l e (zrm (6)) s m args below meth c H locs 0 0 (MQ below (zQI G q.2 q.1) args s 0 0 (zA G)) (F0 m 99 ls [])) : ∀ (ls : Array Slot) (H : Heap) (locs : List Loc) (h : zH) (x2 : Int32) (x3 : Int32) (x4 : Int32) (x5 : Int32) (x6 : Int32) (x7 : Int32), lv_has ls 9 [(0, .ref (zal G 100)), (2, .int x2), (3, .int x3), (4, .int x4), (5, .int x5), (6, .int x6), (7, .int x7)] → zS G h s.heap H locs → f_X12_laysTelling_225 k85 k99 x2 x3 x4 x5 x6 x7 h = some q → W p l e (zrm (6)) s m args below meth c H locs 0 0 (MQ below (zQI G q.2 q.1) args s 0 0 (zA G)) (F0 m 225 ls []) := by
  intro ls H locs h x2 x3 x4 x5 x6 x7 hl hS hf
  unfold f_X12_laysTelling_225 at hf
  obtain ⟨y13, ey13, hf⟩ := zlt_some hf
  refine lv_iinc (v := y13) (lv' := [(7, .int y13), (0, .ref (zal G 100)), (2, .int x2), (3, .int x3), (4, .int x4), (5, .int x5), (6, .int x6)]) C.1 C.2.1 dX12_laysTelling_225 hl (k := 6) rfl ey13.symm (by decide) rfl (fun ls hl => ?_)
  refine lv_goto (tgt := 99) C.1 C.2.1 dX12_laysTelling_228 (by decide) ?_
  exact hk99 _ _ _ _ _ _ _ _ _ _ (lv_sub hl [1, 2, 3, 4, 5, 6, 0] rfl) hS hf
set_option maxHeartbeats 4000000 in
set_option maxRecDepth 100000 in
theorem w_X12_laysTelling_222 {k85 : Int32 → Int32 → Int32 → Int32 → Int32 → zH → zR} {k99 : Int32 → Int32 → Int32 → Int32 → Int32 → Int32 → zH → zR} (C : zC G p s m args meth c cX12_laysTelling 9 RX12 (some .boolean)) (hm : ∀ c ∈ nd_X12_laysTelling, c ∈ znm G) (hk : ∀ q ∈ ld_X12_laysTelling, zlk G q.1 q.2 = true) (hk85 : ∀ (ls : Array Slot) (H : Heap) (locs : List Loc) (h : zH) (x2 : Int32) (x3 : Int32) (x4 : Int32) (x5 : Int32) (x6 : Int32), lv_has ls 9 [(0, .ref (zal G 100)), (2, .int x2), (3, .int x3), (4, .int x4), (5, .int x5), (6, .int x6)] → zS G h s.heap H locs → k85 x2 x3 x4 x5 x6 h = some q → W p l e (zrm (6)) s m args below meth c H locs 0 0 (MQ below (zQI G q.2 q.1) args s 0 0 (zA G)) (F0 m 85 ls [])) (hk99 : ∀ (ls : Array Slot) (H : Heap) (locs : List Loc) (h : zH) (x2 : Int32) (x3 : Int32) (x4 : Int32) (x5 : Int32) (x6 : Int32) (x7 : Int32), lv_has ls 9 [(0, .ref (zal G 100)), (2, .int x2), (3, .int x3), (4, .int x4), (5, .int x5), (6, .int x6), (7, .int x7)] → zS G h s.heap H locs → k99 x2 x3 x4 x5 x6 x7 h = some q → W p l e (zrm (6)) s m args below meth c H locs 0 0 (MQ below (zQI G q.2 q.1) args s 0 0 (zA G)) (F0 m 99 ls [])) : ∀ (ls : Array Slot) (H : Heap) (locs : List Loc) (h : zH) (x2 : Int32) (x3 : Int32) (x4 : Int32) (x5 : Int32) (x6 : Int32) (x7 : Int32) (s0 : Int32), lv_has ls 9 [(0, .ref (zal G 100)), (2, .int x2), (3, .int x3), (4, .int x4), (5, .int x5), (6, .int x6), (7, .int x7)] → zS G h s.heap H locs → f_X12_laysTelling_222 k85 k99 x2 x3 x4 x5 x6 x7 s0 h = some q → W p l e (zrm (6)) s m args below meth c H locs 0 0 (MQ below (zQI G q.2 q.1) args s 0 0 (zA G)) (F0 m 222 ls [.int s0, .ref (zal G 100)]) := by
  intro ls H locs h x2 x3 x4 x5 x6 x7 s0 hl hS hf
  unfold f_X12_laysTelling_222 at hf
  refine zputI C hS ff_X12_278_100 fw_100_25 (hm 100 (by decide)) dX12_laysTelling_222 (fun H locs hS => ?_)
  obtain ⟨h25, eh25, hf⟩ := zst_some hf
  have hS : zS G h25 s.heap H locs := by rw [eh25]; exact hS
  exact w_X12_laysTelling_225 C hm hk hk85 hk99 _ _ _ _ _ _ _ _ _ _ (lv_sub hl [0, 1, 2, 3, 4, 5, 6] rfl) hS hf
set_option maxHeartbeats 4000000 in
set_option maxRecDepth 100000 in
theorem w_X12_laysTelling_161 {k85 : Int32 → Int32 → Int32 → Int32 → Int32 → zH → zR} {k99 : Int32 → Int32 → Int32 → Int32 → Int32 → Int32 → zH → zR} (C : zC G p s m args meth c cX12_laysTelling 9 RX12 (some .boolean)) (hm : ∀ c ∈ nd_X12_laysTelling, c ∈ znm G) (hk : ∀ q ∈ ld_X12_laysTelling, zlk G q.1 q.2 = true) (hk85 : ∀ (ls : Array Slot) (H : Heap) (locs : List Loc) (h : zH) (x2 : Int32) (x3 : Int32) (x4 : Int32) (x5 : Int32) (x6 : Int32), lv_has ls 9 [(0, .ref (zal G 100)), (2, .int x2), (3, .int x3), (4, .int x4), (5, .int x5), (6, .int x6)] → zS G h s.heap H locs → k85 x2 x3 x4 x5 x6 h = some q → W p l e (zrm (6)) s m args below meth c H locs 0 0 (MQ below (zQI G q.2 q.1) args s 0 0 (zA G)) (F0 m 85 ls [])) (hk99 : ∀ (ls : Array Slot) (H : Heap) (locs : List Loc) (h : zH) (x2 : Int32) (x3 : Int32) (x4 : Int32) (x5 : Int32) (x6 : Int32) (x7 : Int32), lv_has ls 9 [(0, .ref (zal G 100)), (2, .int x2), (3, .int x3), (4, .int x4), (5, .int x5), (6, .int x6), (7, .int x7)] → zS G h s.heap H locs → k99 x2 x3 x4 x5 x6 x7 h = some q → W p l e (zrm (6)) s m args below meth c H locs 0 0 (MQ below (zQI G q.2 q.1) args s 0 0 (zA G)) (F0 m 99 ls [])) : ∀ (ls : Array Slot) (H : Heap) (locs : List Loc) (h : zH) (x2 : Int32) (x3 : Int32) (x4 : Int32) (x5 : Int32) (x6 : Int32) (x7 : Int32), lv_has ls 9 [(0, .ref (zal G 100)), (2, .int x2), (3, .int x3), (4, .int x4), (5, .int x5), (6, .int x6), (7, .int x7)] → zS G h s.heap H locs → f_X12_laysTelling_161 k85 k99 x2 x3 x4 x5 x6 x7 h = some q → W p l e (zrm (6)) s m args below meth c H locs 0 0 (MQ below (zQI G q.2 q.1) args s 0 0 (zA G)) (F0 m 161 ls []) := by
  intro ls H locs h x2 x3 x4 x5 x6 x7 hl hS hf
  unfold f_X12_laysTelling_161 at hf
  refine lv_aload_n C.1 C.2.1 dX12_laysTelling_161 rfl (lv_at hl 0 rfl) ?_
  refine lv_iload C.1 C.2.1 dX12_laysTelling_162 (lv_at hl 5 rfl) ?_
  refine lv_iload C.1 C.2.1 dX12_laysTelling_164 (lv_at hl 6 rfl) ?_
  obtain ⟨r18, h19, er18, hf⟩ := zbd_some hf
  refine zcallVI (As := [.int x6, .int x7]) (rest := []) C hS mv_X12_269 (c_X12_laughOf l G h x6 x7 (r18, h19) (fun c h => hm c (sn_X12_laysTelling_X12_laughOf c h)) (fun q h => hk q (sl_X12_laysTelling_X12_laughOf q h)) er18) (hm 100 (by decide)) ⟨_, _, _, sh_100, rfl, rfl⟩ rfl rfl (Nat.le_of_ble_eq_true rfl) hl.1 ⟨Nat.le_of_ble_eq_true rfl, Nat.le_of_ble_eq_true rfl, Nat.le_of_ble_eq_true rfl, Nat.le_of_ble_eq_true rfl⟩ dX12_laysTelling_166 (fun H locs hS => ?_)
  refine lv_istore (lv' := [(8, .int r18), (0, .ref (zal G 100)), (2, .int x2), (3, .int x3), (4, .int x4), (5, .int x5), (6, .int x6), (7, .int x7)]) C.1 C.2.1 dX12_laysTelling_169 hl (by decide) rfl (fun ls hl => ?_)
  refine lv_iload C.1 C.2.1 dX12_laysTelling_171 (lv_at hl 0 rfl) ?_
  refine lv_aload_n C.1 C.2.1 dX12_laysTelling_173 rfl (lv_at hl 1 rfl) ?_
  refine zgetI C hS ff_X12_256_100 (hm 100 (by decide)) dX12_laysTelling_174 ?_
  refine lv_icmp_gt (tgt := 183) C.1 C.2.1 dX12_laysTelling_177 (by decide) (fun hc => ?_) (fun hc => ?_)
  · have hf := zif_t hc hf
    refine lv_aload_n C.1 C.2.1 dX12_laysTelling_183 rfl (lv_at hl 1 rfl) ?_
    refine lv_iload C.1 C.2.1 dX12_laysTelling_184 (lv_at hl 0 rfl) ?_
    refine zputI C hS ff_X12_256_100 fw_100_26 (hm 100 (by decide)) dX12_laysTelling_186 (fun H locs hS => ?_)
    obtain ⟨h20, eh20, hf⟩ := zst_some hf
    have hS : zS G h20 s.heap H locs := by rw [eh20]; exact hS
    refine lv_aload_n C.1 C.2.1 dX12_laysTelling_189 rfl (lv_at hl 1 rfl) ?_
    refine lv_iload C.1 C.2.1 dX12_laysTelling_190 (lv_at hl 6 rfl) ?_
    refine zputI C hS ff_X12_272_100 fw_100_23 (hm 100 (by decide)) dX12_laysTelling_192 (fun H locs hS => ?_)
    obtain ⟨h21, eh21, hf⟩ := zst_some hf
    have hS : zS G h21 s.heap H locs := by rw [eh21]; exact hS
    refine lv_aload_n C.1 C.2.1 dX12_laysTelling_195 rfl (lv_at hl 1 rfl) ?_
    refine lv_iload C.1 C.2.1 dX12_laysTelling_196 (lv_at hl 7 rfl) ?_
    refine zputI C hS ff_X12_275_100 fw_100_24 (hm 100 (by decide)) dX12_laysTelling_198 (fun H locs hS => ?_)
    obtain ⟨h22, eh22, hf⟩ := zst_some hf
    have hS : zS G h22 s.heap H locs := by rw [eh22]; exact hS
    refine lv_aload_n C.1 C.2.1 dX12_laysTelling_201 rfl (lv_at hl 1 rfl) ?_
    refine lv_aload_n C.1 C.2.1 dX12_laysTelling_202 rfl (lv_at hl 1 rfl) ?_
    refine lv_iload C.1 C.2.1 dX12_laysTelling_203 (lv_at hl 4 rfl) ?_
    refine lv_iload C.1 C.2.1 dX12_laysTelling_205 (lv_at hl 5 rfl) ?_
    refine lv_iload C.1 C.2.1 dX12_laysTelling_207 (lv_at hl 6 rfl) ?_
    refine lv_iload C.1 C.2.1 dX12_laysTelling_209 (lv_at hl 7 rfl) ?_
    obtain ⟨r23, h24, er23, hf⟩ := zbd_some hf
    refine zcallVI (As := [.int x4, .int x5, .int x6, .int x7]) (rest := [.ref (zal G 100)]) C hS mv_X12_265 (c_X12_canBoth l G h22 x4 x5 x6 x7 (r23, h24) (fun c h => hm c (sn_X12_laysTelling_X12_canBoth c h)) (fun q h => hk q (sl_X12_laysTelling_X12_canBoth q h)) er23) (hm 100 (by decide)) ⟨_, _, _, sh_100, rfl, rfl⟩ rfl rfl (Nat.le_of_ble_eq_true rfl) hl.1 ⟨Nat.le_of_ble_eq_true rfl, Nat.le_of_ble_eq_true rfl, Nat.le_of_ble_eq_true rfl, Nat.le_of_ble_eq_true rfl⟩ dX12_laysTelling_211 (fun H locs hS => ?_)
    refine lv_if_eq (tgt := 221) C.1 C.2.1 dX12_laysTelling_214 (by decide) (fun hc => ?_) (fun hc => ?_)
    · have hf := zif_t hc hf
      refine lv_iload_n C.1 C.2.1 dX12_laysTelling_221 rfl (lv_at hl 3 rfl) ?_
      exact w_X12_laysTelling_222 C hm hk hk85 hk99 _ _ _ _ _ _ _ _ _ _ _ (lv_sub hl [1, 2, 3, 4, 5, 6, 7] rfl) hS hf
    · have hf := zif_f hc hf
      refine lv_iload_n C.1 C.2.1 dX12_laysTelling_217 rfl (lv_at hl 2 rfl) ?_
      refine lv_goto (tgt := 222) C.1 C.2.1 dX12_laysTelling_218 (by decide) ?_
      exact w_X12_laysTelling_222 C hm hk hk85 hk99 _ _ _ _ _ _ _ _ _ _ _ (lv_sub hl [1, 2, 3, 4, 5, 6, 7] rfl) hS hf
  · have hf := zif_f hc hf
    refine lv_goto (tgt := 225) C.1 C.2.1 dX12_laysTelling_180 (by decide) ?_
    exact w_X12_laysTelling_225 C hm hk hk85 hk99 _ _ _ _ _ _ _ _ _ _ (lv_sub hl [1, 2, 3, 4, 5, 6, 7] rfl) hS hf
set_option maxHeartbeats 4000000 in
set_option maxRecDepth 100000 in
theorem w_X12_laysTelling_99 {k85 : Int32 → Int32 → Int32 → Int32 → Int32 → zH → zR} (C : zC G p s m args meth c cX12_laysTelling 9 RX12 (some .boolean)) (hm : ∀ c ∈ nd_X12_laysTelling, c ∈ znm G) (hk : ∀ q ∈ ld_X12_laysTelling, zlk G q.1 q.2 = true) (hk85 : ∀ (ls : Array Slot) (H : Heap) (locs : List Loc) (h : zH) (x2 : Int32) (x3 : Int32) (x4 : Int32) (x5 : Int32) (x6 : Int32), lv_has ls 9 [(0, .ref (zal G 100)), (2, .int x2), (3, .int x3), (4, .int x4), (5, .int x5), (6, .int x6)] → zS G h s.heap H locs → k85 x2 x3 x4 x5 x6 h = some q → W p l e (zrm (6)) s m args below meth c H locs 0 0 (MQ below (zQI G q.2 q.1) args s 0 0 (zA G)) (F0 m 85 ls [])) : ∀ n, ∀ (ls : Array Slot) (H : Heap) (locs : List Loc) (h : zH) (x2 : Int32) (x3 : Int32) (x4 : Int32) (x5 : Int32) (x6 : Int32) (x7 : Int32), lv_has ls 9 [(0, .ref (zal G 100)), (2, .int x2), (3, .int x3), (4, .int x4), (5, .int x5), (6, .int x6), (7, .int x7)] → zS G h s.heap H locs → f_X12_laysTelling_99 k85 n x2 x3 x4 x5 x6 x7 h = some q → W p l e (zrm (6)) s m args below meth c H locs 0 0 (MQ below (zQI G q.2 q.1) args s 0 0 (zA G)) (F0 m 99 ls []) := by
  intro n
  induction n with
  | zero => intro ls H locs h x2 x3 x4 x5 x6 x7 hl hS hf; cases hf
  | succ n ih =>
    intro ls H locs h x2 x3 x4 x5 x6 x7 hl hS hf
    rw [f_X12_laysTelling_99] at hf
    refine lv_iload C.1 C.2.1 dX12_laysTelling_99 (lv_at hl 6 rfl) ?_
    refine lv_aload_n C.1 C.2.1 dX12_laysTelling_101 rfl (lv_at hl 0 rfl) ?_
    refine zgetR C hS ff_X12_7_100 (hm 100 (by decide)) (hk (100, 0) (by decide)) dX12_laysTelling_102 ?_
    refine lv_iconst (v := (3 : Int32)) C.1 C.2.1 dX12_laysTelling_105 rfl ?_
    refine zald C hS sh_101 (hm 101 (by decide)) (vp_in_iff.mpr (by decide)) dX12_laysTelling_106 ?_
    refine lv_icmp_ge (tgt := 231) C.1 C.2.1 dX12_laysTelling_107 (by decide) (fun hc => ?_) (fun hc => ?_)
    · have hf := zif_t hc hf
      obtain ⟨y10, ey10, hf⟩ := zlt_some hf
      refine lv_iinc (v := y10) (lv' := [(6, .int y10), (0, .ref (zal G 100)), (2, .int x2), (3, .int x3), (4, .int x4), (5, .int x5), (7, .int x7)]) C.1 C.2.1 dX12_laysTelling_231 hl (k := 5) rfl ey10.symm (by decide) rfl (fun ls hl => ?_)
      refine lv_goto (tgt := 85) C.1 C.2.1 dX12_laysTelling_234 (by decide) ?_
      exact hk85 _ _ _ _ _ _ _ _ _ (lv_sub hl [1, 2, 3, 4, 5, 0] rfl) hS hf
    · have hf := zif_f hc hf
      refine lv_aload_n C.1 C.2.1 dX12_laysTelling_110 rfl (lv_at hl 0 rfl) ?_
      refine lv_iload C.1 C.2.1 dX12_laysTelling_111 (lv_at hl 5 rfl) ?_
      obtain ⟨r11, h12, er11, hf⟩ := zbd_some hf
      refine zcallVI (As := [.int x6]) (rest := []) C hS mv_X12_259 (c_X12_isFront l G h x6 (r11, h12) (fun c h => hm c (sn_X12_laysTelling_X12_isFront c h)) (fun q h => hk q (sl_X12_laysTelling_X12_isFront q h)) er11) (hm 100 (by decide)) ⟨_, _, _, sh_100, rfl, rfl⟩ rfl rfl (Nat.le_of_ble_eq_true rfl) hl.1 ⟨Nat.le_of_ble_eq_true rfl, Nat.le_of_ble_eq_true rfl, Nat.le_of_ble_eq_true rfl, Nat.le_of_ble_eq_true rfl⟩ dX12_laysTelling_113 (fun H locs hS => ?_)
      refine lv_if_eq (tgt := 225) C.1 C.2.1 dX12_laysTelling_116 (by decide) (fun hc => ?_) (fun hc => ?_)
      · have hf := zif_t hc hf
        exact w_X12_laysTelling_225 C hm hk hk85 ih _ _ _ _ _ _ _ _ _ _ (lv_sub hl [0, 1, 2, 3, 4, 5, 6] rfl) hS hf
      · have hf := zif_f hc hf
        refine lv_aload_n C.1 C.2.1 dX12_laysTelling_119 rfl (lv_at hl 0 rfl) ?_
        refine lv_iload C.1 C.2.1 dX12_laysTelling_120 (lv_at hl 6 rfl) ?_
        obtain ⟨r14, h15, er14, hf⟩ := zbd_some hf
        refine zcallVI (As := [.int x7]) (rest := []) C hS mv_X12_262 (c_X12_isEnd l G h12 x7 (r14, h15) (fun c h => hm c (sn_X12_laysTelling_X12_isEnd c h)) (fun q h => hk q (sl_X12_laysTelling_X12_isEnd q h)) er14) (hm 100 (by decide)) ⟨_, _, _, sh_100, rfl, rfl⟩ rfl rfl (Nat.le_of_ble_eq_true rfl) hl.1 ⟨Nat.le_of_ble_eq_true rfl, Nat.le_of_ble_eq_true rfl, Nat.le_of_ble_eq_true rfl, Nat.le_of_ble_eq_true rfl⟩ dX12_laysTelling_122 (fun H locs hS => ?_)
        refine lv_if_eq (tgt := 225) C.1 C.2.1 dX12_laysTelling_125 (by decide) (fun hc => ?_) (fun hc => ?_)
        · have hf := zif_t hc hf
          exact w_X12_laysTelling_225 C hm hk hk85 ih _ _ _ _ _ _ _ _ _ _ (lv_sub hl [0, 1, 2, 3, 4, 5, 6] rfl) hS hf
        · have hf := zif_f hc hf
          refine lv_aload_n C.1 C.2.1 dX12_laysTelling_128 rfl (lv_at hl 0 rfl) ?_
          refine lv_iload C.1 C.2.1 dX12_laysTelling_129 (lv_at hl 3 rfl) ?_
          refine lv_iload C.1 C.2.1 dX12_laysTelling_131 (lv_at hl 4 rfl) ?_
          refine lv_iload C.1 C.2.1 dX12_laysTelling_133 (lv_at hl 5 rfl) ?_
          refine lv_iload C.1 C.2.1 dX12_laysTelling_135 (lv_at hl 6 rfl) ?_
          obtain ⟨r16, h17, er16, hf⟩ := zbd_some hf
          refine zcallVI (As := [.int x4, .int x5, .int x6, .int x7]) (rest := []) C hS mv_X12_265 (c_X12_canBoth l G h15 x4 x5 x6 x7 (r16, h17) (fun c h => hm c (sn_X12_laysTelling_X12_canBoth c h)) (fun q h => hk q (sl_X12_laysTelling_X12_canBoth q h)) er16) (hm 100 (by decide)) ⟨_, _, _, sh_100, rfl, rfl⟩ rfl rfl (Nat.le_of_ble_eq_true rfl) hl.1 ⟨Nat.le_of_ble_eq_true rfl, Nat.le_of_ble_eq_true rfl, Nat.le_of_ble_eq_true rfl, Nat.le_of_ble_eq_true rfl⟩ dX12_laysTelling_137 (fun H locs hS => ?_)
          refine lv_if_ne (tgt := 161) C.1 C.2.1 dX12_laysTelling_140 (by decide) (fun hc => ?_) (fun hc => ?_)
          · have hf := zif_f hc hf
            exact w_X12_laysTelling_161 C hm hk hk85 ih _ _ _ _ _ _ _ _ _ _ (lv_sub hl [0, 1, 2, 3, 4, 5, 6] rfl) hS hf
          · have hf := zif_t hc hf
            refine lv_aload_n C.1 C.2.1 dX12_laysTelling_143 rfl (lv_at hl 0 rfl) ?_
            refine lv_iload C.1 C.2.1 dX12_laysTelling_144 (lv_at hl 4 rfl) ?_
            refine lv_iload C.1 C.2.1 dX12_laysTelling_146 (lv_at hl 3 rfl) ?_
            refine lv_iload C.1 C.2.1 dX12_laysTelling_148 (lv_at hl 5 rfl) ?_
            refine lv_iload C.1 C.2.1 dX12_laysTelling_150 (lv_at hl 6 rfl) ?_
            obtain ⟨r26, h27, er26, hf⟩ := zbd_some hf
            refine zcallVI (As := [.int x5, .int x4, .int x6, .int x7]) (rest := []) C hS mv_X12_265 (c_X12_canBoth l G h17 x5 x4 x6 x7 (r26, h27) (fun c h => hm c (sn_X12_laysTelling_X12_canBoth c h)) (fun q h => hk q (sl_X12_laysTelling_X12_canBoth q h)) er26) (hm 100 (by decide)) ⟨_, _, _, sh_100, rfl, rfl⟩ rfl rfl (Nat.le_of_ble_eq_true rfl) hl.1 ⟨Nat.le_of_ble_eq_true rfl, Nat.le_of_ble_eq_true rfl, Nat.le_of_ble_eq_true rfl, Nat.le_of_ble_eq_true rfl⟩ dX12_laysTelling_152 (fun H locs hS => ?_)
            refine lv_if_ne (tgt := 161) C.1 C.2.1 dX12_laysTelling_155 (by decide) (fun hc => ?_) (fun hc => ?_)
            · have hf := zif_f hc hf
              exact w_X12_laysTelling_161 C hm hk hk85 ih _ _ _ _ _ _ _ _ _ _ (lv_sub hl [0, 1, 2, 3, 4, 5, 6] rfl) hS hf
            · have hf := zif_t hc hf
              refine lv_goto (tgt := 225) C.1 C.2.1 dX12_laysTelling_158 (by decide) ?_
              exact w_X12_laysTelling_225 C hm hk hk85 ih _ _ _ _ _ _ _ _ _ _ (lv_sub hl [0, 1, 2, 3, 4, 5, 6] rfl) hS hf
set_option maxHeartbeats 4000000 in
set_option maxRecDepth 100000 in
theorem w_X12_laysTelling_85  (C : zC G p s m args meth c cX12_laysTelling 9 RX12 (some .boolean)) (hm : ∀ c ∈ nd_X12_laysTelling, c ∈ znm G) (hk : ∀ q ∈ ld_X12_laysTelling, zlk G q.1 q.2 = true)  : ∀ n, ∀ (ls : Array Slot) (H : Heap) (locs : List Loc) (h : zH) (x2 : Int32) (x3 : Int32) (x4 : Int32) (x5 : Int32) (x6 : Int32), lv_has ls 9 [(0, .ref (zal G 100)), (2, .int x2), (3, .int x3), (4, .int x4), (5, .int x5), (6, .int x6)] → zS G h s.heap H locs → f_X12_laysTelling_85  n x2 x3 x4 x5 x6 h = some q → W p l e (zrm (6)) s m args below meth c H locs 0 0 (MQ below (zQI G q.2 q.1) args s 0 0 (zA G)) (F0 m 85 ls []) := by
  intro n
  induction n with
  | zero => intro ls H locs h x2 x3 x4 x5 x6 hl hS hf; cases hf
  | succ n ih =>
    intro ls H locs h x2 x3 x4 x5 x6 hl hS hf
    rw [f_X12_laysTelling_85] at hf
    refine lv_iload C.1 C.2.1 dX12_laysTelling_85 (lv_at hl 5 rfl) ?_
    refine lv_aload_n C.1 C.2.1 dX12_laysTelling_87 rfl (lv_at hl 0 rfl) ?_
    refine zgetR C hS ff_X12_7_100 (hm 100 (by decide)) (hk (100, 0) (by decide)) dX12_laysTelling_88 ?_
    refine lv_iconst (v := (3 : Int32)) C.1 C.2.1 dX12_laysTelling_91 rfl ?_
    refine zald C hS sh_101 (hm 101 (by decide)) (vp_in_iff.mpr (by decide)) dX12_laysTelling_92 ?_
    refine lv_icmp_ge (tgt := 237) C.1 C.2.1 dX12_laysTelling_93 (by decide) (fun hc => ?_) (fun hc => ?_)
    · have hf := zif_t hc hf
      refine lv_aload_n C.1 C.2.1 dX12_laysTelling_237 rfl (lv_at hl 0 rfl) ?_
      refine zgetI C hS ff_X12_256_100 (hm 100 (by decide)) dX12_laysTelling_238 ?_
      refine lv_if_le (tgt := 248) C.1 C.2.1 dX12_laysTelling_241 (by decide) (fun hc => ?_) (fun hc => ?_)
      · have hf := zif_t hc hf
        refine lv_iconst (v := (0 : Int32)) C.1 C.2.1 dX12_laysTelling_248 rfl ?_
        exact zretZ C hS rfl hf dX12_laysTelling_249
      · have hf := zif_f hc hf
        refine lv_iconst (v := (1 : Int32)) C.1 C.2.1 dX12_laysTelling_244 rfl ?_
        refine lv_goto (tgt := 249) C.1 C.2.1 dX12_laysTelling_245 (by decide) ?_
        exact zretZ C hS rfl hf dX12_laysTelling_249
    · have hf := zif_f hc hf
      refine lv_iconst (v := (0 : Int32)) C.1 C.2.1 dX12_laysTelling_96 rfl ?_
      refine lv_istore (lv' := [(7, .int (0 : Int32)), (0, .ref (zal G 100)), (2, .int x2), (3, .int x3), (4, .int x4), (5, .int x5), (6, .int x6)]) C.1 C.2.1 dX12_laysTelling_97 hl (by decide) rfl (fun ls hl => ?_)
      exact w_X12_laysTelling_99 C hm hk ih zN _ _ _ _ _ _ _ _ _ _ (lv_sub hl [1, 2, 3, 4, 5, 6, 0] rfl) hS hf
set_option maxHeartbeats 4000000 in
set_option maxRecDepth 100000 in
theorem c_X12_laysTelling (l : Launch) (G : zG) (h : zH) (x1 : Int32) (q : Int32 × zH) (hm : ∀ c ∈ nd_X12_laysTelling, c ∈ znm G) (hk : ∀ q ∈ ld_X12_laysTelling, zlk G q.1 q.2 = true) (hf : f_X12_laysTelling x1 h = some q) : zCtI l yX12_laysTelling cX12_laysTelling 9 (some .boolean) (6) [.ref (zal G 100), .int x1] G h q.2 q.1 := by
  refine zMetI (by decide) (Nat.le_of_ble_eq_true rfl) ?_
  intro p e s m below meth c ls C hl hS
  have hl : lv_has ls 9 [(0, .ref (zal G 100)), (1, .int x1)] := hl
  have C : zC G p s m [.ref (zal G 100), .int x1].toArray meth c cX12_laysTelling 9 RX12 (some .boolean) := C
  unfold f_X12_laysTelling at hf
  refine lv_aload_n C.1 C.2.1 dX12_laysTelling_0 rfl (lv_at hl 0 rfl) ?_
  refine lv_iload_n C.1 C.2.1 dX12_laysTelling_1 rfl (lv_at hl 1 rfl) ?_
  obtain ⟨r1, h2, er1, hf⟩ := zbd_some hf
  refine zcallVI (As := [.int x1]) (rest := []) C hS mv_X12_112 (c_X12_guestAt l G h x1 (r1, h2) (fun c h => hm c (sn_X12_laysTelling_X12_guestAt c h)) (fun q h => hk q (sl_X12_laysTelling_X12_guestAt q h)) er1) (hm 100 (by decide)) ⟨_, _, _, sh_100, rfl, rfl⟩ rfl rfl (Nat.le_of_ble_eq_true rfl) hl.1 ⟨Nat.le_of_ble_eq_true rfl, Nat.le_of_ble_eq_true rfl, Nat.le_of_ble_eq_true rfl, Nat.le_of_ble_eq_true rfl⟩ dX12_laysTelling_2 (fun H locs hS => ?_)
  refine lv_istore_n (lv' := [(2, .int r1), (0, .ref (zal G 100)), (1, .int x1)]) C.1 C.2.1 dX12_laysTelling_5 rfl hl (by decide) rfl (fun ls hl => ?_)
  refine lv_aload_n C.1 C.2.1 dX12_laysTelling_6 rfl (lv_at hl 1 rfl) ?_
  refine lv_iload_n C.1 C.2.1 dX12_laysTelling_7 rfl (lv_at hl 2 rfl) ?_
  refine lv_iconst (v := (1 : Int32)) C.1 C.2.1 dX12_laysTelling_8 rfl ?_
  refine lv_iadd C.1 C.2.1 dX12_laysTelling_9 ?_
  refine lv_aload_n C.1 C.2.1 dX12_laysTelling_10 rfl (lv_at hl 1 rfl) ?_
  refine zgetR C hS ff_X12_7_100 (hm 100 (by decide)) (hk (100, 0) (by decide)) dX12_laysTelling_11 ?_
  refine lv_iconst (v := (0 : Int32)) C.1 C.2.1 dX12_laysTelling_14 rfl ?_
  refine zald C hS sh_101 (hm 101 (by decide)) (vp_in_iff.mpr (by decide)) dX12_laysTelling_15 ?_
  obtain ⟨hz, hf⟩ := znz_some hf
  refine lv_irem C.1 C.2.1 dX12_laysTelling_16 hz ?_
  obtain ⟨r3, h4, er3, hf⟩ := zbd_some hf
  refine zcallVI (As := [.int ((x1 + (1 : Int32)) - (x1 + (1 : Int32)) / (h2 101 0) * (h2 101 0))]) (rest := []) C hS mv_X12_112 (c_X12_guestAt l G h2 ((x1 + (1 : Int32)) - (x1 + (1 : Int32)) / (h2 101 0) * (h2 101 0)) (r3, h4) (fun c h => hm c (sn_X12_laysTelling_X12_guestAt c h)) (fun q h => hk q (sl_X12_laysTelling_X12_guestAt q h)) er3) (hm 100 (by decide)) ⟨_, _, _, sh_100, rfl, rfl⟩ rfl rfl (Nat.le_of_ble_eq_true rfl) hl.1 ⟨Nat.le_of_ble_eq_true rfl, Nat.le_of_ble_eq_true rfl, Nat.le_of_ble_eq_true rfl, Nat.le_of_ble_eq_true rfl⟩ dX12_laysTelling_17 (fun H locs hS => ?_)
  refine lv_istore_n (lv' := [(3, .int r3), (2, .int r1), (0, .ref (zal G 100)), (1, .int x1)]) C.1 C.2.1 dX12_laysTelling_20 rfl hl (by decide) rfl (fun ls hl => ?_)
  refine lv_aload_n C.1 C.2.1 dX12_laysTelling_21 rfl (lv_at hl 2 rfl) ?_
  refine lv_iconst (v := (0 : Int32)) C.1 C.2.1 dX12_laysTelling_22 rfl ?_
  refine zputI C hS ff_X12_256_100 fw_100_26 (hm 100 (by decide)) dX12_laysTelling_23 (fun H locs hS => ?_)
  obtain ⟨h5, eh5, hf⟩ := zst_some hf
  have hS : zS G h5 s.heap H locs := by rw [eh5]; exact hS
  refine lv_iload_n C.1 C.2.1 dX12_laysTelling_26 rfl (lv_at hl 1 rfl) ?_
  refine lv_iconst (v := (-1 : Int32)) C.1 C.2.1 dX12_laysTelling_27 rfl ?_
  refine lv_icmp_eq (tgt := 36) C.1 C.2.1 dX12_laysTelling_28 (by decide) (fun hc => ?_) (fun hc => ?_)
  · have hf := zif_t hc hf
    exact w_X12_laysTelling_36 C hm hk  _ _ _ _ (lv_sub hl [] rfl) hS hf
  · have hf := zif_f hc hf
    refine lv_iload_n C.1 C.2.1 dX12_laysTelling_31 rfl (lv_at hl 0 rfl) ?_
    refine lv_iconst (v := (-1 : Int32)) C.1 C.2.1 dX12_laysTelling_32 rfl ?_
    refine lv_icmp_ne (tgt := 38) C.1 C.2.1 dX12_laysTelling_33 (by decide) (fun hc => ?_) (fun hc => ?_)
    · have hf := zif_f hc hf
      refine lv_aload_n C.1 C.2.1 dX12_laysTelling_38 rfl (lv_at hl 2 rfl) ?_
      refine lv_iload_n C.1 C.2.1 dX12_laysTelling_39 rfl (lv_at hl 1 rfl) ?_
      refine lv_iconst (v := (0 : Int32)) C.1 C.2.1 dX12_laysTelling_40 rfl ?_
      obtain ⟨r6, h7, er6, hf⟩ := zbd_some hf
      refine zcallVI (As := [.int r1, .int (0 : Int32)]) (rest := []) C hS mv_X12_106 (c_X12_ofGuest l G h5 r1 (0 : Int32) (r6, h7) (fun c h => hm c (sn_X12_laysTelling_X12_ofGuest c h)) (fun q h => hk q (sl_X12_laysTelling_X12_ofGuest q h)) er6) (hm 100 (by decide)) ⟨_, _, _, sh_100, rfl, rfl⟩ rfl rfl (Nat.le_of_ble_eq_true rfl) hl.1 ⟨Nat.le_of_ble_eq_true rfl, Nat.le_of_ble_eq_true rfl, Nat.le_of_ble_eq_true rfl, Nat.le_of_ble_eq_true rfl⟩ dX12_laysTelling_41 (fun H locs hS => ?_)
      refine lv_istore (lv' := [(4, .int r6), (3, .int r3), (2, .int r1), (0, .ref (zal G 100)), (1, .int x1)]) C.1 C.2.1 dX12_laysTelling_44 hl (by decide) rfl (fun ls hl => ?_)
      refine lv_aload_n C.1 C.2.1 dX12_laysTelling_46 rfl (lv_at hl 3 rfl) ?_
      refine lv_iload_n C.1 C.2.1 dX12_laysTelling_47 rfl (lv_at hl 1 rfl) ?_
      refine lv_iconst (v := (0 : Int32)) C.1 C.2.1 dX12_laysTelling_48 rfl ?_
      obtain ⟨r8, h9, er8, hf⟩ := zbd_some hf
      refine zcallVI (As := [.int r3, .int (0 : Int32)]) (rest := []) C hS mv_X12_106 (c_X12_ofGuest l G h7 r3 (0 : Int32) (r8, h9) (fun c h => hm c (sn_X12_laysTelling_X12_ofGuest c h)) (fun q h => hk q (sl_X12_laysTelling_X12_ofGuest q h)) er8) (hm 100 (by decide)) ⟨_, _, _, sh_100, rfl, rfl⟩ rfl rfl (Nat.le_of_ble_eq_true rfl) hl.1 ⟨Nat.le_of_ble_eq_true rfl, Nat.le_of_ble_eq_true rfl, Nat.le_of_ble_eq_true rfl, Nat.le_of_ble_eq_true rfl⟩ dX12_laysTelling_49 (fun H locs hS => ?_)
      refine lv_istore (lv' := [(5, .int r8), (4, .int r6), (3, .int r3), (2, .int r1), (0, .ref (zal G 100)), (1, .int x1)]) C.1 C.2.1 dX12_laysTelling_52 hl (by decide) rfl (fun ls hl => ?_)
      refine lv_iload C.1 C.2.1 dX12_laysTelling_54 (lv_at hl 1 rfl) ?_
      refine lv_iload C.1 C.2.1 dX12_laysTelling_56 (lv_at hl 0 rfl) ?_
      refine lv_icmp_eq (tgt := 80) C.1 C.2.1 dX12_laysTelling_58 (by decide) (fun hc => ?_) (fun hc => ?_)
      · have hf := zif_t hc hf
        exact w_X12_laysTelling_80 C hm hk  _ _ _ _ (lv_sub hl [] rfl) hS hf
      · have hf := zif_f hc hf
        refine lv_aload_n C.1 C.2.1 dX12_laysTelling_61 rfl (lv_at hl 4 rfl) ?_
        refine zgetR C hS ff_X12_7_100 (hm 100 (by decide)) (hk (100, 0) (by decide)) dX12_laysTelling_62 ?_
        refine lv_bipush (v := (10 : Int32)) C.1 C.2.1 dX12_laysTelling_65 rfl ?_
        refine lv_iload C.1 C.2.1 dX12_laysTelling_67 (lv_at hl 1 rfl) ?_
        refine lv_iadd C.1 C.2.1 dX12_laysTelling_69 ?_
        obtain ⟨hi, hf⟩ := zck_some hf
        refine zald C hS sh_101 (hm 101 (by decide)) hi dX12_laysTelling_70 ?_
        refine lv_iload C.1 C.2.1 dX12_laysTelling_71 (lv_at hl 0 rfl) ?_
        refine lv_ishr C.1 C.2.1 dX12_laysTelling_73 ?_
        refine lv_iconst (v := (1 : Int32)) C.1 C.2.1 dX12_laysTelling_74 rfl ?_
        refine lv_iand C.1 C.2.1 dX12_laysTelling_75 ?_
        refine lv_iconst (v := (1 : Int32)) C.1 C.2.1 dX12_laysTelling_76 rfl ?_
        refine lv_icmp_ne (tgt := 82) C.1 C.2.1 dX12_laysTelling_77 (by decide) (fun hc => ?_) (fun hc => ?_)
        · have hf := zif_f hc hf
          refine lv_iconst (v := (0 : Int32)) C.1 C.2.1 dX12_laysTelling_82 rfl ?_
          refine lv_istore (lv' := [(6, .int (0 : Int32)), (5, .int r8), (4, .int r6), (3, .int r3), (2, .int r1), (0, .ref (zal G 100)), (1, .int x1)]) C.1 C.2.1 dX12_laysTelling_83 hl (by decide) rfl (fun ls hl => ?_)
          exact w_X12_laysTelling_85 C hm hk  zN _ _ _ _ _ _ _ _ _ (lv_sub hl [5, 4, 3, 2, 1, 0] rfl) hS hf
        · have hf := zif_t hc hf
          exact w_X12_laysTelling_80 C hm hk  _ _ _ _ (lv_sub hl [] rfl) hS hf
    · have hf := zif_t hc hf
      exact w_X12_laysTelling_36 C hm hk  _ _ _ _ (lv_sub hl [] rfl) hS hf
end
section
theorem dX12_telling_0 : decode cX12_telling 0 = .ok (.iload_n 1, 1) := by decide +kernel
theorem dX12_telling_1 : decode cX12_telling 1 = .ok (.iconst 0, 1) := by decide +kernel
theorem dX12_telling_2 : decode cX12_telling 2 = .ok (.aload_n 0, 1) := by decide +kernel
theorem dX12_telling_3 : decode cX12_telling 3 = .ok (.getfield 7, 3) := by decide +kernel
theorem dX12_telling_6 : decode cX12_telling 6 = .ok (.iconst 0, 1) := by decide +kernel
theorem dX12_telling_7 : decode cX12_telling 7 = .ok (.iaload, 1) := by decide +kernel
theorem dX12_telling_8 : decode cX12_telling 8 = .ok (.iconst 1, 1) := by decide +kernel
theorem dX12_telling_9 : decode cX12_telling 9 = .ok (.isub, 1) := by decide +kernel
theorem dX12_telling_10 : decode cX12_telling 10 = .ok (.invokestatic 65, 3) := by decide +kernel
theorem dX12_telling_13 : decode cX12_telling 13 = .ok (.ifCond .eq 20, 3) := by decide +kernel
theorem dX12_telling_16 : decode cX12_telling 16 = .ok (.iload_n 2, 1) := by decide +kernel
theorem dX12_telling_17 : decode cX12_telling 17 = .ok (.iconst 0, 1) := by decide +kernel
theorem dX12_telling_18 : decode cX12_telling 18 = .ok (.iconst 3, 1) := by decide +kernel
theorem dX12_telling_19 : decode cX12_telling 19 = .ok (.invokestatic 65, 3) := by decide +kernel
theorem dX12_telling_22 : decode cX12_telling 22 = .ok (.ifCond .eq 11, 3) := by decide +kernel
theorem dX12_telling_25 : decode cX12_telling 25 = .ok (.aload_n 0, 1) := by decide +kernel
theorem dX12_telling_26 : decode cX12_telling 26 = .ok (.iload_n 1, 1) := by decide +kernel
theorem dX12_telling_27 : decode cX12_telling 27 = .ok (.invokevirtual 281, 3) := by decide +kernel
theorem dX12_telling_30 : decode cX12_telling 30 = .ok (.ifCond .ne 5, 3) := by decide +kernel
theorem dX12_telling_33 : decode cX12_telling 33 = .ok (.iconst (-1), 1) := by decide +kernel
theorem dX12_telling_34 : decode cX12_telling 34 = .ok (.ireturn, 1) := by decide +kernel
theorem dX12_telling_35 : decode cX12_telling 35 = .ok (.iload_n 2, 1) := by decide +kernel
theorem dX12_telling_36 : decode cX12_telling 36 = .ok (.ifCond .ne 10, 3) := by decide +kernel
theorem dX12_telling_39 : decode cX12_telling 39 = .ok (.aload_n 0, 1) := by decide +kernel
theorem dX12_telling_40 : decode cX12_telling 40 = .ok (.getfield 272, 3) := by decide +kernel
theorem dX12_telling_43 : decode cX12_telling 43 = .ok (.goto 31, 3) := by decide +kernel
theorem dX12_telling_46 : decode cX12_telling 46 = .ok (.iload_n 2, 1) := by decide +kernel
theorem dX12_telling_47 : decode cX12_telling 47 = .ok (.iconst 1, 1) := by decide +kernel
theorem dX12_telling_48 : decode cX12_telling 48 = .ok (.if_icmp .ne 10, 3) := by decide +kernel
theorem dX12_telling_51 : decode cX12_telling 51 = .ok (.aload_n 0, 1) := by decide +kernel
theorem dX12_telling_52 : decode cX12_telling 52 = .ok (.getfield 275, 3) := by decide +kernel
theorem dX12_telling_55 : decode cX12_telling 55 = .ok (.goto 19, 3) := by decide +kernel
theorem dX12_telling_58 : decode cX12_telling 58 = .ok (.iload_n 2, 1) := by decide +kernel
theorem dX12_telling_59 : decode cX12_telling 59 = .ok (.iconst 2, 1) := by decide +kernel
theorem dX12_telling_60 : decode cX12_telling 60 = .ok (.if_icmp .ne 10, 3) := by decide +kernel
theorem dX12_telling_63 : decode cX12_telling 63 = .ok (.aload_n 0, 1) := by decide +kernel
theorem dX12_telling_64 : decode cX12_telling 64 = .ok (.getfield 278, 3) := by decide +kernel
theorem dX12_telling_67 : decode cX12_telling 67 = .ok (.goto 7, 3) := by decide +kernel
theorem dX12_telling_70 : decode cX12_telling 70 = .ok (.aload_n 0, 1) := by decide +kernel
theorem dX12_telling_71 : decode cX12_telling 71 = .ok (.getfield 256, 3) := by decide +kernel
theorem dX12_telling_74 : decode cX12_telling 74 = .ok (.ireturn, 1) := by decide +kernel
abbrev nd_X12_telling : List Nat := [100, 101, 108, 109]
abbrev ld_X12_telling : List (Nat × Nat) := [(100, 0), (100, 9), (100, 10)]
theorem sn_X12_telling_X12_isIn : ∀ c ∈ nd_X12_isIn, c ∈ nd_X12_telling := by decide
theorem sl_X12_telling_X12_isIn : ∀ q ∈ ld_X12_isIn, q ∈ ld_X12_telling := by decide
theorem sn_X12_telling_X12_laysTelling : ∀ c ∈ nd_X12_laysTelling, c ∈ nd_X12_telling := by decide
theorem sl_X12_telling_X12_laysTelling : ∀ q ∈ ld_X12_laysTelling, q ∈ ld_X12_telling := by decide
def f_X12_telling_33  (h : zH) : zR := (some ((-1 : Int32), h))
def f_X12_telling  (x1 : Int32) (x2 : Int32) (h : zH) : zR := (zbd (f_X12_isIn x1 (0 : Int32) ((h 101 0) - (1 : Int32)) h) fun r1 h2 => (if r1 = 0 then (f_X12_telling_33   h2) else (zbd (f_X12_isIn x2 (0 : Int32) (3 : Int32) h2) fun r3 h4 => (if r3 = 0 then (f_X12_telling_33   h4) else (zbd (f_X12_laysTelling x1 h4) fun r5 h6 => (if r5 = 0 then (f_X12_telling_33   h6) else (if x2 = 0 then (some ((h6 100 23), h6)) else (if x2 = (1 : Int32) then (some ((h6 100 24), h6)) else (if x2 = (2 : Int32) then (some ((h6 100 25), h6)) else (some ((h6 100 26), h6)))))))))))
variable {p : Program} {l : Launch} {e : Env} {s : State} {m : MethodId} {args : Array Value} {below : List Frame} {meth : Method} {c : Code} {G : zG} {q : Int32 × zH}
set_option maxHeartbeats 4000000 in
set_option maxRecDepth 100000 in
theorem w_X12_telling_33  (C : zC G p s m args meth c cX12_telling 3 RX12 (some .int)) (hm : ∀ c ∈ nd_X12_telling, c ∈ znm G) (hk : ∀ q ∈ ld_X12_telling, zlk G q.1 q.2 = true)  : ∀ (ls : Array Slot) (H : Heap) (locs : List Loc) (h : zH), lv_has ls 3 [] → zS G h s.heap H locs → f_X12_telling_33  h = some q → W p l e (zrm (7)) s m args below meth c H locs 0 0 (MQ below (zQI G q.2 q.1) args s 0 0 (zA G)) (F0 m 33 ls []) := by
  intro ls H locs h hl hS hf
  unfold f_X12_telling_33 at hf
  refine lv_iconst (v := (-1 : Int32)) C.1 C.2.1 dX12_telling_33 rfl ?_
  exact zretI C hS hf dX12_telling_34
set_option maxHeartbeats 4000000 in
set_option maxRecDepth 100000 in
theorem c_X12_telling (l : Launch) (G : zG) (h : zH) (x1 : Int32) (x2 : Int32) (q : Int32 × zH) (hm : ∀ c ∈ nd_X12_telling, c ∈ znm G) (hk : ∀ q ∈ ld_X12_telling, zlk G q.1 q.2 = true) (hf : f_X12_telling x1 x2 h = some q) : zCtI l yX12_telling cX12_telling 3 (some .int) (7) [.ref (zal G 100), .int x1, .int x2] G h q.2 q.1 := by
  refine zMetI (by decide) (Nat.le_of_ble_eq_true rfl) ?_
  intro p e s m below meth c ls C hl hS
  have hl : lv_has ls 3 [(0, .ref (zal G 100)), (1, .int x1), (2, .int x2)] := hl
  have C : zC G p s m [.ref (zal G 100), .int x1, .int x2].toArray meth c cX12_telling 3 RX12 (some .int) := C
  unfold f_X12_telling at hf
  refine lv_iload_n C.1 C.2.1 dX12_telling_0 rfl (lv_at hl 1 rfl) ?_
  refine lv_iconst (v := (0 : Int32)) C.1 C.2.1 dX12_telling_1 rfl ?_
  refine lv_aload_n C.1 C.2.1 dX12_telling_2 rfl (lv_at hl 0 rfl) ?_
  refine zgetR C hS ff_X12_7_100 (hm 100 (by decide)) (hk (100, 0) (by decide)) dX12_telling_3 ?_
  refine lv_iconst (v := (0 : Int32)) C.1 C.2.1 dX12_telling_6 rfl ?_
  refine zald C hS sh_101 (hm 101 (by decide)) (vp_in_iff.mpr (by decide)) dX12_telling_7 ?_
  refine lv_iconst (v := (1 : Int32)) C.1 C.2.1 dX12_telling_8 rfl ?_
  refine lv_isub C.1 C.2.1 dX12_telling_9 ?_
  obtain ⟨r1, h2, er1, hf⟩ := zbd_some hf
  refine zcallSI (As := [.int x1, .int (0 : Int32), .int ((h 101 0) - (1 : Int32))]) (rest := []) C hS ms_X12_65 (c_X12_isIn l G h x1 (0 : Int32) ((h 101 0) - (1 : Int32)) (r1, h2) (fun c h => hm c (sn_X12_telling_X12_isIn c h)) (fun q h => hk q (sl_X12_telling_X12_isIn q h)) er1) rfl rfl (Nat.le_of_ble_eq_true rfl) hl.1 ⟨Nat.le_of_ble_eq_true rfl, Nat.le_of_ble_eq_true rfl, Nat.le_of_ble_eq_true rfl, Nat.le_of_ble_eq_true rfl⟩ dX12_telling_10 (fun H locs hS => ?_)
  refine lv_if_eq (tgt := 33) C.1 C.2.1 dX12_telling_13 (by decide) (fun hc => ?_) (fun hc => ?_)
  · have hf := zif_t hc hf
    exact w_X12_telling_33 C hm hk  _ _ _ _ (lv_sub hl [] rfl) hS hf
  · have hf := zif_f hc hf
    refine lv_iload_n C.1 C.2.1 dX12_telling_16 rfl (lv_at hl 2 rfl) ?_
    refine lv_iconst (v := (0 : Int32)) C.1 C.2.1 dX12_telling_17 rfl ?_
    refine lv_iconst (v := (3 : Int32)) C.1 C.2.1 dX12_telling_18 rfl ?_
    obtain ⟨r3, h4, er3, hf⟩ := zbd_some hf
    refine zcallSI (As := [.int x2, .int (0 : Int32), .int (3 : Int32)]) (rest := []) C hS ms_X12_65 (c_X12_isIn l G h2 x2 (0 : Int32) (3 : Int32) (r3, h4) (fun c h => hm c (sn_X12_telling_X12_isIn c h)) (fun q h => hk q (sl_X12_telling_X12_isIn q h)) er3) rfl rfl (Nat.le_of_ble_eq_true rfl) hl.1 ⟨Nat.le_of_ble_eq_true rfl, Nat.le_of_ble_eq_true rfl, Nat.le_of_ble_eq_true rfl, Nat.le_of_ble_eq_true rfl⟩ dX12_telling_19 (fun H locs hS => ?_)
    refine lv_if_eq (tgt := 33) C.1 C.2.1 dX12_telling_22 (by decide) (fun hc => ?_) (fun hc => ?_)
    · have hf := zif_t hc hf
      exact w_X12_telling_33 C hm hk  _ _ _ _ (lv_sub hl [] rfl) hS hf
    · have hf := zif_f hc hf
      refine lv_aload_n C.1 C.2.1 dX12_telling_25 rfl (lv_at hl 0 rfl) ?_
      refine lv_iload_n C.1 C.2.1 dX12_telling_26 rfl (lv_at hl 1 rfl) ?_
      obtain ⟨r5, h6, er5, hf⟩ := zbd_some hf
      refine zcallVI (As := [.int x1]) (rest := []) C hS mv_X12_281 (c_X12_laysTelling l G h4 x1 (r5, h6) (fun c h => hm c (sn_X12_telling_X12_laysTelling c h)) (fun q h => hk q (sl_X12_telling_X12_laysTelling q h)) er5) (hm 100 (by decide)) ⟨_, _, _, sh_100, rfl, rfl⟩ rfl rfl (Nat.le_of_ble_eq_true rfl) hl.1 ⟨Nat.le_of_ble_eq_true rfl, Nat.le_of_ble_eq_true rfl, Nat.le_of_ble_eq_true rfl, Nat.le_of_ble_eq_true rfl⟩ dX12_telling_27 (fun H locs hS => ?_)
      refine lv_if_ne (tgt := 35) C.1 C.2.1 dX12_telling_30 (by decide) (fun hc => ?_) (fun hc => ?_)
      · have hf := zif_f hc hf
        refine lv_iload_n C.1 C.2.1 dX12_telling_35 rfl (lv_at hl 2 rfl) ?_
        refine lv_if_ne (tgt := 46) C.1 C.2.1 dX12_telling_36 (by decide) (fun hc => ?_) (fun hc => ?_)
        · have hf := zif_f hc hf
          refine lv_iload_n C.1 C.2.1 dX12_telling_46 rfl (lv_at hl 2 rfl) ?_
          refine lv_iconst (v := (1 : Int32)) C.1 C.2.1 dX12_telling_47 rfl ?_
          refine lv_icmp_ne (tgt := 58) C.1 C.2.1 dX12_telling_48 (by decide) (fun hc => ?_) (fun hc => ?_)
          · have hf := zif_f hc hf
            refine lv_iload_n C.1 C.2.1 dX12_telling_58 rfl (lv_at hl 2 rfl) ?_
            refine lv_iconst (v := (2 : Int32)) C.1 C.2.1 dX12_telling_59 rfl ?_
            refine lv_icmp_ne (tgt := 70) C.1 C.2.1 dX12_telling_60 (by decide) (fun hc => ?_) (fun hc => ?_)
            · have hf := zif_f hc hf
              refine lv_aload_n C.1 C.2.1 dX12_telling_70 rfl (lv_at hl 0 rfl) ?_
              refine zgetI C hS ff_X12_256_100 (hm 100 (by decide)) dX12_telling_71 ?_
              exact zretI C hS hf dX12_telling_74
            · have hf := zif_t hc hf
              refine lv_aload_n C.1 C.2.1 dX12_telling_63 rfl (lv_at hl 0 rfl) ?_
              refine zgetI C hS ff_X12_278_100 (hm 100 (by decide)) dX12_telling_64 ?_
              refine lv_goto (tgt := 74) C.1 C.2.1 dX12_telling_67 (by decide) ?_
              exact zretI C hS hf dX12_telling_74
          · have hf := zif_t hc hf
            refine lv_aload_n C.1 C.2.1 dX12_telling_51 rfl (lv_at hl 0 rfl) ?_
            refine zgetI C hS ff_X12_275_100 (hm 100 (by decide)) dX12_telling_52 ?_
            refine lv_goto (tgt := 74) C.1 C.2.1 dX12_telling_55 (by decide) ?_
            exact zretI C hS hf dX12_telling_74
        · have hf := zif_t hc hf
          refine lv_aload_n C.1 C.2.1 dX12_telling_39 rfl (lv_at hl 0 rfl) ?_
          refine zgetI C hS ff_X12_272_100 (hm 100 (by decide)) dX12_telling_40 ?_
          refine lv_goto (tgt := 74) C.1 C.2.1 dX12_telling_43 (by decide) ?_
          exact zretI C hS hf dX12_telling_74
      · have hf := zif_t hc hf
        exact w_X12_telling_33 C hm hk  _ _ _ _ (lv_sub hl [] rfl) hS hf
end
section
theorem dX12_isTold_0 : decode cX12_isTold 0 = .ok (.aload_n 0, 1) := by decide +kernel
theorem dX12_isTold_1 : decode cX12_isTold 1 = .ok (.getfield 7, 3) := by decide +kernel
theorem dX12_isTold_4 : decode cX12_isTold 4 = .ok (.sipush 210, 3) := by decide +kernel
theorem dX12_isTold_7 : decode cX12_isTold 7 = .ok (.bipush 16, 2) := by decide +kernel
theorem dX12_isTold_9 : decode cX12_isTold 9 = .ok (.aload_n 0, 1) := by decide +kernel
theorem dX12_isTold_10 : decode cX12_isTold 10 = .ok (.getfield 272, 3) := by decide +kernel
theorem dX12_isTold_13 : decode cX12_isTold 13 = .ok (.imul, 1) := by decide +kernel
theorem dX12_isTold_14 : decode cX12_isTold 14 = .ok (.iadd, 1) := by decide +kernel
theorem dX12_isTold_15 : decode cX12_isTold 15 = .ok (.aload_n 0, 1) := by decide +kernel
theorem dX12_isTold_16 : decode cX12_isTold 16 = .ok (.getfield 275, 3) := by decide +kernel
theorem dX12_isTold_19 : decode cX12_isTold 19 = .ok (.iadd, 1) := by decide +kernel
theorem dX12_isTold_20 : decode cX12_isTold 20 = .ok (.dup2, 1) := by decide +kernel
theorem dX12_isTold_21 : decode cX12_isTold 21 = .ok (.iaload, 1) := by decide +kernel
theorem dX12_isTold_22 : decode cX12_isTold 22 = .ok (.iconst 1, 1) := by decide +kernel
theorem dX12_isTold_23 : decode cX12_isTold 23 = .ok (.iadd, 1) := by decide +kernel
theorem dX12_isTold_24 : decode cX12_isTold 24 = .ok (.iastore, 1) := by decide +kernel
theorem dX12_isTold_25 : decode cX12_isTold 25 = .ok (.aload_n 0, 1) := by decide +kernel
theorem dX12_isTold_26 : decode cX12_isTold 26 = .ok (.getfield 7, 3) := by decide +kernel
theorem dX12_isTold_29 : decode cX12_isTold 29 = .ok (.sipush 466, 3) := by decide +kernel
theorem dX12_isTold_32 : decode cX12_isTold 32 = .ok (.bipush 16, 2) := by decide +kernel
theorem dX12_isTold_34 : decode cX12_isTold 34 = .ok (.aload_n 0, 1) := by decide +kernel
theorem dX12_isTold_35 : decode cX12_isTold 35 = .ok (.getfield 272, 3) := by decide +kernel
theorem dX12_isTold_38 : decode cX12_isTold 38 = .ok (.imul, 1) := by decide +kernel
theorem dX12_isTold_39 : decode cX12_isTold 39 = .ok (.iadd, 1) := by decide +kernel
theorem dX12_isTold_40 : decode cX12_isTold 40 = .ok (.aload_n 0, 1) := by decide +kernel
theorem dX12_isTold_41 : decode cX12_isTold 41 = .ok (.getfield 275, 3) := by decide +kernel
theorem dX12_isTold_44 : decode cX12_isTold 44 = .ok (.iadd, 1) := by decide +kernel
theorem dX12_isTold_45 : decode cX12_isTold 45 = .ok (.aload_n 0, 1) := by decide +kernel
theorem dX12_isTold_46 : decode cX12_isTold 46 = .ok (.getfield 7, 3) := by decide +kernel
theorem dX12_isTold_49 : decode cX12_isTold 49 = .ok (.iconst 5, 1) := by decide +kernel
theorem dX12_isTold_50 : decode cX12_isTold 50 = .ok (.iaload, 1) := by decide +kernel
theorem dX12_isTold_51 : decode cX12_isTold 51 = .ok (.iastore, 1) := by decide +kernel
theorem dX12_isTold_52 : decode cX12_isTold 52 = .ok (.return_, 1) := by decide +kernel
abbrev nd_X12_isTold : List Nat := [100, 101]
abbrev ld_X12_isTold : List (Nat × Nat) := [(100, 0)]
def f_X12_isTold  (h : zH) : zR := (zck (((210 : Int32) + ((16 : Int32) * (h 100 23))) + (h 100 24)) 2220 (zck (((210 : Int32) + ((16 : Int32) * (h 100 23))) + (h 100 24)) 2220 (zst (zup h 101 (Int32.toNatClampNeg (((210 : Int32) + ((16 : Int32) * (h 100 23))) + (h 100 24))) ((h 101 (Int32.toNatClampNeg (((210 : Int32) + ((16 : Int32) * (h 100 23))) + (h 100 24)))) + (1 : Int32))) fun h1 => (zck (((466 : Int32) + ((16 : Int32) * (h1 100 23))) + (h1 100 24)) 2220 (zst (zup h1 101 (Int32.toNatClampNeg (((466 : Int32) + ((16 : Int32) * (h1 100 23))) + (h1 100 24))) (h1 101 5)) fun h2 => (some (0, h2)))))))
variable {p : Program} {l : Launch} {e : Env} {s : State} {m : MethodId} {args : Array Value} {below : List Frame} {meth : Method} {c : Code} {G : zG} {q : Int32 × zH}
set_option maxHeartbeats 4000000 in
set_option maxRecDepth 100000 in
theorem c_X12_isTold (l : Launch) (G : zG) (h : zH) (q : Int32 × zH) (hm : ∀ c ∈ nd_X12_isTold, c ∈ znm G) (hk : ∀ q ∈ ld_X12_isTold, zlk G q.1 q.2 = true) (hf : f_X12_isTold h = some q) : zCtV l yX12_isTold cX12_isTold 1 none (2) [.ref (zal G 100)] G h q.2 := by
  refine zMetV (by decide) (Nat.le_of_ble_eq_true rfl) ?_
  intro p e s m below meth c ls C hl hS
  have hl : lv_has ls 1 [(0, .ref (zal G 100))] := hl
  have C : zC G p s m [.ref (zal G 100)].toArray meth c cX12_isTold 1 RX12 none := C
  unfold f_X12_isTold at hf
  refine lv_aload_n C.1 C.2.1 dX12_isTold_0 rfl (lv_at hl 0 rfl) ?_
  refine zgetR C hS ff_X12_7_100 (hm 100 (by decide)) (hk (100, 0) (by decide)) dX12_isTold_1 ?_
  refine lv_sipush (v := (210 : Int32)) C.1 C.2.1 dX12_isTold_4 rfl ?_
  refine lv_bipush (v := (16 : Int32)) C.1 C.2.1 dX12_isTold_7 rfl ?_
  refine lv_aload_n C.1 C.2.1 dX12_isTold_9 rfl (lv_at hl 0 rfl) ?_
  refine zgetI C hS ff_X12_272_100 (hm 100 (by decide)) dX12_isTold_10 ?_
  refine lv_imul C.1 C.2.1 dX12_isTold_13 ?_
  refine lv_iadd C.1 C.2.1 dX12_isTold_14 ?_
  refine lv_aload_n C.1 C.2.1 dX12_isTold_15 rfl (lv_at hl 0 rfl) ?_
  refine zgetI C hS ff_X12_275_100 (hm 100 (by decide)) dX12_isTold_16 ?_
  refine lv_iadd C.1 C.2.1 dX12_isTold_19 ?_
  refine lv_dup2_11 C.1 C.2.1 dX12_isTold_20 rfl rfl ?_
  obtain ⟨hi, hf⟩ := zck_some hf
  refine zald C hS sh_101 (hm 101 (by decide)) hi dX12_isTold_21 ?_
  refine lv_iconst (v := (1 : Int32)) C.1 C.2.1 dX12_isTold_22 rfl ?_
  refine lv_iadd C.1 C.2.1 dX12_isTold_23 ?_
  obtain ⟨hi, hf⟩ := zck_some hf
  refine zast C hS sh_101 (hm 101 (by decide)) hi dX12_isTold_24 (fun H locs hS => ?_)
  obtain ⟨h1, eh1, hf⟩ := zst_some hf
  have hS : zS G h1 s.heap H locs := by rw [eh1]; exact hS
  refine lv_aload_n C.1 C.2.1 dX12_isTold_25 rfl (lv_at hl 0 rfl) ?_
  refine zgetR C hS ff_X12_7_100 (hm 100 (by decide)) (hk (100, 0) (by decide)) dX12_isTold_26 ?_
  refine lv_sipush (v := (466 : Int32)) C.1 C.2.1 dX12_isTold_29 rfl ?_
  refine lv_bipush (v := (16 : Int32)) C.1 C.2.1 dX12_isTold_32 rfl ?_
  refine lv_aload_n C.1 C.2.1 dX12_isTold_34 rfl (lv_at hl 0 rfl) ?_
  refine zgetI C hS ff_X12_272_100 (hm 100 (by decide)) dX12_isTold_35 ?_
  refine lv_imul C.1 C.2.1 dX12_isTold_38 ?_
  refine lv_iadd C.1 C.2.1 dX12_isTold_39 ?_
  refine lv_aload_n C.1 C.2.1 dX12_isTold_40 rfl (lv_at hl 0 rfl) ?_
  refine zgetI C hS ff_X12_275_100 (hm 100 (by decide)) dX12_isTold_41 ?_
  refine lv_iadd C.1 C.2.1 dX12_isTold_44 ?_
  refine lv_aload_n C.1 C.2.1 dX12_isTold_45 rfl (lv_at hl 0 rfl) ?_
  refine zgetR C hS ff_X12_7_100 (hm 100 (by decide)) (hk (100, 0) (by decide)) dX12_isTold_46 ?_
  refine lv_iconst (v := (5 : Int32)) C.1 C.2.1 dX12_isTold_49 rfl ?_
  refine zald C hS sh_101 (hm 101 (by decide)) (vp_in_iff.mpr (by decide)) dX12_isTold_50 ?_
  obtain ⟨hi, hf⟩ := zck_some hf
  refine zast C hS sh_101 (hm 101 (by decide)) hi dX12_isTold_51 (fun H locs hS => ?_)
  obtain ⟨h2, eh2, hf⟩ := zst_some hf
  have hS : zS G h2 s.heap H locs := by rw [eh2]; exact hS
  exact zretV C hS hf dX12_isTold_52
end
section
theorem dX12_merryNow_0 : decode cX12_merryNow 0 = .ok (.iconst 0, 1) := by decide +kernel
theorem dX12_merryNow_1 : decode cX12_merryNow 1 = .ok (.istore_n 1, 1) := by decide +kernel
theorem dX12_merryNow_2 : decode cX12_merryNow 2 = .ok (.iload_n 1, 1) := by decide +kernel
theorem dX12_merryNow_3 : decode cX12_merryNow 3 = .ok (.sipush 512, 3) := by decide +kernel
theorem dX12_merryNow_6 : decode cX12_merryNow 6 = .ok (.if_icmp .ge 25, 3) := by decide +kernel
theorem dX12_merryNow_9 : decode cX12_merryNow 9 = .ok (.aload_n 0, 1) := by decide +kernel
theorem dX12_merryNow_10 : decode cX12_merryNow 10 = .ok (.getfield 19, 3) := by decide +kernel
theorem dX12_merryNow_13 : decode cX12_merryNow 13 = .ok (.iload_n 1, 1) := by decide +kernel
theorem dX12_merryNow_14 : decode cX12_merryNow 14 = .ok (.aload_n 0, 1) := by decide +kernel
theorem dX12_merryNow_15 : decode cX12_merryNow 15 = .ok (.getfield 7, 3) := by decide +kernel
theorem dX12_merryNow_18 : decode cX12_merryNow 18 = .ok (.sipush 210, 3) := by decide +kernel
theorem dX12_merryNow_21 : decode cX12_merryNow 21 = .ok (.iload_n 1, 1) := by decide +kernel
theorem dX12_merryNow_22 : decode cX12_merryNow 22 = .ok (.iadd, 1) := by decide +kernel
theorem dX12_merryNow_23 : decode cX12_merryNow 23 = .ok (.iaload, 1) := by decide +kernel
theorem dX12_merryNow_24 : decode cX12_merryNow 24 = .ok (.iastore, 1) := by decide +kernel
theorem dX12_merryNow_25 : decode cX12_merryNow 25 = .ok (.iinc 1 1, 3) := by decide +kernel
theorem dX12_merryNow_28 : decode cX12_merryNow 28 = .ok (.goto (-26), 3) := by decide +kernel
theorem dX12_merryNow_31 : decode cX12_merryNow 31 = .ok (.iconst 0, 1) := by decide +kernel
theorem dX12_merryNow_32 : decode cX12_merryNow 32 = .ok (.istore_n 1, 1) := by decide +kernel
theorem dX12_merryNow_33 : decode cX12_merryNow 33 = .ok (.iconst 0, 1) := by decide +kernel
theorem dX12_merryNow_34 : decode cX12_merryNow 34 = .ok (.istore_n 2, 1) := by decide +kernel
theorem dX12_merryNow_35 : decode cX12_merryNow 35 = .ok (.iload_n 2, 1) := by decide +kernel
theorem dX12_merryNow_36 : decode cX12_merryNow 36 = .ok (.aload_n 0, 1) := by decide +kernel
theorem dX12_merryNow_37 : decode cX12_merryNow 37 = .ok (.getfield 7, 3) := by decide +kernel
theorem dX12_merryNow_40 : decode cX12_merryNow 40 = .ok (.iconst 0, 1) := by decide +kernel
theorem dX12_merryNow_41 : decode cX12_merryNow 41 = .ok (.iaload, 1) := by decide +kernel
theorem dX12_merryNow_42 : decode cX12_merryNow 42 = .ok (.if_icmp .ge 31, 3) := by decide +kernel
theorem dX12_merryNow_45 : decode cX12_merryNow 45 = .ok (.aload_n 0, 1) := by decide +kernel
theorem dX12_merryNow_46 : decode cX12_merryNow 46 = .ok (.iload_n 2, 1) := by decide +kernel
theorem dX12_merryNow_47 : decode cX12_merryNow 47 = .ok (.invokevirtual 281, 3) := by decide +kernel
theorem dX12_merryNow_50 : decode cX12_merryNow 50 = .ok (.ifCond .ne 6, 3) := by decide +kernel
theorem dX12_merryNow_53 : decode cX12_merryNow 53 = .ok (.goto 14, 3) := by decide +kernel
theorem dX12_merryNow_56 : decode cX12_merryNow 56 = .ok (.iload_n 1, 1) := by decide +kernel
theorem dX12_merryNow_57 : decode cX12_merryNow 57 = .ok (.aload_n 0, 1) := by decide +kernel
theorem dX12_merryNow_58 : decode cX12_merryNow 58 = .ok (.getfield 256, 3) := by decide +kernel
theorem dX12_merryNow_61 : decode cX12_merryNow 61 = .ok (.iadd, 1) := by decide +kernel
theorem dX12_merryNow_62 : decode cX12_merryNow 62 = .ok (.istore_n 1, 1) := by decide +kernel
theorem dX12_merryNow_63 : decode cX12_merryNow 63 = .ok (.aload_n 0, 1) := by decide +kernel
theorem dX12_merryNow_64 : decode cX12_merryNow 64 = .ok (.invokevirtual 284, 3) := by decide +kernel
theorem dX12_merryNow_67 : decode cX12_merryNow 67 = .ok (.iinc 2 1, 3) := by decide +kernel
theorem dX12_merryNow_70 : decode cX12_merryNow 70 = .ok (.goto (-35), 3) := by decide +kernel
theorem dX12_merryNow_73 : decode cX12_merryNow 73 = .ok (.iconst 0, 1) := by decide +kernel
theorem dX12_merryNow_74 : decode cX12_merryNow 74 = .ok (.istore_n 2, 1) := by decide +kernel
theorem dX12_merryNow_75 : decode cX12_merryNow 75 = .ok (.iload_n 2, 1) := by decide +kernel
theorem dX12_merryNow_76 : decode cX12_merryNow 76 = .ok (.sipush 512, 3) := by decide +kernel
theorem dX12_merryNow_79 : decode cX12_merryNow 79 = .ok (.if_icmp .ge 25, 3) := by decide +kernel
theorem dX12_merryNow_82 : decode cX12_merryNow 82 = .ok (.aload_n 0, 1) := by decide +kernel
theorem dX12_merryNow_83 : decode cX12_merryNow 83 = .ok (.getfield 7, 3) := by decide +kernel
theorem dX12_merryNow_86 : decode cX12_merryNow 86 = .ok (.sipush 210, 3) := by decide +kernel
theorem dX12_merryNow_89 : decode cX12_merryNow 89 = .ok (.iload_n 2, 1) := by decide +kernel
theorem dX12_merryNow_90 : decode cX12_merryNow 90 = .ok (.iadd, 1) := by decide +kernel
theorem dX12_merryNow_91 : decode cX12_merryNow 91 = .ok (.aload_n 0, 1) := by decide +kernel
theorem dX12_merryNow_92 : decode cX12_merryNow 92 = .ok (.getfield 19, 3) := by decide +kernel
theorem dX12_merryNow_95 : decode cX12_merryNow 95 = .ok (.iload_n 2, 1) := by decide +kernel
theorem dX12_merryNow_96 : decode cX12_merryNow 96 = .ok (.iaload, 1) := by decide +kernel
theorem dX12_merryNow_97 : decode cX12_merryNow 97 = .ok (.iastore, 1) := by decide +kernel
theorem dX12_merryNow_98 : decode cX12_merryNow 98 = .ok (.iinc 2 1, 3) := by decide +kernel
theorem dX12_merryNow_101 : decode cX12_merryNow 101 = .ok (.goto (-26), 3) := by decide +kernel
theorem dX12_merryNow_104 : decode cX12_merryNow 104 = .ok (.iload_n 1, 1) := by decide +kernel
theorem dX12_merryNow_105 : decode cX12_merryNow 105 = .ok (.ireturn, 1) := by decide +kernel
abbrev nd_X12_merryNow : List Nat := [100, 101, 104, 108, 109]
abbrev ld_X12_merryNow : List (Nat × Nat) := [(100, 0), (100, 3), (100, 9), (100, 10)]
theorem sn_X12_merryNow_X12_laysTelling : ∀ c ∈ nd_X12_laysTelling, c ∈ nd_X12_merryNow := by decide
theorem sl_X12_merryNow_X12_laysTelling : ∀ q ∈ ld_X12_laysTelling, q ∈ ld_X12_merryNow := by decide
theorem sn_X12_merryNow_X12_isTold : ∀ c ∈ nd_X12_isTold, c ∈ nd_X12_merryNow := by decide
theorem sl_X12_merryNow_X12_isTold : ∀ q ∈ ld_X12_isTold, q ∈ ld_X12_merryNow := by decide
def f_X12_merryNow_75  : Nat → Int32 → Int32 → zH → zR
  | 0 => fun _ _ _ => none
  | n + 1 => fun x1 x2 h => (if (512 : Int32) ≤ x2 then (some (x1, h)) else (zck x2 512 (zck ((210 : Int32) + x2) 2220 (zst (zup h 101 (Int32.toNatClampNeg ((210 : Int32) + x2)) (h 104 (Int32.toNatClampNeg x2))) fun h1 => (zlt (x2 + (1 : Int32)) fun y2 => (f_X12_merryNow_75  n x1 y2 h1))))))
def f_X12_merryNow_67 (k35 : Int32 → Int32 → zH → zR) (x1 : Int32) (x2 : Int32) (h : zH) : zR := (zlt (x2 + (1 : Int32)) fun y8 => (k35 x1 y8 h))
def f_X12_merryNow_35  : Nat → Int32 → Int32 → zH → zR
  | 0 => fun _ _ _ => none
  | n + 1 => fun x1 x2 h => (if (h 101 0) ≤ x2 then (f_X12_merryNow_75  zN x1 (0 : Int32) h) else (zbd (f_X12_laysTelling x2 h) fun r3 h4 => (if r3 = 0 then (f_X12_merryNow_67 (f_X12_merryNow_35  n) x1 x2 h4) else (zlt (x1 + (h4 100 26)) fun y5 => (zbd (f_X12_isTold  h4) fun r6 h7 => (f_X12_merryNow_67 (f_X12_merryNow_35  n) y5 x2 h7))))))
def f_X12_merryNow_2  : Nat → Int32 → zH → zR
  | 0 => fun _ _ => none
  | n + 1 => fun x1 h => (if (512 : Int32) ≤ x1 then (f_X12_merryNow_35  zN (0 : Int32) (0 : Int32) h) else (zck ((210 : Int32) + x1) 2220 (zck x1 512 (zst (zup h 104 (Int32.toNatClampNeg x1) (h 101 (Int32.toNatClampNeg ((210 : Int32) + x1)))) fun h9 => (zlt (x1 + (1 : Int32)) fun y10 => (f_X12_merryNow_2  n y10 h9))))))
def f_X12_merryNow  (h : zH) : zR := (f_X12_merryNow_2  zN (0 : Int32) h)
variable {p : Program} {l : Launch} {e : Env} {s : State} {m : MethodId} {args : Array Value} {below : List Frame} {meth : Method} {c : Code} {G : zG} {q : Int32 × zH}
set_option maxHeartbeats 4000000 in
set_option maxRecDepth 100000 in
theorem w_X12_merryNow_75  (C : zC G p s m args meth c cX12_merryNow 3 RX12 (some .int)) (hm : ∀ c ∈ nd_X12_merryNow, c ∈ znm G) (hk : ∀ q ∈ ld_X12_merryNow, zlk G q.1 q.2 = true)  : ∀ n, ∀ (ls : Array Slot) (H : Heap) (locs : List Loc) (h : zH) (x1 : Int32) (x2 : Int32), lv_has ls 3 [(0, .ref (zal G 100)), (1, .int x1), (2, .int x2)] → zS G h s.heap H locs → f_X12_merryNow_75  n x1 x2 h = some q → W p l e (zrm (7)) s m args below meth c H locs 0 0 (MQ below (zQI G q.2 q.1) args s 0 0 (zA G)) (F0 m 75 ls []) := by
  intro n
  induction n with
  | zero => intro ls H locs h x1 x2 hl hS hf; cases hf
  | succ n ih =>
    intro ls H locs h x1 x2 hl hS hf
    rw [f_X12_merryNow_75] at hf
    refine lv_iload_n C.1 C.2.1 dX12_merryNow_75 rfl (lv_at hl 2 rfl) ?_
    refine lv_sipush (v := (512 : Int32)) C.1 C.2.1 dX12_merryNow_76 rfl ?_
    refine lv_icmp_ge (tgt := 104) C.1 C.2.1 dX12_merryNow_79 (by decide) (fun hc => ?_) (fun hc => ?_)
    · have hf := zif_t hc hf
      refine lv_iload_n C.1 C.2.1 dX12_merryNow_104 rfl (lv_at hl 1 rfl) ?_
      exact zretI C hS hf dX12_merryNow_105
    · have hf := zif_f hc hf
      refine lv_aload_n C.1 C.2.1 dX12_merryNow_82 rfl (lv_at hl 0 rfl) ?_
      refine zgetR C hS ff_X12_7_100 (hm 100 (by decide)) (hk (100, 0) (by decide)) dX12_merryNow_83 ?_
      refine lv_sipush (v := (210 : Int32)) C.1 C.2.1 dX12_merryNow_86 rfl ?_
      refine lv_iload_n C.1 C.2.1 dX12_merryNow_89 rfl (lv_at hl 2 rfl) ?_
      refine lv_iadd C.1 C.2.1 dX12_merryNow_90 ?_
      refine lv_aload_n C.1 C.2.1 dX12_merryNow_91 rfl (lv_at hl 0 rfl) ?_
      refine zgetR C hS ff_X12_19_100 (hm 100 (by decide)) (hk (100, 3) (by decide)) dX12_merryNow_92 ?_
      refine lv_iload_n C.1 C.2.1 dX12_merryNow_95 rfl (lv_at hl 2 rfl) ?_
      obtain ⟨hi, hf⟩ := zck_some hf
      refine zald C hS sh_104 (hm 104 (by decide)) hi dX12_merryNow_96 ?_
      obtain ⟨hi, hf⟩ := zck_some hf
      refine zast C hS sh_101 (hm 101 (by decide)) hi dX12_merryNow_97 (fun H locs hS => ?_)
      obtain ⟨h1, eh1, hf⟩ := zst_some hf
      have hS : zS G h1 s.heap H locs := by rw [eh1]; exact hS
      obtain ⟨y2, ey2, hf⟩ := zlt_some hf
      refine lv_iinc (v := y2) (lv' := [(2, .int y2), (0, .ref (zal G 100)), (1, .int x1)]) C.1 C.2.1 dX12_merryNow_98 hl (k := 2) rfl ey2.symm (by decide) rfl (fun ls hl => ?_)
      refine lv_goto (tgt := 75) C.1 C.2.1 dX12_merryNow_101 (by decide) ?_
      exact ih _ _ _ _ _ _ (lv_sub hl [1, 2, 0] rfl) hS hf
set_option maxHeartbeats 4000000 in
set_option maxRecDepth 100000 in
theorem w_X12_merryNow_67 {k35 : Int32 → Int32 → zH → zR} (C : zC G p s m args meth c cX12_merryNow 3 RX12 (some .int)) (hm : ∀ c ∈ nd_X12_merryNow, c ∈ znm G) (hk : ∀ q ∈ ld_X12_merryNow, zlk G q.1 q.2 = true) (hk35 : ∀ (ls : Array Slot) (H : Heap) (locs : List Loc) (h : zH) (x1 : Int32) (x2 : Int32), lv_has ls 3 [(0, .ref (zal G 100)), (1, .int x1), (2, .int x2)] → zS G h s.heap H locs → k35 x1 x2 h = some q → W p l e (zrm (7)) s m args below meth c H locs 0 0 (MQ below (zQI G q.2 q.1) args s 0 0 (zA G)) (F0 m 35 ls [])) : ∀ (ls : Array Slot) (H : Heap) (locs : List Loc) (h : zH) (x1 : Int32) (x2 : Int32), lv_has ls 3 [(0, .ref (zal G 100)), (1, .int x1), (2, .int x2)] → zS G h s.heap H locs → f_X12_merryNow_67 k35 x1 x2 h = some q → W p l e (zrm (7)) s m args below meth c H locs 0 0 (MQ below (zQI G q.2 q.1) args s 0 0 (zA G)) (F0 m 67 ls []) := by
  intro ls H locs h x1 x2 hl hS hf
  unfold f_X12_merryNow_67 at hf
  obtain ⟨y8, ey8, hf⟩ := zlt_some hf
  refine lv_iinc (v := y8) (lv' := [(2, .int y8), (0, .ref (zal G 100)), (1, .int x1)]) C.1 C.2.1 dX12_merryNow_67 hl (k := 2) rfl ey8.symm (by decide) rfl (fun ls hl => ?_)
  refine lv_goto (tgt := 35) C.1 C.2.1 dX12_merryNow_70 (by decide) ?_
  exact hk35 _ _ _ _ _ _ (lv_sub hl [1, 2, 0] rfl) hS hf
set_option maxHeartbeats 4000000 in
set_option maxRecDepth 100000 in
theorem w_X12_merryNow_35  (C : zC G p s m args meth c cX12_merryNow 3 RX12 (some .int)) (hm : ∀ c ∈ nd_X12_merryNow, c ∈ znm G) (hk : ∀ q ∈ ld_X12_merryNow, zlk G q.1 q.2 = true)  : ∀ n, ∀ (ls : Array Slot) (H : Heap) (locs : List Loc) (h : zH) (x1 : Int32) (x2 : Int32), lv_has ls 3 [(0, .ref (zal G 100)), (1, .int x1), (2, .int x2)] → zS G h s.heap H locs → f_X12_merryNow_35  n x1 x2 h = some q → W p l e (zrm (7)) s m args below meth c H locs 0 0 (MQ below (zQI G q.2 q.1) args s 0 0 (zA G)) (F0 m 35 ls []) := by
  intro n
  induction n with
  | zero => intro ls H locs h x1 x2 hl hS hf; cases hf
  | succ n ih =>
    intro ls H locs h x1 x2 hl hS hf
    rw [f_X12_merryNow_35] at hf
    refine lv_iload_n C.1 C.2.1 dX12_merryNow_35 rfl (lv_at hl 2 rfl) ?_
    refine lv_aload_n C.1 C.2.1 dX12_merryNow_36 rfl (lv_at hl 0 rfl) ?_
    refine zgetR C hS ff_X12_7_100 (hm 100 (by decide)) (hk (100, 0) (by decide)) dX12_merryNow_37 ?_
    refine lv_iconst (v := (0 : Int32)) C.1 C.2.1 dX12_merryNow_40 rfl ?_
    refine zald C hS sh_101 (hm 101 (by decide)) (vp_in_iff.mpr (by decide)) dX12_merryNow_41 ?_
    refine lv_icmp_ge (tgt := 73) C.1 C.2.1 dX12_merryNow_42 (by decide) (fun hc => ?_) (fun hc => ?_)
    · have hf := zif_t hc hf
      refine lv_iconst (v := (0 : Int32)) C.1 C.2.1 dX12_merryNow_73 rfl ?_
      refine lv_istore_n (lv' := [(2, .int (0 : Int32)), (0, .ref (zal G 100)), (1, .int x1)]) C.1 C.2.1 dX12_merryNow_74 rfl hl (by decide) rfl (fun ls hl => ?_)
      exact w_X12_merryNow_75 C hm hk  zN _ _ _ _ _ _ (lv_sub hl [1, 2, 0] rfl) hS hf
    · have hf := zif_f hc hf
      refine lv_aload_n C.1 C.2.1 dX12_merryNow_45 rfl (lv_at hl 0 rfl) ?_
      refine lv_iload_n C.1 C.2.1 dX12_merryNow_46 rfl (lv_at hl 2 rfl) ?_
      obtain ⟨r3, h4, er3, hf⟩ := zbd_some hf
      refine zcallVI (As := [.int x2]) (rest := []) C hS mv_X12_281 (c_X12_laysTelling l G h x2 (r3, h4) (fun c h => hm c (sn_X12_merryNow_X12_laysTelling c h)) (fun q h => hk q (sl_X12_merryNow_X12_laysTelling q h)) er3) (hm 100 (by decide)) ⟨_, _, _, sh_100, rfl, rfl⟩ rfl rfl (Nat.le_of_ble_eq_true rfl) hl.1 ⟨Nat.le_of_ble_eq_true rfl, Nat.le_of_ble_eq_true rfl, Nat.le_of_ble_eq_true rfl, Nat.le_of_ble_eq_true rfl⟩ dX12_merryNow_47 (fun H locs hS => ?_)
      refine lv_if_ne (tgt := 56) C.1 C.2.1 dX12_merryNow_50 (by decide) (fun hc => ?_) (fun hc => ?_)
      · have hf := zif_f hc hf
        refine lv_iload_n C.1 C.2.1 dX12_merryNow_56 rfl (lv_at hl 1 rfl) ?_
        refine lv_aload_n C.1 C.2.1 dX12_merryNow_57 rfl (lv_at hl 0 rfl) ?_
        refine zgetI C hS ff_X12_256_100 (hm 100 (by decide)) dX12_merryNow_58 ?_
        refine lv_iadd C.1 C.2.1 dX12_merryNow_61 ?_
        obtain ⟨y5, ey5, hf⟩ := zlt_some hf
        refine ztop ey5 ?_
        refine lv_istore_n (lv' := [(1, .int y5), (0, .ref (zal G 100)), (2, .int x2)]) C.1 C.2.1 dX12_merryNow_62 rfl hl (by decide) rfl (fun ls hl => ?_)
        refine lv_aload_n C.1 C.2.1 dX12_merryNow_63 rfl (lv_at hl 1 rfl) ?_
        obtain ⟨r6, h7, er6, hf⟩ := zbd_some hf
        refine zcallVV (As := []) (rest := []) C hS mv_X12_284 (c_X12_isTold l G h4  (r6, h7) (fun c h => hm c (sn_X12_merryNow_X12_isTold c h)) (fun q h => hk q (sl_X12_merryNow_X12_isTold q h)) er6) (hm 100 (by decide)) ⟨_, _, _, sh_100, rfl, rfl⟩ rfl rfl (Nat.le_of_ble_eq_true rfl) hl.1 ⟨Nat.le_of_ble_eq_true rfl, Nat.le_of_ble_eq_true rfl, Nat.le_of_ble_eq_true rfl, Nat.le_of_ble_eq_true rfl⟩ dX12_merryNow_64 (fun H locs hS => ?_)
        exact w_X12_merryNow_67 C hm hk ih _ _ _ _ _ _ (lv_sub hl [1, 0, 2] rfl) hS hf
      · have hf := zif_t hc hf
        refine lv_goto (tgt := 67) C.1 C.2.1 dX12_merryNow_53 (by decide) ?_
        exact w_X12_merryNow_67 C hm hk ih _ _ _ _ _ _ (lv_sub hl [0, 1, 2] rfl) hS hf
set_option maxHeartbeats 4000000 in
set_option maxRecDepth 100000 in
theorem w_X12_merryNow_2  (C : zC G p s m args meth c cX12_merryNow 3 RX12 (some .int)) (hm : ∀ c ∈ nd_X12_merryNow, c ∈ znm G) (hk : ∀ q ∈ ld_X12_merryNow, zlk G q.1 q.2 = true)  : ∀ n, ∀ (ls : Array Slot) (H : Heap) (locs : List Loc) (h : zH) (x1 : Int32), lv_has ls 3 [(0, .ref (zal G 100)), (1, .int x1)] → zS G h s.heap H locs → f_X12_merryNow_2  n x1 h = some q → W p l e (zrm (7)) s m args below meth c H locs 0 0 (MQ below (zQI G q.2 q.1) args s 0 0 (zA G)) (F0 m 2 ls []) := by
  intro n
  induction n with
  | zero => intro ls H locs h x1 hl hS hf; cases hf
  | succ n ih =>
    intro ls H locs h x1 hl hS hf
    rw [f_X12_merryNow_2] at hf
    refine lv_iload_n C.1 C.2.1 dX12_merryNow_2 rfl (lv_at hl 1 rfl) ?_
    refine lv_sipush (v := (512 : Int32)) C.1 C.2.1 dX12_merryNow_3 rfl ?_
    refine lv_icmp_ge (tgt := 31) C.1 C.2.1 dX12_merryNow_6 (by decide) (fun hc => ?_) (fun hc => ?_)
    · have hf := zif_t hc hf
      refine lv_iconst (v := (0 : Int32)) C.1 C.2.1 dX12_merryNow_31 rfl ?_
      refine lv_istore_n (lv' := [(1, .int (0 : Int32)), (0, .ref (zal G 100))]) C.1 C.2.1 dX12_merryNow_32 rfl hl (by decide) rfl (fun ls hl => ?_)
      refine lv_iconst (v := (0 : Int32)) C.1 C.2.1 dX12_merryNow_33 rfl ?_
      refine lv_istore_n (lv' := [(2, .int (0 : Int32)), (1, .int (0 : Int32)), (0, .ref (zal G 100))]) C.1 C.2.1 dX12_merryNow_34 rfl hl (by decide) rfl (fun ls hl => ?_)
      exact w_X12_merryNow_35 C hm hk  zN _ _ _ _ _ _ (lv_sub hl [2, 1, 0] rfl) hS hf
    · have hf := zif_f hc hf
      refine lv_aload_n C.1 C.2.1 dX12_merryNow_9 rfl (lv_at hl 0 rfl) ?_
      refine zgetR C hS ff_X12_19_100 (hm 100 (by decide)) (hk (100, 3) (by decide)) dX12_merryNow_10 ?_
      refine lv_iload_n C.1 C.2.1 dX12_merryNow_13 rfl (lv_at hl 1 rfl) ?_
      refine lv_aload_n C.1 C.2.1 dX12_merryNow_14 rfl (lv_at hl 0 rfl) ?_
      refine zgetR C hS ff_X12_7_100 (hm 100 (by decide)) (hk (100, 0) (by decide)) dX12_merryNow_15 ?_
      refine lv_sipush (v := (210 : Int32)) C.1 C.2.1 dX12_merryNow_18 rfl ?_
      refine lv_iload_n C.1 C.2.1 dX12_merryNow_21 rfl (lv_at hl 1 rfl) ?_
      refine lv_iadd C.1 C.2.1 dX12_merryNow_22 ?_
      obtain ⟨hi, hf⟩ := zck_some hf
      refine zald C hS sh_101 (hm 101 (by decide)) hi dX12_merryNow_23 ?_
      obtain ⟨hi, hf⟩ := zck_some hf
      refine zast C hS sh_104 (hm 104 (by decide)) hi dX12_merryNow_24 (fun H locs hS => ?_)
      obtain ⟨h9, eh9, hf⟩ := zst_some hf
      have hS : zS G h9 s.heap H locs := by rw [eh9]; exact hS
      obtain ⟨y10, ey10, hf⟩ := zlt_some hf
      refine lv_iinc (v := y10) (lv' := [(1, .int y10), (0, .ref (zal G 100))]) C.1 C.2.1 dX12_merryNow_25 hl (k := 1) rfl ey10.symm (by decide) rfl (fun ls hl => ?_)
      refine lv_goto (tgt := 2) C.1 C.2.1 dX12_merryNow_28 (by decide) ?_
      exact ih _ _ _ _ _ (lv_sub hl [1, 0] rfl) hS hf
set_option maxHeartbeats 4000000 in
set_option maxRecDepth 100000 in
theorem c_X12_merryNow (l : Launch) (G : zG) (h : zH) (q : Int32 × zH) (hm : ∀ c ∈ nd_X12_merryNow, c ∈ znm G) (hk : ∀ q ∈ ld_X12_merryNow, zlk G q.1 q.2 = true) (hf : f_X12_merryNow h = some q) : zCtI l yX12_merryNow cX12_merryNow 3 (some .int) (7) [.ref (zal G 100)] G h q.2 q.1 := by
  refine zMetI (by decide) (Nat.le_of_ble_eq_true rfl) ?_
  intro p e s m below meth c ls C hl hS
  have hl : lv_has ls 3 [(0, .ref (zal G 100))] := hl
  have C : zC G p s m [.ref (zal G 100)].toArray meth c cX12_merryNow 3 RX12 (some .int) := C
  unfold f_X12_merryNow at hf
  refine lv_iconst (v := (0 : Int32)) C.1 C.2.1 dX12_merryNow_0 rfl ?_
  refine lv_istore_n (lv' := [(1, .int (0 : Int32)), (0, .ref (zal G 100))]) C.1 C.2.1 dX12_merryNow_1 rfl hl (by decide) rfl (fun ls hl => ?_)
  exact w_X12_merryNow_2 C hm hk  zN _ _ _ _ _ (lv_sub hl [1, 0] rfl) hS hf
end
section
theorem dX12_merry_0 : decode cX12_merry 0 = .ok (.aload_n 0, 1) := by decide +kernel
theorem dX12_merry_1 : decode cX12_merry 1 = .ok (.invokevirtual 299, 3) := by decide +kernel
theorem dX12_merry_4 : decode cX12_merry 4 = .ok (.ireturn, 1) := by decide +kernel
abbrev nd_X12_merry : List Nat := [100, 101, 104, 108, 109]
abbrev ld_X12_merry : List (Nat × Nat) := [(100, 0), (100, 3), (100, 9), (100, 10)]
theorem sn_X12_merry_X12_merryNow : ∀ c ∈ nd_X12_merryNow, c ∈ nd_X12_merry := by decide
theorem sl_X12_merry_X12_merryNow : ∀ q ∈ ld_X12_merryNow, q ∈ ld_X12_merry := by decide
def f_X12_merry  (h : zH) : zR := (zbd (f_X12_merryNow  h) fun r1 h2 => (some (r1, h2)))
variable {p : Program} {l : Launch} {e : Env} {s : State} {m : MethodId} {args : Array Value} {below : List Frame} {meth : Method} {c : Code} {G : zG} {q : Int32 × zH}
set_option maxHeartbeats 4000000 in
set_option maxRecDepth 100000 in
theorem c_X12_merry (l : Launch) (G : zG) (h : zH) (q : Int32 × zH) (hm : ∀ c ∈ nd_X12_merry, c ∈ znm G) (hk : ∀ q ∈ ld_X12_merry, zlk G q.1 q.2 = true) (hf : f_X12_merry h = some q) : zCtI l yX12_merry cX12_merry 1 (some .int) (8) [.ref (zal G 100)] G h q.2 q.1 := by
  refine zMetI (by decide) (Nat.le_of_ble_eq_true rfl) ?_
  intro p e s m below meth c ls C hl hS
  have hl : lv_has ls 1 [(0, .ref (zal G 100))] := hl
  have C : zC G p s m [.ref (zal G 100)].toArray meth c cX12_merry 1 RX12 (some .int) := C
  unfold f_X12_merry at hf
  refine lv_aload_n C.1 C.2.1 dX12_merry_0 rfl (lv_at hl 0 rfl) ?_
  obtain ⟨r1, h2, er1, hf⟩ := zbd_some hf
  refine zcallVI (As := []) (rest := []) C hS mv_X12_299 (c_X12_merryNow l G h  (r1, h2) (fun c h => hm c (sn_X12_merry_X12_merryNow c h)) (fun q h => hk q (sl_X12_merry_X12_merryNow q h)) er1) (hm 100 (by decide)) ⟨_, _, _, sh_100, rfl, rfl⟩ rfl rfl (Nat.le_of_ble_eq_true rfl) hl.1 ⟨Nat.le_of_ble_eq_true rfl, Nat.le_of_ble_eq_true rfl, Nat.le_of_ble_eq_true rfl, Nat.le_of_ble_eq_true rfl⟩ dX12_merry_1 (fun H locs hS => ?_)
  exact zretI C hS hf dX12_merry_4
end
section
theorem dX12_canLaugh_0 : decode cX12_canLaugh 0 = .ok (.iconst 0, 1) := by decide +kernel
theorem dX12_canLaugh_1 : decode cX12_canLaugh 1 = .ok (.istore_n 3, 1) := by decide +kernel
theorem dX12_canLaugh_2 : decode cX12_canLaugh 2 = .ok (.iload_n 3, 1) := by decide +kernel
theorem dX12_canLaugh_3 : decode cX12_canLaugh 3 = .ok (.aload_n 0, 1) := by decide +kernel
theorem dX12_canLaugh_4 : decode cX12_canLaugh 4 = .ok (.getfield 7, 3) := by decide +kernel
theorem dX12_canLaugh_7 : decode cX12_canLaugh 7 = .ok (.iconst 3, 1) := by decide +kernel
theorem dX12_canLaugh_8 : decode cX12_canLaugh 8 = .ok (.iaload, 1) := by decide +kernel
theorem dX12_canLaugh_9 : decode cX12_canLaugh 9 = .ok (.if_icmp .ge 82, 3) := by decide +kernel
theorem dX12_canLaugh_12 : decode cX12_canLaugh 12 = .ok (.iconst 0, 1) := by decide +kernel
theorem dX12_canLaugh_13 : decode cX12_canLaugh 13 = .ok (.istore 4, 2) := by decide +kernel
theorem dX12_canLaugh_15 : decode cX12_canLaugh 15 = .ok (.iload 4, 2) := by decide +kernel
theorem dX12_canLaugh_17 : decode cX12_canLaugh 17 = .ok (.aload_n 0, 1) := by decide +kernel
theorem dX12_canLaugh_18 : decode cX12_canLaugh 18 = .ok (.getfield 7, 3) := by decide +kernel
theorem dX12_canLaugh_21 : decode cX12_canLaugh 21 = .ok (.iconst 3, 1) := by decide +kernel
theorem dX12_canLaugh_22 : decode cX12_canLaugh 22 = .ok (.iaload, 1) := by decide +kernel
theorem dX12_canLaugh_23 : decode cX12_canLaugh 23 = .ok (.if_icmp .ge 62, 3) := by decide +kernel
theorem dX12_canLaugh_26 : decode cX12_canLaugh 26 = .ok (.aload_n 0, 1) := by decide +kernel
theorem dX12_canLaugh_27 : decode cX12_canLaugh 27 = .ok (.iload_n 3, 1) := by decide +kernel
theorem dX12_canLaugh_28 : decode cX12_canLaugh 28 = .ok (.invokevirtual 259, 3) := by decide +kernel
theorem dX12_canLaugh_31 : decode cX12_canLaugh 31 = .ok (.ifCond .eq 48, 3) := by decide +kernel
theorem dX12_canLaugh_34 : decode cX12_canLaugh 34 = .ok (.aload_n 0, 1) := by decide +kernel
theorem dX12_canLaugh_35 : decode cX12_canLaugh 35 = .ok (.iload 4, 2) := by decide +kernel
theorem dX12_canLaugh_37 : decode cX12_canLaugh 37 = .ok (.invokevirtual 262, 3) := by decide +kernel
theorem dX12_canLaugh_40 : decode cX12_canLaugh 40 = .ok (.ifCond .eq 39, 3) := by decide +kernel
theorem dX12_canLaugh_43 : decode cX12_canLaugh 43 = .ok (.aload_n 0, 1) := by decide +kernel
theorem dX12_canLaugh_44 : decode cX12_canLaugh 44 = .ok (.iload_n 1, 1) := by decide +kernel
theorem dX12_canLaugh_45 : decode cX12_canLaugh 45 = .ok (.iload_n 2, 1) := by decide +kernel
theorem dX12_canLaugh_46 : decode cX12_canLaugh 46 = .ok (.iload_n 3, 1) := by decide +kernel
theorem dX12_canLaugh_47 : decode cX12_canLaugh 47 = .ok (.iload 4, 2) := by decide +kernel
theorem dX12_canLaugh_49 : decode cX12_canLaugh 49 = .ok (.invokevirtual 265, 3) := by decide +kernel
theorem dX12_canLaugh_52 : decode cX12_canLaugh 52 = .ok (.ifCond .ne 15, 3) := by decide +kernel
theorem dX12_canLaugh_55 : decode cX12_canLaugh 55 = .ok (.aload_n 0, 1) := by decide +kernel
theorem dX12_canLaugh_56 : decode cX12_canLaugh 56 = .ok (.iload_n 2, 1) := by decide +kernel
theorem dX12_canLaugh_57 : decode cX12_canLaugh 57 = .ok (.iload_n 1, 1) := by decide +kernel
theorem dX12_canLaugh_58 : decode cX12_canLaugh 58 = .ok (.iload_n 3, 1) := by decide +kernel
theorem dX12_canLaugh_59 : decode cX12_canLaugh 59 = .ok (.iload 4, 2) := by decide +kernel
theorem dX12_canLaugh_61 : decode cX12_canLaugh 61 = .ok (.invokevirtual 265, 3) := by decide +kernel
theorem dX12_canLaugh_64 : decode cX12_canLaugh 64 = .ok (.ifCond .eq 15, 3) := by decide +kernel
theorem dX12_canLaugh_67 : decode cX12_canLaugh 67 = .ok (.aload_n 0, 1) := by decide +kernel
theorem dX12_canLaugh_68 : decode cX12_canLaugh 68 = .ok (.iload_n 3, 1) := by decide +kernel
theorem dX12_canLaugh_69 : decode cX12_canLaugh 69 = .ok (.iload 4, 2) := by decide +kernel
theorem dX12_canLaugh_71 : decode cX12_canLaugh 71 = .ok (.invokevirtual 269, 3) := by decide +kernel
theorem dX12_canLaugh_74 : decode cX12_canLaugh 74 = .ok (.ifCond .le 5, 3) := by decide +kernel
theorem dX12_canLaugh_77 : decode cX12_canLaugh 77 = .ok (.iconst 1, 1) := by decide +kernel
theorem dX12_canLaugh_78 : decode cX12_canLaugh 78 = .ok (.ireturn, 1) := by decide +kernel
theorem dX12_canLaugh_79 : decode cX12_canLaugh 79 = .ok (.iinc 4 1, 3) := by decide +kernel
theorem dX12_canLaugh_82 : decode cX12_canLaugh 82 = .ok (.goto (-67), 3) := by decide +kernel
theorem dX12_canLaugh_85 : decode cX12_canLaugh 85 = .ok (.iinc 3 1, 3) := by decide +kernel
theorem dX12_canLaugh_88 : decode cX12_canLaugh 88 = .ok (.goto (-86), 3) := by decide +kernel
theorem dX12_canLaugh_91 : decode cX12_canLaugh 91 = .ok (.iconst 0, 1) := by decide +kernel
theorem dX12_canLaugh_92 : decode cX12_canLaugh 92 = .ok (.ireturn, 1) := by decide +kernel
abbrev nd_X12_canLaugh : List Nat := [100, 101, 108, 109]
abbrev ld_X12_canLaugh : List (Nat × Nat) := [(100, 0), (100, 9), (100, 10)]
theorem sn_X12_canLaugh_X12_isFront : ∀ c ∈ nd_X12_isFront, c ∈ nd_X12_canLaugh := by decide
theorem sl_X12_canLaugh_X12_isFront : ∀ q ∈ ld_X12_isFront, q ∈ ld_X12_canLaugh := by decide
theorem sn_X12_canLaugh_X12_isEnd : ∀ c ∈ nd_X12_isEnd, c ∈ nd_X12_canLaugh := by decide
theorem sl_X12_canLaugh_X12_isEnd : ∀ q ∈ ld_X12_isEnd, q ∈ ld_X12_canLaugh := by decide
theorem sn_X12_canLaugh_X12_canBoth : ∀ c ∈ nd_X12_canBoth, c ∈ nd_X12_canLaugh := by decide
theorem sl_X12_canLaugh_X12_canBoth : ∀ q ∈ ld_X12_canBoth, q ∈ ld_X12_canLaugh := by decide
theorem sn_X12_canLaugh_X12_laughOf : ∀ c ∈ nd_X12_laughOf, c ∈ nd_X12_canLaugh := by decide
theorem sl_X12_canLaugh_X12_laughOf : ∀ q ∈ ld_X12_laughOf, q ∈ ld_X12_canLaugh := by decide
def f_X12_canLaugh_79 (k2 : Int32 → Int32 → Int32 → zH → zR) (k15 : Int32 → Int32 → Int32 → Int32 → zH → zR) (x1 : Int32) (x2 : Int32) (x3 : Int32) (x4 : Int32) (h : zH) : zR := (zlt (x4 + (1 : Int32)) fun y4 => (k15 x1 x2 x3 y4 h))
def f_X12_canLaugh_67 (k2 : Int32 → Int32 → Int32 → zH → zR) (k15 : Int32 → Int32 → Int32 → Int32 → zH → zR) (x1 : Int32) (x2 : Int32) (x3 : Int32) (x4 : Int32) (h : zH) : zR := (zbd (f_X12_laughOf x3 x4 h) fun r9 h10 => (if r9 ≤ 0 then (f_X12_canLaugh_79 k2 k15 x1 x2 x3 x4 h10) else (some ((1 : Int32), h10))))
def f_X12_canLaugh_15 (k2 : Int32 → Int32 → Int32 → zH → zR) : Nat → Int32 → Int32 → Int32 → Int32 → zH → zR
  | 0 => fun _ _ _ _ _ => none
  | n + 1 => fun x1 x2 x3 x4 h => (if (h 101 3) ≤ x4 then (zlt (x3 + (1 : Int32)) fun y1 => (k2 x1 x2 y1 h)) else (zbd (f_X12_isFront x3 h) fun r2 h3 => (if r2 = 0 then (f_X12_canLaugh_79 k2 (f_X12_canLaugh_15 k2 n) x1 x2 x3 x4 h3) else (zbd (f_X12_isEnd x4 h3) fun r5 h6 => (if r5 = 0 then (f_X12_canLaugh_79 k2 (f_X12_canLaugh_15 k2 n) x1 x2 x3 x4 h6) else (zbd (f_X12_canBoth x1 x2 x3 x4 h6) fun r7 h8 => (if r7 = 0 then (zbd (f_X12_canBoth x2 x1 x3 x4 h8) fun r11 h12 => (if r11 = 0 then (f_X12_canLaugh_79 k2 (f_X12_canLaugh_15 k2 n) x1 x2 x3 x4 h12) else (f_X12_canLaugh_67 k2 (f_X12_canLaugh_15 k2 n) x1 x2 x3 x4 h12))) else (f_X12_canLaugh_67 k2 (f_X12_canLaugh_15 k2 n) x1 x2 x3 x4 h8))))))))
def f_X12_canLaugh_2  : Nat → Int32 → Int32 → Int32 → zH → zR
  | 0 => fun _ _ _ _ => none
  | n + 1 => fun x1 x2 x3 h => (if (h 101 3) ≤ x3 then (some ((0 : Int32), h)) else (f_X12_canLaugh_15 (f_X12_canLaugh_2  n) zN x1 x2 x3 (0 : Int32) h))
def f_X12_canLaugh  (x1 : Int32) (x2 : Int32) (h : zH) : zR := (f_X12_canLaugh_2  zN x1 x2 (0 : Int32) h)
variable {p : Program} {l : Launch} {e : Env} {s : State} {m : MethodId} {args : Array Value} {below : List Frame} {meth : Method} {c : Code} {G : zG} {q : Int32 × zH}
set_option maxHeartbeats 4000000 in
set_option maxRecDepth 100000 in
theorem w_X12_canLaugh_79 {k2 : Int32 → Int32 → Int32 → zH → zR} {k15 : Int32 → Int32 → Int32 → Int32 → zH → zR} (C : zC G p s m args meth c cX12_canLaugh 5 RX12 (some .boolean)) (hm : ∀ c ∈ nd_X12_canLaugh, c ∈ znm G) (hk : ∀ q ∈ ld_X12_canLaugh, zlk G q.1 q.2 = true) (hk2 : ∀ (ls : Array Slot) (H : Heap) (locs : List Loc) (h : zH) (x1 : Int32) (x2 : Int32) (x3 : Int32), lv_has ls 5 [(0, .ref (zal G 100)), (1, .int x1), (2, .int x2), (3, .int x3)] → zS G h s.heap H locs → k2 x1 x2 x3 h = some q → W p l e (zrm (6)) s m args below meth c H locs 0 0 (MQ below (zQI G q.2 q.1) args s 0 0 (zA G)) (F0 m 2 ls [])) (hk15 : ∀ (ls : Array Slot) (H : Heap) (locs : List Loc) (h : zH) (x1 : Int32) (x2 : Int32) (x3 : Int32) (x4 : Int32), lv_has ls 5 [(0, .ref (zal G 100)), (1, .int x1), (2, .int x2), (3, .int x3), (4, .int x4)] → zS G h s.heap H locs → k15 x1 x2 x3 x4 h = some q → W p l e (zrm (6)) s m args below meth c H locs 0 0 (MQ below (zQI G q.2 q.1) args s 0 0 (zA G)) (F0 m 15 ls [])) : ∀ (ls : Array Slot) (H : Heap) (locs : List Loc) (h : zH) (x1 : Int32) (x2 : Int32) (x3 : Int32) (x4 : Int32), lv_has ls 5 [(0, .ref (zal G 100)), (1, .int x1), (2, .int x2), (3, .int x3), (4, .int x4)] → zS G h s.heap H locs → f_X12_canLaugh_79 k2 k15 x1 x2 x3 x4 h = some q → W p l e (zrm (6)) s m args below meth c H locs 0 0 (MQ below (zQI G q.2 q.1) args s 0 0 (zA G)) (F0 m 79 ls []) := by
  intro ls H locs h x1 x2 x3 x4 hl hS hf
  unfold f_X12_canLaugh_79 at hf
  obtain ⟨y4, ey4, hf⟩ := zlt_some hf
  refine lv_iinc (v := y4) (lv' := [(4, .int y4), (0, .ref (zal G 100)), (1, .int x1), (2, .int x2), (3, .int x3)]) C.1 C.2.1 dX12_canLaugh_79 hl (k := 4) rfl ey4.symm (by decide) rfl (fun ls hl => ?_)
  refine lv_goto (tgt := 15) C.1 C.2.1 dX12_canLaugh_82 (by decide) ?_
  exact hk15 _ _ _ _ _ _ _ _ (lv_sub hl [1, 2, 3, 4, 0] rfl) hS hf
set_option maxHeartbeats 4000000 in
set_option maxRecDepth 100000 in
theorem w_X12_canLaugh_67 {k2 : Int32 → Int32 → Int32 → zH → zR} {k15 : Int32 → Int32 → Int32 → Int32 → zH → zR} (C : zC G p s m args meth c cX12_canLaugh 5 RX12 (some .boolean)) (hm : ∀ c ∈ nd_X12_canLaugh, c ∈ znm G) (hk : ∀ q ∈ ld_X12_canLaugh, zlk G q.1 q.2 = true) (hk2 : ∀ (ls : Array Slot) (H : Heap) (locs : List Loc) (h : zH) (x1 : Int32) (x2 : Int32) (x3 : Int32), lv_has ls 5 [(0, .ref (zal G 100)), (1, .int x1), (2, .int x2), (3, .int x3)] → zS G h s.heap H locs → k2 x1 x2 x3 h = some q → W p l e (zrm (6)) s m args below meth c H locs 0 0 (MQ below (zQI G q.2 q.1) args s 0 0 (zA G)) (F0 m 2 ls [])) (hk15 : ∀ (ls : Array Slot) (H : Heap) (locs : List Loc) (h : zH) (x1 : Int32) (x2 : Int32) (x3 : Int32) (x4 : Int32), lv_has ls 5 [(0, .ref (zal G 100)), (1, .int x1), (2, .int x2), (3, .int x3), (4, .int x4)] → zS G h s.heap H locs → k15 x1 x2 x3 x4 h = some q → W p l e (zrm (6)) s m args below meth c H locs 0 0 (MQ below (zQI G q.2 q.1) args s 0 0 (zA G)) (F0 m 15 ls [])) : ∀ (ls : Array Slot) (H : Heap) (locs : List Loc) (h : zH) (x1 : Int32) (x2 : Int32) (x3 : Int32) (x4 : Int32), lv_has ls 5 [(0, .ref (zal G 100)), (1, .int x1), (2, .int x2), (3, .int x3), (4, .int x4)] → zS G h s.heap H locs → f_X12_canLaugh_67 k2 k15 x1 x2 x3 x4 h = some q → W p l e (zrm (6)) s m args below meth c H locs 0 0 (MQ below (zQI G q.2 q.1) args s 0 0 (zA G)) (F0 m 67 ls []) := by
  intro ls H locs h x1 x2 x3 x4 hl hS hf
  unfold f_X12_canLaugh_67 at hf
  refine lv_aload_n C.1 C.2.1 dX12_canLaugh_67 rfl (lv_at hl 0 rfl) ?_
  refine lv_iload_n C.1 C.2.1 dX12_canLaugh_68 rfl (lv_at hl 3 rfl) ?_
  refine lv_iload C.1 C.2.1 dX12_canLaugh_69 (lv_at hl 4 rfl) ?_
  obtain ⟨r9, h10, er9, hf⟩ := zbd_some hf
  refine zcallVI (As := [.int x3, .int x4]) (rest := []) C hS mv_X12_269 (c_X12_laughOf l G h x3 x4 (r9, h10) (fun c h => hm c (sn_X12_canLaugh_X12_laughOf c h)) (fun q h => hk q (sl_X12_canLaugh_X12_laughOf q h)) er9) (hm 100 (by decide)) ⟨_, _, _, sh_100, rfl, rfl⟩ rfl rfl (Nat.le_of_ble_eq_true rfl) hl.1 ⟨Nat.le_of_ble_eq_true rfl, Nat.le_of_ble_eq_true rfl, Nat.le_of_ble_eq_true rfl, Nat.le_of_ble_eq_true rfl⟩ dX12_canLaugh_71 (fun H locs hS => ?_)
  refine lv_if_le (tgt := 79) C.1 C.2.1 dX12_canLaugh_74 (by decide) (fun hc => ?_) (fun hc => ?_)
  · have hf := zif_t hc hf
    exact w_X12_canLaugh_79 C hm hk hk2 hk15 _ _ _ _ _ _ _ _ (lv_sub hl [0, 1, 2, 3, 4] rfl) hS hf
  · have hf := zif_f hc hf
    refine lv_iconst (v := (1 : Int32)) C.1 C.2.1 dX12_canLaugh_77 rfl ?_
    exact zretZ C hS rfl hf dX12_canLaugh_78
set_option maxHeartbeats 4000000 in
set_option maxRecDepth 100000 in
theorem w_X12_canLaugh_15 {k2 : Int32 → Int32 → Int32 → zH → zR} (C : zC G p s m args meth c cX12_canLaugh 5 RX12 (some .boolean)) (hm : ∀ c ∈ nd_X12_canLaugh, c ∈ znm G) (hk : ∀ q ∈ ld_X12_canLaugh, zlk G q.1 q.2 = true) (hk2 : ∀ (ls : Array Slot) (H : Heap) (locs : List Loc) (h : zH) (x1 : Int32) (x2 : Int32) (x3 : Int32), lv_has ls 5 [(0, .ref (zal G 100)), (1, .int x1), (2, .int x2), (3, .int x3)] → zS G h s.heap H locs → k2 x1 x2 x3 h = some q → W p l e (zrm (6)) s m args below meth c H locs 0 0 (MQ below (zQI G q.2 q.1) args s 0 0 (zA G)) (F0 m 2 ls [])) : ∀ n, ∀ (ls : Array Slot) (H : Heap) (locs : List Loc) (h : zH) (x1 : Int32) (x2 : Int32) (x3 : Int32) (x4 : Int32), lv_has ls 5 [(0, .ref (zal G 100)), (1, .int x1), (2, .int x2), (3, .int x3), (4, .int x4)] → zS G h s.heap H locs → f_X12_canLaugh_15 k2 n x1 x2 x3 x4 h = some q → W p l e (zrm (6)) s m args below meth c H locs 0 0 (MQ below (zQI G q.2 q.1) args s 0 0 (zA G)) (F0 m 15 ls []) := by
  intro n
  induction n with
  | zero => intro ls H locs h x1 x2 x3 x4 hl hS hf; cases hf
  | succ n ih =>
    intro ls H locs h x1 x2 x3 x4 hl hS hf
    rw [f_X12_canLaugh_15] at hf
    refine lv_iload C.1 C.2.1 dX12_canLaugh_15 (lv_at hl 4 rfl) ?_
    refine lv_aload_n C.1 C.2.1 dX12_canLaugh_17 rfl (lv_at hl 0 rfl) ?_
    refine zgetR C hS ff_X12_7_100 (hm 100 (by decide)) (hk (100, 0) (by decide)) dX12_canLaugh_18 ?_
    refine lv_iconst (v := (3 : Int32)) C.1 C.2.1 dX12_canLaugh_21 rfl ?_
    refine zald C hS sh_101 (hm 101 (by decide)) (vp_in_iff.mpr (by decide)) dX12_canLaugh_22 ?_
    refine lv_icmp_ge (tgt := 85) C.1 C.2.1 dX12_canLaugh_23 (by decide) (fun hc => ?_) (fun hc => ?_)
    · have hf := zif_t hc hf
      obtain ⟨y1, ey1, hf⟩ := zlt_some hf
      refine lv_iinc (v := y1) (lv' := [(3, .int y1), (0, .ref (zal G 100)), (1, .int x1), (2, .int x2), (4, .int x4)]) C.1 C.2.1 dX12_canLaugh_85 hl (k := 3) rfl ey1.symm (by decide) rfl (fun ls hl => ?_)
      refine lv_goto (tgt := 2) C.1 C.2.1 dX12_canLaugh_88 (by decide) ?_
      exact hk2 _ _ _ _ _ _ _ (lv_sub hl [1, 2, 3, 0] rfl) hS hf
    · have hf := zif_f hc hf
      refine lv_aload_n C.1 C.2.1 dX12_canLaugh_26 rfl (lv_at hl 0 rfl) ?_
      refine lv_iload_n C.1 C.2.1 dX12_canLaugh_27 rfl (lv_at hl 3 rfl) ?_
      obtain ⟨r2, h3, er2, hf⟩ := zbd_some hf
      refine zcallVI (As := [.int x3]) (rest := []) C hS mv_X12_259 (c_X12_isFront l G h x3 (r2, h3) (fun c h => hm c (sn_X12_canLaugh_X12_isFront c h)) (fun q h => hk q (sl_X12_canLaugh_X12_isFront q h)) er2) (hm 100 (by decide)) ⟨_, _, _, sh_100, rfl, rfl⟩ rfl rfl (Nat.le_of_ble_eq_true rfl) hl.1 ⟨Nat.le_of_ble_eq_true rfl, Nat.le_of_ble_eq_true rfl, Nat.le_of_ble_eq_true rfl, Nat.le_of_ble_eq_true rfl⟩ dX12_canLaugh_28 (fun H locs hS => ?_)
      refine lv_if_eq (tgt := 79) C.1 C.2.1 dX12_canLaugh_31 (by decide) (fun hc => ?_) (fun hc => ?_)
      · have hf := zif_t hc hf
        exact w_X12_canLaugh_79 C hm hk hk2 ih _ _ _ _ _ _ _ _ (lv_sub hl [0, 1, 2, 3, 4] rfl) hS hf
      · have hf := zif_f hc hf
        refine lv_aload_n C.1 C.2.1 dX12_canLaugh_34 rfl (lv_at hl 0 rfl) ?_
        refine lv_iload C.1 C.2.1 dX12_canLaugh_35 (lv_at hl 4 rfl) ?_
        obtain ⟨r5, h6, er5, hf⟩ := zbd_some hf
        refine zcallVI (As := [.int x4]) (rest := []) C hS mv_X12_262 (c_X12_isEnd l G h3 x4 (r5, h6) (fun c h => hm c (sn_X12_canLaugh_X12_isEnd c h)) (fun q h => hk q (sl_X12_canLaugh_X12_isEnd q h)) er5) (hm 100 (by decide)) ⟨_, _, _, sh_100, rfl, rfl⟩ rfl rfl (Nat.le_of_ble_eq_true rfl) hl.1 ⟨Nat.le_of_ble_eq_true rfl, Nat.le_of_ble_eq_true rfl, Nat.le_of_ble_eq_true rfl, Nat.le_of_ble_eq_true rfl⟩ dX12_canLaugh_37 (fun H locs hS => ?_)
        refine lv_if_eq (tgt := 79) C.1 C.2.1 dX12_canLaugh_40 (by decide) (fun hc => ?_) (fun hc => ?_)
        · have hf := zif_t hc hf
          exact w_X12_canLaugh_79 C hm hk hk2 ih _ _ _ _ _ _ _ _ (lv_sub hl [0, 1, 2, 3, 4] rfl) hS hf
        · have hf := zif_f hc hf
          refine lv_aload_n C.1 C.2.1 dX12_canLaugh_43 rfl (lv_at hl 0 rfl) ?_
          refine lv_iload_n C.1 C.2.1 dX12_canLaugh_44 rfl (lv_at hl 1 rfl) ?_
          refine lv_iload_n C.1 C.2.1 dX12_canLaugh_45 rfl (lv_at hl 2 rfl) ?_
          refine lv_iload_n C.1 C.2.1 dX12_canLaugh_46 rfl (lv_at hl 3 rfl) ?_
          refine lv_iload C.1 C.2.1 dX12_canLaugh_47 (lv_at hl 4 rfl) ?_
          obtain ⟨r7, h8, er7, hf⟩ := zbd_some hf
          refine zcallVI (As := [.int x1, .int x2, .int x3, .int x4]) (rest := []) C hS mv_X12_265 (c_X12_canBoth l G h6 x1 x2 x3 x4 (r7, h8) (fun c h => hm c (sn_X12_canLaugh_X12_canBoth c h)) (fun q h => hk q (sl_X12_canLaugh_X12_canBoth q h)) er7) (hm 100 (by decide)) ⟨_, _, _, sh_100, rfl, rfl⟩ rfl rfl (Nat.le_of_ble_eq_true rfl) hl.1 ⟨Nat.le_of_ble_eq_true rfl, Nat.le_of_ble_eq_true rfl, Nat.le_of_ble_eq_true rfl, Nat.le_of_ble_eq_true rfl⟩ dX12_canLaugh_49 (fun H locs hS => ?_)
          refine lv_if_ne (tgt := 67) C.1 C.2.1 dX12_canLaugh_52 (by decide) (fun hc => ?_) (fun hc => ?_)
          · have hf := zif_f hc hf
            exact w_X12_canLaugh_67 C hm hk hk2 ih _ _ _ _ _ _ _ _ (lv_sub hl [0, 1, 2, 3, 4] rfl) hS hf
          · have hf := zif_t hc hf
            refine lv_aload_n C.1 C.2.1 dX12_canLaugh_55 rfl (lv_at hl 0 rfl) ?_
            refine lv_iload_n C.1 C.2.1 dX12_canLaugh_56 rfl (lv_at hl 2 rfl) ?_
            refine lv_iload_n C.1 C.2.1 dX12_canLaugh_57 rfl (lv_at hl 1 rfl) ?_
            refine lv_iload_n C.1 C.2.1 dX12_canLaugh_58 rfl (lv_at hl 3 rfl) ?_
            refine lv_iload C.1 C.2.1 dX12_canLaugh_59 (lv_at hl 4 rfl) ?_
            obtain ⟨r11, h12, er11, hf⟩ := zbd_some hf
            refine zcallVI (As := [.int x2, .int x1, .int x3, .int x4]) (rest := []) C hS mv_X12_265 (c_X12_canBoth l G h8 x2 x1 x3 x4 (r11, h12) (fun c h => hm c (sn_X12_canLaugh_X12_canBoth c h)) (fun q h => hk q (sl_X12_canLaugh_X12_canBoth q h)) er11) (hm 100 (by decide)) ⟨_, _, _, sh_100, rfl, rfl⟩ rfl rfl (Nat.le_of_ble_eq_true rfl) hl.1 ⟨Nat.le_of_ble_eq_true rfl, Nat.le_of_ble_eq_true rfl, Nat.le_of_ble_eq_true rfl, Nat.le_of_ble_eq_true rfl⟩ dX12_canLaugh_61 (fun H locs hS => ?_)
            refine lv_if_eq (tgt := 79) C.1 C.2.1 dX12_canLaugh_64 (by decide) (fun hc => ?_) (fun hc => ?_)
            · have hf := zif_t hc hf
              exact w_X12_canLaugh_79 C hm hk hk2 ih _ _ _ _ _ _ _ _ (lv_sub hl [0, 1, 2, 3, 4] rfl) hS hf
            · have hf := zif_f hc hf
              exact w_X12_canLaugh_67 C hm hk hk2 ih _ _ _ _ _ _ _ _ (lv_sub hl [0, 1, 2, 3, 4] rfl) hS hf
set_option maxHeartbeats 4000000 in
set_option maxRecDepth 100000 in
theorem w_X12_canLaugh_2  (C : zC G p s m args meth c cX12_canLaugh 5 RX12 (some .boolean)) (hm : ∀ c ∈ nd_X12_canLaugh, c ∈ znm G) (hk : ∀ q ∈ ld_X12_canLaugh, zlk G q.1 q.2 = true)  : ∀ n, ∀ (ls : Array Slot) (H : Heap) (locs : List Loc) (h : zH) (x1 : Int32) (x2 : Int32) (x3 : Int32), lv_has ls 5 [(0, .ref (zal G 100)), (1, .int x1), (2, .int x2), (3, .int x3)] → zS G h s.heap H locs → f_X12_canLaugh_2  n x1 x2 x3 h = some q → W p l e (zrm (6)) s m args below meth c H locs 0 0 (MQ below (zQI G q.2 q.1) args s 0 0 (zA G)) (F0 m 2 ls []) := by
  intro n
  induction n with
  | zero => intro ls H locs h x1 x2 x3 hl hS hf; cases hf
  | succ n ih =>
    intro ls H locs h x1 x2 x3 hl hS hf
    rw [f_X12_canLaugh_2] at hf
    refine lv_iload_n C.1 C.2.1 dX12_canLaugh_2 rfl (lv_at hl 3 rfl) ?_
    refine lv_aload_n C.1 C.2.1 dX12_canLaugh_3 rfl (lv_at hl 0 rfl) ?_
    refine zgetR C hS ff_X12_7_100 (hm 100 (by decide)) (hk (100, 0) (by decide)) dX12_canLaugh_4 ?_
    refine lv_iconst (v := (3 : Int32)) C.1 C.2.1 dX12_canLaugh_7 rfl ?_
    refine zald C hS sh_101 (hm 101 (by decide)) (vp_in_iff.mpr (by decide)) dX12_canLaugh_8 ?_
    refine lv_icmp_ge (tgt := 91) C.1 C.2.1 dX12_canLaugh_9 (by decide) (fun hc => ?_) (fun hc => ?_)
    · have hf := zif_t hc hf
      refine lv_iconst (v := (0 : Int32)) C.1 C.2.1 dX12_canLaugh_91 rfl ?_
      exact zretZ C hS rfl hf dX12_canLaugh_92
    · have hf := zif_f hc hf
      refine lv_iconst (v := (0 : Int32)) C.1 C.2.1 dX12_canLaugh_12 rfl ?_
      refine lv_istore (lv' := [(4, .int (0 : Int32)), (0, .ref (zal G 100)), (1, .int x1), (2, .int x2), (3, .int x3)]) C.1 C.2.1 dX12_canLaugh_13 hl (by decide) rfl (fun ls hl => ?_)
      exact w_X12_canLaugh_15 C hm hk ih zN _ _ _ _ _ _ _ _ (lv_sub hl [1, 2, 3, 4, 0] rfl) hS hf
set_option maxHeartbeats 4000000 in
set_option maxRecDepth 100000 in
theorem c_X12_canLaugh (l : Launch) (G : zG) (h : zH) (x1 : Int32) (x2 : Int32) (q : Int32 × zH) (hm : ∀ c ∈ nd_X12_canLaugh, c ∈ znm G) (hk : ∀ q ∈ ld_X12_canLaugh, zlk G q.1 q.2 = true) (hf : f_X12_canLaugh x1 x2 h = some q) : zCtI l yX12_canLaugh cX12_canLaugh 5 (some .boolean) (6) [.ref (zal G 100), .int x1, .int x2] G h q.2 q.1 := by
  refine zMetI (by decide) (Nat.le_of_ble_eq_true rfl) ?_
  intro p e s m below meth c ls C hl hS
  have hl : lv_has ls 5 [(0, .ref (zal G 100)), (1, .int x1), (2, .int x2)] := hl
  have C : zC G p s m [.ref (zal G 100), .int x1, .int x2].toArray meth c cX12_canLaugh 5 RX12 (some .boolean) := C
  unfold f_X12_canLaugh at hf
  refine lv_iconst (v := (0 : Int32)) C.1 C.2.1 dX12_canLaugh_0 rfl ?_
  refine lv_istore_n (lv' := [(3, .int (0 : Int32)), (0, .ref (zal G 100)), (1, .int x1), (2, .int x2)]) C.1 C.2.1 dX12_canLaugh_1 rfl hl (by decide) rfl (fun ls hl => ?_)
  exact w_X12_canLaugh_2 C hm hk  zN _ _ _ _ _ _ _ (lv_sub hl [1, 2, 3, 0] rfl) hS hf
end
section
theorem dX12_silent_0 : decode cX12_silent 0 = .ok (.iload_n 1, 1) := by decide +kernel
theorem dX12_silent_1 : decode cX12_silent 1 = .ok (.invokestatic 81, 3) := by decide +kernel
theorem dX12_silent_4 : decode cX12_silent 4 = .ok (.ifCond .ne 5, 3) := by decide +kernel
theorem dX12_silent_7 : decode cX12_silent 7 = .ok (.iconst (-1), 1) := by decide +kernel
theorem dX12_silent_8 : decode cX12_silent 8 = .ok (.ireturn, 1) := by decide +kernel
theorem dX12_silent_9 : decode cX12_silent 9 = .ok (.iconst 0, 1) := by decide +kernel
theorem dX12_silent_10 : decode cX12_silent 10 = .ok (.istore_n 2, 1) := by decide +kernel
theorem dX12_silent_11 : decode cX12_silent 11 = .ok (.iconst 0, 1) := by decide +kernel
theorem dX12_silent_12 : decode cX12_silent 12 = .ok (.istore_n 3, 1) := by decide +kernel
theorem dX12_silent_13 : decode cX12_silent 13 = .ok (.iload_n 3, 1) := by decide +kernel
theorem dX12_silent_14 : decode cX12_silent 14 = .ok (.bipush 6, 2) := by decide +kernel
theorem dX12_silent_16 : decode cX12_silent 16 = .ok (.if_icmp .ge 50, 3) := by decide +kernel
theorem dX12_silent_19 : decode cX12_silent 19 = .ok (.iload_n 2, 1) := by decide +kernel
theorem dX12_silent_20 : decode cX12_silent 20 = .ok (.iload_n 3, 1) := by decide +kernel
theorem dX12_silent_21 : decode cX12_silent 21 = .ok (.iload_n 1, 1) := by decide +kernel
theorem dX12_silent_22 : decode cX12_silent 22 = .ok (.if_icmp .eq 35, 3) := by decide +kernel
theorem dX12_silent_25 : decode cX12_silent 25 = .ok (.aload_n 0, 1) := by decide +kernel
theorem dX12_silent_26 : decode cX12_silent 26 = .ok (.getfield 7, 3) := by decide +kernel
theorem dX12_silent_29 : decode cX12_silent 29 = .ok (.bipush 10, 2) := by decide +kernel
theorem dX12_silent_31 : decode cX12_silent 31 = .ok (.iload_n 1, 1) := by decide +kernel
theorem dX12_silent_32 : decode cX12_silent 32 = .ok (.iadd, 1) := by decide +kernel
theorem dX12_silent_33 : decode cX12_silent 33 = .ok (.iaload, 1) := by decide +kernel
theorem dX12_silent_34 : decode cX12_silent 34 = .ok (.iload_n 3, 1) := by decide +kernel
theorem dX12_silent_35 : decode cX12_silent 35 = .ok (.ishr, 1) := by decide +kernel
theorem dX12_silent_36 : decode cX12_silent 36 = .ok (.iconst 1, 1) := by decide +kernel
theorem dX12_silent_37 : decode cX12_silent 37 = .ok (.iand, 1) := by decide +kernel
theorem dX12_silent_38 : decode cX12_silent 38 = .ok (.iconst 1, 1) := by decide +kernel
theorem dX12_silent_39 : decode cX12_silent 39 = .ok (.if_icmp .eq 12, 3) := by decide +kernel
theorem dX12_silent_42 : decode cX12_silent 42 = .ok (.aload_n 0, 1) := by decide +kernel
theorem dX12_silent_43 : decode cX12_silent 43 = .ok (.iload_n 1, 1) := by decide +kernel
theorem dX12_silent_44 : decode cX12_silent 44 = .ok (.iload_n 3, 1) := by decide +kernel
theorem dX12_silent_45 : decode cX12_silent 45 = .ok (.invokevirtual 332, 3) := by decide +kernel
theorem dX12_silent_48 : decode cX12_silent 48 = .ok (.ifCond .ne 9, 3) := by decide +kernel
theorem dX12_silent_51 : decode cX12_silent 51 = .ok (.iconst 1, 1) := by decide +kernel
theorem dX12_silent_52 : decode cX12_silent 52 = .ok (.iload_n 3, 1) := by decide +kernel
theorem dX12_silent_53 : decode cX12_silent 53 = .ok (.ishl, 1) := by decide +kernel
theorem dX12_silent_54 : decode cX12_silent 54 = .ok (.goto 4, 3) := by decide +kernel
theorem dX12_silent_57 : decode cX12_silent 57 = .ok (.iconst 0, 1) := by decide +kernel
theorem dX12_silent_58 : decode cX12_silent 58 = .ok (.ior, 1) := by decide +kernel
theorem dX12_silent_59 : decode cX12_silent 59 = .ok (.istore_n 2, 1) := by decide +kernel
theorem dX12_silent_60 : decode cX12_silent 60 = .ok (.iinc 3 1, 3) := by decide +kernel
theorem dX12_silent_63 : decode cX12_silent 63 = .ok (.goto (-50), 3) := by decide +kernel
theorem dX12_silent_66 : decode cX12_silent 66 = .ok (.iload_n 2, 1) := by decide +kernel
theorem dX12_silent_67 : decode cX12_silent 67 = .ok (.ireturn, 1) := by decide +kernel
abbrev nd_X12_silent : List Nat := [100, 101, 108, 109]
abbrev ld_X12_silent : List (Nat × Nat) := [(100, 0), (100, 9), (100, 10)]
theorem sn_X12_silent_X12_isFamily : ∀ c ∈ nd_X12_isFamily, c ∈ nd_X12_silent := by decide
theorem sl_X12_silent_X12_isFamily : ∀ q ∈ ld_X12_isFamily, q ∈ ld_X12_silent := by decide
theorem sn_X12_silent_X12_canLaugh : ∀ c ∈ nd_X12_canLaugh, c ∈ nd_X12_silent := by decide
theorem sl_X12_silent_X12_canLaugh : ∀ q ∈ ld_X12_canLaugh, q ∈ ld_X12_silent := by decide
def f_X12_silent_58 (k13 : Int32 → Int32 → Int32 → zH → zR) (x1 : Int32) (x3 : Int32) (s0 : Int32) (s1 : Int32) (h : zH) : zR := (zlt (s1 ||| s0) fun y3 => (zlt (x3 + (1 : Int32)) fun y4 => (k13 x1 y3 y4 h)))
def f_X12_silent_57 (k13 : Int32 → Int32 → Int32 → zH → zR) (x1 : Int32) (x3 : Int32) (s0 : Int32) (h : zH) : zR := (f_X12_silent_58 k13 x1 x3 (0 : Int32) s0 h)
def f_X12_silent_51 (k13 : Int32 → Int32 → Int32 → zH → zR) (x1 : Int32) (x3 : Int32) (s0 : Int32) (h : zH) : zR := (f_X12_silent_58 k13 x1 x3 ((1 : Int32) <<< (x3 &&& 31)) s0 h)
def f_X12_silent_13  : Nat → Int32 → Int32 → Int32 → zH → zR
  | 0 => fun _ _ _ _ => none
  | n + 1 => fun x1 x2 x3 h => (if (6 : Int32) ≤ x3 then (some (x2, h)) else (if x3 = x1 then (f_X12_silent_57 (f_X12_silent_13  n) x1 x3 x2 h) else (zck ((10 : Int32) + x1) 2220 (if (((h 101 (Int32.toNatClampNeg ((10 : Int32) + x1))) >>> (x3 &&& 31)) &&& (1 : Int32)) = (1 : Int32) then (f_X12_silent_51 (f_X12_silent_13  n) x1 x3 x2 h) else (zbd (f_X12_canLaugh x1 x3 h) fun r5 h6 => (if r5 = 0 then (f_X12_silent_51 (f_X12_silent_13  n) x1 x3 x2 h6) else (f_X12_silent_57 (f_X12_silent_13  n) x1 x3 x2 h6)))))))
def f_X12_silent  (x1 : Int32) (h : zH) : zR := (zbd (f_X12_isFamily x1 h) fun r1 h2 => (if r1 = 0 then (some ((-1 : Int32), h2)) else (f_X12_silent_13  zN x1 (0 : Int32) (0 : Int32) h2)))
variable {p : Program} {l : Launch} {e : Env} {s : State} {m : MethodId} {args : Array Value} {below : List Frame} {meth : Method} {c : Code} {G : zG} {q : Int32 × zH}
set_option maxHeartbeats 4000000 in
set_option maxRecDepth 100000 in
theorem w_X12_silent_58 {k13 : Int32 → Int32 → Int32 → zH → zR} (C : zC G p s m args meth c cX12_silent 4 RX12 (some .int)) (hm : ∀ c ∈ nd_X12_silent, c ∈ znm G) (hk : ∀ q ∈ ld_X12_silent, zlk G q.1 q.2 = true) (hk13 : ∀ (ls : Array Slot) (H : Heap) (locs : List Loc) (h : zH) (x1 : Int32) (x2 : Int32) (x3 : Int32), lv_has ls 4 [(0, .ref (zal G 100)), (1, .int x1), (2, .int x2), (3, .int x3)] → zS G h s.heap H locs → k13 x1 x2 x3 h = some q → W p l e (zrm (7)) s m args below meth c H locs 0 0 (MQ below (zQI G q.2 q.1) args s 0 0 (zA G)) (F0 m 13 ls [])) : ∀ (ls : Array Slot) (H : Heap) (locs : List Loc) (h : zH) (x1 : Int32) (x3 : Int32) (s0 : Int32) (s1 : Int32), lv_has ls 4 [(0, .ref (zal G 100)), (1, .int x1), (3, .int x3)] → zS G h s.heap H locs → f_X12_silent_58 k13 x1 x3 s0 s1 h = some q → W p l e (zrm (7)) s m args below meth c H locs 0 0 (MQ below (zQI G q.2 q.1) args s 0 0 (zA G)) (F0 m 58 ls [.int s0, .int s1]) := by
  intro ls H locs h x1 x3 s0 s1 hl hS hf
  unfold f_X12_silent_58 at hf
  refine lv_ior C.1 C.2.1 dX12_silent_58 ?_
  obtain ⟨y3, ey3, hf⟩ := zlt_some hf
  refine ztop ey3 ?_
  refine lv_istore_n (lv' := [(2, .int y3), (0, .ref (zal G 100)), (1, .int x1), (3, .int x3)]) C.1 C.2.1 dX12_silent_59 rfl hl (by decide) rfl (fun ls hl => ?_)
  obtain ⟨y4, ey4, hf⟩ := zlt_some hf
  refine lv_iinc (v := y4) (lv' := [(3, .int y4), (2, .int y3), (0, .ref (zal G 100)), (1, .int x1)]) C.1 C.2.1 dX12_silent_60 hl (k := 3) rfl ey4.symm (by decide) rfl (fun ls hl => ?_)
  refine lv_goto (tgt := 13) C.1 C.2.1 dX12_silent_63 (by decide) ?_
  exact hk13 _ _ _ _ _ _ _ (lv_sub hl [2, 3, 1, 0] rfl) hS hf
set_option maxHeartbeats 4000000 in
set_option maxRecDepth 100000 in
theorem w_X12_silent_57 {k13 : Int32 → Int32 → Int32 → zH → zR} (C : zC G p s m args meth c cX12_silent 4 RX12 (some .int)) (hm : ∀ c ∈ nd_X12_silent, c ∈ znm G) (hk : ∀ q ∈ ld_X12_silent, zlk G q.1 q.2 = true) (hk13 : ∀ (ls : Array Slot) (H : Heap) (locs : List Loc) (h : zH) (x1 : Int32) (x2 : Int32) (x3 : Int32), lv_has ls 4 [(0, .ref (zal G 100)), (1, .int x1), (2, .int x2), (3, .int x3)] → zS G h s.heap H locs → k13 x1 x2 x3 h = some q → W p l e (zrm (7)) s m args below meth c H locs 0 0 (MQ below (zQI G q.2 q.1) args s 0 0 (zA G)) (F0 m 13 ls [])) : ∀ (ls : Array Slot) (H : Heap) (locs : List Loc) (h : zH) (x1 : Int32) (x3 : Int32) (s0 : Int32), lv_has ls 4 [(0, .ref (zal G 100)), (1, .int x1), (3, .int x3)] → zS G h s.heap H locs → f_X12_silent_57 k13 x1 x3 s0 h = some q → W p l e (zrm (7)) s m args below meth c H locs 0 0 (MQ below (zQI G q.2 q.1) args s 0 0 (zA G)) (F0 m 57 ls [.int s0]) := by
  intro ls H locs h x1 x3 s0 hl hS hf
  unfold f_X12_silent_57 at hf
  refine lv_iconst (v := (0 : Int32)) C.1 C.2.1 dX12_silent_57 rfl ?_
  exact w_X12_silent_58 C hm hk hk13 _ _ _ _ _ _ _ _ (lv_sub hl [0, 1, 2] rfl) hS hf
set_option maxHeartbeats 4000000 in
set_option maxRecDepth 100000 in
theorem w_X12_silent_51 {k13 : Int32 → Int32 → Int32 → zH → zR} (C : zC G p s m args meth c cX12_silent 4 RX12 (some .int)) (hm : ∀ c ∈ nd_X12_silent, c ∈ znm G) (hk : ∀ q ∈ ld_X12_silent, zlk G q.1 q.2 = true) (hk13 : ∀ (ls : Array Slot) (H : Heap) (locs : List Loc) (h : zH) (x1 : Int32) (x2 : Int32) (x3 : Int32), lv_has ls 4 [(0, .ref (zal G 100)), (1, .int x1), (2, .int x2), (3, .int x3)] → zS G h s.heap H locs → k13 x1 x2 x3 h = some q → W p l e (zrm (7)) s m args below meth c H locs 0 0 (MQ below (zQI G q.2 q.1) args s 0 0 (zA G)) (F0 m 13 ls [])) : ∀ (ls : Array Slot) (H : Heap) (locs : List Loc) (h : zH) (x1 : Int32) (x3 : Int32) (s0 : Int32), lv_has ls 4 [(0, .ref (zal G 100)), (1, .int x1), (3, .int x3)] → zS G h s.heap H locs → f_X12_silent_51 k13 x1 x3 s0 h = some q → W p l e (zrm (7)) s m args below meth c H locs 0 0 (MQ below (zQI G q.2 q.1) args s 0 0 (zA G)) (F0 m 51 ls [.int s0]) := by
  intro ls H locs h x1 x3 s0 hl hS hf
  unfold f_X12_silent_51 at hf
  refine lv_iconst (v := (1 : Int32)) C.1 C.2.1 dX12_silent_51 rfl ?_
  refine lv_iload_n C.1 C.2.1 dX12_silent_52 rfl (lv_at hl 2 rfl) ?_
  refine lv_ishl C.1 C.2.1 dX12_silent_53 ?_
  refine lv_goto (tgt := 58) C.1 C.2.1 dX12_silent_54 (by decide) ?_
  exact w_X12_silent_58 C hm hk hk13 _ _ _ _ _ _ _ _ (lv_sub hl [0, 1, 2] rfl) hS hf
set_option maxHeartbeats 4000000 in
set_option maxRecDepth 100000 in
theorem w_X12_silent_13  (C : zC G p s m args meth c cX12_silent 4 RX12 (some .int)) (hm : ∀ c ∈ nd_X12_silent, c ∈ znm G) (hk : ∀ q ∈ ld_X12_silent, zlk G q.1 q.2 = true)  : ∀ n, ∀ (ls : Array Slot) (H : Heap) (locs : List Loc) (h : zH) (x1 : Int32) (x2 : Int32) (x3 : Int32), lv_has ls 4 [(0, .ref (zal G 100)), (1, .int x1), (2, .int x2), (3, .int x3)] → zS G h s.heap H locs → f_X12_silent_13  n x1 x2 x3 h = some q → W p l e (zrm (7)) s m args below meth c H locs 0 0 (MQ below (zQI G q.2 q.1) args s 0 0 (zA G)) (F0 m 13 ls []) := by
  intro n
  induction n with
  | zero => intro ls H locs h x1 x2 x3 hl hS hf; cases hf
  | succ n ih =>
    intro ls H locs h x1 x2 x3 hl hS hf
    rw [f_X12_silent_13] at hf
    refine lv_iload_n C.1 C.2.1 dX12_silent_13 rfl (lv_at hl 3 rfl) ?_
    refine lv_bipush (v := (6 : Int32)) C.1 C.2.1 dX12_silent_14 rfl ?_
    refine lv_icmp_ge (tgt := 66) C.1 C.2.1 dX12_silent_16 (by decide) (fun hc => ?_) (fun hc => ?_)
    · have hf := zif_t hc hf
      refine lv_iload_n C.1 C.2.1 dX12_silent_66 rfl (lv_at hl 2 rfl) ?_
      exact zretI C hS hf dX12_silent_67
    · have hf := zif_f hc hf
      refine lv_iload_n C.1 C.2.1 dX12_silent_19 rfl (lv_at hl 2 rfl) ?_
      refine lv_iload_n C.1 C.2.1 dX12_silent_20 rfl (lv_at hl 3 rfl) ?_
      refine lv_iload_n C.1 C.2.1 dX12_silent_21 rfl (lv_at hl 1 rfl) ?_
      refine lv_icmp_eq (tgt := 57) C.1 C.2.1 dX12_silent_22 (by decide) (fun hc => ?_) (fun hc => ?_)
      · have hf := zif_t hc hf
        exact w_X12_silent_57 C hm hk ih _ _ _ _ _ _ _ (lv_sub hl [0, 1, 3] rfl) hS hf
      · have hf := zif_f hc hf
        refine lv_aload_n C.1 C.2.1 dX12_silent_25 rfl (lv_at hl 0 rfl) ?_
        refine zgetR C hS ff_X12_7_100 (hm 100 (by decide)) (hk (100, 0) (by decide)) dX12_silent_26 ?_
        refine lv_bipush (v := (10 : Int32)) C.1 C.2.1 dX12_silent_29 rfl ?_
        refine lv_iload_n C.1 C.2.1 dX12_silent_31 rfl (lv_at hl 1 rfl) ?_
        refine lv_iadd C.1 C.2.1 dX12_silent_32 ?_
        obtain ⟨hi, hf⟩ := zck_some hf
        refine zald C hS sh_101 (hm 101 (by decide)) hi dX12_silent_33 ?_
        refine lv_iload_n C.1 C.2.1 dX12_silent_34 rfl (lv_at hl 3 rfl) ?_
        refine lv_ishr C.1 C.2.1 dX12_silent_35 ?_
        refine lv_iconst (v := (1 : Int32)) C.1 C.2.1 dX12_silent_36 rfl ?_
        refine lv_iand C.1 C.2.1 dX12_silent_37 ?_
        refine lv_iconst (v := (1 : Int32)) C.1 C.2.1 dX12_silent_38 rfl ?_
        refine lv_icmp_eq (tgt := 51) C.1 C.2.1 dX12_silent_39 (by decide) (fun hc => ?_) (fun hc => ?_)
        · have hf := zif_t hc hf
          exact w_X12_silent_51 C hm hk ih _ _ _ _ _ _ _ (lv_sub hl [0, 1, 3] rfl) hS hf
        · have hf := zif_f hc hf
          refine lv_aload_n C.1 C.2.1 dX12_silent_42 rfl (lv_at hl 0 rfl) ?_
          refine lv_iload_n C.1 C.2.1 dX12_silent_43 rfl (lv_at hl 1 rfl) ?_
          refine lv_iload_n C.1 C.2.1 dX12_silent_44 rfl (lv_at hl 3 rfl) ?_
          obtain ⟨r5, h6, er5, hf⟩ := zbd_some hf
          refine zcallVI (As := [.int x1, .int x3]) (rest := [.int x2]) C hS mv_X12_332 (c_X12_canLaugh l G h x1 x3 (r5, h6) (fun c h => hm c (sn_X12_silent_X12_canLaugh c h)) (fun q h => hk q (sl_X12_silent_X12_canLaugh q h)) er5) (hm 100 (by decide)) ⟨_, _, _, sh_100, rfl, rfl⟩ rfl rfl (Nat.le_of_ble_eq_true rfl) hl.1 ⟨Nat.le_of_ble_eq_true rfl, Nat.le_of_ble_eq_true rfl, Nat.le_of_ble_eq_true rfl, Nat.le_of_ble_eq_true rfl⟩ dX12_silent_45 (fun H locs hS => ?_)
          refine lv_if_ne (tgt := 57) C.1 C.2.1 dX12_silent_48 (by decide) (fun hc => ?_) (fun hc => ?_)
          · have hf := zif_f hc hf
            exact w_X12_silent_57 C hm hk ih _ _ _ _ _ _ _ (lv_sub hl [0, 1, 3] rfl) hS hf
          · have hf := zif_t hc hf
            exact w_X12_silent_51 C hm hk ih _ _ _ _ _ _ _ (lv_sub hl [0, 1, 3] rfl) hS hf
set_option maxHeartbeats 4000000 in
set_option maxRecDepth 100000 in
theorem c_X12_silent (l : Launch) (G : zG) (h : zH) (x1 : Int32) (q : Int32 × zH) (hm : ∀ c ∈ nd_X12_silent, c ∈ znm G) (hk : ∀ q ∈ ld_X12_silent, zlk G q.1 q.2 = true) (hf : f_X12_silent x1 h = some q) : zCtI l yX12_silent cX12_silent 4 (some .int) (7) [.ref (zal G 100), .int x1] G h q.2 q.1 := by
  refine zMetI (by decide) (Nat.le_of_ble_eq_true rfl) ?_
  intro p e s m below meth c ls C hl hS
  have hl : lv_has ls 4 [(0, .ref (zal G 100)), (1, .int x1)] := hl
  have C : zC G p s m [.ref (zal G 100), .int x1].toArray meth c cX12_silent 4 RX12 (some .int) := C
  unfold f_X12_silent at hf
  refine lv_iload_n C.1 C.2.1 dX12_silent_0 rfl (lv_at hl 1 rfl) ?_
  obtain ⟨r1, h2, er1, hf⟩ := zbd_some hf
  refine zcallSI (As := [.int x1]) (rest := []) C hS ms_X12_81 (c_X12_isFamily l G h x1 (r1, h2) (fun c h => hm c (sn_X12_silent_X12_isFamily c h)) (fun q h => hk q (sl_X12_silent_X12_isFamily q h)) er1) rfl rfl (Nat.le_of_ble_eq_true rfl) hl.1 ⟨Nat.le_of_ble_eq_true rfl, Nat.le_of_ble_eq_true rfl, Nat.le_of_ble_eq_true rfl, Nat.le_of_ble_eq_true rfl⟩ dX12_silent_1 (fun H locs hS => ?_)
  refine lv_if_ne (tgt := 9) C.1 C.2.1 dX12_silent_4 (by decide) (fun hc => ?_) (fun hc => ?_)
  · have hf := zif_f hc hf
    refine lv_iconst (v := (0 : Int32)) C.1 C.2.1 dX12_silent_9 rfl ?_
    refine lv_istore_n (lv' := [(2, .int (0 : Int32)), (0, .ref (zal G 100)), (1, .int x1)]) C.1 C.2.1 dX12_silent_10 rfl hl (by decide) rfl (fun ls hl => ?_)
    refine lv_iconst (v := (0 : Int32)) C.1 C.2.1 dX12_silent_11 rfl ?_
    refine lv_istore_n (lv' := [(3, .int (0 : Int32)), (2, .int (0 : Int32)), (0, .ref (zal G 100)), (1, .int x1)]) C.1 C.2.1 dX12_silent_12 rfl hl (by decide) rfl (fun ls hl => ?_)
    exact w_X12_silent_13 C hm hk  zN _ _ _ _ _ _ _ (lv_sub hl [2, 3, 1, 0] rfl) hS hf
  · have hf := zif_t hc hf
    refine lv_iconst (v := (-1 : Int32)) C.1 C.2.1 dX12_silent_7 rfl ?_
    exact zretI C hS hf dX12_silent_8
end
section
theorem dX12_keeps_0 : decode cX12_keeps 0 = .ok (.aload_n 0, 1) := by decide +kernel
theorem dX12_keeps_1 : decode cX12_keeps 1 = .ok (.getfield 73, 3) := by decide +kernel
theorem dX12_keeps_4 : decode cX12_keeps 4 = .ok (.bipush 6, 2) := by decide +kernel
theorem dX12_keeps_6 : decode cX12_keeps 6 = .ok (.if_icmp .ne 44, 3) := by decide +kernel
theorem dX12_keeps_9 : decode cX12_keeps 9 = .ok (.iconst 0, 1) := by decide +kernel
theorem dX12_keeps_10 : decode cX12_keeps 10 = .ok (.istore_n 1, 1) := by decide +kernel
theorem dX12_keeps_11 : decode cX12_keeps 11 = .ok (.iload_n 1, 1) := by decide +kernel
theorem dX12_keeps_12 : decode cX12_keeps 12 = .ok (.sipush 2625, 3) := by decide +kernel
theorem dX12_keeps_15 : decode cX12_keeps 15 = .ok (.if_icmp .ge 25, 3) := by decide +kernel
theorem dX12_keeps_18 : decode cX12_keeps 18 = .ok (.aload_n 0, 1) := by decide +kernel
theorem dX12_keeps_19 : decode cX12_keeps 19 = .ok (.getfield 16, 3) := by decide +kernel
theorem dX12_keeps_22 : decode cX12_keeps 22 = .ok (.iload_n 1, 1) := by decide +kernel
theorem dX12_keeps_23 : decode cX12_keeps 23 = .ok (.aload_n 0, 1) := by decide +kernel
theorem dX12_keeps_24 : decode cX12_keeps 24 = .ok (.getfield 16, 3) := by decide +kernel
theorem dX12_keeps_27 : decode cX12_keeps 27 = .ok (.iload_n 1, 1) := by decide +kernel
theorem dX12_keeps_28 : decode cX12_keeps 28 = .ok (.sipush 525, 3) := by decide +kernel
theorem dX12_keeps_31 : decode cX12_keeps 31 = .ok (.iadd, 1) := by decide +kernel
theorem dX12_keeps_32 : decode cX12_keeps 32 = .ok (.iaload, 1) := by decide +kernel
theorem dX12_keeps_33 : decode cX12_keeps 33 = .ok (.iastore, 1) := by decide +kernel
theorem dX12_keeps_34 : decode cX12_keeps 34 = .ok (.iinc 1 1, 3) := by decide +kernel
theorem dX12_keeps_37 : decode cX12_keeps 37 = .ok (.goto (-26), 3) := by decide +kernel
theorem dX12_keeps_40 : decode cX12_keeps 40 = .ok (.aload_n 0, 1) := by decide +kernel
theorem dX12_keeps_41 : decode cX12_keeps 41 = .ok (.dup, 1) := by decide +kernel
theorem dX12_keeps_42 : decode cX12_keeps 42 = .ok (.getfield 73, 3) := by decide +kernel
theorem dX12_keeps_45 : decode cX12_keeps 45 = .ok (.iconst 1, 1) := by decide +kernel
theorem dX12_keeps_46 : decode cX12_keeps 46 = .ok (.isub, 1) := by decide +kernel
theorem dX12_keeps_47 : decode cX12_keeps 47 = .ok (.putfield 73, 3) := by decide +kernel
theorem dX12_keeps_50 : decode cX12_keeps 50 = .ok (.sipush 525, 3) := by decide +kernel
theorem dX12_keeps_53 : decode cX12_keeps 53 = .ok (.aload_n 0, 1) := by decide +kernel
theorem dX12_keeps_54 : decode cX12_keeps 54 = .ok (.getfield 73, 3) := by decide +kernel
theorem dX12_keeps_57 : decode cX12_keeps 57 = .ok (.imul, 1) := by decide +kernel
theorem dX12_keeps_58 : decode cX12_keeps 58 = .ok (.istore_n 1, 1) := by decide +kernel
theorem dX12_keeps_59 : decode cX12_keeps 59 = .ok (.aload_n 0, 1) := by decide +kernel
theorem dX12_keeps_60 : decode cX12_keeps 60 = .ok (.getfield 16, 3) := by decide +kernel
theorem dX12_keeps_63 : decode cX12_keeps 63 = .ok (.iload_n 1, 1) := by decide +kernel
theorem dX12_keeps_64 : decode cX12_keeps 64 = .ok (.aload_n 0, 1) := by decide +kernel
theorem dX12_keeps_65 : decode cX12_keeps 65 = .ok (.getfield 7, 3) := by decide +kernel
theorem dX12_keeps_68 : decode cX12_keeps 68 = .ok (.iconst 5, 1) := by decide +kernel
theorem dX12_keeps_69 : decode cX12_keeps 69 = .ok (.iaload, 1) := by decide +kernel
theorem dX12_keeps_70 : decode cX12_keeps 70 = .ok (.iastore, 1) := by decide +kernel
theorem dX12_keeps_71 : decode cX12_keeps 71 = .ok (.aload_n 0, 1) := by decide +kernel
theorem dX12_keeps_72 : decode cX12_keeps 72 = .ok (.getfield 16, 3) := by decide +kernel
theorem dX12_keeps_75 : decode cX12_keeps 75 = .ok (.iload_n 1, 1) := by decide +kernel
theorem dX12_keeps_76 : decode cX12_keeps 76 = .ok (.iconst 1, 1) := by decide +kernel
theorem dX12_keeps_77 : decode cX12_keeps 77 = .ok (.iadd, 1) := by decide +kernel
theorem dX12_keeps_78 : decode cX12_keeps 78 = .ok (.aload_n 0, 1) := by decide +kernel
theorem dX12_keeps_79 : decode cX12_keeps 79 = .ok (.getfield 7, 3) := by decide +kernel
theorem dX12_keeps_82 : decode cX12_keeps 82 = .ok (.bipush 6, 2) := by decide +kernel
theorem dX12_keeps_84 : decode cX12_keeps 84 = .ok (.iaload, 1) := by decide +kernel
theorem dX12_keeps_85 : decode cX12_keeps 85 = .ok (.iastore, 1) := by decide +kernel
theorem dX12_keeps_86 : decode cX12_keeps 86 = .ok (.aload_n 0, 1) := by decide +kernel
theorem dX12_keeps_87 : decode cX12_keeps 87 = .ok (.getfield 16, 3) := by decide +kernel
theorem dX12_keeps_90 : decode cX12_keeps 90 = .ok (.iload_n 1, 1) := by decide +kernel
theorem dX12_keeps_91 : decode cX12_keeps 91 = .ok (.iconst 2, 1) := by decide +kernel
theorem dX12_keeps_92 : decode cX12_keeps 92 = .ok (.iadd, 1) := by decide +kernel
theorem dX12_keeps_93 : decode cX12_keeps 93 = .ok (.aload_n 0, 1) := by decide +kernel
theorem dX12_keeps_94 : decode cX12_keeps 94 = .ok (.getfield 7, 3) := by decide +kernel
theorem dX12_keeps_97 : decode cX12_keeps 97 = .ok (.bipush 7, 2) := by decide +kernel
theorem dX12_keeps_99 : decode cX12_keeps 99 = .ok (.iaload, 1) := by decide +kernel
theorem dX12_keeps_100 : decode cX12_keeps 100 = .ok (.iastore, 1) := by decide +kernel
theorem dX12_keeps_101 : decode cX12_keeps 101 = .ok (.iconst 0, 1) := by decide +kernel
theorem dX12_keeps_102 : decode cX12_keeps 102 = .ok (.istore_n 2, 1) := by decide +kernel
theorem dX12_keeps_103 : decode cX12_keeps 103 = .ok (.iload_n 2, 1) := by decide +kernel
theorem dX12_keeps_104 : decode cX12_keeps 104 = .ok (.sipush 522, 3) := by decide +kernel
theorem dX12_keeps_107 : decode cX12_keeps 107 = .ok (.if_icmp .ge 29, 3) := by decide +kernel
theorem dX12_keeps_110 : decode cX12_keeps 110 = .ok (.aload_n 0, 1) := by decide +kernel
theorem dX12_keeps_111 : decode cX12_keeps 111 = .ok (.getfield 16, 3) := by decide +kernel
theorem dX12_keeps_114 : decode cX12_keeps 114 = .ok (.iload_n 1, 1) := by decide +kernel
theorem dX12_keeps_115 : decode cX12_keeps 115 = .ok (.iconst 3, 1) := by decide +kernel
theorem dX12_keeps_116 : decode cX12_keeps 116 = .ok (.iadd, 1) := by decide +kernel
theorem dX12_keeps_117 : decode cX12_keeps 117 = .ok (.iload_n 2, 1) := by decide +kernel
theorem dX12_keeps_118 : decode cX12_keeps 118 = .ok (.iadd, 1) := by decide +kernel
theorem dX12_keeps_119 : decode cX12_keeps 119 = .ok (.aload_n 0, 1) := by decide +kernel
theorem dX12_keeps_120 : decode cX12_keeps 120 = .ok (.getfield 7, 3) := by decide +kernel
theorem dX12_keeps_123 : decode cX12_keeps 123 = .ok (.sipush 200, 3) := by decide +kernel
theorem dX12_keeps_126 : decode cX12_keeps 126 = .ok (.iload_n 2, 1) := by decide +kernel
theorem dX12_keeps_127 : decode cX12_keeps 127 = .ok (.iadd, 1) := by decide +kernel
theorem dX12_keeps_128 : decode cX12_keeps 128 = .ok (.iaload, 1) := by decide +kernel
theorem dX12_keeps_129 : decode cX12_keeps 129 = .ok (.iastore, 1) := by decide +kernel
theorem dX12_keeps_130 : decode cX12_keeps 130 = .ok (.iinc 2 1, 3) := by decide +kernel
theorem dX12_keeps_133 : decode cX12_keeps 133 = .ok (.goto (-30), 3) := by decide +kernel
theorem dX12_keeps_136 : decode cX12_keeps 136 = .ok (.aload_n 0, 1) := by decide +kernel
theorem dX12_keeps_137 : decode cX12_keeps 137 = .ok (.dup, 1) := by decide +kernel
theorem dX12_keeps_138 : decode cX12_keeps 138 = .ok (.getfield 73, 3) := by decide +kernel
theorem dX12_keeps_141 : decode cX12_keeps 141 = .ok (.iconst 1, 1) := by decide +kernel
theorem dX12_keeps_142 : decode cX12_keeps 142 = .ok (.iadd, 1) := by decide +kernel
theorem dX12_keeps_143 : decode cX12_keeps 143 = .ok (.putfield 73, 3) := by decide +kernel
theorem dX12_keeps_146 : decode cX12_keeps 146 = .ok (.return_, 1) := by decide +kernel
abbrev nd_X12_keeps : List Nat := [100, 101, 103]
abbrev ld_X12_keeps : List (Nat × Nat) := [(100, 0), (100, 2)]
def f_X12_keeps_103  : Nat → Int32 → Int32 → zH → zR
  | 0 => fun _ _ _ => none
  | n + 1 => fun x1 x2 h => (if (522 : Int32) ≤ x2 then (zst (zup h 100 4 ((h 100 4) + (1 : Int32))) fun h5 => (some (0, h5))) else (zck ((200 : Int32) + x2) 2220 (zck ((x1 + (3 : Int32)) + x2) 3150 (zst (zup h 103 (Int32.toNatClampNeg ((x1 + (3 : Int32)) + x2)) (h 101 (Int32.toNatClampNeg ((200 : Int32) + x2)))) fun h6 => (zlt (x2 + (1 : Int32)) fun y7 => (f_X12_keeps_103  n x1 y7 h6))))))
def f_X12_keeps_50  (h : zH) : zR := (zlt ((525 : Int32) * (h 100 4)) fun y1 => (zck y1 3150 (zst (zup h 103 (Int32.toNatClampNeg y1) (h 101 5)) fun h2 => (zck (y1 + (1 : Int32)) 3150 (zst (zup h2 103 (Int32.toNatClampNeg (y1 + (1 : Int32))) (h2 101 6)) fun h3 => (zck (y1 + (2 : Int32)) 3150 (zst (zup h3 103 (Int32.toNatClampNeg (y1 + (2 : Int32))) (h3 101 7)) fun h4 => (f_X12_keeps_103  zN y1 (0 : Int32) h4))))))))
def f_X12_keeps_11  : Nat → Int32 → zH → zR
  | 0 => fun _ _ => none
  | n + 1 => fun x1 h => (if (2625 : Int32) ≤ x1 then (zst (zup h 100 4 ((h 100 4) - (1 : Int32))) fun h8 => (f_X12_keeps_50   h8)) else (zck (x1 + (525 : Int32)) 3150 (zck x1 3150 (zst (zup h 103 (Int32.toNatClampNeg x1) (h 103 (Int32.toNatClampNeg (x1 + (525 : Int32))))) fun h9 => (zlt (x1 + (1 : Int32)) fun y10 => (f_X12_keeps_11  n y10 h9))))))
def f_X12_keeps  (h : zH) : zR := (if (h 100 4) = (6 : Int32) then (f_X12_keeps_11  zN (0 : Int32) h) else (f_X12_keeps_50   h))
variable {p : Program} {l : Launch} {e : Env} {s : State} {m : MethodId} {args : Array Value} {below : List Frame} {meth : Method} {c : Code} {G : zG} {q : Int32 × zH}
set_option maxHeartbeats 4000000 in
set_option maxRecDepth 100000 in
theorem w_X12_keeps_103  (C : zC G p s m args meth c cX12_keeps 3 RX12 none) (hm : ∀ c ∈ nd_X12_keeps, c ∈ znm G) (hk : ∀ q ∈ ld_X12_keeps, zlk G q.1 q.2 = true)  : ∀ n, ∀ (ls : Array Slot) (H : Heap) (locs : List Loc) (h : zH) (x1 : Int32) (x2 : Int32), lv_has ls 3 [(0, .ref (zal G 100)), (1, .int x1), (2, .int x2)] → zS G h s.heap H locs → f_X12_keeps_103  n x1 x2 h = some q → W p l e (zrm (2)) s m args below meth c H locs 0 0 (MQ below (zQV G q.2) args s 0 0 (zA G)) (F0 m 103 ls []) := by
  intro n
  induction n with
  | zero => intro ls H locs h x1 x2 hl hS hf; cases hf
  | succ n ih =>
    intro ls H locs h x1 x2 hl hS hf
    rw [f_X12_keeps_103] at hf
    refine lv_iload_n C.1 C.2.1 dX12_keeps_103 rfl (lv_at hl 2 rfl) ?_
    refine lv_sipush (v := (522 : Int32)) C.1 C.2.1 dX12_keeps_104 rfl ?_
    refine lv_icmp_ge (tgt := 136) C.1 C.2.1 dX12_keeps_107 (by decide) (fun hc => ?_) (fun hc => ?_)
    · have hf := zif_t hc hf
      refine lv_aload_n C.1 C.2.1 dX12_keeps_136 rfl (lv_at hl 0 rfl) ?_
      refine lv_dup C.1 C.2.1 dX12_keeps_137 rfl ?_
      refine zgetI C hS ff_X12_73_100 (hm 100 (by decide)) dX12_keeps_138 ?_
      refine lv_iconst (v := (1 : Int32)) C.1 C.2.1 dX12_keeps_141 rfl ?_
      refine lv_iadd C.1 C.2.1 dX12_keeps_142 ?_
      refine zputI C hS ff_X12_73_100 fw_100_4 (hm 100 (by decide)) dX12_keeps_143 (fun H locs hS => ?_)
      obtain ⟨h5, eh5, hf⟩ := zst_some hf
      have hS : zS G h5 s.heap H locs := by rw [eh5]; exact hS
      exact zretV C hS hf dX12_keeps_146
    · have hf := zif_f hc hf
      refine lv_aload_n C.1 C.2.1 dX12_keeps_110 rfl (lv_at hl 0 rfl) ?_
      refine zgetR C hS ff_X12_16_100 (hm 100 (by decide)) (hk (100, 2) (by decide)) dX12_keeps_111 ?_
      refine lv_iload_n C.1 C.2.1 dX12_keeps_114 rfl (lv_at hl 1 rfl) ?_
      refine lv_iconst (v := (3 : Int32)) C.1 C.2.1 dX12_keeps_115 rfl ?_
      refine lv_iadd C.1 C.2.1 dX12_keeps_116 ?_
      refine lv_iload_n C.1 C.2.1 dX12_keeps_117 rfl (lv_at hl 2 rfl) ?_
      refine lv_iadd C.1 C.2.1 dX12_keeps_118 ?_
      refine lv_aload_n C.1 C.2.1 dX12_keeps_119 rfl (lv_at hl 0 rfl) ?_
      refine zgetR C hS ff_X12_7_100 (hm 100 (by decide)) (hk (100, 0) (by decide)) dX12_keeps_120 ?_
      refine lv_sipush (v := (200 : Int32)) C.1 C.2.1 dX12_keeps_123 rfl ?_
      refine lv_iload_n C.1 C.2.1 dX12_keeps_126 rfl (lv_at hl 2 rfl) ?_
      refine lv_iadd C.1 C.2.1 dX12_keeps_127 ?_
      obtain ⟨hi, hf⟩ := zck_some hf
      refine zald C hS sh_101 (hm 101 (by decide)) hi dX12_keeps_128 ?_
      obtain ⟨hi, hf⟩ := zck_some hf
      refine zast C hS sh_103 (hm 103 (by decide)) hi dX12_keeps_129 (fun H locs hS => ?_)
      obtain ⟨h6, eh6, hf⟩ := zst_some hf
      have hS : zS G h6 s.heap H locs := by rw [eh6]; exact hS
      obtain ⟨y7, ey7, hf⟩ := zlt_some hf
      refine lv_iinc (v := y7) (lv' := [(2, .int y7), (0, .ref (zal G 100)), (1, .int x1)]) C.1 C.2.1 dX12_keeps_130 hl (k := 2) rfl ey7.symm (by decide) rfl (fun ls hl => ?_)
      refine lv_goto (tgt := 103) C.1 C.2.1 dX12_keeps_133 (by decide) ?_
      exact ih _ _ _ _ _ _ (lv_sub hl [1, 2, 0] rfl) hS hf
set_option maxHeartbeats 4000000 in
set_option maxRecDepth 100000 in
theorem w_X12_keeps_50  (C : zC G p s m args meth c cX12_keeps 3 RX12 none) (hm : ∀ c ∈ nd_X12_keeps, c ∈ znm G) (hk : ∀ q ∈ ld_X12_keeps, zlk G q.1 q.2 = true)  : ∀ (ls : Array Slot) (H : Heap) (locs : List Loc) (h : zH), lv_has ls 3 [(0, .ref (zal G 100))] → zS G h s.heap H locs → f_X12_keeps_50  h = some q → W p l e (zrm (2)) s m args below meth c H locs 0 0 (MQ below (zQV G q.2) args s 0 0 (zA G)) (F0 m 50 ls []) := by
  intro ls H locs h hl hS hf
  unfold f_X12_keeps_50 at hf
  refine lv_sipush (v := (525 : Int32)) C.1 C.2.1 dX12_keeps_50 rfl ?_
  refine lv_aload_n C.1 C.2.1 dX12_keeps_53 rfl (lv_at hl 0 rfl) ?_
  refine zgetI C hS ff_X12_73_100 (hm 100 (by decide)) dX12_keeps_54 ?_
  refine lv_imul C.1 C.2.1 dX12_keeps_57 ?_
  obtain ⟨y1, ey1, hf⟩ := zlt_some hf
  refine ztop ey1 ?_
  refine lv_istore_n (lv' := [(1, .int y1), (0, .ref (zal G 100))]) C.1 C.2.1 dX12_keeps_58 rfl hl (by decide) rfl (fun ls hl => ?_)
  refine lv_aload_n C.1 C.2.1 dX12_keeps_59 rfl (lv_at hl 1 rfl) ?_
  refine zgetR C hS ff_X12_16_100 (hm 100 (by decide)) (hk (100, 2) (by decide)) dX12_keeps_60 ?_
  refine lv_iload_n C.1 C.2.1 dX12_keeps_63 rfl (lv_at hl 0 rfl) ?_
  refine lv_aload_n C.1 C.2.1 dX12_keeps_64 rfl (lv_at hl 1 rfl) ?_
  refine zgetR C hS ff_X12_7_100 (hm 100 (by decide)) (hk (100, 0) (by decide)) dX12_keeps_65 ?_
  refine lv_iconst (v := (5 : Int32)) C.1 C.2.1 dX12_keeps_68 rfl ?_
  refine zald C hS sh_101 (hm 101 (by decide)) (vp_in_iff.mpr (by decide)) dX12_keeps_69 ?_
  obtain ⟨hi, hf⟩ := zck_some hf
  refine zast C hS sh_103 (hm 103 (by decide)) hi dX12_keeps_70 (fun H locs hS => ?_)
  obtain ⟨h2, eh2, hf⟩ := zst_some hf
  have hS : zS G h2 s.heap H locs := by rw [eh2]; exact hS
  refine lv_aload_n C.1 C.2.1 dX12_keeps_71 rfl (lv_at hl 1 rfl) ?_
  refine zgetR C hS ff_X12_16_100 (hm 100 (by decide)) (hk (100, 2) (by decide)) dX12_keeps_72 ?_
  refine lv_iload_n C.1 C.2.1 dX12_keeps_75 rfl (lv_at hl 0 rfl) ?_
  refine lv_iconst (v := (1 : Int32)) C.1 C.2.1 dX12_keeps_76 rfl ?_
  refine lv_iadd C.1 C.2.1 dX12_keeps_77 ?_
  refine lv_aload_n C.1 C.2.1 dX12_keeps_78 rfl (lv_at hl 1 rfl) ?_
  refine zgetR C hS ff_X12_7_100 (hm 100 (by decide)) (hk (100, 0) (by decide)) dX12_keeps_79 ?_
  refine lv_bipush (v := (6 : Int32)) C.1 C.2.1 dX12_keeps_82 rfl ?_
  refine zald C hS sh_101 (hm 101 (by decide)) (vp_in_iff.mpr (by decide)) dX12_keeps_84 ?_
  obtain ⟨hi, hf⟩ := zck_some hf
  refine zast C hS sh_103 (hm 103 (by decide)) hi dX12_keeps_85 (fun H locs hS => ?_)
  obtain ⟨h3, eh3, hf⟩ := zst_some hf
  have hS : zS G h3 s.heap H locs := by rw [eh3]; exact hS
  refine lv_aload_n C.1 C.2.1 dX12_keeps_86 rfl (lv_at hl 1 rfl) ?_
  refine zgetR C hS ff_X12_16_100 (hm 100 (by decide)) (hk (100, 2) (by decide)) dX12_keeps_87 ?_
  refine lv_iload_n C.1 C.2.1 dX12_keeps_90 rfl (lv_at hl 0 rfl) ?_
  refine lv_iconst (v := (2 : Int32)) C.1 C.2.1 dX12_keeps_91 rfl ?_
  refine lv_iadd C.1 C.2.1 dX12_keeps_92 ?_
  refine lv_aload_n C.1 C.2.1 dX12_keeps_93 rfl (lv_at hl 1 rfl) ?_
  refine zgetR C hS ff_X12_7_100 (hm 100 (by decide)) (hk (100, 0) (by decide)) dX12_keeps_94 ?_
  refine lv_bipush (v := (7 : Int32)) C.1 C.2.1 dX12_keeps_97 rfl ?_
  refine zald C hS sh_101 (hm 101 (by decide)) (vp_in_iff.mpr (by decide)) dX12_keeps_99 ?_
  obtain ⟨hi, hf⟩ := zck_some hf
  refine zast C hS sh_103 (hm 103 (by decide)) hi dX12_keeps_100 (fun H locs hS => ?_)
  obtain ⟨h4, eh4, hf⟩ := zst_some hf
  have hS : zS G h4 s.heap H locs := by rw [eh4]; exact hS
  refine lv_iconst (v := (0 : Int32)) C.1 C.2.1 dX12_keeps_101 rfl ?_
  refine lv_istore_n (lv' := [(2, .int (0 : Int32)), (1, .int y1), (0, .ref (zal G 100))]) C.1 C.2.1 dX12_keeps_102 rfl hl (by decide) rfl (fun ls hl => ?_)
  exact w_X12_keeps_103 C hm hk  zN _ _ _ _ _ _ (lv_sub hl [2, 1, 0] rfl) hS hf
set_option maxHeartbeats 4000000 in
set_option maxRecDepth 100000 in
theorem w_X12_keeps_11  (C : zC G p s m args meth c cX12_keeps 3 RX12 none) (hm : ∀ c ∈ nd_X12_keeps, c ∈ znm G) (hk : ∀ q ∈ ld_X12_keeps, zlk G q.1 q.2 = true)  : ∀ n, ∀ (ls : Array Slot) (H : Heap) (locs : List Loc) (h : zH) (x1 : Int32), lv_has ls 3 [(0, .ref (zal G 100)), (1, .int x1)] → zS G h s.heap H locs → f_X12_keeps_11  n x1 h = some q → W p l e (zrm (2)) s m args below meth c H locs 0 0 (MQ below (zQV G q.2) args s 0 0 (zA G)) (F0 m 11 ls []) := by
  intro n
  induction n with
  | zero => intro ls H locs h x1 hl hS hf; cases hf
  | succ n ih =>
    intro ls H locs h x1 hl hS hf
    rw [f_X12_keeps_11] at hf
    refine lv_iload_n C.1 C.2.1 dX12_keeps_11 rfl (lv_at hl 1 rfl) ?_
    refine lv_sipush (v := (2625 : Int32)) C.1 C.2.1 dX12_keeps_12 rfl ?_
    refine lv_icmp_ge (tgt := 40) C.1 C.2.1 dX12_keeps_15 (by decide) (fun hc => ?_) (fun hc => ?_)
    · have hf := zif_t hc hf
      refine lv_aload_n C.1 C.2.1 dX12_keeps_40 rfl (lv_at hl 0 rfl) ?_
      refine lv_dup C.1 C.2.1 dX12_keeps_41 rfl ?_
      refine zgetI C hS ff_X12_73_100 (hm 100 (by decide)) dX12_keeps_42 ?_
      refine lv_iconst (v := (1 : Int32)) C.1 C.2.1 dX12_keeps_45 rfl ?_
      refine lv_isub C.1 C.2.1 dX12_keeps_46 ?_
      refine zputI C hS ff_X12_73_100 fw_100_4 (hm 100 (by decide)) dX12_keeps_47 (fun H locs hS => ?_)
      obtain ⟨h8, eh8, hf⟩ := zst_some hf
      have hS : zS G h8 s.heap H locs := by rw [eh8]; exact hS
      exact w_X12_keeps_50 C hm hk  _ _ _ _ (lv_sub hl [0] rfl) hS hf
    · have hf := zif_f hc hf
      refine lv_aload_n C.1 C.2.1 dX12_keeps_18 rfl (lv_at hl 0 rfl) ?_
      refine zgetR C hS ff_X12_16_100 (hm 100 (by decide)) (hk (100, 2) (by decide)) dX12_keeps_19 ?_
      refine lv_iload_n C.1 C.2.1 dX12_keeps_22 rfl (lv_at hl 1 rfl) ?_
      refine lv_aload_n C.1 C.2.1 dX12_keeps_23 rfl (lv_at hl 0 rfl) ?_
      refine zgetR C hS ff_X12_16_100 (hm 100 (by decide)) (hk (100, 2) (by decide)) dX12_keeps_24 ?_
      refine lv_iload_n C.1 C.2.1 dX12_keeps_27 rfl (lv_at hl 1 rfl) ?_
      refine lv_sipush (v := (525 : Int32)) C.1 C.2.1 dX12_keeps_28 rfl ?_
      refine lv_iadd C.1 C.2.1 dX12_keeps_31 ?_
      obtain ⟨hi, hf⟩ := zck_some hf
      refine zald C hS sh_103 (hm 103 (by decide)) hi dX12_keeps_32 ?_
      obtain ⟨hi, hf⟩ := zck_some hf
      refine zast C hS sh_103 (hm 103 (by decide)) hi dX12_keeps_33 (fun H locs hS => ?_)
      obtain ⟨h9, eh9, hf⟩ := zst_some hf
      have hS : zS G h9 s.heap H locs := by rw [eh9]; exact hS
      obtain ⟨y10, ey10, hf⟩ := zlt_some hf
      refine lv_iinc (v := y10) (lv' := [(1, .int y10), (0, .ref (zal G 100))]) C.1 C.2.1 dX12_keeps_34 hl (k := 1) rfl ey10.symm (by decide) rfl (fun ls hl => ?_)
      refine lv_goto (tgt := 11) C.1 C.2.1 dX12_keeps_37 (by decide) ?_
      exact ih _ _ _ _ _ (lv_sub hl [1, 0] rfl) hS hf
set_option maxHeartbeats 4000000 in
set_option maxRecDepth 100000 in
theorem c_X12_keeps (l : Launch) (G : zG) (h : zH) (q : Int32 × zH) (hm : ∀ c ∈ nd_X12_keeps, c ∈ znm G) (hk : ∀ q ∈ ld_X12_keeps, zlk G q.1 q.2 = true) (hf : f_X12_keeps h = some q) : zCtV l yX12_keeps cX12_keeps 3 none (2) [.ref (zal G 100)] G h q.2 := by
  refine zMetV (by decide) (Nat.le_of_ble_eq_true rfl) ?_
  intro p e s m below meth c ls C hl hS
  have hl : lv_has ls 3 [(0, .ref (zal G 100))] := hl
  have C : zC G p s m [.ref (zal G 100)].toArray meth c cX12_keeps 3 RX12 none := C
  unfold f_X12_keeps at hf
  refine lv_aload_n C.1 C.2.1 dX12_keeps_0 rfl (lv_at hl 0 rfl) ?_
  refine zgetI C hS ff_X12_73_100 (hm 100 (by decide)) dX12_keeps_1 ?_
  refine lv_bipush (v := (6 : Int32)) C.1 C.2.1 dX12_keeps_4 rfl ?_
  refine lv_icmp_ne (tgt := 50) C.1 C.2.1 dX12_keeps_6 (by decide) (fun hc => ?_) (fun hc => ?_)
  · have hf := zif_f hc hf
    exact w_X12_keeps_50 C hm hk  _ _ _ _ (lv_sub hl [0] rfl) hS hf
  · have hf := zif_t hc hf
    refine lv_iconst (v := (0 : Int32)) C.1 C.2.1 dX12_keeps_9 rfl ?_
    refine lv_istore_n (lv' := [(1, .int (0 : Int32)), (0, .ref (zal G 100))]) C.1 C.2.1 dX12_keeps_10 rfl hl (by decide) rfl (fun ls hl => ?_)
    exact w_X12_keeps_11 C hm hk  zN _ _ _ _ _ (lv_sub hl [1, 0] rfl) hS hf
end
section
theorem dX12_writes_0 : decode cX12_writes 0 = .ok (.aload_n 0, 1) := by decide +kernel
theorem dX12_writes_1 : decode cX12_writes 1 = .ok (.getfield 7, 3) := by decide +kernel
theorem dX12_writes_4 : decode cX12_writes 4 = .ok (.bipush 6, 2) := by decide +kernel
theorem dX12_writes_6 : decode cX12_writes 6 = .ok (.iaload, 1) := by decide +kernel
theorem dX12_writes_7 : decode cX12_writes 7 = .ok (.bipush 100, 2) := by decide +kernel
theorem dX12_writes_9 : decode cX12_writes 9 = .ok (.if_icmp .ne 4, 3) := by decide +kernel
theorem dX12_writes_12 : decode cX12_writes 12 = .ok (.return_, 1) := by decide +kernel
theorem dX12_writes_13 : decode cX12_writes 13 = .ok (.sipush 730, 3) := by decide +kernel
theorem dX12_writes_16 : decode cX12_writes 16 = .ok (.bipush 6, 2) := by decide +kernel
theorem dX12_writes_18 : decode cX12_writes 18 = .ok (.aload_n 0, 1) := by decide +kernel
theorem dX12_writes_19 : decode cX12_writes 19 = .ok (.getfield 7, 3) := by decide +kernel
theorem dX12_writes_22 : decode cX12_writes 22 = .ok (.bipush 6, 2) := by decide +kernel
theorem dX12_writes_24 : decode cX12_writes 24 = .ok (.iaload, 1) := by decide +kernel
theorem dX12_writes_25 : decode cX12_writes 25 = .ok (.imul, 1) := by decide +kernel
theorem dX12_writes_26 : decode cX12_writes 26 = .ok (.iadd, 1) := by decide +kernel
theorem dX12_writes_27 : decode cX12_writes 27 = .ok (.istore_n 3, 1) := by decide +kernel
theorem dX12_writes_28 : decode cX12_writes 28 = .ok (.aload_n 0, 1) := by decide +kernel
theorem dX12_writes_29 : decode cX12_writes 29 = .ok (.getfield 7, 3) := by decide +kernel
theorem dX12_writes_32 : decode cX12_writes 32 = .ok (.iload_n 3, 1) := by decide +kernel
theorem dX12_writes_33 : decode cX12_writes 33 = .ok (.aload_n 0, 1) := by decide +kernel
theorem dX12_writes_34 : decode cX12_writes 34 = .ok (.getfield 272, 3) := by decide +kernel
theorem dX12_writes_37 : decode cX12_writes 37 = .ok (.iastore, 1) := by decide +kernel
theorem dX12_writes_38 : decode cX12_writes 38 = .ok (.aload_n 0, 1) := by decide +kernel
theorem dX12_writes_39 : decode cX12_writes 39 = .ok (.getfield 7, 3) := by decide +kernel
theorem dX12_writes_42 : decode cX12_writes 42 = .ok (.iload_n 3, 1) := by decide +kernel
theorem dX12_writes_43 : decode cX12_writes 43 = .ok (.iconst 1, 1) := by decide +kernel
theorem dX12_writes_44 : decode cX12_writes 44 = .ok (.iadd, 1) := by decide +kernel
theorem dX12_writes_45 : decode cX12_writes 45 = .ok (.aload_n 0, 1) := by decide +kernel
theorem dX12_writes_46 : decode cX12_writes 46 = .ok (.getfield 275, 3) := by decide +kernel
theorem dX12_writes_49 : decode cX12_writes 49 = .ok (.iastore, 1) := by decide +kernel
theorem dX12_writes_50 : decode cX12_writes 50 = .ok (.aload_n 0, 1) := by decide +kernel
theorem dX12_writes_51 : decode cX12_writes 51 = .ok (.getfield 7, 3) := by decide +kernel
theorem dX12_writes_54 : decode cX12_writes 54 = .ok (.iload_n 3, 1) := by decide +kernel
theorem dX12_writes_55 : decode cX12_writes 55 = .ok (.iconst 2, 1) := by decide +kernel
theorem dX12_writes_56 : decode cX12_writes 56 = .ok (.iadd, 1) := by decide +kernel
theorem dX12_writes_57 : decode cX12_writes 57 = .ok (.aload_n 0, 1) := by decide +kernel
theorem dX12_writes_58 : decode cX12_writes 58 = .ok (.getfield 278, 3) := by decide +kernel
theorem dX12_writes_61 : decode cX12_writes 61 = .ok (.iastore, 1) := by decide +kernel
theorem dX12_writes_62 : decode cX12_writes 62 = .ok (.aload_n 0, 1) := by decide +kernel
theorem dX12_writes_63 : decode cX12_writes 63 = .ok (.getfield 7, 3) := by decide +kernel
theorem dX12_writes_66 : decode cX12_writes 66 = .ok (.iload_n 3, 1) := by decide +kernel
theorem dX12_writes_67 : decode cX12_writes 67 = .ok (.iconst 3, 1) := by decide +kernel
theorem dX12_writes_68 : decode cX12_writes 68 = .ok (.iadd, 1) := by decide +kernel
theorem dX12_writes_69 : decode cX12_writes 69 = .ok (.iload_n 1, 1) := by decide +kernel
theorem dX12_writes_70 : decode cX12_writes 70 = .ok (.iastore, 1) := by decide +kernel
theorem dX12_writes_71 : decode cX12_writes 71 = .ok (.aload_n 0, 1) := by decide +kernel
theorem dX12_writes_72 : decode cX12_writes 72 = .ok (.getfield 7, 3) := by decide +kernel
theorem dX12_writes_75 : decode cX12_writes 75 = .ok (.iload_n 3, 1) := by decide +kernel
theorem dX12_writes_76 : decode cX12_writes 76 = .ok (.iconst 4, 1) := by decide +kernel
theorem dX12_writes_77 : decode cX12_writes 77 = .ok (.iadd, 1) := by decide +kernel
theorem dX12_writes_78 : decode cX12_writes 78 = .ok (.aload_n 0, 1) := by decide +kernel
theorem dX12_writes_79 : decode cX12_writes 79 = .ok (.getfield 7, 3) := by decide +kernel
theorem dX12_writes_82 : decode cX12_writes 82 = .ok (.iconst 5, 1) := by decide +kernel
theorem dX12_writes_83 : decode cX12_writes 83 = .ok (.iaload, 1) := by decide +kernel
theorem dX12_writes_84 : decode cX12_writes 84 = .ok (.iastore, 1) := by decide +kernel
theorem dX12_writes_85 : decode cX12_writes 85 = .ok (.aload_n 0, 1) := by decide +kernel
theorem dX12_writes_86 : decode cX12_writes 86 = .ok (.getfield 7, 3) := by decide +kernel
theorem dX12_writes_89 : decode cX12_writes 89 = .ok (.iload_n 3, 1) := by decide +kernel
theorem dX12_writes_90 : decode cX12_writes 90 = .ok (.iconst 5, 1) := by decide +kernel
theorem dX12_writes_91 : decode cX12_writes 91 = .ok (.iadd, 1) := by decide +kernel
theorem dX12_writes_92 : decode cX12_writes 92 = .ok (.iload_n 2, 1) := by decide +kernel
theorem dX12_writes_93 : decode cX12_writes 93 = .ok (.iastore, 1) := by decide +kernel
theorem dX12_writes_94 : decode cX12_writes 94 = .ok (.aload_n 0, 1) := by decide +kernel
theorem dX12_writes_95 : decode cX12_writes 95 = .ok (.getfield 7, 3) := by decide +kernel
theorem dX12_writes_98 : decode cX12_writes 98 = .ok (.bipush 6, 2) := by decide +kernel
theorem dX12_writes_100 : decode cX12_writes 100 = .ok (.dup2, 1) := by decide +kernel
theorem dX12_writes_101 : decode cX12_writes 101 = .ok (.iaload, 1) := by decide +kernel
theorem dX12_writes_102 : decode cX12_writes 102 = .ok (.iconst 1, 1) := by decide +kernel
theorem dX12_writes_103 : decode cX12_writes 103 = .ok (.iadd, 1) := by decide +kernel
theorem dX12_writes_104 : decode cX12_writes 104 = .ok (.iastore, 1) := by decide +kernel
theorem dX12_writes_105 : decode cX12_writes 105 = .ok (.return_, 1) := by decide +kernel
abbrev nd_X12_writes : List Nat := [100, 101]
abbrev ld_X12_writes : List (Nat × Nat) := [(100, 0)]
def f_X12_writes  (x1 : Int32) (x2 : Int32) (h : zH) : zR := (if (h 101 6) = (100 : Int32) then (some (0, h)) else (zlt ((730 : Int32) + ((6 : Int32) * (h 101 6))) fun y1 => (zck y1 2220 (zst (zup h 101 (Int32.toNatClampNeg y1) (h 100 23)) fun h2 => (zck (y1 + (1 : Int32)) 2220 (zst (zup h2 101 (Int32.toNatClampNeg (y1 + (1 : Int32))) (h2 100 24)) fun h3 => (zck (y1 + (2 : Int32)) 2220 (zst (zup h3 101 (Int32.toNatClampNeg (y1 + (2 : Int32))) (h3 100 25)) fun h4 => (zck (y1 + (3 : Int32)) 2220 (zst (zup h4 101 (Int32.toNatClampNeg (y1 + (3 : Int32))) x1) fun h5 => (zck (y1 + (4 : Int32)) 2220 (zst (zup h5 101 (Int32.toNatClampNeg (y1 + (4 : Int32))) (h5 101 5)) fun h6 => (zck (y1 + (5 : Int32)) 2220 (zst (zup h6 101 (Int32.toNatClampNeg (y1 + (5 : Int32))) x2) fun h7 => (zst (zup h7 101 6 ((h7 101 6) + (1 : Int32))) fun h8 => (some (0, h8)))))))))))))))))
variable {p : Program} {l : Launch} {e : Env} {s : State} {m : MethodId} {args : Array Value} {below : List Frame} {meth : Method} {c : Code} {G : zG} {q : Int32 × zH}
set_option maxHeartbeats 4000000 in
set_option maxRecDepth 100000 in
theorem c_X12_writes (l : Launch) (G : zG) (h : zH) (x1 : Int32) (x2 : Int32) (q : Int32 × zH) (hm : ∀ c ∈ nd_X12_writes, c ∈ znm G) (hk : ∀ q ∈ ld_X12_writes, zlk G q.1 q.2 = true) (hf : f_X12_writes x1 x2 h = some q) : zCtV l yX12_writes cX12_writes 4 none (2) [.ref (zal G 100), .int x1, .int x2] G h q.2 := by
  refine zMetV (by decide) (Nat.le_of_ble_eq_true rfl) ?_
  intro p e s m below meth c ls C hl hS
  have hl : lv_has ls 4 [(0, .ref (zal G 100)), (1, .int x1), (2, .int x2)] := hl
  have C : zC G p s m [.ref (zal G 100), .int x1, .int x2].toArray meth c cX12_writes 4 RX12 none := C
  unfold f_X12_writes at hf
  refine lv_aload_n C.1 C.2.1 dX12_writes_0 rfl (lv_at hl 0 rfl) ?_
  refine zgetR C hS ff_X12_7_100 (hm 100 (by decide)) (hk (100, 0) (by decide)) dX12_writes_1 ?_
  refine lv_bipush (v := (6 : Int32)) C.1 C.2.1 dX12_writes_4 rfl ?_
  refine zald C hS sh_101 (hm 101 (by decide)) (vp_in_iff.mpr (by decide)) dX12_writes_6 ?_
  refine lv_bipush (v := (100 : Int32)) C.1 C.2.1 dX12_writes_7 rfl ?_
  refine lv_icmp_ne (tgt := 13) C.1 C.2.1 dX12_writes_9 (by decide) (fun hc => ?_) (fun hc => ?_)
  · have hf := zif_f hc hf
    refine lv_sipush (v := (730 : Int32)) C.1 C.2.1 dX12_writes_13 rfl ?_
    refine lv_bipush (v := (6 : Int32)) C.1 C.2.1 dX12_writes_16 rfl ?_
    refine lv_aload_n C.1 C.2.1 dX12_writes_18 rfl (lv_at hl 0 rfl) ?_
    refine zgetR C hS ff_X12_7_100 (hm 100 (by decide)) (hk (100, 0) (by decide)) dX12_writes_19 ?_
    refine lv_bipush (v := (6 : Int32)) C.1 C.2.1 dX12_writes_22 rfl ?_
    refine zald C hS sh_101 (hm 101 (by decide)) (vp_in_iff.mpr (by decide)) dX12_writes_24 ?_
    refine lv_imul C.1 C.2.1 dX12_writes_25 ?_
    refine lv_iadd C.1 C.2.1 dX12_writes_26 ?_
    obtain ⟨y1, ey1, hf⟩ := zlt_some hf
    refine ztop ey1 ?_
    refine lv_istore_n (lv' := [(3, .int y1), (0, .ref (zal G 100)), (1, .int x1), (2, .int x2)]) C.1 C.2.1 dX12_writes_27 rfl hl (by decide) rfl (fun ls hl => ?_)
    refine lv_aload_n C.1 C.2.1 dX12_writes_28 rfl (lv_at hl 1 rfl) ?_
    refine zgetR C hS ff_X12_7_100 (hm 100 (by decide)) (hk (100, 0) (by decide)) dX12_writes_29 ?_
    refine lv_iload_n C.1 C.2.1 dX12_writes_32 rfl (lv_at hl 0 rfl) ?_
    refine lv_aload_n C.1 C.2.1 dX12_writes_33 rfl (lv_at hl 1 rfl) ?_
    refine zgetI C hS ff_X12_272_100 (hm 100 (by decide)) dX12_writes_34 ?_
    obtain ⟨hi, hf⟩ := zck_some hf
    refine zast C hS sh_101 (hm 101 (by decide)) hi dX12_writes_37 (fun H locs hS => ?_)
    obtain ⟨h2, eh2, hf⟩ := zst_some hf
    have hS : zS G h2 s.heap H locs := by rw [eh2]; exact hS
    refine lv_aload_n C.1 C.2.1 dX12_writes_38 rfl (lv_at hl 1 rfl) ?_
    refine zgetR C hS ff_X12_7_100 (hm 100 (by decide)) (hk (100, 0) (by decide)) dX12_writes_39 ?_
    refine lv_iload_n C.1 C.2.1 dX12_writes_42 rfl (lv_at hl 0 rfl) ?_
    refine lv_iconst (v := (1 : Int32)) C.1 C.2.1 dX12_writes_43 rfl ?_
    refine lv_iadd C.1 C.2.1 dX12_writes_44 ?_
    refine lv_aload_n C.1 C.2.1 dX12_writes_45 rfl (lv_at hl 1 rfl) ?_
    refine zgetI C hS ff_X12_275_100 (hm 100 (by decide)) dX12_writes_46 ?_
    obtain ⟨hi, hf⟩ := zck_some hf
    refine zast C hS sh_101 (hm 101 (by decide)) hi dX12_writes_49 (fun H locs hS => ?_)
    obtain ⟨h3, eh3, hf⟩ := zst_some hf
    have hS : zS G h3 s.heap H locs := by rw [eh3]; exact hS
    refine lv_aload_n C.1 C.2.1 dX12_writes_50 rfl (lv_at hl 1 rfl) ?_
    refine zgetR C hS ff_X12_7_100 (hm 100 (by decide)) (hk (100, 0) (by decide)) dX12_writes_51 ?_
    refine lv_iload_n C.1 C.2.1 dX12_writes_54 rfl (lv_at hl 0 rfl) ?_
    refine lv_iconst (v := (2 : Int32)) C.1 C.2.1 dX12_writes_55 rfl ?_
    refine lv_iadd C.1 C.2.1 dX12_writes_56 ?_
    refine lv_aload_n C.1 C.2.1 dX12_writes_57 rfl (lv_at hl 1 rfl) ?_
    refine zgetI C hS ff_X12_278_100 (hm 100 (by decide)) dX12_writes_58 ?_
    obtain ⟨hi, hf⟩ := zck_some hf
    refine zast C hS sh_101 (hm 101 (by decide)) hi dX12_writes_61 (fun H locs hS => ?_)
    obtain ⟨h4, eh4, hf⟩ := zst_some hf
    have hS : zS G h4 s.heap H locs := by rw [eh4]; exact hS
    refine lv_aload_n C.1 C.2.1 dX12_writes_62 rfl (lv_at hl 1 rfl) ?_
    refine zgetR C hS ff_X12_7_100 (hm 100 (by decide)) (hk (100, 0) (by decide)) dX12_writes_63 ?_
    refine lv_iload_n C.1 C.2.1 dX12_writes_66 rfl (lv_at hl 0 rfl) ?_
    refine lv_iconst (v := (3 : Int32)) C.1 C.2.1 dX12_writes_67 rfl ?_
    refine lv_iadd C.1 C.2.1 dX12_writes_68 ?_
    refine lv_iload_n C.1 C.2.1 dX12_writes_69 rfl (lv_at hl 2 rfl) ?_
    obtain ⟨hi, hf⟩ := zck_some hf
    refine zast C hS sh_101 (hm 101 (by decide)) hi dX12_writes_70 (fun H locs hS => ?_)
    obtain ⟨h5, eh5, hf⟩ := zst_some hf
    have hS : zS G h5 s.heap H locs := by rw [eh5]; exact hS
    refine lv_aload_n C.1 C.2.1 dX12_writes_71 rfl (lv_at hl 1 rfl) ?_
    refine zgetR C hS ff_X12_7_100 (hm 100 (by decide)) (hk (100, 0) (by decide)) dX12_writes_72 ?_
    refine lv_iload_n C.1 C.2.1 dX12_writes_75 rfl (lv_at hl 0 rfl) ?_
    refine lv_iconst (v := (4 : Int32)) C.1 C.2.1 dX12_writes_76 rfl ?_
    refine lv_iadd C.1 C.2.1 dX12_writes_77 ?_
    refine lv_aload_n C.1 C.2.1 dX12_writes_78 rfl (lv_at hl 1 rfl) ?_
    refine zgetR C hS ff_X12_7_100 (hm 100 (by decide)) (hk (100, 0) (by decide)) dX12_writes_79 ?_
    refine lv_iconst (v := (5 : Int32)) C.1 C.2.1 dX12_writes_82 rfl ?_
    refine zald C hS sh_101 (hm 101 (by decide)) (vp_in_iff.mpr (by decide)) dX12_writes_83 ?_
    obtain ⟨hi, hf⟩ := zck_some hf
    refine zast C hS sh_101 (hm 101 (by decide)) hi dX12_writes_84 (fun H locs hS => ?_)
    obtain ⟨h6, eh6, hf⟩ := zst_some hf
    have hS : zS G h6 s.heap H locs := by rw [eh6]; exact hS
    refine lv_aload_n C.1 C.2.1 dX12_writes_85 rfl (lv_at hl 1 rfl) ?_
    refine zgetR C hS ff_X12_7_100 (hm 100 (by decide)) (hk (100, 0) (by decide)) dX12_writes_86 ?_
    refine lv_iload_n C.1 C.2.1 dX12_writes_89 rfl (lv_at hl 0 rfl) ?_
    refine lv_iconst (v := (5 : Int32)) C.1 C.2.1 dX12_writes_90 rfl ?_
    refine lv_iadd C.1 C.2.1 dX12_writes_91 ?_
    refine lv_iload_n C.1 C.2.1 dX12_writes_92 rfl (lv_at hl 3 rfl) ?_
    obtain ⟨hi, hf⟩ := zck_some hf
    refine zast C hS sh_101 (hm 101 (by decide)) hi dX12_writes_93 (fun H locs hS => ?_)
    obtain ⟨h7, eh7, hf⟩ := zst_some hf
    have hS : zS G h7 s.heap H locs := by rw [eh7]; exact hS
    refine lv_aload_n C.1 C.2.1 dX12_writes_94 rfl (lv_at hl 1 rfl) ?_
    refine zgetR C hS ff_X12_7_100 (hm 100 (by decide)) (hk (100, 0) (by decide)) dX12_writes_95 ?_
    refine lv_bipush (v := (6 : Int32)) C.1 C.2.1 dX12_writes_98 rfl ?_
    refine lv_dup2_11 C.1 C.2.1 dX12_writes_100 rfl rfl ?_
    refine zald C hS sh_101 (hm 101 (by decide)) (vp_in_iff.mpr (by decide)) dX12_writes_101 ?_
    refine lv_iconst (v := (1 : Int32)) C.1 C.2.1 dX12_writes_102 rfl ?_
    refine lv_iadd C.1 C.2.1 dX12_writes_103 ?_
    refine zast C hS sh_101 (hm 101 (by decide)) (vp_in_iff.mpr (by decide)) dX12_writes_104 (fun H locs hS => ?_)
    obtain ⟨h8, eh8, hf⟩ := zst_some hf
    have hS : zS G h8 s.heap H locs := by rw [eh8]; exact hS
    exact zretV C hS hf dX12_writes_105
  · have hf := zif_t hc hf
    exact zretV C hS hf dX12_writes_12
end
section
theorem dX12_draw_0 : decode cX12_draw 0 = .ok (.aload_n 0, 1) := by decide +kernel
theorem dX12_draw_1 : decode cX12_draw 1 = .ok (.getfield 7, 3) := by decide +kernel
theorem dX12_draw_4 : decode cX12_draw 4 = .ok (.bipush 7, 2) := by decide +kernel
theorem dX12_draw_6 : decode cX12_draw 6 = .ok (.ldc 79, 2) := by decide +kernel
theorem dX12_draw_8 : decode cX12_draw 8 = .ok (.aload_n 0, 1) := by decide +kernel
theorem dX12_draw_9 : decode cX12_draw 9 = .ok (.getfield 7, 3) := by decide +kernel
theorem dX12_draw_12 : decode cX12_draw 12 = .ok (.bipush 7, 2) := by decide +kernel
theorem dX12_draw_14 : decode cX12_draw 14 = .ok (.iaload, 1) := by decide +kernel
theorem dX12_draw_15 : decode cX12_draw 15 = .ok (.imul, 1) := by decide +kernel
theorem dX12_draw_16 : decode cX12_draw 16 = .ok (.ldc 80, 2) := by decide +kernel
theorem dX12_draw_18 : decode cX12_draw 18 = .ok (.iadd, 1) := by decide +kernel
theorem dX12_draw_19 : decode cX12_draw 19 = .ok (.iastore, 1) := by decide +kernel
theorem dX12_draw_20 : decode cX12_draw 20 = .ok (.aload_n 0, 1) := by decide +kernel
theorem dX12_draw_21 : decode cX12_draw 21 = .ok (.getfield 7, 3) := by decide +kernel
theorem dX12_draw_24 : decode cX12_draw 24 = .ok (.bipush 7, 2) := by decide +kernel
theorem dX12_draw_26 : decode cX12_draw 26 = .ok (.iaload, 1) := by decide +kernel
theorem dX12_draw_27 : decode cX12_draw 27 = .ok (.bipush 8, 2) := by decide +kernel
theorem dX12_draw_29 : decode cX12_draw 29 = .ok (.iushr, 1) := by decide +kernel
theorem dX12_draw_30 : decode cX12_draw 30 = .ok (.iload_n 1, 1) := by decide +kernel
theorem dX12_draw_31 : decode cX12_draw 31 = .ok (.irem, 1) := by decide +kernel
theorem dX12_draw_32 : decode cX12_draw 32 = .ok (.ireturn, 1) := by decide +kernel
abbrev nd_X12_draw : List Nat := [100, 101]
abbrev ld_X12_draw : List (Nat × Nat) := [(100, 0)]
def f_X12_draw  (x1 : Int32) (h : zH) : zR := (zst (zup h 101 7 (((1664525 : Int32) * (h 101 7)) + (1013904223 : Int32))) fun h1 => (znz x1 (some (((Int32.toUInt32 (h1 101 7) >>> (Int32.toUInt32 (8 : Int32) &&& Int32.toUInt32 31)).toInt32 - (Int32.toUInt32 (h1 101 7) >>> (Int32.toUInt32 (8 : Int32) &&& Int32.toUInt32 31)).toInt32 / x1 * x1), h1))))
variable {p : Program} {l : Launch} {e : Env} {s : State} {m : MethodId} {args : Array Value} {below : List Frame} {meth : Method} {c : Code} {G : zG} {q : Int32 × zH}
set_option maxHeartbeats 4000000 in
set_option maxRecDepth 100000 in
theorem c_X12_draw (l : Launch) (G : zG) (h : zH) (x1 : Int32) (q : Int32 × zH) (hm : ∀ c ∈ nd_X12_draw, c ∈ znm G) (hk : ∀ q ∈ ld_X12_draw, zlk G q.1 q.2 = true) (hf : f_X12_draw x1 h = some q) : zCtI l yX12_draw cX12_draw 2 (some .int) (2) [.ref (zal G 100), .int x1] G h q.2 q.1 := by
  refine zMetI (by decide) (Nat.le_of_ble_eq_true rfl) ?_
  intro p e s m below meth c ls C hl hS
  have hl : lv_has ls 2 [(0, .ref (zal G 100)), (1, .int x1)] := hl
  have C : zC G p s m [.ref (zal G 100), .int x1].toArray meth c cX12_draw 2 RX12 (some .int) := C
  unfold f_X12_draw at hf
  refine lv_aload_n C.1 C.2.1 dX12_draw_0 rfl (lv_at hl 0 rfl) ?_
  refine zgetR C hS ff_X12_7_100 (hm 100 (by decide)) (hk (100, 0) (by decide)) dX12_draw_1 ?_
  refine lv_bipush (v := (7 : Int32)) C.1 C.2.1 dX12_draw_4 rfl ?_
  refine zldc C kw_1486 dX12_draw_6 ?_
  refine lv_aload_n C.1 C.2.1 dX12_draw_8 rfl (lv_at hl 0 rfl) ?_
  refine zgetR C hS ff_X12_7_100 (hm 100 (by decide)) (hk (100, 0) (by decide)) dX12_draw_9 ?_
  refine lv_bipush (v := (7 : Int32)) C.1 C.2.1 dX12_draw_12 rfl ?_
  refine zald C hS sh_101 (hm 101 (by decide)) (vp_in_iff.mpr (by decide)) dX12_draw_14 ?_
  refine lv_imul C.1 C.2.1 dX12_draw_15 ?_
  refine zldc C kw_1487 dX12_draw_16 ?_
  refine lv_iadd C.1 C.2.1 dX12_draw_18 ?_
  refine zast C hS sh_101 (hm 101 (by decide)) (vp_in_iff.mpr (by decide)) dX12_draw_19 (fun H locs hS => ?_)
  obtain ⟨h1, eh1, hf⟩ := zst_some hf
  have hS : zS G h1 s.heap H locs := by rw [eh1]; exact hS
  refine lv_aload_n C.1 C.2.1 dX12_draw_20 rfl (lv_at hl 0 rfl) ?_
  refine zgetR C hS ff_X12_7_100 (hm 100 (by decide)) (hk (100, 0) (by decide)) dX12_draw_21 ?_
  refine lv_bipush (v := (7 : Int32)) C.1 C.2.1 dX12_draw_24 rfl ?_
  refine zald C hS sh_101 (hm 101 (by decide)) (vp_in_iff.mpr (by decide)) dX12_draw_26 ?_
  refine lv_bipush (v := (8 : Int32)) C.1 C.2.1 dX12_draw_27 rfl ?_
  refine lv_iushr C.1 C.2.1 dX12_draw_29 rfl ?_
  refine lv_iload_n C.1 C.2.1 dX12_draw_30 rfl (lv_at hl 1 rfl) ?_
  obtain ⟨hz, hf⟩ := znz_some hf
  refine lv_irem C.1 C.2.1 dX12_draw_31 hz ?_
  exact zretI C hS hf dX12_draw_32
end
section
theorem dX12_anEvening_0 : decode cX12_anEvening 0 = .ok (.iconst 0, 1) := by decide +kernel
theorem dX12_anEvening_1 : decode cX12_anEvening 1 = .ok (.istore_n 1, 1) := by decide +kernel
theorem dX12_anEvening_2 : decode cX12_anEvening 2 = .ok (.iconst 0, 1) := by decide +kernel
theorem dX12_anEvening_3 : decode cX12_anEvening 3 = .ok (.istore_n 2, 1) := by decide +kernel
theorem dX12_anEvening_4 : decode cX12_anEvening 4 = .ok (.iload_n 2, 1) := by decide +kernel
theorem dX12_anEvening_5 : decode cX12_anEvening 5 = .ok (.aload_n 0, 1) := by decide +kernel
theorem dX12_anEvening_6 : decode cX12_anEvening 6 = .ok (.getfield 7, 3) := by decide +kernel
theorem dX12_anEvening_9 : decode cX12_anEvening 9 = .ok (.iconst 0, 1) := by decide +kernel
theorem dX12_anEvening_10 : decode cX12_anEvening 10 = .ok (.iaload, 1) := by decide +kernel
theorem dX12_anEvening_11 : decode cX12_anEvening 11 = .ok (.if_icmp .ge 169, 3) := by decide +kernel
theorem dX12_anEvening_14 : decode cX12_anEvening 14 = .ok (.aload_n 0, 1) := by decide +kernel
theorem dX12_anEvening_15 : decode cX12_anEvening 15 = .ok (.iload_n 2, 1) := by decide +kernel
theorem dX12_anEvening_16 : decode cX12_anEvening 16 = .ok (.invokevirtual 281, 3) := by decide +kernel
theorem dX12_anEvening_19 : decode cX12_anEvening 19 = .ok (.ifCond .ne 6, 3) := by decide +kernel
theorem dX12_anEvening_22 : decode cX12_anEvening 22 = .ok (.goto 152, 3) := by decide +kernel
theorem dX12_anEvening_25 : decode cX12_anEvening 25 = .ok (.aload_n 0, 1) := by decide +kernel
theorem dX12_anEvening_26 : decode cX12_anEvening 26 = .ok (.getfield 7, 3) := by decide +kernel
theorem dX12_anEvening_29 : decode cX12_anEvening 29 = .ok (.iconst 2, 1) := by decide +kernel
theorem dX12_anEvening_30 : decode cX12_anEvening 30 = .ok (.iaload, 1) := by decide +kernel
theorem dX12_anEvening_31 : decode cX12_anEvening 31 = .ok (.ifCond .le 23, 3) := by decide +kernel
theorem dX12_anEvening_34 : decode cX12_anEvening 34 = .ok (.aload_n 0, 1) := by decide +kernel
theorem dX12_anEvening_35 : decode cX12_anEvening 35 = .ok (.sipush 1000, 3) := by decide +kernel
theorem dX12_anEvening_38 : decode cX12_anEvening 38 = .ok (.invokevirtual 287, 3) := by decide +kernel
theorem dX12_anEvening_41 : decode cX12_anEvening 41 = .ok (.aload_n 0, 1) := by decide +kernel
theorem dX12_anEvening_42 : decode cX12_anEvening 42 = .ok (.getfield 7, 3) := by decide +kernel
theorem dX12_anEvening_45 : decode cX12_anEvening 45 = .ok (.iconst 2, 1) := by decide +kernel
theorem dX12_anEvening_46 : decode cX12_anEvening 46 = .ok (.iaload, 1) := by decide +kernel
theorem dX12_anEvening_47 : decode cX12_anEvening 47 = .ok (.if_icmp .ge 7, 3) := by decide +kernel
theorem dX12_anEvening_50 : decode cX12_anEvening 50 = .ok (.iconst 1, 1) := by decide +kernel
theorem dX12_anEvening_51 : decode cX12_anEvening 51 = .ok (.goto 4, 3) := by decide +kernel
theorem dX12_anEvening_54 : decode cX12_anEvening 54 = .ok (.iconst 0, 1) := by decide +kernel
theorem dX12_anEvening_55 : decode cX12_anEvening 55 = .ok (.istore_n 3, 1) := by decide +kernel
theorem dX12_anEvening_56 : decode cX12_anEvening 56 = .ok (.iload_n 3, 1) := by decide +kernel
theorem dX12_anEvening_57 : decode cX12_anEvening 57 = .ok (.ifCond .eq 7, 3) := by decide +kernel
theorem dX12_anEvening_60 : decode cX12_anEvening 60 = .ok (.iconst 0, 1) := by decide +kernel
theorem dX12_anEvening_61 : decode cX12_anEvening 61 = .ok (.goto 7, 3) := by decide +kernel
theorem dX12_anEvening_64 : decode cX12_anEvening 64 = .ok (.aload_n 0, 1) := by decide +kernel
theorem dX12_anEvening_65 : decode cX12_anEvening 65 = .ok (.getfield 256, 3) := by decide +kernel
theorem dX12_anEvening_68 : decode cX12_anEvening 68 = .ok (.istore 4, 2) := by decide +kernel
theorem dX12_anEvening_70 : decode cX12_anEvening 70 = .ok (.aload_n 0, 1) := by decide +kernel
theorem dX12_anEvening_71 : decode cX12_anEvening 71 = .ok (.invokevirtual 284, 3) := by decide +kernel
theorem dX12_anEvening_74 : decode cX12_anEvening 74 = .ok (.aload_n 0, 1) := by decide +kernel
theorem dX12_anEvening_75 : decode cX12_anEvening 75 = .ok (.iload_n 2, 1) := by decide +kernel
theorem dX12_anEvening_76 : decode cX12_anEvening 76 = .ok (.invokevirtual 112, 3) := by decide +kernel
theorem dX12_anEvening_79 : decode cX12_anEvening 79 = .ok (.istore 5, 2) := by decide +kernel
theorem dX12_anEvening_81 : decode cX12_anEvening 81 = .ok (.aload_n 0, 1) := by decide +kernel
theorem dX12_anEvening_82 : decode cX12_anEvening 82 = .ok (.aload_n 0, 1) := by decide +kernel
theorem dX12_anEvening_83 : decode cX12_anEvening 83 = .ok (.getfield 278, 3) := by decide +kernel
theorem dX12_anEvening_86 : decode cX12_anEvening 86 = .ok (.iload 5, 2) := by decide +kernel
theorem dX12_anEvening_88 : decode cX12_anEvening 88 = .ok (.if_icmp .ne 20, 3) := by decide +kernel
theorem dX12_anEvening_91 : decode cX12_anEvening 91 = .ok (.aload_n 0, 1) := by decide +kernel
theorem dX12_anEvening_92 : decode cX12_anEvening 92 = .ok (.iload_n 2, 1) := by decide +kernel
theorem dX12_anEvening_93 : decode cX12_anEvening 93 = .ok (.iconst 1, 1) := by decide +kernel
theorem dX12_anEvening_94 : decode cX12_anEvening 94 = .ok (.iadd, 1) := by decide +kernel
theorem dX12_anEvening_95 : decode cX12_anEvening 95 = .ok (.aload_n 0, 1) := by decide +kernel
theorem dX12_anEvening_96 : decode cX12_anEvening 96 = .ok (.getfield 7, 3) := by decide +kernel
theorem dX12_anEvening_99 : decode cX12_anEvening 99 = .ok (.iconst 0, 1) := by decide +kernel
theorem dX12_anEvening_100 : decode cX12_anEvening 100 = .ok (.iaload, 1) := by decide +kernel
theorem dX12_anEvening_101 : decode cX12_anEvening 101 = .ok (.irem, 1) := by decide +kernel
theorem dX12_anEvening_102 : decode cX12_anEvening 102 = .ok (.invokevirtual 112, 3) := by decide +kernel
theorem dX12_anEvening_105 : decode cX12_anEvening 105 = .ok (.goto 5, 3) := by decide +kernel
theorem dX12_anEvening_108 : decode cX12_anEvening 108 = .ok (.iload 5, 2) := by decide +kernel
theorem dX12_anEvening_110 : decode cX12_anEvening 110 = .ok (.iload 4, 2) := by decide +kernel
theorem dX12_anEvening_112 : decode cX12_anEvening 112 = .ok (.invokevirtual 290, 3) := by decide +kernel
theorem dX12_anEvening_115 : decode cX12_anEvening 115 = .ok (.iconst 0, 1) := by decide +kernel
theorem dX12_anEvening_116 : decode cX12_anEvening 116 = .ok (.istore 6, 2) := by decide +kernel
theorem dX12_anEvening_118 : decode cX12_anEvening 118 = .ok (.iload 6, 2) := by decide +kernel
theorem dX12_anEvening_120 : decode cX12_anEvening 120 = .ok (.bipush 6, 2) := by decide +kernel
theorem dX12_anEvening_122 : decode cX12_anEvening 122 = .ok (.if_icmp .ge 47, 3) := by decide +kernel
theorem dX12_anEvening_125 : decode cX12_anEvening 125 = .ok (.aload_n 0, 1) := by decide +kernel
theorem dX12_anEvening_126 : decode cX12_anEvening 126 = .ok (.getfield 7, 3) := by decide +kernel
theorem dX12_anEvening_129 : decode cX12_anEvening 129 = .ok (.sipush 200, 3) := by decide +kernel
theorem dX12_anEvening_132 : decode cX12_anEvening 132 = .ok (.iload 6, 2) := by decide +kernel
theorem dX12_anEvening_134 : decode cX12_anEvening 134 = .ok (.iadd, 1) := by decide +kernel
theorem dX12_anEvening_135 : decode cX12_anEvening 135 = .ok (.dup2, 1) := by decide +kernel
theorem dX12_anEvening_136 : decode cX12_anEvening 136 = .ok (.iaload, 1) := by decide +kernel
theorem dX12_anEvening_137 : decode cX12_anEvening 137 = .ok (.iload 4, 2) := by decide +kernel
theorem dX12_anEvening_139 : decode cX12_anEvening 139 = .ok (.aload_n 0, 1) := by decide +kernel
theorem dX12_anEvening_140 : decode cX12_anEvening 140 = .ok (.aload_n 0, 1) := by decide +kernel
theorem dX12_anEvening_141 : decode cX12_anEvening 141 = .ok (.getfield 272, 3) := by decide +kernel
theorem dX12_anEvening_144 : decode cX12_anEvening 144 = .ok (.iload 6, 2) := by decide +kernel
theorem dX12_anEvening_146 : decode cX12_anEvening 146 = .ok (.invokevirtual 88, 3) := by decide +kernel
theorem dX12_anEvening_149 : decode cX12_anEvening 149 = .ok (.aload_n 0, 1) := by decide +kernel
theorem dX12_anEvening_150 : decode cX12_anEvening 150 = .ok (.aload_n 0, 1) := by decide +kernel
theorem dX12_anEvening_151 : decode cX12_anEvening 151 = .ok (.getfield 275, 3) := by decide +kernel
theorem dX12_anEvening_154 : decode cX12_anEvening 154 = .ok (.iload 6, 2) := by decide +kernel
theorem dX12_anEvening_156 : decode cX12_anEvening 156 = .ok (.invokevirtual 88, 3) := by decide +kernel
theorem dX12_anEvening_159 : decode cX12_anEvening 159 = .ok (.iadd, 1) := by decide +kernel
theorem dX12_anEvening_160 : decode cX12_anEvening 160 = .ok (.imul, 1) := by decide +kernel
theorem dX12_anEvening_161 : decode cX12_anEvening 161 = .ok (.iadd, 1) := by decide +kernel
theorem dX12_anEvening_162 : decode cX12_anEvening 162 = .ok (.iastore, 1) := by decide +kernel
theorem dX12_anEvening_163 : decode cX12_anEvening 163 = .ok (.iinc 6 1, 3) := by decide +kernel
theorem dX12_anEvening_166 : decode cX12_anEvening 166 = .ok (.goto (-48), 3) := by decide +kernel
theorem dX12_anEvening_169 : decode cX12_anEvening 169 = .ok (.iload_n 1, 1) := by decide +kernel
theorem dX12_anEvening_170 : decode cX12_anEvening 170 = .ok (.iload 4, 2) := by decide +kernel
theorem dX12_anEvening_172 : decode cX12_anEvening 172 = .ok (.iadd, 1) := by decide +kernel
theorem dX12_anEvening_173 : decode cX12_anEvening 173 = .ok (.istore_n 1, 1) := by decide +kernel
theorem dX12_anEvening_174 : decode cX12_anEvening 174 = .ok (.iinc 2 1, 3) := by decide +kernel
theorem dX12_anEvening_177 : decode cX12_anEvening 177 = .ok (.goto (-173), 3) := by decide +kernel
theorem dX12_anEvening_180 : decode cX12_anEvening 180 = .ok (.aload_n 0, 1) := by decide +kernel
theorem dX12_anEvening_181 : decode cX12_anEvening 181 = .ok (.getfield 7, 3) := by decide +kernel
theorem dX12_anEvening_184 : decode cX12_anEvening 184 = .ok (.iconst 5, 1) := by decide +kernel
theorem dX12_anEvening_185 : decode cX12_anEvening 185 = .ok (.dup2, 1) := by decide +kernel
theorem dX12_anEvening_186 : decode cX12_anEvening 186 = .ok (.iaload, 1) := by decide +kernel
theorem dX12_anEvening_187 : decode cX12_anEvening 187 = .ok (.iconst 1, 1) := by decide +kernel
theorem dX12_anEvening_188 : decode cX12_anEvening 188 = .ok (.iadd, 1) := by decide +kernel
theorem dX12_anEvening_189 : decode cX12_anEvening 189 = .ok (.iastore, 1) := by decide +kernel
theorem dX12_anEvening_190 : decode cX12_anEvening 190 = .ok (.iload_n 1, 1) := by decide +kernel
theorem dX12_anEvening_191 : decode cX12_anEvening 191 = .ok (.ireturn, 1) := by decide +kernel
abbrev nd_X12_anEvening : List Nat := [100, 101, 108, 109]
abbrev ld_X12_anEvening : List (Nat × Nat) := [(100, 0), (100, 9), (100, 10)]
theorem sn_X12_anEvening_X12_laysTelling : ∀ c ∈ nd_X12_laysTelling, c ∈ nd_X12_anEvening := by decide
theorem sl_X12_anEvening_X12_laysTelling : ∀ q ∈ ld_X12_laysTelling, q ∈ ld_X12_anEvening := by decide
theorem sn_X12_anEvening_X12_isTold : ∀ c ∈ nd_X12_isTold, c ∈ nd_X12_anEvening := by decide
theorem sl_X12_anEvening_X12_isTold : ∀ q ∈ ld_X12_isTold, q ∈ ld_X12_anEvening := by decide
theorem sn_X12_anEvening_X12_guestAt : ∀ c ∈ nd_X12_guestAt, c ∈ nd_X12_anEvening := by decide
theorem sl_X12_anEvening_X12_guestAt : ∀ q ∈ ld_X12_guestAt, q ∈ ld_X12_anEvening := by decide
theorem sn_X12_anEvening_X12_writes : ∀ c ∈ nd_X12_writes, c ∈ nd_X12_anEvening := by decide
theorem sl_X12_anEvening_X12_writes : ∀ q ∈ ld_X12_writes, q ∈ ld_X12_anEvening := by decide
theorem sn_X12_anEvening_X12_quarters : ∀ c ∈ nd_X12_quarters, c ∈ nd_X12_anEvening := by decide
theorem sl_X12_anEvening_X12_quarters : ∀ q ∈ ld_X12_quarters, q ∈ ld_X12_anEvening := by decide
theorem sn_X12_anEvening_X12_draw : ∀ c ∈ nd_X12_draw, c ∈ nd_X12_anEvening := by decide
theorem sl_X12_anEvening_X12_draw : ∀ q ∈ ld_X12_draw, q ∈ ld_X12_anEvening := by decide
def f_X12_anEvening_174 (k4 : Int32 → Int32 → zH → zR) (x1 : Int32) (x2 : Int32) (h : zH) : zR := (zlt (x2 + (1 : Int32)) fun y11 => (k4 x1 y11 h))
def f_X12_anEvening_118 (k4 : Int32 → Int32 → zH → zR) : Nat → Int32 → Int32 → Int32 → Int32 → zH → zR
  | 0 => fun _ _ _ _ _ => none
  | n + 1 => fun x1 x2 x4 x6 h => (if (6 : Int32) ≤ x6 then (zlt (x1 + x4) fun y10 => (f_X12_anEvening_174 k4 y10 x2 h)) else (zck ((200 : Int32) + x6) 2220 (zbd (f_X12_quarters (h 100 23) x6 h) fun r12 h13 => (zbd (f_X12_quarters (h13 100 24) x6 h13) fun r14 h15 => (zck ((200 : Int32) + x6) 2220 (zst (zup h15 101 (Int32.toNatClampNeg ((200 : Int32) + x6)) ((h 101 (Int32.toNatClampNeg ((200 : Int32) + x6))) + (x4 * (r12 + r14)))) fun h16 => (zlt (x6 + (1 : Int32)) fun y17 => (f_X12_anEvening_118 k4 n x1 x2 x4 y17 h16))))))))
def f_X12_anEvening_110 (k4 : Int32 → Int32 → zH → zR) (x1 : Int32) (x2 : Int32) (x4 : Int32) (s0 : Int32) (h : zH) : zR := (zbd (f_X12_writes s0 x4 h) fun r8 h9 => (f_X12_anEvening_118 k4 zN x1 x2 x4 (0 : Int32) h9))
def f_X12_anEvening_68 (k4 : Int32 → Int32 → zH → zR) (x1 : Int32) (x2 : Int32) (s0 : Int32) (h : zH) : zR := (zbd (f_X12_isTold  h) fun r4 h5 => (zbd (f_X12_guestAt x2 h5) fun r6 h7 => (if (h7 100 25) = r6 then (znz (h7 101 0) (zbd (f_X12_guestAt ((x2 + (1 : Int32)) - (x2 + (1 : Int32)) / (h7 101 0) * (h7 101 0)) h7) fun r18 h19 => (f_X12_anEvening_110 k4 x1 x2 s0 r18 h19))) else (f_X12_anEvening_110 k4 x1 x2 s0 r6 h7))))
def f_X12_anEvening_55 (k4 : Int32 → Int32 → zH → zR) (x1 : Int32) (x2 : Int32) (s0 : Int32) (h : zH) : zR := (if s0 = 0 then (f_X12_anEvening_68 k4 x1 x2 (h 100 26) h) else (f_X12_anEvening_68 k4 x1 x2 (0 : Int32) h))
def f_X12_anEvening_54 (k4 : Int32 → Int32 → zH → zR) (x1 : Int32) (x2 : Int32) (h : zH) : zR := (f_X12_anEvening_55 k4 x1 x2 (0 : Int32) h)
def f_X12_anEvening_4  : Nat → Int32 → Int32 → zH → zR
  | 0 => fun _ _ _ => none
  | n + 1 => fun x1 x2 h => (if (h 101 0) ≤ x2 then (zst (zup h 101 5 ((h 101 5) + (1 : Int32))) fun h1 => (some (x1, h1))) else (zbd (f_X12_laysTelling x2 h) fun r2 h3 => (if r2 = 0 then (f_X12_anEvening_174 (f_X12_anEvening_4  n) x1 x2 h3) else (if (h3 101 2) ≤ 0 then (f_X12_anEvening_54 (f_X12_anEvening_4  n) x1 x2 h3) else (zbd (f_X12_draw (1000 : Int32) h3) fun r20 h21 => (if (h21 101 2) ≤ r20 then (f_X12_anEvening_54 (f_X12_anEvening_4  n) x1 x2 h21) else (f_X12_anEvening_55 (f_X12_anEvening_4  n) x1 x2 (1 : Int32) h21)))))))
def f_X12_anEvening  (h : zH) : zR := (f_X12_anEvening_4  zN (0 : Int32) (0 : Int32) h)
variable {p : Program} {l : Launch} {e : Env} {s : State} {m : MethodId} {args : Array Value} {below : List Frame} {meth : Method} {c : Code} {G : zG} {q : Int32 × zH}
set_option maxHeartbeats 4000000 in
set_option maxRecDepth 100000 in
theorem w_X12_anEvening_174 {k4 : Int32 → Int32 → zH → zR} (C : zC G p s m args meth c cX12_anEvening 7 RX12 (some .int)) (hm : ∀ c ∈ nd_X12_anEvening, c ∈ znm G) (hk : ∀ q ∈ ld_X12_anEvening, zlk G q.1 q.2 = true) (hk4 : ∀ (ls : Array Slot) (H : Heap) (locs : List Loc) (h : zH) (x1 : Int32) (x2 : Int32), lv_has ls 7 [(0, .ref (zal G 100)), (1, .int x1), (2, .int x2)] → zS G h s.heap H locs → k4 x1 x2 h = some q → W p l e (zrm (7)) s m args below meth c H locs 0 0 (MQ below (zQI G q.2 q.1) args s 0 0 (zA G)) (F0 m 4 ls [])) : ∀ (ls : Array Slot) (H : Heap) (locs : List Loc) (h : zH) (x1 : Int32) (x2 : Int32), lv_has ls 7 [(0, .ref (zal G 100)), (1, .int x1), (2, .int x2)] → zS G h s.heap H locs → f_X12_anEvening_174 k4 x1 x2 h = some q → W p l e (zrm (7)) s m args below meth c H locs 0 0 (MQ below (zQI G q.2 q.1) args s 0 0 (zA G)) (F0 m 174 ls []) := by
  intro ls H locs h x1 x2 hl hS hf
  unfold f_X12_anEvening_174 at hf
  obtain ⟨y11, ey11, hf⟩ := zlt_some hf
  refine lv_iinc (v := y11) (lv' := [(2, .int y11), (0, .ref (zal G 100)), (1, .int x1)]) C.1 C.2.1 dX12_anEvening_174 hl (k := 2) rfl ey11.symm (by decide) rfl (fun ls hl => ?_)
  refine lv_goto (tgt := 4) C.1 C.2.1 dX12_anEvening_177 (by decide) ?_
  exact hk4 _ _ _ _ _ _ (lv_sub hl [1, 2, 0] rfl) hS hf
set_option maxHeartbeats 4000000 in
set_option maxRecDepth 100000 in
theorem w_X12_anEvening_118 {k4 : Int32 → Int32 → zH → zR} (C : zC G p s m args meth c cX12_anEvening 7 RX12 (some .int)) (hm : ∀ c ∈ nd_X12_anEvening, c ∈ znm G) (hk : ∀ q ∈ ld_X12_anEvening, zlk G q.1 q.2 = true) (hk4 : ∀ (ls : Array Slot) (H : Heap) (locs : List Loc) (h : zH) (x1 : Int32) (x2 : Int32), lv_has ls 7 [(0, .ref (zal G 100)), (1, .int x1), (2, .int x2)] → zS G h s.heap H locs → k4 x1 x2 h = some q → W p l e (zrm (7)) s m args below meth c H locs 0 0 (MQ below (zQI G q.2 q.1) args s 0 0 (zA G)) (F0 m 4 ls [])) : ∀ n, ∀ (ls : Array Slot) (H : Heap) (locs : List Loc) (h : zH) (x1 : Int32) (x2 : Int32) (x4 : Int32) (x6 : Int32), lv_has ls 7 [(0, .ref (zal G 100)), (1, .int x1), (2, .int x2), (4, .int x4), (6, .int x6)] → zS G h s.heap H locs → f_X12_anEvening_118 k4 n x1 x2 x4 x6 h = some q → W p l e (zrm (7)) s m args below meth c H locs 0 0 (MQ below (zQI G q.2 q.1) args s 0 0 (zA G)) (F0 m 118 ls []) := by
  intro n
  induction n with
  | zero => intro ls H locs h x1 x2 x4 x6 hl hS hf; cases hf
  | succ n ih =>
    intro ls H locs h x1 x2 x4 x6 hl hS hf
    rw [f_X12_anEvening_118] at hf
    refine lv_iload C.1 C.2.1 dX12_anEvening_118 (lv_at hl 4 rfl) ?_
    refine lv_bipush (v := (6 : Int32)) C.1 C.2.1 dX12_anEvening_120 rfl ?_
    refine lv_icmp_ge (tgt := 169) C.1 C.2.1 dX12_anEvening_122 (by decide) (fun hc => ?_) (fun hc => ?_)
    · have hf := zif_t hc hf
      refine lv_iload_n C.1 C.2.1 dX12_anEvening_169 rfl (lv_at hl 1 rfl) ?_
      refine lv_iload C.1 C.2.1 dX12_anEvening_170 (lv_at hl 3 rfl) ?_
      refine lv_iadd C.1 C.2.1 dX12_anEvening_172 ?_
      obtain ⟨y10, ey10, hf⟩ := zlt_some hf
      refine ztop ey10 ?_
      refine lv_istore_n (lv' := [(1, .int y10), (0, .ref (zal G 100)), (2, .int x2), (4, .int x4), (6, .int x6)]) C.1 C.2.1 dX12_anEvening_173 rfl hl (by decide) rfl (fun ls hl => ?_)
      exact w_X12_anEvening_174 C hm hk hk4 _ _ _ _ _ _ (lv_sub hl [1, 0, 2] rfl) hS hf
    · have hf := zif_f hc hf
      refine lv_aload_n C.1 C.2.1 dX12_anEvening_125 rfl (lv_at hl 0 rfl) ?_
      refine zgetR C hS ff_X12_7_100 (hm 100 (by decide)) (hk (100, 0) (by decide)) dX12_anEvening_126 ?_
      refine lv_sipush (v := (200 : Int32)) C.1 C.2.1 dX12_anEvening_129 rfl ?_
      refine lv_iload C.1 C.2.1 dX12_anEvening_132 (lv_at hl 4 rfl) ?_
      refine lv_iadd C.1 C.2.1 dX12_anEvening_134 ?_
      refine lv_dup2_11 C.1 C.2.1 dX12_anEvening_135 rfl rfl ?_
      obtain ⟨hi, hf⟩ := zck_some hf
      refine zald C hS sh_101 (hm 101 (by decide)) hi dX12_anEvening_136 ?_
      refine lv_iload C.1 C.2.1 dX12_anEvening_137 (lv_at hl 3 rfl) ?_
      refine lv_aload_n C.1 C.2.1 dX12_anEvening_139 rfl (lv_at hl 0 rfl) ?_
      refine lv_aload_n C.1 C.2.1 dX12_anEvening_140 rfl (lv_at hl 0 rfl) ?_
      refine zgetI C hS ff_X12_272_100 (hm 100 (by decide)) dX12_anEvening_141 ?_
      refine lv_iload C.1 C.2.1 dX12_anEvening_144 (lv_at hl 4 rfl) ?_
      obtain ⟨r12, h13, er12, hf⟩ := zbd_some hf
      refine zcallVI (As := [.int (h 100 23), .int x6]) (rest := [.int x4, .int (h 101 (Int32.toNatClampNeg ((200 : Int32) + x6))), .int ((200 : Int32) + x6), .ref (zal G 101)]) C hS mv_X12_88 (c_X12_quarters l G h (h 100 23) x6 (r12, h13) (fun c h => hm c (sn_X12_anEvening_X12_quarters c h)) (fun q h => hk q (sl_X12_anEvening_X12_quarters q h)) er12) (hm 100 (by decide)) ⟨_, _, _, sh_100, rfl, rfl⟩ rfl rfl (Nat.le_of_ble_eq_true rfl) hl.1 ⟨Nat.le_of_ble_eq_true rfl, Nat.le_of_ble_eq_true rfl, Nat.le_of_ble_eq_true rfl, Nat.le_of_ble_eq_true rfl⟩ dX12_anEvening_146 (fun H locs hS => ?_)
      refine lv_aload_n C.1 C.2.1 dX12_anEvening_149 rfl (lv_at hl 0 rfl) ?_
      refine lv_aload_n C.1 C.2.1 dX12_anEvening_150 rfl (lv_at hl 0 rfl) ?_
      refine zgetI C hS ff_X12_275_100 (hm 100 (by decide)) dX12_anEvening_151 ?_
      refine lv_iload C.1 C.2.1 dX12_anEvening_154 (lv_at hl 4 rfl) ?_
      obtain ⟨r14, h15, er14, hf⟩ := zbd_some hf
      refine zcallVI (As := [.int (h13 100 24), .int x6]) (rest := [.int r12, .int x4, .int (h 101 (Int32.toNatClampNeg ((200 : Int32) + x6))), .int ((200 : Int32) + x6), .ref (zal G 101)]) C hS mv_X12_88 (c_X12_quarters l G h13 (h13 100 24) x6 (r14, h15) (fun c h => hm c (sn_X12_anEvening_X12_quarters c h)) (fun q h => hk q (sl_X12_anEvening_X12_quarters q h)) er14) (hm 100 (by decide)) ⟨_, _, _, sh_100, rfl, rfl⟩ rfl rfl (Nat.le_of_ble_eq_true rfl) hl.1 ⟨Nat.le_of_ble_eq_true rfl, Nat.le_of_ble_eq_true rfl, Nat.le_of_ble_eq_true rfl, Nat.le_of_ble_eq_true rfl⟩ dX12_anEvening_156 (fun H locs hS => ?_)
      refine lv_iadd C.1 C.2.1 dX12_anEvening_159 ?_
      refine lv_imul C.1 C.2.1 dX12_anEvening_160 ?_
      refine lv_iadd C.1 C.2.1 dX12_anEvening_161 ?_
      obtain ⟨hi, hf⟩ := zck_some hf
      refine zast C hS sh_101 (hm 101 (by decide)) hi dX12_anEvening_162 (fun H locs hS => ?_)
      obtain ⟨h16, eh16, hf⟩ := zst_some hf
      have hS : zS G h16 s.heap H locs := by rw [eh16]; exact hS
      obtain ⟨y17, ey17, hf⟩ := zlt_some hf
      refine lv_iinc (v := y17) (lv' := [(6, .int y17), (0, .ref (zal G 100)), (1, .int x1), (2, .int x2), (4, .int x4)]) C.1 C.2.1 dX12_anEvening_163 hl (k := 4) rfl ey17.symm (by decide) rfl (fun ls hl => ?_)
      refine lv_goto (tgt := 118) C.1 C.2.1 dX12_anEvening_166 (by decide) ?_
      exact ih _ _ _ _ _ _ _ _ (lv_sub hl [1, 2, 3, 4, 0] rfl) hS hf
set_option maxHeartbeats 4000000 in
set_option maxRecDepth 100000 in
theorem w_X12_anEvening_110 {k4 : Int32 → Int32 → zH → zR} (C : zC G p s m args meth c cX12_anEvening 7 RX12 (some .int)) (hm : ∀ c ∈ nd_X12_anEvening, c ∈ znm G) (hk : ∀ q ∈ ld_X12_anEvening, zlk G q.1 q.2 = true) (hk4 : ∀ (ls : Array Slot) (H : Heap) (locs : List Loc) (h : zH) (x1 : Int32) (x2 : Int32), lv_has ls 7 [(0, .ref (zal G 100)), (1, .int x1), (2, .int x2)] → zS G h s.heap H locs → k4 x1 x2 h = some q → W p l e (zrm (7)) s m args below meth c H locs 0 0 (MQ below (zQI G q.2 q.1) args s 0 0 (zA G)) (F0 m 4 ls [])) : ∀ (ls : Array Slot) (H : Heap) (locs : List Loc) (h : zH) (x1 : Int32) (x2 : Int32) (x4 : Int32) (s0 : Int32), lv_has ls 7 [(0, .ref (zal G 100)), (1, .int x1), (2, .int x2), (4, .int x4)] → zS G h s.heap H locs → f_X12_anEvening_110 k4 x1 x2 x4 s0 h = some q → W p l e (zrm (7)) s m args below meth c H locs 0 0 (MQ below (zQI G q.2 q.1) args s 0 0 (zA G)) (F0 m 110 ls [.int s0, .ref (zal G 100)]) := by
  intro ls H locs h x1 x2 x4 s0 hl hS hf
  unfold f_X12_anEvening_110 at hf
  refine lv_iload C.1 C.2.1 dX12_anEvening_110 (lv_at hl 3 rfl) ?_
  obtain ⟨r8, h9, er8, hf⟩ := zbd_some hf
  refine zcallVV (As := [.int s0, .int x4]) (rest := []) C hS mv_X12_290 (c_X12_writes l G h s0 x4 (r8, h9) (fun c h => hm c (sn_X12_anEvening_X12_writes c h)) (fun q h => hk q (sl_X12_anEvening_X12_writes q h)) er8) (hm 100 (by decide)) ⟨_, _, _, sh_100, rfl, rfl⟩ rfl rfl (Nat.le_of_ble_eq_true rfl) hl.1 ⟨Nat.le_of_ble_eq_true rfl, Nat.le_of_ble_eq_true rfl, Nat.le_of_ble_eq_true rfl, Nat.le_of_ble_eq_true rfl⟩ dX12_anEvening_112 (fun H locs hS => ?_)
  refine lv_iconst (v := (0 : Int32)) C.1 C.2.1 dX12_anEvening_115 rfl ?_
  refine lv_istore (lv' := [(6, .int (0 : Int32)), (0, .ref (zal G 100)), (1, .int x1), (2, .int x2), (4, .int x4)]) C.1 C.2.1 dX12_anEvening_116 hl (by decide) rfl (fun ls hl => ?_)
  exact w_X12_anEvening_118 C hm hk hk4 zN _ _ _ _ _ _ _ _ (lv_sub hl [1, 2, 3, 4, 0] rfl) hS hf
set_option maxHeartbeats 4000000 in
set_option maxRecDepth 100000 in
theorem w_X12_anEvening_68 {k4 : Int32 → Int32 → zH → zR} (C : zC G p s m args meth c cX12_anEvening 7 RX12 (some .int)) (hm : ∀ c ∈ nd_X12_anEvening, c ∈ znm G) (hk : ∀ q ∈ ld_X12_anEvening, zlk G q.1 q.2 = true) (hk4 : ∀ (ls : Array Slot) (H : Heap) (locs : List Loc) (h : zH) (x1 : Int32) (x2 : Int32), lv_has ls 7 [(0, .ref (zal G 100)), (1, .int x1), (2, .int x2)] → zS G h s.heap H locs → k4 x1 x2 h = some q → W p l e (zrm (7)) s m args below meth c H locs 0 0 (MQ below (zQI G q.2 q.1) args s 0 0 (zA G)) (F0 m 4 ls [])) : ∀ (ls : Array Slot) (H : Heap) (locs : List Loc) (h : zH) (x1 : Int32) (x2 : Int32) (s0 : Int32), lv_has ls 7 [(0, .ref (zal G 100)), (1, .int x1), (2, .int x2)] → zS G h s.heap H locs → f_X12_anEvening_68 k4 x1 x2 s0 h = some q → W p l e (zrm (7)) s m args below meth c H locs 0 0 (MQ below (zQI G q.2 q.1) args s 0 0 (zA G)) (F0 m 68 ls [.int s0]) := by
  intro ls H locs h x1 x2 s0 hl hS hf
  unfold f_X12_anEvening_68 at hf
  refine lv_istore (lv' := [(4, .int s0), (0, .ref (zal G 100)), (1, .int x1), (2, .int x2)]) C.1 C.2.1 dX12_anEvening_68 hl (by decide) rfl (fun ls hl => ?_)
  refine lv_aload_n C.1 C.2.1 dX12_anEvening_70 rfl (lv_at hl 1 rfl) ?_
  obtain ⟨r4, h5, er4, hf⟩ := zbd_some hf
  refine zcallVV (As := []) (rest := []) C hS mv_X12_284 (c_X12_isTold l G h  (r4, h5) (fun c h => hm c (sn_X12_anEvening_X12_isTold c h)) (fun q h => hk q (sl_X12_anEvening_X12_isTold q h)) er4) (hm 100 (by decide)) ⟨_, _, _, sh_100, rfl, rfl⟩ rfl rfl (Nat.le_of_ble_eq_true rfl) hl.1 ⟨Nat.le_of_ble_eq_true rfl, Nat.le_of_ble_eq_true rfl, Nat.le_of_ble_eq_true rfl, Nat.le_of_ble_eq_true rfl⟩ dX12_anEvening_71 (fun H locs hS => ?_)
  refine lv_aload_n C.1 C.2.1 dX12_anEvening_74 rfl (lv_at hl 1 rfl) ?_
  refine lv_iload_n C.1 C.2.1 dX12_anEvening_75 rfl (lv_at hl 3 rfl) ?_
  obtain ⟨r6, h7, er6, hf⟩ := zbd_some hf
  refine zcallVI (As := [.int x2]) (rest := []) C hS mv_X12_112 (c_X12_guestAt l G h5 x2 (r6, h7) (fun c h => hm c (sn_X12_anEvening_X12_guestAt c h)) (fun q h => hk q (sl_X12_anEvening_X12_guestAt q h)) er6) (hm 100 (by decide)) ⟨_, _, _, sh_100, rfl, rfl⟩ rfl rfl (Nat.le_of_ble_eq_true rfl) hl.1 ⟨Nat.le_of_ble_eq_true rfl, Nat.le_of_ble_eq_true rfl, Nat.le_of_ble_eq_true rfl, Nat.le_of_ble_eq_true rfl⟩ dX12_anEvening_76 (fun H locs hS => ?_)
  refine lv_istore (lv' := [(5, .int r6), (4, .int s0), (0, .ref (zal G 100)), (1, .int x1), (2, .int x2)]) C.1 C.2.1 dX12_anEvening_79 hl (by decide) rfl (fun ls hl => ?_)
  refine lv_aload_n C.1 C.2.1 dX12_anEvening_81 rfl (lv_at hl 2 rfl) ?_
  refine lv_aload_n C.1 C.2.1 dX12_anEvening_82 rfl (lv_at hl 2 rfl) ?_
  refine zgetI C hS ff_X12_278_100 (hm 100 (by decide)) dX12_anEvening_83 ?_
  refine lv_iload C.1 C.2.1 dX12_anEvening_86 (lv_at hl 0 rfl) ?_
  refine lv_icmp_ne (tgt := 108) C.1 C.2.1 dX12_anEvening_88 (by decide) (fun hc => ?_) (fun hc => ?_)
  · have hf := zif_f hc hf
    refine lv_iload C.1 C.2.1 dX12_anEvening_108 (lv_at hl 0 rfl) ?_
    exact w_X12_anEvening_110 C hm hk hk4 _ _ _ _ _ _ _ _ (lv_sub hl [2, 3, 4, 1] rfl) hS hf
  · have hf := zif_t hc hf
    refine lv_aload_n C.1 C.2.1 dX12_anEvening_91 rfl (lv_at hl 2 rfl) ?_
    refine lv_iload_n C.1 C.2.1 dX12_anEvening_92 rfl (lv_at hl 4 rfl) ?_
    refine lv_iconst (v := (1 : Int32)) C.1 C.2.1 dX12_anEvening_93 rfl ?_
    refine lv_iadd C.1 C.2.1 dX12_anEvening_94 ?_
    refine lv_aload_n C.1 C.2.1 dX12_anEvening_95 rfl (lv_at hl 2 rfl) ?_
    refine zgetR C hS ff_X12_7_100 (hm 100 (by decide)) (hk (100, 0) (by decide)) dX12_anEvening_96 ?_
    refine lv_iconst (v := (0 : Int32)) C.1 C.2.1 dX12_anEvening_99 rfl ?_
    refine zald C hS sh_101 (hm 101 (by decide)) (vp_in_iff.mpr (by decide)) dX12_anEvening_100 ?_
    obtain ⟨hz, hf⟩ := znz_some hf
    refine lv_irem C.1 C.2.1 dX12_anEvening_101 hz ?_
    obtain ⟨r18, h19, er18, hf⟩ := zbd_some hf
    refine zcallVI (As := [.int ((x2 + (1 : Int32)) - (x2 + (1 : Int32)) / (h7 101 0) * (h7 101 0))]) (rest := [.ref (zal G 100)]) C hS mv_X12_112 (c_X12_guestAt l G h7 ((x2 + (1 : Int32)) - (x2 + (1 : Int32)) / (h7 101 0) * (h7 101 0)) (r18, h19) (fun c h => hm c (sn_X12_anEvening_X12_guestAt c h)) (fun q h => hk q (sl_X12_anEvening_X12_guestAt q h)) er18) (hm 100 (by decide)) ⟨_, _, _, sh_100, rfl, rfl⟩ rfl rfl (Nat.le_of_ble_eq_true rfl) hl.1 ⟨Nat.le_of_ble_eq_true rfl, Nat.le_of_ble_eq_true rfl, Nat.le_of_ble_eq_true rfl, Nat.le_of_ble_eq_true rfl⟩ dX12_anEvening_102 (fun H locs hS => ?_)
    refine lv_goto (tgt := 110) C.1 C.2.1 dX12_anEvening_105 (by decide) ?_
    exact w_X12_anEvening_110 C hm hk hk4 _ _ _ _ _ _ _ _ (lv_sub hl [2, 3, 4, 1] rfl) hS hf
set_option maxHeartbeats 4000000 in
set_option maxRecDepth 100000 in
theorem w_X12_anEvening_55 {k4 : Int32 → Int32 → zH → zR} (C : zC G p s m args meth c cX12_anEvening 7 RX12 (some .int)) (hm : ∀ c ∈ nd_X12_anEvening, c ∈ znm G) (hk : ∀ q ∈ ld_X12_anEvening, zlk G q.1 q.2 = true) (hk4 : ∀ (ls : Array Slot) (H : Heap) (locs : List Loc) (h : zH) (x1 : Int32) (x2 : Int32), lv_has ls 7 [(0, .ref (zal G 100)), (1, .int x1), (2, .int x2)] → zS G h s.heap H locs → k4 x1 x2 h = some q → W p l e (zrm (7)) s m args below meth c H locs 0 0 (MQ below (zQI G q.2 q.1) args s 0 0 (zA G)) (F0 m 4 ls [])) : ∀ (ls : Array Slot) (H : Heap) (locs : List Loc) (h : zH) (x1 : Int32) (x2 : Int32) (s0 : Int32), lv_has ls 7 [(0, .ref (zal G 100)), (1, .int x1), (2, .int x2)] → zS G h s.heap H locs → f_X12_anEvening_55 k4 x1 x2 s0 h = some q → W p l e (zrm (7)) s m args below meth c H locs 0 0 (MQ below (zQI G q.2 q.1) args s 0 0 (zA G)) (F0 m 55 ls [.int s0]) := by
  intro ls H locs h x1 x2 s0 hl hS hf
  unfold f_X12_anEvening_55 at hf
  refine lv_istore_n (lv' := [(3, .int s0), (0, .ref (zal G 100)), (1, .int x1), (2, .int x2)]) C.1 C.2.1 dX12_anEvening_55 rfl hl (by decide) rfl (fun ls hl => ?_)
  refine lv_iload_n C.1 C.2.1 dX12_anEvening_56 rfl (lv_at hl 0 rfl) ?_
  refine lv_if_eq (tgt := 64) C.1 C.2.1 dX12_anEvening_57 (by decide) (fun hc => ?_) (fun hc => ?_)
  · have hf := zif_t hc hf
    refine lv_aload_n C.1 C.2.1 dX12_anEvening_64 rfl (lv_at hl 1 rfl) ?_
    refine zgetI C hS ff_X12_256_100 (hm 100 (by decide)) dX12_anEvening_65 ?_
    exact w_X12_anEvening_68 C hm hk hk4 _ _ _ _ _ _ _ (lv_sub hl [1, 2, 3] rfl) hS hf
  · have hf := zif_f hc hf
    refine lv_iconst (v := (0 : Int32)) C.1 C.2.1 dX12_anEvening_60 rfl ?_
    refine lv_goto (tgt := 68) C.1 C.2.1 dX12_anEvening_61 (by decide) ?_
    exact w_X12_anEvening_68 C hm hk hk4 _ _ _ _ _ _ _ (lv_sub hl [1, 2, 3] rfl) hS hf
set_option maxHeartbeats 4000000 in
set_option maxRecDepth 100000 in
theorem w_X12_anEvening_54 {k4 : Int32 → Int32 → zH → zR} (C : zC G p s m args meth c cX12_anEvening 7 RX12 (some .int)) (hm : ∀ c ∈ nd_X12_anEvening, c ∈ znm G) (hk : ∀ q ∈ ld_X12_anEvening, zlk G q.1 q.2 = true) (hk4 : ∀ (ls : Array Slot) (H : Heap) (locs : List Loc) (h : zH) (x1 : Int32) (x2 : Int32), lv_has ls 7 [(0, .ref (zal G 100)), (1, .int x1), (2, .int x2)] → zS G h s.heap H locs → k4 x1 x2 h = some q → W p l e (zrm (7)) s m args below meth c H locs 0 0 (MQ below (zQI G q.2 q.1) args s 0 0 (zA G)) (F0 m 4 ls [])) : ∀ (ls : Array Slot) (H : Heap) (locs : List Loc) (h : zH) (x1 : Int32) (x2 : Int32), lv_has ls 7 [(0, .ref (zal G 100)), (1, .int x1), (2, .int x2)] → zS G h s.heap H locs → f_X12_anEvening_54 k4 x1 x2 h = some q → W p l e (zrm (7)) s m args below meth c H locs 0 0 (MQ below (zQI G q.2 q.1) args s 0 0 (zA G)) (F0 m 54 ls []) := by
  intro ls H locs h x1 x2 hl hS hf
  unfold f_X12_anEvening_54 at hf
  refine lv_iconst (v := (0 : Int32)) C.1 C.2.1 dX12_anEvening_54 rfl ?_
  exact w_X12_anEvening_55 C hm hk hk4 _ _ _ _ _ _ _ (lv_sub hl [0, 1, 2] rfl) hS hf
set_option maxHeartbeats 4000000 in
set_option maxRecDepth 100000 in
theorem w_X12_anEvening_4  (C : zC G p s m args meth c cX12_anEvening 7 RX12 (some .int)) (hm : ∀ c ∈ nd_X12_anEvening, c ∈ znm G) (hk : ∀ q ∈ ld_X12_anEvening, zlk G q.1 q.2 = true)  : ∀ n, ∀ (ls : Array Slot) (H : Heap) (locs : List Loc) (h : zH) (x1 : Int32) (x2 : Int32), lv_has ls 7 [(0, .ref (zal G 100)), (1, .int x1), (2, .int x2)] → zS G h s.heap H locs → f_X12_anEvening_4  n x1 x2 h = some q → W p l e (zrm (7)) s m args below meth c H locs 0 0 (MQ below (zQI G q.2 q.1) args s 0 0 (zA G)) (F0 m 4 ls []) := by
  intro n
  induction n with
  | zero => intro ls H locs h x1 x2 hl hS hf; cases hf
  | succ n ih =>
    intro ls H locs h x1 x2 hl hS hf
    rw [f_X12_anEvening_4] at hf
    refine lv_iload_n C.1 C.2.1 dX12_anEvening_4 rfl (lv_at hl 2 rfl) ?_
    refine lv_aload_n C.1 C.2.1 dX12_anEvening_5 rfl (lv_at hl 0 rfl) ?_
    refine zgetR C hS ff_X12_7_100 (hm 100 (by decide)) (hk (100, 0) (by decide)) dX12_anEvening_6 ?_
    refine lv_iconst (v := (0 : Int32)) C.1 C.2.1 dX12_anEvening_9 rfl ?_
    refine zald C hS sh_101 (hm 101 (by decide)) (vp_in_iff.mpr (by decide)) dX12_anEvening_10 ?_
    refine lv_icmp_ge (tgt := 180) C.1 C.2.1 dX12_anEvening_11 (by decide) (fun hc => ?_) (fun hc => ?_)
    · have hf := zif_t hc hf
      refine lv_aload_n C.1 C.2.1 dX12_anEvening_180 rfl (lv_at hl 0 rfl) ?_
      refine zgetR C hS ff_X12_7_100 (hm 100 (by decide)) (hk (100, 0) (by decide)) dX12_anEvening_181 ?_
      refine lv_iconst (v := (5 : Int32)) C.1 C.2.1 dX12_anEvening_184 rfl ?_
      refine lv_dup2_11 C.1 C.2.1 dX12_anEvening_185 rfl rfl ?_
      refine zald C hS sh_101 (hm 101 (by decide)) (vp_in_iff.mpr (by decide)) dX12_anEvening_186 ?_
      refine lv_iconst (v := (1 : Int32)) C.1 C.2.1 dX12_anEvening_187 rfl ?_
      refine lv_iadd C.1 C.2.1 dX12_anEvening_188 ?_
      refine zast C hS sh_101 (hm 101 (by decide)) (vp_in_iff.mpr (by decide)) dX12_anEvening_189 (fun H locs hS => ?_)
      obtain ⟨h1, eh1, hf⟩ := zst_some hf
      have hS : zS G h1 s.heap H locs := by rw [eh1]; exact hS
      refine lv_iload_n C.1 C.2.1 dX12_anEvening_190 rfl (lv_at hl 1 rfl) ?_
      exact zretI C hS hf dX12_anEvening_191
    · have hf := zif_f hc hf
      refine lv_aload_n C.1 C.2.1 dX12_anEvening_14 rfl (lv_at hl 0 rfl) ?_
      refine lv_iload_n C.1 C.2.1 dX12_anEvening_15 rfl (lv_at hl 2 rfl) ?_
      obtain ⟨r2, h3, er2, hf⟩ := zbd_some hf
      refine zcallVI (As := [.int x2]) (rest := []) C hS mv_X12_281 (c_X12_laysTelling l G h x2 (r2, h3) (fun c h => hm c (sn_X12_anEvening_X12_laysTelling c h)) (fun q h => hk q (sl_X12_anEvening_X12_laysTelling q h)) er2) (hm 100 (by decide)) ⟨_, _, _, sh_100, rfl, rfl⟩ rfl rfl (Nat.le_of_ble_eq_true rfl) hl.1 ⟨Nat.le_of_ble_eq_true rfl, Nat.le_of_ble_eq_true rfl, Nat.le_of_ble_eq_true rfl, Nat.le_of_ble_eq_true rfl⟩ dX12_anEvening_16 (fun H locs hS => ?_)
      refine lv_if_ne (tgt := 25) C.1 C.2.1 dX12_anEvening_19 (by decide) (fun hc => ?_) (fun hc => ?_)
      · have hf := zif_f hc hf
        refine lv_aload_n C.1 C.2.1 dX12_anEvening_25 rfl (lv_at hl 0 rfl) ?_
        refine zgetR C hS ff_X12_7_100 (hm 100 (by decide)) (hk (100, 0) (by decide)) dX12_anEvening_26 ?_
        refine lv_iconst (v := (2 : Int32)) C.1 C.2.1 dX12_anEvening_29 rfl ?_
        refine zald C hS sh_101 (hm 101 (by decide)) (vp_in_iff.mpr (by decide)) dX12_anEvening_30 ?_
        refine lv_if_le (tgt := 54) C.1 C.2.1 dX12_anEvening_31 (by decide) (fun hc => ?_) (fun hc => ?_)
        · have hf := zif_t hc hf
          exact w_X12_anEvening_54 C hm hk ih _ _ _ _ _ _ (lv_sub hl [0, 1, 2] rfl) hS hf
        · have hf := zif_f hc hf
          refine lv_aload_n C.1 C.2.1 dX12_anEvening_34 rfl (lv_at hl 0 rfl) ?_
          refine lv_sipush (v := (1000 : Int32)) C.1 C.2.1 dX12_anEvening_35 rfl ?_
          obtain ⟨r20, h21, er20, hf⟩ := zbd_some hf
          refine zcallVI (As := [.int (1000 : Int32)]) (rest := []) C hS mv_X12_287 (c_X12_draw l G h3 (1000 : Int32) (r20, h21) (fun c h => hm c (sn_X12_anEvening_X12_draw c h)) (fun q h => hk q (sl_X12_anEvening_X12_draw q h)) er20) (hm 100 (by decide)) ⟨_, _, _, sh_100, rfl, rfl⟩ rfl rfl (Nat.le_of_ble_eq_true rfl) hl.1 ⟨Nat.le_of_ble_eq_true rfl, Nat.le_of_ble_eq_true rfl, Nat.le_of_ble_eq_true rfl, Nat.le_of_ble_eq_true rfl⟩ dX12_anEvening_38 (fun H locs hS => ?_)
          refine lv_aload_n C.1 C.2.1 dX12_anEvening_41 rfl (lv_at hl 0 rfl) ?_
          refine zgetR C hS ff_X12_7_100 (hm 100 (by decide)) (hk (100, 0) (by decide)) dX12_anEvening_42 ?_
          refine lv_iconst (v := (2 : Int32)) C.1 C.2.1 dX12_anEvening_45 rfl ?_
          refine zald C hS sh_101 (hm 101 (by decide)) (vp_in_iff.mpr (by decide)) dX12_anEvening_46 ?_
          refine lv_icmp_ge (tgt := 54) C.1 C.2.1 dX12_anEvening_47 (by decide) (fun hc => ?_) (fun hc => ?_)
          · have hf := zif_t hc hf
            exact w_X12_anEvening_54 C hm hk ih _ _ _ _ _ _ (lv_sub hl [0, 1, 2] rfl) hS hf
          · have hf := zif_f hc hf
            refine lv_iconst (v := (1 : Int32)) C.1 C.2.1 dX12_anEvening_50 rfl ?_
            refine lv_goto (tgt := 55) C.1 C.2.1 dX12_anEvening_51 (by decide) ?_
            exact w_X12_anEvening_55 C hm hk ih _ _ _ _ _ _ _ (lv_sub hl [0, 1, 2] rfl) hS hf
      · have hf := zif_t hc hf
        refine lv_goto (tgt := 174) C.1 C.2.1 dX12_anEvening_22 (by decide) ?_
        exact w_X12_anEvening_174 C hm hk ih _ _ _ _ _ _ (lv_sub hl [0, 1, 2] rfl) hS hf
set_option maxHeartbeats 4000000 in
set_option maxRecDepth 100000 in
theorem c_X12_anEvening (l : Launch) (G : zG) (h : zH) (q : Int32 × zH) (hm : ∀ c ∈ nd_X12_anEvening, c ∈ znm G) (hk : ∀ q ∈ ld_X12_anEvening, zlk G q.1 q.2 = true) (hf : f_X12_anEvening h = some q) : zCtI l yX12_anEvening cX12_anEvening 7 (some .int) (7) [.ref (zal G 100)] G h q.2 q.1 := by
  refine zMetI (by decide) (Nat.le_of_ble_eq_true rfl) ?_
  intro p e s m below meth c ls C hl hS
  have hl : lv_has ls 7 [(0, .ref (zal G 100))] := hl
  have C : zC G p s m [.ref (zal G 100)].toArray meth c cX12_anEvening 7 RX12 (some .int) := C
  unfold f_X12_anEvening at hf
  refine lv_iconst (v := (0 : Int32)) C.1 C.2.1 dX12_anEvening_0 rfl ?_
  refine lv_istore_n (lv' := [(1, .int (0 : Int32)), (0, .ref (zal G 100))]) C.1 C.2.1 dX12_anEvening_1 rfl hl (by decide) rfl (fun ls hl => ?_)
  refine lv_iconst (v := (0 : Int32)) C.1 C.2.1 dX12_anEvening_2 rfl ?_
  refine lv_istore_n (lv' := [(2, .int (0 : Int32)), (1, .int (0 : Int32)), (0, .ref (zal G 100))]) C.1 C.2.1 dX12_anEvening_3 rfl hl (by decide) rfl (fun ls hl => ?_)
  exact w_X12_anEvening_4 C hm hk  zN _ _ _ _ _ _ (lv_sub hl [2, 1, 0] rfl) hS hf
end
section
theorem dX12_evenings_0 : decode cX12_evenings 0 = .ok (.iload_n 1, 1) := by decide +kernel
theorem dX12_evenings_1 : decode cX12_evenings 1 = .ok (.iconst 1, 1) := by decide +kernel
theorem dX12_evenings_2 : decode cX12_evenings 2 = .ok (.bipush 50, 2) := by decide +kernel
theorem dX12_evenings_4 : decode cX12_evenings 4 = .ok (.invokestatic 65, 3) := by decide +kernel
theorem dX12_evenings_7 : decode cX12_evenings 7 = .ok (.ifCond .eq 17, 3) := by decide +kernel
theorem dX12_evenings_10 : decode cX12_evenings 10 = .ok (.aload_n 0, 1) := by decide +kernel
theorem dX12_evenings_11 : decode cX12_evenings 11 = .ok (.getfield 7, 3) := by decide +kernel
theorem dX12_evenings_14 : decode cX12_evenings 14 = .ok (.iconst 5, 1) := by decide +kernel
theorem dX12_evenings_15 : decode cX12_evenings 15 = .ok (.iaload, 1) := by decide +kernel
theorem dX12_evenings_16 : decode cX12_evenings 16 = .ok (.iload_n 1, 1) := by decide +kernel
theorem dX12_evenings_17 : decode cX12_evenings 17 = .ok (.iadd, 1) := by decide +kernel
theorem dX12_evenings_18 : decode cX12_evenings 18 = .ok (.sipush 9999, 3) := by decide +kernel
theorem dX12_evenings_21 : decode cX12_evenings 21 = .ok (.if_icmp .le 5, 3) := by decide +kernel
theorem dX12_evenings_24 : decode cX12_evenings 24 = .ok (.iconst (-1), 1) := by decide +kernel
theorem dX12_evenings_25 : decode cX12_evenings 25 = .ok (.ireturn, 1) := by decide +kernel
theorem dX12_evenings_26 : decode cX12_evenings 26 = .ok (.iconst 0, 1) := by decide +kernel
theorem dX12_evenings_27 : decode cX12_evenings 27 = .ok (.istore_n 2, 1) := by decide +kernel
theorem dX12_evenings_28 : decode cX12_evenings 28 = .ok (.iconst 0, 1) := by decide +kernel
theorem dX12_evenings_29 : decode cX12_evenings 29 = .ok (.istore_n 3, 1) := by decide +kernel
theorem dX12_evenings_30 : decode cX12_evenings 30 = .ok (.iload_n 3, 1) := by decide +kernel
theorem dX12_evenings_31 : decode cX12_evenings 31 = .ok (.iload_n 1, 1) := by decide +kernel
theorem dX12_evenings_32 : decode cX12_evenings 32 = .ok (.if_icmp .ge 20, 3) := by decide +kernel
theorem dX12_evenings_35 : decode cX12_evenings 35 = .ok (.aload_n 0, 1) := by decide +kernel
theorem dX12_evenings_36 : decode cX12_evenings 36 = .ok (.invokevirtual 293, 3) := by decide +kernel
theorem dX12_evenings_39 : decode cX12_evenings 39 = .ok (.iload_n 2, 1) := by decide +kernel
theorem dX12_evenings_40 : decode cX12_evenings 40 = .ok (.aload_n 0, 1) := by decide +kernel
theorem dX12_evenings_41 : decode cX12_evenings 41 = .ok (.invokevirtual 296, 3) := by decide +kernel
theorem dX12_evenings_44 : decode cX12_evenings 44 = .ok (.iadd, 1) := by decide +kernel
theorem dX12_evenings_45 : decode cX12_evenings 45 = .ok (.istore_n 2, 1) := by decide +kernel
theorem dX12_evenings_46 : decode cX12_evenings 46 = .ok (.iinc 3 1, 3) := by decide +kernel
theorem dX12_evenings_49 : decode cX12_evenings 49 = .ok (.goto (-19), 3) := by decide +kernel
theorem dX12_evenings_52 : decode cX12_evenings 52 = .ok (.iload_n 2, 1) := by decide +kernel
theorem dX12_evenings_53 : decode cX12_evenings 53 = .ok (.ireturn, 1) := by decide +kernel
abbrev nd_X12_evenings : List Nat := [100, 101, 103, 108, 109]
abbrev ld_X12_evenings : List (Nat × Nat) := [(100, 0), (100, 2), (100, 9), (100, 10)]
theorem sn_X12_evenings_X12_isIn : ∀ c ∈ nd_X12_isIn, c ∈ nd_X12_evenings := by decide
theorem sl_X12_evenings_X12_isIn : ∀ q ∈ ld_X12_isIn, q ∈ ld_X12_evenings := by decide
theorem sn_X12_evenings_X12_keeps : ∀ c ∈ nd_X12_keeps, c ∈ nd_X12_evenings := by decide
theorem sl_X12_evenings_X12_keeps : ∀ q ∈ ld_X12_keeps, q ∈ ld_X12_evenings := by decide
theorem sn_X12_evenings_X12_anEvening : ∀ c ∈ nd_X12_anEvening, c ∈ nd_X12_evenings := by decide
theorem sl_X12_evenings_X12_anEvening : ∀ q ∈ ld_X12_anEvening, q ∈ ld_X12_evenings := by decide
def f_X12_evenings_24  (h : zH) : zR := (some ((-1 : Int32), h))
def f_X12_evenings_30  : Nat → Int32 → Int32 → Int32 → zH → zR
  | 0 => fun _ _ _ _ => none
  | n + 1 => fun x1 x2 x3 h => (if x1 ≤ x3 then (some (x2, h)) else (zbd (f_X12_keeps  h) fun r3 h4 => (zbd (f_X12_anEvening  h4) fun r5 h6 => (zlt (x2 + r5) fun y7 => (zlt (x3 + (1 : Int32)) fun y8 => (f_X12_evenings_30  n x1 y7 y8 h6))))))
def f_X12_evenings  (x1 : Int32) (h : zH) : zR := (zbd (f_X12_isIn x1 (1 : Int32) (50 : Int32) h) fun r1 h2 => (if r1 = 0 then (f_X12_evenings_24   h2) else (if ((h2 101 5) + x1) ≤ (9999 : Int32) then (f_X12_evenings_30  zN x1 (0 : Int32) (0 : Int32) h2) else (f_X12_evenings_24   h2))))
variable {p : Program} {l : Launch} {e : Env} {s : State} {m : MethodId} {args : Array Value} {below : List Frame} {meth : Method} {c : Code} {G : zG} {q : Int32 × zH}
set_option maxHeartbeats 4000000 in
set_option maxRecDepth 100000 in
theorem w_X12_evenings_24  (C : zC G p s m args meth c cX12_evenings 4 RX12 (some .int)) (hm : ∀ c ∈ nd_X12_evenings, c ∈ znm G) (hk : ∀ q ∈ ld_X12_evenings, zlk G q.1 q.2 = true)  : ∀ (ls : Array Slot) (H : Heap) (locs : List Loc) (h : zH), lv_has ls 4 [] → zS G h s.heap H locs → f_X12_evenings_24  h = some q → W p l e (zrm (8)) s m args below meth c H locs 0 0 (MQ below (zQI G q.2 q.1) args s 0 0 (zA G)) (F0 m 24 ls []) := by
  intro ls H locs h hl hS hf
  unfold f_X12_evenings_24 at hf
  refine lv_iconst (v := (-1 : Int32)) C.1 C.2.1 dX12_evenings_24 rfl ?_
  exact zretI C hS hf dX12_evenings_25
set_option maxHeartbeats 4000000 in
set_option maxRecDepth 100000 in
theorem w_X12_evenings_30  (C : zC G p s m args meth c cX12_evenings 4 RX12 (some .int)) (hm : ∀ c ∈ nd_X12_evenings, c ∈ znm G) (hk : ∀ q ∈ ld_X12_evenings, zlk G q.1 q.2 = true)  : ∀ n, ∀ (ls : Array Slot) (H : Heap) (locs : List Loc) (h : zH) (x1 : Int32) (x2 : Int32) (x3 : Int32), lv_has ls 4 [(0, .ref (zal G 100)), (1, .int x1), (2, .int x2), (3, .int x3)] → zS G h s.heap H locs → f_X12_evenings_30  n x1 x2 x3 h = some q → W p l e (zrm (8)) s m args below meth c H locs 0 0 (MQ below (zQI G q.2 q.1) args s 0 0 (zA G)) (F0 m 30 ls []) := by
  intro n
  induction n with
  | zero => intro ls H locs h x1 x2 x3 hl hS hf; cases hf
  | succ n ih =>
    intro ls H locs h x1 x2 x3 hl hS hf
    rw [f_X12_evenings_30] at hf
    refine lv_iload_n C.1 C.2.1 dX12_evenings_30 rfl (lv_at hl 3 rfl) ?_
    refine lv_iload_n C.1 C.2.1 dX12_evenings_31 rfl (lv_at hl 1 rfl) ?_
    refine lv_icmp_ge (tgt := 52) C.1 C.2.1 dX12_evenings_32 (by decide) (fun hc => ?_) (fun hc => ?_)
    · have hf := zif_t hc hf
      refine lv_iload_n C.1 C.2.1 dX12_evenings_52 rfl (lv_at hl 2 rfl) ?_
      exact zretI C hS hf dX12_evenings_53
    · have hf := zif_f hc hf
      refine lv_aload_n C.1 C.2.1 dX12_evenings_35 rfl (lv_at hl 0 rfl) ?_
      obtain ⟨r3, h4, er3, hf⟩ := zbd_some hf
      refine zcallVV (As := []) (rest := []) C hS mv_X12_293 (c_X12_keeps l G h  (r3, h4) (fun c h => hm c (sn_X12_evenings_X12_keeps c h)) (fun q h => hk q (sl_X12_evenings_X12_keeps q h)) er3) (hm 100 (by decide)) ⟨_, _, _, sh_100, rfl, rfl⟩ rfl rfl (Nat.le_of_ble_eq_true rfl) hl.1 ⟨Nat.le_of_ble_eq_true rfl, Nat.le_of_ble_eq_true rfl, Nat.le_of_ble_eq_true rfl, Nat.le_of_ble_eq_true rfl⟩ dX12_evenings_36 (fun H locs hS => ?_)
      refine lv_iload_n C.1 C.2.1 dX12_evenings_39 rfl (lv_at hl 2 rfl) ?_
      refine lv_aload_n C.1 C.2.1 dX12_evenings_40 rfl (lv_at hl 0 rfl) ?_
      obtain ⟨r5, h6, er5, hf⟩ := zbd_some hf
      refine zcallVI (As := []) (rest := [.int x2]) C hS mv_X12_296 (c_X12_anEvening l G h4  (r5, h6) (fun c h => hm c (sn_X12_evenings_X12_anEvening c h)) (fun q h => hk q (sl_X12_evenings_X12_anEvening q h)) er5) (hm 100 (by decide)) ⟨_, _, _, sh_100, rfl, rfl⟩ rfl rfl (Nat.le_of_ble_eq_true rfl) hl.1 ⟨Nat.le_of_ble_eq_true rfl, Nat.le_of_ble_eq_true rfl, Nat.le_of_ble_eq_true rfl, Nat.le_of_ble_eq_true rfl⟩ dX12_evenings_41 (fun H locs hS => ?_)
      refine lv_iadd C.1 C.2.1 dX12_evenings_44 ?_
      obtain ⟨y7, ey7, hf⟩ := zlt_some hf
      refine ztop ey7 ?_
      refine lv_istore_n (lv' := [(2, .int y7), (0, .ref (zal G 100)), (1, .int x1), (3, .int x3)]) C.1 C.2.1 dX12_evenings_45 rfl hl (by decide) rfl (fun ls hl => ?_)
      obtain ⟨y8, ey8, hf⟩ := zlt_some hf
      refine lv_iinc (v := y8) (lv' := [(3, .int y8), (2, .int y7), (0, .ref (zal G 100)), (1, .int x1)]) C.1 C.2.1 dX12_evenings_46 hl (k := 3) rfl ey8.symm (by decide) rfl (fun ls hl => ?_)
      refine lv_goto (tgt := 30) C.1 C.2.1 dX12_evenings_49 (by decide) ?_
      exact ih _ _ _ _ _ _ _ (lv_sub hl [2, 3, 1, 0] rfl) hS hf
set_option maxHeartbeats 4000000 in
set_option maxRecDepth 100000 in
theorem c_X12_evenings (l : Launch) (G : zG) (h : zH) (x1 : Int32) (q : Int32 × zH) (hm : ∀ c ∈ nd_X12_evenings, c ∈ znm G) (hk : ∀ q ∈ ld_X12_evenings, zlk G q.1 q.2 = true) (hf : f_X12_evenings x1 h = some q) : zCtI l yX12_evenings cX12_evenings 4 (some .int) (8) [.ref (zal G 100), .int x1] G h q.2 q.1 := by
  refine zMetI (by decide) (Nat.le_of_ble_eq_true rfl) ?_
  intro p e s m below meth c ls C hl hS
  have hl : lv_has ls 4 [(0, .ref (zal G 100)), (1, .int x1)] := hl
  have C : zC G p s m [.ref (zal G 100), .int x1].toArray meth c cX12_evenings 4 RX12 (some .int) := C
  unfold f_X12_evenings at hf
  refine lv_iload_n C.1 C.2.1 dX12_evenings_0 rfl (lv_at hl 1 rfl) ?_
  refine lv_iconst (v := (1 : Int32)) C.1 C.2.1 dX12_evenings_1 rfl ?_
  refine lv_bipush (v := (50 : Int32)) C.1 C.2.1 dX12_evenings_2 rfl ?_
  obtain ⟨r1, h2, er1, hf⟩ := zbd_some hf
  refine zcallSI (As := [.int x1, .int (1 : Int32), .int (50 : Int32)]) (rest := []) C hS ms_X12_65 (c_X12_isIn l G h x1 (1 : Int32) (50 : Int32) (r1, h2) (fun c h => hm c (sn_X12_evenings_X12_isIn c h)) (fun q h => hk q (sl_X12_evenings_X12_isIn q h)) er1) rfl rfl (Nat.le_of_ble_eq_true rfl) hl.1 ⟨Nat.le_of_ble_eq_true rfl, Nat.le_of_ble_eq_true rfl, Nat.le_of_ble_eq_true rfl, Nat.le_of_ble_eq_true rfl⟩ dX12_evenings_4 (fun H locs hS => ?_)
  refine lv_if_eq (tgt := 24) C.1 C.2.1 dX12_evenings_7 (by decide) (fun hc => ?_) (fun hc => ?_)
  · have hf := zif_t hc hf
    exact w_X12_evenings_24 C hm hk  _ _ _ _ (lv_sub hl [] rfl) hS hf
  · have hf := zif_f hc hf
    refine lv_aload_n C.1 C.2.1 dX12_evenings_10 rfl (lv_at hl 0 rfl) ?_
    refine zgetR C hS ff_X12_7_100 (hm 100 (by decide)) (hk (100, 0) (by decide)) dX12_evenings_11 ?_
    refine lv_iconst (v := (5 : Int32)) C.1 C.2.1 dX12_evenings_14 rfl ?_
    refine zald C hS sh_101 (hm 101 (by decide)) (vp_in_iff.mpr (by decide)) dX12_evenings_15 ?_
    refine lv_iload_n C.1 C.2.1 dX12_evenings_16 rfl (lv_at hl 1 rfl) ?_
    refine lv_iadd C.1 C.2.1 dX12_evenings_17 ?_
    refine lv_sipush (v := (9999 : Int32)) C.1 C.2.1 dX12_evenings_18 rfl ?_
    refine lv_icmp_le (tgt := 26) C.1 C.2.1 dX12_evenings_21 (by decide) (fun hc => ?_) (fun hc => ?_)
    · have hf := zif_t hc hf
      refine lv_iconst (v := (0 : Int32)) C.1 C.2.1 dX12_evenings_26 rfl ?_
      refine lv_istore_n (lv' := [(2, .int (0 : Int32)), (0, .ref (zal G 100)), (1, .int x1)]) C.1 C.2.1 dX12_evenings_27 rfl hl (by decide) rfl (fun ls hl => ?_)
      refine lv_iconst (v := (0 : Int32)) C.1 C.2.1 dX12_evenings_28 rfl ?_
      refine lv_istore_n (lv' := [(3, .int (0 : Int32)), (2, .int (0 : Int32)), (0, .ref (zal G 100)), (1, .int x1)]) C.1 C.2.1 dX12_evenings_29 rfl hl (by decide) rfl (fun ls hl => ?_)
      exact w_X12_evenings_30 C hm hk  zN _ _ _ _ _ _ _ (lv_sub hl [2, 3, 1, 0] rfl) hS hf
    · have hf := zif_f hc hf
      exact w_X12_evenings_24 C hm hk  _ _ _ _ (lv_sub hl [] rfl) hS hf
end
