theorem kw_1151 : Cond.fieldLink RX12 184 "HalfAJokeModel" "wrong" "I" ∈ zg := zg_of (List.mem_of_getElem? (i := 1151) (by decide +kernel)) (by decide +kernel)
theorem ff_X12_184_100 : zFc RX12 184 100 18 none := ⟨_, _, _, tyX12, sh_100, rfl, by decide, iz_X12, kw_1151, rfl, tyX12_ok, nmX12⟩
theorem fw_100_18 : ∀ q : vw_C, ∀ ci fl, zsh 100 = .inr (ci, fl) → zcl[ci]? = some q → (q.2.1 18).2.2.2 = false ∧ (q.2.1 18).2.2.1 = "I" := zfin sh_100 rfl ⟨rfl, rfl⟩
theorem kw_1147 : Cond.fieldLink RX12 119 "HalfAJokeModel" "at" "I" ∈ zg := zg_of (List.mem_of_getElem? (i := 1147) (by decide +kernel)) (by decide +kernel)
theorem ff_X12_119_100 : zFc RX12 119 100 14 none := ⟨_, _, _, tyX12, sh_100, rfl, by decide, iz_X12, kw_1147, rfl, tyX12_ok, nmX12⟩
theorem fw_100_14 : ∀ q : vw_C, ∀ ci fl, zsh 100 = .inr (ci, fl) → zcl[ci]? = some q → (q.2.1 14).2.2.2 = false ∧ (q.2.1 14).2.2.1 = "I" := zfin sh_100 rfl ⟨rfl, rfl⟩
theorem kw_1144 : Cond.fieldLink RX12 230 "HalfAJokeModel" "lines" "I" ∈ zg := zg_of (List.mem_of_getElem? (i := 1144) (by decide +kernel)) (by decide +kernel)
theorem ff_X12_230_100 : zFc RX12 230 100 11 none := ⟨_, _, _, tyX12, sh_100, rfl, by decide, iz_X12, kw_1144, rfl, tyX12_ok, nmX12⟩
theorem fw_100_11 : ∀ q : vw_C, ∀ ci fl, zsh 100 = .inr (ci, fl) → zcl[ci]? = some q → (q.2.1 11).2.2.2 = false ∧ (q.2.1 11).2.2.1 = "I" := zfin sh_100 rfl ⟨rfl, rfl⟩
theorem kw_1145 : Cond.fieldLink RX12 196 "HalfAJokeModel" "steps" "I" ∈ zg := zg_of (List.mem_of_getElem? (i := 1145) (by decide +kernel)) (by decide +kernel)
theorem ff_X12_196_100 : zFc RX12 196 100 12 none := ⟨_, _, _, tyX12, sh_100, rfl, by decide, iz_X12, kw_1145, rfl, tyX12_ok, nmX12⟩
theorem fw_100_12 : ∀ q : vw_C, ∀ ci fl, zsh 100 = .inr (ci, fl) → zcl[ci]? = some q → (q.2.1 12).2.2.2 = false ∧ (q.2.1 12).2.2.1 = "I" := zfin sh_100 rfl ⟨rfl, rfl⟩
theorem kw_1344 : Cond.code yX12_next0 cX12_next0 3 none ∈ zg := zg_of (List.mem_of_getElem? (i := 1344) (by decide +kernel)) (by decide +kernel)
theorem kw_1341 : Cond.methodLink RX12 193 yX12_next0 ∈ zg := zg_of (List.mem_of_getElem? (i := 1341) (by decide +kernel)) (by decide +kernel)
theorem kw_1343 : Cond.instanceMethod yX12_next0 ∈ zg := zg_of (List.mem_of_getElem? (i := 1343) (by decide +kernel)) (by decide +kernel)
theorem kw_42 : Cond.selects RX12 yX12_next0 yX12_next0 ∈ zg := zg_of (List.mem_of_getElem? (i := 42) (by decide +kernel)) (by decide +kernel)
theorem mv_X12_193 : zMV RX12 193 yX12_next0 cX12_next0 3 none 0 := ⟨⟨kw_1341, kw_1343, kw_42, kw_93, kw_1344⟩, ⟨by decide, by decide, by decide +kernel⟩, by decide⟩
theorem kw_1348 : Cond.code yX12_see cX12_see 2 (some .int) ∈ zg := zg_of (List.mem_of_getElem? (i := 1348) (by decide +kernel)) (by decide +kernel)
theorem kw_1345 : Cond.methodLink RX12 166 yX12_see ∈ zg := zg_of (List.mem_of_getElem? (i := 1345) (by decide +kernel)) (by decide +kernel)
theorem kw_1347 : Cond.instanceMethod yX12_see ∈ zg := zg_of (List.mem_of_getElem? (i := 1347) (by decide +kernel)) (by decide +kernel)
theorem kw_43 : Cond.selects RX12 yX12_see yX12_see ∈ zg := zg_of (List.mem_of_getElem? (i := 43) (by decide +kernel)) (by decide +kernel)
theorem mv_X12_166 : zMV RX12 166 yX12_see cX12_see 2 (some .int) 1 := ⟨⟨kw_1345, kw_1347, kw_43, kw_93, kw_1348⟩, ⟨by decide, by decide, by decide +kernel⟩, by decide⟩
theorem kw_1149 : Cond.fieldLink RX12 122 "HalfAJokeModel" "tokenAt" "I" ∈ zg := zg_of (List.mem_of_getElem? (i := 1149) (by decide +kernel)) (by decide +kernel)
theorem ff_X12_122_100 : zFc RX12 122 100 16 none := ⟨_, _, _, tyX12, sh_100, rfl, by decide, iz_X12, kw_1149, rfl, tyX12_ok, nmX12⟩
theorem fw_100_16 : ∀ q : vw_C, ∀ ci fl, zsh 100 = .inr (ci, fl) → zcl[ci]? = some q → (q.2.1 16).2.2.2 = false ∧ (q.2.1 16).2.2.1 = "I" := zfin sh_100 rfl ⟨rfl, rfl⟩
theorem kw_1351 : Cond.code yX12_isLetter cX12_isLetter 1 (some .boolean) ∈ zg := zg_of (List.mem_of_getElem? (i := 1351) (by decide +kernel)) (by decide +kernel)
theorem kw_1349 : Cond.methodLink RX12 172 yX12_isLetter ∈ zg := zg_of (List.mem_of_getElem? (i := 1349) (by decide +kernel)) (by decide +kernel)
theorem kw_1350 : Cond.static yX12_isLetter ∈ zg := zg_of (List.mem_of_getElem? (i := 1350) (by decide +kernel)) (by decide +kernel)
theorem ms_X12_172 : zMS RX12 172 yX12_isLetter cX12_isLetter 1 (some .boolean) 1 := ⟨⟨kw_1349, kw_1350, kw_93, kw_1351⟩, ⟨by decide, by decide, by decide +kernel⟩, by decide⟩
theorem kw_1380 : Cond.code yX12_isDigit cX12_isDigit 1 (some .boolean) ∈ zg := zg_of (List.mem_of_getElem? (i := 1380) (by decide +kernel)) (by decide +kernel)
theorem kw_1378 : Cond.methodLink RX12 178 yX12_isDigit ∈ zg := zg_of (List.mem_of_getElem? (i := 1378) (by decide +kernel)) (by decide +kernel)
theorem kw_1379 : Cond.static yX12_isDigit ∈ zg := zg_of (List.mem_of_getElem? (i := 1379) (by decide +kernel)) (by decide +kernel)
theorem ms_X12_178 : zMS RX12 178 yX12_isDigit cX12_isDigit 1 (some .boolean) 1 := ⟨⟨kw_1378, kw_1379, kw_93, kw_1380⟩, ⟨by decide, by decide, by decide +kernel⟩, by decide⟩
theorem kw_1148 : Cond.fieldLink RX12 169 "HalfAJokeModel" "token" "I" ∈ zg := zg_of (List.mem_of_getElem? (i := 1148) (by decide +kernel)) (by decide +kernel)
theorem ff_X12_169_100 : zFc RX12 169 100 15 none := ⟨_, _, _, tyX12, sh_100, rfl, by decide, iz_X12, kw_1148, rfl, tyX12_ok, nmX12⟩
theorem fw_100_15 : ∀ q : vw_C, ∀ ci fl, zsh 100 = .inr (ci, fl) → zcl[ci]? = some q → (q.2.1 15).2.2.2 = false ∧ (q.2.1 15).2.2.1 = "I" := zfin sh_100 rfl ⟨rfl, rfl⟩
theorem kw_1150 : Cond.fieldLink RX12 181 "HalfAJokeModel" "value" "I" ∈ zg := zg_of (List.mem_of_getElem? (i := 1150) (by decide +kernel)) (by decide +kernel)
theorem ff_X12_181_100 : zFc RX12 181 100 17 none := ⟨_, _, _, tyX12, sh_100, rfl, by decide, iz_X12, kw_1150, rfl, tyX12_ok, nmX12⟩
theorem fw_100_17 : ∀ q : vw_C, ∀ ci fl, zsh 100 = .inr (ci, fl) → zcl[ci]? = some q → (q.2.1 17).2.2.2 = false ∧ (q.2.1 17).2.2.1 = "I" := zfin sh_100 rfl ⟨rfl, rfl⟩
theorem kw_1355 : Cond.code yX12_word cX12_word 1 (some .int) ∈ zg := zg_of (List.mem_of_getElem? (i := 1355) (by decide +kernel)) (by decide +kernel)
theorem kw_1352 : Cond.methodLink RX12 175 yX12_word ∈ zg := zg_of (List.mem_of_getElem? (i := 1352) (by decide +kernel)) (by decide +kernel)
theorem kw_1354 : Cond.instanceMethod yX12_word ∈ zg := zg_of (List.mem_of_getElem? (i := 1354) (by decide +kernel)) (by decide +kernel)
theorem kw_44 : Cond.selects RX12 yX12_word yX12_word ∈ zg := zg_of (List.mem_of_getElem? (i := 44) (by decide +kernel)) (by decide +kernel)
theorem mv_X12_175 : zMV RX12 175 yX12_word cX12_word 1 (some .int) 0 := ⟨⟨kw_1352, kw_1354, kw_44, kw_93, kw_1355⟩, ⟨by decide, by decide, by decide +kernel⟩, by decide⟩
theorem kw_1360 : Cond.code yX12_is cX12_is 4 (some .boolean) ∈ zg := zg_of (List.mem_of_getElem? (i := 1360) (by decide +kernel)) (by decide +kernel)
theorem kw_1357 : Cond.methodLink RX12 137 yX12_is ∈ zg := zg_of (List.mem_of_getElem? (i := 1357) (by decide +kernel)) (by decide +kernel)
theorem kw_1359 : Cond.instanceMethod yX12_is ∈ zg := zg_of (List.mem_of_getElem? (i := 1359) (by decide +kernel)) (by decide +kernel)
theorem kw_45 : Cond.selects RX12 yX12_is yX12_is ∈ zg := zg_of (List.mem_of_getElem? (i := 45) (by decide +kernel)) (by decide +kernel)
theorem mv_X12_137 : zMV RX12 137 yX12_is cX12_is 4 (some .boolean) 1 := ⟨⟨kw_1357, kw_1359, kw_45, kw_93, kw_1360⟩, ⟨by decide, by decide, by decide +kernel⟩, by decide⟩
theorem kw_1361 : Cond.methodLink RX12 125 yJ0_length_8abf5 ∈ zg := zg_of (List.mem_of_getElem? (i := 1361) (by decide +kernel)) (by decide +kernel)
theorem mv_X12_125 : zMV RX12 125 yJ0_length_8abf5 cJ0_length_8abf5 1 (some .int) 0 := ⟨⟨kw_1361, kw_646, kw_647, kw_94, kw_648⟩, ⟨by decide, by decide, by decide +kernel⟩, by decide⟩
theorem kw_1362 : Cond.methodLink RX12 131 yJ0_charAt_5068e ∈ zg := zg_of (List.mem_of_getElem? (i := 1362) (by decide +kernel)) (by decide +kernel)
theorem mv_X12_131 : zMV RX12 131 yJ0_charAt_5068e cJ0_charAt_5068e 2 (some .char) 1 := ⟨⟨kw_1362, kw_586, kw_587, kw_94, kw_588⟩, ⟨by decide, by decide, by decide +kernel⟩, by decide⟩
theorem kw_1370 : Cond.code yX12_nameWord cX12_nameWord 1 (some .int) ∈ zg := zg_of (List.mem_of_getElem? (i := 1370) (by decide +kernel)) (by decide +kernel)
theorem kw_1367 : Cond.methodLink RX12 163 yX12_nameWord ∈ zg := zg_of (List.mem_of_getElem? (i := 1367) (by decide +kernel)) (by decide +kernel)
theorem kw_1369 : Cond.instanceMethod yX12_nameWord ∈ zg := zg_of (List.mem_of_getElem? (i := 1369) (by decide +kernel)) (by decide +kernel)
theorem kw_46 : Cond.selects RX12 yX12_nameWord yX12_nameWord ∈ zg := zg_of (List.mem_of_getElem? (i := 46) (by decide +kernel)) (by decide +kernel)
theorem mv_X12_163 : zMV RX12 163 yX12_nameWord cX12_nameWord 1 (some .int) 0 := ⟨⟨kw_1367, kw_1369, kw_46, kw_93, kw_1370⟩, ⟨by decide, by decide, by decide +kernel⟩, by decide⟩
theorem fw_100_20 : ∀ q : vw_C, ∀ ci fl, zsh 100 = .inr (ci, fl) → zcl[ci]? = some q → (q.2.1 20).2.2.2 = false ∧ (q.2.1 20).2.2.1 = "I" := zfin sh_100 rfl ⟨rfl, rfl⟩
theorem kw_1152 : Cond.fieldLink RX12 187 "HalfAJokeModel" "wrongAt" "I" ∈ zg := zg_of (List.mem_of_getElem? (i := 1152) (by decide +kernel)) (by decide +kernel)
theorem ff_X12_187_100 : zFc RX12 187 100 19 none := ⟨_, _, _, tyX12, sh_100, rfl, by decide, iz_X12, kw_1152, rfl, tyX12_ok, nmX12⟩
theorem fw_100_22 : ∀ q : vw_C, ∀ ci fl, zsh 100 = .inr (ci, fl) → zcl[ci]? = some q → (q.2.1 22).2.2.2 = false ∧ (q.2.1 22).2.2.1 = "I" := zfin sh_100 rfl ⟨rfl, rfl⟩
theorem kw_1140 : Cond.fieldLink RX12 25 "HalfAJokeModel" "freshStep" "[I" ∈ zg := zg_of (List.mem_of_getElem? (i := 1140) (by decide +kernel)) (by decide +kernel)
theorem ff_X12_25_100 : zFc RX12 25 100 7 (some (106, false)) := ⟨_, _, _, tyX12, sh_100, rfl, by decide, iz_X12, kw_1140, rfl, tyX12_ok, nmX12⟩
theorem kw_1139 : Cond.fieldLink RX12 22 "HalfAJokeModel" "freshLine" "[I" ∈ zg := zg_of (List.mem_of_getElem? (i := 1139) (by decide +kernel)) (by decide +kernel)
theorem ff_X12_22_100 : zFc RX12 22 100 6 (some (105, false)) := ⟨_, _, _, tyX12, sh_100, rfl, by decide, iz_X12, kw_1139, rfl, tyX12_ok, nmX12⟩
theorem kw_1384 : Cond.code yX12_aLine cX12_aLine 1 (some .boolean) ∈ zg := zg_of (List.mem_of_getElem? (i := 1384) (by decide +kernel)) (by decide +kernel)
theorem kw_1381 : Cond.methodLink RX12 233 yX12_aLine ∈ zg := zg_of (List.mem_of_getElem? (i := 1381) (by decide +kernel)) (by decide +kernel)
theorem kw_1383 : Cond.instanceMethod yX12_aLine ∈ zg := zg_of (List.mem_of_getElem? (i := 1383) (by decide +kernel)) (by decide +kernel)
theorem kw_47 : Cond.selects RX12 yX12_aLine yX12_aLine ∈ zg := zg_of (List.mem_of_getElem? (i := 47) (by decide +kernel)) (by decide +kernel)
theorem mv_X12_233 : zMV RX12 233 yX12_aLine cX12_aLine 1 (some .boolean) 0 := ⟨⟨kw_1381, kw_1383, kw_47, kw_93, kw_1384⟩, ⟨by decide, by decide, by decide +kernel⟩, by decide⟩
theorem kw_1154 : Cond.fieldLink RX12 199 "HalfAJokeModel" "depth" "I" ∈ zg := zg_of (List.mem_of_getElem? (i := 1154) (by decide +kernel)) (by decide +kernel)
theorem ff_X12_199_100 : zFc RX12 199 100 21 none := ⟨_, _, _, tyX12, sh_100, rfl, by decide, iz_X12, kw_1154, rfl, tyX12_ok, nmX12⟩
theorem fw_100_21 : ∀ q : vw_C, ∀ ci fl, zsh 100 = .inr (ci, fl) → zcl[ci]? = some q → (q.2.1 21).2.2.2 = false ∧ (q.2.1 21).2.2.1 = "I" := zfin sh_100 rfl ⟨rfl, rfl⟩
theorem kw_1392 : Cond.code yX12_sumUp cX12_sumUp 2 (some .boolean) ∈ zg := zg_of (List.mem_of_getElem? (i := 1392) (by decide +kernel)) (by decide +kernel)
theorem kw_1389 : Cond.methodLink RX12 227 yX12_sumUp ∈ zg := zg_of (List.mem_of_getElem? (i := 1389) (by decide +kernel)) (by decide +kernel)
theorem kw_1391 : Cond.instanceMethod yX12_sumUp ∈ zg := zg_of (List.mem_of_getElem? (i := 1391) (by decide +kernel)) (by decide +kernel)
theorem kw_49 : Cond.selects RX12 yX12_sumUp yX12_sumUp ∈ zg := zg_of (List.mem_of_getElem? (i := 49) (by decide +kernel)) (by decide +kernel)
theorem mv_X12_227 : zMV RX12 227 yX12_sumUp cX12_sumUp 2 (some .boolean) 0 := ⟨⟨kw_1389, kw_1391, kw_49, kw_93, kw_1392⟩, ⟨by decide, by decide, by decide +kernel⟩, by decide⟩
theorem kw_1396 : Cond.code yX12_product cX12_product 3 (some .boolean) ∈ zg := zg_of (List.mem_of_getElem? (i := 1396) (by decide +kernel)) (by decide +kernel)
theorem kw_1393 : Cond.methodLink RX12 202 yX12_product ∈ zg := zg_of (List.mem_of_getElem? (i := 1393) (by decide +kernel)) (by decide +kernel)
theorem kw_1395 : Cond.instanceMethod yX12_product ∈ zg := zg_of (List.mem_of_getElem? (i := 1395) (by decide +kernel)) (by decide +kernel)
theorem kw_50 : Cond.selects RX12 yX12_product yX12_product ∈ zg := zg_of (List.mem_of_getElem? (i := 50) (by decide +kernel)) (by decide +kernel)
theorem mv_X12_202 : zMV RX12 202 yX12_product cX12_product 3 (some .boolean) 0 := ⟨⟨kw_1393, kw_1395, kw_50, kw_93, kw_1396⟩, ⟨by decide, by decide, by decide +kernel⟩, by decide⟩
theorem kw_1400 : Cond.code yX12_unit cX12_unit 2 (some .boolean) ∈ zg := zg_of (List.mem_of_getElem? (i := 1400) (by decide +kernel)) (by decide +kernel)
theorem kw_1397 : Cond.methodLink RX12 209 yX12_unit ∈ zg := zg_of (List.mem_of_getElem? (i := 1397) (by decide +kernel)) (by decide +kernel)
theorem kw_1399 : Cond.instanceMethod yX12_unit ∈ zg := zg_of (List.mem_of_getElem? (i := 1399) (by decide +kernel)) (by decide +kernel)
theorem kw_51 : Cond.selects RX12 yX12_unit yX12_unit ∈ zg := zg_of (List.mem_of_getElem? (i := 51) (by decide +kernel)) (by decide +kernel)
theorem mv_X12_209 : zMV RX12 209 yX12_unit cX12_unit 2 (some .boolean) 0 := ⟨⟨kw_1397, kw_1399, kw_51, kw_93, kw_1400⟩, ⟨by decide, by decide, by decide +kernel⟩, by decide⟩
theorem kw_1404 : Cond.code yX12_lay cX12_lay 3 none ∈ zg := zg_of (List.mem_of_getElem? (i := 1404) (by decide +kernel)) (by decide +kernel)
theorem kw_1401 : Cond.methodLink RX12 206 yX12_lay ∈ zg := zg_of (List.mem_of_getElem? (i := 1401) (by decide +kernel)) (by decide +kernel)
theorem kw_1403 : Cond.instanceMethod yX12_lay ∈ zg := zg_of (List.mem_of_getElem? (i := 1403) (by decide +kernel)) (by decide +kernel)
theorem kw_52 : Cond.selects RX12 yX12_lay yX12_lay ∈ zg := zg_of (List.mem_of_getElem? (i := 52) (by decide +kernel)) (by decide +kernel)
theorem mv_X12_206 : zMV RX12 206 yX12_lay cX12_lay 3 none 2 := ⟨⟨kw_1401, kw_1403, kw_52, kw_93, kw_1404⟩, ⟨by decide, by decide, by decide +kernel⟩, by decide⟩
theorem kw_1388 : Cond.code yX12_bad cX12_bad 2 (some .boolean) ∈ zg := zg_of (List.mem_of_getElem? (i := 1388) (by decide +kernel)) (by decide +kernel)
theorem kw_1385 : Cond.methodLink RX12 190 yX12_bad ∈ zg := zg_of (List.mem_of_getElem? (i := 1385) (by decide +kernel)) (by decide +kernel)
theorem kw_1387 : Cond.instanceMethod yX12_bad ∈ zg := zg_of (List.mem_of_getElem? (i := 1387) (by decide +kernel)) (by decide +kernel)
theorem kw_48 : Cond.selects RX12 yX12_bad yX12_bad ∈ zg := zg_of (List.mem_of_getElem? (i := 48) (by decide +kernel)) (by decide +kernel)
theorem mv_X12_190 : zMV RX12 190 yX12_bad cX12_bad 2 (some .boolean) 1 := ⟨⟨kw_1385, kw_1387, kw_48, kw_93, kw_1388⟩, ⟨by decide, by decide, by decide +kernel⟩, by decide⟩
theorem fw_100_19 : ∀ q : vw_C, ∀ ci fl, zsh 100 = .inr (ci, fl) → zcl[ci]? = some q → (q.2.1 19).2.2.2 = false ∧ (q.2.1 19).2.2.1 = "I" := zfin sh_100 rfl ⟨rfl, rfl⟩
theorem kw_1424 : Cond.code yX12_need cX12_need 2 (some .boolean) ∈ zg := zg_of (List.mem_of_getElem? (i := 1424) (by decide +kernel)) (by decide +kernel)
theorem kw_1421 : Cond.methodLink RX12 224 yX12_need ∈ zg := zg_of (List.mem_of_getElem? (i := 1421) (by decide +kernel)) (by decide +kernel)
theorem kw_1423 : Cond.instanceMethod yX12_need ∈ zg := zg_of (List.mem_of_getElem? (i := 1423) (by decide +kernel)) (by decide +kernel)
theorem kw_57 : Cond.selects RX12 yX12_need yX12_need ∈ zg := zg_of (List.mem_of_getElem? (i := 57) (by decide +kernel)) (by decide +kernel)
theorem mv_X12_224 : zMV RX12 224 yX12_need cX12_need 2 (some .boolean) 1 := ⟨⟨kw_1421, kw_1423, kw_57, kw_93, kw_1424⟩, ⟨by decide, by decide, by decide +kernel⟩, by decide⟩
theorem kw_1408 : Cond.code yX12_any cX12_any 1 (some .boolean) ∈ zg := zg_of (List.mem_of_getElem? (i := 1408) (by decide +kernel)) (by decide +kernel)
theorem kw_1405 : Cond.methodLink RX12 221 yX12_any ∈ zg := zg_of (List.mem_of_getElem? (i := 1405) (by decide +kernel)) (by decide +kernel)
theorem kw_1407 : Cond.instanceMethod yX12_any ∈ zg := zg_of (List.mem_of_getElem? (i := 1407) (by decide +kernel)) (by decide +kernel)
theorem kw_53 : Cond.selects RX12 yX12_any yX12_any ∈ zg := zg_of (List.mem_of_getElem? (i := 53) (by decide +kernel)) (by decide +kernel)
theorem mv_X12_221 : zMV RX12 221 yX12_any cX12_any 1 (some .boolean) 0 := ⟨⟨kw_1405, kw_1407, kw_53, kw_93, kw_1408⟩, ⟨by decide, by decide, by decide +kernel⟩, by decide⟩
theorem kw_1412 : Cond.code yX12_every cX12_every 1 (some .boolean) ∈ zg := zg_of (List.mem_of_getElem? (i := 1412) (by decide +kernel)) (by decide +kernel)
theorem kw_1409 : Cond.methodLink RX12 212 yX12_every ∈ zg := zg_of (List.mem_of_getElem? (i := 1409) (by decide +kernel)) (by decide +kernel)
theorem kw_1411 : Cond.instanceMethod yX12_every ∈ zg := zg_of (List.mem_of_getElem? (i := 1411) (by decide +kernel)) (by decide +kernel)
theorem kw_54 : Cond.selects RX12 yX12_every yX12_every ∈ zg := zg_of (List.mem_of_getElem? (i := 54) (by decide +kernel)) (by decide +kernel)
theorem mv_X12_212 : zMV RX12 212 yX12_every cX12_every 1 (some .boolean) 0 := ⟨⟨kw_1409, kw_1411, kw_54, kw_93, kw_1412⟩, ⟨by decide, by decide, by decide +kernel⟩, by decide⟩
theorem kw_1416 : Cond.code yX12_oneTest cX12_oneTest 2 (some .boolean) ∈ zg := zg_of (List.mem_of_getElem? (i := 1416) (by decide +kernel)) (by decide +kernel)
theorem kw_1413 : Cond.methodLink RX12 215 yX12_oneTest ∈ zg := zg_of (List.mem_of_getElem? (i := 1413) (by decide +kernel)) (by decide +kernel)
theorem kw_1415 : Cond.instanceMethod yX12_oneTest ∈ zg := zg_of (List.mem_of_getElem? (i := 1415) (by decide +kernel)) (by decide +kernel)
theorem kw_55 : Cond.selects RX12 yX12_oneTest yX12_oneTest ∈ zg := zg_of (List.mem_of_getElem? (i := 55) (by decide +kernel)) (by decide +kernel)
theorem mv_X12_215 : zMV RX12 215 yX12_oneTest cX12_oneTest 2 (some .boolean) 0 := ⟨⟨kw_1413, kw_1415, kw_55, kw_93, kw_1416⟩, ⟨by decide, by decide, by decide +kernel⟩, by decide⟩
theorem kw_1420 : Cond.code yX12_opens cX12_opens 1 (some .boolean) ∈ zg := zg_of (List.mem_of_getElem? (i := 1420) (by decide +kernel)) (by decide +kernel)
theorem kw_1417 : Cond.methodLink RX12 218 yX12_opens ∈ zg := zg_of (List.mem_of_getElem? (i := 1417) (by decide +kernel)) (by decide +kernel)
theorem kw_1419 : Cond.instanceMethod yX12_opens ∈ zg := zg_of (List.mem_of_getElem? (i := 1419) (by decide +kernel)) (by decide +kernel)
theorem kw_56 : Cond.selects RX12 yX12_opens yX12_opens ∈ zg := zg_of (List.mem_of_getElem? (i := 56) (by decide +kernel)) (by decide +kernel)
theorem mv_X12_218 : zMV RX12 218 yX12_opens cX12_opens 1 (some .boolean) 0 := ⟨⟨kw_1417, kw_1419, kw_56, kw_93, kw_1420⟩, ⟨by decide, by decide, by decide +kernel⟩, by decide⟩
section
theorem dX12_see_0 : decode cX12_see 0 = .ok (.iload_n 1, 1) := by decide +kernel
theorem dX12_see_1 : decode cX12_see 1 = .ok (.aload_n 0, 1) := by decide +kernel
theorem dX12_see_2 : decode cX12_see 2 = .ok (.getfield 116, 3) := by decide +kernel
theorem dX12_see_5 : decode cX12_see 5 = .ok (.if_icmp .ge 12, 3) := by decide +kernel
theorem dX12_see_8 : decode cX12_see 8 = .ok (.aload_n 0, 1) := by decide +kernel
theorem dX12_see_9 : decode cX12_see 9 = .ok (.getfield 28, 3) := by decide +kernel
theorem dX12_see_12 : decode cX12_see 12 = .ok (.iload_n 1, 1) := by decide +kernel
theorem dX12_see_13 : decode cX12_see 13 = .ok (.iaload, 1) := by decide +kernel
theorem dX12_see_14 : decode cX12_see 14 = .ok (.goto 4, 3) := by decide +kernel
theorem dX12_see_17 : decode cX12_see 17 = .ok (.iconst (-1), 1) := by decide +kernel
theorem dX12_see_18 : decode cX12_see 18 = .ok (.ireturn, 1) := by decide +kernel
abbrev nd_X12_see : List Nat := [100, 107]
abbrev ld_X12_see : List (Nat × Nat) := [(100, 8)]
def f_X12_see  (x1 : Int32) (h : zH) : zR := (if (h 100 13) ≤ x1 then (some ((-1 : Int32), h)) else (zck x1 400 (some ((h 107 (Int32.toNatClampNeg x1)), h))))
variable {p : Program} {l : Launch} {e : Env} {s : State} {m : MethodId} {args : Array Value} {below : List Frame} {meth : Method} {c : Code} {G : zG} {q : Int32 × zH}
set_option maxHeartbeats 4000000 in
set_option maxRecDepth 100000 in
theorem c_X12_see (l : Launch) (G : zG) (h : zH) (x1 : Int32) (q : Int32 × zH) (hm : ∀ c ∈ nd_X12_see, c ∈ znm G) (hk : ∀ q ∈ ld_X12_see, zlk G q.1 q.2 = true) (hf : f_X12_see x1 h = some q) : zCtI l yX12_see cX12_see 2 (some .int) (2) [.ref (zal G 100), .int x1] G h q.2 q.1 := by
  refine zMetI (by decide) (Nat.le_of_ble_eq_true rfl) ?_
  intro p e s m below meth c ls C hl hS
  have hl : lv_has ls 2 [(0, .ref (zal G 100)), (1, .int x1)] := hl
  have C : zC G p s m [.ref (zal G 100), .int x1].toArray meth c cX12_see 2 RX12 (some .int) := C
  unfold f_X12_see at hf
  refine lv_iload_n C.1 C.2.1 dX12_see_0 rfl (lv_at hl 1 rfl) ?_
  refine lv_aload_n C.1 C.2.1 dX12_see_1 rfl (lv_at hl 0 rfl) ?_
  refine zgetI C hS ff_X12_116_100 (hm 100 (by decide)) dX12_see_2 ?_
  refine lv_icmp_ge (tgt := 17) C.1 C.2.1 dX12_see_5 (by decide) (fun hc => ?_) (fun hc => ?_)
  · have hf := zif_t hc hf
    refine lv_iconst (v := (-1 : Int32)) C.1 C.2.1 dX12_see_17 rfl ?_
    exact zretI C hS hf dX12_see_18
  · have hf := zif_f hc hf
    refine lv_aload_n C.1 C.2.1 dX12_see_8 rfl (lv_at hl 0 rfl) ?_
    refine zgetR C hS ff_X12_28_100 (hm 100 (by decide)) (hk (100, 8) (by decide)) dX12_see_9 ?_
    refine lv_iload_n C.1 C.2.1 dX12_see_12 rfl (lv_at hl 1 rfl) ?_
    obtain ⟨hi, hf⟩ := zck_some hf
    refine zald C hS sh_107 (hm 107 (by decide)) hi dX12_see_13 ?_
    refine lv_goto (tgt := 18) C.1 C.2.1 dX12_see_14 (by decide) ?_
    exact zretI C hS hf dX12_see_18
end
section
theorem dX12_isLetter_0 : decode cX12_isLetter 0 = .ok (.iload_n 0, 1) := by decide +kernel
theorem dX12_isLetter_1 : decode cX12_isLetter 1 = .ok (.bipush 97, 2) := by decide +kernel
theorem dX12_isLetter_3 : decode cX12_isLetter 3 = .ok (.bipush 122, 2) := by decide +kernel
theorem dX12_isLetter_5 : decode cX12_isLetter 5 = .ok (.invokestatic 65, 3) := by decide +kernel
theorem dX12_isLetter_8 : decode cX12_isLetter 8 = .ok (.ifCond .ne 14, 3) := by decide +kernel
theorem dX12_isLetter_11 : decode cX12_isLetter 11 = .ok (.iload_n 0, 1) := by decide +kernel
theorem dX12_isLetter_12 : decode cX12_isLetter 12 = .ok (.bipush 65, 2) := by decide +kernel
theorem dX12_isLetter_14 : decode cX12_isLetter 14 = .ok (.bipush 90, 2) := by decide +kernel
theorem dX12_isLetter_16 : decode cX12_isLetter 16 = .ok (.invokestatic 65, 3) := by decide +kernel
theorem dX12_isLetter_19 : decode cX12_isLetter 19 = .ok (.ifCond .eq 7, 3) := by decide +kernel
theorem dX12_isLetter_22 : decode cX12_isLetter 22 = .ok (.iconst 1, 1) := by decide +kernel
theorem dX12_isLetter_23 : decode cX12_isLetter 23 = .ok (.goto 4, 3) := by decide +kernel
theorem dX12_isLetter_26 : decode cX12_isLetter 26 = .ok (.iconst 0, 1) := by decide +kernel
theorem dX12_isLetter_27 : decode cX12_isLetter 27 = .ok (.ireturn, 1) := by decide +kernel
abbrev nd_X12_isLetter : List Nat := []
abbrev ld_X12_isLetter : List (Nat × Nat) := []
theorem sn_X12_isLetter_X12_isIn : ∀ c ∈ nd_X12_isIn, c ∈ nd_X12_isLetter := by decide
theorem sl_X12_isLetter_X12_isIn : ∀ q ∈ ld_X12_isIn, q ∈ ld_X12_isLetter := by decide
def f_X12_isLetter_22  (h : zH) : zR := (some ((1 : Int32), h))
def f_X12_isLetter  (x0 : Int32) (h : zH) : zR := (zbd (f_X12_isIn x0 (97 : Int32) (122 : Int32) h) fun r1 h2 => (if r1 = 0 then (zbd (f_X12_isIn x0 (65 : Int32) (90 : Int32) h2) fun r3 h4 => (if r3 = 0 then (some ((0 : Int32), h4)) else (f_X12_isLetter_22   h4))) else (f_X12_isLetter_22   h2)))
variable {p : Program} {l : Launch} {e : Env} {s : State} {m : MethodId} {args : Array Value} {below : List Frame} {meth : Method} {c : Code} {G : zG} {q : Int32 × zH}
set_option maxHeartbeats 4000000 in
set_option maxRecDepth 100000 in
theorem w_X12_isLetter_22  (C : zC G p s m args meth c cX12_isLetter 1 RX12 (some .boolean)) (hm : ∀ c ∈ nd_X12_isLetter, c ∈ znm G) (hk : ∀ q ∈ ld_X12_isLetter, zlk G q.1 q.2 = true)  : ∀ (ls : Array Slot) (H : Heap) (locs : List Loc) (h : zH), lv_has ls 1 [] → zS G h s.heap H locs → f_X12_isLetter_22  h = some q → W p l e (zrm (3)) s m args below meth c H locs 0 0 (MQ below (zQI G q.2 q.1) args s 0 0 (zA G)) (F0 m 22 ls []) := by
  intro ls H locs h hl hS hf
  unfold f_X12_isLetter_22 at hf
  refine lv_iconst (v := (1 : Int32)) C.1 C.2.1 dX12_isLetter_22 rfl ?_
  refine lv_goto (tgt := 27) C.1 C.2.1 dX12_isLetter_23 (by decide) ?_
  exact zretZ C hS rfl hf dX12_isLetter_27
set_option maxHeartbeats 4000000 in
set_option maxRecDepth 100000 in
theorem c_X12_isLetter (l : Launch) (G : zG) (h : zH) (x0 : Int32) (q : Int32 × zH) (hm : ∀ c ∈ nd_X12_isLetter, c ∈ znm G) (hk : ∀ q ∈ ld_X12_isLetter, zlk G q.1 q.2 = true) (hf : f_X12_isLetter x0 h = some q) : zCtI l yX12_isLetter cX12_isLetter 1 (some .boolean) (3) [.int x0] G h q.2 q.1 := by
  refine zMetI (by decide) (Nat.le_of_ble_eq_true rfl) ?_
  intro p e s m below meth c ls C hl hS
  have hl : lv_has ls 1 [(0, .int x0)] := hl
  have C : zC G p s m [.int x0].toArray meth c cX12_isLetter 1 RX12 (some .boolean) := C
  unfold f_X12_isLetter at hf
  refine lv_iload_n C.1 C.2.1 dX12_isLetter_0 rfl (lv_at hl 0 rfl) ?_
  refine lv_bipush (v := (97 : Int32)) C.1 C.2.1 dX12_isLetter_1 rfl ?_
  refine lv_bipush (v := (122 : Int32)) C.1 C.2.1 dX12_isLetter_3 rfl ?_
  obtain ⟨r1, h2, er1, hf⟩ := zbd_some hf
  refine zcallSI (As := [.int x0, .int (97 : Int32), .int (122 : Int32)]) (rest := []) C hS ms_X12_65 (c_X12_isIn l G h x0 (97 : Int32) (122 : Int32) (r1, h2) (fun c h => hm c (sn_X12_isLetter_X12_isIn c h)) (fun q h => hk q (sl_X12_isLetter_X12_isIn q h)) er1) rfl rfl (Nat.le_of_ble_eq_true rfl) hl.1 ⟨Nat.le_of_ble_eq_true rfl, Nat.le_of_ble_eq_true rfl, Nat.le_of_ble_eq_true rfl, Nat.le_of_ble_eq_true rfl⟩ dX12_isLetter_5 (fun H locs hS => ?_)
  refine lv_if_ne (tgt := 22) C.1 C.2.1 dX12_isLetter_8 (by decide) (fun hc => ?_) (fun hc => ?_)
  · have hf := zif_f hc hf
    exact w_X12_isLetter_22 C hm hk  _ _ _ _ (lv_sub hl [] rfl) hS hf
  · have hf := zif_t hc hf
    refine lv_iload_n C.1 C.2.1 dX12_isLetter_11 rfl (lv_at hl 0 rfl) ?_
    refine lv_bipush (v := (65 : Int32)) C.1 C.2.1 dX12_isLetter_12 rfl ?_
    refine lv_bipush (v := (90 : Int32)) C.1 C.2.1 dX12_isLetter_14 rfl ?_
    obtain ⟨r3, h4, er3, hf⟩ := zbd_some hf
    refine zcallSI (As := [.int x0, .int (65 : Int32), .int (90 : Int32)]) (rest := []) C hS ms_X12_65 (c_X12_isIn l G h2 x0 (65 : Int32) (90 : Int32) (r3, h4) (fun c h => hm c (sn_X12_isLetter_X12_isIn c h)) (fun q h => hk q (sl_X12_isLetter_X12_isIn q h)) er3) rfl rfl (Nat.le_of_ble_eq_true rfl) hl.1 ⟨Nat.le_of_ble_eq_true rfl, Nat.le_of_ble_eq_true rfl, Nat.le_of_ble_eq_true rfl, Nat.le_of_ble_eq_true rfl⟩ dX12_isLetter_16 (fun H locs hS => ?_)
    refine lv_if_eq (tgt := 26) C.1 C.2.1 dX12_isLetter_19 (by decide) (fun hc => ?_) (fun hc => ?_)
    · have hf := zif_t hc hf
      refine lv_iconst (v := (0 : Int32)) C.1 C.2.1 dX12_isLetter_26 rfl ?_
      exact zretZ C hS rfl hf dX12_isLetter_27
    · have hf := zif_f hc hf
      exact w_X12_isLetter_22 C hm hk  _ _ _ _ (lv_sub hl [] rfl) hS hf
end
section
theorem dX12_isDigit_0 : decode cX12_isDigit 0 = .ok (.iload_n 0, 1) := by decide +kernel
theorem dX12_isDigit_1 : decode cX12_isDigit 1 = .ok (.bipush 48, 2) := by decide +kernel
theorem dX12_isDigit_3 : decode cX12_isDigit 3 = .ok (.bipush 57, 2) := by decide +kernel
theorem dX12_isDigit_5 : decode cX12_isDigit 5 = .ok (.invokestatic 65, 3) := by decide +kernel
theorem dX12_isDigit_8 : decode cX12_isDigit 8 = .ok (.ireturn, 1) := by decide +kernel
abbrev nd_X12_isDigit : List Nat := []
abbrev ld_X12_isDigit : List (Nat × Nat) := []
theorem sn_X12_isDigit_X12_isIn : ∀ c ∈ nd_X12_isIn, c ∈ nd_X12_isDigit := by decide
theorem sl_X12_isDigit_X12_isIn : ∀ q ∈ ld_X12_isIn, q ∈ ld_X12_isDigit := by decide
def f_X12_isDigit  (x0 : Int32) (h : zH) : zR := (zbd (f_X12_isIn x0 (48 : Int32) (57 : Int32) h) fun r1 h2 => (zbo r1 (some (r1, h2))))
variable {p : Program} {l : Launch} {e : Env} {s : State} {m : MethodId} {args : Array Value} {below : List Frame} {meth : Method} {c : Code} {G : zG} {q : Int32 × zH}
set_option maxHeartbeats 4000000 in
set_option maxRecDepth 100000 in
theorem c_X12_isDigit (l : Launch) (G : zG) (h : zH) (x0 : Int32) (q : Int32 × zH) (hm : ∀ c ∈ nd_X12_isDigit, c ∈ znm G) (hk : ∀ q ∈ ld_X12_isDigit, zlk G q.1 q.2 = true) (hf : f_X12_isDigit x0 h = some q) : zCtI l yX12_isDigit cX12_isDigit 1 (some .boolean) (3) [.int x0] G h q.2 q.1 := by
  refine zMetI (by decide) (Nat.le_of_ble_eq_true rfl) ?_
  intro p e s m below meth c ls C hl hS
  have hl : lv_has ls 1 [(0, .int x0)] := hl
  have C : zC G p s m [.int x0].toArray meth c cX12_isDigit 1 RX12 (some .boolean) := C
  unfold f_X12_isDigit at hf
  refine lv_iload_n C.1 C.2.1 dX12_isDigit_0 rfl (lv_at hl 0 rfl) ?_
  refine lv_bipush (v := (48 : Int32)) C.1 C.2.1 dX12_isDigit_1 rfl ?_
  refine lv_bipush (v := (57 : Int32)) C.1 C.2.1 dX12_isDigit_3 rfl ?_
  obtain ⟨r1, h2, er1, hf⟩ := zbd_some hf
  refine zcallSI (As := [.int x0, .int (48 : Int32), .int (57 : Int32)]) (rest := []) C hS ms_X12_65 (c_X12_isIn l G h x0 (48 : Int32) (57 : Int32) (r1, h2) (fun c h => hm c (sn_X12_isDigit_X12_isIn c h)) (fun q h => hk q (sl_X12_isDigit_X12_isIn q h)) er1) rfl rfl (Nat.le_of_ble_eq_true rfl) hl.1 ⟨Nat.le_of_ble_eq_true rfl, Nat.le_of_ble_eq_true rfl, Nat.le_of_ble_eq_true rfl, Nat.le_of_ble_eq_true rfl⟩ dX12_isDigit_5 (fun H locs hS => ?_)
  obtain ⟨hb, hf⟩ := zbo_some hf
  exact zretZ C hS hb hf dX12_isDigit_8
end
section
theorem dX12_is_0 : decode cX12_is 0 = .ok (.aload_n 0, 1) := by decide +kernel
theorem dX12_is_1 : decode cX12_is 1 = .ok (.getfield 119, 3) := by decide +kernel
theorem dX12_is_4 : decode cX12_is 4 = .ok (.aload_n 0, 1) := by decide +kernel
theorem dX12_is_5 : decode cX12_is 5 = .ok (.getfield 122, 3) := by decide +kernel
theorem dX12_is_8 : decode cX12_is 8 = .ok (.isub, 1) := by decide +kernel
theorem dX12_is_9 : decode cX12_is 9 = .ok (.aload_n 1, 1) := by decide +kernel
theorem dX12_is_10 : decode cX12_is 10 = .ok (.invokevirtual 125, 3) := by decide +kernel
theorem dX12_is_13 : decode cX12_is 13 = .ok (.if_icmp .ne 7, 3) := by decide +kernel
theorem dX12_is_16 : decode cX12_is 16 = .ok (.iconst 1, 1) := by decide +kernel
theorem dX12_is_17 : decode cX12_is 17 = .ok (.goto 4, 3) := by decide +kernel
theorem dX12_is_20 : decode cX12_is 20 = .ok (.iconst 0, 1) := by decide +kernel
theorem dX12_is_21 : decode cX12_is 21 = .ok (.istore_n 2, 1) := by decide +kernel
theorem dX12_is_22 : decode cX12_is 22 = .ok (.iconst 0, 1) := by decide +kernel
theorem dX12_is_23 : decode cX12_is 23 = .ok (.istore_n 3, 1) := by decide +kernel
theorem dX12_is_24 : decode cX12_is 24 = .ok (.iload_n 3, 1) := by decide +kernel
theorem dX12_is_25 : decode cX12_is 25 = .ok (.aload_n 1, 1) := by decide +kernel
theorem dX12_is_26 : decode cX12_is 26 = .ok (.invokevirtual 125, 3) := by decide +kernel
theorem dX12_is_29 : decode cX12_is 29 = .ok (.if_icmp .ge 38, 3) := by decide +kernel
theorem dX12_is_32 : decode cX12_is 32 = .ok (.iload_n 2, 1) := by decide +kernel
theorem dX12_is_33 : decode cX12_is 33 = .ok (.ifCond .eq 34, 3) := by decide +kernel
theorem dX12_is_36 : decode cX12_is 36 = .ok (.aload_n 0, 1) := by decide +kernel
theorem dX12_is_37 : decode cX12_is 37 = .ok (.getfield 28, 3) := by decide +kernel
theorem dX12_is_40 : decode cX12_is 40 = .ok (.aload_n 0, 1) := by decide +kernel
theorem dX12_is_41 : decode cX12_is 41 = .ok (.getfield 122, 3) := by decide +kernel
theorem dX12_is_44 : decode cX12_is 44 = .ok (.iload_n 3, 1) := by decide +kernel
theorem dX12_is_45 : decode cX12_is 45 = .ok (.iadd, 1) := by decide +kernel
theorem dX12_is_46 : decode cX12_is 46 = .ok (.iaload, 1) := by decide +kernel
theorem dX12_is_47 : decode cX12_is 47 = .ok (.aload_n 1, 1) := by decide +kernel
theorem dX12_is_48 : decode cX12_is 48 = .ok (.iload_n 3, 1) := by decide +kernel
theorem dX12_is_49 : decode cX12_is 49 = .ok (.invokevirtual 131, 3) := by decide +kernel
theorem dX12_is_52 : decode cX12_is 52 = .ok (.if_icmp .ne 7, 3) := by decide +kernel
theorem dX12_is_55 : decode cX12_is 55 = .ok (.iconst 1, 1) := by decide +kernel
theorem dX12_is_56 : decode cX12_is 56 = .ok (.goto 4, 3) := by decide +kernel
theorem dX12_is_59 : decode cX12_is 59 = .ok (.iconst 0, 1) := by decide +kernel
theorem dX12_is_60 : decode cX12_is 60 = .ok (.istore_n 2, 1) := by decide +kernel
theorem dX12_is_61 : decode cX12_is 61 = .ok (.iinc 3 1, 3) := by decide +kernel
theorem dX12_is_64 : decode cX12_is 64 = .ok (.goto (-40), 3) := by decide +kernel
theorem dX12_is_67 : decode cX12_is 67 = .ok (.iload_n 2, 1) := by decide +kernel
theorem dX12_is_68 : decode cX12_is 68 = .ok (.ireturn, 1) := by decide +kernel
abbrev nd_X12_is : List Nat := [100, 107]
abbrev ld_X12_is : List (Nat × Nat) := [(100, 8)]
theorem sn_X12_is_J0_length_8abf5 : ∀ c ∈ nd_J0_length_8abf5, c ∈ nd_X12_is := by decide
theorem sl_X12_is_J0_length_8abf5 : ∀ q ∈ ld_J0_length_8abf5, q ∈ ld_X12_is := by decide
theorem sn_X12_is_J0_charAt_5068e : ∀ c ∈ nd_J0_charAt_5068e, c ∈ nd_X12_is := by decide
theorem sl_X12_is_J0_charAt_5068e : ∀ q ∈ ld_J0_charAt_5068e, q ∈ ld_X12_is := by decide
def f_X12_is_67  (x2 : Int32) (h : zH) : zR := (zbo x2 (some (x2, h)))
def f_X12_is_60 (k24 : Nat → Int32 → Int32 → zH → zR) (i1 : Nat) (x3 : Int32) (s0 : Int32) (h : zH) : zR := (zlt (x3 + (1 : Int32)) fun y7 => (k24 i1 s0 y7 h))
def f_X12_is_24  : Nat → Nat → Int32 → Int32 → zH → zR
  | 0 => fun _ _ _ _ => none
  | n + 1 => fun i1 x2 x3 h => (zbd (f_J0_length_8abf5 i1 h) fun r3 h4 => (if r3 ≤ x3 then (f_X12_is_67  x2 h4) else (if x2 = 0 then (f_X12_is_67  x2 h4) else (zck ((h4 100 16) + x3) 400 (zbd (f_J0_charAt_5068e i1 x3 h4) fun r5 h6 => (if (h4 107 (Int32.toNatClampNeg ((h4 100 16) + x3))) = r5 then (f_X12_is_60 (f_X12_is_24  n) i1 x3 (1 : Int32) h6) else (f_X12_is_60 (f_X12_is_24  n) i1 x3 (0 : Int32) h6)))))))
def f_X12_is_21  (i1 : Nat) (s0 : Int32) (h : zH) : zR := (f_X12_is_24  zN i1 s0 (0 : Int32) h)
def f_X12_is  (i1 : Nat) (h : zH) : zR := (zbd (f_J0_length_8abf5 i1 h) fun r1 h2 => (if ((h 100 14) - (h 100 16)) = r1 then (f_X12_is_21  i1 (1 : Int32) h2) else (f_X12_is_21  i1 (0 : Int32) h2)))
variable {p : Program} {l : Launch} {e : Env} {s : State} {m : MethodId} {args : Array Value} {below : List Frame} {meth : Method} {c : Code} {G : zG} {q : Int32 × zH}
set_option maxHeartbeats 4000000 in
set_option maxRecDepth 100000 in
theorem w_X12_is_67  (C : zC G p s m args meth c cX12_is 4 RX12 (some .boolean)) (hm : ∀ c ∈ nd_X12_is, c ∈ znm G) (hk : ∀ q ∈ ld_X12_is, zlk G q.1 q.2 = true)  : ∀ (ls : Array Slot) (H : Heap) (locs : List Loc) (h : zH) (x2 : Int32), lv_has ls 4 [(2, .int x2)] → zS G h s.heap H locs → f_X12_is_67  x2 h = some q → W p l e (zrm (6)) s m args below meth c H locs 0 0 (MQ below (zQI G q.2 q.1) args s 0 0 (zA G)) (F0 m 67 ls []) := by
  intro ls H locs h x2 hl hS hf
  unfold f_X12_is_67 at hf
  refine lv_iload_n C.1 C.2.1 dX12_is_67 rfl (lv_at hl 0 rfl) ?_
  obtain ⟨hb, hf⟩ := zbo_some hf
  exact zretZ C hS hb hf dX12_is_68
set_option maxHeartbeats 4000000 in
set_option maxRecDepth 100000 in
theorem w_X12_is_60 {k24 : Nat → Int32 → Int32 → zH → zR} (C : zC G p s m args meth c cX12_is 4 RX12 (some .boolean)) (hm : ∀ c ∈ nd_X12_is, c ∈ znm G) (hk : ∀ q ∈ ld_X12_is, zlk G q.1 q.2 = true) (hk24 : ∀ (ls : Array Slot) (H : Heap) (locs : List Loc) (h : zH) (i1 : Nat) (x2 : Int32) (x3 : Int32), i1 < znS → lv_has ls 4 [(0, .ref (zal G 100)), (1, .ref (zaK G i1)), (2, .int x2), (3, .int x3)] → zS G h s.heap H locs → k24 i1 x2 x3 h = some q → W p l e (zrm (6)) s m args below meth c H locs 0 0 (MQ below (zQI G q.2 q.1) args s 0 0 (zA G)) (F0 m 24 ls [])) : ∀ (ls : Array Slot) (H : Heap) (locs : List Loc) (h : zH) (i1 : Nat) (x3 : Int32) (s0 : Int32), i1 < znS → lv_has ls 4 [(0, .ref (zal G 100)), (1, .ref (zaK G i1)), (3, .int x3)] → zS G h s.heap H locs → f_X12_is_60 k24 i1 x3 s0 h = some q → W p l e (zrm (6)) s m args below meth c H locs 0 0 (MQ below (zQI G q.2 q.1) args s 0 0 (zA G)) (F0 m 60 ls [.int s0]) := by
  intro ls H locs h i1 x3 s0 hi_i1 hl hS hf
  unfold f_X12_is_60 at hf
  refine lv_istore_n (lv' := [(2, .int s0), (0, .ref (zal G 100)), (1, .ref (zaK G i1)), (3, .int x3)]) C.1 C.2.1 dX12_is_60 rfl hl (by decide) rfl (fun ls hl => ?_)
  obtain ⟨y7, ey7, hf⟩ := zlt_some hf
  refine lv_iinc (v := y7) (lv' := [(3, .int y7), (2, .int s0), (0, .ref (zal G 100)), (1, .ref (zaK G i1))]) C.1 C.2.1 dX12_is_61 hl (k := 3) rfl ey7.symm (by decide) rfl (fun ls hl => ?_)
  refine lv_goto (tgt := 24) C.1 C.2.1 dX12_is_64 (by decide) ?_
  exact hk24 _ _ _ _ _ _ _ hi_i1 (lv_sub hl [2, 3, 1, 0] rfl) hS hf
set_option maxHeartbeats 4000000 in
set_option maxRecDepth 100000 in
theorem w_X12_is_24  (C : zC G p s m args meth c cX12_is 4 RX12 (some .boolean)) (hm : ∀ c ∈ nd_X12_is, c ∈ znm G) (hk : ∀ q ∈ ld_X12_is, zlk G q.1 q.2 = true)  : ∀ n, ∀ (ls : Array Slot) (H : Heap) (locs : List Loc) (h : zH) (i1 : Nat) (x2 : Int32) (x3 : Int32), i1 < znS → lv_has ls 4 [(0, .ref (zal G 100)), (1, .ref (zaK G i1)), (2, .int x2), (3, .int x3)] → zS G h s.heap H locs → f_X12_is_24  n i1 x2 x3 h = some q → W p l e (zrm (6)) s m args below meth c H locs 0 0 (MQ below (zQI G q.2 q.1) args s 0 0 (zA G)) (F0 m 24 ls []) := by
  intro n
  induction n with
  | zero => intro ls H locs h i1 x2 x3 hi_i1 hl hS hf; cases hf
  | succ n ih =>
    intro ls H locs h i1 x2 x3 hi_i1 hl hS hf
    rw [f_X12_is_24] at hf
    refine lv_iload_n C.1 C.2.1 dX12_is_24 rfl (lv_at hl 3 rfl) ?_
    refine lv_aload_n C.1 C.2.1 dX12_is_25 rfl (lv_at hl 1 rfl) ?_
    obtain ⟨r3, h4, er3, hf⟩ := zbd_some hf
    refine zcallTI (i := i1) (As := []) (rest := [.int x3]) C hS mv_X12_125 (c_J0_length_8abf5 l G h i1 (r3, h4) hi_i1 (fun c h => hm c (sn_X12_is_J0_length_8abf5 c h)) (fun q h => hk q (sl_X12_is_J0_length_8abf5 q h)) er3) hi_i1 rfl rfl rfl (Nat.le_of_ble_eq_true rfl) hl.1 ⟨Nat.le_of_ble_eq_true rfl, Nat.le_of_ble_eq_true rfl, Nat.le_of_ble_eq_true rfl, Nat.le_of_ble_eq_true rfl⟩ dX12_is_26 (fun H locs hS => ?_)
    refine lv_icmp_ge (tgt := 67) C.1 C.2.1 dX12_is_29 (by decide) (fun hc => ?_) (fun hc => ?_)
    · have hf := zif_t hc hf
      exact w_X12_is_67 C hm hk  _ _ _ _ _ (lv_sub hl [2] rfl) hS hf
    · have hf := zif_f hc hf
      refine lv_iload_n C.1 C.2.1 dX12_is_32 rfl (lv_at hl 2 rfl) ?_
      refine lv_if_eq (tgt := 67) C.1 C.2.1 dX12_is_33 (by decide) (fun hc => ?_) (fun hc => ?_)
      · have hf := zif_t hc hf
        exact w_X12_is_67 C hm hk  _ _ _ _ _ (lv_sub hl [2] rfl) hS hf
      · have hf := zif_f hc hf
        refine lv_aload_n C.1 C.2.1 dX12_is_36 rfl (lv_at hl 0 rfl) ?_
        refine zgetR C hS ff_X12_28_100 (hm 100 (by decide)) (hk (100, 8) (by decide)) dX12_is_37 ?_
        refine lv_aload_n C.1 C.2.1 dX12_is_40 rfl (lv_at hl 0 rfl) ?_
        refine zgetI C hS ff_X12_122_100 (hm 100 (by decide)) dX12_is_41 ?_
        refine lv_iload_n C.1 C.2.1 dX12_is_44 rfl (lv_at hl 3 rfl) ?_
        refine lv_iadd C.1 C.2.1 dX12_is_45 ?_
        obtain ⟨hi, hf⟩ := zck_some hf
        refine zald C hS sh_107 (hm 107 (by decide)) hi dX12_is_46 ?_
        refine lv_aload_n C.1 C.2.1 dX12_is_47 rfl (lv_at hl 1 rfl) ?_
        refine lv_iload_n C.1 C.2.1 dX12_is_48 rfl (lv_at hl 3 rfl) ?_
        obtain ⟨r5, h6, er5, hf⟩ := zbd_some hf
        refine zcallTI (i := i1) (As := [.int x3]) (rest := [.int (h4 107 (Int32.toNatClampNeg ((h4 100 16) + x3)))]) C hS mv_X12_131 (c_J0_charAt_5068e l G h4 i1 x3 (r5, h6) hi_i1 (fun c h => hm c (sn_X12_is_J0_charAt_5068e c h)) (fun q h => hk q (sl_X12_is_J0_charAt_5068e q h)) er5) hi_i1 rfl rfl rfl (Nat.le_of_ble_eq_true rfl) hl.1 ⟨Nat.le_of_ble_eq_true rfl, Nat.le_of_ble_eq_true rfl, Nat.le_of_ble_eq_true rfl, Nat.le_of_ble_eq_true rfl⟩ dX12_is_49 (fun H locs hS => ?_)
        refine lv_icmp_ne (tgt := 59) C.1 C.2.1 dX12_is_52 (by decide) (fun hc => ?_) (fun hc => ?_)
        · have hf := zif_f hc hf
          refine lv_iconst (v := (0 : Int32)) C.1 C.2.1 dX12_is_59 rfl ?_
          exact w_X12_is_60 C hm hk ih _ _ _ _ _ _ _ hi_i1 (lv_sub hl [0, 1, 3] rfl) hS hf
        · have hf := zif_t hc hf
          refine lv_iconst (v := (1 : Int32)) C.1 C.2.1 dX12_is_55 rfl ?_
          refine lv_goto (tgt := 60) C.1 C.2.1 dX12_is_56 (by decide) ?_
          exact w_X12_is_60 C hm hk ih _ _ _ _ _ _ _ hi_i1 (lv_sub hl [0, 1, 3] rfl) hS hf
set_option maxHeartbeats 4000000 in
set_option maxRecDepth 100000 in
theorem w_X12_is_21  (C : zC G p s m args meth c cX12_is 4 RX12 (some .boolean)) (hm : ∀ c ∈ nd_X12_is, c ∈ znm G) (hk : ∀ q ∈ ld_X12_is, zlk G q.1 q.2 = true)  : ∀ (ls : Array Slot) (H : Heap) (locs : List Loc) (h : zH) (i1 : Nat) (s0 : Int32), i1 < znS → lv_has ls 4 [(0, .ref (zal G 100)), (1, .ref (zaK G i1))] → zS G h s.heap H locs → f_X12_is_21  i1 s0 h = some q → W p l e (zrm (6)) s m args below meth c H locs 0 0 (MQ below (zQI G q.2 q.1) args s 0 0 (zA G)) (F0 m 21 ls [.int s0]) := by
  intro ls H locs h i1 s0 hi_i1 hl hS hf
  unfold f_X12_is_21 at hf
  refine lv_istore_n (lv' := [(2, .int s0), (0, .ref (zal G 100)), (1, .ref (zaK G i1))]) C.1 C.2.1 dX12_is_21 rfl hl (by decide) rfl (fun ls hl => ?_)
  refine lv_iconst (v := (0 : Int32)) C.1 C.2.1 dX12_is_22 rfl ?_
  refine lv_istore_n (lv' := [(3, .int (0 : Int32)), (2, .int s0), (0, .ref (zal G 100)), (1, .ref (zaK G i1))]) C.1 C.2.1 dX12_is_23 rfl hl (by decide) rfl (fun ls hl => ?_)
  exact w_X12_is_24 C hm hk  zN _ _ _ _ _ _ _ hi_i1 (lv_sub hl [2, 3, 1, 0] rfl) hS hf
set_option maxHeartbeats 4000000 in
set_option maxRecDepth 100000 in
theorem c_X12_is (l : Launch) (G : zG) (h : zH) (i1 : Nat) (q : Int32 × zH) (hi_i1 : i1 < znS) (hm : ∀ c ∈ nd_X12_is, c ∈ znm G) (hk : ∀ q ∈ ld_X12_is, zlk G q.1 q.2 = true) (hf : f_X12_is i1 h = some q) : zCtI l yX12_is cX12_is 4 (some .boolean) (6) [.ref (zal G 100), .ref (zaK G i1)] G h q.2 q.1 := by
  refine zMetI (by decide) (Nat.le_of_ble_eq_true rfl) ?_
  intro p e s m below meth c ls C hl hS
  have hl : lv_has ls 4 [(0, .ref (zal G 100)), (1, .ref (zaK G i1))] := hl
  have C : zC G p s m [.ref (zal G 100), .ref (zaK G i1)].toArray meth c cX12_is 4 RX12 (some .boolean) := C
  unfold f_X12_is at hf
  refine lv_aload_n C.1 C.2.1 dX12_is_0 rfl (lv_at hl 0 rfl) ?_
  refine zgetI C hS ff_X12_119_100 (hm 100 (by decide)) dX12_is_1 ?_
  refine lv_aload_n C.1 C.2.1 dX12_is_4 rfl (lv_at hl 0 rfl) ?_
  refine zgetI C hS ff_X12_122_100 (hm 100 (by decide)) dX12_is_5 ?_
  refine lv_isub C.1 C.2.1 dX12_is_8 ?_
  refine lv_aload_n C.1 C.2.1 dX12_is_9 rfl (lv_at hl 1 rfl) ?_
  obtain ⟨r1, h2, er1, hf⟩ := zbd_some hf
  refine zcallTI (i := i1) (As := []) (rest := [.int ((h 100 14) - (h 100 16))]) C hS mv_X12_125 (c_J0_length_8abf5 l G h i1 (r1, h2) hi_i1 (fun c h => hm c (sn_X12_is_J0_length_8abf5 c h)) (fun q h => hk q (sl_X12_is_J0_length_8abf5 q h)) er1) hi_i1 rfl rfl rfl (Nat.le_of_ble_eq_true rfl) hl.1 ⟨Nat.le_of_ble_eq_true rfl, Nat.le_of_ble_eq_true rfl, Nat.le_of_ble_eq_true rfl, Nat.le_of_ble_eq_true rfl⟩ dX12_is_10 (fun H locs hS => ?_)
  refine lv_icmp_ne (tgt := 20) C.1 C.2.1 dX12_is_13 (by decide) (fun hc => ?_) (fun hc => ?_)
  · have hf := zif_f hc hf
    refine lv_iconst (v := (0 : Int32)) C.1 C.2.1 dX12_is_20 rfl ?_
    exact w_X12_is_21 C hm hk  _ _ _ _ _ _ hi_i1 (lv_sub hl [0, 1] rfl) hS hf
  · have hf := zif_t hc hf
    refine lv_iconst (v := (1 : Int32)) C.1 C.2.1 dX12_is_16 rfl ?_
    refine lv_goto (tgt := 21) C.1 C.2.1 dX12_is_17 (by decide) ?_
    exact w_X12_is_21 C hm hk  _ _ _ _ _ _ hi_i1 (lv_sub hl [0, 1] rfl) hS hf
end
section
theorem dX12_nameWord_0 : decode cX12_nameWord 0 = .ok (.aload_n 0, 1) := by decide +kernel
theorem dX12_nameWord_1 : decode cX12_nameWord 1 = .ok (.ldc 135, 2) := by decide +kernel
theorem dX12_nameWord_3 : decode cX12_nameWord 3 = .ok (.invokevirtual 137, 3) := by decide +kernel
theorem dX12_nameWord_6 : decode cX12_nameWord 6 = .ok (.ifCond .eq 6, 3) := by decide +kernel
theorem dX12_nameWord_9 : decode cX12_nameWord 9 = .ok (.bipush 41, 2) := by decide +kernel
theorem dX12_nameWord_11 : decode cX12_nameWord 11 = .ok (.ireturn, 1) := by decide +kernel
theorem dX12_nameWord_12 : decode cX12_nameWord 12 = .ok (.aload_n 0, 1) := by decide +kernel
theorem dX12_nameWord_13 : decode cX12_nameWord 13 = .ok (.ldc 141, 2) := by decide +kernel
theorem dX12_nameWord_15 : decode cX12_nameWord 15 = .ok (.invokevirtual 137, 3) := by decide +kernel
theorem dX12_nameWord_18 : decode cX12_nameWord 18 = .ok (.ifCond .eq 6, 3) := by decide +kernel
theorem dX12_nameWord_21 : decode cX12_nameWord 21 = .ok (.bipush 42, 2) := by decide +kernel
theorem dX12_nameWord_23 : decode cX12_nameWord 23 = .ok (.ireturn, 1) := by decide +kernel
theorem dX12_nameWord_24 : decode cX12_nameWord 24 = .ok (.aload_n 0, 1) := by decide +kernel
theorem dX12_nameWord_25 : decode cX12_nameWord 25 = .ok (.ldc 143, 2) := by decide +kernel
theorem dX12_nameWord_27 : decode cX12_nameWord 27 = .ok (.invokevirtual 137, 3) := by decide +kernel
theorem dX12_nameWord_30 : decode cX12_nameWord 30 = .ok (.ifCond .eq 6, 3) := by decide +kernel
theorem dX12_nameWord_33 : decode cX12_nameWord 33 = .ok (.bipush 43, 2) := by decide +kernel
theorem dX12_nameWord_35 : decode cX12_nameWord 35 = .ok (.ireturn, 1) := by decide +kernel
theorem dX12_nameWord_36 : decode cX12_nameWord 36 = .ok (.aload_n 0, 1) := by decide +kernel
theorem dX12_nameWord_37 : decode cX12_nameWord 37 = .ok (.ldc 145, 2) := by decide +kernel
theorem dX12_nameWord_39 : decode cX12_nameWord 39 = .ok (.invokevirtual 137, 3) := by decide +kernel
theorem dX12_nameWord_42 : decode cX12_nameWord 42 = .ok (.ifCond .eq 6, 3) := by decide +kernel
theorem dX12_nameWord_45 : decode cX12_nameWord 45 = .ok (.bipush 44, 2) := by decide +kernel
theorem dX12_nameWord_47 : decode cX12_nameWord 47 = .ok (.ireturn, 1) := by decide +kernel
theorem dX12_nameWord_48 : decode cX12_nameWord 48 = .ok (.aload_n 0, 1) := by decide +kernel
theorem dX12_nameWord_49 : decode cX12_nameWord 49 = .ok (.ldc 147, 2) := by decide +kernel
theorem dX12_nameWord_51 : decode cX12_nameWord 51 = .ok (.invokevirtual 137, 3) := by decide +kernel
theorem dX12_nameWord_54 : decode cX12_nameWord 54 = .ok (.ifCond .eq 6, 3) := by decide +kernel
theorem dX12_nameWord_57 : decode cX12_nameWord 57 = .ok (.bipush 45, 2) := by decide +kernel
theorem dX12_nameWord_59 : decode cX12_nameWord 59 = .ok (.ireturn, 1) := by decide +kernel
theorem dX12_nameWord_60 : decode cX12_nameWord 60 = .ok (.aload_n 0, 1) := by decide +kernel
theorem dX12_nameWord_61 : decode cX12_nameWord 61 = .ok (.ldc 149, 2) := by decide +kernel
theorem dX12_nameWord_63 : decode cX12_nameWord 63 = .ok (.invokevirtual 137, 3) := by decide +kernel
theorem dX12_nameWord_66 : decode cX12_nameWord 66 = .ok (.ifCond .eq 6, 3) := by decide +kernel
theorem dX12_nameWord_69 : decode cX12_nameWord 69 = .ok (.bipush 46, 2) := by decide +kernel
theorem dX12_nameWord_71 : decode cX12_nameWord 71 = .ok (.ireturn, 1) := by decide +kernel
theorem dX12_nameWord_72 : decode cX12_nameWord 72 = .ok (.aload_n 0, 1) := by decide +kernel
theorem dX12_nameWord_73 : decode cX12_nameWord 73 = .ok (.ldc 151, 2) := by decide +kernel
theorem dX12_nameWord_75 : decode cX12_nameWord 75 = .ok (.invokevirtual 137, 3) := by decide +kernel
theorem dX12_nameWord_78 : decode cX12_nameWord 78 = .ok (.ifCond .eq 8, 3) := by decide +kernel
theorem dX12_nameWord_81 : decode cX12_nameWord 81 = .ok (.bipush 47, 2) := by decide +kernel
theorem dX12_nameWord_83 : decode cX12_nameWord 83 = .ok (.goto 4, 3) := by decide +kernel
theorem dX12_nameWord_86 : decode cX12_nameWord 86 = .ok (.iconst 1, 1) := by decide +kernel
theorem dX12_nameWord_87 : decode cX12_nameWord 87 = .ok (.ireturn, 1) := by decide +kernel
abbrev nd_X12_nameWord : List Nat := [100, 107]
abbrev ld_X12_nameWord : List (Nat × Nat) := [(100, 8)]
theorem sn_X12_nameWord_X12_is : ∀ c ∈ nd_X12_is, c ∈ nd_X12_nameWord := by decide
theorem sl_X12_nameWord_X12_is : ∀ q ∈ ld_X12_is, q ∈ ld_X12_nameWord := by decide
def f_X12_nameWord  (h : zH) : zR := (zbd (f_X12_is 7 h) fun r1 h2 => (if r1 = 0 then (zbd (f_X12_is 8 h2) fun r3 h4 => (if r3 = 0 then (zbd (f_X12_is 9 h4) fun r5 h6 => (if r5 = 0 then (zbd (f_X12_is 10 h6) fun r7 h8 => (if r7 = 0 then (zbd (f_X12_is 11 h8) fun r9 h10 => (if r9 = 0 then (zbd (f_X12_is 12 h10) fun r11 h12 => (if r11 = 0 then (zbd (f_X12_is 13 h12) fun r13 h14 => (if r13 = 0 then (some ((1 : Int32), h14)) else (some ((47 : Int32), h14)))) else (some ((46 : Int32), h12)))) else (some ((45 : Int32), h10)))) else (some ((44 : Int32), h8)))) else (some ((43 : Int32), h6)))) else (some ((42 : Int32), h4)))) else (some ((41 : Int32), h2))))
variable {p : Program} {l : Launch} {e : Env} {s : State} {m : MethodId} {args : Array Value} {below : List Frame} {meth : Method} {c : Code} {G : zG} {q : Int32 × zH}
set_option maxHeartbeats 4000000 in
set_option maxRecDepth 100000 in
theorem c_X12_nameWord (l : Launch) (G : zG) (h : zH) (q : Int32 × zH) (hm : ∀ c ∈ nd_X12_nameWord, c ∈ znm G) (hk : ∀ q ∈ ld_X12_nameWord, zlk G q.1 q.2 = true) (hf : f_X12_nameWord h = some q) : zCtI l yX12_nameWord cX12_nameWord 1 (some .int) (7) [.ref (zal G 100)] G h q.2 q.1 := by
  refine zMetI (by decide) (Nat.le_of_ble_eq_true rfl) ?_
  intro p e s m below meth c ls C hl hS
  have hl : lv_has ls 1 [(0, .ref (zal G 100))] := hl
  have C : zC G p s m [.ref (zal G 100)].toArray meth c cX12_nameWord 1 RX12 (some .int) := C
  unfold f_X12_nameWord at hf
  refine lv_aload_n C.1 C.2.1 dX12_nameWord_0 rfl (lv_at hl 0 rfl) ?_
  refine zldcS (i := 7) (tx := "front") C (by decide) dX12_nameWord_1 ?_
  obtain ⟨r1, h2, er1, hf⟩ := zbd_some hf
  refine zcallVI (As := [.ref (zaK G 7)]) (rest := []) C hS mv_X12_137 (c_X12_is l G h 7 (r1, h2) (by decide) (fun c h => hm c (sn_X12_nameWord_X12_is c h)) (fun q h => hk q (sl_X12_nameWord_X12_is q h)) er1) (hm 100 (by decide)) ⟨_, _, _, sh_100, rfl, rfl⟩ rfl rfl (Nat.le_of_ble_eq_true rfl) hl.1 ⟨Nat.le_of_ble_eq_true rfl, Nat.le_of_ble_eq_true rfl, Nat.le_of_ble_eq_true rfl, Nat.le_of_ble_eq_true rfl⟩ dX12_nameWord_3 (fun H locs hS => ?_)
  refine lv_if_eq (tgt := 12) C.1 C.2.1 dX12_nameWord_6 (by decide) (fun hc => ?_) (fun hc => ?_)
  · have hf := zif_t hc hf
    refine lv_aload_n C.1 C.2.1 dX12_nameWord_12 rfl (lv_at hl 0 rfl) ?_
    refine zldcS (i := 8) (tx := "end") C (by decide) dX12_nameWord_13 ?_
    obtain ⟨r3, h4, er3, hf⟩ := zbd_some hf
    refine zcallVI (As := [.ref (zaK G 8)]) (rest := []) C hS mv_X12_137 (c_X12_is l G h2 8 (r3, h4) (by decide) (fun c h => hm c (sn_X12_nameWord_X12_is c h)) (fun q h => hk q (sl_X12_nameWord_X12_is q h)) er3) (hm 100 (by decide)) ⟨_, _, _, sh_100, rfl, rfl⟩ rfl rfl (Nat.le_of_ble_eq_true rfl) hl.1 ⟨Nat.le_of_ble_eq_true rfl, Nat.le_of_ble_eq_true rfl, Nat.le_of_ble_eq_true rfl, Nat.le_of_ble_eq_true rfl⟩ dX12_nameWord_15 (fun H locs hS => ?_)
    refine lv_if_eq (tgt := 24) C.1 C.2.1 dX12_nameWord_18 (by decide) (fun hc => ?_) (fun hc => ?_)
    · have hf := zif_t hc hf
      refine lv_aload_n C.1 C.2.1 dX12_nameWord_24 rfl (lv_at hl 0 rfl) ?_
      refine zldcS (i := 9) (tx := "same") C (by decide) dX12_nameWord_25 ?_
      obtain ⟨r5, h6, er5, hf⟩ := zbd_some hf
      refine zcallVI (As := [.ref (zaK G 9)]) (rest := []) C hS mv_X12_137 (c_X12_is l G h4 9 (r5, h6) (by decide) (fun c h => hm c (sn_X12_nameWord_X12_is c h)) (fun q h => hk q (sl_X12_nameWord_X12_is q h)) er5) (hm 100 (by decide)) ⟨_, _, _, sh_100, rfl, rfl⟩ rfl rfl (Nat.le_of_ble_eq_true rfl) hl.1 ⟨Nat.le_of_ble_eq_true rfl, Nat.le_of_ble_eq_true rfl, Nat.le_of_ble_eq_true rfl, Nat.le_of_ble_eq_true rfl⟩ dX12_nameWord_27 (fun H locs hS => ?_)
      refine lv_if_eq (tgt := 36) C.1 C.2.1 dX12_nameWord_30 (by decide) (fun hc => ?_) (fun hc => ?_)
      · have hf := zif_t hc hf
        refine lv_aload_n C.1 C.2.1 dX12_nameWord_36 rfl (lv_at hl 0 rfl) ?_
        refine zldcS (i := 10) (tx := "told") C (by decide) dX12_nameWord_37 ?_
        obtain ⟨r7, h8, er7, hf⟩ := zbd_some hf
        refine zcallVI (As := [.ref (zaK G 10)]) (rest := []) C hS mv_X12_137 (c_X12_is l G h6 10 (r7, h8) (by decide) (fun c h => hm c (sn_X12_nameWord_X12_is c h)) (fun q h => hk q (sl_X12_nameWord_X12_is q h)) er7) (hm 100 (by decide)) ⟨_, _, _, sh_100, rfl, rfl⟩ rfl rfl (Nat.le_of_ble_eq_true rfl) hl.1 ⟨Nat.le_of_ble_eq_true rfl, Nat.le_of_ble_eq_true rfl, Nat.le_of_ble_eq_true rfl, Nat.le_of_ble_eq_true rfl⟩ dX12_nameWord_39 (fun H locs hS => ?_)
        refine lv_if_eq (tgt := 48) C.1 C.2.1 dX12_nameWord_42 (by decide) (fun hc => ?_) (fun hc => ?_)
        · have hf := zif_t hc hf
          refine lv_aload_n C.1 C.2.1 dX12_nameWord_48 rfl (lv_at hl 0 rfl) ?_
          refine zldcS (i := 11) (tx := "since") C (by decide) dX12_nameWord_49 ?_
          obtain ⟨r9, h10, er9, hf⟩ := zbd_some hf
          refine zcallVI (As := [.ref (zaK G 11)]) (rest := []) C hS mv_X12_137 (c_X12_is l G h8 11 (r9, h10) (by decide) (fun c h => hm c (sn_X12_nameWord_X12_is c h)) (fun q h => hk q (sl_X12_nameWord_X12_is q h)) er9) (hm 100 (by decide)) ⟨_, _, _, sh_100, rfl, rfl⟩ rfl rfl (Nat.le_of_ble_eq_true rfl) hl.1 ⟨Nat.le_of_ble_eq_true rfl, Nat.le_of_ble_eq_true rfl, Nat.le_of_ble_eq_true rfl, Nat.le_of_ble_eq_true rfl⟩ dX12_nameWord_51 (fun H locs hS => ?_)
          refine lv_if_eq (tgt := 60) C.1 C.2.1 dX12_nameWord_54 (by decide) (fun hc => ?_) (fun hc => ?_)
          · have hf := zif_t hc hf
            refine lv_aload_n C.1 C.2.1 dX12_nameWord_60 rfl (lv_at hl 0 rfl) ?_
            refine zldcS (i := 12) (tx := "night") C (by decide) dX12_nameWord_61 ?_
            obtain ⟨r11, h12, er11, hf⟩ := zbd_some hf
            refine zcallVI (As := [.ref (zaK G 12)]) (rest := []) C hS mv_X12_137 (c_X12_is l G h10 12 (r11, h12) (by decide) (fun c h => hm c (sn_X12_nameWord_X12_is c h)) (fun q h => hk q (sl_X12_nameWord_X12_is q h)) er11) (hm 100 (by decide)) ⟨_, _, _, sh_100, rfl, rfl⟩ rfl rfl (Nat.le_of_ble_eq_true rfl) hl.1 ⟨Nat.le_of_ble_eq_true rfl, Nat.le_of_ble_eq_true rfl, Nat.le_of_ble_eq_true rfl, Nat.le_of_ble_eq_true rfl⟩ dX12_nameWord_63 (fun H locs hS => ?_)
            refine lv_if_eq (tgt := 72) C.1 C.2.1 dX12_nameWord_66 (by decide) (fun hc => ?_) (fun hc => ?_)
            · have hf := zif_t hc hf
              refine lv_aload_n C.1 C.2.1 dX12_nameWord_72 rfl (lv_at hl 0 rfl) ?_
              refine zldcS (i := 13) (tx := "joke") C (by decide) dX12_nameWord_73 ?_
              obtain ⟨r13, h14, er13, hf⟩ := zbd_some hf
              refine zcallVI (As := [.ref (zaK G 13)]) (rest := []) C hS mv_X12_137 (c_X12_is l G h12 13 (r13, h14) (by decide) (fun c h => hm c (sn_X12_nameWord_X12_is c h)) (fun q h => hk q (sl_X12_nameWord_X12_is q h)) er13) (hm 100 (by decide)) ⟨_, _, _, sh_100, rfl, rfl⟩ rfl rfl (Nat.le_of_ble_eq_true rfl) hl.1 ⟨Nat.le_of_ble_eq_true rfl, Nat.le_of_ble_eq_true rfl, Nat.le_of_ble_eq_true rfl, Nat.le_of_ble_eq_true rfl⟩ dX12_nameWord_75 (fun H locs hS => ?_)
              refine lv_if_eq (tgt := 86) C.1 C.2.1 dX12_nameWord_78 (by decide) (fun hc => ?_) (fun hc => ?_)
              · have hf := zif_t hc hf
                refine lv_iconst (v := (1 : Int32)) C.1 C.2.1 dX12_nameWord_86 rfl ?_
                exact zretI C hS hf dX12_nameWord_87
              · have hf := zif_f hc hf
                refine lv_bipush (v := (47 : Int32)) C.1 C.2.1 dX12_nameWord_81 rfl ?_
                refine lv_goto (tgt := 87) C.1 C.2.1 dX12_nameWord_83 (by decide) ?_
                exact zretI C hS hf dX12_nameWord_87
            · have hf := zif_f hc hf
              refine lv_bipush (v := (46 : Int32)) C.1 C.2.1 dX12_nameWord_69 rfl ?_
              exact zretI C hS hf dX12_nameWord_71
          · have hf := zif_f hc hf
            refine lv_bipush (v := (45 : Int32)) C.1 C.2.1 dX12_nameWord_57 rfl ?_
            exact zretI C hS hf dX12_nameWord_59
        · have hf := zif_f hc hf
          refine lv_bipush (v := (44 : Int32)) C.1 C.2.1 dX12_nameWord_45 rfl ?_
          exact zretI C hS hf dX12_nameWord_47
      · have hf := zif_f hc hf
        refine lv_bipush (v := (43 : Int32)) C.1 C.2.1 dX12_nameWord_33 rfl ?_
        exact zretI C hS hf dX12_nameWord_35
    · have hf := zif_f hc hf
      refine lv_bipush (v := (42 : Int32)) C.1 C.2.1 dX12_nameWord_21 rfl ?_
      exact zretI C hS hf dX12_nameWord_23
  · have hf := zif_f hc hf
    refine lv_bipush (v := (41 : Int32)) C.1 C.2.1 dX12_nameWord_9 rfl ?_
    exact zretI C hS hf dX12_nameWord_11
end
section
theorem dX12_word_0 : decode cX12_word 0 = .ok (.aload_n 0, 1) := by decide +kernel
theorem dX12_word_1 : decode cX12_word 1 = .ok (.ldc 153, 2) := by decide +kernel
theorem dX12_word_3 : decode cX12_word 3 = .ok (.invokevirtual 137, 3) := by decide +kernel
theorem dX12_word_6 : decode cX12_word 6 = .ok (.ifCond .eq 5, 3) := by decide +kernel
theorem dX12_word_9 : decode cX12_word 9 = .ok (.iconst 3, 1) := by decide +kernel
theorem dX12_word_10 : decode cX12_word 10 = .ok (.ireturn, 1) := by decide +kernel
theorem dX12_word_11 : decode cX12_word 11 = .ok (.aload_n 0, 1) := by decide +kernel
theorem dX12_word_12 : decode cX12_word 12 = .ok (.ldc 155, 2) := by decide +kernel
theorem dX12_word_14 : decode cX12_word 14 = .ok (.invokevirtual 137, 3) := by decide +kernel
theorem dX12_word_17 : decode cX12_word 17 = .ok (.ifCond .eq 5, 3) := by decide +kernel
theorem dX12_word_20 : decode cX12_word 20 = .ok (.iconst 4, 1) := by decide +kernel
theorem dX12_word_21 : decode cX12_word 21 = .ok (.ireturn, 1) := by decide +kernel
theorem dX12_word_22 : decode cX12_word 22 = .ok (.aload_n 0, 1) := by decide +kernel
theorem dX12_word_23 : decode cX12_word 23 = .ok (.ldc 157, 2) := by decide +kernel
theorem dX12_word_25 : decode cX12_word 25 = .ok (.invokevirtual 137, 3) := by decide +kernel
theorem dX12_word_28 : decode cX12_word 28 = .ok (.ifCond .eq 5, 3) := by decide +kernel
theorem dX12_word_31 : decode cX12_word 31 = .ok (.iconst 5, 1) := by decide +kernel
theorem dX12_word_32 : decode cX12_word 32 = .ok (.ireturn, 1) := by decide +kernel
theorem dX12_word_33 : decode cX12_word 33 = .ok (.aload_n 0, 1) := by decide +kernel
theorem dX12_word_34 : decode cX12_word 34 = .ok (.ldc 159, 2) := by decide +kernel
theorem dX12_word_36 : decode cX12_word 36 = .ok (.invokevirtual 137, 3) := by decide +kernel
theorem dX12_word_39 : decode cX12_word 39 = .ok (.ifCond .eq 6, 3) := by decide +kernel
theorem dX12_word_42 : decode cX12_word 42 = .ok (.bipush 6, 2) := by decide +kernel
theorem dX12_word_44 : decode cX12_word 44 = .ok (.ireturn, 1) := by decide +kernel
theorem dX12_word_45 : decode cX12_word 45 = .ok (.aload_n 0, 1) := by decide +kernel
theorem dX12_word_46 : decode cX12_word 46 = .ok (.ldc 161, 2) := by decide +kernel
theorem dX12_word_48 : decode cX12_word 48 = .ok (.invokevirtual 137, 3) := by decide +kernel
theorem dX12_word_51 : decode cX12_word 51 = .ok (.ifCond .eq 8, 3) := by decide +kernel
theorem dX12_word_54 : decode cX12_word 54 = .ok (.bipush 20, 2) := by decide +kernel
theorem dX12_word_56 : decode cX12_word 56 = .ok (.goto 7, 3) := by decide +kernel
theorem dX12_word_59 : decode cX12_word 59 = .ok (.aload_n 0, 1) := by decide +kernel
theorem dX12_word_60 : decode cX12_word 60 = .ok (.invokevirtual 163, 3) := by decide +kernel
theorem dX12_word_63 : decode cX12_word 63 = .ok (.ireturn, 1) := by decide +kernel
abbrev nd_X12_word : List Nat := [100, 107]
abbrev ld_X12_word : List (Nat × Nat) := [(100, 8)]
theorem sn_X12_word_X12_is : ∀ c ∈ nd_X12_is, c ∈ nd_X12_word := by decide
theorem sl_X12_word_X12_is : ∀ q ∈ ld_X12_is, q ∈ ld_X12_word := by decide
theorem sn_X12_word_X12_nameWord : ∀ c ∈ nd_X12_nameWord, c ∈ nd_X12_word := by decide
theorem sl_X12_word_X12_nameWord : ∀ q ∈ ld_X12_nameWord, q ∈ ld_X12_word := by decide
def f_X12_word  (h : zH) : zR := (zbd (f_X12_is 2 h) fun r1 h2 => (if r1 = 0 then (zbd (f_X12_is 3 h2) fun r3 h4 => (if r3 = 0 then (zbd (f_X12_is 4 h4) fun r5 h6 => (if r5 = 0 then (zbd (f_X12_is 5 h6) fun r7 h8 => (if r7 = 0 then (zbd (f_X12_is 6 h8) fun r9 h10 => (if r9 = 0 then (zbd (f_X12_nameWord  h10) fun r11 h12 => (some (r11, h12))) else (some ((20 : Int32), h10)))) else (some ((6 : Int32), h8)))) else (some ((5 : Int32), h6)))) else (some ((4 : Int32), h4)))) else (some ((3 : Int32), h2))))
variable {p : Program} {l : Launch} {e : Env} {s : State} {m : MethodId} {args : Array Value} {below : List Frame} {meth : Method} {c : Code} {G : zG} {q : Int32 × zH}
set_option maxHeartbeats 4000000 in
set_option maxRecDepth 100000 in
theorem c_X12_word (l : Launch) (G : zG) (h : zH) (q : Int32 × zH) (hm : ∀ c ∈ nd_X12_word, c ∈ znm G) (hk : ∀ q ∈ ld_X12_word, zlk G q.1 q.2 = true) (hf : f_X12_word h = some q) : zCtI l yX12_word cX12_word 1 (some .int) (8) [.ref (zal G 100)] G h q.2 q.1 := by
  refine zMetI (by decide) (Nat.le_of_ble_eq_true rfl) ?_
  intro p e s m below meth c ls C hl hS
  have hl : lv_has ls 1 [(0, .ref (zal G 100))] := hl
  have C : zC G p s m [.ref (zal G 100)].toArray meth c cX12_word 1 RX12 (some .int) := C
  unfold f_X12_word at hf
  refine lv_aload_n C.1 C.2.1 dX12_word_0 rfl (lv_at hl 0 rfl) ?_
  refine zldcS (i := 2) (tx := "when") C (by decide) dX12_word_1 ?_
  obtain ⟨r1, h2, er1, hf⟩ := zbd_some hf
  refine zcallVI (As := [.ref (zaK G 2)]) (rest := []) C hS mv_X12_137 (c_X12_is l G h 2 (r1, h2) (by decide) (fun c h => hm c (sn_X12_word_X12_is c h)) (fun q h => hk q (sl_X12_word_X12_is q h)) er1) (hm 100 (by decide)) ⟨_, _, _, sh_100, rfl, rfl⟩ rfl rfl (Nat.le_of_ble_eq_true rfl) hl.1 ⟨Nat.le_of_ble_eq_true rfl, Nat.le_of_ble_eq_true rfl, Nat.le_of_ble_eq_true rfl, Nat.le_of_ble_eq_true rfl⟩ dX12_word_3 (fun H locs hS => ?_)
  refine lv_if_eq (tgt := 11) C.1 C.2.1 dX12_word_6 (by decide) (fun hc => ?_) (fun hc => ?_)
  · have hf := zif_t hc hf
    refine lv_aload_n C.1 C.2.1 dX12_word_11 rfl (lv_at hl 0 rfl) ?_
    refine zldcS (i := 3) (tx := "or") C (by decide) dX12_word_12 ?_
    obtain ⟨r3, h4, er3, hf⟩ := zbd_some hf
    refine zcallVI (As := [.ref (zaK G 3)]) (rest := []) C hS mv_X12_137 (c_X12_is l G h2 3 (r3, h4) (by decide) (fun c h => hm c (sn_X12_word_X12_is c h)) (fun q h => hk q (sl_X12_word_X12_is q h)) er3) (hm 100 (by decide)) ⟨_, _, _, sh_100, rfl, rfl⟩ rfl rfl (Nat.le_of_ble_eq_true rfl) hl.1 ⟨Nat.le_of_ble_eq_true rfl, Nat.le_of_ble_eq_true rfl, Nat.le_of_ble_eq_true rfl, Nat.le_of_ble_eq_true rfl⟩ dX12_word_14 (fun H locs hS => ?_)
    refine lv_if_eq (tgt := 22) C.1 C.2.1 dX12_word_17 (by decide) (fun hc => ?_) (fun hc => ?_)
    · have hf := zif_t hc hf
      refine lv_aload_n C.1 C.2.1 dX12_word_22 rfl (lv_at hl 0 rfl) ?_
      refine zldcS (i := 4) (tx := "and") C (by decide) dX12_word_23 ?_
      obtain ⟨r5, h6, er5, hf⟩ := zbd_some hf
      refine zcallVI (As := [.ref (zaK G 4)]) (rest := []) C hS mv_X12_137 (c_X12_is l G h4 4 (r5, h6) (by decide) (fun c h => hm c (sn_X12_word_X12_is c h)) (fun q h => hk q (sl_X12_word_X12_is q h)) er5) (hm 100 (by decide)) ⟨_, _, _, sh_100, rfl, rfl⟩ rfl rfl (Nat.le_of_ble_eq_true rfl) hl.1 ⟨Nat.le_of_ble_eq_true rfl, Nat.le_of_ble_eq_true rfl, Nat.le_of_ble_eq_true rfl, Nat.le_of_ble_eq_true rfl⟩ dX12_word_25 (fun H locs hS => ?_)
      refine lv_if_eq (tgt := 33) C.1 C.2.1 dX12_word_28 (by decide) (fun hc => ?_) (fun hc => ?_)
      · have hf := zif_t hc hf
        refine lv_aload_n C.1 C.2.1 dX12_word_33 rfl (lv_at hl 0 rfl) ?_
        refine zldcS (i := 5) (tx := "not") C (by decide) dX12_word_34 ?_
        obtain ⟨r7, h8, er7, hf⟩ := zbd_some hf
        refine zcallVI (As := [.ref (zaK G 5)]) (rest := []) C hS mv_X12_137 (c_X12_is l G h6 5 (r7, h8) (by decide) (fun c h => hm c (sn_X12_word_X12_is c h)) (fun q h => hk q (sl_X12_word_X12_is q h)) er7) (hm 100 (by decide)) ⟨_, _, _, sh_100, rfl, rfl⟩ rfl rfl (Nat.le_of_ble_eq_true rfl) hl.1 ⟨Nat.le_of_ble_eq_true rfl, Nat.le_of_ble_eq_true rfl, Nat.le_of_ble_eq_true rfl, Nat.le_of_ble_eq_true rfl⟩ dX12_word_36 (fun H locs hS => ?_)
        refine lv_if_eq (tgt := 45) C.1 C.2.1 dX12_word_39 (by decide) (fun hc => ?_) (fun hc => ?_)
        · have hf := zif_t hc hf
          refine lv_aload_n C.1 C.2.1 dX12_word_45 rfl (lv_at hl 0 rfl) ?_
          refine zldcS (i := 6) (tx := "laugh") C (by decide) dX12_word_46 ?_
          obtain ⟨r9, h10, er9, hf⟩ := zbd_some hf
          refine zcallVI (As := [.ref (zaK G 6)]) (rest := []) C hS mv_X12_137 (c_X12_is l G h8 6 (r9, h10) (by decide) (fun c h => hm c (sn_X12_word_X12_is c h)) (fun q h => hk q (sl_X12_word_X12_is q h)) er9) (hm 100 (by decide)) ⟨_, _, _, sh_100, rfl, rfl⟩ rfl rfl (Nat.le_of_ble_eq_true rfl) hl.1 ⟨Nat.le_of_ble_eq_true rfl, Nat.le_of_ble_eq_true rfl, Nat.le_of_ble_eq_true rfl, Nat.le_of_ble_eq_true rfl⟩ dX12_word_48 (fun H locs hS => ?_)
          refine lv_if_eq (tgt := 59) C.1 C.2.1 dX12_word_51 (by decide) (fun hc => ?_) (fun hc => ?_)
          · have hf := zif_t hc hf
            refine lv_aload_n C.1 C.2.1 dX12_word_59 rfl (lv_at hl 0 rfl) ?_
            obtain ⟨r11, h12, er11, hf⟩ := zbd_some hf
            refine zcallVI (As := []) (rest := []) C hS mv_X12_163 (c_X12_nameWord l G h10  (r11, h12) (fun c h => hm c (sn_X12_word_X12_nameWord c h)) (fun q h => hk q (sl_X12_word_X12_nameWord q h)) er11) (hm 100 (by decide)) ⟨_, _, _, sh_100, rfl, rfl⟩ rfl rfl (Nat.le_of_ble_eq_true rfl) hl.1 ⟨Nat.le_of_ble_eq_true rfl, Nat.le_of_ble_eq_true rfl, Nat.le_of_ble_eq_true rfl, Nat.le_of_ble_eq_true rfl⟩ dX12_word_60 (fun H locs hS => ?_)
            exact zretI C hS hf dX12_word_63
          · have hf := zif_f hc hf
            refine lv_bipush (v := (20 : Int32)) C.1 C.2.1 dX12_word_54 rfl ?_
            refine lv_goto (tgt := 63) C.1 C.2.1 dX12_word_56 (by decide) ?_
            exact zretI C hS hf dX12_word_63
        · have hf := zif_f hc hf
          refine lv_bipush (v := (6 : Int32)) C.1 C.2.1 dX12_word_42 rfl ?_
          exact zretI C hS hf dX12_word_44
      · have hf := zif_f hc hf
        refine lv_iconst (v := (5 : Int32)) C.1 C.2.1 dX12_word_31 rfl ?_
        exact zretI C hS hf dX12_word_32
    · have hf := zif_f hc hf
      refine lv_iconst (v := (4 : Int32)) C.1 C.2.1 dX12_word_20 rfl ?_
      exact zretI C hS hf dX12_word_21
  · have hf := zif_f hc hf
    refine lv_iconst (v := (3 : Int32)) C.1 C.2.1 dX12_word_9 rfl ?_
    exact zretI C hS hf dX12_word_10
end
section
theorem dX12_next0_0 : decode cX12_next0 0 = .ok (.aload_n 0, 1) := by decide +kernel
theorem dX12_next0_1 : decode cX12_next0 1 = .ok (.aload_n 0, 1) := by decide +kernel
theorem dX12_next0_2 : decode cX12_next0 2 = .ok (.getfield 119, 3) := by decide +kernel
theorem dX12_next0_5 : decode cX12_next0 5 = .ok (.invokevirtual 166, 3) := by decide +kernel
theorem dX12_next0_8 : decode cX12_next0 8 = .ok (.bipush 32, 2) := by decide +kernel
theorem dX12_next0_10 : decode cX12_next0 10 = .ok (.if_icmp .eq 16, 3) := by decide +kernel
theorem dX12_next0_13 : decode cX12_next0 13 = .ok (.aload_n 0, 1) := by decide +kernel
theorem dX12_next0_14 : decode cX12_next0 14 = .ok (.aload_n 0, 1) := by decide +kernel
theorem dX12_next0_15 : decode cX12_next0 15 = .ok (.getfield 119, 3) := by decide +kernel
theorem dX12_next0_18 : decode cX12_next0 18 = .ok (.invokevirtual 166, 3) := by decide +kernel
theorem dX12_next0_21 : decode cX12_next0 21 = .ok (.bipush 10, 2) := by decide +kernel
theorem dX12_next0_23 : decode cX12_next0 23 = .ok (.if_icmp .ne 16, 3) := by decide +kernel
theorem dX12_next0_26 : decode cX12_next0 26 = .ok (.aload_n 0, 1) := by decide +kernel
theorem dX12_next0_27 : decode cX12_next0 27 = .ok (.dup, 1) := by decide +kernel
theorem dX12_next0_28 : decode cX12_next0 28 = .ok (.getfield 119, 3) := by decide +kernel
theorem dX12_next0_31 : decode cX12_next0 31 = .ok (.iconst 1, 1) := by decide +kernel
theorem dX12_next0_32 : decode cX12_next0 32 = .ok (.iadd, 1) := by decide +kernel
theorem dX12_next0_33 : decode cX12_next0 33 = .ok (.putfield 119, 3) := by decide +kernel
theorem dX12_next0_36 : decode cX12_next0 36 = .ok (.goto (-36), 3) := by decide +kernel
theorem dX12_next0_39 : decode cX12_next0 39 = .ok (.aload_n 0, 1) := by decide +kernel
theorem dX12_next0_40 : decode cX12_next0 40 = .ok (.aload_n 0, 1) := by decide +kernel
theorem dX12_next0_41 : decode cX12_next0 41 = .ok (.getfield 119, 3) := by decide +kernel
theorem dX12_next0_44 : decode cX12_next0 44 = .ok (.putfield 122, 3) := by decide +kernel
theorem dX12_next0_47 : decode cX12_next0 47 = .ok (.aload_n 0, 1) := by decide +kernel
theorem dX12_next0_48 : decode cX12_next0 48 = .ok (.aload_n 0, 1) := by decide +kernel
theorem dX12_next0_49 : decode cX12_next0 49 = .ok (.getfield 119, 3) := by decide +kernel
theorem dX12_next0_52 : decode cX12_next0 52 = .ok (.invokevirtual 166, 3) := by decide +kernel
theorem dX12_next0_55 : decode cX12_next0 55 = .ok (.istore_n 1, 1) := by decide +kernel
theorem dX12_next0_56 : decode cX12_next0 56 = .ok (.iload_n 1, 1) := by decide +kernel
theorem dX12_next0_57 : decode cX12_next0 57 = .ok (.iconst (-1), 1) := by decide +kernel
theorem dX12_next0_58 : decode cX12_next0 58 = .ok (.if_icmp .ne 11, 3) := by decide +kernel
theorem dX12_next0_61 : decode cX12_next0 61 = .ok (.aload_n 0, 1) := by decide +kernel
theorem dX12_next0_62 : decode cX12_next0 62 = .ok (.iconst 0, 1) := by decide +kernel
theorem dX12_next0_63 : decode cX12_next0 63 = .ok (.putfield 169, 3) := by decide +kernel
theorem dX12_next0_66 : decode cX12_next0 66 = .ok (.goto 240, 3) := by decide +kernel
theorem dX12_next0_69 : decode cX12_next0 69 = .ok (.iload_n 1, 1) := by decide +kernel
theorem dX12_next0_70 : decode cX12_next0 70 = .ok (.invokestatic 172, 3) := by decide +kernel
theorem dX12_next0_73 : decode cX12_next0 73 = .ok (.ifCond .eq 41, 3) := by decide +kernel
theorem dX12_next0_76 : decode cX12_next0 76 = .ok (.aload_n 0, 1) := by decide +kernel
theorem dX12_next0_77 : decode cX12_next0 77 = .ok (.aload_n 0, 1) := by decide +kernel
theorem dX12_next0_78 : decode cX12_next0 78 = .ok (.getfield 119, 3) := by decide +kernel
theorem dX12_next0_81 : decode cX12_next0 81 = .ok (.invokevirtual 166, 3) := by decide +kernel
theorem dX12_next0_84 : decode cX12_next0 84 = .ok (.invokestatic 172, 3) := by decide +kernel
theorem dX12_next0_87 : decode cX12_next0 87 = .ok (.ifCond .eq 16, 3) := by decide +kernel
theorem dX12_next0_90 : decode cX12_next0 90 = .ok (.aload_n 0, 1) := by decide +kernel
theorem dX12_next0_91 : decode cX12_next0 91 = .ok (.dup, 1) := by decide +kernel
theorem dX12_next0_92 : decode cX12_next0 92 = .ok (.getfield 119, 3) := by decide +kernel
theorem dX12_next0_95 : decode cX12_next0 95 = .ok (.iconst 1, 1) := by decide +kernel
theorem dX12_next0_96 : decode cX12_next0 96 = .ok (.iadd, 1) := by decide +kernel
theorem dX12_next0_97 : decode cX12_next0 97 = .ok (.putfield 119, 3) := by decide +kernel
theorem dX12_next0_100 : decode cX12_next0 100 = .ok (.goto (-24), 3) := by decide +kernel
theorem dX12_next0_103 : decode cX12_next0 103 = .ok (.aload_n 0, 1) := by decide +kernel
theorem dX12_next0_104 : decode cX12_next0 104 = .ok (.aload_n 0, 1) := by decide +kernel
theorem dX12_next0_105 : decode cX12_next0 105 = .ok (.invokevirtual 175, 3) := by decide +kernel
theorem dX12_next0_108 : decode cX12_next0 108 = .ok (.putfield 169, 3) := by decide +kernel
theorem dX12_next0_111 : decode cX12_next0 111 = .ok (.goto 195, 3) := by decide +kernel
theorem dX12_next0_114 : decode cX12_next0 114 = .ok (.iload_n 1, 1) := by decide +kernel
theorem dX12_next0_115 : decode cX12_next0 115 = .ok (.invokestatic 178, 3) := by decide +kernel
theorem dX12_next0_118 : decode cX12_next0 118 = .ok (.ifCond .eq 96, 3) := by decide +kernel
theorem dX12_next0_121 : decode cX12_next0 121 = .ok (.aload_n 0, 1) := by decide +kernel
theorem dX12_next0_122 : decode cX12_next0 122 = .ok (.iconst 0, 1) := by decide +kernel
theorem dX12_next0_123 : decode cX12_next0 123 = .ok (.putfield 181, 3) := by decide +kernel
theorem dX12_next0_126 : decode cX12_next0 126 = .ok (.aload_n 0, 1) := by decide +kernel
theorem dX12_next0_127 : decode cX12_next0 127 = .ok (.aload_n 0, 1) := by decide +kernel
theorem dX12_next0_128 : decode cX12_next0 128 = .ok (.getfield 119, 3) := by decide +kernel
theorem dX12_next0_131 : decode cX12_next0 131 = .ok (.invokevirtual 166, 3) := by decide +kernel
theorem dX12_next0_134 : decode cX12_next0 134 = .ok (.invokestatic 178, 3) := by decide +kernel
theorem dX12_next0_137 : decode cX12_next0 137 = .ok (.ifCond .eq 52, 3) := by decide +kernel
theorem dX12_next0_140 : decode cX12_next0 140 = .ok (.aload_n 0, 1) := by decide +kernel
theorem dX12_next0_141 : decode cX12_next0 141 = .ok (.getfield 119, 3) := by decide +kernel
theorem dX12_next0_144 : decode cX12_next0 144 = .ok (.aload_n 0, 1) := by decide +kernel
theorem dX12_next0_145 : decode cX12_next0 145 = .ok (.getfield 122, 3) := by decide +kernel
theorem dX12_next0_148 : decode cX12_next0 148 = .ok (.iconst 4, 1) := by decide +kernel
theorem dX12_next0_149 : decode cX12_next0 149 = .ok (.iadd, 1) := by decide +kernel
theorem dX12_next0_150 : decode cX12_next0 150 = .ok (.if_icmp .ge 26, 3) := by decide +kernel
theorem dX12_next0_153 : decode cX12_next0 153 = .ok (.aload_n 0, 1) := by decide +kernel
theorem dX12_next0_154 : decode cX12_next0 154 = .ok (.bipush 10, 2) := by decide +kernel
theorem dX12_next0_156 : decode cX12_next0 156 = .ok (.aload_n 0, 1) := by decide +kernel
theorem dX12_next0_157 : decode cX12_next0 157 = .ok (.getfield 181, 3) := by decide +kernel
theorem dX12_next0_160 : decode cX12_next0 160 = .ok (.imul, 1) := by decide +kernel
theorem dX12_next0_161 : decode cX12_next0 161 = .ok (.aload_n 0, 1) := by decide +kernel
theorem dX12_next0_162 : decode cX12_next0 162 = .ok (.aload_n 0, 1) := by decide +kernel
theorem dX12_next0_163 : decode cX12_next0 163 = .ok (.getfield 119, 3) := by decide +kernel
theorem dX12_next0_166 : decode cX12_next0 166 = .ok (.invokevirtual 166, 3) := by decide +kernel
theorem dX12_next0_169 : decode cX12_next0 169 = .ok (.iadd, 1) := by decide +kernel
theorem dX12_next0_170 : decode cX12_next0 170 = .ok (.bipush 48, 2) := by decide +kernel
theorem dX12_next0_172 : decode cX12_next0 172 = .ok (.isub, 1) := by decide +kernel
theorem dX12_next0_173 : decode cX12_next0 173 = .ok (.putfield 181, 3) := by decide +kernel
theorem dX12_next0_176 : decode cX12_next0 176 = .ok (.aload_n 0, 1) := by decide +kernel
theorem dX12_next0_177 : decode cX12_next0 177 = .ok (.dup, 1) := by decide +kernel
theorem dX12_next0_178 : decode cX12_next0 178 = .ok (.getfield 119, 3) := by decide +kernel
theorem dX12_next0_181 : decode cX12_next0 181 = .ok (.iconst 1, 1) := by decide +kernel
theorem dX12_next0_182 : decode cX12_next0 182 = .ok (.iadd, 1) := by decide +kernel
theorem dX12_next0_183 : decode cX12_next0 183 = .ok (.putfield 119, 3) := by decide +kernel
theorem dX12_next0_186 : decode cX12_next0 186 = .ok (.goto (-60), 3) := by decide +kernel
theorem dX12_next0_189 : decode cX12_next0 189 = .ok (.aload_n 0, 1) := by decide +kernel
theorem dX12_next0_190 : decode cX12_next0 190 = .ok (.aload_n 0, 1) := by decide +kernel
theorem dX12_next0_191 : decode cX12_next0 191 = .ok (.getfield 119, 3) := by decide +kernel
theorem dX12_next0_194 : decode cX12_next0 194 = .ok (.aload_n 0, 1) := by decide +kernel
theorem dX12_next0_195 : decode cX12_next0 195 = .ok (.getfield 122, 3) := by decide +kernel
theorem dX12_next0_198 : decode cX12_next0 198 = .ok (.isub, 1) := by decide +kernel
theorem dX12_next0_199 : decode cX12_next0 199 = .ok (.iconst 5, 1) := by decide +kernel
theorem dX12_next0_200 : decode cX12_next0 200 = .ok (.if_icmp .ge 7, 3) := by decide +kernel
theorem dX12_next0_203 : decode cX12_next0 203 = .ok (.iconst 2, 1) := by decide +kernel
theorem dX12_next0_204 : decode cX12_next0 204 = .ok (.goto 4, 3) := by decide +kernel
theorem dX12_next0_207 : decode cX12_next0 207 = .ok (.iconst 1, 1) := by decide +kernel
theorem dX12_next0_208 : decode cX12_next0 208 = .ok (.putfield 169, 3) := by decide +kernel
theorem dX12_next0_211 : decode cX12_next0 211 = .ok (.goto 95, 3) := by decide +kernel
theorem dX12_next0_214 : decode cX12_next0 214 = .ok (.aload_n 0, 1) := by decide +kernel
theorem dX12_next0_215 : decode cX12_next0 215 = .ok (.dup, 1) := by decide +kernel
theorem dX12_next0_216 : decode cX12_next0 216 = .ok (.getfield 119, 3) := by decide +kernel
theorem dX12_next0_219 : decode cX12_next0 219 = .ok (.iconst 1, 1) := by decide +kernel
theorem dX12_next0_220 : decode cX12_next0 220 = .ok (.iadd, 1) := by decide +kernel
theorem dX12_next0_221 : decode cX12_next0 221 = .ok (.putfield 119, 3) := by decide +kernel
theorem dX12_next0_224 : decode cX12_next0 224 = .ok (.iload_n 1, 1) := by decide +kernel
theorem dX12_next0_225 : decode cX12_next0 225 = .ok (.bipush 59, 2) := by decide +kernel
theorem dX12_next0_227 : decode cX12_next0 227 = .ok (.if_icmp .eq 57, 3) := by decide +kernel
theorem dX12_next0_230 : decode cX12_next0 230 = .ok (.iload_n 1, 1) := by decide +kernel
theorem dX12_next0_231 : decode cX12_next0 231 = .ok (.bipush 43, 2) := by decide +kernel
theorem dX12_next0_233 : decode cX12_next0 233 = .ok (.if_icmp .eq 51, 3) := by decide +kernel
theorem dX12_next0_236 : decode cX12_next0 236 = .ok (.iload_n 1, 1) := by decide +kernel
theorem dX12_next0_237 : decode cX12_next0 237 = .ok (.bipush 45, 2) := by decide +kernel
theorem dX12_next0_239 : decode cX12_next0 239 = .ok (.if_icmp .eq 45, 3) := by decide +kernel
theorem dX12_next0_242 : decode cX12_next0 242 = .ok (.iload_n 1, 1) := by decide +kernel
theorem dX12_next0_243 : decode cX12_next0 243 = .ok (.bipush 42, 2) := by decide +kernel
theorem dX12_next0_245 : decode cX12_next0 245 = .ok (.if_icmp .eq 39, 3) := by decide +kernel
theorem dX12_next0_248 : decode cX12_next0 248 = .ok (.iload_n 1, 1) := by decide +kernel
theorem dX12_next0_249 : decode cX12_next0 249 = .ok (.bipush 47, 2) := by decide +kernel
theorem dX12_next0_251 : decode cX12_next0 251 = .ok (.if_icmp .eq 33, 3) := by decide +kernel
theorem dX12_next0_254 : decode cX12_next0 254 = .ok (.iload_n 1, 1) := by decide +kernel
theorem dX12_next0_255 : decode cX12_next0 255 = .ok (.bipush 40, 2) := by decide +kernel
theorem dX12_next0_257 : decode cX12_next0 257 = .ok (.if_icmp .eq 27, 3) := by decide +kernel
theorem dX12_next0_260 : decode cX12_next0 260 = .ok (.iload_n 1, 1) := by decide +kernel
theorem dX12_next0_261 : decode cX12_next0 261 = .ok (.bipush 41, 2) := by decide +kernel
theorem dX12_next0_263 : decode cX12_next0 263 = .ok (.if_icmp .eq 21, 3) := by decide +kernel
theorem dX12_next0_266 : decode cX12_next0 266 = .ok (.iload_n 1, 1) := by decide +kernel
theorem dX12_next0_267 : decode cX12_next0 267 = .ok (.bipush 60, 2) := by decide +kernel
theorem dX12_next0_269 : decode cX12_next0 269 = .ok (.if_icmp .eq 15, 3) := by decide +kernel
theorem dX12_next0_272 : decode cX12_next0 272 = .ok (.iload_n 1, 1) := by decide +kernel
theorem dX12_next0_273 : decode cX12_next0 273 = .ok (.bipush 61, 2) := by decide +kernel
theorem dX12_next0_275 : decode cX12_next0 275 = .ok (.if_icmp .eq 9, 3) := by decide +kernel
theorem dX12_next0_278 : decode cX12_next0 278 = .ok (.iload_n 1, 1) := by decide +kernel
theorem dX12_next0_279 : decode cX12_next0 279 = .ok (.bipush 62, 2) := by decide +kernel
theorem dX12_next0_281 : decode cX12_next0 281 = .ok (.if_icmp .ne 7, 3) := by decide +kernel
theorem dX12_next0_284 : decode cX12_next0 284 = .ok (.iconst 1, 1) := by decide +kernel
theorem dX12_next0_285 : decode cX12_next0 285 = .ok (.goto 4, 3) := by decide +kernel
theorem dX12_next0_288 : decode cX12_next0 288 = .ok (.iconst 0, 1) := by decide +kernel
theorem dX12_next0_289 : decode cX12_next0 289 = .ok (.istore_n 2, 1) := by decide +kernel
theorem dX12_next0_290 : decode cX12_next0 290 = .ok (.aload_n 0, 1) := by decide +kernel
theorem dX12_next0_291 : decode cX12_next0 291 = .ok (.iload_n 2, 1) := by decide +kernel
theorem dX12_next0_292 : decode cX12_next0 292 = .ok (.ifCond .eq 10, 3) := by decide +kernel
theorem dX12_next0_295 : decode cX12_next0 295 = .ok (.bipush 100, 2) := by decide +kernel
theorem dX12_next0_297 : decode cX12_next0 297 = .ok (.iload_n 1, 1) := by decide +kernel
theorem dX12_next0_298 : decode cX12_next0 298 = .ok (.iadd, 1) := by decide +kernel
theorem dX12_next0_299 : decode cX12_next0 299 = .ok (.goto 4, 3) := by decide +kernel
theorem dX12_next0_302 : decode cX12_next0 302 = .ok (.iconst 1, 1) := by decide +kernel
theorem dX12_next0_303 : decode cX12_next0 303 = .ok (.putfield 169, 3) := by decide +kernel
theorem dX12_next0_306 : decode cX12_next0 306 = .ok (.return_, 1) := by decide +kernel
abbrev nd_X12_next0 : List Nat := [100, 107]
abbrev ld_X12_next0 : List (Nat × Nat) := [(100, 8)]
theorem sn_X12_next0_X12_see : ∀ c ∈ nd_X12_see, c ∈ nd_X12_next0 := by decide
theorem sl_X12_next0_X12_see : ∀ q ∈ ld_X12_see, q ∈ ld_X12_next0 := by decide
theorem sn_X12_next0_X12_isLetter : ∀ c ∈ nd_X12_isLetter, c ∈ nd_X12_next0 := by decide
theorem sl_X12_next0_X12_isLetter : ∀ q ∈ ld_X12_isLetter, q ∈ ld_X12_next0 := by decide
theorem sn_X12_next0_X12_isDigit : ∀ c ∈ nd_X12_isDigit, c ∈ nd_X12_next0 := by decide
theorem sl_X12_next0_X12_isDigit : ∀ q ∈ ld_X12_isDigit, q ∈ ld_X12_next0 := by decide
theorem sn_X12_next0_X12_word : ∀ c ∈ nd_X12_word, c ∈ nd_X12_next0 := by decide
theorem sl_X12_next0_X12_word : ∀ q ∈ ld_X12_word, q ∈ ld_X12_next0 := by decide
def f_X12_next0_26 (k0 : zH → zR) (h : zH) : zR := (zst (zup h 100 14 ((h 100 14) + (1 : Int32))) fun h3 => (k0  h3))
def f_X12_next0_303  (s0 : Int32) (h : zH) : zR := (zst (zup h 100 15 s0) fun h14 => (some (0, h14)))
def f_X12_next0_289  (x1 : Int32) (s0 : Int32) (h : zH) : zR := (if s0 = 0 then (f_X12_next0_303  (1 : Int32) h) else (f_X12_next0_303  ((100 : Int32) + x1) h))
def f_X12_next0_284  (x1 : Int32) (h : zH) : zR := (f_X12_next0_289  x1 (1 : Int32) h)
def f_X12_next0_208  (s0 : Int32) (h : zH) : zR := (zst (zup h 100 15 s0) fun h20 => (some (0, h20)))
def f_X12_next0_176 (k126 : zH → zR) (h : zH) : zR := (zst (zup h 100 14 ((h 100 14) + (1 : Int32))) fun h21 => (k126  h21))
def f_X12_next0_126  : Nat → zH → zR
  | 0 => fun _ => none
  | n + 1 => fun h => (zbd (f_X12_see (h 100 14) h) fun r16 h17 => (zbd (f_X12_isDigit r16 h17) fun r18 h19 => (if r18 = 0 then (if (5 : Int32) ≤ ((h19 100 14) - (h19 100 16)) then (f_X12_next0_208  (1 : Int32) h19) else (f_X12_next0_208  (2 : Int32) h19)) else (if ((h19 100 16) + (4 : Int32)) ≤ (h19 100 14) then (f_X12_next0_176 (f_X12_next0_126  n)  h19) else (zbd (f_X12_see (h19 100 14) h19) fun r22 h23 => (zst (zup h23 100 17 ((((10 : Int32) * (h19 100 17)) + r22) - (48 : Int32))) fun h24 => (f_X12_next0_176 (f_X12_next0_126  n)  h24)))))))
def f_X12_next0_76  : Nat → zH → zR
  | 0 => fun _ => none
  | n + 1 => fun h => (zbd (f_X12_see (h 100 14) h) fun r25 h26 => (zbd (f_X12_isLetter r25 h26) fun r27 h28 => (if r27 = 0 then (zbd (f_X12_word  h28) fun r29 h30 => (zst (zup h30 100 15 r29) fun h31 => (some (0, h31)))) else (zst (zup h28 100 14 ((h28 100 14) + (1 : Int32))) fun h32 => (f_X12_next0_76  n  h32)))))
def f_X12_next0_0  : Nat → zH → zR
  | 0 => fun _ => none
  | n + 1 => fun h => (zbd (f_X12_see (h 100 14) h) fun r1 h2 => (if r1 = (32 : Int32) then (f_X12_next0_26 (f_X12_next0_0  n)  h2) else (zbd (f_X12_see (h2 100 14) h2) fun r4 h5 => (if r4 = (10 : Int32) then (f_X12_next0_26 (f_X12_next0_0  n)  h5) else (zst (zup h5 100 16 (h5 100 14)) fun h6 => (zbd (f_X12_see (h6 100 14) h6) fun r7 h8 => (if r7 = (-1 : Int32) then (zst (zup h8 100 15 (0 : Int32)) fun h33 => (some (0, h33))) else (zbd (f_X12_isLetter r7 h8) fun r9 h10 => (if r9 = 0 then (zbd (f_X12_isDigit r7 h10) fun r11 h12 => (if r11 = 0 then (zst (zup h12 100 14 ((h12 100 14) + (1 : Int32))) fun h13 => (if r7 = (59 : Int32) then (f_X12_next0_284  r7 h13) else (if r7 = (43 : Int32) then (f_X12_next0_284  r7 h13) else (if r7 = (45 : Int32) then (f_X12_next0_284  r7 h13) else (if r7 = (42 : Int32) then (f_X12_next0_284  r7 h13) else (if r7 = (47 : Int32) then (f_X12_next0_284  r7 h13) else (if r7 = (40 : Int32) then (f_X12_next0_284  r7 h13) else (if r7 = (41 : Int32) then (f_X12_next0_284  r7 h13) else (if r7 = (60 : Int32) then (f_X12_next0_284  r7 h13) else (if r7 = (61 : Int32) then (f_X12_next0_284  r7 h13) else (if r7 = (62 : Int32) then (f_X12_next0_284  r7 h13) else (f_X12_next0_289  r7 (0 : Int32) h13)))))))))))) else (zst (zup h12 100 17 (0 : Int32)) fun h15 => (f_X12_next0_126  zN  h15)))) else (f_X12_next0_76  zN  h10))))))))))
def f_X12_next0  (h : zH) : zR := f_X12_next0_0  zN  h
variable {p : Program} {l : Launch} {e : Env} {s : State} {m : MethodId} {args : Array Value} {below : List Frame} {meth : Method} {c : Code} {G : zG} {q : Int32 × zH}
set_option maxHeartbeats 4000000 in
set_option maxRecDepth 100000 in
theorem w_X12_next0_26 {k0 : zH → zR} (C : zC G p s m args meth c cX12_next0 3 RX12 none) (hm : ∀ c ∈ nd_X12_next0, c ∈ znm G) (hk : ∀ q ∈ ld_X12_next0, zlk G q.1 q.2 = true) (hk0 : ∀ (ls : Array Slot) (H : Heap) (locs : List Loc) (h : zH), lv_has ls 3 [(0, .ref (zal G 100))] → zS G h s.heap H locs → k0 h = some q → W p l e (zrm (9)) s m args below meth c H locs 0 0 (MQ below (zQV G q.2) args s 0 0 (zA G)) (F0 m 0 ls [])) : ∀ (ls : Array Slot) (H : Heap) (locs : List Loc) (h : zH), lv_has ls 3 [(0, .ref (zal G 100))] → zS G h s.heap H locs → f_X12_next0_26 k0 h = some q → W p l e (zrm (9)) s m args below meth c H locs 0 0 (MQ below (zQV G q.2) args s 0 0 (zA G)) (F0 m 26 ls []) := by
  intro ls H locs h hl hS hf
  unfold f_X12_next0_26 at hf
  refine lv_aload_n C.1 C.2.1 dX12_next0_26 rfl (lv_at hl 0 rfl) ?_
  refine lv_dup C.1 C.2.1 dX12_next0_27 rfl ?_
  refine zgetI C hS ff_X12_119_100 (hm 100 (by decide)) dX12_next0_28 ?_
  refine lv_iconst (v := (1 : Int32)) C.1 C.2.1 dX12_next0_31 rfl ?_
  refine lv_iadd C.1 C.2.1 dX12_next0_32 ?_
  refine zputI C hS ff_X12_119_100 fw_100_14 (hm 100 (by decide)) dX12_next0_33 (fun H locs hS => ?_)
  obtain ⟨h3, eh3, hf⟩ := zst_some hf
  have hS : zS G h3 s.heap H locs := by rw [eh3]; exact hS
  refine lv_goto (tgt := 0) C.1 C.2.1 dX12_next0_36 (by decide) ?_
  exact hk0 _ _ _ _ (lv_sub hl [0] rfl) hS hf
set_option maxHeartbeats 4000000 in
set_option maxRecDepth 100000 in
theorem w_X12_next0_303  (C : zC G p s m args meth c cX12_next0 3 RX12 none) (hm : ∀ c ∈ nd_X12_next0, c ∈ znm G) (hk : ∀ q ∈ ld_X12_next0, zlk G q.1 q.2 = true)  : ∀ (ls : Array Slot) (H : Heap) (locs : List Loc) (h : zH) (s0 : Int32), lv_has ls 3 [] → zS G h s.heap H locs → f_X12_next0_303  s0 h = some q → W p l e (zrm (9)) s m args below meth c H locs 0 0 (MQ below (zQV G q.2) args s 0 0 (zA G)) (F0 m 303 ls [.int s0, .ref (zal G 100)]) := by
  intro ls H locs h s0 hl hS hf
  unfold f_X12_next0_303 at hf
  refine zputI C hS ff_X12_169_100 fw_100_15 (hm 100 (by decide)) dX12_next0_303 (fun H locs hS => ?_)
  obtain ⟨h14, eh14, hf⟩ := zst_some hf
  have hS : zS G h14 s.heap H locs := by rw [eh14]; exact hS
  exact zretV C hS hf dX12_next0_306
set_option maxHeartbeats 4000000 in
set_option maxRecDepth 100000 in
theorem w_X12_next0_289  (C : zC G p s m args meth c cX12_next0 3 RX12 none) (hm : ∀ c ∈ nd_X12_next0, c ∈ znm G) (hk : ∀ q ∈ ld_X12_next0, zlk G q.1 q.2 = true)  : ∀ (ls : Array Slot) (H : Heap) (locs : List Loc) (h : zH) (x1 : Int32) (s0 : Int32), lv_has ls 3 [(0, .ref (zal G 100)), (1, .int x1)] → zS G h s.heap H locs → f_X12_next0_289  x1 s0 h = some q → W p l e (zrm (9)) s m args below meth c H locs 0 0 (MQ below (zQV G q.2) args s 0 0 (zA G)) (F0 m 289 ls [.int s0]) := by
  intro ls H locs h x1 s0 hl hS hf
  unfold f_X12_next0_289 at hf
  refine lv_istore_n (lv' := [(2, .int s0), (0, .ref (zal G 100)), (1, .int x1)]) C.1 C.2.1 dX12_next0_289 rfl hl (by decide) rfl (fun ls hl => ?_)
  refine lv_aload_n C.1 C.2.1 dX12_next0_290 rfl (lv_at hl 1 rfl) ?_
  refine lv_iload_n C.1 C.2.1 dX12_next0_291 rfl (lv_at hl 0 rfl) ?_
  refine lv_if_eq (tgt := 302) C.1 C.2.1 dX12_next0_292 (by decide) (fun hc => ?_) (fun hc => ?_)
  · have hf := zif_t hc hf
    refine lv_iconst (v := (1 : Int32)) C.1 C.2.1 dX12_next0_302 rfl ?_
    exact w_X12_next0_303 C hm hk  _ _ _ _ _ (lv_sub hl [] rfl) hS hf
  · have hf := zif_f hc hf
    refine lv_bipush (v := (100 : Int32)) C.1 C.2.1 dX12_next0_295 rfl ?_
    refine lv_iload_n C.1 C.2.1 dX12_next0_297 rfl (lv_at hl 2 rfl) ?_
    refine lv_iadd C.1 C.2.1 dX12_next0_298 ?_
    refine lv_goto (tgt := 303) C.1 C.2.1 dX12_next0_299 (by decide) ?_
    exact w_X12_next0_303 C hm hk  _ _ _ _ _ (lv_sub hl [] rfl) hS hf
set_option maxHeartbeats 4000000 in
set_option maxRecDepth 100000 in
theorem w_X12_next0_284  (C : zC G p s m args meth c cX12_next0 3 RX12 none) (hm : ∀ c ∈ nd_X12_next0, c ∈ znm G) (hk : ∀ q ∈ ld_X12_next0, zlk G q.1 q.2 = true)  : ∀ (ls : Array Slot) (H : Heap) (locs : List Loc) (h : zH) (x1 : Int32), lv_has ls 3 [(0, .ref (zal G 100)), (1, .int x1)] → zS G h s.heap H locs → f_X12_next0_284  x1 h = some q → W p l e (zrm (9)) s m args below meth c H locs 0 0 (MQ below (zQV G q.2) args s 0 0 (zA G)) (F0 m 284 ls []) := by
  intro ls H locs h x1 hl hS hf
  unfold f_X12_next0_284 at hf
  refine lv_iconst (v := (1 : Int32)) C.1 C.2.1 dX12_next0_284 rfl ?_
  refine lv_goto (tgt := 289) C.1 C.2.1 dX12_next0_285 (by decide) ?_
  exact w_X12_next0_289 C hm hk  _ _ _ _ _ _ (lv_sub hl [0, 1] rfl) hS hf
set_option maxHeartbeats 4000000 in
set_option maxRecDepth 100000 in
theorem w_X12_next0_208  (C : zC G p s m args meth c cX12_next0 3 RX12 none) (hm : ∀ c ∈ nd_X12_next0, c ∈ znm G) (hk : ∀ q ∈ ld_X12_next0, zlk G q.1 q.2 = true)  : ∀ (ls : Array Slot) (H : Heap) (locs : List Loc) (h : zH) (s0 : Int32), lv_has ls 3 [] → zS G h s.heap H locs → f_X12_next0_208  s0 h = some q → W p l e (zrm (9)) s m args below meth c H locs 0 0 (MQ below (zQV G q.2) args s 0 0 (zA G)) (F0 m 208 ls [.int s0, .ref (zal G 100)]) := by
  intro ls H locs h s0 hl hS hf
  unfold f_X12_next0_208 at hf
  refine zputI C hS ff_X12_169_100 fw_100_15 (hm 100 (by decide)) dX12_next0_208 (fun H locs hS => ?_)
  obtain ⟨h20, eh20, hf⟩ := zst_some hf
  have hS : zS G h20 s.heap H locs := by rw [eh20]; exact hS
  refine lv_goto (tgt := 306) C.1 C.2.1 dX12_next0_211 (by decide) ?_
  exact zretV C hS hf dX12_next0_306
set_option maxHeartbeats 4000000 in
set_option maxRecDepth 100000 in
theorem w_X12_next0_176 {k126 : zH → zR} (C : zC G p s m args meth c cX12_next0 3 RX12 none) (hm : ∀ c ∈ nd_X12_next0, c ∈ znm G) (hk : ∀ q ∈ ld_X12_next0, zlk G q.1 q.2 = true) (hk126 : ∀ (ls : Array Slot) (H : Heap) (locs : List Loc) (h : zH), lv_has ls 3 [(0, .ref (zal G 100))] → zS G h s.heap H locs → k126 h = some q → W p l e (zrm (9)) s m args below meth c H locs 0 0 (MQ below (zQV G q.2) args s 0 0 (zA G)) (F0 m 126 ls [])) : ∀ (ls : Array Slot) (H : Heap) (locs : List Loc) (h : zH), lv_has ls 3 [(0, .ref (zal G 100))] → zS G h s.heap H locs → f_X12_next0_176 k126 h = some q → W p l e (zrm (9)) s m args below meth c H locs 0 0 (MQ below (zQV G q.2) args s 0 0 (zA G)) (F0 m 176 ls []) := by
  intro ls H locs h hl hS hf
  unfold f_X12_next0_176 at hf
  refine lv_aload_n C.1 C.2.1 dX12_next0_176 rfl (lv_at hl 0 rfl) ?_
  refine lv_dup C.1 C.2.1 dX12_next0_177 rfl ?_
  refine zgetI C hS ff_X12_119_100 (hm 100 (by decide)) dX12_next0_178 ?_
  refine lv_iconst (v := (1 : Int32)) C.1 C.2.1 dX12_next0_181 rfl ?_
  refine lv_iadd C.1 C.2.1 dX12_next0_182 ?_
  refine zputI C hS ff_X12_119_100 fw_100_14 (hm 100 (by decide)) dX12_next0_183 (fun H locs hS => ?_)
  obtain ⟨h21, eh21, hf⟩ := zst_some hf
  have hS : zS G h21 s.heap H locs := by rw [eh21]; exact hS
  refine lv_goto (tgt := 126) C.1 C.2.1 dX12_next0_186 (by decide) ?_
  exact hk126 _ _ _ _ (lv_sub hl [0] rfl) hS hf
set_option maxHeartbeats 4000000 in
set_option maxRecDepth 100000 in
theorem w_X12_next0_126  (C : zC G p s m args meth c cX12_next0 3 RX12 none) (hm : ∀ c ∈ nd_X12_next0, c ∈ znm G) (hk : ∀ q ∈ ld_X12_next0, zlk G q.1 q.2 = true)  : ∀ n, ∀ (ls : Array Slot) (H : Heap) (locs : List Loc) (h : zH), lv_has ls 3 [(0, .ref (zal G 100))] → zS G h s.heap H locs → f_X12_next0_126  n h = some q → W p l e (zrm (9)) s m args below meth c H locs 0 0 (MQ below (zQV G q.2) args s 0 0 (zA G)) (F0 m 126 ls []) := by
  intro n
  induction n with
  | zero => intro ls H locs h hl hS hf; cases hf
  | succ n ih =>
    intro ls H locs h hl hS hf
    rw [f_X12_next0_126] at hf
    refine lv_aload_n C.1 C.2.1 dX12_next0_126 rfl (lv_at hl 0 rfl) ?_
    refine lv_aload_n C.1 C.2.1 dX12_next0_127 rfl (lv_at hl 0 rfl) ?_
    refine zgetI C hS ff_X12_119_100 (hm 100 (by decide)) dX12_next0_128 ?_
    obtain ⟨r16, h17, er16, hf⟩ := zbd_some hf
    refine zcallVI (As := [.int (h 100 14)]) (rest := []) C hS mv_X12_166 (c_X12_see l G h (h 100 14) (r16, h17) (fun c h => hm c (sn_X12_next0_X12_see c h)) (fun q h => hk q (sl_X12_next0_X12_see q h)) er16) (hm 100 (by decide)) ⟨_, _, _, sh_100, rfl, rfl⟩ rfl rfl (Nat.le_of_ble_eq_true rfl) hl.1 ⟨Nat.le_of_ble_eq_true rfl, Nat.le_of_ble_eq_true rfl, Nat.le_of_ble_eq_true rfl, Nat.le_of_ble_eq_true rfl⟩ dX12_next0_131 (fun H locs hS => ?_)
    obtain ⟨r18, h19, er18, hf⟩ := zbd_some hf
    refine zcallSI (As := [.int r16]) (rest := []) C hS ms_X12_178 (c_X12_isDigit l G h17 r16 (r18, h19) (fun c h => hm c (sn_X12_next0_X12_isDigit c h)) (fun q h => hk q (sl_X12_next0_X12_isDigit q h)) er18) rfl rfl (Nat.le_of_ble_eq_true rfl) hl.1 ⟨Nat.le_of_ble_eq_true rfl, Nat.le_of_ble_eq_true rfl, Nat.le_of_ble_eq_true rfl, Nat.le_of_ble_eq_true rfl⟩ dX12_next0_134 (fun H locs hS => ?_)
    refine lv_if_eq (tgt := 189) C.1 C.2.1 dX12_next0_137 (by decide) (fun hc => ?_) (fun hc => ?_)
    · have hf := zif_t hc hf
      refine lv_aload_n C.1 C.2.1 dX12_next0_189 rfl (lv_at hl 0 rfl) ?_
      refine lv_aload_n C.1 C.2.1 dX12_next0_190 rfl (lv_at hl 0 rfl) ?_
      refine zgetI C hS ff_X12_119_100 (hm 100 (by decide)) dX12_next0_191 ?_
      refine lv_aload_n C.1 C.2.1 dX12_next0_194 rfl (lv_at hl 0 rfl) ?_
      refine zgetI C hS ff_X12_122_100 (hm 100 (by decide)) dX12_next0_195 ?_
      refine lv_isub C.1 C.2.1 dX12_next0_198 ?_
      refine lv_iconst (v := (5 : Int32)) C.1 C.2.1 dX12_next0_199 rfl ?_
      refine lv_icmp_ge (tgt := 207) C.1 C.2.1 dX12_next0_200 (by decide) (fun hc => ?_) (fun hc => ?_)
      · have hf := zif_t hc hf
        refine lv_iconst (v := (1 : Int32)) C.1 C.2.1 dX12_next0_207 rfl ?_
        exact w_X12_next0_208 C hm hk  _ _ _ _ _ (lv_sub hl [] rfl) hS hf
      · have hf := zif_f hc hf
        refine lv_iconst (v := (2 : Int32)) C.1 C.2.1 dX12_next0_203 rfl ?_
        refine lv_goto (tgt := 208) C.1 C.2.1 dX12_next0_204 (by decide) ?_
        exact w_X12_next0_208 C hm hk  _ _ _ _ _ (lv_sub hl [] rfl) hS hf
    · have hf := zif_f hc hf
      refine lv_aload_n C.1 C.2.1 dX12_next0_140 rfl (lv_at hl 0 rfl) ?_
      refine zgetI C hS ff_X12_119_100 (hm 100 (by decide)) dX12_next0_141 ?_
      refine lv_aload_n C.1 C.2.1 dX12_next0_144 rfl (lv_at hl 0 rfl) ?_
      refine zgetI C hS ff_X12_122_100 (hm 100 (by decide)) dX12_next0_145 ?_
      refine lv_iconst (v := (4 : Int32)) C.1 C.2.1 dX12_next0_148 rfl ?_
      refine lv_iadd C.1 C.2.1 dX12_next0_149 ?_
      refine lv_icmp_ge (tgt := 176) C.1 C.2.1 dX12_next0_150 (by decide) (fun hc => ?_) (fun hc => ?_)
      · have hf := zif_t hc hf
        exact w_X12_next0_176 C hm hk ih _ _ _ _ (lv_sub hl [0] rfl) hS hf
      · have hf := zif_f hc hf
        refine lv_aload_n C.1 C.2.1 dX12_next0_153 rfl (lv_at hl 0 rfl) ?_
        refine lv_bipush (v := (10 : Int32)) C.1 C.2.1 dX12_next0_154 rfl ?_
        refine lv_aload_n C.1 C.2.1 dX12_next0_156 rfl (lv_at hl 0 rfl) ?_
        refine zgetI C hS ff_X12_181_100 (hm 100 (by decide)) dX12_next0_157 ?_
        refine lv_imul C.1 C.2.1 dX12_next0_160 ?_
        refine lv_aload_n C.1 C.2.1 dX12_next0_161 rfl (lv_at hl 0 rfl) ?_
        refine lv_aload_n C.1 C.2.1 dX12_next0_162 rfl (lv_at hl 0 rfl) ?_
        refine zgetI C hS ff_X12_119_100 (hm 100 (by decide)) dX12_next0_163 ?_
        obtain ⟨r22, h23, er22, hf⟩ := zbd_some hf
        refine zcallVI (As := [.int (h19 100 14)]) (rest := [.int ((10 : Int32) * (h19 100 17)), .ref (zal G 100)]) C hS mv_X12_166 (c_X12_see l G h19 (h19 100 14) (r22, h23) (fun c h => hm c (sn_X12_next0_X12_see c h)) (fun q h => hk q (sl_X12_next0_X12_see q h)) er22) (hm 100 (by decide)) ⟨_, _, _, sh_100, rfl, rfl⟩ rfl rfl (Nat.le_of_ble_eq_true rfl) hl.1 ⟨Nat.le_of_ble_eq_true rfl, Nat.le_of_ble_eq_true rfl, Nat.le_of_ble_eq_true rfl, Nat.le_of_ble_eq_true rfl⟩ dX12_next0_166 (fun H locs hS => ?_)
        refine lv_iadd C.1 C.2.1 dX12_next0_169 ?_
        refine lv_bipush (v := (48 : Int32)) C.1 C.2.1 dX12_next0_170 rfl ?_
        refine lv_isub C.1 C.2.1 dX12_next0_172 ?_
        refine zputI C hS ff_X12_181_100 fw_100_17 (hm 100 (by decide)) dX12_next0_173 (fun H locs hS => ?_)
        obtain ⟨h24, eh24, hf⟩ := zst_some hf
        have hS : zS G h24 s.heap H locs := by rw [eh24]; exact hS
        exact w_X12_next0_176 C hm hk ih _ _ _ _ (lv_sub hl [0] rfl) hS hf
set_option maxHeartbeats 4000000 in
set_option maxRecDepth 100000 in
theorem w_X12_next0_76  (C : zC G p s m args meth c cX12_next0 3 RX12 none) (hm : ∀ c ∈ nd_X12_next0, c ∈ znm G) (hk : ∀ q ∈ ld_X12_next0, zlk G q.1 q.2 = true)  : ∀ n, ∀ (ls : Array Slot) (H : Heap) (locs : List Loc) (h : zH), lv_has ls 3 [(0, .ref (zal G 100))] → zS G h s.heap H locs → f_X12_next0_76  n h = some q → W p l e (zrm (9)) s m args below meth c H locs 0 0 (MQ below (zQV G q.2) args s 0 0 (zA G)) (F0 m 76 ls []) := by
  intro n
  induction n with
  | zero => intro ls H locs h hl hS hf; cases hf
  | succ n ih =>
    intro ls H locs h hl hS hf
    rw [f_X12_next0_76] at hf
    refine lv_aload_n C.1 C.2.1 dX12_next0_76 rfl (lv_at hl 0 rfl) ?_
    refine lv_aload_n C.1 C.2.1 dX12_next0_77 rfl (lv_at hl 0 rfl) ?_
    refine zgetI C hS ff_X12_119_100 (hm 100 (by decide)) dX12_next0_78 ?_
    obtain ⟨r25, h26, er25, hf⟩ := zbd_some hf
    refine zcallVI (As := [.int (h 100 14)]) (rest := []) C hS mv_X12_166 (c_X12_see l G h (h 100 14) (r25, h26) (fun c h => hm c (sn_X12_next0_X12_see c h)) (fun q h => hk q (sl_X12_next0_X12_see q h)) er25) (hm 100 (by decide)) ⟨_, _, _, sh_100, rfl, rfl⟩ rfl rfl (Nat.le_of_ble_eq_true rfl) hl.1 ⟨Nat.le_of_ble_eq_true rfl, Nat.le_of_ble_eq_true rfl, Nat.le_of_ble_eq_true rfl, Nat.le_of_ble_eq_true rfl⟩ dX12_next0_81 (fun H locs hS => ?_)
    obtain ⟨r27, h28, er27, hf⟩ := zbd_some hf
    refine zcallSI (As := [.int r25]) (rest := []) C hS ms_X12_172 (c_X12_isLetter l G h26 r25 (r27, h28) (fun c h => hm c (sn_X12_next0_X12_isLetter c h)) (fun q h => hk q (sl_X12_next0_X12_isLetter q h)) er27) rfl rfl (Nat.le_of_ble_eq_true rfl) hl.1 ⟨Nat.le_of_ble_eq_true rfl, Nat.le_of_ble_eq_true rfl, Nat.le_of_ble_eq_true rfl, Nat.le_of_ble_eq_true rfl⟩ dX12_next0_84 (fun H locs hS => ?_)
    refine lv_if_eq (tgt := 103) C.1 C.2.1 dX12_next0_87 (by decide) (fun hc => ?_) (fun hc => ?_)
    · have hf := zif_t hc hf
      refine lv_aload_n C.1 C.2.1 dX12_next0_103 rfl (lv_at hl 0 rfl) ?_
      refine lv_aload_n C.1 C.2.1 dX12_next0_104 rfl (lv_at hl 0 rfl) ?_
      obtain ⟨r29, h30, er29, hf⟩ := zbd_some hf
      refine zcallVI (As := []) (rest := [.ref (zal G 100)]) C hS mv_X12_175 (c_X12_word l G h28  (r29, h30) (fun c h => hm c (sn_X12_next0_X12_word c h)) (fun q h => hk q (sl_X12_next0_X12_word q h)) er29) (hm 100 (by decide)) ⟨_, _, _, sh_100, rfl, rfl⟩ rfl rfl (Nat.le_of_ble_eq_true rfl) hl.1 ⟨Nat.le_of_ble_eq_true rfl, Nat.le_of_ble_eq_true rfl, Nat.le_of_ble_eq_true rfl, Nat.le_of_ble_eq_true rfl⟩ dX12_next0_105 (fun H locs hS => ?_)
      refine zputI C hS ff_X12_169_100 fw_100_15 (hm 100 (by decide)) dX12_next0_108 (fun H locs hS => ?_)
      obtain ⟨h31, eh31, hf⟩ := zst_some hf
      have hS : zS G h31 s.heap H locs := by rw [eh31]; exact hS
      refine lv_goto (tgt := 306) C.1 C.2.1 dX12_next0_111 (by decide) ?_
      exact zretV C hS hf dX12_next0_306
    · have hf := zif_f hc hf
      refine lv_aload_n C.1 C.2.1 dX12_next0_90 rfl (lv_at hl 0 rfl) ?_
      refine lv_dup C.1 C.2.1 dX12_next0_91 rfl ?_
      refine zgetI C hS ff_X12_119_100 (hm 100 (by decide)) dX12_next0_92 ?_
      refine lv_iconst (v := (1 : Int32)) C.1 C.2.1 dX12_next0_95 rfl ?_
      refine lv_iadd C.1 C.2.1 dX12_next0_96 ?_
      refine zputI C hS ff_X12_119_100 fw_100_14 (hm 100 (by decide)) dX12_next0_97 (fun H locs hS => ?_)
      obtain ⟨h32, eh32, hf⟩ := zst_some hf
      have hS : zS G h32 s.heap H locs := by rw [eh32]; exact hS
      refine lv_goto (tgt := 76) C.1 C.2.1 dX12_next0_100 (by decide) ?_
      exact ih _ _ _ _ (lv_sub hl [0] rfl) hS hf
set_option maxHeartbeats 4000000 in
set_option maxRecDepth 100000 in
theorem w_X12_next0_0  (C : zC G p s m args meth c cX12_next0 3 RX12 none) (hm : ∀ c ∈ nd_X12_next0, c ∈ znm G) (hk : ∀ q ∈ ld_X12_next0, zlk G q.1 q.2 = true)  : ∀ n, ∀ (ls : Array Slot) (H : Heap) (locs : List Loc) (h : zH), lv_has ls 3 [(0, .ref (zal G 100))] → zS G h s.heap H locs → f_X12_next0_0  n h = some q → W p l e (zrm (9)) s m args below meth c H locs 0 0 (MQ below (zQV G q.2) args s 0 0 (zA G)) (F0 m 0 ls []) := by
  intro n
  induction n with
  | zero => intro ls H locs h hl hS hf; cases hf
  | succ n ih =>
    intro ls H locs h hl hS hf
    rw [f_X12_next0_0] at hf
    refine lv_aload_n C.1 C.2.1 dX12_next0_0 rfl (lv_at hl 0 rfl) ?_
    refine lv_aload_n C.1 C.2.1 dX12_next0_1 rfl (lv_at hl 0 rfl) ?_
    refine zgetI C hS ff_X12_119_100 (hm 100 (by decide)) dX12_next0_2 ?_
    obtain ⟨r1, h2, er1, hf⟩ := zbd_some hf
    refine zcallVI (As := [.int (h 100 14)]) (rest := []) C hS mv_X12_166 (c_X12_see l G h (h 100 14) (r1, h2) (fun c h => hm c (sn_X12_next0_X12_see c h)) (fun q h => hk q (sl_X12_next0_X12_see q h)) er1) (hm 100 (by decide)) ⟨_, _, _, sh_100, rfl, rfl⟩ rfl rfl (Nat.le_of_ble_eq_true rfl) hl.1 ⟨Nat.le_of_ble_eq_true rfl, Nat.le_of_ble_eq_true rfl, Nat.le_of_ble_eq_true rfl, Nat.le_of_ble_eq_true rfl⟩ dX12_next0_5 (fun H locs hS => ?_)
    refine lv_bipush (v := (32 : Int32)) C.1 C.2.1 dX12_next0_8 rfl ?_
    refine lv_icmp_eq (tgt := 26) C.1 C.2.1 dX12_next0_10 (by decide) (fun hc => ?_) (fun hc => ?_)
    · have hf := zif_t hc hf
      exact w_X12_next0_26 C hm hk ih _ _ _ _ (lv_sub hl [0] rfl) hS hf
    · have hf := zif_f hc hf
      refine lv_aload_n C.1 C.2.1 dX12_next0_13 rfl (lv_at hl 0 rfl) ?_
      refine lv_aload_n C.1 C.2.1 dX12_next0_14 rfl (lv_at hl 0 rfl) ?_
      refine zgetI C hS ff_X12_119_100 (hm 100 (by decide)) dX12_next0_15 ?_
      obtain ⟨r4, h5, er4, hf⟩ := zbd_some hf
      refine zcallVI (As := [.int (h2 100 14)]) (rest := []) C hS mv_X12_166 (c_X12_see l G h2 (h2 100 14) (r4, h5) (fun c h => hm c (sn_X12_next0_X12_see c h)) (fun q h => hk q (sl_X12_next0_X12_see q h)) er4) (hm 100 (by decide)) ⟨_, _, _, sh_100, rfl, rfl⟩ rfl rfl (Nat.le_of_ble_eq_true rfl) hl.1 ⟨Nat.le_of_ble_eq_true rfl, Nat.le_of_ble_eq_true rfl, Nat.le_of_ble_eq_true rfl, Nat.le_of_ble_eq_true rfl⟩ dX12_next0_18 (fun H locs hS => ?_)
      refine lv_bipush (v := (10 : Int32)) C.1 C.2.1 dX12_next0_21 rfl ?_
      refine lv_icmp_ne (tgt := 39) C.1 C.2.1 dX12_next0_23 (by decide) (fun hc => ?_) (fun hc => ?_)
      · have hf := zif_f hc hf
        refine lv_aload_n C.1 C.2.1 dX12_next0_39 rfl (lv_at hl 0 rfl) ?_
        refine lv_aload_n C.1 C.2.1 dX12_next0_40 rfl (lv_at hl 0 rfl) ?_
        refine zgetI C hS ff_X12_119_100 (hm 100 (by decide)) dX12_next0_41 ?_
        refine zputI C hS ff_X12_122_100 fw_100_16 (hm 100 (by decide)) dX12_next0_44 (fun H locs hS => ?_)
        obtain ⟨h6, eh6, hf⟩ := zst_some hf
        have hS : zS G h6 s.heap H locs := by rw [eh6]; exact hS
        refine lv_aload_n C.1 C.2.1 dX12_next0_47 rfl (lv_at hl 0 rfl) ?_
        refine lv_aload_n C.1 C.2.1 dX12_next0_48 rfl (lv_at hl 0 rfl) ?_
        refine zgetI C hS ff_X12_119_100 (hm 100 (by decide)) dX12_next0_49 ?_
        obtain ⟨r7, h8, er7, hf⟩ := zbd_some hf
        refine zcallVI (As := [.int (h6 100 14)]) (rest := []) C hS mv_X12_166 (c_X12_see l G h6 (h6 100 14) (r7, h8) (fun c h => hm c (sn_X12_next0_X12_see c h)) (fun q h => hk q (sl_X12_next0_X12_see q h)) er7) (hm 100 (by decide)) ⟨_, _, _, sh_100, rfl, rfl⟩ rfl rfl (Nat.le_of_ble_eq_true rfl) hl.1 ⟨Nat.le_of_ble_eq_true rfl, Nat.le_of_ble_eq_true rfl, Nat.le_of_ble_eq_true rfl, Nat.le_of_ble_eq_true rfl⟩ dX12_next0_52 (fun H locs hS => ?_)
        refine lv_istore_n (lv' := [(1, .int r7), (0, .ref (zal G 100))]) C.1 C.2.1 dX12_next0_55 rfl hl (by decide) rfl (fun ls hl => ?_)
        refine lv_iload_n C.1 C.2.1 dX12_next0_56 rfl (lv_at hl 0 rfl) ?_
        refine lv_iconst (v := (-1 : Int32)) C.1 C.2.1 dX12_next0_57 rfl ?_
        refine lv_icmp_ne (tgt := 69) C.1 C.2.1 dX12_next0_58 (by decide) (fun hc => ?_) (fun hc => ?_)
        · have hf := zif_f hc hf
          refine lv_iload_n C.1 C.2.1 dX12_next0_69 rfl (lv_at hl 0 rfl) ?_
          obtain ⟨r9, h10, er9, hf⟩ := zbd_some hf
          refine zcallSI (As := [.int r7]) (rest := []) C hS ms_X12_172 (c_X12_isLetter l G h8 r7 (r9, h10) (fun c h => hm c (sn_X12_next0_X12_isLetter c h)) (fun q h => hk q (sl_X12_next0_X12_isLetter q h)) er9) rfl rfl (Nat.le_of_ble_eq_true rfl) hl.1 ⟨Nat.le_of_ble_eq_true rfl, Nat.le_of_ble_eq_true rfl, Nat.le_of_ble_eq_true rfl, Nat.le_of_ble_eq_true rfl⟩ dX12_next0_70 (fun H locs hS => ?_)
          refine lv_if_eq (tgt := 114) C.1 C.2.1 dX12_next0_73 (by decide) (fun hc => ?_) (fun hc => ?_)
          · have hf := zif_t hc hf
            refine lv_iload_n C.1 C.2.1 dX12_next0_114 rfl (lv_at hl 0 rfl) ?_
            obtain ⟨r11, h12, er11, hf⟩ := zbd_some hf
            refine zcallSI (As := [.int r7]) (rest := []) C hS ms_X12_178 (c_X12_isDigit l G h10 r7 (r11, h12) (fun c h => hm c (sn_X12_next0_X12_isDigit c h)) (fun q h => hk q (sl_X12_next0_X12_isDigit q h)) er11) rfl rfl (Nat.le_of_ble_eq_true rfl) hl.1 ⟨Nat.le_of_ble_eq_true rfl, Nat.le_of_ble_eq_true rfl, Nat.le_of_ble_eq_true rfl, Nat.le_of_ble_eq_true rfl⟩ dX12_next0_115 (fun H locs hS => ?_)
            refine lv_if_eq (tgt := 214) C.1 C.2.1 dX12_next0_118 (by decide) (fun hc => ?_) (fun hc => ?_)
            · have hf := zif_t hc hf
              refine lv_aload_n C.1 C.2.1 dX12_next0_214 rfl (lv_at hl 1 rfl) ?_
              refine lv_dup C.1 C.2.1 dX12_next0_215 rfl ?_
              refine zgetI C hS ff_X12_119_100 (hm 100 (by decide)) dX12_next0_216 ?_
              refine lv_iconst (v := (1 : Int32)) C.1 C.2.1 dX12_next0_219 rfl ?_
              refine lv_iadd C.1 C.2.1 dX12_next0_220 ?_
              refine zputI C hS ff_X12_119_100 fw_100_14 (hm 100 (by decide)) dX12_next0_221 (fun H locs hS => ?_)
              obtain ⟨h13, eh13, hf⟩ := zst_some hf
              have hS : zS G h13 s.heap H locs := by rw [eh13]; exact hS
              refine lv_iload_n C.1 C.2.1 dX12_next0_224 rfl (lv_at hl 0 rfl) ?_
              refine lv_bipush (v := (59 : Int32)) C.1 C.2.1 dX12_next0_225 rfl ?_
              refine lv_icmp_eq (tgt := 284) C.1 C.2.1 dX12_next0_227 (by decide) (fun hc => ?_) (fun hc => ?_)
              · have hf := zif_t hc hf
                exact w_X12_next0_284 C hm hk  _ _ _ _ _ (lv_sub hl [1, 0] rfl) hS hf
              · have hf := zif_f hc hf
                refine lv_iload_n C.1 C.2.1 dX12_next0_230 rfl (lv_at hl 0 rfl) ?_
                refine lv_bipush (v := (43 : Int32)) C.1 C.2.1 dX12_next0_231 rfl ?_
                refine lv_icmp_eq (tgt := 284) C.1 C.2.1 dX12_next0_233 (by decide) (fun hc => ?_) (fun hc => ?_)
                · have hf := zif_t hc hf
                  exact w_X12_next0_284 C hm hk  _ _ _ _ _ (lv_sub hl [1, 0] rfl) hS hf
                · have hf := zif_f hc hf
                  refine lv_iload_n C.1 C.2.1 dX12_next0_236 rfl (lv_at hl 0 rfl) ?_
                  refine lv_bipush (v := (45 : Int32)) C.1 C.2.1 dX12_next0_237 rfl ?_
                  refine lv_icmp_eq (tgt := 284) C.1 C.2.1 dX12_next0_239 (by decide) (fun hc => ?_) (fun hc => ?_)
                  · have hf := zif_t hc hf
                    exact w_X12_next0_284 C hm hk  _ _ _ _ _ (lv_sub hl [1, 0] rfl) hS hf
                  · have hf := zif_f hc hf
                    refine lv_iload_n C.1 C.2.1 dX12_next0_242 rfl (lv_at hl 0 rfl) ?_
                    refine lv_bipush (v := (42 : Int32)) C.1 C.2.1 dX12_next0_243 rfl ?_
                    refine lv_icmp_eq (tgt := 284) C.1 C.2.1 dX12_next0_245 (by decide) (fun hc => ?_) (fun hc => ?_)
                    · have hf := zif_t hc hf
                      exact w_X12_next0_284 C hm hk  _ _ _ _ _ (lv_sub hl [1, 0] rfl) hS hf
                    · have hf := zif_f hc hf
                      refine lv_iload_n C.1 C.2.1 dX12_next0_248 rfl (lv_at hl 0 rfl) ?_
                      refine lv_bipush (v := (47 : Int32)) C.1 C.2.1 dX12_next0_249 rfl ?_
                      refine lv_icmp_eq (tgt := 284) C.1 C.2.1 dX12_next0_251 (by decide) (fun hc => ?_) (fun hc => ?_)
                      · have hf := zif_t hc hf
                        exact w_X12_next0_284 C hm hk  _ _ _ _ _ (lv_sub hl [1, 0] rfl) hS hf
                      · have hf := zif_f hc hf
                        refine lv_iload_n C.1 C.2.1 dX12_next0_254 rfl (lv_at hl 0 rfl) ?_
                        refine lv_bipush (v := (40 : Int32)) C.1 C.2.1 dX12_next0_255 rfl ?_
                        refine lv_icmp_eq (tgt := 284) C.1 C.2.1 dX12_next0_257 (by decide) (fun hc => ?_) (fun hc => ?_)
                        · have hf := zif_t hc hf
                          exact w_X12_next0_284 C hm hk  _ _ _ _ _ (lv_sub hl [1, 0] rfl) hS hf
                        · have hf := zif_f hc hf
                          refine lv_iload_n C.1 C.2.1 dX12_next0_260 rfl (lv_at hl 0 rfl) ?_
                          refine lv_bipush (v := (41 : Int32)) C.1 C.2.1 dX12_next0_261 rfl ?_
                          refine lv_icmp_eq (tgt := 284) C.1 C.2.1 dX12_next0_263 (by decide) (fun hc => ?_) (fun hc => ?_)
                          · have hf := zif_t hc hf
                            exact w_X12_next0_284 C hm hk  _ _ _ _ _ (lv_sub hl [1, 0] rfl) hS hf
                          · have hf := zif_f hc hf
                            refine lv_iload_n C.1 C.2.1 dX12_next0_266 rfl (lv_at hl 0 rfl) ?_
                            refine lv_bipush (v := (60 : Int32)) C.1 C.2.1 dX12_next0_267 rfl ?_
                            refine lv_icmp_eq (tgt := 284) C.1 C.2.1 dX12_next0_269 (by decide) (fun hc => ?_) (fun hc => ?_)
                            · have hf := zif_t hc hf
                              exact w_X12_next0_284 C hm hk  _ _ _ _ _ (lv_sub hl [1, 0] rfl) hS hf
                            · have hf := zif_f hc hf
                              refine lv_iload_n C.1 C.2.1 dX12_next0_272 rfl (lv_at hl 0 rfl) ?_
                              refine lv_bipush (v := (61 : Int32)) C.1 C.2.1 dX12_next0_273 rfl ?_
                              refine lv_icmp_eq (tgt := 284) C.1 C.2.1 dX12_next0_275 (by decide) (fun hc => ?_) (fun hc => ?_)
                              · have hf := zif_t hc hf
                                exact w_X12_next0_284 C hm hk  _ _ _ _ _ (lv_sub hl [1, 0] rfl) hS hf
                              · have hf := zif_f hc hf
                                refine lv_iload_n C.1 C.2.1 dX12_next0_278 rfl (lv_at hl 0 rfl) ?_
                                refine lv_bipush (v := (62 : Int32)) C.1 C.2.1 dX12_next0_279 rfl ?_
                                refine lv_icmp_ne (tgt := 288) C.1 C.2.1 dX12_next0_281 (by decide) (fun hc => ?_) (fun hc => ?_)
                                · have hf := zif_f hc hf
                                  refine lv_iconst (v := (0 : Int32)) C.1 C.2.1 dX12_next0_288 rfl ?_
                                  exact w_X12_next0_289 C hm hk  _ _ _ _ _ _ (lv_sub hl [1, 0] rfl) hS hf
                                · have hf := zif_t hc hf
                                  exact w_X12_next0_284 C hm hk  _ _ _ _ _ (lv_sub hl [1, 0] rfl) hS hf
            · have hf := zif_f hc hf
              refine lv_aload_n C.1 C.2.1 dX12_next0_121 rfl (lv_at hl 1 rfl) ?_
              refine lv_iconst (v := (0 : Int32)) C.1 C.2.1 dX12_next0_122 rfl ?_
              refine zputI C hS ff_X12_181_100 fw_100_17 (hm 100 (by decide)) dX12_next0_123 (fun H locs hS => ?_)
              obtain ⟨h15, eh15, hf⟩ := zst_some hf
              have hS : zS G h15 s.heap H locs := by rw [eh15]; exact hS
              exact w_X12_next0_126 C hm hk  zN _ _ _ _ (lv_sub hl [1] rfl) hS hf
          · have hf := zif_f hc hf
            exact w_X12_next0_76 C hm hk  zN _ _ _ _ (lv_sub hl [1] rfl) hS hf
        · have hf := zif_t hc hf
          refine lv_aload_n C.1 C.2.1 dX12_next0_61 rfl (lv_at hl 1 rfl) ?_
          refine lv_iconst (v := (0 : Int32)) C.1 C.2.1 dX12_next0_62 rfl ?_
          refine zputI C hS ff_X12_169_100 fw_100_15 (hm 100 (by decide)) dX12_next0_63 (fun H locs hS => ?_)
          obtain ⟨h33, eh33, hf⟩ := zst_some hf
          have hS : zS G h33 s.heap H locs := by rw [eh33]; exact hS
          refine lv_goto (tgt := 306) C.1 C.2.1 dX12_next0_66 (by decide) ?_
          exact zretV C hS hf dX12_next0_306
      · have hf := zif_t hc hf
        exact w_X12_next0_26 C hm hk ih _ _ _ _ (lv_sub hl [0] rfl) hS hf
set_option maxHeartbeats 4000000 in
set_option maxRecDepth 100000 in
theorem c_X12_next0 (l : Launch) (G : zG) (h : zH) (q : Int32 × zH) (hm : ∀ c ∈ nd_X12_next0, c ∈ znm G) (hk : ∀ q ∈ ld_X12_next0, zlk G q.1 q.2 = true) (hf : f_X12_next0 h = some q) : zCtV l yX12_next0 cX12_next0 3 none (9) [.ref (zal G 100)] G h q.2 := by
  refine zMetV (by decide) (Nat.le_of_ble_eq_true rfl) ?_
  intro p e s m below meth c ls C hl hS
  have hl : lv_has ls 3 [(0, .ref (zal G 100))] := hl
  have C : zC G p s m [.ref (zal G 100)].toArray meth c cX12_next0 3 RX12 none := C
  unfold f_X12_next0 at hf
  exact w_X12_next0_0 C hm hk  zN _ _ _ _ (lv_sub hl [0] rfl) hS hf
end
section
theorem dX12_lay_0 : decode cX12_lay 0 = .ok (.aload_n 0, 1) := by decide +kernel
theorem dX12_lay_1 : decode cX12_lay 1 = .ok (.getfield 25, 3) := by decide +kernel
theorem dX12_lay_4 : decode cX12_lay 4 = .ok (.iconst 2, 1) := by decide +kernel
theorem dX12_lay_5 : decode cX12_lay 5 = .ok (.aload_n 0, 1) := by decide +kernel
theorem dX12_lay_6 : decode cX12_lay 6 = .ok (.getfield 196, 3) := by decide +kernel
theorem dX12_lay_9 : decode cX12_lay 9 = .ok (.imul, 1) := by decide +kernel
theorem dX12_lay_10 : decode cX12_lay 10 = .ok (.iload_n 1, 1) := by decide +kernel
theorem dX12_lay_11 : decode cX12_lay 11 = .ok (.iastore, 1) := by decide +kernel
theorem dX12_lay_12 : decode cX12_lay 12 = .ok (.aload_n 0, 1) := by decide +kernel
theorem dX12_lay_13 : decode cX12_lay 13 = .ok (.getfield 25, 3) := by decide +kernel
theorem dX12_lay_16 : decode cX12_lay 16 = .ok (.iconst 2, 1) := by decide +kernel
theorem dX12_lay_17 : decode cX12_lay 17 = .ok (.aload_n 0, 1) := by decide +kernel
theorem dX12_lay_18 : decode cX12_lay 18 = .ok (.getfield 196, 3) := by decide +kernel
theorem dX12_lay_21 : decode cX12_lay 21 = .ok (.imul, 1) := by decide +kernel
theorem dX12_lay_22 : decode cX12_lay 22 = .ok (.iconst 1, 1) := by decide +kernel
theorem dX12_lay_23 : decode cX12_lay 23 = .ok (.iadd, 1) := by decide +kernel
theorem dX12_lay_24 : decode cX12_lay 24 = .ok (.iload_n 2, 1) := by decide +kernel
theorem dX12_lay_25 : decode cX12_lay 25 = .ok (.iastore, 1) := by decide +kernel
theorem dX12_lay_26 : decode cX12_lay 26 = .ok (.aload_n 0, 1) := by decide +kernel
theorem dX12_lay_27 : decode cX12_lay 27 = .ok (.dup, 1) := by decide +kernel
theorem dX12_lay_28 : decode cX12_lay 28 = .ok (.getfield 196, 3) := by decide +kernel
theorem dX12_lay_31 : decode cX12_lay 31 = .ok (.iconst 1, 1) := by decide +kernel
theorem dX12_lay_32 : decode cX12_lay 32 = .ok (.iadd, 1) := by decide +kernel
theorem dX12_lay_33 : decode cX12_lay 33 = .ok (.putfield 196, 3) := by decide +kernel
theorem dX12_lay_36 : decode cX12_lay 36 = .ok (.return_, 1) := by decide +kernel
abbrev nd_X12_lay : List Nat := [100, 106]
abbrev ld_X12_lay : List (Nat × Nat) := [(100, 7)]
def f_X12_lay  (x1 : Int32) (x2 : Int32) (h : zH) : zR := (zck ((2 : Int32) * (h 100 12)) 820 (zst (zup h 106 (Int32.toNatClampNeg ((2 : Int32) * (h 100 12))) x1) fun h1 => (zck (((2 : Int32) * (h1 100 12)) + (1 : Int32)) 820 (zst (zup h1 106 (Int32.toNatClampNeg (((2 : Int32) * (h1 100 12)) + (1 : Int32))) x2) fun h2 => (zst (zup h2 100 12 ((h2 100 12) + (1 : Int32))) fun h3 => (some (0, h3)))))))
variable {p : Program} {l : Launch} {e : Env} {s : State} {m : MethodId} {args : Array Value} {below : List Frame} {meth : Method} {c : Code} {G : zG} {q : Int32 × zH}
set_option maxHeartbeats 4000000 in
set_option maxRecDepth 100000 in
theorem c_X12_lay (l : Launch) (G : zG) (h : zH) (x1 : Int32) (x2 : Int32) (q : Int32 × zH) (hm : ∀ c ∈ nd_X12_lay, c ∈ znm G) (hk : ∀ q ∈ ld_X12_lay, zlk G q.1 q.2 = true) (hf : f_X12_lay x1 x2 h = some q) : zCtV l yX12_lay cX12_lay 3 none (2) [.ref (zal G 100), .int x1, .int x2] G h q.2 := by
  refine zMetV (by decide) (Nat.le_of_ble_eq_true rfl) ?_
  intro p e s m below meth c ls C hl hS
  have hl : lv_has ls 3 [(0, .ref (zal G 100)), (1, .int x1), (2, .int x2)] := hl
  have C : zC G p s m [.ref (zal G 100), .int x1, .int x2].toArray meth c cX12_lay 3 RX12 none := C
  unfold f_X12_lay at hf
  refine lv_aload_n C.1 C.2.1 dX12_lay_0 rfl (lv_at hl 0 rfl) ?_
  refine zgetR C hS ff_X12_25_100 (hm 100 (by decide)) (hk (100, 7) (by decide)) dX12_lay_1 ?_
  refine lv_iconst (v := (2 : Int32)) C.1 C.2.1 dX12_lay_4 rfl ?_
  refine lv_aload_n C.1 C.2.1 dX12_lay_5 rfl (lv_at hl 0 rfl) ?_
  refine zgetI C hS ff_X12_196_100 (hm 100 (by decide)) dX12_lay_6 ?_
  refine lv_imul C.1 C.2.1 dX12_lay_9 ?_
  refine lv_iload_n C.1 C.2.1 dX12_lay_10 rfl (lv_at hl 1 rfl) ?_
  obtain ⟨hi, hf⟩ := zck_some hf
  refine zast C hS sh_106 (hm 106 (by decide)) hi dX12_lay_11 (fun H locs hS => ?_)
  obtain ⟨h1, eh1, hf⟩ := zst_some hf
  have hS : zS G h1 s.heap H locs := by rw [eh1]; exact hS
  refine lv_aload_n C.1 C.2.1 dX12_lay_12 rfl (lv_at hl 0 rfl) ?_
  refine zgetR C hS ff_X12_25_100 (hm 100 (by decide)) (hk (100, 7) (by decide)) dX12_lay_13 ?_
  refine lv_iconst (v := (2 : Int32)) C.1 C.2.1 dX12_lay_16 rfl ?_
  refine lv_aload_n C.1 C.2.1 dX12_lay_17 rfl (lv_at hl 0 rfl) ?_
  refine zgetI C hS ff_X12_196_100 (hm 100 (by decide)) dX12_lay_18 ?_
  refine lv_imul C.1 C.2.1 dX12_lay_21 ?_
  refine lv_iconst (v := (1 : Int32)) C.1 C.2.1 dX12_lay_22 rfl ?_
  refine lv_iadd C.1 C.2.1 dX12_lay_23 ?_
  refine lv_iload_n C.1 C.2.1 dX12_lay_24 rfl (lv_at hl 2 rfl) ?_
  obtain ⟨hi, hf⟩ := zck_some hf
  refine zast C hS sh_106 (hm 106 (by decide)) hi dX12_lay_25 (fun H locs hS => ?_)
  obtain ⟨h2, eh2, hf⟩ := zst_some hf
  have hS : zS G h2 s.heap H locs := by rw [eh2]; exact hS
  refine lv_aload_n C.1 C.2.1 dX12_lay_26 rfl (lv_at hl 0 rfl) ?_
  refine lv_dup C.1 C.2.1 dX12_lay_27 rfl ?_
  refine zgetI C hS ff_X12_196_100 (hm 100 (by decide)) dX12_lay_28 ?_
  refine lv_iconst (v := (1 : Int32)) C.1 C.2.1 dX12_lay_31 rfl ?_
  refine lv_iadd C.1 C.2.1 dX12_lay_32 ?_
  refine zputI C hS ff_X12_196_100 fw_100_12 (hm 100 (by decide)) dX12_lay_33 (fun H locs hS => ?_)
  obtain ⟨h3, eh3, hf⟩ := zst_some hf
  have hS : zS G h3 s.heap H locs := by rw [eh3]; exact hS
  exact zretV C hS hf dX12_lay_36
end
section
theorem dX12_bad_0 : decode cX12_bad 0 = .ok (.aload_n 0, 1) := by decide +kernel
theorem dX12_bad_1 : decode cX12_bad 1 = .ok (.iload_n 1, 1) := by decide +kernel
theorem dX12_bad_2 : decode cX12_bad 2 = .ok (.putfield 184, 3) := by decide +kernel
theorem dX12_bad_5 : decode cX12_bad 5 = .ok (.aload_n 0, 1) := by decide +kernel
theorem dX12_bad_6 : decode cX12_bad 6 = .ok (.aload_n 0, 1) := by decide +kernel
theorem dX12_bad_7 : decode cX12_bad 7 = .ok (.getfield 122, 3) := by decide +kernel
theorem dX12_bad_10 : decode cX12_bad 10 = .ok (.putfield 187, 3) := by decide +kernel
theorem dX12_bad_13 : decode cX12_bad 13 = .ok (.iconst 0, 1) := by decide +kernel
theorem dX12_bad_14 : decode cX12_bad 14 = .ok (.ireturn, 1) := by decide +kernel
abbrev nd_X12_bad : List Nat := [100]
abbrev ld_X12_bad : List (Nat × Nat) := []
def f_X12_bad  (x1 : Int32) (h : zH) : zR := (zst (zup h 100 18 x1) fun h1 => (zst (zup h1 100 19 (h1 100 16)) fun h2 => (some ((0 : Int32), h2))))
variable {p : Program} {l : Launch} {e : Env} {s : State} {m : MethodId} {args : Array Value} {below : List Frame} {meth : Method} {c : Code} {G : zG} {q : Int32 × zH}
set_option maxHeartbeats 4000000 in
set_option maxRecDepth 100000 in
theorem c_X12_bad (l : Launch) (G : zG) (h : zH) (x1 : Int32) (q : Int32 × zH) (hm : ∀ c ∈ nd_X12_bad, c ∈ znm G) (hk : ∀ q ∈ ld_X12_bad, zlk G q.1 q.2 = true) (hf : f_X12_bad x1 h = some q) : zCtI l yX12_bad cX12_bad 2 (some .boolean) (2) [.ref (zal G 100), .int x1] G h q.2 q.1 := by
  refine zMetI (by decide) (Nat.le_of_ble_eq_true rfl) ?_
  intro p e s m below meth c ls C hl hS
  have hl : lv_has ls 2 [(0, .ref (zal G 100)), (1, .int x1)] := hl
  have C : zC G p s m [.ref (zal G 100), .int x1].toArray meth c cX12_bad 2 RX12 (some .boolean) := C
  unfold f_X12_bad at hf
  refine lv_aload_n C.1 C.2.1 dX12_bad_0 rfl (lv_at hl 0 rfl) ?_
  refine lv_iload_n C.1 C.2.1 dX12_bad_1 rfl (lv_at hl 1 rfl) ?_
  refine zputI C hS ff_X12_184_100 fw_100_18 (hm 100 (by decide)) dX12_bad_2 (fun H locs hS => ?_)
  obtain ⟨h1, eh1, hf⟩ := zst_some hf
  have hS : zS G h1 s.heap H locs := by rw [eh1]; exact hS
  refine lv_aload_n C.1 C.2.1 dX12_bad_5 rfl (lv_at hl 0 rfl) ?_
  refine lv_aload_n C.1 C.2.1 dX12_bad_6 rfl (lv_at hl 0 rfl) ?_
  refine zgetI C hS ff_X12_122_100 (hm 100 (by decide)) dX12_bad_7 ?_
  refine zputI C hS ff_X12_187_100 fw_100_19 (hm 100 (by decide)) dX12_bad_10 (fun H locs hS => ?_)
  obtain ⟨h2, eh2, hf⟩ := zst_some hf
  have hS : zS G h2 s.heap H locs := by rw [eh2]; exact hS
  refine lv_iconst (v := (0 : Int32)) C.1 C.2.1 dX12_bad_13 rfl ?_
  exact zretZ C hS rfl hf dX12_bad_14
end
section
theorem dX12_unit_0 : decode cX12_unit 0 = .ok (.aload_n 0, 1) := by decide +kernel
theorem dX12_unit_1 : decode cX12_unit 1 = .ok (.getfield 169, 3) := by decide +kernel
theorem dX12_unit_4 : decode cX12_unit 4 = .ok (.bipush 41, 2) := by decide +kernel
theorem dX12_unit_6 : decode cX12_unit 6 = .ok (.bipush 47, 2) := by decide +kernel
theorem dX12_unit_8 : decode cX12_unit 8 = .ok (.invokestatic 65, 3) := by decide +kernel
theorem dX12_unit_11 : decode cX12_unit 11 = .ok (.istore_n 1, 1) := by decide +kernel
theorem dX12_unit_12 : decode cX12_unit 12 = .ok (.aload_n 0, 1) := by decide +kernel
theorem dX12_unit_13 : decode cX12_unit 13 = .ok (.getfield 169, 3) := by decide +kernel
theorem dX12_unit_16 : decode cX12_unit 16 = .ok (.iconst 2, 1) := by decide +kernel
theorem dX12_unit_17 : decode cX12_unit 17 = .ok (.if_icmp .eq 13, 3) := by decide +kernel
theorem dX12_unit_20 : decode cX12_unit 20 = .ok (.iload_n 1, 1) := by decide +kernel
theorem dX12_unit_21 : decode cX12_unit 21 = .ok (.ifCond .ne 9, 3) := by decide +kernel
theorem dX12_unit_24 : decode cX12_unit 24 = .ok (.aload_n 0, 1) := by decide +kernel
theorem dX12_unit_25 : decode cX12_unit 25 = .ok (.iconst 1, 1) := by decide +kernel
theorem dX12_unit_26 : decode cX12_unit 26 = .ok (.invokevirtual 190, 3) := by decide +kernel
theorem dX12_unit_29 : decode cX12_unit 29 = .ok (.ireturn, 1) := by decide +kernel
theorem dX12_unit_30 : decode cX12_unit 30 = .ok (.aload_n 0, 1) := by decide +kernel
theorem dX12_unit_31 : decode cX12_unit 31 = .ok (.iload_n 1, 1) := by decide +kernel
theorem dX12_unit_32 : decode cX12_unit 32 = .ok (.ifCond .eq 13, 3) := by decide +kernel
theorem dX12_unit_35 : decode cX12_unit 35 = .ok (.aload_n 0, 1) := by decide +kernel
theorem dX12_unit_36 : decode cX12_unit 36 = .ok (.getfield 169, 3) := by decide +kernel
theorem dX12_unit_39 : decode cX12_unit 39 = .ok (.bipush 40, 2) := by decide +kernel
theorem dX12_unit_41 : decode cX12_unit 41 = .ok (.isub, 1) := by decide +kernel
theorem dX12_unit_42 : decode cX12_unit 42 = .ok (.goto 4, 3) := by decide +kernel
theorem dX12_unit_45 : decode cX12_unit 45 = .ok (.iconst 0, 1) := by decide +kernel
theorem dX12_unit_46 : decode cX12_unit 46 = .ok (.aload_n 0, 1) := by decide +kernel
theorem dX12_unit_47 : decode cX12_unit 47 = .ok (.getfield 181, 3) := by decide +kernel
theorem dX12_unit_50 : decode cX12_unit 50 = .ok (.invokevirtual 206, 3) := by decide +kernel
theorem dX12_unit_53 : decode cX12_unit 53 = .ok (.aload_n 0, 1) := by decide +kernel
theorem dX12_unit_54 : decode cX12_unit 54 = .ok (.invokevirtual 193, 3) := by decide +kernel
theorem dX12_unit_57 : decode cX12_unit 57 = .ok (.iconst 1, 1) := by decide +kernel
theorem dX12_unit_58 : decode cX12_unit 58 = .ok (.ireturn, 1) := by decide +kernel
abbrev nd_X12_unit : List Nat := [100, 106, 107]
abbrev ld_X12_unit : List (Nat × Nat) := [(100, 7), (100, 8)]
theorem sn_X12_unit_X12_isIn : ∀ c ∈ nd_X12_isIn, c ∈ nd_X12_unit := by decide
theorem sl_X12_unit_X12_isIn : ∀ q ∈ ld_X12_isIn, q ∈ ld_X12_unit := by decide
theorem sn_X12_unit_X12_lay : ∀ c ∈ nd_X12_lay, c ∈ nd_X12_unit := by decide
theorem sl_X12_unit_X12_lay : ∀ q ∈ ld_X12_lay, q ∈ ld_X12_unit := by decide
theorem sn_X12_unit_X12_next0 : ∀ c ∈ nd_X12_next0, c ∈ nd_X12_unit := by decide
theorem sl_X12_unit_X12_next0 : ∀ q ∈ ld_X12_next0, q ∈ ld_X12_unit := by decide
theorem sn_X12_unit_X12_bad : ∀ c ∈ nd_X12_bad, c ∈ nd_X12_unit := by decide
theorem sl_X12_unit_X12_bad : ∀ q ∈ ld_X12_bad, q ∈ ld_X12_unit := by decide
def f_X12_unit_46  (s0 : Int32) (h : zH) : zR := (zbd (f_X12_lay s0 (h 100 17) h) fun r3 h4 => (zbd (f_X12_next0  h4) fun r5 h6 => (some ((1 : Int32), h6))))
def f_X12_unit_30  (x1 : Int32) (h : zH) : zR := (if x1 = 0 then (f_X12_unit_46  (0 : Int32) h) else (f_X12_unit_46  ((h 100 15) - (40 : Int32)) h))
def f_X12_unit  (h : zH) : zR := (zbd (f_X12_isIn (h 100 15) (41 : Int32) (47 : Int32) h) fun r1 h2 => (if (h2 100 15) = (2 : Int32) then (f_X12_unit_30  r1 h2) else (if r1 = 0 then (zbd (f_X12_bad (1 : Int32) h2) fun r7 h8 => (zbo r7 (some (r7, h8)))) else (f_X12_unit_30  r1 h2))))
variable {p : Program} {l : Launch} {e : Env} {s : State} {m : MethodId} {args : Array Value} {below : List Frame} {meth : Method} {c : Code} {G : zG} {q : Int32 × zH}
set_option maxHeartbeats 4000000 in
set_option maxRecDepth 100000 in
theorem w_X12_unit_46  (C : zC G p s m args meth c cX12_unit 2 RX12 (some .boolean)) (hm : ∀ c ∈ nd_X12_unit, c ∈ znm G) (hk : ∀ q ∈ ld_X12_unit, zlk G q.1 q.2 = true)  : ∀ (ls : Array Slot) (H : Heap) (locs : List Loc) (h : zH) (s0 : Int32), lv_has ls 2 [(0, .ref (zal G 100))] → zS G h s.heap H locs → f_X12_unit_46  s0 h = some q → W p l e (zrm (10)) s m args below meth c H locs 0 0 (MQ below (zQI G q.2 q.1) args s 0 0 (zA G)) (F0 m 46 ls [.int s0, .ref (zal G 100)]) := by
  intro ls H locs h s0 hl hS hf
  unfold f_X12_unit_46 at hf
  refine lv_aload_n C.1 C.2.1 dX12_unit_46 rfl (lv_at hl 0 rfl) ?_
  refine zgetI C hS ff_X12_181_100 (hm 100 (by decide)) dX12_unit_47 ?_
  obtain ⟨r3, h4, er3, hf⟩ := zbd_some hf
  refine zcallVV (As := [.int s0, .int (h 100 17)]) (rest := []) C hS mv_X12_206 (c_X12_lay l G h s0 (h 100 17) (r3, h4) (fun c h => hm c (sn_X12_unit_X12_lay c h)) (fun q h => hk q (sl_X12_unit_X12_lay q h)) er3) (hm 100 (by decide)) ⟨_, _, _, sh_100, rfl, rfl⟩ rfl rfl (Nat.le_of_ble_eq_true rfl) hl.1 ⟨Nat.le_of_ble_eq_true rfl, Nat.le_of_ble_eq_true rfl, Nat.le_of_ble_eq_true rfl, Nat.le_of_ble_eq_true rfl⟩ dX12_unit_50 (fun H locs hS => ?_)
  refine lv_aload_n C.1 C.2.1 dX12_unit_53 rfl (lv_at hl 0 rfl) ?_
  obtain ⟨r5, h6, er5, hf⟩ := zbd_some hf
  refine zcallVV (As := []) (rest := []) C hS mv_X12_193 (c_X12_next0 l G h4  (r5, h6) (fun c h => hm c (sn_X12_unit_X12_next0 c h)) (fun q h => hk q (sl_X12_unit_X12_next0 q h)) er5) (hm 100 (by decide)) ⟨_, _, _, sh_100, rfl, rfl⟩ rfl rfl (Nat.le_of_ble_eq_true rfl) hl.1 ⟨Nat.le_of_ble_eq_true rfl, Nat.le_of_ble_eq_true rfl, Nat.le_of_ble_eq_true rfl, Nat.le_of_ble_eq_true rfl⟩ dX12_unit_54 (fun H locs hS => ?_)
  refine lv_iconst (v := (1 : Int32)) C.1 C.2.1 dX12_unit_57 rfl ?_
  exact zretZ C hS rfl hf dX12_unit_58
set_option maxHeartbeats 4000000 in
set_option maxRecDepth 100000 in
theorem w_X12_unit_30  (C : zC G p s m args meth c cX12_unit 2 RX12 (some .boolean)) (hm : ∀ c ∈ nd_X12_unit, c ∈ znm G) (hk : ∀ q ∈ ld_X12_unit, zlk G q.1 q.2 = true)  : ∀ (ls : Array Slot) (H : Heap) (locs : List Loc) (h : zH) (x1 : Int32), lv_has ls 2 [(0, .ref (zal G 100)), (1, .int x1)] → zS G h s.heap H locs → f_X12_unit_30  x1 h = some q → W p l e (zrm (10)) s m args below meth c H locs 0 0 (MQ below (zQI G q.2 q.1) args s 0 0 (zA G)) (F0 m 30 ls []) := by
  intro ls H locs h x1 hl hS hf
  unfold f_X12_unit_30 at hf
  refine lv_aload_n C.1 C.2.1 dX12_unit_30 rfl (lv_at hl 0 rfl) ?_
  refine lv_iload_n C.1 C.2.1 dX12_unit_31 rfl (lv_at hl 1 rfl) ?_
  refine lv_if_eq (tgt := 45) C.1 C.2.1 dX12_unit_32 (by decide) (fun hc => ?_) (fun hc => ?_)
  · have hf := zif_t hc hf
    refine lv_iconst (v := (0 : Int32)) C.1 C.2.1 dX12_unit_45 rfl ?_
    exact w_X12_unit_46 C hm hk  _ _ _ _ _ (lv_sub hl [0] rfl) hS hf
  · have hf := zif_f hc hf
    refine lv_aload_n C.1 C.2.1 dX12_unit_35 rfl (lv_at hl 0 rfl) ?_
    refine zgetI C hS ff_X12_169_100 (hm 100 (by decide)) dX12_unit_36 ?_
    refine lv_bipush (v := (40 : Int32)) C.1 C.2.1 dX12_unit_39 rfl ?_
    refine lv_isub C.1 C.2.1 dX12_unit_41 ?_
    refine lv_goto (tgt := 46) C.1 C.2.1 dX12_unit_42 (by decide) ?_
    exact w_X12_unit_46 C hm hk  _ _ _ _ _ (lv_sub hl [0] rfl) hS hf
set_option maxHeartbeats 4000000 in
set_option maxRecDepth 100000 in
theorem c_X12_unit (l : Launch) (G : zG) (h : zH) (q : Int32 × zH) (hm : ∀ c ∈ nd_X12_unit, c ∈ znm G) (hk : ∀ q ∈ ld_X12_unit, zlk G q.1 q.2 = true) (hf : f_X12_unit h = some q) : zCtI l yX12_unit cX12_unit 2 (some .boolean) (10) [.ref (zal G 100)] G h q.2 q.1 := by
  refine zMetI (by decide) (Nat.le_of_ble_eq_true rfl) ?_
  intro p e s m below meth c ls C hl hS
  have hl : lv_has ls 2 [(0, .ref (zal G 100))] := hl
  have C : zC G p s m [.ref (zal G 100)].toArray meth c cX12_unit 2 RX12 (some .boolean) := C
  unfold f_X12_unit at hf
  refine lv_aload_n C.1 C.2.1 dX12_unit_0 rfl (lv_at hl 0 rfl) ?_
  refine zgetI C hS ff_X12_169_100 (hm 100 (by decide)) dX12_unit_1 ?_
  refine lv_bipush (v := (41 : Int32)) C.1 C.2.1 dX12_unit_4 rfl ?_
  refine lv_bipush (v := (47 : Int32)) C.1 C.2.1 dX12_unit_6 rfl ?_
  obtain ⟨r1, h2, er1, hf⟩ := zbd_some hf
  refine zcallSI (As := [.int (h 100 15), .int (41 : Int32), .int (47 : Int32)]) (rest := []) C hS ms_X12_65 (c_X12_isIn l G h (h 100 15) (41 : Int32) (47 : Int32) (r1, h2) (fun c h => hm c (sn_X12_unit_X12_isIn c h)) (fun q h => hk q (sl_X12_unit_X12_isIn q h)) er1) rfl rfl (Nat.le_of_ble_eq_true rfl) hl.1 ⟨Nat.le_of_ble_eq_true rfl, Nat.le_of_ble_eq_true rfl, Nat.le_of_ble_eq_true rfl, Nat.le_of_ble_eq_true rfl⟩ dX12_unit_8 (fun H locs hS => ?_)
  refine lv_istore_n (lv' := [(1, .int r1), (0, .ref (zal G 100))]) C.1 C.2.1 dX12_unit_11 rfl hl (by decide) rfl (fun ls hl => ?_)
  refine lv_aload_n C.1 C.2.1 dX12_unit_12 rfl (lv_at hl 1 rfl) ?_
  refine zgetI C hS ff_X12_169_100 (hm 100 (by decide)) dX12_unit_13 ?_
  refine lv_iconst (v := (2 : Int32)) C.1 C.2.1 dX12_unit_16 rfl ?_
  refine lv_icmp_eq (tgt := 30) C.1 C.2.1 dX12_unit_17 (by decide) (fun hc => ?_) (fun hc => ?_)
  · have hf := zif_t hc hf
    exact w_X12_unit_30 C hm hk  _ _ _ _ _ (lv_sub hl [1, 0] rfl) hS hf
  · have hf := zif_f hc hf
    refine lv_iload_n C.1 C.2.1 dX12_unit_20 rfl (lv_at hl 0 rfl) ?_
    refine lv_if_ne (tgt := 30) C.1 C.2.1 dX12_unit_21 (by decide) (fun hc => ?_) (fun hc => ?_)
    · have hf := zif_f hc hf
      exact w_X12_unit_30 C hm hk  _ _ _ _ _ (lv_sub hl [1, 0] rfl) hS hf
    · have hf := zif_t hc hf
      refine lv_aload_n C.1 C.2.1 dX12_unit_24 rfl (lv_at hl 1 rfl) ?_
      refine lv_iconst (v := (1 : Int32)) C.1 C.2.1 dX12_unit_25 rfl ?_
      obtain ⟨r7, h8, er7, hf⟩ := zbd_some hf
      refine zcallVI (As := [.int (1 : Int32)]) (rest := []) C hS mv_X12_190 (c_X12_bad l G h2 (1 : Int32) (r7, h8) (fun c h => hm c (sn_X12_unit_X12_bad c h)) (fun q h => hk q (sl_X12_unit_X12_bad q h)) er7) (hm 100 (by decide)) ⟨_, _, _, sh_100, rfl, rfl⟩ rfl rfl (Nat.le_of_ble_eq_true rfl) hl.1 ⟨Nat.le_of_ble_eq_true rfl, Nat.le_of_ble_eq_true rfl, Nat.le_of_ble_eq_true rfl, Nat.le_of_ble_eq_true rfl⟩ dX12_unit_26 (fun H locs hS => ?_)
      obtain ⟨hb, hf⟩ := zbo_some hf
      exact zretZ C hS hb hf dX12_unit_29
end
section
theorem dX12_product_0 : decode cX12_product 0 = .ok (.aload_n 0, 1) := by decide +kernel
theorem dX12_product_1 : decode cX12_product 1 = .ok (.invokevirtual 209, 3) := by decide +kernel
theorem dX12_product_4 : decode cX12_product 4 = .ok (.ifCond .ne 5, 3) := by decide +kernel
theorem dX12_product_7 : decode cX12_product 7 = .ok (.iconst 0, 1) := by decide +kernel
theorem dX12_product_8 : decode cX12_product 8 = .ok (.ireturn, 1) := by decide +kernel
theorem dX12_product_9 : decode cX12_product 9 = .ok (.aload_n 0, 1) := by decide +kernel
theorem dX12_product_10 : decode cX12_product 10 = .ok (.getfield 169, 3) := by decide +kernel
theorem dX12_product_13 : decode cX12_product 13 = .ok (.sipush 142, 3) := by decide +kernel
theorem dX12_product_16 : decode cX12_product 16 = .ok (.if_icmp .eq 13, 3) := by decide +kernel
theorem dX12_product_19 : decode cX12_product 19 = .ok (.aload_n 0, 1) := by decide +kernel
theorem dX12_product_20 : decode cX12_product 20 = .ok (.getfield 169, 3) := by decide +kernel
theorem dX12_product_23 : decode cX12_product 23 = .ok (.sipush 147, 3) := by decide +kernel
theorem dX12_product_26 : decode cX12_product 26 = .ok (.if_icmp .ne 89, 3) := by decide +kernel
theorem dX12_product_29 : decode cX12_product 29 = .ok (.aload_n 0, 1) := by decide +kernel
theorem dX12_product_30 : decode cX12_product 30 = .ok (.getfield 169, 3) := by decide +kernel
theorem dX12_product_33 : decode cX12_product 33 = .ok (.sipush 147, 3) := by decide +kernel
theorem dX12_product_36 : decode cX12_product 36 = .ok (.if_icmp .ne 7, 3) := by decide +kernel
theorem dX12_product_39 : decode cX12_product 39 = .ok (.iconst 1, 1) := by decide +kernel
theorem dX12_product_40 : decode cX12_product 40 = .ok (.goto 4, 3) := by decide +kernel
theorem dX12_product_43 : decode cX12_product 43 = .ok (.iconst 0, 1) := by decide +kernel
theorem dX12_product_44 : decode cX12_product 44 = .ok (.istore_n 1, 1) := by decide +kernel
theorem dX12_product_45 : decode cX12_product 45 = .ok (.aload_n 0, 1) := by decide +kernel
theorem dX12_product_46 : decode cX12_product 46 = .ok (.invokevirtual 193, 3) := by decide +kernel
theorem dX12_product_49 : decode cX12_product 49 = .ok (.iload_n 1, 1) := by decide +kernel
theorem dX12_product_50 : decode cX12_product 50 = .ok (.ifCond .eq 46, 3) := by decide +kernel
theorem dX12_product_53 : decode cX12_product 53 = .ok (.aload_n 0, 1) := by decide +kernel
theorem dX12_product_54 : decode cX12_product 54 = .ok (.getfield 181, 3) := by decide +kernel
theorem dX12_product_57 : decode cX12_product 57 = .ok (.istore_n 2, 1) := by decide +kernel
theorem dX12_product_58 : decode cX12_product 58 = .ok (.aload_n 0, 1) := by decide +kernel
theorem dX12_product_59 : decode cX12_product 59 = .ok (.getfield 169, 3) := by decide +kernel
theorem dX12_product_62 : decode cX12_product 62 = .ok (.iconst 2, 1) := by decide +kernel
theorem dX12_product_63 : decode cX12_product 63 = .ok (.if_icmp .eq 9, 3) := by decide +kernel
theorem dX12_product_66 : decode cX12_product 66 = .ok (.aload_n 0, 1) := by decide +kernel
theorem dX12_product_67 : decode cX12_product 67 = .ok (.iconst 1, 1) := by decide +kernel
theorem dX12_product_68 : decode cX12_product 68 = .ok (.invokevirtual 190, 3) := by decide +kernel
theorem dX12_product_71 : decode cX12_product 71 = .ok (.ireturn, 1) := by decide +kernel
theorem dX12_product_72 : decode cX12_product 72 = .ok (.iload_n 2, 1) := by decide +kernel
theorem dX12_product_73 : decode cX12_product 73 = .ok (.ifCond .ne 9, 3) := by decide +kernel
theorem dX12_product_76 : decode cX12_product 76 = .ok (.aload_n 0, 1) := by decide +kernel
theorem dX12_product_77 : decode cX12_product 77 = .ok (.iconst 2, 1) := by decide +kernel
theorem dX12_product_78 : decode cX12_product 78 = .ok (.invokevirtual 190, 3) := by decide +kernel
theorem dX12_product_81 : decode cX12_product 81 = .ok (.ireturn, 1) := by decide +kernel
theorem dX12_product_82 : decode cX12_product 82 = .ok (.aload_n 0, 1) := by decide +kernel
theorem dX12_product_83 : decode cX12_product 83 = .ok (.invokevirtual 193, 3) := by decide +kernel
theorem dX12_product_86 : decode cX12_product 86 = .ok (.aload_n 0, 1) := by decide +kernel
theorem dX12_product_87 : decode cX12_product 87 = .ok (.bipush 16, 2) := by decide +kernel
theorem dX12_product_89 : decode cX12_product 89 = .ok (.iload_n 2, 1) := by decide +kernel
theorem dX12_product_90 : decode cX12_product 90 = .ok (.invokevirtual 206, 3) := by decide +kernel
theorem dX12_product_93 : decode cX12_product 93 = .ok (.goto 19, 3) := by decide +kernel
theorem dX12_product_96 : decode cX12_product 96 = .ok (.aload_n 0, 1) := by decide +kernel
theorem dX12_product_97 : decode cX12_product 97 = .ok (.invokevirtual 209, 3) := by decide +kernel
theorem dX12_product_100 : decode cX12_product 100 = .ok (.ifCond .ne 5, 3) := by decide +kernel
theorem dX12_product_103 : decode cX12_product 103 = .ok (.iconst 0, 1) := by decide +kernel
theorem dX12_product_104 : decode cX12_product 104 = .ok (.ireturn, 1) := by decide +kernel
theorem dX12_product_105 : decode cX12_product 105 = .ok (.aload_n 0, 1) := by decide +kernel
theorem dX12_product_106 : decode cX12_product 106 = .ok (.bipush 15, 2) := by decide +kernel
theorem dX12_product_108 : decode cX12_product 108 = .ok (.iconst 0, 1) := by decide +kernel
theorem dX12_product_109 : decode cX12_product 109 = .ok (.invokevirtual 206, 3) := by decide +kernel
theorem dX12_product_112 : decode cX12_product 112 = .ok (.goto (-103), 3) := by decide +kernel
theorem dX12_product_115 : decode cX12_product 115 = .ok (.iconst 1, 1) := by decide +kernel
theorem dX12_product_116 : decode cX12_product 116 = .ok (.ireturn, 1) := by decide +kernel
abbrev nd_X12_product : List Nat := [100, 106, 107]
abbrev ld_X12_product : List (Nat × Nat) := [(100, 7), (100, 8)]
theorem sn_X12_product_X12_unit : ∀ c ∈ nd_X12_unit, c ∈ nd_X12_product := by decide
theorem sl_X12_product_X12_unit : ∀ q ∈ ld_X12_unit, q ∈ ld_X12_product := by decide
theorem sn_X12_product_X12_next0 : ∀ c ∈ nd_X12_next0, c ∈ nd_X12_product := by decide
theorem sl_X12_product_X12_next0 : ∀ q ∈ ld_X12_next0, q ∈ ld_X12_product := by decide
theorem sn_X12_product_X12_lay : ∀ c ∈ nd_X12_lay, c ∈ nd_X12_product := by decide
theorem sl_X12_product_X12_lay : ∀ q ∈ ld_X12_lay, q ∈ ld_X12_product := by decide
theorem sn_X12_product_X12_bad : ∀ c ∈ nd_X12_bad, c ∈ nd_X12_product := by decide
theorem sl_X12_product_X12_bad : ∀ q ∈ ld_X12_bad, q ∈ ld_X12_product := by decide
def f_X12_product_112 (k9 : zH → zR) (h : zH) : zR := (k9  h)
def f_X12_product_44 (k9 : zH → zR) (s0 : Int32) (h : zH) : zR := (zbd (f_X12_next0  h) fun r3 h4 => (if s0 = 0 then (zbd (f_X12_unit  h4) fun r5 h6 => (if r5 = 0 then (some ((0 : Int32), h6)) else (zbd (f_X12_lay (15 : Int32) (0 : Int32) h6) fun r7 h8 => (f_X12_product_112 k9  h8)))) else (zlt (h4 100 17) fun y9 => (if (h4 100 15) = (2 : Int32) then (if y9 = 0 then (zbd (f_X12_bad (2 : Int32) h4) fun r14 h15 => (zbo r14 (some (r14, h15)))) else (zbd (f_X12_next0  h4) fun r10 h11 => (zbd (f_X12_lay (16 : Int32) y9 h11) fun r12 h13 => (f_X12_product_112 k9  h13)))) else (zbd (f_X12_bad (1 : Int32) h4) fun r16 h17 => (zbo r16 (some (r16, h17))))))))
def f_X12_product_29 (k9 : zH → zR) (h : zH) : zR := (if (h 100 15) = (147 : Int32) then (f_X12_product_44 k9 (1 : Int32) h) else (f_X12_product_44 k9 (0 : Int32) h))
def f_X12_product_9  : Nat → zH → zR
  | 0 => fun _ => none
  | n + 1 => fun h => (if (h 100 15) = (142 : Int32) then (f_X12_product_29 (f_X12_product_9  n)  h) else (if (h 100 15) = (147 : Int32) then (f_X12_product_29 (f_X12_product_9  n)  h) else (some ((1 : Int32), h))))
def f_X12_product  (h : zH) : zR := (zbd (f_X12_unit  h) fun r1 h2 => (if r1 = 0 then (some ((0 : Int32), h2)) else (f_X12_product_9  zN  h2)))
variable {p : Program} {l : Launch} {e : Env} {s : State} {m : MethodId} {args : Array Value} {below : List Frame} {meth : Method} {c : Code} {G : zG} {q : Int32 × zH}
set_option maxHeartbeats 4000000 in
set_option maxRecDepth 100000 in
theorem w_X12_product_112 {k9 : zH → zR} (C : zC G p s m args meth c cX12_product 3 RX12 (some .boolean)) (hm : ∀ c ∈ nd_X12_product, c ∈ znm G) (hk : ∀ q ∈ ld_X12_product, zlk G q.1 q.2 = true) (hk9 : ∀ (ls : Array Slot) (H : Heap) (locs : List Loc) (h : zH), lv_has ls 3 [(0, .ref (zal G 100))] → zS G h s.heap H locs → k9 h = some q → W p l e (zrm (11)) s m args below meth c H locs 0 0 (MQ below (zQI G q.2 q.1) args s 0 0 (zA G)) (F0 m 9 ls [])) : ∀ (ls : Array Slot) (H : Heap) (locs : List Loc) (h : zH), lv_has ls 3 [(0, .ref (zal G 100))] → zS G h s.heap H locs → f_X12_product_112 k9 h = some q → W p l e (zrm (11)) s m args below meth c H locs 0 0 (MQ below (zQI G q.2 q.1) args s 0 0 (zA G)) (F0 m 112 ls []) := by
  intro ls H locs h hl hS hf
  unfold f_X12_product_112 at hf
  refine lv_goto (tgt := 9) C.1 C.2.1 dX12_product_112 (by decide) ?_
  exact hk9 _ _ _ _ (lv_sub hl [0] rfl) hS hf
set_option maxHeartbeats 4000000 in
set_option maxRecDepth 100000 in
theorem w_X12_product_44 {k9 : zH → zR} (C : zC G p s m args meth c cX12_product 3 RX12 (some .boolean)) (hm : ∀ c ∈ nd_X12_product, c ∈ znm G) (hk : ∀ q ∈ ld_X12_product, zlk G q.1 q.2 = true) (hk9 : ∀ (ls : Array Slot) (H : Heap) (locs : List Loc) (h : zH), lv_has ls 3 [(0, .ref (zal G 100))] → zS G h s.heap H locs → k9 h = some q → W p l e (zrm (11)) s m args below meth c H locs 0 0 (MQ below (zQI G q.2 q.1) args s 0 0 (zA G)) (F0 m 9 ls [])) : ∀ (ls : Array Slot) (H : Heap) (locs : List Loc) (h : zH) (s0 : Int32), lv_has ls 3 [(0, .ref (zal G 100))] → zS G h s.heap H locs → f_X12_product_44 k9 s0 h = some q → W p l e (zrm (11)) s m args below meth c H locs 0 0 (MQ below (zQI G q.2 q.1) args s 0 0 (zA G)) (F0 m 44 ls [.int s0]) := by
  intro ls H locs h s0 hl hS hf
  unfold f_X12_product_44 at hf
  refine lv_istore_n (lv' := [(1, .int s0), (0, .ref (zal G 100))]) C.1 C.2.1 dX12_product_44 rfl hl (by decide) rfl (fun ls hl => ?_)
  refine lv_aload_n C.1 C.2.1 dX12_product_45 rfl (lv_at hl 1 rfl) ?_
  obtain ⟨r3, h4, er3, hf⟩ := zbd_some hf
  refine zcallVV (As := []) (rest := []) C hS mv_X12_193 (c_X12_next0 l G h  (r3, h4) (fun c h => hm c (sn_X12_product_X12_next0 c h)) (fun q h => hk q (sl_X12_product_X12_next0 q h)) er3) (hm 100 (by decide)) ⟨_, _, _, sh_100, rfl, rfl⟩ rfl rfl (Nat.le_of_ble_eq_true rfl) hl.1 ⟨Nat.le_of_ble_eq_true rfl, Nat.le_of_ble_eq_true rfl, Nat.le_of_ble_eq_true rfl, Nat.le_of_ble_eq_true rfl⟩ dX12_product_46 (fun H locs hS => ?_)
  refine lv_iload_n C.1 C.2.1 dX12_product_49 rfl (lv_at hl 0 rfl) ?_
  refine lv_if_eq (tgt := 96) C.1 C.2.1 dX12_product_50 (by decide) (fun hc => ?_) (fun hc => ?_)
  · have hf := zif_t hc hf
    refine lv_aload_n C.1 C.2.1 dX12_product_96 rfl (lv_at hl 1 rfl) ?_
    obtain ⟨r5, h6, er5, hf⟩ := zbd_some hf
    refine zcallVI (As := []) (rest := []) C hS mv_X12_209 (c_X12_unit l G h4  (r5, h6) (fun c h => hm c (sn_X12_product_X12_unit c h)) (fun q h => hk q (sl_X12_product_X12_unit q h)) er5) (hm 100 (by decide)) ⟨_, _, _, sh_100, rfl, rfl⟩ rfl rfl (Nat.le_of_ble_eq_true rfl) hl.1 ⟨Nat.le_of_ble_eq_true rfl, Nat.le_of_ble_eq_true rfl, Nat.le_of_ble_eq_true rfl, Nat.le_of_ble_eq_true rfl⟩ dX12_product_97 (fun H locs hS => ?_)
    refine lv_if_ne (tgt := 105) C.1 C.2.1 dX12_product_100 (by decide) (fun hc => ?_) (fun hc => ?_)
    · have hf := zif_f hc hf
      refine lv_aload_n C.1 C.2.1 dX12_product_105 rfl (lv_at hl 1 rfl) ?_
      refine lv_bipush (v := (15 : Int32)) C.1 C.2.1 dX12_product_106 rfl ?_
      refine lv_iconst (v := (0 : Int32)) C.1 C.2.1 dX12_product_108 rfl ?_
      obtain ⟨r7, h8, er7, hf⟩ := zbd_some hf
      refine zcallVV (As := [.int (15 : Int32), .int (0 : Int32)]) (rest := []) C hS mv_X12_206 (c_X12_lay l G h6 (15 : Int32) (0 : Int32) (r7, h8) (fun c h => hm c (sn_X12_product_X12_lay c h)) (fun q h => hk q (sl_X12_product_X12_lay q h)) er7) (hm 100 (by decide)) ⟨_, _, _, sh_100, rfl, rfl⟩ rfl rfl (Nat.le_of_ble_eq_true rfl) hl.1 ⟨Nat.le_of_ble_eq_true rfl, Nat.le_of_ble_eq_true rfl, Nat.le_of_ble_eq_true rfl, Nat.le_of_ble_eq_true rfl⟩ dX12_product_109 (fun H locs hS => ?_)
      exact w_X12_product_112 C hm hk hk9 _ _ _ _ (lv_sub hl [1] rfl) hS hf
    · have hf := zif_t hc hf
      refine lv_iconst (v := (0 : Int32)) C.1 C.2.1 dX12_product_103 rfl ?_
      exact zretZ C hS rfl hf dX12_product_104
  · have hf := zif_f hc hf
    refine lv_aload_n C.1 C.2.1 dX12_product_53 rfl (lv_at hl 1 rfl) ?_
    refine zgetI C hS ff_X12_181_100 (hm 100 (by decide)) dX12_product_54 ?_
    obtain ⟨y9, ey9, hf⟩ := zlt_some hf
    refine ztop ey9 ?_
    refine lv_istore_n (lv' := [(2, .int y9), (1, .int s0), (0, .ref (zal G 100))]) C.1 C.2.1 dX12_product_57 rfl hl (by decide) rfl (fun ls hl => ?_)
    refine lv_aload_n C.1 C.2.1 dX12_product_58 rfl (lv_at hl 2 rfl) ?_
    refine zgetI C hS ff_X12_169_100 (hm 100 (by decide)) dX12_product_59 ?_
    refine lv_iconst (v := (2 : Int32)) C.1 C.2.1 dX12_product_62 rfl ?_
    refine lv_icmp_eq (tgt := 72) C.1 C.2.1 dX12_product_63 (by decide) (fun hc => ?_) (fun hc => ?_)
    · have hf := zif_t hc hf
      refine lv_iload_n C.1 C.2.1 dX12_product_72 rfl (lv_at hl 0 rfl) ?_
      refine lv_if_ne (tgt := 82) C.1 C.2.1 dX12_product_73 (by decide) (fun hc => ?_) (fun hc => ?_)
      · have hf := zif_f hc hf
        refine lv_aload_n C.1 C.2.1 dX12_product_82 rfl (lv_at hl 2 rfl) ?_
        obtain ⟨r10, h11, er10, hf⟩ := zbd_some hf
        refine zcallVV (As := []) (rest := []) C hS mv_X12_193 (c_X12_next0 l G h4  (r10, h11) (fun c h => hm c (sn_X12_product_X12_next0 c h)) (fun q h => hk q (sl_X12_product_X12_next0 q h)) er10) (hm 100 (by decide)) ⟨_, _, _, sh_100, rfl, rfl⟩ rfl rfl (Nat.le_of_ble_eq_true rfl) hl.1 ⟨Nat.le_of_ble_eq_true rfl, Nat.le_of_ble_eq_true rfl, Nat.le_of_ble_eq_true rfl, Nat.le_of_ble_eq_true rfl⟩ dX12_product_83 (fun H locs hS => ?_)
        refine lv_aload_n C.1 C.2.1 dX12_product_86 rfl (lv_at hl 2 rfl) ?_
        refine lv_bipush (v := (16 : Int32)) C.1 C.2.1 dX12_product_87 rfl ?_
        refine lv_iload_n C.1 C.2.1 dX12_product_89 rfl (lv_at hl 0 rfl) ?_
        obtain ⟨r12, h13, er12, hf⟩ := zbd_some hf
        refine zcallVV (As := [.int (16 : Int32), .int y9]) (rest := []) C hS mv_X12_206 (c_X12_lay l G h11 (16 : Int32) y9 (r12, h13) (fun c h => hm c (sn_X12_product_X12_lay c h)) (fun q h => hk q (sl_X12_product_X12_lay q h)) er12) (hm 100 (by decide)) ⟨_, _, _, sh_100, rfl, rfl⟩ rfl rfl (Nat.le_of_ble_eq_true rfl) hl.1 ⟨Nat.le_of_ble_eq_true rfl, Nat.le_of_ble_eq_true rfl, Nat.le_of_ble_eq_true rfl, Nat.le_of_ble_eq_true rfl⟩ dX12_product_90 (fun H locs hS => ?_)
        refine lv_goto (tgt := 112) C.1 C.2.1 dX12_product_93 (by decide) ?_
        exact w_X12_product_112 C hm hk hk9 _ _ _ _ (lv_sub hl [2] rfl) hS hf
      · have hf := zif_t hc hf
        refine lv_aload_n C.1 C.2.1 dX12_product_76 rfl (lv_at hl 2 rfl) ?_
        refine lv_iconst (v := (2 : Int32)) C.1 C.2.1 dX12_product_77 rfl ?_
        obtain ⟨r14, h15, er14, hf⟩ := zbd_some hf
        refine zcallVI (As := [.int (2 : Int32)]) (rest := []) C hS mv_X12_190 (c_X12_bad l G h4 (2 : Int32) (r14, h15) (fun c h => hm c (sn_X12_product_X12_bad c h)) (fun q h => hk q (sl_X12_product_X12_bad q h)) er14) (hm 100 (by decide)) ⟨_, _, _, sh_100, rfl, rfl⟩ rfl rfl (Nat.le_of_ble_eq_true rfl) hl.1 ⟨Nat.le_of_ble_eq_true rfl, Nat.le_of_ble_eq_true rfl, Nat.le_of_ble_eq_true rfl, Nat.le_of_ble_eq_true rfl⟩ dX12_product_78 (fun H locs hS => ?_)
        obtain ⟨hb, hf⟩ := zbo_some hf
        exact zretZ C hS hb hf dX12_product_81
    · have hf := zif_f hc hf
      refine lv_aload_n C.1 C.2.1 dX12_product_66 rfl (lv_at hl 2 rfl) ?_
      refine lv_iconst (v := (1 : Int32)) C.1 C.2.1 dX12_product_67 rfl ?_
      obtain ⟨r16, h17, er16, hf⟩ := zbd_some hf
      refine zcallVI (As := [.int (1 : Int32)]) (rest := []) C hS mv_X12_190 (c_X12_bad l G h4 (1 : Int32) (r16, h17) (fun c h => hm c (sn_X12_product_X12_bad c h)) (fun q h => hk q (sl_X12_product_X12_bad q h)) er16) (hm 100 (by decide)) ⟨_, _, _, sh_100, rfl, rfl⟩ rfl rfl (Nat.le_of_ble_eq_true rfl) hl.1 ⟨Nat.le_of_ble_eq_true rfl, Nat.le_of_ble_eq_true rfl, Nat.le_of_ble_eq_true rfl, Nat.le_of_ble_eq_true rfl⟩ dX12_product_68 (fun H locs hS => ?_)
      obtain ⟨hb, hf⟩ := zbo_some hf
      exact zretZ C hS hb hf dX12_product_71
set_option maxHeartbeats 4000000 in
set_option maxRecDepth 100000 in
theorem w_X12_product_29 {k9 : zH → zR} (C : zC G p s m args meth c cX12_product 3 RX12 (some .boolean)) (hm : ∀ c ∈ nd_X12_product, c ∈ znm G) (hk : ∀ q ∈ ld_X12_product, zlk G q.1 q.2 = true) (hk9 : ∀ (ls : Array Slot) (H : Heap) (locs : List Loc) (h : zH), lv_has ls 3 [(0, .ref (zal G 100))] → zS G h s.heap H locs → k9 h = some q → W p l e (zrm (11)) s m args below meth c H locs 0 0 (MQ below (zQI G q.2 q.1) args s 0 0 (zA G)) (F0 m 9 ls [])) : ∀ (ls : Array Slot) (H : Heap) (locs : List Loc) (h : zH), lv_has ls 3 [(0, .ref (zal G 100))] → zS G h s.heap H locs → f_X12_product_29 k9 h = some q → W p l e (zrm (11)) s m args below meth c H locs 0 0 (MQ below (zQI G q.2 q.1) args s 0 0 (zA G)) (F0 m 29 ls []) := by
  intro ls H locs h hl hS hf
  unfold f_X12_product_29 at hf
  refine lv_aload_n C.1 C.2.1 dX12_product_29 rfl (lv_at hl 0 rfl) ?_
  refine zgetI C hS ff_X12_169_100 (hm 100 (by decide)) dX12_product_30 ?_
  refine lv_sipush (v := (147 : Int32)) C.1 C.2.1 dX12_product_33 rfl ?_
  refine lv_icmp_ne (tgt := 43) C.1 C.2.1 dX12_product_36 (by decide) (fun hc => ?_) (fun hc => ?_)
  · have hf := zif_f hc hf
    refine lv_iconst (v := (0 : Int32)) C.1 C.2.1 dX12_product_43 rfl ?_
    exact w_X12_product_44 C hm hk hk9 _ _ _ _ _ (lv_sub hl [0] rfl) hS hf
  · have hf := zif_t hc hf
    refine lv_iconst (v := (1 : Int32)) C.1 C.2.1 dX12_product_39 rfl ?_
    refine lv_goto (tgt := 44) C.1 C.2.1 dX12_product_40 (by decide) ?_
    exact w_X12_product_44 C hm hk hk9 _ _ _ _ _ (lv_sub hl [0] rfl) hS hf
set_option maxHeartbeats 4000000 in
set_option maxRecDepth 100000 in
theorem w_X12_product_9  (C : zC G p s m args meth c cX12_product 3 RX12 (some .boolean)) (hm : ∀ c ∈ nd_X12_product, c ∈ znm G) (hk : ∀ q ∈ ld_X12_product, zlk G q.1 q.2 = true)  : ∀ n, ∀ (ls : Array Slot) (H : Heap) (locs : List Loc) (h : zH), lv_has ls 3 [(0, .ref (zal G 100))] → zS G h s.heap H locs → f_X12_product_9  n h = some q → W p l e (zrm (11)) s m args below meth c H locs 0 0 (MQ below (zQI G q.2 q.1) args s 0 0 (zA G)) (F0 m 9 ls []) := by
  intro n
  induction n with
  | zero => intro ls H locs h hl hS hf; cases hf
  | succ n ih =>
    intro ls H locs h hl hS hf
    rw [f_X12_product_9] at hf
    refine lv_aload_n C.1 C.2.1 dX12_product_9 rfl (lv_at hl 0 rfl) ?_
    refine zgetI C hS ff_X12_169_100 (hm 100 (by decide)) dX12_product_10 ?_
    refine lv_sipush (v := (142 : Int32)) C.1 C.2.1 dX12_product_13 rfl ?_
    refine lv_icmp_eq (tgt := 29) C.1 C.2.1 dX12_product_16 (by decide) (fun hc => ?_) (fun hc => ?_)
    · have hf := zif_t hc hf
      exact w_X12_product_29 C hm hk ih _ _ _ _ (lv_sub hl [0] rfl) hS hf
    · have hf := zif_f hc hf
      refine lv_aload_n C.1 C.2.1 dX12_product_19 rfl (lv_at hl 0 rfl) ?_
      refine zgetI C hS ff_X12_169_100 (hm 100 (by decide)) dX12_product_20 ?_
      refine lv_sipush (v := (147 : Int32)) C.1 C.2.1 dX12_product_23 rfl ?_
      refine lv_icmp_ne (tgt := 115) C.1 C.2.1 dX12_product_26 (by decide) (fun hc => ?_) (fun hc => ?_)
      · have hf := zif_f hc hf
        refine lv_iconst (v := (1 : Int32)) C.1 C.2.1 dX12_product_115 rfl ?_
        exact zretZ C hS rfl hf dX12_product_116
      · have hf := zif_t hc hf
        exact w_X12_product_29 C hm hk ih _ _ _ _ (lv_sub hl [0] rfl) hS hf
set_option maxHeartbeats 4000000 in
set_option maxRecDepth 100000 in
theorem c_X12_product (l : Launch) (G : zG) (h : zH) (q : Int32 × zH) (hm : ∀ c ∈ nd_X12_product, c ∈ znm G) (hk : ∀ q ∈ ld_X12_product, zlk G q.1 q.2 = true) (hf : f_X12_product h = some q) : zCtI l yX12_product cX12_product 3 (some .boolean) (11) [.ref (zal G 100)] G h q.2 q.1 := by
  refine zMetI (by decide) (Nat.le_of_ble_eq_true rfl) ?_
  intro p e s m below meth c ls C hl hS
  have hl : lv_has ls 3 [(0, .ref (zal G 100))] := hl
  have C : zC G p s m [.ref (zal G 100)].toArray meth c cX12_product 3 RX12 (some .boolean) := C
  unfold f_X12_product at hf
  refine lv_aload_n C.1 C.2.1 dX12_product_0 rfl (lv_at hl 0 rfl) ?_
  obtain ⟨r1, h2, er1, hf⟩ := zbd_some hf
  refine zcallVI (As := []) (rest := []) C hS mv_X12_209 (c_X12_unit l G h  (r1, h2) (fun c h => hm c (sn_X12_product_X12_unit c h)) (fun q h => hk q (sl_X12_product_X12_unit q h)) er1) (hm 100 (by decide)) ⟨_, _, _, sh_100, rfl, rfl⟩ rfl rfl (Nat.le_of_ble_eq_true rfl) hl.1 ⟨Nat.le_of_ble_eq_true rfl, Nat.le_of_ble_eq_true rfl, Nat.le_of_ble_eq_true rfl, Nat.le_of_ble_eq_true rfl⟩ dX12_product_1 (fun H locs hS => ?_)
  refine lv_if_ne (tgt := 9) C.1 C.2.1 dX12_product_4 (by decide) (fun hc => ?_) (fun hc => ?_)
  · have hf := zif_f hc hf
    exact w_X12_product_9 C hm hk  zN _ _ _ _ (lv_sub hl [0] rfl) hS hf
  · have hf := zif_t hc hf
    refine lv_iconst (v := (0 : Int32)) C.1 C.2.1 dX12_product_7 rfl ?_
    exact zretZ C hS rfl hf dX12_product_8
end
section
theorem dX12_sumUp_0 : decode cX12_sumUp 0 = .ok (.aload_n 0, 1) := by decide +kernel
theorem dX12_sumUp_1 : decode cX12_sumUp 1 = .ok (.invokevirtual 202, 3) := by decide +kernel
theorem dX12_sumUp_4 : decode cX12_sumUp 4 = .ok (.ifCond .ne 5, 3) := by decide +kernel
theorem dX12_sumUp_7 : decode cX12_sumUp 7 = .ok (.iconst 0, 1) := by decide +kernel
theorem dX12_sumUp_8 : decode cX12_sumUp 8 = .ok (.ireturn, 1) := by decide +kernel
theorem dX12_sumUp_9 : decode cX12_sumUp 9 = .ok (.aload_n 0, 1) := by decide +kernel
theorem dX12_sumUp_10 : decode cX12_sumUp 10 = .ok (.getfield 169, 3) := by decide +kernel
theorem dX12_sumUp_13 : decode cX12_sumUp 13 = .ok (.sipush 143, 3) := by decide +kernel
theorem dX12_sumUp_16 : decode cX12_sumUp 16 = .ok (.if_icmp .eq 13, 3) := by decide +kernel
theorem dX12_sumUp_19 : decode cX12_sumUp 19 = .ok (.aload_n 0, 1) := by decide +kernel
theorem dX12_sumUp_20 : decode cX12_sumUp 20 = .ok (.getfield 169, 3) := by decide +kernel
theorem dX12_sumUp_23 : decode cX12_sumUp 23 = .ok (.sipush 145, 3) := by decide +kernel
theorem dX12_sumUp_26 : decode cX12_sumUp 26 = .ok (.if_icmp .ne 43, 3) := by decide +kernel
theorem dX12_sumUp_29 : decode cX12_sumUp 29 = .ok (.aload_n 0, 1) := by decide +kernel
theorem dX12_sumUp_30 : decode cX12_sumUp 30 = .ok (.getfield 169, 3) := by decide +kernel
theorem dX12_sumUp_33 : decode cX12_sumUp 33 = .ok (.sipush 143, 3) := by decide +kernel
theorem dX12_sumUp_36 : decode cX12_sumUp 36 = .ok (.if_icmp .ne 8, 3) := by decide +kernel
theorem dX12_sumUp_39 : decode cX12_sumUp 39 = .ok (.bipush 13, 2) := by decide +kernel
theorem dX12_sumUp_41 : decode cX12_sumUp 41 = .ok (.goto 5, 3) := by decide +kernel
theorem dX12_sumUp_44 : decode cX12_sumUp 44 = .ok (.bipush 14, 2) := by decide +kernel
theorem dX12_sumUp_46 : decode cX12_sumUp 46 = .ok (.istore_n 1, 1) := by decide +kernel
theorem dX12_sumUp_47 : decode cX12_sumUp 47 = .ok (.aload_n 0, 1) := by decide +kernel
theorem dX12_sumUp_48 : decode cX12_sumUp 48 = .ok (.invokevirtual 193, 3) := by decide +kernel
theorem dX12_sumUp_51 : decode cX12_sumUp 51 = .ok (.aload_n 0, 1) := by decide +kernel
theorem dX12_sumUp_52 : decode cX12_sumUp 52 = .ok (.invokevirtual 202, 3) := by decide +kernel
theorem dX12_sumUp_55 : decode cX12_sumUp 55 = .ok (.ifCond .ne 5, 3) := by decide +kernel
theorem dX12_sumUp_58 : decode cX12_sumUp 58 = .ok (.iconst 0, 1) := by decide +kernel
theorem dX12_sumUp_59 : decode cX12_sumUp 59 = .ok (.ireturn, 1) := by decide +kernel
theorem dX12_sumUp_60 : decode cX12_sumUp 60 = .ok (.aload_n 0, 1) := by decide +kernel
theorem dX12_sumUp_61 : decode cX12_sumUp 61 = .ok (.iload_n 1, 1) := by decide +kernel
theorem dX12_sumUp_62 : decode cX12_sumUp 62 = .ok (.iconst 0, 1) := by decide +kernel
theorem dX12_sumUp_63 : decode cX12_sumUp 63 = .ok (.invokevirtual 206, 3) := by decide +kernel
theorem dX12_sumUp_66 : decode cX12_sumUp 66 = .ok (.goto (-57), 3) := by decide +kernel
theorem dX12_sumUp_69 : decode cX12_sumUp 69 = .ok (.iconst 1, 1) := by decide +kernel
theorem dX12_sumUp_70 : decode cX12_sumUp 70 = .ok (.ireturn, 1) := by decide +kernel
abbrev nd_X12_sumUp : List Nat := [100, 106, 107]
abbrev ld_X12_sumUp : List (Nat × Nat) := [(100, 7), (100, 8)]
theorem sn_X12_sumUp_X12_product : ∀ c ∈ nd_X12_product, c ∈ nd_X12_sumUp := by decide
theorem sl_X12_sumUp_X12_product : ∀ q ∈ ld_X12_product, q ∈ ld_X12_sumUp := by decide
theorem sn_X12_sumUp_X12_next0 : ∀ c ∈ nd_X12_next0, c ∈ nd_X12_sumUp := by decide
theorem sl_X12_sumUp_X12_next0 : ∀ q ∈ ld_X12_next0, q ∈ ld_X12_sumUp := by decide
theorem sn_X12_sumUp_X12_lay : ∀ c ∈ nd_X12_lay, c ∈ nd_X12_sumUp := by decide
theorem sl_X12_sumUp_X12_lay : ∀ q ∈ ld_X12_lay, q ∈ ld_X12_sumUp := by decide
def f_X12_sumUp_46 (k9 : zH → zR) (s0 : Int32) (h : zH) : zR := (zbd (f_X12_next0  h) fun r3 h4 => (zbd (f_X12_product  h4) fun r5 h6 => (if r5 = 0 then (some ((0 : Int32), h6)) else (zbd (f_X12_lay s0 (0 : Int32) h6) fun r7 h8 => (k9  h8)))))
def f_X12_sumUp_29 (k9 : zH → zR) (h : zH) : zR := (if (h 100 15) = (143 : Int32) then (f_X12_sumUp_46 k9 (13 : Int32) h) else (f_X12_sumUp_46 k9 (14 : Int32) h))
def f_X12_sumUp_9  : Nat → zH → zR
  | 0 => fun _ => none
  | n + 1 => fun h => (if (h 100 15) = (143 : Int32) then (f_X12_sumUp_29 (f_X12_sumUp_9  n)  h) else (if (h 100 15) = (145 : Int32) then (f_X12_sumUp_29 (f_X12_sumUp_9  n)  h) else (some ((1 : Int32), h))))
def f_X12_sumUp  (h : zH) : zR := (zbd (f_X12_product  h) fun r1 h2 => (if r1 = 0 then (some ((0 : Int32), h2)) else (f_X12_sumUp_9  zN  h2)))
variable {p : Program} {l : Launch} {e : Env} {s : State} {m : MethodId} {args : Array Value} {below : List Frame} {meth : Method} {c : Code} {G : zG} {q : Int32 × zH}
set_option maxHeartbeats 4000000 in
set_option maxRecDepth 100000 in
theorem w_X12_sumUp_46 {k9 : zH → zR} (C : zC G p s m args meth c cX12_sumUp 2 RX12 (some .boolean)) (hm : ∀ c ∈ nd_X12_sumUp, c ∈ znm G) (hk : ∀ q ∈ ld_X12_sumUp, zlk G q.1 q.2 = true) (hk9 : ∀ (ls : Array Slot) (H : Heap) (locs : List Loc) (h : zH), lv_has ls 2 [(0, .ref (zal G 100))] → zS G h s.heap H locs → k9 h = some q → W p l e (zrm (12)) s m args below meth c H locs 0 0 (MQ below (zQI G q.2 q.1) args s 0 0 (zA G)) (F0 m 9 ls [])) : ∀ (ls : Array Slot) (H : Heap) (locs : List Loc) (h : zH) (s0 : Int32), lv_has ls 2 [(0, .ref (zal G 100))] → zS G h s.heap H locs → f_X12_sumUp_46 k9 s0 h = some q → W p l e (zrm (12)) s m args below meth c H locs 0 0 (MQ below (zQI G q.2 q.1) args s 0 0 (zA G)) (F0 m 46 ls [.int s0]) := by
  intro ls H locs h s0 hl hS hf
  unfold f_X12_sumUp_46 at hf
  refine lv_istore_n (lv' := [(1, .int s0), (0, .ref (zal G 100))]) C.1 C.2.1 dX12_sumUp_46 rfl hl (by decide) rfl (fun ls hl => ?_)
  refine lv_aload_n C.1 C.2.1 dX12_sumUp_47 rfl (lv_at hl 1 rfl) ?_
  obtain ⟨r3, h4, er3, hf⟩ := zbd_some hf
  refine zcallVV (As := []) (rest := []) C hS mv_X12_193 (c_X12_next0 l G h  (r3, h4) (fun c h => hm c (sn_X12_sumUp_X12_next0 c h)) (fun q h => hk q (sl_X12_sumUp_X12_next0 q h)) er3) (hm 100 (by decide)) ⟨_, _, _, sh_100, rfl, rfl⟩ rfl rfl (Nat.le_of_ble_eq_true rfl) hl.1 ⟨Nat.le_of_ble_eq_true rfl, Nat.le_of_ble_eq_true rfl, Nat.le_of_ble_eq_true rfl, Nat.le_of_ble_eq_true rfl⟩ dX12_sumUp_48 (fun H locs hS => ?_)
  refine lv_aload_n C.1 C.2.1 dX12_sumUp_51 rfl (lv_at hl 1 rfl) ?_
  obtain ⟨r5, h6, er5, hf⟩ := zbd_some hf
  refine zcallVI (As := []) (rest := []) C hS mv_X12_202 (c_X12_product l G h4  (r5, h6) (fun c h => hm c (sn_X12_sumUp_X12_product c h)) (fun q h => hk q (sl_X12_sumUp_X12_product q h)) er5) (hm 100 (by decide)) ⟨_, _, _, sh_100, rfl, rfl⟩ rfl rfl (Nat.le_of_ble_eq_true rfl) hl.1 ⟨Nat.le_of_ble_eq_true rfl, Nat.le_of_ble_eq_true rfl, Nat.le_of_ble_eq_true rfl, Nat.le_of_ble_eq_true rfl⟩ dX12_sumUp_52 (fun H locs hS => ?_)
  refine lv_if_ne (tgt := 60) C.1 C.2.1 dX12_sumUp_55 (by decide) (fun hc => ?_) (fun hc => ?_)
  · have hf := zif_f hc hf
    refine lv_aload_n C.1 C.2.1 dX12_sumUp_60 rfl (lv_at hl 1 rfl) ?_
    refine lv_iload_n C.1 C.2.1 dX12_sumUp_61 rfl (lv_at hl 0 rfl) ?_
    refine lv_iconst (v := (0 : Int32)) C.1 C.2.1 dX12_sumUp_62 rfl ?_
    obtain ⟨r7, h8, er7, hf⟩ := zbd_some hf
    refine zcallVV (As := [.int s0, .int (0 : Int32)]) (rest := []) C hS mv_X12_206 (c_X12_lay l G h6 s0 (0 : Int32) (r7, h8) (fun c h => hm c (sn_X12_sumUp_X12_lay c h)) (fun q h => hk q (sl_X12_sumUp_X12_lay q h)) er7) (hm 100 (by decide)) ⟨_, _, _, sh_100, rfl, rfl⟩ rfl rfl (Nat.le_of_ble_eq_true rfl) hl.1 ⟨Nat.le_of_ble_eq_true rfl, Nat.le_of_ble_eq_true rfl, Nat.le_of_ble_eq_true rfl, Nat.le_of_ble_eq_true rfl⟩ dX12_sumUp_63 (fun H locs hS => ?_)
    refine lv_goto (tgt := 9) C.1 C.2.1 dX12_sumUp_66 (by decide) ?_
    exact hk9 _ _ _ _ (lv_sub hl [1] rfl) hS hf
  · have hf := zif_t hc hf
    refine lv_iconst (v := (0 : Int32)) C.1 C.2.1 dX12_sumUp_58 rfl ?_
    exact zretZ C hS rfl hf dX12_sumUp_59
set_option maxHeartbeats 4000000 in
set_option maxRecDepth 100000 in
theorem w_X12_sumUp_29 {k9 : zH → zR} (C : zC G p s m args meth c cX12_sumUp 2 RX12 (some .boolean)) (hm : ∀ c ∈ nd_X12_sumUp, c ∈ znm G) (hk : ∀ q ∈ ld_X12_sumUp, zlk G q.1 q.2 = true) (hk9 : ∀ (ls : Array Slot) (H : Heap) (locs : List Loc) (h : zH), lv_has ls 2 [(0, .ref (zal G 100))] → zS G h s.heap H locs → k9 h = some q → W p l e (zrm (12)) s m args below meth c H locs 0 0 (MQ below (zQI G q.2 q.1) args s 0 0 (zA G)) (F0 m 9 ls [])) : ∀ (ls : Array Slot) (H : Heap) (locs : List Loc) (h : zH), lv_has ls 2 [(0, .ref (zal G 100))] → zS G h s.heap H locs → f_X12_sumUp_29 k9 h = some q → W p l e (zrm (12)) s m args below meth c H locs 0 0 (MQ below (zQI G q.2 q.1) args s 0 0 (zA G)) (F0 m 29 ls []) := by
  intro ls H locs h hl hS hf
  unfold f_X12_sumUp_29 at hf
  refine lv_aload_n C.1 C.2.1 dX12_sumUp_29 rfl (lv_at hl 0 rfl) ?_
  refine zgetI C hS ff_X12_169_100 (hm 100 (by decide)) dX12_sumUp_30 ?_
  refine lv_sipush (v := (143 : Int32)) C.1 C.2.1 dX12_sumUp_33 rfl ?_
  refine lv_icmp_ne (tgt := 44) C.1 C.2.1 dX12_sumUp_36 (by decide) (fun hc => ?_) (fun hc => ?_)
  · have hf := zif_f hc hf
    refine lv_bipush (v := (14 : Int32)) C.1 C.2.1 dX12_sumUp_44 rfl ?_
    exact w_X12_sumUp_46 C hm hk hk9 _ _ _ _ _ (lv_sub hl [0] rfl) hS hf
  · have hf := zif_t hc hf
    refine lv_bipush (v := (13 : Int32)) C.1 C.2.1 dX12_sumUp_39 rfl ?_
    refine lv_goto (tgt := 46) C.1 C.2.1 dX12_sumUp_41 (by decide) ?_
    exact w_X12_sumUp_46 C hm hk hk9 _ _ _ _ _ (lv_sub hl [0] rfl) hS hf
set_option maxHeartbeats 4000000 in
set_option maxRecDepth 100000 in
theorem w_X12_sumUp_9  (C : zC G p s m args meth c cX12_sumUp 2 RX12 (some .boolean)) (hm : ∀ c ∈ nd_X12_sumUp, c ∈ znm G) (hk : ∀ q ∈ ld_X12_sumUp, zlk G q.1 q.2 = true)  : ∀ n, ∀ (ls : Array Slot) (H : Heap) (locs : List Loc) (h : zH), lv_has ls 2 [(0, .ref (zal G 100))] → zS G h s.heap H locs → f_X12_sumUp_9  n h = some q → W p l e (zrm (12)) s m args below meth c H locs 0 0 (MQ below (zQI G q.2 q.1) args s 0 0 (zA G)) (F0 m 9 ls []) := by
  intro n
  induction n with
  | zero => intro ls H locs h hl hS hf; cases hf
  | succ n ih =>
    intro ls H locs h hl hS hf
    rw [f_X12_sumUp_9] at hf
    refine lv_aload_n C.1 C.2.1 dX12_sumUp_9 rfl (lv_at hl 0 rfl) ?_
    refine zgetI C hS ff_X12_169_100 (hm 100 (by decide)) dX12_sumUp_10 ?_
    refine lv_sipush (v := (143 : Int32)) C.1 C.2.1 dX12_sumUp_13 rfl ?_
    refine lv_icmp_eq (tgt := 29) C.1 C.2.1 dX12_sumUp_16 (by decide) (fun hc => ?_) (fun hc => ?_)
    · have hf := zif_t hc hf
      exact w_X12_sumUp_29 C hm hk ih _ _ _ _ (lv_sub hl [0] rfl) hS hf
    · have hf := zif_f hc hf
      refine lv_aload_n C.1 C.2.1 dX12_sumUp_19 rfl (lv_at hl 0 rfl) ?_
      refine zgetI C hS ff_X12_169_100 (hm 100 (by decide)) dX12_sumUp_20 ?_
      refine lv_sipush (v := (145 : Int32)) C.1 C.2.1 dX12_sumUp_23 rfl ?_
      refine lv_icmp_ne (tgt := 69) C.1 C.2.1 dX12_sumUp_26 (by decide) (fun hc => ?_) (fun hc => ?_)
      · have hf := zif_f hc hf
        refine lv_iconst (v := (1 : Int32)) C.1 C.2.1 dX12_sumUp_69 rfl ?_
        exact zretZ C hS rfl hf dX12_sumUp_70
      · have hf := zif_t hc hf
        exact w_X12_sumUp_29 C hm hk ih _ _ _ _ (lv_sub hl [0] rfl) hS hf
set_option maxHeartbeats 4000000 in
set_option maxRecDepth 100000 in
theorem c_X12_sumUp (l : Launch) (G : zG) (h : zH) (q : Int32 × zH) (hm : ∀ c ∈ nd_X12_sumUp, c ∈ znm G) (hk : ∀ q ∈ ld_X12_sumUp, zlk G q.1 q.2 = true) (hf : f_X12_sumUp h = some q) : zCtI l yX12_sumUp cX12_sumUp 2 (some .boolean) (12) [.ref (zal G 100)] G h q.2 q.1 := by
  refine zMetI (by decide) (Nat.le_of_ble_eq_true rfl) ?_
  intro p e s m below meth c ls C hl hS
  have hl : lv_has ls 2 [(0, .ref (zal G 100))] := hl
  have C : zC G p s m [.ref (zal G 100)].toArray meth c cX12_sumUp 2 RX12 (some .boolean) := C
  unfold f_X12_sumUp at hf
  refine lv_aload_n C.1 C.2.1 dX12_sumUp_0 rfl (lv_at hl 0 rfl) ?_
  obtain ⟨r1, h2, er1, hf⟩ := zbd_some hf
  refine zcallVI (As := []) (rest := []) C hS mv_X12_202 (c_X12_product l G h  (r1, h2) (fun c h => hm c (sn_X12_sumUp_X12_product c h)) (fun q h => hk q (sl_X12_sumUp_X12_product q h)) er1) (hm 100 (by decide)) ⟨_, _, _, sh_100, rfl, rfl⟩ rfl rfl (Nat.le_of_ble_eq_true rfl) hl.1 ⟨Nat.le_of_ble_eq_true rfl, Nat.le_of_ble_eq_true rfl, Nat.le_of_ble_eq_true rfl, Nat.le_of_ble_eq_true rfl⟩ dX12_sumUp_1 (fun H locs hS => ?_)
  refine lv_if_ne (tgt := 9) C.1 C.2.1 dX12_sumUp_4 (by decide) (fun hc => ?_) (fun hc => ?_)
  · have hf := zif_f hc hf
    exact w_X12_sumUp_9 C hm hk  zN _ _ _ _ (lv_sub hl [0] rfl) hS hf
  · have hf := zif_t hc hf
    refine lv_iconst (v := (0 : Int32)) C.1 C.2.1 dX12_sumUp_7 rfl ?_
    exact zretZ C hS rfl hf dX12_sumUp_8
end
section
theorem dX12_need_0 : decode cX12_need 0 = .ok (.aload_n 0, 1) := by decide +kernel
theorem dX12_need_1 : decode cX12_need 1 = .ok (.getfield 169, 3) := by decide +kernel
theorem dX12_need_4 : decode cX12_need 4 = .ok (.iload_n 1, 1) := by decide +kernel
theorem dX12_need_5 : decode cX12_need 5 = .ok (.if_icmp .eq 9, 3) := by decide +kernel
theorem dX12_need_8 : decode cX12_need 8 = .ok (.aload_n 0, 1) := by decide +kernel
theorem dX12_need_9 : decode cX12_need 9 = .ok (.iconst 1, 1) := by decide +kernel
theorem dX12_need_10 : decode cX12_need 10 = .ok (.invokevirtual 190, 3) := by decide +kernel
theorem dX12_need_13 : decode cX12_need 13 = .ok (.ireturn, 1) := by decide +kernel
theorem dX12_need_14 : decode cX12_need 14 = .ok (.aload_n 0, 1) := by decide +kernel
theorem dX12_need_15 : decode cX12_need 15 = .ok (.invokevirtual 193, 3) := by decide +kernel
theorem dX12_need_18 : decode cX12_need 18 = .ok (.iconst 1, 1) := by decide +kernel
theorem dX12_need_19 : decode cX12_need 19 = .ok (.ireturn, 1) := by decide +kernel
abbrev nd_X12_need : List Nat := [100, 107]
abbrev ld_X12_need : List (Nat × Nat) := [(100, 8)]
theorem sn_X12_need_X12_next0 : ∀ c ∈ nd_X12_next0, c ∈ nd_X12_need := by decide
theorem sl_X12_need_X12_next0 : ∀ q ∈ ld_X12_next0, q ∈ ld_X12_need := by decide
theorem sn_X12_need_X12_bad : ∀ c ∈ nd_X12_bad, c ∈ nd_X12_need := by decide
theorem sl_X12_need_X12_bad : ∀ q ∈ ld_X12_bad, q ∈ ld_X12_need := by decide
def f_X12_need  (x1 : Int32) (h : zH) : zR := (if (h 100 15) = x1 then (zbd (f_X12_next0  h) fun r1 h2 => (some ((1 : Int32), h2))) else (zbd (f_X12_bad (1 : Int32) h) fun r3 h4 => (zbo r3 (some (r3, h4)))))
variable {p : Program} {l : Launch} {e : Env} {s : State} {m : MethodId} {args : Array Value} {below : List Frame} {meth : Method} {c : Code} {G : zG} {q : Int32 × zH}
set_option maxHeartbeats 4000000 in
set_option maxRecDepth 100000 in
theorem c_X12_need (l : Launch) (G : zG) (h : zH) (x1 : Int32) (q : Int32 × zH) (hm : ∀ c ∈ nd_X12_need, c ∈ znm G) (hk : ∀ q ∈ ld_X12_need, zlk G q.1 q.2 = true) (hf : f_X12_need x1 h = some q) : zCtI l yX12_need cX12_need 2 (some .boolean) (10) [.ref (zal G 100), .int x1] G h q.2 q.1 := by
  refine zMetI (by decide) (Nat.le_of_ble_eq_true rfl) ?_
  intro p e s m below meth c ls C hl hS
  have hl : lv_has ls 2 [(0, .ref (zal G 100)), (1, .int x1)] := hl
  have C : zC G p s m [.ref (zal G 100), .int x1].toArray meth c cX12_need 2 RX12 (some .boolean) := C
  unfold f_X12_need at hf
  refine lv_aload_n C.1 C.2.1 dX12_need_0 rfl (lv_at hl 0 rfl) ?_
  refine zgetI C hS ff_X12_169_100 (hm 100 (by decide)) dX12_need_1 ?_
  refine lv_iload_n C.1 C.2.1 dX12_need_4 rfl (lv_at hl 1 rfl) ?_
  refine lv_icmp_eq (tgt := 14) C.1 C.2.1 dX12_need_5 (by decide) (fun hc => ?_) (fun hc => ?_)
  · have hf := zif_t hc hf
    refine lv_aload_n C.1 C.2.1 dX12_need_14 rfl (lv_at hl 0 rfl) ?_
    obtain ⟨r1, h2, er1, hf⟩ := zbd_some hf
    refine zcallVV (As := []) (rest := []) C hS mv_X12_193 (c_X12_next0 l G h  (r1, h2) (fun c h => hm c (sn_X12_need_X12_next0 c h)) (fun q h => hk q (sl_X12_need_X12_next0 q h)) er1) (hm 100 (by decide)) ⟨_, _, _, sh_100, rfl, rfl⟩ rfl rfl (Nat.le_of_ble_eq_true rfl) hl.1 ⟨Nat.le_of_ble_eq_true rfl, Nat.le_of_ble_eq_true rfl, Nat.le_of_ble_eq_true rfl, Nat.le_of_ble_eq_true rfl⟩ dX12_need_15 (fun H locs hS => ?_)
    refine lv_iconst (v := (1 : Int32)) C.1 C.2.1 dX12_need_18 rfl ?_
    exact zretZ C hS rfl hf dX12_need_19
  · have hf := zif_f hc hf
    refine lv_aload_n C.1 C.2.1 dX12_need_8 rfl (lv_at hl 0 rfl) ?_
    refine lv_iconst (v := (1 : Int32)) C.1 C.2.1 dX12_need_9 rfl ?_
    obtain ⟨r3, h4, er3, hf⟩ := zbd_some hf
    refine zcallVI (As := [.int (1 : Int32)]) (rest := []) C hS mv_X12_190 (c_X12_bad l G h (1 : Int32) (r3, h4) (fun c h => hm c (sn_X12_need_X12_bad c h)) (fun q h => hk q (sl_X12_need_X12_bad q h)) er3) (hm 100 (by decide)) ⟨_, _, _, sh_100, rfl, rfl⟩ rfl rfl (Nat.le_of_ble_eq_true rfl) hl.1 ⟨Nat.le_of_ble_eq_true rfl, Nat.le_of_ble_eq_true rfl, Nat.le_of_ble_eq_true rfl, Nat.le_of_ble_eq_true rfl⟩ dX12_need_10 (fun H locs hS => ?_)
    obtain ⟨hb, hf⟩ := zbo_some hf
    exact zretZ C hS hb hf dX12_need_13
end
section
theorem dX12_every_0 : decode cX12_every 0 = .ok (.aload_n 0, 1) := by decide +kernel
theorem dX12_every_1 : decode cX12_every 1 = .ok (.invokevirtual 215, 3) := by decide +kernel
theorem dX12_every_4 : decode cX12_every 4 = .ok (.ifCond .ne 5, 3) := by decide +kernel
theorem dX12_every_7 : decode cX12_every 7 = .ok (.iconst 0, 1) := by decide +kernel
theorem dX12_every_8 : decode cX12_every 8 = .ok (.ireturn, 1) := by decide +kernel
theorem dX12_every_9 : decode cX12_every 9 = .ok (.aload_n 0, 1) := by decide +kernel
theorem dX12_every_10 : decode cX12_every 10 = .ok (.getfield 169, 3) := by decide +kernel
theorem dX12_every_13 : decode cX12_every 13 = .ok (.iconst 5, 1) := by decide +kernel
theorem dX12_every_14 : decode cX12_every 14 = .ok (.if_icmp .ne 26, 3) := by decide +kernel
theorem dX12_every_17 : decode cX12_every 17 = .ok (.aload_n 0, 1) := by decide +kernel
theorem dX12_every_18 : decode cX12_every 18 = .ok (.invokevirtual 193, 3) := by decide +kernel
theorem dX12_every_21 : decode cX12_every 21 = .ok (.aload_n 0, 1) := by decide +kernel
theorem dX12_every_22 : decode cX12_every 22 = .ok (.invokevirtual 215, 3) := by decide +kernel
theorem dX12_every_25 : decode cX12_every 25 = .ok (.ifCond .ne 5, 3) := by decide +kernel
theorem dX12_every_28 : decode cX12_every 28 = .ok (.iconst 0, 1) := by decide +kernel
theorem dX12_every_29 : decode cX12_every 29 = .ok (.ireturn, 1) := by decide +kernel
theorem dX12_every_30 : decode cX12_every 30 = .ok (.aload_n 0, 1) := by decide +kernel
theorem dX12_every_31 : decode cX12_every 31 = .ok (.bipush 21, 2) := by decide +kernel
theorem dX12_every_33 : decode cX12_every 33 = .ok (.iconst 0, 1) := by decide +kernel
theorem dX12_every_34 : decode cX12_every 34 = .ok (.invokevirtual 206, 3) := by decide +kernel
theorem dX12_every_37 : decode cX12_every 37 = .ok (.goto (-28), 3) := by decide +kernel
theorem dX12_every_40 : decode cX12_every 40 = .ok (.iconst 1, 1) := by decide +kernel
theorem dX12_every_41 : decode cX12_every 41 = .ok (.ireturn, 1) := by decide +kernel
abbrev nd_X12_every : List Nat := [100, 106, 107]
abbrev ld_X12_every : List (Nat × Nat) := [(100, 7), (100, 8)]
theorem sn_X12_every_X12_next0 : ∀ c ∈ nd_X12_next0, c ∈ nd_X12_every := by decide
theorem sl_X12_every_X12_next0 : ∀ q ∈ ld_X12_next0, q ∈ ld_X12_every := by decide
theorem sn_X12_every_X12_lay : ∀ c ∈ nd_X12_lay, c ∈ nd_X12_every := by decide
theorem sl_X12_every_X12_lay : ∀ q ∈ ld_X12_lay, q ∈ ld_X12_every := by decide
def f_X12_every_9 (F : zH → zR)  : Nat → zH → zR
  | 0 => fun _ => none
  | n + 1 => fun h => (if (h 100 15) = (5 : Int32) then (zbd (f_X12_next0  h) fun r3 h4 => (zbd (F  h4) fun r5 h6 => (if r5 = 0 then (some ((0 : Int32), h6)) else (zbd (f_X12_lay (21 : Int32) (0 : Int32) h6) fun r7 h8 => (f_X12_every_9 F  n  h8))))) else (some ((1 : Int32), h)))
def f_X12_every (F : zH → zR)  (h : zH) : zR := (zbd (F  h) fun r1 h2 => (if r1 = 0 then (some ((0 : Int32), h2)) else (f_X12_every_9 F  zN  h2)))
variable {p : Program} {l : Launch} {e : Env} {s : State} {m : MethodId} {args : Array Value} {below : List Frame} {meth : Method} {c : Code} {G : zG} {q : Int32 × zH}
set_option maxHeartbeats 4000000 in
set_option maxRecDepth 100000 in
theorem w_X12_every_9 {F : zH → zR} {nq : Nat}  (C : zC G p s m args meth c cX12_every 1 RX12 (some .boolean)) (hm : ∀ c ∈ nd_X12_every, c ∈ znm G) (hk : ∀ q ∈ ld_X12_every, zlk G q.1 q.2 = true) (hn : 12 ≤ nq) (hF : ∀ (h : zH) (q : Int32 × zH), F  h = some q → zCtI l yX12_oneTest cX12_oneTest 2 (some .boolean) nq [.ref (zal G 100)] G h q.2 q.1)  : ∀ n, ∀ (ls : Array Slot) (H : Heap) (locs : List Loc) (h : zH), lv_has ls 1 [(0, .ref (zal G 100))] → zS G h s.heap H locs → f_X12_every_9 F  n h = some q → W p l e (zrm (nq + 1)) s m args below meth c H locs 0 0 (MQ below (zQI G q.2 q.1) args s 0 0 (zA G)) (F0 m 9 ls []) := by
  intro n
  induction n with
  | zero => intro ls H locs h hl hS hf; cases hf
  | succ n ih =>
    intro ls H locs h hl hS hf
    rw [f_X12_every_9] at hf
    refine lv_aload_n C.1 C.2.1 dX12_every_9 rfl (lv_at hl 0 rfl) ?_
    refine zgetI C hS ff_X12_169_100 (hm 100 (by decide)) dX12_every_10 ?_
    refine lv_iconst (v := (5 : Int32)) C.1 C.2.1 dX12_every_13 rfl ?_
    refine lv_icmp_ne (tgt := 40) C.1 C.2.1 dX12_every_14 (by decide) (fun hc => ?_) (fun hc => ?_)
    · have hf := zif_f hc hf
      refine lv_iconst (v := (1 : Int32)) C.1 C.2.1 dX12_every_40 rfl ?_
      exact zretZ C hS rfl hf dX12_every_41
    · have hf := zif_t hc hf
      refine lv_aload_n C.1 C.2.1 dX12_every_17 rfl (lv_at hl 0 rfl) ?_
      obtain ⟨r3, h4, er3, hf⟩ := zbd_some hf
      refine zcallVV (As := []) (rest := []) C hS mv_X12_193 (c_X12_next0 l G h  (r3, h4) (fun c h => hm c (sn_X12_every_X12_next0 c h)) (fun q h => hk q (sl_X12_every_X12_next0 q h)) er3) (hm 100 (by decide)) ⟨_, _, _, sh_100, rfl, rfl⟩ rfl rfl (Nat.le_of_ble_eq_true rfl) hl.1 ⟨by show 9 + 1 ≤ nq + 1; omega, by show 60 + 60 * (9) ≤ 60 * (nq + 1); omega, Nat.le_of_ble_eq_true rfl, Nat.le_of_ble_eq_true rfl⟩ dX12_every_18 (fun H locs hS => ?_)
      refine lv_aload_n C.1 C.2.1 dX12_every_21 rfl (lv_at hl 0 rfl) ?_
      obtain ⟨r5, h6, er5, hf⟩ := zbd_some hf
      refine zcallVI (As := []) (rest := []) C hS mv_X12_215 (hF h4  (r5, h6) er5) (hm 100 (by decide)) ⟨_, _, _, sh_100, rfl, rfl⟩ rfl rfl (Nat.le_of_ble_eq_true rfl) hl.1 ⟨by show nq + 1 ≤ nq + 1; omega, by show 60 + 60 * (nq) ≤ 60 * (nq + 1); omega, Nat.le_of_ble_eq_true rfl, Nat.le_of_ble_eq_true rfl⟩ dX12_every_22 (fun H locs hS => ?_)
      refine lv_if_ne (tgt := 30) C.1 C.2.1 dX12_every_25 (by decide) (fun hc => ?_) (fun hc => ?_)
      · have hf := zif_f hc hf
        refine lv_aload_n C.1 C.2.1 dX12_every_30 rfl (lv_at hl 0 rfl) ?_
        refine lv_bipush (v := (21 : Int32)) C.1 C.2.1 dX12_every_31 rfl ?_
        refine lv_iconst (v := (0 : Int32)) C.1 C.2.1 dX12_every_33 rfl ?_
        obtain ⟨r7, h8, er7, hf⟩ := zbd_some hf
        refine zcallVV (As := [.int (21 : Int32), .int (0 : Int32)]) (rest := []) C hS mv_X12_206 (c_X12_lay l G h6 (21 : Int32) (0 : Int32) (r7, h8) (fun c h => hm c (sn_X12_every_X12_lay c h)) (fun q h => hk q (sl_X12_every_X12_lay q h)) er7) (hm 100 (by decide)) ⟨_, _, _, sh_100, rfl, rfl⟩ rfl rfl (Nat.le_of_ble_eq_true rfl) hl.1 ⟨by show 2 + 1 ≤ nq + 1; omega, by show 60 + 60 * (2) ≤ 60 * (nq + 1); omega, Nat.le_of_ble_eq_true rfl, Nat.le_of_ble_eq_true rfl⟩ dX12_every_34 (fun H locs hS => ?_)
        refine lv_goto (tgt := 9) C.1 C.2.1 dX12_every_37 (by decide) ?_
        exact ih _ _ _ _ (lv_sub hl [0] rfl) hS hf
      · have hf := zif_t hc hf
        refine lv_iconst (v := (0 : Int32)) C.1 C.2.1 dX12_every_28 rfl ?_
        exact zretZ C hS rfl hf dX12_every_29
set_option maxHeartbeats 4000000 in
set_option maxRecDepth 100000 in
theorem c_X12_every (l : Launch) (G : zG) (h : zH) (F : zH → zR) (nq : Nat) (hn : 12 ≤ nq) (hF : ∀ (h : zH) (q : Int32 × zH), F  h = some q → zCtI l yX12_oneTest cX12_oneTest 2 (some .boolean) nq [.ref (zal G 100)] G h q.2 q.1)  (q : Int32 × zH) (hm : ∀ c ∈ nd_X12_every, c ∈ znm G) (hk : ∀ q ∈ ld_X12_every, zlk G q.1 q.2 = true) (hf : f_X12_every F h = some q) : zCtI l yX12_every cX12_every 1 (some .boolean) (nq + 1) [.ref (zal G 100)] G h q.2 q.1 := by
  refine zMetI (by decide) (Nat.le_of_ble_eq_true rfl) ?_
  intro p e s m below meth c ls C hl hS
  have hl : lv_has ls 1 [(0, .ref (zal G 100))] := hl
  have C : zC G p s m [.ref (zal G 100)].toArray meth c cX12_every 1 RX12 (some .boolean) := C
  unfold f_X12_every at hf
  refine lv_aload_n C.1 C.2.1 dX12_every_0 rfl (lv_at hl 0 rfl) ?_
  obtain ⟨r1, h2, er1, hf⟩ := zbd_some hf
  refine zcallVI (As := []) (rest := []) C hS mv_X12_215 (hF h  (r1, h2) er1) (hm 100 (by decide)) ⟨_, _, _, sh_100, rfl, rfl⟩ rfl rfl (Nat.le_of_ble_eq_true rfl) hl.1 ⟨by show nq + 1 ≤ nq + 1; omega, by show 60 + 60 * (nq) ≤ 60 * (nq + 1); omega, Nat.le_of_ble_eq_true rfl, Nat.le_of_ble_eq_true rfl⟩ dX12_every_1 (fun H locs hS => ?_)
  refine lv_if_ne (tgt := 9) C.1 C.2.1 dX12_every_4 (by decide) (fun hc => ?_) (fun hc => ?_)
  · have hf := zif_f hc hf
    exact w_X12_every_9 C hm hk hn hF  zN _ _ _ _ (lv_sub hl [0] rfl) hS hf
  · have hf := zif_t hc hf
    refine lv_iconst (v := (0 : Int32)) C.1 C.2.1 dX12_every_7 rfl ?_
    exact zretZ C hS rfl hf dX12_every_8
end
section
theorem dX12_any_0 : decode cX12_any 0 = .ok (.aload_n 0, 1) := by decide +kernel
theorem dX12_any_1 : decode cX12_any 1 = .ok (.invokevirtual 212, 3) := by decide +kernel
theorem dX12_any_4 : decode cX12_any 4 = .ok (.ifCond .ne 5, 3) := by decide +kernel
theorem dX12_any_7 : decode cX12_any 7 = .ok (.iconst 0, 1) := by decide +kernel
theorem dX12_any_8 : decode cX12_any 8 = .ok (.ireturn, 1) := by decide +kernel
theorem dX12_any_9 : decode cX12_any 9 = .ok (.aload_n 0, 1) := by decide +kernel
theorem dX12_any_10 : decode cX12_any 10 = .ok (.getfield 169, 3) := by decide +kernel
theorem dX12_any_13 : decode cX12_any 13 = .ok (.iconst 4, 1) := by decide +kernel
theorem dX12_any_14 : decode cX12_any 14 = .ok (.if_icmp .ne 26, 3) := by decide +kernel
theorem dX12_any_17 : decode cX12_any 17 = .ok (.aload_n 0, 1) := by decide +kernel
theorem dX12_any_18 : decode cX12_any 18 = .ok (.invokevirtual 193, 3) := by decide +kernel
theorem dX12_any_21 : decode cX12_any 21 = .ok (.aload_n 0, 1) := by decide +kernel
theorem dX12_any_22 : decode cX12_any 22 = .ok (.invokevirtual 212, 3) := by decide +kernel
theorem dX12_any_25 : decode cX12_any 25 = .ok (.ifCond .ne 5, 3) := by decide +kernel
theorem dX12_any_28 : decode cX12_any 28 = .ok (.iconst 0, 1) := by decide +kernel
theorem dX12_any_29 : decode cX12_any 29 = .ok (.ireturn, 1) := by decide +kernel
theorem dX12_any_30 : decode cX12_any 30 = .ok (.aload_n 0, 1) := by decide +kernel
theorem dX12_any_31 : decode cX12_any 31 = .ok (.bipush 22, 2) := by decide +kernel
theorem dX12_any_33 : decode cX12_any 33 = .ok (.iconst 0, 1) := by decide +kernel
theorem dX12_any_34 : decode cX12_any 34 = .ok (.invokevirtual 206, 3) := by decide +kernel
theorem dX12_any_37 : decode cX12_any 37 = .ok (.goto (-28), 3) := by decide +kernel
theorem dX12_any_40 : decode cX12_any 40 = .ok (.iconst 1, 1) := by decide +kernel
theorem dX12_any_41 : decode cX12_any 41 = .ok (.ireturn, 1) := by decide +kernel
abbrev nd_X12_any : List Nat := [100, 106, 107]
abbrev ld_X12_any : List (Nat × Nat) := [(100, 7), (100, 8)]
theorem sn_X12_any_X12_every : ∀ c ∈ nd_X12_every, c ∈ nd_X12_any := by decide
theorem sl_X12_any_X12_every : ∀ q ∈ ld_X12_every, q ∈ ld_X12_any := by decide
theorem sn_X12_any_X12_next0 : ∀ c ∈ nd_X12_next0, c ∈ nd_X12_any := by decide
theorem sl_X12_any_X12_next0 : ∀ q ∈ ld_X12_next0, q ∈ ld_X12_any := by decide
theorem sn_X12_any_X12_lay : ∀ c ∈ nd_X12_lay, c ∈ nd_X12_any := by decide
theorem sl_X12_any_X12_lay : ∀ q ∈ ld_X12_lay, q ∈ ld_X12_any := by decide
def f_X12_any_9 (F : zH → zR)  : Nat → zH → zR
  | 0 => fun _ => none
  | n + 1 => fun h => (if (h 100 15) = (4 : Int32) then (zbd (f_X12_next0  h) fun r3 h4 => (zbd (f_X12_every F  h4) fun r5 h6 => (if r5 = 0 then (some ((0 : Int32), h6)) else (zbd (f_X12_lay (22 : Int32) (0 : Int32) h6) fun r7 h8 => (f_X12_any_9 F  n  h8))))) else (some ((1 : Int32), h)))
def f_X12_any (F : zH → zR)  (h : zH) : zR := (zbd (f_X12_every F  h) fun r1 h2 => (if r1 = 0 then (some ((0 : Int32), h2)) else (f_X12_any_9 F  zN  h2)))
variable {p : Program} {l : Launch} {e : Env} {s : State} {m : MethodId} {args : Array Value} {below : List Frame} {meth : Method} {c : Code} {G : zG} {q : Int32 × zH}
set_option maxHeartbeats 4000000 in
set_option maxRecDepth 100000 in
theorem w_X12_any_9 {F : zH → zR} {nq : Nat}  (C : zC G p s m args meth c cX12_any 1 RX12 (some .boolean)) (hm : ∀ c ∈ nd_X12_any, c ∈ znm G) (hk : ∀ q ∈ ld_X12_any, zlk G q.1 q.2 = true) (hn : 12 ≤ nq) (hF : ∀ (h : zH) (q : Int32 × zH), F  h = some q → zCtI l yX12_oneTest cX12_oneTest 2 (some .boolean) nq [.ref (zal G 100)] G h q.2 q.1)  : ∀ n, ∀ (ls : Array Slot) (H : Heap) (locs : List Loc) (h : zH), lv_has ls 1 [(0, .ref (zal G 100))] → zS G h s.heap H locs → f_X12_any_9 F  n h = some q → W p l e (zrm (nq + 2)) s m args below meth c H locs 0 0 (MQ below (zQI G q.2 q.1) args s 0 0 (zA G)) (F0 m 9 ls []) := by
  intro n
  induction n with
  | zero => intro ls H locs h hl hS hf; cases hf
  | succ n ih =>
    intro ls H locs h hl hS hf
    rw [f_X12_any_9] at hf
    refine lv_aload_n C.1 C.2.1 dX12_any_9 rfl (lv_at hl 0 rfl) ?_
    refine zgetI C hS ff_X12_169_100 (hm 100 (by decide)) dX12_any_10 ?_
    refine lv_iconst (v := (4 : Int32)) C.1 C.2.1 dX12_any_13 rfl ?_
    refine lv_icmp_ne (tgt := 40) C.1 C.2.1 dX12_any_14 (by decide) (fun hc => ?_) (fun hc => ?_)
    · have hf := zif_f hc hf
      refine lv_iconst (v := (1 : Int32)) C.1 C.2.1 dX12_any_40 rfl ?_
      exact zretZ C hS rfl hf dX12_any_41
    · have hf := zif_t hc hf
      refine lv_aload_n C.1 C.2.1 dX12_any_17 rfl (lv_at hl 0 rfl) ?_
      obtain ⟨r3, h4, er3, hf⟩ := zbd_some hf
      refine zcallVV (As := []) (rest := []) C hS mv_X12_193 (c_X12_next0 l G h  (r3, h4) (fun c h => hm c (sn_X12_any_X12_next0 c h)) (fun q h => hk q (sl_X12_any_X12_next0 q h)) er3) (hm 100 (by decide)) ⟨_, _, _, sh_100, rfl, rfl⟩ rfl rfl (Nat.le_of_ble_eq_true rfl) hl.1 ⟨by show 9 + 1 ≤ nq + 2; omega, by show 60 + 60 * (9) ≤ 60 * (nq + 2); omega, Nat.le_of_ble_eq_true rfl, Nat.le_of_ble_eq_true rfl⟩ dX12_any_18 (fun H locs hS => ?_)
      refine lv_aload_n C.1 C.2.1 dX12_any_21 rfl (lv_at hl 0 rfl) ?_
      obtain ⟨r5, h6, er5, hf⟩ := zbd_some hf
      refine zcallVI (As := []) (rest := []) C hS mv_X12_212 (c_X12_every l G h4 F nq hn hF  (r5, h6) (fun c h => hm c (sn_X12_any_X12_every c h)) (fun q h => hk q (sl_X12_any_X12_every q h)) er5) (hm 100 (by decide)) ⟨_, _, _, sh_100, rfl, rfl⟩ rfl rfl (Nat.le_of_ble_eq_true rfl) hl.1 ⟨by show nq + 1 + 1 ≤ nq + 2; omega, by show 60 + 60 * (nq + 1) ≤ 60 * (nq + 2); omega, Nat.le_of_ble_eq_true rfl, Nat.le_of_ble_eq_true rfl⟩ dX12_any_22 (fun H locs hS => ?_)
      refine lv_if_ne (tgt := 30) C.1 C.2.1 dX12_any_25 (by decide) (fun hc => ?_) (fun hc => ?_)
      · have hf := zif_f hc hf
        refine lv_aload_n C.1 C.2.1 dX12_any_30 rfl (lv_at hl 0 rfl) ?_
        refine lv_bipush (v := (22 : Int32)) C.1 C.2.1 dX12_any_31 rfl ?_
        refine lv_iconst (v := (0 : Int32)) C.1 C.2.1 dX12_any_33 rfl ?_
        obtain ⟨r7, h8, er7, hf⟩ := zbd_some hf
        refine zcallVV (As := [.int (22 : Int32), .int (0 : Int32)]) (rest := []) C hS mv_X12_206 (c_X12_lay l G h6 (22 : Int32) (0 : Int32) (r7, h8) (fun c h => hm c (sn_X12_any_X12_lay c h)) (fun q h => hk q (sl_X12_any_X12_lay q h)) er7) (hm 100 (by decide)) ⟨_, _, _, sh_100, rfl, rfl⟩ rfl rfl (Nat.le_of_ble_eq_true rfl) hl.1 ⟨by show 2 + 1 ≤ nq + 2; omega, by show 60 + 60 * (2) ≤ 60 * (nq + 2); omega, Nat.le_of_ble_eq_true rfl, Nat.le_of_ble_eq_true rfl⟩ dX12_any_34 (fun H locs hS => ?_)
        refine lv_goto (tgt := 9) C.1 C.2.1 dX12_any_37 (by decide) ?_
        exact ih _ _ _ _ (lv_sub hl [0] rfl) hS hf
      · have hf := zif_t hc hf
        refine lv_iconst (v := (0 : Int32)) C.1 C.2.1 dX12_any_28 rfl ?_
        exact zretZ C hS rfl hf dX12_any_29
set_option maxHeartbeats 4000000 in
set_option maxRecDepth 100000 in
theorem c_X12_any (l : Launch) (G : zG) (h : zH) (F : zH → zR) (nq : Nat) (hn : 12 ≤ nq) (hF : ∀ (h : zH) (q : Int32 × zH), F  h = some q → zCtI l yX12_oneTest cX12_oneTest 2 (some .boolean) nq [.ref (zal G 100)] G h q.2 q.1)  (q : Int32 × zH) (hm : ∀ c ∈ nd_X12_any, c ∈ znm G) (hk : ∀ q ∈ ld_X12_any, zlk G q.1 q.2 = true) (hf : f_X12_any F h = some q) : zCtI l yX12_any cX12_any 1 (some .boolean) (nq + 2) [.ref (zal G 100)] G h q.2 q.1 := by
  refine zMetI (by decide) (Nat.le_of_ble_eq_true rfl) ?_
  intro p e s m below meth c ls C hl hS
  have hl : lv_has ls 1 [(0, .ref (zal G 100))] := hl
  have C : zC G p s m [.ref (zal G 100)].toArray meth c cX12_any 1 RX12 (some .boolean) := C
  unfold f_X12_any at hf
  refine lv_aload_n C.1 C.2.1 dX12_any_0 rfl (lv_at hl 0 rfl) ?_
  obtain ⟨r1, h2, er1, hf⟩ := zbd_some hf
  refine zcallVI (As := []) (rest := []) C hS mv_X12_212 (c_X12_every l G h F nq hn hF  (r1, h2) (fun c h => hm c (sn_X12_any_X12_every c h)) (fun q h => hk q (sl_X12_any_X12_every q h)) er1) (hm 100 (by decide)) ⟨_, _, _, sh_100, rfl, rfl⟩ rfl rfl (Nat.le_of_ble_eq_true rfl) hl.1 ⟨by show nq + 1 + 1 ≤ nq + 2; omega, by show 60 + 60 * (nq + 1) ≤ 60 * (nq + 2); omega, Nat.le_of_ble_eq_true rfl, Nat.le_of_ble_eq_true rfl⟩ dX12_any_1 (fun H locs hS => ?_)
  refine lv_if_ne (tgt := 9) C.1 C.2.1 dX12_any_4 (by decide) (fun hc => ?_) (fun hc => ?_)
  · have hf := zif_f hc hf
    exact w_X12_any_9 C hm hk hn hF  zN _ _ _ _ (lv_sub hl [0] rfl) hS hf
  · have hf := zif_t hc hf
    refine lv_iconst (v := (0 : Int32)) C.1 C.2.1 dX12_any_7 rfl ?_
    exact zretZ C hS rfl hf dX12_any_8
end
section
theorem dX12_opens_0 : decode cX12_opens 0 = .ok (.aload_n 0, 1) := by decide +kernel
theorem dX12_opens_1 : decode cX12_opens 1 = .ok (.getfield 199, 3) := by decide +kernel
theorem dX12_opens_4 : decode cX12_opens 4 = .ok (.bipush 8, 2) := by decide +kernel
theorem dX12_opens_6 : decode cX12_opens 6 = .ok (.if_icmp .ne 9, 3) := by decide +kernel
theorem dX12_opens_9 : decode cX12_opens 9 = .ok (.aload_n 0, 1) := by decide +kernel
theorem dX12_opens_10 : decode cX12_opens 10 = .ok (.iconst 3, 1) := by decide +kernel
theorem dX12_opens_11 : decode cX12_opens 11 = .ok (.invokevirtual 190, 3) := by decide +kernel
theorem dX12_opens_14 : decode cX12_opens 14 = .ok (.ireturn, 1) := by decide +kernel
theorem dX12_opens_15 : decode cX12_opens 15 = .ok (.aload_n 0, 1) := by decide +kernel
theorem dX12_opens_16 : decode cX12_opens 16 = .ok (.dup, 1) := by decide +kernel
theorem dX12_opens_17 : decode cX12_opens 17 = .ok (.getfield 199, 3) := by decide +kernel
theorem dX12_opens_20 : decode cX12_opens 20 = .ok (.iconst 1, 1) := by decide +kernel
theorem dX12_opens_21 : decode cX12_opens 21 = .ok (.iadd, 1) := by decide +kernel
theorem dX12_opens_22 : decode cX12_opens 22 = .ok (.putfield 199, 3) := by decide +kernel
theorem dX12_opens_25 : decode cX12_opens 25 = .ok (.aload_n 0, 1) := by decide +kernel
theorem dX12_opens_26 : decode cX12_opens 26 = .ok (.invokevirtual 193, 3) := by decide +kernel
theorem dX12_opens_29 : decode cX12_opens 29 = .ok (.iconst 1, 1) := by decide +kernel
theorem dX12_opens_30 : decode cX12_opens 30 = .ok (.ireturn, 1) := by decide +kernel
abbrev nd_X12_opens : List Nat := [100, 107]
abbrev ld_X12_opens : List (Nat × Nat) := [(100, 8)]
theorem sn_X12_opens_X12_next0 : ∀ c ∈ nd_X12_next0, c ∈ nd_X12_opens := by decide
theorem sl_X12_opens_X12_next0 : ∀ q ∈ ld_X12_next0, q ∈ ld_X12_opens := by decide
theorem sn_X12_opens_X12_bad : ∀ c ∈ nd_X12_bad, c ∈ nd_X12_opens := by decide
theorem sl_X12_opens_X12_bad : ∀ q ∈ ld_X12_bad, q ∈ ld_X12_opens := by decide
def f_X12_opens  (h : zH) : zR := (if (h 100 21) = (8 : Int32) then (zbd (f_X12_bad (3 : Int32) h) fun r4 h5 => (zbo r4 (some (r4, h5)))) else (zst (zup h 100 21 ((h 100 21) + (1 : Int32))) fun h1 => (zbd (f_X12_next0  h1) fun r2 h3 => (some ((1 : Int32), h3)))))
variable {p : Program} {l : Launch} {e : Env} {s : State} {m : MethodId} {args : Array Value} {below : List Frame} {meth : Method} {c : Code} {G : zG} {q : Int32 × zH}
set_option maxHeartbeats 4000000 in
set_option maxRecDepth 100000 in
theorem c_X12_opens (l : Launch) (G : zG) (h : zH) (q : Int32 × zH) (hm : ∀ c ∈ nd_X12_opens, c ∈ znm G) (hk : ∀ q ∈ ld_X12_opens, zlk G q.1 q.2 = true) (hf : f_X12_opens h = some q) : zCtI l yX12_opens cX12_opens 1 (some .boolean) (10) [.ref (zal G 100)] G h q.2 q.1 := by
  refine zMetI (by decide) (Nat.le_of_ble_eq_true rfl) ?_
  intro p e s m below meth c ls C hl hS
  have hl : lv_has ls 1 [(0, .ref (zal G 100))] := hl
  have C : zC G p s m [.ref (zal G 100)].toArray meth c cX12_opens 1 RX12 (some .boolean) := C
  unfold f_X12_opens at hf
  refine lv_aload_n C.1 C.2.1 dX12_opens_0 rfl (lv_at hl 0 rfl) ?_
  refine zgetI C hS ff_X12_199_100 (hm 100 (by decide)) dX12_opens_1 ?_
  refine lv_bipush (v := (8 : Int32)) C.1 C.2.1 dX12_opens_4 rfl ?_
  refine lv_icmp_ne (tgt := 15) C.1 C.2.1 dX12_opens_6 (by decide) (fun hc => ?_) (fun hc => ?_)
  · have hf := zif_f hc hf
    refine lv_aload_n C.1 C.2.1 dX12_opens_15 rfl (lv_at hl 0 rfl) ?_
    refine lv_dup C.1 C.2.1 dX12_opens_16 rfl ?_
    refine zgetI C hS ff_X12_199_100 (hm 100 (by decide)) dX12_opens_17 ?_
    refine lv_iconst (v := (1 : Int32)) C.1 C.2.1 dX12_opens_20 rfl ?_
    refine lv_iadd C.1 C.2.1 dX12_opens_21 ?_
    refine zputI C hS ff_X12_199_100 fw_100_21 (hm 100 (by decide)) dX12_opens_22 (fun H locs hS => ?_)
    obtain ⟨h1, eh1, hf⟩ := zst_some hf
    have hS : zS G h1 s.heap H locs := by rw [eh1]; exact hS
    refine lv_aload_n C.1 C.2.1 dX12_opens_25 rfl (lv_at hl 0 rfl) ?_
    obtain ⟨r2, h3, er2, hf⟩ := zbd_some hf
    refine zcallVV (As := []) (rest := []) C hS mv_X12_193 (c_X12_next0 l G h1  (r2, h3) (fun c h => hm c (sn_X12_opens_X12_next0 c h)) (fun q h => hk q (sl_X12_opens_X12_next0 q h)) er2) (hm 100 (by decide)) ⟨_, _, _, sh_100, rfl, rfl⟩ rfl rfl (Nat.le_of_ble_eq_true rfl) hl.1 ⟨Nat.le_of_ble_eq_true rfl, Nat.le_of_ble_eq_true rfl, Nat.le_of_ble_eq_true rfl, Nat.le_of_ble_eq_true rfl⟩ dX12_opens_26 (fun H locs hS => ?_)
    refine lv_iconst (v := (1 : Int32)) C.1 C.2.1 dX12_opens_29 rfl ?_
    exact zretZ C hS rfl hf dX12_opens_30
  · have hf := zif_t hc hf
    refine lv_aload_n C.1 C.2.1 dX12_opens_9 rfl (lv_at hl 0 rfl) ?_
    refine lv_iconst (v := (3 : Int32)) C.1 C.2.1 dX12_opens_10 rfl ?_
    obtain ⟨r4, h5, er4, hf⟩ := zbd_some hf
    refine zcallVI (As := [.int (3 : Int32)]) (rest := []) C hS mv_X12_190 (c_X12_bad l G h (3 : Int32) (r4, h5) (fun c h => hm c (sn_X12_opens_X12_bad c h)) (fun q h => hk q (sl_X12_opens_X12_bad q h)) er4) (hm 100 (by decide)) ⟨_, _, _, sh_100, rfl, rfl⟩ rfl rfl (Nat.le_of_ble_eq_true rfl) hl.1 ⟨Nat.le_of_ble_eq_true rfl, Nat.le_of_ble_eq_true rfl, Nat.le_of_ble_eq_true rfl, Nat.le_of_ble_eq_true rfl⟩ dX12_opens_11 (fun H locs hS => ?_)
    obtain ⟨hb, hf⟩ := zbo_some hf
    exact zretZ C hS hb hf dX12_opens_14
end
section
theorem dX12_oneTest_0 : decode cX12_oneTest 0 = .ok (.aload_n 0, 1) := by decide +kernel
theorem dX12_oneTest_1 : decode cX12_oneTest 1 = .ok (.getfield 169, 3) := by decide +kernel
theorem dX12_oneTest_4 : decode cX12_oneTest 4 = .ok (.bipush 6, 2) := by decide +kernel
theorem dX12_oneTest_6 : decode cX12_oneTest 6 = .ok (.if_icmp .ne 38, 3) := by decide +kernel
theorem dX12_oneTest_9 : decode cX12_oneTest 9 = .ok (.aload_n 0, 1) := by decide +kernel
theorem dX12_oneTest_10 : decode cX12_oneTest 10 = .ok (.invokevirtual 218, 3) := by decide +kernel
theorem dX12_oneTest_13 : decode cX12_oneTest 13 = .ok (.ifCond .eq 10, 3) := by decide +kernel
theorem dX12_oneTest_16 : decode cX12_oneTest 16 = .ok (.aload_n 0, 1) := by decide +kernel
theorem dX12_oneTest_17 : decode cX12_oneTest 17 = .ok (.invokevirtual 215, 3) := by decide +kernel
theorem dX12_oneTest_20 : decode cX12_oneTest 20 = .ok (.ifCond .ne 5, 3) := by decide +kernel
theorem dX12_oneTest_23 : decode cX12_oneTest 23 = .ok (.iconst 0, 1) := by decide +kernel
theorem dX12_oneTest_24 : decode cX12_oneTest 24 = .ok (.ireturn, 1) := by decide +kernel
theorem dX12_oneTest_25 : decode cX12_oneTest 25 = .ok (.aload_n 0, 1) := by decide +kernel
theorem dX12_oneTest_26 : decode cX12_oneTest 26 = .ok (.dup, 1) := by decide +kernel
theorem dX12_oneTest_27 : decode cX12_oneTest 27 = .ok (.getfield 199, 3) := by decide +kernel
theorem dX12_oneTest_30 : decode cX12_oneTest 30 = .ok (.iconst 1, 1) := by decide +kernel
theorem dX12_oneTest_31 : decode cX12_oneTest 31 = .ok (.isub, 1) := by decide +kernel
theorem dX12_oneTest_32 : decode cX12_oneTest 32 = .ok (.putfield 199, 3) := by decide +kernel
theorem dX12_oneTest_35 : decode cX12_oneTest 35 = .ok (.aload_n 0, 1) := by decide +kernel
theorem dX12_oneTest_36 : decode cX12_oneTest 36 = .ok (.bipush 20, 2) := by decide +kernel
theorem dX12_oneTest_38 : decode cX12_oneTest 38 = .ok (.iconst 0, 1) := by decide +kernel
theorem dX12_oneTest_39 : decode cX12_oneTest 39 = .ok (.invokevirtual 206, 3) := by decide +kernel
theorem dX12_oneTest_42 : decode cX12_oneTest 42 = .ok (.iconst 1, 1) := by decide +kernel
theorem dX12_oneTest_43 : decode cX12_oneTest 43 = .ok (.ireturn, 1) := by decide +kernel
theorem dX12_oneTest_44 : decode cX12_oneTest 44 = .ok (.aload_n 0, 1) := by decide +kernel
theorem dX12_oneTest_45 : decode cX12_oneTest 45 = .ok (.getfield 169, 3) := by decide +kernel
theorem dX12_oneTest_48 : decode cX12_oneTest 48 = .ok (.sipush 140, 3) := by decide +kernel
theorem dX12_oneTest_51 : decode cX12_oneTest 51 = .ok (.if_icmp .ne 41, 3) := by decide +kernel
theorem dX12_oneTest_54 : decode cX12_oneTest 54 = .ok (.aload_n 0, 1) := by decide +kernel
theorem dX12_oneTest_55 : decode cX12_oneTest 55 = .ok (.invokevirtual 218, 3) := by decide +kernel
theorem dX12_oneTest_58 : decode cX12_oneTest 58 = .ok (.ifCond .eq 20, 3) := by decide +kernel
theorem dX12_oneTest_61 : decode cX12_oneTest 61 = .ok (.aload_n 0, 1) := by decide +kernel
theorem dX12_oneTest_62 : decode cX12_oneTest 62 = .ok (.invokevirtual 221, 3) := by decide +kernel
theorem dX12_oneTest_65 : decode cX12_oneTest 65 = .ok (.ifCond .eq 13, 3) := by decide +kernel
theorem dX12_oneTest_68 : decode cX12_oneTest 68 = .ok (.aload_n 0, 1) := by decide +kernel
theorem dX12_oneTest_69 : decode cX12_oneTest 69 = .ok (.sipush 141, 3) := by decide +kernel
theorem dX12_oneTest_72 : decode cX12_oneTest 72 = .ok (.invokevirtual 224, 3) := by decide +kernel
theorem dX12_oneTest_75 : decode cX12_oneTest 75 = .ok (.ifCond .ne 5, 3) := by decide +kernel
theorem dX12_oneTest_78 : decode cX12_oneTest 78 = .ok (.iconst 0, 1) := by decide +kernel
theorem dX12_oneTest_79 : decode cX12_oneTest 79 = .ok (.ireturn, 1) := by decide +kernel
theorem dX12_oneTest_80 : decode cX12_oneTest 80 = .ok (.aload_n 0, 1) := by decide +kernel
theorem dX12_oneTest_81 : decode cX12_oneTest 81 = .ok (.dup, 1) := by decide +kernel
theorem dX12_oneTest_82 : decode cX12_oneTest 82 = .ok (.getfield 199, 3) := by decide +kernel
theorem dX12_oneTest_85 : decode cX12_oneTest 85 = .ok (.iconst 1, 1) := by decide +kernel
theorem dX12_oneTest_86 : decode cX12_oneTest 86 = .ok (.isub, 1) := by decide +kernel
theorem dX12_oneTest_87 : decode cX12_oneTest 87 = .ok (.putfield 199, 3) := by decide +kernel
theorem dX12_oneTest_90 : decode cX12_oneTest 90 = .ok (.iconst 1, 1) := by decide +kernel
theorem dX12_oneTest_91 : decode cX12_oneTest 91 = .ok (.ireturn, 1) := by decide +kernel
theorem dX12_oneTest_92 : decode cX12_oneTest 92 = .ok (.aload_n 0, 1) := by decide +kernel
theorem dX12_oneTest_93 : decode cX12_oneTest 93 = .ok (.invokevirtual 227, 3) := by decide +kernel
theorem dX12_oneTest_96 : decode cX12_oneTest 96 = .ok (.ifCond .ne 5, 3) := by decide +kernel
theorem dX12_oneTest_99 : decode cX12_oneTest 99 = .ok (.iconst 0, 1) := by decide +kernel
theorem dX12_oneTest_100 : decode cX12_oneTest 100 = .ok (.ireturn, 1) := by decide +kernel
theorem dX12_oneTest_101 : decode cX12_oneTest 101 = .ok (.aload_n 0, 1) := by decide +kernel
theorem dX12_oneTest_102 : decode cX12_oneTest 102 = .ok (.getfield 169, 3) := by decide +kernel
theorem dX12_oneTest_105 : decode cX12_oneTest 105 = .ok (.sipush 160, 3) := by decide +kernel
theorem dX12_oneTest_108 : decode cX12_oneTest 108 = .ok (.if_icmp .ne 8, 3) := by decide +kernel
theorem dX12_oneTest_111 : decode cX12_oneTest 111 = .ok (.bipush 17, 2) := by decide +kernel
theorem dX12_oneTest_113 : decode cX12_oneTest 113 = .ok (.goto 34, 3) := by decide +kernel
theorem dX12_oneTest_116 : decode cX12_oneTest 116 = .ok (.aload_n 0, 1) := by decide +kernel
theorem dX12_oneTest_117 : decode cX12_oneTest 117 = .ok (.getfield 169, 3) := by decide +kernel
theorem dX12_oneTest_120 : decode cX12_oneTest 120 = .ok (.sipush 161, 3) := by decide +kernel
theorem dX12_oneTest_123 : decode cX12_oneTest 123 = .ok (.if_icmp .ne 8, 3) := by decide +kernel
theorem dX12_oneTest_126 : decode cX12_oneTest 126 = .ok (.bipush 18, 2) := by decide +kernel
theorem dX12_oneTest_128 : decode cX12_oneTest 128 = .ok (.goto 19, 3) := by decide +kernel
theorem dX12_oneTest_131 : decode cX12_oneTest 131 = .ok (.aload_n 0, 1) := by decide +kernel
theorem dX12_oneTest_132 : decode cX12_oneTest 132 = .ok (.getfield 169, 3) := by decide +kernel
theorem dX12_oneTest_135 : decode cX12_oneTest 135 = .ok (.sipush 162, 3) := by decide +kernel
theorem dX12_oneTest_138 : decode cX12_oneTest 138 = .ok (.if_icmp .ne 8, 3) := by decide +kernel
theorem dX12_oneTest_141 : decode cX12_oneTest 141 = .ok (.bipush 19, 2) := by decide +kernel
theorem dX12_oneTest_143 : decode cX12_oneTest 143 = .ok (.goto 4, 3) := by decide +kernel
theorem dX12_oneTest_146 : decode cX12_oneTest 146 = .ok (.iconst (-1), 1) := by decide +kernel
theorem dX12_oneTest_147 : decode cX12_oneTest 147 = .ok (.istore_n 1, 1) := by decide +kernel
theorem dX12_oneTest_148 : decode cX12_oneTest 148 = .ok (.iload_n 1, 1) := by decide +kernel
theorem dX12_oneTest_149 : decode cX12_oneTest 149 = .ok (.iconst (-1), 1) := by decide +kernel
theorem dX12_oneTest_150 : decode cX12_oneTest 150 = .ok (.if_icmp .ne 9, 3) := by decide +kernel
theorem dX12_oneTest_153 : decode cX12_oneTest 153 = .ok (.aload_n 0, 1) := by decide +kernel
theorem dX12_oneTest_154 : decode cX12_oneTest 154 = .ok (.iconst 1, 1) := by decide +kernel
theorem dX12_oneTest_155 : decode cX12_oneTest 155 = .ok (.invokevirtual 190, 3) := by decide +kernel
theorem dX12_oneTest_158 : decode cX12_oneTest 158 = .ok (.ireturn, 1) := by decide +kernel
theorem dX12_oneTest_159 : decode cX12_oneTest 159 = .ok (.aload_n 0, 1) := by decide +kernel
theorem dX12_oneTest_160 : decode cX12_oneTest 160 = .ok (.invokevirtual 193, 3) := by decide +kernel
theorem dX12_oneTest_163 : decode cX12_oneTest 163 = .ok (.aload_n 0, 1) := by decide +kernel
theorem dX12_oneTest_164 : decode cX12_oneTest 164 = .ok (.invokevirtual 227, 3) := by decide +kernel
theorem dX12_oneTest_167 : decode cX12_oneTest 167 = .ok (.ifCond .ne 5, 3) := by decide +kernel
theorem dX12_oneTest_170 : decode cX12_oneTest 170 = .ok (.iconst 0, 1) := by decide +kernel
theorem dX12_oneTest_171 : decode cX12_oneTest 171 = .ok (.ireturn, 1) := by decide +kernel
theorem dX12_oneTest_172 : decode cX12_oneTest 172 = .ok (.aload_n 0, 1) := by decide +kernel
theorem dX12_oneTest_173 : decode cX12_oneTest 173 = .ok (.iload_n 1, 1) := by decide +kernel
theorem dX12_oneTest_174 : decode cX12_oneTest 174 = .ok (.iconst 0, 1) := by decide +kernel
theorem dX12_oneTest_175 : decode cX12_oneTest 175 = .ok (.invokevirtual 206, 3) := by decide +kernel
theorem dX12_oneTest_178 : decode cX12_oneTest 178 = .ok (.iconst 1, 1) := by decide +kernel
theorem dX12_oneTest_179 : decode cX12_oneTest 179 = .ok (.ireturn, 1) := by decide +kernel
abbrev nd_X12_oneTest_b : List Nat := [100, 106, 107]
abbrev ld_X12_oneTest_b : List (Nat × Nat) := [(100, 7), (100, 8)]
theorem sn_X12_oneTest_b_X12_sumUp : ∀ c ∈ nd_X12_sumUp, c ∈ nd_X12_oneTest_b := by decide
theorem sl_X12_oneTest_b_X12_sumUp : ∀ q ∈ ld_X12_sumUp, q ∈ ld_X12_oneTest_b := by decide
theorem sn_X12_oneTest_b_X12_next0 : ∀ c ∈ nd_X12_next0, c ∈ nd_X12_oneTest_b := by decide
theorem sl_X12_oneTest_b_X12_next0 : ∀ q ∈ ld_X12_next0, q ∈ ld_X12_oneTest_b := by decide
theorem sn_X12_oneTest_b_X12_lay : ∀ c ∈ nd_X12_lay, c ∈ nd_X12_oneTest_b := by decide
theorem sl_X12_oneTest_b_X12_lay : ∀ q ∈ ld_X12_lay, q ∈ ld_X12_oneTest_b := by decide
theorem sn_X12_oneTest_b_X12_bad : ∀ c ∈ nd_X12_bad, c ∈ nd_X12_oneTest_b := by decide
theorem sl_X12_oneTest_b_X12_bad : ∀ q ∈ ld_X12_bad, q ∈ ld_X12_oneTest_b := by decide
theorem sn_X12_oneTest_b_X12_opens : ∀ c ∈ nd_X12_opens, c ∈ nd_X12_oneTest_b := by decide
theorem sl_X12_oneTest_b_X12_opens : ∀ q ∈ ld_X12_opens, q ∈ ld_X12_oneTest_b := by decide
theorem sn_X12_oneTest_b_X12_any : ∀ c ∈ nd_X12_any, c ∈ nd_X12_oneTest_b := by decide
theorem sl_X12_oneTest_b_X12_any : ∀ q ∈ ld_X12_any, q ∈ ld_X12_oneTest_b := by decide
theorem sn_X12_oneTest_b_X12_need : ∀ c ∈ nd_X12_need, c ∈ nd_X12_oneTest_b := by decide
theorem sl_X12_oneTest_b_X12_need : ∀ q ∈ ld_X12_need, q ∈ ld_X12_oneTest_b := by decide
def f_X12_oneTest_b_147 (F : zH → zR)  (s0 : Int32) (h : zH) : zR := (if s0 = (-1 : Int32) then (zbd (f_X12_bad (1 : Int32) h) fun r9 h10 => (zbo r9 (some (r9, h10)))) else (zbd (f_X12_next0  h) fun r3 h4 => (zbd (f_X12_sumUp  h4) fun r5 h6 => (if r5 = 0 then (some ((0 : Int32), h6)) else (zbd (f_X12_lay s0 (0 : Int32) h6) fun r7 h8 => (some ((1 : Int32), h8)))))))
def f_X12_oneTest_b_78 (F : zH → zR)  (h : zH) : zR := (some ((0 : Int32), h))
def f_X12_oneTest_b_23 (F : zH → zR)  (h : zH) : zR := (some ((0 : Int32), h))
def f_X12_oneTest_b (F : zH → zR)  (h : zH) : zR := (if (h 100 15) = (6 : Int32) then (zbd (f_X12_opens  h) fun r18 h19 => (if r18 = 0 then (f_X12_oneTest_b_23 F   h19) else (zbd (F  h19) fun r20 h21 => (if r20 = 0 then (f_X12_oneTest_b_23 F   h21) else (zst (zup h21 100 21 ((h21 100 21) - (1 : Int32))) fun h22 => (zbd (f_X12_lay (20 : Int32) (0 : Int32) h22) fun r23 h24 => (some ((1 : Int32), h24)))))))) else (if (h 100 15) = (140 : Int32) then (zbd (f_X12_opens  h) fun r11 h12 => (if r11 = 0 then (f_X12_oneTest_b_78 F   h12) else (zbd (f_X12_any F  h12) fun r13 h14 => (if r13 = 0 then (f_X12_oneTest_b_78 F   h14) else (zbd (f_X12_need (141 : Int32) h14) fun r15 h16 => (if r15 = 0 then (f_X12_oneTest_b_78 F   h16) else (zst (zup h16 100 21 ((h16 100 21) - (1 : Int32))) fun h17 => (some ((1 : Int32), h17))))))))) else (zbd (f_X12_sumUp  h) fun r1 h2 => (if r1 = 0 then (some ((0 : Int32), h2)) else (if (h2 100 15) = (160 : Int32) then (f_X12_oneTest_b_147 F  (17 : Int32) h2) else (if (h2 100 15) = (161 : Int32) then (f_X12_oneTest_b_147 F  (18 : Int32) h2) else (if (h2 100 15) = (162 : Int32) then (f_X12_oneTest_b_147 F  (19 : Int32) h2) else (f_X12_oneTest_b_147 F  (-1 : Int32) h2))))))))
variable {p : Program} {l : Launch} {e : Env} {s : State} {m : MethodId} {args : Array Value} {below : List Frame} {meth : Method} {c : Code} {G : zG} {q : Int32 × zH}
set_option maxHeartbeats 4000000 in
set_option maxRecDepth 100000 in
theorem w_X12_oneTest_b_147 {F : zH → zR} {nq : Nat}  (C : zC G p s m args meth c cX12_oneTest 2 RX12 (some .boolean)) (hm : ∀ c ∈ nd_X12_oneTest_b, c ∈ znm G) (hk : ∀ q ∈ ld_X12_oneTest_b, zlk G q.1 q.2 = true) (hn : 12 ≤ nq) (hF : ∀ (h : zH) (q : Int32 × zH), F  h = some q → zCtI l yX12_oneTest cX12_oneTest 2 (some .boolean) nq [.ref (zal G 100)] G h q.2 q.1)  : ∀ (ls : Array Slot) (H : Heap) (locs : List Loc) (h : zH) (s0 : Int32), lv_has ls 2 [(0, .ref (zal G 100))] → zS G h s.heap H locs → f_X12_oneTest_b_147 F  s0 h = some q → W p l e (zrm (nq + 3)) s m args below meth c H locs 0 0 (MQ below (zQI G q.2 q.1) args s 0 0 (zA G)) (F0 m 147 ls [.int s0]) := by
  intro ls H locs h s0 hl hS hf
  unfold f_X12_oneTest_b_147 at hf
  refine lv_istore_n (lv' := [(1, .int s0), (0, .ref (zal G 100))]) C.1 C.2.1 dX12_oneTest_147 rfl hl (by decide) rfl (fun ls hl => ?_)
  refine lv_iload_n C.1 C.2.1 dX12_oneTest_148 rfl (lv_at hl 0 rfl) ?_
  refine lv_iconst (v := (-1 : Int32)) C.1 C.2.1 dX12_oneTest_149 rfl ?_
  refine lv_icmp_ne (tgt := 159) C.1 C.2.1 dX12_oneTest_150 (by decide) (fun hc => ?_) (fun hc => ?_)
  · have hf := zif_f hc hf
    refine lv_aload_n C.1 C.2.1 dX12_oneTest_159 rfl (lv_at hl 1 rfl) ?_
    obtain ⟨r3, h4, er3, hf⟩ := zbd_some hf
    refine zcallVV (As := []) (rest := []) C hS mv_X12_193 (c_X12_next0 l G h  (r3, h4) (fun c h => hm c (sn_X12_oneTest_b_X12_next0 c h)) (fun q h => hk q (sl_X12_oneTest_b_X12_next0 q h)) er3) (hm 100 (by decide)) ⟨_, _, _, sh_100, rfl, rfl⟩ rfl rfl (Nat.le_of_ble_eq_true rfl) hl.1 ⟨by show 9 + 1 ≤ nq + 3; omega, by show 60 + 60 * (9) ≤ 60 * (nq + 3); omega, Nat.le_of_ble_eq_true rfl, Nat.le_of_ble_eq_true rfl⟩ dX12_oneTest_160 (fun H locs hS => ?_)
    refine lv_aload_n C.1 C.2.1 dX12_oneTest_163 rfl (lv_at hl 1 rfl) ?_
    obtain ⟨r5, h6, er5, hf⟩ := zbd_some hf
    refine zcallVI (As := []) (rest := []) C hS mv_X12_227 (c_X12_sumUp l G h4  (r5, h6) (fun c h => hm c (sn_X12_oneTest_b_X12_sumUp c h)) (fun q h => hk q (sl_X12_oneTest_b_X12_sumUp q h)) er5) (hm 100 (by decide)) ⟨_, _, _, sh_100, rfl, rfl⟩ rfl rfl (Nat.le_of_ble_eq_true rfl) hl.1 ⟨by show 12 + 1 ≤ nq + 3; omega, by show 60 + 60 * (12) ≤ 60 * (nq + 3); omega, Nat.le_of_ble_eq_true rfl, Nat.le_of_ble_eq_true rfl⟩ dX12_oneTest_164 (fun H locs hS => ?_)
    refine lv_if_ne (tgt := 172) C.1 C.2.1 dX12_oneTest_167 (by decide) (fun hc => ?_) (fun hc => ?_)
    · have hf := zif_f hc hf
      refine lv_aload_n C.1 C.2.1 dX12_oneTest_172 rfl (lv_at hl 1 rfl) ?_
      refine lv_iload_n C.1 C.2.1 dX12_oneTest_173 rfl (lv_at hl 0 rfl) ?_
      refine lv_iconst (v := (0 : Int32)) C.1 C.2.1 dX12_oneTest_174 rfl ?_
      obtain ⟨r7, h8, er7, hf⟩ := zbd_some hf
      refine zcallVV (As := [.int s0, .int (0 : Int32)]) (rest := []) C hS mv_X12_206 (c_X12_lay l G h6 s0 (0 : Int32) (r7, h8) (fun c h => hm c (sn_X12_oneTest_b_X12_lay c h)) (fun q h => hk q (sl_X12_oneTest_b_X12_lay q h)) er7) (hm 100 (by decide)) ⟨_, _, _, sh_100, rfl, rfl⟩ rfl rfl (Nat.le_of_ble_eq_true rfl) hl.1 ⟨by show 2 + 1 ≤ nq + 3; omega, by show 60 + 60 * (2) ≤ 60 * (nq + 3); omega, Nat.le_of_ble_eq_true rfl, Nat.le_of_ble_eq_true rfl⟩ dX12_oneTest_175 (fun H locs hS => ?_)
      refine lv_iconst (v := (1 : Int32)) C.1 C.2.1 dX12_oneTest_178 rfl ?_
      exact zretZ C hS rfl hf dX12_oneTest_179
    · have hf := zif_t hc hf
      refine lv_iconst (v := (0 : Int32)) C.1 C.2.1 dX12_oneTest_170 rfl ?_
      exact zretZ C hS rfl hf dX12_oneTest_171
  · have hf := zif_t hc hf
    refine lv_aload_n C.1 C.2.1 dX12_oneTest_153 rfl (lv_at hl 1 rfl) ?_
    refine lv_iconst (v := (1 : Int32)) C.1 C.2.1 dX12_oneTest_154 rfl ?_
    obtain ⟨r9, h10, er9, hf⟩ := zbd_some hf
    refine zcallVI (As := [.int (1 : Int32)]) (rest := []) C hS mv_X12_190 (c_X12_bad l G h (1 : Int32) (r9, h10) (fun c h => hm c (sn_X12_oneTest_b_X12_bad c h)) (fun q h => hk q (sl_X12_oneTest_b_X12_bad q h)) er9) (hm 100 (by decide)) ⟨_, _, _, sh_100, rfl, rfl⟩ rfl rfl (Nat.le_of_ble_eq_true rfl) hl.1 ⟨by show 2 + 1 ≤ nq + 3; omega, by show 60 + 60 * (2) ≤ 60 * (nq + 3); omega, Nat.le_of_ble_eq_true rfl, Nat.le_of_ble_eq_true rfl⟩ dX12_oneTest_155 (fun H locs hS => ?_)
    obtain ⟨hb, hf⟩ := zbo_some hf
    exact zretZ C hS hb hf dX12_oneTest_158
set_option maxHeartbeats 4000000 in
set_option maxRecDepth 100000 in
theorem w_X12_oneTest_b_78 {F : zH → zR} {nq : Nat}  (C : zC G p s m args meth c cX12_oneTest 2 RX12 (some .boolean)) (hm : ∀ c ∈ nd_X12_oneTest_b, c ∈ znm G) (hk : ∀ q ∈ ld_X12_oneTest_b, zlk G q.1 q.2 = true) (hn : 12 ≤ nq) (hF : ∀ (h : zH) (q : Int32 × zH), F  h = some q → zCtI l yX12_oneTest cX12_oneTest 2 (some .boolean) nq [.ref (zal G 100)] G h q.2 q.1)  : ∀ (ls : Array Slot) (H : Heap) (locs : List Loc) (h : zH), lv_has ls 2 [] → zS G h s.heap H locs → f_X12_oneTest_b_78 F  h = some q → W p l e (zrm (nq + 3)) s m args below meth c H locs 0 0 (MQ below (zQI G q.2 q.1) args s 0 0 (zA G)) (F0 m 78 ls []) := by
  intro ls H locs h hl hS hf
  unfold f_X12_oneTest_b_78 at hf
  refine lv_iconst (v := (0 : Int32)) C.1 C.2.1 dX12_oneTest_78 rfl ?_
  exact zretZ C hS rfl hf dX12_oneTest_79
set_option maxHeartbeats 4000000 in
set_option maxRecDepth 100000 in
theorem w_X12_oneTest_b_23 {F : zH → zR} {nq : Nat}  (C : zC G p s m args meth c cX12_oneTest 2 RX12 (some .boolean)) (hm : ∀ c ∈ nd_X12_oneTest_b, c ∈ znm G) (hk : ∀ q ∈ ld_X12_oneTest_b, zlk G q.1 q.2 = true) (hn : 12 ≤ nq) (hF : ∀ (h : zH) (q : Int32 × zH), F  h = some q → zCtI l yX12_oneTest cX12_oneTest 2 (some .boolean) nq [.ref (zal G 100)] G h q.2 q.1)  : ∀ (ls : Array Slot) (H : Heap) (locs : List Loc) (h : zH), lv_has ls 2 [] → zS G h s.heap H locs → f_X12_oneTest_b_23 F  h = some q → W p l e (zrm (nq + 3)) s m args below meth c H locs 0 0 (MQ below (zQI G q.2 q.1) args s 0 0 (zA G)) (F0 m 23 ls []) := by
  intro ls H locs h hl hS hf
  unfold f_X12_oneTest_b_23 at hf
  refine lv_iconst (v := (0 : Int32)) C.1 C.2.1 dX12_oneTest_23 rfl ?_
  exact zretZ C hS rfl hf dX12_oneTest_24
set_option maxHeartbeats 4000000 in
set_option maxRecDepth 100000 in
theorem c_X12_oneTest_b (l : Launch) (G : zG) (h : zH) (F : zH → zR) (nq : Nat) (hn : 12 ≤ nq) (hF : ∀ (h : zH) (q : Int32 × zH), F  h = some q → zCtI l yX12_oneTest cX12_oneTest 2 (some .boolean) nq [.ref (zal G 100)] G h q.2 q.1)  (q : Int32 × zH) (hm : ∀ c ∈ nd_X12_oneTest_b, c ∈ znm G) (hk : ∀ q ∈ ld_X12_oneTest_b, zlk G q.1 q.2 = true) (hf : f_X12_oneTest_b F h = some q) : zCtI l yX12_oneTest cX12_oneTest 2 (some .boolean) (nq + 3) [.ref (zal G 100)] G h q.2 q.1 := by
  refine zMetI (by decide) (Nat.le_of_ble_eq_true rfl) ?_
  intro p e s m below meth c ls C hl hS
  have hl : lv_has ls 2 [(0, .ref (zal G 100))] := hl
  have C : zC G p s m [.ref (zal G 100)].toArray meth c cX12_oneTest 2 RX12 (some .boolean) := C
  unfold f_X12_oneTest_b at hf
  refine lv_aload_n C.1 C.2.1 dX12_oneTest_0 rfl (lv_at hl 0 rfl) ?_
  refine zgetI C hS ff_X12_169_100 (hm 100 (by decide)) dX12_oneTest_1 ?_
  refine lv_bipush (v := (6 : Int32)) C.1 C.2.1 dX12_oneTest_4 rfl ?_
  refine lv_icmp_ne (tgt := 44) C.1 C.2.1 dX12_oneTest_6 (by decide) (fun hc => ?_) (fun hc => ?_)
  · have hf := zif_f hc hf
    refine lv_aload_n C.1 C.2.1 dX12_oneTest_44 rfl (lv_at hl 0 rfl) ?_
    refine zgetI C hS ff_X12_169_100 (hm 100 (by decide)) dX12_oneTest_45 ?_
    refine lv_sipush (v := (140 : Int32)) C.1 C.2.1 dX12_oneTest_48 rfl ?_
    refine lv_icmp_ne (tgt := 92) C.1 C.2.1 dX12_oneTest_51 (by decide) (fun hc => ?_) (fun hc => ?_)
    · have hf := zif_f hc hf
      refine lv_aload_n C.1 C.2.1 dX12_oneTest_92 rfl (lv_at hl 0 rfl) ?_
      obtain ⟨r1, h2, er1, hf⟩ := zbd_some hf
      refine zcallVI (As := []) (rest := []) C hS mv_X12_227 (c_X12_sumUp l G h  (r1, h2) (fun c h => hm c (sn_X12_oneTest_b_X12_sumUp c h)) (fun q h => hk q (sl_X12_oneTest_b_X12_sumUp q h)) er1) (hm 100 (by decide)) ⟨_, _, _, sh_100, rfl, rfl⟩ rfl rfl (Nat.le_of_ble_eq_true rfl) hl.1 ⟨by show 12 + 1 ≤ nq + 3; omega, by show 60 + 60 * (12) ≤ 60 * (nq + 3); omega, Nat.le_of_ble_eq_true rfl, Nat.le_of_ble_eq_true rfl⟩ dX12_oneTest_93 (fun H locs hS => ?_)
      refine lv_if_ne (tgt := 101) C.1 C.2.1 dX12_oneTest_96 (by decide) (fun hc => ?_) (fun hc => ?_)
      · have hf := zif_f hc hf
        refine lv_aload_n C.1 C.2.1 dX12_oneTest_101 rfl (lv_at hl 0 rfl) ?_
        refine zgetI C hS ff_X12_169_100 (hm 100 (by decide)) dX12_oneTest_102 ?_
        refine lv_sipush (v := (160 : Int32)) C.1 C.2.1 dX12_oneTest_105 rfl ?_
        refine lv_icmp_ne (tgt := 116) C.1 C.2.1 dX12_oneTest_108 (by decide) (fun hc => ?_) (fun hc => ?_)
        · have hf := zif_f hc hf
          refine lv_aload_n C.1 C.2.1 dX12_oneTest_116 rfl (lv_at hl 0 rfl) ?_
          refine zgetI C hS ff_X12_169_100 (hm 100 (by decide)) dX12_oneTest_117 ?_
          refine lv_sipush (v := (161 : Int32)) C.1 C.2.1 dX12_oneTest_120 rfl ?_
          refine lv_icmp_ne (tgt := 131) C.1 C.2.1 dX12_oneTest_123 (by decide) (fun hc => ?_) (fun hc => ?_)
          · have hf := zif_f hc hf
            refine lv_aload_n C.1 C.2.1 dX12_oneTest_131 rfl (lv_at hl 0 rfl) ?_
            refine zgetI C hS ff_X12_169_100 (hm 100 (by decide)) dX12_oneTest_132 ?_
            refine lv_sipush (v := (162 : Int32)) C.1 C.2.1 dX12_oneTest_135 rfl ?_
            refine lv_icmp_ne (tgt := 146) C.1 C.2.1 dX12_oneTest_138 (by decide) (fun hc => ?_) (fun hc => ?_)
            · have hf := zif_f hc hf
              refine lv_iconst (v := (-1 : Int32)) C.1 C.2.1 dX12_oneTest_146 rfl ?_
              exact w_X12_oneTest_b_147 C hm hk hn hF  _ _ _ _ _ (lv_sub hl [0] rfl) hS hf
            · have hf := zif_t hc hf
              refine lv_bipush (v := (19 : Int32)) C.1 C.2.1 dX12_oneTest_141 rfl ?_
              refine lv_goto (tgt := 147) C.1 C.2.1 dX12_oneTest_143 (by decide) ?_
              exact w_X12_oneTest_b_147 C hm hk hn hF  _ _ _ _ _ (lv_sub hl [0] rfl) hS hf
          · have hf := zif_t hc hf
            refine lv_bipush (v := (18 : Int32)) C.1 C.2.1 dX12_oneTest_126 rfl ?_
            refine lv_goto (tgt := 147) C.1 C.2.1 dX12_oneTest_128 (by decide) ?_
            exact w_X12_oneTest_b_147 C hm hk hn hF  _ _ _ _ _ (lv_sub hl [0] rfl) hS hf
        · have hf := zif_t hc hf
          refine lv_bipush (v := (17 : Int32)) C.1 C.2.1 dX12_oneTest_111 rfl ?_
          refine lv_goto (tgt := 147) C.1 C.2.1 dX12_oneTest_113 (by decide) ?_
          exact w_X12_oneTest_b_147 C hm hk hn hF  _ _ _ _ _ (lv_sub hl [0] rfl) hS hf
      · have hf := zif_t hc hf
        refine lv_iconst (v := (0 : Int32)) C.1 C.2.1 dX12_oneTest_99 rfl ?_
        exact zretZ C hS rfl hf dX12_oneTest_100
    · have hf := zif_t hc hf
      refine lv_aload_n C.1 C.2.1 dX12_oneTest_54 rfl (lv_at hl 0 rfl) ?_
      obtain ⟨r11, h12, er11, hf⟩ := zbd_some hf
      refine zcallVI (As := []) (rest := []) C hS mv_X12_218 (c_X12_opens l G h  (r11, h12) (fun c h => hm c (sn_X12_oneTest_b_X12_opens c h)) (fun q h => hk q (sl_X12_oneTest_b_X12_opens q h)) er11) (hm 100 (by decide)) ⟨_, _, _, sh_100, rfl, rfl⟩ rfl rfl (Nat.le_of_ble_eq_true rfl) hl.1 ⟨by show 10 + 1 ≤ nq + 3; omega, by show 60 + 60 * (10) ≤ 60 * (nq + 3); omega, Nat.le_of_ble_eq_true rfl, Nat.le_of_ble_eq_true rfl⟩ dX12_oneTest_55 (fun H locs hS => ?_)
      refine lv_if_eq (tgt := 78) C.1 C.2.1 dX12_oneTest_58 (by decide) (fun hc => ?_) (fun hc => ?_)
      · have hf := zif_t hc hf
        exact w_X12_oneTest_b_78 C hm hk hn hF  _ _ _ _ (lv_sub hl [] rfl) hS hf
      · have hf := zif_f hc hf
        refine lv_aload_n C.1 C.2.1 dX12_oneTest_61 rfl (lv_at hl 0 rfl) ?_
        obtain ⟨r13, h14, er13, hf⟩ := zbd_some hf
        refine zcallVI (As := []) (rest := []) C hS mv_X12_221 (c_X12_any l G h12 F nq hn hF  (r13, h14) (fun c h => hm c (sn_X12_oneTest_b_X12_any c h)) (fun q h => hk q (sl_X12_oneTest_b_X12_any q h)) er13) (hm 100 (by decide)) ⟨_, _, _, sh_100, rfl, rfl⟩ rfl rfl (Nat.le_of_ble_eq_true rfl) hl.1 ⟨by show nq + 2 + 1 ≤ nq + 3; omega, by show 60 + 60 * (nq + 2) ≤ 60 * (nq + 3); omega, Nat.le_of_ble_eq_true rfl, Nat.le_of_ble_eq_true rfl⟩ dX12_oneTest_62 (fun H locs hS => ?_)
        refine lv_if_eq (tgt := 78) C.1 C.2.1 dX12_oneTest_65 (by decide) (fun hc => ?_) (fun hc => ?_)
        · have hf := zif_t hc hf
          exact w_X12_oneTest_b_78 C hm hk hn hF  _ _ _ _ (lv_sub hl [] rfl) hS hf
        · have hf := zif_f hc hf
          refine lv_aload_n C.1 C.2.1 dX12_oneTest_68 rfl (lv_at hl 0 rfl) ?_
          refine lv_sipush (v := (141 : Int32)) C.1 C.2.1 dX12_oneTest_69 rfl ?_
          obtain ⟨r15, h16, er15, hf⟩ := zbd_some hf
          refine zcallVI (As := [.int (141 : Int32)]) (rest := []) C hS mv_X12_224 (c_X12_need l G h14 (141 : Int32) (r15, h16) (fun c h => hm c (sn_X12_oneTest_b_X12_need c h)) (fun q h => hk q (sl_X12_oneTest_b_X12_need q h)) er15) (hm 100 (by decide)) ⟨_, _, _, sh_100, rfl, rfl⟩ rfl rfl (Nat.le_of_ble_eq_true rfl) hl.1 ⟨by show 10 + 1 ≤ nq + 3; omega, by show 60 + 60 * (10) ≤ 60 * (nq + 3); omega, Nat.le_of_ble_eq_true rfl, Nat.le_of_ble_eq_true rfl⟩ dX12_oneTest_72 (fun H locs hS => ?_)
          refine lv_if_ne (tgt := 80) C.1 C.2.1 dX12_oneTest_75 (by decide) (fun hc => ?_) (fun hc => ?_)
          · have hf := zif_f hc hf
            refine lv_aload_n C.1 C.2.1 dX12_oneTest_80 rfl (lv_at hl 0 rfl) ?_
            refine lv_dup C.1 C.2.1 dX12_oneTest_81 rfl ?_
            refine zgetI C hS ff_X12_199_100 (hm 100 (by decide)) dX12_oneTest_82 ?_
            refine lv_iconst (v := (1 : Int32)) C.1 C.2.1 dX12_oneTest_85 rfl ?_
            refine lv_isub C.1 C.2.1 dX12_oneTest_86 ?_
            refine zputI C hS ff_X12_199_100 fw_100_21 (hm 100 (by decide)) dX12_oneTest_87 (fun H locs hS => ?_)
            obtain ⟨h17, eh17, hf⟩ := zst_some hf
            have hS : zS G h17 s.heap H locs := by rw [eh17]; exact hS
            refine lv_iconst (v := (1 : Int32)) C.1 C.2.1 dX12_oneTest_90 rfl ?_
            exact zretZ C hS rfl hf dX12_oneTest_91
          · have hf := zif_t hc hf
            exact w_X12_oneTest_b_78 C hm hk hn hF  _ _ _ _ (lv_sub hl [] rfl) hS hf
  · have hf := zif_t hc hf
    refine lv_aload_n C.1 C.2.1 dX12_oneTest_9 rfl (lv_at hl 0 rfl) ?_
    obtain ⟨r18, h19, er18, hf⟩ := zbd_some hf
    refine zcallVI (As := []) (rest := []) C hS mv_X12_218 (c_X12_opens l G h  (r18, h19) (fun c h => hm c (sn_X12_oneTest_b_X12_opens c h)) (fun q h => hk q (sl_X12_oneTest_b_X12_opens q h)) er18) (hm 100 (by decide)) ⟨_, _, _, sh_100, rfl, rfl⟩ rfl rfl (Nat.le_of_ble_eq_true rfl) hl.1 ⟨by show 10 + 1 ≤ nq + 3; omega, by show 60 + 60 * (10) ≤ 60 * (nq + 3); omega, Nat.le_of_ble_eq_true rfl, Nat.le_of_ble_eq_true rfl⟩ dX12_oneTest_10 (fun H locs hS => ?_)
    refine lv_if_eq (tgt := 23) C.1 C.2.1 dX12_oneTest_13 (by decide) (fun hc => ?_) (fun hc => ?_)
    · have hf := zif_t hc hf
      exact w_X12_oneTest_b_23 C hm hk hn hF  _ _ _ _ (lv_sub hl [] rfl) hS hf
    · have hf := zif_f hc hf
      refine lv_aload_n C.1 C.2.1 dX12_oneTest_16 rfl (lv_at hl 0 rfl) ?_
      obtain ⟨r20, h21, er20, hf⟩ := zbd_some hf
      refine zcallVI (As := []) (rest := []) C hS mv_X12_215 (hF h19  (r20, h21) er20) (hm 100 (by decide)) ⟨_, _, _, sh_100, rfl, rfl⟩ rfl rfl (Nat.le_of_ble_eq_true rfl) hl.1 ⟨by show nq + 1 ≤ nq + 3; omega, by show 60 + 60 * (nq) ≤ 60 * (nq + 3); omega, Nat.le_of_ble_eq_true rfl, Nat.le_of_ble_eq_true rfl⟩ dX12_oneTest_17 (fun H locs hS => ?_)
      refine lv_if_ne (tgt := 25) C.1 C.2.1 dX12_oneTest_20 (by decide) (fun hc => ?_) (fun hc => ?_)
      · have hf := zif_f hc hf
        refine lv_aload_n C.1 C.2.1 dX12_oneTest_25 rfl (lv_at hl 0 rfl) ?_
        refine lv_dup C.1 C.2.1 dX12_oneTest_26 rfl ?_
        refine zgetI C hS ff_X12_199_100 (hm 100 (by decide)) dX12_oneTest_27 ?_
        refine lv_iconst (v := (1 : Int32)) C.1 C.2.1 dX12_oneTest_30 rfl ?_
        refine lv_isub C.1 C.2.1 dX12_oneTest_31 ?_
        refine zputI C hS ff_X12_199_100 fw_100_21 (hm 100 (by decide)) dX12_oneTest_32 (fun H locs hS => ?_)
        obtain ⟨h22, eh22, hf⟩ := zst_some hf
        have hS : zS G h22 s.heap H locs := by rw [eh22]; exact hS
        refine lv_aload_n C.1 C.2.1 dX12_oneTest_35 rfl (lv_at hl 0 rfl) ?_
        refine lv_bipush (v := (20 : Int32)) C.1 C.2.1 dX12_oneTest_36 rfl ?_
        refine lv_iconst (v := (0 : Int32)) C.1 C.2.1 dX12_oneTest_38 rfl ?_
        obtain ⟨r23, h24, er23, hf⟩ := zbd_some hf
        refine zcallVV (As := [.int (20 : Int32), .int (0 : Int32)]) (rest := []) C hS mv_X12_206 (c_X12_lay l G h22 (20 : Int32) (0 : Int32) (r23, h24) (fun c h => hm c (sn_X12_oneTest_b_X12_lay c h)) (fun q h => hk q (sl_X12_oneTest_b_X12_lay q h)) er23) (hm 100 (by decide)) ⟨_, _, _, sh_100, rfl, rfl⟩ rfl rfl (Nat.le_of_ble_eq_true rfl) hl.1 ⟨by show 2 + 1 ≤ nq + 3; omega, by show 60 + 60 * (2) ≤ 60 * (nq + 3); omega, Nat.le_of_ble_eq_true rfl, Nat.le_of_ble_eq_true rfl⟩ dX12_oneTest_39 (fun H locs hS => ?_)
        refine lv_iconst (v := (1 : Int32)) C.1 C.2.1 dX12_oneTest_42 rfl ?_
        exact zretZ C hS rfl hf dX12_oneTest_43
      · have hf := zif_t hc hf
        exact w_X12_oneTest_b_23 C hm hk hn hF  _ _ _ _ (lv_sub hl [] rfl) hS hf
def f_X12_oneTest : Nat → zH → zR
  | 0 => fun _ => none
  | d + 1 => fun h => f_X12_oneTest_b (f_X12_oneTest d) h
theorem c_X12_oneTest (l : Launch) (G : zG) (hm : ∀ c ∈ nd_X12_oneTest_b, c ∈ znm G) (hk : ∀ q ∈ ld_X12_oneTest_b, zlk G q.1 q.2 = true) : ∀ (d : Nat) (h : zH) (q : Int32 × zH), f_X12_oneTest d h = some q → zCtI l yX12_oneTest cX12_oneTest 2 (some .boolean) (12 + 3 * d) [.ref (zal G 100)] G h q.2 q.1 := by
  intro d
  induction d with
  | zero => intro h q hf; cases hf
  | succ d ih =>
    intro h q hf
    have e := c_X12_oneTest_b l G h (f_X12_oneTest d) (12 + 3 * d) (Nat.le_add_right _ _) ih q hm hk hf
    rw [show 12 + 3 * d + 3 = 12 + 3 * (d + 1) by omega] at e
    exact e
end
section
theorem dX12_aLine_0 : decode cX12_aLine 0 = .ok (.aload_n 0, 1) := by decide +kernel
theorem dX12_aLine_1 : decode cX12_aLine 1 = .ok (.getfield 169, 3) := by decide +kernel
theorem dX12_aLine_4 : decode cX12_aLine 4 = .ok (.bipush 20, 2) := by decide +kernel
theorem dX12_aLine_6 : decode cX12_aLine 6 = .ok (.if_icmp .eq 9, 3) := by decide +kernel
theorem dX12_aLine_9 : decode cX12_aLine 9 = .ok (.aload_n 0, 1) := by decide +kernel
theorem dX12_aLine_10 : decode cX12_aLine 10 = .ok (.iconst 1, 1) := by decide +kernel
theorem dX12_aLine_11 : decode cX12_aLine 11 = .ok (.invokevirtual 190, 3) := by decide +kernel
theorem dX12_aLine_14 : decode cX12_aLine 14 = .ok (.ireturn, 1) := by decide +kernel
theorem dX12_aLine_15 : decode cX12_aLine 15 = .ok (.aload_n 0, 1) := by decide +kernel
theorem dX12_aLine_16 : decode cX12_aLine 16 = .ok (.getfield 230, 3) := by decide +kernel
theorem dX12_aLine_19 : decode cX12_aLine 19 = .ok (.bipush 16, 2) := by decide +kernel
theorem dX12_aLine_21 : decode cX12_aLine 21 = .ok (.if_icmp .ne 9, 3) := by decide +kernel
theorem dX12_aLine_24 : decode cX12_aLine 24 = .ok (.aload_n 0, 1) := by decide +kernel
theorem dX12_aLine_25 : decode cX12_aLine 25 = .ok (.iconst 3, 1) := by decide +kernel
theorem dX12_aLine_26 : decode cX12_aLine 26 = .ok (.invokevirtual 190, 3) := by decide +kernel
theorem dX12_aLine_29 : decode cX12_aLine 29 = .ok (.ireturn, 1) := by decide +kernel
theorem dX12_aLine_30 : decode cX12_aLine 30 = .ok (.aload_n 0, 1) := by decide +kernel
theorem dX12_aLine_31 : decode cX12_aLine 31 = .ok (.iconst 0, 1) := by decide +kernel
theorem dX12_aLine_32 : decode cX12_aLine 32 = .ok (.putfield 199, 3) := by decide +kernel
theorem dX12_aLine_35 : decode cX12_aLine 35 = .ok (.aload_n 0, 1) := by decide +kernel
theorem dX12_aLine_36 : decode cX12_aLine 36 = .ok (.invokevirtual 193, 3) := by decide +kernel
theorem dX12_aLine_39 : decode cX12_aLine 39 = .ok (.aload_n 0, 1) := by decide +kernel
theorem dX12_aLine_40 : decode cX12_aLine 40 = .ok (.getfield 22, 3) := by decide +kernel
theorem dX12_aLine_43 : decode cX12_aLine 43 = .ok (.iconst 3, 1) := by decide +kernel
theorem dX12_aLine_44 : decode cX12_aLine 44 = .ok (.aload_n 0, 1) := by decide +kernel
theorem dX12_aLine_45 : decode cX12_aLine 45 = .ok (.getfield 230, 3) := by decide +kernel
theorem dX12_aLine_48 : decode cX12_aLine 48 = .ok (.imul, 1) := by decide +kernel
theorem dX12_aLine_49 : decode cX12_aLine 49 = .ok (.aload_n 0, 1) := by decide +kernel
theorem dX12_aLine_50 : decode cX12_aLine 50 = .ok (.getfield 196, 3) := by decide +kernel
theorem dX12_aLine_53 : decode cX12_aLine 53 = .ok (.iastore, 1) := by decide +kernel
theorem dX12_aLine_54 : decode cX12_aLine 54 = .ok (.aload_n 0, 1) := by decide +kernel
theorem dX12_aLine_55 : decode cX12_aLine 55 = .ok (.invokevirtual 227, 3) := by decide +kernel
theorem dX12_aLine_58 : decode cX12_aLine 58 = .ok (.ifCond .ne 5, 3) := by decide +kernel
theorem dX12_aLine_61 : decode cX12_aLine 61 = .ok (.iconst 0, 1) := by decide +kernel
theorem dX12_aLine_62 : decode cX12_aLine 62 = .ok (.ireturn, 1) := by decide +kernel
theorem dX12_aLine_63 : decode cX12_aLine 63 = .ok (.aload_n 0, 1) := by decide +kernel
theorem dX12_aLine_64 : decode cX12_aLine 64 = .ok (.getfield 22, 3) := by decide +kernel
theorem dX12_aLine_67 : decode cX12_aLine 67 = .ok (.iconst 3, 1) := by decide +kernel
theorem dX12_aLine_68 : decode cX12_aLine 68 = .ok (.aload_n 0, 1) := by decide +kernel
theorem dX12_aLine_69 : decode cX12_aLine 69 = .ok (.getfield 230, 3) := by decide +kernel
theorem dX12_aLine_72 : decode cX12_aLine 72 = .ok (.imul, 1) := by decide +kernel
theorem dX12_aLine_73 : decode cX12_aLine 73 = .ok (.iconst 1, 1) := by decide +kernel
theorem dX12_aLine_74 : decode cX12_aLine 74 = .ok (.iadd, 1) := by decide +kernel
theorem dX12_aLine_75 : decode cX12_aLine 75 = .ok (.aload_n 0, 1) := by decide +kernel
theorem dX12_aLine_76 : decode cX12_aLine 76 = .ok (.getfield 196, 3) := by decide +kernel
theorem dX12_aLine_79 : decode cX12_aLine 79 = .ok (.iastore, 1) := by decide +kernel
theorem dX12_aLine_80 : decode cX12_aLine 80 = .ok (.aload_n 0, 1) := by decide +kernel
theorem dX12_aLine_81 : decode cX12_aLine 81 = .ok (.getfield 169, 3) := by decide +kernel
theorem dX12_aLine_84 : decode cX12_aLine 84 = .ok (.iconst 3, 1) := by decide +kernel
theorem dX12_aLine_85 : decode cX12_aLine 85 = .ok (.if_icmp .ne 16, 3) := by decide +kernel
theorem dX12_aLine_88 : decode cX12_aLine 88 = .ok (.aload_n 0, 1) := by decide +kernel
theorem dX12_aLine_89 : decode cX12_aLine 89 = .ok (.invokevirtual 193, 3) := by decide +kernel
theorem dX12_aLine_92 : decode cX12_aLine 92 = .ok (.aload_n 0, 1) := by decide +kernel
theorem dX12_aLine_93 : decode cX12_aLine 93 = .ok (.invokevirtual 221, 3) := by decide +kernel
theorem dX12_aLine_96 : decode cX12_aLine 96 = .ok (.ifCond .ne 5, 3) := by decide +kernel
theorem dX12_aLine_99 : decode cX12_aLine 99 = .ok (.iconst 0, 1) := by decide +kernel
theorem dX12_aLine_100 : decode cX12_aLine 100 = .ok (.ireturn, 1) := by decide +kernel
theorem dX12_aLine_101 : decode cX12_aLine 101 = .ok (.aload_n 0, 1) := by decide +kernel
theorem dX12_aLine_102 : decode cX12_aLine 102 = .ok (.getfield 22, 3) := by decide +kernel
theorem dX12_aLine_105 : decode cX12_aLine 105 = .ok (.iconst 3, 1) := by decide +kernel
theorem dX12_aLine_106 : decode cX12_aLine 106 = .ok (.aload_n 0, 1) := by decide +kernel
theorem dX12_aLine_107 : decode cX12_aLine 107 = .ok (.getfield 230, 3) := by decide +kernel
theorem dX12_aLine_110 : decode cX12_aLine 110 = .ok (.imul, 1) := by decide +kernel
theorem dX12_aLine_111 : decode cX12_aLine 111 = .ok (.iconst 2, 1) := by decide +kernel
theorem dX12_aLine_112 : decode cX12_aLine 112 = .ok (.iadd, 1) := by decide +kernel
theorem dX12_aLine_113 : decode cX12_aLine 113 = .ok (.aload_n 0, 1) := by decide +kernel
theorem dX12_aLine_114 : decode cX12_aLine 114 = .ok (.getfield 196, 3) := by decide +kernel
theorem dX12_aLine_117 : decode cX12_aLine 117 = .ok (.iastore, 1) := by decide +kernel
theorem dX12_aLine_118 : decode cX12_aLine 118 = .ok (.aload_n 0, 1) := by decide +kernel
theorem dX12_aLine_119 : decode cX12_aLine 119 = .ok (.sipush 159, 3) := by decide +kernel
theorem dX12_aLine_122 : decode cX12_aLine 122 = .ok (.invokevirtual 224, 3) := by decide +kernel
theorem dX12_aLine_125 : decode cX12_aLine 125 = .ok (.ireturn, 1) := by decide +kernel
abbrev nd_X12_aLine : List Nat := [100, 105, 106, 107]
abbrev ld_X12_aLine : List (Nat × Nat) := [(100, 6), (100, 7), (100, 8)]
theorem sn_X12_aLine_X12_next0 : ∀ c ∈ nd_X12_next0, c ∈ nd_X12_aLine := by decide
theorem sl_X12_aLine_X12_next0 : ∀ q ∈ ld_X12_next0, q ∈ ld_X12_aLine := by decide
theorem sn_X12_aLine_X12_sumUp : ∀ c ∈ nd_X12_sumUp, c ∈ nd_X12_aLine := by decide
theorem sl_X12_aLine_X12_sumUp : ∀ q ∈ ld_X12_sumUp, q ∈ ld_X12_aLine := by decide
theorem sn_X12_aLine_X12_need : ∀ c ∈ nd_X12_need, c ∈ nd_X12_aLine := by decide
theorem sl_X12_aLine_X12_need : ∀ q ∈ ld_X12_need, q ∈ ld_X12_aLine := by decide
theorem sn_X12_aLine_X12_any : ∀ c ∈ nd_X12_any, c ∈ nd_X12_aLine := by decide
theorem sl_X12_aLine_X12_any : ∀ q ∈ ld_X12_any, q ∈ ld_X12_aLine := by decide
theorem sn_X12_aLine_X12_oneTest_b : ∀ c ∈ nd_X12_oneTest_b, c ∈ nd_X12_aLine := by decide
theorem sl_X12_aLine_X12_oneTest_b : ∀ q ∈ ld_X12_oneTest_b, q ∈ ld_X12_aLine := by decide
theorem sn_X12_aLine_X12_bad : ∀ c ∈ nd_X12_bad, c ∈ nd_X12_aLine := by decide
theorem sl_X12_aLine_X12_bad : ∀ q ∈ ld_X12_bad, q ∈ ld_X12_aLine := by decide
def f_X12_aLine_101  (h : zH) : zR := (zck (((3 : Int32) * (h 100 11)) + (2 : Int32)) 48 (zst (zup h 105 (Int32.toNatClampNeg (((3 : Int32) * (h 100 11)) + (2 : Int32))) (h 100 12)) fun h8 => (zbd (f_X12_need (159 : Int32) h8) fun r9 h10 => (zbo r9 (some (r9, h10))))))
def f_X12_aLine  (h : zH) : zR := (if (h 100 15) = (20 : Int32) then (if (h 100 11) = (16 : Int32) then (zbd (f_X12_bad (3 : Int32) h) fun r15 h16 => (zbo r15 (some (r15, h16)))) else (zst (zup h 100 21 (0 : Int32)) fun h1 => (zbd (f_X12_next0  h1) fun r2 h3 => (zck ((3 : Int32) * (h3 100 11)) 48 (zst (zup h3 105 (Int32.toNatClampNeg ((3 : Int32) * (h3 100 11))) (h3 100 12)) fun h4 => (zbd (f_X12_sumUp  h4) fun r5 h6 => (if r5 = 0 then (some ((0 : Int32), h6)) else (zck (((3 : Int32) * (h6 100 11)) + (1 : Int32)) 48 (zst (zup h6 105 (Int32.toNatClampNeg (((3 : Int32) * (h6 100 11)) + (1 : Int32))) (h6 100 12)) fun h7 => (if (h7 100 15) = (3 : Int32) then (zbd (f_X12_next0  h7) fun r11 h12 => (zbd (f_X12_any (f_X12_oneTest 12)  h12) fun r13 h14 => (if r13 = 0 then (some ((0 : Int32), h14)) else (f_X12_aLine_101   h14)))) else (f_X12_aLine_101   h7))))))))))) else (zbd (f_X12_bad (1 : Int32) h) fun r17 h18 => (zbo r17 (some (r17, h18)))))
variable {p : Program} {l : Launch} {e : Env} {s : State} {m : MethodId} {args : Array Value} {below : List Frame} {meth : Method} {c : Code} {G : zG} {q : Int32 × zH}
set_option maxHeartbeats 4000000 in
set_option maxRecDepth 100000 in
theorem w_X12_aLine_101  (C : zC G p s m args meth c cX12_aLine 1 RX12 (some .boolean)) (hm : ∀ c ∈ nd_X12_aLine, c ∈ znm G) (hk : ∀ q ∈ ld_X12_aLine, zlk G q.1 q.2 = true)  : ∀ (ls : Array Slot) (H : Heap) (locs : List Loc) (h : zH), lv_has ls 1 [(0, .ref (zal G 100))] → zS G h s.heap H locs → f_X12_aLine_101  h = some q → W p l e (zrm (51)) s m args below meth c H locs 0 0 (MQ below (zQI G q.2 q.1) args s 0 0 (zA G)) (F0 m 101 ls []) := by
  intro ls H locs h hl hS hf
  unfold f_X12_aLine_101 at hf
  refine lv_aload_n C.1 C.2.1 dX12_aLine_101 rfl (lv_at hl 0 rfl) ?_
  refine zgetR C hS ff_X12_22_100 (hm 100 (by decide)) (hk (100, 6) (by decide)) dX12_aLine_102 ?_
  refine lv_iconst (v := (3 : Int32)) C.1 C.2.1 dX12_aLine_105 rfl ?_
  refine lv_aload_n C.1 C.2.1 dX12_aLine_106 rfl (lv_at hl 0 rfl) ?_
  refine zgetI C hS ff_X12_230_100 (hm 100 (by decide)) dX12_aLine_107 ?_
  refine lv_imul C.1 C.2.1 dX12_aLine_110 ?_
  refine lv_iconst (v := (2 : Int32)) C.1 C.2.1 dX12_aLine_111 rfl ?_
  refine lv_iadd C.1 C.2.1 dX12_aLine_112 ?_
  refine lv_aload_n C.1 C.2.1 dX12_aLine_113 rfl (lv_at hl 0 rfl) ?_
  refine zgetI C hS ff_X12_196_100 (hm 100 (by decide)) dX12_aLine_114 ?_
  obtain ⟨hi, hf⟩ := zck_some hf
  refine zast C hS sh_105 (hm 105 (by decide)) hi dX12_aLine_117 (fun H locs hS => ?_)
  obtain ⟨h8, eh8, hf⟩ := zst_some hf
  have hS : zS G h8 s.heap H locs := by rw [eh8]; exact hS
  refine lv_aload_n C.1 C.2.1 dX12_aLine_118 rfl (lv_at hl 0 rfl) ?_
  refine lv_sipush (v := (159 : Int32)) C.1 C.2.1 dX12_aLine_119 rfl ?_
  obtain ⟨r9, h10, er9, hf⟩ := zbd_some hf
  refine zcallVI (As := [.int (159 : Int32)]) (rest := []) C hS mv_X12_224 (c_X12_need l G h8 (159 : Int32) (r9, h10) (fun c h => hm c (sn_X12_aLine_X12_need c h)) (fun q h => hk q (sl_X12_aLine_X12_need q h)) er9) (hm 100 (by decide)) ⟨_, _, _, sh_100, rfl, rfl⟩ rfl rfl (Nat.le_of_ble_eq_true rfl) hl.1 ⟨Nat.le_of_ble_eq_true rfl, Nat.le_of_ble_eq_true rfl, Nat.le_of_ble_eq_true rfl, Nat.le_of_ble_eq_true rfl⟩ dX12_aLine_122 (fun H locs hS => ?_)
  obtain ⟨hb, hf⟩ := zbo_some hf
  exact zretZ C hS hb hf dX12_aLine_125
set_option maxHeartbeats 4000000 in
set_option maxRecDepth 100000 in
theorem c_X12_aLine (l : Launch) (G : zG) (h : zH) (q : Int32 × zH) (hm : ∀ c ∈ nd_X12_aLine, c ∈ znm G) (hk : ∀ q ∈ ld_X12_aLine, zlk G q.1 q.2 = true) (hf : f_X12_aLine h = some q) : zCtI l yX12_aLine cX12_aLine 1 (some .boolean) (51) [.ref (zal G 100)] G h q.2 q.1 := by
  refine zMetI (by decide) (Nat.le_of_ble_eq_true rfl) ?_
  intro p e s m below meth c ls C hl hS
  have hl : lv_has ls 1 [(0, .ref (zal G 100))] := hl
  have C : zC G p s m [.ref (zal G 100)].toArray meth c cX12_aLine 1 RX12 (some .boolean) := C
  unfold f_X12_aLine at hf
  refine lv_aload_n C.1 C.2.1 dX12_aLine_0 rfl (lv_at hl 0 rfl) ?_
  refine zgetI C hS ff_X12_169_100 (hm 100 (by decide)) dX12_aLine_1 ?_
  refine lv_bipush (v := (20 : Int32)) C.1 C.2.1 dX12_aLine_4 rfl ?_
  refine lv_icmp_eq (tgt := 15) C.1 C.2.1 dX12_aLine_6 (by decide) (fun hc => ?_) (fun hc => ?_)
  · have hf := zif_t hc hf
    refine lv_aload_n C.1 C.2.1 dX12_aLine_15 rfl (lv_at hl 0 rfl) ?_
    refine zgetI C hS ff_X12_230_100 (hm 100 (by decide)) dX12_aLine_16 ?_
    refine lv_bipush (v := (16 : Int32)) C.1 C.2.1 dX12_aLine_19 rfl ?_
    refine lv_icmp_ne (tgt := 30) C.1 C.2.1 dX12_aLine_21 (by decide) (fun hc => ?_) (fun hc => ?_)
    · have hf := zif_f hc hf
      refine lv_aload_n C.1 C.2.1 dX12_aLine_30 rfl (lv_at hl 0 rfl) ?_
      refine lv_iconst (v := (0 : Int32)) C.1 C.2.1 dX12_aLine_31 rfl ?_
      refine zputI C hS ff_X12_199_100 fw_100_21 (hm 100 (by decide)) dX12_aLine_32 (fun H locs hS => ?_)
      obtain ⟨h1, eh1, hf⟩ := zst_some hf
      have hS : zS G h1 s.heap H locs := by rw [eh1]; exact hS
      refine lv_aload_n C.1 C.2.1 dX12_aLine_35 rfl (lv_at hl 0 rfl) ?_
      obtain ⟨r2, h3, er2, hf⟩ := zbd_some hf
      refine zcallVV (As := []) (rest := []) C hS mv_X12_193 (c_X12_next0 l G h1  (r2, h3) (fun c h => hm c (sn_X12_aLine_X12_next0 c h)) (fun q h => hk q (sl_X12_aLine_X12_next0 q h)) er2) (hm 100 (by decide)) ⟨_, _, _, sh_100, rfl, rfl⟩ rfl rfl (Nat.le_of_ble_eq_true rfl) hl.1 ⟨Nat.le_of_ble_eq_true rfl, Nat.le_of_ble_eq_true rfl, Nat.le_of_ble_eq_true rfl, Nat.le_of_ble_eq_true rfl⟩ dX12_aLine_36 (fun H locs hS => ?_)
      refine lv_aload_n C.1 C.2.1 dX12_aLine_39 rfl (lv_at hl 0 rfl) ?_
      refine zgetR C hS ff_X12_22_100 (hm 100 (by decide)) (hk (100, 6) (by decide)) dX12_aLine_40 ?_
      refine lv_iconst (v := (3 : Int32)) C.1 C.2.1 dX12_aLine_43 rfl ?_
      refine lv_aload_n C.1 C.2.1 dX12_aLine_44 rfl (lv_at hl 0 rfl) ?_
      refine zgetI C hS ff_X12_230_100 (hm 100 (by decide)) dX12_aLine_45 ?_
      refine lv_imul C.1 C.2.1 dX12_aLine_48 ?_
      refine lv_aload_n C.1 C.2.1 dX12_aLine_49 rfl (lv_at hl 0 rfl) ?_
      refine zgetI C hS ff_X12_196_100 (hm 100 (by decide)) dX12_aLine_50 ?_
      obtain ⟨hi, hf⟩ := zck_some hf
      refine zast C hS sh_105 (hm 105 (by decide)) hi dX12_aLine_53 (fun H locs hS => ?_)
      obtain ⟨h4, eh4, hf⟩ := zst_some hf
      have hS : zS G h4 s.heap H locs := by rw [eh4]; exact hS
      refine lv_aload_n C.1 C.2.1 dX12_aLine_54 rfl (lv_at hl 0 rfl) ?_
      obtain ⟨r5, h6, er5, hf⟩ := zbd_some hf
      refine zcallVI (As := []) (rest := []) C hS mv_X12_227 (c_X12_sumUp l G h4  (r5, h6) (fun c h => hm c (sn_X12_aLine_X12_sumUp c h)) (fun q h => hk q (sl_X12_aLine_X12_sumUp q h)) er5) (hm 100 (by decide)) ⟨_, _, _, sh_100, rfl, rfl⟩ rfl rfl (Nat.le_of_ble_eq_true rfl) hl.1 ⟨Nat.le_of_ble_eq_true rfl, Nat.le_of_ble_eq_true rfl, Nat.le_of_ble_eq_true rfl, Nat.le_of_ble_eq_true rfl⟩ dX12_aLine_55 (fun H locs hS => ?_)
      refine lv_if_ne (tgt := 63) C.1 C.2.1 dX12_aLine_58 (by decide) (fun hc => ?_) (fun hc => ?_)
      · have hf := zif_f hc hf
        refine lv_aload_n C.1 C.2.1 dX12_aLine_63 rfl (lv_at hl 0 rfl) ?_
        refine zgetR C hS ff_X12_22_100 (hm 100 (by decide)) (hk (100, 6) (by decide)) dX12_aLine_64 ?_
        refine lv_iconst (v := (3 : Int32)) C.1 C.2.1 dX12_aLine_67 rfl ?_
        refine lv_aload_n C.1 C.2.1 dX12_aLine_68 rfl (lv_at hl 0 rfl) ?_
        refine zgetI C hS ff_X12_230_100 (hm 100 (by decide)) dX12_aLine_69 ?_
        refine lv_imul C.1 C.2.1 dX12_aLine_72 ?_
        refine lv_iconst (v := (1 : Int32)) C.1 C.2.1 dX12_aLine_73 rfl ?_
        refine lv_iadd C.1 C.2.1 dX12_aLine_74 ?_
        refine lv_aload_n C.1 C.2.1 dX12_aLine_75 rfl (lv_at hl 0 rfl) ?_
        refine zgetI C hS ff_X12_196_100 (hm 100 (by decide)) dX12_aLine_76 ?_
        obtain ⟨hi, hf⟩ := zck_some hf
        refine zast C hS sh_105 (hm 105 (by decide)) hi dX12_aLine_79 (fun H locs hS => ?_)
        obtain ⟨h7, eh7, hf⟩ := zst_some hf
        have hS : zS G h7 s.heap H locs := by rw [eh7]; exact hS
        refine lv_aload_n C.1 C.2.1 dX12_aLine_80 rfl (lv_at hl 0 rfl) ?_
        refine zgetI C hS ff_X12_169_100 (hm 100 (by decide)) dX12_aLine_81 ?_
        refine lv_iconst (v := (3 : Int32)) C.1 C.2.1 dX12_aLine_84 rfl ?_
        refine lv_icmp_ne (tgt := 101) C.1 C.2.1 dX12_aLine_85 (by decide) (fun hc => ?_) (fun hc => ?_)
        · have hf := zif_f hc hf
          exact w_X12_aLine_101 C hm hk  _ _ _ _ (lv_sub hl [0] rfl) hS hf
        · have hf := zif_t hc hf
          refine lv_aload_n C.1 C.2.1 dX12_aLine_88 rfl (lv_at hl 0 rfl) ?_
          obtain ⟨r11, h12, er11, hf⟩ := zbd_some hf
          refine zcallVV (As := []) (rest := []) C hS mv_X12_193 (c_X12_next0 l G h7  (r11, h12) (fun c h => hm c (sn_X12_aLine_X12_next0 c h)) (fun q h => hk q (sl_X12_aLine_X12_next0 q h)) er11) (hm 100 (by decide)) ⟨_, _, _, sh_100, rfl, rfl⟩ rfl rfl (Nat.le_of_ble_eq_true rfl) hl.1 ⟨Nat.le_of_ble_eq_true rfl, Nat.le_of_ble_eq_true rfl, Nat.le_of_ble_eq_true rfl, Nat.le_of_ble_eq_true rfl⟩ dX12_aLine_89 (fun H locs hS => ?_)
          refine lv_aload_n C.1 C.2.1 dX12_aLine_92 rfl (lv_at hl 0 rfl) ?_
          obtain ⟨r13, h14, er13, hf⟩ := zbd_some hf
          refine zcallVI (As := []) (rest := []) C hS mv_X12_221 (c_X12_any l G h12 (f_X12_oneTest 12) 48 (by decide) (c_X12_oneTest l G (fun c h => hm c (sn_X12_aLine_X12_oneTest_b c h)) (fun q h => hk q (sl_X12_aLine_X12_oneTest_b q h)) 12)  (r13, h14) (fun c h => hm c (sn_X12_aLine_X12_any c h)) (fun q h => hk q (sl_X12_aLine_X12_any q h)) er13) (hm 100 (by decide)) ⟨_, _, _, sh_100, rfl, rfl⟩ rfl rfl (Nat.le_of_ble_eq_true rfl) hl.1 ⟨Nat.le_of_ble_eq_true rfl, Nat.le_of_ble_eq_true rfl, Nat.le_of_ble_eq_true rfl, Nat.le_of_ble_eq_true rfl⟩ dX12_aLine_93 (fun H locs hS => ?_)
          refine lv_if_ne (tgt := 101) C.1 C.2.1 dX12_aLine_96 (by decide) (fun hc => ?_) (fun hc => ?_)
          · have hf := zif_f hc hf
            exact w_X12_aLine_101 C hm hk  _ _ _ _ (lv_sub hl [0] rfl) hS hf
          · have hf := zif_t hc hf
            refine lv_iconst (v := (0 : Int32)) C.1 C.2.1 dX12_aLine_99 rfl ?_
            exact zretZ C hS rfl hf dX12_aLine_100
      · have hf := zif_t hc hf
        refine lv_iconst (v := (0 : Int32)) C.1 C.2.1 dX12_aLine_61 rfl ?_
        exact zretZ C hS rfl hf dX12_aLine_62
    · have hf := zif_t hc hf
      refine lv_aload_n C.1 C.2.1 dX12_aLine_24 rfl (lv_at hl 0 rfl) ?_
      refine lv_iconst (v := (3 : Int32)) C.1 C.2.1 dX12_aLine_25 rfl ?_
      obtain ⟨r15, h16, er15, hf⟩ := zbd_some hf
      refine zcallVI (As := [.int (3 : Int32)]) (rest := []) C hS mv_X12_190 (c_X12_bad l G h (3 : Int32) (r15, h16) (fun c h => hm c (sn_X12_aLine_X12_bad c h)) (fun q h => hk q (sl_X12_aLine_X12_bad q h)) er15) (hm 100 (by decide)) ⟨_, _, _, sh_100, rfl, rfl⟩ rfl rfl (Nat.le_of_ble_eq_true rfl) hl.1 ⟨Nat.le_of_ble_eq_true rfl, Nat.le_of_ble_eq_true rfl, Nat.le_of_ble_eq_true rfl, Nat.le_of_ble_eq_true rfl⟩ dX12_aLine_26 (fun H locs hS => ?_)
      obtain ⟨hb, hf⟩ := zbo_some hf
      exact zretZ C hS hb hf dX12_aLine_29
  · have hf := zif_f hc hf
    refine lv_aload_n C.1 C.2.1 dX12_aLine_9 rfl (lv_at hl 0 rfl) ?_
    refine lv_iconst (v := (1 : Int32)) C.1 C.2.1 dX12_aLine_10 rfl ?_
    obtain ⟨r17, h18, er17, hf⟩ := zbd_some hf
    refine zcallVI (As := [.int (1 : Int32)]) (rest := []) C hS mv_X12_190 (c_X12_bad l G h (1 : Int32) (r17, h18) (fun c h => hm c (sn_X12_aLine_X12_bad c h)) (fun q h => hk q (sl_X12_aLine_X12_bad q h)) er17) (hm 100 (by decide)) ⟨_, _, _, sh_100, rfl, rfl⟩ rfl rfl (Nat.le_of_ble_eq_true rfl) hl.1 ⟨Nat.le_of_ble_eq_true rfl, Nat.le_of_ble_eq_true rfl, Nat.le_of_ble_eq_true rfl, Nat.le_of_ble_eq_true rfl⟩ dX12_aLine_11 (fun H locs hS => ?_)
    obtain ⟨hb, hf⟩ := zbo_some hf
    exact zretZ C hS hb hf dX12_aLine_14
end
section
theorem dX12_text_0 : decode cX12_text 0 = .ok (.aload_n 0, 1) := by decide +kernel
theorem dX12_text_1 : decode cX12_text 1 = .ok (.iconst 0, 1) := by decide +kernel
theorem dX12_text_2 : decode cX12_text 2 = .ok (.putfield 184, 3) := by decide +kernel
theorem dX12_text_5 : decode cX12_text 5 = .ok (.aload_n 0, 1) := by decide +kernel
theorem dX12_text_6 : decode cX12_text 6 = .ok (.iconst 0, 1) := by decide +kernel
theorem dX12_text_7 : decode cX12_text 7 = .ok (.putfield 119, 3) := by decide +kernel
theorem dX12_text_10 : decode cX12_text 10 = .ok (.aload_n 0, 1) := by decide +kernel
theorem dX12_text_11 : decode cX12_text 11 = .ok (.iconst 0, 1) := by decide +kernel
theorem dX12_text_12 : decode cX12_text 12 = .ok (.putfield 230, 3) := by decide +kernel
theorem dX12_text_15 : decode cX12_text 15 = .ok (.aload_n 0, 1) := by decide +kernel
theorem dX12_text_16 : decode cX12_text 16 = .ok (.iconst 0, 1) := by decide +kernel
theorem dX12_text_17 : decode cX12_text 17 = .ok (.putfield 196, 3) := by decide +kernel
theorem dX12_text_20 : decode cX12_text 20 = .ok (.aload_n 0, 1) := by decide +kernel
theorem dX12_text_21 : decode cX12_text 21 = .ok (.invokevirtual 193, 3) := by decide +kernel
theorem dX12_text_24 : decode cX12_text 24 = .ok (.iconst 1, 1) := by decide +kernel
theorem dX12_text_25 : decode cX12_text 25 = .ok (.istore_n 1, 1) := by decide +kernel
theorem dX12_text_26 : decode cX12_text 26 = .ok (.iload_n 1, 1) := by decide +kernel
theorem dX12_text_27 : decode cX12_text 27 = .ok (.ifCond .eq 36, 3) := by decide +kernel
theorem dX12_text_30 : decode cX12_text 30 = .ok (.aload_n 0, 1) := by decide +kernel
theorem dX12_text_31 : decode cX12_text 31 = .ok (.getfield 169, 3) := by decide +kernel
theorem dX12_text_34 : decode cX12_text 34 = .ok (.ifCond .eq 29, 3) := by decide +kernel
theorem dX12_text_37 : decode cX12_text 37 = .ok (.aload_n 0, 1) := by decide +kernel
theorem dX12_text_38 : decode cX12_text 38 = .ok (.invokevirtual 233, 3) := by decide +kernel
theorem dX12_text_41 : decode cX12_text 41 = .ok (.istore_n 1, 1) := by decide +kernel
theorem dX12_text_42 : decode cX12_text 42 = .ok (.aload_n 0, 1) := by decide +kernel
theorem dX12_text_43 : decode cX12_text 43 = .ok (.dup, 1) := by decide +kernel
theorem dX12_text_44 : decode cX12_text 44 = .ok (.getfield 230, 3) := by decide +kernel
theorem dX12_text_47 : decode cX12_text 47 = .ok (.iload_n 1, 1) := by decide +kernel
theorem dX12_text_48 : decode cX12_text 48 = .ok (.ifCond .eq 7, 3) := by decide +kernel
theorem dX12_text_51 : decode cX12_text 51 = .ok (.iconst 1, 1) := by decide +kernel
theorem dX12_text_52 : decode cX12_text 52 = .ok (.goto 4, 3) := by decide +kernel
theorem dX12_text_55 : decode cX12_text 55 = .ok (.iconst 0, 1) := by decide +kernel
theorem dX12_text_56 : decode cX12_text 56 = .ok (.iadd, 1) := by decide +kernel
theorem dX12_text_57 : decode cX12_text 57 = .ok (.putfield 230, 3) := by decide +kernel
theorem dX12_text_60 : decode cX12_text 60 = .ok (.goto (-34), 3) := by decide +kernel
theorem dX12_text_63 : decode cX12_text 63 = .ok (.aload_n 0, 1) := by decide +kernel
theorem dX12_text_64 : decode cX12_text 64 = .ok (.iconst 0, 1) := by decide +kernel
theorem dX12_text_65 : decode cX12_text 65 = .ok (.putfield 116, 3) := by decide +kernel
theorem dX12_text_68 : decode cX12_text 68 = .ok (.aload_n 0, 1) := by decide +kernel
theorem dX12_text_69 : decode cX12_text 69 = .ok (.aload_n 0, 1) := by decide +kernel
theorem dX12_text_70 : decode cX12_text 70 = .ok (.getfield 184, 3) := by decide +kernel
theorem dX12_text_73 : decode cX12_text 73 = .ok (.putfield 236, 3) := by decide +kernel
theorem dX12_text_76 : decode cX12_text 76 = .ok (.aload_n 0, 1) := by decide +kernel
theorem dX12_text_77 : decode cX12_text 77 = .ok (.iload_n 1, 1) := by decide +kernel
theorem dX12_text_78 : decode cX12_text 78 = .ok (.ifCond .eq 7, 3) := by decide +kernel
theorem dX12_text_81 : decode cX12_text 81 = .ok (.iconst (-1), 1) := by decide +kernel
theorem dX12_text_82 : decode cX12_text 82 = .ok (.goto 7, 3) := by decide +kernel
theorem dX12_text_85 : decode cX12_text 85 = .ok (.aload_n 0, 1) := by decide +kernel
theorem dX12_text_86 : decode cX12_text 86 = .ok (.getfield 187, 3) := by decide +kernel
theorem dX12_text_89 : decode cX12_text 89 = .ok (.putfield 37, 3) := by decide +kernel
theorem dX12_text_92 : decode cX12_text 92 = .ok (.iload_n 1, 1) := by decide +kernel
theorem dX12_text_93 : decode cX12_text 93 = .ok (.ifCond .ne 5, 3) := by decide +kernel
theorem dX12_text_96 : decode cX12_text 96 = .ok (.iconst (-1), 1) := by decide +kernel
theorem dX12_text_97 : decode cX12_text 97 = .ok (.ireturn, 1) := by decide +kernel
theorem dX12_text_98 : decode cX12_text 98 = .ok (.aload_n 0, 1) := by decide +kernel
theorem dX12_text_99 : decode cX12_text 99 = .ok (.getfield 7, 3) := by decide +kernel
theorem dX12_text_102 : decode cX12_text 102 = .ok (.sipush 1335, 3) := by decide +kernel
theorem dX12_text_105 : decode cX12_text 105 = .ok (.aload_n 0, 1) := by decide +kernel
theorem dX12_text_106 : decode cX12_text 106 = .ok (.getfield 230, 3) := by decide +kernel
theorem dX12_text_109 : decode cX12_text 109 = .ok (.iastore, 1) := by decide +kernel
theorem dX12_text_110 : decode cX12_text 110 = .ok (.iconst 0, 1) := by decide +kernel
theorem dX12_text_111 : decode cX12_text 111 = .ok (.istore_n 2, 1) := by decide +kernel
theorem dX12_text_112 : decode cX12_text 112 = .ok (.iload_n 2, 1) := by decide +kernel
theorem dX12_text_113 : decode cX12_text 113 = .ok (.aload_n 0, 1) := by decide +kernel
theorem dX12_text_114 : decode cX12_text 114 = .ok (.getfield 230, 3) := by decide +kernel
theorem dX12_text_117 : decode cX12_text 117 = .ok (.if_icmp .ge 67, 3) := by decide +kernel
theorem dX12_text_120 : decode cX12_text 120 = .ok (.aload_n 0, 1) := by decide +kernel
theorem dX12_text_121 : decode cX12_text 121 = .ok (.getfield 7, 3) := by decide +kernel
theorem dX12_text_124 : decode cX12_text 124 = .ok (.sipush 1340, 3) := by decide +kernel
theorem dX12_text_127 : decode cX12_text 127 = .ok (.iload_n 2, 1) := by decide +kernel
theorem dX12_text_128 : decode cX12_text 128 = .ok (.iadd, 1) := by decide +kernel
theorem dX12_text_129 : decode cX12_text 129 = .ok (.aload_n 0, 1) := by decide +kernel
theorem dX12_text_130 : decode cX12_text 130 = .ok (.getfield 22, 3) := by decide +kernel
theorem dX12_text_133 : decode cX12_text 133 = .ok (.iconst 3, 1) := by decide +kernel
theorem dX12_text_134 : decode cX12_text 134 = .ok (.iload_n 2, 1) := by decide +kernel
theorem dX12_text_135 : decode cX12_text 135 = .ok (.imul, 1) := by decide +kernel
theorem dX12_text_136 : decode cX12_text 136 = .ok (.iaload, 1) := by decide +kernel
theorem dX12_text_137 : decode cX12_text 137 = .ok (.iastore, 1) := by decide +kernel
theorem dX12_text_138 : decode cX12_text 138 = .ok (.aload_n 0, 1) := by decide +kernel
theorem dX12_text_139 : decode cX12_text 139 = .ok (.getfield 7, 3) := by decide +kernel
theorem dX12_text_142 : decode cX12_text 142 = .ok (.sipush 1360, 3) := by decide +kernel
theorem dX12_text_145 : decode cX12_text 145 = .ok (.iload_n 2, 1) := by decide +kernel
theorem dX12_text_146 : decode cX12_text 146 = .ok (.iadd, 1) := by decide +kernel
theorem dX12_text_147 : decode cX12_text 147 = .ok (.aload_n 0, 1) := by decide +kernel
theorem dX12_text_148 : decode cX12_text 148 = .ok (.getfield 22, 3) := by decide +kernel
theorem dX12_text_151 : decode cX12_text 151 = .ok (.iconst 3, 1) := by decide +kernel
theorem dX12_text_152 : decode cX12_text 152 = .ok (.iload_n 2, 1) := by decide +kernel
theorem dX12_text_153 : decode cX12_text 153 = .ok (.imul, 1) := by decide +kernel
theorem dX12_text_154 : decode cX12_text 154 = .ok (.iconst 1, 1) := by decide +kernel
theorem dX12_text_155 : decode cX12_text 155 = .ok (.iadd, 1) := by decide +kernel
theorem dX12_text_156 : decode cX12_text 156 = .ok (.iaload, 1) := by decide +kernel
theorem dX12_text_157 : decode cX12_text 157 = .ok (.iastore, 1) := by decide +kernel
theorem dX12_text_158 : decode cX12_text 158 = .ok (.aload_n 0, 1) := by decide +kernel
theorem dX12_text_159 : decode cX12_text 159 = .ok (.getfield 7, 3) := by decide +kernel
theorem dX12_text_162 : decode cX12_text 162 = .ok (.sipush 1380, 3) := by decide +kernel
theorem dX12_text_165 : decode cX12_text 165 = .ok (.iload_n 2, 1) := by decide +kernel
theorem dX12_text_166 : decode cX12_text 166 = .ok (.iadd, 1) := by decide +kernel
theorem dX12_text_167 : decode cX12_text 167 = .ok (.aload_n 0, 1) := by decide +kernel
theorem dX12_text_168 : decode cX12_text 168 = .ok (.getfield 22, 3) := by decide +kernel
theorem dX12_text_171 : decode cX12_text 171 = .ok (.iconst 3, 1) := by decide +kernel
theorem dX12_text_172 : decode cX12_text 172 = .ok (.iload_n 2, 1) := by decide +kernel
theorem dX12_text_173 : decode cX12_text 173 = .ok (.imul, 1) := by decide +kernel
theorem dX12_text_174 : decode cX12_text 174 = .ok (.iconst 2, 1) := by decide +kernel
theorem dX12_text_175 : decode cX12_text 175 = .ok (.iadd, 1) := by decide +kernel
theorem dX12_text_176 : decode cX12_text 176 = .ok (.iaload, 1) := by decide +kernel
theorem dX12_text_177 : decode cX12_text 177 = .ok (.iastore, 1) := by decide +kernel
theorem dX12_text_178 : decode cX12_text 178 = .ok (.iinc 2 1, 3) := by decide +kernel
theorem dX12_text_181 : decode cX12_text 181 = .ok (.goto (-69), 3) := by decide +kernel
theorem dX12_text_184 : decode cX12_text 184 = .ok (.iconst 0, 1) := by decide +kernel
theorem dX12_text_185 : decode cX12_text 185 = .ok (.istore_n 2, 1) := by decide +kernel
theorem dX12_text_186 : decode cX12_text 186 = .ok (.iload_n 2, 1) := by decide +kernel
theorem dX12_text_187 : decode cX12_text 187 = .ok (.iconst 2, 1) := by decide +kernel
theorem dX12_text_188 : decode cX12_text 188 = .ok (.aload_n 0, 1) := by decide +kernel
theorem dX12_text_189 : decode cX12_text 189 = .ok (.getfield 196, 3) := by decide +kernel
theorem dX12_text_192 : decode cX12_text 192 = .ok (.imul, 1) := by decide +kernel
theorem dX12_text_193 : decode cX12_text 193 = .ok (.if_icmp .ge 25, 3) := by decide +kernel
theorem dX12_text_196 : decode cX12_text 196 = .ok (.aload_n 0, 1) := by decide +kernel
theorem dX12_text_197 : decode cX12_text 197 = .ok (.getfield 7, 3) := by decide +kernel
theorem dX12_text_200 : decode cX12_text 200 = .ok (.sipush 1400, 3) := by decide +kernel
theorem dX12_text_203 : decode cX12_text 203 = .ok (.iload_n 2, 1) := by decide +kernel
theorem dX12_text_204 : decode cX12_text 204 = .ok (.iadd, 1) := by decide +kernel
theorem dX12_text_205 : decode cX12_text 205 = .ok (.aload_n 0, 1) := by decide +kernel
theorem dX12_text_206 : decode cX12_text 206 = .ok (.getfield 25, 3) := by decide +kernel
theorem dX12_text_209 : decode cX12_text 209 = .ok (.iload_n 2, 1) := by decide +kernel
theorem dX12_text_210 : decode cX12_text 210 = .ok (.iaload, 1) := by decide +kernel
theorem dX12_text_211 : decode cX12_text 211 = .ok (.iastore, 1) := by decide +kernel
theorem dX12_text_212 : decode cX12_text 212 = .ok (.iinc 2 1, 3) := by decide +kernel
theorem dX12_text_215 : decode cX12_text 215 = .ok (.goto (-29), 3) := by decide +kernel
theorem dX12_text_218 : decode cX12_text 218 = .ok (.aload_n 0, 1) := by decide +kernel
theorem dX12_text_219 : decode cX12_text 219 = .ok (.getfield 230, 3) := by decide +kernel
theorem dX12_text_222 : decode cX12_text 222 = .ok (.ireturn, 1) := by decide +kernel
abbrev nd_X12_text : List Nat := [100, 101, 105, 106, 107]
abbrev ld_X12_text : List (Nat × Nat) := [(100, 0), (100, 6), (100, 7), (100, 8)]
theorem sn_X12_text_X12_next0 : ∀ c ∈ nd_X12_next0, c ∈ nd_X12_text := by decide
theorem sl_X12_text_X12_next0 : ∀ q ∈ ld_X12_next0, q ∈ ld_X12_text := by decide
theorem sn_X12_text_X12_aLine : ∀ c ∈ nd_X12_aLine, c ∈ nd_X12_text := by decide
theorem sl_X12_text_X12_aLine : ∀ q ∈ ld_X12_aLine, q ∈ ld_X12_text := by decide
def f_X12_text_186  : Nat → Int32 → zH → zR
  | 0 => fun _ _ => none
  | n + 1 => fun x2 h => (if ((2 : Int32) * (h 100 12)) ≤ x2 then (some ((h 100 11), h)) else (zck x2 820 (zck ((1400 : Int32) + x2) 2220 (zst (zup h 101 (Int32.toNatClampNeg ((1400 : Int32) + x2)) (h 106 (Int32.toNatClampNeg x2))) fun h11 => (zlt (x2 + (1 : Int32)) fun y12 => (f_X12_text_186  n y12 h11))))))
def f_X12_text_112  : Nat → Int32 → zH → zR
  | 0 => fun _ _ => none
  | n + 1 => fun x2 h => (if (h 100 11) ≤ x2 then (f_X12_text_186  zN (0 : Int32) h) else (zck ((3 : Int32) * x2) 48 (zck ((1340 : Int32) + x2) 2220 (zst (zup h 101 (Int32.toNatClampNeg ((1340 : Int32) + x2)) (h 105 (Int32.toNatClampNeg ((3 : Int32) * x2)))) fun h13 => (zck (((3 : Int32) * x2) + (1 : Int32)) 48 (zck ((1360 : Int32) + x2) 2220 (zst (zup h13 101 (Int32.toNatClampNeg ((1360 : Int32) + x2)) (h13 105 (Int32.toNatClampNeg (((3 : Int32) * x2) + (1 : Int32))))) fun h14 => (zck (((3 : Int32) * x2) + (2 : Int32)) 48 (zck ((1380 : Int32) + x2) 2220 (zst (zup h14 101 (Int32.toNatClampNeg ((1380 : Int32) + x2)) (h14 105 (Int32.toNatClampNeg (((3 : Int32) * x2) + (2 : Int32))))) fun h15 => (zlt (x2 + (1 : Int32)) fun y16 => (f_X12_text_112  n y16 h15))))))))))))
def f_X12_text_89  (x1 : Int32) (s0 : Int32) (h : zH) : zR := (zst (zup h 100 22 s0) fun h9 => (if x1 = 0 then (some ((-1 : Int32), h9)) else (zst (zup h9 101 1335 (h9 100 11)) fun h10 => (f_X12_text_112  zN (0 : Int32) h10))))
def f_X12_text_63  (x1 : Int32) (h : zH) : zR := (zst (zup h 100 13 (0 : Int32)) fun h7 => (zst (zup h7 100 20 (h7 100 18)) fun h8 => (if x1 = 0 then (f_X12_text_89  x1 (h8 100 19) h8) else (f_X12_text_89  x1 (-1 : Int32) h8))))
def f_X12_text_56 (k26 : Int32 → zH → zR) (x1 : Int32) (s0 : Int32) (s1 : Int32) (h : zH) : zR := (zst (zup h 100 11 (s1 + s0)) fun h19 => (k26 x1 h19))
def f_X12_text_26  : Nat → Int32 → zH → zR
  | 0 => fun _ _ => none
  | n + 1 => fun x1 h => (if x1 = 0 then (f_X12_text_63  x1 h) else (if (h 100 15) = 0 then (f_X12_text_63  x1 h) else (zbd (f_X12_aLine  h) fun r17 h18 => (if r17 = 0 then (f_X12_text_56 (f_X12_text_26  n) r17 (0 : Int32) (h18 100 11) h18) else (f_X12_text_56 (f_X12_text_26  n) r17 (1 : Int32) (h18 100 11) h18)))))
def f_X12_text  (h : zH) : zR := (zst (zup h 100 18 (0 : Int32)) fun h1 => (zst (zup h1 100 14 (0 : Int32)) fun h2 => (zst (zup h2 100 11 (0 : Int32)) fun h3 => (zst (zup h3 100 12 (0 : Int32)) fun h4 => (zbd (f_X12_next0  h4) fun r5 h6 => (f_X12_text_26  zN (1 : Int32) h6))))))
variable {p : Program} {l : Launch} {e : Env} {s : State} {m : MethodId} {args : Array Value} {below : List Frame} {meth : Method} {c : Code} {G : zG} {q : Int32 × zH}
set_option maxHeartbeats 4000000 in
set_option maxRecDepth 100000 in
theorem w_X12_text_186  (C : zC G p s m args meth c cX12_text 3 RX12 (some .int)) (hm : ∀ c ∈ nd_X12_text, c ∈ znm G) (hk : ∀ q ∈ ld_X12_text, zlk G q.1 q.2 = true)  : ∀ n, ∀ (ls : Array Slot) (H : Heap) (locs : List Loc) (h : zH) (x2 : Int32), lv_has ls 3 [(0, .ref (zal G 100)), (2, .int x2)] → zS G h s.heap H locs → f_X12_text_186  n x2 h = some q → W p l e (zrm (52)) s m args below meth c H locs 0 0 (MQ below (zQI G q.2 q.1) args s 0 0 (zA G)) (F0 m 186 ls []) := by
  intro n
  induction n with
  | zero => intro ls H locs h x2 hl hS hf; cases hf
  | succ n ih =>
    intro ls H locs h x2 hl hS hf
    rw [f_X12_text_186] at hf
    refine lv_iload_n C.1 C.2.1 dX12_text_186 rfl (lv_at hl 1 rfl) ?_
    refine lv_iconst (v := (2 : Int32)) C.1 C.2.1 dX12_text_187 rfl ?_
    refine lv_aload_n C.1 C.2.1 dX12_text_188 rfl (lv_at hl 0 rfl) ?_
    refine zgetI C hS ff_X12_196_100 (hm 100 (by decide)) dX12_text_189 ?_
    refine lv_imul C.1 C.2.1 dX12_text_192 ?_
    refine lv_icmp_ge (tgt := 218) C.1 C.2.1 dX12_text_193 (by decide) (fun hc => ?_) (fun hc => ?_)
    · have hf := zif_t hc hf
      refine lv_aload_n C.1 C.2.1 dX12_text_218 rfl (lv_at hl 0 rfl) ?_
      refine zgetI C hS ff_X12_230_100 (hm 100 (by decide)) dX12_text_219 ?_
      exact zretI C hS hf dX12_text_222
    · have hf := zif_f hc hf
      refine lv_aload_n C.1 C.2.1 dX12_text_196 rfl (lv_at hl 0 rfl) ?_
      refine zgetR C hS ff_X12_7_100 (hm 100 (by decide)) (hk (100, 0) (by decide)) dX12_text_197 ?_
      refine lv_sipush (v := (1400 : Int32)) C.1 C.2.1 dX12_text_200 rfl ?_
      refine lv_iload_n C.1 C.2.1 dX12_text_203 rfl (lv_at hl 1 rfl) ?_
      refine lv_iadd C.1 C.2.1 dX12_text_204 ?_
      refine lv_aload_n C.1 C.2.1 dX12_text_205 rfl (lv_at hl 0 rfl) ?_
      refine zgetR C hS ff_X12_25_100 (hm 100 (by decide)) (hk (100, 7) (by decide)) dX12_text_206 ?_
      refine lv_iload_n C.1 C.2.1 dX12_text_209 rfl (lv_at hl 1 rfl) ?_
      obtain ⟨hi, hf⟩ := zck_some hf
      refine zald C hS sh_106 (hm 106 (by decide)) hi dX12_text_210 ?_
      obtain ⟨hi, hf⟩ := zck_some hf
      refine zast C hS sh_101 (hm 101 (by decide)) hi dX12_text_211 (fun H locs hS => ?_)
      obtain ⟨h11, eh11, hf⟩ := zst_some hf
      have hS : zS G h11 s.heap H locs := by rw [eh11]; exact hS
      obtain ⟨y12, ey12, hf⟩ := zlt_some hf
      refine lv_iinc (v := y12) (lv' := [(2, .int y12), (0, .ref (zal G 100))]) C.1 C.2.1 dX12_text_212 hl (k := 1) rfl ey12.symm (by decide) rfl (fun ls hl => ?_)
      refine lv_goto (tgt := 186) C.1 C.2.1 dX12_text_215 (by decide) ?_
      exact ih _ _ _ _ _ (lv_sub hl [1, 0] rfl) hS hf
set_option maxHeartbeats 4000000 in
set_option maxRecDepth 100000 in
theorem w_X12_text_112  (C : zC G p s m args meth c cX12_text 3 RX12 (some .int)) (hm : ∀ c ∈ nd_X12_text, c ∈ znm G) (hk : ∀ q ∈ ld_X12_text, zlk G q.1 q.2 = true)  : ∀ n, ∀ (ls : Array Slot) (H : Heap) (locs : List Loc) (h : zH) (x2 : Int32), lv_has ls 3 [(0, .ref (zal G 100)), (2, .int x2)] → zS G h s.heap H locs → f_X12_text_112  n x2 h = some q → W p l e (zrm (52)) s m args below meth c H locs 0 0 (MQ below (zQI G q.2 q.1) args s 0 0 (zA G)) (F0 m 112 ls []) := by
  intro n
  induction n with
  | zero => intro ls H locs h x2 hl hS hf; cases hf
  | succ n ih =>
    intro ls H locs h x2 hl hS hf
    rw [f_X12_text_112] at hf
    refine lv_iload_n C.1 C.2.1 dX12_text_112 rfl (lv_at hl 1 rfl) ?_
    refine lv_aload_n C.1 C.2.1 dX12_text_113 rfl (lv_at hl 0 rfl) ?_
    refine zgetI C hS ff_X12_230_100 (hm 100 (by decide)) dX12_text_114 ?_
    refine lv_icmp_ge (tgt := 184) C.1 C.2.1 dX12_text_117 (by decide) (fun hc => ?_) (fun hc => ?_)
    · have hf := zif_t hc hf
      refine lv_iconst (v := (0 : Int32)) C.1 C.2.1 dX12_text_184 rfl ?_
      refine lv_istore_n (lv' := [(2, .int (0 : Int32)), (0, .ref (zal G 100))]) C.1 C.2.1 dX12_text_185 rfl hl (by decide) rfl (fun ls hl => ?_)
      exact w_X12_text_186 C hm hk  zN _ _ _ _ _ (lv_sub hl [1, 0] rfl) hS hf
    · have hf := zif_f hc hf
      refine lv_aload_n C.1 C.2.1 dX12_text_120 rfl (lv_at hl 0 rfl) ?_
      refine zgetR C hS ff_X12_7_100 (hm 100 (by decide)) (hk (100, 0) (by decide)) dX12_text_121 ?_
      refine lv_sipush (v := (1340 : Int32)) C.1 C.2.1 dX12_text_124 rfl ?_
      refine lv_iload_n C.1 C.2.1 dX12_text_127 rfl (lv_at hl 1 rfl) ?_
      refine lv_iadd C.1 C.2.1 dX12_text_128 ?_
      refine lv_aload_n C.1 C.2.1 dX12_text_129 rfl (lv_at hl 0 rfl) ?_
      refine zgetR C hS ff_X12_22_100 (hm 100 (by decide)) (hk (100, 6) (by decide)) dX12_text_130 ?_
      refine lv_iconst (v := (3 : Int32)) C.1 C.2.1 dX12_text_133 rfl ?_
      refine lv_iload_n C.1 C.2.1 dX12_text_134 rfl (lv_at hl 1 rfl) ?_
      refine lv_imul C.1 C.2.1 dX12_text_135 ?_
      obtain ⟨hi, hf⟩ := zck_some hf
      refine zald C hS sh_105 (hm 105 (by decide)) hi dX12_text_136 ?_
      obtain ⟨hi, hf⟩ := zck_some hf
      refine zast C hS sh_101 (hm 101 (by decide)) hi dX12_text_137 (fun H locs hS => ?_)
      obtain ⟨h13, eh13, hf⟩ := zst_some hf
      have hS : zS G h13 s.heap H locs := by rw [eh13]; exact hS
      refine lv_aload_n C.1 C.2.1 dX12_text_138 rfl (lv_at hl 0 rfl) ?_
      refine zgetR C hS ff_X12_7_100 (hm 100 (by decide)) (hk (100, 0) (by decide)) dX12_text_139 ?_
      refine lv_sipush (v := (1360 : Int32)) C.1 C.2.1 dX12_text_142 rfl ?_
      refine lv_iload_n C.1 C.2.1 dX12_text_145 rfl (lv_at hl 1 rfl) ?_
      refine lv_iadd C.1 C.2.1 dX12_text_146 ?_
      refine lv_aload_n C.1 C.2.1 dX12_text_147 rfl (lv_at hl 0 rfl) ?_
      refine zgetR C hS ff_X12_22_100 (hm 100 (by decide)) (hk (100, 6) (by decide)) dX12_text_148 ?_
      refine lv_iconst (v := (3 : Int32)) C.1 C.2.1 dX12_text_151 rfl ?_
      refine lv_iload_n C.1 C.2.1 dX12_text_152 rfl (lv_at hl 1 rfl) ?_
      refine lv_imul C.1 C.2.1 dX12_text_153 ?_
      refine lv_iconst (v := (1 : Int32)) C.1 C.2.1 dX12_text_154 rfl ?_
      refine lv_iadd C.1 C.2.1 dX12_text_155 ?_
      obtain ⟨hi, hf⟩ := zck_some hf
      refine zald C hS sh_105 (hm 105 (by decide)) hi dX12_text_156 ?_
      obtain ⟨hi, hf⟩ := zck_some hf
      refine zast C hS sh_101 (hm 101 (by decide)) hi dX12_text_157 (fun H locs hS => ?_)
      obtain ⟨h14, eh14, hf⟩ := zst_some hf
      have hS : zS G h14 s.heap H locs := by rw [eh14]; exact hS
      refine lv_aload_n C.1 C.2.1 dX12_text_158 rfl (lv_at hl 0 rfl) ?_
      refine zgetR C hS ff_X12_7_100 (hm 100 (by decide)) (hk (100, 0) (by decide)) dX12_text_159 ?_
      refine lv_sipush (v := (1380 : Int32)) C.1 C.2.1 dX12_text_162 rfl ?_
      refine lv_iload_n C.1 C.2.1 dX12_text_165 rfl (lv_at hl 1 rfl) ?_
      refine lv_iadd C.1 C.2.1 dX12_text_166 ?_
      refine lv_aload_n C.1 C.2.1 dX12_text_167 rfl (lv_at hl 0 rfl) ?_
      refine zgetR C hS ff_X12_22_100 (hm 100 (by decide)) (hk (100, 6) (by decide)) dX12_text_168 ?_
      refine lv_iconst (v := (3 : Int32)) C.1 C.2.1 dX12_text_171 rfl ?_
      refine lv_iload_n C.1 C.2.1 dX12_text_172 rfl (lv_at hl 1 rfl) ?_
      refine lv_imul C.1 C.2.1 dX12_text_173 ?_
      refine lv_iconst (v := (2 : Int32)) C.1 C.2.1 dX12_text_174 rfl ?_
      refine lv_iadd C.1 C.2.1 dX12_text_175 ?_
      obtain ⟨hi, hf⟩ := zck_some hf
      refine zald C hS sh_105 (hm 105 (by decide)) hi dX12_text_176 ?_
      obtain ⟨hi, hf⟩ := zck_some hf
      refine zast C hS sh_101 (hm 101 (by decide)) hi dX12_text_177 (fun H locs hS => ?_)
      obtain ⟨h15, eh15, hf⟩ := zst_some hf
      have hS : zS G h15 s.heap H locs := by rw [eh15]; exact hS
      obtain ⟨y16, ey16, hf⟩ := zlt_some hf
      refine lv_iinc (v := y16) (lv' := [(2, .int y16), (0, .ref (zal G 100))]) C.1 C.2.1 dX12_text_178 hl (k := 1) rfl ey16.symm (by decide) rfl (fun ls hl => ?_)
      refine lv_goto (tgt := 112) C.1 C.2.1 dX12_text_181 (by decide) ?_
      exact ih _ _ _ _ _ (lv_sub hl [1, 0] rfl) hS hf
set_option maxHeartbeats 4000000 in
set_option maxRecDepth 100000 in
theorem w_X12_text_89  (C : zC G p s m args meth c cX12_text 3 RX12 (some .int)) (hm : ∀ c ∈ nd_X12_text, c ∈ znm G) (hk : ∀ q ∈ ld_X12_text, zlk G q.1 q.2 = true)  : ∀ (ls : Array Slot) (H : Heap) (locs : List Loc) (h : zH) (x1 : Int32) (s0 : Int32), lv_has ls 3 [(0, .ref (zal G 100)), (1, .int x1)] → zS G h s.heap H locs → f_X12_text_89  x1 s0 h = some q → W p l e (zrm (52)) s m args below meth c H locs 0 0 (MQ below (zQI G q.2 q.1) args s 0 0 (zA G)) (F0 m 89 ls [.int s0, .ref (zal G 100)]) := by
  intro ls H locs h x1 s0 hl hS hf
  unfold f_X12_text_89 at hf
  refine zputI C hS ff_X12_37_100 fw_100_22 (hm 100 (by decide)) dX12_text_89 (fun H locs hS => ?_)
  obtain ⟨h9, eh9, hf⟩ := zst_some hf
  have hS : zS G h9 s.heap H locs := by rw [eh9]; exact hS
  refine lv_iload_n C.1 C.2.1 dX12_text_92 rfl (lv_at hl 1 rfl) ?_
  refine lv_if_ne (tgt := 98) C.1 C.2.1 dX12_text_93 (by decide) (fun hc => ?_) (fun hc => ?_)
  · have hf := zif_f hc hf
    refine lv_aload_n C.1 C.2.1 dX12_text_98 rfl (lv_at hl 0 rfl) ?_
    refine zgetR C hS ff_X12_7_100 (hm 100 (by decide)) (hk (100, 0) (by decide)) dX12_text_99 ?_
    refine lv_sipush (v := (1335 : Int32)) C.1 C.2.1 dX12_text_102 rfl ?_
    refine lv_aload_n C.1 C.2.1 dX12_text_105 rfl (lv_at hl 0 rfl) ?_
    refine zgetI C hS ff_X12_230_100 (hm 100 (by decide)) dX12_text_106 ?_
    refine zast C hS sh_101 (hm 101 (by decide)) (vp_in_iff.mpr (by decide)) dX12_text_109 (fun H locs hS => ?_)
    obtain ⟨h10, eh10, hf⟩ := zst_some hf
    have hS : zS G h10 s.heap H locs := by rw [eh10]; exact hS
    refine lv_iconst (v := (0 : Int32)) C.1 C.2.1 dX12_text_110 rfl ?_
    refine lv_istore_n (lv' := [(2, .int (0 : Int32)), (0, .ref (zal G 100)), (1, .int x1)]) C.1 C.2.1 dX12_text_111 rfl hl (by decide) rfl (fun ls hl => ?_)
    exact w_X12_text_112 C hm hk  zN _ _ _ _ _ (lv_sub hl [1, 0] rfl) hS hf
  · have hf := zif_t hc hf
    refine lv_iconst (v := (-1 : Int32)) C.1 C.2.1 dX12_text_96 rfl ?_
    exact zretI C hS hf dX12_text_97
set_option maxHeartbeats 4000000 in
set_option maxRecDepth 100000 in
theorem w_X12_text_63  (C : zC G p s m args meth c cX12_text 3 RX12 (some .int)) (hm : ∀ c ∈ nd_X12_text, c ∈ znm G) (hk : ∀ q ∈ ld_X12_text, zlk G q.1 q.2 = true)  : ∀ (ls : Array Slot) (H : Heap) (locs : List Loc) (h : zH) (x1 : Int32), lv_has ls 3 [(0, .ref (zal G 100)), (1, .int x1)] → zS G h s.heap H locs → f_X12_text_63  x1 h = some q → W p l e (zrm (52)) s m args below meth c H locs 0 0 (MQ below (zQI G q.2 q.1) args s 0 0 (zA G)) (F0 m 63 ls []) := by
  intro ls H locs h x1 hl hS hf
  unfold f_X12_text_63 at hf
  refine lv_aload_n C.1 C.2.1 dX12_text_63 rfl (lv_at hl 0 rfl) ?_
  refine lv_iconst (v := (0 : Int32)) C.1 C.2.1 dX12_text_64 rfl ?_
  refine zputI C hS ff_X12_116_100 fw_100_13 (hm 100 (by decide)) dX12_text_65 (fun H locs hS => ?_)
  obtain ⟨h7, eh7, hf⟩ := zst_some hf
  have hS : zS G h7 s.heap H locs := by rw [eh7]; exact hS
  refine lv_aload_n C.1 C.2.1 dX12_text_68 rfl (lv_at hl 0 rfl) ?_
  refine lv_aload_n C.1 C.2.1 dX12_text_69 rfl (lv_at hl 0 rfl) ?_
  refine zgetI C hS ff_X12_184_100 (hm 100 (by decide)) dX12_text_70 ?_
  refine zputI C hS ff_X12_236_100 fw_100_20 (hm 100 (by decide)) dX12_text_73 (fun H locs hS => ?_)
  obtain ⟨h8, eh8, hf⟩ := zst_some hf
  have hS : zS G h8 s.heap H locs := by rw [eh8]; exact hS
  refine lv_aload_n C.1 C.2.1 dX12_text_76 rfl (lv_at hl 0 rfl) ?_
  refine lv_iload_n C.1 C.2.1 dX12_text_77 rfl (lv_at hl 1 rfl) ?_
  refine lv_if_eq (tgt := 85) C.1 C.2.1 dX12_text_78 (by decide) (fun hc => ?_) (fun hc => ?_)
  · have hf := zif_t hc hf
    refine lv_aload_n C.1 C.2.1 dX12_text_85 rfl (lv_at hl 0 rfl) ?_
    refine zgetI C hS ff_X12_187_100 (hm 100 (by decide)) dX12_text_86 ?_
    exact w_X12_text_89 C hm hk  _ _ _ _ _ _ (lv_sub hl [0, 1] rfl) hS hf
  · have hf := zif_f hc hf
    refine lv_iconst (v := (-1 : Int32)) C.1 C.2.1 dX12_text_81 rfl ?_
    refine lv_goto (tgt := 89) C.1 C.2.1 dX12_text_82 (by decide) ?_
    exact w_X12_text_89 C hm hk  _ _ _ _ _ _ (lv_sub hl [0, 1] rfl) hS hf
set_option maxHeartbeats 4000000 in
set_option maxRecDepth 100000 in
theorem w_X12_text_56 {k26 : Int32 → zH → zR} (C : zC G p s m args meth c cX12_text 3 RX12 (some .int)) (hm : ∀ c ∈ nd_X12_text, c ∈ znm G) (hk : ∀ q ∈ ld_X12_text, zlk G q.1 q.2 = true) (hk26 : ∀ (ls : Array Slot) (H : Heap) (locs : List Loc) (h : zH) (x1 : Int32), lv_has ls 3 [(0, .ref (zal G 100)), (1, .int x1)] → zS G h s.heap H locs → k26 x1 h = some q → W p l e (zrm (52)) s m args below meth c H locs 0 0 (MQ below (zQI G q.2 q.1) args s 0 0 (zA G)) (F0 m 26 ls [])) : ∀ (ls : Array Slot) (H : Heap) (locs : List Loc) (h : zH) (x1 : Int32) (s0 : Int32) (s1 : Int32), lv_has ls 3 [(0, .ref (zal G 100)), (1, .int x1)] → zS G h s.heap H locs → f_X12_text_56 k26 x1 s0 s1 h = some q → W p l e (zrm (52)) s m args below meth c H locs 0 0 (MQ below (zQI G q.2 q.1) args s 0 0 (zA G)) (F0 m 56 ls [.int s0, .int s1, .ref (zal G 100)]) := by
  intro ls H locs h x1 s0 s1 hl hS hf
  unfold f_X12_text_56 at hf
  refine lv_iadd C.1 C.2.1 dX12_text_56 ?_
  refine zputI C hS ff_X12_230_100 fw_100_11 (hm 100 (by decide)) dX12_text_57 (fun H locs hS => ?_)
  obtain ⟨h19, eh19, hf⟩ := zst_some hf
  have hS : zS G h19 s.heap H locs := by rw [eh19]; exact hS
  refine lv_goto (tgt := 26) C.1 C.2.1 dX12_text_60 (by decide) ?_
  exact hk26 _ _ _ _ _ (lv_sub hl [0, 1] rfl) hS hf
set_option maxHeartbeats 4000000 in
set_option maxRecDepth 100000 in
theorem w_X12_text_26  (C : zC G p s m args meth c cX12_text 3 RX12 (some .int)) (hm : ∀ c ∈ nd_X12_text, c ∈ znm G) (hk : ∀ q ∈ ld_X12_text, zlk G q.1 q.2 = true)  : ∀ n, ∀ (ls : Array Slot) (H : Heap) (locs : List Loc) (h : zH) (x1 : Int32), lv_has ls 3 [(0, .ref (zal G 100)), (1, .int x1)] → zS G h s.heap H locs → f_X12_text_26  n x1 h = some q → W p l e (zrm (52)) s m args below meth c H locs 0 0 (MQ below (zQI G q.2 q.1) args s 0 0 (zA G)) (F0 m 26 ls []) := by
  intro n
  induction n with
  | zero => intro ls H locs h x1 hl hS hf; cases hf
  | succ n ih =>
    intro ls H locs h x1 hl hS hf
    rw [f_X12_text_26] at hf
    refine lv_iload_n C.1 C.2.1 dX12_text_26 rfl (lv_at hl 1 rfl) ?_
    refine lv_if_eq (tgt := 63) C.1 C.2.1 dX12_text_27 (by decide) (fun hc => ?_) (fun hc => ?_)
    · have hf := zif_t hc hf
      exact w_X12_text_63 C hm hk  _ _ _ _ _ (lv_sub hl [0, 1] rfl) hS hf
    · have hf := zif_f hc hf
      refine lv_aload_n C.1 C.2.1 dX12_text_30 rfl (lv_at hl 0 rfl) ?_
      refine zgetI C hS ff_X12_169_100 (hm 100 (by decide)) dX12_text_31 ?_
      refine lv_if_eq (tgt := 63) C.1 C.2.1 dX12_text_34 (by decide) (fun hc => ?_) (fun hc => ?_)
      · have hf := zif_t hc hf
        exact w_X12_text_63 C hm hk  _ _ _ _ _ (lv_sub hl [0, 1] rfl) hS hf
      · have hf := zif_f hc hf
        refine lv_aload_n C.1 C.2.1 dX12_text_37 rfl (lv_at hl 0 rfl) ?_
        obtain ⟨r17, h18, er17, hf⟩ := zbd_some hf
        refine zcallVI (As := []) (rest := []) C hS mv_X12_233 (c_X12_aLine l G h  (r17, h18) (fun c h => hm c (sn_X12_text_X12_aLine c h)) (fun q h => hk q (sl_X12_text_X12_aLine q h)) er17) (hm 100 (by decide)) ⟨_, _, _, sh_100, rfl, rfl⟩ rfl rfl (Nat.le_of_ble_eq_true rfl) hl.1 ⟨Nat.le_of_ble_eq_true rfl, Nat.le_of_ble_eq_true rfl, Nat.le_of_ble_eq_true rfl, Nat.le_of_ble_eq_true rfl⟩ dX12_text_38 (fun H locs hS => ?_)
        refine lv_istore_n (lv' := [(1, .int r17), (0, .ref (zal G 100))]) C.1 C.2.1 dX12_text_41 rfl hl (by decide) rfl (fun ls hl => ?_)
        refine lv_aload_n C.1 C.2.1 dX12_text_42 rfl (lv_at hl 1 rfl) ?_
        refine lv_dup C.1 C.2.1 dX12_text_43 rfl ?_
        refine zgetI C hS ff_X12_230_100 (hm 100 (by decide)) dX12_text_44 ?_
        refine lv_iload_n C.1 C.2.1 dX12_text_47 rfl (lv_at hl 0 rfl) ?_
        refine lv_if_eq (tgt := 55) C.1 C.2.1 dX12_text_48 (by decide) (fun hc => ?_) (fun hc => ?_)
        · have hf := zif_t hc hf
          refine lv_iconst (v := (0 : Int32)) C.1 C.2.1 dX12_text_55 rfl ?_
          exact w_X12_text_56 C hm hk ih _ _ _ _ _ _ _ (lv_sub hl [1, 0] rfl) hS hf
        · have hf := zif_f hc hf
          refine lv_iconst (v := (1 : Int32)) C.1 C.2.1 dX12_text_51 rfl ?_
          refine lv_goto (tgt := 56) C.1 C.2.1 dX12_text_52 (by decide) ?_
          exact w_X12_text_56 C hm hk ih _ _ _ _ _ _ _ (lv_sub hl [1, 0] rfl) hS hf
set_option maxHeartbeats 4000000 in
set_option maxRecDepth 100000 in
theorem c_X12_text (l : Launch) (G : zG) (h : zH) (q : Int32 × zH) (hm : ∀ c ∈ nd_X12_text, c ∈ znm G) (hk : ∀ q ∈ ld_X12_text, zlk G q.1 q.2 = true) (hf : f_X12_text h = some q) : zCtI l yX12_text cX12_text 3 (some .int) (52) [.ref (zal G 100)] G h q.2 q.1 := by
  refine zMetI (by decide) (Nat.le_of_ble_eq_true rfl) ?_
  intro p e s m below meth c ls C hl hS
  have hl : lv_has ls 3 [(0, .ref (zal G 100))] := hl
  have C : zC G p s m [.ref (zal G 100)].toArray meth c cX12_text 3 RX12 (some .int) := C
  unfold f_X12_text at hf
  refine lv_aload_n C.1 C.2.1 dX12_text_0 rfl (lv_at hl 0 rfl) ?_
  refine lv_iconst (v := (0 : Int32)) C.1 C.2.1 dX12_text_1 rfl ?_
  refine zputI C hS ff_X12_184_100 fw_100_18 (hm 100 (by decide)) dX12_text_2 (fun H locs hS => ?_)
  obtain ⟨h1, eh1, hf⟩ := zst_some hf
  have hS : zS G h1 s.heap H locs := by rw [eh1]; exact hS
  refine lv_aload_n C.1 C.2.1 dX12_text_5 rfl (lv_at hl 0 rfl) ?_
  refine lv_iconst (v := (0 : Int32)) C.1 C.2.1 dX12_text_6 rfl ?_
  refine zputI C hS ff_X12_119_100 fw_100_14 (hm 100 (by decide)) dX12_text_7 (fun H locs hS => ?_)
  obtain ⟨h2, eh2, hf⟩ := zst_some hf
  have hS : zS G h2 s.heap H locs := by rw [eh2]; exact hS
  refine lv_aload_n C.1 C.2.1 dX12_text_10 rfl (lv_at hl 0 rfl) ?_
  refine lv_iconst (v := (0 : Int32)) C.1 C.2.1 dX12_text_11 rfl ?_
  refine zputI C hS ff_X12_230_100 fw_100_11 (hm 100 (by decide)) dX12_text_12 (fun H locs hS => ?_)
  obtain ⟨h3, eh3, hf⟩ := zst_some hf
  have hS : zS G h3 s.heap H locs := by rw [eh3]; exact hS
  refine lv_aload_n C.1 C.2.1 dX12_text_15 rfl (lv_at hl 0 rfl) ?_
  refine lv_iconst (v := (0 : Int32)) C.1 C.2.1 dX12_text_16 rfl ?_
  refine zputI C hS ff_X12_196_100 fw_100_12 (hm 100 (by decide)) dX12_text_17 (fun H locs hS => ?_)
  obtain ⟨h4, eh4, hf⟩ := zst_some hf
  have hS : zS G h4 s.heap H locs := by rw [eh4]; exact hS
  refine lv_aload_n C.1 C.2.1 dX12_text_20 rfl (lv_at hl 0 rfl) ?_
  obtain ⟨r5, h6, er5, hf⟩ := zbd_some hf
  refine zcallVV (As := []) (rest := []) C hS mv_X12_193 (c_X12_next0 l G h4  (r5, h6) (fun c h => hm c (sn_X12_text_X12_next0 c h)) (fun q h => hk q (sl_X12_text_X12_next0 q h)) er5) (hm 100 (by decide)) ⟨_, _, _, sh_100, rfl, rfl⟩ rfl rfl (Nat.le_of_ble_eq_true rfl) hl.1 ⟨Nat.le_of_ble_eq_true rfl, Nat.le_of_ble_eq_true rfl, Nat.le_of_ble_eq_true rfl, Nat.le_of_ble_eq_true rfl⟩ dX12_text_21 (fun H locs hS => ?_)
  refine lv_iconst (v := (1 : Int32)) C.1 C.2.1 dX12_text_24 rfl ?_
  refine lv_istore_n (lv' := [(1, .int (1 : Int32)), (0, .ref (zal G 100))]) C.1 C.2.1 dX12_text_25 rfl hl (by decide) rfl (fun ls hl => ?_)
  exact w_X12_text_26 C hm hk  zN _ _ _ _ _ (lv_sub hl [1, 0] rfl) hS hf
end
