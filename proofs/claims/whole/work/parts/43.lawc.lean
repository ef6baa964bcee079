section
variable {p : Program} {l : Launch} {e : Env} {s : State} {m : MethodId} {below : List Frame} {meth : Method} {c : Code} {H : Heap} {locs : List Loc} {cells slots : Nat} {Q : State → Prop} {G1 G2 : zG} {h1 h2 : zH} {ls : Array Slot} {b L : Nat} {xs : Nat → Int32} {x3 : Int32} {Rel : zH → zH → Prop}
set_option maxHeartbeats 4000000 in
set_option maxRecDepth 100000 in
theorem lc_state (C : zLC p s m #[.ref b] c code 4 RL) (hX : va_X b L xs s s.heap) (hbl : b < s.heap.size) (T : zT s H locs G1 h1 G2 h2) (I1 : zIX s G1 h1) (I2 : zIM s G2) (hs : zst_state Rel) (hrel : Rel h1 h2) (hl : lv_has ls 4 [(0, .ref b), (1, .ref (zal G1 0)), (2, .ref (zal G2 100)), (3, .int x3)]) (hin : ∀ k : Int32, 0 ≤ k → k ≤ 5 → vp_in (x3 + k) L) (hcs : cells + 21 ≤ 600000 ∧ slots + 3000 ≤ 7302249)
    (kn : ∀ (G3 : zG) (h3 h4 : zH) (H1 : Heap) (locs1 : List Loc), zT s H1 locs1 G3 h3 G2 h4 → zIX s G3 h3 → Rel h3 h4 → zal G3 0 = zal G1 0 → W p l e room_1 s m #[.ref b] below meth c H1 locs1 (cells + 21) (slots + 3000) Q (F0 m 1154 ls [])) : W p l e room_1 s m #[.ref b] below meth c H locs cells slots Q (F0 m 176 ls []) := by
  refine lv_aload_n C.1 C.2.1 dL_law_176 rfl (lv_at hl 1 rfl) ?_
  refine lv_aload_n C.1 C.2.1 dL_law_177 rfl (lv_at hl 0 rfl) ?_
  refine lv_iload_n C.1 C.2.1 dL_law_178 rfl (lv_at hl 3 rfl) ?_
  refine lv_iconst (v := (1 : Int32)) C.1 C.2.1 dL_law_179 rfl ?_
  refine lv_iadd C.1 C.2.1 dL_law_180 ?_
  refine va_sld (A := fun q => s.heap.size ≤ q) C.1 C.2.1 hX hbl (Nat.not_le.mpr hbl) T.2.2.2.2.2 (hin (1 : Int32) (by decide) (by decide)) dL_law_181 ?_
  obtain ⟨r, k1, k2, e1, e2, hrel2⟩ := hs h1 h2 (xs (Int32.toNatClampNeg (x3 + (1 : Int32)))) hrel 
  refine zLVI (c0 := 0) (X := fun G3 => G3 = zSA G1 (zA1 s G2)) (As := [.int (xs (Int32.toNatClampNeg (x3 + (1 : Int32))))]) (rest := []) C I1.1 T mv_L_13 (zLof rfl (c_X11_state l (zSA G1 (zA1 s G2)) h1 (xs (Int32.toNatClampNeg (x3 + (1 : Int32)))) (r, k1) (fun c hc => I1.2.1 c ((by decide : ∀ c ∈ nd_X11_state, c ∈ zBN) c hc)) (fun q hq => I1.2.2.1 q ((by decide : ∀ q ∈ ld_X11_state, q ∈ zBL) q hq)) e1)) (fun G3 h9 => by rw [h9]; rfl) (I1.2.1 0 (by decide)) ⟨_, _, _, sh_0, rfl, rfl⟩ rfl rfl (Nat.le_of_ble_eq_true rfl) hl.1 ⟨Nat.le_of_ble_eq_true rfl, Nat.le_of_ble_eq_true rfl, by show cells + 0 ≤ 600000; omega, by show slots + 0 ≤ 7302249; omega⟩ dL_law_182 (fun G3 H locs hG T1 => ?_)
  have I3 : zIX s G3 k1 := by rw [hG]; exact I1.SA.same (m_X11_state _ _  e1 0 (by decide))
  have ha : zal G3 0 = zal G1 0 := by rw [hG]; rfl
  skip
  refine lv_aload_n C.1 C.2.1 dL_law_185 rfl (lv_at hl 2 rfl) ?_
  refine lv_aload_n C.1 C.2.1 dL_law_186 rfl (lv_at hl 0 rfl) ?_
  refine lv_iload_n C.1 C.2.1 dL_law_187 rfl (lv_at hl 3 rfl) ?_
  refine lv_iconst (v := (1 : Int32)) C.1 C.2.1 dL_law_188 rfl ?_
  refine lv_iadd C.1 C.2.1 dL_law_189 ?_
  refine va_sld (A := fun q => s.heap.size ≤ q) C.1 C.2.1 hX hbl (Nat.not_le.mpr hbl) T1.2.2.2.2.2 (hin (1 : Int32) (by decide) (by decide)) dL_law_190 ?_
  refine zLVI (c0 := 100) (X := fun G4 => G4 = zSA G2 (zA1 s G3)) (As := [.int (xs (Int32.toNatClampNeg (x3 + (1 : Int32))))]) (rest := [.int r]) C I2.1 T1.symm mv_L_17 (zLof rfl (c_X12_state l (zSA G2 (zA1 s G3)) h2 (xs (Int32.toNatClampNeg (x3 + (1 : Int32)))) (r, k2) (fun c hc => I2.2.1 c ((by decide : ∀ c ∈ nd_X12_state, c ∈ zNm) c hc)) (fun q hq => I2.2.2 q ((by decide : ∀ q ∈ ld_X12_state, q ∈ zLm) q hq)) e2)) (fun G4 h9 => by rw [h9]; rfl) (I2.2.1 100 (by decide)) ⟨_, _, _, sh_100, rfl, rfl⟩ rfl rfl (Nat.le_of_ble_eq_true rfl) hl.1 ⟨Nat.le_of_ble_eq_true rfl, Nat.le_of_ble_eq_true rfl, by show cells + 0 + 0 ≤ 600000; omega, by show slots + 0 + 0 ≤ 7302249; omega⟩ dL_law_191 (fun G4 H locs hG4 T2 => ?_)
  have T3 : zT s H locs G3 k1 G2 k2 := by rw [hG4] at T2; exact T2.symm
  refine W.widen (k := cells + 21) (n := slots + 3000) (by omega) (by omega) ?_
  refine lv_icmp_eq (tgt := 1154) C.1 C.2.1 dL_law_194 (by decide) (fun hc => ?_) (fun hc => absurd rfl hc)
  exact kn G3 k1 k2 H locs T3 I3 hrel2 ha
set_option maxHeartbeats 4000000 in
set_option maxRecDepth 100000 in
theorem lc_half (C : zLC p s m #[.ref b] c code 4 RL) (hX : va_X b L xs s s.heap) (hbl : b < s.heap.size) (T : zT s H locs G1 h1 G2 h2) (I1 : zIX s G1 h1) (I2 : zIM s G2) (hs : zst_half Rel) (hrel : Rel h1 h2) (hl : lv_has ls 4 [(0, .ref b), (1, .ref (zal G1 0)), (2, .ref (zal G2 100)), (3, .int x3)]) (hin : ∀ k : Int32, 0 ≤ k → k ≤ 5 → vp_in (x3 + k) L) (hcs : cells + 21 ≤ 600000 ∧ slots + 3000 ≤ 7302249)
    (kn : ∀ (G3 : zG) (h3 h4 : zH) (H1 : Heap) (locs1 : List Loc), zT s H1 locs1 G3 h3 G2 h4 → zIX s G3 h3 → Rel h3 h4 → zal G3 0 = zal G1 0 → W p l e room_1 s m #[.ref b] below meth c H1 locs1 (cells + 21) (slots + 3000) Q (F0 m 1154 ls [])) : W p l e room_1 s m #[.ref b] below meth c H locs cells slots Q (F0 m 199 ls []) := by
  refine lv_aload_n C.1 C.2.1 dL_law_199 rfl (lv_at hl 1 rfl) ?_
  refine lv_aload_n C.1 C.2.1 dL_law_200 rfl (lv_at hl 0 rfl) ?_
  refine lv_iload_n C.1 C.2.1 dL_law_201 rfl (lv_at hl 3 rfl) ?_
  refine lv_iconst (v := (1 : Int32)) C.1 C.2.1 dL_law_202 rfl ?_
  refine lv_iadd C.1 C.2.1 dL_law_203 ?_
  refine va_sld (A := fun q => s.heap.size ≤ q) C.1 C.2.1 hX hbl (Nat.not_le.mpr hbl) T.2.2.2.2.2 (hin (1 : Int32) (by decide) (by decide)) dL_law_204 ?_
  refine lv_aload_n C.1 C.2.1 dL_law_205 rfl (lv_at hl 0 rfl) ?_
  refine lv_iload_n C.1 C.2.1 dL_law_206 rfl (lv_at hl 3 rfl) ?_
  refine lv_iconst (v := (2 : Int32)) C.1 C.2.1 dL_law_207 rfl ?_
  refine lv_iadd C.1 C.2.1 dL_law_208 ?_
  refine va_sld (A := fun q => s.heap.size ≤ q) C.1 C.2.1 hX hbl (Nat.not_le.mpr hbl) T.2.2.2.2.2 (hin (2 : Int32) (by decide) (by decide)) dL_law_209 ?_
  refine lv_aload_n C.1 C.2.1 dL_law_210 rfl (lv_at hl 0 rfl) ?_
  refine lv_iload_n C.1 C.2.1 dL_law_211 rfl (lv_at hl 3 rfl) ?_
  refine lv_iconst (v := (3 : Int32)) C.1 C.2.1 dL_law_212 rfl ?_
  refine lv_iadd C.1 C.2.1 dL_law_213 ?_
  refine va_sld (A := fun q => s.heap.size ≤ q) C.1 C.2.1 hX hbl (Nat.not_le.mpr hbl) T.2.2.2.2.2 (hin (3 : Int32) (by decide) (by decide)) dL_law_214 ?_
  refine lv_aload_n C.1 C.2.1 dL_law_215 rfl (lv_at hl 0 rfl) ?_
  refine lv_iload_n C.1 C.2.1 dL_law_216 rfl (lv_at hl 3 rfl) ?_
  refine lv_iconst (v := (4 : Int32)) C.1 C.2.1 dL_law_217 rfl ?_
  refine lv_iadd C.1 C.2.1 dL_law_218 ?_
  refine va_sld (A := fun q => s.heap.size ≤ q) C.1 C.2.1 hX hbl (Nat.not_le.mpr hbl) T.2.2.2.2.2 (hin (4 : Int32) (by decide) (by decide)) dL_law_219 ?_
  obtain ⟨r, k1, k2, e1, e2, hrel2⟩ := hs h1 h2 (xs (Int32.toNatClampNeg (x3 + (1 : Int32)))) (xs (Int32.toNatClampNeg (x3 + (2 : Int32)))) (xs (Int32.toNatClampNeg (x3 + (3 : Int32)))) (xs (Int32.toNatClampNeg (x3 + (4 : Int32)))) hrel 
  refine zLVI (c0 := 0) (X := fun G3 => G3 = zSA G1 (zA1 s G2)) (As := [.int (xs (Int32.toNatClampNeg (x3 + (1 : Int32)))), .int (xs (Int32.toNatClampNeg (x3 + (2 : Int32)))), .int (xs (Int32.toNatClampNeg (x3 + (3 : Int32)))), .int (xs (Int32.toNatClampNeg (x3 + (4 : Int32))))]) (rest := []) C I1.1 T mv_L_18 (zLof rfl (c_X11_half l (zSA G1 (zA1 s G2)) h1 (xs (Int32.toNatClampNeg (x3 + (1 : Int32)))) (xs (Int32.toNatClampNeg (x3 + (2 : Int32)))) (xs (Int32.toNatClampNeg (x3 + (3 : Int32)))) (xs (Int32.toNatClampNeg (x3 + (4 : Int32)))) (r, k1) (fun c hc => I1.2.1 c ((by decide : ∀ c ∈ nd_X11_half, c ∈ zBN) c hc)) (fun q hq => I1.2.2.1 q ((by decide : ∀ q ∈ ld_X11_half, q ∈ zBL) q hq)) e1)) (fun G3 h9 => by rw [h9]; rfl) (I1.2.1 0 (by decide)) ⟨_, _, _, sh_0, rfl, rfl⟩ rfl rfl (Nat.le_of_ble_eq_true rfl) hl.1 ⟨Nat.le_of_ble_eq_true rfl, Nat.le_of_ble_eq_true rfl, by show cells + 0 ≤ 600000; omega, by show slots + 0 ≤ 7302249; omega⟩ dL_law_220 (fun G3 H locs hG T1 => ?_)
  have I3 : zIX s G3 k1 := by rw [hG]; exact I1.SA.same (m_X11_half _ _ _ _ _  e1 0 (by decide))
  have ha : zal G3 0 = zal G1 0 := by rw [hG]; rfl
  skip
  refine lv_aload_n C.1 C.2.1 dL_law_223 rfl (lv_at hl 2 rfl) ?_
  refine lv_aload_n C.1 C.2.1 dL_law_224 rfl (lv_at hl 0 rfl) ?_
  refine lv_iload_n C.1 C.2.1 dL_law_225 rfl (lv_at hl 3 rfl) ?_
  refine lv_iconst (v := (1 : Int32)) C.1 C.2.1 dL_law_226 rfl ?_
  refine lv_iadd C.1 C.2.1 dL_law_227 ?_
  refine va_sld (A := fun q => s.heap.size ≤ q) C.1 C.2.1 hX hbl (Nat.not_le.mpr hbl) T1.2.2.2.2.2 (hin (1 : Int32) (by decide) (by decide)) dL_law_228 ?_
  refine lv_aload_n C.1 C.2.1 dL_law_229 rfl (lv_at hl 0 rfl) ?_
  refine lv_iload_n C.1 C.2.1 dL_law_230 rfl (lv_at hl 3 rfl) ?_
  refine lv_iconst (v := (2 : Int32)) C.1 C.2.1 dL_law_231 rfl ?_
  refine lv_iadd C.1 C.2.1 dL_law_232 ?_
  refine va_sld (A := fun q => s.heap.size ≤ q) C.1 C.2.1 hX hbl (Nat.not_le.mpr hbl) T1.2.2.2.2.2 (hin (2 : Int32) (by decide) (by decide)) dL_law_233 ?_
  refine lv_aload_n C.1 C.2.1 dL_law_234 rfl (lv_at hl 0 rfl) ?_
  refine lv_iload_n C.1 C.2.1 dL_law_235 rfl (lv_at hl 3 rfl) ?_
  refine lv_iconst (v := (3 : Int32)) C.1 C.2.1 dL_law_236 rfl ?_
  refine lv_iadd C.1 C.2.1 dL_law_237 ?_
  refine va_sld (A := fun q => s.heap.size ≤ q) C.1 C.2.1 hX hbl (Nat.not_le.mpr hbl) T1.2.2.2.2.2 (hin (3 : Int32) (by decide) (by decide)) dL_law_238 ?_
  refine lv_aload_n C.1 C.2.1 dL_law_239 rfl (lv_at hl 0 rfl) ?_
  refine lv_iload_n C.1 C.2.1 dL_law_240 rfl (lv_at hl 3 rfl) ?_
  refine lv_iconst (v := (4 : Int32)) C.1 C.2.1 dL_law_241 rfl ?_
  refine lv_iadd C.1 C.2.1 dL_law_242 ?_
  refine va_sld (A := fun q => s.heap.size ≤ q) C.1 C.2.1 hX hbl (Nat.not_le.mpr hbl) T1.2.2.2.2.2 (hin (4 : Int32) (by decide) (by decide)) dL_law_243 ?_
  refine zLVI (c0 := 100) (X := fun G4 => G4 = zSA G2 (zA1 s G3)) (As := [.int (xs (Int32.toNatClampNeg (x3 + (1 : Int32)))), .int (xs (Int32.toNatClampNeg (x3 + (2 : Int32)))), .int (xs (Int32.toNatClampNeg (x3 + (3 : Int32)))), .int (xs (Int32.toNatClampNeg (x3 + (4 : Int32))))]) (rest := [.int r]) C I2.1 T1.symm mv_L_22 (zLof rfl (c_X12_half l (zSA G2 (zA1 s G3)) h2 (xs (Int32.toNatClampNeg (x3 + (1 : Int32)))) (xs (Int32.toNatClampNeg (x3 + (2 : Int32)))) (xs (Int32.toNatClampNeg (x3 + (3 : Int32)))) (xs (Int32.toNatClampNeg (x3 + (4 : Int32)))) (r, k2) (fun c hc => I2.2.1 c ((by decide : ∀ c ∈ nd_X12_half, c ∈ zNm) c hc)) (fun q hq => I2.2.2 q ((by decide : ∀ q ∈ ld_X12_half, q ∈ zLm) q hq)) e2)) (fun G4 h9 => by rw [h9]; rfl) (I2.2.1 100 (by decide)) ⟨_, _, _, sh_100, rfl, rfl⟩ rfl rfl (Nat.le_of_ble_eq_true rfl) hl.1 ⟨Nat.le_of_ble_eq_true rfl, Nat.le_of_ble_eq_true rfl, by show cells + 0 + 0 ≤ 600000; omega, by show slots + 0 + 0 ≤ 7302249; omega⟩ dL_law_244 (fun G4 H locs hG4 T2 => ?_)
  have T3 : zT s H locs G3 k1 G2 k2 := by rw [hG4] at T2; exact T2.symm
  refine W.widen (k := cells + 21) (n := slots + 3000) (by omega) (by omega) ?_
  refine lv_icmp_eq (tgt := 1154) C.1 C.2.1 dL_law_247 (by decide) (fun hc => ?_) (fun hc => absurd rfl hc)
  exact kn G3 k1 k2 H locs T3 I3 hrel2 ha
set_option maxHeartbeats 4000000 in
set_option maxRecDepth 100000 in
theorem lc_give (C : zLC p s m #[.ref b] c code 4 RL) (hX : va_X b L xs s s.heap) (hbl : b < s.heap.size) (T : zT s H locs G1 h1 G2 h2) (I1 : zIX s G1 h1) (I2 : zIM s G2) (hs : zst_give Rel) (hrel : Rel h1 h2) (hl : lv_has ls 4 [(0, .ref b), (1, .ref (zal G1 0)), (2, .ref (zal G2 100)), (3, .int x3)]) (hin : ∀ k : Int32, 0 ≤ k → k ≤ 5 → vp_in (x3 + k) L) (hcs : cells + 21 ≤ 600000 ∧ slots + 3000 ≤ 7302249)
    (kn : ∀ (G3 : zG) (h3 h4 : zH) (H1 : Heap) (locs1 : List Loc), zT s H1 locs1 G3 h3 G2 h4 → zIX s G3 h3 → Rel h3 h4 → zal G3 0 = zal G1 0 → W p l e room_1 s m #[.ref b] below meth c H1 locs1 (cells + 21) (slots + 3000) Q (F0 m 1154 ls [])) : W p l e room_1 s m #[.ref b] below meth c H locs cells slots Q (F0 m 252 ls []) := by
  refine lv_aload_n C.1 C.2.1 dL_law_252 rfl (lv_at hl 1 rfl) ?_
  refine lv_aload_n C.1 C.2.1 dL_law_253 rfl (lv_at hl 0 rfl) ?_
  refine lv_iload_n C.1 C.2.1 dL_law_254 rfl (lv_at hl 3 rfl) ?_
  refine lv_iconst (v := (1 : Int32)) C.1 C.2.1 dL_law_255 rfl ?_
  refine lv_iadd C.1 C.2.1 dL_law_256 ?_
  refine va_sld (A := fun q => s.heap.size ≤ q) C.1 C.2.1 hX hbl (Nat.not_le.mpr hbl) T.2.2.2.2.2 (hin (1 : Int32) (by decide) (by decide)) dL_law_257 ?_
  refine lv_aload_n C.1 C.2.1 dL_law_258 rfl (lv_at hl 0 rfl) ?_
  refine lv_iload_n C.1 C.2.1 dL_law_259 rfl (lv_at hl 3 rfl) ?_
  refine lv_iconst (v := (2 : Int32)) C.1 C.2.1 dL_law_260 rfl ?_
  refine lv_iadd C.1 C.2.1 dL_law_261 ?_
  refine va_sld (A := fun q => s.heap.size ≤ q) C.1 C.2.1 hX hbl (Nat.not_le.mpr hbl) T.2.2.2.2.2 (hin (2 : Int32) (by decide) (by decide)) dL_law_262 ?_
  refine lv_aload_n C.1 C.2.1 dL_law_263 rfl (lv_at hl 0 rfl) ?_
  refine lv_iload_n C.1 C.2.1 dL_law_264 rfl (lv_at hl 3 rfl) ?_
  refine lv_iconst (v := (3 : Int32)) C.1 C.2.1 dL_law_265 rfl ?_
  refine lv_iadd C.1 C.2.1 dL_law_266 ?_
  refine va_sld (A := fun q => s.heap.size ≤ q) C.1 C.2.1 hX hbl (Nat.not_le.mpr hbl) T.2.2.2.2.2 (hin (3 : Int32) (by decide) (by decide)) dL_law_267 ?_
  refine lv_aload_n C.1 C.2.1 dL_law_268 rfl (lv_at hl 0 rfl) ?_
  refine lv_iload_n C.1 C.2.1 dL_law_269 rfl (lv_at hl 3 rfl) ?_
  refine lv_iconst (v := (4 : Int32)) C.1 C.2.1 dL_law_270 rfl ?_
  refine lv_iadd C.1 C.2.1 dL_law_271 ?_
  refine va_sld (A := fun q => s.heap.size ≤ q) C.1 C.2.1 hX hbl (Nat.not_le.mpr hbl) T.2.2.2.2.2 (hin (4 : Int32) (by decide) (by decide)) dL_law_272 ?_
  obtain ⟨r, k1, k2, e1, e2, hrel2⟩ := hs h1 h2 (xs (Int32.toNatClampNeg (x3 + (1 : Int32)))) (xs (Int32.toNatClampNeg (x3 + (2 : Int32)))) (xs (Int32.toNatClampNeg (x3 + (3 : Int32)))) (xs (Int32.toNatClampNeg (x3 + (4 : Int32)))) hrel 
  refine zLVI (c0 := 0) (X := fun G3 => G3 = zSA G1 (zA1 s G2)) (As := [.int (xs (Int32.toNatClampNeg (x3 + (1 : Int32)))), .int (xs (Int32.toNatClampNeg (x3 + (2 : Int32)))), .int (xs (Int32.toNatClampNeg (x3 + (3 : Int32)))), .int (xs (Int32.toNatClampNeg (x3 + (4 : Int32))))]) (rest := []) C I1.1 T mv_L_23 (zLof rfl (c_X11_give l (zSA G1 (zA1 s G2)) h1 (xs (Int32.toNatClampNeg (x3 + (1 : Int32)))) (xs (Int32.toNatClampNeg (x3 + (2 : Int32)))) (xs (Int32.toNatClampNeg (x3 + (3 : Int32)))) (xs (Int32.toNatClampNeg (x3 + (4 : Int32)))) (r, k1) (fun c hc => I1.2.1 c ((by decide : ∀ c ∈ nd_X11_give, c ∈ zBN) c hc)) (fun q hq => I1.2.2.1 q ((by decide : ∀ q ∈ ld_X11_give, q ∈ zBL) q hq)) e1)) (fun G3 h9 => by rw [h9]; rfl) (I1.2.1 0 (by decide)) ⟨_, _, _, sh_0, rfl, rfl⟩ rfl rfl (Nat.le_of_ble_eq_true rfl) hl.1 ⟨Nat.le_of_ble_eq_true rfl, Nat.le_of_ble_eq_true rfl, by show cells + 0 ≤ 600000; omega, by show slots + 0 ≤ 7302249; omega⟩ dL_law_273 (fun G3 H locs hG T1 => ?_)
  have I3 : zIX s G3 k1 := by rw [hG]; exact I1.SA.same (m_X11_give _ _ _ _ _  e1 0 (by decide))
  have ha : zal G3 0 = zal G1 0 := by rw [hG]; rfl
  skip
  refine lv_aload_n C.1 C.2.1 dL_law_276 rfl (lv_at hl 2 rfl) ?_
  refine lv_aload_n C.1 C.2.1 dL_law_277 rfl (lv_at hl 0 rfl) ?_
  refine lv_iload_n C.1 C.2.1 dL_law_278 rfl (lv_at hl 3 rfl) ?_
  refine lv_iconst (v := (1 : Int32)) C.1 C.2.1 dL_law_279 rfl ?_
  refine lv_iadd C.1 C.2.1 dL_law_280 ?_
  refine va_sld (A := fun q => s.heap.size ≤ q) C.1 C.2.1 hX hbl (Nat.not_le.mpr hbl) T1.2.2.2.2.2 (hin (1 : Int32) (by decide) (by decide)) dL_law_281 ?_
  refine lv_aload_n C.1 C.2.1 dL_law_282 rfl (lv_at hl 0 rfl) ?_
  refine lv_iload_n C.1 C.2.1 dL_law_283 rfl (lv_at hl 3 rfl) ?_
  refine lv_iconst (v := (2 : Int32)) C.1 C.2.1 dL_law_284 rfl ?_
  refine lv_iadd C.1 C.2.1 dL_law_285 ?_
  refine va_sld (A := fun q => s.heap.size ≤ q) C.1 C.2.1 hX hbl (Nat.not_le.mpr hbl) T1.2.2.2.2.2 (hin (2 : Int32) (by decide) (by decide)) dL_law_286 ?_
  refine lv_aload_n C.1 C.2.1 dL_law_287 rfl (lv_at hl 0 rfl) ?_
  refine lv_iload_n C.1 C.2.1 dL_law_288 rfl (lv_at hl 3 rfl) ?_
  refine lv_iconst (v := (3 : Int32)) C.1 C.2.1 dL_law_289 rfl ?_
  refine lv_iadd C.1 C.2.1 dL_law_290 ?_
  refine va_sld (A := fun q => s.heap.size ≤ q) C.1 C.2.1 hX hbl (Nat.not_le.mpr hbl) T1.2.2.2.2.2 (hin (3 : Int32) (by decide) (by decide)) dL_law_291 ?_
  refine lv_aload_n C.1 C.2.1 dL_law_292 rfl (lv_at hl 0 rfl) ?_
  refine lv_iload_n C.1 C.2.1 dL_law_293 rfl (lv_at hl 3 rfl) ?_
  refine lv_iconst (v := (4 : Int32)) C.1 C.2.1 dL_law_294 rfl ?_
  refine lv_iadd C.1 C.2.1 dL_law_295 ?_
  refine va_sld (A := fun q => s.heap.size ≤ q) C.1 C.2.1 hX hbl (Nat.not_le.mpr hbl) T1.2.2.2.2.2 (hin (4 : Int32) (by decide) (by decide)) dL_law_296 ?_
  refine zLVI (c0 := 100) (X := fun G4 => G4 = zSA G2 (zA1 s G3)) (As := [.int (xs (Int32.toNatClampNeg (x3 + (1 : Int32)))), .int (xs (Int32.toNatClampNeg (x3 + (2 : Int32)))), .int (xs (Int32.toNatClampNeg (x3 + (3 : Int32)))), .int (xs (Int32.toNatClampNeg (x3 + (4 : Int32))))]) (rest := [.int r]) C I2.1 T1.symm mv_L_27 (zLof rfl (c_X12_give l (zSA G2 (zA1 s G3)) h2 (xs (Int32.toNatClampNeg (x3 + (1 : Int32)))) (xs (Int32.toNatClampNeg (x3 + (2 : Int32)))) (xs (Int32.toNatClampNeg (x3 + (3 : Int32)))) (xs (Int32.toNatClampNeg (x3 + (4 : Int32)))) (r, k2) (fun c hc => I2.2.1 c ((by decide : ∀ c ∈ nd_X12_give, c ∈ zNm) c hc)) (fun q hq => I2.2.2 q ((by decide : ∀ q ∈ ld_X12_give, q ∈ zLm) q hq)) e2)) (fun G4 h9 => by rw [h9]; rfl) (I2.2.1 100 (by decide)) ⟨_, _, _, sh_100, rfl, rfl⟩ rfl rfl (Nat.le_of_ble_eq_true rfl) hl.1 ⟨Nat.le_of_ble_eq_true rfl, Nat.le_of_ble_eq_true rfl, by show cells + 0 + 0 ≤ 600000; omega, by show slots + 0 + 0 ≤ 7302249; omega⟩ dL_law_297 (fun G4 H locs hG4 T2 => ?_)
  have T3 : zT s H locs G3 k1 G2 k2 := by rw [hG4] at T2; exact T2.symm
  refine W.widen (k := cells + 21) (n := slots + 3000) (by omega) (by omega) ?_
  refine lv_icmp_eq (tgt := 1154) C.1 C.2.1 dL_law_300 (by decide) (fun hc => ?_) (fun hc => absurd rfl hc)
  exact kn G3 k1 k2 H locs T3 I3 hrel2 ha
set_option maxHeartbeats 4000000 in
set_option maxRecDepth 100000 in
theorem lc_heirs (C : zLC p s m #[.ref b] c code 4 RL) (hX : va_X b L xs s s.heap) (hbl : b < s.heap.size) (T : zT s H locs G1 h1 G2 h2) (I1 : zIX s G1 h1) (I2 : zIM s G2) (hs : zst_heirs Rel) (hrel : Rel h1 h2) (hl : lv_has ls 4 [(0, .ref b), (1, .ref (zal G1 0)), (2, .ref (zal G2 100)), (3, .int x3)]) (hin : ∀ k : Int32, 0 ≤ k → k ≤ 5 → vp_in (x3 + k) L) (hcs : cells + 21 ≤ 600000 ∧ slots + 3000 ≤ 7302249)
    (kn : ∀ (G3 : zG) (h3 h4 : zH) (H1 : Heap) (locs1 : List Loc), zT s H1 locs1 G3 h3 G2 h4 → zIX s G3 h3 → Rel h3 h4 → zal G3 0 = zal G1 0 → W p l e room_1 s m #[.ref b] below meth c H1 locs1 (cells + 21) (slots + 3000) Q (F0 m 1154 ls [])) : W p l e room_1 s m #[.ref b] below meth c H locs cells slots Q (F0 m 305 ls []) := by
  refine lv_aload_n C.1 C.2.1 dL_law_305 rfl (lv_at hl 1 rfl) ?_
  refine lv_aload_n C.1 C.2.1 dL_law_306 rfl (lv_at hl 0 rfl) ?_
  refine lv_iload_n C.1 C.2.1 dL_law_307 rfl (lv_at hl 3 rfl) ?_
  refine lv_iconst (v := (1 : Int32)) C.1 C.2.1 dL_law_308 rfl ?_
  refine lv_iadd C.1 C.2.1 dL_law_309 ?_
  refine va_sld (A := fun q => s.heap.size ≤ q) C.1 C.2.1 hX hbl (Nat.not_le.mpr hbl) T.2.2.2.2.2 (hin (1 : Int32) (by decide) (by decide)) dL_law_310 ?_
  refine lv_aload_n C.1 C.2.1 dL_law_311 rfl (lv_at hl 0 rfl) ?_
  refine lv_iload_n C.1 C.2.1 dL_law_312 rfl (lv_at hl 3 rfl) ?_
  refine lv_iconst (v := (2 : Int32)) C.1 C.2.1 dL_law_313 rfl ?_
  refine lv_iadd C.1 C.2.1 dL_law_314 ?_
  refine va_sld (A := fun q => s.heap.size ≤ q) C.1 C.2.1 hX hbl (Nat.not_le.mpr hbl) T.2.2.2.2.2 (hin (2 : Int32) (by decide) (by decide)) dL_law_315 ?_
  obtain ⟨r, k1, k2, e1, e2, hrel2⟩ := hs h1 h2 (xs (Int32.toNatClampNeg (x3 + (1 : Int32)))) (xs (Int32.toNatClampNeg (x3 + (2 : Int32)))) hrel 
  refine zLVI (c0 := 0) (X := fun G3 => G3 = zSA G1 (zA1 s G2)) (As := [.int (xs (Int32.toNatClampNeg (x3 + (1 : Int32)))), .int (xs (Int32.toNatClampNeg (x3 + (2 : Int32))))]) (rest := []) C I1.1 T mv_L_28 (zLof rfl (c_X11_heirs l (zSA G1 (zA1 s G2)) h1 (xs (Int32.toNatClampNeg (x3 + (1 : Int32)))) (xs (Int32.toNatClampNeg (x3 + (2 : Int32)))) (r, k1) (fun c hc => I1.2.1 c ((by decide : ∀ c ∈ nd_X11_heirs, c ∈ zBN) c hc)) (fun q hq => I1.2.2.1 q ((by decide : ∀ q ∈ ld_X11_heirs, q ∈ zBL) q hq)) e1)) (fun G3 h9 => by rw [h9]; rfl) (I1.2.1 0 (by decide)) ⟨_, _, _, sh_0, rfl, rfl⟩ rfl rfl (Nat.le_of_ble_eq_true rfl) hl.1 ⟨Nat.le_of_ble_eq_true rfl, Nat.le_of_ble_eq_true rfl, by show cells + 0 ≤ 600000; omega, by show slots + 0 ≤ 7302249; omega⟩ dL_law_316 (fun G3 H locs hG T1 => ?_)
  have I3 : zIX s G3 k1 := by rw [hG]; exact I1.SA.same (m_X11_heirs _ _ _  e1 0 (by decide))
  have ha : zal G3 0 = zal G1 0 := by rw [hG]; rfl
  skip
  refine lv_aload_n C.1 C.2.1 dL_law_319 rfl (lv_at hl 2 rfl) ?_
  refine lv_aload_n C.1 C.2.1 dL_law_320 rfl (lv_at hl 0 rfl) ?_
  refine lv_iload_n C.1 C.2.1 dL_law_321 rfl (lv_at hl 3 rfl) ?_
  refine lv_iconst (v := (1 : Int32)) C.1 C.2.1 dL_law_322 rfl ?_
  refine lv_iadd C.1 C.2.1 dL_law_323 ?_
  refine va_sld (A := fun q => s.heap.size ≤ q) C.1 C.2.1 hX hbl (Nat.not_le.mpr hbl) T1.2.2.2.2.2 (hin (1 : Int32) (by decide) (by decide)) dL_law_324 ?_
  refine lv_aload_n C.1 C.2.1 dL_law_325 rfl (lv_at hl 0 rfl) ?_
  refine lv_iload_n C.1 C.2.1 dL_law_326 rfl (lv_at hl 3 rfl) ?_
  refine lv_iconst (v := (2 : Int32)) C.1 C.2.1 dL_law_327 rfl ?_
  refine lv_iadd C.1 C.2.1 dL_law_328 ?_
  refine va_sld (A := fun q => s.heap.size ≤ q) C.1 C.2.1 hX hbl (Nat.not_le.mpr hbl) T1.2.2.2.2.2 (hin (2 : Int32) (by decide) (by decide)) dL_law_329 ?_
  refine zLVI (c0 := 100) (X := fun G4 => G4 = zSA G2 (zA1 s G3)) (As := [.int (xs (Int32.toNatClampNeg (x3 + (1 : Int32)))), .int (xs (Int32.toNatClampNeg (x3 + (2 : Int32))))]) (rest := [.int r]) C I2.1 T1.symm mv_L_32 (zLof rfl (c_X12_heirs l (zSA G2 (zA1 s G3)) h2 (xs (Int32.toNatClampNeg (x3 + (1 : Int32)))) (xs (Int32.toNatClampNeg (x3 + (2 : Int32)))) (r, k2) (fun c hc => I2.2.1 c ((by decide : ∀ c ∈ nd_X12_heirs, c ∈ zNm) c hc)) (fun q hq => I2.2.2 q ((by decide : ∀ q ∈ ld_X12_heirs, q ∈ zLm) q hq)) e2)) (fun G4 h9 => by rw [h9]; rfl) (I2.2.1 100 (by decide)) ⟨_, _, _, sh_100, rfl, rfl⟩ rfl rfl (Nat.le_of_ble_eq_true rfl) hl.1 ⟨Nat.le_of_ble_eq_true rfl, Nat.le_of_ble_eq_true rfl, by show cells + 0 + 0 ≤ 600000; omega, by show slots + 0 + 0 ≤ 7302249; omega⟩ dL_law_330 (fun G4 H locs hG4 T2 => ?_)
  have T3 : zT s H locs G3 k1 G2 k2 := by rw [hG4] at T2; exact T2.symm
  refine W.widen (k := cells + 21) (n := slots + 3000) (by omega) (by omega) ?_
  refine lv_icmp_eq (tgt := 1154) C.1 C.2.1 dL_law_333 (by decide) (fun hc => ?_) (fun hc => absurd rfl hc)
  exact kn G3 k1 k2 H locs T3 I3 hrel2 ha
set_option maxHeartbeats 4000000 in
set_option maxRecDepth 100000 in
theorem lc_feud (C : zLC p s m #[.ref b] c code 4 RL) (hX : va_X b L xs s s.heap) (hbl : b < s.heap.size) (T : zT s H locs G1 h1 G2 h2) (I1 : zIX s G1 h1) (I2 : zIM s G2) (hs : zst_feud Rel) (hrel : Rel h1 h2) (hl : lv_has ls 4 [(0, .ref b), (1, .ref (zal G1 0)), (2, .ref (zal G2 100)), (3, .int x3)]) (hin : ∀ k : Int32, 0 ≤ k → k ≤ 5 → vp_in (x3 + k) L) (hcs : cells + 21 ≤ 600000 ∧ slots + 3000 ≤ 7302249)
    (kn : ∀ (G3 : zG) (h3 h4 : zH) (H1 : Heap) (locs1 : List Loc), zT s H1 locs1 G3 h3 G2 h4 → zIX s G3 h3 → Rel h3 h4 → zal G3 0 = zal G1 0 → W p l e room_1 s m #[.ref b] below meth c H1 locs1 (cells + 21) (slots + 3000) Q (F0 m 1154 ls [])) : W p l e room_1 s m #[.ref b] below meth c H locs cells slots Q (F0 m 338 ls []) := by
  refine lv_aload_n C.1 C.2.1 dL_law_338 rfl (lv_at hl 1 rfl) ?_
  refine lv_aload_n C.1 C.2.1 dL_law_339 rfl (lv_at hl 0 rfl) ?_
  refine lv_iload_n C.1 C.2.1 dL_law_340 rfl (lv_at hl 3 rfl) ?_
  refine lv_iconst (v := (1 : Int32)) C.1 C.2.1 dL_law_341 rfl ?_
  refine lv_iadd C.1 C.2.1 dL_law_342 ?_
  refine va_sld (A := fun q => s.heap.size ≤ q) C.1 C.2.1 hX hbl (Nat.not_le.mpr hbl) T.2.2.2.2.2 (hin (1 : Int32) (by decide) (by decide)) dL_law_343 ?_
  refine lv_aload_n C.1 C.2.1 dL_law_344 rfl (lv_at hl 0 rfl) ?_
  refine lv_iload_n C.1 C.2.1 dL_law_345 rfl (lv_at hl 3 rfl) ?_
  refine lv_iconst (v := (2 : Int32)) C.1 C.2.1 dL_law_346 rfl ?_
  refine lv_iadd C.1 C.2.1 dL_law_347 ?_
  refine va_sld (A := fun q => s.heap.size ≤ q) C.1 C.2.1 hX hbl (Nat.not_le.mpr hbl) T.2.2.2.2.2 (hin (2 : Int32) (by decide) (by decide)) dL_law_348 ?_
  refine lv_aload_n C.1 C.2.1 dL_law_349 rfl (lv_at hl 0 rfl) ?_
  refine lv_iload_n C.1 C.2.1 dL_law_350 rfl (lv_at hl 3 rfl) ?_
  refine lv_iconst (v := (3 : Int32)) C.1 C.2.1 dL_law_351 rfl ?_
  refine lv_iadd C.1 C.2.1 dL_law_352 ?_
  refine va_sld (A := fun q => s.heap.size ≤ q) C.1 C.2.1 hX hbl (Nat.not_le.mpr hbl) T.2.2.2.2.2 (hin (3 : Int32) (by decide) (by decide)) dL_law_353 ?_
  by_cases hz : (xs (Int32.toNatClampNeg (x3 + (3 : Int32)))) = 0
  · refine lv_if_eq (tgt := 361) C.1 C.2.1 dL_law_354 (by decide) (fun hc => ?_) (fun hc => ?_)
    · skip
      refine lv_iconst (v := (0 : Int32)) C.1 C.2.1 dL_law_361 rfl ?_
      obtain ⟨r, k1, k2, e1, e2, hrel2⟩ := hs h1 h2 (xs (Int32.toNatClampNeg (x3 + (1 : Int32)))) (xs (Int32.toNatClampNeg (x3 + (2 : Int32)))) (0 : Int32) hrel (by decide)
      refine zLVI (c0 := 0) (X := fun G3 => G3 = zSA G1 (zA1 s G2)) (As := [.int (xs (Int32.toNatClampNeg (x3 + (1 : Int32)))), .int (xs (Int32.toNatClampNeg (x3 + (2 : Int32)))), .int (0 : Int32)]) (rest := []) C I1.1 T mv_L_33 (zLof rfl (c_X11_feud l (zSA G1 (zA1 s G2)) h1 (xs (Int32.toNatClampNeg (x3 + (1 : Int32)))) (xs (Int32.toNatClampNeg (x3 + (2 : Int32)))) (0 : Int32) (r, k1) (fun c hc => I1.2.1 c ((by decide : ∀ c ∈ nd_X11_feud, c ∈ zBN) c hc)) (fun q hq => I1.2.2.1 q ((by decide : ∀ q ∈ ld_X11_feud, q ∈ zBL) q hq)) e1)) (fun G3 h9 => by rw [h9]; rfl) (I1.2.1 0 (by decide)) ⟨_, _, _, sh_0, rfl, rfl⟩ rfl rfl (Nat.le_of_ble_eq_true rfl) hl.1 ⟨Nat.le_of_ble_eq_true rfl, Nat.le_of_ble_eq_true rfl, by show cells + 0 ≤ 600000; omega, by show slots + 0 ≤ 7302249; omega⟩ dL_law_362 (fun G3 H locs hG T1 => ?_)
      have I3 : zIX s G3 k1 := by rw [hG]; exact I1.SA.same (m_X11_feud _ _ _ _  e1 0 (by decide))
      have ha : zal G3 0 = zal G1 0 := by rw [hG]; rfl
      skip
      refine lv_aload_n C.1 C.2.1 dL_law_365 rfl (lv_at hl 2 rfl) ?_
      refine lv_aload_n C.1 C.2.1 dL_law_366 rfl (lv_at hl 0 rfl) ?_
      refine lv_iload_n C.1 C.2.1 dL_law_367 rfl (lv_at hl 3 rfl) ?_
      refine lv_iconst (v := (1 : Int32)) C.1 C.2.1 dL_law_368 rfl ?_
      refine lv_iadd C.1 C.2.1 dL_law_369 ?_
      refine va_sld (A := fun q => s.heap.size ≤ q) C.1 C.2.1 hX hbl (Nat.not_le.mpr hbl) T1.2.2.2.2.2 (hin (1 : Int32) (by decide) (by decide)) dL_law_370 ?_
      refine lv_aload_n C.1 C.2.1 dL_law_371 rfl (lv_at hl 0 rfl) ?_
      refine lv_iload_n C.1 C.2.1 dL_law_372 rfl (lv_at hl 3 rfl) ?_
      refine lv_iconst (v := (2 : Int32)) C.1 C.2.1 dL_law_373 rfl ?_
      refine lv_iadd C.1 C.2.1 dL_law_374 ?_
      refine va_sld (A := fun q => s.heap.size ≤ q) C.1 C.2.1 hX hbl (Nat.not_le.mpr hbl) T1.2.2.2.2.2 (hin (2 : Int32) (by decide) (by decide)) dL_law_375 ?_
      refine lv_aload_n C.1 C.2.1 dL_law_376 rfl (lv_at hl 0 rfl) ?_
      refine lv_iload_n C.1 C.2.1 dL_law_377 rfl (lv_at hl 3 rfl) ?_
      refine lv_iconst (v := (3 : Int32)) C.1 C.2.1 dL_law_378 rfl ?_
      refine lv_iadd C.1 C.2.1 dL_law_379 ?_
      refine va_sld (A := fun q => s.heap.size ≤ q) C.1 C.2.1 hX hbl (Nat.not_le.mpr hbl) T1.2.2.2.2.2 (hin (3 : Int32) (by decide) (by decide)) dL_law_380 ?_
      refine lv_if_eq (tgt := 388) C.1 C.2.1 dL_law_381 (by decide) (fun hc => ?_) (fun hc => ?_)
      · skip
        refine lv_iconst (v := (0 : Int32)) C.1 C.2.1 dL_law_388 rfl ?_
        refine zLVI (c0 := 100) (X := fun G4 => G4 = zSA G2 (zA1 s G3)) (As := [.int (xs (Int32.toNatClampNeg (x3 + (1 : Int32)))), .int (xs (Int32.toNatClampNeg (x3 + (2 : Int32)))), .int (0 : Int32)]) (rest := [.int r]) C I2.1 T1.symm mv_L_37 (zLof rfl (c_X12_feud l (zSA G2 (zA1 s G3)) h2 (xs (Int32.toNatClampNeg (x3 + (1 : Int32)))) (xs (Int32.toNatClampNeg (x3 + (2 : Int32)))) (0 : Int32) (r, k2) (fun c hc => I2.2.1 c ((by decide : ∀ c ∈ nd_X12_feud, c ∈ zNm) c hc)) (fun q hq => I2.2.2 q ((by decide : ∀ q ∈ ld_X12_feud, q ∈ zLm) q hq)) e2)) (fun G4 h9 => by rw [h9]; rfl) (I2.2.1 100 (by decide)) ⟨_, _, _, sh_100, rfl, rfl⟩ rfl rfl (Nat.le_of_ble_eq_true rfl) hl.1 ⟨Nat.le_of_ble_eq_true rfl, Nat.le_of_ble_eq_true rfl, by show cells + 0 + 0 ≤ 600000; omega, by show slots + 0 + 0 ≤ 7302249; omega⟩ dL_law_389 (fun G4 H locs hG4 T2 => ?_)
        have T3 : zT s H locs G3 k1 G2 k2 := by rw [hG4] at T2; exact T2.symm
        refine W.widen (k := cells + 21) (n := slots + 3000) (by omega) (by omega) ?_
        refine lv_icmp_eq (tgt := 1154) C.1 C.2.1 dL_law_392 (by decide) (fun hc => ?_) (fun hc => absurd rfl hc)
        exact kn G3 k1 k2 H locs T3 I3 hrel2 ha
      · exact absurd hz hc
    · exact absurd hz hc
  · refine lv_if_eq (tgt := 361) C.1 C.2.1 dL_law_354 (by decide) (fun hc => ?_) (fun hc => ?_)
    · exact absurd hc hz
    · skip
      refine lv_iconst (v := (1 : Int32)) C.1 C.2.1 dL_law_357 rfl ?_
      refine lv_goto (tgt := 362) C.1 C.2.1 dL_law_358 (by decide) ?_
      obtain ⟨r, k1, k2, e1, e2, hrel2⟩ := hs h1 h2 (xs (Int32.toNatClampNeg (x3 + (1 : Int32)))) (xs (Int32.toNatClampNeg (x3 + (2 : Int32)))) (1 : Int32) hrel (by decide)
      refine zLVI (c0 := 0) (X := fun G3 => G3 = zSA G1 (zA1 s G2)) (As := [.int (xs (Int32.toNatClampNeg (x3 + (1 : Int32)))), .int (xs (Int32.toNatClampNeg (x3 + (2 : Int32)))), .int (1 : Int32)]) (rest := []) C I1.1 T mv_L_33 (zLof rfl (c_X11_feud l (zSA G1 (zA1 s G2)) h1 (xs (Int32.toNatClampNeg (x3 + (1 : Int32)))) (xs (Int32.toNatClampNeg (x3 + (2 : Int32)))) (1 : Int32) (r, k1) (fun c hc => I1.2.1 c ((by decide : ∀ c ∈ nd_X11_feud, c ∈ zBN) c hc)) (fun q hq => I1.2.2.1 q ((by decide : ∀ q ∈ ld_X11_feud, q ∈ zBL) q hq)) e1)) (fun G3 h9 => by rw [h9]; rfl) (I1.2.1 0 (by decide)) ⟨_, _, _, sh_0, rfl, rfl⟩ rfl rfl (Nat.le_of_ble_eq_true rfl) hl.1 ⟨Nat.le_of_ble_eq_true rfl, Nat.le_of_ble_eq_true rfl, by show cells + 0 ≤ 600000; omega, by show slots + 0 ≤ 7302249; omega⟩ dL_law_362 (fun G3 H locs hG T1 => ?_)
      have I3 : zIX s G3 k1 := by rw [hG]; exact I1.SA.same (m_X11_feud _ _ _ _  e1 0 (by decide))
      have ha : zal G3 0 = zal G1 0 := by rw [hG]; rfl
      skip
      refine lv_aload_n C.1 C.2.1 dL_law_365 rfl (lv_at hl 2 rfl) ?_
      refine lv_aload_n C.1 C.2.1 dL_law_366 rfl (lv_at hl 0 rfl) ?_
      refine lv_iload_n C.1 C.2.1 dL_law_367 rfl (lv_at hl 3 rfl) ?_
      refine lv_iconst (v := (1 : Int32)) C.1 C.2.1 dL_law_368 rfl ?_
      refine lv_iadd C.1 C.2.1 dL_law_369 ?_
      refine va_sld (A := fun q => s.heap.size ≤ q) C.1 C.2.1 hX hbl (Nat.not_le.mpr hbl) T1.2.2.2.2.2 (hin (1 : Int32) (by decide) (by decide)) dL_law_370 ?_
      refine lv_aload_n C.1 C.2.1 dL_law_371 rfl (lv_at hl 0 rfl) ?_
      refine lv_iload_n C.1 C.2.1 dL_law_372 rfl (lv_at hl 3 rfl) ?_
      refine lv_iconst (v := (2 : Int32)) C.1 C.2.1 dL_law_373 rfl ?_
      refine lv_iadd C.1 C.2.1 dL_law_374 ?_
      refine va_sld (A := fun q => s.heap.size ≤ q) C.1 C.2.1 hX hbl (Nat.not_le.mpr hbl) T1.2.2.2.2.2 (hin (2 : Int32) (by decide) (by decide)) dL_law_375 ?_
      refine lv_aload_n C.1 C.2.1 dL_law_376 rfl (lv_at hl 0 rfl) ?_
      refine lv_iload_n C.1 C.2.1 dL_law_377 rfl (lv_at hl 3 rfl) ?_
      refine lv_iconst (v := (3 : Int32)) C.1 C.2.1 dL_law_378 rfl ?_
      refine lv_iadd C.1 C.2.1 dL_law_379 ?_
      refine va_sld (A := fun q => s.heap.size ≤ q) C.1 C.2.1 hX hbl (Nat.not_le.mpr hbl) T1.2.2.2.2.2 (hin (3 : Int32) (by decide) (by decide)) dL_law_380 ?_
      refine lv_if_eq (tgt := 388) C.1 C.2.1 dL_law_381 (by decide) (fun hc => ?_) (fun hc => ?_)
      · exact absurd hc hz
      · skip
        refine lv_iconst (v := (1 : Int32)) C.1 C.2.1 dL_law_384 rfl ?_
        refine lv_goto (tgt := 389) C.1 C.2.1 dL_law_385 (by decide) ?_
        refine zLVI (c0 := 100) (X := fun G4 => G4 = zSA G2 (zA1 s G3)) (As := [.int (xs (Int32.toNatClampNeg (x3 + (1 : Int32)))), .int (xs (Int32.toNatClampNeg (x3 + (2 : Int32)))), .int (1 : Int32)]) (rest := [.int r]) C I2.1 T1.symm mv_L_37 (zLof rfl (c_X12_feud l (zSA G2 (zA1 s G3)) h2 (xs (Int32.toNatClampNeg (x3 + (1 : Int32)))) (xs (Int32.toNatClampNeg (x3 + (2 : Int32)))) (1 : Int32) (r, k2) (fun c hc => I2.2.1 c ((by decide : ∀ c ∈ nd_X12_feud, c ∈ zNm) c hc)) (fun q hq => I2.2.2 q ((by decide : ∀ q ∈ ld_X12_feud, q ∈ zLm) q hq)) e2)) (fun G4 h9 => by rw [h9]; rfl) (I2.2.1 100 (by decide)) ⟨_, _, _, sh_100, rfl, rfl⟩ rfl rfl (Nat.le_of_ble_eq_true rfl) hl.1 ⟨Nat.le_of_ble_eq_true rfl, Nat.le_of_ble_eq_true rfl, by show cells + 0 + 0 ≤ 600000; omega, by show slots + 0 + 0 ≤ 7302249; omega⟩ dL_law_389 (fun G4 H locs hG4 T2 => ?_)
        have T3 : zT s H locs G3 k1 G2 k2 := by rw [hG4] at T2; exact T2.symm
        refine W.widen (k := cells + 21) (n := slots + 3000) (by omega) (by omega) ?_
        refine lv_icmp_eq (tgt := 1154) C.1 C.2.1 dL_law_392 (by decide) (fun hc => ?_) (fun hc => absurd rfl hc)
        exact kn G3 k1 k2 H locs T3 I3 hrel2 ha
set_option maxHeartbeats 4000000 in
set_option maxRecDepth 100000 in
theorem lc_guest (C : zLC p s m #[.ref b] c code 4 RL) (hX : va_X b L xs s s.heap) (hbl : b < s.heap.size) (T : zT s H locs G1 h1 G2 h2) (I1 : zIX s G1 h1) (I2 : zIM s G2) (hs : zst_guest Rel) (hrel : Rel h1 h2) (hl : lv_has ls 4 [(0, .ref b), (1, .ref (zal G1 0)), (2, .ref (zal G2 100)), (3, .int x3)]) (hin : ∀ k : Int32, 0 ≤ k → k ≤ 5 → vp_in (x3 + k) L) (hcs : cells + 21 ≤ 600000 ∧ slots + 3000 ≤ 7302249)
    (kn : ∀ (G3 : zG) (h3 h4 : zH) (H1 : Heap) (locs1 : List Loc), zT s H1 locs1 G3 h3 G2 h4 → zIX s G3 h3 → Rel h3 h4 → zal G3 0 = zal G1 0 → W p l e room_1 s m #[.ref b] below meth c H1 locs1 (cells + 21) (slots + 3000) Q (F0 m 1154 ls [])) : W p l e room_1 s m #[.ref b] below meth c H locs cells slots Q (F0 m 397 ls []) := by
  refine lv_aload_n C.1 C.2.1 dL_law_397 rfl (lv_at hl 1 rfl) ?_
  refine lv_aload_n C.1 C.2.1 dL_law_398 rfl (lv_at hl 0 rfl) ?_
  refine lv_iload_n C.1 C.2.1 dL_law_399 rfl (lv_at hl 3 rfl) ?_
  refine lv_iconst (v := (1 : Int32)) C.1 C.2.1 dL_law_400 rfl ?_
  refine lv_iadd C.1 C.2.1 dL_law_401 ?_
  refine va_sld (A := fun q => s.heap.size ≤ q) C.1 C.2.1 hX hbl (Nat.not_le.mpr hbl) T.2.2.2.2.2 (hin (1 : Int32) (by decide) (by decide)) dL_law_402 ?_
  obtain ⟨r, k1, k2, e1, e2, hrel2⟩ := hs h1 h2 (xs (Int32.toNatClampNeg (x3 + (1 : Int32)))) hrel 
  refine zLVI (c0 := 0) (X := fun G3 => G3 = zSA G1 (zA1 s G2)) (As := [.int (xs (Int32.toNatClampNeg (x3 + (1 : Int32))))]) (rest := []) C I1.1 T mv_L_38 (zLof rfl (c_X11_guest l (zSA G1 (zA1 s G2)) h1 (xs (Int32.toNatClampNeg (x3 + (1 : Int32)))) (r, k1) (fun c hc => I1.2.1 c ((by decide : ∀ c ∈ nd_X11_guest, c ∈ zBN) c hc)) (fun q hq => I1.2.2.1 q ((by decide : ∀ q ∈ ld_X11_guest, q ∈ zBL) q hq)) e1)) (fun G3 h9 => by rw [h9]; rfl) (I1.2.1 0 (by decide)) ⟨_, _, _, sh_0, rfl, rfl⟩ rfl rfl (Nat.le_of_ble_eq_true rfl) hl.1 ⟨Nat.le_of_ble_eq_true rfl, Nat.le_of_ble_eq_true rfl, by show cells + 0 ≤ 600000; omega, by show slots + 0 ≤ 7302249; omega⟩ dL_law_403 (fun G3 H locs hG T1 => ?_)
  have I3 : zIX s G3 k1 := by rw [hG]; exact I1.SA.same (m_X11_guest _ _  e1 0 (by decide))
  have ha : zal G3 0 = zal G1 0 := by rw [hG]; rfl
  skip
  refine lv_aload_n C.1 C.2.1 dL_law_406 rfl (lv_at hl 2 rfl) ?_
  refine lv_aload_n C.1 C.2.1 dL_law_407 rfl (lv_at hl 0 rfl) ?_
  refine lv_iload_n C.1 C.2.1 dL_law_408 rfl (lv_at hl 3 rfl) ?_
  refine lv_iconst (v := (1 : Int32)) C.1 C.2.1 dL_law_409 rfl ?_
  refine lv_iadd C.1 C.2.1 dL_law_410 ?_
  refine va_sld (A := fun q => s.heap.size ≤ q) C.1 C.2.1 hX hbl (Nat.not_le.mpr hbl) T1.2.2.2.2.2 (hin (1 : Int32) (by decide) (by decide)) dL_law_411 ?_
  refine zLVI (c0 := 100) (X := fun G4 => G4 = zSA G2 (zA1 s G3)) (As := [.int (xs (Int32.toNatClampNeg (x3 + (1 : Int32))))]) (rest := [.int r]) C I2.1 T1.symm mv_L_41 (zLof rfl (c_X12_guest l (zSA G2 (zA1 s G3)) h2 (xs (Int32.toNatClampNeg (x3 + (1 : Int32)))) (r, k2) (fun c hc => I2.2.1 c ((by decide : ∀ c ∈ nd_X12_guest, c ∈ zNm) c hc)) (fun q hq => I2.2.2 q ((by decide : ∀ q ∈ ld_X12_guest, q ∈ zLm) q hq)) e2)) (fun G4 h9 => by rw [h9]; rfl) (I2.2.1 100 (by decide)) ⟨_, _, _, sh_100, rfl, rfl⟩ rfl rfl (Nat.le_of_ble_eq_true rfl) hl.1 ⟨Nat.le_of_ble_eq_true rfl, Nat.le_of_ble_eq_true rfl, by show cells + 0 + 0 ≤ 600000; omega, by show slots + 0 + 0 ≤ 7302249; omega⟩ dL_law_412 (fun G4 H locs hG4 T2 => ?_)
  have T3 : zT s H locs G3 k1 G2 k2 := by rw [hG4] at T2; exact T2.symm
  refine W.widen (k := cells + 21) (n := slots + 3000) (by omega) (by omega) ?_
  refine lv_icmp_eq (tgt := 1154) C.1 C.2.1 dL_law_415 (by decide) (fun hc => ?_) (fun hc => absurd rfl hc)
  exact kn G3 k1 k2 H locs T3 I3 hrel2 ha
set_option maxHeartbeats 4000000 in
set_option maxRecDepth 100000 in
theorem lc_seat (C : zLC p s m #[.ref b] c code 4 RL) (hX : va_X b L xs s s.heap) (hbl : b < s.heap.size) (T : zT s H locs G1 h1 G2 h2) (I1 : zIX s G1 h1) (I2 : zIM s G2) (hs : zst_seat Rel) (hrel : Rel h1 h2) (hl : lv_has ls 4 [(0, .ref b), (1, .ref (zal G1 0)), (2, .ref (zal G2 100)), (3, .int x3)]) (hin : ∀ k : Int32, 0 ≤ k → k ≤ 5 → vp_in (x3 + k) L) (hcs : cells + 21 ≤ 600000 ∧ slots + 3000 ≤ 7302249)
    (kn : ∀ (G3 : zG) (h3 h4 : zH) (H1 : Heap) (locs1 : List Loc), zT s H1 locs1 G3 h3 G2 h4 → zIX s G3 h3 → Rel h3 h4 → zal G3 0 = zal G1 0 → W p l e room_1 s m #[.ref b] below meth c H1 locs1 (cells + 21) (slots + 3000) Q (F0 m 1154 ls [])) : W p l e room_1 s m #[.ref b] below meth c H locs cells slots Q (F0 m 420 ls []) := by
  refine lv_aload_n C.1 C.2.1 dL_law_420 rfl (lv_at hl 1 rfl) ?_
  refine lv_aload_n C.1 C.2.1 dL_law_421 rfl (lv_at hl 0 rfl) ?_
  refine lv_iload_n C.1 C.2.1 dL_law_422 rfl (lv_at hl 3 rfl) ?_
  refine lv_iconst (v := (1 : Int32)) C.1 C.2.1 dL_law_423 rfl ?_
  refine lv_iadd C.1 C.2.1 dL_law_424 ?_
  refine va_sld (A := fun q => s.heap.size ≤ q) C.1 C.2.1 hX hbl (Nat.not_le.mpr hbl) T.2.2.2.2.2 (hin (1 : Int32) (by decide) (by decide)) dL_law_425 ?_
  refine lv_aload_n C.1 C.2.1 dL_law_426 rfl (lv_at hl 0 rfl) ?_
  refine lv_iload_n C.1 C.2.1 dL_law_427 rfl (lv_at hl 3 rfl) ?_
  refine lv_iconst (v := (2 : Int32)) C.1 C.2.1 dL_law_428 rfl ?_
  refine lv_iadd C.1 C.2.1 dL_law_429 ?_
  refine va_sld (A := fun q => s.heap.size ≤ q) C.1 C.2.1 hX hbl (Nat.not_le.mpr hbl) T.2.2.2.2.2 (hin (2 : Int32) (by decide) (by decide)) dL_law_430 ?_
  obtain ⟨r, k1, k2, e1, e2, hrel2⟩ := hs h1 h2 (xs (Int32.toNatClampNeg (x3 + (1 : Int32)))) (xs (Int32.toNatClampNeg (x3 + (2 : Int32)))) hrel 
  refine zLVI (c0 := 0) (X := fun G3 => G3 = zSA G1 (zA1 s G2)) (As := [.int (xs (Int32.toNatClampNeg (x3 + (1 : Int32)))), .int (xs (Int32.toNatClampNeg (x3 + (2 : Int32))))]) (rest := []) C I1.1 T mv_L_42 (zLof rfl (c_X11_seat l (zSA G1 (zA1 s G2)) h1 (xs (Int32.toNatClampNeg (x3 + (1 : Int32)))) (xs (Int32.toNatClampNeg (x3 + (2 : Int32)))) (r, k1) (fun c hc => I1.2.1 c ((by decide : ∀ c ∈ nd_X11_seat, c ∈ zBN) c hc)) (fun q hq => I1.2.2.1 q ((by decide : ∀ q ∈ ld_X11_seat, q ∈ zBL) q hq)) e1)) (fun G3 h9 => by rw [h9]; rfl) (I1.2.1 0 (by decide)) ⟨_, _, _, sh_0, rfl, rfl⟩ rfl rfl (Nat.le_of_ble_eq_true rfl) hl.1 ⟨Nat.le_of_ble_eq_true rfl, Nat.le_of_ble_eq_true rfl, by show cells + 0 ≤ 600000; omega, by show slots + 0 ≤ 7302249; omega⟩ dL_law_431 (fun G3 H locs hG T1 => ?_)
  have I3 : zIX s G3 k1 := by rw [hG]; exact I1.SA.same (m_X11_seat _ _ _  e1 0 (by decide))
  have ha : zal G3 0 = zal G1 0 := by rw [hG]; rfl
  skip
  refine lv_aload_n C.1 C.2.1 dL_law_434 rfl (lv_at hl 2 rfl) ?_
  refine lv_aload_n C.1 C.2.1 dL_law_435 rfl (lv_at hl 0 rfl) ?_
  refine lv_iload_n C.1 C.2.1 dL_law_436 rfl (lv_at hl 3 rfl) ?_
  refine lv_iconst (v := (1 : Int32)) C.1 C.2.1 dL_law_437 rfl ?_
  refine lv_iadd C.1 C.2.1 dL_law_438 ?_
  refine va_sld (A := fun q => s.heap.size ≤ q) C.1 C.2.1 hX hbl (Nat.not_le.mpr hbl) T1.2.2.2.2.2 (hin (1 : Int32) (by decide) (by decide)) dL_law_439 ?_
  refine lv_aload_n C.1 C.2.1 dL_law_440 rfl (lv_at hl 0 rfl) ?_
  refine lv_iload_n C.1 C.2.1 dL_law_441 rfl (lv_at hl 3 rfl) ?_
  refine lv_iconst (v := (2 : Int32)) C.1 C.2.1 dL_law_442 rfl ?_
  refine lv_iadd C.1 C.2.1 dL_law_443 ?_
  refine va_sld (A := fun q => s.heap.size ≤ q) C.1 C.2.1 hX hbl (Nat.not_le.mpr hbl) T1.2.2.2.2.2 (hin (2 : Int32) (by decide) (by decide)) dL_law_444 ?_
  refine zLVI (c0 := 100) (X := fun G4 => G4 = zSA G2 (zA1 s G3)) (As := [.int (xs (Int32.toNatClampNeg (x3 + (1 : Int32)))), .int (xs (Int32.toNatClampNeg (x3 + (2 : Int32))))]) (rest := [.int r]) C I2.1 T1.symm mv_L_46 (zLof rfl (c_X12_seat l (zSA G2 (zA1 s G3)) h2 (xs (Int32.toNatClampNeg (x3 + (1 : Int32)))) (xs (Int32.toNatClampNeg (x3 + (2 : Int32)))) (r, k2) (fun c hc => I2.2.1 c ((by decide : ∀ c ∈ nd_X12_seat, c ∈ zNm) c hc)) (fun q hq => I2.2.2 q ((by decide : ∀ q ∈ ld_X12_seat, q ∈ zLm) q hq)) e2)) (fun G4 h9 => by rw [h9]; rfl) (I2.2.1 100 (by decide)) ⟨_, _, _, sh_100, rfl, rfl⟩ rfl rfl (Nat.le_of_ble_eq_true rfl) hl.1 ⟨Nat.le_of_ble_eq_true rfl, Nat.le_of_ble_eq_true rfl, by show cells + 0 + 0 ≤ 600000; omega, by show slots + 0 + 0 ≤ 7302249; omega⟩ dL_law_445 (fun G4 H locs hG4 T2 => ?_)
  have T3 : zT s H locs G3 k1 G2 k2 := by rw [hG4] at T2; exact T2.symm
  refine W.widen (k := cells + 21) (n := slots + 3000) (by omega) (by omega) ?_
  refine lv_icmp_eq (tgt := 1154) C.1 C.2.1 dL_law_448 (by decide) (fun hc => ?_) (fun hc => absurd rfl hc)
  exact kn G3 k1 k2 H locs T3 I3 hrel2 ha
set_option maxHeartbeats 4000000 in
set_option maxRecDepth 100000 in
theorem lc_set (C : zLC p s m #[.ref b] c code 4 RL) (hX : va_X b L xs s s.heap) (hbl : b < s.heap.size) (T : zT s H locs G1 h1 G2 h2) (I1 : zIX s G1 h1) (I2 : zIM s G2) (hs : zst_set Rel) (hrel : Rel h1 h2) (hl : lv_has ls 4 [(0, .ref b), (1, .ref (zal G1 0)), (2, .ref (zal G2 100)), (3, .int x3)]) (hin : ∀ k : Int32, 0 ≤ k → k ≤ 5 → vp_in (x3 + k) L) (hcs : cells + 21 ≤ 600000 ∧ slots + 3000 ≤ 7302249)
    (kn : ∀ (G3 : zG) (h3 h4 : zH) (H1 : Heap) (locs1 : List Loc), zT s H1 locs1 G3 h3 G2 h4 → zIX s G3 h3 → Rel h3 h4 → zal G3 0 = zal G1 0 → W p l e room_1 s m #[.ref b] below meth c H1 locs1 (cells + 21) (slots + 3000) Q (F0 m 1154 ls [])) : W p l e room_1 s m #[.ref b] below meth c H locs cells slots Q (F0 m 453 ls []) := by
  refine lv_aload_n C.1 C.2.1 dL_law_453 rfl (lv_at hl 1 rfl) ?_
  refine lv_aload_n C.1 C.2.1 dL_law_454 rfl (lv_at hl 0 rfl) ?_
  refine lv_iload_n C.1 C.2.1 dL_law_455 rfl (lv_at hl 3 rfl) ?_
  refine lv_iconst (v := (1 : Int32)) C.1 C.2.1 dL_law_456 rfl ?_
  refine lv_iadd C.1 C.2.1 dL_law_457 ?_
  refine va_sld (A := fun q => s.heap.size ≤ q) C.1 C.2.1 hX hbl (Nat.not_le.mpr hbl) T.2.2.2.2.2 (hin (1 : Int32) (by decide) (by decide)) dL_law_458 ?_
  refine lv_aload_n C.1 C.2.1 dL_law_459 rfl (lv_at hl 0 rfl) ?_
  refine lv_iload_n C.1 C.2.1 dL_law_460 rfl (lv_at hl 3 rfl) ?_
  refine lv_iconst (v := (2 : Int32)) C.1 C.2.1 dL_law_461 rfl ?_
  refine lv_iadd C.1 C.2.1 dL_law_462 ?_
  refine va_sld (A := fun q => s.heap.size ≤ q) C.1 C.2.1 hX hbl (Nat.not_le.mpr hbl) T.2.2.2.2.2 (hin (2 : Int32) (by decide) (by decide)) dL_law_463 ?_
  obtain ⟨r, k1, k2, e1, e2, hrel2⟩ := hs h1 h2 (xs (Int32.toNatClampNeg (x3 + (1 : Int32)))) (xs (Int32.toNatClampNeg (x3 + (2 : Int32)))) hrel 
  refine zLVI (c0 := 0) (X := fun G3 => G3 = zSA G1 (zA1 s G2)) (As := [.int (xs (Int32.toNatClampNeg (x3 + (1 : Int32)))), .int (xs (Int32.toNatClampNeg (x3 + (2 : Int32))))]) (rest := []) C I1.1 T mv_L_47 (zLof rfl (c_X11_set l (zSA G1 (zA1 s G2)) h1 (xs (Int32.toNatClampNeg (x3 + (1 : Int32)))) (xs (Int32.toNatClampNeg (x3 + (2 : Int32)))) (r, k1) (fun c hc => I1.2.1 c ((by decide : ∀ c ∈ nd_X11_set, c ∈ zBN) c hc)) (fun q hq => I1.2.2.1 q ((by decide : ∀ q ∈ ld_X11_set, q ∈ zBL) q hq)) e1)) (fun G3 h9 => by rw [h9]; rfl) (I1.2.1 0 (by decide)) ⟨_, _, _, sh_0, rfl, rfl⟩ rfl rfl (Nat.le_of_ble_eq_true rfl) hl.1 ⟨Nat.le_of_ble_eq_true rfl, Nat.le_of_ble_eq_true rfl, by show cells + 0 ≤ 600000; omega, by show slots + 0 ≤ 7302249; omega⟩ dL_law_464 (fun G3 H locs hG T1 => ?_)
  have I3 : zIX s G3 k1 := by rw [hG]; exact I1.SA.same (m_X11_set _ _ _  e1 0 (by decide))
  have ha : zal G3 0 = zal G1 0 := by rw [hG]; rfl
  skip
  refine lv_aload_n C.1 C.2.1 dL_law_467 rfl (lv_at hl 2 rfl) ?_
  refine lv_aload_n C.1 C.2.1 dL_law_468 rfl (lv_at hl 0 rfl) ?_
  refine lv_iload_n C.1 C.2.1 dL_law_469 rfl (lv_at hl 3 rfl) ?_
  refine lv_iconst (v := (1 : Int32)) C.1 C.2.1 dL_law_470 rfl ?_
  refine lv_iadd C.1 C.2.1 dL_law_471 ?_
  refine va_sld (A := fun q => s.heap.size ≤ q) C.1 C.2.1 hX hbl (Nat.not_le.mpr hbl) T1.2.2.2.2.2 (hin (1 : Int32) (by decide) (by decide)) dL_law_472 ?_
  refine lv_aload_n C.1 C.2.1 dL_law_473 rfl (lv_at hl 0 rfl) ?_
  refine lv_iload_n C.1 C.2.1 dL_law_474 rfl (lv_at hl 3 rfl) ?_
  refine lv_iconst (v := (2 : Int32)) C.1 C.2.1 dL_law_475 rfl ?_
  refine lv_iadd C.1 C.2.1 dL_law_476 ?_
  refine va_sld (A := fun q => s.heap.size ≤ q) C.1 C.2.1 hX hbl (Nat.not_le.mpr hbl) T1.2.2.2.2.2 (hin (2 : Int32) (by decide) (by decide)) dL_law_477 ?_
  refine zLVI (c0 := 100) (X := fun G4 => G4 = zSA G2 (zA1 s G3)) (As := [.int (xs (Int32.toNatClampNeg (x3 + (1 : Int32)))), .int (xs (Int32.toNatClampNeg (x3 + (2 : Int32))))]) (rest := [.int r]) C I2.1 T1.symm mv_L_50 (zLof rfl (c_X12_set l (zSA G2 (zA1 s G3)) h2 (xs (Int32.toNatClampNeg (x3 + (1 : Int32)))) (xs (Int32.toNatClampNeg (x3 + (2 : Int32)))) (r, k2) (fun c hc => I2.2.1 c ((by decide : ∀ c ∈ nd_X12_set, c ∈ zNm) c hc)) (fun q hq => I2.2.2 q ((by decide : ∀ q ∈ ld_X12_set, q ∈ zLm) q hq)) e2)) (fun G4 h9 => by rw [h9]; rfl) (I2.2.1 100 (by decide)) ⟨_, _, _, sh_100, rfl, rfl⟩ rfl rfl (Nat.le_of_ble_eq_true rfl) hl.1 ⟨Nat.le_of_ble_eq_true rfl, Nat.le_of_ble_eq_true rfl, by show cells + 0 + 0 ≤ 600000; omega, by show slots + 0 + 0 ≤ 7302249; omega⟩ dL_law_478 (fun G4 H locs hG4 T2 => ?_)
  have T3 : zT s H locs G3 k1 G2 k2 := by rw [hG4] at T2; exact T2.symm
  refine W.widen (k := cells + 21) (n := slots + 3000) (by omega) (by omega) ?_
  refine lv_icmp_eq (tgt := 1154) C.1 C.2.1 dL_law_481 (by decide) (fun hc => ?_) (fun hc => absurd rfl hc)
  exact kn G3 k1 k2 H locs T3 I3 hrel2 ha
set_option maxHeartbeats 4000000 in
set_option maxRecDepth 100000 in
theorem lc_feed (C : zLC p s m #[.ref b] c code 4 RL) (hX : va_X b L xs s s.heap) (hbl : b < s.heap.size) (T : zT s H locs G1 h1 G2 h2) (I1 : zIX s G1 h1) (I2 : zIM s G2) (hs : zst_feed Rel) (hrel : Rel h1 h2) (hl : lv_has ls 4 [(0, .ref b), (1, .ref (zal G1 0)), (2, .ref (zal G2 100)), (3, .int x3)]) (hin : ∀ k : Int32, 0 ≤ k → k ≤ 5 → vp_in (x3 + k) L) (hcs : cells + 21 ≤ 600000 ∧ slots + 3000 ≤ 7302249)
    (kn : ∀ (G3 : zG) (h3 h4 : zH) (H1 : Heap) (locs1 : List Loc), zT s H1 locs1 G3 h3 G2 h4 → zIX s G3 h3 → Rel h3 h4 → zal G3 0 = zal G1 0 → W p l e room_1 s m #[.ref b] below meth c H1 locs1 (cells + 21) (slots + 3000) Q (F0 m 1154 ls [])) : W p l e room_1 s m #[.ref b] below meth c H locs cells slots Q (F0 m 486 ls []) := by
  refine lv_aload_n C.1 C.2.1 dL_law_486 rfl (lv_at hl 1 rfl) ?_
  refine lv_aload_n C.1 C.2.1 dL_law_487 rfl (lv_at hl 0 rfl) ?_
  refine lv_iload_n C.1 C.2.1 dL_law_488 rfl (lv_at hl 3 rfl) ?_
  refine lv_iconst (v := (1 : Int32)) C.1 C.2.1 dL_law_489 rfl ?_
  refine lv_iadd C.1 C.2.1 dL_law_490 ?_
  refine va_sld (A := fun q => s.heap.size ≤ q) C.1 C.2.1 hX hbl (Nat.not_le.mpr hbl) T.2.2.2.2.2 (hin (1 : Int32) (by decide) (by decide)) dL_law_491 ?_
  refine lv_aload_n C.1 C.2.1 dL_law_492 rfl (lv_at hl 0 rfl) ?_
  refine lv_iload_n C.1 C.2.1 dL_law_493 rfl (lv_at hl 3 rfl) ?_
  refine lv_iconst (v := (2 : Int32)) C.1 C.2.1 dL_law_494 rfl ?_
  refine lv_iadd C.1 C.2.1 dL_law_495 ?_
  refine va_sld (A := fun q => s.heap.size ≤ q) C.1 C.2.1 hX hbl (Nat.not_le.mpr hbl) T.2.2.2.2.2 (hin (2 : Int32) (by decide) (by decide)) dL_law_496 ?_
  refine lv_aload_n C.1 C.2.1 dL_law_497 rfl (lv_at hl 0 rfl) ?_
  refine lv_iload_n C.1 C.2.1 dL_law_498 rfl (lv_at hl 3 rfl) ?_
  refine lv_iconst (v := (3 : Int32)) C.1 C.2.1 dL_law_499 rfl ?_
  refine lv_iadd C.1 C.2.1 dL_law_500 ?_
  refine va_sld (A := fun q => s.heap.size ≤ q) C.1 C.2.1 hX hbl (Nat.not_le.mpr hbl) T.2.2.2.2.2 (hin (3 : Int32) (by decide) (by decide)) dL_law_501 ?_
  refine lv_aload_n C.1 C.2.1 dL_law_502 rfl (lv_at hl 0 rfl) ?_
  refine lv_iload_n C.1 C.2.1 dL_law_503 rfl (lv_at hl 3 rfl) ?_
  refine lv_iconst (v := (4 : Int32)) C.1 C.2.1 dL_law_504 rfl ?_
  refine lv_iadd C.1 C.2.1 dL_law_505 ?_
  refine va_sld (A := fun q => s.heap.size ≤ q) C.1 C.2.1 hX hbl (Nat.not_le.mpr hbl) T.2.2.2.2.2 (hin (4 : Int32) (by decide) (by decide)) dL_law_506 ?_
  refine lv_aload_n C.1 C.2.1 dL_law_507 rfl (lv_at hl 0 rfl) ?_
  refine lv_iload_n C.1 C.2.1 dL_law_508 rfl (lv_at hl 3 rfl) ?_
  refine lv_iconst (v := (5 : Int32)) C.1 C.2.1 dL_law_509 rfl ?_
  refine lv_iadd C.1 C.2.1 dL_law_510 ?_
  refine va_sld (A := fun q => s.heap.size ≤ q) C.1 C.2.1 hX hbl (Nat.not_le.mpr hbl) T.2.2.2.2.2 (hin (5 : Int32) (by decide) (by decide)) dL_law_511 ?_
  obtain ⟨r, k1, k2, e1, e2, hrel2⟩ := hs h1 h2 (xs (Int32.toNatClampNeg (x3 + (1 : Int32)))) (xs (Int32.toNatClampNeg (x3 + (2 : Int32)))) (xs (Int32.toNatClampNeg (x3 + (3 : Int32)))) (xs (Int32.toNatClampNeg (x3 + (4 : Int32)))) (xs (Int32.toNatClampNeg (x3 + (5 : Int32)))) hrel 
  refine zLVI (c0 := 0) (X := fun G3 => G3 = zSA G1 (zA1 s G2)) (As := [.int (xs (Int32.toNatClampNeg (x3 + (1 : Int32)))), .int (xs (Int32.toNatClampNeg (x3 + (2 : Int32)))), .int (xs (Int32.toNatClampNeg (x3 + (3 : Int32)))), .int (xs (Int32.toNatClampNeg (x3 + (4 : Int32)))), .int (xs (Int32.toNatClampNeg (x3 + (5 : Int32))))]) (rest := []) C I1.1 T mv_L_51 (zLof rfl (c_X11_feed l (zSA G1 (zA1 s G2)) h1 (xs (Int32.toNatClampNeg (x3 + (1 : Int32)))) (xs (Int32.toNatClampNeg (x3 + (2 : Int32)))) (xs (Int32.toNatClampNeg (x3 + (3 : Int32)))) (xs (Int32.toNatClampNeg (x3 + (4 : Int32)))) (xs (Int32.toNatClampNeg (x3 + (5 : Int32)))) (r, k1) (fun c hc => I1.2.1 c ((by decide : ∀ c ∈ nd_X11_feed, c ∈ zBN) c hc)) (fun q hq => I1.2.2.1 q ((by decide : ∀ q ∈ ld_X11_feed, q ∈ zBL) q hq)) e1)) (fun G3 h9 => by rw [h9]; rfl) (I1.2.1 0 (by decide)) ⟨_, _, _, sh_0, rfl, rfl⟩ rfl rfl (Nat.le_of_ble_eq_true rfl) hl.1 ⟨Nat.le_of_ble_eq_true rfl, Nat.le_of_ble_eq_true rfl, by show cells + 0 ≤ 600000; omega, by show slots + 0 ≤ 7302249; omega⟩ dL_law_512 (fun G3 H locs hG T1 => ?_)
  have I3 : zIX s G3 k1 := by rw [hG]; exact I1.SA.same (m_X11_feed _ _ _ _ _ _  e1 0 (by decide))
  have ha : zal G3 0 = zal G1 0 := by rw [hG]; rfl
  skip
  refine lv_aload_n C.1 C.2.1 dL_law_515 rfl (lv_at hl 2 rfl) ?_
  refine lv_aload_n C.1 C.2.1 dL_law_516 rfl (lv_at hl 0 rfl) ?_
  refine lv_iload_n C.1 C.2.1 dL_law_517 rfl (lv_at hl 3 rfl) ?_
  refine lv_iconst (v := (1 : Int32)) C.1 C.2.1 dL_law_518 rfl ?_
  refine lv_iadd C.1 C.2.1 dL_law_519 ?_
  refine va_sld (A := fun q => s.heap.size ≤ q) C.1 C.2.1 hX hbl (Nat.not_le.mpr hbl) T1.2.2.2.2.2 (hin (1 : Int32) (by decide) (by decide)) dL_law_520 ?_
  refine lv_aload_n C.1 C.2.1 dL_law_521 rfl (lv_at hl 0 rfl) ?_
  refine lv_iload_n C.1 C.2.1 dL_law_522 rfl (lv_at hl 3 rfl) ?_
  refine lv_iconst (v := (2 : Int32)) C.1 C.2.1 dL_law_523 rfl ?_
  refine lv_iadd C.1 C.2.1 dL_law_524 ?_
  refine va_sld (A := fun q => s.heap.size ≤ q) C.1 C.2.1 hX hbl (Nat.not_le.mpr hbl) T1.2.2.2.2.2 (hin (2 : Int32) (by decide) (by decide)) dL_law_525 ?_
  refine lv_aload_n C.1 C.2.1 dL_law_526 rfl (lv_at hl 0 rfl) ?_
  refine lv_iload_n C.1 C.2.1 dL_law_527 rfl (lv_at hl 3 rfl) ?_
  refine lv_iconst (v := (3 : Int32)) C.1 C.2.1 dL_law_528 rfl ?_
  refine lv_iadd C.1 C.2.1 dL_law_529 ?_
  refine va_sld (A := fun q => s.heap.size ≤ q) C.1 C.2.1 hX hbl (Nat.not_le.mpr hbl) T1.2.2.2.2.2 (hin (3 : Int32) (by decide) (by decide)) dL_law_530 ?_
  refine lv_aload_n C.1 C.2.1 dL_law_531 rfl (lv_at hl 0 rfl) ?_
  refine lv_iload_n C.1 C.2.1 dL_law_532 rfl (lv_at hl 3 rfl) ?_
  refine lv_iconst (v := (4 : Int32)) C.1 C.2.1 dL_law_533 rfl ?_
  refine lv_iadd C.1 C.2.1 dL_law_534 ?_
  refine va_sld (A := fun q => s.heap.size ≤ q) C.1 C.2.1 hX hbl (Nat.not_le.mpr hbl) T1.2.2.2.2.2 (hin (4 : Int32) (by decide) (by decide)) dL_law_535 ?_
  refine lv_aload_n C.1 C.2.1 dL_law_536 rfl (lv_at hl 0 rfl) ?_
  refine lv_iload_n C.1 C.2.1 dL_law_537 rfl (lv_at hl 3 rfl) ?_
  refine lv_iconst (v := (5 : Int32)) C.1 C.2.1 dL_law_538 rfl ?_
  refine lv_iadd C.1 C.2.1 dL_law_539 ?_
  refine va_sld (A := fun q => s.heap.size ≤ q) C.1 C.2.1 hX hbl (Nat.not_le.mpr hbl) T1.2.2.2.2.2 (hin (5 : Int32) (by decide) (by decide)) dL_law_540 ?_
  refine zLVI (c0 := 100) (X := fun G4 => G4 = zSA G2 (zA1 s G3)) (As := [.int (xs (Int32.toNatClampNeg (x3 + (1 : Int32)))), .int (xs (Int32.toNatClampNeg (x3 + (2 : Int32)))), .int (xs (Int32.toNatClampNeg (x3 + (3 : Int32)))), .int (xs (Int32.toNatClampNeg (x3 + (4 : Int32)))), .int (xs (Int32.toNatClampNeg (x3 + (5 : Int32))))]) (rest := [.int r]) C I2.1 T1.symm mv_L_55 (zLof rfl (c_X12_feed l (zSA G2 (zA1 s G3)) h2 (xs (Int32.toNatClampNeg (x3 + (1 : Int32)))) (xs (Int32.toNatClampNeg (x3 + (2 : Int32)))) (xs (Int32.toNatClampNeg (x3 + (3 : Int32)))) (xs (Int32.toNatClampNeg (x3 + (4 : Int32)))) (xs (Int32.toNatClampNeg (x3 + (5 : Int32)))) (r, k2) (fun c hc => I2.2.1 c ((by decide : ∀ c ∈ nd_X12_feed, c ∈ zNm) c hc)) (fun q hq => I2.2.2 q ((by decide : ∀ q ∈ ld_X12_feed, q ∈ zLm) q hq)) e2)) (fun G4 h9 => by rw [h9]; rfl) (I2.2.1 100 (by decide)) ⟨_, _, _, sh_100, rfl, rfl⟩ rfl rfl (Nat.le_of_ble_eq_true rfl) hl.1 ⟨Nat.le_of_ble_eq_true rfl, Nat.le_of_ble_eq_true rfl, by show cells + 0 + 0 ≤ 600000; omega, by show slots + 0 + 0 ≤ 7302249; omega⟩ dL_law_541 (fun G4 H locs hG4 T2 => ?_)
  have T3 : zT s H locs G3 k1 G2 k2 := by rw [hG4] at T2; exact T2.symm
  refine W.widen (k := cells + 21) (n := slots + 3000) (by omega) (by omega) ?_
  refine lv_icmp_eq (tgt := 1154) C.1 C.2.1 dL_law_544 (by decide) (fun hc => ?_) (fun hc => absurd rfl hc)
  exact kn G3 k1 k2 H locs T3 I3 hrel2 ha
set_option maxHeartbeats 4000000 in
set_option maxRecDepth 100000 in
theorem lc_end (C : zLC p s m #[.ref b] c code 4 RL) (hX : va_X b L xs s s.heap) (hbl : b < s.heap.size) (T : zT s H locs G1 h1 G2 h2) (I1 : zIX s G1 h1) (I2 : zIM s G2) (hs : zst_end Rel) (hrel : Rel h1 h2) (hl : lv_has ls 4 [(0, .ref b), (1, .ref (zal G1 0)), (2, .ref (zal G2 100)), (3, .int x3)]) (hin : ∀ k : Int32, 0 ≤ k → k ≤ 5 → vp_in (x3 + k) L) (hcs : cells + 21 ≤ 600000 ∧ slots + 3000 ≤ 7302249)
    (kn : ∀ (G3 : zG) (h3 h4 : zH) (H1 : Heap) (locs1 : List Loc), zT s H1 locs1 G3 h3 G2 h4 → zIX s G3 h3 → Rel h3 h4 → zal G3 0 = zal G1 0 → W p l e room_1 s m #[.ref b] below meth c H1 locs1 (cells + 21) (slots + 3000) Q (F0 m 1154 ls [])) : W p l e room_1 s m #[.ref b] below meth c H locs cells slots Q (F0 m 549 ls []) := by
  refine lv_aload_n C.1 C.2.1 dL_law_549 rfl (lv_at hl 1 rfl) ?_
  refine lv_aload_n C.1 C.2.1 dL_law_550 rfl (lv_at hl 0 rfl) ?_
  refine lv_iload_n C.1 C.2.1 dL_law_551 rfl (lv_at hl 3 rfl) ?_
  refine lv_iconst (v := (1 : Int32)) C.1 C.2.1 dL_law_552 rfl ?_
  refine lv_iadd C.1 C.2.1 dL_law_553 ?_
  refine va_sld (A := fun q => s.heap.size ≤ q) C.1 C.2.1 hX hbl (Nat.not_le.mpr hbl) T.2.2.2.2.2 (hin (1 : Int32) (by decide) (by decide)) dL_law_554 ?_
  obtain ⟨r, k1, k2, e1, e2, hrel2⟩ := hs h1 h2 (xs (Int32.toNatClampNeg (x3 + (1 : Int32)))) hrel 
  refine zLVI (c0 := 0) (X := fun G3 => G3 = zSA G1 (zA1 s G2)) (As := [.int (xs (Int32.toNatClampNeg (x3 + (1 : Int32))))]) (rest := []) C I1.1 T mv_L_56 (zLof rfl (c_X11_end l (zSA G1 (zA1 s G2)) h1 (xs (Int32.toNatClampNeg (x3 + (1 : Int32)))) (r, k1) (fun c hc => I1.2.1 c ((by decide : ∀ c ∈ nd_X11_end, c ∈ zBN) c hc)) (fun q hq => I1.2.2.1 q ((by decide : ∀ q ∈ ld_X11_end, q ∈ zBL) q hq)) e1)) (fun G3 h9 => by rw [h9]; rfl) (I1.2.1 0 (by decide)) ⟨_, _, _, sh_0, rfl, rfl⟩ rfl rfl (Nat.le_of_ble_eq_true rfl) hl.1 ⟨Nat.le_of_ble_eq_true rfl, Nat.le_of_ble_eq_true rfl, by show cells + 0 ≤ 600000; omega, by show slots + 0 ≤ 7302249; omega⟩ dL_law_555 (fun G3 H locs hG T1 => ?_)
  have I3 : zIX s G3 k1 := by rw [hG]; exact I1.SA.same (m_X11_end _ _  e1 0 (by decide))
  have ha : zal G3 0 = zal G1 0 := by rw [hG]; rfl
  skip
  refine lv_aload_n C.1 C.2.1 dL_law_558 rfl (lv_at hl 2 rfl) ?_
  refine lv_aload_n C.1 C.2.1 dL_law_559 rfl (lv_at hl 0 rfl) ?_
  refine lv_iload_n C.1 C.2.1 dL_law_560 rfl (lv_at hl 3 rfl) ?_
  refine lv_iconst (v := (1 : Int32)) C.1 C.2.1 dL_law_561 rfl ?_
  refine lv_iadd C.1 C.2.1 dL_law_562 ?_
  refine va_sld (A := fun q => s.heap.size ≤ q) C.1 C.2.1 hX hbl (Nat.not_le.mpr hbl) T1.2.2.2.2.2 (hin (1 : Int32) (by decide) (by decide)) dL_law_563 ?_
  refine zLVI (c0 := 100) (X := fun G4 => G4 = zSA G2 (zA1 s G3)) (As := [.int (xs (Int32.toNatClampNeg (x3 + (1 : Int32))))]) (rest := [.int r]) C I2.1 T1.symm mv_L_60 (zLof rfl (c_X12_end l (zSA G2 (zA1 s G3)) h2 (xs (Int32.toNatClampNeg (x3 + (1 : Int32)))) (r, k2) (fun c hc => I2.2.1 c ((by decide : ∀ c ∈ nd_X12_end, c ∈ zNm) c hc)) (fun q hq => I2.2.2 q ((by decide : ∀ q ∈ ld_X12_end, q ∈ zLm) q hq)) e2)) (fun G4 h9 => by rw [h9]; rfl) (I2.2.1 100 (by decide)) ⟨_, _, _, sh_100, rfl, rfl⟩ rfl rfl (Nat.le_of_ble_eq_true rfl) hl.1 ⟨Nat.le_of_ble_eq_true rfl, Nat.le_of_ble_eq_true rfl, by show cells + 0 + 0 ≤ 600000; omega, by show slots + 0 + 0 ≤ 7302249; omega⟩ dL_law_564 (fun G4 H locs hG4 T2 => ?_)
  have T3 : zT s H locs G3 k1 G2 k2 := by rw [hG4] at T2; exact T2.symm
  refine W.widen (k := cells + 21) (n := slots + 3000) (by omega) (by omega) ?_
  refine lv_icmp_eq (tgt := 1154) C.1 C.2.1 dL_law_567 (by decide) (fun hc => ?_) (fun hc => absurd rfl hc)
  exact kn G3 k1 k2 H locs T3 I3 hrel2 ha
set_option maxHeartbeats 4000000 in
set_option maxRecDepth 100000 in
theorem lc_text (C : zLC p s m #[.ref b] c code 4 RL) (hX : va_X b L xs s s.heap) (hbl : b < s.heap.size) (T : zT s H locs G1 h1 G2 h2) (I1 : zIX s G1 h1) (I2 : zIM s G2) (hs : zst_text Rel) (hrel : Rel h1 h2) (hl : lv_has ls 4 [(0, .ref b), (1, .ref (zal G1 0)), (2, .ref (zal G2 100)), (3, .int x3)]) (hin : ∀ k : Int32, 0 ≤ k → k ≤ 5 → vp_in (x3 + k) L) (hcs : cells + 21 ≤ 600000 ∧ slots + 3000 ≤ 7302249)
    (kn : ∀ (G3 : zG) (h3 h4 : zH) (H1 : Heap) (locs1 : List Loc), zT s H1 locs1 G3 h3 G2 h4 → zIX s G3 h3 → Rel h3 h4 → zal G3 0 = zal G1 0 → W p l e room_1 s m #[.ref b] below meth c H1 locs1 (cells + 21) (slots + 3000) Q (F0 m 1154 ls [])) : W p l e room_1 s m #[.ref b] below meth c H locs cells slots Q (F0 m 572 ls []) := by
  refine lv_aload_n C.1 C.2.1 dL_law_572 rfl (lv_at hl 1 rfl) ?_
  obtain ⟨r, k1, k2, e1, e2, hrel2⟩ := hs h1 h2  hrel 
  refine zLVI (c0 := 0) (X := fun G3 => G3 = zSA G1 (zA1 s G2)) (As := []) (rest := []) C I1.1 T mv_L_61 (zLof rfl (c_X11_text l (zSA G1 (zA1 s G2)) h1  (r, k1) (fun c hc => I1.2.1 c ((by decide : ∀ c ∈ nd_X11_text, c ∈ zBN) c hc)) (fun q hq => I1.2.2.1 q ((by decide : ∀ q ∈ ld_X11_text, q ∈ zBL) q hq)) e1)) (fun G3 h9 => by rw [h9]; rfl) (I1.2.1 0 (by decide)) ⟨_, _, _, sh_0, rfl, rfl⟩ rfl rfl (Nat.le_of_ble_eq_true rfl) hl.1 ⟨Nat.le_of_ble_eq_true rfl, Nat.le_of_ble_eq_true rfl, by show cells + 0 ≤ 600000; omega, by show slots + 0 ≤ 7302249; omega⟩ dL_law_573 (fun G3 H locs hG T1 => ?_)
  have I3 : zIX s G3 k1 := by rw [hG]; exact I1.SA.same (m_X11_text _  e1 0 (by decide))
  have ha : zal G3 0 = zal G1 0 := by rw [hG]; rfl
  skip
  refine lv_aload_n C.1 C.2.1 dL_law_576 rfl (lv_at hl 2 rfl) ?_
  refine zLVI (c0 := 100) (X := fun G4 => G4 = zSA G2 (zA1 s G3)) (As := []) (rest := [.int r]) C I2.1 T1.symm mv_L_65 (zLof rfl (c_X12_text l (zSA G2 (zA1 s G3)) h2  (r, k2) (fun c hc => I2.2.1 c ((by decide : ∀ c ∈ nd_X12_text, c ∈ zNm) c hc)) (fun q hq => I2.2.2 q ((by decide : ∀ q ∈ ld_X12_text, q ∈ zLm) q hq)) e2)) (fun G4 h9 => by rw [h9]; rfl) (I2.2.1 100 (by decide)) ⟨_, _, _, sh_100, rfl, rfl⟩ rfl rfl (Nat.le_of_ble_eq_true rfl) hl.1 ⟨Nat.le_of_ble_eq_true rfl, Nat.le_of_ble_eq_true rfl, by show cells + 0 + 0 ≤ 600000; omega, by show slots + 0 + 0 ≤ 7302249; omega⟩ dL_law_577 (fun G4 H locs hG4 T2 => ?_)
  have T3 : zT s H locs G3 k1 G2 k2 := by rw [hG4] at T2; exact T2.symm
  refine W.widen (k := cells + 21) (n := slots + 3000) (by omega) (by omega) ?_
  refine lv_icmp_eq (tgt := 1154) C.1 C.2.1 dL_law_580 (by decide) (fun hc => ?_) (fun hc => absurd rfl hc)
  exact kn G3 k1 k2 H locs T3 I3 hrel2 ha
set_option maxHeartbeats 4000000 in
set_option maxRecDepth 100000 in
theorem lc_fault (C : zLC p s m #[.ref b] c code 4 RL) (hX : va_X b L xs s s.heap) (hbl : b < s.heap.size) (T : zT s H locs G1 h1 G2 h2) (I1 : zIX s G1 h1) (I2 : zIM s G2) (hs : zst_fault Rel) (hrel : Rel h1 h2) (hl : lv_has ls 4 [(0, .ref b), (1, .ref (zal G1 0)), (2, .ref (zal G2 100)), (3, .int x3)]) (hin : ∀ k : Int32, 0 ≤ k → k ≤ 5 → vp_in (x3 + k) L) (hcs : cells + 21 ≤ 600000 ∧ slots + 3000 ≤ 7302249)
    (kn : ∀ (G3 : zG) (h3 h4 : zH) (H1 : Heap) (locs1 : List Loc), zT s H1 locs1 G3 h3 G2 h4 → zIX s G3 h3 → Rel h3 h4 → zal G3 0 = zal G1 0 → W p l e room_1 s m #[.ref b] below meth c H1 locs1 (cells + 21) (slots + 3000) Q (F0 m 1154 ls [])) : W p l e room_1 s m #[.ref b] below meth c H locs cells slots Q (F0 m 585 ls []) := by
  refine lv_aload_n C.1 C.2.1 dL_law_585 rfl (lv_at hl 1 rfl) ?_
  refine lv_aload_n C.1 C.2.1 dL_law_586 rfl (lv_at hl 0 rfl) ?_
  refine lv_iload_n C.1 C.2.1 dL_law_587 rfl (lv_at hl 3 rfl) ?_
  refine lv_iconst (v := (1 : Int32)) C.1 C.2.1 dL_law_588 rfl ?_
  refine lv_iadd C.1 C.2.1 dL_law_589 ?_
  refine va_sld (A := fun q => s.heap.size ≤ q) C.1 C.2.1 hX hbl (Nat.not_le.mpr hbl) T.2.2.2.2.2 (hin (1 : Int32) (by decide) (by decide)) dL_law_590 ?_
  obtain ⟨r, k1, k2, e1, e2, hrel2⟩ := hs h1 h2 (xs (Int32.toNatClampNeg (x3 + (1 : Int32)))) hrel 
  refine zLVI (c0 := 0) (X := fun G3 => G3 = zSA G1 (zA1 s G2)) (As := [.int (xs (Int32.toNatClampNeg (x3 + (1 : Int32))))]) (rest := []) C I1.1 T mv_L_66 (zLof rfl (c_X11_fault l (zSA G1 (zA1 s G2)) h1 (xs (Int32.toNatClampNeg (x3 + (1 : Int32)))) (r, k1) (fun c hc => I1.2.1 c ((by decide : ∀ c ∈ nd_X11_fault, c ∈ zBN) c hc)) (fun q hq => I1.2.2.1 q ((by decide : ∀ q ∈ ld_X11_fault, q ∈ zBL) q hq)) e1)) (fun G3 h9 => by rw [h9]; rfl) (I1.2.1 0 (by decide)) ⟨_, _, _, sh_0, rfl, rfl⟩ rfl rfl (Nat.le_of_ble_eq_true rfl) hl.1 ⟨Nat.le_of_ble_eq_true rfl, Nat.le_of_ble_eq_true rfl, by show cells + 0 ≤ 600000; omega, by show slots + 0 ≤ 7302249; omega⟩ dL_law_591 (fun G3 H locs hG T1 => ?_)
  have I3 : zIX s G3 k1 := by rw [hG]; exact I1.SA.same (m_X11_fault _ _  e1 0 (by decide))
  have ha : zal G3 0 = zal G1 0 := by rw [hG]; rfl
  skip
  refine lv_aload_n C.1 C.2.1 dL_law_594 rfl (lv_at hl 2 rfl) ?_
  refine lv_aload_n C.1 C.2.1 dL_law_595 rfl (lv_at hl 0 rfl) ?_
  refine lv_iload_n C.1 C.2.1 dL_law_596 rfl (lv_at hl 3 rfl) ?_
  refine lv_iconst (v := (1 : Int32)) C.1 C.2.1 dL_law_597 rfl ?_
  refine lv_iadd C.1 C.2.1 dL_law_598 ?_
  refine va_sld (A := fun q => s.heap.size ≤ q) C.1 C.2.1 hX hbl (Nat.not_le.mpr hbl) T1.2.2.2.2.2 (hin (1 : Int32) (by decide) (by decide)) dL_law_599 ?_
  refine zLVI (c0 := 100) (X := fun G4 => G4 = zSA G2 (zA1 s G3)) (As := [.int (xs (Int32.toNatClampNeg (x3 + (1 : Int32))))]) (rest := [.int r]) C I2.1 T1.symm mv_L_69 (zLof rfl (c_X12_fault l (zSA G2 (zA1 s G3)) h2 (xs (Int32.toNatClampNeg (x3 + (1 : Int32)))) (r, k2) (fun c hc => I2.2.1 c ((by decide : ∀ c ∈ nd_X12_fault, c ∈ zNm) c hc)) (fun q hq => I2.2.2 q ((by decide : ∀ q ∈ ld_X12_fault, q ∈ zLm) q hq)) e2)) (fun G4 h9 => by rw [h9]; rfl) (I2.2.1 100 (by decide)) ⟨_, _, _, sh_100, rfl, rfl⟩ rfl rfl (Nat.le_of_ble_eq_true rfl) hl.1 ⟨Nat.le_of_ble_eq_true rfl, Nat.le_of_ble_eq_true rfl, by show cells + 0 + 0 ≤ 600000; omega, by show slots + 0 + 0 ≤ 7302249; omega⟩ dL_law_600 (fun G4 H locs hG4 T2 => ?_)
  have T3 : zT s H locs G3 k1 G2 k2 := by rw [hG4] at T2; exact T2.symm
  refine W.widen (k := cells + 21) (n := slots + 3000) (by omega) (by omega) ?_
  refine lv_icmp_eq (tgt := 1154) C.1 C.2.1 dL_law_603 (by decide) (fun hc => ?_) (fun hc => absurd rfl hc)
  exact kn G3 k1 k2 H locs T3 I3 hrel2 ha
set_option maxHeartbeats 4000000 in
set_option maxRecDepth 100000 in
theorem lc_evenings (C : zLC p s m #[.ref b] c code 4 RL) (hX : va_X b L xs s s.heap) (hbl : b < s.heap.size) (T : zT s H locs G1 h1 G2 h2) (I1 : zIX s G1 h1) (I2 : zIM s G2) (hs : zst_evenings Rel) (hrel : Rel h1 h2) (hl : lv_has ls 4 [(0, .ref b), (1, .ref (zal G1 0)), (2, .ref (zal G2 100)), (3, .int x3)]) (hin : ∀ k : Int32, 0 ≤ k → k ≤ 5 → vp_in (x3 + k) L) (hcs : cells + 21 ≤ 600000 ∧ slots + 3000 ≤ 7302249)
    (kn : ∀ (G3 : zG) (h3 h4 : zH) (H1 : Heap) (locs1 : List Loc), zT s H1 locs1 G3 h3 G2 h4 → zIX s G3 h3 → Rel h3 h4 → zal G3 0 = zal G1 0 → W p l e room_1 s m #[.ref b] below meth c H1 locs1 (cells + 21) (slots + 3000) Q (F0 m 1154 ls [])) : W p l e room_1 s m #[.ref b] below meth c H locs cells slots Q (F0 m 608 ls []) := by
  refine lv_aload_n C.1 C.2.1 dL_law_608 rfl (lv_at hl 1 rfl) ?_
  refine lv_aload_n C.1 C.2.1 dL_law_609 rfl (lv_at hl 0 rfl) ?_
  refine lv_iload_n C.1 C.2.1 dL_law_610 rfl (lv_at hl 3 rfl) ?_
  refine lv_iconst (v := (1 : Int32)) C.1 C.2.1 dL_law_611 rfl ?_
  refine lv_iadd C.1 C.2.1 dL_law_612 ?_
  refine va_sld (A := fun q => s.heap.size ≤ q) C.1 C.2.1 hX hbl (Nat.not_le.mpr hbl) T.2.2.2.2.2 (hin (1 : Int32) (by decide) (by decide)) dL_law_613 ?_
  obtain ⟨r, k1, k2, e1, e2, hrel2⟩ := hs h1 h2 (xs (Int32.toNatClampNeg (x3 + (1 : Int32)))) hrel 
  refine zLVI (c0 := 0) (X := fun G3 => G3 = zSA G1 (zA1 s G2)) (As := [.int (xs (Int32.toNatClampNeg (x3 + (1 : Int32))))]) (rest := []) C I1.1 T mv_L_70 (zLof rfl (c_X11_evenings l (zSA G1 (zA1 s G2)) h1 (xs (Int32.toNatClampNeg (x3 + (1 : Int32)))) (r, k1) (fun c hc => I1.2.1 c ((by decide : ∀ c ∈ nd_X11_evenings, c ∈ zBN) c hc)) (fun q hq => I1.2.2.1 q ((by decide : ∀ q ∈ ld_X11_evenings, q ∈ zBL) q hq)) e1)) (fun G3 h9 => by rw [h9]; rfl) (I1.2.1 0 (by decide)) ⟨_, _, _, sh_0, rfl, rfl⟩ rfl rfl (Nat.le_of_ble_eq_true rfl) hl.1 ⟨Nat.le_of_ble_eq_true rfl, Nat.le_of_ble_eq_true rfl, by show cells + 0 ≤ 600000; omega, by show slots + 0 ≤ 7302249; omega⟩ dL_law_614 (fun G3 H locs hG T1 => ?_)
  have I3 : zIX s G3 k1 := by rw [hG]; exact I1.SA.same (m_X11_evenings _ _  e1 0 (by decide))
  have ha : zal G3 0 = zal G1 0 := by rw [hG]; rfl
  skip
  refine lv_aload_n C.1 C.2.1 dL_law_617 rfl (lv_at hl 2 rfl) ?_
  refine lv_aload_n C.1 C.2.1 dL_law_618 rfl (lv_at hl 0 rfl) ?_
  refine lv_iload_n C.1 C.2.1 dL_law_619 rfl (lv_at hl 3 rfl) ?_
  refine lv_iconst (v := (1 : Int32)) C.1 C.2.1 dL_law_620 rfl ?_
  refine lv_iadd C.1 C.2.1 dL_law_621 ?_
  refine va_sld (A := fun q => s.heap.size ≤ q) C.1 C.2.1 hX hbl (Nat.not_le.mpr hbl) T1.2.2.2.2.2 (hin (1 : Int32) (by decide) (by decide)) dL_law_622 ?_
  refine zLVI (c0 := 100) (X := fun G4 => G4 = zSA G2 (zA1 s G3)) (As := [.int (xs (Int32.toNatClampNeg (x3 + (1 : Int32))))]) (rest := [.int r]) C I2.1 T1.symm mv_L_73 (zLof rfl (c_X12_evenings l (zSA G2 (zA1 s G3)) h2 (xs (Int32.toNatClampNeg (x3 + (1 : Int32)))) (r, k2) (fun c hc => I2.2.1 c ((by decide : ∀ c ∈ nd_X12_evenings, c ∈ zNm) c hc)) (fun q hq => I2.2.2 q ((by decide : ∀ q ∈ ld_X12_evenings, q ∈ zLm) q hq)) e2)) (fun G4 h9 => by rw [h9]; rfl) (I2.2.1 100 (by decide)) ⟨_, _, _, sh_100, rfl, rfl⟩ rfl rfl (Nat.le_of_ble_eq_true rfl) hl.1 ⟨Nat.le_of_ble_eq_true rfl, Nat.le_of_ble_eq_true rfl, by show cells + 0 + 0 ≤ 600000; omega, by show slots + 0 + 0 ≤ 7302249; omega⟩ dL_law_623 (fun G4 H locs hG4 T2 => ?_)
  have T3 : zT s H locs G3 k1 G2 k2 := by rw [hG4] at T2; exact T2.symm
  refine W.widen (k := cells + 21) (n := slots + 3000) (by omega) (by omega) ?_
  refine lv_icmp_eq (tgt := 1154) C.1 C.2.1 dL_law_626 (by decide) (fun hc => ?_) (fun hc => absurd rfl hc)
  exact kn G3 k1 k2 H locs T3 I3 hrel2 ha
set_option maxHeartbeats 4000000 in
set_option maxRecDepth 100000 in
theorem lc_of (C : zLC p s m #[.ref b] c code 4 RL) (hX : va_X b L xs s s.heap) (hbl : b < s.heap.size) (T : zT s H locs G1 h1 G2 h2) (I1 : zIX s G1 h1) (I2 : zIM s G2) (hs : zst_of Rel) (hrel : Rel h1 h2) (hl : lv_has ls 4 [(0, .ref b), (1, .ref (zal G1 0)), (2, .ref (zal G2 100)), (3, .int x3)]) (hin : ∀ k : Int32, 0 ≤ k → k ≤ 5 → vp_in (x3 + k) L) (hcs : cells + 21 ≤ 600000 ∧ slots + 3000 ≤ 7302249)
    (kn : ∀ (G3 : zG) (h3 h4 : zH) (H1 : Heap) (locs1 : List Loc), zT s H1 locs1 G3 h3 G2 h4 → zIX s G3 h3 → Rel h3 h4 → zal G3 0 = zal G1 0 → W p l e room_1 s m #[.ref b] below meth c H1 locs1 (cells + 21) (slots + 3000) Q (F0 m 1154 ls [])) : W p l e room_1 s m #[.ref b] below meth c H locs cells slots Q (F0 m 631 ls []) := by
  refine lv_aload_n C.1 C.2.1 dL_law_631 rfl (lv_at hl 1 rfl) ?_
  refine lv_aload_n C.1 C.2.1 dL_law_632 rfl (lv_at hl 0 rfl) ?_
  refine lv_iload_n C.1 C.2.1 dL_law_633 rfl (lv_at hl 3 rfl) ?_
  refine lv_iconst (v := (1 : Int32)) C.1 C.2.1 dL_law_634 rfl ?_
  refine lv_iadd C.1 C.2.1 dL_law_635 ?_
  refine va_sld (A := fun q => s.heap.size ≤ q) C.1 C.2.1 hX hbl (Nat.not_le.mpr hbl) T.2.2.2.2.2 (hin (1 : Int32) (by decide) (by decide)) dL_law_636 ?_
  refine lv_aload_n C.1 C.2.1 dL_law_637 rfl (lv_at hl 0 rfl) ?_
  refine lv_iload_n C.1 C.2.1 dL_law_638 rfl (lv_at hl 3 rfl) ?_
  refine lv_iconst (v := (2 : Int32)) C.1 C.2.1 dL_law_639 rfl ?_
  refine lv_iadd C.1 C.2.1 dL_law_640 ?_
  refine va_sld (A := fun q => s.heap.size ≤ q) C.1 C.2.1 hX hbl (Nat.not_le.mpr hbl) T.2.2.2.2.2 (hin (2 : Int32) (by decide) (by decide)) dL_law_641 ?_
  obtain ⟨r, k1, k2, e1, e2, hrel2⟩ := hs h1 h2 (xs (Int32.toNatClampNeg (x3 + (1 : Int32)))) (xs (Int32.toNatClampNeg (x3 + (2 : Int32)))) hrel 
  refine zLVI (c0 := 0) (X := fun G3 => G3 = zSA G1 (zA1 s G2)) (As := [.int (xs (Int32.toNatClampNeg (x3 + (1 : Int32)))), .int (xs (Int32.toNatClampNeg (x3 + (2 : Int32))))]) (rest := []) C I1.1 T mv_L_74 (zLof rfl (c_X11_of l (zSA G1 (zA1 s G2)) h1 (xs (Int32.toNatClampNeg (x3 + (1 : Int32)))) (xs (Int32.toNatClampNeg (x3 + (2 : Int32)))) (r, k1) (fun c hc => I1.2.1 c ((by decide : ∀ c ∈ nd_X11_of, c ∈ zBN) c hc)) (fun q hq => I1.2.2.1 q ((by decide : ∀ q ∈ ld_X11_of, q ∈ zBL) q hq)) e1)) (fun G3 h9 => by rw [h9]; rfl) (I1.2.1 0 (by decide)) ⟨_, _, _, sh_0, rfl, rfl⟩ rfl rfl (Nat.le_of_ble_eq_true rfl) hl.1 ⟨Nat.le_of_ble_eq_true rfl, Nat.le_of_ble_eq_true rfl, by show cells + 0 ≤ 600000; omega, by show slots + 0 ≤ 7302249; omega⟩ dL_law_642 (fun G3 H locs hG T1 => ?_)
  have I3 : zIX s G3 k1 := by rw [hG]; exact I1.SA.same (m_X11_of _ _ _  e1 0 (by decide))
  have ha : zal G3 0 = zal G1 0 := by rw [hG]; rfl
  skip
  refine lv_aload_n C.1 C.2.1 dL_law_645 rfl (lv_at hl 2 rfl) ?_
  refine lv_aload_n C.1 C.2.1 dL_law_646 rfl (lv_at hl 0 rfl) ?_
  refine lv_iload_n C.1 C.2.1 dL_law_647 rfl (lv_at hl 3 rfl) ?_
  refine lv_iconst (v := (1 : Int32)) C.1 C.2.1 dL_law_648 rfl ?_
  refine lv_iadd C.1 C.2.1 dL_law_649 ?_
  refine va_sld (A := fun q => s.heap.size ≤ q) C.1 C.2.1 hX hbl (Nat.not_le.mpr hbl) T1.2.2.2.2.2 (hin (1 : Int32) (by decide) (by decide)) dL_law_650 ?_
  refine lv_aload_n C.1 C.2.1 dL_law_651 rfl (lv_at hl 0 rfl) ?_
  refine lv_iload_n C.1 C.2.1 dL_law_652 rfl (lv_at hl 3 rfl) ?_
  refine lv_iconst (v := (2 : Int32)) C.1 C.2.1 dL_law_653 rfl ?_
  refine lv_iadd C.1 C.2.1 dL_law_654 ?_
  refine va_sld (A := fun q => s.heap.size ≤ q) C.1 C.2.1 hX hbl (Nat.not_le.mpr hbl) T1.2.2.2.2.2 (hin (2 : Int32) (by decide) (by decide)) dL_law_655 ?_
  refine zLVI (c0 := 100) (X := fun G4 => G4 = zSA G2 (zA1 s G3)) (As := [.int (xs (Int32.toNatClampNeg (x3 + (1 : Int32)))), .int (xs (Int32.toNatClampNeg (x3 + (2 : Int32))))]) (rest := [.int r]) C I2.1 T1.symm mv_L_77 (zLof rfl (c_X12_of l (zSA G2 (zA1 s G3)) h2 (xs (Int32.toNatClampNeg (x3 + (1 : Int32)))) (xs (Int32.toNatClampNeg (x3 + (2 : Int32)))) (r, k2) (fun c hc => I2.2.1 c ((by decide : ∀ c ∈ nd_X12_of, c ∈ zNm) c hc)) (fun q hq => I2.2.2 q ((by decide : ∀ q ∈ ld_X12_of, q ∈ zLm) q hq)) e2)) (fun G4 h9 => by rw [h9]; rfl) (I2.2.1 100 (by decide)) ⟨_, _, _, sh_100, rfl, rfl⟩ rfl rfl (Nat.le_of_ble_eq_true rfl) hl.1 ⟨Nat.le_of_ble_eq_true rfl, Nat.le_of_ble_eq_true rfl, by show cells + 0 + 0 ≤ 600000; omega, by show slots + 0 + 0 ≤ 7302249; omega⟩ dL_law_656 (fun G4 H locs hG4 T2 => ?_)
  have T3 : zT s H locs G3 k1 G2 k2 := by rw [hG4] at T2; exact T2.symm
  refine W.widen (k := cells + 21) (n := slots + 3000) (by omega) (by omega) ?_
  refine lv_icmp_eq (tgt := 1154) C.1 C.2.1 dL_law_659 (by decide) (fun hc => ?_) (fun hc => absurd rfl hc)
  exact kn G3 k1 k2 H locs T3 I3 hrel2 ha
set_option maxHeartbeats 4000000 in
set_option maxRecDepth 100000 in
theorem lc_who (C : zLC p s m #[.ref b] c code 4 RL) (hX : va_X b L xs s s.heap) (hbl : b < s.heap.size) (T : zT s H locs G1 h1 G2 h2) (I1 : zIX s G1 h1) (I2 : zIM s G2) (hs : zst_who Rel) (hrel : Rel h1 h2) (hl : lv_has ls 4 [(0, .ref b), (1, .ref (zal G1 0)), (2, .ref (zal G2 100)), (3, .int x3)]) (hin : ∀ k : Int32, 0 ≤ k → k ≤ 5 → vp_in (x3 + k) L) (hcs : cells + 21 ≤ 600000 ∧ slots + 3000 ≤ 7302249)
    (kn : ∀ (G3 : zG) (h3 h4 : zH) (H1 : Heap) (locs1 : List Loc), zT s H1 locs1 G3 h3 G2 h4 → zIX s G3 h3 → Rel h3 h4 → zal G3 0 = zal G1 0 → W p l e room_1 s m #[.ref b] below meth c H1 locs1 (cells + 21) (slots + 3000) Q (F0 m 1154 ls [])) : W p l e room_1 s m #[.ref b] below meth c H locs cells slots Q (F0 m 664 ls []) := by
  refine lv_aload_n C.1 C.2.1 dL_law_664 rfl (lv_at hl 1 rfl) ?_
  refine lv_aload_n C.1 C.2.1 dL_law_665 rfl (lv_at hl 0 rfl) ?_
  refine lv_iload_n C.1 C.2.1 dL_law_666 rfl (lv_at hl 3 rfl) ?_
  refine lv_iconst (v := (1 : Int32)) C.1 C.2.1 dL_law_667 rfl ?_
  refine lv_iadd C.1 C.2.1 dL_law_668 ?_
  refine va_sld (A := fun q => s.heap.size ≤ q) C.1 C.2.1 hX hbl (Nat.not_le.mpr hbl) T.2.2.2.2.2 (hin (1 : Int32) (by decide) (by decide)) dL_law_669 ?_
  refine lv_aload_n C.1 C.2.1 dL_law_670 rfl (lv_at hl 0 rfl) ?_
  refine lv_iload_n C.1 C.2.1 dL_law_671 rfl (lv_at hl 3 rfl) ?_
  refine lv_iconst (v := (2 : Int32)) C.1 C.2.1 dL_law_672 rfl ?_
  refine lv_iadd C.1 C.2.1 dL_law_673 ?_
  refine va_sld (A := fun q => s.heap.size ≤ q) C.1 C.2.1 hX hbl (Nat.not_le.mpr hbl) T.2.2.2.2.2 (hin (2 : Int32) (by decide) (by decide)) dL_law_674 ?_
  obtain ⟨r, k1, k2, e1, e2, hrel2⟩ := hs h1 h2 (xs (Int32.toNatClampNeg (x3 + (1 : Int32)))) (xs (Int32.toNatClampNeg (x3 + (2 : Int32)))) hrel 
  refine zLVI (c0 := 0) (X := fun G3 => G3 = zSA G1 (zA1 s G2)) (As := [.int (xs (Int32.toNatClampNeg (x3 + (1 : Int32)))), .int (xs (Int32.toNatClampNeg (x3 + (2 : Int32))))]) (rest := []) C I1.1 T mv_L_78 (zLof rfl (c_X11_who l (zSA G1 (zA1 s G2)) h1 (xs (Int32.toNatClampNeg (x3 + (1 : Int32)))) (xs (Int32.toNatClampNeg (x3 + (2 : Int32)))) (r, k1) (fun c hc => I1.2.1 c ((by decide : ∀ c ∈ nd_X11_who, c ∈ zBN) c hc)) (fun q hq => I1.2.2.1 q ((by decide : ∀ q ∈ ld_X11_who, q ∈ zBL) q hq)) e1)) (fun G3 h9 => by rw [h9]; rfl) (I1.2.1 0 (by decide)) ⟨_, _, _, sh_0, rfl, rfl⟩ rfl rfl (Nat.le_of_ble_eq_true rfl) hl.1 ⟨Nat.le_of_ble_eq_true rfl, Nat.le_of_ble_eq_true rfl, by show cells + 0 ≤ 600000; omega, by show slots + 0 ≤ 7302249; omega⟩ dL_law_675 (fun G3 H locs hG T1 => ?_)
  have I3 : zIX s G3 k1 := by rw [hG]; exact I1.SA.same (m_X11_who _ _ _  e1 0 (by decide))
  have ha : zal G3 0 = zal G1 0 := by rw [hG]; rfl
  skip
  refine lv_aload_n C.1 C.2.1 dL_law_678 rfl (lv_at hl 2 rfl) ?_
  refine lv_aload_n C.1 C.2.1 dL_law_679 rfl (lv_at hl 0 rfl) ?_
  refine lv_iload_n C.1 C.2.1 dL_law_680 rfl (lv_at hl 3 rfl) ?_
  refine lv_iconst (v := (1 : Int32)) C.1 C.2.1 dL_law_681 rfl ?_
  refine lv_iadd C.1 C.2.1 dL_law_682 ?_
  refine va_sld (A := fun q => s.heap.size ≤ q) C.1 C.2.1 hX hbl (Nat.not_le.mpr hbl) T1.2.2.2.2.2 (hin (1 : Int32) (by decide) (by decide)) dL_law_683 ?_
  refine lv_aload_n C.1 C.2.1 dL_law_684 rfl (lv_at hl 0 rfl) ?_
  refine lv_iload_n C.1 C.2.1 dL_law_685 rfl (lv_at hl 3 rfl) ?_
  refine lv_iconst (v := (2 : Int32)) C.1 C.2.1 dL_law_686 rfl ?_
  refine lv_iadd C.1 C.2.1 dL_law_687 ?_
  refine va_sld (A := fun q => s.heap.size ≤ q) C.1 C.2.1 hX hbl (Nat.not_le.mpr hbl) T1.2.2.2.2.2 (hin (2 : Int32) (by decide) (by decide)) dL_law_688 ?_
  refine zLVI (c0 := 100) (X := fun G4 => G4 = zSA G2 (zA1 s G3)) (As := [.int (xs (Int32.toNatClampNeg (x3 + (1 : Int32)))), .int (xs (Int32.toNatClampNeg (x3 + (2 : Int32))))]) (rest := [.int r]) C I2.1 T1.symm mv_L_81 (zLof rfl (c_X12_who l (zSA G2 (zA1 s G3)) h2 (xs (Int32.toNatClampNeg (x3 + (1 : Int32)))) (xs (Int32.toNatClampNeg (x3 + (2 : Int32)))) (r, k2) (fun c hc => I2.2.1 c ((by decide : ∀ c ∈ nd_X12_who, c ∈ zNm) c hc)) (fun q hq => I2.2.2 q ((by decide : ∀ q ∈ ld_X12_who, q ∈ zLm) q hq)) e2)) (fun G4 h9 => by rw [h9]; rfl) (I2.2.1 100 (by decide)) ⟨_, _, _, sh_100, rfl, rfl⟩ rfl rfl (Nat.le_of_ble_eq_true rfl) hl.1 ⟨Nat.le_of_ble_eq_true rfl, Nat.le_of_ble_eq_true rfl, by show cells + 0 + 0 ≤ 600000; omega, by show slots + 0 + 0 ≤ 7302249; omega⟩ dL_law_689 (fun G4 H locs hG4 T2 => ?_)
  have T3 : zT s H locs G3 k1 G2 k2 := by rw [hG4] at T2; exact T2.symm
  refine W.widen (k := cells + 21) (n := slots + 3000) (by omega) (by omega) ?_
  refine lv_icmp_eq (tgt := 1154) C.1 C.2.1 dL_law_692 (by decide) (fun hc => ?_) (fun hc => absurd rfl hc)
  exact kn G3 k1 k2 H locs T3 I3 hrel2 ha
set_option maxHeartbeats 4000000 in
set_option maxRecDepth 100000 in
theorem lc_laugh (C : zLC p s m #[.ref b] c code 4 RL) (hX : va_X b L xs s s.heap) (hbl : b < s.heap.size) (T : zT s H locs G1 h1 G2 h2) (I1 : zIX s G1 h1) (I2 : zIM s G2) (hs : zst_laugh Rel) (hrel : Rel h1 h2) (hl : lv_has ls 4 [(0, .ref b), (1, .ref (zal G1 0)), (2, .ref (zal G2 100)), (3, .int x3)]) (hin : ∀ k : Int32, 0 ≤ k → k ≤ 5 → vp_in (x3 + k) L) (hcs : cells + 21 ≤ 600000 ∧ slots + 3000 ≤ 7302249)
    (kn : ∀ (G3 : zG) (h3 h4 : zH) (H1 : Heap) (locs1 : List Loc), zT s H1 locs1 G3 h3 G2 h4 → zIX s G3 h3 → Rel h3 h4 → zal G3 0 = zal G1 0 → W p l e room_1 s m #[.ref b] below meth c H1 locs1 (cells + 21) (slots + 3000) Q (F0 m 1154 ls [])) : W p l e room_1 s m #[.ref b] below meth c H locs cells slots Q (F0 m 697 ls []) := by
  refine lv_aload_n C.1 C.2.1 dL_law_697 rfl (lv_at hl 1 rfl) ?_
  refine lv_aload_n C.1 C.2.1 dL_law_698 rfl (lv_at hl 0 rfl) ?_
  refine lv_iload_n C.1 C.2.1 dL_law_699 rfl (lv_at hl 3 rfl) ?_
  refine lv_iconst (v := (1 : Int32)) C.1 C.2.1 dL_law_700 rfl ?_
  refine lv_iadd C.1 C.2.1 dL_law_701 ?_
  refine va_sld (A := fun q => s.heap.size ≤ q) C.1 C.2.1 hX hbl (Nat.not_le.mpr hbl) T.2.2.2.2.2 (hin (1 : Int32) (by decide) (by decide)) dL_law_702 ?_
  refine lv_aload_n C.1 C.2.1 dL_law_703 rfl (lv_at hl 0 rfl) ?_
  refine lv_iload_n C.1 C.2.1 dL_law_704 rfl (lv_at hl 3 rfl) ?_
  refine lv_iconst (v := (2 : Int32)) C.1 C.2.1 dL_law_705 rfl ?_
  refine lv_iadd C.1 C.2.1 dL_law_706 ?_
  refine va_sld (A := fun q => s.heap.size ≤ q) C.1 C.2.1 hX hbl (Nat.not_le.mpr hbl) T.2.2.2.2.2 (hin (2 : Int32) (by decide) (by decide)) dL_law_707 ?_
  obtain ⟨r, k1, k2, e1, e2, hrel2⟩ := hs h1 h2 (xs (Int32.toNatClampNeg (x3 + (1 : Int32)))) (xs (Int32.toNatClampNeg (x3 + (2 : Int32)))) hrel 
  refine zLVI (c0 := 0) (X := fun G3 => G3 = zSA G1 (zA1 s G2)) (As := [.int (xs (Int32.toNatClampNeg (x3 + (1 : Int32)))), .int (xs (Int32.toNatClampNeg (x3 + (2 : Int32))))]) (rest := []) C I1.1 T mv_L_82 (zLof rfl (c_X11_laugh l (zSA G1 (zA1 s G2)) h1 (xs (Int32.toNatClampNeg (x3 + (1 : Int32)))) (xs (Int32.toNatClampNeg (x3 + (2 : Int32)))) (r, k1) (fun c hc => I1.2.1 c ((by decide : ∀ c ∈ nd_X11_laugh, c ∈ zBN) c hc)) (fun q hq => I1.2.2.1 q ((by decide : ∀ q ∈ ld_X11_laugh, q ∈ zBL) q hq)) e1)) (fun G3 h9 => by rw [h9]; rfl) (I1.2.1 0 (by decide)) ⟨_, _, _, sh_0, rfl, rfl⟩ rfl rfl (Nat.le_of_ble_eq_true rfl) hl.1 ⟨Nat.le_of_ble_eq_true rfl, Nat.le_of_ble_eq_true rfl, by show cells + 0 ≤ 600000; omega, by show slots + 0 ≤ 7302249; omega⟩ dL_law_708 (fun G3 H locs hG T1 => ?_)
  have I3 : zIX s G3 k1 := by rw [hG]; exact I1.SA.same (m_X11_laugh _ _ _  e1 0 (by decide))
  have ha : zal G3 0 = zal G1 0 := by rw [hG]; rfl
  skip
  refine lv_aload_n C.1 C.2.1 dL_law_711 rfl (lv_at hl 2 rfl) ?_
  refine lv_aload_n C.1 C.2.1 dL_law_712 rfl (lv_at hl 0 rfl) ?_
  refine lv_iload_n C.1 C.2.1 dL_law_713 rfl (lv_at hl 3 rfl) ?_
  refine lv_iconst (v := (1 : Int32)) C.1 C.2.1 dL_law_714 rfl ?_
  refine lv_iadd C.1 C.2.1 dL_law_715 ?_
  refine va_sld (A := fun q => s.heap.size ≤ q) C.1 C.2.1 hX hbl (Nat.not_le.mpr hbl) T1.2.2.2.2.2 (hin (1 : Int32) (by decide) (by decide)) dL_law_716 ?_
  refine lv_aload_n C.1 C.2.1 dL_law_717 rfl (lv_at hl 0 rfl) ?_
  refine lv_iload_n C.1 C.2.1 dL_law_718 rfl (lv_at hl 3 rfl) ?_
  refine lv_iconst (v := (2 : Int32)) C.1 C.2.1 dL_law_719 rfl ?_
  refine lv_iadd C.1 C.2.1 dL_law_720 ?_
  refine va_sld (A := fun q => s.heap.size ≤ q) C.1 C.2.1 hX hbl (Nat.not_le.mpr hbl) T1.2.2.2.2.2 (hin (2 : Int32) (by decide) (by decide)) dL_law_721 ?_
  refine zLVI (c0 := 100) (X := fun G4 => G4 = zSA G2 (zA1 s G3)) (As := [.int (xs (Int32.toNatClampNeg (x3 + (1 : Int32)))), .int (xs (Int32.toNatClampNeg (x3 + (2 : Int32))))]) (rest := [.int r]) C I2.1 T1.symm mv_L_85 (zLof rfl (c_X12_laugh l (zSA G2 (zA1 s G3)) h2 (xs (Int32.toNatClampNeg (x3 + (1 : Int32)))) (xs (Int32.toNatClampNeg (x3 + (2 : Int32)))) (r, k2) (fun c hc => I2.2.1 c ((by decide : ∀ c ∈ nd_X12_laugh, c ∈ zNm) c hc)) (fun q hq => I2.2.2 q ((by decide : ∀ q ∈ ld_X12_laugh, q ∈ zLm) q hq)) e2)) (fun G4 h9 => by rw [h9]; rfl) (I2.2.1 100 (by decide)) ⟨_, _, _, sh_100, rfl, rfl⟩ rfl rfl (Nat.le_of_ble_eq_true rfl) hl.1 ⟨Nat.le_of_ble_eq_true rfl, Nat.le_of_ble_eq_true rfl, by show cells + 0 + 0 ≤ 600000; omega, by show slots + 0 + 0 ≤ 7302249; omega⟩ dL_law_722 (fun G4 H locs hG4 T2 => ?_)
  have T3 : zT s H locs G3 k1 G2 k2 := by rw [hG4] at T2; exact T2.symm
  refine W.widen (k := cells + 21) (n := slots + 3000) (by omega) (by omega) ?_
  refine lv_icmp_eq (tgt := 1154) C.1 C.2.1 dL_law_725 (by decide) (fun hc => ?_) (fun hc => absurd rfl hc)
  exact kn G3 k1 k2 H locs T3 I3 hrel2 ha
set_option maxHeartbeats 4000000 in
set_option maxRecDepth 100000 in
theorem lc_told (C : zLC p s m #[.ref b] c code 4 RL) (hX : va_X b L xs s s.heap) (hbl : b < s.heap.size) (T : zT s H locs G1 h1 G2 h2) (I1 : zIX s G1 h1) (I2 : zIM s G2) (hs : zst_told Rel) (hrel : Rel h1 h2) (hl : lv_has ls 4 [(0, .ref b), (1, .ref (zal G1 0)), (2, .ref (zal G2 100)), (3, .int x3)]) (hin : ∀ k : Int32, 0 ≤ k → k ≤ 5 → vp_in (x3 + k) L) (hcs : cells + 21 ≤ 600000 ∧ slots + 3000 ≤ 7302249)
    (kn : ∀ (G3 : zG) (h3 h4 : zH) (H1 : Heap) (locs1 : List Loc), zT s H1 locs1 G3 h3 G2 h4 → zIX s G3 h3 → Rel h3 h4 → zal G3 0 = zal G1 0 → W p l e room_1 s m #[.ref b] below meth c H1 locs1 (cells + 21) (slots + 3000) Q (F0 m 1154 ls [])) : W p l e room_1 s m #[.ref b] below meth c H locs cells slots Q (F0 m 730 ls []) := by
  refine lv_aload_n C.1 C.2.1 dL_law_730 rfl (lv_at hl 1 rfl) ?_
  refine lv_aload_n C.1 C.2.1 dL_law_731 rfl (lv_at hl 0 rfl) ?_
  refine lv_iload_n C.1 C.2.1 dL_law_732 rfl (lv_at hl 3 rfl) ?_
  refine lv_iconst (v := (1 : Int32)) C.1 C.2.1 dL_law_733 rfl ?_
  refine lv_iadd C.1 C.2.1 dL_law_734 ?_
  refine va_sld (A := fun q => s.heap.size ≤ q) C.1 C.2.1 hX hbl (Nat.not_le.mpr hbl) T.2.2.2.2.2 (hin (1 : Int32) (by decide) (by decide)) dL_law_735 ?_
  refine lv_aload_n C.1 C.2.1 dL_law_736 rfl (lv_at hl 0 rfl) ?_
  refine lv_iload_n C.1 C.2.1 dL_law_737 rfl (lv_at hl 3 rfl) ?_
  refine lv_iconst (v := (2 : Int32)) C.1 C.2.1 dL_law_738 rfl ?_
  refine lv_iadd C.1 C.2.1 dL_law_739 ?_
  refine va_sld (A := fun q => s.heap.size ≤ q) C.1 C.2.1 hX hbl (Nat.not_le.mpr hbl) T.2.2.2.2.2 (hin (2 : Int32) (by decide) (by decide)) dL_law_740 ?_
  obtain ⟨r, k1, k2, e1, e2, hrel2⟩ := hs h1 h2 (xs (Int32.toNatClampNeg (x3 + (1 : Int32)))) (xs (Int32.toNatClampNeg (x3 + (2 : Int32)))) hrel 
  refine zLVI (c0 := 0) (X := fun G3 => G3 = zSA G1 (zA1 s G2)) (As := [.int (xs (Int32.toNatClampNeg (x3 + (1 : Int32)))), .int (xs (Int32.toNatClampNeg (x3 + (2 : Int32))))]) (rest := []) C I1.1 T mv_L_86 (zLof rfl (c_X11_told l (zSA G1 (zA1 s G2)) h1 (xs (Int32.toNatClampNeg (x3 + (1 : Int32)))) (xs (Int32.toNatClampNeg (x3 + (2 : Int32)))) (r, k1) (fun c hc => I1.2.1 c ((by decide : ∀ c ∈ nd_X11_told, c ∈ zBN) c hc)) (fun q hq => I1.2.2.1 q ((by decide : ∀ q ∈ ld_X11_told, q ∈ zBL) q hq)) e1)) (fun G3 h9 => by rw [h9]; rfl) (I1.2.1 0 (by decide)) ⟨_, _, _, sh_0, rfl, rfl⟩ rfl rfl (Nat.le_of_ble_eq_true rfl) hl.1 ⟨Nat.le_of_ble_eq_true rfl, Nat.le_of_ble_eq_true rfl, by show cells + 0 ≤ 600000; omega, by show slots + 0 ≤ 7302249; omega⟩ dL_law_741 (fun G3 H locs hG T1 => ?_)
  have I3 : zIX s G3 k1 := by rw [hG]; exact I1.SA.same (m_X11_told _ _ _  e1 0 (by decide))
  have ha : zal G3 0 = zal G1 0 := by rw [hG]; rfl
  skip
  refine lv_aload_n C.1 C.2.1 dL_law_744 rfl (lv_at hl 2 rfl) ?_
  refine lv_aload_n C.1 C.2.1 dL_law_745 rfl (lv_at hl 0 rfl) ?_
  refine lv_iload_n C.1 C.2.1 dL_law_746 rfl (lv_at hl 3 rfl) ?_
  refine lv_iconst (v := (1 : Int32)) C.1 C.2.1 dL_law_747 rfl ?_
  refine lv_iadd C.1 C.2.1 dL_law_748 ?_
  refine va_sld (A := fun q => s.heap.size ≤ q) C.1 C.2.1 hX hbl (Nat.not_le.mpr hbl) T1.2.2.2.2.2 (hin (1 : Int32) (by decide) (by decide)) dL_law_749 ?_
  refine lv_aload_n C.1 C.2.1 dL_law_750 rfl (lv_at hl 0 rfl) ?_
  refine lv_iload_n C.1 C.2.1 dL_law_751 rfl (lv_at hl 3 rfl) ?_
  refine lv_iconst (v := (2 : Int32)) C.1 C.2.1 dL_law_752 rfl ?_
  refine lv_iadd C.1 C.2.1 dL_law_753 ?_
  refine va_sld (A := fun q => s.heap.size ≤ q) C.1 C.2.1 hX hbl (Nat.not_le.mpr hbl) T1.2.2.2.2.2 (hin (2 : Int32) (by decide) (by decide)) dL_law_754 ?_
  refine zLVI (c0 := 100) (X := fun G4 => G4 = zSA G2 (zA1 s G3)) (As := [.int (xs (Int32.toNatClampNeg (x3 + (1 : Int32)))), .int (xs (Int32.toNatClampNeg (x3 + (2 : Int32))))]) (rest := [.int r]) C I2.1 T1.symm mv_L_89 (zLof rfl (c_X12_told l (zSA G2 (zA1 s G3)) h2 (xs (Int32.toNatClampNeg (x3 + (1 : Int32)))) (xs (Int32.toNatClampNeg (x3 + (2 : Int32)))) (r, k2) (fun c hc => I2.2.1 c ((by decide : ∀ c ∈ nd_X12_told, c ∈ zNm) c hc)) (fun q hq => I2.2.2 q ((by decide : ∀ q ∈ ld_X12_told, q ∈ zLm) q hq)) e2)) (fun G4 h9 => by rw [h9]; rfl) (I2.2.1 100 (by decide)) ⟨_, _, _, sh_100, rfl, rfl⟩ rfl rfl (Nat.le_of_ble_eq_true rfl) hl.1 ⟨Nat.le_of_ble_eq_true rfl, Nat.le_of_ble_eq_true rfl, by show cells + 0 + 0 ≤ 600000; omega, by show slots + 0 + 0 ≤ 7302249; omega⟩ dL_law_755 (fun G4 H locs hG4 T2 => ?_)
  have T3 : zT s H locs G3 k1 G2 k2 := by rw [hG4] at T2; exact T2.symm
  refine W.widen (k := cells + 21) (n := slots + 3000) (by omega) (by omega) ?_
  refine lv_icmp_eq (tgt := 1154) C.1 C.2.1 dL_law_758 (by decide) (fun hc => ?_) (fun hc => absurd rfl hc)
  exact kn G3 k1 k2 H locs T3 I3 hrel2 ha
set_option maxHeartbeats 4000000 in
set_option maxRecDepth 100000 in
theorem lc_telling (C : zLC p s m #[.ref b] c code 4 RL) (hX : va_X b L xs s s.heap) (hbl : b < s.heap.size) (T : zT s H locs G1 h1 G2 h2) (I1 : zIX s G1 h1) (I2 : zIM s G2) (hs : zst_telling Rel) (hrel : Rel h1 h2) (hl : lv_has ls 4 [(0, .ref b), (1, .ref (zal G1 0)), (2, .ref (zal G2 100)), (3, .int x3)]) (hin : ∀ k : Int32, 0 ≤ k → k ≤ 5 → vp_in (x3 + k) L) (hcs : cells + 21 ≤ 600000 ∧ slots + 3000 ≤ 7302249)
    (kn : ∀ (G3 : zG) (h3 h4 : zH) (H1 : Heap) (locs1 : List Loc), zT s H1 locs1 G3 h3 G2 h4 → zIX s G3 h3 → Rel h3 h4 → zal G3 0 = zal G1 0 → W p l e room_1 s m #[.ref b] below meth c H1 locs1 (cells + 21) (slots + 3000) Q (F0 m 1154 ls [])) : W p l e room_1 s m #[.ref b] below meth c H locs cells slots Q (F0 m 763 ls []) := by
  refine lv_aload_n C.1 C.2.1 dL_law_763 rfl (lv_at hl 1 rfl) ?_
  refine lv_aload_n C.1 C.2.1 dL_law_764 rfl (lv_at hl 0 rfl) ?_
  refine lv_iload_n C.1 C.2.1 dL_law_765 rfl (lv_at hl 3 rfl) ?_
  refine lv_iconst (v := (1 : Int32)) C.1 C.2.1 dL_law_766 rfl ?_
  refine lv_iadd C.1 C.2.1 dL_law_767 ?_
  refine va_sld (A := fun q => s.heap.size ≤ q) C.1 C.2.1 hX hbl (Nat.not_le.mpr hbl) T.2.2.2.2.2 (hin (1 : Int32) (by decide) (by decide)) dL_law_768 ?_
  refine lv_aload_n C.1 C.2.1 dL_law_769 rfl (lv_at hl 0 rfl) ?_
  refine lv_iload_n C.1 C.2.1 dL_law_770 rfl (lv_at hl 3 rfl) ?_
  refine lv_iconst (v := (2 : Int32)) C.1 C.2.1 dL_law_771 rfl ?_
  refine lv_iadd C.1 C.2.1 dL_law_772 ?_
  refine va_sld (A := fun q => s.heap.size ≤ q) C.1 C.2.1 hX hbl (Nat.not_le.mpr hbl) T.2.2.2.2.2 (hin (2 : Int32) (by decide) (by decide)) dL_law_773 ?_
  obtain ⟨r, k1, k2, e1, e2, hrel2⟩ := hs h1 h2 (xs (Int32.toNatClampNeg (x3 + (1 : Int32)))) (xs (Int32.toNatClampNeg (x3 + (2 : Int32)))) hrel 
  refine zLVI (c0 := 0) (X := fun G3 => G3 = zSA G1 (zA1 s G2)) (As := [.int (xs (Int32.toNatClampNeg (x3 + (1 : Int32)))), .int (xs (Int32.toNatClampNeg (x3 + (2 : Int32))))]) (rest := []) C I1.1 T mv_L_90 (zLof rfl (c_X11_telling l (zSA G1 (zA1 s G2)) h1 (xs (Int32.toNatClampNeg (x3 + (1 : Int32)))) (xs (Int32.toNatClampNeg (x3 + (2 : Int32)))) (r, k1) (fun c hc => I1.2.1 c ((by decide : ∀ c ∈ nd_X11_telling, c ∈ zBN) c hc)) (fun q hq => I1.2.2.1 q ((by decide : ∀ q ∈ ld_X11_telling, q ∈ zBL) q hq)) e1)) (fun G3 h9 => by rw [h9]; rfl) (I1.2.1 0 (by decide)) ⟨_, _, _, sh_0, rfl, rfl⟩ rfl rfl (Nat.le_of_ble_eq_true rfl) hl.1 ⟨Nat.le_of_ble_eq_true rfl, Nat.le_of_ble_eq_true rfl, by show cells + 0 ≤ 600000; omega, by show slots + 0 ≤ 7302249; omega⟩ dL_law_774 (fun G3 H locs hG T1 => ?_)
  have I3 : zIX s G3 k1 := by rw [hG]; exact I1.SA.same (m_X11_telling _ _ _  e1 0 (by decide))
  have ha : zal G3 0 = zal G1 0 := by rw [hG]; rfl
  skip
  refine lv_aload_n C.1 C.2.1 dL_law_777 rfl (lv_at hl 2 rfl) ?_
  refine lv_aload_n C.1 C.2.1 dL_law_778 rfl (lv_at hl 0 rfl) ?_
  refine lv_iload_n C.1 C.2.1 dL_law_779 rfl (lv_at hl 3 rfl) ?_
  refine lv_iconst (v := (1 : Int32)) C.1 C.2.1 dL_law_780 rfl ?_
  refine lv_iadd C.1 C.2.1 dL_law_781 ?_
  refine va_sld (A := fun q => s.heap.size ≤ q) C.1 C.2.1 hX hbl (Nat.not_le.mpr hbl) T1.2.2.2.2.2 (hin (1 : Int32) (by decide) (by decide)) dL_law_782 ?_
  refine lv_aload_n C.1 C.2.1 dL_law_783 rfl (lv_at hl 0 rfl) ?_
  refine lv_iload_n C.1 C.2.1 dL_law_784 rfl (lv_at hl 3 rfl) ?_
  refine lv_iconst (v := (2 : Int32)) C.1 C.2.1 dL_law_785 rfl ?_
  refine lv_iadd C.1 C.2.1 dL_law_786 ?_
  refine va_sld (A := fun q => s.heap.size ≤ q) C.1 C.2.1 hX hbl (Nat.not_le.mpr hbl) T1.2.2.2.2.2 (hin (2 : Int32) (by decide) (by decide)) dL_law_787 ?_
  refine zLVI (c0 := 100) (X := fun G4 => G4 = zSA G2 (zA1 s G3)) (As := [.int (xs (Int32.toNatClampNeg (x3 + (1 : Int32)))), .int (xs (Int32.toNatClampNeg (x3 + (2 : Int32))))]) (rest := [.int r]) C I2.1 T1.symm mv_L_93 (zLof rfl (c_X12_telling l (zSA G2 (zA1 s G3)) h2 (xs (Int32.toNatClampNeg (x3 + (1 : Int32)))) (xs (Int32.toNatClampNeg (x3 + (2 : Int32)))) (r, k2) (fun c hc => I2.2.1 c ((by decide : ∀ c ∈ nd_X12_telling, c ∈ zNm) c hc)) (fun q hq => I2.2.2 q ((by decide : ∀ q ∈ ld_X12_telling, q ∈ zLm) q hq)) e2)) (fun G4 h9 => by rw [h9]; rfl) (I2.2.1 100 (by decide)) ⟨_, _, _, sh_100, rfl, rfl⟩ rfl rfl (Nat.le_of_ble_eq_true rfl) hl.1 ⟨Nat.le_of_ble_eq_true rfl, Nat.le_of_ble_eq_true rfl, by show cells + 0 + 0 ≤ 600000; omega, by show slots + 0 + 0 ≤ 7302249; omega⟩ dL_law_788 (fun G4 H locs hG4 T2 => ?_)
  have T3 : zT s H locs G3 k1 G2 k2 := by rw [hG4] at T2; exact T2.symm
  refine W.widen (k := cells + 21) (n := slots + 3000) (by omega) (by omega) ?_
  refine lv_icmp_eq (tgt := 1154) C.1 C.2.1 dL_law_791 (by decide) (fun hc => ?_) (fun hc => absurd rfl hc)
  exact kn G3 k1 k2 H locs T3 I3 hrel2 ha
set_option maxHeartbeats 4000000 in
set_option maxRecDepth 100000 in
theorem lc_book (C : zLC p s m #[.ref b] c code 4 RL) (hX : va_X b L xs s s.heap) (hbl : b < s.heap.size) (T : zT s H locs G1 h1 G2 h2) (I1 : zIX s G1 h1) (I2 : zIM s G2) (hs : zst_book Rel) (hrel : Rel h1 h2) (hl : lv_has ls 4 [(0, .ref b), (1, .ref (zal G1 0)), (2, .ref (zal G2 100)), (3, .int x3)]) (hin : ∀ k : Int32, 0 ≤ k → k ≤ 5 → vp_in (x3 + k) L) (hcs : cells + 21 ≤ 600000 ∧ slots + 3000 ≤ 7302249)
    (kn : ∀ (G3 : zG) (h3 h4 : zH) (H1 : Heap) (locs1 : List Loc), zT s H1 locs1 G3 h3 G2 h4 → zIX s G3 h3 → Rel h3 h4 → zal G3 0 = zal G1 0 → W p l e room_1 s m #[.ref b] below meth c H1 locs1 (cells + 21) (slots + 3000) Q (F0 m 1154 ls [])) : W p l e room_1 s m #[.ref b] below meth c H locs cells slots Q (F0 m 796 ls []) := by
  refine lv_aload_n C.1 C.2.1 dL_law_796 rfl (lv_at hl 1 rfl) ?_
  refine lv_aload_n C.1 C.2.1 dL_law_797 rfl (lv_at hl 0 rfl) ?_
  refine lv_iload_n C.1 C.2.1 dL_law_798 rfl (lv_at hl 3 rfl) ?_
  refine lv_iconst (v := (1 : Int32)) C.1 C.2.1 dL_law_799 rfl ?_
  refine lv_iadd C.1 C.2.1 dL_law_800 ?_
  refine va_sld (A := fun q => s.heap.size ≤ q) C.1 C.2.1 hX hbl (Nat.not_le.mpr hbl) T.2.2.2.2.2 (hin (1 : Int32) (by decide) (by decide)) dL_law_801 ?_
  refine lv_aload_n C.1 C.2.1 dL_law_802 rfl (lv_at hl 0 rfl) ?_
  refine lv_iload_n C.1 C.2.1 dL_law_803 rfl (lv_at hl 3 rfl) ?_
  refine lv_iconst (v := (2 : Int32)) C.1 C.2.1 dL_law_804 rfl ?_
  refine lv_iadd C.1 C.2.1 dL_law_805 ?_
  refine va_sld (A := fun q => s.heap.size ≤ q) C.1 C.2.1 hX hbl (Nat.not_le.mpr hbl) T.2.2.2.2.2 (hin (2 : Int32) (by decide) (by decide)) dL_law_806 ?_
  obtain ⟨r, k1, k2, e1, e2, hrel2⟩ := hs h1 h2 (xs (Int32.toNatClampNeg (x3 + (1 : Int32)))) (xs (Int32.toNatClampNeg (x3 + (2 : Int32)))) hrel 
  refine zLVI (c0 := 0) (X := fun G3 => G3 = zSA G1 (zA1 s G2)) (As := [.int (xs (Int32.toNatClampNeg (x3 + (1 : Int32)))), .int (xs (Int32.toNatClampNeg (x3 + (2 : Int32))))]) (rest := []) C I1.1 T mv_L_94 (zLof rfl (c_X11_book l (zSA G1 (zA1 s G2)) h1 (xs (Int32.toNatClampNeg (x3 + (1 : Int32)))) (xs (Int32.toNatClampNeg (x3 + (2 : Int32)))) (r, k1) (fun c hc => I1.2.1 c ((by decide : ∀ c ∈ nd_X11_book, c ∈ zBN) c hc)) (fun q hq => I1.2.2.1 q ((by decide : ∀ q ∈ ld_X11_book, q ∈ zBL) q hq)) e1)) (fun G3 h9 => by rw [h9]; rfl) (I1.2.1 0 (by decide)) ⟨_, _, _, sh_0, rfl, rfl⟩ rfl rfl (Nat.le_of_ble_eq_true rfl) hl.1 ⟨Nat.le_of_ble_eq_true rfl, Nat.le_of_ble_eq_true rfl, by show cells + 0 ≤ 600000; omega, by show slots + 0 ≤ 7302249; omega⟩ dL_law_807 (fun G3 H locs hG T1 => ?_)
  have I3 : zIX s G3 k1 := by rw [hG]; exact I1.SA.same (m_X11_book _ _ _  e1 0 (by decide))
  have ha : zal G3 0 = zal G1 0 := by rw [hG]; rfl
  skip
  refine lv_aload_n C.1 C.2.1 dL_law_810 rfl (lv_at hl 2 rfl) ?_
  refine lv_aload_n C.1 C.2.1 dL_law_811 rfl (lv_at hl 0 rfl) ?_
  refine lv_iload_n C.1 C.2.1 dL_law_812 rfl (lv_at hl 3 rfl) ?_
  refine lv_iconst (v := (1 : Int32)) C.1 C.2.1 dL_law_813 rfl ?_
  refine lv_iadd C.1 C.2.1 dL_law_814 ?_
  refine va_sld (A := fun q => s.heap.size ≤ q) C.1 C.2.1 hX hbl (Nat.not_le.mpr hbl) T1.2.2.2.2.2 (hin (1 : Int32) (by decide) (by decide)) dL_law_815 ?_
  refine lv_aload_n C.1 C.2.1 dL_law_816 rfl (lv_at hl 0 rfl) ?_
  refine lv_iload_n C.1 C.2.1 dL_law_817 rfl (lv_at hl 3 rfl) ?_
  refine lv_iconst (v := (2 : Int32)) C.1 C.2.1 dL_law_818 rfl ?_
  refine lv_iadd C.1 C.2.1 dL_law_819 ?_
  refine va_sld (A := fun q => s.heap.size ≤ q) C.1 C.2.1 hX hbl (Nat.not_le.mpr hbl) T1.2.2.2.2.2 (hin (2 : Int32) (by decide) (by decide)) dL_law_820 ?_
  refine zLVI (c0 := 100) (X := fun G4 => G4 = zSA G2 (zA1 s G3)) (As := [.int (xs (Int32.toNatClampNeg (x3 + (1 : Int32)))), .int (xs (Int32.toNatClampNeg (x3 + (2 : Int32))))]) (rest := [.int r]) C I2.1 T1.symm mv_L_97 (zLof rfl (c_X12_book l (zSA G2 (zA1 s G3)) h2 (xs (Int32.toNatClampNeg (x3 + (1 : Int32)))) (xs (Int32.toNatClampNeg (x3 + (2 : Int32)))) (r, k2) (fun c hc => I2.2.1 c ((by decide : ∀ c ∈ nd_X12_book, c ∈ zNm) c hc)) (fun q hq => I2.2.2 q ((by decide : ∀ q ∈ ld_X12_book, q ∈ zLm) q hq)) e2)) (fun G4 h9 => by rw [h9]; rfl) (I2.2.1 100 (by decide)) ⟨_, _, _, sh_100, rfl, rfl⟩ rfl rfl (Nat.le_of_ble_eq_true rfl) hl.1 ⟨Nat.le_of_ble_eq_true rfl, Nat.le_of_ble_eq_true rfl, by show cells + 0 + 0 ≤ 600000; omega, by show slots + 0 + 0 ≤ 7302249; omega⟩ dL_law_821 (fun G4 H locs hG4 T2 => ?_)
  have T3 : zT s H locs G3 k1 G2 k2 := by rw [hG4] at T2; exact T2.symm
  refine W.widen (k := cells + 21) (n := slots + 3000) (by omega) (by omega) ?_
  refine lv_icmp_eq (tgt := 1154) C.1 C.2.1 dL_law_824 (by decide) (fun hc => ?_) (fun hc => absurd rfl hc)
  exact kn G3 k1 k2 H locs T3 I3 hrel2 ha
set_option maxHeartbeats 4000000 in
set_option maxRecDepth 100000 in
theorem lc_fame (C : zLC p s m #[.ref b] c code 4 RL) (hX : va_X b L xs s s.heap) (hbl : b < s.heap.size) (T : zT s H locs G1 h1 G2 h2) (I1 : zIX s G1 h1) (I2 : zIM s G2) (hs : zst_fame Rel) (hrel : Rel h1 h2) (hl : lv_has ls 4 [(0, .ref b), (1, .ref (zal G1 0)), (2, .ref (zal G2 100)), (3, .int x3)]) (hin : ∀ k : Int32, 0 ≤ k → k ≤ 5 → vp_in (x3 + k) L) (hcs : cells + 21 ≤ 600000 ∧ slots + 3000 ≤ 7302249)
    (kn : ∀ (G3 : zG) (h3 h4 : zH) (H1 : Heap) (locs1 : List Loc), zT s H1 locs1 G3 h3 G2 h4 → zIX s G3 h3 → Rel h3 h4 → zal G3 0 = zal G1 0 → W p l e room_1 s m #[.ref b] below meth c H1 locs1 (cells + 21) (slots + 3000) Q (F0 m 1154 ls [])) : W p l e room_1 s m #[.ref b] below meth c H locs cells slots Q (F0 m 829 ls []) := by
  refine lv_aload_n C.1 C.2.1 dL_law_829 rfl (lv_at hl 1 rfl) ?_
  refine lv_aload_n C.1 C.2.1 dL_law_830 rfl (lv_at hl 0 rfl) ?_
  refine lv_iload_n C.1 C.2.1 dL_law_831 rfl (lv_at hl 3 rfl) ?_
  refine lv_iconst (v := (1 : Int32)) C.1 C.2.1 dL_law_832 rfl ?_
  refine lv_iadd C.1 C.2.1 dL_law_833 ?_
  refine va_sld (A := fun q => s.heap.size ≤ q) C.1 C.2.1 hX hbl (Nat.not_le.mpr hbl) T.2.2.2.2.2 (hin (1 : Int32) (by decide) (by decide)) dL_law_834 ?_
  obtain ⟨r, k1, k2, e1, e2, hrel2⟩ := hs h1 h2 (xs (Int32.toNatClampNeg (x3 + (1 : Int32)))) hrel 
  refine zLVI (c0 := 0) (X := fun G3 => G3 = zSA G1 (zA1 s G2)) (As := [.int (xs (Int32.toNatClampNeg (x3 + (1 : Int32))))]) (rest := []) C I1.1 T mv_L_98 (zLof rfl (c_X11_fame l (zSA G1 (zA1 s G2)) h1 (xs (Int32.toNatClampNeg (x3 + (1 : Int32)))) (r, k1) (fun c hc => I1.2.1 c ((by decide : ∀ c ∈ nd_X11_fame, c ∈ zBN) c hc)) (fun q hq => I1.2.2.1 q ((by decide : ∀ q ∈ ld_X11_fame, q ∈ zBL) q hq)) e1)) (fun G3 h9 => by rw [h9]; rfl) (I1.2.1 0 (by decide)) ⟨_, _, _, sh_0, rfl, rfl⟩ rfl rfl (Nat.le_of_ble_eq_true rfl) hl.1 ⟨Nat.le_of_ble_eq_true rfl, Nat.le_of_ble_eq_true rfl, by show cells + 0 ≤ 600000; omega, by show slots + 0 ≤ 7302249; omega⟩ dL_law_835 (fun G3 H locs hG T1 => ?_)
  have I3 : zIX s G3 k1 := by rw [hG]; exact I1.SA.same (m_X11_fame _ _  e1 0 (by decide))
  have ha : zal G3 0 = zal G1 0 := by rw [hG]; rfl
  skip
  refine lv_aload_n C.1 C.2.1 dL_law_838 rfl (lv_at hl 2 rfl) ?_
  refine lv_aload_n C.1 C.2.1 dL_law_839 rfl (lv_at hl 0 rfl) ?_
  refine lv_iload_n C.1 C.2.1 dL_law_840 rfl (lv_at hl 3 rfl) ?_
  refine lv_iconst (v := (1 : Int32)) C.1 C.2.1 dL_law_841 rfl ?_
  refine lv_iadd C.1 C.2.1 dL_law_842 ?_
  refine va_sld (A := fun q => s.heap.size ≤ q) C.1 C.2.1 hX hbl (Nat.not_le.mpr hbl) T1.2.2.2.2.2 (hin (1 : Int32) (by decide) (by decide)) dL_law_843 ?_
  refine zLVI (c0 := 100) (X := fun G4 => G4 = zSA G2 (zA1 s G3)) (As := [.int (xs (Int32.toNatClampNeg (x3 + (1 : Int32))))]) (rest := [.int r]) C I2.1 T1.symm mv_L_101 (zLof rfl (c_X12_fame l (zSA G2 (zA1 s G3)) h2 (xs (Int32.toNatClampNeg (x3 + (1 : Int32)))) (r, k2) (fun c hc => I2.2.1 c ((by decide : ∀ c ∈ nd_X12_fame, c ∈ zNm) c hc)) (fun q hq => I2.2.2 q ((by decide : ∀ q ∈ ld_X12_fame, q ∈ zLm) q hq)) e2)) (fun G4 h9 => by rw [h9]; rfl) (I2.2.1 100 (by decide)) ⟨_, _, _, sh_100, rfl, rfl⟩ rfl rfl (Nat.le_of_ble_eq_true rfl) hl.1 ⟨Nat.le_of_ble_eq_true rfl, Nat.le_of_ble_eq_true rfl, by show cells + 0 + 0 ≤ 600000; omega, by show slots + 0 + 0 ≤ 7302249; omega⟩ dL_law_844 (fun G4 H locs hG4 T2 => ?_)
  have T3 : zT s H locs G3 k1 G2 k2 := by rw [hG4] at T2; exact T2.symm
  refine W.widen (k := cells + 21) (n := slots + 3000) (by omega) (by omega) ?_
  refine lv_icmp_eq (tgt := 1154) C.1 C.2.1 dL_law_847 (by decide) (fun hc => ?_) (fun hc => absurd rfl hc)
  exact kn G3 k1 k2 H locs T3 I3 hrel2 ha
set_option maxHeartbeats 4000000 in
set_option maxRecDepth 100000 in
theorem lc_merry (C : zLC p s m #[.ref b] c code 4 RL) (hX : va_X b L xs s s.heap) (hbl : b < s.heap.size) (T : zT s H locs G1 h1 G2 h2) (I1 : zIX s G1 h1) (I2 : zIM s G2) (hs : zst_merry Rel) (hrel : Rel h1 h2) (hl : lv_has ls 4 [(0, .ref b), (1, .ref (zal G1 0)), (2, .ref (zal G2 100)), (3, .int x3)]) (hin : ∀ k : Int32, 0 ≤ k → k ≤ 5 → vp_in (x3 + k) L) (hcs : cells + 21 ≤ 600000 ∧ slots + 3000 ≤ 7302249)
    (kn : ∀ (G3 : zG) (h3 h4 : zH) (H1 : Heap) (locs1 : List Loc), zT s H1 locs1 G3 h3 G2 h4 → zIX s G3 h3 → Rel h3 h4 → zal G3 0 = zal G1 0 → W p l e room_1 s m #[.ref b] below meth c H1 locs1 (cells + 21) (slots + 3000) Q (F0 m 1154 ls [])) : W p l e room_1 s m #[.ref b] below meth c H locs cells slots Q (F0 m 852 ls []) := by
  refine lv_aload_n C.1 C.2.1 dL_law_852 rfl (lv_at hl 1 rfl) ?_
  obtain ⟨r, k1, k2, e1, e2, hrel2⟩ := hs h1 h2  hrel 
  refine zLVI (c0 := 0) (X := fun G3 => G3 = zSA G1 (zA1 s G2)) (As := []) (rest := []) C I1.1 T mv_L_102 (zLof rfl (c_X11_merry l (zSA G1 (zA1 s G2)) h1  (r, k1) (fun c hc => I1.2.1 c ((by decide : ∀ c ∈ nd_X11_merry, c ∈ zBN) c hc)) (fun q hq => I1.2.2.1 q ((by decide : ∀ q ∈ ld_X11_merry, q ∈ zBL) q hq)) e1)) (fun G3 h9 => by rw [h9]; rfl) (I1.2.1 0 (by decide)) ⟨_, _, _, sh_0, rfl, rfl⟩ rfl rfl (Nat.le_of_ble_eq_true rfl) hl.1 ⟨Nat.le_of_ble_eq_true rfl, Nat.le_of_ble_eq_true rfl, by show cells + 0 ≤ 600000; omega, by show slots + 0 ≤ 7302249; omega⟩ dL_law_853 (fun G3 H locs hG T1 => ?_)
  have I3 : zIX s G3 k1 := by rw [hG]; exact I1.SA.same (m_X11_merry _  e1 0 (by decide))
  have ha : zal G3 0 = zal G1 0 := by rw [hG]; rfl
  skip
  refine lv_aload_n C.1 C.2.1 dL_law_856 rfl (lv_at hl 2 rfl) ?_
  refine zLVI (c0 := 100) (X := fun G4 => G4 = zSA G2 (zA1 s G3)) (As := []) (rest := [.int r]) C I2.1 T1.symm mv_L_105 (zLof rfl (c_X12_merry l (zSA G2 (zA1 s G3)) h2  (r, k2) (fun c hc => I2.2.1 c ((by decide : ∀ c ∈ nd_X12_merry, c ∈ zNm) c hc)) (fun q hq => I2.2.2 q ((by decide : ∀ q ∈ ld_X12_merry, q ∈ zLm) q hq)) e2)) (fun G4 h9 => by rw [h9]; rfl) (I2.2.1 100 (by decide)) ⟨_, _, _, sh_100, rfl, rfl⟩ rfl rfl (Nat.le_of_ble_eq_true rfl) hl.1 ⟨Nat.le_of_ble_eq_true rfl, Nat.le_of_ble_eq_true rfl, by show cells + 0 + 0 ≤ 600000; omega, by show slots + 0 + 0 ≤ 7302249; omega⟩ dL_law_857 (fun G4 H locs hG4 T2 => ?_)
  have T3 : zT s H locs G3 k1 G2 k2 := by rw [hG4] at T2; exact T2.symm
  refine W.widen (k := cells + 21) (n := slots + 3000) (by omega) (by omega) ?_
  refine lv_icmp_eq (tgt := 1154) C.1 C.2.1 dL_law_860 (by decide) (fun hc => ?_) (fun hc => absurd rfl hc)
  exact kn G3 k1 k2 H locs T3 I3 hrel2 ha
set_option maxHeartbeats 4000000 in
set_option maxRecDepth 100000 in
theorem lc_fit (C : zLC p s m #[.ref b] c code 4 RL) (hX : va_X b L xs s s.heap) (hbl : b < s.heap.size) (T : zT s H locs G1 h1 G2 h2) (I1 : zIX s G1 h1) (I2 : zIM s G2) (hs : zst_fit Rel) (hrel : Rel h1 h2) (hl : lv_has ls 4 [(0, .ref b), (1, .ref (zal G1 0)), (2, .ref (zal G2 100)), (3, .int x3)]) (hin : ∀ k : Int32, 0 ≤ k → k ≤ 5 → vp_in (x3 + k) L) (hcs : cells + 21 ≤ 600000 ∧ slots + 3000 ≤ 7302249)
    (kn : ∀ (G3 : zG) (h3 h4 : zH) (H1 : Heap) (locs1 : List Loc), zT s H1 locs1 G3 h3 G2 h4 → zIX s G3 h3 → Rel h3 h4 → zal G3 0 = zal G1 0 → W p l e room_1 s m #[.ref b] below meth c H1 locs1 (cells + 21) (slots + 3000) Q (F0 m 1154 ls [])) : W p l e room_1 s m #[.ref b] below meth c H locs cells slots Q (F0 m 865 ls []) := by
  refine lv_aload_n C.1 C.2.1 dL_law_865 rfl (lv_at hl 1 rfl) ?_
  refine lv_aload_n C.1 C.2.1 dL_law_866 rfl (lv_at hl 0 rfl) ?_
  refine lv_iload_n C.1 C.2.1 dL_law_867 rfl (lv_at hl 3 rfl) ?_
  refine lv_iconst (v := (1 : Int32)) C.1 C.2.1 dL_law_868 rfl ?_
  refine lv_iadd C.1 C.2.1 dL_law_869 ?_
  refine va_sld (A := fun q => s.heap.size ≤ q) C.1 C.2.1 hX hbl (Nat.not_le.mpr hbl) T.2.2.2.2.2 (hin (1 : Int32) (by decide) (by decide)) dL_law_870 ?_
  obtain ⟨r, k1, k2, e1, e2, hrel2⟩ := hs h1 h2 (xs (Int32.toNatClampNeg (x3 + (1 : Int32)))) hrel 
  refine zLVI (c0 := 0) (X := fun G3 => (G3 = zSA G1 (zA1 s G2) ∧ k1 0 = h1 0) ∨ (∃ qs, G3 = zext (zSA G1 (zA1 s G2)) [74, 75, 76, 77, 78, 79] [(74, 0), (74, 1), (74, 2), (74, 3), (74, 4)] qs ∧ h1 0 7 = 0 ∧ k1 0 = upd (h1 0) 7 1)) (As := [.int (xs (Int32.toNatClampNeg (x3 + (1 : Int32))))]) (rest := []) C I1.1 T mv_L_106 (c_X11_fit l (zSA G1 (zA1 s G2)) h1 (xs (Int32.toNatClampNeg (x3 + (1 : Int32)))) (r, k1) (fun c hc => I1.2.1 c ((by decide : ∀ c ∈ ndq_X11_fit, c ∈ zBN) c hc)) (fun q hq => I1.2.2.1 q ((by decide : ∀ q ∈ ldq_X11_fit, q ∈ zBL) q hq)) I1.2.2.2.2.2.1 e1) (fun G3 h9 => by rcases h9 with ⟨rfl, _⟩ | ⟨qs, rfl, _⟩ <;> rfl) (I1.2.1 0 (by decide)) ⟨_, _, _, sh_0, rfl, rfl⟩ rfl rfl (Nat.le_of_ble_eq_true rfl) hl.1 ⟨Nat.le_of_ble_eq_true rfl, Nat.le_of_ble_eq_true rfl, by show cells + 6 ≤ 600000; omega, by show slots + 2408 ≤ 7302249; omega⟩ dL_law_871 (fun G3 H locs hG T1 => ?_)
  have I3 : zIX s G3 k1 := by
    rcases hG with ⟨rfl, e9⟩ | ⟨qs, rfl, e8, e9⟩
    · exact I1.SA.same e9
    · exact I1.SA.ext7 e8 e9
  have ha : zal G3 0 = zal G1 0 := by
    rcases hG with ⟨rfl, _⟩ | ⟨qs, rfl, _, _⟩
    · rfl
    · exact zext_al (by decide)
  refine lv_aload_n C.1 C.2.1 dL_law_874 rfl (lv_at hl 2 rfl) ?_
  refine lv_aload_n C.1 C.2.1 dL_law_875 rfl (lv_at hl 0 rfl) ?_
  refine lv_iload_n C.1 C.2.1 dL_law_876 rfl (lv_at hl 3 rfl) ?_
  refine lv_iconst (v := (1 : Int32)) C.1 C.2.1 dL_law_877 rfl ?_
  refine lv_iadd C.1 C.2.1 dL_law_878 ?_
  refine va_sld (A := fun q => s.heap.size ≤ q) C.1 C.2.1 hX hbl (Nat.not_le.mpr hbl) T1.2.2.2.2.2 (hin (1 : Int32) (by decide) (by decide)) dL_law_879 ?_
  refine zLVI (c0 := 100) (X := fun G4 => G4 = zSA G2 (zA1 s G3)) (As := [.int (xs (Int32.toNatClampNeg (x3 + (1 : Int32))))]) (rest := [.int r]) C I2.1 T1.symm mv_L_109 (zLof rfl (c_X12_fit l (zSA G2 (zA1 s G3)) h2 (xs (Int32.toNatClampNeg (x3 + (1 : Int32)))) (r, k2) (fun c hc => I2.2.1 c ((by decide : ∀ c ∈ nd_X12_fit, c ∈ zNm) c hc)) (fun q hq => I2.2.2 q ((by decide : ∀ q ∈ ld_X12_fit, q ∈ zLm) q hq)) e2)) (fun G4 h9 => by rw [h9]; rfl) (I2.2.1 100 (by decide)) ⟨_, _, _, sh_100, rfl, rfl⟩ rfl rfl (Nat.le_of_ble_eq_true rfl) hl.1 ⟨Nat.le_of_ble_eq_true rfl, Nat.le_of_ble_eq_true rfl, by show cells + 6 + 0 ≤ 600000; omega, by show slots + 2408 + 0 ≤ 7302249; omega⟩ dL_law_880 (fun G4 H locs hG4 T2 => ?_)
  have T3 : zT s H locs G3 k1 G2 k2 := by rw [hG4] at T2; exact T2.symm
  refine W.widen (k := cells + 21) (n := slots + 3000) (by omega) (by omega) ?_
  refine lv_icmp_eq (tgt := 1154) C.1 C.2.1 dL_law_883 (by decide) (fun hc => ?_) (fun hc => absurd rfl hc)
  exact kn G3 k1 k2 H locs T3 I3 hrel2 ha
set_option maxHeartbeats 4000000 in
set_option maxRecDepth 100000 in
theorem lc_seating (C : zLC p s m #[.ref b] c code 4 RL) (hX : va_X b L xs s s.heap) (hbl : b < s.heap.size) (T : zT s H locs G1 h1 G2 h2) (I1 : zIX s G1 h1) (I2 : zIM s G2) (hs : zst_seating Rel) (hrel : Rel h1 h2) (hl : lv_has ls 4 [(0, .ref b), (1, .ref (zal G1 0)), (2, .ref (zal G2 100)), (3, .int x3)]) (hin : ∀ k : Int32, 0 ≤ k → k ≤ 5 → vp_in (x3 + k) L) (hcs : cells + 21 ≤ 600000 ∧ slots + 3000 ≤ 7302249)
    (kn : ∀ (G3 : zG) (h3 h4 : zH) (H1 : Heap) (locs1 : List Loc), zT s H1 locs1 G3 h3 G2 h4 → zIX s G3 h3 → Rel h3 h4 → zal G3 0 = zal G1 0 → W p l e room_1 s m #[.ref b] below meth c H1 locs1 (cells + 21) (slots + 3000) Q (F0 m 1154 ls [])) : W p l e room_1 s m #[.ref b] below meth c H locs cells slots Q (F0 m 888 ls []) := by
  refine lv_aload_n C.1 C.2.1 dL_law_888 rfl (lv_at hl 1 rfl) ?_
  refine lv_aload_n C.1 C.2.1 dL_law_889 rfl (lv_at hl 0 rfl) ?_
  refine lv_iload_n C.1 C.2.1 dL_law_890 rfl (lv_at hl 3 rfl) ?_
  refine lv_iconst (v := (1 : Int32)) C.1 C.2.1 dL_law_891 rfl ?_
  refine lv_iadd C.1 C.2.1 dL_law_892 ?_
  refine va_sld (A := fun q => s.heap.size ≤ q) C.1 C.2.1 hX hbl (Nat.not_le.mpr hbl) T.2.2.2.2.2 (hin (1 : Int32) (by decide) (by decide)) dL_law_893 ?_
  obtain ⟨r, k1, k2, e1, e2, hrel2⟩ := hs h1 h2 (xs (Int32.toNatClampNeg (x3 + (1 : Int32)))) hrel 
  refine zLVI (c0 := 0) (X := fun G3 => (G3 = zSA G1 (zA1 s G2) ∧ k1 0 = h1 0) ∨ (∃ qs, G3 = zext (zSA G1 (zA1 s G2)) [71, 72, 73] [(71, 1), (71, 2), (71, 0)] qs ∧ h1 0 6 = 0 ∧ k1 0 = upd (h1 0) 6 1)) (As := [.int (xs (Int32.toNatClampNeg (x3 + (1 : Int32))))]) (rest := []) C I1.1 T mv_L_110 (c_X11_seating l (zSA G1 (zA1 s G2)) h1 (xs (Int32.toNatClampNeg (x3 + (1 : Int32)))) (r, k1) (fun c hc => I1.2.1 c ((by decide : ∀ c ∈ ndq_X11_seating, c ∈ zBN) c hc)) (fun q hq => I1.2.2.1 q ((by decide : ∀ q ∈ ldq_X11_seating, q ∈ zBL) q hq)) I1.2.2.2.2.1 e1) (fun G3 h9 => by rcases h9 with ⟨rfl, _⟩ | ⟨qs, rfl, _⟩ <;> rfl) (I1.2.1 0 (by decide)) ⟨_, _, _, sh_0, rfl, rfl⟩ rfl rfl (Nat.le_of_ble_eq_true rfl) hl.1 ⟨Nat.le_of_ble_eq_true rfl, Nat.le_of_ble_eq_true rfl, by show cells + 3 ≤ 600000; omega, by show slots + 19 ≤ 7302249; omega⟩ dL_law_894 (fun G3 H locs hG T1 => ?_)
  have I3 : zIX s G3 k1 := by
    rcases hG with ⟨rfl, e9⟩ | ⟨qs, rfl, e8, e9⟩
    · exact I1.SA.same e9
    · exact I1.SA.ext6 e8 e9
  have ha : zal G3 0 = zal G1 0 := by
    rcases hG with ⟨rfl, _⟩ | ⟨qs, rfl, _, _⟩
    · rfl
    · exact zext_al (by decide)
  refine lv_aload_n C.1 C.2.1 dL_law_897 rfl (lv_at hl 2 rfl) ?_
  refine lv_aload_n C.1 C.2.1 dL_law_898 rfl (lv_at hl 0 rfl) ?_
  refine lv_iload_n C.1 C.2.1 dL_law_899 rfl (lv_at hl 3 rfl) ?_
  refine lv_iconst (v := (1 : Int32)) C.1 C.2.1 dL_law_900 rfl ?_
  refine lv_iadd C.1 C.2.1 dL_law_901 ?_
  refine va_sld (A := fun q => s.heap.size ≤ q) C.1 C.2.1 hX hbl (Nat.not_le.mpr hbl) T1.2.2.2.2.2 (hin (1 : Int32) (by decide) (by decide)) dL_law_902 ?_
  refine zLVI (c0 := 100) (X := fun G4 => G4 = zSA G2 (zA1 s G3)) (As := [.int (xs (Int32.toNatClampNeg (x3 + (1 : Int32))))]) (rest := [.int r]) C I2.1 T1.symm mv_L_113 (zLof rfl (c_X12_seating l (zSA G2 (zA1 s G3)) h2 (xs (Int32.toNatClampNeg (x3 + (1 : Int32)))) (r, k2) (fun c hc => I2.2.1 c ((by decide : ∀ c ∈ nd_X12_seating, c ∈ zNm) c hc)) (fun q hq => I2.2.2 q ((by decide : ∀ q ∈ ld_X12_seating, q ∈ zLm) q hq)) e2)) (fun G4 h9 => by rw [h9]; rfl) (I2.2.1 100 (by decide)) ⟨_, _, _, sh_100, rfl, rfl⟩ rfl rfl (Nat.le_of_ble_eq_true rfl) hl.1 ⟨Nat.le_of_ble_eq_true rfl, Nat.le_of_ble_eq_true rfl, by show cells + 3 + 0 ≤ 600000; omega, by show slots + 19 + 0 ≤ 7302249; omega⟩ dL_law_903 (fun G4 H locs hG4 T2 => ?_)
  have T3 : zT s H locs G3 k1 G2 k2 := by rw [hG4] at T2; exact T2.symm
  refine W.widen (k := cells + 21) (n := slots + 3000) (by omega) (by omega) ?_
  refine lv_icmp_eq (tgt := 1154) C.1 C.2.1 dL_law_906 (by decide) (fun hc => ?_) (fun hc => absurd rfl hc)
  exact kn G3 k1 k2 H locs T3 I3 hrel2 ha
set_option maxHeartbeats 4000000 in
set_option maxRecDepth 100000 in
theorem lc_change (C : zLC p s m #[.ref b] c code 4 RL) (hX : va_X b L xs s s.heap) (hbl : b < s.heap.size) (T : zT s H locs G1 h1 G2 h2) (I1 : zIX s G1 h1) (I2 : zIM s G2) (hs : zst_change Rel) (hrel : Rel h1 h2) (hl : lv_has ls 4 [(0, .ref b), (1, .ref (zal G1 0)), (2, .ref (zal G2 100)), (3, .int x3)]) (hin : ∀ k : Int32, 0 ≤ k → k ≤ 5 → vp_in (x3 + k) L) (hcs : cells + 21 ≤ 600000 ∧ slots + 3000 ≤ 7302249)
    (kn : ∀ (G3 : zG) (h3 h4 : zH) (H1 : Heap) (locs1 : List Loc), zT s H1 locs1 G3 h3 G2 h4 → zIX s G3 h3 → Rel h3 h4 → zal G3 0 = zal G1 0 → W p l e room_1 s m #[.ref b] below meth c H1 locs1 (cells + 21) (slots + 3000) Q (F0 m 1154 ls [])) : W p l e room_1 s m #[.ref b] below meth c H locs cells slots Q (F0 m 911 ls []) := by
  refine lv_aload_n C.1 C.2.1 dL_law_911 rfl (lv_at hl 1 rfl) ?_
  refine lv_aload_n C.1 C.2.1 dL_law_912 rfl (lv_at hl 0 rfl) ?_
  refine lv_iload_n C.1 C.2.1 dL_law_913 rfl (lv_at hl 3 rfl) ?_
  refine lv_iconst (v := (1 : Int32)) C.1 C.2.1 dL_law_914 rfl ?_
  refine lv_iadd C.1 C.2.1 dL_law_915 ?_
  refine va_sld (A := fun q => s.heap.size ≤ q) C.1 C.2.1 hX hbl (Nat.not_le.mpr hbl) T.2.2.2.2.2 (hin (1 : Int32) (by decide) (by decide)) dL_law_916 ?_
  obtain ⟨r, k1, k2, e1, e2, hrel2⟩ := hs h1 h2 (xs (Int32.toNatClampNeg (x3 + (1 : Int32)))) hrel 
  refine zLVI (c0 := 0) (X := fun G3 => G3 = zSA G1 (zA1 s G2)) (As := [.int (xs (Int32.toNatClampNeg (x3 + (1 : Int32))))]) (rest := []) C I1.1 T mv_L_114 (zLof rfl (c_X11_change l (zSA G1 (zA1 s G2)) h1 (xs (Int32.toNatClampNeg (x3 + (1 : Int32)))) (r, k1) (fun c hc => I1.2.1 c ((by decide : ∀ c ∈ nd_X11_change, c ∈ zBN) c hc)) (fun q hq => I1.2.2.1 q ((by decide : ∀ q ∈ ld_X11_change, q ∈ zBL) q hq)) e1)) (fun G3 h9 => by rw [h9]; rfl) (I1.2.1 0 (by decide)) ⟨_, _, _, sh_0, rfl, rfl⟩ rfl rfl (Nat.le_of_ble_eq_true rfl) hl.1 ⟨Nat.le_of_ble_eq_true rfl, Nat.le_of_ble_eq_true rfl, by show cells + 0 ≤ 600000; omega, by show slots + 0 ≤ 7302249; omega⟩ dL_law_917 (fun G3 H locs hG T1 => ?_)
  have I3 : zIX s G3 k1 := by rw [hG]; exact I1.SA.same (m_X11_change _ _  e1 0 (by decide))
  have ha : zal G3 0 = zal G1 0 := by rw [hG]; rfl
  skip
  refine lv_aload_n C.1 C.2.1 dL_law_920 rfl (lv_at hl 2 rfl) ?_
  refine lv_aload_n C.1 C.2.1 dL_law_921 rfl (lv_at hl 0 rfl) ?_
  refine lv_iload_n C.1 C.2.1 dL_law_922 rfl (lv_at hl 3 rfl) ?_
  refine lv_iconst (v := (1 : Int32)) C.1 C.2.1 dL_law_923 rfl ?_
  refine lv_iadd C.1 C.2.1 dL_law_924 ?_
  refine va_sld (A := fun q => s.heap.size ≤ q) C.1 C.2.1 hX hbl (Nat.not_le.mpr hbl) T1.2.2.2.2.2 (hin (1 : Int32) (by decide) (by decide)) dL_law_925 ?_
  refine zLVI (c0 := 100) (X := fun G4 => G4 = zSA G2 (zA1 s G3)) (As := [.int (xs (Int32.toNatClampNeg (x3 + (1 : Int32))))]) (rest := [.int r]) C I2.1 T1.symm mv_L_117 (zLof rfl (c_X12_change l (zSA G2 (zA1 s G3)) h2 (xs (Int32.toNatClampNeg (x3 + (1 : Int32)))) (r, k2) (fun c hc => I2.2.1 c ((by decide : ∀ c ∈ nd_X12_change, c ∈ zNm) c hc)) (fun q hq => I2.2.2 q ((by decide : ∀ q ∈ ld_X12_change, q ∈ zLm) q hq)) e2)) (fun G4 h9 => by rw [h9]; rfl) (I2.2.1 100 (by decide)) ⟨_, _, _, sh_100, rfl, rfl⟩ rfl rfl (Nat.le_of_ble_eq_true rfl) hl.1 ⟨Nat.le_of_ble_eq_true rfl, Nat.le_of_ble_eq_true rfl, by show cells + 0 + 0 ≤ 600000; omega, by show slots + 0 + 0 ≤ 7302249; omega⟩ dL_law_926 (fun G4 H locs hG4 T2 => ?_)
  have T3 : zT s H locs G3 k1 G2 k2 := by rw [hG4] at T2; exact T2.symm
  refine W.widen (k := cells + 21) (n := slots + 3000) (by omega) (by omega) ?_
  refine lv_icmp_eq (tgt := 1154) C.1 C.2.1 dL_law_929 (by decide) (fun hc => ?_) (fun hc => absurd rfl hc)
  exact kn G3 k1 k2 H locs T3 I3 hrel2 ha
set_option maxHeartbeats 4000000 in
set_option maxRecDepth 100000 in
theorem lc_like (C : zLC p s m #[.ref b] c code 4 RL) (hX : va_X b L xs s s.heap) (hbl : b < s.heap.size) (T : zT s H locs G1 h1 G2 h2) (I1 : zIX s G1 h1) (I2 : zIM s G2) (hs : zst_like Rel) (hrel : Rel h1 h2) (hl : lv_has ls 4 [(0, .ref b), (1, .ref (zal G1 0)), (2, .ref (zal G2 100)), (3, .int x3)]) (hin : ∀ k : Int32, 0 ≤ k → k ≤ 5 → vp_in (x3 + k) L) (hcs : cells + 21 ≤ 600000 ∧ slots + 3000 ≤ 7302249)
    (kn : ∀ (G3 : zG) (h3 h4 : zH) (H1 : Heap) (locs1 : List Loc), zT s H1 locs1 G3 h3 G2 h4 → zIX s G3 h3 → Rel h3 h4 → zal G3 0 = zal G1 0 → W p l e room_1 s m #[.ref b] below meth c H1 locs1 (cells + 21) (slots + 3000) Q (F0 m 1154 ls [])) : W p l e room_1 s m #[.ref b] below meth c H locs cells slots Q (F0 m 934 ls []) := by
  refine lv_aload_n C.1 C.2.1 dL_law_934 rfl (lv_at hl 1 rfl) ?_
  refine lv_aload_n C.1 C.2.1 dL_law_935 rfl (lv_at hl 0 rfl) ?_
  refine lv_iload_n C.1 C.2.1 dL_law_936 rfl (lv_at hl 3 rfl) ?_
  refine lv_iconst (v := (1 : Int32)) C.1 C.2.1 dL_law_937 rfl ?_
  refine lv_iadd C.1 C.2.1 dL_law_938 ?_
  refine va_sld (A := fun q => s.heap.size ≤ q) C.1 C.2.1 hX hbl (Nat.not_le.mpr hbl) T.2.2.2.2.2 (hin (1 : Int32) (by decide) (by decide)) dL_law_939 ?_
  refine lv_aload_n C.1 C.2.1 dL_law_940 rfl (lv_at hl 0 rfl) ?_
  refine lv_iload_n C.1 C.2.1 dL_law_941 rfl (lv_at hl 3 rfl) ?_
  refine lv_iconst (v := (2 : Int32)) C.1 C.2.1 dL_law_942 rfl ?_
  refine lv_iadd C.1 C.2.1 dL_law_943 ?_
  refine va_sld (A := fun q => s.heap.size ≤ q) C.1 C.2.1 hX hbl (Nat.not_le.mpr hbl) T.2.2.2.2.2 (hin (2 : Int32) (by decide) (by decide)) dL_law_944 ?_
  obtain ⟨r, k1, k2, e1, e2, hrel2⟩ := hs h1 h2 (xs (Int32.toNatClampNeg (x3 + (1 : Int32)))) (xs (Int32.toNatClampNeg (x3 + (2 : Int32)))) hrel 
  refine zLVI (c0 := 0) (X := fun G3 => G3 = zSA G1 (zA1 s G2)) (As := [.int (xs (Int32.toNatClampNeg (x3 + (1 : Int32)))), .int (xs (Int32.toNatClampNeg (x3 + (2 : Int32))))]) (rest := []) C I1.1 T mv_L_118 (zLof rfl (c_X11_like l (zSA G1 (zA1 s G2)) h1 (xs (Int32.toNatClampNeg (x3 + (1 : Int32)))) (xs (Int32.toNatClampNeg (x3 + (2 : Int32)))) (r, k1) (fun c hc => I1.2.1 c ((by decide : ∀ c ∈ nd_X11_like, c ∈ zBN) c hc)) (fun q hq => I1.2.2.1 q ((by decide : ∀ q ∈ ld_X11_like, q ∈ zBL) q hq)) e1)) (fun G3 h9 => by rw [h9]; rfl) (I1.2.1 0 (by decide)) ⟨_, _, _, sh_0, rfl, rfl⟩ rfl rfl (Nat.le_of_ble_eq_true rfl) hl.1 ⟨Nat.le_of_ble_eq_true rfl, Nat.le_of_ble_eq_true rfl, by show cells + 0 ≤ 600000; omega, by show slots + 0 ≤ 7302249; omega⟩ dL_law_945 (fun G3 H locs hG T1 => ?_)
  have I3 : zIX s G3 k1 := by rw [hG]; exact I1.SA.same (m_X11_like _ _ _  e1 0 (by decide))
  have ha : zal G3 0 = zal G1 0 := by rw [hG]; rfl
  skip
  refine lv_aload_n C.1 C.2.1 dL_law_948 rfl (lv_at hl 2 rfl) ?_
  refine lv_aload_n C.1 C.2.1 dL_law_949 rfl (lv_at hl 0 rfl) ?_
  refine lv_iload_n C.1 C.2.1 dL_law_950 rfl (lv_at hl 3 rfl) ?_
  refine lv_iconst (v := (1 : Int32)) C.1 C.2.1 dL_law_951 rfl ?_
  refine lv_iadd C.1 C.2.1 dL_law_952 ?_
  refine va_sld (A := fun q => s.heap.size ≤ q) C.1 C.2.1 hX hbl (Nat.not_le.mpr hbl) T1.2.2.2.2.2 (hin (1 : Int32) (by decide) (by decide)) dL_law_953 ?_
  refine lv_aload_n C.1 C.2.1 dL_law_954 rfl (lv_at hl 0 rfl) ?_
  refine lv_iload_n C.1 C.2.1 dL_law_955 rfl (lv_at hl 3 rfl) ?_
  refine lv_iconst (v := (2 : Int32)) C.1 C.2.1 dL_law_956 rfl ?_
  refine lv_iadd C.1 C.2.1 dL_law_957 ?_
  refine va_sld (A := fun q => s.heap.size ≤ q) C.1 C.2.1 hX hbl (Nat.not_le.mpr hbl) T1.2.2.2.2.2 (hin (2 : Int32) (by decide) (by decide)) dL_law_958 ?_
  refine zLVI (c0 := 100) (X := fun G4 => G4 = zSA G2 (zA1 s G3)) (As := [.int (xs (Int32.toNatClampNeg (x3 + (1 : Int32)))), .int (xs (Int32.toNatClampNeg (x3 + (2 : Int32))))]) (rest := [.int r]) C I2.1 T1.symm mv_L_121 (zLof rfl (c_X12_like l (zSA G2 (zA1 s G3)) h2 (xs (Int32.toNatClampNeg (x3 + (1 : Int32)))) (xs (Int32.toNatClampNeg (x3 + (2 : Int32)))) (r, k2) (fun c hc => I2.2.1 c ((by decide : ∀ c ∈ nd_X12_like, c ∈ zNm) c hc)) (fun q hq => I2.2.2 q ((by decide : ∀ q ∈ ld_X12_like, q ∈ zLm) q hq)) e2)) (fun G4 h9 => by rw [h9]; rfl) (I2.2.1 100 (by decide)) ⟨_, _, _, sh_100, rfl, rfl⟩ rfl rfl (Nat.le_of_ble_eq_true rfl) hl.1 ⟨Nat.le_of_ble_eq_true rfl, Nat.le_of_ble_eq_true rfl, by show cells + 0 + 0 ≤ 600000; omega, by show slots + 0 + 0 ≤ 7302249; omega⟩ dL_law_959 (fun G4 H locs hG4 T2 => ?_)
  have T3 : zT s H locs G3 k1 G2 k2 := by rw [hG4] at T2; exact T2.symm
  refine W.widen (k := cells + 21) (n := slots + 3000) (by omega) (by omega) ?_
  refine lv_icmp_eq (tgt := 1154) C.1 C.2.1 dL_law_962 (by decide) (fun hc => ?_) (fun hc => absurd rfl hc)
  exact kn G3 k1 k2 H locs T3 I3 hrel2 ha
set_option maxHeartbeats 4000000 in
set_option maxRecDepth 100000 in
theorem lc_silent (C : zLC p s m #[.ref b] c code 4 RL) (hX : va_X b L xs s s.heap) (hbl : b < s.heap.size) (T : zT s H locs G1 h1 G2 h2) (I1 : zIX s G1 h1) (I2 : zIM s G2) (hs : zst_silent Rel) (hrel : Rel h1 h2) (hl : lv_has ls 4 [(0, .ref b), (1, .ref (zal G1 0)), (2, .ref (zal G2 100)), (3, .int x3)]) (hin : ∀ k : Int32, 0 ≤ k → k ≤ 5 → vp_in (x3 + k) L) (hcs : cells + 21 ≤ 600000 ∧ slots + 3000 ≤ 7302249)
    (kn : ∀ (G3 : zG) (h3 h4 : zH) (H1 : Heap) (locs1 : List Loc), zT s H1 locs1 G3 h3 G2 h4 → zIX s G3 h3 → Rel h3 h4 → zal G3 0 = zal G1 0 → W p l e room_1 s m #[.ref b] below meth c H1 locs1 (cells + 21) (slots + 3000) Q (F0 m 1154 ls [])) : W p l e room_1 s m #[.ref b] below meth c H locs cells slots Q (F0 m 967 ls []) := by
  refine lv_aload_n C.1 C.2.1 dL_law_967 rfl (lv_at hl 1 rfl) ?_
  refine lv_aload_n C.1 C.2.1 dL_law_968 rfl (lv_at hl 0 rfl) ?_
  refine lv_iload_n C.1 C.2.1 dL_law_969 rfl (lv_at hl 3 rfl) ?_
  refine lv_iconst (v := (1 : Int32)) C.1 C.2.1 dL_law_970 rfl ?_
  refine lv_iadd C.1 C.2.1 dL_law_971 ?_
  refine va_sld (A := fun q => s.heap.size ≤ q) C.1 C.2.1 hX hbl (Nat.not_le.mpr hbl) T.2.2.2.2.2 (hin (1 : Int32) (by decide) (by decide)) dL_law_972 ?_
  obtain ⟨r, k1, k2, e1, e2, hrel2⟩ := hs h1 h2 (xs (Int32.toNatClampNeg (x3 + (1 : Int32)))) hrel 
  refine zLVI (c0 := 0) (X := fun G3 => G3 = zSA G1 (zA1 s G2)) (As := [.int (xs (Int32.toNatClampNeg (x3 + (1 : Int32))))]) (rest := []) C I1.1 T mv_L_122 (zLof rfl (c_X11_silent l (zSA G1 (zA1 s G2)) h1 (xs (Int32.toNatClampNeg (x3 + (1 : Int32)))) (r, k1) (fun c hc => I1.2.1 c ((by decide : ∀ c ∈ nd_X11_silent, c ∈ zBN) c hc)) (fun q hq => I1.2.2.1 q ((by decide : ∀ q ∈ ld_X11_silent, q ∈ zBL) q hq)) e1)) (fun G3 h9 => by rw [h9]; rfl) (I1.2.1 0 (by decide)) ⟨_, _, _, sh_0, rfl, rfl⟩ rfl rfl (Nat.le_of_ble_eq_true rfl) hl.1 ⟨Nat.le_of_ble_eq_true rfl, Nat.le_of_ble_eq_true rfl, by show cells + 0 ≤ 600000; omega, by show slots + 0 ≤ 7302249; omega⟩ dL_law_973 (fun G3 H locs hG T1 => ?_)
  have I3 : zIX s G3 k1 := by rw [hG]; exact I1.SA.same (m_X11_silent _ _  e1 0 (by decide))
  have ha : zal G3 0 = zal G1 0 := by rw [hG]; rfl
  skip
  refine lv_aload_n C.1 C.2.1 dL_law_976 rfl (lv_at hl 2 rfl) ?_
  refine lv_aload_n C.1 C.2.1 dL_law_977 rfl (lv_at hl 0 rfl) ?_
  refine lv_iload_n C.1 C.2.1 dL_law_978 rfl (lv_at hl 3 rfl) ?_
  refine lv_iconst (v := (1 : Int32)) C.1 C.2.1 dL_law_979 rfl ?_
  refine lv_iadd C.1 C.2.1 dL_law_980 ?_
  refine va_sld (A := fun q => s.heap.size ≤ q) C.1 C.2.1 hX hbl (Nat.not_le.mpr hbl) T1.2.2.2.2.2 (hin (1 : Int32) (by decide) (by decide)) dL_law_981 ?_
  refine zLVI (c0 := 100) (X := fun G4 => G4 = zSA G2 (zA1 s G3)) (As := [.int (xs (Int32.toNatClampNeg (x3 + (1 : Int32))))]) (rest := [.int r]) C I2.1 T1.symm mv_L_125 (zLof rfl (c_X12_silent l (zSA G2 (zA1 s G3)) h2 (xs (Int32.toNatClampNeg (x3 + (1 : Int32)))) (r, k2) (fun c hc => I2.2.1 c ((by decide : ∀ c ∈ nd_X12_silent, c ∈ zNm) c hc)) (fun q hq => I2.2.2 q ((by decide : ∀ q ∈ ld_X12_silent, q ∈ zLm) q hq)) e2)) (fun G4 h9 => by rw [h9]; rfl) (I2.2.1 100 (by decide)) ⟨_, _, _, sh_100, rfl, rfl⟩ rfl rfl (Nat.le_of_ble_eq_true rfl) hl.1 ⟨Nat.le_of_ble_eq_true rfl, Nat.le_of_ble_eq_true rfl, by show cells + 0 + 0 ≤ 600000; omega, by show slots + 0 + 0 ≤ 7302249; omega⟩ dL_law_982 (fun G4 H locs hG4 T2 => ?_)
  have T3 : zT s H locs G3 k1 G2 k2 := by rw [hG4] at T2; exact T2.symm
  refine W.widen (k := cells + 21) (n := slots + 3000) (by omega) (by omega) ?_
  refine lv_icmp_eq (tgt := 1154) C.1 C.2.1 dL_law_985 (by decide) (fun hc => ?_) (fun hc => absurd rfl hc)
  exact kn G3 k1 k2 H locs T3 I3 hrel2 ha
set_option maxHeartbeats 4000000 in
set_option maxRecDepth 100000 in
theorem lc_worth (C : zLC p s m #[.ref b] c code 4 RL) (hX : va_X b L xs s s.heap) (hbl : b < s.heap.size) (T : zT s H locs G1 h1 G2 h2) (I1 : zIX s G1 h1) (I2 : zIM s G2) (hs : zst_worth Rel) (hrel : Rel h1 h2) (hl : lv_has ls 4 [(0, .ref b), (1, .ref (zal G1 0)), (2, .ref (zal G2 100)), (3, .int x3)]) (hin : ∀ k : Int32, 0 ≤ k → k ≤ 5 → vp_in (x3 + k) L) (hcs : cells + 21 ≤ 600000 ∧ slots + 3000 ≤ 7302249)
    (kn : ∀ (G3 : zG) (h3 h4 : zH) (H1 : Heap) (locs1 : List Loc), zT s H1 locs1 G3 h3 G2 h4 → zIX s G3 h3 → Rel h3 h4 → zal G3 0 = zal G1 0 → W p l e room_1 s m #[.ref b] below meth c H1 locs1 (cells + 21) (slots + 3000) Q (F0 m 1154 ls [])) : W p l e room_1 s m #[.ref b] below meth c H locs cells slots Q (F0 m 990 ls []) := by
  refine lv_aload_n C.1 C.2.1 dL_law_990 rfl (lv_at hl 1 rfl) ?_
  refine lv_aload_n C.1 C.2.1 dL_law_991 rfl (lv_at hl 0 rfl) ?_
  refine lv_iload_n C.1 C.2.1 dL_law_992 rfl (lv_at hl 3 rfl) ?_
  refine lv_iconst (v := (1 : Int32)) C.1 C.2.1 dL_law_993 rfl ?_
  refine lv_iadd C.1 C.2.1 dL_law_994 ?_
  refine va_sld (A := fun q => s.heap.size ≤ q) C.1 C.2.1 hX hbl (Nat.not_le.mpr hbl) T.2.2.2.2.2 (hin (1 : Int32) (by decide) (by decide)) dL_law_995 ?_
  refine lv_aload_n C.1 C.2.1 dL_law_996 rfl (lv_at hl 0 rfl) ?_
  refine lv_iload_n C.1 C.2.1 dL_law_997 rfl (lv_at hl 3 rfl) ?_
  refine lv_iconst (v := (2 : Int32)) C.1 C.2.1 dL_law_998 rfl ?_
  refine lv_iadd C.1 C.2.1 dL_law_999 ?_
  refine va_sld (A := fun q => s.heap.size ≤ q) C.1 C.2.1 hX hbl (Nat.not_le.mpr hbl) T.2.2.2.2.2 (hin (2 : Int32) (by decide) (by decide)) dL_law_1000 ?_
  obtain ⟨r, k1, k2, e1, e2, hrel2⟩ := hs h1 h2 (xs (Int32.toNatClampNeg (x3 + (1 : Int32)))) (xs (Int32.toNatClampNeg (x3 + (2 : Int32)))) hrel 
  refine zLVI (c0 := 0) (X := fun G3 => (G3 = zSA G1 (zA1 s G2) ∧ k1 0 = h1 0) ∨ (∃ qs, G3 = zext (zSA G1 (zA1 s G2)) [80, 81, 82] [(80, 0), (80, 1)] qs ∧ h1 0 8 = 0 ∧ k1 0 = upd (h1 0) 8 1)) (As := [.int (xs (Int32.toNatClampNeg (x3 + (1 : Int32)))), .int (xs (Int32.toNatClampNeg (x3 + (2 : Int32))))]) (rest := []) C I1.1 T mv_L_126 (c_X11_worth l (zSA G1 (zA1 s G2)) h1 (xs (Int32.toNatClampNeg (x3 + (1 : Int32)))) (xs (Int32.toNatClampNeg (x3 + (2 : Int32)))) (r, k1) (fun c hc => I1.2.1 c ((by decide : ∀ c ∈ ndq_X11_worth, c ∈ zBN) c hc)) (fun q hq => I1.2.2.1 q ((by decide : ∀ q ∈ ldq_X11_worth, q ∈ zBL) q hq)) I1.2.2.2.2.2.2 e1) (fun G3 h9 => by rcases h9 with ⟨rfl, _⟩ | ⟨qs, rfl, _⟩ <;> rfl) (I1.2.1 0 (by decide)) ⟨_, _, _, sh_0, rfl, rfl⟩ rfl rfl (Nat.le_of_ble_eq_true rfl) hl.1 ⟨Nat.le_of_ble_eq_true rfl, Nat.le_of_ble_eq_true rfl, by show cells + 3 ≤ 600000; omega, by show slots + 916 ≤ 7302249; omega⟩ dL_law_1001 (fun G3 H locs hG T1 => ?_)
  have I3 : zIX s G3 k1 := by
    rcases hG with ⟨rfl, e9⟩ | ⟨qs, rfl, e8, e9⟩
    · exact I1.SA.same e9
    · exact I1.SA.ext8 e8 e9
  have ha : zal G3 0 = zal G1 0 := by
    rcases hG with ⟨rfl, _⟩ | ⟨qs, rfl, _, _⟩
    · rfl
    · exact zext_al (by decide)
  refine lv_aload_n C.1 C.2.1 dL_law_1004 rfl (lv_at hl 2 rfl) ?_
  refine lv_aload_n C.1 C.2.1 dL_law_1005 rfl (lv_at hl 0 rfl) ?_
  refine lv_iload_n C.1 C.2.1 dL_law_1006 rfl (lv_at hl 3 rfl) ?_
  refine lv_iconst (v := (1 : Int32)) C.1 C.2.1 dL_law_1007 rfl ?_
  refine lv_iadd C.1 C.2.1 dL_law_1008 ?_
  refine va_sld (A := fun q => s.heap.size ≤ q) C.1 C.2.1 hX hbl (Nat.not_le.mpr hbl) T1.2.2.2.2.2 (hin (1 : Int32) (by decide) (by decide)) dL_law_1009 ?_
  refine lv_aload_n C.1 C.2.1 dL_law_1010 rfl (lv_at hl 0 rfl) ?_
  refine lv_iload_n C.1 C.2.1 dL_law_1011 rfl (lv_at hl 3 rfl) ?_
  refine lv_iconst (v := (2 : Int32)) C.1 C.2.1 dL_law_1012 rfl ?_
  refine lv_iadd C.1 C.2.1 dL_law_1013 ?_
  refine va_sld (A := fun q => s.heap.size ≤ q) C.1 C.2.1 hX hbl (Nat.not_le.mpr hbl) T1.2.2.2.2.2 (hin (2 : Int32) (by decide) (by decide)) dL_law_1014 ?_
  refine zLVI (c0 := 100) (X := fun G4 => G4 = zSA G2 (zA1 s G3)) (As := [.int (xs (Int32.toNatClampNeg (x3 + (1 : Int32)))), .int (xs (Int32.toNatClampNeg (x3 + (2 : Int32))))]) (rest := [.int r]) C I2.1 T1.symm mv_L_129 (zLof rfl (c_X12_worth l (zSA G2 (zA1 s G3)) h2 (xs (Int32.toNatClampNeg (x3 + (1 : Int32)))) (xs (Int32.toNatClampNeg (x3 + (2 : Int32)))) (r, k2) (fun c hc => I2.2.1 c ((by decide : ∀ c ∈ nd_X12_worth, c ∈ zNm) c hc)) (fun q hq => I2.2.2 q ((by decide : ∀ q ∈ ld_X12_worth, q ∈ zLm) q hq)) e2)) (fun G4 h9 => by rw [h9]; rfl) (I2.2.1 100 (by decide)) ⟨_, _, _, sh_100, rfl, rfl⟩ rfl rfl (Nat.le_of_ble_eq_true rfl) hl.1 ⟨Nat.le_of_ble_eq_true rfl, Nat.le_of_ble_eq_true rfl, by show cells + 3 + 0 ≤ 600000; omega, by show slots + 916 + 0 ≤ 7302249; omega⟩ dL_law_1015 (fun G4 H locs hG4 T2 => ?_)
  have T3 : zT s H locs G3 k1 G2 k2 := by rw [hG4] at T2; exact T2.symm
  refine W.widen (k := cells + 21) (n := slots + 3000) (by omega) (by omega) ?_
  refine lv_icmp_eq (tgt := 1154) C.1 C.2.1 dL_law_1018 (by decide) (fun hc => ?_) (fun hc => absurd rfl hc)
  exact kn G3 k1 k2 H locs T3 I3 hrel2 ha
set_option maxHeartbeats 4000000 in
set_option maxRecDepth 100000 in
theorem lc_away (C : zLC p s m #[.ref b] c code 4 RL) (hX : va_X b L xs s s.heap) (hbl : b < s.heap.size) (T : zT s H locs G1 h1 G2 h2) (I1 : zIX s G1 h1) (I2 : zIM s G2) (hs : zst_away Rel) (hrel : Rel h1 h2) (hl : lv_has ls 4 [(0, .ref b), (1, .ref (zal G1 0)), (2, .ref (zal G2 100)), (3, .int x3)]) (hin : ∀ k : Int32, 0 ≤ k → k ≤ 5 → vp_in (x3 + k) L) (hcs : cells + 21 ≤ 600000 ∧ slots + 3000 ≤ 7302249)
    (kn : ∀ (G3 : zG) (h3 h4 : zH) (H1 : Heap) (locs1 : List Loc), zT s H1 locs1 G3 h3 G2 h4 → zIX s G3 h3 → Rel h3 h4 → zal G3 0 = zal G1 0 → W p l e room_1 s m #[.ref b] below meth c H1 locs1 (cells + 21) (slots + 3000) Q (F0 m 1154 ls [])) : W p l e room_1 s m #[.ref b] below meth c H locs cells slots Q (F0 m 1023 ls []) := by
  refine lv_aload_n C.1 C.2.1 dL_law_1023 rfl (lv_at hl 1 rfl) ?_
  refine lv_aload_n C.1 C.2.1 dL_law_1024 rfl (lv_at hl 0 rfl) ?_
  refine lv_iload_n C.1 C.2.1 dL_law_1025 rfl (lv_at hl 3 rfl) ?_
  refine lv_iconst (v := (1 : Int32)) C.1 C.2.1 dL_law_1026 rfl ?_
  refine lv_iadd C.1 C.2.1 dL_law_1027 ?_
  refine va_sld (A := fun q => s.heap.size ≤ q) C.1 C.2.1 hX hbl (Nat.not_le.mpr hbl) T.2.2.2.2.2 (hin (1 : Int32) (by decide) (by decide)) dL_law_1028 ?_
  obtain ⟨r, k1, k2, e1, e2, hrel2⟩ := hs h1 h2 (xs (Int32.toNatClampNeg (x3 + (1 : Int32)))) hrel 
  refine zLVI (c0 := 0) (X := fun G3 => G3 = zSA G1 (zA1 s G2)) (As := [.int (xs (Int32.toNatClampNeg (x3 + (1 : Int32))))]) (rest := []) C I1.1 T mv_L_130 (zLof rfl (c_X11_away l (zSA G1 (zA1 s G2)) h1 (xs (Int32.toNatClampNeg (x3 + (1 : Int32)))) (r, k1) (fun c hc => I1.2.1 c ((by decide : ∀ c ∈ nd_X11_away, c ∈ zBN) c hc)) (fun q hq => I1.2.2.1 q ((by decide : ∀ q ∈ ld_X11_away, q ∈ zBL) q hq)) e1)) (fun G3 h9 => by rw [h9]; rfl) (I1.2.1 0 (by decide)) ⟨_, _, _, sh_0, rfl, rfl⟩ rfl rfl (Nat.le_of_ble_eq_true rfl) hl.1 ⟨Nat.le_of_ble_eq_true rfl, Nat.le_of_ble_eq_true rfl, by show cells + 0 ≤ 600000; omega, by show slots + 0 ≤ 7302249; omega⟩ dL_law_1029 (fun G3 H locs hG T1 => ?_)
  have I3 : zIX s G3 k1 := by rw [hG]; exact I1.SA.same (m_X11_away _ _  e1 0 (by decide))
  have ha : zal G3 0 = zal G1 0 := by rw [hG]; rfl
  skip
  refine lv_aload_n C.1 C.2.1 dL_law_1032 rfl (lv_at hl 2 rfl) ?_
  refine lv_aload_n C.1 C.2.1 dL_law_1033 rfl (lv_at hl 0 rfl) ?_
  refine lv_iload_n C.1 C.2.1 dL_law_1034 rfl (lv_at hl 3 rfl) ?_
  refine lv_iconst (v := (1 : Int32)) C.1 C.2.1 dL_law_1035 rfl ?_
  refine lv_iadd C.1 C.2.1 dL_law_1036 ?_
  refine va_sld (A := fun q => s.heap.size ≤ q) C.1 C.2.1 hX hbl (Nat.not_le.mpr hbl) T1.2.2.2.2.2 (hin (1 : Int32) (by decide) (by decide)) dL_law_1037 ?_
  refine zLVI (c0 := 100) (X := fun G4 => G4 = zSA G2 (zA1 s G3)) (As := [.int (xs (Int32.toNatClampNeg (x3 + (1 : Int32))))]) (rest := [.int r]) C I2.1 T1.symm mv_L_133 (zLof rfl (c_X12_away l (zSA G2 (zA1 s G3)) h2 (xs (Int32.toNatClampNeg (x3 + (1 : Int32)))) (r, k2) (fun c hc => I2.2.1 c ((by decide : ∀ c ∈ nd_X12_away, c ∈ zNm) c hc)) (fun q hq => I2.2.2 q ((by decide : ∀ q ∈ ld_X12_away, q ∈ zLm) q hq)) e2)) (fun G4 h9 => by rw [h9]; rfl) (I2.2.1 100 (by decide)) ⟨_, _, _, sh_100, rfl, rfl⟩ rfl rfl (Nat.le_of_ble_eq_true rfl) hl.1 ⟨Nat.le_of_ble_eq_true rfl, Nat.le_of_ble_eq_true rfl, by show cells + 0 + 0 ≤ 600000; omega, by show slots + 0 + 0 ≤ 7302249; omega⟩ dL_law_1038 (fun G4 H locs hG4 T2 => ?_)
  have T3 : zT s H locs G3 k1 G2 k2 := by rw [hG4] at T2; exact T2.symm
  refine W.widen (k := cells + 21) (n := slots + 3000) (by omega) (by omega) ?_
  refine lv_icmp_eq (tgt := 1154) C.1 C.2.1 dL_law_1041 (by decide) (fun hc => ?_) (fun hc => absurd rfl hc)
  exact kn G3 k1 k2 H locs T3 I3 hrel2 ha
set_option maxHeartbeats 4000000 in
set_option maxRecDepth 100000 in
theorem lc_uncle (C : zLC p s m #[.ref b] c code 4 RL) (hX : va_X b L xs s s.heap) (hbl : b < s.heap.size) (T : zT s H locs G1 h1 G2 h2) (I1 : zIX s G1 h1) (I2 : zIM s G2) (hs : zst_uncle Rel) (hrel : Rel h1 h2) (hl : lv_has ls 4 [(0, .ref b), (1, .ref (zal G1 0)), (2, .ref (zal G2 100)), (3, .int x3)]) (hin : ∀ k : Int32, 0 ≤ k → k ≤ 5 → vp_in (x3 + k) L) (hcs : cells + 21 ≤ 600000 ∧ slots + 3000 ≤ 7302249)
    (kn : ∀ (G3 : zG) (h3 h4 : zH) (H1 : Heap) (locs1 : List Loc), zT s H1 locs1 G3 h3 G2 h4 → zIX s G3 h3 → Rel h3 h4 → zal G3 0 = zal G1 0 → W p l e room_1 s m #[.ref b] below meth c H1 locs1 (cells + 21) (slots + 3000) Q (F0 m 1154 ls [])) : W p l e room_1 s m #[.ref b] below meth c H locs cells slots Q (F0 m 1046 ls []) := by
  refine lv_aload_n C.1 C.2.1 dL_law_1046 rfl (lv_at hl 1 rfl) ?_
  refine lv_aload_n C.1 C.2.1 dL_law_1047 rfl (lv_at hl 0 rfl) ?_
  refine lv_iload_n C.1 C.2.1 dL_law_1048 rfl (lv_at hl 3 rfl) ?_
  refine lv_iconst (v := (1 : Int32)) C.1 C.2.1 dL_law_1049 rfl ?_
  refine lv_iadd C.1 C.2.1 dL_law_1050 ?_
  refine va_sld (A := fun q => s.heap.size ≤ q) C.1 C.2.1 hX hbl (Nat.not_le.mpr hbl) T.2.2.2.2.2 (hin (1 : Int32) (by decide) (by decide)) dL_law_1051 ?_
  refine lv_aload_n C.1 C.2.1 dL_law_1052 rfl (lv_at hl 0 rfl) ?_
  refine lv_iload_n C.1 C.2.1 dL_law_1053 rfl (lv_at hl 3 rfl) ?_
  refine lv_iconst (v := (2 : Int32)) C.1 C.2.1 dL_law_1054 rfl ?_
  refine lv_iadd C.1 C.2.1 dL_law_1055 ?_
  refine va_sld (A := fun q => s.heap.size ≤ q) C.1 C.2.1 hX hbl (Nat.not_le.mpr hbl) T.2.2.2.2.2 (hin (2 : Int32) (by decide) (by decide)) dL_law_1056 ?_
  obtain ⟨r, k1, k2, e1, e2, hrel2⟩ := hs h1 h2 (xs (Int32.toNatClampNeg (x3 + (1 : Int32)))) (xs (Int32.toNatClampNeg (x3 + (2 : Int32)))) hrel 
  refine zLVI (c0 := 0) (X := fun G3 => G3 = zSA G1 (zA1 s G2)) (As := [.int (xs (Int32.toNatClampNeg (x3 + (1 : Int32)))), .int (xs (Int32.toNatClampNeg (x3 + (2 : Int32))))]) (rest := []) C I1.1 T mv_L_134 (zLof rfl (c_X11_uncle l (zSA G1 (zA1 s G2)) h1 (xs (Int32.toNatClampNeg (x3 + (1 : Int32)))) (xs (Int32.toNatClampNeg (x3 + (2 : Int32)))) (r, k1) (fun c hc => I1.2.1 c ((by decide : ∀ c ∈ nd_X11_uncle, c ∈ zBN) c hc)) (fun q hq => I1.2.2.1 q ((by decide : ∀ q ∈ ld_X11_uncle, q ∈ zBL) q hq)) e1)) (fun G3 h9 => by rw [h9]; rfl) (I1.2.1 0 (by decide)) ⟨_, _, _, sh_0, rfl, rfl⟩ rfl rfl (Nat.le_of_ble_eq_true rfl) hl.1 ⟨Nat.le_of_ble_eq_true rfl, Nat.le_of_ble_eq_true rfl, by show cells + 0 ≤ 600000; omega, by show slots + 0 ≤ 7302249; omega⟩ dL_law_1057 (fun G3 H locs hG T1 => ?_)
  have I3 : zIX s G3 k1 := by rw [hG]; exact I1.SA.same (m_X11_uncle _ _ _  e1 0 (by decide))
  have ha : zal G3 0 = zal G1 0 := by rw [hG]; rfl
  skip
  refine lv_aload_n C.1 C.2.1 dL_law_1060 rfl (lv_at hl 2 rfl) ?_
  refine lv_aload_n C.1 C.2.1 dL_law_1061 rfl (lv_at hl 0 rfl) ?_
  refine lv_iload_n C.1 C.2.1 dL_law_1062 rfl (lv_at hl 3 rfl) ?_
  refine lv_iconst (v := (1 : Int32)) C.1 C.2.1 dL_law_1063 rfl ?_
  refine lv_iadd C.1 C.2.1 dL_law_1064 ?_
  refine va_sld (A := fun q => s.heap.size ≤ q) C.1 C.2.1 hX hbl (Nat.not_le.mpr hbl) T1.2.2.2.2.2 (hin (1 : Int32) (by decide) (by decide)) dL_law_1065 ?_
  refine lv_aload_n C.1 C.2.1 dL_law_1066 rfl (lv_at hl 0 rfl) ?_
  refine lv_iload_n C.1 C.2.1 dL_law_1067 rfl (lv_at hl 3 rfl) ?_
  refine lv_iconst (v := (2 : Int32)) C.1 C.2.1 dL_law_1068 rfl ?_
  refine lv_iadd C.1 C.2.1 dL_law_1069 ?_
  refine va_sld (A := fun q => s.heap.size ≤ q) C.1 C.2.1 hX hbl (Nat.not_le.mpr hbl) T1.2.2.2.2.2 (hin (2 : Int32) (by decide) (by decide)) dL_law_1070 ?_
  refine zLVI (c0 := 100) (X := fun G4 => G4 = zSA G2 (zA1 s G3)) (As := [.int (xs (Int32.toNatClampNeg (x3 + (1 : Int32)))), .int (xs (Int32.toNatClampNeg (x3 + (2 : Int32))))]) (rest := [.int r]) C I2.1 T1.symm mv_L_137 (zLof rfl (c_X12_uncle l (zSA G2 (zA1 s G3)) h2 (xs (Int32.toNatClampNeg (x3 + (1 : Int32)))) (xs (Int32.toNatClampNeg (x3 + (2 : Int32)))) (r, k2) (fun c hc => I2.2.1 c ((by decide : ∀ c ∈ nd_X12_uncle, c ∈ zNm) c hc)) (fun q hq => I2.2.2 q ((by decide : ∀ q ∈ ld_X12_uncle, q ∈ zLm) q hq)) e2)) (fun G4 h9 => by rw [h9]; rfl) (I2.2.1 100 (by decide)) ⟨_, _, _, sh_100, rfl, rfl⟩ rfl rfl (Nat.le_of_ble_eq_true rfl) hl.1 ⟨Nat.le_of_ble_eq_true rfl, Nat.le_of_ble_eq_true rfl, by show cells + 0 + 0 ≤ 600000; omega, by show slots + 0 + 0 ≤ 7302249; omega⟩ dL_law_1071 (fun G4 H locs hG4 T2 => ?_)
  have T3 : zT s H locs G3 k1 G2 k2 := by rw [hG4] at T2; exact T2.symm
  refine W.widen (k := cells + 21) (n := slots + 3000) (by omega) (by omega) ?_
  refine lv_icmp_eq (tgt := 1154) C.1 C.2.1 dL_law_1074 (by decide) (fun hc => ?_) (fun hc => absurd rfl hc)
  exact kn G3 k1 k2 H locs T3 I3 hrel2 ha
set_option maxHeartbeats 4000000 in
set_option maxRecDepth 100000 in
theorem lc_undo (C : zLC p s m #[.ref b] c code 4 RL) (hX : va_X b L xs s s.heap) (hbl : b < s.heap.size) (T : zT s H locs G1 h1 G2 h2) (I1 : zIX s G1 h1) (I2 : zIM s G2) (hs : zst_undo Rel) (hrel : Rel h1 h2) (hl : lv_has ls 4 [(0, .ref b), (1, .ref (zal G1 0)), (2, .ref (zal G2 100)), (3, .int x3)]) (hin : ∀ k : Int32, 0 ≤ k → k ≤ 5 → vp_in (x3 + k) L) (hcs : cells + 21 ≤ 600000 ∧ slots + 3000 ≤ 7302249)
    (kn : ∀ (G3 : zG) (h3 h4 : zH) (H1 : Heap) (locs1 : List Loc), zT s H1 locs1 G3 h3 G2 h4 → zIX s G3 h3 → Rel h3 h4 → zal G3 0 = zal G1 0 → W p l e room_1 s m #[.ref b] below meth c H1 locs1 (cells + 21) (slots + 3000) Q (F0 m 1154 ls [])) : W p l e room_1 s m #[.ref b] below meth c H locs cells slots Q (F0 m 1079 ls []) := by
  refine lv_aload_n C.1 C.2.1 dL_law_1079 rfl (lv_at hl 1 rfl) ?_
  obtain ⟨r, k1, k2, e1, e2, hrel2⟩ := hs h1 h2  hrel 
  refine zLVI (c0 := 0) (X := fun G3 => G3 = zSA G1 (zA1 s G2)) (As := []) (rest := []) C I1.1 T mv_L_138 (zLof rfl (c_X11_undo l (zSA G1 (zA1 s G2)) h1  (r, k1) (fun c hc => I1.2.1 c ((by decide : ∀ c ∈ nd_X11_undo, c ∈ zBN) c hc)) (fun q hq => I1.2.2.1 q ((by decide : ∀ q ∈ ld_X11_undo, q ∈ zBL) q hq)) e1)) (fun G3 h9 => by rw [h9]; rfl) (I1.2.1 0 (by decide)) ⟨_, _, _, sh_0, rfl, rfl⟩ rfl rfl (Nat.le_of_ble_eq_true rfl) hl.1 ⟨Nat.le_of_ble_eq_true rfl, Nat.le_of_ble_eq_true rfl, by show cells + 0 ≤ 600000; omega, by show slots + 0 ≤ 7302249; omega⟩ dL_law_1080 (fun G3 H locs hG T1 => ?_)
  have I3 : zIX s G3 k1 := by rw [hG]; exact I1.SA.same (m_X11_undo _  e1 0 (by decide))
  have ha : zal G3 0 = zal G1 0 := by rw [hG]; rfl
  skip
  refine lv_aload_n C.1 C.2.1 dL_law_1083 rfl (lv_at hl 2 rfl) ?_
  refine zLVI (c0 := 100) (X := fun G4 => G4 = zSA G2 (zA1 s G3)) (As := []) (rest := [.int r]) C I2.1 T1.symm mv_L_142 (zLof rfl (c_X12_undo l (zSA G2 (zA1 s G3)) h2  (r, k2) (fun c hc => I2.2.1 c ((by decide : ∀ c ∈ nd_X12_undo, c ∈ zNm) c hc)) (fun q hq => I2.2.2 q ((by decide : ∀ q ∈ ld_X12_undo, q ∈ zLm) q hq)) e2)) (fun G4 h9 => by rw [h9]; rfl) (I2.2.1 100 (by decide)) ⟨_, _, _, sh_100, rfl, rfl⟩ rfl rfl (Nat.le_of_ble_eq_true rfl) hl.1 ⟨Nat.le_of_ble_eq_true rfl, Nat.le_of_ble_eq_true rfl, by show cells + 0 + 0 ≤ 600000; omega, by show slots + 0 + 0 ≤ 7302249; omega⟩ dL_law_1084 (fun G4 H locs hG4 T2 => ?_)
  have T3 : zT s H locs G3 k1 G2 k2 := by rw [hG4] at T2; exact T2.symm
  refine W.widen (k := cells + 21) (n := slots + 3000) (by omega) (by omega) ?_
  refine lv_icmp_eq (tgt := 1154) C.1 C.2.1 dL_law_1087 (by decide) (fun hc => ?_) (fun hc => absurd rfl hc)
  exact kn G3 k1 k2 H locs T3 I3 hrel2 ha
set_option maxHeartbeats 4000000 in
set_option maxRecDepth 100000 in
theorem lc_image (C : zLC p s m #[.ref b] c code 4 RL) (hX : va_X b L xs s s.heap) (hbl : b < s.heap.size) (T : zT s H locs G1 h1 G2 h2) (I1 : zIX s G1 h1) (I2 : zIM s G2) (hs : zst_image Rel) (hrel : Rel h1 h2) (hl : lv_has ls 4 [(0, .ref b), (1, .ref (zal G1 0)), (2, .ref (zal G2 100)), (3, .int x3)]) (hin : ∀ k : Int32, 0 ≤ k → k ≤ 5 → vp_in (x3 + k) L) (hcs : cells + 21 ≤ 600000 ∧ slots + 3000 ≤ 7302249)
    (kn : ∀ (G3 : zG) (h3 h4 : zH) (H1 : Heap) (locs1 : List Loc), zT s H1 locs1 G3 h3 G2 h4 → zIX s G3 h3 → Rel h3 h4 → zal G3 0 = zal G1 0 → W p l e room_1 s m #[.ref b] below meth c H1 locs1 (cells + 21) (slots + 3000) Q (F0 m 1154 ls [])) : W p l e room_1 s m #[.ref b] below meth c H locs cells slots Q (F0 m 1092 ls []) := by
  refine lv_aload_n C.1 C.2.1 dL_law_1092 rfl (lv_at hl 1 rfl) ?_
  refine lv_aload_n C.1 C.2.1 dL_law_1093 rfl (lv_at hl 0 rfl) ?_
  refine lv_iload_n C.1 C.2.1 dL_law_1094 rfl (lv_at hl 3 rfl) ?_
  refine lv_iconst (v := (1 : Int32)) C.1 C.2.1 dL_law_1095 rfl ?_
  refine lv_iadd C.1 C.2.1 dL_law_1096 ?_
  refine va_sld (A := fun q => s.heap.size ≤ q) C.1 C.2.1 hX hbl (Nat.not_le.mpr hbl) T.2.2.2.2.2 (hin (1 : Int32) (by decide) (by decide)) dL_law_1097 ?_
  by_cases hz : (xs (Int32.toNatClampNeg (x3 + (1 : Int32)))) = 0
  · refine lv_if_eq (tgt := 1105) C.1 C.2.1 dL_law_1098 (by decide) (fun hc => ?_) (fun hc => ?_)
    · skip
      refine lv_iconst (v := (0 : Int32)) C.1 C.2.1 dL_law_1105 rfl ?_
      obtain ⟨r, k1, k2, e1, e2, hrel2⟩ := hs h1 h2 (0 : Int32) hrel (by decide)
      refine zLVI (c0 := 0) (X := fun G3 => (G3 = zSA G1 (zA1 s G2) ∧ k1 0 = h1 0) ∨ (∃ qs, G3 = zext (zSA G1 (zA1 s G2)) [50, 51, 52, 53, 54, 55, 56, 57, 58, 59, 60, 61, 62, 63, 64, 65, 66, 67, 68, 69, 70] [(51, 0), (51, 1), (51, 2), (51, 3), (50, 0), (56, 0), (56, 1), (56, 2), (50, 1), (60, 0), (60, 1), (60, 2), (60, 3), (50, 2), (65, 0), (65, 1), (65, 2), (50, 3), (50, 4), (50, 5)] qs ∧ h1 0 5 = 0 ∧ k1 0 = upd (h1 0) 5 1)) (As := [.int (0 : Int32)]) (rest := []) C I1.1 T mv_L_143 (c_X11_image l (zSA G1 (zA1 s G2)) h1 (0 : Int32) (r, k1) (fun c hc => I1.2.1 c ((by decide : ∀ c ∈ ndq_X11_image, c ∈ zBN) c hc)) (fun q hq => I1.2.2.1 q ((by decide : ∀ q ∈ ldq_X11_image, q ∈ zBL) q hq)) I1.2.2.2.1 e1) (fun G3 h9 => by rcases h9 with ⟨rfl, _⟩ | ⟨qs, rfl, _⟩ <;> rfl) (I1.2.1 0 (by decide)) ⟨_, _, _, sh_0, rfl, rfl⟩ rfl rfl (Nat.le_of_ble_eq_true rfl) hl.1 ⟨Nat.le_of_ble_eq_true rfl, Nat.le_of_ble_eq_true rfl, by show cells + 21 ≤ 600000; omega, by show slots + 2169 ≤ 7302249; omega⟩ dL_law_1106 (fun G3 H locs hG T1 => ?_)
      have I3 : zIX s G3 k1 := by
        rcases hG with ⟨rfl, e9⟩ | ⟨qs, rfl, e8, e9⟩
        · exact I1.SA.same e9
        · exact I1.SA.ext5 e8 e9
      have ha : zal G3 0 = zal G1 0 := by
        rcases hG with ⟨rfl, _⟩ | ⟨qs, rfl, _, _⟩
        · rfl
        · exact zext_al (by decide)
      refine lv_aload_n C.1 C.2.1 dL_law_1109 rfl (lv_at hl 2 rfl) ?_
      refine lv_aload_n C.1 C.2.1 dL_law_1110 rfl (lv_at hl 0 rfl) ?_
      refine lv_iload_n C.1 C.2.1 dL_law_1111 rfl (lv_at hl 3 rfl) ?_
      refine lv_iconst (v := (1 : Int32)) C.1 C.2.1 dL_law_1112 rfl ?_
      refine lv_iadd C.1 C.2.1 dL_law_1113 ?_
      refine va_sld (A := fun q => s.heap.size ≤ q) C.1 C.2.1 hX hbl (Nat.not_le.mpr hbl) T1.2.2.2.2.2 (hin (1 : Int32) (by decide) (by decide)) dL_law_1114 ?_
      refine lv_if_eq (tgt := 1122) C.1 C.2.1 dL_law_1115 (by decide) (fun hc => ?_) (fun hc => ?_)
      · skip
        refine lv_iconst (v := (0 : Int32)) C.1 C.2.1 dL_law_1122 rfl ?_
        refine zLVI (c0 := 100) (X := fun G4 => G4 = zSA G2 (zA1 s G3)) (As := [.int (0 : Int32)]) (rest := [.int r]) C I2.1 T1.symm mv_L_147 (zLof rfl (c_X12_image l (zSA G2 (zA1 s G3)) h2 (0 : Int32) (r, k2) (fun c hc => I2.2.1 c ((by decide : ∀ c ∈ nd_X12_image, c ∈ zNm) c hc)) (fun q hq => I2.2.2 q ((by decide : ∀ q ∈ ld_X12_image, q ∈ zLm) q hq)) e2)) (fun G4 h9 => by rw [h9]; rfl) (I2.2.1 100 (by decide)) ⟨_, _, _, sh_100, rfl, rfl⟩ rfl rfl (Nat.le_of_ble_eq_true rfl) hl.1 ⟨Nat.le_of_ble_eq_true rfl, Nat.le_of_ble_eq_true rfl, by show cells + 21 + 0 ≤ 600000; omega, by show slots + 2169 + 0 ≤ 7302249; omega⟩ dL_law_1123 (fun G4 H locs hG4 T2 => ?_)
        have T3 : zT s H locs G3 k1 G2 k2 := by rw [hG4] at T2; exact T2.symm
        refine W.widen (k := cells + 21) (n := slots + 3000) (by omega) (by omega) ?_
        refine lv_icmp_eq (tgt := 1154) C.1 C.2.1 dL_law_1126 (by decide) (fun hc => ?_) (fun hc => absurd rfl hc)
        exact kn G3 k1 k2 H locs T3 I3 hrel2 ha
      · exact absurd hz hc
    · exact absurd hz hc
  · refine lv_if_eq (tgt := 1105) C.1 C.2.1 dL_law_1098 (by decide) (fun hc => ?_) (fun hc => ?_)
    · exact absurd hc hz
    · skip
      refine lv_iconst (v := (1 : Int32)) C.1 C.2.1 dL_law_1101 rfl ?_
      refine lv_goto (tgt := 1106) C.1 C.2.1 dL_law_1102 (by decide) ?_
      obtain ⟨r, k1, k2, e1, e2, hrel2⟩ := hs h1 h2 (1 : Int32) hrel (by decide)
      refine zLVI (c0 := 0) (X := fun G3 => (G3 = zSA G1 (zA1 s G2) ∧ k1 0 = h1 0) ∨ (∃ qs, G3 = zext (zSA G1 (zA1 s G2)) [50, 51, 52, 53, 54, 55, 56, 57, 58, 59, 60, 61, 62, 63, 64, 65, 66, 67, 68, 69, 70] [(51, 0), (51, 1), (51, 2), (51, 3), (50, 0), (56, 0), (56, 1), (56, 2), (50, 1), (60, 0), (60, 1), (60, 2), (60, 3), (50, 2), (65, 0), (65, 1), (65, 2), (50, 3), (50, 4), (50, 5)] qs ∧ h1 0 5 = 0 ∧ k1 0 = upd (h1 0) 5 1)) (As := [.int (1 : Int32)]) (rest := []) C I1.1 T mv_L_143 (c_X11_image l (zSA G1 (zA1 s G2)) h1 (1 : Int32) (r, k1) (fun c hc => I1.2.1 c ((by decide : ∀ c ∈ ndq_X11_image, c ∈ zBN) c hc)) (fun q hq => I1.2.2.1 q ((by decide : ∀ q ∈ ldq_X11_image, q ∈ zBL) q hq)) I1.2.2.2.1 e1) (fun G3 h9 => by rcases h9 with ⟨rfl, _⟩ | ⟨qs, rfl, _⟩ <;> rfl) (I1.2.1 0 (by decide)) ⟨_, _, _, sh_0, rfl, rfl⟩ rfl rfl (Nat.le_of_ble_eq_true rfl) hl.1 ⟨Nat.le_of_ble_eq_true rfl, Nat.le_of_ble_eq_true rfl, by show cells + 21 ≤ 600000; omega, by show slots + 2169 ≤ 7302249; omega⟩ dL_law_1106 (fun G3 H locs hG T1 => ?_)
      have I3 : zIX s G3 k1 := by
        rcases hG with ⟨rfl, e9⟩ | ⟨qs, rfl, e8, e9⟩
        · exact I1.SA.same e9
        · exact I1.SA.ext5 e8 e9
      have ha : zal G3 0 = zal G1 0 := by
        rcases hG with ⟨rfl, _⟩ | ⟨qs, rfl, _, _⟩
        · rfl
        · exact zext_al (by decide)
      refine lv_aload_n C.1 C.2.1 dL_law_1109 rfl (lv_at hl 2 rfl) ?_
      refine lv_aload_n C.1 C.2.1 dL_law_1110 rfl (lv_at hl 0 rfl) ?_
      refine lv_iload_n C.1 C.2.1 dL_law_1111 rfl (lv_at hl 3 rfl) ?_
      refine lv_iconst (v := (1 : Int32)) C.1 C.2.1 dL_law_1112 rfl ?_
      refine lv_iadd C.1 C.2.1 dL_law_1113 ?_
      refine va_sld (A := fun q => s.heap.size ≤ q) C.1 C.2.1 hX hbl (Nat.not_le.mpr hbl) T1.2.2.2.2.2 (hin (1 : Int32) (by decide) (by decide)) dL_law_1114 ?_
      refine lv_if_eq (tgt := 1122) C.1 C.2.1 dL_law_1115 (by decide) (fun hc => ?_) (fun hc => ?_)
      · exact absurd hc hz
      · skip
        refine lv_iconst (v := (1 : Int32)) C.1 C.2.1 dL_law_1118 rfl ?_
        refine lv_goto (tgt := 1123) C.1 C.2.1 dL_law_1119 (by decide) ?_
        refine zLVI (c0 := 100) (X := fun G4 => G4 = zSA G2 (zA1 s G3)) (As := [.int (1 : Int32)]) (rest := [.int r]) C I2.1 T1.symm mv_L_147 (zLof rfl (c_X12_image l (zSA G2 (zA1 s G3)) h2 (1 : Int32) (r, k2) (fun c hc => I2.2.1 c ((by decide : ∀ c ∈ nd_X12_image, c ∈ zNm) c hc)) (fun q hq => I2.2.2 q ((by decide : ∀ q ∈ ld_X12_image, q ∈ zLm) q hq)) e2)) (fun G4 h9 => by rw [h9]; rfl) (I2.2.1 100 (by decide)) ⟨_, _, _, sh_100, rfl, rfl⟩ rfl rfl (Nat.le_of_ble_eq_true rfl) hl.1 ⟨Nat.le_of_ble_eq_true rfl, Nat.le_of_ble_eq_true rfl, by show cells + 21 + 0 ≤ 600000; omega, by show slots + 2169 + 0 ≤ 7302249; omega⟩ dL_law_1123 (fun G4 H locs hG4 T2 => ?_)
        have T3 : zT s H locs G3 k1 G2 k2 := by rw [hG4] at T2; exact T2.symm
        refine W.widen (k := cells + 21) (n := slots + 3000) (by omega) (by omega) ?_
        refine lv_icmp_eq (tgt := 1154) C.1 C.2.1 dL_law_1126 (by decide) (fun hc => ?_) (fun hc => absurd rfl hc)
        exact kn G3 k1 k2 H locs T3 I3 hrel2 ha
set_option maxHeartbeats 4000000 in
set_option maxRecDepth 100000 in
theorem lc_look (C : zLC p s m #[.ref b] c code 4 RL) (hX : va_X b L xs s s.heap) (hbl : b < s.heap.size) (T : zT s H locs G1 h1 G2 h2) (I1 : zIX s G1 h1) (I2 : zIM s G2) (hs : zst_look Rel) (hrel : Rel h1 h2) (hl : lv_has ls 4 [(0, .ref b), (1, .ref (zal G1 0)), (2, .ref (zal G2 100)), (3, .int x3)]) (hin : ∀ k : Int32, 0 ≤ k → k ≤ 5 → vp_in (x3 + k) L) (hcs : cells + 21 ≤ 600000 ∧ slots + 3000 ≤ 7302249)
    (kn : ∀ (G3 : zG) (h3 h4 : zH) (H1 : Heap) (locs1 : List Loc), zT s H1 locs1 G3 h3 G2 h4 → zIX s G3 h3 → Rel h3 h4 → zal G3 0 = zal G1 0 → W p l e room_1 s m #[.ref b] below meth c H1 locs1 (cells + 21) (slots + 3000) Q (F0 m 1154 ls [])) : W p l e room_1 s m #[.ref b] below meth c H locs cells slots Q (F0 m 1131 ls []) := by
  refine lv_aload_n C.1 C.2.1 dL_law_1131 rfl (lv_at hl 1 rfl) ?_
  refine lv_aload_n C.1 C.2.1 dL_law_1132 rfl (lv_at hl 0 rfl) ?_
  refine lv_iload_n C.1 C.2.1 dL_law_1133 rfl (lv_at hl 3 rfl) ?_
  refine lv_iconst (v := (1 : Int32)) C.1 C.2.1 dL_law_1134 rfl ?_
  refine lv_iadd C.1 C.2.1 dL_law_1135 ?_
  refine va_sld (A := fun q => s.heap.size ≤ q) C.1 C.2.1 hX hbl (Nat.not_le.mpr hbl) T.2.2.2.2.2 (hin (1 : Int32) (by decide) (by decide)) dL_law_1136 ?_
  obtain ⟨r, k1, k2, e1, e2, hrel2⟩ := hs h1 h2 (xs (Int32.toNatClampNeg (x3 + (1 : Int32)))) hrel 
  refine zLVI (c0 := 0) (X := fun G3 => G3 = zSA G1 (zA1 s G2)) (As := [.int (xs (Int32.toNatClampNeg (x3 + (1 : Int32))))]) (rest := []) C I1.1 T mv_L_148 (zLof rfl (c_X11_look l (zSA G1 (zA1 s G2)) h1 (xs (Int32.toNatClampNeg (x3 + (1 : Int32)))) (r, k1) (fun c hc => I1.2.1 c ((by decide : ∀ c ∈ nd_X11_look, c ∈ zBN) c hc)) (fun q hq => I1.2.2.1 q ((by decide : ∀ q ∈ ld_X11_look, q ∈ zBL) q hq)) e1)) (fun G3 h9 => by rw [h9]; rfl) (I1.2.1 0 (by decide)) ⟨_, _, _, sh_0, rfl, rfl⟩ rfl rfl (Nat.le_of_ble_eq_true rfl) hl.1 ⟨Nat.le_of_ble_eq_true rfl, Nat.le_of_ble_eq_true rfl, by show cells + 0 ≤ 600000; omega, by show slots + 0 ≤ 7302249; omega⟩ dL_law_1137 (fun G3 H locs hG T1 => ?_)
  have I3 : zIX s G3 k1 := by rw [hG]; exact I1.SA.same (m_X11_look _ _  e1 0 (by decide))
  have ha : zal G3 0 = zal G1 0 := by rw [hG]; rfl
  skip
  refine lv_aload_n C.1 C.2.1 dL_law_1140 rfl (lv_at hl 2 rfl) ?_
  refine lv_aload_n C.1 C.2.1 dL_law_1141 rfl (lv_at hl 0 rfl) ?_
  refine lv_iload_n C.1 C.2.1 dL_law_1142 rfl (lv_at hl 3 rfl) ?_
  refine lv_iconst (v := (1 : Int32)) C.1 C.2.1 dL_law_1143 rfl ?_
  refine lv_iadd C.1 C.2.1 dL_law_1144 ?_
  refine va_sld (A := fun q => s.heap.size ≤ q) C.1 C.2.1 hX hbl (Nat.not_le.mpr hbl) T1.2.2.2.2.2 (hin (1 : Int32) (by decide) (by decide)) dL_law_1145 ?_
  refine zLVI (c0 := 100) (X := fun G4 => G4 = zSA G2 (zA1 s G3)) (As := [.int (xs (Int32.toNatClampNeg (x3 + (1 : Int32))))]) (rest := [.int r]) C I2.1 T1.symm mv_L_151 (zLof rfl (c_X12_look l (zSA G2 (zA1 s G3)) h2 (xs (Int32.toNatClampNeg (x3 + (1 : Int32)))) (r, k2) (fun c hc => I2.2.1 c ((by decide : ∀ c ∈ nd_X12_look, c ∈ zNm) c hc)) (fun q hq => I2.2.2 q ((by decide : ∀ q ∈ ld_X12_look, q ∈ zLm) q hq)) e2)) (fun G4 h9 => by rw [h9]; rfl) (I2.2.1 100 (by decide)) ⟨_, _, _, sh_100, rfl, rfl⟩ rfl rfl (Nat.le_of_ble_eq_true rfl) hl.1 ⟨Nat.le_of_ble_eq_true rfl, Nat.le_of_ble_eq_true rfl, by show cells + 0 + 0 ≤ 600000; omega, by show slots + 0 + 0 ≤ 7302249; omega⟩ dL_law_1146 (fun G4 H locs hG4 T2 => ?_)
  have T3 : zT s H locs G3 k1 G2 k2 := by rw [hG4] at T2; exact T2.symm
  refine W.widen (k := cells + 21) (n := slots + 3000) (by omega) (by omega) ?_
  refine lv_icmp_eq (tgt := 1154) C.1 C.2.1 dL_law_1149 (by decide) (fun hc => ?_) (fun hc => absurd rfl hc)
  exact kn G3 k1 k2 H locs T3 I3 hrel2 ha
end
