/-! text: the step -/
theorem rHouse.law {h h' : zH} {w w' : Nat → Int32} (H : rHouse h w) (hc : ∀ c, 1 ≤ c → c < 21 → c ≠ 16 → c ≠ 17 → c ≠ 18 → h' c = h c) (hw : ∀ j, j < 1335 → w' j = w j) (L : rLw (h' 16) (h' 17) (h' 18) w') : rHouse h' w' := by
  obtain ⟨h1, h2, h3, h4, h5⟩ := H
  unfold rHouse
  rw [hc 7 (by decide) (by decide) (by decide) (by decide) (by decide), hc 8 (by decide) (by decide) (by decide) (by decide) (by decide), hc 9 (by decide) (by decide) (by decide) (by decide) (by decide), hc 10 (by decide) (by decide) (by decide) (by decide) (by decide), hc 2 (by decide) (by decide) (by decide) (by decide) (by decide), hc 3 (by decide) (by decide) (by decide) (by decide) (by decide), hc 4 (by decide) (by decide) (by decide) (by decide) (by decide), hc 5 (by decide) (by decide) (by decide) (by decide) (by decide), hc 6 (by decide) (by decide) (by decide) (by decide) (by decide), hc 11 (by decide) (by decide) (by decide) (by decide) (by decide), hc 12 (by decide) (by decide) (by decide) (by decide) (by decide), hc 13 (by decide) (by decide) (by decide) (by decide) (by decide), hc 14 (by decide) (by decide) (by decide) (by decide) (by decide), hc 15 (by decide) (by decide) (by decide) (by decide) (by decide), hc 1 (by decide) (by decide) (by decide) (by decide) (by decide), hc 20 (by decide) (by decide) (by decide) (by decide) (by decide)]
  exact ⟨h1.w (fun i hi => hw i (by omega)), h2.w (fun i hi => hw i (by omega)), h3.w (fun i hi => hw i (by omega)), L, h5.w (fun i hi => hw i (by omega))⟩
/-- what text leaves alone -/
theorem zRel.text {h g h' g' : zH} (R : zRel h g) (H : rHouse h' (g' 101)) (hc : ∀ c, c ≠ 16 → c ≠ 17 → c ≠ 18 → c ≠ 29 → c ≠ 31 → c ≠ 32 → c ≠ 33 → c ≠ 34 → c ≠ 35 → c ≠ 36 → h' c = h c) (h5 : h' 29 5 = 0) (g13 : g' 100 13 = 0) (F : rFlt h' g') (gc : ∀ c, c ≠ 100 → c ≠ 101 → c ≠ 105 → c ≠ 106 → g' c = g c) (g4 : g' 100 4 = g 100 4) (g5 : g' 100 5 = g 100 5) : zRel h' g' := by
  obtain ⟨r1, r2, r3, r4, r5, r6⟩ := R
  have c0 : ∀ c, (c < 16 ∨ (18 < c ∧ c < 29) ∨ c = 30 ∨ 36 < c) → h' c = h c := fun c q => hc c (by omega) (by omega) (by omega) (by omega) (by omega) (by omega) (by omega) (by omega) (by omega) (by omega)
  refine ⟨H, ?_, ?_, ⟨0, by omega, h5, g13, fun i hi => by omega⟩, F, ?_⟩
  · unfold rPast at *
    rw [c0 22 (by omega), c0 23 (by omega), c0 24 (by omega), c0 25 (by omega), c0 26 (by omega), c0 27 (by omega), c0 28 (by omega), c0 11 (by omega), c0 12 (by omega), c0 13 (by omega), gc 103 (by decide) (by decide) (by decide) (by decide), g4]
    exact r2
  · unfold rImg rKept at *
    have c5 : ∀ c, 50 ≤ c → h' c = h c := fun c h => c0 c (by omega)
    simp only [c5 50 (by decide), c5 51 (by decide), c5 52 (by decide), c5 53 (by decide), c5 54 (by decide), c5 55 (by decide), c5 56 (by decide), c5 57 (by decide), c5 58 (by decide), c5 59 (by decide), c5 60 (by decide), c5 61 (by decide), c5 62 (by decide), c5 63 (by decide), c5 64 (by decide), c5 65 (by decide), c5 66 (by decide), c5 67 (by decide), c5 69 (by decide), c0 0 (by omega), g5, gc 102 (by decide) (by decide) (by decide) (by decide)]
    exact r3
  · unfold rEve at *
    rw [c0 40 (by omega), c0 38 (by omega)]
    exact r6
theorem st_text : zst_text zRel := by
  intro h g R
  obtain ⟨L, l1, l2, l3, l4⟩ := R.2.2.2.1
  -- the class splits
  have sp := q_split (L := L) (tp := g 107) l1 zN 0 0 (zup h 29 8 0) (by rw [zup_eq, pk_un (by decide)]; exact l2) (fun i hi => by rw [zup_ne 30 (by decide)]; exact l4 i hi) (by rw [zup_eq, pk_us]; rfl) (by omega) (by omega) (by unfold zN; omega)
  obtain ⟨N, kd, vl, pc, ep, h1, p1, p2, p3, p4, p5, p6, p7, p8, p9, p10, p11, p12⟩ := sp
  have p1 : f_X7_split h = some (0, h1) := by
    unfold f_X7_split
    rw [zst_e]
    exact p1
  have T : TX (L, N, g 107, kd, vl, pc, ep) := ⟨l1, p4, p8, fun i hi => p9 i (by omega) hi, fun i hi => p10 i (by omega) hi, fun i hi => p12 i (by omega) hi⟩
  -- the class's start
  have eC : f_X7_readLaw h = f_X7_readLaw_38 zN 0 (zup (zup (zup (zup (zup (zup h1 34 3 0) 34 4 0) 29 6 0) 29 7 (-1)) 29 9 0) 29 10 (nI (kd 0))) := by
    unfold f_X7_readLaw f_X5_clear_t34
    rw [p1, zbd_e]
    simp only [zst_e, zbd_e]
    have e31 : zup (zup (zup (zup (zup h1 34 3 0) 34 4 0) 29 6 0) 29 7 (-1)) 29 9 0 31 0 = nI (kd 0) := by
      rw [zup_ne 31 (by decide), zup_ne 31 (by decide), zup_ne 31 (by decide), zup_ne 31 (by decide), zup_ne 31 (by decide)]
      exact (p6 0 (by omega) (by omega)).1
    rw [e31]
  generalize hA : zup (zup (zup (zup (zup (zup h1 34 3 0) 34 4 0) 29 6 0) 29 7 (-1)) 29 9 0) 29 10 (nI (kd 0)) = A at eC
  have ac : ∀ c, c ≠ 29 → c ≠ 34 → A c = h1 c := fun c q1 q2 => by rw [← hA, zup_ne c q1, zup_ne c q1, zup_ne c q1, zup_ne c q1, zup_ne c q2, zup_ne c q2]
  have a29 : ∀ k, k ≠ 6 → k ≠ 7 → k ≠ 9 → k ≠ 10 → A 29 k = h1 29 k := fun k q1 q2 q3 q4 => by rw [← hA, zup_eq, pk_un q4, zup_eq, pk_un q3, zup_eq, pk_un q2, zup_eq, pk_un q1, zup_ne 29 (by decide), zup_ne 29 (by decide)]
  have a343 : A 34 3 = nI 0 := by rw [← hA, zup_ne 34 (by decide), zup_ne 34 (by decide), zup_ne 34 (by decide), zup_ne 34 (by decide), zup_eq, pk_un (by decide), zup_eq, pk_us]; rfl
  have a344 : A 34 4 = nI 0 := by rw [← hA, zup_ne 34 (by decide), zup_ne 34 (by decide), zup_ne 34 (by decide), zup_ne 34 (by decide), zup_eq, pk_us]; rfl
  have a296 : A 29 6 = 0 := by rw [← hA, zup_eq, pk_un (by decide), zup_eq, pk_un (by decide), zup_eq, pk_un (by decide), zup_eq, pk_us]
  have a297 : A 29 7 = -1 := by rw [← hA, zup_eq, pk_un (by decide), zup_eq, pk_un (by decide), zup_eq, pk_us]
  have a299 : A 29 9 = nI 0 := by rw [← hA, zup_eq, pk_un (by decide), zup_eq, pk_us]; rfl
  have a2910 : A 29 10 = nI (kd 0) := by rw [← hA, zup_eq, pk_us]
  have Pc : psC (L, N, g 107, kd, vl, pc, ep) 0 0 A := ⟨by show 0 ≤ N; omega, fun k k1 k2 => by rw [ac 31 (by decide) (by decide), ac 32 (by decide) (by decide), ac 33 (by decide) (by decide)]; exact p6 k k1 k2, by rw [a29 8 (by decide) (by decide) (by decide) (by decide)]; exact p5, a299, a2910, a296, a343⟩
  -- the reference's start
  generalize hB : zup (zup (zup (zup g 100 18 0) 100 14 0) 100 11 0) 100 12 0 = B
  have bc : ∀ c, c ≠ 100 → B c = g c := fun c hc => by rw [← hB, zup_ne c hc, zup_ne c hc, zup_ne c hc, zup_ne c hc]
  have bj : ∀ j, j ≠ 18 → j ≠ 14 → j ≠ 11 → j ≠ 12 → B 100 j = g 100 j := fun j q1 q2 q3 q4 => by rw [← hB, zup_eq, pk_un q4, zup_eq, pk_un q3, zup_eq, pk_un q2, zup_eq, pk_un q1]
  have b18 : B 100 18 = 0 := by rw [← hB, zup_eq, pk_un (by decide), zup_eq, pk_un (by decide), zup_eq, pk_un (by decide), zup_eq, pk_us]
  have b14 : B 100 14 = nI 0 := by rw [← hB, zup_eq, pk_un (by decide), zup_eq, pk_un (by decide), zup_eq, pk_us]; rfl
  have b11 : B 100 11 = nI 0 := by rw [← hB, zup_eq, pk_un (by decide), zup_eq, pk_us]; rfl
  have b12 : B 100 12 = nI 0 := by rw [← hB, zup_eq, pk_us]; rfl
  have Tm : tpM L (g 107) B := ⟨by rw [bj 13 (by decide) (by decide) (by decide) (by decide)]; exact l3, fun i hi => by rw [bc 107 (by decide)]⟩
  obtain ⟨g1, n1, n2, n3⟩ := p11 zN B Tm b14 (by unfold zN; omega)
  have eM : f_X12_text g = f_X12_text_26 zN 1 g1 := by
    unfold f_X12_text
    simp only [zst_e]
    have n1 : f_X12_next0 B = some (0, g1) := n1
    rw [hB, n1, zbd_e]
  have Pm : psM (L, N, g 107, kd, vl, pc, ep) 0 0 g1 := ⟨Tm.mv n2, n3, by rw [n2.2 12 (by omega)]; exact b12⟩
  have fh : ∀ c, c ≠ 29 → c ≠ 31 → c ≠ 32 → c ≠ 33 → c ≠ 34 → A c = h c := fun c q1 q2 q3 q4 q5 => by rw [ac c q1 q5, p2.1 c q1 q2 q3 q4, zup_ne c q1]
  have fh5 : A 29 5 = h 29 5 := by rw [a29 5 (by decide) (by decide) (by decide) (by decide), p2.2 5 (by decide), zup_eq, pk_un (by decide)]
  have fg : ∀ c, c ≠ 100 → g1 c = g c := fun c hc => by rw [n2.1 c hc, bc c hc]
  have fgj : ∀ j, (j < 11 ∨ j = 13 ∨ 18 < j) → g1 100 j = g 100 j := fun j hj => by rw [n2.2 j (by omega), bj j (by omega) (by omega) (by omega) (by omega)]
  unfold f_X11_text
  rw [eM, eC]
  rcases L_law T zN zN 0 0 0 [] A g1 Pc Pm (by omega) (by omega) (by decide) a344 (by rw [n2.2 11 (by omega)]; exact b11) (lwC_0 _ _) (fun k x hx => by cases hx) (by unfold zN; decide) (by unfold zN; decide) with ⟨z, y, ls, h2, g2, q1, q2, q3, q4, q5, q6, q7, q8, q9, q10, q11, q12, q13, q14, q15, q16⟩ | ⟨h2, g2, q1, q2, q3⟩
  · have q1 : f_X7_readLaw_38 zN 0 A = some (1, h2) := q1
    rw [q1, zbd_e, zst_e, if_neg (show ¬ (1 : Int32) = 0 by decide), q2]
    have z34 : zup h2 29 5 0 34 3 = nI z := by rw [zup_ne 34 (by decide)]; exact q6
    obtain ⟨h3, c1, c2, c3, c4, c5, c6⟩ := cp_X5d (h := zup h2 29 5 0) q4 z34
    rw [c1, zbd_e]
    unfold f_X12_text_63 f_X12_text_89
    simp only [zst_e, c10, if_false]
    have e18 : zup g2 100 13 0 100 18 = 0 := by rw [zup_eq, pk_un (by decide), q14, n2.2 18 (by omega)]; exact b18
    rw [e18]
    have e11 : zup (zup (zup g2 100 13 0) 100 20 0) 100 22 (-1) 100 11 = nI ls.length := by rw [zup_eq, pk_un (by decide), zup_eq, pk_un (by decide), zup_eq, pk_un (by decide)]; exact q12
    rw [e11]
    generalize hY : zup (zup (zup (zup g2 100 13 0) 100 20 0) 100 22 (-1)) 101 1335 (nI ls.length) = Y
    have yc : ∀ c, c ≠ 100 → c ≠ 101 → Y c = g2 c := fun c r1 r2 => by rw [← hY, zup_ne c r2, zup_ne c r1, zup_ne c r1, zup_ne c r1]
    have yj : ∀ j, j ≠ 13 → j ≠ 20 → j ≠ 22 → Y 100 j = g2 100 j := fun j r1 r2 r3 => by rw [← hY, zup_ne 100 (by decide), zup_eq, pk_un r3, zup_eq, pk_un r2, zup_eq, pk_un r1]
    have y13 : Y 100 13 = 0 := by rw [← hY, zup_ne 100 (by decide), zup_eq, pk_un (by decide), zup_eq, pk_un (by decide), zup_eq, pk_us]
    have y20 : Y 100 20 = 0 := by rw [← hY, zup_ne 100 (by decide), zup_eq, pk_un (by decide), zup_eq, pk_us]
    have y22 : Y 100 22 = -1 := by rw [← hY, zup_ne 100 (by decide), zup_eq, pk_us]
    have yw : ∀ j, j ≠ 1335 → Y 101 j = g2 101 j := fun j hj => by rw [← hY, zup_eq, pk_un hj, zup_ne 101 (by decide), zup_ne 101 (by decide), zup_ne 101 (by decide)]
    have y1335 : Y 101 1335 = nI ls.length := by rw [← hY, zup_eq, pk_us]
    obtain ⟨g3, d1, d2, d3, d4⟩ := q_t112 q3 zN 0 Y (by rw [yj 11 (by decide) (by decide) (by decide)]; exact q12) (by omega) (by unfold zN; omega)
    have d1 : f_X12_text_112 zN 0 Y = f_X12_text_186 zN 0 g3 := d1
    obtain ⟨g4, e1, e2, e3⟩ := q_t186 q5 zN 0 g3 (by rw [d2 100 (by decide), yj 12 (by decide) (by decide) (by decide)]; exact q13) (by omega) (by unfold zN; omega)
    have e1 : f_X12_text_186 zN 0 g3 = some (g3 100 11, g4) := e1
    have g3_11 : g3 100 11 = nI ls.length := by rw [d2 100 (by decide), yj 11 (by decide) (by decide) (by decide)]; exact q12
    rw [d1, e1, g3_11]
    refine ⟨nI ls.length, h3, g4, by rw [c4, zup_ne 34 (by decide), q7], rfl, ?_⟩
    -- the words
    have g2w : g2 101 = g 101 := by rw [q16.1 101 (by decide) (by decide) (by decide), fg 101 (by decide)]
    have wlow : ∀ j, j < 1335 → g4 101 j = g 101 j := fun j hj => by rw [e3 j, if_neg (by omega), d4 j (fun q _ _ => by omega), yw j (by omega), g2w]
    have w1335 : g4 101 1335 = nI ls.length := by rw [e3, if_neg (by omega), d4 1335 (fun q _ _ => by omega), y1335]
    have wst : ∀ q, q < 2 * y → g4 101 (1400 + q) = g2 106 q := fun q hq => by rw [e3, if_pos (by omega), Nat.add_sub_cancel_left, d2 106 (by decide), yc 106 (by decide) (by decide)]
    have hcl : ∀ c, c ≠ 16 → c ≠ 17 → c ≠ 18 → c ≠ 29 → c ≠ 31 → c ≠ 32 → c ≠ 33 → c ≠ 34 → c ≠ 35 → c ≠ 36 → h3 c = h c := fun c r1 r2 r3 r4 r5 r6 r7 r8 r9 r10 => by rw [c2 c r1 r2 r3, zup_ne c r4, q15.1 c r4 r8 r9 r10, fh c r4 r5 r6 r7 r8]
    have LW : rLw (h3 16) (h3 17) (h3 18) (g4 101) := by
      refine ⟨z, ls, q4, q3, by rw [c3]; exact z34, by rw [c4, zup_ne 34 (by decide)]; exact q7, w1335, fun F zz => ?_, fun k x hx => ?_⟩
      · obtain ⟨y', r1⟩ := q10 (h3 17) (h3 18) (fun k hk => by rw [c5 k hk, c6 k hk, zup_ne 35 (by decide), zup_ne 36 (by decide)]; exact ⟨rfl, rfl⟩) F 0 zz
        rw [Nat.zero_add] at r1
        rw [r1, evLo_L]
        cases evLo ls F with
        | some u => rfl
        | none => rfl
      · have kl := (List.getElem?_eq_some_iff.mp hx).1
        obtain ⟨a, b, e, m1, m2, m3, m4, m5, m6, m7⟩ := q11 k x hx
        obtain ⟨w1, w2⟩ := m7 (g4 101) (fun q r1 r2 => by
          rw [wst (2 * q) (by omega), show 1401 + 2 * q = 1400 + (2 * q + 1) by omega, wst (2 * q + 1) (by omega)]
          exact ⟨rfl, rfl⟩)
        obtain ⟨u1, u2, u3⟩ := d3 k (by omega) kl
        have y105 : Y 105 = g2 105 := yc 105 (by decide) (by decide)
        refine ⟨a, b, e, m1, m2, by omega, ?_, ?_, ?_, w1, w2⟩
        · rw [e3, if_neg (by omega), u1, y105, m4]
        · rw [e3, if_neg (by omega), u2, y105, m5]
        · rw [e3, if_neg (by omega), u3, y105, m6]
    refine R.text (R.1.law (fun c r1 r2 r3 r4 r5 => hcl c r3 r4 r5 (by omega) (by omega) (by omega) (by omega) (by omega) (by omega) (by omega)) wlow LW) hcl (by rw [c2 29 (by decide) (by decide) (by decide), zup_eq, pk_us]) (by rw [e2 100 (by decide), d2 100 (by decide), y13]) ⟨?_, ?_⟩ (fun c r1 r2 r3 r4 => by rw [e2 c r2, d2 c r2, yc c r1 r2, q16.1 c r1 r3 r4, fg c r1]) (by rw [e2 100 (by decide), d2 100 (by decide), yj 4 (by decide) (by decide) (by decide), q16.2 4 (by omega), fgj 4 (by omega)]) (by rw [e2 100 (by decide), d2 100 (by decide), yj 5 (by decide) (by decide) (by decide), q16.2 5 (by omega), fgj 5 (by omega)])
    · rw [c2 29 (by decide) (by decide) (by decide), zup_eq, pk_un (by decide), q8, e2 100 (by decide), d2 100 (by decide), y20]
    · rw [c2 29 (by decide) (by decide) (by decide), zup_eq, pk_un (by decide), q9, a297, e2 100 (by decide), d2 100 (by decide), y22]
  · have q1 : f_X7_readLaw_38 zN 0 A = some (0, h2) := q1
    obtain ⟨f, p, f1, f2, f3, f4, f5⟩ := q3
    rw [q1, zbd_e, zst_e, if_pos rfl, q2]
    unfold f_X12_text_63 f_X12_text_89
    simp only [zst_e, if_true]
    have e18 : zup g2 100 13 0 100 18 = nI f := by rw [zup_eq, pk_un (by decide)]; exact f2
    have e19 : zup (zup g2 100 13 0) 100 20 (nI f) 100 19 = p := by rw [zup_eq, pk_un (by decide), zup_eq, pk_un (by decide)]; exact f3
    rw [e18, e19]
    refine ⟨-1, _, _, rfl, rfl, ?_⟩
    have g2w : g2 101 = g 101 := by rw [f5.1 101 (by decide) (by decide) (by decide), fg 101 (by decide)]
    have gl : ∀ c, c ≠ 100 → zup (zup (zup g2 100 13 0) 100 20 (nI f)) 100 22 p c = g2 c := fun c hc => by rw [zup_ne c hc, zup_ne c hc, zup_ne c hc]
    have gj : ∀ j, j ≠ 13 → j ≠ 20 → j ≠ 22 → zup (zup (zup g2 100 13 0) 100 20 (nI f)) 100 22 p 100 j = g2 100 j := fun j r1 r2 r3 => by rw [zup_eq, pk_un r3, zup_eq, pk_un r2, zup_eq, pk_un r1]
    have hcl : ∀ c, c ≠ 29 → c ≠ 31 → c ≠ 32 → c ≠ 33 → c ≠ 34 → c ≠ 35 → c ≠ 36 → zup h2 29 5 0 c = h c := fun c r4 r5 r6 r7 r8 r9 r10 => by rw [zup_ne c r4, f4.1 c r4 r8 r9 r10, fh c r4 r5 r6 r7 r8]
    refine R.text ?_ (fun c _ _ _ r4 r5 r6 r7 r8 r9 r10 => hcl c r4 r5 r6 r7 r8 r9 r10) (by rw [zup_eq, pk_us]) (by rw [zup_eq, pk_un (by decide), zup_eq, pk_un (by decide), zup_eq, pk_us]) ⟨?_, ?_⟩ (fun c r1 r2 r3 r4 => by rw [gl c r1, f5.1 c r1 r3 r4, fg c r1]) (by rw [gj 4 (by decide) (by decide) (by decide), f5.2 4 (by omega), fgj 4 (by omega)]) (by rw [gj 5 (by decide) (by decide) (by decide), f5.2 5 (by omega), fgj 5 (by omega)])
    · rw [gl 101 (by decide), g2w]
      exact R.1.same (fun c r1 r2 => hcl c (by omega) (by omega) (by omega) (by omega) (by omega) (by omega) (by omega))
    · rw [zup_eq, pk_un (by decide), f1.2.2.1, zup_eq, pk_un (by decide), zup_eq, pk_us]
    · rw [zup_eq, pk_un (by decide), f1.2.2.2.1, zup_eq, pk_us]
