/-! an evening taken back -/
theorem q_goB {m : Nat} (hm : m < 6) : ∀ n i h, h 22 6 = nI m → (∀ j, j < i → ∃ p, p < 256 ∧ h 24 (m * 8 + j) = nI p) → i ≤ 8 → i < n → ∃ n' h', f_X6_goBack_r1_26 n (nI i - 1) h = f_X6_goBack_r1_26 (n' + 1) (-1) h' ∧ (∀ c, c ≠ 12 → c ≠ 13 → h' c = h c) ∧ (h' 12, h' 13) = unT (h 24) (h 25) m i (h 12, h 13) := by
  intro n
  induction n with
  | zero => intro i h _ _ h1 h2; omega
  | succ n ih =>
    intro i h h6 hp h1 h2
    cases i with
    | zero => exact ⟨n, h, rfl, fun c _ _ => rfl, rfl⟩
    | succ i =>
      obtain ⟨p, p1, p2⟩ := hp i (by omega)
      have e0 : f_X6_goBack_r1_26 (n + 1) (nI (i + 1) - 1) h = f_X6_goBack_r1_26 n (nI i - 1) (zup (zup h 12 p (h 12 p - 1)) 13 p (h 25 (m * 8 + i))) := by
        rw [n_s1n (by omega), Nat.add_sub_cancel]
        simp only [f_X6_goBack_r1_26, h6]
        rw [if_neg (show ¬ nI i < 0 by rw [n_neg (by omega)]; exact id)]
        have z22 : zup h 12 (h 24 (nI m * 8 + nI i).toNatClampNeg).toNatClampNeg (h 12 (h 24 (nI m * 8 + nI i).toNatClampNeg).toNatClampNeg - 1) 22 = h 22 := zup_ne 22 (by decide)
        have z25 : zup h 12 (h 24 (nI m * 8 + nI i).toNatClampNeg).toNatClampNeg (h 12 (h 24 (nI m * 8 + nI i).toNatClampNeg).toNatClampNeg - 1) 25 = h 25 := zup_ne 25 (by decide)
        simp only [zlt_e, zst_e, z22, z25, h6]
        simp only [l_8, n_mul, n_add, n_cl (show m * 8 + i < 2 ^ 31 by omega), p2, n_cl (show p < 2 ^ 31 by omega)]
        rw [zck_n (by omega) (by decide), zck_n (by omega) (by decide), zck_n (by omega) (by decide), zck_n (by omega) (by decide), zck_n (by omega) (by decide), ← Int32.sub_eq_add_neg]
      generalize hX : zup (zup h 12 p (h 12 p - 1)) 13 p (h 25 (m * 8 + i)) = X at e0
      have xc : ∀ c, c ≠ 12 → c ≠ 13 → X c = h c := fun c q1 q2 => by rw [← hX, zup_ne c q2, zup_ne c q1]
      have x12 : X 12 = upd (h 12) p (h 12 p - 1) := by rw [← hX, zup_ne 12 (by decide), zup_eq]
      have x13 : X 13 = upd (h 13) p (h 25 (m * 8 + i)) := by rw [← hX, zup_eq, zup_ne 13 (by decide)]
      obtain ⟨n', h', e1, e2, e3⟩ := ih i X (by rw [xc 22 (by decide) (by decide)]; exact h6) (fun j hj => by rw [xc 24 (by decide) (by decide)]; exact hp j (by omega)) (by omega) (by omega)
      refine ⟨n', h', e0.trans e1, fun c q1 q2 => by rw [e2 c q1 q2, xc c q1 q2], ?_⟩
      rw [e3, xc 24 (by decide) (by decide), xc 25 (by decide) (by decide), x12, x13]
      show _ = unT (h 24) (h 25) m i (upd (h 12) (h 24 (m * 8 + i)).toNatClampNeg _, upd (h 13) (h 24 (m * 8 + i)).toNatClampNeg _)
      rw [p2, n_cl (by omega)]
theorem q_unR {b : Nat} (hb : b + 525 ≤ 3150) : ∀ n i g, i ≤ 522 → 522 < n + i → ∃ g', f_X12_undo_72 n (nI b) (nI i) g = some (1, g') ∧ (∀ c, c ≠ 101 → g' c = g c) ∧ ∀ j, g' 101 j = if 200 + i ≤ j ∧ j < 722 then g 103 (b + 3 + (j - 200)) else g 101 j := by
  intro n
  induction n with
  | zero => intro i g h1 h2; omega
  | succ n ih =>
    intro i g h1 h2
    simp only [f_X12_undo_72]
    by_cases hi : i = 522
    · subst hi
      rw [if_pos (by decide)]
      exact ⟨g, rfl, fun c _ => rfl, fun j => by rw [if_neg (by omega)]⟩
    rw [if_neg (show ¬ (522 : Int32) ≤ nI i by rw [show (522 : Int32) = nI 522 from rfl, n_le (by omega) (by omega)]; omega)]
    simp (disch := omega) only [l_3, l_200, n_add, zck_n, n_cl, zst_e, zlt_e, nI_1]
    obtain ⟨g', e1, e2, e3⟩ := ih (i + 1) (zup g 101 (200 + i) (g 103 (b + 3 + i))) (by omega) (by omega)
    refine ⟨g', e1, fun c hc => by rw [e2 c hc, zup_ne c hc], fun j => ?_⟩
    rw [e3 j, zup_ne 103 (by decide), zup_eq]
    by_cases c : j = 200 + i
    · subst c
      rw [if_neg (by omega), pk_us, if_pos (by omega), Nat.add_sub_cancel_left]
    · rw [pk_un c]
      by_cases d : 200 + (i + 1) ≤ j ∧ j < 722
      · rw [if_pos d, if_pos (by omega)]
      · rw [if_neg d, if_neg (by omega)]
theorem m5 : ∀ m, m < 6 → (nI m + 6 - 1) - (nI m + 6 - 1) / 6 * 6 = nI ((m + 5) % 6) := by decide +kernel
theorem st_undo : zst_undo zRel := by
  intro h g R
  obtain ⟨⟨r1, r2, ⟨bl, nt, k1, k2, k3, k4, k5, k6, k7, k8, k9⟩, r4, r5⟩, ⟨n, m, n6, m6, b1, b2, b3, b4⟩, r6, r7, r8, r9⟩ := R
  have RR : zRel h g := ⟨⟨r1, r2, ⟨bl, nt, k1, k2, k3, k4, k5, k6, k7, k8, k9⟩, r4, r5⟩, ⟨n, m, n6, m6, b1, b2, b3, b4⟩, r6, r7, r8, r9⟩
  unfold f_X11_undo f_X6_goBack_r1 f_X12_undo
  rw [b1, b2]
  cases n with
  | zero =>
    refine ⟨0, h, g, ?_, ?_, RR⟩
    · rw [if_pos (show nI 0 = (0 : Int32) from rfl)]; rfl
    · rw [if_pos (show nI 0 = (0 : Int32) from rfl)]
  | succ n =>
    rw [k5, k3, n_cl (by omega), n_cl (by omega)] at b4
    obtain ⟨t, b0, t8, bb, nt1, c1, c2, c3, c4, c5, c6, c7, c8, c9⟩ := b4
    have n0 : ¬ nI (n + 1) = 0 := by rw [n_eq0 (by omega)]; omega
    rw [if_neg n0, if_neg n0, b3, n_cl (by omega), c1, zck_n (by omega) (by decide), zlt_e]
    obtain ⟨n', h1, e1, e2, e3⟩ := q_goB m6 zN t h b3 c2 t8 (by unfold zN; omega)
    rw [e1]
    simp only [f_X6_goBack_r1_26]
    rw [if_pos (by decide), e2 22 (by decide) (by decide), b3]
    have z22 : zcp h1 26 14 (nI m * 6) 0 6 22 = h 22 := by rw [zcp_ne 22 (by decide), e2 22 (by decide) (by decide)]
    have zc : ∀ K, (zcc 36 6 (nI m * 6) (0 : Int32) (6 : Int32) K) = K := fun K => by
      have := zcc_n (n0 := 36) (n1 := 6) (a := m * 6) (b := 0) (c := 6) (K := K) (by omega) (by omega) (by decide) (by decide)
      rw [← n_mul] at this
      exact this
    rw [zc, zst_e, z22, b3, n_cl (by omega), zck_n (by omega) (by decide)]
    generalize hX : zcp h1 26 14 (nI m * 6) 0 6 = X at *
    have xc : ∀ c, c ≠ 12 → c ≠ 13 → c ≠ 14 → X c = h c := fun c q1 q2 q3 => by rw [← hX, zcp_ne c q3, e2 c q1 q2]
    have x14 : ∀ j, j < 6 → X 14 j = h 26 (m * 6 + j) := by
      intro j hj
      have := zcp_n (h := h1) (a := 26) (b := 14) (sp := m * 6) (dp := 0) (n := 6) (by omega) (by decide) (by decide) j
      rw [if_pos (by omega), Nat.sub_zero, e2 26 (by decide) (by decide), ← n_mul] at this
      rw [← hX]
      exact this
    have x12 : X 12 = (unT (h 24) (h 25) m t (h 12, h 13)).1 := by rw [← e3, ← hX, zcp_ne 12 (by decide)]
    have x13 : X 13 = (unT (h 24) (h 25) m t (h 12, h 13)).2 := by rw [← e3, ← hX, zcp_ne 13 (by decide)]
    simp only [zst_e]
    have y27 : X 27 m = nI b0 := by rw [xc 27 (by decide) (by decide) (by decide)]; exact c4
    rw [y27]
    have q1 : zup X 11 4 (nI b0) 11 5 = nI nt := by rw [zup_eq, pk_un (by decide), xc 11 (by decide) (by decide) (by decide)]; exact k5
    have q2 : ∀ x, zup (zup X 11 4 (nI b0)) 11 5 x 22 = h 22 := fun x => by rw [zup_ne 22 (by decide), zup_ne 22 (by decide), xc 22 (by decide) (by decide) (by decide)]
    have q3 : ∀ x, zup (zup X 11 4 (nI b0)) 11 5 x 28 m = h 28 m := fun x => by rw [zup_ne 28 (by decide), zup_ne 28 (by decide), xc 28 (by decide) (by decide) (by decide)]
    have q4 : ∀ x y, zup (zup (zup X 11 4 (nI b0)) 11 5 x) 1 8 y 22 = h 22 := fun x y => by rw [zup_ne 22 (by decide)]; exact q2 x
    rw [q1, n_s1n nt1, q2, b3, n_cl (by omega), zck_n (by omega) (by decide), q3, q4, b3, m5 m m6]
    have q5 : ∀ x y, zup (zup (zup (zup X 11 4 (nI b0)) 11 5 x) 1 8 y) 22 6 (nI ((m + 5) % 6)) 22 7 = nI (n + 1) := fun x y => by rw [zup_eq, pk_un (by decide), q4]; exact b1
    rw [q5, n_s1n (by omega), Nat.add_sub_cancel, zbd_e]
    generalize hY : zup (zup (zup (zup (zup X 11 4 (nI b0)) 11 5 (nI (nt - 1))) 1 8 (h 28 m)) 22 6 (nI ((m + 5) % 6))) 22 7 (nI n) = Y
    have yc : ∀ c, c ≠ 1 → c ≠ 11 → c ≠ 12 → c ≠ 13 → c ≠ 14 → c ≠ 22 → Y c = h c := fun c p1 p2 p3 p4 p5 p6 => by rw [← hY, zup_ne c p6, zup_ne c p6, zup_ne c p1, zup_ne c p2, zup_ne c p2, xc c p3 p4 p5]
    have y1 : ∀ k, k ≠ 8 → Y 1 k = h 1 k := fun k hk => by rw [← hY, zup_ne 1 (by decide), zup_ne 1 (by decide), zup_eq, pk_un hk, zup_ne 1 (by decide), zup_ne 1 (by decide), xc 1 (by decide) (by decide) (by decide)]
    have y18 : Y 1 8 = h 28 m := by rw [← hY, zup_ne 1 (by decide), zup_ne 1 (by decide), zup_eq, pk_us]
    have y114 : Y 11 4 = nI b0 := by rw [← hY, zup_ne 11 (by decide), zup_ne 11 (by decide), zup_ne 11 (by decide), zup_eq, pk_un (by decide), zup_eq, pk_us]
    have y115 : Y 11 5 = nI (nt - 1) := by rw [← hY, zup_ne 11 (by decide), zup_ne 11 (by decide), zup_ne 11 (by decide), zup_eq, pk_us]
    have y226 : Y 22 6 = nI ((m + 5) % 6) := by rw [← hY, zup_eq, pk_un (by decide), zup_eq, pk_us]
    have y227 : Y 22 7 = nI n := by rw [← hY, zup_eq, pk_us]
    have y12 : Y 12 = (unT (h 24) (h 25) m t (h 12, h 13)).1 := by rw [← hY, zup_ne 12 (by decide), zup_ne 12 (by decide), zup_ne 12 (by decide), zup_ne 12 (by decide), zup_ne 12 (by decide), x12]
    have y13 : Y 13 = (unT (h 24) (h 25) m t (h 12, h 13)).2 := by rw [← hY, zup_ne 13 (by decide), zup_ne 13 (by decide), zup_ne 13 (by decide), zup_ne 13 (by decide), zup_ne 13 (by decide), x13]
    have y14 : ∀ j, j < 6 → Y 14 j = h 26 (m * 6 + j) := fun j hj => by rw [← hY, zup_ne 14 (by decide), zup_ne 14 (by decide), zup_ne 14 (by decide), zup_ne 14 (by decide), zup_ne 14 (by decide)]; exact x14 j hj
    -- the reference
    have g0 : zup g 100 4 (nI n) 100 4 = nI n := by rw [zup_eq, pk_us]
    have g103 : zup g 100 4 (nI n) 103 = g 103 := zup_ne 103 (by decide)
    have zz103 : ∀ (g : zH) k x, zup g 101 k x 103 = g 103 := fun g k x => zup_ne 103 (by decide)
    rw [zlt_e, g0, show (525 : Int32) * nI n = nI (525 * n) from n_mul 525 n, nI_1, show nI (525 * n) + 2 = nI (525 * n + 2) from n_add _ 2]
    simp only [n_cl (show 525 * n < 2 ^ 31 by omega), n_cl (show 525 * n + 1 < 2 ^ 31 by omega), n_cl (show 525 * n + 2 < 2 ^ 31 by omega), zck_n (show 525 * n < 3150 by omega) (show 3150 < 2 ^ 31 by decide), zck_n (show 525 * n + 1 < 3150 by omega) (show 3150 < 2 ^ 31 by decide), zck_n (show 525 * n + 2 < 3150 by omega) (show 3150 < 2 ^ 31 by decide), zz103, g103, c3, c5]
    generalize hZ : zup (zup (zup (zup g 100 4 (nI n)) 101 5 (nI (nt - 1))) 101 6 (nI b0)) 101 7 (g 103 (525 * n + 2)) = Z
    have zc1 : ∀ c, c ≠ 100 → c ≠ 101 → Z c = g c := fun c p1 p2 => by rw [← hZ, zup_ne c p2, zup_ne c p2, zup_ne c p2, zup_ne c p1]
    have z100 : ∀ k, k ≠ 4 → Z 100 k = g 100 k := fun k hk => by rw [← hZ, zup_ne 100 (by decide), zup_ne 100 (by decide), zup_ne 100 (by decide), zup_eq, pk_un hk]
    have z4 : Z 100 4 = nI n := by rw [← hZ, zup_ne 100 (by decide), zup_ne 100 (by decide), zup_ne 100 (by decide), zup_eq, pk_us]
    have zw : ∀ j, j ≠ 5 → j ≠ 6 → j ≠ 7 → Z 101 j = g 101 j := fun j p1 p2 p3 => by rw [← hZ, zup_eq, pk_un p3, zup_eq, pk_un p2, zup_eq, pk_un p1, zup_ne 101 (by decide)]
    have zw5 : Z 101 5 = nI (nt - 1) := by rw [← hZ, zup_eq, pk_un (by decide), zup_eq, pk_un (by decide), zup_eq, pk_us]
    have zw6 : Z 101 6 = nI b0 := by rw [← hZ, zup_eq, pk_un (by decide), zup_eq, pk_us]
    have zw7 : Z 101 7 = g 103 (525 * n + 2) := by rw [← hZ, zup_eq, pk_us]
    obtain ⟨g', l1, l2, l3⟩ := q_unR (b := 525 * n) (by omega) zN 0 Z (by omega) (by unfold zN; omega)
    have l1 : f_X12_undo_72 zN (nI (525 * n)) 0 Z = some (1, g') := l1
    refine ⟨1, Y, g', rfl, l1, ?_⟩
    have w1 : ∀ j, (j < 200 ∨ 722 ≤ j) → j ≠ 5 → j ≠ 6 → j ≠ 7 → g' 101 j = g 101 j := fun j hj p1 p2 p3 => by rw [l3 j, if_neg (by omega), zw j p1 p2 p3]
    have w2 : ∀ j, 200 ≤ j → j < 722 → g' 101 j = g 103 (525 * n + 3 + (j - 200)) := fun j p1 p2 => by rw [l3 j, if_pos (by omega), zc1 103 (by decide) (by decide)]
    have w5 : g' 101 5 = nI (nt - 1) := by rw [l3, if_neg (by omega), zw5]
    have w6 : g' 101 6 = nI b0 := by rw [l3, if_neg (by omega), zw6]
    have w7 : g' 101 7 = g 103 (525 * n + 2) := by rw [l3, if_neg (by omega), zw7]
    have gc : ∀ c, c ≠ 100 → c ≠ 101 → g' c = g c := fun c p1 p2 => by rw [l2 c p2, zc1 c p1 p2]
    have g100 : ∀ k, k ≠ 4 → g' 100 k = g 100 k := fun k hk => by rw [l2 100 (by decide), z100 k hk]
    have ycc : ∀ c, 50 ≤ c → Y c = h c := fun c hc => yc c (by omega) (by omega) (by omega) (by omega) (by omega) (by omega)
    refine ⟨⟨?_, ?_, ?_, ?_, ?_⟩, ?_, ?_, ?_, ?_, ?_⟩
    · rw [yc 7 (by decide) (by decide) (by decide) (by decide) (by decide) (by decide), yc 8 (by decide) (by decide) (by decide) (by decide) (by decide) (by decide), yc 9 (by decide) (by decide) (by decide) (by decide) (by decide) (by decide), yc 10 (by decide) (by decide) (by decide) (by decide) (by decide) (by decide)]
      exact r1.w (fun i hi => w1 i (by omega) (by omega) (by omega) (by omega))
    · rw [yc 2 (by decide) (by decide) (by decide) (by decide) (by decide) (by decide), yc 3 (by decide) (by decide) (by decide) (by decide) (by decide) (by decide), yc 4 (by decide) (by decide) (by decide) (by decide) (by decide) (by decide), yc 5 (by decide) (by decide) (by decide) (by decide) (by decide) (by decide), yc 6 (by decide) (by decide) (by decide) (by decide) (by decide) (by decide)]
      exact r2.w (fun i hi => w1 i (by omega) (by omega) (by omega) (by omega))
    · refine ⟨b0, nt - 1, by omega, by omega, y114, w6, y115, w5, fun i hi => ?_, fun i hi => ?_, ?_⟩
      · rw [y14 i hi, c7 i hi, w2 _ (by omega) (by omega), show 200 + i - 200 = i by omega]
      · rw [yc 15 (by decide) (by decide) (by decide) (by decide) (by decide) (by decide), w1 _ (by omega) (by omega) (by omega) (by omega)]
        exact k8 i (by omega)
      · rw [y12, y13]
        exact c8.w (fun i i1 i2 => w2 i (by omega) i2)
    · rw [yc 16 (by decide) (by decide) (by decide) (by decide) (by decide) (by decide), yc 17 (by decide) (by decide) (by decide) (by decide) (by decide) (by decide), yc 18 (by decide) (by decide) (by decide) (by decide) (by decide) (by decide)]
      exact r4.w (fun i hi => w1 i (by omega) (by omega) (by omega) (by omega))
    · obtain ⟨⟨d, d1, d2, d3, d4⟩, ⟨d', e1, e2, e3⟩, -, e5⟩ := r5
      rw [yc 20 (by decide) (by decide) (by decide) (by decide) (by decide) (by decide)]
      refine ⟨⟨d, d1, d2, by rw [y1 6 (by decide)]; exact d3, by rw [w1 1 (by omega) (by omega) (by omega) (by omega)]; exact d4⟩, ⟨d', e1, by rw [y1 7 (by decide)]; exact e2, by rw [w1 2 (by omega) (by omega) (by omega) (by omega)]; exact e3⟩, by rw [y18, w7]; exact c6, fun f hf => by rw [w1 _ (by omega) (by omega) (by omega) (by omega)]; exact e5 f hf⟩
    · refine ⟨n, (m + 5) % 6, by omega, by omega, y227, by rw [l2 100 (by decide)]; exact z4, y226, ?_⟩
      rw [yc 23 (by decide) (by decide) (by decide) (by decide) (by decide) (by decide), yc 24 (by decide) (by decide) (by decide) (by decide) (by decide) (by decide), yc 25 (by decide) (by decide) (by decide) (by decide) (by decide) (by decide), yc 26 (by decide) (by decide) (by decide) (by decide) (by decide) (by decide), yc 27 (by decide) (by decide) (by decide) (by decide) (by decide) (by decide), yc 28 (by decide) (by decide) (by decide) (by decide) (by decide) (by decide), gc 103 (by decide) (by decide), y115, y114, n_cl (by omega), n_cl (by omega), y12, y13]
      exact c9
    · unfold rImg rKept at *
      simp only [ycc 50 (by decide), ycc 51 (by decide), ycc 52 (by decide), ycc 53 (by decide), ycc 54 (by decide), ycc 55 (by decide), ycc 56 (by decide), ycc 57 (by decide), ycc 58 (by decide), ycc 59 (by decide), ycc 60 (by decide), ycc 61 (by decide), ycc 62 (by decide), ycc 63 (by decide), ycc 64 (by decide), ycc 65 (by decide), ycc 66 (by decide), ycc 67 (by decide), ycc 69 (by decide), yc 0 (by decide) (by decide) (by decide) (by decide) (by decide) (by decide), g100 5 (by decide), gc 102 (by decide) (by decide)]
      exact r6
    · unfold rTape at *
      rw [yc 29 (by decide) (by decide) (by decide) (by decide) (by decide) (by decide), yc 30 (by decide) (by decide) (by decide) (by decide) (by decide) (by decide), g100 13 (by decide), gc 107 (by decide) (by decide)]
      exact r7
    · unfold rFlt at *
      rw [yc 29 (by decide) (by decide) (by decide) (by decide) (by decide) (by decide), g100 20 (by decide), g100 22 (by decide)]
      exact r8
    · unfold rEve at *
      rw [yc 40 (by decide) (by decide) (by decide) (by decide) (by decide) (by decide), yc 38 (by decide) (by decide) (by decide) (by decide) (by decide) (by decide)]
      exact r9
