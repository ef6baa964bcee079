/-! the image -/
theorem q_cpT {h : zH} {w : Nat → Int32} (H : rHouse h w) : ∃ h', f_X4_copyFrom_t50_r1 h = some (0, h') ∧ (∀ c, (c < 50 ∨ 70 ≤ c) → h' c = h c) ∧ rKept h' w := by
  obtain ⟨r1, r2, r3, r4, r5⟩ := H
  have hbl : ∃ bl, bl ≤ 100 ∧ h 11 4 = nI bl := by obtain ⟨bl, nt, k1, k2, k3, -⟩ := r3; exact ⟨bl, k1, k3⟩
  have hsz : ∃ sz, sz ≤ 400 ∧ h 16 3 = nI sz := by obtain ⟨sz, ls, k1, k2, k3, -⟩ := r4; exact ⟨sz, k1, k3⟩
  obtain ⟨bl, b1, b2⟩ := hbl
  obtain ⟨sz, s1, s2⟩ := hsz
  unfold f_X4_copyFrom_t50_r1
  obtain ⟨h1, a1, a2, a3, a4, a5, a6, a7⟩ := cp_X3t (h := h)
  have f1 : ∀ c, (c < 50 ∨ 56 ≤ c) → h1 c = h c := fun c hc => a2 c (by omega) (by omega) (by omega) (by omega) (by omega)
  obtain ⟨h2, c1, c2, c3, c4, c5, c6, c7⟩ := cp_X9t (h := h1)
  have f2 : ∀ c, (c < 56 ∨ 60 ≤ c) → h2 c = h1 c := fun c hc => c2 c (by omega) (by omega) (by omega) (by omega)
  obtain ⟨h3, d1, d2, d3, d4, d5, d6, d7, d8⟩ := cp_X0t (h := h2) b1 (by rw [f2 11 (by omega), f1 11 (by omega)]; exact b2)
  have f3 : ∀ c, (c < 60 ∨ 65 ≤ c) → h3 c = h2 c := fun c hc => d2 c (by omega) (by omega) (by omega) (by omega) (by omega)
  obtain ⟨h4, e1, e2, e3, e4, e5, e6⟩ := cp_X5t (h := h3) s1 (by rw [f3 16 (by omega), f2 16 (by omega), f1 16 (by omega)]; exact s2)
  have f4 : ∀ c, (c < 65 ∨ 68 ≤ c) → h4 c = h3 c := fun c hc => e2 c (by omega) (by omega) (by omega)
  have low : ∀ c, (c < 50 ∨ 70 ≤ c) → h4 c = h c := fun c hc => by rw [f4 c (by omega), f3 c (by omega), f2 c (by omega), f1 c (by omega)]
  rw [a1, zbd_e, c1, zbd_e, d1, zbd_e, e1, zbd_e, zcc6]
  simp only [zst_e]
  simp (disch := decide) only [zcp_ne, zup_ne]
  rw [low 1 (by omega)]
  generalize hX : zup (zup (zup (zcp h4 20 69 0 0 6) 50 6 (h 1 6)) 50 7 (h 1 7)) 50 8 (h 1 8) = X
  have xc : ∀ c, c ≠ 50 → c ≠ 69 → X c = h4 c := fun c q1 q2 => by rw [← hX, zup_ne c q1, zup_ne c q1, zup_ne c q1, zcp_ne c q2]
  have x69 : ∀ j, j < 6 → X 69 j = h 20 j := fun j hj => by rw [← hX, zup_ne 69 (by decide), zup_ne 69 (by decide), zup_ne 69 (by decide), zcp6, if_pos hj, low 20 (by omega)]
  have x506 : X 50 6 = h 1 6 := by rw [← hX, zup_eq, pk_un (by decide), zup_eq, pk_un (by decide), zup_eq, pk_us]
  have x507 : X 50 7 = h 1 7 := by rw [← hX, zup_eq, pk_un (by decide), zup_eq, pk_us]
  have x508 : X 50 8 = h 1 8 := by rw [← hX, zup_eq, pk_us]
  refine ⟨X, rfl, fun c hc => by rw [xc c (by omega) (by omega), low c hc], ?_, ?_, ?_, ?_, ?_⟩
  · have z : ∀ c, (56 ≤ c ∧ c < 60) → X c = h2 c := fun c hc => by rw [xc c (by omega) (by omega), f4 c (by omega), f3 c (by omega)]
    rw [z 56 (by omega), z 57 (by omega), z 58 (by omega), z 59 (by omega)]
    exact r1.arr (by rw [c3, f1 7 (by omega)]) (by rw [c4, f1 7 (by omega)]) (fun i hi => by rw [c5 i hi, f1 8 (by omega)]) (fun i hi => by rw [c6 i hi, f1 9 (by omega)]) (fun i hi => by rw [c7 i hi, f1 10 (by omega)])
  · have z : ∀ c, (51 ≤ c ∧ c < 56) → X c = h1 c := fun c hc => by rw [xc c (by omega) (by omega), f4 c (by omega), f3 c (by omega), f2 c (by omega)]
    rw [z 51 (by omega), z 52 (by omega), z 53 (by omega), z 54 (by omega), z 55 (by omega)]
    exact r2.arr a3 a4 a5 a6 a7
  · have z : ∀ c, (60 ≤ c ∧ c < 65) → X c = h3 c := fun c hc => by rw [xc c (by omega) (by omega), f4 c (by omega)]
    rw [z 60 (by omega), z 61 (by omega), z 62 (by omega), z 63 (by omega), z 64 (by omega)]
    have y : ∀ c, c < 50 → h2 c = h c := fun c hc => by rw [f2 c (by omega), f1 c (by omega)]
    exact r3.arr (by rw [d3, y 11 (by omega)]) (by rw [d4, y 11 (by omega)]) (fun i hi => by rw [d5 i hi, y 12 (by omega)]) (fun i hi => by rw [d6 i hi, y 13 (by omega)]) (fun i hi => by rw [d7 i hi, y 14 (by omega)]) (fun i hi => by rw [b2, n_cl (by omega)] at hi; rw [d8 i hi, y 15 (by omega)])
  · have z : ∀ c, (65 ≤ c ∧ c < 68) → X c = h4 c := fun c hc => xc c (by omega) (by omega)
    rw [z 65 (by omega), z 66 (by omega), z 67 (by omega)]
    have y : ∀ c, c < 50 → h3 c = h c := fun c hc => by rw [f3 c (by omega), f2 c (by omega), f1 c (by omega)]
    exact r4.arr (by rw [e3, y 16 (by omega)]) (by rw [e4, y 16 (by omega)]) (fun i hi => by rw [s2, n_cl (by omega)] at hi; rw [e5 i hi, y 17 (by omega)]) (fun i hi => by rw [s2, n_cl (by omega)] at hi; rw [e6 i hi, y 18 (by omega)])
  · exact r5.arr x506 x507 x508 x69
theorem q_cpR {h : zH} {w : Nat → Int32} (H : rKept h w) : ∃ h', f_X4_copyFrom_r50 h = some (0, h') ∧ (∀ c, (c = 0 ∨ c = 19 ∨ 20 < c) → h' c = h c) ∧ rHouse h' w := by
  obtain ⟨r1, r2, r3, r4, r5⟩ := H
  have hbl : ∃ bl, bl ≤ 100 ∧ h 60 4 = nI bl := by obtain ⟨bl, nt, k1, k2, k3, -⟩ := r3; exact ⟨bl, k1, k3⟩
  have hsz : ∃ sz, sz ≤ 400 ∧ h 65 3 = nI sz := by obtain ⟨sz, ls, k1, k2, k3, -⟩ := r4; exact ⟨sz, k1, k3⟩
  obtain ⟨bl, b1, b2⟩ := hbl
  obtain ⟨sz, s1, s2⟩ := hsz
  unfold f_X4_copyFrom_r50
  obtain ⟨h1, a1, a2, a3, a4, a5, a6, a7⟩ := cp_X3r (h := h)
  have f1 : ∀ c, (c < 2 ∨ 7 ≤ c) → h1 c = h c := fun c hc => a2 c (by omega) (by omega) (by omega) (by omega) (by omega)
  obtain ⟨h2, c1, c2, c3, c4, c5, c6, c7⟩ := cp_X9r (h := h1)
  have f2 : ∀ c, (c < 7 ∨ 11 ≤ c) → h2 c = h1 c := fun c hc => c2 c (by omega) (by omega) (by omega) (by omega)
  obtain ⟨h3, d1, d2, d3, d4, d5, d6, d7, d8⟩ := cp_X0r (h := h2) b1 (by rw [f2 60 (by omega), f1 60 (by omega)]; exact b2)
  have f3 : ∀ c, (c < 11 ∨ 16 ≤ c) → h3 c = h2 c := fun c hc => d2 c (by omega) (by omega) (by omega) (by omega) (by omega)
  obtain ⟨h4, e1, e2, e3, e4, e5, e6⟩ := cp_X5r (h := h3) s1 (by rw [f3 65 (by omega), f2 65 (by omega), f1 65 (by omega)]; exact s2)
  have f4 : ∀ c, (c < 16 ∨ 19 ≤ c) → h4 c = h3 c := fun c hc => e2 c (by omega) (by omega) (by omega)
  have low : ∀ c, (c < 2 ∨ 19 ≤ c) → h4 c = h c := fun c hc => by rw [f4 c (by omega), f3 c (by omega), f2 c (by omega), f1 c (by omega)]
  rw [a1, zbd_e, c1, zbd_e, d1, zbd_e, e1, zbd_e, zcc6]
  simp only [zst_e]
  simp (disch := decide) only [zcp_ne, zup_ne]
  rw [low 50 (by omega)]
  generalize hX : zup (zup (zup (zcp h4 69 20 0 0 6) 1 6 (h 50 6)) 1 7 (h 50 7)) 1 8 (h 50 8) = X
  have xc : ∀ c, c ≠ 1 → c ≠ 20 → X c = h4 c := fun c q1 q2 => by rw [← hX, zup_ne c q1, zup_ne c q1, zup_ne c q1, zcp_ne c q2]
  have x20 : ∀ j, j < 6 → X 20 j = h 69 j := fun j hj => by rw [← hX, zup_ne 20 (by decide), zup_ne 20 (by decide), zup_ne 20 (by decide), zcp6, if_pos hj, low 69 (by omega)]
  have x16 : X 1 6 = h 50 6 := by rw [← hX, zup_eq, pk_un (by decide), zup_eq, pk_un (by decide), zup_eq, pk_us]
  have x17 : X 1 7 = h 50 7 := by rw [← hX, zup_eq, pk_un (by decide), zup_eq, pk_us]
  have x18 : X 1 8 = h 50 8 := by rw [← hX, zup_eq, pk_us]
  refine ⟨X, rfl, fun c hc => by rw [xc c (by omega) (by omega), low c (by omega)], ?_, ?_, ?_, ?_, ?_⟩
  · have z : ∀ c, (7 ≤ c ∧ c < 11) → X c = h2 c := fun c hc => by rw [xc c (by omega) (by omega), f4 c (by omega), f3 c (by omega)]
    rw [z 7 (by omega), z 8 (by omega), z 9 (by omega), z 10 (by omega)]
    exact r1.arr (by rw [c3, f1 56 (by omega)]) (by rw [c4, f1 56 (by omega)]) (fun i hi => by rw [c5 i hi, f1 57 (by omega)]) (fun i hi => by rw [c6 i hi, f1 58 (by omega)]) (fun i hi => by rw [c7 i hi, f1 59 (by omega)])
  · have z : ∀ c, (2 ≤ c ∧ c < 7) → X c = h1 c := fun c hc => by rw [xc c (by omega) (by omega), f4 c (by omega), f3 c (by omega), f2 c (by omega)]
    rw [z 2 (by omega), z 3 (by omega), z 4 (by omega), z 5 (by omega), z 6 (by omega)]
    exact r2.arr a3 a4 a5 a6 a7
  · have z : ∀ c, (11 ≤ c ∧ c < 16) → X c = h3 c := fun c hc => by rw [xc c (by omega) (by omega), f4 c (by omega)]
    rw [z 11 (by omega), z 12 (by omega), z 13 (by omega), z 14 (by omega), z 15 (by omega)]
    have y : ∀ c, 20 < c → h2 c = h c := fun c hc => by rw [f2 c (by omega), f1 c (by omega)]
    exact r3.arr (by rw [d3, y 60 (by omega)]) (by rw [d4, y 60 (by omega)]) (fun i hi => by rw [d5 i hi, y 61 (by omega)]) (fun i hi => by rw [d6 i hi, y 62 (by omega)]) (fun i hi => by rw [d7 i hi, y 63 (by omega)]) (fun i hi => by rw [b2, n_cl (by omega)] at hi; rw [d8 i hi, y 64 (by omega)])
  · have z : ∀ c, (16 ≤ c ∧ c < 19) → X c = h4 c := fun c hc => xc c (by omega) (by omega)
    rw [z 16 (by omega), z 17 (by omega), z 18 (by omega)]
    have y : ∀ c, 20 < c → h3 c = h c := fun c hc => by rw [f3 c (by omega), f2 c (by omega), f1 c (by omega)]
    exact r4.arr (by rw [e3, y 65 (by omega)]) (by rw [e4, y 65 (by omega)]) (fun i hi => by rw [s2, n_cl (by omega)] at hi; rw [e5 i hi, y 66 (by omega)]) (fun i hi => by rw [s2, n_cl (by omega)] at hi; rw [e6 i hi, y 67 (by omega)])
  · exact r5.arr x16 x17 x18 x20
/-- the reference copies -/
theorem q_imS (x : Int32) (hx : ¬ x = 0) : ∀ n i g, i ≤ 2220 → 2220 < n + i → ∃ g', f_X12_image_15 n x (nI i) g = some (1, zup g' 100 5 1) ∧ (∀ c, c ≠ 102 → g' c = g c) ∧ ∀ j, g' 102 j = if i ≤ j ∧ j < 2220 then g 101 j else g 102 j := by
  intro n
  induction n with
  | zero => intro i g h1 h2; omega
  | succ n ih =>
    intro i g h1 h2
    simp only [f_X12_image_15, f_X12_image_67, f_X12_image_53, if_neg hx]
    by_cases hi : i = 2220
    · subst hi
      rw [if_pos (by decide), zst_e]
      exact ⟨g, rfl, fun c _ => rfl, fun j => by rw [if_neg (by omega)]⟩
    rw [if_neg (show ¬ (2220 : Int32) ≤ nI i by rw [show (2220 : Int32) = nI 2220 from rfl, n_le (by omega) (by omega)]; omega), zck_n (by omega) (by decide), zck_n (by omega) (by decide), n_cl (by omega), zst_e, zlt_e, nI_1]
    obtain ⟨g', e1, e2, e3⟩ := ih (i + 1) (zup g 102 i (g 101 i)) (by omega) (by omega)
    refine ⟨g', e1, fun c hc => by rw [e2 c hc, zup_ne c hc], fun j => ?_⟩
    rw [e3 j, zup_ne 101 (by decide), zup_eq]
    by_cases c : j = i
    · subst c; rw [if_neg (by omega), pk_us, if_pos (by omega)]
    · rw [pk_un c]
      by_cases d : i + 1 ≤ j ∧ j < 2220
      · rw [if_pos d, if_pos (by omega)]
      · rw [if_neg d, if_neg (by omega)]
theorem q_imL : ∀ n i g, i ≤ 2220 → 2220 < n + i → ∃ g', f_X12_image_15 n 0 (nI i) g = some (1, zup (zup g' 100 4 0) 100 5 1) ∧ (∀ c, c ≠ 101 → g' c = g c) ∧ ∀ j, g' 101 j = if i ≤ j ∧ j < 2220 then g 102 j else g 101 j := by
  intro n
  induction n with
  | zero => intro i g h1 h2; omega
  | succ n ih =>
    intro i g h1 h2
    simp only [f_X12_image_15, f_X12_image_67, f_X12_image_53, if_true]
    by_cases hi : i = 2220
    · subst hi
      rw [if_pos (by decide), q_forgets, zbd_e, zst_e]
      exact ⟨g, rfl, fun c _ => rfl, fun j => by rw [if_neg (by omega)]⟩
    rw [if_neg (show ¬ (2220 : Int32) ≤ nI i by rw [show (2220 : Int32) = nI 2220 from rfl, n_le (by omega) (by omega)]; omega), zck_n (by omega) (by decide), zck_n (by omega) (by decide), n_cl (by omega), zst_e, zlt_e, nI_1]
    obtain ⟨g', e1, e2, e3⟩ := ih (i + 1) (zup g 101 i (g 102 i)) (by omega) (by omega)
    refine ⟨g', e1, fun c hc => by rw [e2 c hc, zup_ne c hc], fun j => ?_⟩
    rw [e3 j, zup_ne 102 (by decide), zup_eq]
    by_cases c : j = i
    · subst c; rw [if_neg (by omega), pk_us, if_pos (by omega)]
    · rw [pk_un c]
      by_cases d : i + 1 ≤ j ∧ j < 2220
      · rw [if_pos d, if_pos (by omega)]
      · rw [if_neg d, if_neg (by omega)]
theorem evM_w2 {w w' F : Nat → Int32} : ∀ r i top z, (∀ k, i ≤ k → k < i + r → w' (1400 + 2 * k) = w (1400 + 2 * k) ∧ w' (1401 + 2 * k) = w (1401 + 2 * k)) → evM w' F r i top z = evM w F r i top z := by
  intro r
  induction r with
  | zero => intro i top z _; rfl
  | succ r ih =>
    intro i top z h
    have e := fun t y => ih (i + 1) t y (fun k k1 k2 => h k (by omega) (by omega))
    simp only [evM, (h i (by omega) (by omega)).1, (h i (by omega) (by omega)).2, e]
theorem mLine.w2 {w w' : Nat → Int32} {i : Nat} {x : zLn} (hi : i < 20) (H : mLine w i x) (hw : ∀ i, i < 2220 → w' i = w i) : mLine w' i x := by
  obtain ⟨a, b, c, a1, a2, a3, a4, a5, a6, a7, a8⟩ := H
  refine ⟨a, b, c, a1, a2, a3, by rw [hw _ (by omega)]; exact a4, by rw [hw _ (by omega)]; exact a5, by rw [hw _ (by omega)]; exact a6, fun F z => by rw [evM_w2 _ _ _ _ (fun k k1 k2 => ⟨hw _ (by omega), hw _ (by omega)⟩)]; exact a7 F z, ?_⟩
  cases hx : x.2 with
  | none => rw [hx] at a8; exact a8
  | some v => rw [hx] at a8; exact ⟨a8.1, fun F z => by rw [evM_w2 _ _ _ _ (fun k k1 k2 => ⟨hw _ (by omega), hw _ (by omega)⟩)]; exact a8.2 F z⟩
theorem rLw.w2 {L St Nu w w' : Nat → Int32} (H : rLw L St Nu w) (hw : ∀ i, i < 2220 → w' i = w i) : rLw L St Nu w' := by
  obtain ⟨sz, ls, a1, a2, a3, a4, a5, a6, a7⟩ := H
  refine ⟨sz, ls, a1, a2, a3, a4, by rw [hw _ (by omega)]; exact a5, a6, fun i x hx => (a7 i x hx).w2 ?_ hw⟩
  have := (List.getElem?_eq_some_iff.mp hx).1
  omega
theorem rHouse.w2 {h : zH} {w w' : Nat → Int32} (H : rHouse h w) (hw : ∀ i, i < 2220 → w' i = w i) : rHouse h w' := ⟨H.1.w (fun i hi => hw i (by omega)), H.2.1.w (fun i hi => hw i (by omega)), H.2.2.1.w (fun i hi => hw i (by omega)), H.2.2.2.1.w2 hw, H.2.2.2.2.w (fun i hi => hw i (by omega))⟩
theorem rKept.w2 {h : zH} {w w' : Nat → Int32} (H : rKept h w) (hw : ∀ i, i < 2220 → w' i = w i) : rKept h w' := ⟨H.1.w (fun i hi => hw i (by omega)), H.2.1.w (fun i hi => hw i (by omega)), H.2.2.1.w (fun i hi => hw i (by omega)), H.2.2.2.1.w2 hw, H.2.2.2.2.w (fun i hi => hw i (by omega))⟩
theorem rHouse.same {h h' : zH} {w : Nat → Int32} (H : rHouse h w) (hc : ∀ c, 1 ≤ c → c < 21 → h' c = h c) : rHouse h' w := by
  unfold rHouse at *
  rw [hc 7 (by decide) (by decide), hc 8 (by decide) (by decide), hc 9 (by decide) (by decide), hc 10 (by decide) (by decide), hc 2 (by decide) (by decide), hc 3 (by decide) (by decide), hc 4 (by decide) (by decide), hc 5 (by decide) (by decide), hc 6 (by decide) (by decide), hc 11 (by decide) (by decide), hc 12 (by decide) (by decide), hc 13 (by decide) (by decide), hc 14 (by decide) (by decide), hc 15 (by decide) (by decide), hc 16 (by decide) (by decide), hc 17 (by decide) (by decide), hc 18 (by decide) (by decide), hc 1 (by decide) (by decide), hc 20 (by decide) (by decide)]
  exact H
theorem q_layT28 : ∀ n i h, i ≤ 8 → 8 < n + i → ∃ h', f_X9_layFor_t56_28 n (nI i) h = some (0, h') ∧ ∀ c, c ≠ 58 → h' c = h c := by
  intro n
  induction n with
  | zero => intro i h h1 h2; omega
  | succ n ih =>
    intro i h h1 h2
    simp only [f_X9_layFor_t56_28]
    by_cases hi : i = 8
    · subst hi
      rw [if_pos (by decide)]
      exact ⟨h, rfl, fun c _ => rfl⟩
    rw [if_neg (show ¬ (8 : Int32) ≤ nI i by rw [l_8, n_le (by omega) (by omega)]; omega), zck_n (by omega) (by decide), n_cl (by omega), zst_e, zlt_e, nI_1]
    obtain ⟨h', e1, e2⟩ := ih (i + 1) (zup h 58 i (-1)) (by omega) (by omega)
    exact ⟨h', e1, fun c hc => by rw [e2 c hc, zup_ne c hc]⟩
theorem q_layT7 : ∀ n i h, i ≤ 8 → 8 < n + i → ∃ h', f_X9_layFor_t56_7 n (nI i) h = some (0, h') ∧ ∀ c, c ≠ 58 → c ≠ 59 → h' c = h c := by
  intro n
  induction n with
  | zero => intro i h h1 h2; omega
  | succ n ih =>
    intro i h h1 h2
    simp only [f_X9_layFor_t56_7]
    by_cases hi : i = 8
    · subst hi
      rw [if_pos (by decide)]
      obtain ⟨h', e1, e2⟩ := q_layT28 zN 0 h (by omega) (by unfold zN; omega)
      exact ⟨h', e1, fun c hc _ => e2 c hc⟩
    rw [if_neg (show ¬ (8 : Int32) ≤ nI i by rw [l_8, n_le (by omega) (by omega)]; omega), zck_n (by omega) (by decide), n_cl (by omega), zst_e, zlt_e, nI_1]
    obtain ⟨h', e1, e2⟩ := ih (i + 1) (zup h 59 i (-1)) (by omega) (by omega)
    exact ⟨h', e1, fun c hc hc2 => by rw [e2 c hc hc2, zup_ne c hc2]⟩
theorem q_lz5 (h : zH) : ∃ h1, f_lz5 h = some (0, h1) ∧ ¬ h1 0 5 = 0 ∧ ∀ c, 1 ≤ c → c < 50 → h1 c = h c := by
  unfold f_lz5
  by_cases c : h 0 5 = 0
  · rw [if_pos c]
    unfold f_X4_init_t50 f_X3_init_t51 f_X9_init_t56 f_X0_init_t60 f_X5_init_t65 f_X9_layFor_t56
    simp only [zst_e, zbd_e]
    obtain ⟨h', e1, e2⟩ := q_layT7 zN 0 (zup (zz (zz (zz (zz (zz (zz (zz (zz (zz (zz h 50) 51) 52) 53) 54) 55) 56) 57) 58) 59) 56 3 6) (by omega) (by unfold zN; omega)
    have e1 : f_X9_layFor_t56_7 zN 0 (zup (zz (zz (zz (zz (zz (zz (zz (zz (zz (zz h 50) 51) 52) 53) 54) 55) 56) 57) 58) 59) 56 3 6) = some (0, h') := e1
    simp only [e1, zbd_e]
    refine ⟨_, rfl, ?_, fun c c1 c2 => ?_⟩
    · rw [zup_eq, pk_us]; decide
    · have n0 : c ≠ 0 := by omega
      have n5 : ∀ d, 50 ≤ d → c ≠ d := fun d hd => by omega
      have zn : ∀ (h : zH) (d : Nat), 50 ≤ d → zz h d c = h c := fun h d hd => zz_nc c (n5 d hd)
      rw [zup_ne c n0, zup_ne c (n5 50 (by decide)), zn _ 70 (by decide), zn _ 69 (by decide), zn _ 68 (by decide), zn _ 67 (by decide), zn _ 66 (by decide), zn _ 65 (by decide), zn _ 64 (by decide), zn _ 63 (by decide), zn _ 62 (by decide), zn _ 61 (by decide), zn _ 60 (by decide), e2 c (n5 58 (by decide)) (n5 59 (by decide)), zup_ne c (n5 56 (by decide)), zn _ 59 (by decide), zn _ 58 (by decide), zn _ 57 (by decide), zn _ 56 (by decide), zn _ 55 (by decide), zn _ 54 (by decide), zn _ 53 (by decide), zn _ 52 (by decide), zn _ 51 (by decide), zn _ 50 (by decide)]
  · rw [if_neg c]
    exact ⟨h, rfl, c, fun c _ _ => rfl⟩
theorem st_image : zst_image zRel := by
  intro h g x R _
  by_cases hx : x = 0
  · subst hx
    unfold f_X11_image f_X12_image f_X12_image_13
    rw [if_pos rfl, if_pos rfl]
    rcases R.2.2.1 with ⟨a1, a2⟩ | ⟨a1, a2, a3⟩
    · rw [if_pos a1, if_pos a2]
      exact ⟨0, h, g, rfl, rfl, R⟩
    · rw [if_neg a1, if_neg (show ¬ g 100 5 = 0 by rw [a2]; decide)]
      unfold f_X11_image_44
      obtain ⟨h1, b1, b2, b3⟩ := q_cpR a3
      rw [if_neg a1, b1, zbd_e, q_forget, zbd_e]
      obtain ⟨g1, c1, c2, c3⟩ := q_imL zN 0 g (by omega) (by unfold zN; omega)
      have c1 : f_X12_image_15 zN 0 0 g = some (1, zup (zup g1 100 4 0) 100 5 1) := c1
      rw [c1]
      refine ⟨1, _, _, rfl, rfl, ?_⟩
      have gw : ∀ j, j < 2220 → zup g1 100 5 1 101 j = g 102 j := fun j hj => by rw [zup_ne 101 (by decide), c3 j, if_pos (by omega)]
      have g5 : zup g1 100 5 1 100 5 = 1 := by rw [zup_eq, pk_us]
      have gk : ∀ k, k ≠ 5 → zup g1 100 5 1 100 k = g 100 k := fun k hk => by rw [zup_eq, pk_un hk, c2 100 (by decide)]
      have gc : ∀ c, c ≠ 100 → c ≠ 101 → zup g1 100 5 1 c = g c := fun c q1 q2 => by rw [zup_ne c q1, c2 c q2]
      obtain ⟨r1, ⟨n, m, n6, m6, p1, p2, p3, p4⟩, r3, r4, r5, r6⟩ := R
      have K : zCore h1 (zup g1 100 5 1) := by
        refine ⟨b3.w2 gw, Or.inr ⟨by rw [b2 0 (by omega)]; exact a1, g5, ?_⟩, ?_, ?_, ?_, m, m6, by rw [b2 22 (by omega)]; exact p3⟩
        · unfold rKept at *
          rw [gc 102 (by decide) (by decide), b2 50 (by omega), b2 51 (by omega), b2 52 (by omega), b2 53 (by omega), b2 54 (by omega), b2 55 (by omega), b2 56 (by omega), b2 57 (by omega), b2 58 (by omega), b2 59 (by omega), b2 60 (by omega), b2 61 (by omega), b2 62 (by omega), b2 63 (by omega), b2 64 (by omega), b2 65 (by omega), b2 66 (by omega), b2 67 (by omega), b2 69 (by omega)]
          exact a3
        · unfold rTape at *
          rw [b2 29 (by omega), b2 30 (by omega), gk 13 (by decide), gc 107 (by decide) (by decide)]
          exact r4
        · unfold rFlt at *
          rw [b2 29 (by omega), gk 20 (by decide), gk 22 (by decide)]
          exact r5
        · unfold rEve at *
          rw [b2 40 (by omega), b2 38 (by omega)]
          exact r6
      refine K.forget.cong (fun c _ => rfl) rfl rfl ⟨?_, ?_, ?_, ?_, ?_⟩ ?_ ?_ ?_ ?_
      · rw [zup_eq, pk_un (by decide), zup_eq, pk_us, zup_eq, pk_us]
      · rw [zup_eq, pk_us, zup_eq, pk_un (by decide), g5]
      · rw [zup_eq, pk_un (by decide), zup_eq, pk_un (by decide), zup_eq, pk_un (by decide), zup_eq, pk_un (by decide)]
      · rw [zup_eq, pk_un (by decide), zup_eq, pk_un (by decide), zup_eq, pk_un (by decide), zup_eq, pk_un (by decide)]
      · rw [zup_eq, pk_un (by decide), zup_eq, pk_un (by decide), zup_eq, pk_un (by decide), zup_eq, pk_un (by decide)]
      · rw [zup_ne 101 (by decide), zup_ne 101 (by decide), zup_ne 101 (by decide), zup_ne 101 (by decide)]
      · rw [zup_ne 102 (by decide), zup_ne 102 (by decide), zup_ne 102 (by decide), zup_ne 102 (by decide)]
      · rw [zup_ne 103 (by decide), zup_ne 103 (by decide), zup_ne 103 (by decide), zup_ne 103 (by decide)]
      · rw [zup_ne 107 (by decide), zup_ne 107 (by decide), zup_ne 107 (by decide), zup_ne 107 (by decide)]
  · unfold f_X11_image f_X12_image f_X12_image_13 f_X11_image_22
    rw [if_neg hx, if_neg hx]
    obtain ⟨h1, a1, a2, a3⟩ := q_lz5 h
    obtain ⟨h2, b1, b2, b3⟩ := q_cpT (R.1.same (fun c c1 c2 => a3 c c1 (by omega)))
    rw [a1, zbd_e, if_neg a2, b1, zbd_e]
    obtain ⟨g1, c1, c2, c3⟩ := q_imS x hx zN 0 g (by omega) (by unfold zN; omega)
    have c1 : f_X12_image_15 zN x 0 g = some (1, zup g1 100 5 1) := c1
    rw [c1]
    refine ⟨1, h2, _, rfl, rfl, ?_⟩
    have hc : ∀ c, 1 ≤ c → c < 50 → h2 c = h c := fun c q1 q2 => by rw [b2 c (by omega), a3 c q1 q2]
    have gk : ∀ k, k ≠ 5 → zup g1 100 5 1 100 k = g 100 k := fun k hk => by rw [zup_eq, pk_un hk, c2 100 (by decide)]
    have gc : ∀ c, c ≠ 100 → c ≠ 102 → zup g1 100 5 1 c = g c := fun c q1 q2 => by rw [zup_ne c q1, c2 c q2]
    obtain ⟨r1, r2, r3, r4, r5, r6⟩ := R
    refine ⟨?_, ?_, Or.inr ⟨by rw [b2 0 (by omega)]; exact a2, by rw [zup_eq, pk_us], b3.w2 (fun j hj => by rw [zup_ne 102 (by decide), c3 j, if_pos (by omega)])⟩, ?_, ?_, ?_⟩
    · rw [gc 101 (by decide) (by decide)]
      exact r1.same (fun c q1 q2 => hc c q1 (by omega))
    · unfold rPast at *
      rw [hc 22 (by decide) (by decide), hc 23 (by decide) (by decide), hc 24 (by decide) (by decide), hc 25 (by decide) (by decide), hc 26 (by decide) (by decide), hc 27 (by decide) (by decide), hc 28 (by decide) (by decide), hc 11 (by decide) (by decide), hc 12 (by decide) (by decide), hc 13 (by decide) (by decide), gc 103 (by decide) (by decide), gk 4 (by decide)]
      exact r2
    · unfold rTape at *
      rw [hc 29 (by decide) (by decide), hc 30 (by decide) (by decide), gk 13 (by decide), gc 107 (by decide) (by decide)]
      exact r4
    · unfold rFlt at *
      rw [hc 29 (by decide) (by decide), gk 20 (by decide), gk 22 (by decide)]
      exact r5
    · unfold rEve at *
      rw [hc 40 (by decide) (by decide), hc 38 (by decide) (by decide)]
      exact r6
