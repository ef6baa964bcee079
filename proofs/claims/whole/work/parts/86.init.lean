/-! at the beginning -/
theorem zz_c {h : zH} {d : Nat} (k : Nat) : zz h d d k = 0 := by unfold zz; rw [if_pos rfl]
theorem i_X4 (h : zH) : ∃ h', f_X4_init_t1 h = some (0, h') ∧ (∀ c, (c = 0 ∨ 21 < c) → h' c = h c) ∧ (∀ k, k ≠ 6 → h' 1 k = h 1 k) ∧ h' 1 6 = 2 ∧ h' 7 3 = 6 ∧ h' 7 4 = 0 ∧ (∀ s, s < 8 → h' 10 s = -1) ∧ ∀ c, (c = 2 ∨ (11 ≤ c ∧ c ≤ 18) ∨ c = 20) → ∀ k, h' c k = 0 := by
  unfold f_X4_init_t1 f_X3_init_t2 f_X9_init_t7 f_X0_init_t11 f_X5_init_t16
  simp only [zst_e, zbd_e]
  obtain ⟨h1, e1, e2, e3, e4, e5⟩ := q_layFor 6 (zz (zz (zz (zz (zz (zz (zz (zz (zz h 2) 3) 4) 5) 6) 7) 8) 9) 10)
  simp only [e1, zbd_e]
  refine ⟨_, rfl, fun c hc => ?_, fun k hk => ?_, ?_, ?_, ?_, fun s hs => ?_, fun c hc k => ?_⟩
  · have n : ∀ d, 1 ≤ d → d < 22 → c ≠ d := fun d _ _ => by omega
    have zn : ∀ (h : zH) (d : Nat), 1 ≤ d → d < 22 → zz h d c = h c := fun h d q1 q2 => zz_nc c (n d q1 q2)
    rw [zup_ne c (n 1 (by decide) (by decide)), zn _ 21 (by decide) (by decide), zn _ 20 (by decide) (by decide), zn _ 19 (by decide) (by decide), zn _ 18 (by decide) (by decide), zn _ 17 (by decide) (by decide), zn _ 16 (by decide) (by decide), zn _ 15 (by decide) (by decide), zn _ 14 (by decide) (by decide), zn _ 13 (by decide) (by decide), zn _ 12 (by decide) (by decide), zn _ 11 (by decide) (by decide), e2 c (n 7 (by decide) (by decide)) (n 9 (by decide) (by decide)) (n 10 (by decide) (by decide)), zn _ 10 (by decide) (by decide), zn _ 9 (by decide) (by decide), zn _ 8 (by decide) (by decide), zn _ 7 (by decide) (by decide), zn _ 6 (by decide) (by decide), zn _ 5 (by decide) (by decide), zn _ 4 (by decide) (by decide), zn _ 3 (by decide) (by decide), zn _ 2 (by decide) (by decide)]
  · rw [zup_eq, pk_un hk]
    simp (disch := decide) only [zz_nc, e2]
  · rw [zup_eq, pk_us]
  · simp (disch := decide) only [zup_ne, zz_nc, e3, pk_us]
  · simp (disch := decide) only [zup_ne, zz_nc, e3, pk_un, zz_c]
  · simp (disch := decide) only [zup_ne, zz_nc]
    exact e4 s hs
  · rcases hc with rfl | hc | rfl
    · simp (disch := decide) only [zup_ne, zz_nc, e2, zz_c]
    · have : c = 11 ∨ c = 12 ∨ c = 13 ∨ c = 14 ∨ c = 15 ∨ c = 16 ∨ c = 17 ∨ c = 18 := by omega
      rcases this with rfl | rfl | rfl | rfl | rfl | rfl | rfl | rfl <;> simp (disch := decide) only [zup_ne, zz_nc, zz_c]
    · simp (disch := decide) only [zup_ne, zz_nc, zz_c]
theorem i_X11 (h : zH) : ∃ h', f_X11_init_t0 h = some (0, h') ∧ (∀ c, (c = 0 ∨ 44 < c) → h' c = h c) ∧ (∀ k, k ≠ 6 → h' 1 k = 0) ∧ h' 1 6 = 2 ∧ h' 7 3 = 6 ∧ h' 7 4 = 0 ∧ (∀ s, s < 8 → h' 10 s = -1) ∧ (∀ c, (c = 2 ∨ (11 ≤ c ∧ c ≤ 18) ∨ c = 20 ∨ c = 22 ∨ c = 38 ∨ c = 40) → ∀ k, h' c k = 0) ∧ h' 29 7 = -1 ∧ ∀ k, k ≠ 7 → h' 29 k = 0 := by
  unfold f_X11_init_t0 f_X6_init_t22 f_X7_init_t29 f_X5_init_t34 f_X1_init_t38
  obtain ⟨h1, e1, e2, e3, e4, e5, e6, e7, e8⟩ := i_X4 (zz h 1)
  simp only [zst_e, e1, zbd_e]
  refine ⟨_, rfl, fun c hc => ?_, fun k hk => ?_, ?_, ?_, ?_, fun s hs => ?_, fun c hc k => ?_, ?_, fun k hk => ?_⟩
  · have n : ∀ d, 1 ≤ d → d < 45 → c ≠ d := fun d _ _ => by omega
    have zn : ∀ (h : zH) (d : Nat), 1 ≤ d → d < 45 → zz h d c = h c := fun h d q1 q2 => zz_nc c (n d q1 q2)
    rw [zn _ 44 (by decide) (by decide), zn _ 43 (by decide) (by decide), zn _ 42 (by decide) (by decide), zn _ 41 (by decide) (by decide), zn _ 40 (by decide) (by decide), zn _ 39 (by decide) (by decide), zn _ 38 (by decide) (by decide), zup_ne c (n 29 (by decide) (by decide)), zn _ 37 (by decide) (by decide), zn _ 36 (by decide) (by decide), zn _ 35 (by decide) (by decide), zn _ 34 (by decide) (by decide), zn _ 33 (by decide) (by decide), zn _ 32 (by decide) (by decide), zn _ 31 (by decide) (by decide), zn _ 30 (by decide) (by decide), zn _ 29 (by decide) (by decide), zn _ 28 (by decide) (by decide), zn _ 27 (by decide) (by decide), zn _ 26 (by decide) (by decide), zn _ 25 (by decide) (by decide), zn _ 24 (by decide) (by decide), zn _ 23 (by decide) (by decide), zn _ 22 (by decide) (by decide), e2 c (by omega), zn _ 1 (by decide) (by decide)]
  · simp (disch := decide) only [zup_ne, zz_nc]
    rw [e3 k hk, zz_c]
  · simp (disch := decide) only [zup_ne, zz_nc]
    exact e4
  · simp (disch := decide) only [zup_ne, zz_nc]
    exact e5
  · simp (disch := decide) only [zup_ne, zz_nc]
    exact e6
  · simp (disch := decide) only [zup_ne, zz_nc]
    exact e7 s hs
  · have : c = 2 ∨ c = 11 ∨ c = 12 ∨ c = 13 ∨ c = 14 ∨ c = 15 ∨ c = 16 ∨ c = 17 ∨ c = 18 ∨ c = 20 ∨ c = 22 ∨ c = 38 ∨ c = 40 := by omega
    rcases this with rfl | rfl | rfl | rfl | rfl | rfl | rfl | rfl | rfl | rfl | rfl | rfl | rfl <;> simp (disch := decide) only [zup_ne, zz_nc, zz_c] <;> exact e8 _ (by omega) k
  · simp (disch := decide) only [zup_eq, zz_nc, pk_us]
  · simp (disch := decide) only [zup_eq, zz_nc]
    rw [pk_un hk]
    simp (disch := decide) only [zz_nc, zz_c]
theorem q_initL : ∀ n i g, i ≤ 256 → 256 < n + i → ∃ g', f_X12_init_t100_L n (nI i) g = some (0, g') ∧ (∀ c, c ≠ 101 → g' c = g c) ∧ ∀ j, g' 101 j = if 466 + i ≤ j ∧ j < 722 then -1 else g 101 j := by
  intro n
  induction n with
  | zero => intro i g h1 h2; omega
  | succ n ih =>
    intro i g h1 h2
    simp only [f_X12_init_t100_L]
    by_cases hi : i = 256
    · subst hi
      rw [if_pos (by decide)]
      exact ⟨g, rfl, fun c _ => rfl, fun j => by rw [if_neg (by omega)]⟩
    rw [if_neg (show ¬ (256 : Int32) ≤ nI i by rw [l_256, n_le (by omega) (by omega)]; omega), show (466 : Int32) + nI i = nI (466 + i) from n_add 466 i, zck_n (by omega) (by decide), n_cl (by omega), zst_e, zlt_e, nI_1]
    obtain ⟨g', e1, e2, e3⟩ := ih (i + 1) (zup g 101 (466 + i) (-1)) (by omega) (by omega)
    refine ⟨g', e1, fun c hc => by rw [e2 c hc, zup_ne c hc], fun j => ?_⟩
    rw [e3 j, zup_eq]
    by_cases c : j = 466 + i
    · subst c; rw [if_neg (by omega), pk_us, if_pos (by omega)]
    · rw [pk_un c]
      by_cases d : 466 + (i + 1) ≤ j ∧ j < 722
      · rw [if_pos d, if_pos (by omega)]
      · rw [if_neg d, if_neg (by omega)]
theorem i_X12 (h : zH) : ∃ g', f_X12_init_t100 (zz h 100) = some (0, g') ∧ (∀ c, c < 100 → g' c = h c) ∧ (∀ k, k ≠ 22 → g' 100 k = 0) ∧ g' 100 22 = -1 ∧ g' 101 0 = 6 ∧ g' 101 1 = 2 ∧ (∀ j, 2 ≤ j → (j < 466 ∨ 722 ≤ j) → g' 101 j = 0) ∧ ∀ j, 466 ≤ j → j < 722 → g' 101 j = -1 := by
  unfold f_X12_init_t100
  simp only [zst_e]
  generalize hX : zup (zup (zz (zz (zz (zz (zz (zz (zz (zz (zup (zz (zz (zz (zz (zz (zz (zz (zz (zz (zz h 100) 101) 102) 103) 104) 105) 106) 107) 108) 109) 100 22 (-1)) 110) 111) 112) 113) 114) 115) 116) 117) 101 0 6) 101 1 2 = X
  obtain ⟨g', e1, e2, e3⟩ := q_initL zN 0 X (by omega) (by unfold zN; omega)
  have xw : ∀ j, 2 ≤ j → X 101 j = 0 := fun j hj => by
    rw [← hX, zup_eq, pk_un (by omega), zup_eq, pk_un (by omega)]
    simp (disch := decide) only [zup_ne, zz_nc, zz_c]
  refine ⟨g', e1, fun c hc => ?_, fun k hk => ?_, ?_, ?_, ?_, fun j j1 j2 => ?_, fun j j1 j2 => ?_⟩
  · have n : ∀ d, 100 ≤ d → c ≠ d := fun d _ => by omega
    have zn : ∀ (h : zH) (d : Nat), 100 ≤ d → zz h d c = h c := fun h d q1 => zz_nc c (n d q1)
    rw [e2 c (by omega), ← hX, zup_ne c (n 101 (by decide)), zup_ne c (n 101 (by decide)), zn _ 117 (by decide), zn _ 116 (by decide), zn _ 115 (by decide), zn _ 114 (by decide), zn _ 113 (by decide), zn _ 112 (by decide), zn _ 111 (by decide), zn _ 110 (by decide), zup_ne c (n 100 (by decide)), zn _ 109 (by decide), zn _ 108 (by decide), zn _ 107 (by decide), zn _ 106 (by decide), zn _ 105 (by decide), zn _ 104 (by decide), zn _ 103 (by decide), zn _ 102 (by decide), zn _ 101 (by decide), zn _ 100 (by decide)]
  · rw [e2 100 (by decide), ← hX]
    simp (disch := decide) only [zup_ne, zz_nc, zup_eq]
    rw [pk_un hk]
    simp (disch := decide) only [zz_nc, zz_c]
  · rw [e2 100 (by decide), ← hX]
    simp (disch := decide) only [zup_ne, zz_nc, zup_eq, pk_us]
  · rw [e3, if_neg (by omega), ← hX, zup_eq, pk_un (by decide), zup_eq, pk_us]
  · rw [e3, if_neg (by omega), ← hX, zup_eq, pk_us]
  · rw [e3, if_neg (by omega), xw j j1]
  · rw [e3, if_pos (by omega)]
theorem zInit_ok : zInit zRel := by
  obtain ⟨h1, a1, a2, a3, a4, a5, a6, a7, a8, a9, a10⟩ := i_X11 (zz zH0 0)
  obtain ⟨g, b1, b2, b3, b4, b5, b6, b7, b8⟩ := i_X12 h1
  refine ⟨(0, h1), (0, g), a1, b1, ?_, fun k => ?_⟩
  · have z : ∀ c, (c = 2 ∨ (11 ≤ c ∧ c ≤ 18) ∨ c = 20 ∨ c = 22 ∨ c = 38 ∨ c = 40) → ∀ k, g c k = 0 := fun c hc k => by rw [b2 c (by omega)]; exact a8 c hc k
    show zRel g g
    refine ⟨⟨?_, ?_, ?_, ?_, ?_⟩, ?_, Or.inl ⟨?_, b3 5 (by decide)⟩, ?_, ?_, ?_⟩
    · refine ⟨6, 0, by rw [b2 7 (by decide)]; exact a5, b5, by omega, by omega, by rw [b2 7 (by decide)]; exact a6, b7 4 (by omega) (by omega), by omega, fun i hi => by omega, fun s hs => Or.inl ?_⟩
      rw [b2 10 (by decide)]; exact a7 s (by omega)
    · exact ⟨0, by omega, z 2 (by omega) 4, b7 3 (by omega) (by omega), fun i hi => by omega⟩
    · refine ⟨0, 0, by omega, by omega, z 11 (by omega) 4, b7 6 (by omega) (by omega), z 11 (by omega) 5, b7 5 (by omega) (by omega), fun i hi => by rw [z 14 (by omega), b7 _ (by omega) (by omega)], fun i hi => by omega, fun p hp => ⟨0, by omega, z 12 (by omega) p, b7 _ (by omega) (by omega), Or.inl ⟨rfl, b8 _ (by omega) (by omega)⟩⟩⟩
    · refine ⟨0, [], by omega, by decide, z 16 (by omega) 3, z 16 (by omega) 4, b7 1335 (by omega) (by omega), fun F y => rfl, fun i x hx => ?_⟩
      cases hx
    · refine ⟨⟨2, by omega, by omega, by rw [b2 1 (by decide)]; exact a4, b6⟩, ⟨0, by omega, by rw [b2 1 (by decide)]; exact a3 7 (by decide), b7 2 (by omega) (by omega)⟩, by rw [b2 1 (by decide), a3 8 (by decide), b7 7 (by omega) (by omega)], fun f hf => by rw [z 20 (by omega), b7 _ (by omega) (by omega)]⟩
    · exact ⟨0, 0, by omega, by omega, z 22 (by omega) 7, b3 4 (by decide), z 22 (by omega) 6, trivial⟩
    · rw [b2 0 (by decide), a2 0 (by omega), zz_c]
    · exact ⟨0, by omega, by rw [b2 29 (by decide)]; exact a10 5 (by decide), b3 13 (by decide), fun i hi => by omega⟩
    · refine ⟨?_, ?_⟩
      · rw [b2 29 (by decide), a10 6 (by decide), b3 20 (by decide)]
      · rw [b2 29 (by decide), a9, b4]
    · exact ⟨fun p _ => z 40 (by omega) p, z 38 (by omega) 6⟩
  · show g 0 k = 0
    rw [b2 0 (by decide), a2 0 (by omega), zz_c]
