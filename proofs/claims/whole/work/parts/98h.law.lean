/-! the law -/
theorem cp_X5d {h : zH} {bl : Nat} (hb : bl ≤ 400) (hB : h 34 3 = nI bl) : ∃ h', f_X5_copyFrom_r34 h = some (0, h') ∧ (∀ c, c ≠ 16 → c ≠ 17 → c ≠ 18 → h' c = h c) ∧ h' 16 3 = h 34 3 ∧ h' 16 4 = h 34 4 ∧ (∀ j, j < bl → h' 17 j = h 35 j) ∧ (∀ j, j < bl → h' 18 j = h 36 j) := by
  unfold f_X5_copyFrom_r34
  simp only [zst_e]
  simp (disch := decide) only [zcp_ne]
  rw [hB]
  have zv : ∀ K, zcc 400 400 (0 : Int32) (0 : Int32) (nI bl) K = K := fun K => zcc_n (n0 := 400) (n1 := 400) (a := 0) (b := 0) (c := bl) (by omega) (by omega) (by decide) (by decide)
  rw [zv, zv]
  refine ⟨_, rfl, fun c q16 q17 q18 => ?_, ?_, ?_, ?_, ?_⟩
  · simp (disch := assumption) only [zup_ne, zcp_ne]
  · simp (disch := decide) only [zup_ne, zcp_ne, zup_eq, pk_us, pk_un]
    try exact hB.symm
    try rfl
  · simp (disch := decide) only [zup_ne, zcp_ne, zup_eq, pk_us, pk_un]
  · intro j hj
    simp (disch := decide) only [zup_ne, zcp_ne]
    rw [zcpA (by omega), if_pos hj]
    try simp (disch := decide) only [zup_ne, zcp_ne]
  · intro j hj
    simp (disch := decide) only [zup_ne, zcp_ne]
    rw [zcpA (by omega), if_pos hj]
    try simp (disch := decide) only [zup_ne, zcp_ne]
theorem psM.l11 {X : zTx} {i y : Nat} {g : zH} (P : psM X i y g) (x : Int32) : psM X i y (zup g 100 11 x) := by
  obtain ⟨p1, p2, p3⟩ := P
  have fj : ∀ j, j ≠ 11 → zup g 100 11 x 100 j = g 100 j := fun j hj => by rw [zup_eq, pk_un hj]
  exact ⟨⟨by rw [fj 13 (by decide)]; exact p1.1, fun k hk => by rw [zup_ne 107 (by decide)]; exact p1.2 k hk⟩, ⟨by rw [fj 15 (by decide)]; exact p2.1, by rw [fj 16 (by decide)]; exact p2.2.1, by rw [fj 14 (by decide)]; exact p2.2.2.1, fun z => by rw [fj 17 (by decide)]; exact p2.2.2.2 z⟩, by rw [fj 12 (by decide)]; exact p3⟩
theorem g11Q (g : zH) (x : Int32) : gQ g (zup g 100 11 x) := ⟨fun c q1 _ _ => zup_ne c q1, fun j hj => by rw [zup_eq, pk_un (by omega)]⟩
theorem t26_e (m : Nat) (x : Int32) (g : zH) : f_X12_text_26 (m + 1) x g = (if x = 0 then (f_X12_text_63 x g) else (if (g 100 15) = 0 then (f_X12_text_63 x g) else (zbd (f_X12_aLine g) fun r17 h18 => (if r17 = 0 then (f_X12_text_56 (f_X12_text_26 m) r17 (0 : Int32) (h18 100 11) h18) else (f_X12_text_56 (f_X12_text_26 m) r17 (1 : Int32) (h18 100 11) h18))))) := rfl
theorem L_law {X : zTx} (T : TX X) : ∀ n m i z y ls h g, psC X i z h → psM X i y g → z ≤ i → y ≤ z → ls.length ≤ 16 → h 34 4 = nI ls.length → g 100 11 = nI ls.length → lwC (h 35) (h 36) z ls → (∀ k x, ls[k]? = some x → mLs (g 106) (g 105) y k x) → 17 < n + ls.length → 17 < m + ls.length → (∃ (z' y' : Nat) (ls' : List zLn) (h' g' : zH), f_X7_readLaw_38 n (nI ls.length) h = some (1, h') ∧ f_X12_text_26 m 1 g = f_X12_text_63 1 g' ∧ ls'.length ≤ 16 ∧ z' ≤ 400 ∧ y' ≤ 400 ∧ h' 34 3 = nI z' ∧ h' 34 4 = nI ls'.length ∧ h' 29 6 = 0 ∧ h' 29 7 = h 29 7 ∧ lwC (h' 35) (h' 36) z' ls' ∧ (∀ k x, ls'[k]? = some x → mLs (g' 106) (g' 105) y' k x) ∧ g' 100 11 = nI ls'.length ∧ g' 100 12 = nI y' ∧ g' 100 18 = g 100 18 ∧ pL h h' ∧ gQ g g') ∨ (∃ h' g', f_X7_readLaw_38 n (nI ls.length) h = some (0, h') ∧ f_X12_text_26 m 1 g = f_X12_text_63 0 g' ∧ FLl h g h' g') := by
  have hN : X.N ≤ 400 := by have := T.1; have := T.2.1; omega
  intro n
  induction n with
  | zero => intro m i z y ls h g _ _ _ _ h1 _ _ _ _ h2; omega
  | succ n ih =>
    intro m i z y ls h g Pc Pm hz hy hl h4 g11 W M h1 h2
    have hi := Pc.1
    obtain ⟨m, rfl⟩ : ∃ q, m = q + 1 := ⟨m - 1, by omega⟩
    obtain ⟨m, rfl⟩ : ∃ q, m = q + 1 := ⟨m - 1, by omega⟩
    obtain ⟨-, -, -, t0⟩ := ln_t (X.kd i) (by have := T.k24 hi; omega)
    have i10 : ¬ (1 : Int32) = 0 := by decide
    have e26 : f_X12_text_26 (m + 1 + 1) 1 g = if X.kd i = 0 then f_X12_text_63 1 g else (zbd (f_X12_aLine g) fun r17 h18 => (if r17 = 0 then (f_X12_text_56 (f_X12_text_26 (m + 1)) r17 (0 : Int32) (h18 100 11) h18) else (f_X12_text_56 (f_X12_text_26 (m + 1)) r17 (1 : Int32) (h18 100 11) h18))) := by
      rw [t26_e, if_neg i10, Pm.2.1.1]
      by_cases c : X.kd i = 0
      · rw [if_pos (t0.mpr c), if_pos c]
      · rw [if_neg (fun q => c (t0.mp q)), if_neg c]
    have e38 : f_X7_readLaw_38 (n + 1) (nI ls.length) h = if X.kd i = 0 then some (1, h) else (zbd (f_X7_readLine h) fun r9 h10 => (f_X7_readLaw_38 n (nI (ls.length + 1)) h10)) := by
      simp only [f_X7_readLaw_38, f_X7_readLaw_69, Pc.2.2.2.2.1, Pc.2.2.2.2.2.1, zlt_e, nI_1, if_true]
      rw [if_neg (show ¬ (400 : Int32) < nI ls.length by rw [l_400, n_lt (by omega) (by omega)]; omega)]
      by_cases c : X.kd i = 0
      · rw [if_pos (show nI (X.kd i) = 0 by rw [c]; rfl), if_pos c]
      · rw [if_neg (show ¬ nI (X.kd i) = 0 by rw [n_eq0 (by have := T.k24 hi; omega)]; exact c), if_neg c]
    rw [e26, e38]
    by_cases c : X.kd i = 0
    · rw [if_pos c, if_pos c]
      exact Or.inl ⟨z, y, ls, h, g, rfl, rfl, hl, by omega, by omega, Pc.2.2.2.2.2.2, h4, Pc.2.2.2.2.2.1, rfl, W, M, g11, Pm.2.2, rfl, pL.refl h, gQ.refl g⟩
    rw [if_neg c, if_neg c]
    rcases L_line T Pc Pm hz hy hl h4 g11 W M with ⟨i', z', y', x, h', g', q1, q2, q3, q4, q5, q6, q7, q8, q9, q10, q11, q12, q13, q14, q15, q16⟩ | ⟨h', g', q1, q2, q3, q4⟩
    · rw [q1, zbd_e, q2, zbd_e, if_neg i10]
      unfold f_X12_text_56
      rw [q10, nI_1, zst_e]
      have el : (ls ++ [x]).length = ls.length + 1 := by rw [List.length_append]; rfl
      rcases ih (m + 1) i' z' y' (ls ++ [x]) h' (zup g' 100 11 (nI (ls.length + 1))) q3 (q4.l11 _) q6 q7 q8 q9 (by rw [zup_eq, pk_us, el]) q11 (by rw [zup_ne 106 (by decide), zup_ne 105 (by decide)]; exact q12) (by rw [el]; omega) (by rw [el]; omega) with ⟨z2, y2, ls2, h2, g2, r1, r2, r3, r4, r5, r6, r7, r8, r9, r10, r11, r12, r13, r14, r15, r16⟩ | ⟨h2, g2, r1, r2, r3⟩
      · rw [el] at r1
        exact Or.inl ⟨z2, y2, ls2, h2, g2, r1, r2, r3, r4, r5, r6, r7, r8, by rw [r9, q13], r10, r11, r12, r13, by rw [r14, zup_eq, pk_un (by decide), q14], q15.trans r15, q16.trans ((g11Q _ _).trans r16)⟩
      · rw [el] at r1
        obtain ⟨f, p, f1, f2, f3, f4, f5⟩ := r3
        exact Or.inr ⟨h2, g2, r1, r2, ⟨f, p, f1, f2, f3, q15.trans f4, q16.trans ((g11Q _ _).trans f5)⟩⟩
    · obtain ⟨f, p, f1, f2, f3, f4, f5⟩ := q3
      obtain ⟨n, rfl⟩ : ∃ q, n = q + 1 := ⟨n - 1, by omega⟩
      rw [q1, zbd_e, q2, zbd_e, if_pos rfl]
      unfold f_X12_text_56
      rw [zst_e, t26_e, if_pos rfl]
      have e : f_X7_readLaw_38 (n + 1) (nI (ls.length + 1)) h' = some (0, h') := by
        have nz : ¬ nI f = 0 := by rw [n_eq0 (by have := f1.2.1; omega)]; have := f1.1; omega
        simp only [f_X7_readLaw_38, f_X7_readLaw_69, f1.2.2.2.2.1, f1.2.2.1, if_neg nz, ite_self]
      rw [e]
      exact Or.inr ⟨h', _, rfl, rfl, ⟨f, p, f1, by rw [zup_eq, pk_un (by decide)]; exact f2, by rw [zup_eq, pk_un (by decide)]; exact f3, f4, f5.trans (g11Q _ _)⟩⟩
/-- the reference copies its law -/
theorem q_t112 {ln : Nat} (hl : ln ≤ 16) : ∀ n k g, g 100 11 = nI ln → k ≤ ln → ln < n + k → ∃ g', f_X12_text_112 n (nI k) g = f_X12_text_186 zN 0 g' ∧ (∀ c, c ≠ 101 → g' c = g c) ∧ (∀ q, k ≤ q → q < ln → g' 101 (1340 + q) = g 105 (3 * q) ∧ g' 101 (1360 + q) = g 105 (3 * q + 1) ∧ g' 101 (1380 + q) = g 105 (3 * q + 2)) ∧ ∀ j, (∀ q, k ≤ q → q < ln → j ≠ 1340 + q ∧ j ≠ 1360 + q ∧ j ≠ 1380 + q) → g' 101 j = g 101 j := by
  intro n
  induction n with
  | zero => intro k g _ h1 h2; omega
  | succ n ih =>
    intro k g h11 h1 h2
    simp only [f_X12_text_112, h11]
    by_cases hk : k = ln
    · subst hk
      rw [if_pos (Int32.le_refl _)]
      exact ⟨g, rfl, fun c _ => rfl, fun q q1 q2 => by omega, fun j _ => rfl⟩
    have z105 : ∀ (g : zH) q x, zup g 101 q x 105 = g 105 := fun g q x => zup_ne 105 (by decide)
    rw [if_neg (by rw [n_le (by omega) (by omega)]; omega)]
    simp (disch := omega) only [l_1, l_2, l_3, show (1340 : Int32) = nI 1340 from rfl, show (1360 : Int32) = nI 1360 from rfl, show (1380 : Int32) = nI 1380 from rfl, n_mul, n_add, zck_n, n_cl, zst_e, zlt_e, z105]
    generalize hX : zup (zup (zup g 101 (1340 + k) (g 105 (3 * k))) 101 (1360 + k) (g 105 (3 * k + 1))) 101 (1380 + k) (g 105 (3 * k + 2)) = X
    have xc : ∀ c, c ≠ 101 → X c = g c := fun c hc => by rw [← hX, zup_ne c hc, zup_ne c hc, zup_ne c hc]
    have x1 : X 101 (1340 + k) = g 105 (3 * k) := by rw [← hX, zup_eq, pk_un (by omega), zup_eq, pk_un (by omega), zup_eq, pk_us]
    have x2 : X 101 (1360 + k) = g 105 (3 * k + 1) := by rw [← hX, zup_eq, pk_un (by omega), zup_eq, pk_us]
    have x3 : X 101 (1380 + k) = g 105 (3 * k + 2) := by rw [← hX, zup_eq, pk_us]
    have xn : ∀ j, j ≠ 1340 + k → j ≠ 1360 + k → j ≠ 1380 + k → X 101 j = g 101 j := fun j j1 j2 j3 => by rw [← hX, zup_eq, pk_un j3, zup_eq, pk_un j2, zup_eq, pk_un j1]
    obtain ⟨g', e1, e2, e3, e4⟩ := ih (k + 1) X (by rw [xc 100 (by decide)]; exact h11) (by omega) (by omega)
    refine ⟨g', e1, fun c hc => by rw [e2 c hc, xc c hc], fun q q1 q2 => ?_, fun j hj => ?_⟩
    · by_cases c : q = k
      · subst c
        rw [e4 _ (fun q q1 q2 => by omega), e4 _ (fun q q1 q2 => by omega), e4 _ (fun q q1 q2 => by omega)]
        exact ⟨x1, x2, x3⟩
      · have := e3 q (by omega) q2
        rw [xc 105 (by decide)] at this
        exact this
    · rw [e4 j (fun q q1 q2 => hj q (by omega) q2)]
      obtain ⟨j1, j2, j3⟩ := hj k (by omega) (by omega)
      exact xn j j1 j2 j3
theorem q_t186 {y : Nat} (hy : y ≤ 400) : ∀ n k g, g 100 12 = nI y → k ≤ 2 * y → 2 * y < n + k → ∃ g', f_X12_text_186 n (nI k) g = some (g 100 11, g') ∧ (∀ c, c ≠ 101 → g' c = g c) ∧ ∀ j, g' 101 j = if 1400 + k ≤ j ∧ j < 1400 + 2 * y then g 106 (j - 1400) else g 101 j := by
  intro n
  induction n with
  | zero => intro k g _ h1 h2; omega
  | succ n ih =>
    intro k g h12 h1 h2
    simp only [f_X12_text_186, h12]
    rw [show (2 : Int32) * nI y = nI (2 * y) from n_mul 2 y]
    by_cases hk : k = 2 * y
    · subst hk
      rw [if_pos (Int32.le_refl _)]
      exact ⟨g, rfl, fun c _ => rfl, fun j => by rw [if_neg (by omega)]⟩
    rw [if_neg (by rw [n_le (by omega) (by omega)]; omega), zck_n (by omega) (by decide), n_cl (by omega), show (1400 : Int32) + nI k = nI (1400 + k) from n_add 1400 k, zck_n (by omega) (by decide), n_cl (by omega), zst_e, zlt_e, nI_1]
    obtain ⟨g', e1, e2, e3⟩ := ih (k + 1) (zup g 101 (1400 + k) (g 106 k)) (by rw [zup_ne 100 (by decide)]; exact h12) (by omega) (by omega)
    refine ⟨g', by rw [e1, zup_ne 100 (by decide)], fun c hc => by rw [e2 c hc, zup_ne c hc], fun j => ?_⟩
    rw [e3 j, zup_ne 106 (by decide), zup_eq]
    by_cases c : j = 1400 + k
    · subst c
      rw [if_neg (by omega), pk_us, if_pos (by omega), Nat.add_sub_cancel_left]
    · rw [pk_un c]
      by_cases d : 1400 + (k + 1) ≤ j ∧ j < 1400 + 2 * y
      · rw [if_pos d, if_pos (by omega)]
      · rw [if_neg d, if_neg (by omega)]
