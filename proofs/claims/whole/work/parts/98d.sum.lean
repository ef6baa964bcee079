/-! sums -/
theorem L_product {X : zTx} {i z y : Nat} {h g : zH} (T : TX X) (k6 : Int32 → Int32 → Int32 → zH → zR) (w x3 : Int32) (Pc : psC X i z h) (Pm : psM X i y g) (hz : z ≤ i) (hy : y ≤ z) : (∃ i' z' y' v' h' g', (zbd (f_X7_readUnit (1 : Int32) h) fun r1 h2 => (f_X7_readSum_25 k6 zN w x3 (0 : Int32) h2)) = f_X7_readSum_73 k6 w x3 h' ∧ f_X12_product g = some (1, g') ∧ psC X i' z' h' ∧ psM X i' y' g' ∧ sg (h' 35) (h' 36) (g' 106) 3 z z' y y' v' ∧ i < i' ∧ z' + i ≤ z + i' ∧ y' ≤ z' ∧ z ≤ z' ∧ y ≤ y' ∧ okF z y h g h' g') ∨ (∃ h' g', (zbd (f_X7_readUnit (1 : Int32) h) fun r1 h2 => (f_X7_readSum_25 k6 zN w x3 (0 : Int32) h2)) = f_X7_readSum_73 k6 w x3 h' ∧ f_X12_product g = some (0, g') ∧ FL h g h' g') := by
  have hN : X.N ≤ 400 := by have := T.1; have := T.2.1; omega
  unfold f_X12_product
  rcases L_unit T Pc Pm hz hy with ⟨u, h2, g2, c1, c2, c3, c4, c5, c6, c7, c8⟩ | ⟨h2, g2, c1, c2, c3⟩
  · obtain ⟨h4, e1, e2, e3, e4, e5, e6, e7⟩ := c_129 c5 c2 hN
    rw [c1 1 (by decide), c3, zbd_e, if_neg (show ¬ (1 : Int32) = 18 by decide), e1, zbd_e, c4, zbd_e, if_neg (show ¬ (1 : Int32) = 0 by decide)]
    have S1 : sg (h4 35) (h4 36) (g2 106) 3 z (z + 1) y (y + 1) u := (c7.ext (fun k hk => by rw [e6, e7]; exact ⟨rfl, rfl⟩) (fun k hk => rfl)).mono (by omega)
    have F4 : okF z y h g h4 g2 := ⟨c8.1.trans e3, by rw [e4, c8.2.1], c8.2.2.1, c8.2.2.2.1, c8.2.2.2.2.1, fun k hk => by rw [e6, e7]; exact c8.2.2.2.2.2.1 k hk, c8.2.2.2.2.2.2⟩
    rcases L_prod T k6 w x3 zN zN (i + 1) (z + 1) (y + 1) 0 h4 g2 u e2 c6 S1 (by omega) (by omega) (by omega) (by unfold zN; omega) (by unfold zN; omega) with ⟨i', z', y', v', h', g', q1, q2, q3, q4, q5, q6, q7, q8, q9, q10, q11⟩ | ⟨h', g', q1, q2, q3⟩
    · exact Or.inl ⟨i', z', y', v', h', g', q1, q2, q3, q4, q5, by omega, by omega, q8, by omega, by omega, F4.trans q11 (by omega) (by omega)⟩
    · exact Or.inr ⟨h', g', q1, q2, q3.pre F4.1 F4.2.2.1⟩
  · rw [c1 1 (by decide), zbd_e, c2, zbd_e, if_pos rfl]
    have c3' := c3
    obtain ⟨f, p, f1, -⟩ := c3'
    have e := d_25 f1 k6 4095 w x3 0
    exact Or.inr ⟨h2, g2, e, rfl, c3⟩
theorem L_s94 {X : zTx} {z0 y0 : Nat} (T : TX X) : ∀ n m i z y x3 h g v, psC X i z h → psM X i y g → sg (h 35) (h 36) (g 106) 4 z0 z y0 y v → z ≤ i → y ≤ z → 2 * x3 ≤ i → X.N < n + i → X.N < m + i → (∃ i' z' y' v' h' g', f_X7_readSum_94 (f_X7_readSum_6 n) (nI x3) h = some (0, h') ∧ f_X12_sumUp_9 m g = some (1, g') ∧ psC X i' z' h' ∧ psM X i' y' g' ∧ sg (h' 35) (h' 36) (g' 106) 4 z0 z' y0 y' v' ∧ i ≤ i' ∧ z' + i ≤ z + i' ∧ y' ≤ z' ∧ z ≤ z' ∧ y ≤ y' ∧ okF z y h g h' g') ∨ (∃ h' g', f_X7_readSum_94 (f_X7_readSum_6 n) (nI x3) h = some (0, h') ∧ f_X12_sumUp_9 m g = some (0, g') ∧ FL h g h' g') := by
  have hN : X.N ≤ 400 := by have := T.1; have := T.2.1; omega
  intro n
  induction n with
  | zero => intro m i z y x3 h g v Pc _ _ _ _ _ h1; have := Pc.1; omega
  | succ n ih =>
    intro m i z y x3 h g v Pc Pm S hz hy hx h1 h2
    have hi := Pc.1
    obtain ⟨m, rfl⟩ : ∃ q, m = q + 1 := ⟨m - 1, by omega⟩
    have k24 := T.k24 hi
    obtain ⟨-, -, t3, t4⟩ := pd_t (X.kd i) (by omega)
    by_cases cc : X.kd i = 16 ∨ X.kd i = 17
    · have hiN : i < X.N := T.lt hi (by omega)
      obtain ⟨h1', a1, a2, a3, a4, a5, a6, a7⟩ := c_step Pc hiN hN
      obtain ⟨g1, b1, b2, b3⟩ := m_next T Pm hiN
      have w16 : nI (X.kd i) = 16 ∨ nI (X.kd i) = 17 := by
        rcases cc with c | c
        · left; rw [c]; rfl
        · right; rw [c]; rfl
      have eC : f_X7_readSum_94 (f_X7_readSum_6 (n + 1)) (nI x3) h = (zbd (f_X7_readUnit (1 : Int32) h1') fun r1 h2 => (f_X7_readSum_25 (f_X7_readSum_6 n) zN (nI (X.kd i)) (nI (x3 + 1)) (0 : Int32) h2)) := by
        have e6 : ∀ w hh, f_X7_readSum_6 (n + 1) 1 w (nI (x3 + 1)) hh = (zbd (f_X7_readUnit (1 : Int32) hh) fun r1 h2 => (f_X7_readSum_25 (f_X7_readSum_6 n) zN w (nI (x3 + 1)) (0 : Int32) h2)) := by
          intro w hh
          simp only [f_X7_readSum_6]
          rw [if_neg (show ¬ (400 : Int32) ≤ nI (x3 + 1) by rw [l_400, n_le (by omega) (by omega)]; omega), if_neg (show ¬ (1 : Int32) = 0 by decide)]
        unfold f_X7_readSum_94 f_X7_readSum_117 f_X7_readSum_122 f_X7_readSum_131
        simp only [Pc.2.2.2.2.1, zlt_e, c10, if_false, a1, zbd_e, nI_1, e6]
        rcases w16 with c | c
        · rw [if_pos c]
        · rw [if_neg (by rw [c]; decide), if_pos c]
      have sM : ∃ s0 : Int32, f_X12_sumUp_9 (m + 1) g = (zbd (f_X12_product g1) fun r5 h6 => (if r5 = 0 then (some ((0 : Int32), h6)) else (zbd (f_X12_lay s0 (0 : Int32) h6) fun r7 h8 => (f_X12_sumUp_9 m h8)))) ∧ ((X.kd i = 16 ∧ s0 = 13) ∨ (X.kd i = 17 ∧ s0 = 14)) := by
        simp only [f_X12_sumUp_9, f_X12_sumUp_29, f_X12_sumUp_46, Pm.2.1.1]
        rcases cc with c | c
        · refine ⟨13, ?_, Or.inl ⟨c, rfl⟩⟩
          rw [if_pos (t3.mpr c), if_pos (t3.mpr c), b1, zbd_e]
        · refine ⟨14, ?_, Or.inr ⟨c, rfl⟩⟩
          rw [if_neg (fun q => by have := t3.mp q; omega), if_pos (t4.mpr c), if_neg (fun q => by have := t3.mp q; omega), b1, zbd_e]
      obtain ⟨s0, eM, hs0⟩ := sM
      rw [eC, eM]
      have F1 : okF z y h g h1' g1 := ⟨a3, a4, b3.gP, b3.2 18 (by omega), b3.2 21 (by omega), fun k _ => by rw [a6, a7]; exact ⟨rfl, rfl⟩, fun k _ => by rw [b3.1 106 (by decide)]⟩
      rcases L_product T (f_X7_readSum_6 n) (nI (X.kd i)) (nI (x3 + 1)) a2 b2 (by omega) hy with ⟨i2, z2, y2, u, h2', g2, c1, c2, c3, c4, c5, c6, c7, c8, c9, c10', c11⟩ | ⟨h2', g2, c1, c2, c3⟩
      · obtain ⟨h3', d1, d2, d3, d4, d5, d6⟩ := c_add c3 (nI (X.kd i)) 0 (by have := c3.1; omega)
        obtain ⟨g3, f1, f2, f3, f4, f5⟩ := m_lay c4 s0 0 (by have := c3.1; omega)
        have e73 : f_X7_readSum_73 (f_X7_readSum_6 n) (nI (X.kd i)) (nI (x3 + 1)) h2' = f_X7_readSum_94 (f_X7_readSum_6 n) (nI (x3 + 1)) h3' := by
          unfold f_X7_readSum_73 f_X7_readSum_85
          rw [d1, zbd_e]
          rcases w16 with c | c
          · rw [if_pos c]
          · rw [if_neg (by rw [c]; decide), if_pos c]
        rw [c1, e73, c2, zbd_e, if_neg (show ¬ (1 : Int32) = 0 by decide), f1, zbd_e]
        have S1 : ∃ v', sg (h3' 35) (h3' 36) (g3 106) 4 z0 (z2 + 1) y0 (y2 + 1) v' := by
          have A : sg (h3' 35) (h3' 36) (g3 106) 4 z0 z y0 y v := S.ext (fun k hk => by rw [d5, d6, upd_lt (by omega), upd_lt (by omega), (c11.2.2.2.2.2.1 k hk).1, (c11.2.2.2.2.2.1 k hk).2, a6, a7]; exact ⟨rfl, rfl⟩) (fun k hk => by rw [f5, pk_un (by omega), pk_un (by omega), c11.2.2.2.2.2.2 k hk, b3.1 106 (by decide)])
          have B : sg (h3' 35) (h3' 36) (g3 106) 3 z z2 y y2 u := c5.ext (fun k hk => by rw [d5, d6, upd_lt hk, upd_lt hk]; exact ⟨rfl, rfl⟩) (fun k hk => by rw [f5, pk_un (by omega), pk_un (by omega)])
          have s1 : h3' 35 z2 = nI (X.kd i) := by rw [d5, pk_us]
          have s2 : g3 106 (2 * y2) = s0 := by rw [f5, pk_un (by omega), pk_us]
          rcases hs0 with ⟨k16, rfl⟩ | ⟨k17, rfl⟩
          · exact ⟨_, sg_bin (op := fun a b => a + b) A B (s := 16) (s' := 13) (by rw [s1, k16]; rfl) s2 (by decide) (by decide) (fun a b => rfl) (fun a b => rfl) (by omega) (by omega) (by omega)⟩
          · exact ⟨_, sg_bin (op := fun a b => a - b) A B (s := 17) (s' := 14) (by rw [s1, k17]; rfl) s2 (by decide) (by decide) (fun a b => rfl) (fun a b => rfl) (by omega) (by omega) (by omega)⟩
        obtain ⟨v', S1⟩ := S1
        have F4 : okF z y h g h3' g3 := by
          refine ⟨a3.trans (c11.1.trans d3), by rw [d4, c11.2.1, a4], b3.gP.trans (c11.2.2.1.trans ⟨f3, fun j hj => f4 j (by omega)⟩), by rw [f4 18 (by decide), c11.2.2.2.1, b3.2 18 (by omega)], by rw [f4 21 (by decide), c11.2.2.2.2.1, b3.2 21 (by omega)], fun k hk => ?_, fun k hk => ?_⟩
          · rw [d5, d6, upd_lt (by omega), upd_lt (by omega), (c11.2.2.2.2.2.1 k (by omega)).1, (c11.2.2.2.2.2.1 k (by omega)).2, a6, a7]; exact ⟨rfl, rfl⟩
          · rw [f5, pk_un (by omega), pk_un (by omega), c11.2.2.2.2.2.2 k (by omega), b3.1 106 (by decide)]
        rcases ih m i2 (z2 + 1) (y2 + 1) (x3 + 1) h3' g3 v' d2 f2 S1 (by omega) (by omega) (by omega) (by omega) (by omega) with ⟨i', z', y', v'', h', g', q1, q2, q3, q4, q5, q6, q7, q8, q9, q10, q11⟩ | ⟨h', g', q1, q2, q3⟩
        · exact Or.inl ⟨i', z', y', v'', h', g', q1, q2, q3, q4, q5, by omega, by omega, q8, by omega, by omega, F4.trans q11 (by omega) (by omega)⟩
        · exact Or.inr ⟨h', g', q1, q2, q3.pre F4.1 F4.2.2.1⟩
      · have c3' := c3
        obtain ⟨f, p, f1, -⟩ := c3'
        obtain ⟨n, rfl⟩ : ∃ q, n = q + 1 := ⟨n - 1, by omega⟩
        obtain ⟨h3', d1, d2, d3⟩ := d_73 f1 n (nI (X.kd i)) (nI (x3 + 1))
        rw [c1, d1, c2, zbd_e, if_pos rfl]
        exact Or.inr ⟨h3', g2, rfl, rfl, (c3.post d3 d2).pre a3 b3.gP⟩
    · have n16 : ¬ nI (X.kd i) = 16 := by rw [l_16, n_eq (by omega) (by omega)]; omega
      have n17 : ¬ nI (X.kd i) = 17 := by rw [show (17 : Int32) = nI 17 from rfl, n_eq (by omega) (by omega)]; omega
      refine Or.inl ⟨i, z, y, v, h, g, ?_, ?_, Pc, Pm, S, Nat.le_refl _, Nat.le_refl _, hy, Nat.le_refl _, Nat.le_refl _, okF.refl z y h g⟩
      · unfold f_X7_readSum_94 f_X7_readSum_122 f_X7_readSum_131
        simp only [Pc.2.2.2.2.1, zlt_e]
        rw [if_neg n16, if_neg n17, if_pos trivial]
        simp only [f_X7_readSum_6]
        rw [if_pos trivial, ite_self]
      · simp only [f_X12_sumUp_9, Pm.2.1.1]
        rw [if_neg (fun q => by have := t3.mp q; omega), if_neg (fun q => by have := t4.mp q; omega)]
theorem c_sum0 (h : zH) : f_X7_readSum h = (zbd (f_X7_readUnit (1 : Int32) h) fun r1 h2 => (f_X7_readSum_25 (f_X7_readSum_6 4095) zN 1 0 (0 : Int32) h2)) := by
  have step : ∀ n, f_X7_readSum_6 (n + 1) 1 1 0 h = zbd (f_X7_readUnit (1 : Int32) h) (fun _ h2 => f_X7_readSum_25 (f_X7_readSum_6 n) zN 1 0 0 h2) := by
    intro n
    simp only [f_X7_readSum_6]
    rw [if_neg (show ¬ (400 : Int32) ≤ 0 by decide), if_neg (show ¬ (1 : Int32) = 0 by decide)]
  exact step 4095
theorem L_sum {X : zTx} {i z y : Nat} {h g : zH} (T : TX X) (Pc : psC X i z h) (Pm : psM X i y g) (hz : z ≤ i) (hy : y ≤ z) : (∃ i' z' y' v' h' g', f_X7_readSum h = some (0, h') ∧ f_X12_sumUp g = some (1, g') ∧ psC X i' z' h' ∧ psM X i' y' g' ∧ sg (h' 35) (h' 36) (g' 106) 4 z z' y y' v' ∧ i < i' ∧ z' + i ≤ z + i' ∧ y' ≤ z' ∧ z ≤ z' ∧ y ≤ y' ∧ okF z y h g h' g') ∨ (∃ h' g', f_X7_readSum h = some (0, h') ∧ f_X12_sumUp g = some (0, g') ∧ FL h g h' g') := by
  have hN : X.N ≤ 400 := by have := T.1; have := T.2.1; omega
  rw [c_sum0]
  unfold f_X12_sumUp
  rcases L_product T (f_X7_readSum_6 4095) 1 0 Pc Pm hz hy with ⟨i2, z2, y2, u, h2, g2, c1, c2, c3, c4, c5, c6, c7, c8, c9, c10', c11⟩ | ⟨h2, g2, c1, c2, c3⟩
  · rw [c1, c2, zbd_e, if_neg (show ¬ (1 : Int32) = 0 by decide)]
    have e73 : f_X7_readSum_73 (f_X7_readSum_6 4095) 1 0 h2 = f_X7_readSum_94 (f_X7_readSum_6 4095) 0 h2 := by
      unfold f_X7_readSum_73
      rw [if_neg (show ¬ (1 : Int32) = 16 by decide), if_neg (show ¬ (1 : Int32) = 17 by decide)]
    rw [e73]
    rcases L_s94 T 4095 zN i2 z2 y2 0 h2 g2 u c3 c4 (c5.mono (by omega)) (by omega) c8 (by omega) (by omega) (by unfold zN; omega) with ⟨i', z', y', v', h', g', q1, q2, q3, q4, q5, q6, q7, q8, q9, q10, q11⟩ | ⟨h', g', q1, q2, q3⟩
    · exact Or.inl ⟨i', z', y', v', h', g', q1, q2, q3, q4, q5, by omega, by omega, q8, by omega, by omega, c11.trans q11 (by omega) (by omega)⟩
    · exact Or.inr ⟨h', g', q1, q2, q3.pre c11.1 c11.2.2.1⟩
  · have c3' := c3
    obtain ⟨f, p, f1, -⟩ := c3'
    obtain ⟨h3, d1, d2, d3⟩ := d_73 f1 4094 1 0
    rw [c1, c2, zbd_e, if_pos rfl]
    exact Or.inr ⟨h3, g2, d1, rfl, c3.post d3 d2⟩
