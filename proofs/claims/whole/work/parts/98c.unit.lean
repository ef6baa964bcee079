/-! units and products -/
def uKd (k : Nat) : Prop := k = 2 ∨ (8 ≤ k ∧ k ≤ 14)
theorem c_ru {X : zTx} {i z : Nat} {h : zH} (T : TX X) (P : psC X i z h) (x : Int32) (hx : ¬ x = 19) : f_X7_readUnit x h = if X.kd i = 2 ∨ (8 ≤ X.kd i ∧ X.kd i ≤ 14) then (zbd (f_X5_add_t34 (nI (X.kd i)) (X.vl i) h) fun r1 h2 => (if x = (18 : Int32) then (zbd (f_X5_add_t34 (18 : Int32) (0 : Int32) h2) fun r5 h6 => (f_X7_readUnit_129 h6)) else (f_X7_readUnit_129 h2))) else (zbd (f_X7_blame (1 : Int32) h) fun r9 h10 => (some (0, h10))) := by
  have hN : X.N ≤ 400 := by have := T.1; have := T.2.1; omega
  obtain ⟨p1, p2, p3, p4, p5, p6, p7⟩ := P
  have k24 := T.k24 p1
  unfold f_X7_readUnit f_X7_readUnit_13 f_X7_readUnit_36 f_X7_readUnit_37 f_X7_readUnit_52 f_X7_readUnit_58 f_X7_readUnit_82 f_X7_readUnit_101
  simp only [p5, p4, if_neg hx, n_cl (show i < 2 ^ 31 by omega), zck_n (show i < 401 by omega) (show 401 < 2 ^ 31 by decide), (p2 i (by omega) p1).2.1, c10, c00, if_true, if_false]
  by_cases c : X.kd i = 2
  · have c' : nI (X.kd i) = 2 := by rw [c]; rfl
    rw [if_pos c', if_pos (Or.inl c)]
    simp only [ite_self]
  · have c' : ¬ nI (X.kd i) = 2 := by rw [l_2, n_eq (by omega) (by omega)]; exact c
    rw [if_neg c']
    by_cases a : X.kd i < 8
    · rw [if_pos (show nI (X.kd i) < 8 by rw [l_8, n_lt (by omega) (by omega)]; exact a), if_neg (show ¬ (X.kd i = 2 ∨ (8 ≤ X.kd i ∧ X.kd i ≤ 14)) by omega)]
    · rw [if_neg (show ¬ nI (X.kd i) < 8 by rw [l_8, n_lt (by omega) (by omega)]; exact a)]
      by_cases b : 14 < X.kd i
      · rw [if_pos (show (14 : Int32) < nI (X.kd i) by rw [show (14 : Int32) = nI 14 from rfl, n_lt (by omega) (by omega)]; exact b), if_neg (show ¬ (X.kd i = 2 ∨ (8 ≤ X.kd i ∧ X.kd i ≤ 14)) by omega)]
      · rw [if_neg (show ¬ (14 : Int32) < nI (X.kd i) by rw [show (14 : Int32) = nI 14 from rfl, n_lt (by omega) (by omega)]; exact b), if_pos (show (X.kd i = 2 ∨ (8 ≤ X.kd i ∧ X.kd i ≤ 14)) by omega)]
theorem c_ru19 {X : zTx} {i z : Nat} {h : zH} (T : TX X) (P : psC X i z h) : f_X7_readUnit 19 h = if X.kd i = 2 then (if X.vl i = 0 then (zbd (f_X7_blame (2 : Int32) h) fun r7 h8 => (some (0, h8))) else (zbd (f_X5_add_t34 19 (X.vl i) h) fun r1 h2 => f_X7_readUnit_129 h2)) else (zbd (f_X7_blame (1 : Int32) h) fun r9 h10 => (some (0, h10))) := by
  have hN : X.N ≤ 400 := by have := T.1; have := T.2.1; omega
  obtain ⟨p1, p2, p3, p4, p5, p6, p7⟩ := P
  have k24 := T.k24 p1
  unfold f_X7_readUnit f_X7_readUnit_13 f_X7_readUnit_36 f_X7_readUnit_37 f_X7_readUnit_52 f_X7_readUnit_58 f_X7_readUnit_82 f_X7_readUnit_101
  simp only [p5, p4, if_neg (show ¬ (19 : Int32) = 18 by decide), if_true, n_cl (show i < 2 ^ 31 by omega), zck_n (show i < 401 by omega) (show 401 < 2 ^ 31 by decide), (p2 i (by omega) p1).2.1, c10, c00, if_false, ite_self]
  by_cases c : X.kd i = 2
  · have c' : nI (X.kd i) = 2 := by rw [c]; rfl
    rw [if_pos c', if_pos c]
  · have c' : ¬ nI (X.kd i) = 2 := by rw [l_2, n_eq (by omega) (by omega)]; exact c
    rw [if_neg c', if_neg c]
theorem c_129 {X : zTx} {i z : Nat} {h : zH} (P : psC X i z h) (hi : i < X.N) (hN : X.N ≤ 400) : ∃ h', f_X7_readUnit_129 h = some (0, h') ∧ psC X (i + 1) z h' ∧ pF h h' ∧ h' 29 7 = h 29 7 ∧ h' 34 = h 34 ∧ h' 35 = h 35 ∧ h' 36 = h 36 := by
  obtain ⟨h', e1, e2⟩ := c_step P hi hN
  refine ⟨h', ?_, e2⟩
  unfold f_X7_readUnit_129
  rw [e1, zbd_e]
theorem uk_t : ∀ k, k < 25 → (41 ≤ nI (mk k) ∧ nI (mk k) ≤ 47) = (8 ≤ k ∧ k ≤ 14) ∧ (nI (mk k) = 2) = (k = 2) ∧ (8 ≤ k ∧ k ≤ 14 → nI (mk k) - 40 = nI (1 + (k - 8))) := by
  intro k hk
  have : ∀ k, k < 25 → ((41 ≤ nI (mk k) ∧ nI (mk k) ≤ 47) ↔ (8 ≤ k ∧ k ≤ 14)) ∧ (nI (mk k) = 2 ↔ k = 2) ∧ (8 ≤ k ∧ k ≤ 14 → nI (mk k) - 40 = nI (1 + (k - 8))) := by decide +kernel
  exact ⟨propext (this k hk).1, propext (this k hk).2.1, (this k hk).2.2⟩
/-- the reference's unit -/
theorem m_unit {X : zTx} {i y : Nat} {g : zH} (T : TX X) (P : psM X i y g) (hi : i ≤ X.N) : f_X12_unit g = if X.kd i = 2 then f_X12_unit_46 0 g else if 8 ≤ X.kd i ∧ X.kd i ≤ 14 then f_X12_unit_46 (nI (1 + (X.kd i - 8))) g else zbd (f_X12_bad (1 : Int32) g) (fun r7 h8 => (zbo r7 (some (r7, h8)))) := by
  obtain ⟨t1, t2, t3⟩ := uk_t (X.kd i) (by have := T.k24 hi; omega)
  unfold f_X12_unit f_X12_unit_30
  rw [q_in, zbd_e]
  simp only [P.2.1.1, i_10, t1, t2]
  by_cases c : X.kd i = 2
  · rw [if_pos c, if_pos c, if_pos (show ¬ (8 ≤ X.kd i ∧ X.kd i ≤ 14) by omega)]
  · rw [if_neg c, if_neg c]
    by_cases d : 8 ≤ X.kd i ∧ X.kd i ≤ 14
    · rw [if_neg (fun z => z d), if_neg (fun z => z d), if_pos d, t3 d]
    · rw [if_pos d, if_neg d]
/-- a unit: class with sign x, reference -/
theorem L_unit {X : zTx} {i z y : Nat} {h g : zH} (T : TX X) (Pc : psC X i z h) (Pm : psM X i y g) (hz : z ≤ i) (hy : y ≤ z) : (∃ v h' g', (∀ x, ¬ x = 19 → f_X7_readUnit x h = zbd (f_X5_add_t34 (nI (X.kd i)) (X.vl i) h) (fun r1 h2 => (if x = (18 : Int32) then (zbd (f_X5_add_t34 (18 : Int32) (0 : Int32) h2) fun r5 h6 => (f_X7_readUnit_129 h6)) else (f_X7_readUnit_129 h2)))) ∧ i < X.N ∧ f_X5_add_t34 (nI (X.kd i)) (X.vl i) h = some (0, h') ∧ f_X12_unit g = some (1, g') ∧ psC X i (z + 1) h' ∧ psM X (i + 1) (y + 1) g' ∧ sg (h' 35) (h' 36) (g' 106) 1 z (z + 1) y (y + 1) v ∧ okF z y h g h' g') ∨ (∃ h' g', (∀ x, ¬ x = 19 → f_X7_readUnit x h = some (0, h')) ∧ f_X12_unit g = some (0, g') ∧ FL h g h' g') := by
  have hN : X.N ≤ 400 := by have := T.1; have := T.2.1; omega
  have p1 := Pc.1
  rw [m_unit T Pm p1]
  by_cases u : X.kd i = 2 ∨ (8 ≤ X.kd i ∧ X.kd i ≤ 14)
  · left
    have hi : i < X.N := T.lt p1 (by omega)
    obtain ⟨h1, a1, a2, a3, a4, a5, a6⟩ := c_add Pc (nI (X.kd i)) (X.vl i) (by omega)
    have ok := T.2.2.2.1 i hi
    have main : ∀ a : Int32, ((X.kd i = 2 ∧ a = 0) ∨ ((8 ≤ X.kd i ∧ X.kd i ≤ 14) ∧ a = nI (1 + (X.kd i - 8)))) → ∃ v g', f_X12_unit_46 a g = some (1, g') ∧ psM X (i + 1) (y + 1) g' ∧ sg (h1 35) (h1 36) (g' 106) 1 z (z + 1) y (y + 1) v ∧ okF z y h g h1 g' := by
      intro a ha
      obtain ⟨g1, b1, b2, b3, b4, b5⟩ := m_lay Pm a (g 100 17) (by omega)
      obtain ⟨g2, c1, c2, c3⟩ := m_next T b2 hi
      have e106 : g2 106 = upd (upd (g 106) (2 * y) a) (2 * y + 1) (g 100 17) := by rw [c3.1 106 (by decide), b5]
      have s1 : h1 35 z = nI (X.kd i) := by rw [a5, pk_us]
      have s2 : h1 36 z = X.vl i := by rw [a6, pk_us]
      have m1 : g2 106 (2 * y) = a := by rw [e106, pk_un (by omega), pk_us]
      have m2 : g2 106 (2 * y + 1) = g 100 17 := by rw [e106, pk_us]
      have ev : f_X12_unit_46 a g = some (1, g2) := by
        unfold f_X12_unit_46
        rw [b1, zbd_e, c1, zbd_e]
      have fr : okF z y h g h1 g2 := ⟨a3, by rw [a4], ⟨fun c q1 q2 => by rw [c3.1 c q1, b3 c q1 q2], fun j hj => by rw [c3.2 j (by omega), b4 j (by omega)]⟩, by rw [c3.2 18 (by omega), b4 18 (by decide)], by rw [c3.2 21 (by omega), b4 21 (by decide)], fun k hk => by rw [a5, a6, upd_lt hk, upd_lt hk]; exact ⟨rfl, rfl⟩, fun k hk => by rw [e106, pk_un (by omega), pk_un (by omega)]⟩
      rcases ha with ⟨k2, rfl⟩ | ⟨k8, rfl⟩
      · have hv : g 100 17 = X.vl i := Pm.2.1.2.2.2 k2
        exact ⟨_, g2, ev, c2, sg_num (n := X.vl i) (by rw [s1, k2]; rfl) s2 m1 (by rw [m2, hv]), fr⟩
      · exact ⟨_, g2, ev, c2, sg_fact (k := X.kd i - 8) (by omega) (by rw [s1, show 8 + (X.kd i - 8) = X.kd i by omega]) m1, fr⟩
    have go : ∃ v g', (if X.kd i = 2 then f_X12_unit_46 0 g else if 8 ≤ X.kd i ∧ X.kd i ≤ 14 then f_X12_unit_46 (nI (1 + (X.kd i - 8))) g else zbd (f_X12_bad (1 : Int32) g) (fun r7 h8 => (zbo r7 (some (r7, h8))))) = some (1, g') ∧ psM X (i + 1) (y + 1) g' ∧ sg (h1 35) (h1 36) (g' 106) 1 z (z + 1) y (y + 1) v ∧ okF z y h g h1 g' := by
      by_cases k2 : X.kd i = 2
      · rw [if_pos k2]
        exact main 0 (Or.inl ⟨k2, rfl⟩)
      · rw [if_neg k2, if_pos (by omega)]
        exact main _ (Or.inr ⟨by omega, rfl⟩)
    obtain ⟨v, g', q1, q2, q3, q4⟩ := go
    exact ⟨v, h1, g', fun x hx => by rw [c_ru T Pc x hx, if_pos u], hi, a1, q1, a2, q2, q3, q4⟩
  · right
    obtain ⟨h', a1, a2, a3⟩ := c_blame Pc 1 (by omega) (by omega) hN
    obtain ⟨g', b1, b2, b3, b4⟩ := m_bad Pm 1
    refine ⟨h', g', fun x hx => ?_, ?_, ⟨1, _, a2, b2, b3, a3, b4⟩⟩
    · rw [c_ru T Pc x hx, if_neg u, l_1, a1, zbd_e]
    · rw [if_neg (by omega), if_neg (by omega), l_1, b1, zbd_e]
      rfl
theorem pd_t : ∀ k, k < 25 → (nI (mk k) = 142 ↔ k = 18) ∧ (nI (mk k) = 147 ↔ k = 19) ∧ (nI (mk k) = 143 ↔ k = 16) ∧ (nI (mk k) = 145 ↔ k = 17) := by decide +kernel
/-- the rest of a product -/
theorem L_prod {X : zTx} {z0 y0 : Nat} (T : TX X) (k6 : Int32 → Int32 → Int32 → zH → zR) (w x3 : Int32) : ∀ n m i z y x4 h g v, psC X i z h → psM X i y g → sg (h 35) (h 36) (g 106) 3 z0 z y0 y v → z ≤ i → y ≤ z → 2 * x4 ≤ i → X.N < n + i → X.N < m + i → (∃ i' z' y' v' h' g', f_X7_readSum_25 k6 n w x3 (nI x4) h = f_X7_readSum_73 k6 w x3 h' ∧ f_X12_product_9 m g = some (1, g') ∧ psC X i' z' h' ∧ psM X i' y' g' ∧ sg (h' 35) (h' 36) (g' 106) 3 z0 z' y0 y' v' ∧ i ≤ i' ∧ z' + i ≤ z + i' ∧ y' ≤ z' ∧ z ≤ z' ∧ y ≤ y' ∧ okF z y h g h' g') ∨ (∃ h' g', f_X7_readSum_25 k6 n w x3 (nI x4) h = f_X7_readSum_73 k6 w x3 h' ∧ f_X12_product_9 m g = some (0, g') ∧ FL h g h' g') := by
  have hN : X.N ≤ 400 := by have := T.1; have := T.2.1; omega
  intro n
  induction n with
  | zero => intro m i z y x4 h g v Pc _ _ _ _ _ h1; have := Pc.1; omega
  | succ n ih =>
    intro m i z y x4 h g v Pc Pm S hz hy hx h1 h2
    have hi := Pc.1
    obtain ⟨m, rfl⟩ : ∃ q, m = q + 1 := ⟨m - 1, by omega⟩
    have k24 := T.k24 hi
    obtain ⟨t1, t2, -⟩ := pd_t (X.kd i) (by omega)
    simp only [f_X7_readSum_25, f_X12_product_9, Pc.2.2.2.2.1, Pm.2.1.1]
    rw [if_neg (show ¬ (400 : Int32) ≤ nI x4 by rw [l_400, n_le (by omega) (by omega)]; omega)]
    by_cases c18 : X.kd i = 18
    · -- times
      have i18 : nI (X.kd i) = 18 := by rw [c18]; rfl
      have hiN : i < X.N := T.lt hi (by omega)
      rw [if_pos i18, if_pos (t1.mpr c18)]
      unfold f_X7_readSum_51 f_X12_product_29 f_X12_product_44 f_X12_product_112
      rw [Pc.2.2.2.2.1, zlt_e, Pm.2.1.1, if_neg (fun z => by have := t2.mp z; omega), i18]
      obtain ⟨h1', a1, a2, a3, a4, a5, a6, a7⟩ := c_step Pc hiN hN
      obtain ⟨g1, b1, b2, b3⟩ := m_next T Pm hiN
      rw [a1, zbd_e, b1, zbd_e, if_pos rfl]
      have F1 : okF z y h g h1' g1 := ⟨a3, a4, b3.gP, b3.2 18 (by omega), b3.2 21 (by omega), fun k _ => by rw [a6, a7]; exact ⟨rfl, rfl⟩, fun k _ => by rw [b3.1 106 (by decide)]⟩
      rcases L_unit T a2 b2 (by omega) hy with ⟨u, h2', g2, c1, c2, c3, c4, c5, c6, c7, c8⟩ | ⟨h2', g2, c1, c2, c3⟩
      · obtain ⟨h3', d1, d2, d3, d4, d5, d6⟩ := c_add c5 18 0 (by omega)
        obtain ⟨h4', e1, e2, e3, e4, e5, e6, e7⟩ := c_129 d2 c2 hN
        obtain ⟨g3, f1, f2, f3, f4, f5⟩ := m_lay c6 15 0 (by omega)
        rw [c1 18 (by decide), c3, zbd_e, if_pos rfl, d1, zbd_e, e1, zbd_e, zlt_e, nI_1, c4, zbd_e, if_neg (show ¬ (1 : Int32) = 0 by decide), f1, zbd_e]
        have S1 : sg (h4' 35) (h4' 36) (g3 106) 3 z0 (z + 1 + 1) y0 (y + 1 + 1) (fun F => v F * u F) := by
          have A : sg (h4' 35) (h4' 36) (g3 106) 3 z0 z y0 y v := S.ext (fun k hk => by rw [e6, e7, d5, d6, upd_lt (by omega), upd_lt (by omega), (c8.2.2.2.2.2.1 k hk).1, (c8.2.2.2.2.2.1 k hk).2, a6, a7]; exact ⟨rfl, rfl⟩) (fun k hk => by rw [f5, pk_un (by omega), pk_un (by omega), c8.2.2.2.2.2.2 k hk, b3.1 106 (by decide)])
          have B : sg (h4' 35) (h4' 36) (g3 106) 1 z (z + 1) y (y + 1) u := c7.ext (fun k hk => by rw [e6, e7, d5, d6, upd_lt (by omega), upd_lt (by omega)]; exact ⟨rfl, rfl⟩) (fun k hk => by rw [f5, pk_un (by omega), pk_un (by omega)])
          exact sg_bin (op := fun a b => a * b) A B (s := 18) (s' := 15) (by rw [e6, d5, pk_us]) (by rw [f5, pk_un (by omega), pk_us]) (by decide) (by decide) (fun a b => rfl) (fun a b => rfl) (by omega) (by omega) (by omega)
        have F4 : okF z y h g h4' g3 := by
          refine ⟨a3.trans (c8.1.trans (d3.trans e3)), by rw [e4, d4, c8.2.1, a4], b3.gP.trans (c8.2.2.1.trans ⟨f3, fun j hj => f4 j (by omega)⟩), by rw [f4 18 (by decide), c8.2.2.2.1, b3.2 18 (by omega)], by rw [f4 21 (by decide), c8.2.2.2.2.1, b3.2 21 (by omega)], fun k hk => ?_, fun k hk => ?_⟩
          · rw [e6, e7, d5, d6, upd_lt (by omega), upd_lt (by omega), (c8.2.2.2.2.2.1 k (by omega)).1, (c8.2.2.2.2.2.1 k (by omega)).2, a6, a7]; exact ⟨rfl, rfl⟩
          · rw [f5, pk_un (by omega), pk_un (by omega), c8.2.2.2.2.2.2 k (by omega), b3.1 106 (by decide)]
        rcases ih m (i + 1 + 1) (z + 1 + 1) (y + 1 + 1) (x4 + 1) h4' g3 _ e2 f2 S1 (by omega) (by omega) (by omega) (by omega) (by omega) with ⟨i', z', y', v', h', g', q1, q2, q3, q4, q5, q6, q7, q8, q9, q10, q11⟩ | ⟨h', g', q1, q2, q3⟩
        · exact Or.inl ⟨i', z', y', v', h', g', q1, q2, q3, q4, q5, by omega, by omega, q8, by omega, by omega, F4.trans q11 (by omega) (by omega)⟩
        · exact Or.inr ⟨h', g', q1, q2, q3.pre F4.1 F4.2.2.1⟩
      · rw [c1 18 (by decide), zbd_e, zlt_e, c2, zbd_e, if_pos rfl]
        have c3' := c3
        obtain ⟨f, p, f1, -⟩ := c3'
        obtain ⟨n, rfl⟩ : ∃ q, n = q + 1 := ⟨n - 1, by omega⟩
        rw [d_25 f1]
        exact Or.inr ⟨h2', g2, rfl, rfl, c3.pre a3 b3.gP⟩
    · have i18 : ¬ nI (X.kd i) = 18 := by rw [show (18 : Int32) = nI 18 from rfl, n_eq (by omega) (by omega)]; exact c18
      rw [if_neg i18, if_neg (fun z => c18 (t1.mp z))]
      by_cases c19 : X.kd i = 19
      · -- over
        have i19 : nI (X.kd i) = 19 := by rw [c19]; rfl
        have hiN : i < X.N := T.lt hi (by omega)
        rw [if_pos i19, if_pos (t2.mpr c19)]
        unfold f_X7_readSum_51 f_X12_product_29 f_X12_product_44 f_X12_product_112
        rw [Pc.2.2.2.2.1, zlt_e, Pm.2.1.1, if_pos (t2.mpr c19), i19]
        obtain ⟨h1', a1, a2, a3, a4, a5, a6, a7⟩ := c_step Pc hiN hN
        obtain ⟨g1, b1, b2, b3⟩ := m_next T Pm hiN
        rw [a1, zbd_e, b1, zbd_e, if_neg (show ¬ (1 : Int32) = 0 by decide), zlt_e, b2.2.1.1, c_ru19 T a2]
        obtain ⟨-, w2, -⟩ := uk_t (X.kd (i + 1)) (by have := T.k24 a2.1; omega)
        simp only [w2]
        obtain ⟨n, rfl⟩ : ∃ q, n = q + 1 := ⟨n - 1, by omega⟩
        by_cases k2 : X.kd (i + 1) = 2
        · rw [if_pos k2, if_pos k2, b2.2.1.2.2.2 k2]
          have hiN2 : i + 1 < X.N := T.lt a2.1 (by omega)
          by_cases v0 : X.vl (i + 1) = 0
          · rw [if_pos v0, if_pos v0]
            obtain ⟨h', q1, q2, q3⟩ := c_blame a2 2 (by omega) (by omega) hN
            obtain ⟨g', r1, r2, r3, r4⟩ := m_bad b2 2
            rw [l_2, q1, zbd_e, zbd_e, zlt_e, r1, zbd_e, d_25 q2]
            exact Or.inr ⟨h', g', rfl, rfl, ⟨2, _, q2, r2, r3, a3.trans q3, b3.gP.trans r4⟩⟩
          · rw [if_neg v0, if_neg v0]
            obtain ⟨vn, vn1, vn2⟩ := (T.2.2.2.1 (i + 1) hiN2).2.2.1 k2
            obtain ⟨h3', d1, d2, d3, d4, d5, d6⟩ := c_add a2 19 (X.vl (i + 1)) (by omega)
            obtain ⟨h4', e1, e2, e3, e4, e5, e6, e7⟩ := c_129 d2 hiN2 hN
            obtain ⟨g2, f1, f2, f3⟩ := m_next T b2 hiN2
            obtain ⟨g3, j1, j2, j3, j4, j5⟩ := m_lay f2 16 (X.vl (i + 1)) (by omega)
            rw [d1, zbd_e, e1, zbd_e, zlt_e, nI_1, f1, zbd_e, j1, zbd_e]
            have S1 : sg (h4' 35) (h4' 36) (g3 106) 3 z0 (z + 1) y0 (y + 1) (fun F => v F / nI vn) := by
              have A : sg (h4' 35) (h4' 36) (g3 106) 3 z0 z y0 y v := S.ext (fun k hk => by rw [e6, e7, d5, d6, upd_lt (by omega), upd_lt (by omega), a6, a7]; exact ⟨rfl, rfl⟩) (fun k hk => by rw [j5, pk_un (by omega), pk_un (by omega), f3.1 106 (by decide), b3.1 106 (by decide)])
              have vp : 0 < vn := by
                rcases Nat.eq_zero_or_pos vn with q | q
                · rw [q] at vn2; exact absurd vn2 v0
                · exact q
              exact sg_over A vp vn1 (by rw [e6, d5, pk_us]) (by rw [e7, d6, pk_us, vn2]) (by rw [j5, pk_un (by omega), pk_us]) (by rw [j5, pk_us, vn2]) (by omega) (by omega)
            have F4 : okF z y h g h4' g3 := by
              refine ⟨a3.trans (d3.trans e3), by rw [e4, d4, a4], b3.gP.trans (f3.gP.trans ⟨j3, fun j hj => j4 j (by omega)⟩), by rw [j4 18 (by decide), f3.2 18 (by omega), b3.2 18 (by omega)], by rw [j4 21 (by decide), f3.2 21 (by omega), b3.2 21 (by omega)], fun k hk => ?_, fun k hk => ?_⟩
              · rw [e6, e7, d5, d6, upd_lt (by omega), upd_lt (by omega), a6, a7]; exact ⟨rfl, rfl⟩
              · rw [j5, pk_un (by omega), pk_un (by omega), f3.1 106 (by decide), b3.1 106 (by decide)]
            rcases ih m (i + 1 + 1) (z + 1) (y + 1) (x4 + 1) h4' g3 _ e2 j2 S1 (by omega) (by omega) (by omega) (by omega) (by omega) with ⟨i', z', y', v', h', g', q1, q2, q3, q4, q5, q6, q7, q8, q9, q10, q11⟩ | ⟨h', g', q1, q2, q3⟩
            · exact Or.inl ⟨i', z', y', v', h', g', q1, q2, q3, q4, q5, by omega, by omega, q8, by omega, by omega, F4.trans q11 (by omega) (by omega)⟩
            · exact Or.inr ⟨h', g', q1, q2, q3.pre F4.1 F4.2.2.1⟩
        · rw [if_neg k2, if_neg k2]
          obtain ⟨h', q1, q2, q3⟩ := c_blame a2 1 (by omega) (by omega) hN
          obtain ⟨g', r1, r2, r3, r4⟩ := m_bad b2 1
          rw [l_1, q1, zbd_e, zbd_e, zlt_e, r1, zbd_e, d_25 q2]
          exact Or.inr ⟨h', g', rfl, rfl, ⟨1, _, q2, r2, r3, a3.trans q3, b3.gP.trans r4⟩⟩
      · -- no more
        have i19 : ¬ nI (X.kd i) = 19 := by rw [show (19 : Int32) = nI 19 from rfl, n_eq (by omega) (by omega)]; exact c19
        rw [if_neg i19, if_neg (fun z => c19 (t2.mp z))]
        exact Or.inl ⟨i, z, y, v, h, g, rfl, rfl, Pc, Pm, S, Nat.le_refl _, Nat.le_refl _, hy, Nat.le_refl _, Nat.le_refl _, okF.refl z y h g⟩
