/-! tests -/
def CLp (X : zTx) (F : Int32 → zH → zR) (G : zH → zR) (o K : Nat) : Prop := ∀ i z y h g, psC X i z h → psM X i y g → z ≤ i → y ≤ z → g 100 21 = nI o → (∃ i' z' y' v' h' g', F (nI o) h = some (0, h') ∧ G g = some (1, g') ∧ psC X i' z' h' ∧ psM X i' y' g' ∧ sg (h' 35) (h' 36) (g' 106) K z z' y y' v' ∧ b01 v' ∧ i < i' ∧ z' + i ≤ z + i' ∧ y' ≤ z' ∧ z ≤ z' ∧ y ≤ y' ∧ okF z y h g h' g') ∨ (∃ h' g', F (nI o) h = some (0, h') ∧ G g = some (0, g') ∧ FL h g h' g')
def DDp (F : Int32 → zH → zR) : Prop := ∀ x f p h, dd f p h → ∃ h', F x h = some (0, h') ∧ pF h h' ∧ ∀ f p, dd f p h → dd f p h'
theorem d_27 {f : Nat} {p : Int32} {h : zH} (D : dd f p h) (F : Int32 → zH → zR) (k7 : Int32 → Int32 → Int32 → Int32 → zH → zR) (n : Nat) (x1 x3 x4 x5 : Int32) : f_X7_readCondition_27 F k7 (n + 1) x1 x3 x4 x5 h = f_X7_readCondition_69 F k7 x1 x3 x4 h := by
  simp only [f_X7_readCondition_27]
  rw [D.2.2.2.2.1, if_neg (show ¬ (1 : Int32) = 6 by decide), ite_self]
theorem d_69 {f : Nat} {p : Int32} {h : zH} (D : dd f p h) (F : Int32 → zH → zR) (n : Nat) (x1 x3 x4 : Int32) : ∃ h', f_X7_readCondition_69 F (f_X7_readCondition_7 F (n + 1)) x1 x3 x4 h = some (0, h') ∧ pF h h' ∧ ∀ f p, dd f p h → dd f p h' := by
  have e83 : ∀ f p h, dd f p h → f_X7_readCondition_83 F (f_X7_readCondition_7 F (n + 1)) x1 x4 h = some (0, h) := by
    intro f p h D
    unfold f_X7_readCondition_83 f_X7_readCondition_101 f_X7_readCondition_110
    simp only [D.2.2.2.2.1, zlt_e]
    rw [if_neg (show ¬ (1 : Int32) = 5 by decide), if_pos trivial]
    simp only [f_X7_readCondition_7]
    rw [if_pos trivial, ite_self]
  unfold f_X7_readCondition_69
  obtain ⟨h', a1, a2, a3⟩ := d_add D.2.2.2.2.2 5 0
  by_cases c : x3 = 5
  · rw [if_pos c, a1, zbd_e, e83 f p h' (a3 f p D)]
    exact ⟨h', rfl, a2, a3⟩
  · rw [if_neg c, e83 f p h D]
    exact ⟨h, rfl, pF.refl h, fun _ _ D => D⟩
theorem c_cond0 (F : Int32 → zH → zR) (x1 : Int32) (h : zH) : f_X7_readCondition F x1 h = (zbd (F x1 h) fun r1 h2 => (f_X7_readCondition_27 F (f_X7_readCondition_7 F 4095) zN x1 1 0 (0 : Int32) h2)) := by
  have step : ∀ n, f_X7_readCondition_7 F (n + 1) x1 1 1 0 h = (zbd (F x1 h) fun r1 h2 => (f_X7_readCondition_27 F (f_X7_readCondition_7 F n) zN x1 1 0 (0 : Int32) h2)) := by
    intro n
    simp only [f_X7_readCondition_7]
    rw [if_neg (show ¬ (400 : Int32) ≤ 0 by decide), if_neg (show ¬ (1 : Int32) = 0 by decide)]
  exact step 4095
theorem d_cond {F : Int32 → zH → zR} (HF : DDp F) : DDp (f_X7_readCondition F) := by
  intro x f p h D
  obtain ⟨h1, a1, a2, a3⟩ := HF x f p h D
  obtain ⟨h2, b1, b2, b3⟩ := d_69 (a3 f p D) F 4094 x 1 0
  refine ⟨h2, ?_, a2.trans b2, fun f p D => b3 f p (a3 f p D)⟩
  rw [c_cond0, a1, zbd_e]
  have e := d_27 (a3 f p D) F (f_X7_readCondition_7 F 4095) 4095 x 1 0 0
  exact e.trans b1
theorem cn_t : ∀ k, k < 25 → (nI (mk k) = 5 ↔ k = 6) ∧ (nI (mk k) = 4 ↔ k = 5) ∧ (nI (mk k) = 6 ↔ k = 7) ∧ (nI (mk k) = 140 ↔ k = 20) ∧ (nI (mk k) = 141 ↔ k = 21) ∧ (nI (mk k) = 160 ↔ k = 22) ∧ (nI (mk k) = 161 ↔ k = 23) ∧ (nI (mk k) = 162 ↔ k = 24) := by decide +kernel
/-- the rest of an and-row -/
theorem L_every {X : zTx} {z0 y0 o K : Nat} (T : TX X) (F : Int32 → zH → zR) (G : zH → zR) (HC : CLp X F G o K) (HF : DDp F) (hK : 2 ≤ K) (k7 : Int32 → Int32 → Int32 → Int32 → zH → zR) (x3 x4 : Int32) : ∀ n m i z y x5 h g v, psC X i z h → psM X i y g → sg (h 35) (h 36) (g 106) (K + 1) z0 z y0 y v → b01 v → z ≤ i → y ≤ z → g 100 21 = nI o → 2 * x5 ≤ i → X.N < n + i → X.N < m + i → (∃ i' z' y' v' h' g', f_X7_readCondition_27 F k7 n (nI o) x3 x4 (nI x5) h = f_X7_readCondition_69 F k7 (nI o) x3 x4 h' ∧ f_X12_every_9 G m g = some (1, g') ∧ psC X i' z' h' ∧ psM X i' y' g' ∧ sg (h' 35) (h' 36) (g' 106) (K + 1) z0 z' y0 y' v' ∧ b01 v' ∧ i ≤ i' ∧ z' + i ≤ z + i' ∧ y' ≤ z' ∧ z ≤ z' ∧ y ≤ y' ∧ okF z y h g h' g') ∨ (∃ h' g', f_X7_readCondition_27 F k7 n (nI o) x3 x4 (nI x5) h = f_X7_readCondition_69 F k7 (nI o) x3 x4 h' ∧ f_X12_every_9 G m g = some (0, g') ∧ FL h g h' g') := by
  have hN : X.N ≤ 400 := by have := T.1; have := T.2.1; omega
  intro n
  induction n with
  | zero => intro m i z y x5 h g v Pc _ _ _ _ _ _ _ h1; have := Pc.1; omega
  | succ n ih =>
    intro m i z y x5 h g v Pc Pm S B hz hy h21 hx h1 h2
    have hi := Pc.1
    obtain ⟨m, rfl⟩ : ∃ q, m = q + 1 := ⟨m - 1, by omega⟩
    have k24 := T.k24 hi
    obtain ⟨t5, -⟩ := cn_t (X.kd i) (by omega)
    simp only [f_X7_readCondition_27, f_X12_every_9, Pc.2.2.2.2.1, Pm.2.1.1]
    rw [if_neg (show ¬ (400 : Int32) ≤ nI x5 by rw [l_400, n_le (by omega) (by omega)]; omega)]
    by_cases c6 : X.kd i = 6
    · have i6 : nI (X.kd i) = 6 := by rw [c6]; rfl
      have hiN : i < X.N := T.lt hi (by omega)
      rw [if_pos i6, if_pos (t5.mpr c6)]
      obtain ⟨h1', a1, a2, a3, a4, a5, a6, a7⟩ := c_step Pc hiN hN
      obtain ⟨g1, b1, b2, b3⟩ := m_next T Pm hiN
      rw [a1, zbd_e, b1, zbd_e]
      have F1 : okF z y h g h1' g1 := ⟨a3, a4, b3.gP, b3.2 18 (by omega), b3.2 21 (by omega), fun k _ => by rw [a6, a7]; exact ⟨rfl, rfl⟩, fun k _ => by rw [b3.1 106 (by decide)]⟩
      rcases HC (i + 1) z y h1' g1 a2 b2 (by omega) hy (by rw [b3.2 21 (by omega)]; exact h21) with ⟨i2, z2, y2, u, h2', g2, c1, c2, c3, c4, c5, cb, c6', c7, c8, c9, c10', c11⟩ | ⟨h2', g2, c1, c2, c3⟩
      · obtain ⟨h3', d1, d2, d3, d4, d5, d6⟩ := c_add c3 6 0 (by have := c3.1; omega)
        obtain ⟨g3, f1, f2, f3, f4, f5⟩ := m_lay c4 21 0 (by have := c3.1; omega)
        rw [c1, zbd_e, d1, zbd_e, zlt_e, nI_1, c2, zbd_e, if_neg (show ¬ (1 : Int32) = 0 by decide), f1, zbd_e]
        have S1 : sg (h3' 35) (h3' 36) (g3 106) (K + 1) z0 (z2 + 1) y0 (y2 + 1) (fun Q => v Q &&& u Q) := by
          have A : sg (h3' 35) (h3' 36) (g3 106) (K + 1) z0 z y0 y v := S.ext (fun k hk => by rw [d5, d6, upd_lt (by omega), upd_lt (by omega), (c11.2.2.2.2.2.1 k hk).1, (c11.2.2.2.2.2.1 k hk).2, a6, a7]; exact ⟨rfl, rfl⟩) (fun k hk => by rw [f5, pk_un (by omega), pk_un (by omega), c11.2.2.2.2.2.2 k hk, b3.1 106 (by decide)])
          have B : sg (h3' 35) (h3' 36) (g3 106) K z z2 y y2 u := c5.ext (fun k hk => by rw [d5, d6, upd_lt hk, upd_lt hk]; exact ⟨rfl, rfl⟩) (fun k hk => by rw [f5, pk_un (by omega), pk_un (by omega)])
          exact sg_bin (op := fun a b => a &&& b) A B (s := 6) (s' := 21) (by rw [d5, pk_us]) (by rw [f5, pk_un (by omega), pk_us]) (by decide) (by decide) (fun a b => rfl) (fun a b => rfl) (by omega) (by omega) (by omega)
        have F4 : okF z y h g h3' g3 := by
          refine ⟨a3.trans (c11.1.trans d3), by rw [d4, c11.2.1, a4], b3.gP.trans (c11.2.2.1.trans ⟨f3, fun j hj => f4 j (by omega)⟩), by rw [f4 18 (by decide), c11.2.2.2.1, b3.2 18 (by omega)], by rw [f4 21 (by decide), c11.2.2.2.2.1, b3.2 21 (by omega)], fun k hk => ?_, fun k hk => ?_⟩
          · rw [d5, d6, upd_lt (by omega), upd_lt (by omega), (c11.2.2.2.2.2.1 k (by omega)).1, (c11.2.2.2.2.2.1 k (by omega)).2, a6, a7]; exact ⟨rfl, rfl⟩
          · rw [f5, pk_un (by omega), pk_un (by omega), c11.2.2.2.2.2.2 k (by omega), b3.1 106 (by decide)]
        rcases ih m i2 (z2 + 1) (y2 + 1) (x5 + 1) h3' g3 _ d2 f2 S1 (fun Q => and_01 _ _ (B Q) (cb Q)) (by omega) (by omega) (by rw [F4.2.2.2.2.1]; exact h21) (by omega) (by omega) (by omega) with ⟨i', z', y', v'', h', g', q1, q2, q3, q4, q5, qb, q6, q7, q8, q9, q10, q11⟩ | ⟨h', g', q1, q2, q3⟩
        · exact Or.inl ⟨i', z', y', v'', h', g', q1, q2, q3, q4, q5, qb, by omega, by omega, q8, by omega, by omega, F4.trans q11 (by omega) (by omega)⟩
        · exact Or.inr ⟨h', g', q1, q2, q3.pre F4.1 F4.2.2.1⟩
      · have c3' := c3
        obtain ⟨f, p, f1, -⟩ := c3'
        obtain ⟨n, rfl⟩ : ∃ q, n = q + 1 := ⟨n - 1, by omega⟩
        obtain ⟨h3', d1, d2, d3⟩ := d_add f1.2.2.2.2.2 6 0
        rw [c1, zbd_e, d1, zbd_e, zlt_e, d_27 (d3 f p f1), c2, zbd_e, if_pos rfl]
        exact Or.inr ⟨h3', g2, rfl, rfl, (c3.post d3 d2).pre a3 b3.gP⟩
    · have i6 : ¬ nI (X.kd i) = 6 := by rw [l_6, n_eq (by omega) (by omega)]; exact c6
      rw [if_neg i6, if_neg (fun q => c6 (t5.mp q))]
      exact Or.inl ⟨i, z, y, v, h, g, rfl, rfl, Pc, Pm, S, B, Nat.le_refl _, Nat.le_refl _, hy, Nat.le_refl _, Nat.le_refl _, okF.refl z y h g⟩
/-- an and-row -/
theorem L_row {X : zTx} {i z y o K : Nat} {h g : zH} (T : TX X) (F : Int32 → zH → zR) (G : zH → zR) (HC : CLp X F G o K) (HF : DDp F) (hK : 2 ≤ K) (k7 : Int32 → Int32 → Int32 → Int32 → zH → zR) (x3 x4 : Int32) (Pc : psC X i z h) (Pm : psM X i y g) (hz : z ≤ i) (hy : y ≤ z) (h21 : g 100 21 = nI o) : (∃ i' z' y' v' h' g', (zbd (F (nI o) h) fun r1 h2 => (f_X7_readCondition_27 F k7 zN (nI o) x3 x4 (0 : Int32) h2)) = f_X7_readCondition_69 F k7 (nI o) x3 x4 h' ∧ f_X12_every G g = some (1, g') ∧ psC X i' z' h' ∧ psM X i' y' g' ∧ sg (h' 35) (h' 36) (g' 106) (K + 1) z z' y y' v' ∧ b01 v' ∧ i < i' ∧ z' + i ≤ z + i' ∧ y' ≤ z' ∧ z ≤ z' ∧ y ≤ y' ∧ okF z y h g h' g') ∨ (∃ h' g', (zbd (F (nI o) h) fun r1 h2 => (f_X7_readCondition_27 F k7 zN (nI o) x3 x4 (0 : Int32) h2)) = f_X7_readCondition_69 F k7 (nI o) x3 x4 h' ∧ f_X12_every G g = some (0, g') ∧ FL h g h' g') := by
  have hN : X.N ≤ 400 := by have := T.1; have := T.2.1; omega
  unfold f_X12_every
  rcases HC i z y h g Pc Pm hz hy h21 with ⟨i2, z2, y2, u, h2, g2, c1, c2, c3, c4, c5, cb, c6, c7, c8, c9, c10', c11⟩ | ⟨h2, g2, c1, c2, c3⟩
  · rw [c1, zbd_e, c2, zbd_e, if_neg (show ¬ (1 : Int32) = 0 by decide)]
    rcases L_every T F G HC HF hK k7 x3 x4 zN zN i2 z2 y2 0 h2 g2 u c3 c4 (c5.mono (by omega)) cb (by omega) c8 (by rw [c11.2.2.2.2.1]; exact h21) (by omega) (by unfold zN; omega) (by unfold zN; omega) with ⟨i', z', y', v', h', g', q1, q2, q3, q4, q5, qb, q6, q7, q8, q9, q10, q11⟩ | ⟨h', g', q1, q2, q3⟩
    · exact Or.inl ⟨i', z', y', v', h', g', q1, q2, q3, q4, q5, qb, by omega, by omega, q8, by omega, by omega, c11.trans q11 (by omega) (by omega)⟩
    · exact Or.inr ⟨h', g', q1, q2, q3.pre c11.1 c11.2.2.1⟩
  · rw [c1, zbd_e, c2, zbd_e, if_pos rfl]
    have c3' := c3
    obtain ⟨f, p, f1, -⟩ := c3'
    have e := d_27 f1 F k7 4095 (nI o) x3 x4 0
    exact Or.inr ⟨h2, g2, e, rfl, c3⟩
/-- the rest of an or-row -/
theorem L_any {X : zTx} {z0 y0 o K : Nat} (T : TX X) (F : Int32 → zH → zR) (G : zH → zR) (HC : CLp X F G o K) (HF : DDp F) (hK : 2 ≤ K) : ∀ n m i z y x4 h g v, psC X i z h → psM X i y g → sg (h 35) (h 36) (g 106) (K + 2) z0 z y0 y v → b01 v → z ≤ i → y ≤ z → g 100 21 = nI o → 2 * x4 ≤ i → X.N < n + i → X.N < m + i → (∃ i' z' y' v' h' g', f_X7_readCondition_83 F (f_X7_readCondition_7 F n) (nI o) (nI x4) h = some (0, h') ∧ f_X12_any_9 G m g = some (1, g') ∧ psC X i' z' h' ∧ psM X i' y' g' ∧ sg (h' 35) (h' 36) (g' 106) (K + 2) z0 z' y0 y' v' ∧ b01 v' ∧ i ≤ i' ∧ z' + i ≤ z + i' ∧ y' ≤ z' ∧ z ≤ z' ∧ y ≤ y' ∧ okF z y h g h' g') ∨ (∃ h' g', f_X7_readCondition_83 F (f_X7_readCondition_7 F n) (nI o) (nI x4) h = some (0, h') ∧ f_X12_any_9 G m g = some (0, g') ∧ FL h g h' g') := by
  have hN : X.N ≤ 400 := by have := T.1; have := T.2.1; omega
  intro n
  induction n with
  | zero => intro m i z y x4 h g v Pc _ _ _ _ _ _ _ h1; have := Pc.1; omega
  | succ n ih =>
    intro m i z y x4 h g v Pc Pm S B hz hy h21 hx h1 h2
    have hi := Pc.1
    obtain ⟨m, rfl⟩ : ∃ q, m = q + 1 := ⟨m - 1, by omega⟩
    have k24 := T.k24 hi
    obtain ⟨-, t4, -⟩ := cn_t (X.kd i) (by omega)
    by_cases c5k : X.kd i = 5
    · have i5 : nI (X.kd i) = 5 := by rw [c5k]; rfl
      have hiN : i < X.N := T.lt hi (by omega)
      obtain ⟨h1', a1, a2, a3, a4, a5, a6, a7⟩ := c_step Pc hiN hN
      obtain ⟨g1, b1, b2, b3⟩ := m_next T Pm hiN
      have eC : f_X7_readCondition_83 F (f_X7_readCondition_7 F (n + 1)) (nI o) (nI x4) h = (zbd (F (nI o) h1') fun r1 h2 => (f_X7_readCondition_27 F (f_X7_readCondition_7 F n) zN (nI o) 5 (nI (x4 + 1)) (0 : Int32) h2)) := by
        unfold f_X7_readCondition_83 f_X7_readCondition_101 f_X7_readCondition_110
        simp only [Pc.2.2.2.2.1, zlt_e]
        rw [if_pos i5, if_neg (show ¬ (1 : Int32) = 0 by decide), a1, zbd_e, nI_1, i5]
        simp only [f_X7_readCondition_7]
        rw [if_neg (show ¬ (400 : Int32) ≤ nI (x4 + 1) by rw [l_400, n_le (by omega) (by omega)]; omega), if_neg (show ¬ (1 : Int32) = 0 by decide)]
      have eM : f_X12_any_9 G (m + 1) g = (zbd (f_X12_every G g1) fun r5 h6 => (if r5 = 0 then (some ((0 : Int32), h6)) else (zbd (f_X12_lay (22 : Int32) (0 : Int32) h6) fun r7 h8 => (f_X12_any_9 G m h8)))) := by
        simp only [f_X12_any_9, Pm.2.1.1]
        rw [if_pos (t4.mpr c5k), b1, zbd_e]
      rw [eC, eM]
      rcases L_row T F G HC HF hK (f_X7_readCondition_7 F n) 5 (nI (x4 + 1)) a2 b2 (by omega) hy (by rw [b3.2 21 (by omega)]; exact h21) with ⟨i2, z2, y2, u, h2', g2, c1, c2, c3, c4, c5, cb, c6, c7, c8, c9, c10', c11⟩ | ⟨h2', g2, c1, c2, c3⟩
      · obtain ⟨h3', d1, d2, d3, d4, d5, d6⟩ := c_add c3 5 0 (by have := c3.1; omega)
        obtain ⟨g3, f1, f2, f3, f4, f5⟩ := m_lay c4 22 0 (by have := c3.1; omega)
        have e69 : f_X7_readCondition_69 F (f_X7_readCondition_7 F n) (nI o) 5 (nI (x4 + 1)) h2' = f_X7_readCondition_83 F (f_X7_readCondition_7 F n) (nI o) (nI (x4 + 1)) h3' := by
          unfold f_X7_readCondition_69
          rw [if_pos rfl, d1, zbd_e]
        rw [c1, e69, c2, zbd_e, if_neg (show ¬ (1 : Int32) = 0 by decide), f1, zbd_e]
        have S1 : sg (h3' 35) (h3' 36) (g3 106) (K + 2) z0 (z2 + 1) y0 (y2 + 1) (fun Q => v Q ||| u Q) := by
          have A : sg (h3' 35) (h3' 36) (g3 106) (K + 2) z0 z y0 y v := S.ext (fun k hk => by rw [d5, d6, upd_lt (by omega), upd_lt (by omega), (c11.2.2.2.2.2.1 k hk).1, (c11.2.2.2.2.2.1 k hk).2, a6, a7]; exact ⟨rfl, rfl⟩) (fun k hk => by rw [f5, pk_un (by omega), pk_un (by omega), c11.2.2.2.2.2.2 k hk, b3.1 106 (by decide)])
          have B : sg (h3' 35) (h3' 36) (g3 106) (K + 1) z z2 y y2 u := c5.ext (fun k hk => by rw [d5, d6, upd_lt hk, upd_lt hk]; exact ⟨rfl, rfl⟩) (fun k hk => by rw [f5, pk_un (by omega), pk_un (by omega)])
          exact sg_bin (op := fun a b => a ||| b) A B (s := 5) (s' := 22) (by rw [d5, pk_us]) (by rw [f5, pk_un (by omega), pk_us]) (by decide) (by decide) (fun a b => rfl) (fun a b => rfl) (by omega) (by omega) (by omega)
        have F4 : okF z y h g h3' g3 := by
          refine ⟨a3.trans (c11.1.trans d3), by rw [d4, c11.2.1, a4], b3.gP.trans (c11.2.2.1.trans ⟨f3, fun j hj => f4 j (by omega)⟩), by rw [f4 18 (by decide), c11.2.2.2.1, b3.2 18 (by omega)], by rw [f4 21 (by decide), c11.2.2.2.2.1, b3.2 21 (by omega)], fun k hk => ?_, fun k hk => ?_⟩
          · rw [d5, d6, upd_lt (by omega), upd_lt (by omega), (c11.2.2.2.2.2.1 k (by omega)).1, (c11.2.2.2.2.2.1 k (by omega)).2, a6, a7]; exact ⟨rfl, rfl⟩
          · rw [f5, pk_un (by omega), pk_un (by omega), c11.2.2.2.2.2.2 k (by omega), b3.1 106 (by decide)]
        rcases ih m i2 (z2 + 1) (y2 + 1) (x4 + 1) h3' g3 _ d2 f2 S1 (fun Q => or_01 _ _ (B Q) (cb Q)) (by omega) (by omega) (by rw [F4.2.2.2.2.1]; exact h21) (by omega) (by omega) (by omega) with ⟨i', z', y', v'', h', g', q1, q2, q3, q4, q5, qb, q6, q7, q8, q9, q10, q11⟩ | ⟨h', g', q1, q2, q3⟩
        · exact Or.inl ⟨i', z', y', v'', h', g', q1, q2, q3, q4, q5, qb, by omega, by omega, q8, by omega, by omega, F4.trans q11 (by omega) (by omega)⟩
        · exact Or.inr ⟨h', g', q1, q2, q3.pre F4.1 F4.2.2.1⟩
      · have c3' := c3
        obtain ⟨f, p, f1, -⟩ := c3'
        obtain ⟨n, rfl⟩ : ∃ q, n = q + 1 := ⟨n - 1, by omega⟩
        obtain ⟨h3', d1, d2, d3⟩ := d_69 f1 F n (nI o) 5 (nI (x4 + 1))
        rw [c1, d1, c2, zbd_e, if_pos rfl]
        exact Or.inr ⟨h3', g2, rfl, rfl, (c3.post d3 d2).pre a3 b3.gP⟩
    · have i5 : ¬ nI (X.kd i) = 5 := by rw [l_5, n_eq (by omega) (by omega)]; exact c5k
      refine Or.inl ⟨i, z, y, v, h, g, ?_, ?_, Pc, Pm, S, B, Nat.le_refl _, Nat.le_refl _, hy, Nat.le_refl _, Nat.le_refl _, okF.refl z y h g⟩
      · unfold f_X7_readCondition_83 f_X7_readCondition_101 f_X7_readCondition_110
        simp only [Pc.2.2.2.2.1, zlt_e]
        rw [if_neg i5, if_pos trivial]
        simp only [f_X7_readCondition_7]
        rw [if_pos trivial, ite_self]
      · simp only [f_X12_any_9, Pm.2.1.1]
        rw [if_neg (fun q => c5k (t4.mp q))]
/-- a whole test -/
theorem L_cond {X : zTx} {o K : Nat} (T : TX X) (F : Int32 → zH → zR) (G : zH → zR) (HC : CLp X F G o K) (HF : DDp F) (hK : 2 ≤ K) : CLp X (f_X7_readCondition F) (f_X12_any G) o (K + 2) := by
  have hN : X.N ≤ 400 := by have := T.1; have := T.2.1; omega
  intro i z y h g Pc Pm hz hy h21
  rw [c_cond0]
  unfold f_X12_any
  rcases L_row T F G HC HF hK (f_X7_readCondition_7 F 4095) 1 0 Pc Pm hz hy h21 with ⟨i2, z2, y2, u, h2, g2, c1, c2, c3, c4, c5, cb, c6, c7, c8, c9, c10', c11⟩ | ⟨h2, g2, c1, c2, c3⟩
  · have e69 : f_X7_readCondition_69 F (f_X7_readCondition_7 F 4095) (nI o) 1 0 h2 = f_X7_readCondition_83 F (f_X7_readCondition_7 F 4095) (nI o) 0 h2 := by
      unfold f_X7_readCondition_69
      rw [if_neg (show ¬ (1 : Int32) = 5 by decide)]
    rw [c1, e69, c2, zbd_e, if_neg (show ¬ (1 : Int32) = 0 by decide)]
    rcases L_any T F G HC HF hK 4095 zN i2 z2 y2 0 h2 g2 u c3 c4 (c5.mono (by omega)) cb (by omega) c8 (by rw [c11.2.2.2.2.1]; exact h21) (by omega) (by omega) (by unfold zN; omega) with ⟨i', z', y', v', h', g', q1, q2, q3, q4, q5, qb, q6, q7, q8, q9, q10, q11⟩ | ⟨h', g', q1, q2, q3⟩
    · exact Or.inl ⟨i', z', y', v', h', g', q1, q2, q3, q4, q5, qb, by omega, by omega, q8, by omega, by omega, c11.trans q11 (by omega) (by omega)⟩
    · exact Or.inr ⟨h', g', q1, q2, q3.pre c11.1 c11.2.2.1⟩
  · have c3' := c3
    obtain ⟨f, p, f1, -⟩ := c3'
    obtain ⟨h3, d1, d2, d3⟩ := d_69 f1 F 4094 (nI o) 1 0
    rw [c1, c2, zbd_e, if_pos rfl]
    exact Or.inr ⟨h3, g2, d1, rfl, c3.post d3 d2⟩
