/-! one test -/
theorem c_exp {X : zTx} {i z : Nat} {h : zH} (T : TX X) (P : psC X i z h) (a b : Nat) (ha : a < 100) (hb : b < 100) : f_X7_expect (nI a) (nI b) h = if a ≤ X.kd i ∧ X.kd i ≤ b then (zbd (f_X7_step h) fun r3 h4 => (some (0, h4))) else (zbd (f_X7_blame (1 : Int32) h) fun r1 h2 => (some (0, h2))) := by
  have k24 := T.k24 P.1
  unfold f_X7_expect f_X7_expect_23
  rw [P.2.2.2.2.1]
  by_cases c : X.kd i < a
  · rw [if_pos (show nI (X.kd i) < nI a by rw [n_lt (by omega) (by omega)]; exact c), if_neg (by omega)]
  · rw [if_neg (show ¬ nI (X.kd i) < nI a by rw [n_lt (by omega) (by omega)]; exact c)]
    by_cases d : b < X.kd i
    · rw [if_pos (show nI b < nI (X.kd i) by rw [n_lt (by omega) (by omega)]; exact d), if_neg (by omega)]
    · rw [if_neg (show ¬ nI b < nI (X.kd i) by rw [n_lt (by omega) (by omega)]; exact d), if_pos (by omega)]
theorem L_cmp {X : zTx} {i z y : Nat} {h g : zH} (T : TX X) (G : zH → zR) (Pc : psC X i z h) (Pm : psM X i y g) (hz : z ≤ i) (hy : y ≤ z) : (∃ i' z' y' v' h' g', (zbd (f_X7_readSum h) fun r2 h3 => (zlt (h3 29 10) fun y4 => (zbd (f_X7_expect (22 : Int32) (24 : Int32) h3) fun r5 h6 => (zbd (f_X7_readSum h6) fun r7 h8 => (zbd (f_X5_add_t34 y4 (0 : Int32) h8) fun r9 h10 => (some (0, h10))))))) = some (0, h') ∧ (zbd (f_X12_sumUp g) fun r1 h2 => (if r1 = 0 then (some ((0 : Int32), h2)) else (if (h2 100 15) = (160 : Int32) then (f_X12_oneTest_b_147 G (17 : Int32) h2) else (if (h2 100 15) = (161 : Int32) then (f_X12_oneTest_b_147 G (18 : Int32) h2) else (if (h2 100 15) = (162 : Int32) then (f_X12_oneTest_b_147 G (19 : Int32) h2) else (f_X12_oneTest_b_147 G (-1 : Int32) h2)))))) = some (1, g') ∧ psC X i' z' h' ∧ psM X i' y' g' ∧ sg (h' 35) (h' 36) (g' 106) 5 z z' y y' v' ∧ b01 v' ∧ i < i' ∧ z' + i ≤ z + i' ∧ y' ≤ z' ∧ z ≤ z' ∧ y ≤ y' ∧ okF z y h g h' g') ∨ (∃ h' g', (zbd (f_X7_readSum h) fun r2 h3 => (zlt (h3 29 10) fun y4 => (zbd (f_X7_expect (22 : Int32) (24 : Int32) h3) fun r5 h6 => (zbd (f_X7_readSum h6) fun r7 h8 => (zbd (f_X5_add_t34 y4 (0 : Int32) h8) fun r9 h10 => (some (0, h10))))))) = some (0, h') ∧ (zbd (f_X12_sumUp g) fun r1 h2 => (if r1 = 0 then (some ((0 : Int32), h2)) else (if (h2 100 15) = (160 : Int32) then (f_X12_oneTest_b_147 G (17 : Int32) h2) else (if (h2 100 15) = (161 : Int32) then (f_X12_oneTest_b_147 G (18 : Int32) h2) else (if (h2 100 15) = (162 : Int32) then (f_X12_oneTest_b_147 G (19 : Int32) h2) else (f_X12_oneTest_b_147 G (-1 : Int32) h2)))))) = some (0, g') ∧ FL h g h' g') := by
  have hN : X.N ≤ 400 := by have := T.1; have := T.2.1; omega
  -- when lost, the rest
  have lost : ∀ f p hh (y4 : Int32), dd f p hh → ∃ h', (zbd (f_X7_readSum hh) fun r7 h8 => (zbd (f_X5_add_t34 y4 (0 : Int32) h8) fun r9 h10 => (some (0, h10)))) = some (0, h') ∧ pF hh h' ∧ ∀ f p, dd f p hh → dd f p h' := by
    intro f p hh y4 D
    obtain ⟨h1, a1, a2, a3⟩ := d_sum D
    obtain ⟨h2, b1, b2, b3⟩ := d_add (a3 f p D).2.2.2.2.2 y4 0
    exact ⟨h2, by rw [a1, zbd_e, b1, zbd_e], a2.trans b2, fun f p D => b3 f p (a3 f p D)⟩
  rcases L_sum T Pc Pm hz hy with ⟨i1, z1, y1, v1, h1, g1, a1, a2, a3, a4, a5, a6, a7, a8, a9, a10, a11⟩ | ⟨h1, g1, a1, a2, a3⟩
  · rw [a1, zbd_e, zlt_e, a2, zbd_e, if_neg (show ¬ (1 : Int32) = 0 by decide), a4.2.1.1, a3.2.2.2.2.1]
    have k24 := T.k24 a3.1
    obtain ⟨-, -, -, -, -, t22, t23, t24⟩ := cn_t (X.kd i1) (by omega)
    have ex := c_exp T a3 22 24 (by omega) (by omega)
    have ex : f_X7_expect (22 : Int32) (24 : Int32) h1 = _ := ex
    rw [ex]
    by_cases c : 22 ≤ X.kd i1 ∧ X.kd i1 ≤ 24
    · have hiN : i1 < X.N := T.lt a3.1 (by omega)
      obtain ⟨h2, b1, b2, b3, b4, b5, b6, b7⟩ := c_step a3 hiN hN
      obtain ⟨g2, c1, c2, c3⟩ := m_next T a4 hiN
      rw [if_pos c, b1, zbd_e, zbd_e]
      have sM : ∃ s0 : Int32, ((if nI (mk (X.kd i1)) = (160 : Int32) then (f_X12_oneTest_b_147 G (17 : Int32) g1) else (if nI (mk (X.kd i1)) = (161 : Int32) then (f_X12_oneTest_b_147 G (18 : Int32) g1) else (if nI (mk (X.kd i1)) = (162 : Int32) then (f_X12_oneTest_b_147 G (19 : Int32) g1) else (f_X12_oneTest_b_147 G (-1 : Int32) g1)))) = (zbd (f_X12_sumUp g2) fun r5 h6 => (if r5 = 0 then (some ((0 : Int32), h6)) else (zbd (f_X12_lay s0 (0 : Int32) h6) fun r7 h8 => (some ((1 : Int32), h8)))))) ∧ ((X.kd i1 = 22 ∧ s0 = 17) ∨ (X.kd i1 = 23 ∧ s0 = 18) ∨ (X.kd i1 = 24 ∧ s0 = 19)) := by
        have e : ∀ s0 : Int32, ¬ s0 = -1 → f_X12_oneTest_b_147 G s0 g1 = (zbd (f_X12_sumUp g2) fun r5 h6 => (if r5 = 0 then (some ((0 : Int32), h6)) else (zbd (f_X12_lay s0 (0 : Int32) h6) fun r7 h8 => (some ((1 : Int32), h8))))) := by
          intro s0 hs
          unfold f_X12_oneTest_b_147
          rw [if_neg hs, c1, zbd_e]
        by_cases k22 : X.kd i1 = 22
        · exact ⟨17, by rw [if_pos (t22.mpr k22), e 17 (by decide)], Or.inl ⟨k22, rfl⟩⟩
        · rw [if_neg (fun q => k22 (t22.mp q))]
          by_cases k23 : X.kd i1 = 23
          · exact ⟨18, by rw [if_pos (t23.mpr k23), e 18 (by decide)], Or.inr (Or.inl ⟨k23, rfl⟩)⟩
          · have k24' : X.kd i1 = 24 := by omega
            exact ⟨19, by rw [if_neg (fun q => k23 (t23.mp q)), if_pos (t24.mpr k24'), e 19 (by decide)], Or.inr (Or.inr ⟨k24', rfl⟩)⟩
      obtain ⟨s0, eM, hs0⟩ := sM
      rw [eM]
      rcases L_sum T b2 c2 (by omega) a8 with ⟨i2, z2, y2, v2, h3, g3, d1, d2, d3, d4, d5, d6, d7, d8, d9, d10, d11⟩ | ⟨h3, g3, d1, d2, d3⟩
      · obtain ⟨h4, e1, e2, e3, e4, e5, e6⟩ := c_add d3 (nI (X.kd i1)) 0 (by have := d3.1; omega)
        obtain ⟨g4, f1, f2, f3, f4, f5⟩ := m_lay d4 s0 0 (by have := d3.1; omega)
        rw [d1, zbd_e, e1, zbd_e, d2, zbd_e, if_neg (show ¬ (1 : Int32) = 0 by decide), f1, zbd_e]
        have A : sg (h4 35) (h4 36) (g4 106) 4 z z1 y y1 v1 := a5.ext (fun k hk => by rw [e5, e6, upd_lt (by omega), upd_lt (by omega), (d11.2.2.2.2.2.1 k hk).1, (d11.2.2.2.2.2.1 k hk).2, b6, b7]; exact ⟨rfl, rfl⟩) (fun k hk => by rw [f5, pk_un (by omega), pk_un (by omega), d11.2.2.2.2.2.2 k hk, c3.1 106 (by decide)])
        have B : sg (h4 35) (h4 36) (g4 106) 4 z1 z2 y1 y2 v2 := d5.ext (fun k hk => by rw [e5, e6, upd_lt hk, upd_lt hk]; exact ⟨rfl, rfl⟩) (fun k hk => by rw [f5, pk_un (by omega), pk_un (by omega)])
        have s1 : h4 35 z2 = nI (X.kd i1) := by rw [e5, pk_us]
        have s2 : g4 106 (2 * y2) = s0 := by rw [f5, pk_un (by omega), pk_us]
        have SS : ∃ v, sg (h4 35) (h4 36) (g4 106) 5 z (z2 + 1) y (y2 + 1) v ∧ b01 v := by
          rcases hs0 with ⟨k, rfl⟩ | ⟨k, rfl⟩ | ⟨k, rfl⟩
          · refine ⟨_, sg_bin (op := fun a b => if a < b then 1 else 0) A B (s := 22) (s' := 17) (by rw [s1, k]; rfl) s2 (by decide) (by decide) (fun a b => rfl) (fun a b => rfl) (by omega) (by omega) (by omega), fun F => ?_⟩
            show (if v1 F < v2 F then (1 : Int32) else 0) = 0 ∨ (if v1 F < v2 F then (1 : Int32) else 0) = 1
            by_cases q : v1 F < v2 F
            · rw [if_pos q]; exact Or.inr rfl
            · rw [if_neg q]; exact Or.inl rfl
          · refine ⟨_, sg_bin (op := fun a b => if a = b then 1 else 0) A B (s := 23) (s' := 18) (by rw [s1, k]; rfl) s2 (by decide) (by decide) (fun a b => rfl) (fun a b => rfl) (by omega) (by omega) (by omega), fun F => ?_⟩
            show (if v1 F = v2 F then (1 : Int32) else 0) = 0 ∨ (if v1 F = v2 F then (1 : Int32) else 0) = 1
            by_cases q : v1 F = v2 F
            · rw [if_pos q]; exact Or.inr rfl
            · rw [if_neg q]; exact Or.inl rfl
          · refine ⟨_, sg_bin (op := fun a b => if b < a then 1 else 0) A B (s := 24) (s' := 19) (by rw [s1, k]; rfl) s2 (by decide) (by decide) (fun a b => rfl) (fun a b => rfl) (by omega) (by omega) (by omega), fun F => ?_⟩
            show (if v2 F < v1 F then (1 : Int32) else 0) = 0 ∨ (if v2 F < v1 F then (1 : Int32) else 0) = 1
            by_cases q : v2 F < v1 F
            · rw [if_pos q]; exact Or.inr rfl
            · rw [if_neg q]; exact Or.inl rfl
        obtain ⟨v, S, bv⟩ := SS
        refine Or.inl ⟨i2, z2 + 1, y2 + 1, v, h4, g4, rfl, rfl, e2, f2, S, bv, by omega, by omega, by omega, by omega, by omega, ?_⟩
        refine ⟨a11.1.trans (b3.trans (d11.1.trans e3)), by rw [e4, d11.2.1, b4, a11.2.1], a11.2.2.1.trans (c3.gP.trans (d11.2.2.1.trans ⟨f3, fun j hj => f4 j (by omega)⟩)), by rw [f4 18 (by decide), d11.2.2.2.1, c3.2 18 (by omega), a11.2.2.2.1], by rw [f4 21 (by decide), d11.2.2.2.2.1, c3.2 21 (by omega), a11.2.2.2.2.1], fun k hk => ?_, fun k hk => ?_⟩
        · rw [e5, e6, upd_lt (by omega), upd_lt (by omega), (d11.2.2.2.2.2.1 k (by omega)).1, (d11.2.2.2.2.2.1 k (by omega)).2, b6, b7]
          exact a11.2.2.2.2.2.1 k hk
        · rw [f5, pk_un (by omega), pk_un (by omega), d11.2.2.2.2.2.2 k (by omega), c3.1 106 (by decide)]
          exact a11.2.2.2.2.2.2 k hk
      · have d3' := d3
        obtain ⟨f, p, f1, -⟩ := d3'
        obtain ⟨h4, e1, e2, e3⟩ := d_add f1.2.2.2.2.2 (nI (X.kd i1)) 0
        rw [d1, zbd_e, e1, zbd_e, d2, zbd_e, if_pos rfl]
        exact Or.inr ⟨h4, g3, rfl, rfl, (d3.post e3 e2).pre (a11.1.trans b3) (a11.2.2.1.trans c3.gP)⟩
    · rw [if_neg c]
      obtain ⟨h2, b1, b2, b3⟩ := c_blame a3 1 (by omega) (by have := a3.1; omega) hN
      obtain ⟨g2, c1, c2, c3, c4⟩ := m_bad a4 1
      obtain ⟨h3, d1, d2, d3⟩ := lost 1 _ h2 (nI (X.kd i1)) b2
      have b1 : f_X7_blame (1 : Int32) h1 = some (0, h2) := b1
      have c1 : f_X12_bad (1 : Int32) g1 = some (0, g2) := c1
      rw [b1, zbd_e, zbd_e, d1, if_neg (fun q => by have := t22.mp q; omega), if_neg (fun q => by have := t23.mp q; omega), if_neg (fun q => by have := t24.mp q; omega)]
      unfold f_X12_oneTest_b_147
      rw [if_pos rfl, c1, zbd_e]
      exact Or.inr ⟨h3, g2, rfl, rfl, ⟨1, _, d3 _ _ b2, c2, c3, a11.1.trans (b3.trans d2), a11.2.2.1.trans c4⟩⟩
  · have a3' := a3
    obtain ⟨f, p, f1, -⟩ := a3'
    rw [a1, zbd_e, zlt_e, d_expect f1 22 24 (by decide), zbd_e, a2, zbd_e, if_pos rfl]
    obtain ⟨h3, d1, d2, d3⟩ := lost f p h1 (h1 29 10) f1
    rw [d1]
    exact Or.inr ⟨h3, g1, rfl, rfl, a3.post d3 d2⟩
theorem d_clause : ∀ d, DDp (f_X7_readClause (d + 1)) := by
  intro d x f p h D
  obtain ⟨h1, a1, a2, a3⟩ := d_sum D
  obtain ⟨h2, b1, b2, b3⟩ := d_sum (a3 f p D)
  obtain ⟨h3, c1, c2, c3⟩ := d_add (b3 f p (a3 f p D)).2.2.2.2.2 (h1 29 10) 0
  refine ⟨h3, ?_, a2.trans (b2.trans c2), fun f p D => c3 f p (b3 f p (a3 f p D))⟩
  show f_X7_readClause_b (f_X7_readClause d) x h = _
  unfold f_X7_readClause_b f_X7_readClause_b_31
  rw [zlt_e, D.2.2.2.2.1, if_neg (show ¬ (1 : Int32) = 7 by decide), if_neg (show ¬ (1 : Int32) = 20 by decide), if_neg (show ¬ (1 : Int32) = 7 by decide), if_neg (show ¬ (1 : Int32) = 20 by decide), a1, zbd_e, zlt_e, d_expect (a3 f p D) 22 24 (by decide), zbd_e, b1, zbd_e, c1, zbd_e]
/-- opening -/
theorem m_opens {X : zTx} {i y o : Nat} {g : zH} (T : TX X) (P : psM X i y g) (hi : i < X.N) (h21 : g 100 21 = nI o) (ho : o ≤ 8) : (o < 8 ∧ ∃ g', f_X12_opens g = some (1, g') ∧ psM X (i + 1) y g' ∧ g' 100 21 = nI (o + 1) ∧ gP g g' ∧ g' 100 18 = g 100 18 ∧ g' 106 = g 106) ∨ (o = 8 ∧ ∃ g', f_X12_opens g = some (0, g') ∧ g' 100 18 = nI 3 ∧ g' 100 19 = nI (X.pc i) ∧ gP g g') := by
  unfold f_X12_opens
  rw [h21]
  by_cases c : o = 8
  · right
    obtain ⟨g', b1, b2, b3, b4⟩ := m_bad P 3
    rw [if_pos (show nI o = 8 by rw [c]; rfl), l_3, b1, zbd_e]
    exact ⟨c, g', rfl, b2, b3, b4⟩
  · left
    rw [if_neg (show ¬ nI o = 8 by rw [l_8, n_eq (by omega) (by omega)]; exact c), nI_1, zst_e]
    have P1 : psM X i y (zup g 100 21 (nI (o + 1))) := by
      obtain ⟨p1, p2, p3⟩ := P
      have fj : ∀ j, j ≠ 21 → zup g 100 21 (nI (o + 1)) 100 j = g 100 j := fun j hj => by rw [zup_eq, pk_un hj]
      exact ⟨⟨by rw [fj 13 (by decide)]; exact p1.1, fun k hk => by rw [zup_ne 107 (by decide)]; exact p1.2 k hk⟩, ⟨by rw [fj 15 (by decide)]; exact p2.1, by rw [fj 16 (by decide)]; exact p2.2.1, by rw [fj 14 (by decide)]; exact p2.2.2.1, fun z => by rw [fj 17 (by decide)]; exact p2.2.2.2 z⟩, by rw [fj 12 (by decide)]; exact p3⟩
    obtain ⟨g', b1, b2, b3⟩ := m_next T P1 hi
    rw [b1, zbd_e]
    refine ⟨by omega, g', rfl, b2, by rw [b3.2 21 (by omega), zup_eq, pk_us], ⟨fun c q1 q2 => by rw [b3.1 c q1, zup_ne c q1], fun j hj => by rw [b3.2 j (by omega), zup_eq, pk_un (by omega)]⟩, by rw [b3.2 18 (by omega), zup_eq, pk_un (by decide)], by rw [b3.1 106 (by decide), zup_ne 106 (by decide)]⟩
theorem m_close {X : zTx} {i y o : Nat} {g : zH} (P : psM X i y g) (h21 : g 100 21 = nI (o + 1)) (ho : o ≤ 8) : psM X i y (zup g 100 21 ((g 100 21) - (1 : Int32))) ∧ zup g 100 21 ((g 100 21) - (1 : Int32)) 100 21 = nI o ∧ ∀ j, j ≠ 21 → zup g 100 21 ((g 100 21) - (1 : Int32)) 100 j = g 100 j := by
  rw [h21, n_s1n (by omega), Nat.add_sub_cancel]
  have fj : ∀ j, j ≠ 21 → zup g 100 21 (nI o) 100 j = g 100 j := fun j hj => by rw [zup_eq, pk_un hj]
  obtain ⟨p1, p2, p3⟩ := P
  exact ⟨⟨⟨by rw [fj 13 (by decide)]; exact p1.1, fun k hk => by rw [zup_ne 107 (by decide)]; exact p1.2 k hk⟩, ⟨by rw [fj 15 (by decide)]; exact p2.1, by rw [fj 16 (by decide)]; exact p2.2.1, by rw [fj 14 (by decide)]; exact p2.2.2.1, fun z => by rw [fj 17 (by decide)]; exact p2.2.2.2 z⟩, by rw [fj 12 (by decide)]; exact p3⟩, by rw [zup_eq, pk_us], fj⟩
theorem L_clause {X : zTx} (T : TX X) : ∀ d o, o ≤ 8 → 9 ≤ d + o → CLp X (f_X7_readClause d) (f_X12_oneTest d) o (5 + 2 * (8 - o)) := by
  have hN : X.N ≤ 400 := by have := T.1; have := T.2.1; omega
  intro d
  induction d with
  | zero => intro o h1 h2; omega
  | succ d ih =>
    intro o ho hd i z y h g Pc Pm hz hy h21
    have k24 := T.k24 Pc.1
    obtain ⟨-, -, t7, t20, t21, -⟩ := cn_t (X.kd i) (by omega)
    show (∃ i' z' y' v' h' g', f_X7_readClause_b (f_X7_readClause d) (nI o) h = some (0, h') ∧ f_X12_oneTest_b (f_X12_oneTest d) g = some (1, g') ∧ _) ∨ (∃ h' g', f_X7_readClause_b (f_X7_readClause d) (nI o) h = some (0, h') ∧ f_X12_oneTest_b (f_X12_oneTest d) g = some (0, g') ∧ _)
    unfold f_X7_readClause_b f_X7_readClause_b_17 f_X12_oneTest_b f_X12_oneTest_b_23 f_X12_oneTest_b_78
    rw [zlt_e, Pc.2.2.2.2.1, Pm.2.1.1]
    by_cases k7 : X.kd i = 7
    · have i7 : nI (X.kd i) = 7 := by rw [k7]; rfl
      have hiN : i < X.N := T.lt Pc.1 (by omega)
      rw [if_pos i7, if_pos (t7.mpr k7)]
      rcases m_opens T Pm hiN h21 ho with ⟨o8, g1, b1, b2, b3, b4, b5, b6⟩ | ⟨o8, g1, b1, b2, b3, b4⟩
      · rw [if_pos (show nI o < 8 by rw [l_8, n_lt (by omega) (by omega)]; exact o8), b1, zbd_e, if_neg (show ¬ (1 : Int32) = 0 by decide)]
        unfold f_X7_readClause_b_31
        obtain ⟨h1, a1, a2, a3, a4, a5, a6, a7⟩ := c_step Pc hiN hN
        rw [if_pos i7, a1, zbd_e, nI_1]
        have HC := ih (o + 1) (by omega) (by omega)
        rcases HC (i + 1) z y h1 g1 a2 b2 (by omega) hy b3 with ⟨i2, z2, y2, u, h2, g2, c1, c2, c3, c4, c5, cb, c6, c7, c8, c9, c10', c11⟩ | ⟨h2, g2, c1, c2, c3⟩
        · obtain ⟨h3, d1, d2, d3, d4, d5, d6⟩ := c_add c3 7 0 (by have := c3.1; omega)
          obtain ⟨m1, m2, m3⟩ := m_close (o := o) c4 (by rw [c11.2.2.2.2.1]; exact b3) ho
          rw [c1, zbd_e, d1, zbd_e, c2, zbd_e, if_neg (show ¬ (1 : Int32) = 0 by decide), zst_e]
          generalize hY : zup g2 100 21 ((g2 100 21) - (1 : Int32)) = Y at m1 m2 m3
          have yc : ∀ c, c ≠ 100 → Y c = g2 c := fun c hc => by rw [← hY, zup_ne c hc]
          obtain ⟨g3, f1, f2, f3, f4, f5⟩ := m_lay m1 20 0 (by have := c3.1; omega)
          rw [f1, zbd_e]
          have S : sg (h3 35) (h3 36) (g3 106) (5 + 2 * (8 - o)) z (z2 + 1) y (y2 + 1) (fun F => 1 - u F) := by
            have A : sg (h3 35) (h3 36) (g3 106) (5 + 2 * (8 - (o + 1))) z z2 y y2 u := c5.ext (fun k hk => by rw [d5, d6, upd_lt hk, upd_lt hk]; exact ⟨rfl, rfl⟩) (fun k hk => by rw [f5, pk_un (by omega), pk_un (by omega), yc 106 (by decide)])
            exact sg_not A (by rw [d5, pk_us]) (by rw [f5, pk_un (by omega), pk_us]) (by omega) (by omega)
          refine Or.inl ⟨i2, z2 + 1, y2 + 1, _, h3, g3, rfl, rfl, d2, f2, S, fun F => not_01 _ (cb F), by omega, by omega, by omega, by omega, by omega, ?_⟩
          refine ⟨a3.trans (c11.1.trans d3), by rw [d4, c11.2.1, a4], b4.trans (c11.2.2.1.trans ⟨fun c q1 q2 => by rw [f3 c q1 q2, yc c q1], fun j hj => by rw [f4 j (by omega), m3 j (by omega)]⟩), by rw [f4 18 (by decide), m3 18 (by decide), c11.2.2.2.1, b5], by rw [f4 21 (by decide), m2, h21], fun k hk => ?_, fun k hk => ?_⟩
          · rw [d5, d6, upd_lt (by omega), upd_lt (by omega), (c11.2.2.2.2.2.1 k (by omega)).1, (c11.2.2.2.2.2.1 k (by omega)).2, a6, a7]; exact ⟨rfl, rfl⟩
          · rw [f5, pk_un (by omega), pk_un (by omega), yc 106 (by decide), c11.2.2.2.2.2.2 k (by omega), b6]
        · have c3' := c3
          obtain ⟨f, p, f1, -⟩ := c3'
          obtain ⟨h3, d1, d2, d3⟩ := d_add f1.2.2.2.2.2 7 0
          rw [c1, zbd_e, d1, zbd_e, c2, zbd_e, if_pos rfl]
          exact Or.inr ⟨h3, g2, rfl, rfl, (c3.post d3 d2).pre a3 b4⟩
      · obtain ⟨h1, a1, a2, a3⟩ := c_blame Pc 3 (by omega) (by omega) hN
        rw [if_neg (show ¬ nI o < 8 by rw [l_8, n_lt (by omega) (by omega)]; omega), l_3, a1, zbd_e, b1, zbd_e, if_pos rfl]
        exact Or.inr ⟨h1, g1, rfl, rfl, ⟨3, _, a2, b2, b3, a3, b4⟩⟩
    have i7 : ¬ nI (X.kd i) = 7 := by rw [l_7, n_eq (by omega) (by omega)]; exact k7
    rw [if_neg i7, if_neg (fun q => k7 (t7.mp q))]
    by_cases k20 : X.kd i = 20
    · have i20 : nI (X.kd i) = 20 := by rw [k20]; rfl
      have hiN : i < X.N := T.lt Pc.1 (by omega)
      rw [if_pos i20, if_pos (t20.mpr k20)]
      rcases m_opens T Pm hiN h21 ho with ⟨o8, g1, b1, b2, b3, b4, b5, b6⟩ | ⟨o8, g1, b1, b2, b3, b4⟩
      · rw [if_pos (show nI o < 8 by rw [l_8, n_lt (by omega) (by omega)]; exact o8), b1, zbd_e, if_neg (show ¬ (1 : Int32) = 0 by decide)]
        unfold f_X7_readClause_b_31
        obtain ⟨h1, a1, a2, a3, a4, a5, a6, a7⟩ := c_step Pc hiN hN
        rw [if_neg i7, if_pos i20, a1, zbd_e, nI_1]
        obtain ⟨d', rfl⟩ : ∃ q, d = q + 1 := ⟨d - 1, by omega⟩
        have HC := L_cond T (f_X7_readClause (d' + 1)) (f_X12_oneTest (d' + 1)) (ih (o + 1) (by omega) (by omega)) (d_clause d') (by omega)
        rcases HC (i + 1) z y h1 g1 a2 b2 (by omega) hy b3 with ⟨i2, z2, y2, u, h2, g2, c1, c2, c3, c4, c5, cb, c6, c7, c8, c9, c10', c11⟩ | ⟨h2, g2, c1, c2, c3⟩
        · have ex := c_exp T c3 21 21 (by omega) (by omega)
          have ex : f_X7_expect (21 : Int32) (21 : Int32) h2 = _ := ex
          obtain ⟨-, -, -, -, w21, -⟩ := cn_t (X.kd i2) (by have := T.k24 c3.1; omega)
          rw [c1, zbd_e, ex, c2, zbd_e, if_neg (show ¬ (1 : Int32) = 0 by decide)]
          unfold f_X12_need
          rw [c4.2.1.1]
          by_cases k21 : X.kd i2 = 21
          · have hiN2 : i2 < X.N := T.lt c3.1 (by omega)
            obtain ⟨h3, d1, d2, d3, d4, d5, d6, d7⟩ := c_step c3 hiN2 hN
            obtain ⟨g3, e1, e2, e3⟩ := m_next T c4 hiN2
            obtain ⟨m1, m2, m3⟩ := m_close (o := o) e2 (by rw [e3.2 21 (by omega), c11.2.2.2.2.1]; exact b3) ho
            rw [if_pos (by omega), d1, zbd_e, zbd_e, if_pos (w21.mpr k21), e1, zbd_e, zbd_e, if_neg (show ¬ (1 : Int32) = 0 by decide), zst_e]
            have yc : ∀ c, c ≠ 100 → zup g3 100 21 ((g3 100 21) - (1 : Int32)) c = g3 c := fun c hc => zup_ne c hc
            refine Or.inl ⟨i2 + 1, z2, y2, u, h3, _, rfl, rfl, d2, m1, (c5.ext (fun k hk => by rw [d6, d7]; exact ⟨rfl, rfl⟩) (fun k hk => by rw [yc 106 (by decide), e3.1 106 (by decide)])).mono (by omega), cb, by omega, by omega, c8, by omega, by omega, ?_⟩
            refine ⟨a3.trans (c11.1.trans d3), by rw [d4, c11.2.1, a4], b4.trans (c11.2.2.1.trans (e3.gP.trans ⟨fun c q1 q2 => yc c q1, fun j hj => m3 j (by omega)⟩)), by rw [m3 18 (by decide), e3.2 18 (by omega), c11.2.2.2.1, b5], by rw [m2, h21], fun k hk => ?_, fun k hk => ?_⟩
            · rw [d6, d7, (c11.2.2.2.2.2.1 k (by omega)).1, (c11.2.2.2.2.2.1 k (by omega)).2, a6, a7]; exact ⟨rfl, rfl⟩
            · rw [yc 106 (by decide), e3.1 106 (by decide), c11.2.2.2.2.2.2 k (by omega), b6]
          · obtain ⟨h3, d1, d2, d3⟩ := c_blame c3 1 (by omega) (by have := c3.1; omega) hN
            obtain ⟨g3, e1, e2, e3, e4⟩ := m_bad c4 1
            rw [if_neg (by omega), l_1, d1, zbd_e, zbd_e, if_neg (fun q => k21 (w21.mp q)), e1, zbd_e]
            refine Or.inr ⟨h3, g3, rfl, ?_, ⟨1, _, d2, e2, e3, a3.trans (c11.1.trans d3), b4.trans (c11.2.2.1.trans e4)⟩⟩
            show zbd (some ((0 : Int32), g3)) _ = _
            rw [zbd_e, if_pos rfl]
        · have c3' := c3
          obtain ⟨f, p, f1, -⟩ := c3'
          rw [c1, zbd_e, d_expect f1 21 21 (by decide), zbd_e, c2, zbd_e, if_pos rfl]
          exact Or.inr ⟨h2, g2, rfl, rfl, c3.pre a3 b4⟩
      · obtain ⟨h1, a1, a2, a3⟩ := c_blame Pc 3 (by omega) (by omega) hN
        rw [if_neg (show ¬ nI o < 8 by rw [l_8, n_lt (by omega) (by omega)]; omega), l_3, a1, zbd_e, b1, zbd_e, if_pos rfl]
        exact Or.inr ⟨h1, g1, rfl, rfl, ⟨3, _, a2, b2, b3, a3, b4⟩⟩
    have i20 : ¬ nI (X.kd i) = 20 := by rw [l_20, n_eq (by omega) (by omega)]; exact k20
    rw [if_neg i20, if_neg (fun q => k20 (t20.mp q))]
    unfold f_X7_readClause_b_31
    rw [if_neg i7, if_neg i20]
    rcases L_cmp T (f_X12_oneTest d) Pc Pm hz hy with ⟨i', z', y', v', h', g', q1, q2, q3, q4, q5, qb, q6, q7, q8, q9, q10, q11⟩ | ⟨h', g', q1, q2, q3⟩
    · exact Or.inl ⟨i', z', y', v', h', g', q1, q2, q3, q4, q5.mono (by omega), qb, q6, q7, q8, q9, q10, q11⟩
    · exact Or.inr ⟨h', g', q1, q2, q3⟩
