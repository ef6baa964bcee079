/-! lines -/
theorem sg.lt {St Nu c : Nat → Int32} {K i j i' j' : Nat} {v : (Nat → Int32) → Int32} (H : sg St Nu c K i j i' j' v) (hK : K ≤ 400) : i' < j' := by
  obtain ⟨h1, h2, h3, h4⟩ := H
  rcases Nat.lt_or_ge i' j' with q | q
  · exact q
  · exfalso
    have e : i' = j' := by omega
    subst e
    obtain ⟨z', p1, p2, p3⟩ := h4 (fun k => c (k - 1400)) (fun k k1 k2 => by omega) (fun _ => 0) 0 0 (fun _ => v (fun _ => 0) + 1) (by omega)
    rw [Nat.sub_self] at p1
    have p1 : some (v (fun _ => 0) + 1) = some (z' 0) := p1
    rw [p2] at p1
    have := Option.some.inj p1
    have h1 : (v (fun _ => 0) + 1) - v (fun _ => 0) = v (fun _ => 0) - v (fun _ => 0) := by rw [this]
    rw [Int32.sub_self, Int32.add_comm, Int32.add_sub_cancel] at h1
    exact absurd h1 (by decide)
def pL (h h' : zH) : Prop := (∀ c, c ≠ 29 → c ≠ 34 → c ≠ 35 → c ≠ 36 → h' c = h c) ∧ ∀ k, k ≠ 6 → k ≠ 7 → k ≠ 9 → k ≠ 10 → h' 29 k = h 29 k
theorem pF.pL {h h' : zH} (a : pF h h') : pL h h' := ⟨a.1, a.2.1⟩
theorem pL.trans {a b c : zH} (x : pL a b) (y : pL b c) : pL a c := ⟨fun k q1 q2 q3 q4 => (y.1 k q1 q2 q3 q4).trans (x.1 k q1 q2 q3 q4), fun k q1 q2 q3 q4 => (y.2 k q1 q2 q3 q4).trans (x.2 k q1 q2 q3 q4)⟩
theorem pL.refl (h : zH) : pL h h := (pF.refl h).pL
def gQ (g g' : zH) : Prop := (∀ c, c ≠ 100 → c ≠ 105 → c ≠ 106 → g' c = g c) ∧ ∀ j, (j < 11 ∨ j = 13 ∨ j = 20 ∨ 22 ≤ j) → g' 100 j = g 100 j
theorem gP.gQ {g g' : zH} (a : gP g g') : gQ g g' := ⟨fun c q1 _ q3 => a.1 c q1 q3, fun j hj => a.2 j (by omega)⟩
theorem gQ.trans {a b c : zH} (x : gQ a b) (y : gQ b c) : gQ a c := ⟨fun k q1 q2 q3 => (y.1 k q1 q2 q3).trans (x.1 k q1 q2 q3), fun k hk => (y.2 k hk).trans (x.2 k hk)⟩
theorem gQ.refl (g : zH) : gQ g g := (gP.refl g).gQ
/-- a line in the reference's lists -/
def mLs (c d : Nat → Int32) (y k : Nat) (x : zLn) : Prop := ∃ a b e, a ≤ b ∧ b ≤ e ∧ e ≤ y ∧ d (3 * k) = nI a ∧ d (3 * k + 1) = nI b ∧ d (3 * k + 2) = nI e ∧ ∀ w : Nat → Int32, (∀ q, a ≤ q → q < e → w (1400 + 2 * q) = c (2 * q) ∧ w (1401 + 2 * q) = c (2 * q + 1)) → (∀ F z, evM w F (b - a) a 0 z = some (x.1 F)) ∧ match x.2 with
  | none => b = e
  | some v => b < e ∧ ∀ F z, evM w F (e - b) b 0 z = some (v F)
theorem mLs.ext {c d c' d' : Nat → Int32} {y y' k : Nat} {x : zLn} (H : mLs c d y k x) (hy : y ≤ y') (hc : ∀ q, q < 2 * y → c' q = c q) (hd : ∀ q, q < 3 * k + 3 → d' q = d q) : mLs c' d' y' k x := by
  obtain ⟨a, b, e, h1, h2, h3, h4, h5, h6, h7⟩ := H
  exact ⟨a, b, e, h1, h2, by omega, by rw [hd _ (by omega)]; exact h4, by rw [hd _ (by omega)]; exact h5, by rw [hd _ (by omega)]; exact h6, fun w hw => h7 w (fun q q1 q2 => ⟨(hw q q1 q2).1.trans (hc _ (by omega)), (hw q q1 q2).2.trans (hc _ (by omega))⟩)⟩
theorem sgM_run {c : Nat → Int32} {K i j : Nat} {v : (Nat → Int32) → Int32} (H : sgM c K i j v) (hK : K ≤ 400) {w : Nat → Int32} (hw : ∀ q, i ≤ q → q < j → w (1400 + 2 * q) = c (2 * q) ∧ w (1401 + 2 * q) = c (2 * q + 1)) (F : Nat → Int32) (z : Nat → Int32) : evM w F (j - i) i 0 z = some (v F) := by
  obtain ⟨z', p1, p2, p3⟩ := H w hw F 0 0 z (by omega)
  rw [Nat.zero_add] at p1
  rw [p1]
  show some (z' 0) = _
  rw [p2]
theorem ln_t : ∀ k, k < 25 → (nI (mk k) = 20 ↔ k = 3) ∧ (nI (mk k) = 3 ↔ k = 4) ∧ (nI (mk k) = 159 ↔ k = 15) ∧ (nI (mk k) = 0 ↔ k = 0) := by decide +kernel
def FLl (h g h' g' : zH) : Prop := ∃ f p, dd f p h' ∧ g' 100 18 = nI f ∧ g' 100 19 = p ∧ pL h h' ∧ gQ g g'
/-- the end of a line that is lost -/
theorem d_55 {f : Nat} {p : Int32} {h : zH} (D : dd f p h) (x : Int32) : ∃ h', f_X7_readLine_55 x h = some (0, h') ∧ pL h h' ∧ ∀ f p, dd f p h → dd f p h' := by
  unfold f_X7_readLine_55
  obtain ⟨h1, a1, a2, a3⟩ := d_add D.2.2.2.2.2 x 0
  rw [d_expect D 15 15 (by decide), zbd_e, a1, zbd_e, zst_e]
  refine ⟨_, rfl, a2.pL.trans ⟨fun c _ q2 _ _ => zup_ne c q2, fun k _ _ _ _ => by rw [zup_ne 29 (by decide)]⟩, fun f p D => ?_⟩
  obtain ⟨d1, d2, d3, d4, d5, z, z1, z2⟩ := a3 f p D
  exact ⟨d1, d2, by rw [zup_ne 29 (by decide)]; exact d3, by rw [zup_ne 29 (by decide)]; exact d4, by rw [zup_ne 29 (by decide)]; exact d5, z, z1, by rw [zup_eq, pk_un (by decide)]; exact z2⟩
theorem d_26 {f : Nat} {p : Int32} {h : zH} (D : dd f p h) : ∃ h', f_X7_readLine_26 h = some (0, h') ∧ pL h h' ∧ ∀ f p, dd f p h → dd f p h' := by
  unfold f_X7_readLine_26
  obtain ⟨h1, a1, a2, a3⟩ := d_sum D
  have D1 := a3 f p D
  obtain ⟨h2, b1, b2, b3⟩ := d_55 D1 1
  rw [d_expect D 3 3 (by decide), zbd_e, a1, zbd_e, zlt_e, D1.2.2.2.2.1, if_neg (show ¬ (1 : Int32) = 4 by decide), b1]
  exact ⟨h2, rfl, a2.pL.trans b2, fun f p D => b3 f p (a3 f p D)⟩
/-- psM does not read the lists of lines -/
theorem psM.l105 {X : zTx} {i y : Nat} {g : zH} (P : psM X i y g) (k : Nat) (x : Int32) : psM X i y (zup g 105 k x) := by
  obtain ⟨p1, p2, p3⟩ := P
  unfold psM tpM tkS
  rw [zup_ne 100 (by decide), zup_ne 107 (by decide)]
  exact ⟨p1, p2, p3⟩
/-- the end of a line -/
theorem L_55 {X : zTx} {i z y ln e0 : Nat} {h g : zH} (T : TX X) (Pc : psC X i z h) (Pm : psM X i y g) (hz : z < i) (hln : ln < 16) (h4 : h 34 4 = nI ln) (g11 : g 100 11 = nI ln) (x : Int32) : (∃ h' g', f_X7_readLine_55 x h = some (0, h') ∧ f_X12_aLine_101 g = some (1, g') ∧ X.kd i = 15 ∧ psC X (i + 1) (z + 1) h' ∧ psM X (i + 1) y g' ∧ h' 34 4 = nI (ln + 1) ∧ g' 100 11 = nI ln ∧ h' 35 = upd (h 35) z x ∧ h' 29 7 = h 29 7 ∧ (∀ k, k < z → h' 36 k = h 36 k) ∧ g' 105 = upd (g 105) (3 * ln + 2) (nI y) ∧ g' 106 = g 106 ∧ g' 100 18 = g 100 18 ∧ pL h h' ∧ gQ g g') ∨ (∃ h' g', f_X7_readLine_55 x h = some (0, h') ∧ f_X12_aLine_101 g = some (0, g') ∧ FLl h g h' g' ∧ g' 100 11 = nI ln) := by
  have hN : X.N ≤ 400 := by have := T.1; have := T.2.1; omega
  have hi := Pc.1
  unfold f_X7_readLine_55 f_X12_aLine_101
  rw [g11, show (3 : Int32) * nI ln + 2 = nI (3 * ln + 2) by rw [show (3 : Int32) * nI ln = nI (3 * ln) from n_mul 3 ln]; exact n_add _ 2, zck_n (by omega) (by decide), n_cl (by omega), Pm.2.2, zst_e]
  have Pm1 := Pm.l105 (3 * ln + 2) (nI y)
  generalize hY : zup g 105 (3 * ln + 2) (nI y) = Y at Pm1
  have yc : ∀ c, c ≠ 105 → Y c = g c := fun c hc => by rw [← hY, zup_ne c hc]
  have y105 : Y 105 = upd (g 105) (3 * ln + 2) (nI y) := by rw [← hY, zup_eq]
  obtain ⟨-, -, t15, -⟩ := ln_t (X.kd i) (by have := T.k24 hi; omega)
  have ex := c_exp T Pc 15 15 (by omega) (by omega)
  have ex : f_X7_expect (15 : Int32) (15 : Int32) h = _ := ex
  rw [ex]
  unfold f_X12_need
  rw [Pm1.2.1.1]
  by_cases k15 : X.kd i = 15
  · have hiN : i < X.N := T.lt hi (by omega)
    obtain ⟨h1, a1, a2, a3, a4, a5, a6, a7⟩ := c_step Pc hiN hN
    obtain ⟨g1, b1, b2, b3⟩ := m_next T Pm1 hiN
    obtain ⟨h2, c1, c2, c3, c4, c5, c6⟩ := c_add a2 x 0 (by omega)
    rw [if_pos (by omega), a1, zbd_e, zbd_e, c1, zbd_e, zst_e, if_pos (t15.mpr k15), b1, zbd_e, zbd_e]
    have h4' : h2 34 4 = nI ln := by rw [c3.2.2 4 (by decide), a5]; exact h4
    rw [h4', nI_1]
    refine Or.inl ⟨_, g1, rfl, rfl, k15, ?_, b2, by rw [zup_eq, pk_us], by rw [b3.2 11 (by omega), yc 100 (by decide)]; exact g11, by rw [zup_ne 35 (by decide), c5, a6], by rw [zup_ne 29 (by decide), c4, a4], fun k hk => by rw [zup_ne 36 (by decide), c6, upd_lt hk, a7], by rw [b3.1 105 (by decide), y105], by rw [b3.1 106 (by decide), yc 106 (by decide)], by rw [b3.2 18 (by omega), yc 100 (by decide)], ?_, ?_⟩
    · obtain ⟨p1, p2, p3, p4, p5, p6, p7⟩ := c2
      refine ⟨p1, fun k k1 k2 => ?_, by rw [zup_ne 29 (by decide)]; exact p3, by rw [zup_ne 29 (by decide)]; exact p4, by rw [zup_ne 29 (by decide)]; exact p5, by rw [zup_ne 29 (by decide)]; exact p6, by rw [zup_eq, pk_un (by decide)]; exact p7⟩
      rw [zup_ne 31 (by decide), zup_ne 32 (by decide), zup_ne 33 (by decide)]
      exact p2 k k1 k2
    · exact (a3.pL.trans c3.pL).trans ⟨fun c _ q2 _ _ => zup_ne c q2, fun k _ _ _ _ => by rw [zup_ne 29 (by decide)]⟩
    · exact ⟨fun c q1 q2 q3 => by rw [b3.1 c q1, yc c q2], fun j hj => by rw [b3.2 j (by omega), yc 100 (by decide)]⟩
  · obtain ⟨h1, a1, a2, a3⟩ := c_blame Pc 1 (by omega) (by omega) hN
    obtain ⟨g1, b1, b2, b3, b4⟩ := m_bad Pm1 1
    obtain ⟨h2, c1, c2, c3⟩ := d_add a2.2.2.2.2.2 x 0
    have a1 : f_X7_blame (1 : Int32) h = some (0, h1) := a1
    have b1 : f_X12_bad (1 : Int32) Y = some (0, g1) := b1
    rw [if_neg (by omega), a1, zbd_e, zbd_e, c1, zbd_e, zst_e, if_neg (fun q => k15 (t15.mp q)), b1, zbd_e]
    obtain ⟨d1, d2, d3, d4, d5, zz, z1, z2⟩ := c3 _ _ a2
    refine Or.inr ⟨_, g1, rfl, rfl, ⟨1, _, ⟨d1, d2, by rw [zup_ne 29 (by decide)]; exact d3, by rw [zup_ne 29 (by decide)]; exact d4, by rw [zup_ne 29 (by decide)]; exact d5, zz, z1, by rw [zup_eq, pk_un (by decide)]; exact z2⟩, b2, b3, ?_, ?_⟩, by rw [b4.2 11 (by omega), yc 100 (by decide)]; exact g11⟩
    · exact (a3.pL.trans c2.pL).trans ⟨fun c _ q2 _ _ => zup_ne c q2, fun k _ _ _ _ => by rw [zup_ne 29 (by decide)]⟩
    · exact ⟨fun c q1 q2 q3 => by rw [b4.1 c q1 q3, yc c q2], fun j hj => by rw [b4.2 j (by omega), yc 100 (by decide)]⟩
theorem L_line {X : zTx} {i z y : Nat} {h g : zH} {ls : List zLn} (T : TX X) (Pc : psC X i z h) (Pm : psM X i y g) (hz : z ≤ i) (hy : y ≤ z) (hln : ls.length ≤ 16) (h4 : h 34 4 = nI ls.length) (g11 : g 100 11 = nI ls.length) (W : lwC (h 35) (h 36) z ls) (M : ∀ k x, ls[k]? = some x → mLs (g 106) (g 105) y k x) : (∃ i' z' y' x h' g', f_X7_readLine h = some (0, h') ∧ f_X12_aLine g = some (1, g') ∧ psC X i' z' h' ∧ psM X i' y' g' ∧ i < i' ∧ z' ≤ i' ∧ y' ≤ z' ∧ (ls ++ [x]).length ≤ 16 ∧ h' 34 4 = nI (ls ++ [x]).length ∧ g' 100 11 = nI ls.length ∧ lwC (h' 35) (h' 36) z' (ls ++ [x]) ∧ (∀ k w, (ls ++ [x])[k]? = some w → mLs (g' 106) (g' 105) y' k w) ∧ h' 29 7 = h 29 7 ∧ g' 100 18 = g 100 18 ∧ pL h h' ∧ gQ g g') ∨ (∃ h' g', f_X7_readLine h = some (0, h') ∧ f_X12_aLine g = some (0, g') ∧ FLl h g h' g' ∧ g' 100 11 = nI ls.length) := by
  have hN : X.N ≤ 400 := by have := T.1; have := T.2.1; omega
  have hi := Pc.1
  have k24 := T.k24 hi
  obtain ⟨t3, -⟩ := ln_t (X.kd i) (by omega)
  unfold f_X7_readLine f_X12_aLine
  rw [Pc.2.2.2.2.1, Pm.2.1.1]
  by_cases k3 : X.kd i = 3
  case neg =>
    have i3 : ¬ nI (X.kd i) = 3 := by rw [l_3, n_eq (by omega) (by omega)]; exact k3
    rw [if_neg i3, if_neg (fun q => k3 (t3.mp q))]
    obtain ⟨h1, a1, a2, a3⟩ := c_blame Pc 1 (by omega) (by omega) hN
    obtain ⟨g1, b1, b2, b3, b4⟩ := m_bad Pm 1
    have a1 : f_X7_blame (1 : Int32) h = some (0, h1) := a1
    have b1 : f_X12_bad (1 : Int32) g = some (0, g1) := b1
    have ex := c_exp T Pc 3 3 (by omega) (by omega)
    have ex : f_X7_expect (3 : Int32) (3 : Int32) h = _ := ex
    unfold f_X7_readLine_26
    obtain ⟨h2, c1, c2, c3⟩ := d_sum a2
    have D2 := c3 _ _ a2
    obtain ⟨h3, d1, d2, d3⟩ := d_55 D2 1
    rw [ex, if_neg (by omega), a1, zbd_e, zbd_e, c1, zbd_e, zlt_e, D2.2.2.2.2.1, if_neg (show ¬ (1 : Int32) = 4 by decide), d1, b1, zbd_e]
    exact Or.inr ⟨h3, g1, rfl, rfl, ⟨1, _, d3 _ _ D2, b2, b3, a3.pL.trans (c2.pL.trans d2), b4.gQ⟩, by rw [b4.2 11 (by omega)]; exact g11⟩
  have i3 : nI (X.kd i) = 3 := by rw [k3]; rfl
  have hiN : i < X.N := T.lt hi (by omega)
  rw [if_pos i3, if_pos (t3.mpr k3), h4, g11]
  by_cases l16 : ls.length = 16
  · obtain ⟨h1, a1, a2, a3⟩ := c_blame Pc 3 (by omega) (by omega) hN
    obtain ⟨g1, b1, b2, b3, b4⟩ := m_bad Pm 3
    have a1 : f_X7_blame (3 : Int32) h = some (0, h1) := a1
    have b1 : f_X12_bad (3 : Int32) g = some (0, g1) := b1
    rw [if_neg (show ¬ nI ls.length < 16 by rw [l_16, n_lt (by omega) (by omega)]; omega), a1, zbd_e, if_pos (show nI ls.length = 16 by rw [l16]; rfl), b1, zbd_e]
    exact Or.inr ⟨h1, g1, rfl, rfl, ⟨3, _, a2, b2, b3, a3.pL, b4.gQ⟩, by rw [b4.2 11 (by omega)]; exact g11⟩
  rw [if_pos (show nI ls.length < 16 by rw [l_16, n_lt (by omega) (by omega)]; omega), if_neg (show ¬ nI ls.length = 16 by rw [l_16, n_eq (by omega) (by omega)]; exact l16), zst_e]
  generalize hln' : ls.length = ln at *
  -- laugh
  have Pm0 : psM X i y (zup g 100 21 0) := by
    obtain ⟨p1, p2, p3⟩ := Pm
    have fj : ∀ j, j ≠ 21 → zup g 100 21 0 100 j = g 100 j := fun j hj => by rw [zup_eq, pk_un hj]
    exact ⟨⟨by rw [fj 13 (by decide)]; exact p1.1, fun k hk => by rw [zup_ne 107 (by decide)]; exact p1.2 k hk⟩, ⟨by rw [fj 15 (by decide)]; exact p2.1, by rw [fj 16 (by decide)]; exact p2.2.1, by rw [fj 14 (by decide)]; exact p2.2.2.1, fun z => by rw [fj 17 (by decide)]; exact p2.2.2.2 z⟩, by rw [fj 12 (by decide)]; exact p3⟩
  obtain ⟨h1, a1, a2, a3, a4, a5, a6, a7⟩ := c_step Pc hiN hN
  obtain ⟨g1, b1, b2, b3⟩ := m_next T Pm0 hiN
  have ex := c_exp T Pc 3 3 (by omega) (by omega)
  have ex : f_X7_expect (3 : Int32) (3 : Int32) h = _ := ex
  unfold f_X7_readLine_26
  have g1_11 : g1 100 11 = nI ln := by rw [b3.2 11 (by omega), zup_eq, pk_un (by decide)]; exact g11
  rw [ex, if_pos (by omega), a1, zbd_e, zbd_e, b1, zbd_e, g1_11, show (3 : Int32) * nI ln = nI (3 * ln) from n_mul 3 ln, zck_n (by omega) (by decide), n_cl (by omega), b2.2.2, zst_e]
  have Pm2 := b2.l105 (3 * ln) (nI y)
  generalize hA : zup g1 105 (3 * ln) (nI y) = A at Pm2
  have ac : ∀ c, c ≠ 105 → A c = g1 c := fun c hc => by rw [← hA, zup_ne c hc]
  have a105 : A 105 = upd (g 105) (3 * ln) (nI y) := by rw [← hA, zup_eq, b3.1 105 (by decide), zup_ne 105 (by decide)]
  have GA : gQ g A := ⟨fun c q1 q2 q3 => by rw [ac c q2, b3.1 c q1, zup_ne c q1], fun j hj => by rw [ac 100 (by decide), b3.2 j (by omega), zup_eq, pk_un (by omega)]⟩
  have A18 : A 100 18 = g 100 18 := by rw [ac 100 (by decide), b3.2 18 (by omega), zup_eq, pk_un (by decide)]
  have A106 : A 106 = g 106 := by rw [ac 106 (by decide), b3.1 106 (by decide), zup_ne 106 (by decide)]
  have A11 : A 100 11 = nI ln := by rw [ac 100 (by decide)]; exact g1_11
  rcases L_sum T a2 Pm2 (by omega) hy with ⟨i2, z2, y2, v, h2, g2, c1, c2, c3, c4, c5, c6, c7, c8, c9, c10', c11⟩ | ⟨h2, g2, c1, c2, c3⟩
  case inr =>
    have c3' := c3
    obtain ⟨f, p, f1, f2, f3, f4, f5⟩ := c3'
    obtain ⟨h3, d1, d2, d3⟩ := d_55 f1 1
    rw [c1, zbd_e, zlt_e, f1.2.2.2.2.1, if_neg (show ¬ (1 : Int32) = 4 by decide), d1, c2, zbd_e, if_pos rfl]
    exact Or.inr ⟨h3, g2, rfl, rfl, ⟨f, p, d3 f p f1, f2, f3, a3.pL.trans (f4.pL.trans d2), GA.trans f5.gQ⟩, by rw [f5.2 11 (by omega)]; exact A11⟩
  have c11_11 : g2 100 11 = nI ln := by rw [c11.2.2.1.2 11 (by omega)]; exact A11
  have hi2 := c3.1
  rw [c1, zbd_e, zlt_e, c3.2.2.2.2.1, c2, zbd_e, if_neg (show ¬ (1 : Int32) = 0 by decide), c11_11, show (3 : Int32) * nI ln + 1 = nI (3 * ln + 1) by rw [show (3 : Int32) * nI ln = nI (3 * ln) from n_mul 3 ln]; exact n_add _ 1, zck_n (by omega) (by decide), n_cl (by omega), c4.2.2, zst_e]
  have Pm3 := c4.l105 (3 * ln + 1) (nI y2)
  generalize hB : zup g2 105 (3 * ln + 1) (nI y2) = B at Pm3
  have bc : ∀ c, c ≠ 105 → B c = g2 c := fun c hc => by rw [← hB, zup_ne c hc]
  have b105 : B 105 = upd (upd (g 105) (3 * ln) (nI y)) (3 * ln + 1) (nI y2) := by rw [← hB, zup_eq, c11.2.2.1.1 105 (by decide) (by decide), a105]
  have GB : gQ g B := GA.trans (c11.2.2.1.gQ.trans ⟨fun c q1 q2 q3 => bc c q2, fun j hj => by rw [bc 100 (by decide)]⟩)
  have B18 : B 100 18 = g 100 18 := by rw [bc 100 (by decide), c11.2.2.2.1, A18]
  have B106 : B 106 = g2 106 := bc 106 (by decide)
  have B11 : B 100 11 = nI ln := by rw [bc 100 (by decide)]; exact c11_11
  have B106l : ∀ k, k < 2 * y → B 106 k = g 106 k := fun k hk => by rw [B106, c11.2.2.2.2.2.2 k hk, A106]
  have h2_4 : h2 34 4 = nI ln := by rw [c11.1.2.2 4 (by decide), a5]; exact h4
  have h2c : ∀ k, k < z → h2 35 k = h 35 k ∧ h2 36 k = h 36 k := fun k hk => by rw [(c11.2.2.2.2.2.1 k hk).1, (c11.2.2.2.2.2.1 k hk).2, a6, a7]; exact ⟨rfl, rfl⟩
  obtain ⟨-, t4, -, -⟩ := ln_t (X.kd i2) (by have := T.k24 hi2; omega)
  rw [Pm3.2.1.1]
  by_cases k4 : X.kd i2 = 4
  · -- when
    have i4 : nI (X.kd i2) = 4 := by rw [k4]; rfl
    have hiN2 : i2 < X.N := T.lt hi2 (by omega)
    obtain ⟨h3, d1, d2, d3, d4, d5, d6, d7⟩ := c_step c3 hiN2 hN
    obtain ⟨g3, e1, e2, e3⟩ := m_next T Pm3 hiN2
    rw [if_pos i4, if_pos (t4.mpr k4), d1, zbd_e, e1, zbd_e, i4]
    have g3_21 : g3 100 21 = nI 0 := by rw [e3.2 21 (by omega), bc 100 (by decide), c11.2.2.2.2.1, ac 100 (by decide), b3.2 21 (by omega), zup_eq, pk_us]; rfl
    have G3 : gQ g g3 := GB.trans e3.gP.gQ
    rcases L_cond T (f_X7_readClause 12) (f_X12_oneTest 12) (L_clause T 12 0 (by omega) (by omega)) (d_clause 11) (by omega) (i2 + 1) z2 y2 h3 g3 d2 e2 (by omega) c8 g3_21 with ⟨i4', z4, y4, t, h4', g4, q1, q2, q3, q4, q5, qb, q6, q7, q8, q9, q10, q11⟩ | ⟨h4', g4, q1, q2, q3⟩
    · have q1 : f_X7_readCondition (f_X7_readClause 12) 0 h3 = some (0, h4') := q1
      rw [q1, zbd_e, q2, zbd_e, if_neg (show ¬ (1 : Int32) = 0 by decide)]
      have g4_11 : g4 100 11 = nI ln := by rw [q11.2.2.1.2 11 (by omega), e3.2 11 (by omega)]; exact B11
      rcases L_55 (e0 := 0) T q3 q4 (by omega) (by omega) (by rw [q11.1.2.2 4 (by decide), d5]; exact h2_4) g4_11 4 with ⟨h5, g5, r1, r2, r3, r4, r5, r6, r7, r8, r9, r10, r11, r12, r13, r14, r15⟩ | ⟨h5, g5, r1, r2, r3, rr⟩
      · rw [r1, r2]
        have hc4 : ∀ k, k < z2 → h5 35 k = h2 35 k ∧ h5 36 k = h2 36 k := fun k hk => by rw [r8, upd_lt (by omega), r10 k (by omega), (q11.2.2.2.2.2.1 k hk).1, (q11.2.2.2.2.2.1 k hk).2, d6, d7]; exact ⟨rfl, rfl⟩
        have S1 : sg (h5 35) (h5 36) (g5 106) 4 z z2 y y2 v := c5.ext hc4 (fun k hk => by rw [r12, q11.2.2.2.2.2.2 k hk, e3.1 106 (by decide), B106])
        have S2 : sg (h5 35) (h5 36) (g5 106) (5 + 2 * (8 - 0) + 2) z2 z4 y2 y4 t := q5.ext (fun k hk => by rw [r8, upd_lt hk, r10 k hk]; exact ⟨rfl, rfl⟩) (fun k hk => by rw [r12])
        have lt := S2.lt (by omega)
        refine Or.inl ⟨i4' + 1, z4 + 1, y4, (v, some t), h5, g5, rfl, rfl, r4, r5, by omega, by omega, by omega, ?_, ?_, r7, ?_, ?_, by rw [r9, q11.2.1, d4, c11.2.1, a4], by rw [r13, q11.2.2.2.1, e3.2 18 (by omega), B18], a3.pL.trans (c11.1.pL.trans (d3.pL.trans (q11.1.pL.trans r14))), G3.trans (q11.2.2.1.gQ.trans r15)⟩
        · rw [List.length_append, hln']; show ln + 1 ≤ 16; omega
        · rw [r6, List.length_append, hln']; rfl
        · exact lwC_when (W.ext (fun k hk => by rw [(hc4 k (by omega)).1, (hc4 k (by omega)).2]; exact h2c k hk)) S1 S2 qb (by omega) (by omega) (by rw [r8, pk_us])
        · intro k w hw
          have e105 : ∀ q, q < 3 * ln → g5 105 q = g 105 q := fun q hq => by rw [r11, q11.2.2.1.1 105 (by decide) (by decide), e3.1 105 (by decide), b105, upd_lt (by omega), upd_lt (by omega), upd_lt (by omega)]
          by_cases kk : k < ln
          · rw [List.getElem?_append_left (by omega)] at hw
            exact (M k w hw).ext (by omega) (fun q hq => by rw [r12, q11.2.2.2.2.2.2 q (by omega), e3.1 106 (by decide), B106l q hq]) (fun q hq => e105 q (by omega))
          · rw [List.getElem?_append_right (by omega), hln'] at hw
            have : k = ln := by
              have := (List.getElem?_eq_some_iff.mp hw).1
              simp at this
              omega
            subst this
            rw [Nat.sub_self] at hw
            have hw := Option.some.inj hw
            subst hw
            refine ⟨y, y2, y4, by omega, by omega, Nat.le_refl _, ?_, ?_, ?_, fun w hw => ⟨fun F z => ?_, lt, fun F z => ?_⟩⟩
            · rw [r11, pk_un (by omega), q11.2.2.1.1 105 (by decide) (by decide), e3.1 105 (by decide), b105, pk_un (by omega), pk_us]
            · rw [r11, pk_un (by omega), q11.2.2.1.1 105 (by decide) (by decide), e3.1 105 (by decide), b105, pk_us]
            · rw [r11, pk_us]
            · exact sgM_run S1.2.2.2 (by omega) (fun q q1 q2 => hw q q1 (by omega)) F z
            · exact sgM_run S2.2.2.2 (by omega) (fun q q1 q2 => hw q (by omega) q2) F z
      · rw [r1, r2]
        obtain ⟨f, p, f1, f2, f3, f4, f5⟩ := r3
        refine Or.inr ⟨h5, g5, rfl, rfl, ⟨f, p, f1, f2, f3, a3.pL.trans (c11.1.pL.trans (d3.pL.trans (q11.1.pL.trans f4))), G3.trans (q11.2.2.1.gQ.trans f5)⟩, rr⟩
    · have q1 : f_X7_readCondition (f_X7_readClause 12) 0 h3 = some (0, h4') := q1
      have q3' := q3
      obtain ⟨f, p, f1, f2, f3, f4, f5⟩ := q3'
      obtain ⟨h5, r1, r2, r3⟩ := d_55 f1 4
      rw [q1, zbd_e, r1, q2, zbd_e, if_pos rfl]
      exact Or.inr ⟨h5, g4, rfl, rfl, ⟨f, p, r3 f p f1, f2, f3, a3.pL.trans (c11.1.pL.trans (d3.pL.trans (f4.pL.trans r2))), G3.trans f5.gQ⟩, by rw [f5.2 11 (by omega), e3.2 11 (by omega)]; exact B11⟩
  · -- without
    have i4 : ¬ nI (X.kd i2) = 4 := by rw [l_4, n_eq (by have := T.k24 hi2; omega) (by omega)]; exact k4
    rw [if_neg i4, if_neg (fun q => k4 (t4.mp q))]
    rcases L_55 (e0 := 0) T c3 Pm3 (by omega) (by omega) h2_4 B11 (nI (X.kd i2)) with ⟨h5, g5, r1, r2, r3, r4, r5, r6, r7, r8, r9, r10, r11, r12, r13, r14, r15⟩ | ⟨h5, g5, r1, r2, r3, rr⟩
    · rw [r1, r2]
      have hc4 : ∀ k, k < z2 → h5 35 k = h2 35 k ∧ h5 36 k = h2 36 k := fun k hk => by rw [r8, upd_lt hk, r10 k hk]; exact ⟨rfl, rfl⟩
      have S1 : sg (h5 35) (h5 36) (g5 106) 4 z z2 y y2 v := c5.ext hc4 (fun k hk => by rw [r12, B106])
      refine Or.inl ⟨i2 + 1, z2 + 1, y2, (v, none), h5, g5, rfl, rfl, r4, r5, by omega, by omega, by omega, ?_, ?_, r7, ?_, ?_, by rw [r9, c11.2.1, a4], by rw [r13, B18], a3.pL.trans (c11.1.pL.trans r14), GB.trans r15⟩
      · rw [List.length_append, hln']; show ln + 1 ≤ 16; omega
      · rw [r6, List.length_append, hln']; rfl
      · exact lwC_line (W.ext (fun k hk => by rw [(hc4 k (by omega)).1, (hc4 k (by omega)).2]; exact h2c k hk)) S1 (by omega) (by rw [r8, pk_us, r3]; rfl)
      · intro k w hw
        have e105 : ∀ q, q < 3 * ln → g5 105 q = g 105 q := fun q hq => by rw [r11, b105, upd_lt (by omega), upd_lt (by omega), upd_lt (by omega)]
        by_cases kk : k < ln
        · rw [List.getElem?_append_left (by omega)] at hw
          exact (M k w hw).ext (by omega) (fun q hq => by rw [r12, B106l q hq]) (fun q hq => e105 q (by omega))
        · rw [List.getElem?_append_right (by omega), hln'] at hw
          have : k = ln := by
            have := (List.getElem?_eq_some_iff.mp hw).1
            simp at this
            omega
          subst this
          rw [Nat.sub_self] at hw
          have hw := Option.some.inj hw
          subst hw
          refine ⟨y, y2, y2, by omega, Nat.le_refl _, Nat.le_refl _, ?_, ?_, ?_, fun w hw => ⟨fun F z => ?_, rfl⟩⟩
          · rw [r11, pk_un (by omega), b105, pk_un (by omega), pk_us]
          · rw [r11, pk_un (by omega), b105, pk_us]
          · rw [r11, pk_us]
          · exact sgM_run S1.2.2.2 (by omega) hw F z
    · rw [r1, r2]
      obtain ⟨f, p, f1, f2, f3, f4, f5⟩ := r3
      refine Or.inr ⟨h5, g5, rfl, rfl, ⟨f, p, f1, f2, f3, a3.pL.trans (c11.1.pL.trans f4), GB.trans f5⟩, rr⟩
