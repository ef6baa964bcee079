/-! the readers' states -/
abbrev zTx : Type := Nat × Nat × (Nat → Int32) × (Nat → Nat) × (Nat → Int32) × (Nat → Nat) × (Nat → Nat)
def zTx.L (X : zTx) : Nat := X.1
def zTx.N (X : zTx) : Nat := X.2.1
def zTx.tp (X : zTx) : Nat → Int32 := X.2.2.1
def zTx.kd (X : zTx) : Nat → Nat := X.2.2.2.1
def zTx.vl (X : zTx) : Nat → Int32 := X.2.2.2.2.1
def zTx.pc (X : zTx) : Nat → Nat := X.2.2.2.2.2.1
def zTx.ep (X : zTx) : Nat → Nat := X.2.2.2.2.2.2
def TX (X : zTx) : Prop := X.L ≤ 400 ∧ X.N ≤ X.L ∧ X.kd X.N = 0 ∧ (∀ i, i < X.N → tkOk (X.kd i) (X.vl i)) ∧ (∀ i, i ≤ X.N → X.pc i ≤ X.L ∧ X.ep i ≤ X.L) ∧ ∀ i, i < X.N → nxT X.L X.tp (X.ep i) (X.kd (i + 1)) (X.vl (i + 1)) (X.pc (i + 1)) (X.ep (i + 1))
theorem TX.lt {X : zTx} (T : TX X) {i : Nat} (hi : i ≤ X.N) (hk : ¬ X.kd i = 0) : i < X.N := by
  rcases Nat.lt_or_ge i X.N with h | h
  · exact h
  · have : i = X.N := by omega
    subst this
    exact absurd T.2.2.1 hk
theorem TX.k24 {X : zTx} (T : TX X) {i : Nat} (hi : i ≤ X.N) : X.kd i ≤ 24 := by
  by_cases c : X.kd i = 0
  · omega
  · exact (T.2.2.2.1 i (T.lt hi c)).2.1
def psC (X : zTx) (i z : Nat) (h : zH) : Prop := i ≤ X.N ∧ TK X.kd X.vl X.pc 0 X.N h ∧ h 29 8 = nI (X.N + 1) ∧ h 29 9 = nI i ∧ h 29 10 = nI (X.kd i) ∧ h 29 6 = 0 ∧ h 34 3 = nI z
def psM (X : zTx) (i y : Nat) (g : zH) : Prop := tpM X.L X.tp g ∧ tkS (X.kd i) (X.vl i) (X.pc i) (X.ep i) g ∧ g 100 12 = nI y
def pF (h h' : zH) : Prop := (∀ c, c ≠ 29 → c ≠ 34 → c ≠ 35 → c ≠ 36 → h' c = h c) ∧ (∀ k, k ≠ 6 → k ≠ 7 → k ≠ 9 → k ≠ 10 → h' 29 k = h 29 k) ∧ ∀ k, k ≠ 3 → h' 34 k = h 34 k
theorem pF.refl (h : zH) : pF h h := ⟨fun _ _ _ _ _ => rfl, fun _ _ _ _ _ => rfl, fun _ _ => rfl⟩
theorem pF.trans {a b c : zH} (x : pF a b) (y : pF b c) : pF a c := ⟨fun k q1 q2 q3 q4 => (y.1 k q1 q2 q3 q4).trans (x.1 k q1 q2 q3 q4), fun k q1 q2 q3 q4 => (y.2.1 k q1 q2 q3 q4).trans (x.2.1 k q1 q2 q3 q4), fun k hk => (y.2.2 k hk).trans (x.2.2 k hk)⟩
def gP (g g' : zH) : Prop := (∀ c, c ≠ 100 → c ≠ 106 → g' c = g c) ∧ ∀ j, (j < 12 ∨ j = 13 ∨ j = 20 ∨ 22 ≤ j) → g' 100 j = g 100 j
theorem gP.refl (g : zH) : gP g g := ⟨fun _ _ _ => rfl, fun _ _ => rfl⟩
theorem gP.trans {a b c : zH} (x : gP a b) (y : gP b c) : gP a c := ⟨fun k q1 q2 => (y.1 k q1 q2).trans (x.1 k q1 q2), fun k hk => (y.2 k hk).trans (x.2 k hk)⟩
def okF (z y : Nat) (h g h' g' : zH) : Prop := pF h h' ∧ h' 29 7 = h 29 7 ∧ gP g g' ∧ g' 100 18 = g 100 18 ∧ g' 100 21 = g 100 21 ∧ (∀ k, k < z → h' 35 k = h 35 k ∧ h' 36 k = h 36 k) ∧ ∀ k, k < 2 * y → g' 106 k = g 106 k
theorem okF.refl (z y : Nat) (h g : zH) : okF z y h g h g := ⟨pF.refl h, rfl, gP.refl g, rfl, rfl, fun _ _ => ⟨rfl, rfl⟩, fun _ _ => rfl⟩
theorem okF.trans {z y z1 y1 : Nat} {h g h1 g1 h2 g2 : zH} (a : okF z y h g h1 g1) (b : okF z1 y1 h1 g1 h2 g2) (hz : z ≤ z1) (hy : y ≤ y1) : okF z y h g h2 g2 := by
  obtain ⟨a1, a2, a3, a4, a5, a6, a7⟩ := a
  obtain ⟨b1, b2, b3, b4, b5, b6, b7⟩ := b
  exact ⟨a1.trans b1, b2.trans a2, a3.trans b3, b4.trans a4, b5.trans a5, fun k hk => ⟨(b6 k (by omega)).1.trans (a6 k hk).1, (b6 k (by omega)).2.trans (a6 k hk).2⟩, fun k hk => (b7 k (by omega)).trans (a7 k hk)⟩
/-- one step, one code, one fault -/
theorem c_step {X : zTx} {i z : Nat} {h : zH} (P : psC X i z h) (hi : i < X.N) (hN : X.N ≤ 400) : ∃ h', f_X7_step h = some (0, h') ∧ psC X (i + 1) z h' ∧ pF h h' ∧ h' 29 7 = h 29 7 ∧ h' 34 = h 34 ∧ h' 35 = h 35 ∧ h' 36 = h 36 := by
  obtain ⟨p1, p2, p3, p4, p5, p6, p7⟩ := P
  unfold f_X7_step
  rw [p6, if_pos rfl, p3, p4, nI_1, if_neg (by rw [n_le (by omega) (by omega)]; omega), zst_e, zup_eq, pk_us, zck_n (by omega) (by decide), n_cl (by omega), zup_ne 31 (by decide), (p2 (i + 1) (by omega) (by omega)).1, zst_e]
  refine ⟨_, rfl, ⟨by omega, fun k k1 k2 => ?_, by rw [zup_eq, pk_un (by decide), zup_eq, pk_un (by decide)]; exact p3, by rw [zup_eq, pk_un (by decide), zup_eq, pk_us], by rw [zup_eq, pk_us], by rw [zup_eq, pk_un (by decide), zup_eq, pk_un (by decide)]; exact p6, by rw [zup_ne 34 (by decide), zup_ne 34 (by decide)]; exact p7⟩, ⟨fun c q1 _ _ _ => by rw [zup_ne c q1, zup_ne c q1], fun k _ _ q3 q4 => by rw [zup_eq, pk_un q4, zup_eq, pk_un q3], fun k _ => by rw [zup_ne 34 (by decide), zup_ne 34 (by decide)]⟩, by rw [zup_eq, pk_un (by decide), zup_eq, pk_un (by decide)], by rw [zup_ne 34 (by decide), zup_ne 34 (by decide)], by rw [zup_ne 35 (by decide), zup_ne 35 (by decide)], by rw [zup_ne 36 (by decide), zup_ne 36 (by decide)]⟩
  rw [zup_ne 31 (by decide), zup_ne 31 (by decide), zup_ne 32 (by decide), zup_ne 32 (by decide), zup_ne 33 (by decide), zup_ne 33 (by decide)]
  exact p2 k k1 k2
theorem c_add0 {z : Nat} {h : zH} (a b : Int32) (h3 : h 34 3 = nI z) (hz : z < 400) : ∃ h', f_X5_add_t34 a b h = some (0, h') ∧ (∀ c, c ≠ 34 → c ≠ 35 → c ≠ 36 → h' c = h c) ∧ (∀ k, k ≠ 3 → h' 34 k = h 34 k) ∧ h' 34 3 = nI (z + 1) ∧ h' 35 = upd (h 35) z a ∧ h' 36 = upd (h 36) z b := by
  unfold f_X5_add_t34
  rw [h3, if_neg (show ¬ (400 : Int32) ≤ nI z by rw [l_400, n_le (by omega) (by omega)]; omega), zck_n hz (by decide), n_cl (by omega), zst_e, zup_ne 34 (by decide), h3, zck_n hz (by decide), n_cl (by omega), zst_e, zup_ne 34 (by decide), zup_ne 34 (by decide), h3, nI_1, zst_e]
  refine ⟨_, rfl, fun c q1 q2 q3 => by rw [zup_ne c q1, zup_ne c q3, zup_ne c q2], fun k hk => by rw [zup_eq, pk_un hk, zup_ne 34 (by decide), zup_ne 34 (by decide)], by rw [zup_eq, pk_us], ?_, ?_⟩
  · rw [zup_ne 35 (by decide), zup_ne 35 (by decide), zup_eq]
  · rw [zup_ne 36 (by decide), zup_eq, zup_ne 36 (by decide)]
theorem c_add {X : zTx} {i z : Nat} {h : zH} (P : psC X i z h) (a b : Int32) (hz : z < 400) : ∃ h', f_X5_add_t34 a b h = some (0, h') ∧ psC X i (z + 1) h' ∧ pF h h' ∧ h' 29 = h 29 ∧ h' 35 = upd (h 35) z a ∧ h' 36 = upd (h 36) z b := by
  obtain ⟨p1, p2, p3, p4, p5, p6, p7⟩ := P
  obtain ⟨h', e1, e2, e3, e4, e5, e6⟩ := c_add0 a b p7 hz
  have e29 : h' 29 = h 29 := e2 29 (by decide) (by decide) (by decide)
  refine ⟨h', e1, ⟨p1, fun k k1 k2 => ?_, by rw [e29]; exact p3, by rw [e29]; exact p4, by rw [e29]; exact p5, by rw [e29]; exact p6, e4⟩, ⟨fun c _ q2 q3 q4 => e2 c q2 q3 q4, fun k _ _ _ _ => by rw [e29], e3⟩, e29, e5, e6⟩
  rw [e2 31 (by decide) (by decide) (by decide), e2 32 (by decide) (by decide) (by decide), e2 33 (by decide) (by decide) (by decide)]
  exact p2 k k1 k2
theorem m_next {X : zTx} {i y : Nat} {g : zH} (T : TX X) (P : psM X i y g) (hi : i < X.N) : ∃ g', f_X12_next0 g = some (0, g') ∧ psM X (i + 1) y g' ∧ gK g g' := by
  obtain ⟨p1, p2, p3⟩ := P
  obtain ⟨g', e1, e2, e3⟩ := T.2.2.2.2.2 i hi zN g p1 p2.2.2.1 (by have := T.1; unfold zN; omega)
  exact ⟨g', e1, ⟨p1.mv e2, e3, by rw [e2.2 12 (by omega)]; exact p3⟩, e2⟩
theorem gK.gP {g g' : zH} (k : gK g g') : gP g g' := ⟨fun c q1 _ => k.1 c q1, fun j hj => k.2 j (by omega)⟩
theorem m_lay {X : zTx} {i y : Nat} {g : zH} (P : psM X i y g) (a b : Int32) (hy : y ≤ 400) : ∃ g', f_X12_lay a b g = some (0, g') ∧ psM X i (y + 1) g' ∧ (∀ c, c ≠ 100 → c ≠ 106 → g' c = g c) ∧ (∀ j, j ≠ 12 → g' 100 j = g 100 j) ∧ g' 106 = upd (upd (g 106) (2 * y) a) (2 * y + 1) b := by
  obtain ⟨p1, p2, p3⟩ := P
  unfold f_X12_lay
  rw [p3, show (2 : Int32) * nI y = nI (2 * y) from n_mul 2 y, zck_n (by omega) (by decide), n_cl (by omega), zst_e, zup_ne 100 (by decide), p3, show (2 : Int32) * nI y = nI (2 * y) from n_mul 2 y, nI_1, zck_n (by omega) (by decide), n_cl (by omega), zst_e, zup_ne 100 (by decide), zup_ne 100 (by decide), p3, nI_1, zst_e]
  have fj : ∀ j, j ≠ 12 → zup (zup (zup g 106 (2 * y) a) 106 (2 * y + 1) b) 100 12 (nI (y + 1)) 100 j = g 100 j := fun j hj => by rw [zup_eq, pk_un hj, zup_ne 100 (by decide), zup_ne 100 (by decide)]
  refine ⟨_, rfl, ⟨⟨by rw [fj 13 (by decide)]; exact p1.1, fun k hk => by rw [zup_ne 107 (by decide), zup_ne 107 (by decide), zup_ne 107 (by decide)]; exact p1.2 k hk⟩, ⟨by rw [fj 15 (by decide)]; exact p2.1, by rw [fj 16 (by decide)]; exact p2.2.1, by rw [fj 14 (by decide)]; exact p2.2.2.1, fun z => by rw [fj 17 (by decide)]; exact p2.2.2.2 z⟩, by rw [zup_eq, pk_us]⟩, fun c q1 q2 => by rw [zup_ne c q1, zup_ne c q2, zup_ne c q2], fj, by rw [zup_ne 106 (by decide), zup_eq, zup_eq]⟩
/-- the class after a fault -/
def dd (f : Nat) (p : Int32) (h : zH) : Prop := 1 ≤ f ∧ f ≤ 3 ∧ h 29 6 = nI f ∧ h 29 7 = p ∧ h 29 10 = 1 ∧ ∃ z, z ≤ 400 ∧ h 34 3 = nI z
theorem c_blame {X : zTx} {i z : Nat} {h : zH} (P : psC X i z h) (f : Nat) (hf : 1 ≤ f ∧ f ≤ 3) (hz : z ≤ 400) (hN : X.N ≤ 400) : ∃ h', f_X7_blame (nI f) h = some (0, h') ∧ dd f (nI (X.pc i)) h' ∧ pF h h' := by
  obtain ⟨p1, p2, p3, p4, p5, p6, p7⟩ := P
  unfold f_X7_blame
  rw [p6, if_pos rfl, zst_e, zup_eq, pk_un (by decide), p4, zck_n (by omega) (by decide), n_cl (by omega), zup_ne 33 (by decide), (p2 i (by omega) p1).2.2, zst_e, zst_e]
  exact ⟨_, rfl, ⟨hf.1, hf.2, by rw [zup_eq, pk_un (by decide), zup_eq, pk_un (by decide), zup_eq, pk_us], by rw [zup_eq, pk_un (by decide), zup_eq, pk_us], by rw [zup_eq, pk_us], z, hz, by rw [zup_ne 34 (by decide), zup_ne 34 (by decide), zup_ne 34 (by decide)]; exact p7⟩, ⟨fun c q1 _ _ _ => by rw [zup_ne c q1, zup_ne c q1, zup_ne c q1], fun k q1 q2 _ q4 => by rw [zup_eq, pk_un q4, zup_eq, pk_un q2, zup_eq, pk_un q1], fun k _ => by rw [zup_ne 34 (by decide), zup_ne 34 (by decide), zup_ne 34 (by decide)]⟩⟩
theorem m_bad {X : zTx} {i y : Nat} {g : zH} (P : psM X i y g) (f : Nat) : ∃ g', f_X12_bad (nI f) g = some (0, g') ∧ g' 100 18 = nI f ∧ g' 100 19 = nI (X.pc i) ∧ gP g g' := by
  unfold f_X12_bad
  rw [zst_e, zup_eq, pk_un (by decide), P.2.1.2.1, zst_e]
  exact ⟨_, rfl, by rw [zup_eq, pk_un (by decide), zup_eq, pk_us], by rw [zup_eq, pk_us], ⟨fun c q1 _ => by rw [zup_ne c q1, zup_ne c q1], fun j hj => by rw [zup_eq, pk_un (by omega), zup_eq, pk_un (by omega)]⟩⟩
/-- how it can end -/
def FL (h g h' g' : zH) : Prop := ∃ f p, dd f p h' ∧ g' 100 18 = nI f ∧ g' 100 19 = p ∧ pF h h' ∧ gP g g'
theorem FL.pre {h g h1 g1 h' g' : zH} (a : pF h h1) (b : gP g g1) (F : FL h1 g1 h' g') : FL h g h' g' := by
  obtain ⟨f, p, f1, f2, f3, f4, f5⟩ := F
  exact ⟨f, p, f1, f2, f3, a.trans f4, b.trans f5⟩
theorem FL.post {h g h1 g1 h' : zH} (F : FL h g h1 g1) (D : ∀ f p, dd f p h1 → dd f p h') (a : pF h1 h') : FL h g h' g1 := by
  obtain ⟨f, p, f1, f2, f3, f4, f5⟩ := F
  exact ⟨f, p, D f p f1, f2, f3, f4.trans a, f5⟩
/-! the class when all is lost -/
theorem d_step {f : Nat} {p : Int32} {h : zH} (D : dd f p h) : f_X7_step h = some (0, h) := by
  unfold f_X7_step
  rw [D.2.2.1, if_neg (by rw [n_eq0 (by have := D.2.1; omega)]; have := D.1; omega)]
theorem d_blame {f : Nat} {p : Int32} {h : zH} (D : dd f p h) (x : Int32) : f_X7_blame x h = some (0, h) := by
  unfold f_X7_blame
  rw [D.2.2.1, if_neg (by rw [n_eq0 (by have := D.2.1; omega)]; have := D.1; omega)]
theorem d_add {h : zH} (hz : ∃ z, z ≤ 400 ∧ h 34 3 = nI z) (a b : Int32) : ∃ h', f_X5_add_t34 a b h = some (0, h') ∧ pF h h' ∧ ∀ f p, dd f p h → dd f p h' := by
  obtain ⟨z, z1, z2⟩ := hz
  by_cases c : z < 400
  · obtain ⟨h', e1, e2, e3, e4, e5, e6⟩ := c_add0 a b z2 c
    have e29 : h' 29 = h 29 := e2 29 (by decide) (by decide) (by decide)
    refine ⟨h', e1, ⟨fun c _ q2 q3 q4 => e2 c q2 q3 q4, fun k _ _ _ _ => by rw [e29], e3⟩, fun f p D => ?_⟩
    obtain ⟨d1, d2, d3, d4, d5, d6⟩ := D
    exact ⟨d1, d2, by rw [e29]; exact d3, by rw [e29]; exact d4, by rw [e29]; exact d5, z + 1, by omega, e4⟩
  · refine ⟨h, ?_, pF.refl h, fun f p D => D⟩
    unfold f_X5_add_t34
    rw [z2, if_pos (show (400 : Int32) ≤ nI z by rw [l_400, n_le (by omega) (by omega)]; omega)]
theorem d_unit {f : Nat} {p : Int32} {h : zH} (D : dd f p h) (x : Int32) : f_X7_readUnit x h = some (0, h) := by
  unfold f_X7_readUnit f_X7_readUnit_13 f_X7_readUnit_36 f_X7_readUnit_37 f_X7_readUnit_52
  rw [D.2.2.2.2.1, if_neg (show ¬ (1 : Int32) = 2 by decide), if_pos (show (1 : Int32) < 8 by decide), if_pos rfl, if_pos rfl, d_blame D, zbd_e]
theorem d_expect {f : Nat} {p : Int32} {h : zH} (D : dd f p h) (a b : Int32) (ha : 1 < a) : f_X7_expect a b h = some (0, h) := by
  unfold f_X7_expect f_X7_expect_23
  rw [D.2.2.2.2.1, if_pos ha, d_blame D, zbd_e]
theorem d_25 {f : Nat} {p : Int32} {h : zH} (D : dd f p h) (k6 : Int32 → Int32 → Int32 → zH → zR) (n : Nat) (w x3 x4 : Int32) : f_X7_readSum_25 k6 (n + 1) w x3 x4 h = f_X7_readSum_73 k6 w x3 h := by
  simp only [f_X7_readSum_25]
  rw [D.2.2.2.2.1, if_neg (show ¬ (1 : Int32) = 18 by decide), if_neg (show ¬ (1 : Int32) = 19 by decide), ite_self]
theorem d_73 {f : Nat} {p : Int32} {h : zH} (D : dd f p h) (n : Nat) (w x3 : Int32) : ∃ h', f_X7_readSum_73 (f_X7_readSum_6 (n + 1)) w x3 h = some (0, h') ∧ pF h h' ∧ ∀ f p, dd f p h → dd f p h' := by
  have e94 : ∀ f p h, dd f p h → f_X7_readSum_94 (f_X7_readSum_6 (n + 1)) x3 h = some (0, h) := by
    intro f p h D
    unfold f_X7_readSum_94 f_X7_readSum_122 f_X7_readSum_131
    simp only [D.2.2.2.2.1, zlt_e]
    rw [if_neg (show ¬ (1 : Int32) = 16 by decide), if_neg (show ¬ (1 : Int32) = 17 by decide), if_pos trivial]
    simp only [f_X7_readSum_6]
    rw [if_pos trivial, ite_self]
  unfold f_X7_readSum_73 f_X7_readSum_85
  obtain ⟨h', a1, a2, a3⟩ := d_add D.2.2.2.2.2 w 0
  have go : (zbd (f_X5_add_t34 w (0 : Int32) h) fun r3 h4 => (f_X7_readSum_94 (f_X7_readSum_6 (n + 1)) x3 h4)) = some (0, h') := by
    rw [a1, zbd_e, e94 f p h' (a3 f p D)]
  by_cases c1 : w = 16
  · rw [if_pos c1, go]; exact ⟨h', rfl, a2, a3⟩
  · rw [if_neg c1]
    by_cases c2 : w = 17
    · rw [if_pos c2, go]; exact ⟨h', rfl, a2, a3⟩
    · rw [if_neg c2, e94 f p h D]
      exact ⟨h, rfl, pF.refl h, fun _ _ D => D⟩
theorem d_sum {f : Nat} {p : Int32} {h : zH} (D : dd f p h) : ∃ h', f_X7_readSum h = some (0, h') ∧ pF h h' ∧ ∀ f p, dd f p h → dd f p h' := by
  obtain ⟨h', e1, e2, e3⟩ := d_73 D 4094 1 0
  refine ⟨h', ?_, e2, e3⟩
  have e0 : f_X7_readSum h = zbd (f_X7_readUnit (1 : Int32) h) (fun _ h2 => f_X7_readSum_25 (f_X7_readSum_6 4095) zN 1 0 0 h2) := by
    have step : ∀ n, f_X7_readSum_6 (n + 1) 1 1 0 h = zbd (f_X7_readUnit (1 : Int32) h) (fun _ h2 => f_X7_readSum_25 (f_X7_readSum_6 n) zN 1 0 0 h2) := by
      intro n
      simp only [f_X7_readSum_6]
      rw [if_neg (show ¬ (400 : Int32) ≤ 0 by decide), if_neg (show ¬ (1 : Int32) = 0 by decide)]
    exact step 4095
  rw [e0, d_unit D, zbd_e]
  have e25 := d_25 D (f_X7_readSum_6 4095) 4095 1 0 0
  exact e25.trans e1
