theorem m6n : ∀ k, k < 6 → (nI k + 1) - (nI k + 1) / 6 * 6 = nI ((k + 1) % 6) := by decide +kernel
theorem m6c : ∀ k, k < 24 → nI k - nI k / 6 * 6 = nI (k % 6) := by decide +kernel
/-- the next heir is so far -/
def hD (s T d : Nat) : Prop := d ≤ 5 ∧ s.testBit ((T + d) % 6) = true ∧ ∀ j, j < d → s.testBit ((T + j) % 6) = false
theorem hD_ex0 : ∀ s, s < 64 → ¬ s = 0 → ∀ T, T < 6 → ∃ d, d < 6 ∧ s.testBit ((T + d) % 6) = true ∧ ∀ j, j < d → s.testBit ((T + j) % 6) = false := by decide +kernel
theorem hD_ex {s : Nat} (h1 : s < 64) (h2 : ¬ s = 0) (T : Nat) : ∃ d, hD s T d := by
  obtain ⟨d, d1, d2, d3⟩ := hD_ex0 s h1 h2 (T % 6) (by omega)
  refine ⟨d, by omega, ?_, fun j hj => ?_⟩
  · rw [← d2]; congr 1; omega
  · rw [← d3 j hj]; congr 1; omega
theorem hD_next {s T d : Nat} (h : hD s T (d + 1)) : hD s (T + 1) d := by
  obtain ⟨h1, h2, h3⟩ := h
  refine ⟨by omega, ?_, fun j hj => ?_⟩
  · rw [← h2]; congr 1; omega
  · rw [← h3 (j + 1) (by omega)]; congr 1; omega
theorem q_next (s : Nat) (g : zH) : ∀ d n T, hD s T d → d < n → f_X12_nextOf_2 n (nI s) (nI (T % 6)) g = some (nI ((T + d) % 6), g) := by
  intro d
  induction d with
  | zero =>
    intro n T hd hn
    obtain ⟨n, rfl⟩ : ∃ m, n = m + 1 := ⟨n - 1, by omega⟩
    simp only [f_X12_nextOf_2]
    rw [hb_in _ _ (by omega), hb_nI _ _ (by omega), if_neg]
    · rfl
    · rw [if_pos (show s.testBit (T % 6) = true from hd.2.1)]; decide
  | succ d ih =>
    intro n T hd hn
    obtain ⟨n, rfl⟩ : ∃ m, n = m + 1 := ⟨n - 1, by omega⟩
    simp only [f_X12_nextOf_2]
    have h0 : s.testBit (T % 6) = false := hd.2.2 0 (by omega)
    rw [hb_in _ _ (by omega), hb_nI _ _ (by omega), if_pos, zlt, m6n _ (by omega), show (T % 6 + 1) % 6 = (T + 1) % 6 by omega, ih n (T + 1) (hD_next hd) (by omega), show T + 1 + d = T + (d + 1) by omega]
    rw [h0]; rfl
theorem q_inh_end (x1 x2 x3 : Int32) (left : Nat) (h4 : left ≤ 4) (n T : Nat) (h : zH) : f_X3_inherit_14 (n + 1) x1 x2 x3 (nI left) (nI left) (nI T) h = some (nI left, h) := by
  simp only [f_X3_inherit_14, f_X3_inherit_62]
  rw [if_pos (show nI left ≤ nI left from Int32.le_refl _)]
  split <;> rfl
theorem q_inh_skip (x1 x2 : Int32) (s : Nat) (left gone : Nat) (hl : left ≤ 4) (hg : gone < left) (h : zH) : ∀ d n T, hD s T d → T + d ≤ 23 → f_X3_inherit_14 (n + d) x1 x2 (nI s) (nI left) (nI gone) (nI T) h = f_X3_inherit_14 n x1 x2 (nI s) (nI left) (nI gone) (nI (T + d)) h := by
  intro d
  induction d with
  | zero => intro n T _ _; rfl
  | succ d ih =>
    intro n T hd hT
    rw [← Nat.add_assoc]
    have e : f_X3_inherit_14 (n + d + 1) x1 x2 (nI s) (nI left) (nI gone) (nI T) h = f_X3_inherit_14 (n + d) x1 x2 (nI s) (nI left) (nI gone) (nI (T + 1)) h := by
      simp only [f_X3_inherit_14]
      rw [if_neg (show ¬ (24 : Int32) ≤ nI T by rw [l_24, n_le (by omega) (by omega)]; omega), if_neg (by rw [n_le (by omega) (by omega)]; omega)]
      simp only [zlt]
      have h0 : s.testBit (T % 6) = false := hd.2.2 0 (by omega)
      rw [m6c T (by omega), q_isIn _ (by omega), hb_nI _ _ (by omega), h0]
      simp only [zbd, f_X3_inherit_56, zlt, nI_1]
      rfl
    rw [e, ih n (T + 1) (hD_next hd) (by omega), show T + 1 + d = T + (d + 1) by omega]
theorem q_inh_hit (i a : Nat) (s : Nat) (left gone : Nat) (hl : left ≤ 4) (hg : gone < left) (h h' : zH) (n T : Nat) (hT : T ≤ 23) (hs : s.testBit (T % 6) = true) (hm : f_X3_move (nI i) 1 (nI a) (nI (T % 6)) h = some (0, h')) : f_X3_inherit_14 (n + 1) (nI i) (nI a) (nI s) (nI left) (nI gone) (nI T) h = f_X3_inherit_14 n (nI i) (nI a) (nI s) (nI left) (nI (gone + 1)) (nI (T + 1)) h' := by
  simp only [f_X3_inherit_14]
  rw [if_neg (show ¬ (24 : Int32) ≤ nI T by rw [l_24, n_le (by omega) (by omega)]; omega), if_neg (by rw [n_le (by omega) (by omega)]; omega)]
  simp only [zlt]
  rw [m6c T (by omega), q_isIn _ (by omega), hb_nI _ _ (by omega), hs]
  simp only [zbd, if_true, c10, if_false]
  rw [hm]
  simp only [f_X3_inherit_56, zlt, nI_1]
theorem q_inhM (k33 : Int32 → Int32 → Int32 → Int32 → zH → zR) (x1 x2 x3 : Int32) (i n : Nat) (hv : Int32) (g : zH) : f_X12_heirs_60 k33 (n + 1) x1 x2 x3 (nI i) hv 0 g = k33 x1 x2 x3 (nI (i + 1)) g := by
  simp only [f_X12_heirs_60, zlt, nI_1]
  rw [if_pos (by decide)]
/-- one half is left to the heirs -/
theorem q_inh {i a s left : Nat} (k33 : Int32 → Int32 → Int32 → Int32 → zH → zR) (hi : i < 16) (ha : a < 6) (hl : left ≤ 4) (hs1 : s < 64) (hs0 : ¬ s = 0) (hsa : s.testBit a = false) : ∀ r gone T d cnt n1 n2 h g qf, zCore h g → hQ (h 6) (g 101) i qf → qf a = r → gone + r = left → hD s T d → T + d ≤ 6 * gone + 5 → 6 * r + 7 ≤ n1 → r < n2 → ∃ h' g', f_X3_inherit_14 n1 (nI i) (nI a) (nI s) (nI left) (nI gone) (nI T) h = some (nI left, h') ∧ f_X12_heirs_60 k33 n2 (nI a) (nI s) (nI cnt) (nI i) (nI ((T + d) % 6)) (nI r) g = k33 (nI a) (nI s) (nI (cnt + r)) (nI (i + 1)) g' ∧ zCore h' g' ∧ (∀ c, c ≠ 6 → h' c = h c) ∧ (∀ c, c ≠ 101 → g' c = g c) ∧ ∀ j, (j < 23 + 10 * i ∨ 29 + 10 * i ≤ j) → g' 101 j = g 101 j := by
  intro r
  induction r with
  | zero =>
    intro gone T d cnt n1 n2 h g qf R Q e1 e2 e3 e4 e5 e6
    obtain ⟨n1, rfl⟩ : ∃ m, n1 = m + 1 := ⟨n1 - 1, by omega⟩
    obtain ⟨n2, rfl⟩ : ∃ m, n2 = m + 1 := ⟨n2 - 1, by omega⟩
    have e2 : gone = left := by omega
    subst e2
    exact ⟨h, g, q_inh_end _ _ _ gone hl n1 T h, q_inhM k33 _ _ _ i n2 _ g, R, fun c _ => rfl, fun c _ => rfl, fun j _ => rfl⟩
  | succ r ih =>
    intro gone T d cnt n1 n2 h g qf R Q e1 e2 e3 e4 e5 e6
    obtain ⟨m1, rfl⟩ : ∃ m, n1 = m + 1 + d := ⟨n1 - 1 - d, by have := e3.1; omega⟩
    obtain ⟨n2, rfl⟩ : ∃ m, n2 = m + 1 := ⟨n2 - 1, by omega⟩
    have hne : a ≠ (T + d) % 6 := by
      intro z
      have := e3.2.1
      rw [← z, hsa] at this
      cases this
    obtain ⟨h', g', g1, k1, k2, k3, k4, k5, k6, k7, k8⟩ := q_mv (q := 1) R hi ha (show (T + d) % 6 < 6 by omega) hne (by omega) Q
    obtain ⟨d', hd'⟩ := hD_ex hs1 hs0 (T + d + 1)
    have := e3.1
    have := hd'.1
    obtain ⟨h2, g2, p1, p2, p3, p4, p5, p6⟩ := ih (gone + 1) (T + d + 1) d' (cnt + 1) m1 n2 h' g' (mvq qf a ((T + d) % 6) 1) k4 k5 (by unfold mvq; rw [if_pos rfl]; omega) (by omega) hd' (by omega) (by omega) (by omega)
    refine ⟨h2, g2, ?_, ?_, p3, fun c hc => by rw [p4 c hc, k6 c hc], fun c hc => by rw [p5 c hc, k7 c hc], fun j hj => by rw [p6 j hj, k8 j hj]⟩
    · rw [q_inh_skip _ _ s left gone hl (by omega) h d (m1 + 1) T e3 (by omega), q_inh_hit i a s left gone hl (by omega) h h' m1 (T + d) (by omega) e3.2.1 k1]
      exact p1
    · simp only [f_X12_heirs_60]
      have k2 : f_X12_adds (nI i) (nI a) (-1) g = some (0, g1) := k2
      have k3 : f_X12_adds (nI i) (nI ((T + d) % 6)) 1 g1 = some (0, g') := k3
      rw [if_neg (show ¬ nI (r + 1) ≤ 0 by rw [l_0, n_le (by omega) (by omega)]; omega), k2]
      simp only [zbd]
      rw [k3]
      simp only []
      rw [m6n _ (by omega)]
      unfold f_X12_nextOf
      rw [show ((T + d) % 6 + 1) % 6 = (T + d + 1) % 6 by omega, q_next s g' d' zN (T + d + 1) hd' (by unfold zN; omega)]
      simp only [zlt, nI_1]
      rw [show nI (r + 1) + -1 = nI r from n_subn (a := r + 1) (q := 1) (by omega), p2, show cnt + 1 + r = cnt + (r + 1) by omega]
theorem q_heirs {a s n : Nat} (ha : a < 6) (hs1 : s < 64) (hs0 : ¬ s = 0) (hsa : s.testBit a = false) (hn : n ≤ 16) : ∀ f1 f2 i cnt h g, zCore h g → h 2 4 = nI n → g 101 3 = nI n → (∀ k, k < n → ∃ qf, hQ (h 6) (g 101) k qf) → i ≤ n → n < f1 + i → n < f2 + i → ∃ r h' g', f_X11_heirs_45 f1 (nI a) (nI s) (nI cnt) (nI i) h = some (r, h') ∧ f_X12_heirs_33 f2 (nI a) (nI s) (nI cnt) (nI i) g = some (r, g') ∧ zRel h' g' := by
  intro f1
  induction f1 with
  | zero => intro f2 i cnt h g R h1 h2 h3 h4 h5 h6; omega
  | succ f1 ih =>
    intro f2 i cnt h g R h1 h2 h3 h4 h5 h6
    obtain ⟨f2, rfl⟩ : ∃ m, f2 = m + 1 := ⟨f2 - 1, by omega⟩
    simp only [f_X11_heirs_45, f_X12_heirs_33, h1, h2]
    by_cases hin : n ≤ i
    · rw [if_pos (show nI n ≤ nI i from nI_le hin (by omega)), if_pos (show nI n ≤ nI i from nI_le hin (by omega))]
      exact ⟨nI cnt, _, _, rfl, rfl, R.forget⟩
    · have hlt : ¬ nI n ≤ nI i := by rw [n_le (by omega) (by omega)]; exact hin
      rw [if_neg hlt, if_neg hlt]
      obtain ⟨qf, Q⟩ := h3 i (by omega)
      obtain ⟨d, hd⟩ := hD_ex hs1 hs0 0
      have hd5 := hd.1
      have q4 := qf4 Q.1 ha
      obtain ⟨h', g', p1, p2, p3, p4, p5, p6⟩ := q_inh (f_X12_heirs_33 f2) (by omega : i < 16) ha q4 hs1 hs0 hsa (qf a) 0 0 d cnt zN zN h g qf R Q rfl (by omega) hd (by omega) (by unfold zN; omega) (by unfold zN; omega)
      unfold f_X3_inherit f_X12_nextOf
      rw [q_qof i a h (by omega) ha, (Q.2 a ha).1, show (0 : Int32) = nI (0 % 6) from rfl, q_next s g d zN 0 hd (by unfold zN; omega)]
      simp only [zbd]
      rw [q_qm i a g (by omega) ha, (Q.2 a ha).2, show nI (0 % 6) = nI 0 from rfl, p1]
      simp only [zlt, nI_1, n_add]
      rw [p2]
      refine ih f2 (i + 1) (cnt + qf a) h' g' p3 (by rw [p4 2 (by decide)]; exact h1) (by rw [p6 3 (by omega)]; exact h2) (fun k hk => ?_) (by omega) (by omega) (by omega)
      obtain ⟨n', z1, z2, z3, z4⟩ := p3.1.2.1.n
      have : n' = n := by
        rw [p4 2 (by decide), h1, n_eq (by omega) (by omega)] at z2
        exact z2.symm
      exact z4 k (by omega)
theorem st_heirs : zst_heirs zRel := by
  intro h g a b R
  obtain ⟨n, n1, n2, n3, n4⟩ := R.1.2.1.n
  have no : f_X11_heirs a b h = some (-1, h) → f_X12_heirs a b g = some (-1, g) → ∃ r k1 k2, f_X11_heirs a b h = some (r, k1) ∧ f_X12_heirs a b g = some (r, k2) ∧ zRel k1 k2 := fun x y => ⟨-1, h, g, x, y, R⟩
  unfold f_X11_heirs f_X12_heirs f_X11_heirs_23 f_X11_heirs_24 f_X11_heirs_37 f_X12_heirs_26 at *
  rcases n_ix6 a with ⟨a, ha, rfl⟩ | ⟨e1, e2⟩
  case inr => exact no (by simp only [q_below, zbd, e1, if_false, c00, if_true]) (by simp only [q_fam, zbd, e2, if_false, c00, if_true])
  have p1 : (0 ≤ nI a ∧ nI a < 6) = True := eq_true (v_lt6 ha)
  have p2 : (0 ≤ nI a ∧ nI a ≤ 5) = True := eq_true (v_le5 ha)
  simp only [q_below, q_fam, q_in, zbd, p1, p2, if_true, c10, c00, if_false] at *
  rcases n_rng b 1 63 (by decide) with ⟨s, s1, s2, rfl⟩ | ⟨e1, e2⟩
  case inr =>
    have e2 : (1 ≤ b ∧ b ≤ 63) = False := e2
    simp only [e2, if_false, c00, if_true] at *
    refine no ?_ trivial
    by_cases hb : b ≤ 0
    · rw [if_pos hb]
    · rw [if_neg hb, if_pos]
      rcases e1 with e1 | e1
      · exfalso
        have h1 := Int32.lt_iff_toInt_lt.mp e1
        have h2 := Int32.lt_iff_toInt_lt.mp (Int32.not_le.mp hb)
        rw [nI_toInt (by decide)] at h1
        simp at h2
        omega
      · have h1 := Int32.lt_iff_toInt_lt.mp e1
        rw [Int32.le_iff_toInt_le]
        rw [nI_toInt (by decide)] at h1
        show (64 : Int) ≤ b.toInt
        omega
  have p3 : (1 ≤ nI s ∧ nI s ≤ 63) = True := eq_true ⟨nI_le (a := 1) (b := s) s1 (by omega), nI_le (a := s) (b := 63) s2 (by decide)⟩
  simp only [p3, if_true, c10, if_false] at *
  have c1 : ¬ nI s ≤ 0 := by rw [l_0, n_le (by omega) (by omega)]; omega
  have c2 : ¬ (64 : Int32) ≤ nI s := by rw [show (64 : Int32) = nI 64 from rfl, n_le (by omega) (by omega)]; omega
  rw [if_neg c1, if_neg c2, q_isIn a (by omega), hb_in _ a (by omega), hb_nI _ _ (by omega)] at *
  cases hsa : s.testBit a with
  | true =>
    rw [hsa] at no
    exact no (by simp only [if_true, c10, if_false]) (by simp only [if_true])
  | false =>
    simp only [Bool.false_eq_true, if_false, if_true, c01]
    exact q_heirs ha (by omega) (by omega) hsa n1 zN zN 0 0 h g R.core n2 n3 n4 (by omega) (by unfold zN; omega) (by unfold zN; omega)
