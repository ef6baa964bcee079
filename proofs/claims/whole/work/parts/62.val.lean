/-! THE LAW's value on both sides -/
theorem cla_c (v : Int32) : (if (0 : Int32) < (if v < (999 : Int32) then v else (999 : Int32)) then (if v < (999 : Int32) then v else (999 : Int32)) else (0 : Int32)) = cla v := by
  unfold cla
  have e : (if v < (999 : Int32) then v else (999 : Int32)) = (if (999 : Int32) < v then 999 else v) := by
    by_cases h1 : v < 999
    · rw [if_pos h1, if_neg (fun z => Int32.lt_irrefl (Int32.lt_trans h1 z))]
    · rw [if_neg h1]
      by_cases h2 : (999 : Int32) < v
      · rw [if_pos h2]
      · rw [if_neg h2]; exact Int32.le_antisymm (Int32.not_lt.mp h1) (Int32.not_lt.mp h2)
  rw [e]
  generalize (if (999 : Int32) < v then 999 else v) = u
  by_cases h1 : u < 0
  · rw [if_pos h1, if_neg (fun z => Int32.lt_irrefl (Int32.lt_trans h1 z))]
  · rw [if_neg h1]
    by_cases h2 : (0 : Int32) < u
    · rw [if_pos h2]
    · rw [if_neg h2]; exact Int32.le_antisymm (Int32.not_lt.mp h1) (Int32.not_lt.mp h2)
theorem cla_m (v : Int32) (g : zH) (K : Int32 → zH → zR) : (zbd (f_X12_least (999 : Int32) v g) fun r21 h22 => (zbd (f_X12_most (0 : Int32) r21 h22) K)) = K (cla v) g := by
  unfold f_X12_least f_X12_most cla
  by_cases h1 : v ≤ 999
  · rw [if_pos h1, if_neg (Int32.not_lt.mpr h1)]
    simp only [zbd]
    by_cases h2 : (0 : Int32) ≤ v
    · rw [if_pos h2, if_neg (Int32.not_lt.mpr h2)]
    · rw [if_neg h2, if_pos (Int32.not_le.mp h2)]
  · rw [if_neg h1, if_pos (Int32.not_le.mp h1)]
    rfl
theorem q_joined (s a b : Int32) (h : zH) : f_X5_joined s a b h = some (joC s a b, h) := by
  unfold f_X5_joined f_X5_joined_149 joC
  by_cases h5 : s = 5
  · subst h5; rfl
  by_cases h6 : s = 6
  · subst h6; rfl
  by_cases h16 : s = 16
  · subst h16; rfl
  by_cases h17 : s = 17
  · subst h17; rfl
  by_cases h18 : s = 18
  · subst h18; rfl
  by_cases h22 : s = 22
  · subst h22
    by_cases hh : b ≤ a
    · simp [hh, Int32.not_lt.mpr hh]
    · simp [hh, Int32.not_le.mp hh]
  by_cases h23 : s = 23
  · subst h23
    by_cases hh : a = b <;> simp [hh]
  by_cases h24 : s = 24
  · subst h24
    by_cases hh : a ≤ b
    · simp [hh, Int32.not_lt.mpr hh]
    · simp [hh, Int32.not_le.mp hh]
  simp only [if_neg h5, if_neg h6, if_neg h16, if_neg h17, if_neg h18, if_neg h22, if_neg h23, if_neg h24, ite_self]
theorem q_both (s a b : Int32) (h : zH) : f_X12_both s a b h = some (joM s a b, h) := by
  unfold f_X12_both f_X12_both_101 joM
  by_cases h5 : s = 13
  · subst h5; rfl
  by_cases h6 : s = 14
  · subst h6; rfl
  by_cases h16 : s = 15
  · subst h16; rfl
  by_cases h21 : s = 21
  · subst h21; rfl
  by_cases h22 : s = 17
  · subst h22
    by_cases hh : b ≤ a
    · simp [hh, Int32.not_lt.mpr hh]
    · simp [hh, Int32.not_le.mp hh]
  by_cases h23 : s = 18
  · subst h23
    by_cases hh : a = b <;> simp [hh]
  by_cases h24 : s = 19
  · subst h24
    by_cases hh : a ≤ b
    · simp [hh, Int32.not_lt.mpr hh]
    · simp [hh, Int32.not_le.mp hh]
  simp only [if_neg h5, if_neg h6, if_neg h16, if_neg h21, if_neg h22, if_neg h23, if_neg h24, ite_self]
theorem zlt_e (x : Int32) (f : Int32 → zR) : zlt x f = f x := Eq.trans rfl rfl
theorem zst_e (x : zH) (f : zH → zR) : zst x f = f x := Eq.trans rfl rfl
theorem n_m1n {a : Nat} (h : 1 ≤ a) : nI a + -1 = nI (a - 1) := n_subn (q := 1) h
theorem n_s1n {a : Nat} (h : 1 ≤ a) : nI a - 1 = nI (a - 1) := n_sub (b := 1) h
theorem n_s2n {a : Nat} (h : 2 ≤ a) : nI a - 2 = nI (a - 2) := n_sub (b := 2) h
theorem q_value (sz : Nat) (hsz : sz ≤ 400) : ∀ n i top h, h 16 3 = nI sz → i ≤ sz → sz < n + i → top < 1000 → ∃ h', f_X5_valueOf_r21_4 n (nI top) (nI i) h = some (evC (h 17) (h 18) (h 21) (sz - i) i top (h 19), h') ∧ ∀ c, c ≠ 19 → h' c = h c := by
  intro n
  induction n with
  | zero => intro i top h h1 h2 h3 h4; omega
  | succ n ih =>
    intro i top h h1 h2 h3 h4
    simp only [f_X5_valueOf_r21_4, h1]
    by_cases hi : i = sz
    · subst hi
      rw [if_pos (Int32.le_refl _), Nat.sub_self]
      exact ⟨h, rfl, fun c _ => rfl⟩
    rw [if_neg (by rw [n_le (by omega) (by omega)]; omega)]
    obtain ⟨r, hr⟩ : ∃ r, sz - i = r + 1 := ⟨sz - i - 1, by omega⟩
    rw [hr]
    have hr' : r = sz - (i + 1) := by omega
    unfold evC
    by_cases ht : top < 2
    · rw [if_pos (show nI top < 2 from nI_lt (a := top) (b := 2) ht (by omega)), if_pos (Or.inl ht)]
      exact ⟨h, rfl, fun c _ => rfl⟩
    rw [if_neg (show ¬ nI top < 2 by rw [l_2, n_lt (by omega) (by omega)]; exact ht)]
    by_cases ht2 : top < 40
    case neg =>
      rw [if_neg (show ¬ nI top < 40 by rw [l_40, n_lt (by omega) (by omega)]; exact ht2), if_pos (Or.inr (by omega))]
      exact ⟨h, rfl, fun c _ => rfl⟩
    rw [if_pos (show nI top < 40 by rw [l_40, n_lt (by omega) (by omega)]; exact ht2), if_neg (show ¬ (top < 2 ∨ 40 ≤ top) by omega)]
    simp (disch := omega) only [zck_n, n_cl, zlt_e, zst_e, nI_1, f_X5_valueOf_r21_261]
    -- the heap with one more cell of the stack
    have go : ∀ top' k x, top' < 1000 → ∃ h', f_X5_valueOf_r21_4 n (nI top') (nI (i + 1)) (zup h 19 k x) = some (evC (h 17) (h 18) (h 21) r (i + 1) top' (upd (h 19) k x), h') ∧ ∀ c, c ≠ 19 → h' c = h c := by
      intro top' k x ht'
      obtain ⟨h', e1, e2⟩ := ih (i + 1) top' (zup h 19 k x) (by rw [zup_ne 16 (by decide)]; exact h1) (by omega) (by omega) ht'
      refine ⟨h', ?_, fun c hc => by rw [e2 c hc, zup_ne c hc]⟩
      rw [e1, zup_ne 17 (by decide), zup_ne 18 (by decide), zup_ne 21 (by decide), zup_eq, hr']
    by_cases c2 : h 17 i = 2
    · rw [if_pos c2, if_pos c2]
      exact go (top + 1) top _ (by omega)
    rw [if_neg c2, if_neg c2]
    unfold f_X5_valueOf_r21_90 f_X5_valueOf_r21_160
    simp only [f_X5_valueOf_r21_261, zlt_e, zst_e, nI_1, n_m1n (show 1 ≤ top by omega), n_s1n (show 1 ≤ top by omega), n_s2n (show 2 ≤ top by omega), n_s1n (show 1 ≤ top - 1 by omega)]
    simp (disch := omega) only [zck_n, n_cl]
    by_cases c8 : 8 ≤ h 17 i ∧ h 17 i ≤ 14
    · rw [if_neg (Int32.not_lt.mpr c8.1), if_neg (Int32.not_lt.mpr c8.2), if_pos c8]
      rcases n_rng (h 17 i) 8 14 (by decide) with ⟨v, v1, v2, v3⟩ | ⟨-, e2⟩
      · rw [v3]
        simp (disch := omega) only [l_8, n_sub, zck_n, n_cl]
        exact go (top + 1) top _ (by omega)
      · exact (Eq.mp e2 c8).elim
    rw [if_neg c8]
    have hcol : ∀ (A B : zR), (if h 17 i < 8 then A else if 14 < h 17 i then A else B) = A := by
      intro A B
      by_cases d1 : h 17 i < 8
      · rw [if_pos d1]
      · rw [if_neg d1, if_pos]
        exact Int32.not_le.mp (fun z => c8 ⟨Int32.not_lt.mp d1, z⟩)
    rw [hcol]
    by_cases c7 : h 17 i = 7
    · rw [if_pos c7, if_pos c7]
      exact go top (top - 1) _ (by omega)
    rw [if_neg c7, if_neg c7]
    by_cases c19 : h 17 i = 19
    · rw [if_pos c19, if_pos c19]
      by_cases d : h 18 i ≤ 0
      · rw [if_pos d, if_neg (Int32.not_lt.mpr d)]
        exact go top (top - 1) _ (by omega)
      · rw [if_neg d, if_pos (Int32.not_le.mp d)]
        unfold znz
        rw [if_neg (fun z => d (by rw [z]; decide))]
        exact go top (top - 1) _ (by omega)
    rw [if_neg c19, if_neg c19]
    by_cases c15 : h 17 i = 15
    · rw [if_pos c15, if_pos c15, cla_c]
      exact ⟨h, rfl, fun c _ => rfl⟩
    rw [if_neg c15, if_neg c15]
    by_cases c4 : h 17 i = 4
    · rw [if_pos c4, if_pos c4]
      by_cases d : h 19 (top - 1) = 0
      · rw [if_pos d, if_pos d]
        obtain ⟨h', e1, e2⟩ := ih (i + 1) 2 h h1 (by omega) (by omega) (by omega)
        exact ⟨h', by rw [hr']; exact e1, e2⟩
      · rw [if_neg d, if_neg d, cla_c]
        exact ⟨h, rfl, fun c _ => rfl⟩
    rw [if_neg c4, if_neg c4, q_joined]
    simp only [zbd]
    rw [show top - 1 - 1 = top - 2 by omega]
    exact go (top - 1) (top - 2) _ (by omega)
theorem q_comes (e : Nat) (he : e ≤ 400) (F : Nat → Int32) : ∀ n i top g v, (∀ k, k < 7 → g 109 (k + 1) = F k) → i ≤ e → e < n + i → top ≤ 420 → evM (g 101) F (e - i) i top (g 108) = some v → ∃ g', f_X12_comesTo_5 n (nI e) (nI top) (nI i) g = some (v, g') ∧ ∀ c, c ≠ 108 → g' c = g c := by
  intro n
  induction n with
  | zero => intro i top g v h1 h2 h3 h4; omega
  | succ n ih =>
    intro i top g v hF h2 h3 h4 hv
    simp only [f_X12_comesTo_5]
    by_cases hi : i = e
    · subst hi
      rw [if_pos (Int32.le_refl _)]
      rw [Nat.sub_self] at hv
      refine ⟨g, ?_, fun c _ => rfl⟩
      rw [show g 108 0 = v from Option.some.inj hv]
    rw [if_neg (by rw [n_le (by omega) (by omega)]; omega)]
    obtain ⟨r, hr⟩ : ∃ r, e - i = r + 1 := ⟨e - i - 1, by omega⟩
    rw [hr] at hv
    have hr' : r = e - (i + 1) := by omega
    unfold evM at hv
    simp (disch := omega) only [show (1400 : Int32) = nI 1400 from rfl, l_2, n_mul, n_add, nI_1, zck_n, n_cl, zlt_e, zst_e, f_X12_comesTo_160, f_X12_comesTo_72]
    rw [show 1400 + 2 * i + 1 = 1401 + 2 * i by omega]
    have go : ∀ top' k x, top' ≤ 420 → evM (g 101) F r (i + 1) top' (upd (g 108) k x) = some v → ∃ g', f_X12_comesTo_5 n (nI e) (nI top') (nI (i + 1)) (zup g 108 k x) = some (v, g') ∧ ∀ c, c ≠ 108 → g' c = g c := by
      intro top' k x ht' hv'
      obtain ⟨g', e1, e2⟩ := ih (i + 1) top' (zup g 108 k x) v (fun k hk => by rw [zup_ne 109 (by decide)]; exact hF k hk) (by omega) (by omega) ht' (by rw [zup_ne 101 (by decide), zup_eq, ← hr']; exact hv')
      exact ⟨g', e1, fun c hc => by rw [e2 c hc, zup_ne c hc]⟩
    by_cases c13 : g 101 (1400 + 2 * i) < 13
    · rw [if_pos c13] at hv
      rw [if_neg (Int32.not_le.mpr c13)]
      by_cases ht : 420 ≤ top
      · rw [if_pos ht] at hv; cases hv
      rw [if_neg ht] at hv
      by_cases c0 : g 101 (1400 + 2 * i) = 0
      · rw [if_pos c0] at hv
        rw [if_pos c0, zck_n (by omega) (by decide)]
        exact go (top + 1) top _ (by omega) hv
      rw [if_neg c0] at hv
      rw [if_neg c0]
      by_cases c8 : 0 < g 101 (1400 + 2 * i) ∧ g 101 (1400 + 2 * i) < 8
      · rw [if_pos c8] at hv
        have c8' : nI 1 ≤ g 101 (1400 + 2 * i) ∧ g 101 (1400 + 2 * i) ≤ nI 7 := by
          have h1 := Int32.lt_iff_toInt_lt.mp c8.1
          have h2 := Int32.lt_iff_toInt_lt.mp c8.2
          rw [Int32.le_iff_toInt_le, Int32.le_iff_toInt_le, nI_toInt (by decide), nI_toInt (by decide)]
          have z0 : (0 : Int32).toInt = 0 := by decide
          have z8 : (8 : Int32).toInt = 8 := by decide
          omega
        rcases n_rng (g 101 (1400 + 2 * i)) 1 7 (by decide) with ⟨u, u1, u2, u3⟩ | ⟨-, e2⟩
        · rw [u3] at hv ⊢
          rw [n_cl (by omega)] at hv
          rw [zck_n (by omega) (by decide), n_cl (by omega), zck_n (by omega) (by decide)]
          have := hF (u - 1) (by omega)
          rw [show u - 1 + 1 = u by omega] at this
          rw [this]
          exact go (top + 1) top _ (by omega) hv
        · exact (Eq.mp e2 c8').elim
      · rw [if_neg c8] at hv; cases hv
    rw [if_neg c13] at hv
    rw [if_pos (Int32.not_lt.mp c13)]
    by_cases ht : top < 1 ∨ 420 < top
    · rw [if_pos ht] at hv; cases hv
    rw [if_neg ht] at hv
    simp only [n_m1n (show 1 ≤ top by omega), n_s1n (show 1 ≤ top by omega)]
    by_cases c16 : g 101 (1400 + 2 * i) = 16
    · rw [if_pos c16] at hv ⊢
      by_cases d : g 101 (1401 + 2 * i) = 0
      · rw [if_pos d] at hv; cases hv
      rw [if_neg d] at hv
      unfold znz
      rw [if_neg d, zck_n (by omega) (by decide), zck_n (by omega) (by decide), n_cl (by omega)]
      exact go top (top - 1) _ (by omega) hv
    rw [if_neg c16] at hv ⊢
    by_cases c20 : g 101 (1400 + 2 * i) = 20
    · rw [if_pos c20] at hv ⊢
      rw [zck_n (by omega) (by decide), zck_n (by omega) (by decide), n_cl (by omega)]
      exact go top (top - 1) _ (by omega) hv
    rw [if_neg c20] at hv ⊢
    by_cases d : top < 2
    · rw [if_pos d] at hv; cases hv
    rw [if_neg d] at hv
    simp only [n_s1n (show 1 ≤ top - 1 by omega), q_both, zbd]
    simp (disch := omega) only [zck_n, n_cl]
    rw [show top - 1 - 1 = top - 2 by omega]
    exact go (top - 1) (top - 2) _ (by omega) hv
