theorem n_ixc (x : Int32) (n : Nat) (hn : n < 2 ^ 30) : (∃ k, k < n ∧ x = nI k) ∨ ((0 ≤ x ∧ x < nI n) = False ∧ (0 ≤ x ∧ x ≤ nI n - 1) = False) := n_ix x n hn
theorem i_pos {P : Prop} [Decidable P] (h : P) : (if P then (1 : Int32) else 0) = 1 := if_pos h
theorem i_neg {P : Prop} [Decidable P] (h : ¬ P) : (if P then (1 : Int32) else 0) = 0 := if_neg h
theorem v_lt {k n : Nat} (h : k < n) (hn : n < 2 ^ 30) : 0 ≤ nI k ∧ nI k < nI n := ⟨nI_pos' (by omega), nI_lt h (by omega)⟩
theorem v_le {k n : Nat} (h : k < n) (hn : n < 2 ^ 30) : 0 ≤ nI k ∧ nI k ≤ nI n - 1 := by
  refine ⟨nI_pos' (by omega), ?_⟩
  rw [show nI n - 1 = nI n - nI 1 from rfl, n_sub (by omega)]
  exact nI_le (by omega) (by omega)
theorem v_lt6 {k : Nat} (h : k < 6) : 0 ≤ nI k ∧ nI k < (6 : Int32) := v_lt h (by decide)
theorem v_le5 {k : Nat} (h : k < 6) : 0 ≤ nI k ∧ nI k ≤ (5 : Int32) := ⟨nI_pos' (by omega), nI_le (a := k) (b := 5) (by omega) (by decide)⟩
theorem st_end : zst_end zRel := by
  intro h g a R
  obtain ⟨n, h1, h2, h3, h4⟩ := R.2.2.2.1
  unfold f_X11_end f_X12_end f_X11_end_15
  rw [q_in, h2, h3]
  rcases n_rng a 0 n ⟨by omega, by omega⟩ with ⟨v, hv1, hv2, rfl⟩ | ⟨e1, e2⟩
  · refine ⟨1, zup h 29 5 (nI v), zup g 100 13 (nI v), ?_, ?_, ?_⟩
    · rw [if_neg (nI_pos (by omega)), if_pos (nI_le hv2 (by omega))]; rfl
    · rw [i_pos ⟨nI_pos' (by omega), nI_le hv2 (by omega)⟩]; rfl
    · obtain ⟨a, ⟨n', m, b1, b2, b3, b4, b5, b6⟩, c, d, e, f⟩ := R
      refine ⟨a, ⟨n', m, b1, b2, b3, b4, b5, b6⟩, c, ⟨v, by omega, rfl, rfl, fun i hi => h4 i (by omega)⟩, e, f⟩
  · refine ⟨0, h, g, ?_, ?_, R⟩
    · rcases e1 with e1 | e1
      · rw [if_pos (show a < 0 from e1)]
      · by_cases e3 : a < 0
        · rw [if_pos e3]
        · rw [if_neg e3, if_neg (Int32.not_le.mpr e1)]
    · have e2 : (0 ≤ a ∧ a ≤ nI n) = False := e2
      rw [i_neg (fun z => (Eq.mp e2 z).elim)]; rfl
theorem q_ofHalf (i k : Nat) (g : zH) (hi : i < 16) (hk : k < 10) : f_X12_ofHalf (nI i) (nI k) g = some (g 101 (20 + 10 * i + k), g) := by
  unfold f_X12_ofHalf
  simp (disch := omega) only [l_20, l_10, n_mul, n_add, zck_n, n_cl]
theorem q_ofGuest (i k : Nat) (g : zH) (hi : i < 8) (hk : k < 2) : f_X12_ofGuest (nI i) (nI k) g = some (g 101 (180 + 2 * i + k), g) := by
  unfold f_X12_ofGuest
  simp (disch := omega) only [l_180, l_2, n_mul, n_add, zck_n, n_cl]
theorem q_qof (i f : Nat) (h : zH) (hi : i < 16) (hf : f < 6) : f_X3_quartersOf (nI i) (nI f) h = some (h 6 (i * 6 + f), h) := by
  unfold f_X3_quartersOf
  simp (disch := omega) only [l_6, n_mul, n_add, zck_n, n_cl]
theorem q_qm (i f : Nat) (g : zH) (hi : i < 16) (hf : f < 6) : f_X12_quarters (nI i) (nI f) g = some (g 101 (23 + 10 * i + f), g) := by
  unfold f_X12_quarters
  simp only [l_3, n_add]
  rw [q_ofHalf i (3 + f) g hi (by omega)]
  simp only [zbd]
  rw [show 20 + 10 * i + (3 + f) = 23 + 10 * i + f by omega]
theorem q_og0 (i : Nat) (g : zH) (hi : i < 8) : f_X12_ofGuest (nI i) 0 g = some (g 101 (180 + 2 * i), g) := q_ofGuest i 0 g hi (by omega)
theorem q_og1 (i : Nat) (g : zH) (hi : i < 8) : f_X12_ofGuest (nI i) 1 g = some (g 101 (181 + 2 * i), g) := by
  rw [show 181 + 2 * i = 180 + 2 * i + 1 by omega]
  exact q_ofGuest i 1 g hi (by omega)
theorem q_oh0 (i : Nat) (g : zH) (hi : i < 16) : f_X12_ofHalf (nI i) 0 g = some (g 101 (20 + 10 * i), g) := q_ofHalf i 0 g hi (by omega)
theorem q_oh1 (i : Nat) (g : zH) (hi : i < 16) : f_X12_ofHalf (nI i) 1 g = some (g 101 (21 + 10 * i), g) := by
  rw [show 21 + 10 * i = 20 + 10 * i + 1 by omega]
  exact q_ofHalf i 1 g hi (by omega)
theorem q_oh2 (i : Nat) (g : zH) (hi : i < 16) : f_X12_ofHalf (nI i) 2 g = some (g 101 (22 + 10 * i), g) := by
  rw [show 22 + 10 * i = 20 + 10 * i + 2 by omega]
  exact q_ofHalf i 2 g hi (by omega)
theorem st_who : zst_who zRel := by
  intro h g a b R
  obtain ⟨sn, gn, a1, a2, a3, a4, a5, a6, a7, a8, a9⟩ := R.1.1
  unfold f_X11_who f_X12_who
  rw [q_below, q_guest, a5, a6]
  simp only [zbd]
  rcases n_ixc a gn (by omega) with ⟨i, hi, rfl⟩ | ⟨e1, e2⟩
  · rw [i_pos (v_lt hi (by omega)), i_pos (v_le hi (by omega))]
    obtain ⟨⟨f, f1, f2, f3⟩, f4, f5⟩ := a8 i hi
    by_cases b0 : b = 0
    · subst b0
      refine ⟨h 8 i, h, g, ?_, ?_, R⟩
      · simp (disch := omega) [zck_n, n_cl]
      · rw [q_in]
        simp only [zbd]
        rw [q_og0 i g (by omega)]
        simp [f2, f3]
    · by_cases b1 : b = 1
      · subst b1
        refine ⟨h 9 i, h, g, ?_, ?_, R⟩
        · simp (disch := omega) [zck_n, n_cl]
        · rw [q_in]
          simp only [zbd]
          rw [q_og1 i g (by omega)]
          simp [f4]
      · rcases n_rng b 0 1 (by decide) with ⟨v, v1, v2, rfl⟩ | ⟨e1, e2⟩
        · exfalso
          rcases (by omega : v = 0 ∨ v = 1) with rfl | rfl
          · exact b0 rfl
          · exact b1 rfl
        · refine ⟨-2, h, g, ?_, ?_, R⟩
          · rcases e1 with e1 | e1
            · simp [f_X11_who_28, show b < 0 from e1]
            · by_cases e3 : b < 0
              · simp [f_X11_who_28, e3]
              · simp [f_X11_who_28, e3, Int32.not_le.mpr (show (1 : Int32) < b from e1)]
          · have e2 : (0 ≤ b ∧ b ≤ 1) = False := e2
            rw [q_in]
            simp [f_X12_who_26, e2]
  · rw [i_neg (fun z => (Eq.mp e1 z).elim), i_neg (fun z => (Eq.mp e2 z).elim)]
    exact ⟨-2, h, g, by simp [f_X11_who_28], by simp [f_X12_who_26], R⟩
theorem st_book : zst_book zRel := by
  intro h g a b R
  obtain ⟨bl, nt, hb1, hb2, hb3, hb4, hb5, hb6, hfm, hrw, htd⟩ := R.1.2.2.1
  unfold f_X11_book f_X12_book
  rw [q_below, q_in, hb3, hb4]
  simp only [zbd]
  rcases n_ixc a bl (by omega) with ⟨i, hi, rfl⟩ | ⟨e1, e2⟩
  · rw [i_pos (v_lt hi (by omega)), i_pos (v_le hi (by omega))]
    rw [q_below, q_in]
    simp only [zbd]
    rcases n_ix6 b with ⟨k, hk, rfl⟩ | ⟨e1, e2⟩
    · rw [i_pos (v_lt6 hk), i_pos (v_le5 hk)]
      refine ⟨h 15 (i * 6 + k), h, g, ?_, ?_, R⟩
      · simp (disch := omega) [f_X11_book_31, f_X11_book_30, l_6, n_mul, n_add, zck_n, n_cl]
      · rw [if_neg (by decide), if_neg (by decide)]
        simp (disch := omega) only [l_730, l_6, n_mul, n_add, zck_n, n_cl]
        rw [show 730 + 6 * i + k = 730 + (i * 6 + k) by omega, hrw _ (by omega)]
    · rw [i_neg (fun z => (Eq.mp e1 z).elim), i_neg (fun z => (Eq.mp e2 z).elim)]
      exact ⟨-1, h, g, by simp [f_X11_book_31, f_X11_book_30], by simp [f_X12_book_44], R⟩
  · rw [i_neg (fun z => (Eq.mp e1 z).elim), i_neg (fun z => (Eq.mp e2 z).elim)]
    exact ⟨-1, h, g, by simp [f_X11_book_31, f_X11_book_30], by simp [f_X12_book_44], R⟩
