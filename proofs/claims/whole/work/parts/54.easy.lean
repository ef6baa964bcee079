theorem q_isOn {h : zH} {n : Nat} (hn : n ≤ 16) (hc : h 2 4 = nI n) (x v : Int32) : (∃ k, k < n ∧ x = nI k ∧ h 3 k = v ∧ f_X3_isOn x v h = some (1, h)) ∨ ((∀ k, k < n → x = nI k → ¬ h 3 k = v) ∧ f_X3_isOn x v h = some (0, h)) := by
  unfold f_X3_isOn f_X3_isOn_22
  rw [q_has, hc]
  simp only [zbd]
  rcases n_ixc x n (by omega) with ⟨k, hk, rfl⟩ | ⟨e1, e2⟩
  · rw [i_pos (v_lt hk (by omega)), if_neg (by decide), zck_n (by omega) (by decide), n_cl (by omega)]
    by_cases h3 : h 3 k = v
    · exact Or.inl ⟨k, hk, rfl, h3, if_pos h3⟩
    · refine Or.inr ⟨fun j j1 j2 j3 => ?_, if_neg h3⟩
      rw [n_eq (by omega) (by omega)] at j2
      subst j2
      exact h3 j3
  · rw [i_neg (fun z => (Eq.mp e1 z).elim), if_pos rfl]
    exact Or.inr ⟨fun k hk e _ => by subst e; exact (Eq.mp e1 (v_lt hk (by omega))).elim, rfl⟩
theorem q_isFront {g : zH} {n : Nat} (hn : n ≤ 16) (hc : g 101 3 = nI n) (x : Int32) : (∃ k, k < n ∧ x = nI k ∧ g 101 (20 + 10 * k) = 0 ∧ f_X12_isFront x g = some (1, g)) ∨ ((∀ k, k < n → x = nI k → ¬ g 101 (20 + 10 * k) = 0) ∧ f_X12_isFront x g = some (0, g)) := by
  unfold f_X12_isFront f_X12_isFront_21
  rw [q_half, hc]
  simp only [zbd]
  rcases n_ixc x n (by omega) with ⟨k, hk, rfl⟩ | ⟨e1, e2⟩
  · rw [i_pos (v_le hk (by omega)), if_neg (by decide), q_oh0 k g (by omega)]
    simp only
    by_cases h3 : g 101 (20 + 10 * k) = 0
    · exact Or.inl ⟨k, hk, rfl, h3, if_pos h3⟩
    · refine Or.inr ⟨fun j j1 j2 j3 => ?_, if_neg h3⟩
      rw [n_eq (by omega) (by omega)] at j2
      subst j2
      exact h3 j3
  · rw [i_neg (fun z => (Eq.mp e2 z).elim), if_pos rfl]
    exact Or.inr ⟨fun k hk e _ => by subst e; exact (Eq.mp e1 (v_lt hk (by omega))).elim, rfl⟩
theorem q_isEnd {g : zH} {n : Nat} (hn : n ≤ 16) (hc : g 101 3 = nI n) (x : Int32) : (∃ k, k < n ∧ x = nI k ∧ g 101 (20 + 10 * k) = 1 ∧ f_X12_isEnd x g = some (1, g)) ∨ ((∀ k, k < n → x = nI k → ¬ g 101 (20 + 10 * k) = 1) ∧ f_X12_isEnd x g = some (0, g)) := by
  unfold f_X12_isEnd f_X12_isEnd_22
  rw [q_half, hc]
  simp only [zbd]
  rcases n_ixc x n (by omega) with ⟨k, hk, rfl⟩ | ⟨e1, e2⟩
  · rw [i_pos (v_le hk (by omega)), if_neg (by decide), q_oh0 k g (by omega)]
    simp only
    by_cases h3 : g 101 (20 + 10 * k) = 1
    · exact Or.inl ⟨k, hk, rfl, h3, if_pos h3⟩
    · refine Or.inr ⟨fun j j1 j2 j3 => ?_, if_neg h3⟩
      rw [n_eq (by omega) (by omega)] at j2
      subst j2
      exact h3 j3
  · rw [i_neg (fun z => (Eq.mp e2 z).elim), if_pos rfl]
    exact Or.inr ⟨fun k hk e _ => by subst e; exact (Eq.mp e1 (v_lt hk (by omega))).elim, rfl⟩
/-- a pair: both say so, or both say no -/
theorem q_pair {h g : zH} (R : rHal (h 2) (h 3) (h 4) (h 5) (h 6) (g 101)) (a b : Int32) : (∃ n i j, n ≤ 16 ∧ h 2 4 = nI n ∧ g 101 3 = nI n ∧ i < n ∧ j < n ∧ a = nI i ∧ b = nI j ∧ h 3 i = 0 ∧ h 3 j = 1 ∧ f_X11_arePair a b h = some (1, h) ∧ f_X12_isFront a g = some (1, g) ∧ f_X12_isEnd b g = some (1, g)) ∨ (f_X11_arePair a b h = some (0, h) ∧ (f_X12_isFront a g = some (0, g) ∨ (f_X12_isFront a g = some (1, g) ∧ f_X12_isEnd b g = some (0, g)))) := by
  obtain ⟨n, hn, c1, c2, c3⟩ := R
  unfold f_X11_arePair f_X11_arePair_34
  rcases q_isOn hn c1 a 0 with ⟨i, i1, i2, i3, i4⟩ | ⟨i1, i2⟩
  · rcases q_isFront hn c2 a with ⟨i', j1, j2, j3, j4⟩ | ⟨j1, j2⟩
    · rcases q_isOn hn c1 b 1 with ⟨k, k1, k2, k3, k4⟩ | ⟨k1, k2⟩
      · rcases q_isEnd hn c2 b with ⟨k', l1, l2, l3, l4⟩ | ⟨l1, l2⟩
        · exact Or.inl ⟨n, i, k, hn, c1, c2, i1, k1, i2, k2, i3, k3, by rw [i4]; simp [zbd, k4], j4, l4⟩
        · exact absurd (by rw [← (c3 k k1).1.1]; exact k3) (l1 k k1 k2)
      · rcases q_isEnd hn c2 b with ⟨k', l1, l2, l3, l4⟩ | ⟨l1, l2⟩
        · exact absurd (by rw [(c3 k' l1).1.1]; exact l3) (k1 k' l1 l2)
        · exact Or.inr ⟨by rw [i4]; simp [zbd, k2], Or.inr ⟨j4, l2⟩⟩
    · exact absurd (by rw [← (c3 i i1).1.1]; exact i3) (j1 i i1 i2)
  · rcases q_isFront hn c2 a with ⟨i', j1, j2, j3, j4⟩ | ⟨j1, j2⟩
    · exact absurd (by rw [(c3 i' j1).1.1]; exact j3) (i1 i' j1 j2)
    · exact Or.inr ⟨by rw [i2]; simp [zbd], Or.inl j2⟩
theorem q_pairOf (i j : Nat) (h : zH) : f_X11_pairOf (nI i) (nI j) h = some (nI (i * 16 + j), h) := by
  unfold f_X11_pairOf
  simp only [l_16, n_mul, n_add]
theorem st_told : zst_told zRel := by
  intro h g a b R
  obtain ⟨bl, nt, hb1, hb2, hb3, hb4, hb5, hb6, hfm, hrw, htd⟩ := R.1.2.2.1
  unfold f_X11_told f_X12_told f_X12_told_34
  rcases q_pair R.1.2.1 a b with ⟨n, i, j, hn, c1, c2, hi, hj, rfl, rfl, s1, s2, e1, e2, e3⟩ | ⟨e1, e2 | ⟨e2, e3⟩⟩
  · obtain ⟨t, t1, t2, t3, t4⟩ := htd (i * 16 + j) (by omega)
    refine ⟨nI t, h, g, ?_, ?_, R⟩
    · rw [e1]
      simp only [zbd]
      rw [if_neg (by decide), q_pairOf]
      simp (disch := omega) only [zck_n, n_cl, t2]
    · rw [e2]
      simp only [zbd]
      rw [if_neg (by decide), e3]
      simp only
      rw [if_neg (by decide)]
      simp (disch := omega) only [l_210, l_16, n_mul, n_add, zck_n, n_cl]
      rw [show 210 + 16 * i + j = 210 + (i * 16 + j) by omega, t3]
  · exact ⟨-1, h, g, by rw [e1]; simp [zbd], by rw [e2]; simp [zbd], R⟩
  · exact ⟨-1, h, g, by rw [e1]; simp [zbd], by rw [e2]; simp [zbd, e3], R⟩
theorem st_of : zst_of zRel := by
  intro h g a b R
  obtain ⟨n, hn, c1, c2, c3⟩ := R.1.2.1
  unfold f_X11_of f_X12_of f_X12_of_28 f_X12_of_45 f_X12_of_51 f_X11_of_113
  rw [q_has, q_half, c1, c2]
  simp only [zbd]
  rcases n_ixc a n (by omega) with ⟨i, hi, rfl⟩ | ⟨e1, e2⟩
  · rw [i_pos (v_lt hi (by omega)), i_pos (v_le hi (by omega))]
    simp only [show ¬ ((1 : Int32) = 0) by decide, if_false]
    obtain ⟨⟨b1, b2⟩, ⟨j, d1, d2, d3⟩, ⟨k, k1, k2, k3⟩, qf, e1, e2⟩ := c3 i hi
    rw [q_in]
    simp only
    by_cases b0 : b = 0
    · subst b0
      refine ⟨h 3 i, h, g, ?_, ?_, R⟩
      · rw [if_pos rfl, zck_n (by omega) (by decide), n_cl (by omega)]
      · rw [i_pos (show (0 : Int32) ≤ 0 ∧ (0 : Int32) ≤ 2 by decide), if_neg (show ¬ ((1 : Int32) = 0) by decide), if_neg (show ¬ ((3 : Int32) ≤ 0) by decide), q_oh0 i g (by omega), b1]
    · by_cases b1' : b = 1
      · subst b1'
        refine ⟨h 4 i, h, g, ?_, ?_, R⟩
        · rw [if_neg (show ¬ ((1 : Int32) = 0) by decide), if_pos rfl, zck_n (by omega) (by decide), n_cl (by omega)]
        · rw [i_pos (show (0 : Int32) ≤ 1 ∧ (1 : Int32) ≤ 2 by decide), if_neg (show ¬ ((1 : Int32) = 0) by decide), if_neg (show ¬ ((3 : Int32) ≤ 1) by decide), q_oh1 i g (by omega), d2, d3]
      · by_cases b2' : b = 2
        · subst b2'
          refine ⟨h 5 i, h, g, ?_, ?_, R⟩
          · rw [if_neg (show ¬ ((2 : Int32) = 0) by decide), if_neg (show ¬ ((2 : Int32) = 1) by decide), if_pos rfl, zck_n (by omega) (by decide), n_cl (by omega)]
          · rw [i_pos (show (0 : Int32) ≤ 2 ∧ (2 : Int32) ≤ 2 by decide), if_neg (show ¬ ((1 : Int32) = 0) by decide), if_neg (show ¬ ((3 : Int32) ≤ 2) by decide), q_oh2 i g (by omega), k2, k3]
        · have hno : ¬ (0 ≤ b ∧ b ≤ 2) := by
            intro hz
            rcases n_rng b 0 2 (by decide) with ⟨v, v1, v2, rfl⟩ | ⟨e1, e2⟩
            · rcases (by omega : v = 0 ∨ v = 1 ∨ v = 2) with rfl | rfl | rfl
              · exact b0 rfl
              · exact b1' rfl
              · exact b2' rfl
            · exact (Eq.mp e2 hz).elim
          rw [i_neg hno, if_neg b0, if_neg b1', if_neg b2', if_pos rfl, q_in]
          simp only []
          rcases n_rng b 10 15 (by decide) with ⟨v, v1, v2, rfl⟩ | ⟨e3, e4⟩
          · have hq := e2 (v - 10) (by omega)
            refine ⟨h 6 (i * 6 + (v - 10)), h, g, ?_, ?_, R⟩
            · rw [if_neg (show ¬ nI v < (10 : Int32) from nI_nlt (a := v) (b := 10) (by omega) (by omega)), if_neg (show ¬ (16 : Int32) ≤ nI v from nI_ge (a := v) (b := 16) (by omega) (by omega))]
              rw [show nI v - 10 = nI (v - 10) from n_sub (b := 10) (by omega), q_qof i (v - 10) h (by omega) (by omega)]
            · rw [i_pos (⟨nI_le (a := 10) (b := v) (by omega) (by omega), nI_le (a := v) (b := 15) (by omega) (by omega)⟩ : (10 : Int32) ≤ nI v ∧ nI v ≤ 15), if_neg (by decide), if_pos (show (3 : Int32) ≤ nI v from nI_le (a := 3) (b := v) (by omega) (by omega))]
              rw [show (3 : Int32) + nI v - 10 = nI (v - 7) by rw [l_3, n_add, show (10 : Int32) = nI 10 from rfl, n_sub (by omega)]; congr 1; omega]
              rw [q_ofHalf i (v - 7) g (by omega) (by omega)]
              simp only
              rw [show 20 + 10 * i + (v - 7) = 23 + 10 * i + (v - 10) by omega, hq.2, hq.1]
          · have e4 : ((10 : Int32) ≤ b ∧ b ≤ 15) = False := e4
            refine ⟨-1, h, g, ?_, ?_, R⟩
            · rcases e3 with e3 | e3
              · rw [if_pos (show b < 10 from e3)]
              · by_cases e5 : b < 10
                · rw [if_pos e5]
                · rw [if_neg e5, if_pos]
                  have e3 : (15 : Int32) < b := e3
                  have := Int32.lt_iff_toInt_lt.mp e3
                  refine Int32.le_iff_toInt_le.mpr ?_
                  simp at this ⊢
                  omega
            · rw [i_neg (fun z => (Eq.mp e4 z).elim), if_pos rfl]
  · rw [i_neg (fun z => (Eq.mp e1 z).elim), i_neg (fun z => (Eq.mp e2 z).elim)]
    exact ⟨-1, h, g, rfl, rfl, R⟩
