/-- the reference finds who sits there -/
theorem q_at2 {h g : zH} {sn gn : Nat} (a5 : g 101 4 = nI gn) (hg : gn ≤ 8) (hsn : sn ≤ 8) (a8 : ∀ i, i < gn → h 9 i = g 101 (181 + 2 * i) ∧ (h 9 i = -1 ∨ ∃ s, s < sn ∧ h 9 i = nI s ∧ h 10 s = nI i)) (s : Nat) (hs : s < sn) (a9 : h 10 s = -1 ∨ ∃ i, i < gn ∧ h 10 s = nI i ∧ h 9 i = nI s) : ∀ n i, gn < n + i → i ≤ gn → (∀ j, j < i → ¬ h 9 j = nI s) → f_X12_guestAt_2 n (nI s) (nI i) g = some (h 10 s, g) := by
  intro n
  induction n with
  | zero => intro i h1 h2; omega
  | succ n ih =>
    intro i h1 h2 h3
    simp only [f_X12_guestAt_2, a5]
    simp (disch := omega) only [n_le]
    by_cases h4 : gn ≤ i
    · rw [if_pos h4]
      rcases a9 with a9 | ⟨j, j1, j2, j3⟩
      · rw [a9]
      · exact absurd j3 (h3 j (by omega))
    · rw [if_neg h4, q_og1 i g (by omega)]
      simp only [zbd]
      rw [← (a8 i (by omega)).1]
      by_cases h5 : h 9 i = nI s
      · rw [if_pos h5]
        rcases (a8 i (by omega)).2 with h6 | ⟨s', s1, s2, s3⟩
        · rw [h6, n_m1' (by omega)] at h5
          exact h5.elim
        · rw [s2, n_eq (by omega) (by omega)] at h5
          subst h5
          rw [s3]
      · rw [if_neg h5]
        simp only [zlt, nI_1]
        refine ih (i + 1) (by omega) (by omega) (fun j hj => ?_)
        by_cases h6 : j = i
        · subst h6; exact h5
        · exact h3 j (by omega)
theorem q_at {h g : zH} (R : rTab (h 7) (h 8) (h 9) (h 10) (g 101)) {sn : Nat} (hsn : h 7 3 = nI sn) (hs8 : sn ≤ 8) (s : Nat) (hs : s < sn) : f_X12_guestAt (nI s) g = some (h 10 s, g) := by
  obtain ⟨sn', gn, a1, a2, a3, a4, a5, a6, a7, a8, a9⟩ := R
  have e : sn' = sn := by
    rw [a1, n_eq (by omega) (by omega)] at hsn
    exact hsn
  subst e
  unfold f_X12_guestAt
  exact q_at2 a6 a7 a4 (fun i hi => (a8 i hi).2) s hs (a9 s hs) zN 0 (by unfold zN; omega) (by omega) (fun j hj => by omega)
theorem st_look : zst_look zRel := by
  intro h g a R
  obtain ⟨sn, gn, a1, a2, a3, a4, a5, a6, a7, a8, a9⟩ := R.1.1
  obtain ⟨n, hn, c1, c2, c3⟩ := R.1.2.1
  obtain ⟨bl, nt, hb1, hb2, hb3, hb4, hb5, hb6, hfm, hrw, htd⟩ := R.1.2.2.1
  obtain ⟨sz, ls, l1, l2, l3, l4, l5, l6, l7⟩ := R.1.2.2.2.1
  obtain ⟨⟨m1, m2, m3, m4, m5⟩, ⟨p1, p2, p3, p4⟩, md, mf⟩ := R.1.2.2.2.2
  obtain ⟨pn, pm, q1, q2, q3, q4, q5, q6⟩ := R.2.1
  have key : ∀ v, f_X11_look a h = some (v, h) → f_X12_look a g = some (v, g) → ∃ r k1 k2, f_X11_look a h = some (r, k1) ∧ f_X12_look a g = some (r, k2) ∧ zRel k1 k2 := fun v x y => ⟨v, h, g, x, y, R⟩
  have low : ∀ k, k < 8 → f_X12_look (nI k) g = some (g 101 k, g) := by
    intro k hk
    unfold f_X12_look
    rw [q_in, i_pos (⟨nI_pos' (by omega), nI_le (a := k) (b := 7) (by omega) (by omega)⟩ : (0 : Int32) ≤ nI k ∧ nI k ≤ 7)]
    simp only [zbd]
    rw [if_neg (show ¬ ((1 : Int32) = 0) by decide), zck_n (by omega) (by decide), n_cl (by omega)]
  by_cases h0 : a = 0
  · subst h0; exact key _ rfl (by rw [a1, ← a2]; exact low 0 (by omega))
  by_cases h1 : a = 1
  · subst h1; exact key _ rfl (by rw [m4, ← m5]; exact low 1 (by omega))
  by_cases h2 : a = 2
  · subst h2; exact key _ rfl (by rw [p3, ← p4]; exact low 2 (by omega))
  by_cases h3 : a = 3
  · subst h3; exact key _ rfl (by rw [c1, ← c2]; exact low 3 (by omega))
  by_cases h4 : a = 4
  · subst h4; exact key _ rfl (by rw [a5, ← a6]; exact low 4 (by omega))
  by_cases h5 : a = 5
  · subst h5; exact key _ rfl (by rw [hb5, ← hb6]; exact low 5 (by omega))
  by_cases h6 : a = 6
  · subst h6; exact key _ rfl (by rw [hb3, ← hb4]; exact low 6 (by omega))
  by_cases h7 : a = 7
  · subst h7; exact key _ rfl (by rw [md]; exact low 7 (by omega))
  have hno : ¬ (0 ≤ a ∧ a ≤ 7) := by
    intro hz
    rcases n_rng a 0 7 (by decide) with ⟨v, v1, v2, rfl⟩ | ⟨e1, e2⟩
    · rcases (by omega : v = 0 ∨ v = 1 ∨ v = 2 ∨ v = 3 ∨ v = 4 ∨ v = 5 ∨ v = 6 ∨ v = 7) with rfl | rfl | rfl | rfl | rfl | rfl | rfl | rfl
      · exact h0 rfl
      · exact h1 rfl
      · exact h2 rfl
      · exact h3 rfl
      · exact h4 rfl
      · exact h5 rfl
      · exact h6 rfl
      · exact h7 rfl
    · exact (Eq.mp e2 hz).elim
  by_cases h8 : a = 8
  · subst h8; exact key (h 16 4) rfl (by rw [l4, ← l5]; unfold f_X12_look; rw [q_in]; rfl)
  by_cases h9 : a = 9
  · subst h9; exact key (h 22 7) rfl (by rw [q3, ← q4]; unfold f_X12_look; rw [q_in]; rfl)
  unfold f_X11_look f_X12_look
  rw [q_in, i_neg hno]
  simp only [zbd]
  rw [if_neg h0, if_neg h1, if_neg h2, if_neg h3, if_neg h4, if_neg h5, if_neg h6, if_neg h7, if_neg h8, if_neg h9, if_pos trivial, if_neg h8, if_neg h9, q_in, a2]
  simp only []
  unfold f_X11_lookInRows f_X11_lookInRows_39 f_X11_lookInRows_66
  rw [a1]
  rcases n_rng a 10 (9 + sn) ⟨by omega, by omega⟩ with ⟨v, v1, v2, rfl⟩ | ⟨e1, e2⟩
  · rw [show (9 : Int32) + nI sn = nI (9 + sn) from n_add 9 sn, i_pos (⟨nI_le (a := 10) (b := v) (by omega) (by omega), nI_le (a := v) (b := 9 + sn) (by omega) (by omega)⟩ : (10 : Int32) ≤ nI v ∧ nI v ≤ nI (9 + sn)), if_neg (show ¬ ((1 : Int32) = 0) by decide)]
    rw [show nI v - 10 = nI (v - 10) from n_sub (b := 10) (by omega), q_at R.1.1 a1 a4 (v - 10) (by omega)]
    refine ⟨h 10 (v - 10), h, g, ?_, rfl, R⟩
    rw [if_neg (show ¬ nI v < (10 : Int32) from nI_nlt (a := v) (b := 10) (by omega) (by omega)), show (10 : Int32) + nI sn = nI (10 + sn) from n_add 10 sn, if_neg (show ¬ nI (10 + sn) ≤ nI v from nI_ge (by omega) (by omega)), zck_n (by omega) (by decide), n_cl (by omega)]
  · have e2' : ((10 : Int32) ≤ a ∧ a ≤ 9 + nI sn) = False := by rw [show (9 : Int32) + nI sn = nI (9 + sn) from n_add 9 sn]; exact e2
    rw [i_neg (fun z => (Eq.mp e2' z).elim), if_pos rfl, q_in]
    have hA : ∀ K1 K2 : zR, (if a < (10 : Int32) then K1 else if (10 : Int32) + nI sn ≤ a then K1 else K2) = K1 := by
      intro K1 K2
      by_cases e3 : a < 10
      · rw [if_pos e3]
      · rw [if_neg e3, if_pos]
        rcases e1 with e1 | e1
        · exact absurd e1 e3
        · rw [show (10 : Int32) + nI sn = nI (10 + sn) from n_add 10 sn]
          have := Int32.lt_iff_toInt_lt.mp e1
          refine Int32.le_iff_toInt_le.mpr ?_
          rw [nI_toInt (by omega)] at this ⊢
          omega
    rw [hA]
    rcases n_rng a 20 25 (by decide) with ⟨v, v1, v2, rfl⟩ | ⟨e3, e4⟩
    · rw [i_pos (⟨nI_le (a := 20) (b := v) (by omega) (by omega), nI_le (a := v) (b := 25) (by omega) (by omega)⟩ : (20 : Int32) ≤ nI v ∧ nI v ≤ 25)]
      refine ⟨h 20 (v - 20), h, g, ?_, ?_, R⟩
      · rw [if_neg (show ¬ nI v < (20 : Int32) from nI_nlt (a := v) (b := 20) (by omega) (by omega)), if_neg (show ¬ (26 : Int32) ≤ nI v from nI_ge (a := v) (b := 26) (by omega) (by omega)), show nI v - 20 = nI (v - 20) from n_sub (b := 20) (by omega), zck_n (by omega) (by decide), n_cl (by omega)]
      · simp only []
        rw [if_neg (show ¬ ((1 : Int32) = 0) by decide), show (10 : Int32) + nI v - 20 = nI (v - 10) by rw [l_10, n_add, l_20, n_sub (by omega)]; congr 1; omega, zck_n (by omega) (by decide), n_cl (by omega), show v - 10 = 10 + (v - 20) by omega, mf (v - 20) (by omega)]
    · have e4 : ((20 : Int32) ≤ a ∧ a ≤ 25) = False := e4
      rw [i_neg (fun z => (Eq.mp e4 z).elim)]
      refine ⟨-1, h, g, ?_, rfl, R⟩
      by_cases e5 : a < 20
      · rw [if_pos e5]
      · rw [if_neg e5, if_pos]
        rcases e3 with e3 | e3
        · exact absurd e3 e5
        · have e3 : (25 : Int32) < a := e3
          have := Int32.lt_iff_toInt_lt.mp e3
          refine Int32.le_iff_toInt_le.mpr ?_
          simp at this ⊢
          omega
