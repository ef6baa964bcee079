/-! the plain readers -/
theorem st_fame : zst_fame zRel := by
  intro h g a R
  obtain ⟨bl, nt, hb1, hb2, hb3, hb4, hb5, hb6, hfm, hrw, htd⟩ := R.1.2.2.1
  unfold f_X11_fame f_X12_fame
  rw [q_below, q_fam]
  simp only [zbd, i_10]
  rcases n_ix6 a with ⟨k, hk, rfl⟩ | ⟨e1, e2⟩
  · refine ⟨h 14 k, h, g, ?_, ?_, R⟩
    · simp (disch := omega) only [l_0, l_6, n_lt, n_le, zck_n, n_cl]
      simp [hk]
    · simp (disch := omega) only [l_0, l_5, l_200, n_lt, n_le, n_add, zck_n, n_cl]
      simp [show k ≤ 5 by omega, hfm k hk]
  · exact ⟨-1, h, g, by simp [e1], by simp [e2], R⟩
theorem st_fault : zst_fault zRel := by
  intro h g a R
  obtain ⟨e1, e2⟩ := R.2.2.2.2.1
  unfold f_X11_fault f_X12_fault
  by_cases h0 : a = 0
  · exact ⟨h 29 6, h, g, by simp [h0], by simp [h0, e1], R⟩
  · by_cases h1 : a = 1
    · exact ⟨h 29 7, h, g, by simp [h1, f_X11_fault_27], by simp [h1, e2], R⟩
    · exact ⟨-1, h, g, by simp [h0, h1, f_X11_fault_27], by simp [h0, h1], R⟩
