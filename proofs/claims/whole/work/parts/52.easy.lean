theorem n_rng (x : Int32) (a b : Nat) (hab : a ≤ b ∧ b < 2 ^ 30) : (∃ k, a ≤ k ∧ k ≤ b ∧ x = nI k) ∨ ((x < nI a ∨ nI b < x) ∧ (nI a ≤ x ∧ x ≤ nI b) = False) := by
  obtain ⟨ha, hb⟩ := hab
  by_cases h : x < nI a ∨ nI b < x
  · refine Or.inr ⟨h, eq_false (fun z => ?_)⟩
    rcases h with h | h
    · exact Int32.not_lt.mpr z.1 h
    · exact Int32.not_lt.mpr z.2 h
  · left
    simp only [not_or, Int32.not_lt] at h
    have h3 := Int32.le_iff_toInt_le.mp h.1
    have h4 := Int32.le_iff_toInt_le.mp h.2
    rw [nI_toInt (by omega)] at h3 h4
    rcases pk_ix x (n := b + 1) (by omega) with h1 | h1 | ⟨j, hj, rfl⟩
    · exfalso
      have h2 := Int32.lt_iff_toInt_lt.mp h1
      simp at h2
      omega
    · exfalso
      have h2 := Int32.le_iff_toInt_le.mp h1
      rw [nI_toInt (by omega)] at h2
      omega
    · exact ⟨j, (nI_leI (by omega) (by omega)).mp h.1, by omega, rfl⟩
theorem q_lay28 : ∀ n i h, i ≤ 8 → 8 < n + i → ∃ h', f_X9_layFor_28 n (nI i) h = some (0, h') ∧ (∀ c, c ≠ 9 → h' c = h c) ∧ ∀ j, h' 9 j = if i ≤ j ∧ j < 8 then -1 else h 9 j := by
  intro n
  induction n with
  | zero => intro i h h1 h2; omega
  | succ n ih =>
    intro i h h1 h2
    rw [f_X9_layFor_28]
    simp (disch := omega) only [l_8, n_le]
    by_cases h3 : 8 ≤ i
    · rw [if_pos h3]
      exact ⟨h, rfl, fun c hc => rfl, fun j => by rw [if_neg (by omega)]⟩
    · rw [if_neg h3]
      simp (disch := omega) only [zck_n, n_cl, zst, zlt, nI_1]
      obtain ⟨h', e1, e2, e3⟩ := ih (i + 1) (zup h 9 i (-1)) (by omega) (by omega)
      refine ⟨h', e1, fun c hc => by rw [e2 c hc, zup_ne c hc], fun j => ?_⟩
      rw [e3 j, zup_ap]
      simp only [if_true]
      by_cases h4 : j = i
      · subst h4; rw [if_neg (by omega), if_pos rfl, if_pos (by omega)]
      · rw [if_neg h4]
        by_cases h5 : i + 1 ≤ j ∧ j < 8
        · rw [if_pos h5, if_pos (by omega)]
        · rw [if_neg h5, if_neg (by omega)]
theorem q_lay7 : ∀ n i h, i ≤ 8 → 8 < n + i → ∃ h', f_X9_layFor_7 n (nI i) h = some (0, h') ∧ (∀ c, c ≠ 9 → c ≠ 10 → h' c = h c) ∧ (∀ j, h' 10 j = if i ≤ j ∧ j < 8 then -1 else h 10 j) ∧ ∀ j, j < 8 → h' 9 j = -1 := by
  intro n
  induction n with
  | zero => intro i h h1 h2; omega
  | succ n ih =>
    intro i h h1 h2
    rw [f_X9_layFor_7]
    simp (disch := omega) only [l_8, n_le]
    by_cases h3 : 8 ≤ i
    · rw [if_pos h3]
      obtain ⟨h', e1, e2, e3⟩ := q_lay28 zN 0 h (by omega) (by unfold zN; omega)
      refine ⟨h', e1, fun c hc _ => e2 c hc, fun j => ?_, fun j hj => ?_⟩
      · rw [e2 10 (by decide), if_neg (by omega)]
      · rw [e3 j, if_pos (by omega)]
    · rw [if_neg h3]
      simp (disch := omega) only [zck_n, n_cl, zst, zlt, nI_1]
      obtain ⟨h', e1, e2, e3, e4⟩ := ih (i + 1) (zup h 10 i (-1)) (by omega) (by omega)
      refine ⟨h', e1, fun c hc hc2 => by rw [e2 c hc hc2, zup_ne c hc2], fun j => ?_, e4⟩
      rw [e3 j, zup_ap]
      simp only [if_true]
      by_cases h4 : j = i
      · subst h4; rw [if_neg (by omega), if_pos rfl, if_pos (by omega)]
      · rw [if_neg h4]
        by_cases h5 : i + 1 ≤ j ∧ j < 8
        · rw [if_pos h5, if_pos (by omega)]
        · rw [if_neg h5, if_neg (by omega)]
theorem q_layFor (x : Int32) (h : zH) : ∃ h', f_X9_layFor x h = some (0, h') ∧ (∀ c, c ≠ 7 → c ≠ 9 → c ≠ 10 → h' c = h c) ∧ h' 7 = upd (h 7) 3 x ∧ (∀ j, j < 8 → h' 10 j = -1) ∧ ∀ j, j < 8 → h' 9 j = -1 := by
  unfold f_X9_layFor
  simp only [zst]
  obtain ⟨h', e1, e2, e3, e4⟩ := q_lay7 zN 0 (zup h 7 3 x) (by omega) (by unfold zN; omega)
  refine ⟨h', e1, fun c h1 h2 h3 => by rw [e2 c h2 h3, zup_ne c h1], ?_, fun j hj => by rw [e3 j, if_pos (by omega)], e4⟩
  rw [e2 7 (by decide) (by decide), zup_eq]
/-- the reference: all stand -/
theorem q_set23 : ∀ n i g gn, g 101 4 = nI gn → gn ≤ 8 → i ≤ gn → gn < n + i → ∃ g', f_X12_set_23 n (nI i) g = some (1, zup g' 100 4 0) ∧ (∀ c, c ≠ 101 → g' c = g c) ∧ ∀ j, g' 101 j = if 181 + 2 * i ≤ j ∧ j < 181 + 2 * gn ∧ j % 2 = 1 then -1 else g 101 j := by
  intro n
  induction n with
  | zero => intro i g gn h0 h1 h2 h3; omega
  | succ n ih =>
    intro i g gn h0 h1 h2 h3
    simp only [f_X12_set_23, h0]
    simp (disch := omega) only [n_le]
    by_cases h4 : gn ≤ i
    · rw [if_pos h4]
      refine ⟨g, rfl, fun c hc => rfl, fun j => ?_⟩
      rw [if_neg (by omega)]
    · rw [if_neg h4]
      unfold f_X12_sits
      simp (disch := omega) only [l_180, l_2, n_mul, n_add, nI_1, zck_n, n_cl, zst, zbd, zlt]
      obtain ⟨g', e1, e2, e3⟩ := ih (i + 1) (zup g 101 (180 + 2 * i + 1) (-1)) gn (by rw [zup_ap]; simp only [if_true]; rw [if_neg (by omega)]; exact h0) h1 (by omega) (by omega)
      refine ⟨g', e1, fun c hc => by rw [e2 c hc, zup_ne c hc], fun j => ?_⟩
      rw [e3 j, zup_ap]
      simp only [if_true]
      by_cases h5 : j = 180 + 2 * i + 1
      · rw [if_neg (by omega), if_pos h5, if_pos (by omega)]
      · rw [if_neg h5]
        by_cases h6 : 181 + 2 * (i + 1) ≤ j ∧ j < 181 + 2 * gn ∧ j % 2 = 1
        · rw [if_pos h6, if_pos (by omega)]
        · rw [if_neg h6, if_neg (by omega)]
theorem zcells {h : zH} {c0 k : Nat} {x : Int32} (hc : c0 ∉ [22, 29, 30, 40, 50, 51, 52, 53, 54, 55, 56, 57, 58, 59, 60, 61, 62, 63, 64, 65, 66, 67, 69]) : ∀ c ∈ [22, 29, 30, 40, 50, 51, 52, 53, 54, 55, 56, 57, 58, 59, 60, 61, 62, 63, 64, 65, 66, 67, 69], zup h c0 k x c = h c := fun c hc1 => zup_ne c (fun e => hc (e ▸ hc1))
theorem st_set : zst_set zRel := by
  intro h g a b R
  have no : ∀ (H : f_X11_set a b h = some (0, h)) (G : f_X12_set a b g = some (0, g)), ∃ r k1 k2, f_X11_set a b h = some (r, k1) ∧ f_X12_set a b g = some (r, k2) ∧ zRel k1 k2 := fun H G => ⟨0, h, g, H, G, R⟩
  by_cases a0 : a = 0
  · subst a0
    rcases n_rng b 3 8 (by decide) with ⟨v, hv1, hv2, rfl⟩ | ⟨e1, e2⟩
    · obtain ⟨h', p1, p2, p3, p4, p5⟩ := q_layFor (nI v) h
      obtain ⟨sn, gn, a1, a2, a3, a4, a5, a6, a7, a8, a9⟩ := R.1.1
      obtain ⟨g', q1, q2, q3⟩ := q_set23 zN 0 (zup g 101 0 (nI v)) gn (by rw [zup_ap]; simpa using a6) a7 (by omega) (by unfold zN; omega)
      have hw : ∀ i, i ≠ 0 → ¬ (180 ≤ i ∧ i < 196) → g' 101 i = g 101 i := by
        intro i hi1 hi2
        rw [q3 i, if_neg (by omega), zup_ap]
        simp [hi1]
      refine ⟨1, zup h' 22 7 0, zup g' 100 4 0, ?_, ?_, (R.core.house (h' := h') (g' := g') ?_ ?_ ?_ ?_ ?_ ?_ ?_).forget⟩
      · unfold f_X11_set
        rw [if_pos rfl]
        simp (disch := omega) only [l_3, l_8, n_lt]
        rw [if_neg (by omega), if_neg (by omega), p1]
        rfl
      · unfold f_X12_set
        rw [if_pos rfl, q_in]
        simp only [zbd, i_10]
        simp (disch := omega) only [l_3, l_8, n_le]
        rw [if_neg (by omega)]
        simp only [zst]
        exact q1
      · refine ⟨⟨v, gn, by rw [p3]; rfl, ?_, hv1, hv2, by rw [p3]; exact a5, ?_, a7, fun i hi => ?_, fun s hs => Or.inl (p4 s (by omega))⟩, ?_, ?_, ?_, ?_⟩
        · rw [q3 0, if_neg (by omega), zup_ap]
          simp
        · rw [hw 4 (by decide) (by omega)]; exact a6
        · obtain ⟨⟨f, f1, f2, f3⟩, f4, f5⟩ := a8 i hi
          refine ⟨⟨f, f1, by rw [p2 8 (by decide) (by decide) (by decide)]; exact f2, ?_⟩, ?_, Or.inl (p5 i (by omega))⟩
          · rw [q3, if_neg (by omega), zup_ap]
            simp only [if_true]; rw [if_neg (by omega)]; exact f3
          · rw [p5 i (by omega), q3, if_pos (by omega)]
        · rw [p2 2 (by decide) (by decide) (by decide), p2 3 (by decide) (by decide) (by decide), p2 4 (by decide) (by decide) (by decide), p2 5 (by decide) (by decide) (by decide), p2 6 (by decide) (by decide) (by decide)]
          exact R.1.2.1.w (fun i hi => hw i (by omega) (by omega))
        · rw [p2 11 (by decide) (by decide) (by decide), p2 12 (by decide) (by decide) (by decide), p2 13 (by decide) (by decide) (by decide), p2 14 (by decide) (by decide) (by decide), p2 15 (by decide) (by decide) (by decide)]
          exact R.1.2.2.1.w (fun i hi => hw i (by omega) (by omega))
        · rw [p2 16 (by decide) (by decide) (by decide), p2 17 (by decide) (by decide) (by decide), p2 18 (by decide) (by decide) (by decide)]
          exact R.1.2.2.2.1.w (fun i hi => hw i (by omega) (by omega))
        · rw [p2 1 (by decide) (by decide) (by decide), p2 20 (by decide) (by decide) (by decide)]
          exact R.1.2.2.2.2.w (fun i hi => hw i (by omega) (by omega))
      · intro c hc
        simp only [List.mem_cons, List.not_mem_nil, or_false] at hc
        exact p2 c (by omega) (by omega) (by omega)
      · rw [p2 0 (by decide) (by decide) (by decide)]
      · rw [p2 38 (by decide) (by decide) (by decide)]
      · rw [q2 100 (by decide)]; exact ⟨rfl, rfl, rfl, rfl⟩
      · rw [q2 102 (by decide)]; rfl
      · rw [q2 107 (by decide)]; rfl
    · refine no ?_ ?_
      · unfold f_X11_set f_X11_set_29 f_X11_set_55 f_X11_set_82
        rcases e1 with e1 | e1
        · rw [if_pos rfl, if_pos (show b < 3 from e1)]; rfl
        · rw [if_pos rfl]
          by_cases e3 : b < 3
          · rw [if_pos e3]; rfl
          · rw [if_neg e3, if_pos (show (8 : Int32) < b from e1)]; rfl
      · unfold f_X12_set f_X12_set_48 f_X12_set_72 f_X12_set_98
        rw [if_pos rfl, q_in, show (if (3 : Int32) ≤ b ∧ b ≤ 8 then (1 : Int32) else 0) = 0 from if_neg (fun z => (Eq.mp e2 z).elim)]
        rfl
  · by_cases a1 : a = 1
    · subst a1
      rcases n_rng b 1 4 (by decide) with ⟨v, hv1, hv2, rfl⟩ | ⟨e1, e2⟩
      · refine ⟨1, zup (zup h 1 6 (nI v)) 22 7 0, zup (zup g 101 1 (nI v)) 100 4 0, ?_, ?_, (R.core.house (h' := zup h 1 6 (nI v)) (g' := zup g 101 1 (nI v)) ?_ (zcells (by decide)) rfl rfl ⟨rfl, rfl, rfl, rfl⟩ rfl rfl).forget⟩
        · unfold f_X11_set f_X11_set_29
          rw [if_neg (by decide), if_pos rfl]
          simp (disch := omega) only [l_1, l_4, n_lt]
          rw [if_neg (by omega), if_neg (by omega)]
          rfl
        · unfold f_X12_set f_X12_set_48
          rw [if_neg (by decide), if_pos rfl, q_in]
          simp only [zbd, i_10]
          simp (disch := omega) only [l_1, l_4, n_le]
          rw [if_neg (by omega)]
          rfl
        · refine ⟨R.1.1.w (fun i hi => pk_un (by omega)), R.1.2.1.w (fun i hi => pk_un (by omega)), R.1.2.2.1.w (fun i hi => pk_un (by omega)), R.1.2.2.2.1.w (fun i hi => pk_un (by omega)), ?_⟩
          obtain ⟨-, ⟨m, b1, b2, b3⟩, c, d⟩ := R.1.2.2.2.2
          exact ⟨⟨v, hv1, hv2, rfl, rfl⟩, ⟨m, b1, b2, b3⟩, c, fun f hf => (d f hf).trans (pk_un (by omega)).symm⟩
      · refine no ?_ ?_
        · unfold f_X11_set f_X11_set_29 f_X11_set_55 f_X11_set_82
          rw [if_neg (by decide), if_pos rfl]
          rcases e1 with e1 | e1
          · rw [if_pos (show b < 1 from e1)]; rfl
          · by_cases e3 : b < 1
            · rw [if_pos e3]; rfl
            · rw [if_neg e3, if_pos (show (4 : Int32) < b from e1)]; rfl
        · unfold f_X12_set f_X12_set_48 f_X12_set_72 f_X12_set_98
          rw [if_neg (by decide), if_pos rfl, q_in, show (if (1 : Int32) ≤ b ∧ b ≤ 4 then (1 : Int32) else 0) = 0 from if_neg (fun z => (Eq.mp e2 z).elim)]
          rfl
    · by_cases a2 : a = 2
      · subst a2
        rcases n_rng b 0 1000 (by decide) with ⟨v, hv1, hv2, rfl⟩ | ⟨e1, e2⟩
        · refine ⟨1, zup (zup h 1 7 (nI v)) 22 7 0, zup (zup g 101 2 (nI v)) 100 4 0, ?_, ?_, (R.core.house (h' := zup h 1 7 (nI v)) (g' := zup g 101 2 (nI v)) ?_ (zcells (by decide)) rfl rfl ⟨rfl, rfl, rfl, rfl⟩ rfl rfl).forget⟩
          · unfold f_X11_set f_X11_set_29 f_X11_set_55
            rw [if_neg (by decide), if_neg (by decide), if_pos rfl]
            simp (disch := omega) only [l_1000, n_lt, n_neg]
            rw [if_neg (by simp), if_neg (by omega)]
            rfl
          · unfold f_X12_set f_X12_set_48 f_X12_set_72
            rw [if_neg (by decide), if_neg (by decide), if_pos rfl, q_in]
            simp only [zbd, i_10]
            simp (disch := omega) only [n_nn, l_1000, n_le, true_and]
            rw [if_neg (by omega)]
            rfl
          · refine ⟨R.1.1.w (fun i hi => pk_un (by omega)), R.1.2.1.w (fun i hi => pk_un (by omega)), R.1.2.2.1.w (fun i hi => pk_un (by omega)), R.1.2.2.2.1.w (fun i hi => pk_un (by omega)), ?_⟩
            obtain ⟨⟨m, b1, b2, b3, b4⟩, -, c, d⟩ := R.1.2.2.2.2
            exact ⟨⟨m, b1, b2, b3, b4⟩, ⟨v, hv2, rfl, rfl⟩, c, fun f hf => (d f hf).trans (pk_un (by omega)).symm⟩
        · refine no ?_ ?_
          · unfold f_X11_set f_X11_set_29 f_X11_set_55 f_X11_set_82
            rw [if_neg (by decide), if_neg (by decide), if_pos rfl]
            rcases e1 with e1 | e1
            · rw [if_pos (show b < 0 from e1)]
            · by_cases e3 : b < 0
              · rw [if_pos e3]
              · rw [if_neg e3, if_pos (show (1000 : Int32) < b from e1)]
          · unfold f_X12_set f_X12_set_48 f_X12_set_72 f_X12_set_98
            rw [if_neg (by decide), if_neg (by decide), if_pos rfl, q_in, show (if (0 : Int32) ≤ b ∧ b ≤ 1000 then (1 : Int32) else 0) = 0 from if_neg (fun z => (Eq.mp e2 z).elim)]
            rfl
      · refine no ?_ ?_
        · unfold f_X11_set f_X11_set_29 f_X11_set_55 f_X11_set_82
          rw [if_neg a0, if_neg a1, if_neg a2]
        · unfold f_X12_set f_X12_set_48 f_X12_set_72 f_X12_set_98
          rw [if_neg a0, if_neg a1, if_neg a2]
