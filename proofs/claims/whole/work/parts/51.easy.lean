/-! the plain readers -/
theorem st_fame : zst_fame zRel := by
  intro h g a R
  obtain ⟨bl, nt, hb1, hb2, hb3, hb4, hb5, hb6, hfm, hrw, htd⟩ := R.1.2.2.1
  unfold f_X11_fame f_X12_fame
  rw [q_below, q_fam]
  simp only [zbd, i_10]
  rcases n_ix6 a with ⟨k, hk, rfl⟩ | ⟨e1, e2⟩
  · refine ⟨h 14 k, h, g, ?_, ?_, R⟩
    · simp (disch := omega) only [l_0, l_6, n_lt, n_le, zck_n, n_cl]
      simp [hk]
    · simp (disch := omega) only [l_0, l_5, l_200, n_lt, n_le, n_add, zck_n, n_cl]
      simp [show k ≤ 5 by omega, hfm k hk]
  · exact ⟨-1, h, g, by simp [e1], by simp [e2], R⟩
theorem st_fault : zst_fault zRel := by
  intro h g a R
  obtain ⟨e1, e2⟩ := R.2.2.2.2.1
  unfold f_X11_fault f_X12_fault
  by_cases h0 : a = 0
  · exact ⟨h 29 6, h, g, by simp [h0], by simp [h0, e1], R⟩
  · by_cases h1 : a = 1
    · exact ⟨h 29 7, h, g, by simp [h1], by simp [h1, e2], R⟩
    · exact ⟨-1, h, g, by simp [h0, h1], by simp [h0, h1], R⟩
theorem rTab.w {T Fa Pl Si w w' : Nat → Int32} (H : rTab T Fa Pl Si w) (hw : ∀ i, (i = 0 ∨ i = 4 ∨ (180 ≤ i ∧ i < 196)) → w' i = w i) : rTab T Fa Pl Si w' := by
  obtain ⟨sn, gn, a1, a2, a3, a4, a5, a6, a7, a8, a9⟩ := H
  refine ⟨sn, gn, a1, by rw [hw 0 (by omega)]; exact a2, a3, a4, a5, by rw [hw 4 (by omega)]; exact a6, a7, fun i hi => ?_, a9⟩
  obtain ⟨⟨f, f1, f2, f3⟩, f4, f5⟩ := a8 i hi
  exact ⟨⟨f, f1, f2, by rw [hw _ (by omega)]; exact f3⟩, by rw [hw _ (by omega)]; exact f4, f5⟩
theorem rHal.w {C Sd Jk Wt Qu w w' : Nat → Int32} (H : rHal C Sd Jk Wt Qu w) (hw : ∀ i, (i = 3 ∨ (20 ≤ i ∧ i < 180)) → w' i = w i) : rHal C Sd Jk Wt Qu w' := by
  obtain ⟨n, a1, a2, a3, a4⟩ := H
  refine ⟨n, a1, a2, by rw [hw 3 (by omega)]; exact a3, fun i hi => ?_⟩
  obtain ⟨⟨b1, b2⟩, ⟨j, c1, c2, c3⟩, ⟨k, d1, d2, d3⟩, qf, e1, e2⟩ := a4 i hi
  refine ⟨⟨by rw [hw _ (by omega)]; exact b1, b2⟩, ⟨j, c1, c2, by rw [hw _ (by omega)]; exact c3⟩, ⟨k, d1, d2, by rw [hw _ (by omega)]; exact d3⟩, qf, e1, fun f hf => ⟨(e2 f hf).1, by rw [hw _ (by omega)]; exact (e2 f hf).2⟩⟩
theorem rTold.w {To La w w' : Nat → Int32} {nt : Nat} (H : rTold To La w nt) (hw : ∀ i, 210 ≤ i → i < 722 → w' i = w i) : rTold To La w' nt := by
  intro p hp
  obtain ⟨t, a1, a2, a3, a4⟩ := H p hp
  exact ⟨t, a1, a2, by rw [hw _ (by omega) (by omega)]; exact a3, by rw [hw (466 + p) (by omega) (by omega)]; exact a4⟩
theorem rBk.w {B To La Fm Rw w w' : Nat → Int32} (H : rBk B To La Fm Rw w) (hw : ∀ i, (i = 5 ∨ i = 6 ∨ (200 ≤ i ∧ i < 206) ∨ (210 ≤ i ∧ i < 722) ∨ (730 ≤ i ∧ i < 1330)) → w' i = w i) : rBk B To La Fm Rw w' := by
  obtain ⟨bl, nt, a1, a2, a3, a4, a5, a6, a7, a8, a9⟩ := H
  exact ⟨bl, nt, a1, a2, a3, by rw [hw 6 (by omega)]; exact a4, a5, by rw [hw 5 (by omega)]; exact a6, fun i hi => by rw [hw _ (by omega)]; exact a7 i hi, fun i hi => by rw [hw _ (by omega)]; exact a8 i hi, a9.w (fun i h1 h2 => hw i (by omega))⟩
theorem rMs.w {Ho Fe w w' : Nat → Int32} (H : rMs Ho Fe w) (hw : ∀ i, (i = 1 ∨ i = 2 ∨ i = 7 ∨ (10 ≤ i ∧ i < 16)) → w' i = w i) : rMs Ho Fe w' := by
  obtain ⟨⟨n, a1, a2, a3, a4⟩, ⟨m, b1, b2, b3⟩, c, d⟩ := H
  exact ⟨⟨n, a1, a2, a3, by rw [hw 1 (by omega)]; exact a4⟩, ⟨m, b1, b2, by rw [hw 2 (by omega)]; exact b3⟩, by rw [hw 7 (by omega)]; exact c, fun f hf => by rw [hw _ (by omega)]; exact d f hf⟩
theorem evM_w {w w' F : Nat → Int32} (hw : ∀ i, 1400 ≤ i → w' i = w i) : ∀ r i top z, evM w' F r i top z = evM w F r i top z := by
  intro r
  induction r with
  | zero => intro i top z; rfl
  | succ r ih =>
    intro i top z
    simp only [evM, hw (1400 + 2 * i) (by omega), hw (1401 + 2 * i) (by omega), ih]
theorem mLine.w {w w' : Nat → Int32} {i : Nat} {x : zLn} (hi : i < 20) (H : mLine w i x) (hw : ∀ i, 1335 ≤ i → w' i = w i) : mLine w' i x := by
  obtain ⟨a, b, c, a1, a2, a3, a4, a5, a6, a7, a8⟩ := H
  refine ⟨a, b, c, a1, a2, a3, by rw [hw _ (by omega)]; exact a4, by rw [hw _ (by omega)]; exact a5, by rw [hw _ (by omega)]; exact a6, fun F z => by rw [evM_w (fun i hi => hw i (by omega))]; exact a7 F z, ?_⟩
  cases hx : x.2 with
  | none => rw [hx] at a8; exact a8
  | some v => rw [hx] at a8; exact ⟨a8.1, fun F z => by rw [evM_w (fun i hi => hw i (by omega))]; exact a8.2 F z⟩
theorem rLw.w {L St Nu w w' : Nat → Int32} (H : rLw L St Nu w) (hw : ∀ i, 1335 ≤ i → w' i = w i) : rLw L St Nu w' := by
  obtain ⟨sz, ls, a1, a2, a3, a4, a5, a6, a7⟩ := H
  refine ⟨sz, ls, a1, a2, a3, a4, by rw [hw _ (by omega)]; exact a5, a6, fun i x hx => (a7 i x hx).w ?_ hw⟩
  have := (List.getElem?_eq_some_iff.mp hx).1
  omega
/-- what is left when the evenings are forgotten -/
def zCore (h g : zH) : Prop := rHouse h (g 101) ∧ rImg h g ∧ rTape h g ∧ rFlt h g ∧ rEve h ∧ ∃ m, m < 6 ∧ h 22 6 = nI m
theorem zRel.core {h g : zH} (R : zRel h g) : zCore h g := by
  obtain ⟨a, ⟨n, m, b1, b2, b3, b4, b5, b6⟩, c, d, e, f⟩ := R
  exact ⟨a, c, d, e, f, m, b2, b5⟩
theorem zCore.forget {h g : zH} (R : zCore h g) : zRel (zup h 22 7 0) (zup g 100 4 0) := by
  obtain ⟨a, c, d, e, f, m, b2, b5⟩ := R
  refine ⟨a, ⟨0, m, by omega, b2, rfl, rfl, ?_, trivial⟩, c, d, e, f⟩
  simpa [zup_ap] using b5
/-- a change in the house alone -/
theorem zCore.house {h g h' g' : zH} (R : zCore h g) (H : rHouse h' (g' 101)) (hc : ∀ c ∈ [22, 29, 30, 40, 50, 51, 52, 53, 54, 55, 56, 57, 58, 59, 60, 61, 62, 63, 64, 65, 66, 67, 69], h' c = h c) (h0 : h' 0 5 = h 0 5) (h38 : h' 38 6 = h 38 6) (g0 : g' 100 5 = g 100 5 ∧ g' 100 13 = g 100 13 ∧ g' 100 20 = g 100 20 ∧ g' 100 22 = g 100 22) (g2 : g' 102 = g 102) (g7 : g' 107 = g 107) : zCore h' g' := by
  obtain ⟨-, c, d, e, f, b⟩ := R
  simp only [List.mem_cons, List.not_mem_nil, or_false, forall_eq_or_imp, forall_eq] at hc
  obtain ⟨c22, c29, c30, c40, c50, c51, c52, c53, c54, c55, c56, c57, c58, c59, c60, c61, c62, c63, c64, c65, c66, c67, c69⟩ := hc
  obtain ⟨k2, k3, k4, k5⟩ := g0
  refine ⟨H, ?_⟩
  unfold rImg rKept rTape rFlt rEve at *
  rw [c22, c29, c30, c40, c50, c51, c52, c53, c54, c55, c56, c57, c58, c59, c60, c61, c62, c63, c64, c65, c66, c67, c69, h0, h38, k2, k3, k4, k5, g2, g7]
  exact ⟨c, d, e, f, b⟩
theorem st_state : zst_state zRel := by
  intro h g a R
  obtain ⟨⟨n1, n2, n3⟩, ⟨m1, m2, m3⟩, hd, hf⟩ := R.1.2.2.2.2
  refine ⟨h 1 8, zup (zup h 1 8 a) 22 7 0, zup (zup g 101 7 a) 100 4 0, rfl, by rw [hd]; rfl, (R.core.house (h' := zup h 1 8 a) (g' := zup g 101 7 a) ?_ (by intro c hc; simp only [List.mem_cons, List.not_mem_nil, or_false] at hc; exact zup_ne c (by omega)) rfl rfl ⟨rfl, rfl, rfl, rfl⟩ rfl rfl).forget⟩
  refine ⟨R.1.1.w (fun i hi => pk_un (by omega)), R.1.2.1.w (fun i hi => pk_un (by omega)), R.1.2.2.1.w (fun i hi => pk_un (by omega)), R.1.2.2.2.1.w (fun i hi => pk_un (by omega)), ?_⟩
  obtain ⟨⟨n, a1, a2, a3, a4⟩, ⟨m, b1, b2, b3⟩, c, d⟩ := R.1.2.2.2.2
  exact ⟨⟨n, a1, a2, a3, a4⟩, ⟨m, b1, b2, b3⟩, rfl, fun f hf => (d f hf).trans (pk_un (by omega)).symm⟩
