theorem rMs.fe {Ho Fe w : Nat → Int32} (H : rMs Ho Fe w) {i : Nat} (hi : i < 6) (x : Int32) : rMs Ho (upd Fe i x) (upd w (10 + i) x) := by
  obtain ⟨⟨n, a1, a2, a3, a4⟩, ⟨m, b1, b2, b3⟩, c, d⟩ := H
  refine ⟨⟨n, a1, a2, a3, by rw [pk_un (by omega)]; exact a4⟩, ⟨m, b1, b2, by rw [pk_un (by omega)]; exact b3⟩, by rw [pk_un (by omega)]; exact c, fun f hf => ?_⟩
  by_cases h : f = i
  · subst h; rw [pk_us, pk_us]
  · rw [pk_un h, pk_un (by omega)]; exact d f hf
/-- a change of one number beside the house's other parts -/
theorem rHouse.fe {h g : zH} (H : rHouse h (g 101)) {i : Nat} (hi : i < 6) (x : Int32) : rHouse (zup h 20 i x) (zup g 101 (10 + i) x 101) := by
  obtain ⟨h1, h2, h3, h4, h5⟩ := H
  refine ⟨h1.w (fun j hj => pk_un (by omega)), h2.w (fun j hj => pk_un (by omega)), h3.w (fun j hj => pk_un (by omega)), h4.w (fun j hj => pk_un (by omega)), ?_⟩
  exact h5.fe hi x
def feX (v x s : Int32) : Int32 := if x = 0 then v &&& ((1 <<< (s &&& 31)) ^^^ -1) else v ||| (1 <<< (s &&& 31))
theorem q_quarrel (i j : Nat) (hi : i < 6) (hj : j < 6) (hij : i ≠ j) (x : Int32) (h : zH) : f_X4_quarrel (nI i) (nI j) x h = some (0, zup (zup h 20 i (feX (h 20 i) x (nI j))) 20 j (feX (h 20 j) x (nI i))) := by
  unfold f_X4_quarrel f_X4_quarrel_34 f_X4_quarrel_69
  simp (disch := omega) only [zck_n, n_cl, zst]
  unfold feX
  by_cases hx : x = 0
  · simp only [if_pos hx]
    rw [show zup h 20 i (h 20 i &&& ((1 <<< (nI j &&& 31)) ^^^ -1)) 20 j = h 20 j from by rw [zup_eq, pk_un (Ne.symm hij)]]
  · simp only [if_neg hx]
    rw [show zup h 20 i (h 20 i ||| (1 <<< (nI j &&& 31))) 20 j = h 20 j from by rw [zup_eq, pk_un (Ne.symm hij)]]
theorem q_feuds (i j : Nat) (hi : i < 6) (x : Int32) (g : zH) : f_X12_feuds (nI i) (nI j) x g = some (0, zup g 101 (10 + i) (feX (g 101 (10 + i)) x (nI j))) := by
  unfold f_X12_feuds f_X12_feuds_43
  simp (disch := omega) only [l_10, n_add, zck_n, n_cl, zst]
  unfold feX
  by_cases hx : x = 0
  · simp only [if_pos hx]
  · simp only [if_neg hx]
theorem st_feud : zst_feud zRel := by
  intro h g a b x R hx
  obtain ⟨-, -, -, mf⟩ := R.1.2.2.2.2
  unfold f_X11_feud f_X12_feud f_X11_feud_23 f_X12_feud_19
  rw [q_below, q_fam]
  simp only [zbd]
  rcases n_ix6 a with ⟨i, hi, rfl⟩ | ⟨e1, e2⟩
  · rw [i_pos (v_lt6 hi), i_pos (v_le5 hi), q_below, q_fam]
    rcases n_ix6 b with ⟨j, hj, rfl⟩ | ⟨e1, e2⟩
    · rw [i_pos (v_lt6 hj), i_pos (v_le5 hj)]
      simp only [show ¬ ((1 : Int32) = 0) by decide, if_false]
      by_cases hij : i = j
      · subst hij
        simp only [if_true]
        exact ⟨0, h, g, rfl, rfl, R⟩
      · simp (disch := omega) only [n_eq, hij, if_false]
        rw [q_quarrel i j hi hj hij, q_feuds i j hi]
        simp only []
        rw [q_feuds j i hj]
        simp only [q_forget, q_forgets]
        refine ⟨1, _, _, rfl, rfl, zCore.forget ?_⟩
        have e3 : zup g 101 (10 + i) (feX (g 101 (10 + i)) x (nI j)) 101 (10 + j) = g 101 (10 + j) := by rw [zup_eq, pk_un (by omega)]
        rw [e3, ← mf i hi, ← mf j hj]
        refine zCore.house R.core ?_ ?_ rfl rfl ⟨rfl, rfl, rfl, rfl⟩ rfl rfl
        · exact (R.1.fe hi _).fe hj _
        · intro c hc
          rw [zcells (by decide) c hc, zcells (by decide) c hc]
    · rw [i_neg (fun z => (Eq.mp e1 z).elim), i_neg (fun z => (Eq.mp e2 z).elim)]
      exact ⟨0, h, g, rfl, rfl, R⟩
  · rw [i_neg (fun z => (Eq.mp e1 z).elim), i_neg (fun z => (Eq.mp e2 z).elim)]
    exact ⟨0, h, g, rfl, rfl, R⟩
theorem st_guest : zst_guest zRel := by
  intro h g a R
  obtain ⟨sn, gn, a1, a2, a3, a4, a5, a6, a7, a8, a9⟩ := R.1.1
  unfold f_X11_guest f_X12_guest f_X11_guest_24 f_X12_guest_18
  rw [q_below, q_fam]
  simp only [zbd]
  rcases n_ix6 a with ⟨f, hf, rfl⟩ | ⟨e1, e2⟩
  · rw [i_pos (v_lt6 hf), i_pos (v_le5 hf), a5, a6]
    simp only [show ¬ ((1 : Int32) = 0) by decide, if_false]
    by_cases h8 : gn = 8
    · rw [if_neg (show ¬ nI gn < (8 : Int32) from nI_nlt (a := gn) (b := 8) (by omega) (by omega)), if_pos (show nI gn = (8 : Int32) by rw [h8]; rfl)]
      exact ⟨-1, h, g, rfl, rfl, R⟩
    · rw [if_pos (show nI gn < (8 : Int32) from nI_lt (a := gn) (b := 8) (by omega) (by omega)), if_neg (show ¬ nI gn = (8 : Int32) by rw [l_8, n_eq (by omega) (by omega)]; exact h8)]
      rw [q_forget]
      simp only []
      unfold f_X9_add f_X12_sits
      have e1 : zup h 22 7 0 7 4 = nI gn := a5
      rw [e1]
      simp (disch := omega) only [l_180, l_2, n_mul, n_add, nI_1, zck_n, n_cl, zst, zlt]
      have e2 : ∀ x, zup g 101 (180 + 2 * gn) x 101 4 = nI gn := fun x => by rw [zup_eq, pk_un (by omega)]; exact a6
      rw [e2]
      simp (disch := omega) only [l_180, l_2, n_mul, n_add, nI_1, zck_n, n_cl, zst, zlt]
      have e3 : ∀ x y, zup (zup g 101 (180 + 2 * gn) x) 101 (180 + 2 * gn + 1) y 101 4 = nI gn := fun x y => by rw [zup_eq, pk_un (by omega), zup_eq, pk_un (by omega)]; exact a6
      rw [e3]
      have e4 : ∀ x y, zup (zup (zup h 22 7 0) 8 gn x) 9 gn y 7 4 = nI gn := fun x y => a5
      rw [e4, nI_1, q_forgets]
      refine ⟨nI gn, zup (zup (zup (zup h 22 7 0) 8 gn (nI f)) 9 gn (-1)) 7 4 (nI (gn + 1)), zup (zup (zup (zup g 101 (180 + 2 * gn) (nI f)) 101 (180 + 2 * gn + 1) (-1)) 101 4 (nI (gn + 1))) 100 4 0, rfl, ?_, ?_⟩
      · simp only []
        rw [show ∀ A : zH, zup (zup A 101 4 (nI (gn + 1))) 100 4 0 101 4 - 1 = nI gn from fun A => by show nI (gn + 1) - 1 = nI gn; exact nI_pred gn]
      · have : zRel (zup (zup (zup (zup h 8 gn (nI f)) 9 gn (-1)) 7 4 (nI (gn + 1))) 22 7 0) (zup (zup (zup (zup g 101 (180 + 2 * gn) (nI f)) 101 (180 + 2 * gn + 1) (-1)) 101 4 (nI (gn + 1))) 100 4 0) := by
          refine zCore.forget (R.core.house ?_ ?_ rfl rfl ⟨rfl, rfl, rfl, rfl⟩ rfl rfl)
          · have hw : ∀ i, i ≠ 4 → i ≠ 180 + 2 * gn → i ≠ 181 + 2 * gn → zup (zup (zup g 101 (180 + 2 * gn) (nI f)) 101 (180 + 2 * gn + 1) (-1)) 101 4 (nI (gn + 1)) 101 i = g 101 i := by
              intro i i1 i2 i3
              rw [zup_eq, pk_un i1, zup_eq, pk_un (by omega), zup_eq, pk_un i2]
            refine ⟨⟨sn, gn + 1, a1, by rw [hw 0 (by omega) (by omega) (by omega)]; exact a2, a3, a4, rfl, rfl, by omega, fun i hi => ?_, fun s hs => ?_⟩, R.1.2.1.w (fun i hi => hw i (by omega) (by omega) (by omega)), R.1.2.2.1.w (fun i hi => hw i (by omega) (by omega) (by omega)), R.1.2.2.2.1.w (fun i hi => hw i (by omega) (by omega) (by omega)), R.1.2.2.2.2.w (fun i hi => hw i (by omega) (by omega) (by omega))⟩
            · by_cases hig : i = gn
              · subst hig
                refine ⟨⟨f, hf, ?_, ?_⟩, ?_, Or.inl ?_⟩
                · show upd (h 8) i (nI f) i = nI f
                  exact pk_us
                · rw [zup_eq, pk_un (by omega), zup_eq, pk_un (by omega), zup_eq, pk_us]
                · rw [zup_eq, pk_un (by omega), zup_eq, show 181 + 2 * i = 180 + 2 * i + 1 by omega, pk_us]
                  show upd (h 9) i (-1) i = -1
                  exact pk_us
                · show upd (h 9) i (-1) i = -1
                  exact pk_us
              · obtain ⟨⟨f', f1, f2, f3⟩, f4, f5⟩ := a8 i (by omega)
                refine ⟨⟨f', f1, ?_, ?_⟩, ?_, ?_⟩
                · show upd (h 8) gn (nI f) i = nI f'
                  rw [pk_un hig]; exact f2
                · rw [hw _ (by omega) (by omega) (by omega)]; exact f3
                · show upd (h 9) gn (-1) i = _
                  rw [pk_un hig, hw _ (by omega) (by omega) (by omega)]; exact f4
                · show upd (h 9) gn (-1) i = -1 ∨ ∃ s, s < sn ∧ upd (h 9) gn (-1) i = nI s ∧ h 10 s = nI i
                  rw [pk_un hig]; exact f5
            · rcases a9 s hs with h1 | ⟨i, i1, i2, i3⟩
              · exact Or.inl h1
              · refine Or.inr ⟨i, by omega, i2, ?_⟩
                show upd (h 9) gn (-1) i = nI s
                rw [pk_un (by omega)]; exact i3
          · intro c hc
            rw [zcells (by decide) c hc, zcells (by decide) c hc, zcells (by decide) c hc]
        have sw : zup (zup (zup (zup h 22 7 0) 8 gn (nI f)) 9 gn (-1)) 7 4 (nI (gn + 1)) = zup (zup (zup (zup h 8 gn (nI f)) 9 gn (-1)) 7 4 (nI (gn + 1))) 22 7 0 := by
          funext c j
          simp only [zup_ap]
          by_cases c1 : c = 22
          · subst c1; simp
          · by_cases c2 : c = 7
            · subst c2; simp
            · by_cases c3 : c = 8
              · subst c3; simp
              · by_cases c4 : c = 9
                · subst c4; simp
                · simp [c1, c2, c3, c4]
        rw [sw]
        exact this
  · rw [i_neg (fun z => (Eq.mp e1 z).elim), i_neg (fun z => (Eq.mp e2 z).elim)]
    exact ⟨-1, h, g, rfl, rfl, R⟩
