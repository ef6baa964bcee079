theorem rHal.n {C Sd Jk Wt Qu w : Nat → Int32} (H : rHal C Sd Jk Wt Qu w) : ∃ n : Nat, n ≤ 16 ∧ C 4 = nI n ∧ w 3 = nI n ∧ ∀ i, i < n → ∃ qf, hQ Qu w i qf := by
  obtain ⟨n, a1, a2, a3, a4⟩ := H
  refine ⟨n, a1, a2, a3, fun i hi => ?_⟩
  obtain ⟨-, -, -, qf, e⟩ := a4 i hi
  exact ⟨qf, e⟩
/-- quarters change hands: house -/
theorem rHouse.qu {h g h' g' : zH} (H : rHouse h (g 101)) {i : Nat} {qf : Nat → Nat} (hi : i < 16) (hc : ∀ c, c ≠ 6 → h' c = h c) (hQu : ∀ j, (j < i * 6 ∨ i * 6 + 6 ≤ j) → h' 6 j = h 6 j) (hw : ∀ j, (j < 23 + 10 * i ∨ 29 + 10 * i ≤ j) → g' 101 j = g 101 j) (hq : hQ (h' 6) (g' 101) i qf) : rHouse h' (g' 101) := by
  obtain ⟨h1, h2, h3, h4, h5⟩ := H
  unfold rHouse
  rw [hc 7 (by decide), hc 8 (by decide), hc 9 (by decide), hc 10 (by decide), hc 2 (by decide), hc 3 (by decide), hc 4 (by decide), hc 5 (by decide), hc 11 (by decide), hc 12 (by decide), hc 13 (by decide), hc 14 (by decide), hc 15 (by decide), hc 16 (by decide), hc 17 (by decide), hc 18 (by decide), hc 1 (by decide), hc 20 (by decide)]
  exact ⟨h1.w (fun j hj => hw j (by omega)), h2.qu hQu hw hq, h3.w (fun j hj => hw j (by omega)), h4.w (fun j hj => hw j (by omega)), h5.w (fun j hj => hw j (by omega))⟩
theorem zCore.qu {h g h' g' : zH} (R : zCore h g) {i : Nat} {qf : Nat → Nat} (hi : i < 16) (hc : ∀ c, c ≠ 6 → h' c = h c) (gc : ∀ c, c ≠ 101 → g' c = g c) (hQu : ∀ j, (j < i * 6 ∨ i * 6 + 6 ≤ j) → h' 6 j = h 6 j) (hw : ∀ j, (j < 23 + 10 * i ∨ 29 + 10 * i ≤ j) → g' 101 j = g 101 j) (hq : hQ (h' 6) (g' 101) i qf) : zCore h' g' := by
  refine R.house (R.1.qu hi hc hQu hw hq) (fun c hm => ?_) (by rw [hc 0 (by decide)]) (by rw [hc 38 (by decide)]) ?_ (gc 102 (by decide)) (gc 107 (by decide))
  · simp only [List.mem_cons, List.not_mem_nil, or_false] at hm
    exact hc c (by omega)
  · rw [gc 100 (by decide)]; exact ⟨rfl, rfl, rfl, rfl⟩
/-- one step of giving on both sides -/
theorem q_mv {h g : zH} {i a b q : Nat} {qf : Nat → Nat} (R : zCore h g) (hi : i < 16) (ha : a < 6) (hb : b < 6) (hab : a ≠ b) (hq : q ≤ qf a) (H : hQ (h 6) (g 101) i qf) : ∃ h' g' g1, f_X3_move (nI i) (nI q) (nI a) (nI b) h = some (0, h') ∧ f_X12_adds (nI i) (nI a) (-nI q) g = some (0, g1) ∧ f_X12_adds (nI i) (nI b) (nI q) g1 = some (0, g') ∧ zCore h' g' ∧ hQ (h' 6) (g' 101) i (mvq qf a b q) ∧ (∀ c, c ≠ 6 → h' c = h c) ∧ (∀ c, c ≠ 101 → g' c = g c) ∧ ∀ j, (j < 23 + 10 * i ∨ 29 + 10 * i ≤ j) → g' 101 j = g 101 j := by
  have e1 : g 101 (23 + 10 * i + a) + -nI q = nI (qf a - q) := by rw [(H.2 a ha).2, n_subn hq]
  have e2 : zup g 101 (23 + 10 * i + a) (nI (qf a - q)) 101 (23 + 10 * i + b) + nI q = nI (qf b + q) := by rw [zup_eq, pk_un (by omega), (H.2 b hb).2, n_add]
  have gw : ∀ j, (j < 23 + 10 * i ∨ 29 + 10 * i ≤ j) → zup (zup g 101 (23 + 10 * i + a) (nI (qf a - q))) 101 (23 + 10 * i + b) (nI (qf b + q)) 101 j = g 101 j := fun j hj => by rw [zup_eq, pk_un (by omega), zup_eq, pk_un (by omega)]
  have hQ' := H.mv ha hb hab hq (Qu' := zup (zup h 6 (i * 6 + a) (h 6 (i * 6 + a) - nI q)) 6 (i * 6 + b) (h 6 (i * 6 + b) + nI q) 6) (w' := zup (zup g 101 (23 + 10 * i + a) (nI (qf a - q))) 101 (23 + 10 * i + b) (nI (qf b + q)) 101) (by rw [zup_eq, zup_eq]) (by rw [zup_eq, zup_eq])
  refine ⟨_, _, _, q_move i a b (nI q) hi ha hb hab h, by rw [q_adds i a _ hi ha, e1], by rw [q_adds i b _ hi hb, e2], ?_, hQ', ?_, ?_, gw⟩
  · refine R.qu hi (fun c hc => by rw [zup_ne c hc, zup_ne c hc]) (fun c hc => by rw [zup_ne c hc, zup_ne c hc]) (fun j hj => by rw [zup_eq, pk_un (by omega), zup_eq, pk_un (by omega)]) gw hQ'
  · exact fun c hc => by rw [zup_ne c hc, zup_ne c hc]
  · exact fun c hc => by rw [zup_ne c hc, zup_ne c hc]
theorem c10 : ((1 : Int32) = 0) = False := eq_false (by decide)
theorem c00 : ((0 : Int32) = 0) = True := eq_true rfl
theorem c01 : ((0 : Int32) = 1) = False := eq_false (by decide)
theorem c11 : ((1 : Int32) = 1) = True := eq_true rfl
theorem st_give : zst_give zRel := by
  intro h g x q a b R
  obtain ⟨n, n1, n2, n3, n4⟩ := R.1.2.1.n
  have no : f_X11_give x q a b h = some (0, h) → f_X12_give x q a b g = some (0, g) → ∃ r k1 k2, f_X11_give x q a b h = some (r, k1) ∧ f_X12_give x q a b g = some (r, k2) ∧ zRel k1 k2 := fun x y => ⟨0, h, g, x, y, R⟩
  rcases n_ixc x n (by omega) with ⟨i, hi, rfl⟩ | ⟨e1, e2⟩
  · obtain ⟨qf, hq⟩ := n4 i hi
    have p1 := eq_true (v_lt hi (by omega))
    have p2 := eq_true (v_le hi (by omega))
    rcases n_ix6 a with ⟨a, ha, rfl⟩ | ⟨e1, e2⟩
    · have p3 := eq_true (v_lt6 ha)
      have p4 := eq_true (v_le5 ha)
      rcases n_ix6 b with ⟨b, hb, rfl⟩ | ⟨e1, e2⟩
      · have p5 := eq_true (v_lt6 hb)
        have p6 := eq_true (v_le5 hb)
        by_cases hab : a = b
        · subst hab
          refine no ?_ ?_
          · unfold f_X11_give f_X11_give_43 f_X11_give_44 f_X11_give_72
            simp only [q_has, q_below, zbd, n2, p1, p3, if_true, c10, c00, if_false]
          · unfold f_X12_give f_X12_give_43
            simp only [q_half, q_fam, zbd, n3, p2, p4, if_true, c10, if_false]
        · have hab' : (nI a = nI b) = False := eq_false (by rw [n_eq (by omega) (by omega)]; exact hab)
          have hC : f_X11_give (nI i) q (nI a) (nI b) h = if q < 1 then some (0, h) else if q ≤ nI (qf a) then zbd (f_X3_move (nI i) q (nI a) (nI b) h) (fun _ h6 => some (1, zup h6 22 7 0)) else some (0, h) := by
            unfold f_X11_give f_X11_give_43 f_X11_give_44 f_X11_give_72
            rw [q_has, n2, i_pos (Eq.mpr p1 trivial)]
            simp only [q_below, zbd, p3, p5, if_true, c10, if_false, hab', q_qof i a h (by omega) ha, (hq.2 a ha).1, q_forget]
          have hM : f_X12_give (nI i) q (nI a) (nI b) g = if 1 ≤ q ∧ q ≤ nI (qf a) then zbd (f_X12_adds (nI i) (nI a) (-q) g) (fun _ g1 => zbd (f_X12_adds (nI i) (nI b) q g1) (fun _ g2 => some (1, zup g2 100 4 0))) else some (0, g) := by
            unfold f_X12_give f_X12_give_43
            rw [q_half, n3, i_pos (Eq.mpr p2 trivial)]
            simp only [q_fam, zbd, p4, p6, if_true, c10, if_false, hab', q_qm i a g (by omega) ha, (hq.2 a ha).2, q_in, q_forgets, i_10]
            by_cases hh : 1 ≤ q ∧ q ≤ nI (qf a)
            · rw [if_neg (fun z => z hh), if_pos hh]
            · rw [if_pos hh, if_neg hh]
          have q4 := qf4 hq.1 ha
          by_cases h1 : q < 1
          · exact no (by rw [hC, if_pos h1]) (by rw [hM, if_neg (fun z => Int32.not_lt.mpr z.1 h1)])
          · by_cases h2 : q ≤ nI (qf a)
            · have h1' : nI 1 ≤ q := Int32.not_lt.mp h1
              rcases Nat.eq_zero_or_pos (qf a) with hz | hz
              · rw [hz] at h2
                exact absurd (Int32.le_trans h1' h2) (by decide)
              · rcases n_rng q 1 (qf a) ⟨hz, by omega⟩ with ⟨v, v1, v2, rfl⟩ | ⟨e1, e2⟩
                · obtain ⟨h', g', g1, k1, k2, k3, k4, k5, -⟩ := q_mv R.core (by omega) ha hb hab v2 hq
                  refine ⟨1, zup h' 22 7 0, zup g' 100 4 0, ?_, ?_, k4.forget⟩
                  · rw [hC, if_neg h1, if_pos h2, k1]; rfl
                  · rw [hM, if_pos ⟨h1', h2⟩, k2]
                    simp only [zbd]
                    rw [k3]
                · rcases e1 with e1 | e1
                  · exact absurd h1' (Int32.not_le.mpr e1)
                  · exact absurd h2 (Int32.not_le.mpr e1)
            · exact no (by rw [hC, if_neg h1, if_neg h2]) (by rw [hM, if_neg (fun z => h2 z.2)])
      · refine no ?_ ?_
        · unfold f_X11_give f_X11_give_43 f_X11_give_44 f_X11_give_72
          simp only [q_has, q_below, zbd, n2, p1, p3, e1, if_true, c10, c00, if_false]
        · unfold f_X12_give f_X12_give_43
          simp only [q_half, q_fam, zbd, n3, p2, p4, e2, if_true, c10, c00, if_false]
    · refine no ?_ ?_
      · unfold f_X11_give f_X11_give_43 f_X11_give_44 f_X11_give_72
        simp only [q_has, q_below, zbd, n2, p1, e1, if_true, c10, c00, if_false]
      · unfold f_X12_give f_X12_give_43
        simp only [q_half, q_fam, zbd, n3, p2, e2, if_true, c10, c00, if_false]
  · refine no ?_ ?_
    · unfold f_X11_give f_X11_give_43 f_X11_give_44 f_X11_give_72
      simp only [q_has, zbd, n2, e1, if_true, c00, if_false]
    · unfold f_X12_give f_X12_give_43
      simp only [q_half, zbd, n3, e2, if_true, c00, if_false]
