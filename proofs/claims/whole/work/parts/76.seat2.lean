/-! seating: the step -/
theorem zRel.lazy {h g h' : zH} (R : zRel h g) (hc : ∀ c, 1 ≤ c → c < 71 → h' c = h c) (h0 : h' 0 5 = h 0 5) : zRel h' g := by
  refine R.cong (fun c hm => ?_) h0 (by rw [hc 38 (by decide) (by decide)]) ⟨rfl, rfl, rfl, rfl, rfl⟩ rfl rfl rfl rfl
  have := zRc_ne hm
  exact hc c (by omega) (by omega)
theorem zz_nc {h : zH} {d : Nat} (c : Nat) (hc : c ≠ d) : zz h d c = h c := by unfold zz; rw [if_neg hc]
theorem q_lz6 (h : zH) : ∃ h1, f_lz6 h = some (0, h1) ∧ ¬ h1 0 6 = 0 ∧ (∀ c, 1 ≤ c → c < 71 → h1 c = h c) ∧ h1 0 5 = h 0 5 := by
  unfold f_lz6
  by_cases c : h 0 6 = 0
  · rw [if_pos c]
    unfold f_X8_init_t71
    simp only [zst_e, zbd_e]
    refine ⟨_, rfl, ?_, fun c c1 c2 => ?_, ?_⟩
    · rw [zup_eq, pk_us]; decide
    · rw [zup_ne c (by omega), zz_nc c (by omega), zz_nc c (by omega), zz_nc c (by omega)]
    · rw [zup_eq, pk_un (by decide), zz_nc 0 (by decide), zz_nc 0 (by decide), zz_nc 0 (by decide)]
  · rw [if_neg c]
    exact ⟨h, rfl, c, fun c _ _ => rfl, rfl⟩
theorem sCnt1 : ∀ c, c < 8 → 1 ≤ c → sCnt 1 c = 1 := by decide +kernel
theorem n_ten (x : Int32) (n : Nat) (hn : n < 100) : (∃ k, k < n ∧ x = nI (k + 10)) ∨ ((0 ≤ x - 10 ∧ x - 10 < nI n) = False ∧ (10 ≤ x ∧ x ≤ 9 + nI n) = False) := by
  rcases n_ix (x - 10) n (by omega) with ⟨k, k1, k2⟩ | ⟨e1, e2⟩
  · refine Or.inl ⟨k, k1, ?_⟩
    have : x = x - 10 + 10 := by rw [Int32.sub_add_cancel]
    rw [this, k2]
    exact n_add k 10
  · refine Or.inr ⟨e1, eq_false (fun z => ?_)⟩
    obtain ⟨z1, z2⟩ := z
    rw [show (9 : Int32) + nI n = nI (9 + n) from n_add 9 n] at z2
    by_cases n0 : n = 0
    · subst n0
      have z3 : (10 : Int32) ≤ nI (9 + 0) := Int32.le_trans z1 z2
      exact absurd z3 (by decide)
    rcases n_rng x 10 (9 + n) ⟨by omega, by omega⟩ with ⟨k, k1, k2, k3⟩ | ⟨-, e3⟩
    · have : x - 10 = nI (k - 10) := by rw [k3]; exact n_sub k1
      rw [this] at e1
      exact Eq.mp e1 ⟨nI_pos' (by omega), nI_lt (by omega) (by omega)⟩
    · exact Eq.mp e3 ⟨z1, z2⟩
/-- both sides try all rows -/
theorem q_solve {h g : zH} (R : zRel h g) {sn gn : Nat} {fam : Nat → Nat} (t1 : h 7 4 = nI gn) (t4 : sA sn gn (h 10) fam (g 101)) (t5 : ∀ i, i < gn → fam i < 6 ∧ h 8 i = nI (fam i)) (hg3 : 3 ≤ gn) (hg7 : gn ≤ 7) : ∃ h' g1 g2 g', f_X8_solve (nI gn) h = some (0, h') ∧ f_X12_laysSeats g = some (0, g1) ∧ f_X12_seatsAll 12 1 1 (zup (zup (zup g1 101 0 (nI gn)) 100 35 (-1)) 101 181 0) = some (0, g2) ∧ f_X12_backToSeats (zup g2 101 0 (g 101 0)) = some (0, g') ∧ h' 71 4 = g' 100 35 ∧ (∀ j, j < gn → h' 73 j = g' 115 j) ∧ okC h h' ∧ okG g g' := by
  obtain ⟨E, T, qf, He, Ht, Hq, hd4, hnt, hT, Hm, hQ⟩ := R.1.env R.2.2.2.2.2
  obtain ⟨w0, -, hs8, w4, hg8, w6, w7⟩ := t4
  generalize hX : zup (zup (zup h 71 3 (nI gn)) 71 4 (-1)) 72 0 0 = X
  have xc : ∀ c, c < 71 → X c = h c := fun c hc => by rw [← hX, zup_ne c (by omega), zup_ne c (by omega), zup_ne c (by omega)]
  have x713 : X 71 3 = nI gn := by rw [← hX, zup_ne 71 (by decide), zup_eq, pk_un (by decide), zup_eq, pk_us]
  have x714 : X 71 4 = -1 := by rw [← hX, zup_ne 71 (by decide), zup_eq, pk_us]
  have x72 : X 72 0 = nI 0 := by rw [← hX, zup_eq, pk_us]; rfl
  obtain ⟨h5, b1, b2, b3⟩ := q_begin (h := X) (E := E) (T := T) (qf := qf) (He.same (fun c hc => xc c (by omega))) (Ht.same (xc 12 (by decide)) (xc 13 (by decide)) (xc 40 (by decide))) (by unfold qC; rw [xc 6 (by decide)]; exact Hq) hd4
  obtain ⟨g1, c1, c2, c3⟩ := q_laysSeats w4 hg8
  have e1 : g1 101 = g 101 := c2 101 (by decide)
  generalize hY : zup (zup (zup g1 101 0 (nI gn)) 100 35 (-1)) 101 181 0 = Y
  have yc : ∀ c, c ≠ 100 → c ≠ 101 → Y c = g1 c := fun c q1 q2 => by rw [← hY, zup_ne c q2, zup_ne c q1, zup_ne c q2]
  have y100 : ∀ k, k ≠ 35 → Y 100 k = g 100 k := fun k hk => by rw [← hY, zup_ne 100 (by decide), zup_eq, pk_un hk, zup_ne 100 (by decide), c2 100 (by decide)]
  have y35 : Y 100 35 = -1 := by rw [← hY, zup_ne 100 (by decide), zup_eq, pk_us]
  have yw : ∀ j, Y 101 j = if j = 181 then 0 else if j = 0 then nI gn else g 101 j := by
    intro j
    rw [← hY, zup_eq]
    by_cases c : j = 181
    · subst c; rw [pk_us, if_pos rfl]
    · rw [pk_un c, if_neg c, zup_ne 101 (by decide), zup_eq, e1]
      by_cases d : j = 0
      · subst d; rw [pk_us, if_pos rfl]
      · rw [pk_un d, if_neg d]
  have bc : ∀ c, c ≠ 38 → c ≠ 39 → c ≠ 41 → h5 c = X c := b3.1
  obtain ⟨h', g2, p1, p2, ⟨r1, r2, r3, r4, r5, r6, r8, r9⟩, ⟨o1, o2, o3, o4⟩, p5⟩ := q_place (E := E) (can := cnQ E qf) (T0 := T) (fam := fam) (c := gn) (w := upd (g 101) 0 (nI gn)) hg3 hg7 (by omega) (fun p hp => by have := (hT p hp).1; omega) (by rw [pk_us]) (by rw [pk_un (by decide)]; exact w4) (fun i hi => ⟨(t5 i hi).1, by rw [pk_un (by omega)]; exact (w6 i hi).2⟩) (fun g' hg' => Hm.seats (fun j hj => by rw [hg' j hj, pk_un (by omega)])) 12 1 1 (fun _ => 0) 0 T 0 h5 Y (by omega) (by omega) (by omega) ⟨b2, by rw [b3.2 6 (by decide) (by decide), xc 38 (by decide)]; exact R.2.2.2.2.2.2, by rw [bc 71 (by decide) (by decide) (by decide)]; exact x713, fun j hj => ⟨show 0 < gn by omega, by rw [bc 72 (by decide) (by decide) (by decide), show j = 0 by omega]; exact x72⟩, fun i hi => by rw [bc 8 (by decide) (by decide) (by decide), xc 8 (by decide)]; exact (t5 i hi).2, ⟨by rw [bc 71 (by decide) (by decide) (by decide), x714, y35], Or.inl (by rw [bc 71 (by decide) (by decide) (by decide)]; exact x714)⟩, fun j hj => by
      rw [yw j, if_neg (by have := hj 0 (by omega); omega)]
      by_cases d : j = 0
      · subst d; rw [if_pos rfl, pk_us]
      · rw [if_neg d, pk_un d], fun j hj => by show Y 101 (181 + 2 * 0) = nI j; rw [yw, if_pos rfl, show j = 0 by omega]; rfl⟩ ⟨fun i hi hs => by
      rw [hb_1 i (by omega)] at hs
      exact ⟨0, by omega, (of_decide_eq_true hs).symm⟩, fun j hj => by rw [hb_1 0 (by omega)]; rfl, sCnt1 gn (by omega) (by omega), rfl⟩ (by omega) rfl
  have p1 : f_X8_place 12 1 1 0 h5 = some (0, h') := p1
  have p2 : f_X12_seatsAll 12 1 1 Y = some (0, g2) := p2
  obtain ⟨g', l1, l2, l3⟩ := q_backSeats (g := zup g2 101 0 (g 101 0)) (gn := gn) (by rw [zup_eq, pk_un (by decide), r8 4 (fun i _ => by omega), pk_un (by decide)]; exact w4) hg8
  refine ⟨h', g1, g2, g', ?_, c1, by rw [hY]; exact p2, l1, ?_, ?_, ?_, ?_⟩
  · unfold f_X8_solve
    simp only [zst_e]
    rw [if_neg (show ¬ (7 : Int32) < nI gn by rw [l_7, n_lt (by omega) (by omega)]; omega), hX, b1, zbd_e, p1, zbd_e]
  · rw [l2 100 (by decide), zup_ne 100 (by decide)]; exact r6.1
  · intro j hj
    rw [l2 115 (by decide), zup_ne 115 (by decide)]
    exact r6.2.resolve_left p5 j hj
  · refine ⟨fun c z1 z2 z3 z4 z5 z6 z7 z8 z9 z10 => ?_, ?_, ?_⟩
    · rw [o3.1 c z1 z2 z3 z4 z5 z7 z8 (by omega) (by omega) (by omega), bc c z3 z4 z6, xc c z10]
    · rw [o1, bc 40 (by decide) (by decide) (by decide), xc 40 (by decide)]
    · rw [r2]; exact R.2.2.2.2.2.2.symm
  · have g2c : ∀ c, c ≠ 100 → c ≠ 101 → c ≠ 104 → c ≠ 108 → c ≠ 109 → c ≠ 114 → c ≠ 115 → g' c = g c := fun c q1 q2 q3 q4 q5 q6 q7 => by rw [l2 c q2, zup_ne c q2, o4.1 c q1 q2 q3 q4 q5 q7, yc c q1 q2, c2 c q6]
    refine ⟨?_, g2c 102 (by decide) (by decide) (by decide) (by decide) (by decide) (by decide) (by decide), g2c 103 (by decide) (by decide) (by decide) (by decide) (by decide) (by decide) (by decide), g2c 107 (by decide) (by decide) (by decide) (by decide) (by decide) (by decide) (by decide), fun k hk => ?_⟩
    · funext j
      rw [l3 j]
      by_cases c : 181 ≤ j ∧ j < 181 + 2 * gn ∧ j % 2 = 1
      · rw [if_pos c, zup_ne 114 (by decide), o4.1 114 (by decide) (by decide) (by decide) (by decide) (by decide) (by decide), yc 114 (by decide) (by decide), c3 _ (by omega), show 181 + 2 * ((j - 181) / 2) = j by omega]
      · rw [if_neg c, zup_eq]
        by_cases d : j = 0
        · subst d; rw [pk_us]
        · rw [pk_un d, r8 j (fun i _ => by omega), pk_un d]
    · rw [l2 100 (by decide), zup_ne 100 (by decide), o4.2 k hk, y100 k (by omega)]
theorem st_seating : zst_seating zRel := by
  intro h g x R
  obtain ⟨sn, gn, fam, t1, t2, t3, t4, t5, t6, t7⟩ := R.1.1.sA
  have w4 := t4.2.2.2.1
  have hg8 := t4.2.2.2.2.1
  have no : (f_X11_seating x h = some (-1, h)) → (f_X12_seating x g = some (-1, g)) → ∃ r k1 k2, f_X11_seating x h = some (r, k1) ∧ f_X12_seating x g = some (r, k2) ∧ zRel k1 k2 := fun a b => ⟨-1, h, g, a, b, R⟩
  have hC : f_X11_seating x h = if gn < 3 ∨ 7 < gn then some (-1, h) else if x = 0 ∨ (0 ≤ x - 10 ∧ x - 10 < nI gn) then f_X11_seating_49 x (nI gn) h else some (-1, h) := by
    unfold f_X11_seating f_X11_seating_26 f_X11_seating_27 f_X11_seating_47
    simp only [zlt_e, t2, q_below, zbd_e, i_10, if_true]
    by_cases c1 : gn < 3
    · rw [if_pos (show nI gn < 3 by rw [l_3, n_lt (by omega) (by omega)]; exact c1), if_pos (Or.inl c1)]
    · rw [if_neg (show ¬ nI gn < 3 by rw [l_3, n_lt (by omega) (by omega)]; exact c1)]
      by_cases c2 : 7 < gn
      · rw [if_pos (show (7 : Int32) < nI gn by rw [l_7, n_lt (by omega) (by omega)]; exact c2), if_pos (Or.inr c2)]
      · rw [if_neg (show ¬ (7 : Int32) < nI gn by rw [l_7, n_lt (by omega) (by omega)]; exact c2), if_neg (show ¬ (gn < 3 ∨ 7 < gn) by omega), if_neg (show ¬ (1 : Int32) = 0 by decide)]
        by_cases c3 : x = 0
        · rw [if_pos c3, if_pos (Or.inl c3)]
        · rw [if_neg c3]
          by_cases c4 : 0 ≤ x - 10 ∧ x - 10 < nI gn
          · rw [if_neg (fun z => z c4), if_pos (Or.inr c4)]
          · rw [if_pos c4, if_neg (fun z => z.elim c3 c4)]
  have hM : f_X12_seating x g = if gn < 3 ∨ 7 < gn then some (-1, g) else if x = 0 ∨ (10 ≤ x ∧ x ≤ 9 + nI gn) then f_X12_seating_36 x (nI gn) g else some (-1, g) := by
    unfold f_X12_seating f_X12_seating_34
    simp only [zlt_e, w4, q_in, zbd_e, i_10]
    have e : (3 ≤ nI gn ∧ nI gn ≤ 7) = (3 ≤ gn ∧ gn ≤ 7) := by rw [l_3, l_7, n_le (by omega) (by omega), n_le (by omega) (by omega)]
    simp only [e]
    by_cases c1 : gn < 3 ∨ 7 < gn
    · rw [if_pos (show ¬ (3 ≤ gn ∧ gn ≤ 7) by omega), if_pos c1]
    · rw [if_neg (show ¬ ¬ (3 ≤ gn ∧ gn ≤ 7) by omega), if_neg c1]
      by_cases c3 : x = 0
      · rw [if_pos c3, if_pos (Or.inl c3)]
      · rw [if_neg c3]
        by_cases c4 : 10 ≤ x ∧ x ≤ 9 + nI gn
        · rw [if_neg (fun z => z c4), if_pos (Or.inr c4)]
        · rw [if_pos c4, if_neg (fun z => z.elim c3 c4)]
  by_cases c1 : gn < 3 ∨ 7 < gn
  · exact no (by rw [hC, if_pos c1]) (by rw [hM, if_pos c1])
  rw [if_neg c1] at hC hM
  -- the work
  obtain ⟨h1, k1, k2, k3, k4⟩ := q_lz6 h
  have R1 : zRel h1 g := R.lazy k3 k4
  obtain ⟨h', g1, g2, g', p1, p2, p3, p4, p5, p6, p7, p8⟩ := q_solve R1 (sn := sn) (gn := gn) (fam := fam) (by rw [k3 7 (by decide) (by decide)]; exact t2) (by rw [k3 10 (by decide) (by decide)]; exact t4) (fun i hi => by rw [k3 8 (by decide) (by decide)]; exact t5 i hi) (by omega) (by omega)
  have n6 : ¬ h' 0 6 = 0 := by rw [p7.1 0 (by decide) (by decide) (by decide) (by decide) (by decide) (by decide) (by decide) (by decide) (by decide) (by decide)]; exact k2
  have wC : f_X11_seating_49 x (nI gn) h = if x = 0 then some (h' 71 4, h') else zck (x - 10) 7 (some (h' 73 (x - 10).toNatClampNeg, h')) := by
    unfold f_X11_seating_49 f_X11_seating_71
    rw [k1, zbd_e, if_neg k2, p1, zbd_e, if_neg n6, if_neg n6]
  have wM : f_X12_seating_36 x (nI gn) g = if x = 0 then some (g' 100 35, g') else zck (x - 10) 8 (some (g' 115 (x - 10).toNatClampNeg, g')) := by
    unfold f_X12_seating_36
    have s0 : ∀ g, f_X12_sits 0 0 g = some (0, zup g 101 181 0) := fun g => q_sits 0 (by omega) 0 g
    simp only [zlt_e, zst_e, p2, zbd_e, s0, p3, p4]
  rcases n_ten x gn (by omega) with ⟨k, z1, rfl⟩ | ⟨z1, z2⟩
  · have x0 : ¬ nI (k + 10) = 0 := by rw [n_eq0 (by omega)]; omega
    have xs : nI (k + 10) - 10 = nI k := by
      have := n_sub (a := k + 10) (b := 10) (by omega)
      rw [Nat.add_sub_cancel] at this
      exact this
    rw [hC, hM, if_pos (Or.inr (by rw [xs]; exact ⟨nI_pos' (by omega), nI_lt (by omega) (by omega)⟩)), if_pos (Or.inr ⟨by rw [l_10, n_le (by omega) (by omega)]; omega, by rw [l_9, n_add, n_le (by omega) (by omega)]; omega⟩), wC, wM, if_neg x0, if_neg x0, xs, zck_n (by omega) (by decide), zck_n (by omega) (by decide), n_cl (by omega)]
    exact ⟨h' 73 k, h', g', rfl, by rw [p6 k z1], R1.okk p7 p8⟩
  · by_cases x0 : x = 0
    · rw [hC, hM, if_pos (Or.inl x0), if_pos (Or.inl x0), wC, wM, if_pos x0, if_pos x0]
      exact ⟨h' 71 4, h', g', rfl, by rw [p5], R1.okk p7 p8⟩
    · exact no (by rw [hC, if_neg (fun z => z.elim x0 (fun y => Eq.mp z1 y))]) (by rw [hM, if_neg (fun z => z.elim x0 (fun y => Eq.mp z2 y))])
