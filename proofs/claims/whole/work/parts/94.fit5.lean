/-! fit: the step -/
theorem q_lz7 (h : zH) : ∃ h1, f_lz7 h = some (0, h1) ∧ ¬ h1 0 7 = 0 ∧ (∀ c, 1 ≤ c → c < 71 → h1 c = h c) ∧ h1 0 5 = h 0 5 := by
  unfold f_lz7
  by_cases c : h 0 7 = 0
  · rw [if_pos c]
    unfold f_X2_init_t74
    simp only [zst_e, zbd_e]
    refine ⟨_, rfl, ?_, fun c c1 c2 => ?_, ?_⟩
    · rw [zup_eq, pk_us]; decide
    · rw [zup_ne c (by omega), zz_nc c (by omega), zz_nc c (by omega), zz_nc c (by omega), zz_nc c (by omega), zz_nc c (by omega), zz_nc c (by omega)]
    · rw [zup_eq, pk_un (by decide), zz_nc 0 (by decide), zz_nc 0 (by decide), zz_nc 0 (by decide), zz_nc 0 (by decide), zz_nc 0 (by decide), zz_nc 0 (by decide)]
  · rw [if_neg c]
    exact ⟨h, rfl, c, fun c _ _ => rfl, rfl⟩
theorem fit_fin {E : zEv} {can : Nat → Nat → Bool} {T : zTe} {F D : Nat → Nat} {nf ne : Nat} {h1 g1 : zH} (He : eC E h1) (Ht : cT E.nt T h1) (h40 : ∀ p, p < 256 → h1 40 p = 0) (Hm : tM E can T g1) (Cc : fCl E F D nf ne h1) (Cm : fMl E F D nf ne g1) : ∃ h' g', f_X2_solve_r1_15 zN 0 h1 = some (1, h') ∧ f_X12_laysFit g1 = some (0, g') ∧ fL h1 h' ∧ gL g1 g' ∧ h' 74 7 = g' 112 0 ∧ ∀ j, j < 16 → h' 79 j = g' 113 j := by
  have c1 := Cc.1
  have c2 := Cc.2.1
  have P := p_256 ne (by omega)
  obtain ⟨h2, a1, a2, a3⟩ := q_f15 He Ht h40 Cc zN 0 h1 ⟨fun _ _ _ _ _ _ _ => rfl, fun _ _ => rfl⟩ (fun a ha => by omega) (by omega) (by unfold zN; omega)
  have a1 : f_X2_solve_r1_15 zN 0 h1 = f_X2_solve_r1_82 zN (nI (2 ^ ne)) 0 h2 := a1
  obtain ⟨h3, b1, b2, b3, b4⟩ := q_f82 (V := fV E T F D) Cc zN 0 h2 a2 (fun s hs => by omega) (by omega) (by unfold zN; omega)
  have b1 : f_X2_solve_r1_82 zN (nI (2 ^ ne)) 0 h2 = f_X2_solve_r1_116 zN (nI (2 ^ ne)) (nI nf - 1) h3 := b1
  obtain ⟨h4, d1, d2, d3, d4⟩ := q_f116 (T := T) Cc zN nf h3 b2 (fun a ha e he => by rw [b3]; exact a3 a ha e he) b4 (by omega) (by unfold zN; omega)
  obtain ⟨g2, e1, e2, e3⟩ := q_m9 (V := fV E T F D) Cm zN 0 g1 (gL.refl g1) (fun s hs => by omega) (by omega) (by unfold zN; omega)
  have e1 : f_X12_laysFit_9 zN (nI (2 ^ ne)) 0 g1 = f_X12_laysFit_43 zN (nI (2 ^ ne)) (nI nf - 1) g2 := e1
  obtain ⟨g3, f1, f2, f3⟩ := q_m43 (T := T) Hm Cm zN nf g2 e2 e3 (by omega) (by unfold zN; omega)
  obtain ⟨h5, i1, i2, i3⟩ := q_ch2 (nI (2 ^ ne - 1)) zN 0 (zup h4 74 7 (h4 75 (2 ^ ne - 1))) (by omega) (by unfold zN; omega) (fun j hj => by omega)
  have i1 : f_X2_choose (nI (2 ^ ne - 1)) (zup h4 74 7 (h4 75 (2 ^ ne - 1))) = f_X2_choose_25 zN (nI (2 ^ ne - 1)) 0 h5 := i1
  obtain ⟨g4, j1, j2, j3⟩ := q_m157 zN 0 g3 (by omega) (by unfold zN; omega) (fun j hj => by omega)
  have j1 : f_X12_laysFit_157 zN 0 g3 = f_X12_laysFit_180 zN 0 0 g4 := j1
  have L5 : fL h1 h5 := ⟨fun c q1 q2 q3 q4 q5 q6 => by rw [i2 c q6, zup_ne c q3, d2.1 c q1 q2 q3 q4 q5 q6], fun k hk => by rw [i2 74 (by decide), zup_eq, pk_un hk, d2.2 k hk]⟩
  have G4 : gL g1 g4 := fun c q1 q2 q3 q4 => by rw [j2 c q4, f2 c q1 q2 q3 q4]
  have ft : ∀ e, e < ne → bts (2 ^ ne - 1) e = nbt 0 e := fun e he => by
    have : bts (2 ^ ne - 1) e = true := full_t ne (by omega) e he
    rw [this]
    unfold nbt
    rw [Nat.zero_testBit]
    rfl
  obtain ⟨h', g', u1, u2, u3, u4, u5, u6, u7⟩ := q_choose (T := T) He.1 Hm Cc Cm zN zN 0 (2 ^ ne - 1) 0 h5 g4 L5 G4 (fun a ha e he => by rw [i2 76 (by decide), zup_ne 76 (by decide)]; exact d3 a ha e he) (fun q q1 q2 s hs => by rw [i2 75 (by decide), zup_ne 75 (by decide)]; exact d4 q q1 q2 s hs) (fun q q1 q2 s hs => by rw [j2 112 (by decide)]; exact f3 q q1 q2 s hs) ft (by omega) (by omega) (fun j hj => by rw [i3 j hj, j3 j hj]) (by omega) (by unfold zN; omega) (by unfold zN; omega)
  have u1 : f_X2_choose_25 zN (nI (2 ^ ne - 1)) 0 h5 = some (0, h') := u1
  have u2 : f_X12_laysFit_180 zN 0 0 g4 = some (0, g') := u2
  refine ⟨h', g', ?_, ?_, u3, u4, ?_, u7⟩
  · rw [a1, b1, d1, i1, u1, zbd_e]
  · unfold f_X12_laysFit
    rw [Cm.2.2.2.1, sh_p ne (by omega), zlt_e, e1, f1, j1, u2]
  · rw [u5, i2 74 (by decide), zup_eq, pk_us, u6, j2 112 (by decide)]
    have r1 := d4 0 (by omega) (by omega) (2 ^ ne - 1) (by omega)
    have r2 := f3 0 (by omega) (by omega) 0 (by omega)
    rw [Nat.zero_mul, Nat.zero_add] at r1
    rw [Nat.mul_zero, Nat.zero_add] at r2
    rw [r1, r2]
    exact fitG_cong _ _ _ ft
theorem q_fsolve {h g : zH} (R : zRel h g) : ∃ h' g1 nf ne, f_X12_sorts g = some (0, g1) ∧ g1 100 31 = nI nf ∧ g1 100 32 = nI ne ∧ nf ≤ 16 ∧ ne ≤ 16 ∧ okC h h' ∧ okG g g1 ∧ ((f_X2_solve_r1 h = some (0, h') ∧ (8 < nf ∨ 8 < ne)) ∨ (f_X2_solve_r1 h = some (1, h') ∧ nf ≤ 8 ∧ ne ≤ 8 ∧ ∃ g', f_X12_laysFit g1 = some (0, g') ∧ okG g g' ∧ h' 74 7 = g' 112 0 ∧ ∀ j, j < 16 → h' 79 j = g' 113 j)) := by
  obtain ⟨E, T, qf, He, Ht, Hq, hd4, hnt, hT, Hm, hQ⟩ := R.1.env R.2.2.2.2.2
  have hn := He.1
  have z : ∀ h', fF h h' → okC h h' := fun h' F => ⟨fun c z1 z2 _ _ _ _ _ _ _ z10 => F c z1 z2 (by omega), F 40 (by decide) (by decide) (by decide), by rw [F 38 (by decide) (by decide) (by decide)]⟩
  have y : ∀ g', fG g g' → okG g g' := fun g' G => ⟨G.1 101 (by decide) (by decide) (by decide) (by decide), G.1 102 (by decide) (by decide) (by decide) (by decide), G.1 103 (by decide) (by decide) (by decide) (by decide), G.1 107 (by decide) (by decide) (by decide) (by decide), fun k hk => G.2 k (by omega) (by omega)⟩
  obtain ⟨h1, g1, a, b, p1, p2, p3, p4, p5, p6⟩ := q_gath (can := cnQ E qf) (T := T) He Hm zN zN 0 0 0 (zup (zup h 74 5 0) 74 6 0) (zup (zup g 100 31 0) 100 32 0) (fun c q1 q2 q3 => by rw [zup_ne c (by omega), zup_ne c (by omega)]) ⟨fun c q1 q2 q3 q4 => by rw [zup_ne c q1, zup_ne c q1], fun k q1 q2 => by rw [zup_eq, pk_un q2, zup_eq, pk_un q1]⟩ ⟨by rw [zup_eq, pk_un (by decide), zup_eq, pk_us]; rfl, by rw [zup_eq, pk_us]; rfl, by rw [zup_eq, pk_un (by decide), zup_eq, pk_us]; rfl, by rw [zup_eq, pk_us]; rfl, fun k hk => by omega, fun k hk => by omega⟩ (by omega) (by omega) (by omega) (by omega) (by unfold zN; omega) (by unfold zN; omega)
  have p1 : f_X12_sorts g = some (0, g1) := by
    unfold f_X12_sorts
    rw [zst_e, zst_e]
    exact p1
  have ga : f_X2_gather_r2 h = f_X2_gather_r2_12 zN 0 (zup (zup h 74 5 0) 74 6 0) := by
    unfold f_X2_gather_r2
    rw [zst_e, zst_e]
  rcases p6 with ⟨q1, q2, q3, L⟩ | ⟨q1, q2, q3, q4⟩
  · have q1 : f_X2_gather_r2_12 zN 0 (zup (zup h 74 5 0) 74 6 0) = some (1, h1) := q1
    obtain ⟨l1, l2, l3, l4, l5, l6⟩ := L
    have lc : ∀ c, (c < 19 ∨ c = 20 ∨ c = 40) → h1 c = h c := fun c hc => p2 c (by omega) (by omega) (by omega)
    have Fx : ∀ k, k < a → h1 77 k = nI ((h1 77 k).toNatClampNeg) ∧ (h1 77 k).toNatClampNeg < E.n ∧ g1 110 k = nI ((h1 77 k).toNatClampNeg) := by
      intro k hk
      obtain ⟨f, f1, f2, f3⟩ := l5 k hk
      rw [f2, n_cl (by omega)]
      exact ⟨rfl, f1, f3⟩
    have Dx : ∀ k, k < b → h1 78 k = nI ((h1 78 k).toNatClampNeg) ∧ (h1 78 k).toNatClampNeg < E.n ∧ g1 111 k = nI ((h1 78 k).toNatClampNeg) := by
      intro k hk
      obtain ⟨f, f1, f2, f3⟩ := l6 k hk
      rw [f2, n_cl (by omega)]
      exact ⟨rfl, f1, f3⟩
    obtain ⟨h', g', u1, u2, u3, u4, u5, u6⟩ := fit_fin (can := cnQ E qf) (T := T) (F := fun k => (h1 77 k).toNatClampNeg) (D := fun k => (h1 78 k).toNatClampNeg) (nf := a) (ne := b) (He.same (fun c hc => lc c (by omega))) (Ht.same (lc 12 (by omega)) (lc 13 (by omega)) (lc 40 (by omega))) (by rw [lc 40 (by omega)]; exact R.2.2.2.2.2.1) (Hm.w (p3.1 101 (by decide) (by decide) (by decide) (by decide))) ⟨q2, q3, l1, l2, fun k hk => ⟨(Fx k hk).1, (Fx k hk).2.1⟩, fun k hk => ⟨(Dx k hk).1, (Dx k hk).2.1⟩⟩ ⟨q2, q3, l3, l4, fun k hk => ⟨(Fx k hk).2.2, (Fx k hk).2.1⟩, fun k hk => ⟨(Dx k hk).2.2, (Dx k hk).2.1⟩⟩
    refine ⟨h', g1, a, b, p1, l3, l4, p4, p5, z h' (p2.trans (fun c r1 r2 r3 => u3.1 c r1 r2 (by omega) (by omega) (by omega) (by omega))), y g1 p3, Or.inr ⟨?_, q2, q3, g', u2, y g' (p3.trans ⟨fun c r1 r2 r3 r4 => u4 c r2 r3 (by omega) (by omega), fun k _ _ => by rw [u4 100 (by decide) (by decide) (by decide) (by decide)]⟩), u5, u6⟩⟩
    unfold f_X2_solve_r1
    rw [ga, q1, zbd_e, if_neg (show ¬ (1 : Int32) = 0 by decide)]
    exact u1
  · have q1 : f_X2_gather_r2_12 zN 0 (zup (zup h 74 5 0) 74 6 0) = some (0, h1) := q1
    refine ⟨h1, g1, a, b, p1, q2, q3, p4, p5, z h1 p2, y g1 p3, Or.inl ⟨?_, q4⟩⟩
    unfold f_X2_solve_r1
    rw [ga, q1, zbd_e, if_pos rfl]
theorem st_fit : zst_fit zRel := by
  intro h g x R
  obtain ⟨n, n1, n2, n3, n4⟩ := R.1.2.1.n
  have no : f_X11_fit x h = some (-1, h) → f_X12_fit x g = some (-1, g) → ∃ r k1 k2, f_X11_fit x h = some (r, k1) ∧ f_X12_fit x g = some (r, k2) ∧ zRel k1 k2 := fun p q => ⟨-1, h, g, p, q, R⟩
  have hC : f_X11_fit x h = if x = 0 ∨ (0 ≤ x - 10 ∧ x - 10 < nI n) then f_X11_fit_23 x h else some (-1, h) := by
    unfold f_X11_fit
    rw [q_has, n2, zbd_e]
    simp only [i_10]
    by_cases x0 : x = 0
    · rw [if_pos x0, if_pos (Or.inl x0)]
    rw [if_neg x0]
    by_cases c : 0 ≤ x - 10 ∧ x - 10 < nI n
    · rw [if_neg (fun z => z c), if_pos (Or.inr c)]
    · rw [if_pos c, if_neg (fun z => z.elim x0 c)]
  have hM : f_X12_fit x g = if x = 0 ∨ (10 ≤ x ∧ x ≤ 9 + nI n) then f_X12_fit_24 x g else some (-1, g) := by
    unfold f_X12_fit
    simp only [q_in, zbd_e, n3, i_10]
    by_cases x0 : x = 0
    · rw [if_pos x0, if_pos (Or.inl x0)]
    rw [if_neg x0]
    by_cases c : 10 ≤ x ∧ x ≤ 9 + nI n
    · rw [if_neg (fun z => z c), if_pos (Or.inr c)]
    · rw [if_pos c, if_neg (fun z => z.elim x0 c)]
  obtain ⟨h1, k1, k2, k3, k4⟩ := q_lz7 h
  have R1 : zRel h1 g := R.lazy k3 k4
  obtain ⟨h', g1, nf, ne, p1, p2, p3, p4, p5, p6, p7, p8⟩ := q_fsolve R1
  have n7 : ¬ h' 0 7 = 0 := by rw [p6.1 0 (by decide) (by decide) (by decide) (by decide) (by decide) (by decide) (by decide) (by decide) (by decide) (by decide)]; exact k2
  have work : ∀ k, (x = 0 ∨ (k < 16 ∧ x = nI (k + 10))) → ∃ r k1 k2, f_X11_fit_23 x h = some (r, k1) ∧ f_X12_fit_24 x g = some (r, k2) ∧ zRel k1 k2 := by
    intro k hx
    unfold f_X11_fit_23 f_X11_fit_41 f_X12_fit_24 f_X12_fit_46
    rw [k1, zbd_e, if_neg k2, p1, zbd_e, p2, p3]
    rcases p8 with ⟨q1, q2⟩ | ⟨q1, q2, q3, g', q4, q5, q6, q7⟩
    · rw [q1, zbd_e, if_pos rfl]
      refine ⟨-1, h', g1, rfl, ?_, R1.okk p6 p7⟩
      by_cases c : 8 < nf
      · rw [if_pos (show (8 : Int32) < nI nf by rw [l_8, n_lt (by omega) (by omega)]; exact c)]
      · rw [if_neg (show ¬ (8 : Int32) < nI nf by rw [l_8, n_lt (by omega) (by omega)]; exact c), if_neg (show ¬ nI ne ≤ 8 by rw [l_8, n_le (by omega) (by omega)]; omega)]
    · rw [q1, zbd_e, if_neg (show ¬ (1 : Int32) = 0 by decide), if_neg (show ¬ (8 : Int32) < nI nf by rw [l_8, n_lt (by omega) (by omega)]; omega), if_pos (show nI ne ≤ 8 by rw [l_8, n_le (by omega) (by omega)]; exact q3), q4, zbd_e, if_neg n7, if_neg n7]
      have f0 : f_X12_fitted 0 0 g' = some (g' 112 0, g') := q_fitd (i := 0) (S := 0) g' (by omega) (by omega)
      rcases hx with x0 | ⟨kk, xk⟩
      · rw [if_pos x0, if_pos x0, f0, zbd_e]
        exact ⟨_, h', g', rfl, by rw [q6], R1.okk p6 q5⟩
      · subst xk
        have x0 : ¬ nI (k + 10) = 0 := by rw [n_eq0 (by omega)]; omega
        have xs : nI (k + 10) - 10 = nI k := by
          have := n_sub (a := k + 10) (b := 10) (by omega)
          rw [Nat.add_sub_cancel] at this
          exact this
        rw [if_neg x0, if_neg x0, xs, zck_n (by omega) (by decide), zck_n (by omega) (by decide), n_cl (by omega)]
        exact ⟨_, h', g', rfl, by rw [q7 k kk], R1.okk p6 q5⟩
  rcases n_ten x n (by omega) with ⟨k, z1, rfl⟩ | ⟨z1, z2⟩
  · have xs : nI (k + 10) - 10 = nI k := by
      have := n_sub (a := k + 10) (b := 10) (by omega)
      rw [Nat.add_sub_cancel] at this
      exact this
    rw [hC, hM, if_pos (Or.inr (by rw [xs]; exact ⟨nI_pos' (by omega), nI_lt (by omega) (by omega)⟩)), if_pos (Or.inr ⟨by rw [l_10, n_le (by omega) (by omega)]; omega, by rw [l_9, n_add, n_le (by omega) (by omega)]; omega⟩)]
    exact work k (Or.inr ⟨by omega, rfl⟩)
  · by_cases x0 : x = 0
    · rw [hC, hM, if_pos (Or.inl x0), if_pos (Or.inl x0)]
      exact work 0 (Or.inl x0)
    · exact no (by rw [hC, if_neg (fun z => z.elim x0 (fun y => Eq.mp z1 y))]) (by rw [hM, if_neg (fun z => z.elim x0 (fun y => Eq.mp z2 y))])
