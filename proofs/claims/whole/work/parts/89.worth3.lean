/-! worth: the step -/
theorem q_lz8 (h : zH) : ∃ h1, f_lz8 h = some (0, h1) ∧ ¬ h1 0 8 = 0 ∧ (∀ c, 1 ≤ c → c < 71 → h1 c = h c) ∧ h1 0 5 = h 0 5 := by
  unfold f_lz8
  by_cases c : h 0 8 = 0
  · rw [if_pos c]
    unfold f_X10_init_t80
    simp only [zst_e, zbd_e]
    refine ⟨_, rfl, ?_, fun c c1 c2 => ?_, ?_⟩
    · rw [zup_eq, pk_us]; decide
    · rw [zup_ne c (by omega), zz_nc c (by omega), zz_nc c (by omega), zz_nc c (by omega)]
    · rw [zup_eq, pk_un (by decide), zz_nc 0 (by decide), zz_nc 0 (by decide), zz_nc 0 (by decide)]
  · rw [if_neg c]
    exact ⟨h, rfl, c, fun c _ _ => rfl, rfl⟩
theorem q_jC (x : Int32) (h : zH) : f_X10_judge x h = f_X10_judge_12 zN x (nI 1) (zup (zup h 80 2 (-1)) 80 3 0) := by
  unfold f_X10_judge
  rw [zst_e, zst_e, l_1]
theorem q_wsolve {h g : zH} (R : zRel h g) {n : Nat} (hn : h 2 4 = nI n) (hn16 : n ≤ 16) : ∃ h', f_X10_solve_r1 h = some (0, h') ∧ okC h h' ∧ (∀ a x, ∃ g', okG g g' ∧ (x = 0 → f_X12_worth_39 a x g = some (h' 80 2, g')) ∧ (x = 1 → f_X12_worth_39 a x g = some (h' 80 3, g')) ∧ ∀ i k, i ≤ 40 → k < n → a = nI i → x = nI (k + 10) → f_X12_worth_39 a x g = some (h' 81 (i * 16 + k), g')) := by
  obtain ⟨E, T, qf, He, Ht, Hq, hd4, hnt, hT, Hm, hQ⟩ := R.1.env R.2.2.2.2.2
  have hEn : E.n = n := by
    have := He.2.1
    have h16 := He.1
    rw [hn, n_eq (by omega) (by omega)] at this
    exact this.symm
  have hs : ∀ j, j < E.n → E.sd j = 0 ∨ E.sd j = 1 := by
    intro j hj
    obtain ⟨n', a1, a2, a3, a4⟩ := R.1.2.1
    have : n' = n := by rw [hn, n_eq (by omega) (by omega)] at a2; exact a2.symm
    rw [← (He.2.2.1 j hj).1]
    exact (a4 j (by omega)).1.2
  obtain ⟨h1, a1, a2, a3, a4⟩ := q_wo7 (T := T) He Ht R.2.2.2.2.2.1 zN 0 h (fun c _ _ _ _ _ => rfl) (fun j hj => by omega) (fun f e _ _ _ _ z => by omega) (by omega) (by have := He.1; unfold zN; omega)
  have a1 : f_X10_solve_r1 h = f_X10_solve_r1_109 zN 1 h1 := a1
  obtain ⟨h2, b1, b2, b3⟩ := q_wo109 (T := T) He hs zN 0 h1 a2 a4 (fun q hq j hj => by
    have : q = 0 := by omega
    subst this
    rw [show 0 * 16 + j = j by omega]
    exact a3 j hj) (by omega) (by unfold zN; omega)
  have b1 : f_X10_solve_r1_109 zN 1 h1 = zbd (f_X10_judge (nI E.n) h2) (fun _ h2 => some (0, h2)) := b1
  have A : rowC E T 40 (zup (zup h2 80 2 (-1)) 80 3 0) := fun q hq j hj => by rw [zup_ne 81 (by decide), zup_ne 81 (by decide)]; exact b3 q hq j hj
  have jj := fun (g' : zH) (w3 : g' 101 3 = nI E.n) (B : rowM E T 40 g') => q_judge He.1 w3 B A (by rw [zup_eq, pk_un (by decide), zup_eq, pk_us]) (by rw [zup_eq, pk_us]) zN zN 1 (fun a b q1 q2 => by
    intro _
    omega) (by omega) (by omega) (by unfold zN; omega) (by unfold zN; omega)
  -- the reference's end
  have mm : ∀ a x, ∃ g', f_X12_worth_39 a x g = (if x ≤ (1 : Int32) then (f_X12_worth_144 zN x (1 : Int32) g') else (zck ((((16 : Int32) * a) + x) - (10 : Int32)) 656 (some ((g' 116 (Int32.toNatClampNeg ((((16 : Int32) * a) + x) - (10 : Int32)))), g')))) ∧ mF g g' ∧ rowM E T 40 g' := by
    intro a x
    obtain ⟨g1, c1, c2, c3⟩ := q_wm41 a x Hm zN 0 g (fun c _ _ _ => rfl) (fun j hj => by omega) (by omega) (by have := He.1; unfold zN; omega)
    obtain ⟨g2, d1, d2, d3⟩ := q_wm71 a x Hm zN 0 g1 c2 c3 (by omega) (by unfold zN; omega)
    have c1 : f_X12_worth_39 a x g = f_X12_worth_71 zN a x 1 g1 := c1
    have d1 : f_X12_worth_71 zN a x 1 g1 = _ := d1
    exact ⟨g2, c1.trans d1, d2, d3⟩
  -- the class's end does not depend on it
  obtain ⟨gz, -, fz, Bz⟩ := mm 0 0
  obtain ⟨h3, e1, e2, e3, e4⟩ := jj gz (by rw [fz 101 (by decide) (by decide) (by decide)]; exact Hm.1.2.1) Bz
  rw [← q_jC] at e1
  refine ⟨h3, by rw [a1, b1, e1, zbd_e], ?_, fun a x => ?_⟩
  · have F : ∀ c, c ≠ 19 → c ≠ 21 → c ≠ 80 → c ≠ 81 → c ≠ 82 → h3 c = h c := fun c q1 q2 q3 q4 q5 => by rw [e2 c q3, zup_ne c q3, zup_ne c q3, b2 c q1 q2 q3 q4 q5]
    exact ⟨fun c z1 z2 _ _ _ _ _ _ _ z10 => F c z1 z2 (by omega) (by omega) (by omega), F 40 (by decide) (by decide) (by decide) (by decide) (by decide), by rw [F 38 (by decide) (by decide) (by decide) (by decide) (by decide)]⟩
  · obtain ⟨g', m1, m2, m3⟩ := mm a x
    obtain ⟨h4, f1, f2, f3, f4⟩ := jj g' (by rw [m2 101 (by decide) (by decide) (by decide)]; exact Hm.1.2.1) m3
    rw [← q_jC] at f1
    have h34 : h4 = h3 := by
      rw [e1] at f1
      exact (congrArg Prod.snd (Option.some.inj f1)).symm
    subst h34
    refine ⟨g', ⟨m2 101 (by decide) (by decide) (by decide), m2 102 (by decide) (by decide) (by decide), m2 103 (by decide) (by decide) (by decide), m2 107 (by decide) (by decide) (by decide), fun k _ => by rw [m2 100 (by decide) (by decide) (by decide)]⟩, fun hx => ?_, fun hx => ?_, fun i k hi hk ha hx => ?_⟩
    · subst hx
      rw [m1, if_pos (by decide)]
      exact f3
    · subst hx
      rw [m1, if_pos (by decide)]
      exact f4
    · subst ha hx
      rw [m1, if_neg (show ¬ nI (k + 10) ≤ 1 by rw [l_1, n_le (by omega) (by omega)]; omega), show (16 : Int32) * nI i + nI (k + 10) - 10 = nI (16 * i + k) by
        rw [show (16 : Int32) * nI i = nI (16 * i) from n_mul 16 i, n_add, show (10 : Int32) = nI 10 from rfl, n_sub (by omega)]
        congr 1, zck_n (by omega) (by decide), n_cl (by omega), m3 i hi k (by omega), f2 81 (by decide), A i hi k (by omega)]
theorem st_worth : zst_worth zRel := by
  intro h g a x R
  obtain ⟨n, n1, n2, n3, n4⟩ := R.1.2.1.n
  have no : f_X11_worth a x h = some (-1, h) → f_X12_worth a x g = some (-1, g) → ∃ r k1 k2, f_X11_worth a x h = some (r, k1) ∧ f_X12_worth a x g = some (r, k2) ∧ zRel k1 k2 := fun p q => ⟨-1, h, g, p, q, R⟩
  have hC : f_X11_worth a x h = if x = 0 ∨ x = 1 ∨ ((0 ≤ x - 10 ∧ x - 10 < nI n) ∧ (0 ≤ a ∧ a ≤ 40)) then f_X11_worth_48 a x h else some (-1, h) := by
    unfold f_X11_worth f_X11_worth_31 f_X11_worth_32
    rw [q_has, n2, zbd_e]
    simp only [i_10, c10, if_false, if_true]
    by_cases x0 : x = 0
    · rw [if_pos (Or.inl x0)]
      simp only [if_pos x0, ite_self]
    by_cases x1 : x = 1
    · rw [if_pos (Or.inr (Or.inl x1))]
      simp only [if_neg x0, if_pos x1, ite_self]
    simp only [if_neg x0, if_neg x1]
    by_cases c : 0 ≤ x - 10 ∧ x - 10 < nI n
    · rw [if_neg (fun z => z c)]
      by_cases d : a < 0
      · rw [if_pos d, if_neg (fun z => z.elim x0 (fun z => z.elim x1 (fun z => Int32.not_lt.mpr z.2.1 d)))]
      · rw [if_neg d]
        by_cases e : (40 : Int32) < a
        · rw [if_pos e, if_neg (fun z => z.elim x0 (fun z => z.elim x1 (fun z => Int32.not_lt.mpr z.2.2 e)))]
        · rw [if_neg e, if_pos (Or.inr (Or.inr ⟨c, Int32.not_lt.mp d, Int32.not_lt.mp e⟩))]
    · rw [if_pos c, if_neg (fun z => z.elim x0 (fun z => z.elim x1 (fun z => c z.1)))]
  have hM : f_X12_worth a x g = if (0 ≤ x ∧ x ≤ 1) ∨ ((10 ≤ x ∧ x ≤ 9 + nI n) ∧ (0 ≤ a ∧ a ≤ 40)) then f_X12_worth_39 a x g else some (-1, g) := by
    unfold f_X12_worth f_X12_worth_37
    simp only [q_in, zbd_e, n3, i_10]
    by_cases c : 0 ≤ x ∧ x ≤ 1
    · rw [if_neg (fun z => z c), if_pos (Or.inl c)]
    · rw [if_pos c]
      by_cases d : 10 ≤ x ∧ x ≤ 9 + nI n
      · rw [if_neg (fun z => z d)]
        by_cases e : 0 ≤ a ∧ a ≤ 40
        · rw [if_neg (fun z => z e), if_pos (Or.inr ⟨d, e⟩)]
        · rw [if_pos e, if_neg (fun z => z.elim c (fun z => e z.2))]
      · rw [if_pos d, if_neg (fun z => z.elim c (fun z => d z.1))]
  obtain ⟨h1, k1, k2, k3, k4⟩ := q_lz8 h
  have R1 : zRel h1 g := R.lazy k3 k4
  obtain ⟨h', p1, p2, p3⟩ := q_wsolve R1 (n := n) (by rw [k3 2 (by decide) (by decide)]; exact n2) n1
  obtain ⟨g', q1, q2, q3, q4⟩ := p3 a x
  have n8 : ¬ h' 0 8 = 0 := by rw [p2.1 0 (by decide) (by decide) (by decide) (by decide) (by decide) (by decide) (by decide) (by decide) (by decide) (by decide)]; exact k2
  have wC : f_X11_worth_48 a x h = if x = 0 then some (h' 80 2, h') else if x = 1 then some (h' 80 3, h') else zck (a * 16 + x - 10) 656 (some (h' 81 (a * 16 + x - 10).toNatClampNeg, h')) := by
    unfold f_X11_worth_48 f_X11_worth_66
    rw [k1, zbd_e, if_neg k2, p1, zbd_e, if_neg n8, if_neg n8, if_neg n8]
  by_cases x0 : x = 0
  · rw [hC, hM, if_pos (Or.inl x0), if_pos (Or.inl (by rw [x0]; decide)), wC, if_pos x0, q2 x0]
    exact ⟨_, h', g', rfl, rfl, R1.okk p2 q1⟩
  by_cases x1 : x = 1
  · rw [hC, hM, if_pos (Or.inr (Or.inl x1)), if_pos (Or.inl (by rw [x1]; decide)), wC, if_neg x0, if_pos x1, q3 x1]
    exact ⟨_, h', g', rfl, rfl, R1.okk p2 q1⟩
  have nx : ¬ (0 ≤ x ∧ x ≤ 1) := by
    intro z
    rcases n_rng x 0 1 (by omega) with ⟨v, v1, v2, v3⟩ | ⟨-, e⟩
    · have : v = 0 ∨ v = 1 := by omega
      rcases this with rfl | rfl
      · exact x0 v3
      · exact x1 v3
    · exact Eq.mp e z
  rcases n_ten x n (by omega) with ⟨k, z1, rfl⟩ | ⟨z1, z2⟩
  · have xs : nI (k + 10) - 10 = nI k := by
      have := n_sub (a := k + 10) (b := 10) (by omega)
      rw [Nat.add_sub_cancel] at this
      exact this
    rcases n_rng a 0 40 (by omega) with ⟨i, i1, i2, rfl⟩ | ⟨-, e⟩
    · have ha : (0 : Int32) ≤ nI i ∧ nI i ≤ 40 := ⟨nI_pos' (by omega), by rw [l_40, n_le (by omega) (by omega)]; exact i2⟩
      rw [hC, hM, if_pos (Or.inr (Or.inr ⟨by rw [xs]; exact ⟨nI_pos' (by omega), nI_lt (by omega) (by omega)⟩, ha⟩)), if_pos (Or.inr ⟨⟨by rw [l_10, n_le (by omega) (by omega)]; omega, by rw [l_9, n_add, n_le (by omega) (by omega)]; omega⟩, ha⟩), wC, if_neg x0, if_neg x1, q4 i k i2 z1 rfl rfl, show nI i * 16 + nI (k + 10) - 10 = nI (i * 16 + k) by
        rw [show nI i * 16 = nI (i * 16) from n_mul i 16, n_add, show (10 : Int32) = nI 10 from rfl, n_sub (by omega)]
        congr 1, zck_n (by omega) (by decide), n_cl (by omega)]
      exact ⟨_, h', g', rfl, rfl, R1.okk p2 q1⟩
    · have e : (0 ≤ a ∧ a ≤ 40) = False := e
      exact no (by rw [hC, if_neg (fun z => z.elim x0 (fun z => z.elim x1 (fun z => Eq.mp e z.2)))]) (by rw [hM, if_neg (fun z => z.elim nx (fun z => Eq.mp e z.2))])
  · exact no (by rw [hC, if_neg (fun z => z.elim x0 (fun z => z.elim x1 (fun z => Eq.mp z1 z.1)))]) (by rw [hM, if_neg (fun z => z.elim nx (fun z => Eq.mp z2 z.1))])
