/-! evenings -/
theorem q_eve {E : zEv} {qf : Nat → Nat → Nat} {bl0 n m sn gn : Nat} {To0 La0 : Nat → Int32} {si : Nat → Int32} {fam : Nat → Nat} (hnt : E.nt < 9999) (hs8 : sn ≤ 8) (hg8 : gn ≤ 8) (hsi : ∀ s, s < sn → si s = -1 ∨ ∃ i, i < gn ∧ si s = nI i) : ∀ k l s t T x h g, evI E qf bl0 n m To0 La0 s t T h g → h 7 3 = nI sn → h 10 = si → (∀ i, i < gn → fam i < 6 ∧ h 8 i = nI (fam i)) → sA sn gn si fam (g 101) → s ≤ sn → sn < k + s → sn < l + s → ∃ r h' g', f_X11_spendEvening_30 k x (nI s) h = some (r, h') ∧ f_X12_anEvening_4 l x (nI s) g = some (r, g') ∧ zRel h' g' ∧ h' 11 5 = nI (E.nt + 1) := by
  intro k
  induction k with
  | zero => intro l s t T x h g _ _ _ _ _ h1 h2; omega
  | succ k ih =>
    intro l s t T x h g I h73 h10 hfam A h1 h2 h3
    obtain ⟨l, rfl⟩ : ∃ j, l = j + 1 := ⟨l - 1, by omega⟩
    simp only [f_X11_spendEvening_30, f_X12_anEvening_4, h73, A.1]
    by_cases hs : s = sn
    · subst hs
      rw [if_pos (Int32.le_refl _), if_pos (Int32.le_refl _), zst_e, zst_e]
      obtain ⟨a1, a2, a3, a4, a5, a6, ⟨bl, b1, b2, b3, b4, b5⟩, a8⟩ := I
      have e5 : h 11 5 = nI E.nt := a2.1.2.2.2.2.2.1
      have f5 : g 101 5 = nI E.nt := a3.1.2.2.2.2.2.1
      rw [e5, f5, nI_1]
      have hX : ∀ c, c ≠ 11 → zup h 11 5 (nI (E.nt + 1)) c = h c := fun c hc => zup_ne c hc
      have gX : ∀ j, j ≠ 5 → zup g 101 5 (nI (E.nt + 1)) 101 j = g 101 j := fun j hj => by rw [zup_eq, pk_un hj]
      have gc : ∀ c, c ≠ 101 → zup g 101 5 (nI (E.nt + 1)) c = g c := fun c hc => zup_ne c hc
      have E1 : evA (zup h 11 5 (nI (E.nt + 1))) (zup g 101 5 (nI (E.nt + 1))) := a1.mv (fun c hc => hX c (by omega)) (by rw [hX 1 (by decide)]) (by rw [hX 1 (by decide)]) (by rw [hX 1 (by decide), gX 7 (by decide)]; exact a1.2.2.2.1.2.2.1) (by rw [hX 38 (by decide)]) (fun j hj => gX j (by omega)) (fun k _ _ => by rw [gc 100 (by decide)]) (gc 102 (by decide)) (gc 107 (by decide))
      refine ⟨x, _, _, rfl, rfl, ⟨⟨E1.1, E1.2.1, ⟨bl, E.nt + 1, b2, by omega, by rw [zup_eq, pk_un (by decide)]; exact b3, by rw [gX 6 (by decide)]; exact b4, by rw [zup_eq, pk_us], by rw [zup_eq, pk_us], fun i hi => by rw [hX 14 (by decide), gX _ (by omega)]; exact a8 i hi, fun i hi => by rw [hX 15 (by decide), gX _ (by omega)]; exact b5 i hi, fun p hp => ?_⟩, E1.2.2.1, E1.2.2.2.1⟩, ?_, E1.2.2.2.2⟩, by rw [zup_eq, pk_us]⟩
      · rw [hX 12 (by decide), hX 13 (by decide), gX _ (by omega), gX _ (by omega)]
        obtain ⟨m0, mm, z1, z2, z3, z4, z5⟩ := a2.2.1 p hp
        obtain ⟨y1, y2, y3, y4⟩ := a3.2.1 p hp
        have mm0 : mm = 0 := by
          have := a1.2.2.2.2.2.2.2.1 p hp
          rw [z2] at this
          have hm : mm < 2 ^ 31 := by omega
          rwa [n_eq0 hm] at this
        subst mm0
        have bd := a4 p hp
        refine ⟨T.1 p, by omega, by rw [z1]; congr 1, y3, ?_⟩
        by_cases c : T.1 p = 0
        · rw [if_pos c] at y4
          exact Or.inl ⟨c, y4⟩
        · rw [if_neg c] at y4
          refine Or.inr ⟨by omega, T.2 p, by omega, ?_, y4⟩
          rcases z5 with z5 | ⟨z5, -⟩ | ⟨-, z5⟩
          · exact absurd z5 c
          · omega
          · exact z5
      · exact (a5.same (h' := zup h 11 5 (nI (E.nt + 1))) (g' := zup g 101 5 (nI (E.nt + 1))) (fun c hc => hX c (by omega)) (by rw [gc 100 (by decide)]) (gc 103 (by decide))).close (bl := bl) (by omega) b1 (by rw [zup_eq, pk_us]) (by rw [zup_eq, pk_un (by decide)]; exact b3) (by omega) (by omega)
    have hle : ¬ nI sn ≤ nI s := by rw [n_le (by omega) (by omega)]; omega
    have hlt : s < sn := by omega
    rw [if_neg hle, if_neg hle, zck_n (by omega) (by decide), q_beside h73 hs8 s hlt, zbd_e, n_cl (by omega), n_cl (by have := nxt_lt hlt; omega), zck_n (by have := nxt_lt hlt; omega) (by decide), h10]
    simp only [f_X11_spendEvening_71, f_X12_anEvening_174, zlt_e, nI_1]
    obtain ⟨h9, c1, c2, c3, c4⟩ := q_between I.2.1 hg8 hfam (si s) (si (nxt sn s)) (hsi s hlt) (hsi _ (nxt_lt hlt))
    obtain ⟨g3, d1, d2, d3⟩ := q_lays I.2.2.1 A s hlt
    rw [c1, zbd_e, d1, zbd_e]
    have I2 := I.look c3 c2 d2
    have k7 : h9 7 = h 7 := c3.1 7 (by decide) (by decide) (by decide) (by decide)
    have k8 : h9 8 = h 8 := c3.1 8 (by decide) (by decide) (by decide) (by decide)
    have k10 : h9 10 = h 10 := c3.1 10 (by decide) (by decide) (by decide) (by decide)
    have w3 : g3 101 = g 101 := d2.1 101 (by decide) (by decide) (by decide)
    have A3 : sA sn gn si fam (g3 101) := by rw [w3]; exact A
    by_cases c : (tlG E (cnQ E qf) fam T (si s) (si (nxt sn s))).1 ≤ 0
    · rw [if_pos c, if_pos rfl, if_pos rfl]
      exact ih l (s + 1) t T x h9 g3 I2.next (by rw [k7]; exact h73) (by rw [k10]; exact h10) (fun i hi => by rw [k8]; exact hfam i hi) A3 (by omega) (by omega) (by omega)
    · rw [if_neg c, if_neg (show ¬ (1 : Int32) = 0 by decide), if_neg (show ¬ (1 : Int32) = 0 by decide)]
      obtain ⟨o1, o2, o3⟩ := tlG_ok E (cnQ E qf) fam T (si s) (si (nxt sn s)) c
      obtain ⟨fs, fo, fc⟩ := c4.resolve_left c
      have c0 : ¬ (tlG E (cnQ E qf) fam T (si s) (si (nxt sn s))).1 = 0 := fun z => c (by rw [z]; decide)
      obtain ⟨fs2, fs3⟩ := fs.2.resolve_left c0
      obtain ⟨gs2, gs3, gs4⟩ := d3.2.resolve_left c0
      generalize hG : tlG E (cnQ E qf) fam T (si s) (si (nxt sn s)) = G at *
      obtain ⟨v, h', g', p1, p2, p3, p4, p5⟩ := q_tellF (sn := sn) (gn := gn) (si := si) (fam := fam) (f := G.2.1) (e := G.2.2) I2 hlt (by omega) A3 o1 o2 fs2 fs3 fs.1 fo fc gs2 gs3 gs4 d3.1 (by
        by_cases q : (cnQ E qf (fam (si s).toNatClampNeg) G.2.1 && cnQ E qf (fam (si (nxt sn s)).toNatClampNeg) G.2.2) = true
        · rw [if_pos q, if_pos q, if_pos rfl]
        · rw [if_neg q, if_neg q]
          by_cases r : si (nxt sn s) = si s
          · rw [if_pos r, r]
          · rw [if_neg r]) (f_X12_anEvening_4 l) x
      rw [p1, zbd_e]
      rw [nI_1] at p2
      obtain ⟨r, h'', g'', u1, u2, u3, u4⟩ := ih l (s + 1) (t + 1) _ (x + v) h' g' p3 (by rw [p4 7 (by omega), k7]; exact h73) (by rw [p4 10 (by omega), k10]; exact h10) (fun i hi => by rw [p4 8 (by omega), k8]; exact hfam i hi) (A3.w (p5 0 (by omega)) (p5 4 (by omega)) (fun j j1 j2 => p5 j (by omega))) (by omega) (by omega) (by omega)
      exact ⟨r, h'', g'', u1, by rw [p2]; exact u2, u3, u4⟩
/-- one evening -/
theorem q_one {h g : zH} {nt : Nat} (R : zRel h g) (h5 : h 11 5 = nI nt) (hnt : nt < 9999) : ∃ r h' g' g1, f_X11_spendEvening h = some (r, h') ∧ f_X12_keeps g = some (0, g1) ∧ f_X12_anEvening g1 = some (r, g') ∧ zRel h' g' ∧ h' 11 5 = nI (nt + 1) := by
  obtain ⟨h1, g1, bl, nt', n, m, a1, a2, a3, a4, a5, a6, a7, a8, a9, a10⟩ := q_keep R
  obtain ⟨E, T, qf, He, Ht, Hq, hd4, hnt', hT, Hm, hQ⟩ := R.1.env R.2.2.2.2.2
  obtain ⟨sn, gn, fam, t1, t2, t3, t4, t5, t6, t7⟩ := R.1.1.sA
  have e1 : E.nt = nt := by
    have := He.2.2.2.2.2.1
    rw [h5, n_eq (by omega) (by omega)] at this
    exact this.symm
  have e2 : nt' = nt := by
    rw [h5, n_eq (by omega) (by omega)] at a3
    exact a3.symm
  subst e2
  have c8 : ∀ c, (c < 22 ∨ c = 24 ∨ c = 25 ∨ 28 < c) → h1 c = h c := fun c hc => a8 c (by omega) (by omega) (by omega) (by omega) (by omega)
  obtain ⟨h4, b1, b2, b3⟩ := q_begin (h := h1) (E := E) (T := T) (qf := qf) (He.same (fun c hc => c8 c (by omega))) (Ht.same (c8 12 (by omega)) (c8 13 (by omega)) (c8 40 (by omega))) (by unfold qC; rw [c8 6 (by omega)]; exact Hq) hd4
  have c4 : ∀ c, (c < 22 ∨ c = 24 ∨ c = 25 ∨ (28 < c ∧ c < 38) ∨ c = 40 ∨ 41 < c) → h4 c = h c := fun c hc => by rw [b3.1 c (by omega) (by omega) (by omega), c8 c (by omega)]
  have g101 : g1 101 = g 101 := a9 101 (by decide) (by decide)
  have A0 : evA h g := ⟨R.1.1, R.1.2.1, R.1.2.2.2.1, R.1.2.2.2.2, R.2.2⟩
  have I : evI E qf bl n m (h 12) (h 13) 0 0 T h4 g1 := by
    refine ⟨A0.mv (fun c hc => c4 c (by omega)) (by rw [c4 1 (by omega)]) (by rw [c4 1 (by omega)]) (by rw [c4 1 (by omega), g101]; exact A0.2.2.2.1.2.2.1) (by rw [b3.2 6 (by decide) (by decide), c8 38 (by omega)]) (fun j _ => by rw [g101]) (fun k k1 k2 => a10 k (by omega)) (a9 102 (by decide) (by decide)) (a9 107 (by decide) (by decide)), b2, Hm.w g101, fun p hp => ⟨by have := (hT p hp).1; omega, (hT p hp).2.1⟩, ?_, by omega, ?_, ?_⟩
    · rw [e1]
      exact a7.same (fun c hc => b3.1 c (by omega) (by omega) (by omega)) rfl rfl
    · obtain ⟨bl', nt'', k1, k2, k3, k4, k5, k6, k7, k8, k9⟩ := R.1.2.2.1
      have : bl' = bl := by
        rw [a5, n_eq (by omega) (by omega)] at k3
        exact k3.symm
      subst this
      exact ⟨bl', by omega, k1, by rw [c4 11 (by omega)]; exact k3, by rw [g101]; exact k4, by rw [c4 15 (by omega), g101]; exact k8⟩
    · obtain ⟨bl', nt'', k1, k2, k3, k4, k5, k6, k7, k8, k9⟩ := R.1.2.2.1
      rw [c4 14 (by omega), g101]
      exact k7
  obtain ⟨r, h', g', p1, p2, p3, p4⟩ := q_eve (E := E) (qf := qf) (bl0 := bl) (n := n) (m := m) (sn := sn) (gn := gn) (si := h 10) (fam := fam) (by omega) t4.2.2.1 t4.2.2.2.2.1 t6 zN zN 0 0 T 0 h4 g1 I (by rw [c4 7 (by omega)]; exact t1) (c4 10 (by omega)) (fun i hi => by rw [c4 8 (by omega)]; exact t5 i hi) (by rw [g101]; exact t4) (by omega) (by have := t4.2.2.1; unfold zN; omega) (by have := t4.2.2.1; unfold zN; omega)
  refine ⟨r, h', g', g1, ?_, a2, p2, p3, by rw [p4, e1]⟩
  unfold f_X11_spendEvening
  rw [a1, zbd_e, b1, zbd_e]
  exact p1
theorem st_evenings : zst_evenings zRel := by
  intro h g a R
  obtain ⟨bl, nt, k1, k2, k3, k4, k5, k6, k7, k8, k9⟩ := R.1.2.2.1
  have no : f_X11_evenings a h = some (-1, h) → f_X12_evenings a g = some (-1, g) → ∃ r k1 k2, f_X11_evenings a h = some (r, k1) ∧ f_X12_evenings a g = some (r, k2) ∧ zRel k1 k2 := fun x y => ⟨-1, h, g, x, y, R⟩
  have loop : ∀ n k N i x h g, zRel h g → h 11 5 = nI (nt + i) → i ≤ N → N ≤ 50 → nt + N ≤ 9999 → N < n + i → N < k + i → ∃ r h' g', f_X11_evenings_35 n (nI N) x (nI i) h = some (r, h') ∧ f_X12_evenings_30 k (nI N) x (nI i) g = some (r, g') ∧ zRel h' g' := by
    intro n
    induction n with
    | zero => intro k N i x h g _ _ h1 h2 h3 h4; omega
    | succ n ih =>
      intro k N i x h g R h5 h1 h2 h3 h4 h6
      obtain ⟨k, rfl⟩ : ∃ j, k = j + 1 := ⟨k - 1, by omega⟩
      simp only [f_X11_evenings_35, f_X12_evenings_30]
      by_cases hi : i = N
      · subst hi
        rw [if_pos (Int32.le_refl _), if_pos (Int32.le_refl _)]
        exact ⟨x, h, g, rfl, rfl, R⟩
      have hle : ¬ nI N ≤ nI i := by rw [n_le (by omega) (by omega)]; omega
      obtain ⟨r, h', g', g1, a1, a2, a3, a4, a5⟩ := q_one R h5 (by omega)
      rw [if_neg hle, if_neg hle, a1, zbd_e, a2, zbd_e, a3, zbd_e, zlt_e, zlt_e, zlt_e, zlt_e, nI_1]
      exact ih k N (i + 1) (x + r) h' g' a4 a5 (by omega) h2 h3 (by omega) (by omega)
  unfold f_X11_evenings f_X12_evenings f_X11_evenings_29 f_X12_evenings_24 at *
  rw [q_in] at *
  simp only [zbd_e, i_10] at *
  rcases n_rng a 1 50 (by omega) with ⟨N, N1, N2, rfl⟩ | ⟨e1, e2⟩
  · have p1 : (1 ≤ nI N ∧ nI N ≤ 50) = True := eq_true ⟨by rw [l_1, n_le (by omega) (by omega)]; exact N1, by rw [show (50 : Int32) = nI 50 from rfl, n_le (by omega) (by omega)]; exact N2⟩
    have p2 : ¬ nI N < 1 := by rw [l_1, n_lt (by omega) (by omega)]; omega
    have p3 : ¬ (50 : Int32) < nI N := by rw [show (50 : Int32) = nI 50 from rfl, n_lt (by omega) (by omega)]; omega
    simp only [p1, not_true_eq_false, if_false, if_neg p2, if_neg p3, k5, k6, n_add] at no ⊢
    by_cases c : nt + N ≤ 9999
    · rw [if_pos (show nI (nt + N) ≤ 9999 by rw [l_9999, n_le (by omega) (by omega)]; exact c), if_pos (show nI (nt + N) ≤ 9999 by rw [l_9999, n_le (by omega) (by omega)]; exact c)]
      exact loop zN zN N 0 0 h g R k5 (by omega) N2 c (by unfold zN; omega) (by unfold zN; omega)
    · have c' : ¬ nI (nt + N) ≤ 9999 := by rw [l_9999, n_le (by omega) (by omega)]; exact c
      exact no (by rw [if_neg c']) (by rw [if_neg c'])
  · have e2 : (1 ≤ a ∧ a ≤ 50) = False := e2
    refine no ?_ (by simp only [e2, not_false_eq_true, if_true])
    rcases e1 with e1 | e1
    · rw [if_pos (show a < 1 from e1)]
    · rw [if_pos (show (50 : Int32) < a from e1)]
      split <;> rfl
