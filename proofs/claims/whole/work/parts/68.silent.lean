theorem st_telling : zst_telling zRel := by
  intro h g a b R
  obtain ⟨sn, gn, fam, t1, t2, t3, t4, t5, t6, t7⟩ := R.1.1.sA
  have hs8 := t4.2.2.1
  have hw0 := t4.1
  unfold f_X11_telling f_X12_telling f_X12_telling_33
  rw [q_below, t1, q_in, hw0]
  rcases n_ixc a sn (by omega) with ⟨s, hs, rfl⟩ | ⟨e1, e2⟩
  case inr =>
    rw [i_neg (fun z => (Eq.mp e1 z).elim), i_neg (fun z => (Eq.mp e2 z).elim)]
    exact ⟨-1, h, g, rfl, rfl, R⟩
  rw [i_pos (v_lt hs (by omega)), i_pos (v_le hs (by omega)), zbd_e, zbd_e, if_neg (show ¬ (1 : Int32) = 0 by decide), if_neg (show ¬ (1 : Int32) = 0 by decide), q_in, zbd_e]
  obtain ⟨E, T, qf, He, Ht, Hq, hd4, hnt, hT, Hm, hQ⟩ := R.1.env R.2.2.2.2.2
  obtain ⟨h1, b1, b2, b3⟩ := q_begin He Ht Hq hd4
  have h7 : h1 7 = h 7 := b3.1 7 (by decide) (by decide) (by decide)
  have h10 : h1 10 = h 10 := b3.1 10 (by decide) (by decide) (by decide)
  have h8 : h1 8 = h 8 := b3.1 8 (by decide) (by decide) (by decide)
  have hn := nxt_lt hs
  rw [b1, zbd_e, zck_n (by omega) (by decide), q_beside (by rw [h7]; exact t1) hs8 s hs, zbd_e, zck_n (by omega) (by decide), n_cl (by omega), n_cl (by omega), h10]
  obtain ⟨h2, c1, c2, c3, c4⟩ := q_between b2 t4.2.2.2.2.1 (fun i hi => by rw [h8]; exact t5 i hi) (h 10 s) (h 10 (nxt sn s)) (t6 s hs) (t6 _ hn)
  obtain ⟨g2, d1, d2, d3⟩ := q_lays Hm t4 s hs
  rw [c1, zbd_e]
  have Rel2 : ∀ g', sM g g' → zRel h2 g' := by
    intro g' sm
    refine R.thought (fun c hc => ?_) ?_ ?_ sm
    · obtain ⟨z0, z1, z2, z3, z4, z5, z6⟩ := zRc_ne hc
      rw [c3.1 c z1 z2 z3 z4, b3.1 c z3 z4 z5]
    · rw [c3.1 0 (by decide) (by decide) (by decide) (by decide), b3.1 0 (by decide) (by decide) (by decide)]
    · rw [c3.2 6 (by decide), b3.2 6 (by decide) (by decide)]
  by_cases hl : (tlG E (cnQ E qf) fam T (h 10 s) (h 10 (nxt sn s))).1 ≤ 0
  · rw [if_pos hl, if_pos rfl]
    by_cases hb : 0 ≤ b ∧ b ≤ 3
    · refine ⟨-1, h2, g2, rfl, ?_, Rel2 g2 d2⟩
      rw [if_pos hb, if_neg (show ¬ (1 : Int32) = 0 by decide), d1, if_pos hl]; rfl
    · refine ⟨-1, h2, g, rfl, ?_, Rel2 g (sM.refl g)⟩
      rw [if_neg hb]; rfl
  rw [if_neg hl, if_neg (show ¬ (1 : Int32) = 0 by decide)]
  obtain ⟨⟨f1, f2⟩, f3, f4⟩ := c4.resolve_left hl
  have hc0 : ¬ (tlG E (cnQ E qf) fam T (h 10 s) (h 10 (nxt sn s))).1 = 0 := fun z => hl (by rw [z]; decide)
  obtain ⟨f5, f6⟩ := f2.resolve_left hc0
  obtain ⟨k1, k2, k3, k4⟩ := And.intro d3.1 (d3.2.resolve_left hc0)
  by_cases hb : 0 ≤ b ∧ b ≤ 3
  case neg =>
    refine ⟨-1, h2, g, ?_, ?_, Rel2 g (sM.refl g)⟩
    · rw [if_neg (show ¬ b = 0 from fun z => hb (by rw [z]; decide)), if_neg (show ¬ b = 1 from fun z => hb (by rw [z]; decide)), if_neg (show ¬ b = 2 from fun z => hb (by rw [z]; decide)), if_neg (show ¬ b = 3 from fun z => hb (by rw [z]; decide))]
    · rw [if_neg hb]; rfl
  rw [if_pos hb, if_neg (show ¬ (1 : Int32) = 0 by decide), d1, zbd_e, if_neg hl, if_neg (show ¬ (1 : Int32) = 0 by decide)]
  by_cases b0 : b = 0
  · rw [if_pos b0, if_pos b0]
    exact ⟨h2 38 9, h2, g2, rfl, by rw [k2, f5], Rel2 g2 d2⟩
  by_cases b1 : b = 1
  · rw [if_neg b0, if_pos b1, if_neg b0, if_pos b1]
    exact ⟨h2 38 10, h2, g2, rfl, by rw [k3, f6], Rel2 g2 d2⟩
  by_cases b2 : b = 2
  · rw [if_neg b0, if_neg b1, if_pos b2, if_neg b0, if_neg b1, if_pos b2]
    exact ⟨h2 38 12, h2, g2, rfl, by rw [k4, f3], Rel2 g2 d2⟩
  rw [if_neg b0, if_neg b1, if_neg b2, if_neg b0, if_neg b1, if_neg b2]
  have b3 : b = 3 := by
    rcases n_rng b 0 3 (by decide) with ⟨v, v1, v2, rfl⟩ | ⟨-, e2⟩
    · rcases (show v = 0 ∨ v = 1 ∨ v = 2 ∨ v = 3 by omega) with rfl | rfl | rfl | rfl
      · exact absurd rfl b0
      · exact absurd rfl b1
      · exact absurd rfl b2
      · rfl
    · exact (Eq.mp e2 hb).elim
  rw [if_pos b3]
  exact ⟨h2 38 11, h2, g2, rfl, by rw [k1, f1], Rel2 g2 d2⟩
/-! families without a laugh between them -/
theorem fI_mono {ok : Nat → Nat → Bool} {V : Nat → Nat → Int32} {f : Nat} : ∀ r e s, s.1 ≤ (fI ok V f r e s).1 ∧ ∀ k, e ≤ k → k < e + r → ok f k = true → V f k ≤ (fI ok V f r e s).1 := by
  intro r
  induction r with
  | zero => intro e s; exact ⟨Int32.le_refl _, fun k k1 k2 => by omega⟩
  | succ r ih =>
    intro e s
    unfold fI
    by_cases c : ok f e = true ∧ s.1 < V f e
    · rw [if_pos c]
      obtain ⟨i1, i2⟩ := ih (e + 1) (V f e, f, e)
      refine ⟨Int32.le_trans (Int32.le_of_lt c.2) i1, fun k k1 k2 k3 => ?_⟩
      by_cases hk : k = e
      · subst hk; exact i1
      · exact i2 k (by omega) (by omega) k3
    · rw [if_neg c]
      obtain ⟨i1, i2⟩ := ih (e + 1) s
      refine ⟨i1, fun k k1 k2 k3 => ?_⟩
      by_cases hk : k = e
      · subst hk
        exact Int32.le_trans (Int32.not_lt.mp (fun z => c ⟨k3, z⟩)) i1
      · exact i2 k (by omega) (by omega) k3
theorem fO_mono {ok : Nat → Nat → Bool} {V : Nat → Nat → Int32} {n : Nat} : ∀ r f s, s.1 ≤ (fO ok V n r f s).1 ∧ ∀ k, f ≤ k → k < f + r → ∀ e, e < n → ok k e = true → V k e ≤ (fO ok V n r f s).1 := by
  intro r
  induction r with
  | zero => intro f s; exact ⟨Int32.le_refl _, fun k k1 k2 => by omega⟩
  | succ r ih =>
    intro f s
    unfold fO
    obtain ⟨i1, i2⟩ := ih (f + 1) (fI ok V f n 0 s)
    obtain ⟨j1, j2⟩ := fI_mono (ok := ok) (V := V) (f := f) n 0 s
    refine ⟨Int32.le_trans j1 i1, fun k k1 k2 e he k3 => ?_⟩
    by_cases hk : k = f
    · subst hk; exact Int32.le_trans (j2 e (by omega) (by omega) k3) i1
    · exact i2 k (by omega) (by omega) e he k3
theorem q_canL15 {E : zEv} {can : Nat → Nat → Bool} {T : zTe} (k2 : Int32 → Int32 → Int32 → zH → zR) (a b f : Nat) (ha : a < 6) (hb6 : b < 6) (hf : f < E.n) : ∀ n e g, tM E can T g → e ≤ E.n → E.n < n + e → ∃ g', sM g g' ∧ ((f_X12_canLaugh_15 k2 n (nI a) (nI b) (nI f) (nI e) g = some (1, g') ∧ ∃ k, k < E.n ∧ okp E can a b f k = true ∧ 0 < eV E T f k) ∨ (f_X12_canLaugh_15 k2 n (nI a) (nI b) (nI f) (nI e) g = k2 (nI a) (nI b) (nI (f + 1)) g' ∧ ∀ k, e ≤ k → k < E.n → okp E can a b f k = true → eV E T f k ≤ 0)) := by
  intro n
  induction n with
  | zero => intro e g _ h1 h2; omega
  | succ n ih =>
    intro e g R h1 h2
    have hn := R.1.1
    simp only [f_X12_canLaugh_15, R.1.2.1]
    by_cases he : e = E.n
    · subst he
      rw [if_pos (Int32.le_refl _), zlt_e, nI_1]
      exact ⟨g, sM.refl g, Or.inr ⟨rfl, fun k k1 k2 => by omega⟩⟩
    rw [if_neg (by rw [n_le (by omega) (by omega)]; omega)]
    simp only [q_isFr R.1 f hf, q_isEn R.1 e (by omega), zbd_e, q_canBoth R a b f e ha hb6 hf (by omega), q_canBoth R b a f e hb6 ha hf (by omega), i_10, f_X12_canLaugh_79, zlt_e, nI_1]
    have skip : okp E can a b f e = false → ∃ g', sM g g' ∧ ((f_X12_canLaugh_15 k2 n (nI a) (nI b) (nI f) (nI (e + 1)) g = some (1, g') ∧ ∃ k, k < E.n ∧ okp E can a b f k = true ∧ 0 < eV E T f k) ∨ (f_X12_canLaugh_15 k2 n (nI a) (nI b) (nI f) (nI (e + 1)) g = k2 (nI a) (nI b) (nI (f + 1)) g' ∧ ∀ k, e ≤ k → k < E.n → okp E can a b f k = true → eV E T f k ≤ 0)) := by
      intro hno
      obtain ⟨g', p1, p2⟩ := ih (e + 1) g R (by omega) (by omega)
      refine ⟨g', p1, p2.imp id (fun ⟨q1, q2⟩ => ⟨q1, fun k k1 k2 k3 => ?_⟩)⟩
      by_cases hk : k = e
      · subst hk; rw [hno] at k3; cases k3
      · exact q2 k (by omega) k2 k3
    have hit : okp E can a b f e = true → ∃ g', sM g g' ∧ ((f_X12_canLaugh_67 k2 (f_X12_canLaugh_15 k2 n) (nI a) (nI b) (nI f) (nI e) g = some (1, g') ∧ ∃ k, k < E.n ∧ okp E can a b f k = true ∧ 0 < eV E T f k) ∨ (f_X12_canLaugh_67 k2 (f_X12_canLaugh_15 k2 n) (nI a) (nI b) (nI f) (nI e) g = k2 (nI a) (nI b) (nI (f + 1)) g' ∧ ∀ k, e ≤ k → k < E.n → okp E can a b f k = true → eV E T f k ≤ 0)) := by
      intro hok
      unfold f_X12_canLaugh_67
      simp only [f_X12_canLaugh_79, zlt_e, nI_1]
      obtain ⟨g1, e1, e2⟩ := q_lmV R f e hf (by omega)
      have S1 : sM g g1 := ⟨fun c c1 c2 c3 => e2 c c2 c3, fun k _ => by rw [e2 100 (by decide) (by decide)]⟩
      rw [e1, zbd_e]
      by_cases c : eV E T f e ≤ 0
      · rw [if_pos c]
        obtain ⟨g', p1, p2⟩ := ih (e + 1) g1 (R.same S1) (by omega) (by omega)
        refine ⟨g', S1.trans p1, p2.imp id (fun ⟨q1, q2⟩ => ⟨q1, fun k k1 k2 k3 => ?_⟩)⟩
        by_cases hk : k = e
        · subst hk; exact c
        · exact q2 k (by omega) k2 k3
      · rw [if_neg c]
        exact ⟨g1, S1, Or.inl ⟨rfl, e, by omega, hok, Int32.not_le.mp c⟩⟩
    by_cases d1 : E.sd f = 0
    case neg =>
      rw [if_pos d1]
      exact skip (by unfold okp; simp [d1])
    rw [if_neg (fun z => z d1)]
    by_cases d2 : E.sd e = 1
    case neg =>
      rw [if_pos d2]
      exact skip (by unfold okp; simp [d2])
    rw [if_neg (fun z => z d2)]
    by_cases d3 : (can a f && can b e) = true
    · rw [if_neg (fun z => z d3)]
      exact hit (by unfold okp; rw [d3]; simp [d1, d2])
    · rw [if_pos d3]
      by_cases d4 : (can b f && can a e) = true
      · rw [if_neg (fun z => z d4)]
        exact hit (by unfold okp; rw [d4]; simp [d1, d2])
      · rw [if_pos d4]
        refine skip ?_
        unfold okp
        rw [Bool.eq_false_iff.mpr d3, Bool.eq_false_iff.mpr d4]
        simp
theorem q_canL2 {E : zEv} {can : Nat → Nat → Bool} {T : zTe} (a b : Nat) (ha : a < 6) (hb6 : b < 6) : ∀ n f g, tM E can T g → f ≤ E.n → E.n < n + f → ∃ g', sM g g' ∧ ((f_X12_canLaugh_2 n (nI a) (nI b) (nI f) g = some (1, g') ∧ ∃ f e, f < E.n ∧ e < E.n ∧ okp E can a b f e = true ∧ 0 < eV E T f e) ∨ (f_X12_canLaugh_2 n (nI a) (nI b) (nI f) g = some (0, g') ∧ ∀ k e, f ≤ k → k < E.n → e < E.n → okp E can a b k e = true → eV E T k e ≤ 0)) := by
  intro n
  induction n with
  | zero => intro f g _ h1 h2; omega
  | succ n ih =>
    intro f g R h1 h2
    have hn := R.1.1
    simp only [f_X12_canLaugh_2, R.1.2.1]
    by_cases he : f = E.n
    · subst he
      rw [if_pos (Int32.le_refl _)]
      exact ⟨g, sM.refl g, Or.inr ⟨rfl, fun k e k1 k2 => by omega⟩⟩
    rw [if_neg (by rw [n_le (by omega) (by omega)]; omega)]
    obtain ⟨g1, p1, p2⟩ := q_canL15 (T := T) (f_X12_canLaugh_2 n) a b f ha hb6 (by omega) zN 0 g R (by omega) (by unfold zN; omega)
    rcases p2 with ⟨p2, k, k1, k2, k3⟩ | ⟨p2, p3⟩
    · exact ⟨g1, p1, Or.inl ⟨p2, f, k, by omega, k1, k2, k3⟩⟩
    · have p2 : f_X12_canLaugh_15 (f_X12_canLaugh_2 n) zN (nI a) (nI b) (nI f) 0 g = f_X12_canLaugh_2 n (nI a) (nI b) (nI (f + 1)) g1 := p2
      rw [p2]
      obtain ⟨g', q1, q2⟩ := ih (f + 1) g1 (R.same p1) (by omega) (by omega)
      refine ⟨g', p1.trans q1, q2.imp id (fun ⟨r1, r2⟩ => ⟨r1, fun k e k1 k2 k3 k4 => ?_⟩)⟩
      by_cases hk : k = f
      · subst hk; exact p3 e (by omega) k3 k4
      · exact r2 k e (by omega) k2 k3 k4
theorem q_silent {E : zEv} {can : Nat → Nat → Bool} {T : zTe} (a : Nat) (ha : a < 6) : ∀ n m i S h g, tC E can T h → tM E can T g → i ≤ 6 → 6 < n + i → 6 < m + i → ∃ r h' g', f_X11_silent_22 n (nI a) S (nI i) h = some (r, h') ∧ f_X12_silent_13 m (nI a) S (nI i) g = some (r, g') ∧ sC h h' ∧ sM g g' := by
  intro n
  induction n with
  | zero => intro m i S h g _ _ h1 h2; omega
  | succ n ih =>
    intro m i S h g R G h1 h2 h3
    obtain ⟨m, rfl⟩ : ∃ k, m = k + 1 := ⟨m - 1, by omega⟩
    simp only [f_X11_silent_22, f_X12_silent_13]
    by_cases hi : i = 6
    · subst hi
      rw [if_pos (by decide), if_pos (by decide)]
      exact ⟨S, h, g, rfl, rfl, sC.refl h, sM.refl g⟩
    have h6 : ¬ (6 : Int32) ≤ nI i := by rw [l_6, n_le (by omega) (by omega)]; omega
    rw [if_neg h6, if_neg h6]
    unfold f_X11_silent_51 f_X12_silent_57 f_X12_silent_51 f_X12_silent_58
    simp only [zlt_e, nI_1]
    rw [Int32.or_zero]
    by_cases hia : i = a
    · rw [if_pos (by rw [hia]), if_pos (by rw [hia])]
      exact ih m (i + 1) S h g R G (by omega) (by omega) (by omega)
    have hia' : ¬ nI i = nI a := by rw [n_eq (by omega) (by omega)]; exact hia
    rw [if_neg hia', if_neg hia']
    obtain ⟨h1, e1, e2, e3, e4⟩ := q_findOf R a i ha (by omega)
    rw [e1, zbd_e, l_10, n_add, zck_n (by omega) (by decide), n_cl (by omega), G.1.2.2.2.2.1 a ha, hb_in _ _ (by omega)]
    simp only [i01]
    by_cases hf : hb (E.fe a) i = true
    · have hz : (fnd E can T a i).1 ≤ 0 := by unfold fnd; rw [if_pos (Or.inr hf)]; decide
      rw [if_pos hz, if_pos rfl, if_pos hf]
      obtain ⟨r, h', g', p1, p2, p3, p4⟩ := ih m (i + 1) (S ||| 1 <<< (nI i &&& 31)) h1 g e2 G (by omega) (by omega) (by omega)
      exact ⟨r, h', g', p1, p2, e3.trans p3, p4⟩
    rw [if_neg hf]
    have hfe : fnd E can T a i = fO (okp E can a i) (eV E T) E.n E.n 0 (0, 0, 0) := by unfold fnd; rw [if_neg (fun z => z.elim (fun w => hia w.symm) hf)]
    obtain ⟨g1, q1, q2⟩ := q_canL2 (T := T) a i ha (by omega) zN 0 g G (by omega) (by have := G.1.1; unfold zN; omega)
    unfold f_X12_canLaugh
    rcases q2 with ⟨q2, f, e, f1, f2, f3, f4⟩ | ⟨q2, q3⟩
    · have hz : ¬ (fnd E can T a i).1 ≤ 0 := by
        rw [hfe]
        intro z
        have := (fO_mono (ok := okp E can a i) (V := eV E T) (n := E.n) E.n 0 (0, 0, 0)).2 f (by omega) (by omega) e f2 f3
        exact Int32.not_le.mpr f4 (Int32.le_trans this z)
      have q2 : f_X12_canLaugh_2 zN (nI a) (nI i) 0 g = some (1, g1) := q2
      rw [if_neg hz, if_neg (show ¬ (1 : Int32) = 0 by decide), q2, zbd_e, if_neg (show ¬ (1 : Int32) = 0 by decide)]
      obtain ⟨r, h', g', p1, p2, p3, p4⟩ := ih m (i + 1) S h1 g1 e2 (G.same q1) (by omega) (by omega) (by omega)
      exact ⟨r, h', g', p1, p2, e3.trans p3, q1.trans p4⟩
    · have hz : (fnd E can T a i).1 ≤ 0 := by
        rcases fnd_ok E can T a i with z | ⟨z1, z2, z3, z4, z5⟩
        · rw [z]; decide
        · rw [z5]; exact q3 _ _ (by omega) z2 z3 z4
      have q2 : f_X12_canLaugh_2 zN (nI a) (nI i) 0 g = some (0, g1) := q2
      rw [if_pos hz, if_pos rfl, q2, zbd_e, if_pos rfl]
      obtain ⟨r, h', g', p1, p2, p3, p4⟩ := ih m (i + 1) (S ||| 1 <<< (nI i &&& 31)) h1 g1 e2 (G.same q1) (by omega) (by omega) (by omega)
      exact ⟨r, h', g', p1, p2, e3.trans p3, q1.trans p4⟩
theorem st_silent : zst_silent zRel := by
  intro h g a R
  unfold f_X11_silent f_X12_silent
  rw [q_below, q_fam]
  rcases n_ix6 a with ⟨a, ha, rfl⟩ | ⟨e1, e2⟩
  case inr =>
    rw [i_neg (fun z => (Eq.mp e1 z).elim), i_neg (fun z => (Eq.mp e2 z).elim)]
    exact ⟨-1, h, g, rfl, rfl, R⟩
  rw [i_pos (v_lt6 ha), i_pos (v_le5 ha), zbd_e, zbd_e, if_neg (show ¬ (1 : Int32) = 0 by decide), if_neg (show ¬ (1 : Int32) = 0 by decide)]
  obtain ⟨E, T, qf, He, Ht, Hq, hd4, hnt, hT, Hm, hQ⟩ := R.1.env R.2.2.2.2.2
  obtain ⟨h1, b1, b2, b3⟩ := q_begin He Ht Hq hd4
  rw [b1, zbd_e]
  obtain ⟨r, h', g', p1, p2, p3, p4⟩ := q_silent (T := T) a ha zN zN 0 0 h1 g b2 Hm (by omega) (by unfold zN; omega) (by unfold zN; omega)
  refine ⟨r, h', g', p1, p2, R.thought (fun c hc => ?_) ?_ ?_ p4⟩
  · obtain ⟨z0, z1, z2, z3, z4, z5, z6⟩ := zRc_ne hc
    rw [p3.1 c z1 z2 z3 z4, b3.1 c z3 z4 z5]
  · rw [p3.1 0 (by decide) (by decide) (by decide) (by decide), b3.1 0 (by decide) (by decide) (by decide)]
  · rw [p3.2 6 (by decide), b3.2 6 (by decide) (by decide)]
