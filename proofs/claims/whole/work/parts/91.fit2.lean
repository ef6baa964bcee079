/-! fit: the class's table -/
def bts (S : Nat) : Nat → Bool := fun e => S.testBit e
def fL (h h' : zH) : Prop := (∀ c, c ≠ 19 → c ≠ 21 → c ≠ 74 → c ≠ 75 → c ≠ 76 → c ≠ 79 → h' c = h c) ∧ ∀ k, k ≠ 7 → h' 74 k = h 74 k
def fCl (E : zEv) (F D : Nat → Nat) (nf ne : Nat) (h : zH) : Prop := nf ≤ 8 ∧ ne ≤ 8 ∧ h 74 5 = nI nf ∧ h 74 6 = nI ne ∧ (∀ k, k < nf → h 77 k = nI (F k) ∧ F k < E.n) ∧ ∀ k, k < ne → h 78 k = nI (D k) ∧ D k < E.n
theorem fCl.mv {E : zEv} {F D : Nat → Nat} {nf ne : Nat} {h h' : zH} (H : fCl E F D nf ne h) (f : fL h h') : fCl E F D nf ne h' := by
  obtain ⟨a1, a2, a3, a4, a5, a6⟩ := H
  refine ⟨a1, a2, by rw [f.2 5 (by decide)]; exact a3, by rw [f.2 6 (by decide)]; exact a4, ?_, ?_⟩
  · rw [f.1 77 (by decide) (by decide) (by decide) (by decide) (by decide) (by decide)]; exact a5
  · rw [f.1 78 (by decide) (by decide) (by decide) (by decide) (by decide) (by decide)]; exact a6
def fV (E : zEv) (T : zTe) (F D : Nat → Nat) (i e : Nat) : Int32 := eV E T (F i) (D e)
theorem q_f25 {E : zEv} {T : zTe} {F D : Nat → Nat} {nf ne : Nat} {h1 : zH} (k15 : Int32 → zH → zR) (He : eC E h1) (Ht : cT E.nt T h1) (h40 : ∀ p, p < 256 → h1 40 p = 0) (C : fCl E F D nf ne h1) {i : Nat} (hi : i < nf) : ∀ m k h, fL h1 h → (∀ e, e < k → h 76 (i * 8 + e) = fV E T F D i e) → k ≤ ne → ne < m + k → ∃ h', f_X2_solve_r1_25 k15 m (nI i) (nI k) h = k15 (nI (i + 1)) h' ∧ fL h1 h' ∧ (∀ e, e < ne → h' 76 (i * 8 + e) = fV E T F D i e) ∧ ∀ j, j < i * 8 → h' 76 j = h 76 j := by
  have hn := He.1
  intro m
  induction m with
  | zero => intro k h _ _ h1 h2; omega
  | succ m ih =>
    intro k h L A b1 b2
    obtain ⟨c1, c2, c3, c4, c5, c6⟩ := C.mv L
    simp only [f_X2_solve_r1_25, c4]
    by_cases hk : k = ne
    · subst hk
      rw [if_pos (Int32.le_refl _), zlt_e, nI_1]
      exact ⟨h, rfl, L, A, fun j _ => rfl⟩
    have lc : ∀ c, (c < 19 ∨ c = 20 ∨ c = 40) → h c = h1 c := fun c hc => L.1 c (by omega) (by omega) (by omega) (by omega) (by omega) (by omega)
    obtain ⟨h2, e1, e2⟩ := q_lcV (h := h) (E := E) (T := T) (He.same (fun c hc => lc c (by omega))) (Ht.same (lc 12 (by omega)) (lc 13 (by omega)) (lc 40 (by omega))) (F i) (D k) (c5 i hi).2 (c6 k (by omega)).2
    rw [lc 40 (by omega), h40 _ (by have := (c5 i hi).2; have := (c6 k (by omega)).2; omega)] at e1
    rw [if_neg (by rw [n_le (by omega) (by omega)]; omega), zck_n (by omega) (by decide), zck_n (by omega) (by decide), n_cl (by omega), n_cl (by omega), (c5 i hi).1, (c6 k (by omega)).1, e1, zbd_e, show nI i * 8 + nI k = nI (i * 8 + k) by rw [show nI i * 8 = nI (i * 8) from n_mul i 8]; exact n_add _ _, zck_n (by omega) (by decide), n_cl (by omega), zst_e, zlt_e, nI_1]
    obtain ⟨h', p1, p2, p3, p4⟩ := ih (k + 1) (zup h2 76 (i * 8 + k) (eV E T (F i) (D k))) ⟨fun c q1 q2 q3 q4 q5 q6 => by rw [zup_ne c q5, e2 c q1 q2, L.1 c q1 q2 q3 q4 q5 q6], fun q hq => by rw [zup_ne 74 (by decide), e2 74 (by decide) (by decide), L.2 q hq]⟩ (fun e he => by
      rw [zup_eq]
      by_cases d : e = k
      · subst d; rw [pk_us]; rfl
      · rw [pk_un (by omega), e2 76 (by decide) (by decide)]; exact A e (by omega)) (by omega) (by omega)
    exact ⟨h', p1, p2, p3, fun j hj => by rw [p4 j hj, zup_eq, pk_un (by omega), e2 76 (by decide) (by decide)]⟩
def f76 (E : zEv) (T : zTe) (F D : Nat → Nat) (nf ne : Nat) (h : zH) : Prop := ∀ a, a < nf → ∀ e, e < ne → h 76 (a * 8 + e) = fV E T F D a e
theorem q_f15 {E : zEv} {T : zTe} {F D : Nat → Nat} {nf ne : Nat} {h1 : zH} (He : eC E h1) (Ht : cT E.nt T h1) (h40 : ∀ p, p < 256 → h1 40 p = 0) (C : fCl E F D nf ne h1) : ∀ m i h, fL h1 h → f76 E T F D i ne h → i ≤ nf → nf < m + i → ∃ h', f_X2_solve_r1_15 m (nI i) h = f_X2_solve_r1_82 zN (nI (2 ^ ne)) 0 h' ∧ fL h1 h' ∧ f76 E T F D nf ne h' := by
  intro m
  induction m with
  | zero => intro i h _ _ h1 h2; omega
  | succ m ih =>
    intro i h L A b1 b2
    obtain ⟨c1, c2, c3, c4, c5, c6⟩ := C.mv L
    simp only [f_X2_solve_r1_15, c3]
    by_cases hi : i = nf
    · subst hi
      rw [if_pos (Int32.le_refl _), zlt_e, c4, sh_p ne (by omega)]
      exact ⟨h, rfl, L, A⟩
    rw [if_neg (by rw [n_le (by omega) (by omega)]; omega)]
    obtain ⟨h2, p1, p2, p3, p4⟩ := q_f25 (f_X2_solve_r1_15 m) He Ht h40 C (i := i) (by omega) zN 0 h L (fun e he => by omega) (by omega) (by unfold zN; omega)
    have p1 : f_X2_solve_r1_25 (f_X2_solve_r1_15 m) zN (nI i) 0 h = f_X2_solve_r1_15 m (nI (i + 1)) h2 := p1
    rw [p1]
    exact ih (i + 1) h2 p2 (fun a ha e he => by
      by_cases d : a = i
      · subst d; exact p3 e he
      · rw [p4 _ (by omega)]; exact A a (by omega) e he) (by omega) (by omega)
/-- rows of the table from i on -/
def f75 (V : Nat → Nat → Int32) (nf ne i : Nat) (h : zH) : Prop := ∀ q, i ≤ q → q ≤ nf → ∀ s, s < 2 ^ ne → h 75 (q * 256 + s) = fitG V nf ne (nf - q) (bts s)
theorem q_f82 {E : zEv} {F D : Nat → Nat} {V : Nat → Nat → Int32} {nf ne : Nat} {h1 : zH} (C : fCl E F D nf ne h1) : ∀ m S h, fL h1 h → (∀ s, s < S → h 75 (nf * 256 + s) = 0) → S ≤ 2 ^ ne → 2 ^ ne < m + S → ∃ h', f_X2_solve_r1_82 m (nI (2 ^ ne)) (nI S) h = f_X2_solve_r1_116 zN (nI (2 ^ ne)) (nI nf - 1) h' ∧ fL h1 h' ∧ h' 76 = h 76 ∧ f75 V nf ne nf h' := by
  intro m
  induction m with
  | zero => intro S h _ _ h1 h2; omega
  | succ m ih =>
    intro S h L A b1 b2
    obtain ⟨c1, c2, c3, c4, c5, c6⟩ := C.mv L
    have P := p_256 ne (by omega)
    simp only [f_X2_solve_r1_82, c3]
    by_cases hS : S = 2 ^ ne
    · rw [hS, if_pos (Int32.le_refl _), zlt_e]
      refine ⟨h, rfl, L, rfl, fun q q1 q2 s hs => ?_⟩
      have : q = nf := by omega
      subst this
      rw [Nat.sub_self, A s (by omega)]
      rfl
    rw [if_neg (by rw [n_le (by omega) (by omega)]; omega), show nI nf * 256 + nI S = nI (nf * 256 + S) by rw [show nI nf * 256 = nI (nf * 256) from n_mul nf 256]; exact n_add _ _, zck_n (by omega) (by decide), n_cl (by omega), zst_e, zlt_e, nI_1]
    obtain ⟨h', p1, p2, p3, p4⟩ := ih (S + 1) (zup h 75 (nf * 256 + S) 0) ⟨fun c q1 q2 q3 q4 q5 q6 => by rw [zup_ne c q4, L.1 c q1 q2 q3 q4 q5 q6], fun q hq => by rw [zup_ne 74 (by decide), L.2 q hq]⟩ (fun s hs => by
      rw [zup_eq]
      by_cases d : s = S
      · subst d; rw [pk_us]
      · rw [pk_un (by omega)]; exact A s (by omega)) (by omega) (by omega)
    exact ⟨h', p1, p2, by rw [p3, zup_ne 76 (by decide)], p4⟩
theorem q_sumW {V : Nat → Nat → Int32} {nf ne i S e : Nat} {h : zH} (hnf : nf ≤ 8) (hne : ne ≤ 8) (h76 : ∀ e, e < ne → h 76 (i * 8 + e) = V i e) (hi : i < nf) (hS : S < 2 ^ ne) (he : e < ne) (R : ∀ s, s < 2 ^ ne → h 75 ((i + 1) * 256 + s) = fitG V nf ne (nf - (i + 1)) (bts s)) : f_X2_sumWith (nI i) (nI e) (nI S) h = some (V i e + fitG V nf ne (nf - (i + 1)) (rmv (bts S) e), h) := by
  have P := p_256 ne (by omega)
  have cl := clr_l S e
  unfold f_X2_sumWith
  rw [clr_n S (by omega) e (by omega), nI_1, show nI i * 8 + nI e = nI (i * 8 + e) by rw [show nI i * 8 = nI (i * 8) from n_mul i 8]; exact n_add _ _, show nI (i + 1) * 256 + nI (clr S e) = nI ((i + 1) * 256 + clr S e) by rw [show nI (i + 1) * 256 = nI ((i + 1) * 256) from n_mul (i + 1) 256]; exact n_add _ _, zck_n (by omega) (by decide), zck_n (by omega) (by decide), n_cl (by omega), n_cl (by omega), h76 e he, R _ (by omega), fitG_cong (nf - (i + 1)) (bts (clr S e)) (rmv (bts S) e) (fun x hx => clr_t S (by omega) e (by omega) x (by omega))]
theorem q_most {V : Nat → Nat → Int32} {nf ne i S : Nat} {h : zH} (hnf : nf ≤ 8) (hne : ne ≤ 8) (c4 : h 74 6 = nI ne) (h76 : ∀ e, e < ne → h 76 (i * 8 + e) = V i e) (hi : i < nf) (hS : S < 2 ^ ne) (R : ∀ s, s < 2 ^ ne → h 75 ((i + 1) * 256 + s) = fitG V nf ne (nf - (i + 1)) (bts s)) : f_X2_mostFrom (nI i) (nI S) h = some (fitG V nf ne (nf - i) (bts S), h) := by
  have P := p_256 ne (by omega)
  have loop : ∀ m e a, e ≤ ne → ne < m + e → f_X2_mostFrom_18 m (nI i) (nI S) a (nI e) h = some (gmx (V i) (fun e => fitG V nf ne (nf - (i + 1)) (rmv (bts S) e)) (bts S) (ne - e) e a, h) := by
    intro m
    induction m with
    | zero => intro e a h1 h2; omega
    | succ m ih =>
      intro e a h1 h2
      simp only [f_X2_mostFrom_18, f_X2_mostFrom_49, c4, zlt_e, nI_1]
      by_cases he : e = ne
      · subst he
        rw [if_pos (Int32.le_refl _), Nat.sub_self]
        rfl
      obtain ⟨q, hq⟩ : ∃ q, ne - e = q + 1 := ⟨ne - e - 1, by omega⟩
      have hq' : q = ne - (e + 1) := by omega
      rw [if_neg (by rw [n_le (by omega) (by omega)]; omega), q_isIn e (by omega), zbd_e, hq, gmx, hq', hb_nI S e (by omega)]
      simp only [i_10]
      by_cases c : S.testBit e = true
      · rw [if_neg (fun z => z c), q_sumW hnf hne h76 hi hS (by omega) R, zbd_e, if_pos (show bts S e = true from c)]
        exact ih (e + 1) _ (by omega) (by omega)
      · rw [if_pos c, if_neg (show ¬ bts S e = true from c)]
        exact ih (e + 1) a (by omega) (by omega)
  unfold f_X2_mostFrom
  rw [nI_1, show nI (i + 1) * 256 + nI S = nI ((i + 1) * 256 + S) by rw [show nI (i + 1) * 256 = nI ((i + 1) * 256) from n_mul (i + 1) 256]; exact n_add _ _, zck_n (by omega) (by decide), n_cl (by omega), zlt_e, R S hS]
  have e0 := loop zN 0 (fitG V nf ne (nf - (i + 1)) (bts S)) (by omega) (by unfold zN; omega)
  have e0 : f_X2_mostFrom_18 zN (nI i) (nI S) (fitG V nf ne (nf - (i + 1)) (bts S)) 0 h = _ := e0
  rw [e0, Nat.sub_zero]
  have : nf - i = (nf - (i + 1)) + 1 := by omega
  rw [this, show fitG V nf ne (nf - (i + 1) + 1) (bts S) = gmx (V (nf - (nf - (i + 1) + 1))) (fun e => fitG V nf ne (nf - (i + 1)) (rmv (bts S) e)) (bts S) ne 0 (fitG V nf ne (nf - (i + 1)) (bts S)) from rfl, show nf - (nf - (i + 1) + 1) = i by omega]
theorem q_f123 {E : zEv} {T : zTe} {F D : Nat → Nat} {nf ne : Nat} {h1 : zH} (k116 : Int32 → Int32 → zH → zR) (C : fCl E F D nf ne h1) {i : Nat} (hi : i < nf) : ∀ m S h, fL h1 h → f76 E T F D nf ne h → f75 (fV E T F D) nf ne (i + 1) h → (∀ s, s < S → h 75 (i * 256 + s) = fitG (fV E T F D) nf ne (nf - i) (bts s)) → S ≤ 2 ^ ne → 2 ^ ne < m + S → ∃ h', f_X2_solve_r1_123 k116 m (nI (2 ^ ne)) (nI i) (nI S) h = k116 (nI (2 ^ ne)) (nI i + -1) h' ∧ fL h1 h' ∧ f76 E T F D nf ne h' ∧ f75 (fV E T F D) nf ne i h' := by
  intro m
  induction m with
  | zero => intro S h _ _ _ _ h1 h2; omega
  | succ m ih =>
    intro S h L A B W b1 b2
    obtain ⟨c1, c2, c3, c4, c5, c6⟩ := C.mv L
    have P := p_256 ne (by omega)
    simp only [f_X2_solve_r1_123]
    by_cases hS : S = 2 ^ ne
    · rw [hS, if_pos (Int32.le_refl _), zlt_e]
      refine ⟨h, rfl, L, A, fun q q1 q2 s hs => ?_⟩
      by_cases c : q = i
      · subst c; exact W s (by omega)
      · exact B q (by omega) q2 s hs
    rw [if_neg (by rw [n_le (by omega) (by omega)]; omega), q_most c1 c2 c4 (A i hi) hi (by omega) (B (i + 1) (by omega) (by omega)), zbd_e, show nI i * 256 + nI S = nI (i * 256 + S) by rw [show nI i * 256 = nI (i * 256) from n_mul i 256]; exact n_add _ _, zck_n (by omega) (by decide), n_cl (by omega), zst_e, zlt_e, nI_1]
    exact ih (S + 1) _ ⟨fun c q1 q2 q3 q4 q5 q6 => by rw [zup_ne c q4, L.1 c q1 q2 q3 q4 q5 q6], fun q hq => by rw [zup_ne 74 (by decide), L.2 q hq]⟩ (fun a ha e he => by rw [zup_ne 76 (by decide)]; exact A a ha e he) (fun q q1 q2 s hs => by rw [zup_eq, pk_un (by omega)]; exact B q q1 q2 s hs) (fun s hs => by
      rw [zup_eq]
      by_cases d : s = S
      · subst d; rw [pk_us]
      · rw [pk_un (by omega)]; exact W s (by omega)) (by omega) (by omega)
theorem q_f116 {E : zEv} {T : zTe} {F D : Nat → Nat} {nf ne : Nat} {h1 : zH} (C : fCl E F D nf ne h1) : ∀ m i h, fL h1 h → f76 E T F D nf ne h → f75 (fV E T F D) nf ne i h → i ≤ nf → i < m → ∃ h', f_X2_solve_r1_116 m (nI (2 ^ ne)) (nI i - 1) h = zbd (f_X2_choose (nI (2 ^ ne - 1)) (zup h' 74 7 (h' 75 (2 ^ ne - 1)))) (fun _ h7 => some (1, h7)) ∧ fL h1 h' ∧ f76 E T F D nf ne h' ∧ f75 (fV E T F D) nf ne 0 h' := by
  intro m
  induction m with
  | zero => intro i h _ _ _ h1 h2; omega
  | succ m ih =>
    intro i h L A B b1 b2
    have P := p_256 ne (by have := C.2.1; omega)
    simp only [f_X2_solve_r1_116]
    cases i with
    | zero =>
      rw [if_pos (by decide), n_s1n P.1, zck_n (by omega) (by decide), n_cl (by omega), zst_e]
      exact ⟨h, rfl, L, A, B⟩
    | succ i =>
      rw [n_s1n (by omega), Nat.add_sub_cancel, if_neg (show ¬ nI i < 0 by rw [n_neg (by have := C.1; omega)]; exact id)]
      obtain ⟨h2, p1, p2, p3, p4⟩ := q_f123 (T := T) (f_X2_solve_r1_116 m) C (i := i) (by omega) zN 0 h L A B (fun s hs => by omega) (by omega) (by unfold zN; omega)
      have p1 : f_X2_solve_r1_123 (f_X2_solve_r1_116 m) zN (nI (2 ^ ne)) (nI i) 0 h = f_X2_solve_r1_116 m (nI (2 ^ ne)) (nI i + -1) h2 := p1
      rw [p1, ← Int32.sub_eq_add_neg]
      exact ih i h2 p2 p3 p4 (by omega) (by omega)
