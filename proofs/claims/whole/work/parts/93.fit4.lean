/-! fit: who is chosen -/
def fP (V : Nat → Nat → Int32) (nf ne i : Nat) (av : Nat → Bool) (x : Nat) : Prop := av x = true ∧ V i x + fitG V nf ne (nf - (i + 1)) (rmv av x) = fitG V nf ne (nf - i) av
theorem q_leastC {V : Nat → Nat → Int32} {nf ne i S : Nat} {h : zH} (hnf : nf ≤ 8) (hne : ne ≤ 8) (c4 : h 74 6 = nI ne) (h76 : ∀ e, e < ne → h 76 (i * 8 + e) = V i e) (hi : i < nf) (hS : S < 2 ^ ne) (R : ∀ s, s < 2 ^ ne → h 75 ((i + 1) * 256 + s) = fitG V nf ne (nf - (i + 1)) (bts s)) (R0 : h 75 (i * 256 + S) = fitG V nf ne (nf - i) (bts S)) : ∀ m e, e ≤ ne → ne < m + e → (∃ x, e ≤ x ∧ x < ne ∧ fP V nf ne i (bts S) x ∧ (∀ y, e ≤ y → y < x → ¬ fP V nf ne i (bts S) y) ∧ f_X2_leastPartner_2 m (nI i) (nI S) (nI e) h = some (nI x, h)) ∨ ((∀ x, e ≤ x → x < ne → ¬ fP V nf ne i (bts S) x) ∧ f_X2_leastPartner_2 m (nI i) (nI S) (nI e) h = some (-1, h)) := by
  have P := p_256 ne (by omega)
  intro m
  induction m with
  | zero => intro e h1 h2; omega
  | succ m ih =>
    intro e h1 h2
    simp only [f_X2_leastPartner_2, f_X2_leastPartner_42, c4, zlt_e, nI_1]
    by_cases he : e = ne
    · subst he
      rw [if_pos (Int32.le_refl _)]
      exact Or.inr ⟨fun x x1 x2 => by omega, rfl⟩
    rw [if_neg (by rw [n_le (by omega) (by omega)]; omega), q_isIn e (by omega), zbd_e, hb_nI S e (by omega)]
    simp only [i_10]
    have next : ¬ fP V nf ne i (bts S) e → (∃ x, e ≤ x ∧ x < ne ∧ fP V nf ne i (bts S) x ∧ (∀ y, e ≤ y → y < x → ¬ fP V nf ne i (bts S) y) ∧ f_X2_leastPartner_2 m (nI i) (nI S) (nI (e + 1)) h = some (nI x, h)) ∨ ((∀ x, e ≤ x → x < ne → ¬ fP V nf ne i (bts S) x) ∧ f_X2_leastPartner_2 m (nI i) (nI S) (nI (e + 1)) h = some (-1, h)) := by
      intro z
      rcases ih (e + 1) (by omega) (by omega) with ⟨x, x1, x2, x3, x4, x5⟩ | ⟨x1, x2⟩
      · refine Or.inl ⟨x, by omega, x2, x3, fun y y1 y2 => ?_, x5⟩
        by_cases d : y = e
        · subst d; exact z
        · exact x4 y (by omega) y2
      · refine Or.inr ⟨fun x y1 y2 => ?_, x2⟩
        by_cases d : x = e
        · subst d; exact z
        · exact x1 x (by omega) y2
    by_cases c : S.testBit e = true
    · rw [if_neg (fun z => z c), q_sumW hnf hne h76 hi hS (by omega) R, zbd_e, show nI i * 256 + nI S = nI (i * 256 + S) by rw [show nI i * 256 = nI (i * 256) from n_mul i 256]; exact n_add _ _, zck_n (by omega) (by decide), n_cl (by omega), R0]
      by_cases d : V i e + fitG V nf ne (nf - (i + 1)) (rmv (bts S) e) = fitG V nf ne (nf - i) (bts S)
      · rw [if_pos d]
        exact Or.inl ⟨e, Nat.le_refl _, by omega, ⟨c, d⟩, fun y y1 y2 => by omega, rfl⟩
      · rw [if_neg d]
        exact next (fun z => d z.2)
    · rw [if_pos c]
      exact next (fun z => c z.1)
theorem q_leastM {E : zEv} {can : Nat → Nat → Bool} {T : zTe} {F D : Nat → Nat} {nf ne : Nat} {g1 : zH} (k180 : Int32 → Int32 → zH → zR) (Hm : tM E can T g1) (C : fMl E F D nf ne g1) {i S : Nat} (hi : i < nf) (hS : S < 2 ^ ne) : ∀ m e g, gL g1 g → m112 (fV E T F D) nf ne 0 g → e ≤ ne → ne < m + e → ∃ g' x, f_X12_laysFit_191 k180 m (nI S) (nI i) (nI e) g = f_X12_laysFit_256 k180 (nI S) (nI i) (nI x) g' ∧ gL g1 g' ∧ g' 112 = g 112 ∧ g' 113 = g 113 ∧ e ≤ x ∧ x ≤ ne ∧ (x < ne → fP (fV E T F D) nf ne i (nbt S) x) ∧ ∀ y, e ≤ y → y < x → ¬ fP (fV E T F D) nf ne i (nbt S) y := by
  intro m
  induction m with
  | zero => intro e g _ _ h1 h2; omega
  | succ m ih =>
    intro e g L A b1 b2
    obtain ⟨c1, c2, c3, c4, c5, c6⟩ := C.mv L
    have P := p_256 ne (by omega)
    have Hg : tM E can T g := Hm.w (L 101 (by decide) (by decide) (by decide) (by decide))
    simp only [f_X12_laysFit_191, f_X12_laysFit_250, c4, zlt_e, nI_1]
    by_cases he : e = ne
    · subst he
      rw [if_pos (Int32.le_refl _)]
      exact ⟨g, e, rfl, L, rfl, rfl, Nat.le_refl _, Nat.le_refl _, fun z => by omega, fun y y1 y2 => by omega⟩
    rw [if_neg (by rw [n_le (by omega) (by omega)]; omega), hb_in (nI S) e (by omega), hb_nI S e (by omega)]
    simp only [i01]
    have next : ∀ g2, gL g1 g2 → g2 112 = g 112 → g2 113 = g 113 → ¬ fP (fV E T F D) nf ne i (nbt S) e → ∃ g' x, f_X12_laysFit_191 k180 m (nI S) (nI i) (nI (e + 1)) g2 = f_X12_laysFit_256 k180 (nI S) (nI i) (nI x) g' ∧ gL g1 g' ∧ g' 112 = g 112 ∧ g' 113 = g 113 ∧ e ≤ x ∧ x ≤ ne ∧ (x < ne → fP (fV E T F D) nf ne i (nbt S) x) ∧ ∀ y, e ≤ y → y < x → ¬ fP (fV E T F D) nf ne i (nbt S) y := by
      intro g2 l2 e112 e113 z
      obtain ⟨g', x, p1, p2, p3, p4, p5, p6, p7, p8⟩ := ih (e + 1) g2 l2 (fun q q1 q2 s hs => by rw [e112]; exact A q q1 q2 s hs) (by omega) (by omega)
      refine ⟨g', x, p1, p2, p3.trans e112, p4.trans e113, by omega, p6, p7, fun y y1 y2 => ?_⟩
      by_cases d : y = e
      · subst d; exact z
      · exact p8 y (by omega) y2
    by_cases c : S.testBit e = true
    · rw [if_pos c]
      exact next g L rfl rfl (fun z => by have := z.1; unfold nbt at this; rw [c] at this; exact absurd this (by decide))
    · have hst := stb_l ne (by omega) S hS e (by omega)
      obtain ⟨g2, e1, e2⟩ := q_lmV Hg (F i) (D e) (c5 i hi).2 (c6 e (by omega)).2
      rw [if_neg c, zck_n (by omega) (by decide), zck_n (by omega) (by decide), n_cl (by omega), n_cl (by omega), (c5 i hi).1, (c6 e (by omega)).1, e1, zbd_e, stb_n S (by omega) e (by omega), q_fitd g2 (by omega) (by omega), zbd_e, e2 112 (by decide) (by decide), A (i + 1) (by omega) (by omega) _ hst, fitG_cong (nf - (i + 1)) (nbt (stb S e)) (rmv (nbt S) e) (fun x hx => nbt_s (by omega) (by omega) (by omega)), q_fitd g2 (by omega) (by omega), zbd_e, e2 112 (by decide) (by decide), A i (by omega) (by omega) S hS]
      have L2 : gL g1 g2 := fun c q1 q2 q3 q4 => by rw [e2 c q1 q2, L c q1 q2 q3 q4]
      by_cases d : eV E T (F i) (D e) + fitG (fV E T F D) nf ne (nf - (i + 1)) (rmv (nbt S) e) = fitG (fV E T F D) nf ne (nf - i) (nbt S)
      · rw [if_pos d]
        exact ⟨g2, e, rfl, L2, e2 112 (by decide) (by decide), e2 113 (by decide) (by decide), Nat.le_refl _, by omega, fun _ => ⟨by unfold nbt; rw [Bool.eq_false_iff.mpr c]; rfl, d⟩, fun y y1 y2 => by omega⟩
      · rw [if_neg d]
        exact next g2 L2 (e2 112 (by decide) (by decide)) (e2 113 (by decide) (by decide)) (fun z => d z.2)
theorem fP_cong {V : Nat → Nat → Int32} {nf ne i : Nat} {av av' : Nat → Bool} (h : ∀ e, e < ne → av e = av' e) {x : Nat} (hx : x < ne) : fP V nf ne i av x ↔ fP V nf ne i av' x := by
  unfold fP
  rw [h x hx, fitG_cong (nf - i) av av' h, fitG_cong (nf - (i + 1)) (rmv av x) (rmv av' x) (fun e he => by unfold rmv; rw [h e he])]
theorem q_choose {E : zEv} {can : Nat → Nat → Bool} {T : zTe} {F D : Nat → Nat} {nf ne : Nat} {h1 g1 : zH} (hn : E.n ≤ 16) (Hm : tM E can T g1) (Cc : fCl E F D nf ne h1) (Cm : fMl E F D nf ne g1) : ∀ m m' i Sc Sm h g, fL h1 h → gL g1 g → f76 E T F D nf ne h → f75 (fV E T F D) nf ne 0 h → m112 (fV E T F D) nf ne 0 g → (∀ e, e < ne → bts Sc e = nbt Sm e) → Sc < 2 ^ ne → Sm < 2 ^ ne → (∀ j, j < 16 → h 79 j = g 113 j) → i ≤ nf → nf < m + i → nf < m' + i → ∃ h' g', f_X2_choose_25 m (nI Sc) (nI i) h = some (0, h') ∧ f_X12_laysFit_180 m' (nI Sm) (nI i) g = some (0, g') ∧ fL h1 h' ∧ gL g1 g' ∧ h' 74 = h 74 ∧ g' 112 = g 112 ∧ ∀ j, j < 16 → h' 79 j = g' 113 j := by
  intro m
  induction m with
  | zero => intro m' i Sc Sm h g _ _ _ _ _ _ _ _ _ h1 h2; omega
  | succ m ih =>
    intro m' i Sc Sm h g Lc Lm A B W S1 S2 S3 J b1 b2 b3
    obtain ⟨m', rfl⟩ : ∃ q, m' = q + 1 := ⟨m' - 1, by omega⟩
    obtain ⟨c1, c2, c3, c4, c5, c6⟩ := Cc.mv Lc
    have P := p_256 ne (by omega)
    have d3 : g 100 31 = nI nf := (Cm.mv Lm).2.2.1
    simp only [f_X2_choose_25, f_X2_choose_92, f_X12_laysFit_180, c3, d3]
    by_cases hi : i = nf
    · subst hi
      rw [if_pos (Int32.le_refl _), if_pos (Int32.le_refl _)]
      exact ⟨h, g, rfl, rfl, Lc, Lm, rfl, rfl, J⟩
    have hle : ¬ nI nf ≤ nI i := by rw [n_le (by omega) (by omega)]; omega
    rw [if_neg hle, if_neg hle]
    obtain ⟨g2, x, p1, p2, p3, p4, p5, p6, p7, p8⟩ := q_leastM (can := can) (T := T) (f_X12_laysFit_180 m') Hm Cm (i := i) (S := Sm) (by omega) S3 zN 0 g Lm W (by omega) (by unfold zN; omega)
    have p1 : f_X12_laysFit_191 (f_X12_laysFit_180 m') zN (nI Sm) (nI i) 0 g = f_X12_laysFit_256 (f_X12_laysFit_180 m') (nI Sm) (nI i) (nI x) g2 := p1
    rw [p1]
    have W2 : m112 (fV E T F D) nf ne 0 g2 := fun q q1 q2 s hs => by rw [p3]; exact W q q1 q2 s hs
    obtain ⟨-, -, e3, e4, e5, e6⟩ := Cm.mv p2
    unfold f_X12_laysFit_256 f_X12_laysFit_311
    rw [e4]
    have LP := q_leastC (V := fV E T F D) (S := Sc) (i := i) c1 c2 c4 (A i (by omega)) (by omega) S2 (B (i + 1) (by omega) (by omega)) (B i (by omega) (by omega) Sc S2) zN 0 (by omega) (by unfold zN; omega)
    rcases LP with ⟨y, y1, y2, y3, y4, y5⟩ | ⟨y1, y2⟩
    · -- the same partner
      have y5 : f_X2_leastPartner (nI i) (nI Sc) h = some (nI y, h) := y5
      have hx : x = y := by
        have hp := (fP_cong S1 y2).mp y3
        by_cases c : y < x
        · exact absurd hp (p8 y (by omega) c)
        · by_cases d : x < y
          · exact absurd ((fP_cong S1 (by omega)).mpr (p7 (by omega))) (y4 x (by omega) d)
          · omega
      subst hx
      have f5 := (c5 i (by omega)).2
      have f6 := (c6 x y2).2
      rw [y5, zbd_e, if_neg (show ¬ nI x = -1 by rw [n_m1 (by omega)]; exact id), if_neg (show ¬ nI x = nI ne by rw [n_eq (by omega) (by omega)]; omega)]
      simp only [zlt_e, zst_e, n_cl (show i < 2 ^ 31 by omega), n_cl (show x < 2 ^ 31 by omega), zck_n (show i < 8 by omega) (show 8 < 2 ^ 31 by decide), zck_n (show x < 8 by omega) (show 8 < 2 ^ 31 by decide), zck_n (show i < 16 by omega) (show 16 < 2 ^ 31 by decide), zck_n (show x < 16 by omega) (show 16 < 2 ^ 31 by decide), (c5 i (by omega)).1, (c6 x y2).1, (e5 i (by omega)).1, (e6 x y2).1, n_cl (show F i < 2 ^ 31 by omega), zck_n (show F i < 16 by omega) (show 16 < 2 ^ 31 by decide)]
      have zh78 : zup h 79 (F i) (nI (D x)) 78 = h 78 := zup_ne 78 (by decide)
      have zh77 : zup h 79 (F i) (nI (D x)) 77 = h 77 := zup_ne 77 (by decide)
      have zg111 : zup g2 113 (F i) (nI (D x)) 111 = g2 111 := zup_ne 111 (by decide)
      have zg110 : zup g2 113 (F i) (nI (D x)) 110 = g2 110 := zup_ne 110 (by decide)
      simp only [zh78, zh77, zg111, zg110, (c5 i (by omega)).1, (c6 x y2).1, (e5 i (by omega)).1, (e6 x y2).1, n_cl (show D x < 2 ^ 31 by omega), zck_n (show D x < 16 by omega) (show 16 < 2 ^ 31 by decide), nI_1]
      rw [clr_n Sc (by omega) x (by omega), stb_n Sm (by omega) x (by omega)]
      have cl := clr_l Sc x
      obtain ⟨h', g', u1, u2, u3, u4, u5, u6, u7⟩ := ih m' (i + 1) (clr Sc x) (stb Sm x) (zup (zup h 79 (F i) (nI (D x))) 79 (D x) (nI (F i))) (zup (zup g2 113 (F i) (nI (D x))) 113 (D x) (nI (F i))) ⟨fun c q1 q2 q3 q4 q5 q6 => by rw [zup_ne c q6, zup_ne c q6, Lc.1 c q1 q2 q3 q4 q5 q6], fun k hk => by rw [zup_ne 74 (by decide), zup_ne 74 (by decide), Lc.2 k hk]⟩ (fun c q1 q2 q3 q4 => by rw [zup_ne c q4, zup_ne c q4, p2 c q1 q2 q3 q4]) (fun a ha e he => by rw [zup_ne 76 (by decide), zup_ne 76 (by decide)]; exact A a ha e he) (fun q q1 q2 s hs => by rw [zup_ne 75 (by decide), zup_ne 75 (by decide)]; exact B q q1 q2 s hs) (fun q q1 q2 s hs => by rw [zup_ne 112 (by decide), zup_ne 112 (by decide)]; exact W2 q q1 q2 s hs) (fun e he => by
        have t1 : bts (clr Sc x) e = (bts Sc e && !decide (e = x)) := clr_t Sc (by omega) x (by omega) e (by omega)
        rw [t1, S1 e he, nbt_s (by omega) (by omega) (by omega)]
        rfl) (by omega) (stb_l ne (by omega) Sm S3 x y2) (fun j hj => by
        rw [zup_eq, zup_eq, zup_eq, zup_eq]
        by_cases q : j = D x
        · subst q; rw [pk_us, pk_us]
        · rw [pk_un q, pk_un q]
          by_cases r : j = F i
          · subst r; rw [pk_us, pk_us]
          · rw [pk_un r, pk_un r, p4]; exact J j hj) (by omega) (by omega) (by omega)
      exact ⟨h', g', u1, u2, u3, u4, by rw [u5, zup_ne 74 (by decide), zup_ne 74 (by decide)], by rw [u6, zup_ne 112 (by decide), zup_ne 112 (by decide), p3], u7⟩
    · -- nobody
      have y2 : f_X2_leastPartner (nI i) (nI Sc) h = some (-1, h) := y2
      have hx : x = ne := by
        by_cases c : x < ne
        · exact absurd ((fP_cong S1 c).mpr (p7 c)) (y1 x (by omega) c)
        · omega
      subst hx
      rw [y2, zbd_e, if_pos rfl, if_pos rfl, zlt_e, zlt_e, nI_1]
      obtain ⟨h', g', u1, u2, u3, u4, u5, u6, u7⟩ := ih m' (i + 1) Sc Sm h g2 Lc p2 A B W2 S1 S2 S3 (fun j hj => by rw [p4]; exact J j hj) (by omega) (by omega) (by omega)
      exact ⟨h', g', u1, u2, u3, u4, u5, by rw [u6, p3], u7⟩
theorem q_ch2 (x : Int32) : ∀ m i h, i ≤ 16 → 16 < m + i → (∀ j, j < i → h 79 j = -1) → ∃ h', f_X2_choose_2 m x (nI i) h = f_X2_choose_25 zN x 0 h' ∧ (∀ c, c ≠ 79 → h' c = h c) ∧ ∀ j, j < 16 → h' 79 j = -1 := by
  intro m
  induction m with
  | zero => intro i h h1 h2; omega
  | succ m ih =>
    intro i h h1 h2 A
    simp only [f_X2_choose_2]
    by_cases hi : i = 16
    · subst hi
      rw [if_pos (by decide)]
      exact ⟨h, rfl, fun c _ => rfl, A⟩
    rw [if_neg (show ¬ (16 : Int32) ≤ nI i by rw [l_16, n_le (by omega) (by omega)]; omega), zck_n (by omega) (by decide), n_cl (by omega), zst_e, zlt_e, nI_1]
    obtain ⟨h', e1, e2, e3⟩ := ih (i + 1) (zup h 79 i (-1)) (by omega) (by omega) (fun j hj => by
      rw [zup_eq]
      by_cases c : j = i
      · subst c; rw [pk_us]
      · rw [pk_un c]; exact A j (by omega))
    exact ⟨h', e1, fun c hc => by rw [e2 c hc, zup_ne c hc], e3⟩
theorem q_m157 : ∀ m i g, i ≤ 16 → 16 < m + i → (∀ j, j < i → g 113 j = -1) → ∃ g', f_X12_laysFit_157 m (nI i) g = f_X12_laysFit_180 zN 0 0 g' ∧ (∀ c, c ≠ 113 → g' c = g c) ∧ ∀ j, j < 16 → g' 113 j = -1 := by
  intro m
  induction m with
  | zero => intro i h h1 h2; omega
  | succ m ih =>
    intro i g h1 h2 A
    simp only [f_X12_laysFit_157]
    by_cases hi : i = 16
    · subst hi
      rw [if_pos (by decide)]
      exact ⟨g, rfl, fun c _ => rfl, A⟩
    rw [if_neg (show ¬ (16 : Int32) ≤ nI i by rw [l_16, n_le (by omega) (by omega)]; omega), zck_n (by omega) (by decide), n_cl (by omega), zst_e, zlt_e, nI_1]
    obtain ⟨h', e1, e2, e3⟩ := ih (i + 1) (zup g 113 i (-1)) (by omega) (by omega) (fun j hj => by
      rw [zup_eq]
      by_cases c : j = i
      · subst c; rw [pk_us]
      · rw [pk_un c]; exact A j (by omega))
    exact ⟨h', e1, fun c hc => by rw [e2 c hc, zup_ne c hc], e3⟩
