/-! how much a row of sitters laughs -/
def mry (E : zEv) (can : Nat → Nat → Bool) (fam : Nat → Nat) (si : Nat → Int32) (sn : Nat) : Nat → Nat → Int32 → zTe → Int32 × zTe
  | 0, _, v, T => (v, T)
  | r + 1, s, v, T => mry E can fam si sn r (s + 1) (v + tlV E can fam T (si s) (si (nxt sn s))) (tlT E can fam T (si s) (si (nxt sn s)))
theorem tlT_b {E : zEv} {can : Nat → Nat → Bool} {fam : Nat → Nat} {T : zTe} {x y : Int32} (p : Nat) : (tlT E can fam T x y).1 p ≤ T.1 p + 1 := by
  unfold tlT
  split
  · omega
  · unfold tT
    simp only
    split <;> omega
theorem q_untells_r10 {E : zEv} {can : Nat → Nat → Bool} {T0 : zTe} {M0 : Nat → Int32} {sn : Nat} (hs8 : sn ≤ 8) (v : Int32) : ∀ n i h T k, tC E can T h → h 38 6 = nI k → k + i ≤ sn → sn < n + i → trW E (h 12) (h 13) (h 42) (h 43) T0 M0 k T (h 40) → ∃ h', f_X1_merryOf_r10_49 n (nI sn) v (nI i) h = some (v, h') ∧ tC E can T0 h' ∧ h' 38 6 = nI 0 ∧ h' 40 = M0 ∧ sK h h' := by
  intro n
  induction n with
  | zero => intro i h T k _ _ h1 h2; omega
  | succ n ih =>
    intro i h T k R hk h1 h2 W
    simp only [f_X1_merryOf_r10_49]
    by_cases hi : i = sn
    · subst hi
      have : k = 0 := by omega
      subst this
      obtain ⟨w1, w2⟩ := W
      subst w1
      rw [if_pos (Int32.le_refl _)]
      exact ⟨h, rfl, R, hk, w2, sK.refl h⟩
    rw [if_neg (by rw [n_le (by omega) (by omega)]; omega)]
    cases k with
    | zero =>
      rw [q_untell0 hk, zbd_e, zlt_e, nI_1]
      exact ih (i + 1) h T 0 R hk (by omega) (by omega) W
    | succ k =>
      obtain ⟨f, e, T1, M1, a1, a2, a3, a4, a5, a6, a7, a8⟩ := W
      subst a5
      obtain ⟨h1, b1, b2, b3, b4, b5, b6, b7⟩ := q_untell a1 a2 (by omega) R hk a3 a4 a6 a7
      rw [b1, zbd_e, zlt_e, nI_1]
      have e12 := b7.1 12 (by decide) (by decide) (by decide) (by decide) (by decide) (by decide) (by decide)
      have e13 := b7.1 13 (by decide) (by decide) (by decide) (by decide) (by decide) (by decide) (by decide)
      obtain ⟨h', c1, c2, c3, c4, c5⟩ := ih (i + 1) h1 T1 k b2 b3 (by omega) (by omega) (by rw [e12, e13, b5, b6, b4]; exact a8)
      exact ⟨h', c1, c2, c3, c4, b7.trans c5⟩
theorem q_tells_r10 {E : zEv} {can : Nat → Nat → Bool} {fam : Nat → Nat} {si : Nat → Int32} {T0 : zTe} {M0 : Nat → Int32} {sn gn : Nat} (hs8 : sn ≤ 8) (hg : gn ≤ 8) (hsi : ∀ s, s < sn → si s = -1 ∨ ∃ i, i < gn ∧ si s = nI i) : ∀ n s h T v k, tC E can T h → h 38 6 = nI k → k ≤ s → s ≤ sn → sn < n + s → (∀ p, p < 256 → T.1 p + (sn - s) < 2 ^ 30) → (∀ i, i < gn → fam i < 6 ∧ h 8 i = nI (fam i)) → (∀ s, s < sn → h 10 s = si s) → trW E (h 12) (h 13) (h 42) (h 43) T0 M0 k T (h 40) → ∃ h' k', f_X1_merryOf_r10_5 n (nI sn) v (nI s) h = f_X1_merryOf_r10_49 zN (nI sn) (mry E can fam si sn (sn - s) s v T).1 0 h' ∧ k' ≤ sn ∧ h' 38 6 = nI k' ∧ tC E can (mry E can fam si sn (sn - s) s v T).2 h' ∧ trW E (h' 12) (h' 13) (h' 42) (h' 43) T0 M0 k' (mry E can fam si sn (sn - s) s v T).2 (h' 40) ∧ sK h h' := by
  intro n
  induction n with
  | zero => intro s h T v k _ _ h1 h2 h3; omega
  | succ n ih =>
    intro s h T v k R hk h1 h2 h3 hT hfam h10 W
    simp only [f_X1_merryOf_r10_5]
    by_cases hi : s = sn
    · subst hi
      rw [if_pos (Int32.le_refl _), Nat.sub_self]
      exact ⟨h, k, rfl, h1, hk, R, W, sK.refl h⟩
    rw [if_neg (by rw [n_le (by omega) (by omega)]; omega), zck_n (by omega) (by decide), n_cl (by omega), h10 s (by omega), nI_1]
    unfold f_X1_merryOf_r10_34
    have hn := nxt_lt (show s < sn by omega)
    have hcol : ∀ (K : Int32 → zR), (if nI sn ≤ nI (s + 1) then K 0 else K (nI (s + 1))) = K (nI (nxt sn s)) := by
      intro K
      unfold nxt
      by_cases c : s + 1 < sn
      · rw [if_neg (by rw [n_le (by omega) (by omega)]; omega), if_pos c]
      · rw [if_pos (by rw [n_le (by omega) (by omega)]; omega), if_neg c]; rfl
    rw [hcol (fun s0 => zck s0 8 (zbd (f_X1_tellBetween (si s) (h 10 s0.toNatClampNeg) h) fun r4 h5 => zlt (v + r4) fun y6 => zlt (nI s + 1) fun y7 => f_X1_merryOf_r10_5 n (nI sn) y6 y7 h5))]
    rw [zck_n (by omega) (by decide), n_cl (by omega), h10 _ hn]
    obtain ⟨h1, b1, b2, b3, b4⟩ := q_tellB R hk (by omega) (fun p hp => by have := hT p hp; omega) hg hfam (si s) (si (nxt sn s)) (hsi s (by omega)) (hsi _ hn)
    rw [b1, zbd_e, zlt_e, zlt_e, nI_1]
    obtain ⟨r, hr⟩ : ∃ r, sn - s = r + 1 := ⟨sn - s - 1, by omega⟩
    have hr' : r = sn - (s + 1) := by omega
    rw [hr, mry, hr']
    have e12 := b3.1 12 (by decide) (by decide) (by decide) (by decide) (by decide) (by decide) (by decide)
    have e13 := b3.1 13 (by decide) (by decide) (by decide) (by decide) (by decide) (by decide) (by decide)
    have e8 := b3.1 8 (by decide) (by decide) (by decide) (by decide) (by decide) (by decide) (by decide)
    have e10 := b3.1 10 (by decide) (by decide) (by decide) (by decide) (by decide) (by decide) (by decide)
    have hT' : ∀ p, p < 256 → (tlT E can fam T (si s) (si (nxt sn s))).1 p + (sn - (s + 1)) < 2 ^ 30 := fun p hp => by
      have h1 := hT p hp
      have h2 := tlT_b (E := E) (can := can) (fam := fam) (T := T) (x := si s) (y := si (nxt sn s)) p
      omega
    have step : ∀ k1, k1 ≤ s + 1 → h1 38 6 = nI k1 → trW E (h1 12) (h1 13) (h1 42) (h1 43) T0 M0 k1 (tlT E can fam T (si s) (si (nxt sn s))) (h1 40) → ∃ h' k', f_X1_merryOf_r10_5 n (nI sn) (v + tlV E can fam T (si s) (si (nxt sn s))) (nI (s + 1)) h1 = f_X1_merryOf_r10_49 zN (nI sn) (mry E can fam si sn (sn - (s + 1)) (s + 1) (v + tlV E can fam T (si s) (si (nxt sn s))) (tlT E can fam T (si s) (si (nxt sn s)))).1 0 h' ∧ k' ≤ sn ∧ h' 38 6 = nI k' ∧ tC E can (mry E can fam si sn (sn - (s + 1)) (s + 1) (v + tlV E can fam T (si s) (si (nxt sn s))) (tlT E can fam T (si s) (si (nxt sn s)))).2 h' ∧ trW E (h' 12) (h' 13) (h' 42) (h' 43) T0 M0 k' (mry E can fam si sn (sn - (s + 1)) (s + 1) (v + tlV E can fam T (si s) (si (nxt sn s))) (tlT E can fam T (si s) (si (nxt sn s)))).2 (h' 40) ∧ sK h h' := by
      intro k1 q1 q2 q3
      obtain ⟨h', k', c1, c2, c3, c4, c5, c6⟩ := ih (s + 1) h1 _ (v + tlV E can fam T (si s) (si (nxt sn s))) k1 b2 q2 q1 (by omega) (by omega) hT' (fun i hi => by rw [e8]; exact hfam i hi) (fun s hs => by rw [e10]; exact h10 s hs) q3
      exact ⟨h', k', c1, c2, c3, c4, c5, b3.trans c6⟩
    rcases b4 with ⟨d1, d2, d3, d4, d5⟩ | ⟨d1, d2, f, e, f1, f2, f3, f4, f5, f6⟩
    · refine step k (by omega) d2 ?_
      rw [e12, e13, d3, d4, d5]
      unfold tlT
      rw [if_pos d1]
      exact W
    · refine step (k + 1) (by omega) d2 ?_
      rw [e12, e13, f4, f5, f6]
      refine ⟨f, e, T, h 40, f1, f2, by rw [pk_us], by rw [pk_us], f3, rfl, R.2.1, ?_⟩
      exact trW.cong k T _ W (fun i hi => ⟨by rw [pk_un (by omega)], by rw [pk_un (by omega)]⟩)
theorem q_merry_r10 {E : zEv} {can : Nat → Nat → Bool} {T : zTe} {fam : Nat → Nat} {si : Nat → Int32} {sn gn : Nat} {h : zH} (hs8 : sn ≤ 8) (hg : gn ≤ 8) (hsi : ∀ s, s < sn → si s = -1 ∨ ∃ i, i < gn ∧ si s = nI i) (R : tC E can T h) (hk : h 38 6 = nI 0) (hT : ∀ p, p < 256 → T.1 p + sn < 2 ^ 30) (hfam : ∀ i, i < gn → fam i < 6 ∧ h 8 i = nI (fam i)) (h10 : ∀ s, s < sn → h 10 s = si s) : ∃ h', f_X1_merryOf_r10 (nI sn) h = some ((mry E can fam si sn sn 0 0 T).1, h') ∧ tC E can T h' ∧ h' 38 6 = nI 0 ∧ h' 40 = h 40 ∧ sK h h' := by
  unfold f_X1_merryOf_r10
  obtain ⟨h1, k, a1, a2, a3, a4, a5, a6⟩ := q_tells_r10 (E := E) (can := can) (T0 := T) (M0 := h 40) hs8 hg hsi zN 0 h T 0 0 R hk (by omega) (by omega) (by unfold zN; omega) (fun p hp => hT p hp) hfam h10 ⟨rfl, rfl⟩
  have a1 : f_X1_merryOf_r10_5 zN (nI sn) 0 0 h = f_X1_merryOf_r10_49 zN (nI sn) (mry E can fam si sn sn 0 0 T).1 0 h1 := a1
  rw [a1]
  obtain ⟨h', b1, b2, b3, b4, b5⟩ := q_untells_r10 hs8 (mry E can fam si sn sn 0 0 T).1 zN 0 h1 _ k a4 a3 (by omega) (by unfold zN; omega) a5
  exact ⟨h', b1, b2, b3, b4, a6.trans b5⟩
theorem q_untells_r44 {E : zEv} {can : Nat → Nat → Bool} {T0 : zTe} {M0 : Nat → Int32} {sn : Nat} (hs8 : sn ≤ 8) (v : Int32) : ∀ n i h T k, tC E can T h → h 38 6 = nI k → k + i ≤ sn → sn < n + i → trW E (h 12) (h 13) (h 42) (h 43) T0 M0 k T (h 40) → ∃ h', f_X1_merryOf_r44_49 n (nI sn) v (nI i) h = some (v, h') ∧ tC E can T0 h' ∧ h' 38 6 = nI 0 ∧ h' 40 = M0 ∧ sK h h' := by
  intro n
  induction n with
  | zero => intro i h T k _ _ h1 h2; omega
  | succ n ih =>
    intro i h T k R hk h1 h2 W
    simp only [f_X1_merryOf_r44_49]
    by_cases hi : i = sn
    · subst hi
      have : k = 0 := by omega
      subst this
      obtain ⟨w1, w2⟩ := W
      subst w1
      rw [if_pos (Int32.le_refl _)]
      exact ⟨h, rfl, R, hk, w2, sK.refl h⟩
    rw [if_neg (by rw [n_le (by omega) (by omega)]; omega)]
    cases k with
    | zero =>
      rw [q_untell0 hk, zbd_e, zlt_e, nI_1]
      exact ih (i + 1) h T 0 R hk (by omega) (by omega) W
    | succ k =>
      obtain ⟨f, e, T1, M1, a1, a2, a3, a4, a5, a6, a7, a8⟩ := W
      subst a5
      obtain ⟨h1, b1, b2, b3, b4, b5, b6, b7⟩ := q_untell a1 a2 (by omega) R hk a3 a4 a6 a7
      rw [b1, zbd_e, zlt_e, nI_1]
      have e12 := b7.1 12 (by decide) (by decide) (by decide) (by decide) (by decide) (by decide) (by decide)
      have e13 := b7.1 13 (by decide) (by decide) (by decide) (by decide) (by decide) (by decide) (by decide)
      obtain ⟨h', c1, c2, c3, c4, c5⟩ := ih (i + 1) h1 T1 k b2 b3 (by omega) (by omega) (by rw [e12, e13, b5, b6, b4]; exact a8)
      exact ⟨h', c1, c2, c3, c4, b7.trans c5⟩
theorem q_tells_r44 {E : zEv} {can : Nat → Nat → Bool} {fam : Nat → Nat} {si : Nat → Int32} {T0 : zTe} {M0 : Nat → Int32} {sn gn : Nat} (hs8 : sn ≤ 8) (hg : gn ≤ 8) (hsi : ∀ s, s < sn → si s = -1 ∨ ∃ i, i < gn ∧ si s = nI i) : ∀ n s h T v k, tC E can T h → h 38 6 = nI k → k ≤ s → s ≤ sn → sn < n + s → (∀ p, p < 256 → T.1 p + (sn - s) < 2 ^ 30) → (∀ i, i < gn → fam i < 6 ∧ h 8 i = nI (fam i)) → (∀ s, s < sn → h 44 s = si s) → trW E (h 12) (h 13) (h 42) (h 43) T0 M0 k T (h 40) → ∃ h' k', f_X1_merryOf_r44_5 n (nI sn) v (nI s) h = f_X1_merryOf_r44_49 zN (nI sn) (mry E can fam si sn (sn - s) s v T).1 0 h' ∧ k' ≤ sn ∧ h' 38 6 = nI k' ∧ tC E can (mry E can fam si sn (sn - s) s v T).2 h' ∧ trW E (h' 12) (h' 13) (h' 42) (h' 43) T0 M0 k' (mry E can fam si sn (sn - s) s v T).2 (h' 40) ∧ sK h h' := by
  intro n
  induction n with
  | zero => intro s h T v k _ _ h1 h2 h3; omega
  | succ n ih =>
    intro s h T v k R hk h1 h2 h3 hT hfam h10 W
    simp only [f_X1_merryOf_r44_5]
    by_cases hi : s = sn
    · subst hi
      rw [if_pos (Int32.le_refl _), Nat.sub_self]
      exact ⟨h, k, rfl, h1, hk, R, W, sK.refl h⟩
    rw [if_neg (by rw [n_le (by omega) (by omega)]; omega), zck_n (by omega) (by decide), n_cl (by omega), h10 s (by omega), nI_1]
    unfold f_X1_merryOf_r44_34
    have hn := nxt_lt (show s < sn by omega)
    have hcol : ∀ (K : Int32 → zR), (if nI sn ≤ nI (s + 1) then K 0 else K (nI (s + 1))) = K (nI (nxt sn s)) := by
      intro K
      unfold nxt
      by_cases c : s + 1 < sn
      · rw [if_neg (by rw [n_le (by omega) (by omega)]; omega), if_pos c]
      · rw [if_pos (by rw [n_le (by omega) (by omega)]; omega), if_neg c]; rfl
    rw [hcol (fun s0 => zck s0 8 (zbd (f_X1_tellBetween (si s) (h 44 s0.toNatClampNeg) h) fun r4 h5 => zlt (v + r4) fun y6 => zlt (nI s + 1) fun y7 => f_X1_merryOf_r44_5 n (nI sn) y6 y7 h5))]
    rw [zck_n (by omega) (by decide), n_cl (by omega), h10 _ hn]
    obtain ⟨h1, b1, b2, b3, b4⟩ := q_tellB R hk (by omega) (fun p hp => by have := hT p hp; omega) hg hfam (si s) (si (nxt sn s)) (hsi s (by omega)) (hsi _ hn)
    rw [b1, zbd_e, zlt_e, zlt_e, nI_1]
    obtain ⟨r, hr⟩ : ∃ r, sn - s = r + 1 := ⟨sn - s - 1, by omega⟩
    have hr' : r = sn - (s + 1) := by omega
    rw [hr, mry, hr']
    have e12 := b3.1 12 (by decide) (by decide) (by decide) (by decide) (by decide) (by decide) (by decide)
    have e13 := b3.1 13 (by decide) (by decide) (by decide) (by decide) (by decide) (by decide) (by decide)
    have e8 := b3.1 8 (by decide) (by decide) (by decide) (by decide) (by decide) (by decide) (by decide)
    have e10 := b3.1 44 (by decide) (by decide) (by decide) (by decide) (by decide) (by decide) (by decide)
    have hT' : ∀ p, p < 256 → (tlT E can fam T (si s) (si (nxt sn s))).1 p + (sn - (s + 1)) < 2 ^ 30 := fun p hp => by
      have h1 := hT p hp
      have h2 := tlT_b (E := E) (can := can) (fam := fam) (T := T) (x := si s) (y := si (nxt sn s)) p
      omega
    have step : ∀ k1, k1 ≤ s + 1 → h1 38 6 = nI k1 → trW E (h1 12) (h1 13) (h1 42) (h1 43) T0 M0 k1 (tlT E can fam T (si s) (si (nxt sn s))) (h1 40) → ∃ h' k', f_X1_merryOf_r44_5 n (nI sn) (v + tlV E can fam T (si s) (si (nxt sn s))) (nI (s + 1)) h1 = f_X1_merryOf_r44_49 zN (nI sn) (mry E can fam si sn (sn - (s + 1)) (s + 1) (v + tlV E can fam T (si s) (si (nxt sn s))) (tlT E can fam T (si s) (si (nxt sn s)))).1 0 h' ∧ k' ≤ sn ∧ h' 38 6 = nI k' ∧ tC E can (mry E can fam si sn (sn - (s + 1)) (s + 1) (v + tlV E can fam T (si s) (si (nxt sn s))) (tlT E can fam T (si s) (si (nxt sn s)))).2 h' ∧ trW E (h' 12) (h' 13) (h' 42) (h' 43) T0 M0 k' (mry E can fam si sn (sn - (s + 1)) (s + 1) (v + tlV E can fam T (si s) (si (nxt sn s))) (tlT E can fam T (si s) (si (nxt sn s)))).2 (h' 40) ∧ sK h h' := by
      intro k1 q1 q2 q3
      obtain ⟨h', k', c1, c2, c3, c4, c5, c6⟩ := ih (s + 1) h1 _ (v + tlV E can fam T (si s) (si (nxt sn s))) k1 b2 q2 q1 (by omega) (by omega) hT' (fun i hi => by rw [e8]; exact hfam i hi) (fun s hs => by rw [e10]; exact h10 s hs) q3
      exact ⟨h', k', c1, c2, c3, c4, c5, b3.trans c6⟩
    rcases b4 with ⟨d1, d2, d3, d4, d5⟩ | ⟨d1, d2, f, e, f1, f2, f3, f4, f5, f6⟩
    · refine step k (by omega) d2 ?_
      rw [e12, e13, d3, d4, d5]
      unfold tlT
      rw [if_pos d1]
      exact W
    · refine step (k + 1) (by omega) d2 ?_
      rw [e12, e13, f4, f5, f6]
      refine ⟨f, e, T, h 40, f1, f2, by rw [pk_us], by rw [pk_us], f3, rfl, R.2.1, ?_⟩
      exact trW.cong k T _ W (fun i hi => ⟨by rw [pk_un (by omega)], by rw [pk_un (by omega)]⟩)
theorem q_merry_r44 {E : zEv} {can : Nat → Nat → Bool} {T : zTe} {fam : Nat → Nat} {si : Nat → Int32} {sn gn : Nat} {h : zH} (hs8 : sn ≤ 8) (hg : gn ≤ 8) (hsi : ∀ s, s < sn → si s = -1 ∨ ∃ i, i < gn ∧ si s = nI i) (R : tC E can T h) (hk : h 38 6 = nI 0) (hT : ∀ p, p < 256 → T.1 p + sn < 2 ^ 30) (hfam : ∀ i, i < gn → fam i < 6 ∧ h 8 i = nI (fam i)) (h10 : ∀ s, s < sn → h 44 s = si s) : ∃ h', f_X1_merryOf_r44 (nI sn) h = some ((mry E can fam si sn sn 0 0 T).1, h') ∧ tC E can T h' ∧ h' 38 6 = nI 0 ∧ h' 40 = h 40 ∧ sK h h' := by
  unfold f_X1_merryOf_r44
  obtain ⟨h1, k, a1, a2, a3, a4, a5, a6⟩ := q_tells_r44 (E := E) (can := can) (T0 := T) (M0 := h 40) hs8 hg hsi zN 0 h T 0 0 R hk (by omega) (by omega) (by unfold zN; omega) (fun p hp => hT p hp) hfam h10 ⟨rfl, rfl⟩
  have a1 : f_X1_merryOf_r44_5 zN (nI sn) 0 0 h = f_X1_merryOf_r44_49 zN (nI sn) (mry E can fam si sn sn 0 0 T).1 0 h1 := a1
  rw [a1]
  obtain ⟨h', b1, b2, b3, b4, b5⟩ := q_untells_r44 hs8 (mry E can fam si sn sn 0 0 T).1 zN 0 h1 _ k a4 a3 (by omega) (by unfold zN; omega) a5
  exact ⟨h', b1, b2, b3, b4, a6.trans b5⟩
