/-! the reference: merry now -/
theorem pLw.w {sz : Nat} {ls : List zLn} {L St Nu w w' : Nat → Int32} (H : pLw sz ls L St Nu w) (hw : ∀ i, 1335 ≤ i → w' i = w i) : pLw sz ls L St Nu w' := by
  obtain ⟨a1, a2, a3, a4, a5, a6, a7⟩ := H
  refine ⟨a1, a2, a3, a4, by rw [hw _ (by omega)]; exact a5, a6, fun i x hx => (a7 i x hx).w ?_ hw⟩
  have := (List.getElem?_eq_some_iff.mp hx).1
  omega
theorem eM.w {E : zEv} {g g' : zH} (H : eM E g) (hw : ∀ j, (j = 1 ∨ j = 3 ∨ j = 5 ∨ (10 ≤ j ∧ j < 16) ∨ (20 ≤ j ∧ j < 180 ∧ j % 10 < 3) ∨ 1335 ≤ j) → g' 101 j = g 101 j) : eM E g' := by
  obtain ⟨a1, a2, a3, ⟨a4, a5⟩, a6, a7, L, St, Nu, a8⟩ := H
  refine ⟨a1, by rw [hw _ (by omega)]; exact a2, fun i hi => ?_, ⟨by rw [hw _ (by omega)]; exact a4, a5⟩, fun f hf => by rw [hw _ (by omega)]; exact a6 f hf, by rw [hw _ (by omega)]; exact a7, L, St, Nu, a8.w (fun i hi => hw i (by omega))⟩
  rw [hw _ (by omega), hw _ (by omega), hw _ (by omega)]
  exact a3 i hi
theorem mQ.w {E : zEv} {can : Nat → Nat → Bool} {g g' : zH} (hn : E.n ≤ 16) (H : mQ E can g) (hw : ∀ j, 20 ≤ j → j < 180 → g' 101 j = g 101 j) : mQ E can g' := by
  intro k hk f hf
  rw [hw _ (by omega) (by omega)]
  exact H k hk f hf
theorem q_isTold {g : zH} {f e : Nat} (hf : f < 16) (he : e < 16) (g23 : g 100 23 = nI f) (g24 : g 100 24 = nI e) : f_X12_isTold g = some (0, zup (zup g 101 (210 + (f * 16 + e)) (g 101 (210 + (f * 16 + e)) + 1)) 101 (466 + (f * 16 + e)) (g 101 5)) := by
  unfold f_X12_isTold
  simp only [zst_e]
  have z : ∀ k x, zup g 101 k x 100 = g 100 := fun k x => zup_ne 100 (by decide)
  simp only [z]
  rw [g23, g24]
  simp (disch := omega) only [l_210, l_466, l_16, n_mul, n_add, zck_n, n_cl]
  rw [show 210 + 16 * f + e = 210 + (f * 16 + e) by omega, show 466 + 16 * f + e = 466 + (f * 16 + e) by omega, show zup g 101 (210 + (f * 16 + e)) (g 101 (210 + (f * 16 + e)) + 1) 101 5 = g 101 5 from by rw [zup_eq, pk_un (by omega)]]
theorem tM.tell {E : zEv} {can : Nat → Nat → Bool} {T : zTe} {g : zH} (H : tM E can T g) {f e : Nat} (hf : f < 16) (he : e < 16) (hb : T.1 (f * 16 + e) + 1 < 2 ^ 30) (hnt : E.nt < 2 ^ 30) : tM E can (tT E T f e) (zup (zup g 101 (210 + (f * 16 + e)) (g 101 (210 + (f * 16 + e)) + 1)) 101 (466 + (f * 16 + e)) (g 101 5)) := by
  obtain ⟨a, b, c⟩ := H
  have hw : ∀ j, (j < 210 ∨ 722 ≤ j) → zup (zup g 101 (210 + (f * 16 + e)) (g 101 (210 + (f * 16 + e)) + 1)) 101 (466 + (f * 16 + e)) (g 101 5) 101 j = g 101 j := fun j hj => by rw [zup_eq, pk_un (by omega), zup_eq, pk_un (by omega)]
  refine ⟨a.w (fun j hj => hw j (by omega)), fun p hp => ?_, c.w a.1 (fun j h1 h2 => hw j (by omega))⟩
  obtain ⟨b1, b2, b3, b4⟩ := b p hp
  unfold tT
  rw [zup_eq]
  by_cases hpe : p = f * 16 + e
  · subst hpe
    simp only [if_true]
    refine ⟨hb, hnt, ?_, ?_⟩
    · rw [pk_un (by omega), zup_eq, pk_us, b3, nI_1]
    · rw [pk_us, if_neg (by omega)]
      exact a.2.2.2.2.2.1
  · simp only [if_neg hpe]
    refine ⟨b1, b2, ?_, ?_⟩
    · rw [pk_un (by omega), zup_eq, pk_un (by omega)]; exact b3
    · rw [pk_un (by omega), zup_eq, pk_un (by omega)]; exact b4
def sN (g g' : zH) : Prop := (∀ c, c ≠ 100 → c ≠ 104 → c ≠ 108 → c ≠ 109 → g' c = g c) ∧ ∀ k, (k < 23 ∨ 26 < k) → g' 100 k = g 100 k
theorem sN.refl (h : zH) : sN h h := ⟨fun _ _ _ _ _ => rfl, fun _ _ => rfl⟩
theorem sN.trans {h h' h'' : zH} (a : sN h h') (b : sN h' h'') : sN h h'' := ⟨fun c c1 c2 c3 c4 => (b.1 c c1 c2 c3 c4).trans (a.1 c c1 c2 c3 c4), fun k hk => (b.2 k hk).trans (a.2 k hk)⟩
theorem l_512 : (512 : Int32) = nI 512 := rfl
theorem q_mn2 : ∀ n i g, i ≤ 512 → 512 < n + i → (∀ k, k < i → g 104 k = g 101 (210 + k)) → ∃ g', f_X12_merryNow_2 n (nI i) g = f_X12_merryNow_35 zN 0 0 g' ∧ (∀ c, c ≠ 104 → g' c = g c) ∧ ∀ k, k < 512 → g' 104 k = g 101 (210 + k) := by
  intro n
  induction n with
  | zero => intro i g h1 h2; omega
  | succ n ih =>
    intro i g h1 h2 h3
    simp only [f_X12_merryNow_2]
    by_cases hi : i = 512
    · subst hi
      rw [if_pos (by decide)]
      exact ⟨g, rfl, fun c _ => rfl, h3⟩
    rw [if_neg (show ¬ (512 : Int32) ≤ nI i by rw [l_512, n_le (by omega) (by omega)]; omega)]
    simp (disch := omega) only [l_210, n_add, zck_n, n_cl, zst_e, zlt_e, nI_1]
    obtain ⟨g', e1, e2, e3⟩ := ih (i + 1) (zup g 104 i (g 101 (210 + i))) (by omega) (by omega) (fun k hk => by
      rw [zup_eq, zup_ne 101 (by decide)]
      by_cases hki : k = i
      · subst hki; rw [pk_us]
      · rw [pk_un hki]; exact h3 k (by omega))
    exact ⟨g', e1, fun c hc => by rw [e2 c hc, zup_ne c hc], fun k hk => by rw [e3 k hk, zup_ne 101 (by decide)]⟩
theorem q_mn75 (v : Int32) : ∀ n i g, i ≤ 512 → 512 < n + i → ∃ g', f_X12_merryNow_75 n v (nI i) g = some (v, g') ∧ (∀ c, c ≠ 101 → g' c = g c) ∧ ∀ j, g' 101 j = if 210 + i ≤ j ∧ j < 722 then g 104 (j - 210) else g 101 j := by
  intro n
  induction n with
  | zero => intro i g h1 h2; omega
  | succ n ih =>
    intro i g h1 h2
    simp only [f_X12_merryNow_75]
    by_cases hi : i = 512
    · subst hi
      rw [if_pos (by decide)]
      exact ⟨g, rfl, fun c _ => rfl, fun j => by rw [if_neg (by omega)]⟩
    rw [if_neg (show ¬ (512 : Int32) ≤ nI i by rw [l_512, n_le (by omega) (by omega)]; omega)]
    simp (disch := omega) only [l_210, n_add, zck_n, n_cl, zst_e, zlt_e, nI_1]
    obtain ⟨g', e1, e2, e3⟩ := ih (i + 1) (zup g 101 (210 + i) (g 104 i)) (by omega) (by omega)
    refine ⟨g', e1, fun c hc => by rw [e2 c hc, zup_ne c hc], fun j => ?_⟩
    rw [e3 j, zup_eq, zup_ne 104 (by decide)]
    by_cases hj : j = 210 + i
    · subst hj
      rw [if_neg (by omega), pk_us, if_pos (by omega), show 210 + i - 210 = i by omega]
    · rw [pk_un hj]
      by_cases hj2 : 210 + (i + 1) ≤ j ∧ j < 722
      · rw [if_pos hj2, if_pos (by omega)]
      · rw [if_neg hj2, if_neg (by omega)]
theorem q_mn35 {E : zEv} {can : Nat → Nat → Bool} {fam : Nat → Nat} {si : Nat → Int32} {sn gn : Nat} (hnt : E.nt < 2 ^ 30) : ∀ n s g T v, tM E can T g → sA sn gn si fam (g 101) → s ≤ sn → sn < n + s → (∀ p, p < 256 → T.1 p + (sn - s) < 2 ^ 30) → ∃ g', f_X12_merryNow_35 n v (nI s) g = f_X12_merryNow_75 zN (mry E can fam si sn (sn - s) s v T).1 0 g' ∧ (∀ c, c ≠ 100 → c ≠ 101 → c ≠ 108 → c ≠ 109 → g' c = g c) ∧ (∀ k, (k < 23 ∨ 26 < k) → g' 100 k = g 100 k) ∧ ∀ j, (j < 210 ∨ 722 ≤ j) → g' 101 j = g 101 j := by
  intro n
  induction n with
  | zero => intro s g T v _ _ h1 h2; omega
  | succ n ih =>
    intro s g T v R H h1 h2 hT
    have hs8 := H.2.2.1
    have hn16 := R.1.1
    simp only [f_X12_merryNow_35, H.1]
    by_cases hi : s = sn
    · subst hi
      rw [if_pos (Int32.le_refl _), Nat.sub_self]
      exact ⟨g, rfl, fun c _ _ _ _ => rfl, fun k _ => rfl, fun j _ => rfl⟩
    rw [if_neg (by rw [n_le (by omega) (by omega)]; omega)]
    obtain ⟨g1, b1, b2, b3⟩ := q_lays R H s (by omega)
    have okk := tlG_ok E can fam T (si s) (si (nxt sn s))
    obtain ⟨r, hr⟩ : ∃ r, sn - s = r + 1 := ⟨sn - s - 1, by omega⟩
    have hr' : r = sn - (s + 1) := by omega
    rw [b1, zbd_e, hr, mry, hr']
    unfold f_X12_merryNow_67
    simp only [zlt_e, nI_1]
    have hb := fun p => tlT_b (E := E) (can := can) (fam := fam) (T := T) (x := si s) (y := si (nxt sn s)) p
    unfold tlT at hb
    unfold tlV tlT
    have H1 : sA sn gn si fam (g1 101) := by rw [b2.1 101 (by decide) (by decide) (by decide)]; exact H
    by_cases c : (tlG E can fam T (si s) (si (nxt sn s))).1 ≤ 0
    · simp only [if_pos c] at hb ⊢
      rw [if_pos trivial, Int32.add_zero]
      obtain ⟨g', c1, c2, c3, c4⟩ := ih (s + 1) g1 T v (R.same b2) H1 (by omega) (by omega) (fun p hp => by have := hT p hp; omega)
      exact ⟨g', c1, fun c k1 k2 k3 k4 => by rw [c2 c k1 k2 k3 k4, b2.1 c k1 k3 k4], fun k hk => by rw [c3 k hk, b2.2 k hk], fun j hj => by rw [c4 j hj, b2.1 101 (by decide) (by decide) (by decide)]⟩
    · simp only [if_neg c] at hb ⊢
      obtain ⟨o1, o2, o3⟩ := okk c
      generalize tlG E can fam T (si s) (si (nxt sn s)) = G at *
      obtain ⟨w1, w2⟩ := b3
      obtain ⟨w3, w4, w5⟩ := w2.resolve_left (fun z => c (by rw [z]; decide))
      rw [if_neg (show ¬ (1 : Int32) = 0 by decide), w1, q_isTold (by omega) (by omega) w3 w4, zbd_e]
      have hT1 := hT (G.2.1 * 16 + G.2.2) (by omega)
      have R2 := (R.same b2).tell (f := G.2.1) (e := G.2.2) (by omega) (by omega) (by omega) hnt
      generalize hX : zup (zup g1 101 (210 + (G.2.1 * 16 + G.2.2)) (g1 101 (210 + (G.2.1 * 16 + G.2.2)) + 1)) 101 (466 + (G.2.1 * 16 + G.2.2)) (g1 101 5) = X at R2 ⊢
      have xw : ∀ j, (j < 210 ∨ 722 ≤ j) → X 101 j = g1 101 j := fun j hj => by rw [← hX, zup_eq, pk_un (by omega), zup_eq, pk_un (by omega)]
      have xc : ∀ c, c ≠ 101 → X c = g1 c := fun c hc => by rw [← hX, zup_ne c hc, zup_ne c hc]
      obtain ⟨g', c1, c2, c3, c4⟩ := ih (s + 1) X (tT E T G.2.1 G.2.2) (v + G.1) R2 (H1.w (xw 0 (by omega)) (xw 4 (by omega)) (fun j j1 j2 => xw j (by omega))) (by omega) (by omega) (fun p hp => by have h1 := hT p hp; have h2 := hb p; omega)
      exact ⟨g', c1, fun c k1 k2 k3 k4 => by rw [c2 c k1 k2 k3 k4, xc c k2, b2.1 c k1 k3 k4], fun k hk => by rw [c3 k hk, xc 100 (by decide), b2.2 k hk], fun j hj => by rw [c4 j hj, xw j hj, b2.1 101 (by decide) (by decide) (by decide)]⟩
theorem q_mnow {E : zEv} {can : Nat → Nat → Bool} {T : zTe} {fam : Nat → Nat} {si : Nat → Int32} {sn gn : Nat} {g : zH} (R : tM E can T g) (H : sA sn gn si fam (g 101)) (hnt : E.nt < 2 ^ 30) (hT : ∀ p, p < 256 → T.1 p + sn < 2 ^ 30) : ∃ g', f_X12_merryNow g = some ((mry E can fam si sn sn 0 0 T).1, g') ∧ sN g g' := by
  unfold f_X12_merryNow
  obtain ⟨g1, a1, a2, a3⟩ := q_mn2 zN 0 g (by omega) (by unfold zN; omega) (fun k hk => by omega)
  have a1 : f_X12_merryNow_2 zN 0 g = f_X12_merryNow_35 zN 0 0 g1 := a1
  have w1 : g1 101 = g 101 := a2 101 (by decide)
  obtain ⟨g2, b1, b2, b3, b4⟩ := q_mn35 hnt zN 0 g1 T 0 (R.w w1) (by rw [w1]; exact H) (by omega) (by have := H.2.2.1; unfold zN; omega) hT
  have b1 : f_X12_merryNow_35 zN 0 0 g1 = f_X12_merryNow_75 zN (mry E can fam si sn sn 0 0 T).1 0 g2 := b1
  obtain ⟨g', c1, c2, c3⟩ := q_mn75 (mry E can fam si sn sn 0 0 T).1 zN 0 g2 (by omega) (by unfold zN; omega)
  have c1 : f_X12_merryNow_75 zN (mry E can fam si sn sn 0 0 T).1 0 g2 = some ((mry E can fam si sn sn 0 0 T).1, g') := c1
  refine ⟨g', by rw [a1, b1, c1], fun c k1 k2 k3 k4 => ?_, fun k hk => by rw [c2 100 (by decide), b3 k hk, a2 100 (by decide)]⟩
  by_cases hc : c = 101
  · subst hc
    funext j
    rw [c3 j]
    by_cases hj : 210 + 0 ≤ j ∧ j < 722
    · rw [if_pos hj, b2 104 (by decide) (by decide) (by decide) (by decide), a3 _ (by omega), show 210 + (j - 210) = j by omega]
    · rw [if_neg hj, b4 j (by omega), w1]
  · rw [c2 c hc, b2 c k1 hc k3 k4, a2 c k2]
/-- after merriment in thought -/
theorem zRel.merry {h g h' g' : zH} (R : zRel h g) (hs : ∀ c, c ≠ 19 → c ≠ 21 → c ≠ 38 → c ≠ 39 → c ≠ 40 → c ≠ 41 → c ≠ 42 → c ≠ 43 → c ≠ 44 → c < 71 → h' c = h c) (h40 : h' 40 = h 40) (h38 : h' 38 6 = h 38 6) (sm : sN g g') : zRel h' g' := by
  refine R.cong (fun c hc => ?_) ?_ h38 ⟨sm.2 4 (by omega), sm.2 5 (by omega), sm.2 13 (by omega), sm.2 20 (by omega), sm.2 22 (by omega)⟩ (sm.1 101 (by decide) (by decide) (by decide) (by decide)) (sm.1 102 (by decide) (by decide) (by decide) (by decide)) (sm.1 103 (by decide) (by decide) (by decide) (by decide)) (sm.1 107 (by decide) (by decide) (by decide) (by decide))
  · obtain ⟨z0, z1, z2, z3, z4, z5, z6, z7, z8, z9⟩ := zRc_ne hc
    by_cases e : c = 40
    · subst e; exact h40
    · exact hs c z1 z2 z3 z4 e z5 z6 z7 z8 z9
  · rw [hs 0 (by decide) (by decide) (by decide) (by decide) (by decide) (by decide) (by decide) (by decide) (by decide) (by decide)]
theorem st_merry : zst_merry zRel := by
  intro h g R
  obtain ⟨sn, gn, fam, t1, t2, t3, t4, t5, t6, t7⟩ := R.1.1.sA
  have hs8 := t4.2.2.1
  have hg8 := t4.2.2.2.2.1
  obtain ⟨E, T, qf, He, Ht, Hq, hd4, hnt, hT, Hm, hQ⟩ := R.1.env R.2.2.2.2.2
  obtain ⟨h1, b1, b2, b3⟩ := q_begin He Ht Hq hd4
  have hTb : ∀ p, p < 256 → T.1 p + sn < 2 ^ 30 := fun p hp => by have := (hT p hp).1; omega
  have h8 : h1 8 = h 8 := b3.1 8 (by decide) (by decide) (by decide)
  have h10 : h1 10 = h 10 := b3.1 10 (by decide) (by decide) (by decide)
  have h7 : h1 7 = h 7 := b3.1 7 (by decide) (by decide) (by decide)
  have k0 : h1 38 6 = nI 0 := by rw [b3.2 6 (by decide) (by decide)]; exact R.2.2.2.2.2.2
  obtain ⟨h', c1, c2, c3, c4, c5⟩ := q_merry_r10 hs8 hg8 t6 b2 k0 hTb (fun i hi => by rw [h8]; exact t5 i hi) (fun s hs => by rw [h10])
  obtain ⟨g', d1, d2⟩ := q_mnow Hm t4 (by omega) hTb
  refine ⟨(mry E (cnQ E qf) fam (h 10) sn sn 0 0 T).1, h', g', ?_, ?_, R.merry ?_ ?_ ?_ d2⟩
  · unfold f_X11_merry
    rw [b1, zbd_e, h7, t1, c1, zbd_e]
  · unfold f_X12_merry
    rw [d1, zbd_e]
  · intro c z1 z2 z3 z4 z5 z6 z7 z8 z9 z10
    rw [c5.1 c z1 z2 z3 z4 z5 z7 z8, b3.1 c z3 z4 z6]
  · rw [c4, b3.1 40 (by decide) (by decide) (by decide)]
  · rw [c3]; exact R.2.2.2.2.2.2.symm
