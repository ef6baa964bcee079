/-! bounds of laughs -/
theorem cla_r (v : Int32) : ∃ y : Nat, y ≤ 999 ∧ cla v = nI y := by
  have h1 : nI 0 ≤ cla v ∧ cla v ≤ nI 999 := by
    unfold cla
    by_cases c : (999 : Int32) < v
    · rw [if_pos c, if_neg (show ¬ (999 : Int32) < 0 by decide)]
      exact ⟨by decide, by decide⟩
    · rw [if_neg c]
      by_cases d : v < 0
      · rw [if_pos d]; exact ⟨by decide, by decide⟩
      · rw [if_neg d]; exact ⟨Int32.not_lt.mp d, Int32.not_lt.mp c⟩
  rcases n_rng (cla v) 0 999 (by decide) with ⟨y, y1, y2, y3⟩ | ⟨-, e⟩
  · exact ⟨y, y2, y3⟩
  · exact (Eq.mp e h1).elim
theorem evL_r (F : Nat → Int32) : ∀ ls : List zLn, ∃ y : Nat, y ≤ 999 ∧ evL ls F = nI y := by
  intro ls
  induction ls with
  | nil => exact ⟨0, by omega, rfl⟩
  | cons x l ih =>
    obtain ⟨e, b⟩ := x
    cases b with
    | none => exact cla_r (e F)
    | some b =>
      show ∃ y : Nat, y ≤ 999 ∧ (if b F = 1 then cla (e F) else evL l F) = nI y
      split
      · exact cla_r (e F)
      · exact ih
theorem eV_r (E : zEv) (T : zTe) (f e : Nat) : ∃ y : Nat, y ≤ 999 ∧ eV E T f e = nI y := evL_r _ _
theorem tlV_r (E : zEv) (can : Nat → Nat → Bool) (fam : Nat → Nat) (T : zTe) (x y : Int32) : ∃ v : Nat, v ≤ 999 ∧ tlV E can fam T x y = nI v := by
  unfold tlV
  by_cases c : (tlG E can fam T x y).1 ≤ 0
  · rw [if_pos c]; exact ⟨0, by omega, rfl⟩
  · rw [if_neg c, (tlG_ok E can fam T x y c).2.2]; exact eV_r _ _ _ _
theorem mry_r (E : zEv) (can : Nat → Nat → Bool) (fam : Nat → Nat) (si : Nat → Int32) (sn : Nat) : ∀ r s v T, ∃ y : Nat, y ≤ v + 999 * r ∧ (mry E can fam si sn r s (nI v) T).1 = nI y := by
  intro r
  induction r with
  | zero => intro s v T; exact ⟨v, by omega, rfl⟩
  | succ r ih =>
    intro s v T
    unfold mry
    obtain ⟨u, u1, u2⟩ := tlV_r E can fam T (si s) (si (nxt sn s))
    rw [u2, n_add]
    obtain ⟨y, y1, y2⟩ := ih (s + 1) (v + u) (tlT E can fam T (si s) (si (nxt sn s)))
    exact ⟨y, by omega, y2⟩
theorem mry_0 (E : zEv) (can : Nat → Nat → Bool) (fam : Nat → Nat) (si : Nat → Int32) (sn : Nat) (hs : sn ≤ 8) (T : zTe) : ∃ y : Nat, y ≤ 7992 ∧ (mry E can fam si sn sn 0 0 T).1 = nI y := by
  obtain ⟨y, y1, y2⟩ := mry_r E can fam si sn sn 0 0 T
  exact ⟨y, by omega, y2⟩
/-- the state while places are changed in thought -/
def stI (E : zEv) (can : Nat → Nat → Bool) (T : zTe) (fam : Nat → Nat) (pl si w : Nat → Int32) (sn gn : Nat) (h g : zH) : Prop := tC E can T h ∧ tM E can T g ∧ h 38 6 = nI 0 ∧ h 7 3 = nI sn ∧ h 7 4 = nI gn ∧ (∀ i, i < gn → h 8 i = nI (fam i)) ∧ (∀ i, i < gn → h 9 i = pl i) ∧ (∀ s, s < sn → h 10 s = si s) ∧ g 101 = w ∧ ∀ i, i < gn → g 114 i = pl i
theorem stI.step {E : zEv} {can : Nat → Nat → Bool} {T : zTe} {fam : Nat → Nat} {pl si w : Nat → Int32} {sn gn : Nat} {h g h' g' : zH} (H : stI E can T fam pl si w sn gn h g) (R : tC E can T h') (o : okC h h') (k0 : h' 38 6 = nI 0) (gw : g' 101 = w) (g114 : g' 114 = g 114) : stI E can T fam pl si w sn gn h' g' := by
  obtain ⟨a1, a2, a3, a4, a5, a6, a7, a8, a9, a10⟩ := H
  have o7 := o.1 7 (by decide) (by decide) (by decide) (by decide) (by decide) (by decide) (by decide) (by decide) (by decide) (by decide)
  have o8 := o.1 8 (by decide) (by decide) (by decide) (by decide) (by decide) (by decide) (by decide) (by decide) (by decide) (by decide)
  have o9 := o.1 9 (by decide) (by decide) (by decide) (by decide) (by decide) (by decide) (by decide) (by decide) (by decide) (by decide)
  have o10 := o.1 10 (by decide) (by decide) (by decide) (by decide) (by decide) (by decide) (by decide) (by decide) (by decide) (by decide)
  refine ⟨R, a2.w (by rw [gw, a9]), k0, by rw [o7]; exact a4, by rw [o7]; exact a5, fun i hi => by rw [o8]; exact a6 i hi, fun i hi => by rw [o9]; exact a7 i hi, fun i hi => by rw [o10]; exact a8 i hi, gw, fun i hi => by rw [g114]; exact a10 i hi⟩
theorem q_chg77 {E : zEv} {can : Nat → Nat → Bool} {T : zTe} {fam : Nat → Nat} {pl si w : Nat → Int32} {sn gn : Nat} (k56 k31 : Int32 → Int32 → Int32 → Int32 → Int32 → Int32 → zH → zR) (x1 : Int32) (N a : Nat) (ha : a < gn) (hN : N ≤ 7992) (hnt : E.nt < 2 ^ 30) (hT : ∀ p, p < 256 → T.1 p + sn < 2 ^ 30) (h3 : 1 ≤ sn) (hs8 : sn ≤ 8) (hg8 : gn ≤ 8) (P : pS sn gn pl si) (hw0 : w 0 = nI sn) (hw4 : w 4 = nI gn) (hwf : ∀ i, i < gn → fam i < 6 ∧ w (180 + 2 * i) = nI (fam i)) (hwp : ∀ i, i < gn → w (181 + 2 * i) = pl i) : ∀ n m b M l o h g, stI E can T fam pl si w sn gn h g → a < b → b ≤ gn → gn < n + b → gn < m + b → N ≤ M → M ≤ 7992 → ∃ M' l' o' h' g', f_X11_change_77 k56 n x1 (nI N) (nI M) l o (nI a) (nI b) h = k56 x1 (nI N) (nI M') l' o' (nI (a + 1)) h' ∧ f_X12_change_48 k31 m x1 (nI N) (nI (M - N)) l o (nI a) (nI b) g = k31 x1 (nI N) (nI (M' - N)) l' o' (nI (a + 1)) g' ∧ N ≤ M' ∧ M' ≤ 7992 ∧ stI E can T fam pl si w sn gn h' g' ∧ okC h h' ∧ okG g g' := by
  intro n
  induction n with
  | zero => intro m b M l o h g _ _ h1 h2; omega
  | succ n ih =>
    intro m b M l o h g I hab h1 h2 h3' hM1 hM2
    obtain ⟨m, rfl⟩ : ∃ k, m = k + 1 := ⟨m - 1, by omega⟩
    have II := I
    obtain ⟨a1, a2, a3, a4, a5, a6, a7, a8, a9, a10⟩ := I
    simp only [f_X11_change_77, f_X12_change_48, a5, a9, hw4]
    by_cases hb : b = gn
    · subst hb
      rw [if_pos (Int32.le_refl _), if_pos (Int32.le_refl _), zlt_e, zlt_e, nI_1]
      exact ⟨M, l, o, h, g, rfl, rfl, hM1, hM2, II, okC.refl h, okG.refl g⟩
    have hle : ¬ nI gn ≤ nI b := by rw [n_le (by omega) (by omega)]; omega
    rw [if_neg hle, if_neg hle]
    unfold f_X11_merryChanged f_X11_merryChanged_36
    simp only [f_X11_change_119, f_X12_change_142, zlt_e, zst_e, nI_1]
    rw [n_cl (by omega), n_cl (by omega), zck_n (by omega) (by decide), zck_n (by omega) (by decide), zck_n (by omega) (by decide), zck_n (by omega) (by decide), a7 a (by omega), a7 b (by omega), a10 a (by omega), a10 b (by omega)]
    have skip : ∀ h2 g2, stI E can T fam pl si w sn gn h2 g2 → okC h h2 → okG g g2 → ∃ M' l' o' h' g', f_X11_change_77 k56 n x1 (nI N) (nI M) l o (nI a) (nI (b + 1)) h2 = k56 x1 (nI N) (nI M') l' o' (nI (a + 1)) h' ∧ f_X12_change_48 k31 m x1 (nI N) (nI (M - N)) l o (nI a) (nI (b + 1)) g2 = k31 x1 (nI N) (nI (M' - N)) l' o' (nI (a + 1)) g' ∧ N ≤ M' ∧ M' ≤ 7992 ∧ stI E can T fam pl si w sn gn h' g' ∧ okC h h' ∧ okG g g' := by
      intro h2 g2 I2 O2 G2
      obtain ⟨M', l', o', h', g', p1, p2, p3, p4, p5, p6, p7⟩ := ih m (b + 1) M l o h2 g2 I2 (by omega) (by omega) (by omega) (by omega) hM1 hM2
      exact ⟨M', l', o', h', g', p1, p2, p3, p4, p5, O2.trans p6, G2.trans p7⟩
    have m1le : (-1 : Int32) ≤ nI M := by
      rw [Int32.le_iff_toInt_le, nI_toInt (by omega)]
      have : (-1 : Int32).toInt = -1 := by decide
      omega
    rcases P.1 a (by omega) with z | ⟨x, x1', x2, x3⟩
    · rw [if_pos z, if_pos z, zbd_e, if_pos m1le]
      exact skip h g II (okC.refl h) (okG.refl g)
    have hz : ¬ pl a = -1 := by rw [x2, n_m1 (by omega)]; exact id
    rw [if_neg hz, if_neg hz]
    rcases P.1 b (by omega) with z | ⟨y, y1, y2, y3⟩
    · rw [if_pos z, if_pos z, zbd_e, if_pos m1le]
      exact skip h g II (okC.refl h) (okG.refl g)
    have hz2 : ¬ pl b = -1 := by rw [y2, n_m1 (by omega)]; exact id
    rw [if_neg hz2, if_neg hz2]
    have e8 : ∀ K, (zcc 8 8 (0 : Int32) (0 : Int32) (8 : Int32) K) = K := fun K => zcc_n (n0 := 8) (n1 := 8) (a := 0) (b := 0) (c := 8) (by decide) (by decide) (by decide) (by decide)
    rw [e8, x2, y2, zck_n (by omega) (by decide), zck_n (by omega) (by decide), n_cl (by omega), n_cl (by omega), q_sits a (by omega), zbd_e, zup_ne 114 (by decide), a10 a (by omega), x2, q_sits b (by omega), zbd_e]
    generalize hX : zup (zup (zcp h 10 44 0 0 8) 44 x (nI b)) 44 y (nI a) = X
    have xc : ∀ c, c ≠ 44 → X c = h c := fun c hc => by rw [← hX, zup_ne c hc, zup_ne c hc, zcp_ne c hc]
    have x44 : ∀ q, q < sn → X 44 q = upd (upd si x (nI b)) y (nI a) q := by
      intro q hq
      rw [← hX, zup_eq]
      by_cases c : q = y
      · subst c; rw [pk_us, pk_us]
      · rw [pk_un c, pk_un c, zup_eq]
        by_cases d : q = x
        · subst d; rw [pk_us, pk_us]
        · rw [pk_un d, pk_un d]
          have := zcp_n (h := h) (a := 10) (b := 44) (sp := 0) (dp := 0) (n := 8) (by decide) (by decide) (by decide) q
          rw [if_pos (by omega), show 0 + (q - 0) = q by omega, a8 q hq] at this
          exact this
    have PA := P.change hs8 hg8 (by omega : a < gn) (by omega : b < gn) (by omega) x1' y1 x2 y2
    have RX : tC E can T X := a1.eq44 xc
    obtain ⟨h2, c1, c2, c3, c4, c5⟩ := q_merry_r44 (fam := fam) hs8 hg8 (fun q hq => (PA.2 q hq).imp id (fun ⟨i, i1, i2, _⟩ => ⟨i, i1, i2⟩)) RX (by rw [xc 38 (by decide)]; exact a3) hT (fun i hi => ⟨(hwf i hi).1, by rw [xc 8 (by decide)]; exact a6 i hi⟩) x44
    rw [xc 7 (by decide), a4, c1, zbd_e, zbd_e]
    have hwj : ∀ j, j ≠ 181 + 2 * a → j ≠ 181 + 2 * b → zup (zup g 101 (181 + 2 * a) (nI y)) 101 (181 + 2 * b) (nI x) 101 j = w j := fun j hj hj2 => by rw [zup_eq, pk_un hj2, zup_eq, pk_un hj, a9]
    have G1 : tM E can T (zup (zup g 101 (181 + 2 * a) (nI y)) 101 (181 + 2 * b) (nI x)) := a2.seats (fun j hj => by rw [hwj j (by omega) (by omega), a9])
    have A1 : sA sn gn (upd (upd si x (nI b)) y (nI a)) fam (zup (zup g 101 (181 + 2 * a) (nI y)) 101 (181 + 2 * b) (nI x) 101) := PA.sA (by rw [hwj 0 (by omega) (by omega)]; exact hw0) h3 hs8 (by rw [hwj 4 (by omega) (by omega)]; exact hw4) hg8 (fun k hk => ⟨(hwf k hk).1, by rw [hwj _ (by omega) (by omega)]; exact (hwf k hk).2⟩) (fun k hk => by
      by_cases c : k = b
      · subst c; rw [zup_eq, pk_us, pk_us]
      · rw [pk_un c]
        by_cases d : k = a
        · subst d; rw [zup_eq, pk_un (by omega), zup_eq, pk_us, pk_us]
        · rw [hwj _ (by omega) (by omega), pk_un d]; exact hwp k hk)
    obtain ⟨g2, d1, d2⟩ := q_mnow G1 A1 hnt hT
    rw [d1, zbd_e]
    have g2_101 : g2 101 = zup (zup g 101 (181 + 2 * a) (nI y)) 101 (181 + 2 * b) (nI x) 101 := d2.1 101 (by decide) (by decide) (by decide) (by decide)
    have g2_114 : g2 114 = g 114 := by rw [d2.1 114 (by decide) (by decide) (by decide) (by decide), zup_ne 114 (by decide), zup_ne 114 (by decide)]
    obtain ⟨g3, f1, f2, f3⟩ := q_backSeats (g := g2) (gn := gn) (by rw [g2_101, hwj 4 (by omega) (by omega)]; exact hw4) hg8
    rw [f1, zbd_e]
    have g3w : g3 101 = w := by
      funext j
      rw [f3 j]
      by_cases c : 181 ≤ j ∧ j < 181 + 2 * gn ∧ j % 2 = 1
      · rw [if_pos c, g2_114, a10 _ (by omega), ← hwp _ (by omega), show 181 + 2 * ((j - 181) / 2) = j by omega]
      · rw [if_neg c, g2_101, hwj j (by omega) (by omega)]
    have OC : okC h h2 := by
      refine ⟨fun c z1 z2 z3 z4 z5 z6 z7 z8 z9 z10 => ?_, ?_, ?_⟩
      · rw [c5.1 c z1 z2 z3 z4 z5 z7 z8, xc c z9]
      · rw [c4, xc 40 (by decide)]
      · rw [c3, a3]
    have OG : okG g g3 := by
      refine ⟨by rw [g3w, a9], ?_, ?_, ?_, fun k hk => ?_⟩
      · rw [f2 102 (by decide), d2.1 102 (by decide) (by decide) (by decide) (by decide), zup_ne 102 (by decide), zup_ne 102 (by decide)]
      · rw [f2 103 (by decide), d2.1 103 (by decide) (by decide) (by decide) (by decide), zup_ne 103 (by decide), zup_ne 103 (by decide)]
      · rw [f2 107 (by decide), d2.1 107 (by decide) (by decide) (by decide) (by decide), zup_ne 107 (by decide), zup_ne 107 (by decide)]
      · rw [f2 100 (by decide), d2.2 k (by omega), zup_ne 100 (by decide), zup_ne 100 (by decide)]
    have I2 := II.step c2 OC c3 g3w (by rw [f2 114 (by decide), g2_114])
    obtain ⟨q, q1, q2⟩ := mry_0 E can fam (upd (upd si x (nI b)) y (nI a)) sn hs8 T
    rw [q2, zck_n (show b < 8 by omega) (by decide), zck_n (show a < 8 by omega) (by decide)]
    by_cases cq : q ≤ M
    · rw [if_pos (nI_le cq (by omega)), if_neg]
      · exact skip h2 g3 I2 OC OG
      · intro z
        have z := Int32.lt_iff_toInt_lt.mp z
        rw [nI_toInt (by omega), pk_sub_toInt (by omega) (by omega)] at z
        omega
    · rw [if_neg (by rw [n_le (by omega) (by omega)]; exact cq), n_sub (by omega), if_pos (nI_lt (by omega) (by omega))]
      obtain ⟨M', l', o', h', g', p1, p2, p3, p4, p5, p6, p7⟩ := ih m (b + 1) q (nI a) (nI b) h2 g3 I2 (by omega) (by omega) (by omega) (by omega) (by omega) q1
      exact ⟨M', l', o', h', g', p1, p2, p3, p4, p5, OC.trans p6, OG.trans p7⟩
theorem q_chg56 {E : zEv} {can : Nat → Nat → Bool} {T : zTe} {fam : Nat → Nat} {pl si w : Nat → Int32} {sn gn : Nat} (x1 N : Nat) (hx : x1 < 3) (hN : N ≤ 7992) (hnt : E.nt < 2 ^ 30) (hT : ∀ p, p < 256 → T.1 p + sn < 2 ^ 30) (h3 : 1 ≤ sn) (hs8 : sn ≤ 8) (hg8 : gn ≤ 8) (P : pS sn gn pl si) (hw0 : w 0 = nI sn) (hw4 : w 4 = nI gn) (hwf : ∀ i, i < gn → fam i < 6 ∧ w (180 + 2 * i) = nI (fam i)) (hwp : ∀ i, i < gn → w (181 + 2 * i) = pl i) : ∀ n m a M l o h g, stI E can T fam pl si w sn gn h g → a ≤ gn → gn < n + a → gn < m + a → N ≤ M → M ≤ 7992 → ∃ r h' g', f_X11_change_56 n (nI x1) (nI N) (nI M) l o (nI a) h = some (r, h') ∧ f_X12_change_31 m (nI x1) (nI N) (nI (M - N)) l o (nI a) g = some (r, g') ∧ okC h h' ∧ okG g g' := by
  intro n
  induction n with
  | zero => intro m a M l o h g _ h1 h2; omega
  | succ n ih =>
    intro m a M l o h g I h1 h2 h3' hM1 hM2
    obtain ⟨m, rfl⟩ : ∃ k, m = k + 1 := ⟨m - 1, by omega⟩
    have II := I
    obtain ⟨a1, a2, a3, a4, a5, a6, a7, a8, a9, a10⟩ := I
    simp only [f_X11_change_56, f_X12_change_31, a5, a9, hw4]
    by_cases hb : a = gn
    · subst hb
      rw [if_pos (Int32.le_refl _), if_pos (Int32.le_refl _)]
      by_cases hl : l = -1
      · rw [if_pos hl, if_pos hl]
        exact ⟨-1, h, g, rfl, rfl, okC.refl h, okG.refl g⟩
      rw [if_neg hl, if_neg hl, n_sub hM1]
      rcases (show x1 = 0 ∨ x1 = 1 ∨ x1 = 2 by omega) with rfl | rfl | rfl
      · exact ⟨l, h, g, rfl, rfl, okC.refl h, okG.refl g⟩
      · exact ⟨o, h, g, rfl, rfl, okC.refl h, okG.refl g⟩
      · exact ⟨nI (M - N), h, g, rfl, rfl, okC.refl h, okG.refl g⟩
    have hle : ¬ nI gn ≤ nI a := by rw [n_le (by omega) (by omega)]; omega
    rw [if_neg hle, if_neg hle, zlt_e, zlt_e, nI_1]
    obtain ⟨M', l', o', h', g', p1, p2, p3, p4, p5, p6, p7⟩ := q_chg77 (f_X11_change_56 n) (f_X12_change_31 m) (nI x1) N a (by omega) hN hnt hT h3 hs8 hg8 P hw0 hw4 hwf hwp zN zN (a + 1) M l o h g II (by omega) (by omega) (by unfold zN; omega) (by unfold zN; omega) hM1 hM2
    rw [p1, p2]
    obtain ⟨r, h'', g'', q1, q2, q3, q4⟩ := ih m (a + 1) M' l' o' h' g' p5 (by omega) (by omega) (by omega) p3 p4
    exact ⟨r, h'', g'', q1, q2, p6.trans q3, p7.trans q4⟩
theorem st_change : zst_change zRel := by
  intro h g a R
  unfold f_X11_change f_X12_change
  rw [q_below, q_in]
  rcases n_ix a 3 (by decide) with ⟨x1, hx, rfl⟩ | ⟨e1, e2⟩
  case inr =>
    have e1 : (0 ≤ a ∧ a < 3) = False := e1
    have e2 : (0 ≤ a ∧ a ≤ 2) = False := e2
    rw [i_neg (fun z => (Eq.mp e1 z).elim), i_neg (fun z => (Eq.mp e2 z).elim)]
    exact ⟨-1, h, g, rfl, rfl, R⟩
  have pa : (0 ≤ nI x1 ∧ nI x1 < 3) := v_lt hx (by decide)
  have pb : (0 ≤ nI x1 ∧ nI x1 ≤ 2) := v_le hx (by decide)
  rw [i_pos pa, i_pos pb, zbd_e, zbd_e, if_neg (show ¬ (1 : Int32) = 0 by decide), if_neg (show ¬ (1 : Int32) = 0 by decide)]
  obtain ⟨sn, gn, fam, t1, t2, t3, t4, t5, t6, t7, t8⟩ := R.1.1.sA
  have t4' := t4
  obtain ⟨w1, w2, hs8, w4, hg8, w6, w7⟩ := t4
  obtain ⟨E, T, qf, He, Ht, Hq, hd4, hnt, hT, Hm, hQ⟩ := R.1.env R.2.2.2.2.2
  have hTb : ∀ p, p < 256 → T.1 p + sn < 2 ^ 30 := fun p hp => by have := (hT p hp).1; omega
  obtain ⟨h1, b1, b2, b3⟩ := q_begin He Ht Hq hd4
  obtain ⟨g1, c1, c2, c3⟩ := q_laysSeats w4 hg8
  have P : pS sn gn (h 9) (h 10) := ⟨fun i hi => (t7 i hi).2, t8⟩
  have OG : okG g g1 := ⟨c2 101 (by decide), c2 102 (by decide), c2 103 (by decide), c2 107 (by decide), fun k _ => by rw [c2 100 (by decide)]⟩
  have h8 : h1 8 = h 8 := b3.1 8 (by decide) (by decide) (by decide)
  have h10 : h1 10 = h 10 := b3.1 10 (by decide) (by decide) (by decide)
  have h7 : h1 7 = h 7 := b3.1 7 (by decide) (by decide) (by decide)
  have k0 : h1 38 6 = nI 0 := by rw [b3.2 6 (by decide) (by decide)]; exact R.2.2.2.2.2.2
  obtain ⟨h2, d1, d2, d3, d4, d5⟩ := q_merry_r10 hs8 hg8 t6 b2 k0 hTb (fun i hi => by rw [h8]; exact t5 i hi) (fun s hs => by rw [h10])
  obtain ⟨g2, f1, f2⟩ := q_mnow (Hm.w (c2 101 (by decide))) (by rw [c2 101 (by decide)]; exact t4') (by omega) hTb
  rw [b1, zbd_e, h7, t1, d1, zbd_e, c1, zbd_e, f1, zbd_e]
  obtain ⟨N, N1, N2⟩ := mry_0 E (cnQ E qf) fam (h 10) sn hs8 T
  rw [N2]
  have OC : okC h h2 := b3.okC.trans (d5.okC d4 (by rw [d3, k0]))
  have OG2 : okG g g2 := OG.trans f2.okG
  have g2w : g2 101 = g 101 := OG2.1
  have I : stI E (cnQ E qf) T fam (h 9) (h 10) (g 101) sn gn h2 g2 := by
    have o7 := OC.1 7 (by decide) (by decide) (by decide) (by decide) (by decide) (by decide) (by decide) (by decide) (by decide) (by decide)
    have o8 := OC.1 8 (by decide) (by decide) (by decide) (by decide) (by decide) (by decide) (by decide) (by decide) (by decide) (by decide)
    have o9 := OC.1 9 (by decide) (by decide) (by decide) (by decide) (by decide) (by decide) (by decide) (by decide) (by decide) (by decide)
    have o10 := OC.1 10 (by decide) (by decide) (by decide) (by decide) (by decide) (by decide) (by decide) (by decide) (by decide) (by decide)
    refine ⟨d2, Hm.w g2w, d3, by rw [o7]; exact t1, by rw [o7]; exact t2, fun i hi => by rw [o8]; exact (t5 i hi).2, fun i hi => by rw [o9], fun i hi => by rw [o10], g2w, fun i hi => ?_⟩
    rw [f2.1 114 (by decide) (by decide) (by decide) (by decide), c3 i hi, (t7 i hi).1]
  obtain ⟨r, h', g', p1, p2, p3, p4⟩ := q_chg56 (E := E) (T := T) x1 N hx N1 (by omega) hTb w2 hs8 hg8 P w1 w4 w6 (fun i hi => ((t7 i hi).1).symm) zN zN 0 N (-1) (-1) h2 g2 I (by omega) (by unfold zN; omega) (by unfold zN; omega) (Nat.le_refl _) N1
  rw [Nat.sub_self] at p2
  exact ⟨r, h', g', p1, p2, R.okk (OC.trans p3) (OG2.trans p4)⟩
