/-! rows of sitters, changed in thought -/
theorem zcc_n {n0 n1 a b c : Nat} {K : zR} (h1 : a + c ≤ n0) (h2 : b + c ≤ n1) (h3 : n0 < 2 ^ 30) (h4 : n1 < 2 ^ 30) : zcc n0 n1 (nI a) (nI b) (nI c) K = K := by
  unfold zcc
  rw [if_neg]
  rw [n_neg (by omega), n_neg (by omega), n_neg (by omega), n_cl (by omega), n_cl (by omega), n_cl (by omega)]
  simp only [false_or]
  omega
theorem zcp_n {h : zH} {a b sp dp n : Nat} (h1 : sp < 2 ^ 30) (h2 : dp < 2 ^ 30) (h3 : n < 2 ^ 30) (j : Nat) : zcp h a b (nI sp) (nI dp) (nI n) b j = if dp ≤ j ∧ j < dp + n then h a (sp + (j - dp)) else h b j := by
  rw [zcp_eq, n_cl (by omega), n_cl (by omega), n_cl (by omega)]
  rfl
def pS (sn gn : Nat) (pl si : Nat → Int32) : Prop := (∀ i, i < gn → pl i = -1 ∨ ∃ s, s < sn ∧ pl i = nI s ∧ si s = nI i) ∧ ∀ s, s < sn → si s = -1 ∨ ∃ i, i < gn ∧ si s = nI i ∧ pl i = nI s
theorem pS.inv {sn gn : Nat} {pl si : Nat → Int32} (hs : sn ≤ 8) (H : pS sn gn pl si) {i s : Nat} (hi : i < gn) (h : s < 2 ^ 30) (e : pl i = nI s) : s < sn ∧ si s = nI i := by
  rcases H.1 i hi with z | ⟨s', z1, z2, z3⟩
  · rw [z, n_m1' (by omega)] at e; exact e.elim
  · rw [z2, n_eq (by omega) (by omega)] at e; subst e; exact ⟨z1, z3⟩
theorem pS.sA {sn gn : Nat} {pl si : Nat → Int32} {fam : Nat → Nat} {w : Nat → Int32} (H : pS sn gn pl si) (h0 : w 0 = nI sn) (h1 : 1 ≤ sn) (hs : sn ≤ 8) (h4 : w 4 = nI gn) (hg : gn ≤ 8) (hf : ∀ i, i < gn → fam i < 6 ∧ w (180 + 2 * i) = nI (fam i)) (hp : ∀ i, i < gn → w (181 + 2 * i) = pl i) : sA sn gn si fam w := by
  refine ⟨h0, h1, hs, h4, hg, hf, fun s hs' => ?_⟩
  rcases H.2 s hs' with z | ⟨i, i1, i2, i3⟩
  · refine Or.inl ⟨z, fun i hi e => ?_⟩
    have := (H.inv hs hi (by omega) ((hp i hi).symm.trans e)).2
    rw [z, n_m1' (by omega)] at this
    exact this
  · refine Or.inr ⟨i, i1, i2, by rw [hp i i1]; exact i3, fun k hk e => ?_⟩
    have := (H.inv hs (by omega : k < gn) (by omega) ((hp k (by omega)).symm.trans e)).2
    rw [i2, n_eq (by omega) (by omega)] at this
    omega
theorem pS.away {sn gn : Nat} {pl si : Nat → Int32} (hs : sn ≤ 8) (hg : gn ≤ 8) (H : pS sn gn pl si) {i s : Nat} (hi : i < gn) (hsn : s < sn) (e : pl i = nI s) : pS sn gn (upd pl i (-1)) (upd si s (-1)) := by
  have e2 := (H.inv hs hi (by omega) e).2
  refine ⟨fun k hk => ?_, fun q hq => ?_⟩
  · by_cases c : k = i
    · subst c; rw [pk_us]; exact Or.inl rfl
    · rw [pk_un c]
      rcases H.1 k hk with z | ⟨s', z1, z2, z3⟩
      · exact Or.inl z
      · refine Or.inr ⟨s', z1, z2, ?_⟩
        rw [pk_un]
        · exact z3
        · intro z; subst z
          rw [e2, n_eq (by omega) (by omega)] at z3
          omega
  · by_cases c : q = s
    · subst c; rw [pk_us]; exact Or.inl rfl
    · rw [pk_un c]
      rcases H.2 q hq with z | ⟨k, k1, k2, k3⟩
      · exact Or.inl z
      · refine Or.inr ⟨k, k1, k2, ?_⟩
        rw [pk_un]
        · exact k3
        · intro z; subst z
          rw [e, n_eq (by omega) (by omega)] at k3
          omega
theorem pS.change {sn gn : Nat} {pl si : Nat → Int32} (hs : sn ≤ 8) (hg : gn ≤ 8) (H : pS sn gn pl si) {a b x y : Nat} (ha : a < gn) (hb : b < gn) (hab : a ≠ b) (hx : x < sn) (hy : y < sn) (ex : pl a = nI x) (ey : pl b = nI y) : pS sn gn (upd (upd pl a (nI y)) b (nI x)) (upd (upd si x (nI b)) y (nI a)) := by
  have e1 := (H.inv hs ha (by omega) ex).2
  have e2 := (H.inv hs hb (by omega) ey).2
  have hxy : x ≠ y := by
    intro z; subst z
    rw [e1, n_eq (by omega) (by omega)] at e2
    exact hab e2
  refine ⟨fun k hk => ?_, fun q hq => ?_⟩
  · by_cases c : k = b
    · subst c; rw [pk_us]
      exact Or.inr ⟨x, hx, rfl, by rw [pk_un hxy, pk_us]⟩
    · rw [pk_un c]
      by_cases d : k = a
      · subst d; rw [pk_us]
        exact Or.inr ⟨y, hy, rfl, by rw [pk_us]⟩
      · rw [pk_un d]
        rcases H.1 k hk with z | ⟨s', z1, z2, z3⟩
        · exact Or.inl z
        · refine Or.inr ⟨s', z1, z2, ?_⟩
          rw [pk_un, pk_un]
          · exact z3
          · intro z; subst z
            rw [e1, n_eq (by omega) (by omega)] at z3
            omega
          · intro z; subst z
            rw [e2, n_eq (by omega) (by omega)] at z3
            omega
  · by_cases c : q = y
    · subst c; rw [pk_us]
      exact Or.inr ⟨a, ha, rfl, by rw [pk_un hab, pk_us]⟩
    · rw [pk_un c]
      by_cases d : q = x
      · subst d; rw [pk_us]
        exact Or.inr ⟨b, hb, rfl, by rw [pk_us]⟩
      · rw [pk_un d]
        rcases H.2 q hq with z | ⟨k, k1, k2, k3⟩
        · exact Or.inl z
        · refine Or.inr ⟨k, k1, k2, ?_⟩
          rw [pk_un, pk_un]
          · exact k3
          · intro z; subst z
            rw [ex, n_eq (by omega) (by omega)] at k3
            omega
          · intro z; subst z
            rw [ey, n_eq (by omega) (by omega)] at k3
            omega
def okC (h h' : zH) : Prop := (∀ c, c ≠ 19 → c ≠ 21 → c ≠ 38 → c ≠ 39 → c ≠ 40 → c ≠ 41 → c ≠ 42 → c ≠ 43 → c ≠ 44 → c < 71 → h' c = h c) ∧ h' 40 = h 40 ∧ h' 38 6 = h 38 6
def okG (g g' : zH) : Prop := g' 101 = g 101 ∧ g' 102 = g 102 ∧ g' 103 = g 103 ∧ g' 107 = g 107 ∧ ∀ k, k < 23 → g' 100 k = g 100 k
theorem zRel.okk {h g h' g' : zH} (R : zRel h g) (a : okC h h') (b : okG g g') : zRel h' g' := by
  refine R.cong (fun c hc => ?_) ?_ a.2.2 ⟨b.2.2.2.2 4 (by omega), b.2.2.2.2 5 (by omega), b.2.2.2.2 13 (by omega), b.2.2.2.2 20 (by omega), b.2.2.2.2 22 (by omega)⟩ b.1 b.2.1 b.2.2.1 b.2.2.2.1
  · obtain ⟨z0, z1, z2, z3, z4, z5, z6, z7, z8, z9⟩ := zRc_ne hc
    by_cases e : c = 40
    · subst e; exact a.2.1
    · exact a.1 c z1 z2 z3 z4 e z5 z6 z7 z8 z9
  · rw [a.1 0 (by decide) (by decide) (by decide) (by decide) (by decide) (by decide) (by decide) (by decide) (by decide) (by decide)]
theorem okC.refl (h : zH) : okC h h := ⟨fun _ _ _ _ _ _ _ _ _ _ _ => rfl, rfl, rfl⟩
theorem okC.trans {h h' h'' : zH} (a : okC h h') (b : okC h' h'') : okC h h'' := ⟨fun c c1 c2 c3 c4 c5 c6 c7 c8 c9 c10 => (b.1 c c1 c2 c3 c4 c5 c6 c7 c8 c9 c10).trans (a.1 c c1 c2 c3 c4 c5 c6 c7 c8 c9 c10), b.2.1.trans a.2.1, b.2.2.trans a.2.2⟩
theorem bC.okC {h h' : zH} (a : bC h h') : okC h h' := ⟨fun c _ _ c3 c4 _ c6 _ _ _ _ => a.1 c c3 c4 c6, a.1 40 (by decide) (by decide) (by decide), a.2 6 (by decide) (by decide)⟩
theorem sK.okC {h h' : zH} (a : sK h h') (h40 : h' 40 = h 40) (h38 : h' 38 6 = h 38 6) : okC h h' := ⟨fun c c1 c2 c3 c4 c5 _ c7 c8 _ _ => a.1 c c1 c2 c3 c4 c5 c7 c8, h40, h38⟩
theorem okG.refl (g : zH) : okG g g := ⟨rfl, rfl, rfl, rfl, fun _ _ => rfl⟩
theorem okG.trans {h h' h'' : zH} (a : okG h h') (b : okG h' h'') : okG h h'' := ⟨b.1.trans a.1, b.2.1.trans a.2.1, b.2.2.1.trans a.2.2.1, b.2.2.2.1.trans a.2.2.2.1, fun k hk => (b.2.2.2.2 k hk).trans (a.2.2.2.2 k hk)⟩
theorem sN.okG {g g' : zH} (a : sN g g') : okG g g' := ⟨a.1 101 (by decide) (by decide) (by decide) (by decide), a.1 102 (by decide) (by decide) (by decide) (by decide), a.1 103 (by decide) (by decide) (by decide) (by decide), a.1 107 (by decide) (by decide) (by decide) (by decide), fun k hk => a.2 k (by omega)⟩
/-- the reference remembers who sat where -/
theorem q_laysSeats {g : zH} {gn : Nat} (h4 : g 101 4 = nI gn) (hg : gn ≤ 8) : ∃ g', f_X12_laysSeats g = some (0, g') ∧ (∀ c, c ≠ 114 → g' c = g c) ∧ ∀ i, i < gn → g' 114 i = g 101 (181 + 2 * i) := by
  have loop : ∀ n i g, g 101 4 = nI gn → i ≤ gn → gn < n + i → (∀ k, k < i → g 114 k = g 101 (181 + 2 * k)) → ∃ g', f_X12_laysSeats_2 n (nI i) g = some (0, g') ∧ (∀ c, c ≠ 114 → g' c = g c) ∧ ∀ i, i < gn → g' 114 i = g 101 (181 + 2 * i) := by
    intro n
    induction n with
    | zero => intro i g _ h1 h2; omega
    | succ n ih =>
      intro i g h4 h1 h2 h3
      simp only [f_X12_laysSeats_2, h4]
      by_cases hi : i = gn
      · subst hi
        rw [if_pos (Int32.le_refl _)]
        exact ⟨g, rfl, fun c _ => rfl, h3⟩
      rw [if_neg (by rw [n_le (by omega) (by omega)]; omega), q_og1 i g (by omega), zbd_e, zck_n (by omega) (by decide), n_cl (by omega), zst_e, zlt_e, nI_1]
      obtain ⟨g', e1, e2, e3⟩ := ih (i + 1) (zup g 114 i (g 101 (181 + 2 * i))) (by rw [zup_ne 101 (by decide)]; exact h4) (by omega) (by omega) (fun k hk => by
        rw [zup_eq, zup_ne 101 (by decide)]
        by_cases c : k = i
        · subst c; rw [pk_us]
        · rw [pk_un c]; exact h3 k (by omega))
      exact ⟨g', e1, fun c hc => by rw [e2 c hc, zup_ne c hc], fun k hk => by rw [e3 k hk, zup_ne 101 (by decide)]⟩
  exact loop zN 0 g h4 (by omega) (by unfold zN; omega) (fun k hk => by omega)
theorem q_backSeats {g : zH} {gn : Nat} (h4 : g 101 4 = nI gn) (hg : gn ≤ 8) : ∃ g', f_X12_backToSeats g = some (0, g') ∧ (∀ c, c ≠ 101 → g' c = g c) ∧ ∀ j, g' 101 j = if 181 ≤ j ∧ j < 181 + 2 * gn ∧ j % 2 = 1 then g 114 ((j - 181) / 2) else g 101 j := by
  have loop : ∀ n i g, g 101 4 = nI gn → i ≤ gn → gn < n + i → ∃ g', f_X12_backToSeats_2 n (nI i) g = some (0, g') ∧ (∀ c, c ≠ 101 → g' c = g c) ∧ ∀ j, g' 101 j = if 181 + 2 * i ≤ j ∧ j < 181 + 2 * gn ∧ j % 2 = 1 then g 114 ((j - 181) / 2) else g 101 j := by
    intro n
    induction n with
    | zero => intro i g _ h1 h2; omega
    | succ n ih =>
      intro i g h4 h1 h2
      simp only [f_X12_backToSeats_2, h4]
      by_cases hi : i = gn
      · subst hi
        rw [if_pos (Int32.le_refl _)]
        exact ⟨g, rfl, fun c _ => rfl, fun j => by rw [if_neg (by omega)]⟩
      rw [if_neg (by rw [n_le (by omega) (by omega)]; omega), zck_n (by omega) (by decide), n_cl (by omega), q_sits i (by omega), zbd_e, zlt_e, nI_1]
      obtain ⟨g', e1, e2, e3⟩ := ih (i + 1) (zup g 101 (181 + 2 * i) (g 114 i)) (by rw [zup_eq, pk_un (by omega)]; exact h4) (by omega) (by omega)
      refine ⟨g', e1, fun c hc => by rw [e2 c hc, zup_ne c hc], fun j => ?_⟩
      rw [e3 j, zup_eq, zup_ne 114 (by decide)]
      by_cases c : j = 181 + 2 * i
      · subst c
        rw [if_neg (by omega), pk_us, if_pos (by omega), show (181 + 2 * i - 181) / 2 = i by omega]
      · rw [pk_un c]
        by_cases d : 181 + 2 * (i + 1) ≤ j ∧ j < 181 + 2 * gn ∧ j % 2 = 1
        · rw [if_pos d, if_pos (by omega)]
        · rw [if_neg d, if_neg (by omega)]
  exact loop zN 0 g h4 (by omega) (by unfold zN; omega)
theorem tC.eq44 {E : zEv} {can : Nat → Nat → Bool} {T : zTe} {h h' : zH} (H : tC E can T h) (hc : ∀ c, c ≠ 44 → h' c = h c) : tC E can T h' := by
  obtain ⟨a, b, c, d⟩ := H
  refine ⟨a.same (fun c hc' => hc c (by omega)), b.same (hc 12 (by decide)) (hc 13 (by decide)) (hc 40 (by decide)), ?_, d.same (hc 41 (by decide)) (by rw [hc 38 (by decide)]) (by rw [hc 38 (by decide)])⟩
  intro f e q1 q2
  rw [hc 39 (by decide)]
  exact c f e q1 q2
theorem tM.seats {E : zEv} {can : Nat → Nat → Bool} {T : zTe} {g g' : zH} (H : tM E can T g) (hw : ∀ j, (j < 180 ∧ j ≠ 0 ∧ j ≠ 4) ∨ 196 ≤ j → g' 101 j = g 101 j) : tM E can T g' := by
  obtain ⟨a, b, c⟩ := H
  refine ⟨a.w (fun j hj => hw j (by omega)), fun p hp => ?_, c.w a.1 (fun j h1 h2 => hw j (by omega))⟩
  rw [hw _ (by omega), hw _ (by omega)]
  exact b p hp
theorem q_away {E : zEv} {can : Nat → Nat → Bool} {T : zTe} {fam : Nat → Nat} {pl si w : Nat → Int32} {sn gn : Nat} (v : Int32) (hnt : E.nt < 2 ^ 30) (hT : ∀ p, p < 256 → T.1 p + sn < 2 ^ 30) (h3 : 1 ≤ sn) (hs8 : sn ≤ 8) (hg8 : gn ≤ 8) (P : pS sn gn pl si) (hw0 : w 0 = nI sn) (hw4 : w 4 = nI gn) (hwf : ∀ i, i < gn → fam i < 6 ∧ w (180 + 2 * i) = nI (fam i)) (hwp : ∀ i, i < gn → w (181 + 2 * i) = pl i) : ∀ n m i S h g, tC E can T h → tM E can T g → h 38 6 = nI 0 → h 7 3 = nI sn → h 7 4 = nI gn → (∀ i, i < gn → h 8 i = nI (fam i)) → (∀ i, i < gn → h 9 i = pl i) → (∀ s, s < sn → h 10 s = si s) → g 101 = w → (∀ i, i < gn → g 114 i = pl i) → i ≤ gn → gn < n + i → gn < m + i → ∃ r h' g', f_X11_away_20 n v S (nI i) h = some (r, h') ∧ f_X12_away_8 m v S (nI i) g = some (r, g') ∧ okC h h' ∧ okG g g' := by
  intro n
  induction n with
  | zero => intro m i S h g _ _ _ _ _ _ _ _ _ _ h1 h2; omega
  | succ n ih =>
    intro m i S h g R G k0 h73 h74 h8 h9 h10 gw g114 h1 h2 h3'
    obtain ⟨m, rfl⟩ : ∃ k, m = k + 1 := ⟨m - 1, by omega⟩
    simp only [f_X11_away_20, f_X12_away_8, h74, gw, hw4]
    by_cases hi : i = gn
    · subst hi
      rw [if_pos (Int32.le_refl _), if_pos (Int32.le_refl _)]
      exact ⟨S, h, g, rfl, rfl, okC.refl h, okG.refl g⟩
    have hle : ¬ nI gn ≤ nI i := by rw [n_le (by omega) (by omega)]; omega
    rw [if_neg hle, if_neg hle, zck_n (by omega) (by decide), zck_n (by omega) (by decide), n_cl (by omega), zlt_e, h9 i (by omega), g114 i (by omega)]
    simp only [f_X11_away_93, f_X12_away_66, f_X12_away_53, zlt_e, zst_e, nI_1]
    rcases P.1 i (by omega) with z | ⟨s, s1, s2, s3⟩
    · rw [if_pos z, if_pos z]
      exact ih m (i + 1) S h g R G k0 h73 h74 h8 h9 h10 gw g114 (by omega) (by omega) (by omega)
    have hz : ¬ pl i = -1 := by rw [s2, n_m1 (by omega)]; exact id
    rw [if_neg hz, if_neg hz, s2]
    have e8 : (zcc 8 8 (0 : Int32) (0 : Int32) (8 : Int32) = fun K => K) := by
      funext K
      exact zcc_n (n0 := 8) (n1 := 8) (a := 0) (b := 0) (c := 8) (by decide) (by decide) (by decide) (by decide)
    rw [e8, zck_n (by omega) (by decide), n_cl (by omega), q_sits i (by omega), zbd_e]
    -- the row
    generalize hX : zup (zcp h 10 44 0 0 8) 44 s (-1) = X
    have xc : ∀ c, c ≠ 44 → X c = h c := fun c hc => by rw [← hX, zup_ne c hc, zcp_ne c hc]
    have x44 : ∀ q, q < sn → X 44 q = upd si s (-1) q := by
      intro q hq
      rw [← hX, zup_eq]
      by_cases c : q = s
      · subst c; rw [pk_us, pk_us]
      · rw [pk_un c, pk_un c]
        have := zcp_n (h := h) (a := 10) (b := 44) (sp := 0) (dp := 0) (n := 8) (by decide) (by decide) (by decide) q
        rw [if_pos (by omega), show 0 + (q - 0) = q by omega, h10 q hq] at this
        exact this
    have PA := P.away hs8 hg8 (by omega : i < gn) s1 s2
    have RX : tC E can T X := R.eq44 xc
    obtain ⟨h2, c1, c2, c3, c4, c5⟩ := q_merry_r44 (fam := fam) hs8 hg8 (fun q hq => (PA.2 q hq).imp id (fun ⟨i, i1, i2, _⟩ => ⟨i, i1, i2⟩)) RX (by rw [xc 38 (by decide)]; exact k0) hT (fun i hi => ⟨(hwf i hi).1, by rw [xc 8 (by decide)]; exact h8 i hi⟩) x44
    rw [xc 7 (by decide), h73, c1, zbd_e]
    have hwj : ∀ j, j ≠ 181 + 2 * i → zup g 101 (181 + 2 * i) (-1) 101 j = w j := fun j hj => by rw [zup_eq, pk_un hj, gw]
    have G1 : tM E can T (zup g 101 (181 + 2 * i) (-1)) := G.seats (fun j hj => by rw [hwj j (by omega), gw])
    have A1 : sA sn gn (upd si s (-1)) fam (zup g 101 (181 + 2 * i) (-1) 101) := PA.sA (by rw [hwj 0 (by omega)]; exact hw0) h3 hs8 (by rw [hwj 4 (by omega)]; exact hw4) hg8 (fun k hk => ⟨(hwf k hk).1, by rw [hwj _ (by omega)]; exact (hwf k hk).2⟩) (fun k hk => by
      by_cases c : k = i
      · subst c; rw [zup_eq, pk_us, pk_us]
      · rw [hwj _ (by omega), pk_un c]; exact hwp k hk)
    obtain ⟨g2, d1, d2⟩ := q_mnow G1 A1 hnt hT
    rw [d1, zbd_e]
    have g2_101 : g2 101 = zup g 101 (181 + 2 * i) (-1) 101 := d2.1 101 (by decide) (by decide) (by decide) (by decide)
    have g2_114 : g2 114 = g 114 := by rw [d2.1 114 (by decide) (by decide) (by decide) (by decide), zup_ne 114 (by decide)]
    have g3w : zup g2 101 (181 + 2 * i) (pl i) 101 = w := by
      rw [zup_eq, g2_101]
      funext j
      by_cases c : j = 181 + 2 * i
      · subst c; rw [pk_us, hwp i (by omega)]
      · rw [pk_un c, hwj j c]
    have OC : okC h h2 := by
      refine ⟨fun c z1 z2 z3 z4 z5 z6 z7 z8 z9 z10 => ?_, ?_, ?_⟩
      · rw [c5.1 c z1 z2 z3 z4 z5 z7 z8, xc c z9]
      · rw [c4, xc 40 (by decide)]
      · rw [c3, k0]
    have OG : okG g (zup g2 101 (181 + 2 * i) (pl i)) := by
      refine ⟨by rw [g3w, gw], ?_, ?_, ?_, fun k hk => ?_⟩
      · rw [zup_ne 102 (by decide), d2.1 102 (by decide) (by decide) (by decide) (by decide), zup_ne 102 (by decide)]
      · rw [zup_ne 103 (by decide), d2.1 103 (by decide) (by decide) (by decide) (by decide), zup_ne 103 (by decide)]
      · rw [zup_ne 107 (by decide), d2.1 107 (by decide) (by decide) (by decide) (by decide), zup_ne 107 (by decide)]
      · rw [zup_ne 100 (by decide), d2.2 k (by omega), zup_ne 100 (by decide)]
    have nxtS : ∀ S', ∃ r h' g', f_X11_away_20 n v S' (nI (i + 1)) h2 = some (r, h') ∧ f_X12_away_8 m v S' (nI (i + 1)) (zup g2 101 (181 + 2 * i) (pl i)) = some (r, g') ∧ okC h h' ∧ okG g g' := by
      intro S'
      have o := OC.1
      obtain ⟨r, h', g', p1, p2, p3, p4⟩ := ih m (i + 1) S' h2 (zup g2 101 (181 + 2 * i) (pl i)) c2 (G.w (by rw [g3w, gw])) c3 (by rw [o 7 (by decide) (by decide) (by decide) (by decide) (by decide) (by decide) (by decide) (by decide) (by decide) (by decide)]; exact h73) (by rw [o 7 (by decide) (by decide) (by decide) (by decide) (by decide) (by decide) (by decide) (by decide) (by decide) (by decide)]; exact h74) (fun k hk => by rw [o 8 (by decide) (by decide) (by decide) (by decide) (by decide) (by decide) (by decide) (by decide) (by decide) (by decide)]; exact h8 k hk) (fun k hk => by rw [o 9 (by decide) (by decide) (by decide) (by decide) (by decide) (by decide) (by decide) (by decide) (by decide) (by decide)]; exact h9 k hk) (fun k hk => by rw [o 10 (by decide) (by decide) (by decide) (by decide) (by decide) (by decide) (by decide) (by decide) (by decide) (by decide)]; exact h10 k hk) g3w (fun k hk => by rw [zup_ne 114 (by decide), g2_114]; exact g114 k hk) (by omega) (by omega) (by omega)
      exact ⟨r, h', g', p1, p2, OC.trans p3, OG.trans p4⟩
    have e114 : g2 114 i = pl i := by rw [g2_114]; exact g114 i (by omega)
    simp only [zck_n (show i < 8 by omega) (by decide), n_cl (show i < 2 ^ 31 by omega), e114, q_sits i (show i < 8 by omega), zbd_e]
    by_cases cv : (mry E can fam (upd si s (-1)) sn sn 0 0 T).1 = v
    · rw [if_pos cv, if_pos cv]
      exact nxtS _
    · rw [if_neg cv, if_neg cv, Int32.or_zero]
      exact nxtS S
theorem st_away : zst_away zRel := by
  intro h g a R
  obtain ⟨sn, gn, fam, t1, t2, t3, t4, t5, t6, t7, t8⟩ := R.1.1.sA
  obtain ⟨w1, w2, hs8, w4, hg8, w6, w7⟩ := t4
  obtain ⟨E, T, qf, He, Ht, Hq, hd4, hnt, hT, Hm, hQ⟩ := R.1.env R.2.2.2.2.2
  obtain ⟨h1, b1, b2, b3⟩ := q_begin He Ht Hq hd4
  obtain ⟨g1, c1, c2, c3⟩ := q_laysSeats w4 hg8
  have P : pS sn gn (h 9) (h 10) := ⟨fun i hi => (t7 i hi).2, t8⟩
  have OG : okG g g1 := ⟨c2 101 (by decide), c2 102 (by decide), c2 103 (by decide), c2 107 (by decide), fun k _ => by rw [c2 100 (by decide)]⟩
  obtain ⟨r, h', g', p1, p2, p3, p4⟩ := q_away (E := E) (can := cnQ E qf) (T := T) (w := g 101) a (by omega) (fun p hp => by have := (hT p hp).1; omega) w2 hs8 hg8 P w1 w4 w6 (fun i hi => ((t7 i hi).1).symm) zN zN 0 0 h1 g1 b2 (Hm.w (c2 101 (by decide))) (by rw [b3.2 6 (by decide) (by decide)]; exact R.2.2.2.2.2.2) (by rw [b3.1 7 (by decide) (by decide) (by decide)]; exact t1) (by rw [b3.1 7 (by decide) (by decide) (by decide)]; exact t2) (fun i hi => by rw [b3.1 8 (by decide) (by decide) (by decide)]; exact (t5 i hi).2) (fun i hi => by rw [b3.1 9 (by decide) (by decide) (by decide)]) (fun i hi => by rw [b3.1 10 (by decide) (by decide) (by decide)]) (c2 101 (by decide)) (fun i hi => by rw [c3 i hi, (t7 i hi).1]) (by omega) (by unfold zN; omega) (by unfold zN; omega)
  refine ⟨r, h', g', ?_, ?_, R.okk (b3.okC.trans p3) (OG.trans p4)⟩
  · unfold f_X11_away
    rw [b1, zbd_e]
    exact p1
  · unfold f_X12_away
    rw [c1, zbd_e]
    exact p2
