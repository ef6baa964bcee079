/-! the dying uncle -/
def qU (qf : Nat → Nat → Nat) (u b : Nat) : Nat → Nat → Nat := fun k f => if f = u then 0 else if f = b then qf k b + qf k u else qf k f
theorem q_layQ14 (k2 : Int32 → zH → zR) {i : Nat} (hi : i < 16) : ∀ m f g, f ≤ 6 → 6 < m + f → ∃ g', f_X12_laysQuarters_14 k2 m (nI i) (nI f) g = k2 (nI (i + 1)) g' ∧ (∀ c, c ≠ 117 → g' c = g c) ∧ ∀ j, g' 117 j = if 6 * i + f ≤ j ∧ j < 6 * i + 6 then g 101 (23 + 10 * i + (j - 6 * i)) else g 117 j := by
  intro m
  induction m with
  | zero => intro f g h1 h2; omega
  | succ m ih =>
    intro f g h1 h2
    simp only [f_X12_laysQuarters_14]
    by_cases hf : f = 6
    · subst hf
      rw [if_pos (by decide), zlt_e, nI_1]
      exact ⟨g, rfl, fun c _ => rfl, fun j => by rw [if_neg (by omega)]⟩
    rw [if_neg (show ¬ (6 : Int32) ≤ nI f by rw [l_6, n_le (by omega) (by omega)]; omega), q_qm i f g hi (by omega), zbd_e, l_6, n_mul, n_add, zck_n (by omega) (by decide), n_cl (by omega), zst_e, zlt_e, nI_1]
    obtain ⟨g', e1, e2, e3⟩ := ih (f + 1) (zup g 117 (6 * i + f) (g 101 (23 + 10 * i + f))) (by omega) (by omega)
    refine ⟨g', e1, fun c hc => by rw [e2 c hc, zup_ne c hc], fun j => ?_⟩
    rw [e3 j, zup_ne 101 (by decide), zup_eq]
    by_cases c : j = 6 * i + f
    · subst c
      rw [if_neg (by omega), pk_us, if_pos (by omega), Nat.add_sub_cancel_left]
    · rw [pk_un c]
      by_cases d : 6 * i + (f + 1) ≤ j ∧ j < 6 * i + 6
      · rw [if_pos d, if_pos (by omega)]
      · rw [if_neg d, if_neg (by omega)]
theorem q_layQ {n : Nat} (hn : n ≤ 16) : ∀ m i g, g 101 3 = nI n → i ≤ n → n < m + i → ∃ g', f_X12_laysQuarters_2 m (nI i) g = some (0, g') ∧ (∀ c, c ≠ 117 → g' c = g c) ∧ ∀ k f, k < n → f < 6 → g' 117 (6 * k + f) = if i ≤ k then g 101 (23 + 10 * k + f) else g 117 (6 * k + f) := by
  intro m
  induction m with
  | zero => intro i g _ h1 h2; omega
  | succ m ih =>
    intro i g h3 h1 h2
    simp only [f_X12_laysQuarters_2, h3]
    by_cases hi : i = n
    · subst hi
      rw [if_pos (Int32.le_refl _)]
      exact ⟨g, rfl, fun c _ => rfl, fun k f hk _ => by rw [if_neg (by omega)]⟩
    rw [if_neg (by rw [n_le (by omega) (by omega)]; omega)]
    obtain ⟨g1, a1, a2, a3⟩ := q_layQ14 (f_X12_laysQuarters_2 m) (i := i) (by omega) zN 0 g (by omega) (by unfold zN; omega)
    have a1 : f_X12_laysQuarters_14 (f_X12_laysQuarters_2 m) zN (nI i) 0 g = f_X12_laysQuarters_2 m (nI (i + 1)) g1 := a1
    rw [a1]
    obtain ⟨g', e1, e2, e3⟩ := ih (i + 1) g1 (by rw [a2 101 (by decide)]; exact h3) (by omega) (by omega)
    refine ⟨g', e1, fun c hc => by rw [e2 c hc, a2 c hc], fun k f hk hf => ?_⟩
    rw [e3 k f hk hf, a2 101 (by decide), a3]
    by_cases c : i + 1 ≤ k
    · rw [if_pos c, if_pos (by omega)]
    · rw [if_neg c]
      by_cases d : k = i
      · subst d
        rw [if_pos (by omega), if_pos (by omega), show 6 * k + f - 6 * k = f by omega]
      · rw [if_neg (by omega), if_neg (by omega)]
theorem q_putQ14 (k2 : Int32 → zH → zR) {i : Nat} (hi : i < 16) : ∀ m f g, f ≤ 6 → 6 < m + f → ∃ g', f_X12_putsQuarters_14 k2 m (nI i) (nI f) g = k2 (nI (i + 1)) g' ∧ (∀ c, c ≠ 101 → g' c = g c) ∧ ∀ j, g' 101 j = if 23 + 10 * i + f ≤ j ∧ j < 29 + 10 * i then g 117 (6 * i + (j - (23 + 10 * i))) else g 101 j := by
  intro m
  induction m with
  | zero => intro f g h1 h2; omega
  | succ m ih =>
    intro f g h1 h2
    simp only [f_X12_putsQuarters_14]
    by_cases hf : f = 6
    · subst hf
      rw [if_pos (by decide), zlt_e, nI_1]
      exact ⟨g, rfl, fun c _ => rfl, fun j => by rw [if_neg (by omega)]⟩
    rw [if_neg (show ¬ (6 : Int32) ≤ nI f by rw [l_6, n_le (by omega) (by omega)]; omega)]
    simp (disch := omega) only [l_6, l_20, l_10, l_3, n_mul, n_add, zck_n, n_cl, zst_e, zlt_e, nI_1]
    rw [show 20 + 10 * i + 3 + f = 23 + 10 * i + f by omega]
    obtain ⟨g', e1, e2, e3⟩ := ih (f + 1) (zup g 101 (23 + 10 * i + f) (g 117 (6 * i + f))) (by omega) (by omega)
    refine ⟨g', e1, fun c hc => by rw [e2 c hc, zup_ne c hc], fun j => ?_⟩
    rw [e3 j, zup_ne 117 (by decide), zup_eq]
    by_cases c : j = 23 + 10 * i + f
    · subst c
      rw [if_neg (by omega), pk_us, if_pos (by omega), Nat.add_sub_cancel_left]
    · rw [pk_un c]
      by_cases d : 23 + 10 * i + (f + 1) ≤ j ∧ j < 29 + 10 * i
      · rw [if_pos d, if_pos (by omega)]
      · rw [if_neg d, if_neg (by omega)]
theorem q_putQ {n : Nat} (hn : n ≤ 16) : ∀ m i g, g 101 3 = nI n → i ≤ n → n < m + i → ∃ g', f_X12_putsQuarters_2 m (nI i) g = some (0, g') ∧ (∀ c, c ≠ 101 → g' c = g c) ∧ (∀ k f, i ≤ k → k < n → f < 6 → g' 101 (23 + 10 * k + f) = g 117 (6 * k + f)) ∧ ∀ j, (∀ k f, i ≤ k → k < n → f < 6 → j ≠ 23 + 10 * k + f) → g' 101 j = g 101 j := by
  intro m
  induction m with
  | zero => intro i g _ h1 h2; omega
  | succ m ih =>
    intro i g h3 h1 h2
    simp only [f_X12_putsQuarters_2, h3]
    by_cases hi : i = n
    · subst hi
      rw [if_pos (Int32.le_refl _)]
      exact ⟨g, rfl, fun c _ => rfl, fun k f hk1 hk _ => by omega, fun j _ => rfl⟩
    rw [if_neg (by rw [n_le (by omega) (by omega)]; omega)]
    obtain ⟨g1, a1, a2, a3⟩ := q_putQ14 (f_X12_putsQuarters_2 m) (i := i) (by omega) zN 0 g (by omega) (by unfold zN; omega)
    have a1 : f_X12_putsQuarters_14 (f_X12_putsQuarters_2 m) zN (nI i) 0 g = f_X12_putsQuarters_2 m (nI (i + 1)) g1 := a1
    rw [a1]
    obtain ⟨g', e1, e2, e3, e4⟩ := ih (i + 1) g1 (by rw [a3, if_neg (by omega)]; exact h3) (by omega) (by omega)
    refine ⟨g', e1, fun c hc => by rw [e2 c hc, a2 c hc], fun k f hk1 hk hf => ?_, fun j hj => ?_⟩
    · by_cases c : i + 1 ≤ k
      · rw [e3 k f c hk hf, a2 117 (by decide)]
      · have : k = i := by omega
        subst this
        rw [e4 _ (fun k' f' z1 z2 z3 => by omega), a3, if_pos (by omega), show 23 + 10 * k + f - (23 + 10 * k) = f by omega]
    · rw [e4 j (fun k f z1 z2 z3 => hj k f (by omega) z2 z3), a3, if_neg]
      intro z
      exact hj i (j - (23 + 10 * i)) (by omega) (by omega) (by omega) (by omega)
theorem q_uncle49 (k30 : Int32 → Int32 → Int32 → Int32 → Int32 → zH → zR) {n u b : Nat} {qf : Nat → Nat → Nat} (x2 x3 x4 : Int32) (hn : n ≤ 16) (hu : u < 6) (hb : b < 6) (hub : b ≠ u) : ∀ m i g, g 101 3 = nI n → (∀ k, i ≤ k → k < n → ∀ f, f < 6 → g 101 (23 + 10 * k + f) = nI (qf k f)) → i ≤ n → n < m + i → ∃ m' g', f_X12_uncle_49 k30 m (nI u) x2 x3 x4 (nI b) (nI i) g = f_X12_uncle_49 k30 (m' + 1) (nI u) x2 x3 x4 (nI b) (nI n) g' ∧ (∀ c, c ≠ 101 → g' c = g c) ∧ (∀ k f, i ≤ k → k < n → f < 6 → g' 101 (23 + 10 * k + f) = nI (qU qf u b k f)) ∧ ∀ j, (∀ k f, i ≤ k → k < n → f < 6 → j ≠ 23 + 10 * k + f) → g' 101 j = g 101 j := by
  intro m
  induction m with
  | zero => intro i g _ _ h1 h2; omega
  | succ m ih =>
    intro i g h3 hq h1 h2
    by_cases hi : i = n
    · subst hi
      exact ⟨m, g, rfl, fun c _ => rfl, fun k f hk1 hk _ => by omega, fun j _ => rfl⟩
    have e0 : f_X12_uncle_49 k30 (m + 1) (nI u) x2 x3 x4 (nI b) (nI i) g = f_X12_uncle_49 k30 m (nI u) x2 x3 x4 (nI b) (nI (i + 1)) (zup (zup g 101 (23 + 10 * i + b) (nI (qf i b + qf i u))) 101 (23 + 10 * i + u) (nI 0)) := by
      simp only [f_X12_uncle_49, h3]
      rw [if_neg (by rw [n_le (by omega) (by omega)]; omega), q_qm i u g (by omega) hu, zbd_e, q_adds i b _ (by omega) hb, zbd_e, q_qm i u _ (by omega) hu, zbd_e, q_adds i u _ (by omega) hu, zbd_e, zlt_e, nI_1, zup_eq, pk_un (by omega), hq i (by omega) (by omega) u hu, hq i (by omega) (by omega) b hb, n_add, n_subn (Nat.le_refl _), Nat.sub_self]
    generalize hX : zup (zup g 101 (23 + 10 * i + b) (nI (qf i b + qf i u))) 101 (23 + 10 * i + u) (nI 0) = X at e0
    have xc : ∀ c, c ≠ 101 → X c = g c := fun c hc => by rw [← hX, zup_ne c hc, zup_ne c hc]
    have xu : X 101 (23 + 10 * i + u) = nI 0 := by rw [← hX, zup_eq, pk_us]
    have xb : X 101 (23 + 10 * i + b) = nI (qf i b + qf i u) := by rw [← hX, zup_eq, pk_un (by omega), zup_eq, pk_us]
    have xn : ∀ j, j ≠ 23 + 10 * i + u → j ≠ 23 + 10 * i + b → X 101 j = g 101 j := fun j j1 j2 => by rw [← hX, zup_eq, pk_un j1, zup_eq, pk_un j2]
    obtain ⟨m', g', e1, e2, e3, e4⟩ := ih (i + 1) X (by rw [xn 3 (by omega) (by omega)]; exact h3) (fun k k1 k2 f hf => by rw [xn _ (by omega) (by omega)]; exact hq k (by omega) k2 f hf) (by omega) (by omega)
    refine ⟨m', g', e0.trans e1, fun c hc => by rw [e2 c hc, xc c hc], fun k f k1 k2 hf => ?_, fun j hj => ?_⟩
    · by_cases c : i + 1 ≤ k
      · exact e3 k f c k2 hf
      · have : k = i := by omega
        subst this
        rw [e4 _ (fun k' f' z1 z2 z3 => by omega)]
        unfold qU
        by_cases fu : f = u
        · subst fu; rw [if_pos rfl, xu]
        · rw [if_neg fu]
          by_cases fb : f = b
          · subst fb; rw [if_pos rfl, xb]
          · rw [if_neg fb, xn _ (by omega) (by omega)]
            exact hq k (by omega) k2 f hf
    · rw [e4 j (fun k f z1 z2 z3 => hj k f (by omega) z2 z3)]
      exact xn j (fun z => hj i u (by omega) (by omega) hu z) (fun z => hj i b (by omega) (by omega) hb z)
theorem q_leave {E : zEv} {T : zTe} {qf : Nat → Nat → Nat} {h : zH} (R : tC E (cnQ E qf) T h) (Hq : qC E.n qf h) (hd4 : E.nd ≤ 4) (hd1 : 1 ≤ E.nd) {u b : Nat} (hu : u < 6) (hb6 : b < 6) (hub : b ≠ u) : ∃ h', f_X1_leaveAll (nI u) (nI b) h = some (0, h') ∧ tC E (cnQ E (qU qf u b)) T h' ∧ ∀ c, c ≠ 41 → h' c = h c := by
  unfold f_X1_leaveAll
  obtain ⟨S, e1, e2⟩ := q_tellable R.1.1 R.1.2.1 R.1.2.2.2.1 hd4 Hq b u hb6 hu
  rw [e1, zbd_e, zck_n (by omega) (by decide), n_cl (by omega), zst_e, zck_n (by omega) (by decide), n_cl (by omega), zst_e]
  generalize hX : zup (zup h 41 b S) 41 u 0 = X
  have xc : ∀ c, c ≠ 41 → X c = h c := fun c hc => by rw [← hX, zup_ne c hc, zup_ne c hc]
  obtain ⟨a, t, m, s1, s2⟩ := R
  refine ⟨X, rfl, ⟨a.same (fun c hc => xc c (by omega)), t.same (xc 12 (by decide)) (xc 13 (by decide)) (xc 40 (by decide)), ?_, ?_, ?_⟩, xc⟩
  · intro f e q1 q2
    rw [xc 39 (by decide)]
    exact m f e q1 q2
  · intro f hf k hk
    rw [← hX, zup_eq]
    unfold cnQ qU
    by_cases fu : f = u
    · subst fu; rw [pk_us, if_pos rfl, hb_0]; exact (decide_eq_false (by omega)).symm
    · rw [pk_un fu, if_neg fu, zup_eq]
      by_cases fb : f = b
      · subst fb; rw [pk_us, if_pos rfl, e2 k hk, if_neg (fun z => hub z.symm)]
      · rw [pk_un fb, if_neg fb]; exact s1 f hf k hk
  · rw [xc 38 (by decide)]; exact s2
theorem q_unc {E : zEv} {T : zTe} {qf : Nat → Nat → Nat} {fam : Nat → Nat} {h0 g0 : zH} {sn gn u : Nat} (x2 : Int32) (He : eC E h0) (Ht : cT E.nt T h0) (Hq : qC E.n qf h0) (hd4 : E.nd ≤ 4) (hd1 : 1 ≤ E.nd) (hnt : E.nt < 2 ^ 30) (hT : ∀ p, p < 256 → T.1 p + sn < 2 ^ 30) (Hm : tM E (cnQ E qf) T g0) (hQ : ∀ k, k < E.n → ∀ f, f < 6 → g0 101 (23 + 10 * k + f) = nI (qf k f)) (H : sA sn gn (h0 10) fam (g0 101)) (h73 : h0 7 3 = nI sn) (hfam : ∀ i, i < gn → fam i < 6 ∧ h0 8 i = nI (fam i)) (hsi : ∀ s, s < sn → h0 10 s = -1 ∨ ∃ i, i < gn ∧ h0 10 s = nI i) (k0 : h0 38 6 = nI 0) (hu : u < 6) : ∀ n m i mo he h g, okC h0 h → okG g0 g → (∀ k f, k < E.n → f < 6 → g 117 (6 * k + f) = nI (qf k f)) → i ≤ 6 → 6 < n + i → 6 < m + i → ∃ r h' g', f_X11_uncle_27 n (nI u) x2 mo he (nI i) h = some (r, h') ∧ f_X12_uncle_30 m (nI u) x2 he mo (nI i) g = some (r, g') ∧ okC h0 h' ∧ okG g0 g' := by
  have hn := He.1
  intro n
  induction n with
  | zero => intro m i mo he h g _ _ _ h1 h2; omega
  | succ n ih =>
    intro m i mo he h g OC OG g117 h1 h2 h3
    obtain ⟨m, rfl⟩ : ∃ k, m = k + 1 := ⟨m - 1, by omega⟩
    simp only [f_X11_uncle_27, f_X12_uncle_30]
    by_cases hi : i = 6
    · subst hi
      have s6 : (6 : Int32) ≤ nI 6 := by decide
      rw [if_pos s6, if_pos s6]
      by_cases c : x2 = 0
      · rw [if_pos c, if_pos c]; exact ⟨he, h, g, rfl, rfl, OC, OG⟩
      · rw [if_neg c, if_neg c]; exact ⟨mo, h, g, rfl, rfl, OC, OG⟩
    have hle : ¬ (6 : Int32) ≤ nI i := by rw [l_6, n_le (by omega) (by omega)]; omega
    rw [if_neg hle, if_neg hle]
    simp only [f_X11_uncle_99, zlt_e, nI_1]
    by_cases hiu : i = u
    · have e : nI i = nI u := by rw [hiu]
      rw [if_pos e, if_pos e]
      simp only [f_X12_uncle_123, zlt_e, nI_1]
      exact ih m (i + 1) mo he h g OC OG g117 (by omega) (by omega) (by omega)
    have e : ¬ nI i = nI u := by rw [n_eq (by omega) (by omega)]; exact hiu
    rw [if_neg e, if_neg e]
    have o := OC.1
    have oc : ∀ c, c < 19 ∨ c = 20 → h c = h0 c := fun c hc => o c (by omega) (by omega) (by omega) (by omega) (by omega) (by omega) (by omega) (by omega) (by omega) (by omega)
    obtain ⟨h1', b1, b2, b3⟩ := q_begin (h := h) (E := E) (T := T) (qf := qf) (He.same (fun c hc => oc c (by omega))) (Ht.same (oc 12 (by omega)) (oc 13 (by omega)) OC.2.1) (by unfold qC; rw [oc 6 (by omega)]; exact Hq) hd4
    rw [b1, zbd_e]
    have bc : ∀ c, c < 19 ∨ c = 20 → h1' c = h0 c := fun c hc => by rw [b3.1 c (by omega) (by omega) (by omega), oc c hc]
    obtain ⟨h2', c1, c2, c3⟩ := q_leave b2 (by unfold qC; rw [bc 6 (by omega)]; exact Hq) hd4 hd1 hu (by omega : i < 6) hiu
    rw [c1, zbd_e, c3 7 (by decide), bc 7 (by omega), h73]
    obtain ⟨h3', d1, d2, d3, d4, d5⟩ := q_merry_r10 (si := h0 10) H.2.2.1 H.2.2.2.2.1 hsi c2 (by rw [c3 38 (by decide), b3.2 6 (by decide) (by decide), OC.2.2]; exact k0) hT (fun i hi => ⟨(hfam i hi).1, by rw [c3 8 (by decide), bc 8 (by omega)]; exact (hfam i hi).2⟩) (fun s hs => by rw [c3 10 (by decide), bc 10 (by omega)])
    rw [d1, zbd_e]
    have OC3 : okC h0 h3' := by
      refine OC.trans (b3.okC.trans ⟨fun c z1 z2 z3 z4 z5 z6 z7 z8 z9 z10 => ?_, ?_, ?_⟩)
      · rw [d5.1 c z1 z2 z3 z4 z5 z7 z8, c3 c z6]
      · rw [d4, c3 40 (by decide)]
      · rw [d3, b3.2 6 (by decide) (by decide), OC.2.2, k0]
    -- the reference
    have gw : g 101 = g0 101 := OG.1
    have w3 : g 101 3 = nI E.n := by rw [gw]; exact Hm.1.2.1
    obtain ⟨m', g1, f1, f2, f3, f4⟩ := q_uncle49 (f_X12_uncle_30 m) (qf := qf) x2 he mo hn hu (by omega : i < 6) hiu zN 0 g w3 (fun k _ hk f hf => by rw [gw]; exact hQ k hk f hf) (by omega) (by unfold zN; omega)
    have f1 : f_X12_uncle_49 (f_X12_uncle_30 m) zN (nI u) x2 he mo (nI i) 0 g = f_X12_uncle_49 (f_X12_uncle_30 m) (m' + 1) (nI u) x2 he mo (nI i) (nI E.n) g1 := f1
    rw [f1]
    have nq : ∀ j, (j < 23 ∨ 179 ≤ j ∨ j % 10 < 3) → g1 101 j = g0 101 j := fun j hj => by rw [f4 j (fun k f _ z2 z3 => by omega), gw]
    simp only [f_X12_uncle_49, nq 3 (by omega), Hm.1.2.1]
    rw [if_pos (Int32.le_refl _)]
    have G1 : tM E (cnQ E (qU qf u i)) T g1 := by
      refine ⟨Hm.1.w (fun j hj => nq j (by omega)), fun p hp => ?_, fun k hk f hf => ⟨qU qf u i k f, ?_, f3 k f (by omega) hk hf, rfl⟩⟩
      · rw [nq _ (by omega), nq _ (by omega)]; exact Hm.2.1 p hp
      · have q1 := (Hq k hk u hu).2
        have q2 := (Hq k hk i (by omega)).2
        have q3 := (Hq k hk f hf).2
        unfold qU
        split
        · omega
        · split <;> omega
    obtain ⟨g2, k1, k2⟩ := q_mnow G1 (H.w (nq 0 (by omega)) (nq 4 (by omega)) (fun j j1 j2 => nq j (by omega))) hnt hT
    rw [k1, zbd_e]
    have g2w : g2 101 = g1 101 := k2.1 101 (by decide) (by decide) (by decide) (by decide)
    have g2q : g2 117 = g 117 := by rw [k2.1 117 (by decide) (by decide) (by decide) (by decide), f2 117 (by decide)]
    obtain ⟨g3, l1, l2, l3, l4⟩ := q_putQ hn zN 0 g2 (by rw [g2w, nq 3 (by omega)]; exact Hm.1.2.1) (by omega) (by unfold zN; omega)
    have l1 : f_X12_putsQuarters g2 = some (0, g3) := l1
    rw [l1, zbd_e]
    have g3w : g3 101 = g0 101 := by
      funext j
      by_cases c : ∃ k f, k < E.n ∧ f < 6 ∧ j = 23 + 10 * k + f
      · obtain ⟨k, f, c1, c2, rfl⟩ := c
        rw [l3 k f (by omega) c1 c2, g2q, g117 k f c1 c2, hQ k c1 f c2]
      · have c' : ∀ k f, 0 ≤ k → k < E.n → f < 6 → j ≠ 23 + 10 * k + f := fun k f _ z2 z3 z4 => c ⟨k, f, z2, z3, z4⟩
        rw [l4 j c', g2w, f4 j c', gw]
    have g3q : g3 117 = g 117 := by rw [l2 117 (by decide), g2q]
    have OG3 : okG g0 g3 := by
      refine OG.trans ⟨by rw [g3w, gw], ?_, ?_, ?_, fun k hk => ?_⟩
      · rw [l2 102 (by decide), k2.1 102 (by decide) (by decide) (by decide) (by decide), f2 102 (by decide)]
      · rw [l2 103 (by decide), k2.1 103 (by decide) (by decide) (by decide) (by decide), f2 103 (by decide)]
      · rw [l2 107 (by decide), k2.1 107 (by decide) (by decide) (by decide) (by decide), f2 107 (by decide)]
      · rw [l2 100 (by decide), k2.2 k (by omega), f2 100 (by decide)]
    simp only [f_X12_uncle_123, zlt_e, nI_1]
    by_cases cv : (mry E (cnQ E (qU qf u i)) fam (h0 10) sn sn 0 0 T).1 ≤ mo
    · rw [if_pos cv, if_neg (Int32.not_lt.mpr cv)]
      exact ih m (i + 1) mo he h3' g3 OC3 OG3 (by rw [g3q]; exact g117) (by omega) (by omega) (by omega)
    · rw [if_neg cv, if_pos (Int32.not_le.mp cv)]
      exact ih m (i + 1) _ _ h3' g3 OC3 OG3 (by rw [g3q]; exact g117) (by omega) (by omega) (by omega)
theorem st_uncle : zst_uncle zRel := by
  intro h g a x2 R
  unfold f_X11_uncle f_X12_uncle f_X11_uncle_17 f_X12_uncle_16
  rw [q_below, q_fam]
  simp only [zbd_e, q_below, q_in, i_10]
  rcases n_ix6 a with ⟨u, hu, rfl⟩ | ⟨e1, e2⟩
  · have p1 := eq_true (v_lt6 hu)
    have p2 := eq_true (v_le5 hu)
    simp only [p1, p2, not_true_eq_false, if_false]
    rcases n_ix x2 2 (by decide) with ⟨v, hv, rfl⟩ | ⟨e1, e2⟩
    · have p3 : (0 ≤ nI v ∧ nI v < 2) = True := eq_true (v_lt hv (by decide))
      have p4 : (0 ≤ nI v ∧ nI v ≤ 1) = True := eq_true ⟨nI_pos' (by omega), by rw [l_1, n_le (by omega) (by omega)]; omega⟩
      simp only [p3, p4, not_true_eq_false, if_false]
      obtain ⟨sn, gn, fam, t1, t2, t3, t4, t5, t6, t7⟩ := R.1.1.sA
      obtain ⟨E, T, qf, He, Ht, Hq, hd4, hnt, hT, Hm, hQ⟩ := R.1.env R.2.2.2.2.2
      have hs8 := t4.2.2.1
      have hd1 : 1 ≤ E.nd := by
        obtain ⟨⟨n, n1, n2, n3, n4⟩, -⟩ := R.1.2.2.2.2
        have := He.2.2.2.1
        rw [n3, n_eq (by omega) (by omega)] at this
        omega
      obtain ⟨g1, c1, c2, c3⟩ := q_layQ He.1 zN 0 g Hm.1.2.1 (by omega) (by have := He.1; unfold zN; omega)
      have c1 : f_X12_laysQuarters g = some (0, g1) := c1
      rw [c1, zbd_e]
      have OG : okG g g1 := ⟨c2 101 (by decide), c2 102 (by decide), c2 103 (by decide), c2 107 (by decide), fun k _ => by rw [c2 100 (by decide)]⟩
      obtain ⟨r, h', g', p1, p2, p3, p4⟩ := q_unc (nI v) He Ht Hq hd4 hd1 (by omega) (fun p hp => by have := (hT p hp).1; omega) Hm (fun k hk => (hQ k hk).2) t4 t1 t5 t6 R.2.2.2.2.2.2 hu zN zN 0 (-1) (-1) h g1 (okC.refl h) OG (fun k f hk hf => by rw [c3 k f hk hf, if_pos (by omega)]; exact (hQ k hk).2 f hf) (by omega) (by unfold zN; omega) (by unfold zN; omega)
      exact ⟨r, h', g', p1, p2, R.okk p3 p4⟩
    · have e1 : (0 ≤ x2 ∧ x2 < 2) = False := e1
      have e2 : (0 ≤ x2 ∧ x2 ≤ 1) = False := e2
      exact ⟨-1, h, g, by simp only [e1, not_false_eq_true, if_true], by simp only [e2, not_false_eq_true, if_true], R⟩
  · exact ⟨-1, h, g, by simp only [e1, not_false_eq_true, if_true], by simp only [e2, not_false_eq_true, if_true], R⟩
