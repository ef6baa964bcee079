/-! who should sit where -/
def sCnt (S : Int32) : Nat → Nat
  | 0 => 0
  | n + 1 => sCnt S n + if hb S n = true then 1 else 0
theorem sCnt_le (S : Int32) : ∀ n, sCnt S n ≤ n := by
  intro n
  induction n with
  | zero => exact Nat.le_refl _
  | succ n ih => unfold sCnt; split <;> omega
theorem sCnt_full {S : Int32} : ∀ n, sCnt S n = n → ∀ i, i < n → hb S i = true := by
  intro n
  induction n with
  | zero => intro _ i hi; omega
  | succ n ih =>
    intro h i hi
    have hl := sCnt_le S n
    unfold sCnt at h
    by_cases c : hb S n = true
    · rw [if_pos c] at h
      by_cases d : i = n
      · subst d; exact c
      · exact ih (by omega) i (by omega)
    · rw [if_neg c] at h; omega
theorem sCnt_ex {S : Int32} : ∀ n, sCnt S n < n → ∃ i, i < n ∧ hb S i = false := by
  intro n
  induction n with
  | zero => intro h; exact absurd h (by omega)
  | succ n ih =>
    intro h
    unfold sCnt at h
    by_cases c : hb S n = true
    · rw [if_pos c] at h
      obtain ⟨i, i1, i2⟩ := ih (by omega)
      exact ⟨i, by omega, i2⟩
    · exact ⟨n, by omega, by simpa using c⟩
theorem sCnt_set {S : Int32} {i : Nat} (hi : i < 32) (hS : hb S i = false) : ∀ n, n ≤ 32 → sCnt (S ||| ((1 : Int32) <<< (nI i &&& 31))) n = sCnt S n + if i < n then 1 else 0 := by
  intro n
  induction n with
  | zero => intro _; rfl
  | succ n ih =>
    intro hn
    unfold sCnt
    rw [ih (by omega), hb_set S hi (by omega)]
    by_cases c : n = i
    · subst c
      rw [hS, if_neg (by omega)]
      simp
    · rw [decide_eq_false c, Bool.or_false]
      by_cases d : i < n
      · rw [if_pos d, if_pos (show i < n + 1 by omega)]; omega
      · rw [if_neg d, if_neg (show ¬ i < n + 1 by omega), Nat.add_zero, Nat.add_zero]
theorem mry_cong {E : zEv} {can : Nat → Nat → Bool} {fam : Nat → Nat} {si si' : Nat → Int32} {sn : Nat} : ∀ r s v T, (∀ j, s ≤ j → j < s + r → si j = si' j ∧ si (nxt sn j) = si' (nxt sn j)) → mry E can fam si sn r s v T = mry E can fam si' sn r s v T := by
  intro r
  induction r with
  | zero => intro s v T _; rfl
  | succ r ih =>
    intro s v T h
    unfold mry
    rw [(h s (by omega) (by omega)).1, (h s (by omega) (by omega)).2]
    exact ih (s + 1) _ _ (fun j j1 j2 => h j (by omega) (by omega))
theorem mry_snoc (E : zEv) (can : Nat → Nat → Bool) (fam : Nat → Nat) (si : Nat → Int32) (sn : Nat) : ∀ r s v T, mry E can fam si sn (r + 1) s v T = ((mry E can fam si sn r s v T).1 + tlV E can fam (mry E can fam si sn r s v T).2 (si (s + r)) (si (nxt sn (s + r))), tlT E can fam (mry E can fam si sn r s v T).2 (si (s + r)) (si (nxt sn (s + r)))) := by
  intro r
  induction r with
  | zero => intro s v T; rfl
  | succ r ih =>
    intro s v T
    rw [mry, ih (s + 1), show s + 1 + r = s + (r + 1) by omega]
    rfl
theorem mry_b {E : zEv} {can : Nat → Nat → Bool} {fam : Nat → Nat} {si : Nat → Int32} {sn : Nat} (p : Nat) : ∀ r s v T, (mry E can fam si sn r s v T).2.1 p ≤ T.1 p + r := by
  intro r
  induction r with
  | zero => intro s v T; exact Nat.le_refl _
  | succ r ih =>
    intro s v T
    unfold mry
    have h1 := ih (s + 1) (v + tlV E can fam T (si s) (si (nxt sn s))) (tlT E can fam T (si s) (si (nxt sn s)))
    have h2 := tlT_b (E := E) (can := can) (fam := fam) (T := T) (x := si s) (y := si (nxt sn s)) p
    omega
theorem tC.far {E : zEv} {can : Nat → Nat → Bool} {T : zTe} {h h' : zH} (H : tC E can T h) (hc : ∀ c, c < 71 → h' c = h c) : tC E can T h' := by
  obtain ⟨a, b, c, d⟩ := H
  refine ⟨a.same (fun c hc' => hc c (by omega)), b.same (hc 12 (by decide)) (hc 13 (by decide)) (hc 40 (by decide)), ?_, d.same (hc 41 (by decide)) (by rw [hc 38 (by decide)]) (by rw [hc 38 (by decide)])⟩
  intro f e q1 q2
  rw [hc 39 (by decide)]
  exact c f e q1 q2
theorem q_tellB2 {E : zEv} {can : Nat → Nat → Bool} {T : zTe} {gn t : Nat} {fam : Nat → Nat} {h : zH} (R : tC E can T h) (hk : h 38 6 = nI t) (hk8 : t < 8) (hT : ∀ p, p < 256 → T.1 p + 1 < 2 ^ 30) (hg : gn ≤ 8) (hfam : ∀ i, i < gn → fam i < 6 ∧ h 8 i = nI (fam i)) (x y : Int32) (hx : x = -1 ∨ ∃ i, i < gn ∧ x = nI i) (hy : y = -1 ∨ ∃ i, i < gn ∧ y = nI i) : ∃ h6 t', f_X1_tellBetween x y h = some (tlV E can fam T x y, h6) ∧ tC E can (tlT E can fam T x y) h6 ∧ sK h h6 ∧ h6 38 6 = nI t' ∧ t ≤ t' ∧ t' ≤ t + 1 ∧ (∀ i, i < t → h6 42 i = h 42 i ∧ h6 43 i = h 43 i) ∧ ∀ h8, tC E can (tlT E can fam T x y) h8 → h8 38 6 = nI t' → h8 40 = h6 40 → h8 12 = h 12 → h8 13 = h 13 → (∀ i, i < t' → h8 42 i = h6 42 i ∧ h8 43 i = h6 43 i) → ∃ h10, f_X8_takeBack (tlV E can fam T x y) h8 = some (0, h10) ∧ tC E can T h10 ∧ h10 38 6 = nI t ∧ h10 40 = h 40 ∧ h10 42 = h8 42 ∧ h10 43 = h8 43 ∧ sK h8 h10 := by
  obtain ⟨h6, a1, a2, a3, a4⟩ := q_tellB R hk hk8 hT hg hfam x y hx hy
  rcases a4 with ⟨c, b1, b2, b3, b4⟩ | ⟨c, b1, f, e, hf, he, b2, b3, b4, b5⟩
  · refine ⟨h6, t, a1, a2, a3, b1, Nat.le_refl _, by omega, fun i _ => by rw [b3, b4]; exact ⟨rfl, rfl⟩, fun h8 k1 k2 k3 k4 k5 k6 => ⟨h8, ?_, ?_, k2, by rw [k3, b2], rfl, rfl, sK.refl h8⟩⟩
    · unfold f_X8_takeBack tlV
      rw [if_pos c, if_pos (by decide)]
    · have : tlT E can fam T x y = T := by unfold tlT; rw [if_pos c]
      rw [this] at k1
      exact k1
  · refine ⟨h6, t + 1, a1, a2, a3, b1, by omega, Nat.le_refl _, fun i hi => by rw [b4, b5, pk_un (by omega), pk_un (by omega)]; exact ⟨rfl, rfl⟩, fun h8 k1 k2 k3 k4 k5 k6 => ?_⟩
    rw [b2] at k1
    obtain ⟨h10, p1, p2, p3, p4, p5, p6, p7⟩ := q_untell (M := h 40) hf he hk8 k1 k2 (by rw [(k6 t (by omega)).1, b4, pk_us]) (by rw [(k6 t (by omega)).2, b5, pk_us]) (by rw [k3, b3]) (by rw [k4, k5]; exact R.2.1)
    refine ⟨h10, ?_, p2, p3, p4, p5, p6, p7⟩
    unfold f_X8_takeBack tlV
    rw [if_neg c, if_neg c, p1, zbd_e]
/-- frames -/
def sP (h h' : zH) : Prop := (∀ c, c ≠ 19 → c ≠ 21 → c ≠ 38 → c ≠ 39 → c ≠ 40 → c ≠ 42 → c ≠ 43 → c ≠ 71 → c ≠ 72 → c ≠ 73 → h' c = h c) ∧ (∀ k, k ≤ 8 → k ≠ 6 → h' 38 k = h 38 k) ∧ h' 71 3 = h 71 3
theorem sP.refl (h : zH) : sP h h := ⟨fun _ _ _ _ _ _ _ _ _ _ _ => rfl, fun _ _ _ => rfl, rfl⟩
theorem sP.trans {h h' h'' : zH} (a : sP h h') (b : sP h' h'') : sP h h'' := ⟨fun c c1 c2 c3 c4 c5 c6 c7 c8 c9 c10 => (b.1 c c1 c2 c3 c4 c5 c6 c7 c8 c9 c10).trans (a.1 c c1 c2 c3 c4 c5 c6 c7 c8 c9 c10), fun k hk hk2 => (b.2.1 k hk hk2).trans (a.2.1 k hk hk2), b.2.2.trans a.2.2⟩
theorem sK.sP {h h' : zH} (a : sK h h') : sP h h' := ⟨fun c c1 c2 c3 c4 c5 c6 c7 _ _ _ => a.1 c c1 c2 c3 c4 c5 c6 c7, a.2, by rw [a.1 71 (by decide) (by decide) (by decide) (by decide) (by decide) (by decide) (by decide)]⟩
def sQ (g g' : zH) : Prop := (∀ c, c ≠ 100 → c ≠ 101 → c ≠ 104 → c ≠ 108 → c ≠ 109 → c ≠ 115 → g' c = g c) ∧ ∀ k, k < 23 → g' 100 k = g 100 k
theorem sQ.refl (g : zH) : sQ g g := ⟨fun _ _ _ _ _ _ _ => rfl, fun _ _ => rfl⟩
theorem sQ.trans {h h' h'' : zH} (a : sQ h h') (b : sQ h' h'') : sQ h h'' := ⟨fun c c1 c2 c3 c4 c5 c6 => (b.1 c c1 c2 c3 c4 c5 c6).trans (a.1 c c1 c2 c3 c4 c5 c6), fun k hk => (b.2 k hk).trans (a.2 k hk)⟩
/-- where both stand when k guests sit -/
def sit (E : zEv) (can : Nat → Nat → Bool) (fam : Nat → Nat) (c : Nat) (w : Nat → Int32) (k : Nat) (si : Nat → Nat) (T : zTe) (t : Nat) (h g : zH) : Prop := tC E can T h ∧ h 38 6 = nI t ∧ h 71 3 = nI c ∧ (∀ j, j < k → si j < c ∧ h 72 j = nI (si j)) ∧ (∀ i, i < c → h 8 i = nI (fam i)) ∧ (h 71 4 = g 100 35 ∧ (h 71 4 = -1 ∨ ∀ j, j < c → h 73 j = g 115 j)) ∧ (∀ j, (∀ i, i < c → j ≠ 181 + 2 * i) → g 101 j = w j) ∧ ∀ j, j < k → g 101 (181 + 2 * si j) = nI j
/-- what the node leaves -/
def sitO (t : Nat) (h g h' g' : zH) : Prop := h' 40 = h 40 ∧ (∀ i, i < t → h' 42 i = h 42 i ∧ h' 43 i = h 43 i) ∧ sP h h' ∧ sQ g g'
theorem sitO.refl (t : Nat) (h g : zH) : sitO t h g h g := ⟨rfl, fun _ _ => ⟨rfl, rfl⟩, sP.refl h, sQ.refl g⟩
theorem sitO.trans {t : Nat} {h g h1 g1 h2 g2 : zH} (a : sitO t h g h1 g1) (b : sitO t h1 g1 h2 g2) : sitO t h g h2 g2 := ⟨b.1.trans a.1, fun i hi => ⟨(b.2.1 i hi).1.trans (a.2.1 i hi).1, (b.2.1 i hi).2.trans (a.2.1 i hi).2⟩, a.2.2.1.trans b.2.2.1, a.2.2.2.trans b.2.2.2⟩
def bitI (c k : Nat) (S : Int32) (si : Nat → Nat) : Prop := (∀ i, i < c → hb S i = true → ∃ j, j < k ∧ si j = i) ∧ (∀ j, j < k → hb S (si j) = true) ∧ sCnt S c = k ∧ si 0 = 0
theorem q_sr32 (F : Int32 → Int32 → zH → zR) {c : Nat} {si : Nat → Nat} (hc : c ≤ 7) (hs : ∀ i, i < c → ∃ p, p < c ∧ si p = i) : ∀ n i g, g 101 4 = nI c → (∀ j, j < c → si j < c ∧ g 101 (181 + 2 * si j) = nI j) → i ≤ c → c < n + i → (∀ j, j < c → si j < i → g 115 j = nI (si j)) → ∃ g', f_X12_seatsAll_b_32 F n (nI i) g = some (0, g') ∧ (∀ c', c' ≠ 115 → g' c' = g c') ∧ ∀ j, j < c → g' 115 j = nI (si j) := by
  intro n
  induction n with
  | zero => intro i g _ _ h1 h2; omega
  | succ n ih =>
    intro i g h4 hw h1 h2 hd
    simp only [f_X12_seatsAll_b_32, h4]
    by_cases hi : i = c
    · subst hi
      rw [if_pos (Int32.le_refl _)]
      exact ⟨g, rfl, fun c _ => rfl, fun j hj => hd j hj (hw j hj).1⟩
    obtain ⟨p, p1, p2⟩ := hs i (by omega)
    have e := (hw p p1).2
    rw [p2] at e
    rw [if_neg (by rw [n_le (by omega) (by omega)]; omega), q_og1 i g (by omega), zbd_e, e, zck_n (by omega) (by decide), n_cl (by omega), zst_e, zlt_e, nI_1]
    obtain ⟨g', e1, e2, e3⟩ := ih (i + 1) (zup g 115 p (nI i)) (by rw [zup_ne 101 (by decide)]; exact h4) (fun j hj => by rw [zup_ne 101 (by decide)]; exact hw j hj) (by omega) (by omega) (fun j hj hji => by
      rw [zup_eq]
      by_cases d : j = p
      · subst d; rw [pk_us, p2]
      · rw [pk_un d]
        refine hd j hj ?_
        have : si j ≠ i := by
          intro z
          have := (hw j hj).2
          rw [z, e, n_eq (by omega) (by omega)] at this
          omega
        omega)
    exact ⟨g', e1, fun c' hc' => by rw [e2 c' hc', zup_ne c' hc'], e3⟩
/-- the leaf -/
theorem q_leaf {E : zEv} {can : Nat → Nat → Bool} {T0 T : zTe} {fam : Nat → Nat} {c t : Nat} {w : Nat → Int32} {S : Int32} {si : Nat → Nat} {v : Int32} {h g : zH} (F : Int32 → Int32 → Int32 → zH → zR) (G : Int32 → Int32 → zH → zR) (hc3 : 3 ≤ c) (hc7 : c ≤ 7) (hnt : E.nt < 2 ^ 30) (hT0 : ∀ p, p < 256 → T0.1 p + 8 < 2 ^ 30) (hw0 : w 0 = nI c) (hw4 : w 4 = nI c) (hwf : ∀ i, i < c → fam i < 6 ∧ w (180 + 2 * i) = nI (fam i)) (hM : ∀ g' : zH, (∀ j, ((j < 180 ∧ j ≠ 0 ∧ j ≠ 4) ∨ 196 ≤ j) → g' 101 j = w j) → tM E can T0 g') (I : sit E can fam c w c si T t h g) (B : bitI c c S si) (ht : t + 1 ≤ c) (hv : mry E can fam (fun j => nI (si j)) c (c - 1) 0 0 T0 = (v, T)) : ∃ h' g', f_X8_place_b F (nI c) S v h = some (0, h') ∧ f_X12_seatsAll_b G S (nI c) g = some (0, g') ∧ sit E can fam c w c si T t h' g' ∧ sitO t h g h' g' ∧ ¬ h' 71 4 = -1 := by
  have II := I
  obtain ⟨a1, a2, a3, a4, a5, ⟨a6, a7⟩, a8, a9⟩ := I
  obtain ⟨s1, s2, s3, s4⟩ := B
  have full := sCnt_full c s3
  have sur : ∀ i, i < c → ∃ p, p < c ∧ si p = i := fun i hi => s1 i hi (full i hi)
  have snoc := mry_snoc E can fam (fun j => nI (si j)) c (c - 1) 0 0 T0
  rw [show c - 1 + 1 = c by omega, hv] at snoc
  rw [show 0 + (c - 1) = c - 1 by omega, show nxt c (c - 1) = 0 by unfold nxt; rw [if_neg (by omega)], s4] at snoc
  have hTb : ∀ p, p < 256 → T.1 p + 1 < 2 ^ 30 := by
    intro p hp
    have : T.1 p ≤ T0.1 p + (c - 1) := by
      have := mry_b (E := E) (can := can) (fam := fam) (si := fun j => nI (si j)) (sn := c) p (c - 1) 0 0 T0
      rw [hv] at this
      exact this
    have := hT0 p hp
    omega
  obtain ⟨y, y1, y2⟩ := mry_0 E can fam (fun j => nI (si j)) c (by omega) T0
  unfold f_X8_place_b f_X12_seatsAll_b
  have g4 : g 101 4 = nI c := by rw [a8 4 (fun i _ => by omega)]; exact hw4
  have g0 : g 101 0 = nI c := by rw [a8 0 (fun i _ => by omega)]; exact hw0
  rw [a3, if_neg (Int32.lt_irrefl), n_s1n (by omega), n_cl (by omega), zck_n (by omega) (by decide), (a4 (c - 1) (by omega)).2, (a4 0 (by omega)).2, s4, g0, if_pos rfl]
  obtain ⟨h6, t', b1, b2, b3, b4, b5, b6, b7, b8⟩ := q_tellB2 (fam := fam) (gn := c) a1 a2 (by omega) hTb (by omega) (fun i hi => ⟨(hwf i hi).1, a5 i hi⟩) (nI (si (c - 1))) (nI 0) (Or.inr ⟨_, (a4 (c - 1) (by omega)).1, rfl⟩) (Or.inr ⟨0, by omega, rfl⟩)
  obtain ⟨h10, c1, c2, c3, c4, c5, c6, c7⟩ := b8 h6 b2 b4 rfl (b3.1 12 (by decide) (by decide) (by decide) (by decide) (by decide) (by decide) (by decide)) (b3.1 13 (by decide) (by decide) (by decide) (by decide) (by decide) (by decide) (by decide)) (fun i _ => ⟨rfl, rfl⟩)
  rw [b1, zbd_e, c1, zbd_e]
  have val : v + tlV E can fam T (nI (si (c - 1))) (nI 0) = nI y := by rw [← y2, snoc]
  rw [val]
  have SP : sK h h10 := b3.trans c7
  have k71 : h10 71 = h 71 := SP.1 71 (by decide) (by decide) (by decide) (by decide) (by decide) (by decide) (by decide)
  have k72 : h10 72 = h 72 := SP.1 72 (by decide) (by decide) (by decide) (by decide) (by decide) (by decide) (by decide)
  have k73 : h10 73 = h 73 := SP.1 73 (by decide) (by decide) (by decide) (by decide) (by decide) (by decide) (by decide)
  have k8 : h10 8 = h 8 := SP.1 8 (by decide) (by decide) (by decide) (by decide) (by decide) (by decide) (by decide)
  have k42 : ∀ i, i < t → h10 42 i = h 42 i ∧ h10 43 i = h 43 i := fun i hi => by rw [c5, c6]; exact b7 i hi
  have A : sA c c (fun j => nI (si j)) fam (g 101) := by
    refine ⟨g0, by omega, by omega, g4, by omega, fun i hi => ⟨(hwf i hi).1, by rw [a8 _ (fun i' _ => by omega)]; exact (hwf i hi).2⟩, fun s hs => Or.inr ⟨si s, (a4 s hs).1, rfl, a9 s hs, fun k hk z => ?_⟩⟩
    obtain ⟨p, p1, p2⟩ := sur k (by have := (a4 s hs).1; omega)
    have := a9 p p1
    rw [p2, z, n_eq (by omega) (by omega)] at this
    subst this
    omega
  obtain ⟨g1, d1, d2⟩ := q_mnow (hM g (fun j hj => a8 j (fun i _ => by omega))) A hnt (fun p hp => by have := hT0 p hp; omega)
  rw [d1, zbd_e, y2]
  have e101 : g1 101 = g 101 := d2.1 101 (by decide) (by decide) (by decide) (by decide)
  have e115 : g1 115 = g 115 := d2.1 115 (by decide) (by decide) (by decide) (by decide)
  have e35 : g1 100 35 = g 100 35 := d2.2 35 (by omega)
  have SQ : sQ g g1 := ⟨fun c c1 _ c3 c4 c5 _ => d2.1 c c1 c3 c4 c5, fun k hk => d2.2 k (by omega)⟩
  unfold f_X8_keepBest
  rw [k71, e35, ← a6]
  by_cases cv : nI y ≤ h 71 4
  · rw [if_pos cv, if_neg (Int32.not_lt.mpr cv), zbd_e]
    have nm : ¬ h 71 4 = -1 := by
      intro z
      rw [z, Int32.le_iff_toInt_le, nI_toInt (by omega)] at cv
      have : (-1 : Int32).toInt = -1 := by decide
      omega
    refine ⟨h10, g1, rfl, rfl, ⟨c2, c3, by rw [k71]; exact a3, fun j hj => by rw [k72]; exact a4 j hj, fun i hi => by rw [k8]; exact a5 i hi, ⟨by rw [k71, e35]; exact a6, Or.inr (by rw [k73, e115]; exact a7.resolve_left nm)⟩, fun j hj => by rw [e101]; exact a8 j hj, fun j hj => by rw [e101]; exact a9 j hj⟩, ⟨c4, k42, SP.sP, SQ⟩, by rw [k71]; exact nm⟩
  rw [if_neg cv, if_pos (Int32.not_le.mp cv), zst_e, zst_e]
  have z3 : zup h10 71 4 (nI y) 71 3 = nI c := by rw [zup_eq, pk_un (by decide), k71]; exact a3
  rw [z3]
  have z7 : ∀ K, (zcc 7 7 (0 : Int32) (0 : Int32) (nI c) K) = K := fun K => zcc_n (n0 := 7) (n1 := 7) (a := 0) (b := 0) (c := c) (by omega) (by omega) (by decide) (by decide)
  rw [z7, zst_e, zbd_e]
  generalize hX : zcp (zup h10 71 4 (nI y)) 72 73 0 0 (nI c) = X
  have xc : ∀ c, c ≠ 71 → c ≠ 73 → X c = h10 c := fun c q1 q2 => by rw [← hX, zcp_ne c q2, zup_ne c q1]
  have x71 : X 71 = upd (h 71) 4 (nI y) := by rw [← hX, zcp_ne 71 (by decide), zup_eq, k71]
  have x73 : ∀ j, j < c → X 73 j = nI (si j) := by
    intro j hj
    have := zcp_n (h := zup h10 71 4 (nI y)) (a := 72) (b := 73) (sp := 0) (dp := 0) (n := c) (by decide) (by decide) (by omega) j
    rw [if_pos (by omega), show 0 + (j - 0) = j by omega, zup_ne 72 (by decide), k72, (a4 j hj).2] at this
    rw [← hX]
    exact this
  obtain ⟨g2, f1, f2, f3⟩ := q_sr32 G hc7 sur zN 0 (zup g1 100 35 (nI y)) (by rw [zup_ne 101 (by decide), e101]; exact g4) (fun j hj => by rw [zup_ne 101 (by decide), e101]; exact ⟨(a4 j hj).1, a9 j hj⟩) (by omega) (by unfold zN; omega) (fun j _ hj => by omega)
  have f1 : f_X12_seatsAll_b_32 G zN 0 (zup g1 100 35 (nI y)) = some (0, g2) := f1
  have h101 : g2 101 = g 101 := by rw [f2 101 (by decide), zup_ne 101 (by decide), e101]
  refine ⟨X, g2, rfl, f1, ⟨c2.far (fun c hc => xc c (by omega) (by omega)), by rw [xc 38 (by decide) (by decide)]; exact c3, by rw [x71, pk_un (by decide)]; exact a3, fun j hj => by rw [xc 72 (by decide) (by decide), k72]; exact a4 j hj, fun i hi => by rw [xc 8 (by decide) (by decide), k8]; exact a5 i hi, ⟨by rw [x71, pk_us, f2 100 (by decide), zup_eq, pk_us], Or.inr (fun j hj => by rw [x73 j hj, f3 j hj])⟩, fun j hj => by rw [h101]; exact a8 j hj, fun j hj => by rw [h101]; exact a9 j hj⟩, ⟨by rw [xc 40 (by decide) (by decide)]; exact c4, fun i hi => by rw [xc 42 (by decide) (by decide), xc 43 (by decide) (by decide)]; exact k42 i hi, SP.sP.trans ⟨fun c _ _ _ _ _ _ _ q8 _ q10 => xc c q8 q10, fun k _ _ => by rw [xc 38 (by decide) (by decide)], by rw [x71, pk_un (by decide), k71]⟩, SQ.trans ⟨fun c q1 _ _ _ _ q6 => by rw [f2 c q6, zup_ne c q1], fun k hk => by rw [f2 100 (by decide), zup_eq, pk_un (by omega)]⟩⟩, by rw [x71, pk_us, n_m1 (by omega)]; exact id⟩
/-- all nodes -/
theorem q_place {E : zEv} {can : Nat → Nat → Bool} {T0 : zTe} {fam : Nat → Nat} {c : Nat} {w : Nat → Int32} (hc3 : 3 ≤ c) (hc7 : c ≤ 7) (hnt : E.nt < 2 ^ 30) (hT0 : ∀ p, p < 256 → T0.1 p + 8 < 2 ^ 30) (hw0 : w 0 = nI c) (hw4 : w 4 = nI c) (hwf : ∀ i, i < c → fam i < 6 ∧ w (180 + 2 * i) = nI (fam i)) (hM : ∀ g' : zH, (∀ j, ((j < 180 ∧ j ≠ 0 ∧ j ≠ 4) ∨ 196 ≤ j) → g' 101 j = w j) → tM E can T0 g') : ∀ d k S si v T t h g, 1 ≤ k → k ≤ c → c < d + k → sit E can fam c w k si T t h g → bitI c k S si → t + 1 ≤ k → mry E can fam (fun j => nI (si j)) c (k - 1) 0 0 T0 = (v, T) → ∃ h' g', f_X8_place d (nI k) S v h = some (0, h') ∧ f_X12_seatsAll d S (nI k) g = some (0, g') ∧ sit E can fam c w k si T t h' g' ∧ sitO t h g h' g' ∧ ¬ h' 71 4 = -1 := by
  intro d
  induction d with
  | zero => intro k S si v T t h g h1 h2 h3; omega
  | succ d ihd =>
    intro k S si v T t h g hk1 hkc hd I B ht hv
    show ∃ h' g', f_X8_place_b (f_X8_place d) (nI k) S v h = some (0, h') ∧ f_X12_seatsAll_b (f_X12_seatsAll d) S (nI k) g = some (0, g') ∧ _
    by_cases hk : k = c
    · subst hk
      exact q_leaf (f_X8_place d) (f_X12_seatsAll d) hc3 hc7 hnt hT0 hw0 hw4 hwf hM I B ht hv
    have B' := B
    obtain ⟨s1, s2, s3, s4⟩ := B
    have hTb : ∀ p, p < 256 → T.1 p + 1 < 2 ^ 30 := by
      intro p hp
      have : T.1 p ≤ T0.1 p + (k - 1) := by
        have := mry_b (E := E) (can := can) (fam := fam) (si := fun j => nI (si j)) (sn := c) p (k - 1) 0 0 T0
        rw [hv] at this
        exact this
      have := hT0 p hp
      omega
    have loop : ∀ n m i h g, 1 ≤ i → i ≤ c → c < n + i → c < m + i → sit E can fam c w k si T t h g → ∃ h' g', f_X8_place_b_52 (f_X8_place d) n (nI k) S v (nI i) h = some (0, h') ∧ f_X12_seatsAll_b_66 (f_X12_seatsAll d) m S (nI k) (nI i) g = some (0, g') ∧ sit E can fam c w k si T t h' g' ∧ sitO t h g h' g' ∧ ((¬ h 71 4 = -1 ∨ ∃ q, i ≤ q ∧ q < c ∧ hb S q = false) → ¬ h' 71 4 = -1) := by
      intro n
      induction n with
      | zero => intro m i h g _ h1 h2; omega
      | succ n ih =>
        intro m i h g hi1 hic hn hm I
        obtain ⟨m, rfl⟩ : ∃ k, m = k + 1 := ⟨m - 1, by omega⟩
        have II := I
        obtain ⟨a1, a2, a3, a4, a5, a6, a8, a9⟩ := I
        have g4 : g 101 4 = nI c := by rw [a8 4 (fun i _ => by omega)]; exact hw4
        simp only [f_X8_place_b_52, f_X12_seatsAll_b_66, a3, g4]
        by_cases hi : i = c
        · subst hi
          rw [if_pos (Int32.le_refl _), if_pos (Int32.le_refl _)]
          exact ⟨h, g, rfl, rfl, II, sitO.refl t h g, fun z => z.elim id (fun ⟨q, q1, q2, _⟩ => by omega)⟩
        have hle : ¬ nI c ≤ nI i := by rw [n_le (by omega) (by omega)]; omega
        rw [if_neg hle, if_neg hle, q_isIn i (by omega), zbd_e, hb_in S i (by omega)]
        simp only [f_X8_place_b_120, f_X12_seatsAll_b_106, zlt_e, zst_e, nI_1, i_10, i01]
        cases hS : hb S i with
        | true =>
          simp only [not_true_eq_false, if_false, if_true]
          obtain ⟨h', g', p1, p2, p3, p4, p5⟩ := ih m (i + 1) h g (by omega) (by omega) (by omega) (by omega) II
          refine ⟨h', g', p1, p2, p3, p4, fun z => p5 (z.imp id (fun ⟨q, q1, q2, q3⟩ => ⟨q, ?_, q2, q3⟩))⟩
          have : q ≠ i := by intro z; subst z; rw [hS] at q3; cases q3
          omega
        | false =>
          simp only [Bool.false_eq_true, not_false_eq_true, if_true, if_false]
          rw [zck_n (by omega) (by decide), n_cl (by omega), n_s1n (by omega), n_cl (by omega), zck_n (by omega) (by decide), q_sits i (by omega), zbd_e]
          generalize hX : zup h 72 k (nI i) = X
          have xc : ∀ c, c ≠ 72 → X c = h c := fun c hc => by rw [← hX, zup_ne c hc]
          have x72 : ∀ j, j < k → X 72 j = nI (si j) := fun j hj => by rw [← hX, zup_eq, pk_un (by omega)]; exact (a4 j hj).2
          have xk : X 72 k = nI i := by rw [← hX, zup_eq, pk_us]
          rw [x72 (k - 1) (by omega)]
          have RX : tC E can T X := a1.far (fun c hc => xc c (by omega))
          obtain ⟨h6, t', b1, b2, b3, b4, b5, b6, b7, b8⟩ := q_tellB2 (fam := fam) (gn := c) RX (by rw [xc 38 (by decide)]; exact a2) (by omega) hTb (by omega) (fun i hi => ⟨(hwf i hi).1, by rw [xc 8 (by decide)]; exact a5 i hi⟩) (nI (si (k - 1))) (nI i) (Or.inr ⟨_, (a4 (k - 1) (by omega)).1, rfl⟩) (Or.inr ⟨i, by omega, rfl⟩)
          rw [b1, zbd_e]
          -- one deeper
          have q71 : h6 71 = h 71 := by rw [b3.1 71 (by decide) (by decide) (by decide) (by decide) (by decide) (by decide) (by decide), xc 71 (by decide)]
          have q72 : h6 72 = X 72 := b3.1 72 (by decide) (by decide) (by decide) (by decide) (by decide) (by decide) (by decide)
          have q73 : h6 73 = h 73 := by rw [b3.1 73 (by decide) (by decide) (by decide) (by decide) (by decide) (by decide) (by decide), xc 73 (by decide)]
          have q8 : h6 8 = h 8 := by rw [b3.1 8 (by decide) (by decide) (by decide) (by decide) (by decide) (by decide) (by decide), xc 8 (by decide)]
          have sj : ∀ j, j < k → si j ≠ i := by
            intro j hj z
            have := s2 j hj
            rw [z, hS] at this
            cases this
          have I6 : sit E can fam c w (k + 1) (fun j => if j = k then i else si j) (tlT E can fam T (nI (si (k - 1))) (nI i)) t' h6 (zup g 101 (181 + 2 * i) (nI k)) := by
            refine ⟨b2, b4, by rw [q71]; exact a3, fun j hj => ?_, fun i hi => by rw [q8]; exact a5 i hi, by rw [q71, q73, zup_ne 100 (by decide), zup_ne 115 (by decide)]; exact a6, fun j hj => ?_, fun j hj => ?_⟩
            · rw [q72]
              by_cases e : j = k
              · subst e; simp only [if_true]; exact ⟨by omega, xk⟩
              · simp only [if_neg e]; exact ⟨(a4 j (by omega)).1, x72 j (by omega)⟩
            · rw [zup_eq, pk_un (hj i (by omega))]; exact a8 j hj
            · by_cases e : j = k
              · subst e; simp only [if_true]; rw [zup_eq, pk_us]
              · simp only [if_neg e]
                have := sj j (by omega)
                rw [zup_eq, pk_un (by omega)]
                exact a9 j (by omega)
          have B6 : bitI c (k + 1) (S ||| ((1 : Int32) <<< (nI i &&& 31))) (fun j => if j = k then i else si j) := by
            refine ⟨fun q hq hs => ?_, fun j hj => ?_, ?_, ?_⟩
            · rw [hb_set S (by omega) (by omega)] at hs
              by_cases e : q = i
              · exact ⟨k, by omega, by simp only [if_true]; exact e.symm⟩
              · rw [decide_eq_false e, Bool.or_false] at hs
                obtain ⟨j, j1, j2⟩ := s1 q hq hs
                exact ⟨j, by omega, by simp only [if_neg (show ¬ j = k by omega)]; exact j2⟩
            · by_cases e : j = k
              · simp only [if_pos e]
                rw [hb_set S (by omega) (by omega)]; simp
              · simp only [if_neg e]
                rw [hb_set S (by omega) (by have := (a4 j (by omega)).1; omega), s2 j (by omega)]; rfl
            · rw [sCnt_set (by omega) hS c (by omega), s3, if_pos (by omega)]
            · show (if 0 = k then i else si 0) = 0
              rw [if_neg (by omega)]; exact s4
          have hv6 : mry E can fam (fun j => nI (if j = k then i else si j)) c (k + 1 - 1) 0 0 T0 = (v + tlV E can fam T (nI (si (k - 1))) (nI i), tlT E can fam T (nI (si (k - 1))) (nI i)) := by
            have e1 := mry_snoc E can fam (fun j => nI (if j = k then i else si j)) c (k - 1) 0 0 T0
            rw [show k - 1 + 1 = k by omega, show 0 + (k - 1) = k - 1 by omega, show nxt c (k - 1) = k by unfold nxt; rw [if_pos (by omega)]; omega] at e1
            rw [Nat.add_sub_cancel, e1, mry_cong (si' := fun j => nI (si j)) (k - 1) 0 0 T0 (fun j j1 j2 => ?_), hv]
            · simp only [if_true, if_neg (show ¬ k - 1 = k by omega)]
            · simp only [if_neg (show ¬ j = k by omega), if_neg (show ¬ nxt c j = k by unfold nxt; rw [if_pos (by omega)]; omega)]
              exact ⟨trivial, trivial⟩
          obtain ⟨h8, g8, p1, p2, ⟨r1, r2, r3, r4, r5, r6, r8, r9⟩, ⟨o1, o2, o3, o4⟩, p5⟩ := ihd (k + 1) _ _ _ _ t' h6 (zup g 101 (181 + 2 * i) (nI k)) (by omega) (by omega) (by omega) I6 B6 (by omega) hv6
          rw [p1, zbd_e, p2, zbd_e]
          obtain ⟨h10, c1, c2, c3, c4, c5, c6, c7⟩ := b8 h8 r1 r2 o1 (by rw [o3.1 12 (by decide) (by decide) (by decide) (by decide) (by decide) (by decide) (by decide) (by decide) (by decide) (by decide), b3.1 12 (by decide) (by decide) (by decide) (by decide) (by decide) (by decide) (by decide)]) (by rw [o3.1 13 (by decide) (by decide) (by decide) (by decide) (by decide) (by decide) (by decide) (by decide) (by decide) (by decide), b3.1 13 (by decide) (by decide) (by decide) (by decide) (by decide) (by decide) (by decide)]) o2
          rw [c1, zbd_e]
          have k71 : h10 71 = h8 71 := c7.1 71 (by decide) (by decide) (by decide) (by decide) (by decide) (by decide) (by decide)
          have k72 : h10 72 = h8 72 := c7.1 72 (by decide) (by decide) (by decide) (by decide) (by decide) (by decide) (by decide)
          have k73 : h10 73 = h8 73 := c7.1 73 (by decide) (by decide) (by decide) (by decide) (by decide) (by decide) (by decide)
          have k8 : h10 8 = h8 8 := c7.1 8 (by decide) (by decide) (by decide) (by decide) (by decide) (by decide) (by decide)
          have I10 : sit E can fam c w k si T t h10 g8 := by
            refine ⟨c2, c3, by rw [k71]; exact r3, fun j hj => ?_, fun i hi => by rw [k8]; exact r5 i hi, by rw [k71, k73]; exact r6, r8, fun j hj => ?_⟩
            · have := r4 j (by omega)
              simp only [if_neg (show ¬ j = k by omega)] at this
              rw [k72]; exact this
            · have := r9 j (by omega)
              simp only [if_neg (show ¬ j = k by omega)] at this
              exact this
          have O10 : sitO t h g h10 g8 := by
            refine ⟨by rw [c4, xc 40 (by decide)], fun q hq => ?_, ?_, ?_⟩
            · rw [c5, c6, (o2 q (by omega)).1, (o2 q (by omega)).2, (b7 q hq).1, (b7 q hq).2, xc 42 (by decide), xc 43 (by decide)]
              exact ⟨rfl, rfl⟩
            · have sx : sP h X := ⟨fun c _ _ _ _ _ _ _ _ q9 _ => xc c q9, fun k _ _ => by rw [xc 38 (by decide)], by rw [xc 71 (by decide)]⟩
              exact sx.trans (b3.sP.trans (o3.trans c7.sP))
            · exact (show sQ g (zup g 101 (181 + 2 * i) (nI k)) from ⟨fun c _ q2 _ _ _ _ => zup_ne c q2, fun k _ => by rw [zup_ne 100 (by decide)]⟩).trans o4
          obtain ⟨h', g', u1, u2, u3, u4, u5⟩ := ih m (i + 1) h10 g8 (by omega) (by omega) (by omega) (by omega) I10
          exact ⟨h', g', u1, u2, u3, O10.trans u4, fun _ => u5 (Or.inl (by rw [k71]; exact p5))⟩
    obtain ⟨h', g', p1, p2, p3, p4, p5⟩ := loop zN zN 1 h g (by omega) (by omega) (by unfold zN; omega) (by unfold zN; omega) I
    have g0 : g 101 0 = nI c := by rw [I.2.2.2.2.2.2.1 0 (fun i _ => by omega)]; exact hw0
    refine ⟨h', g', ?_, ?_, p3, p4, p5 (Or.inr ?_)⟩
    · unfold f_X8_place_b
      rw [I.2.2.1, if_pos (nI_lt (by omega) (by omega))]
      exact p1
    · unfold f_X12_seatsAll_b
      rw [g0, if_neg (by rw [n_eq (by omega) (by omega)]; omega)]
      exact p2
    · obtain ⟨q, q1, q2⟩ := sCnt_ex c (by rw [s3]; omega)
      refine ⟨q, ?_, q1, q2⟩
      have : q ≠ 0 := by
        intro z
        have := s2 0 (by omega)
        rw [s4, ← z, q2] at this
        cases this
      omega
