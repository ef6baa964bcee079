/-! telling in thought -/
def tT (E : zEv) (T : zTe) (f e : Nat) : zTe := (fun q => if q = f * 16 + e then T.1 q + 1 else T.1 q, fun q => if q = f * 16 + e then E.nt else T.2 q)
def tlT (E : zEv) (can : Nat → Nat → Bool) (fam : Nat → Nat) (T : zTe) (x y : Int32) : zTe := if (tlG E can fam T x y).1 ≤ 0 then T else tT E T (tlG E can fam T x y).2.1 (tlG E can fam T x y).2.2
def tlV (E : zEv) (can : Nat → Nat → Bool) (fam : Nat → Nat) (T : zTe) (x y : Int32) : Int32 := if (tlG E can fam T x y).1 ≤ 0 then 0 else (tlG E can fam T x y).1
theorem eV_T {E : zEv} {T : zTe} {f e a b : Nat} (he : e < 16) (hb : b < 16) (hne : ¬ (a * 16 + b = f * 16 + e)) : eV E (tT E T f e) a b = eV E T a b := by
  unfold eV tT
  simp only [if_neg hne]
theorem tlG_ok (E : zEv) (can : Nat → Nat → Bool) (fam : Nat → Nat) (T : zTe) (x y : Int32) (h : ¬ (tlG E can fam T x y).1 ≤ 0) : (tlG E can fam T x y).2.1 < E.n ∧ (tlG E can fam T x y).2.2 < E.n ∧ (tlG E can fam T x y).1 = eV E T (tlG E can fam T x y).2.1 (tlG E can fam T x y).2.2 := by
  unfold tlG at *
  by_cases c : x = -1 ∨ y = -1
  · rw [if_pos c] at h; exact absurd (by decide) h
  · rw [if_neg c] at h ⊢
    rcases fnd_ok E can T (fam x.toNatClampNeg) (fam y.toNatClampNeg) with z | ⟨z1, z2, z3, z4, z5⟩
    · exact absurd (by rw [z]; decide) h
    · exact ⟨z2, z3, z5⟩
def cTa (nt : Nat) (T : zTe) (To La Mo : Nat → Int32) : Prop := ∀ p, p < 256 → ∃ m0 m : Nat, To p = nI m0 ∧ Mo p = nI m ∧ m0 + m = T.1 p ∧ T.1 p < 2 ^ 30 ∧ (T.1 p = 0 ∨ (0 < m ∧ T.2 p = nt) ∨ (m = 0 ∧ La p = nI (T.2 p)))
theorem cTa.tell {E : zEv} {T : zTe} {To La Mo : Nat → Int32} (H : cTa E.nt T To La Mo) {f e : Nat} (hf : f < 16) (he : e < 16) (hb : T.1 (f * 16 + e) + 1 < 2 ^ 30) : cTa E.nt (tT E T f e) To La (upd Mo (f * 16 + e) (Mo (f * 16 + e) + 1)) := by
  intro p hp
  obtain ⟨m0, m, a1, a2, a3, a4, a5⟩ := H p hp
  unfold tT
  by_cases c : p = f * 16 + e
  · subst c
    refine ⟨m0, m + 1, a1, by rw [pk_us, a2, nI_1], ?_, ?_, Or.inr (Or.inl ⟨by omega, ?_⟩)⟩
    · simp only [if_true]; omega
    · simp only [if_true]; omega
    · simp only [if_true]
  · refine ⟨m0, m, a1, by rw [pk_un c]; exact a2, ?_, ?_, ?_⟩
    · simp only [if_neg c]; exact a3
    · simp only [if_neg c]; exact a4
    · simp only [if_neg c]; exact a5
/-- frames of telling and taking back -/
def sK (h h' : zH) : Prop := (∀ c, c ≠ 19 → c ≠ 21 → c ≠ 38 → c ≠ 39 → c ≠ 40 → c ≠ 42 → c ≠ 43 → h' c = h c) ∧ ∀ k, k ≤ 8 → k ≠ 6 → h' 38 k = h 38 k
theorem sK.refl (h : zH) : sK h h := ⟨fun _ _ _ _ _ _ _ _ => rfl, fun _ _ _ => rfl⟩
theorem sK.trans {h h' h'' : zH} (a : sK h h') (b : sK h' h'') : sK h h'' := ⟨fun c c1 c2 c3 c4 c5 c6 c7 => (b.1 c c1 c2 c3 c4 c5 c6 c7).trans (a.1 c c1 c2 c3 c4 c5 c6 c7), fun k hk hk2 => (b.2 k hk hk2).trans (a.2 k hk hk2)⟩
theorem sC.sK {h h' : zH} (a : sC h h') : sK h h' := ⟨fun c c1 c2 c3 c4 _ _ _ => a.1 c c1 c2 c3 c4, fun k hk _ => a.2 k hk⟩
theorem tC.move {E : zEv} {can : Nat → Nat → Bool} {T T' : zTe} {h h' : zH} (H : tC E can T h) (s : sK h h') (ht : cTa E.nt T' (h' 12) (h' 13) (h' 40)) (m : cM E T' h') : tC E can T' h' := by
  obtain ⟨a, b, c, d⟩ := H
  exact ⟨a.same (fun c hc => s.1 c (by omega) (by omega) (by omega) (by omega) (by omega) (by omega) (by omega)), ht, m, d.same (s.1 41 (by omega) (by omega) (by omega) (by omega) (by omega) (by omega) (by omega)) (s.2 7 (by omega) (by omega)) (s.2 8 (by omega) (by omega))⟩
/-- tellBetween -/
theorem q_tellB {E : zEv} {can : Nat → Nat → Bool} {T : zTe} {gn k : Nat} {fam : Nat → Nat} {h : zH} (R : tC E can T h) (hk : h 38 6 = nI k) (hk8 : k < 8) (hT : ∀ p, p < 256 → T.1 p + 1 < 2 ^ 30) (hg : gn ≤ 8) (hfam : ∀ i, i < gn → fam i < 6 ∧ h 8 i = nI (fam i)) (x y : Int32) (hx : x = -1 ∨ ∃ i, i < gn ∧ x = nI i) (hy : y = -1 ∨ ∃ i, i < gn ∧ y = nI i) : ∃ h', f_X1_tellBetween x y h = some (tlV E can fam T x y, h') ∧ tC E can (tlT E can fam T x y) h' ∧ sK h h' ∧ ((tlG E can fam T x y).1 ≤ 0 ∧ h' 38 6 = nI k ∧ h' 40 = h 40 ∧ h' 42 = h 42 ∧ h' 43 = h 43 ∨ ¬ (tlG E can fam T x y).1 ≤ 0 ∧ h' 38 6 = nI (k + 1) ∧ ∃ f e, f < 16 ∧ e < 16 ∧ tlT E can fam T x y = tT E T f e ∧ h' 40 = upd (h 40) (f * 16 + e) (h 40 (f * 16 + e) + 1) ∧ h' 42 = upd (h 42) k (nI (f * 16 + e)) ∧ h' 43 = upd (h 43) k (eV E T f e)) := by
  have okk := tlG_ok E can fam T x y
  unfold f_X1_tellBetween f_X1_tellBetween_19
  rw [hk, if_neg (show ¬ (8 : Int32) ≤ nI k by rw [l_8, n_le (by omega) (by omega)]; omega)]
  unfold tlT tlV
  have none0 : (tlG E can fam T x y).1 ≤ 0 → ∃ h', some (0, h) = some (if (tlG E can fam T x y).1 ≤ 0 then 0 else (tlG E can fam T x y).1, h') ∧ tC E can (if (tlG E can fam T x y).1 ≤ 0 then T else tT E T (tlG E can fam T x y).2.1 (tlG E can fam T x y).2.2) h' ∧ sK h h' ∧ ((tlG E can fam T x y).1 ≤ 0 ∧ h' 38 6 = nI k ∧ h' 40 = h 40 ∧ h' 42 = h 42 ∧ h' 43 = h 43 ∨ ¬ (tlG E can fam T x y).1 ≤ 0 ∧ h' 38 6 = nI (k + 1) ∧ ∃ f e, f < 16 ∧ e < 16 ∧ (if (tlG E can fam T x y).1 ≤ 0 then T else tT E T (tlG E can fam T x y).2.1 (tlG E can fam T x y).2.2) = tT E T f e ∧ h' 40 = upd (h 40) (f * 16 + e) (h 40 (f * 16 + e) + 1) ∧ h' 42 = upd (h 42) k (nI (f * 16 + e)) ∧ h' 43 = upd (h 43) k (eV E T f e)) := by
    intro z
    rw [if_pos z, if_pos z]
    exact ⟨h, rfl, R, sK.refl h, Or.inl ⟨z, hk, rfl, rfl, rfl⟩⟩
  rcases hx with hx | ⟨i, i1, i2⟩
  · rw [if_pos hx]
    exact none0 (by unfold tlG; rw [if_pos (Or.inl hx)]; decide)
  have hx' : ¬ x = -1 := by rw [i2, n_m1 (by omega)]; exact id
  rcases hy with hy | ⟨j, j1, j2⟩
  · rw [if_neg hx', if_pos hy]
    exact none0 (by unfold tlG; rw [if_pos (Or.inr hy)]; decide)
  have hy' : ¬ y = -1 := by rw [j2, n_m1 (by omega)]; exact id
  clear none0
  rw [if_neg hx', if_neg hy']
  have hG : tlG E can fam T x y = fnd E can T (fam i) (fam j) := by
    unfold tlG
    rw [if_neg (fun z => z.elim hx' hy'), i2, j2, n_cl (by omega), n_cl (by omega)]
  rw [hG] at okk ⊢
  obtain ⟨f1, f2⟩ := hfam i i1
  obtain ⟨f3, f4⟩ := hfam j j1
  subst i2 j2
  rw [n_cl (by omega), n_cl (by omega), zck_n (by omega) (by decide), zck_n (by omega) (by decide), f2, f4]
  obtain ⟨h1, e1, e2, e3, e4⟩ := q_findOf R (fam i) (fam j) f1 f3
  rw [e1, zbd_e]
  generalize fnd E can T (fam i) (fam j) = G at *
  have h40 : h1 40 = h 40 := e3.1 40 (by decide) (by decide) (by decide) (by decide)
  have h42 : h1 42 = h 42 := e3.1 42 (by decide) (by decide) (by decide) (by decide)
  have h43 : h1 43 = h 43 := e3.1 43 (by decide) (by decide) (by decide) (by decide)
  have h38 : h1 38 6 = nI k := by rw [e3.2 6 (by decide)]; exact hk
  by_cases c : G.1 ≤ 0
  · rw [if_pos c, if_pos c, if_pos c, if_pos rfl]
    exact ⟨h1, rfl, e2, e3.sK, Or.inl ⟨c, h38, h40, h42, h43⟩⟩
  have hc0 : ¬ G.1 = 0 := fun z => c (by rw [z]; decide)
  obtain ⟨o1, o2, o3⟩ := okk c
  obtain ⟨e5, e6⟩ := e4.2.resolve_left hc0
  have hn := R.1.1
  rw [if_neg c, if_neg c, if_neg c, if_neg (show ¬ (1 : Int32) = 0 by decide)]
  unfold f_X11_pairOf
  simp only [zbd_e, zst_e, e5, e6, l_16, n_mul, n_add]
  have z38 : ∀ (h : zH) (k : Nat) x, zup h 42 k x 38 = h 38 := fun h k x => zup_ne 38 (by decide)
  have z38' : ∀ (h : zH) (k : Nat) x, zup h 43 k x 38 = h 38 := fun h k x => zup_ne 38 (by decide)
  simp only [z38, z38', h38, n_cl (show k < 2 ^ 31 by omega), zck_n (show k < 8 by omega) (by decide), zck_n (show G.2.1 * 16 + G.2.2 < 256 by omega) (by decide), n_cl (show G.2.1 * 16 + G.2.2 < 2 ^ 31 by omega), nI_1, e4.1]
  generalize hX : zup (zup (zup (zup (zup h1 42 k (nI (G.2.1 * 16 + G.2.2))) 43 k G.1) 38 6 (nI (k + 1))) 40 (G.2.1 * 16 + G.2.2) (zup (zup (zup h1 42 k (nI (G.2.1 * 16 + G.2.2))) 43 k G.1) 38 6 (nI (k + 1)) 40 (G.2.1 * 16 + G.2.2) + 1)) 39 (G.2.1 * 16 + G.2.2) (-1) = X
  have x11 : X 38 11 = G.1 := by
    rw [← hX, zup_ne 38 (by decide), zup_ne 38 (by decide), zup_eq, pk_un (by decide), zup_ne 38 (by decide), zup_ne 38 (by decide), e4.1]
  have x6 : X 38 6 = nI (k + 1) := by
    rw [← hX, zup_ne 38 (by decide), zup_ne 38 (by decide), zup_eq, pk_us]
  have x40 : X 40 = upd (h 40) (G.2.1 * 16 + G.2.2) (h 40 (G.2.1 * 16 + G.2.2) + 1) := by
    rw [← hX, zup_ne 40 (by decide), zup_eq, zup_ne 40 (by decide), zup_ne 40 (by decide), zup_ne 40 (by decide), h40]
  have x42 : X 42 = upd (h 42) k (nI (G.2.1 * 16 + G.2.2)) := by
    rw [← hX, zup_ne 42 (by decide), zup_ne 42 (by decide), zup_ne 42 (by decide), zup_ne 42 (by decide), zup_eq, h42]
  have x43 : X 43 = upd (h 43) k (eV E T G.2.1 G.2.2) := by
    rw [← hX, zup_ne 43 (by decide), zup_ne 43 (by decide), zup_ne 43 (by decide), zup_eq, zup_ne 43 (by decide), h43, o3]
  have x39 : X 39 = upd (h1 39) (G.2.1 * 16 + G.2.2) (-1) := by
    rw [← hX, zup_eq, zup_ne 39 (by decide), zup_ne 39 (by decide), zup_ne 39 (by decide), zup_ne 39 (by decide)]
  have xS : sK h X := by
    refine ⟨fun c c1 c2 c3 c4 c5 c6 c7 => ?_, fun q q1 q2 => ?_⟩
    · rw [← hX, zup_ne c c4, zup_ne c c5, zup_ne c c3, zup_ne c c7, zup_ne c c6, e3.1 c c1 c2 c3 c4]
    · rw [← hX, zup_ne 38 (by decide), zup_ne 38 (by decide), zup_eq, pk_un q2, zup_ne 38 (by decide), zup_ne 38 (by decide), e3.2 q q1]
  refine ⟨X, by rw [x11], R.move xS ?_ ?_, xS, Or.inr ⟨c, x6, G.2.1, G.2.2, by omega, by omega, rfl, x40, x42, x43⟩⟩
  · rw [x40, xS.1 12 (by decide) (by decide) (by decide) (by decide) (by decide) (by decide) (by decide), xS.1 13 (by decide) (by decide) (by decide) (by decide) (by decide) (by decide) (by decide)]
    exact cTa.tell R.2.1 (by omega) (by omega) (hT _ (by omega))
  · intro a b ha hb
    rw [x39]
    by_cases hp : a * 16 + b = G.2.1 * 16 + G.2.2
    · rw [hp, pk_us]; exact Or.inl rfl
    · rw [pk_un hp, eV_T (by omega) hb hp]
      exact e2.2.2.1 a b ha hb
/-- taking back -/
theorem q_untell0 {h : zH} (hk : h 38 6 = nI 0) : f_X1_untell h = some (0, h) := by
  unfold f_X1_untell
  rw [hk, if_pos (by decide)]
theorem i_back (x : Int32) : x + 1 - 1 = x := by
  rw [Int32.sub_eq_add_neg, Int32.add_assoc, show (1 : Int32) + -1 = 0 by decide, Int32.add_zero]
theorem q_untell {E : zEv} {can : Nat → Nat → Bool} {T : zTe} {k f e : Nat} {h : zH} {M : Nat → Int32} (hf : f < 16) (he : e < 16) (hk8 : k < 8) (R : tC E can (tT E T f e) h) (hk : h 38 6 = nI (k + 1)) (h42 : h 42 k = nI (f * 16 + e)) (h43 : h 43 k = eV E T f e) (h40 : h 40 = upd M (f * 16 + e) (M (f * 16 + e) + 1)) (ht : cTa E.nt T (h 12) (h 13) M) : ∃ h', f_X1_untell h = some (0, h') ∧ tC E can T h' ∧ h' 38 6 = nI k ∧ h' 40 = M ∧ h' 42 = h 42 ∧ h' 43 = h 43 ∧ sK h h' := by
  unfold f_X1_untell
  rw [hk, if_neg (show ¬ nI (k + 1) ≤ 0 by rw [l_0, n_le (by omega) (by omega)]; omega), n_s1n (by omega), Nat.add_sub_cancel]
  simp only [zst_e, zlt_e]
  have e1 : zup h 38 6 (nI k) 38 6 = nI k := by rw [zup_eq, pk_us]
  have e2 : zup h 38 6 (nI k) 42 = h 42 := zup_ne 42 (by decide)
  have e3 : zup h 38 6 (nI k) 40 = h 40 := zup_ne 40 (by decide)
  rw [e1, e2, n_cl (by omega), h42, e3, n_cl (by omega), zck_n (by omega) (by decide), zck_n (by omega) (by decide), zck_n (by omega) (by decide), zup_ne 38 (by decide), e1, n_cl (by omega), zck_n (by omega) (by decide), zck_n (by omega) (by decide), zup_ne 43 (by decide), zup_ne 43 (by decide), h43, h40, pk_us, i_back]
  generalize hX : zup (zup (zup h 38 6 (nI k)) 40 (f * 16 + e) (M (f * 16 + e))) 39 (f * 16 + e) (eV E T f e) = X
  have x40 : X 40 = M := by
    rw [← hX, zup_ne 40 (by decide), zup_eq, zup_ne 40 (by decide), h40]
    funext q
    by_cases hq : q = f * 16 + e
    · subst hq; rw [pk_us]
    · rw [pk_un hq, pk_un hq]
  have xS : sK h X := by
    refine ⟨fun c c1 c2 c3 c4 c5 c6 c7 => ?_, fun q q1 q2 => ?_⟩
    · rw [← hX, zup_ne c c4, zup_ne c c5, zup_ne c c3]
    · rw [← hX, zup_ne 38 (by decide), zup_ne 38 (by decide), zup_eq, pk_un q2]
  refine ⟨X, rfl, R.move xS ?_ ?_, ?_, x40, ?_, ?_, xS⟩
  · rw [x40, xS.1 12 (by decide) (by decide) (by decide) (by decide) (by decide) (by decide) (by decide), xS.1 13 (by decide) (by decide) (by decide) (by decide) (by decide) (by decide) (by decide)]
    exact ht
  · intro a b ha hb
    rw [← hX, zup_eq, zup_ne 39 (by decide), zup_ne 39 (by decide)]
    by_cases hp : a * 16 + b = f * 16 + e
    · rw [hp, pk_us]
      have : a = f := by omega
      have : b = e := by omega
      subst a b
      exact Or.inr rfl
    · rw [pk_un hp]
      have := R.2.2.1 a b ha hb
      rw [eV_T he hb hp] at this
      exact this
  · rw [← hX, zup_ne 38 (by decide), zup_ne 38 (by decide), zup_eq, pk_us]
  · rw [← hX, zup_ne 42 (by decide), zup_ne 42 (by decide), zup_ne 42 (by decide)]
  · rw [← hX, zup_ne 43 (by decide), zup_ne 43 (by decide), zup_ne 43 (by decide)]
/-- the trail of what was told in thought -/
def trW (E : zEv) (To La Pp Lp : Nat → Int32) (T0 : zTe) (M0 : Nat → Int32) : Nat → zTe → (Nat → Int32) → Prop
  | 0, T, M => T = T0 ∧ M = M0
  | k + 1, T, M => ∃ f e T1 M1, f < 16 ∧ e < 16 ∧ Pp k = nI (f * 16 + e) ∧ Lp k = eV E T1 f e ∧ T = tT E T1 f e ∧ M = upd M1 (f * 16 + e) (M1 (f * 16 + e) + 1) ∧ cTa E.nt T1 To La M1 ∧ trW E To La Pp Lp T0 M0 k T1 M1
theorem trW.cong {E : zEv} {To La Pp Lp Pp' Lp' : Nat → Int32} {T0 : zTe} {M0 : Nat → Int32} : ∀ k T M, trW E To La Pp Lp T0 M0 k T M → (∀ i, i < k → Pp' i = Pp i ∧ Lp' i = Lp i) → trW E To La Pp' Lp' T0 M0 k T M := by
  intro k
  induction k with
  | zero => intro T M H _; exact H
  | succ k ih =>
    intro T M ⟨f, e, T1, M1, a1, a2, a3, a4, a5, a6, a7, a8⟩ hc
    exact ⟨f, e, T1, M1, a1, a2, (hc k (by omega)).1.trans a3, (hc k (by omega)).2.trans a4, a5, a6, a7, ih T1 M1 a8 (fun i hi => hc i (by omega))⟩
