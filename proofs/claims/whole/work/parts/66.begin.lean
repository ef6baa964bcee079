/-! who sits there; the sets that an evening begins with -/
def sA (sn gn : Nat) (si : Nat → Int32) (fam : Nat → Nat) (w : Nat → Int32) : Prop := w 0 = nI sn ∧ 1 ≤ sn ∧ sn ≤ 8 ∧ w 4 = nI gn ∧ gn ≤ 8 ∧ (∀ i, i < gn → fam i < 6 ∧ w (180 + 2 * i) = nI (fam i)) ∧ ∀ s, s < sn → (si s = -1 ∧ ∀ i, i < gn → ¬ w (181 + 2 * i) = nI s) ∨ ∃ i, i < gn ∧ si s = nI i ∧ w (181 + 2 * i) = nI s ∧ ∀ k, k < i → ¬ w (181 + 2 * k) = nI s
theorem sA.w {sn gn : Nat} {si : Nat → Int32} {fam : Nat → Nat} {w w' : Nat → Int32} (H : sA sn gn si fam w) (h0 : w' 0 = w 0) (h4 : w' 4 = w 4) (hw : ∀ j, 180 ≤ j → j < 196 → w' j = w j) : sA sn gn si fam w' := by
  obtain ⟨a1, a2, a3, a4, a5, a6, a7⟩ := H
  refine ⟨by rw [h0]; exact a1, a2, a3, by rw [h4]; exact a4, a5, fun i hi => ⟨(a6 i hi).1, by rw [hw _ (by omega) (by omega)]; exact (a6 i hi).2⟩, fun s hs => ?_⟩
  rcases a7 s hs with ⟨b1, b2⟩ | ⟨i, b1, b2, b3, b4⟩
  · exact Or.inl ⟨b1, fun i hi => by rw [hw _ (by omega) (by omega)]; exact b2 i hi⟩
  · exact Or.inr ⟨i, b1, b2, by rw [hw _ (by omega) (by omega)]; exact b3, fun k hk => by rw [hw _ (by omega) (by omega)]; exact b4 k hk⟩
theorem q_gat {sn gn : Nat} {si : Nat → Int32} {fam : Nat → Nat} {g : zH} (H : sA sn gn si fam (g 101)) (s : Nat) (hs : s < sn) : f_X12_guestAt (nI s) g = some (si s, g) := by
  obtain ⟨a1, a2, a3, a4, a5, a6, a7⟩ := H
  have loop : ∀ n i, gn < n + i → i ≤ gn → (∀ j, j < i → ¬ g 101 (181 + 2 * j) = nI s) → f_X12_guestAt_2 n (nI s) (nI i) g = some (si s, g) := by
    intro n
    induction n with
    | zero => intro i h1 h2; omega
    | succ n ih =>
      intro i h1 h2 h3
      simp only [f_X12_guestAt_2, a4]
      by_cases h4 : gn ≤ i
      · rw [if_pos (nI_le h4 (by omega))]
        rcases a7 s hs with ⟨b1, b2⟩ | ⟨j, b1, b2, b3, b4⟩
        · rw [b1]
        · exact absurd b3 (h3 j (by omega))
      · rw [if_neg (by rw [n_le (by omega) (by omega)]; exact h4), q_og1 i g (by omega), zbd_e]
        by_cases h5 : g 101 (181 + 2 * i) = nI s
        · rw [if_pos h5]
          rcases a7 s hs with ⟨b1, b2⟩ | ⟨j, b1, b2, b3, b4⟩
          · exact absurd h5 (b2 i (by omega))
          · rcases Nat.lt_trichotomy i j with z | z | z
            · exact absurd h5 (b4 i z)
            · subst z; rw [b2]
            · exact absurd b3 (h3 j z)
        · rw [if_neg h5, zlt_e, nI_1]
          refine ih (i + 1) (by omega) (by omega) (fun j hj => ?_)
          by_cases h6 : j = i
          · subst h6; exact h5
          · exact h3 j (by omega)
  unfold f_X12_guestAt
  exact loop zN 0 (by unfold zN; omega) (by omega) (fun j hj => by omega)
def nxt (sn s : Nat) : Nat := if s + 1 < sn then s + 1 else 0
theorem nxt_lt {sn s : Nat} (h : s < sn) : nxt sn s < sn := by unfold nxt; split <;> omega
theorem mnx : ∀ sn, sn < 9 → ∀ s, s < sn → (nI s + 1) - (nI s + 1) / nI sn * nI sn = nI (nxt sn s) := by decide +kernel
def tlG (E : zEv) (can : Nat → Nat → Bool) (fam : Nat → Nat) (T : zTe) (x y : Int32) : Int32 × Nat × Nat := if x = -1 ∨ y = -1 then (0, 0, 0) else fnd E can T (fam x.toNatClampNeg) (fam y.toNatClampNeg)
/-- the reference lays a telling -/
theorem q_lays {E : zEv} {can : Nat → Nat → Bool} {T : zTe} {sn gn : Nat} {si : Nat → Int32} {fam : Nat → Nat} {g : zH} (R : tM E can T g) (H : sA sn gn si fam (g 101)) (s : Nat) (hs : s < sn) : ∃ g', f_X12_laysTelling (nI s) g = some (if (tlG E can fam T (si s) (si (nxt sn s))).1 ≤ 0 then 0 else 1, g') ∧ sM g g' ∧ gS g' can (fam (si s).toNatClampNeg) (fam (si (nxt sn s)).toNatClampNeg) (si s) (si (nxt sn s)) (tlG E can fam T (si s) (si (nxt sn s))) := by
  have HH := H
  obtain ⟨a1, a2, a3, a4, a5, a6, a7⟩ := H
  have hn := nxt_lt hs
  unfold f_X12_laysTelling f_X12_laysTelling_36 f_X12_laysTelling_80
  rw [q_gat HH s hs, zbd_e, a1]
  unfold znz
  rw [if_neg (by rw [n_eq0 (by omega)]; omega), mnx sn (by omega) s hs, q_gat HH _ hn, zbd_e, zst_e]
  unfold tlG
  have S1 : sM g (zup g 100 26 0) := ⟨fun c c1 c2 c3 => zup_ne c c1, fun k hk => by rw [zup_eq, pk_un (by omega)]⟩
  by_cases hx : si s = -1
  · rw [if_pos hx, if_pos (Or.inl hx)]
    exact ⟨_, rfl, S1, rfl, Or.inl rfl⟩
  by_cases hy : si (nxt sn s) = -1
  · rw [if_neg hx, if_pos hy, if_pos (Or.inr hy)]
    exact ⟨_, rfl, S1, rfl, Or.inl rfl⟩
  rw [if_neg hx, if_neg hy, if_neg (show ¬ (si s = -1 ∨ si (nxt sn s) = -1) from fun z => z.elim hx hy)]
  obtain ⟨i, i1, i2, -, -⟩ := (a7 s hs).resolve_left (fun z => hx z.1)
  obtain ⟨j, j1, j2, -, -⟩ := (a7 _ hn).resolve_left (fun z => hy z.1)
  rw [i2, j2, n_cl (by omega), n_cl (by omega)]
  obtain ⟨f1, f2⟩ := a6 i i1
  obtain ⟨f3, f4⟩ := a6 j j1
  rw [q_og0 i _ (by omega), zbd_e, q_og0 j _ (by omega), zbd_e, zup_ne 101 (by decide), f2, f4]
  unfold fnd
  by_cases hab : fam i = fam j
  · rw [if_pos (by rw [hab]), if_pos (Or.inl hab)]
    exact ⟨_, rfl, S1, rfl, Or.inl rfl⟩
  rw [if_neg (by rw [n_eq (by omega) (by omega)]; exact hab), l_10, n_add, zck_n (by omega) (by decide), n_cl (by omega), R.1.2.2.2.2.1 _ f1, hb_in _ _ (by omega)]
  simp only [i01]
  by_cases hf : hb (E.fe (fam i)) (fam j) = true
  · rw [if_pos hf, if_pos (Or.inr hf)]
    exact ⟨_, rfl, S1, rfl, Or.inl rfl⟩
  rw [if_neg hf, if_neg (show ¬ (fam i = fam j ∨ hb (E.fe (fam i)) (fam j) = true) from fun z => z.elim hab hf)]
  obtain ⟨g', p1, p3, p4⟩ := q_lays85 (T := T) (nI i) (nI j) (fam i) (fam j) f1 f3 zN 0 (zup g 100 26 0) (0, 0, 0) (R.same S1) ⟨rfl, Or.inl rfl⟩ (by omega) (by have := R.1.1; unfold zN; omega)
  exact ⟨g', p1, S1.trans p3, p4⟩
/-- the class finds between two -/
theorem q_between {E : zEv} {can : Nat → Nat → Bool} {T : zTe} {gn : Nat} {fam : Nat → Nat} {h : zH} (R : tC E can T h) (hg : gn ≤ 8) (hfam : ∀ i, i < gn → fam i < 6 ∧ h 8 i = nI (fam i)) (x y : Int32) (hx : x = -1 ∨ ∃ i, i < gn ∧ x = nI i) (hy : y = -1 ∨ ∃ i, i < gn ∧ y = nI i) : ∃ h', f_X1_findBetween x y h = some (if (tlG E can fam T x y).1 ≤ 0 then 0 else 1, h') ∧ tC E can T h' ∧ sC h h' ∧ ((tlG E can fam T x y).1 ≤ 0 ∨ (fS h' (tlG E can fam T x y) ∧ h' 38 12 = (if (can (fam x.toNatClampNeg) (tlG E can fam T x y).2.1 && can (fam y.toNatClampNeg) (tlG E can fam T x y).2.2) = true then x else y) ∧ h' 38 13 = (if (can (fam x.toNatClampNeg) (tlG E can fam T x y).2.1 && can (fam y.toNatClampNeg) (tlG E can fam T x y).2.2) = true then y else x))) := by
  unfold f_X1_findBetween f_X1_findBetween_10 f_X1_findBetween_88 f_X1_findBetween_89 f_X1_findBetween_102 f_X1_findBetween_116 tlG
  rcases hx with hx | ⟨i, i1, i2⟩
  · rw [if_pos hx, if_pos (Or.inl hx)]
    exact ⟨h, rfl, R, sC.refl h, Or.inl (by decide)⟩
  have hx' : ¬ x = -1 := by rw [i2, n_m1 (by omega)]; exact id
  rcases hy with hy | ⟨j, j1, j2⟩
  · rw [if_neg hx', if_pos hy, if_pos (Or.inr hy)]
    exact ⟨h, rfl, R, sC.refl h, Or.inl (by decide)⟩
  have hy' : ¬ y = -1 := by rw [j2, n_m1 (by omega)]; exact id
  rw [if_neg hx', if_neg hy', if_neg (show ¬ (x = -1 ∨ y = -1) from fun z => z.elim hx' hy')]
  obtain ⟨f1, f2⟩ := hfam i i1
  obtain ⟨f3, f4⟩ := hfam j j1
  subst i2 j2
  simp only [zlt_e, zst_e]
  rw [n_cl (by omega), n_cl (by omega), zck_n (by omega) (by decide), zck_n (by omega) (by decide), f2, f4]
  obtain ⟨h1, e1, e2, e3, e4⟩ := q_findOf R (fam i) (fam j) f1 f3
  rw [e1, zbd_e]
  by_cases c : (fnd E can T (fam i) (fam j)).1 ≤ 0
  · rw [if_pos c, if_pos rfl]
    exact ⟨h1, rfl, e2, e3, Or.inl c⟩
  rw [if_neg c, if_neg (by decide)]
  have hc0 : ¬ (fnd E can T (fam i) (fam j)).1 = 0 := fun z => c (by rw [z]; decide)
  obtain ⟨e5, e6⟩ := e4.2.resolve_left hc0
  obtain ⟨o1, o2, o3, o4, o5⟩ := (fnd_ok E can T (fam i) (fam j)).resolve_left hc0
  have hn := R.1.1
  rw [e5, zck_n (by omega) (by decide), n_cl (by omega), q_isIn _ (by omega), zbd_e, e6, zck_n (by omega) (by decide), n_cl (by omega), q_isIn _ (by omega), zbd_e]
  rw [e2.2.2.2.1 _ f1 _ o2, e2.2.2.2.1 _ f3 _ o3]
  have fin : ∀ x' y', sC h (zup (zup h1 38 12 x') 38 13 y') ∧ tC E can T (zup (zup h1 38 12 x') 38 13 y') ∧ fS (zup (zup h1 38 12 x') 38 13 y') (fnd E can T (fam i) (fam j)) := by
    intro x' y'
    have S2 : sC h1 (zup (zup h1 38 12 x') 38 13 y') := ⟨fun c c1 c2 c3 c4 => by rw [zup_ne c c3, zup_ne c c3], fun k hk => by rw [zup_eq, pk_un (by omega), zup_eq, pk_un (by omega)]⟩
    refine ⟨e3.trans S2, e2.same S2 (fun f e q1 q2 => by rw [zup_ne 39 (by decide), zup_ne 39 (by decide)]; exact e2.2.2.1 f e q1 q2), ?_⟩
    unfold fS
    rw [zup_eq, pk_un (by omega), pk_un (by omega), pk_un (by omega), zup_eq, pk_un (by omega), pk_un (by omega), pk_un (by omega)]
    exact e4
  cases d1 : can (fam i) (fnd E can T (fam i) (fam j)).2.1 <;> cases d2 : can (fam j) (fnd E can T (fam i) (fam j)).2.2 <;> simp only [Bool.false_eq_true, if_false, if_true, c00, c10, Bool.and_true, Bool.and_false] <;> refine ⟨_, rfl, (fin _ _).2.1, (fin _ _).1, Or.inr ⟨(fin _ _).2.2, rfl, rfl⟩⟩
/-- sets of halves -/
theorem q_setOn {h : zH} {n : Nat} (hn : n ≤ 16) (hc : h 2 4 = nI n) (v : Int32) : ∃ S, f_X3_setOn v h = some (S, h) ∧ ∀ k, k < n → hb S k = decide (h 3 k = v) := by
  have loop : ∀ f i S, n < f + i → i ≤ n → (∀ k, k < n → hb S k = decide (k < i ∧ h 3 k = v)) → ∃ S', f_X3_setOn_4 f v S (nI i) h = some (S', h) ∧ ∀ k, k < n → hb S' k = decide (h 3 k = v) := by
    intro f
    induction f with
    | zero => intro i S h1 h2; omega
    | succ f ih =>
      intro i S h1 h2 h3
      simp only [f_X3_setOn_4, hc]
      by_cases h4 : n ≤ i
      · rw [if_pos (nI_le h4 (by omega))]
        refine ⟨S, rfl, fun k hk => ?_⟩
        rw [h3 k hk]
        simp [show k < i by omega]
      · rw [if_neg (by rw [n_le (by omega) (by omega)]; exact h4), zck_n (by omega) (by decide), n_cl (by omega)]
        unfold f_X3_setOn_28
        simp only [zlt_e, nI_1]
        by_cases h5 : h 3 i = v
        · rw [if_pos h5]
          refine ih (i + 1) _ (by omega) (by omega) (fun k hk => ?_)
          rw [hb_set S (by omega) (by omega), h3 k hk]
          by_cases h6 : k = i
          · subst h6; simp [h5]
          · simp [h6, show (k < i + 1) = (k < i) from propext (by omega)]
        · rw [if_neg h5]
          refine ih (i + 1) _ (by omega) (by omega) (fun k hk => ?_)
          rw [h3 k hk]
          by_cases h6 : k = i
          · subst h6; simp [h5]
          · simp [show (k < i + 1) = (k < i) from propext (by omega)]
  exact loop zN 0 0 (by unfold zN; omega) (by omega) (fun k hk => by rw [hb_0]; simp)
def qC (n : Nat) (qf : Nat → Nat → Nat) (h : zH) : Prop := ∀ k, k < n → ∀ f, f < 6 → h 6 (k * 6 + f) = nI (qf k f) ∧ qf k f ≤ 4
theorem q_tellable {h : zH} {n nd : Nat} {qf : Nat → Nat → Nat} (hn : n ≤ 16) (hc : h 2 4 = nI n) (hd : h 1 6 = nI nd) (hd4 : nd ≤ 4) (hq : qC n qf h) (a u : Nat) (ha : a < 6) (hu : u < 6) : ∃ S, f_X1_tellable (nI a) (nI u) h = some (S, h) ∧ ∀ k, k < n → hb S k = decide (nd ≤ qf k a + if u = a then 0 else qf k u) := by
  have loop : ∀ f i S, n < f + i → i ≤ n → (∀ k, k < n → hb S k = decide (k < i ∧ nd ≤ qf k a + if u = a then 0 else qf k u)) → ∃ S', f_X1_tellable_5 f (nI a) (nI u) S (nI i) h = some (S', h) ∧ ∀ k, k < n → hb S' k = decide (nd ≤ qf k a + if u = a then 0 else qf k u) := by
    intro f
    induction f with
    | zero => intro i S h1 h2; omega
    | succ f ih =>
      intro i S h1 h2 h3
      simp only [f_X1_tellable_5, hc]
      by_cases h4 : n ≤ i
      · rw [if_pos (nI_le h4 (by omega))]
        refine ⟨S, rfl, fun k hk => ?_⟩
        rw [h3 k hk]
        simp [show k < i by omega]
      · rw [if_neg (by rw [n_le (by omega) (by omega)]; exact h4), q_qof i a h (by omega) ha, zbd_e, q_qof i u h (by omega) hu, zbd_e, (hq i (by omega) a ha).1, (hq i (by omega) u hu).1]
        have q1 := (hq i (by omega) a ha).2
        have q2 := (hq i (by omega) u hu).2
        have fin : ∀ v : Nat, v < 100 → (v = qf i a + if u = a then 0 else qf i u) → ∃ S', f_X1_tellable_58 (f_X1_tellable_5 f) (nI a) (nI u) S (nI i) (nI v) h = some (S', h) ∧ ∀ k, k < n → hb S' k = decide (nd ≤ qf k a + if u = a then 0 else qf k u) := by
          intro v hv0 hv
          unfold f_X1_tellable_58 f_X1_tellable_77
          simp only [zlt_e, nI_1, hd]
          by_cases h5 : nd ≤ v
          · rw [if_neg (by rw [n_lt (by omega) (by omega)]; omega)]
            refine ih (i + 1) _ (by omega) (by omega) (fun k hk => ?_)
            rw [hb_set S (by omega) (by omega), h3 k hk]
            by_cases h6 : k = i
            · subst h6; rw [← hv]; simp [h5]
            · simp [h6, show (k < i + 1) = (k < i) from propext (by omega)]
          · rw [if_pos (nI_lt (by omega) (by omega))]
            refine ih (i + 1) _ (by omega) (by omega) (fun k hk => ?_)
            rw [h3 k hk]
            by_cases h6 : k = i
            · subst h6; rw [← hv]; simp [h5]
            · simp [show (k < i + 1) = (k < i) from propext (by omega)]
        by_cases hua : u = a
        · rw [if_pos (by rw [hua])]
          exact fin (qf i a) (by omega) (by rw [if_pos hua]; rfl)
        · rw [if_neg (by rw [n_eq (by omega) (by omega)]; exact hua), zlt_e, n_add]
          exact fin (qf i a + qf i u) (by omega) (by rw [if_neg hua])
  exact loop zN 0 0 (by unfold zN; omega) (by omega) (fun k hk => by rw [hb_0]; simp)
