theorem q_find42 {E : zEv} {can : Nat → Nat → Bool} {T : zTe} (a b : Nat) (ha : a < 6) (hb6 : b < 6) : ∀ n f h s, tC E can T h → fS h s → f ≤ E.n → E.n < n + f → ∃ h', f_X1_findOf_42 n (nI a) (nI b) (nI E.n) (nI f) h = some (if (fO (okp E can a b) (eV E T) E.n (E.n - f) f s).1 ≤ 0 then 0 else 1, h') ∧ tC E can T h' ∧ sC h h' ∧ fS h' (fO (okp E can a b) (eV E T) E.n (E.n - f) f s) := by
  intro n
  induction n with
  | zero => intro f h s _ _ h1 h2; omega
  | succ n ih =>
    intro f h s R W h1 h2
    have hn := R.1.1
    simp only [f_X1_findOf_42]
    by_cases he : f = E.n
    · subst he
      rw [if_pos (Int32.le_refl _), Nat.sub_self, W.1]
      refine ⟨h, ?_, R, sC.refl h, W⟩
      show _ = some (if s.1 ≤ 0 then 0 else 1, h)
      split <;> rfl
    rw [if_neg (by rw [n_le (by omega) (by omega)]; omega), zck_n (by omega) (by decide), zck_n (by omega) (by decide), n_cl (by omega), n_cl (by omega)]
    obtain ⟨S, e1, e2⟩ := q_partners R.2.2.2 hn f a b (by omega) ha hb6
    rw [e1, zbd_e]
    obtain ⟨h1, k1, k2, k3, k4⟩ := q_find71 (T := T) (f_X1_findOf_42 n) a b f (by omega) S e2 zN 0 h s R W (by omega) (by unfold zN; omega)
    have k1 : f_X1_findOf_71 (f_X1_findOf_42 n) zN (nI a) (nI b) (nI E.n) (nI f) S 0 h = f_X1_findOf_42 n (nI a) (nI b) (nI E.n) (nI (f + 1)) h1 := k1
    rw [k1]
    obtain ⟨r, hr⟩ : ∃ r, E.n - f = r + 1 := ⟨E.n - f - 1, by omega⟩
    have hr' : r = E.n - (f + 1) := by omega
    rw [hr, fO, hr']
    obtain ⟨h', p1, p2, p3, p4⟩ := ih (f + 1) h1 _ k2 k4 (by omega) (by omega)
    exact ⟨h', p1, p2, k3.trans p3, p4⟩
/-- findOf -/
theorem q_findOf {E : zEv} {can : Nat → Nat → Bool} {T : zTe} {h : zH} (R : tC E can T h) (a b : Nat) (ha : a < 6) (hb6 : b < 6) : ∃ h', f_X1_findOf (nI a) (nI b) h = some (if (fnd E can T a b).1 ≤ 0 then 0 else 1, h') ∧ tC E can T h' ∧ sC h h' ∧ fS h' (fnd E can T a b) := by
  unfold f_X1_findOf f_X1_findOf_26
  simp only [zst_e, zlt_e]
  have S1 : sC h (zup h 38 11 0) := ⟨fun c c1 c2 c3 c4 => zup_ne c c3, fun k hk => by rw [zup_eq, pk_un (by omega)]⟩
  have R1 : tC E can T (zup h 38 11 0) := R.same S1 (fun f e q1 q2 => by rw [zup_ne 39 (by decide)]; exact R.2.2.1 f e q1 q2)
  have hn := R.1.1
  unfold fnd
  by_cases hab : a = b
  · rw [if_pos (by rw [hab]), if_pos (Or.inl hab)]
    exact ⟨_, rfl, R1, S1, rfl, Or.inl rfl⟩
  rw [if_neg (by rw [n_eq (by omega) (by omega)]; exact hab), zck_n (by omega) (by decide), n_cl (by omega), zup_ne 20 (by decide), R.1.2.2.2.2.1 a ha, q_isIn b (by omega), zbd_e]
  by_cases hf : hb (E.fe a) b = true
  · rw [if_pos hf, if_pos (Or.inr hf), if_neg (by decide)]
    exact ⟨_, rfl, R1, S1, rfl, Or.inl rfl⟩
  rw [if_neg hf, if_pos (show (0 : Int32) = 0 from rfl), if_neg (show ¬ (a = b ∨ hb (E.fe a) b = true) from fun z => z.elim hab hf), zup_ne 2 (by decide), R.1.2.1]
  obtain ⟨h', p1, p2, p3, p4⟩ := q_find42 (T := T) a b ha hb6 zN 0 (zup h 38 11 0) (0, 0, 0) R1 ⟨rfl, Or.inl rfl⟩ (by omega) (by unfold zN; omega)
  exact ⟨h', p1, p2, S1.trans p3, p4⟩
/-! the reference's search -/
def eM (E : zEv) (g : zH) : Prop := E.n ≤ 16 ∧ g 101 3 = nI E.n ∧ (∀ i, i < E.n → g 101 (20 + 10 * i) = E.sd i ∧ g 101 (21 + 10 * i) = E.jk i ∧ g 101 (22 + 10 * i) = E.wt i) ∧ (g 101 1 = nI E.nd ∧ E.nd ≤ 4) ∧ (∀ f, f < 6 → g 101 (10 + f) = E.fe f) ∧ g 101 5 = nI E.nt ∧ ∃ L St Nu, pLw E.sz E.ls L St Nu (g 101)
def mT (T : zTe) (g : zH) : Prop := ∀ p, p < 256 → T.1 p < 2 ^ 30 ∧ T.2 p < 2 ^ 30 ∧ g 101 (210 + p) = nI (T.1 p) ∧ g 101 (466 + p) = if T.1 p = 0 then -1 else nI (T.2 p)
def mQ (E : zEv) (can : Nat → Nat → Bool) (g : zH) : Prop := ∀ k, k < E.n → ∀ f, f < 6 → ∃ q, q < 2 ^ 30 ∧ g 101 (23 + 10 * k + f) = nI q ∧ can f k = decide (E.nd ≤ q)
def tM (E : zEv) (can : Nat → Nat → Bool) (T : zTe) (g : zH) : Prop := eM E g ∧ mT T g ∧ mQ E can g
def sM (g g' : zH) : Prop := (∀ c, c ≠ 100 → c ≠ 108 → c ≠ 109 → g' c = g c) ∧ ∀ k, (k < 23 ∨ 26 < k) → g' 100 k = g 100 k
theorem sM.refl (h : zH) : sM h h := ⟨fun _ _ _ _ => rfl, fun _ _ => rfl⟩
theorem sM.trans {h h' h'' : zH} (a : sM h h') (b : sM h' h'') : sM h h'' := ⟨fun c c1 c2 c3 => (b.1 c c1 c2 c3).trans (a.1 c c1 c2 c3), fun k hk => (b.2 k hk).trans (a.2 k hk)⟩
theorem tM.w {E : zEv} {can : Nat → Nat → Bool} {T : zTe} {h h' : zH} (H : tM E can T h) (s : h' 101 = h 101) : tM E can T h' := by
  unfold tM eM mT mQ at *
  rw [s]
  exact H
theorem tM.same {E : zEv} {can : Nat → Nat → Bool} {T : zTe} {h h' : zH} (H : tM E can T h) (s : sM h h') : tM E can T h' := H.w (s.1 101 (by decide) (by decide) (by decide))
theorem q_lmV {E : zEv} {can : Nat → Nat → Bool} {T : zTe} {g : zH} (H : tM E can T g) (f e : Nat) (hf : f < E.n) (he : e < E.n) : ∃ g', f_X12_laughOf (nI f) (nI e) g = some (eV E T f e, g') ∧ ∀ c, c ≠ 108 → c ≠ 109 → g' c = g c := by
  obtain ⟨⟨a1, a2, a3, a4, a5, a6, L, St, Nu, a7⟩, b, c⟩ := H
  obtain ⟨g', e1, e2⟩ := q_lm a7 f e (by omega) (by omega)
  refine ⟨g', ?_, e2⟩
  rw [e1]
  unfold eV
  obtain ⟨b1, b2, b3, b4⟩ := b (f * 16 + e) (by omega)
  rw [(a3 f hf).2.1, (a3 f hf).2.2, (a3 e he).2.1, (a3 e he).2.2, a6, b3, b4]
  have : (if (if T.1 (f * 16 + e) = 0 then (-1 : Int32) else nI (T.2 (f * 16 + e))) = -1 then (9999 : Int32) else nI E.nt - (if T.1 (f * 16 + e) = 0 then (-1 : Int32) else nI (T.2 (f * 16 + e)))) = (if T.1 (f * 16 + e) = 0 then 9999 else nI E.nt - nI (T.2 (f * 16 + e))) := by
    by_cases c0 : T.1 (f * 16 + e) = 0
    · simp only [if_pos c0, if_true]
    · simp only [if_neg c0]
      rw [if_neg (by rw [n_m1 (by omega)]; exact id)]
  rw [this]
theorem q_canTell {E : zEv} {can : Nat → Nat → Bool} {T : zTe} {g : zH} (H : tM E can T g) (a k : Nat) (ha : a < 6) (hk : k < E.n) : f_X12_canTell (nI a) (nI k) g = some (if can a k = true then 1 else 0, g) := by
  obtain ⟨⟨a1, a2, a3, ⟨a4, a4'⟩, a5⟩, b, c⟩ := H
  unfold f_X12_canTell
  obtain ⟨q, q1, q2, q3⟩ := c k hk a ha
  rw [q_qm k a g (by omega) ha, zbd_e, q2, a4, q3]
  simp (disch := omega) only [n_lt]
  by_cases d : E.nd ≤ q
  · rw [if_neg (by omega), if_pos (by simp [d])]
  · rw [if_pos (by omega), if_neg (by simp [d])]
theorem q_canBoth {E : zEv} {can : Nat → Nat → Bool} {T : zTe} {g : zH} (H : tM E can T g) (a b f e : Nat) (ha : a < 6) (hb6 : b < 6) (hf : f < E.n) (he : e < E.n) : f_X12_canBoth (nI a) (nI b) (nI f) (nI e) g = some (if (can a f && can b e) = true then 1 else 0, g) := by
  unfold f_X12_canBoth f_X12_canBoth_23
  rw [q_canTell H a f ha hf, zbd_e, q_canTell H b e hb6 he, zbd_e]
  cases can a f <;> cases can b e <;> rfl
theorem q_isFr {E : zEv} {g : zH} (H : eM E g) (f : Nat) (hf : f < E.n) : f_X12_isFront (nI f) g = some (if E.sd f = 0 then 1 else 0, g) := by
  obtain ⟨a1, a2, a3, a4⟩ := H
  unfold f_X12_isFront f_X12_isFront_21
  rw [q_half, a2, i_pos (v_le hf (by omega)), zbd_e, if_neg (by decide), q_oh0 f g (by omega), zbd_e, (a3 f hf).1]
  split <;> rfl
theorem q_isEn {E : zEv} {g : zH} (H : eM E g) (f : Nat) (hf : f < E.n) : f_X12_isEnd (nI f) g = some (if E.sd f = 1 then 1 else 0, g) := by
  obtain ⟨a1, a2, a3, a4⟩ := H
  unfold f_X12_isEnd f_X12_isEnd_22
  rw [q_half, a2, i_pos (v_le hf (by omega)), zbd_e, if_neg (by decide), q_oh0 f g (by omega), zbd_e, (a3 f hf).1]
  split <;> rfl
def gS (g : zH) (can : Nat → Nat → Bool) (a b : Nat) (x y : Int32) (s : Int32 × Nat × Nat) : Prop := g 100 26 = s.1 ∧ (s.1 = 0 ∨ (g 100 23 = nI s.2.1 ∧ g 100 24 = nI s.2.2 ∧ g 100 25 = if (can a s.2.1 && can b s.2.2) = true then x else y))
theorem q_lays99 {E : zEv} {can : Nat → Nat → Bool} {T : zTe} (k85 : Int32 → Int32 → Int32 → Int32 → Int32 → zH → zR) (x y : Int32) (a b f : Nat) (ha : a < 6) (hb6 : b < 6) (hf : f < E.n) : ∀ n e g s, tM E can T g → gS g can a b x y s → e ≤ E.n → E.n < n + e → ∃ g', f_X12_laysTelling_99 k85 n x y (nI a) (nI b) (nI f) (nI e) g = k85 x y (nI a) (nI b) (nI (f + 1)) g' ∧ sM g g' ∧ gS g' can a b x y (fI (okp E can a b) (eV E T) f (E.n - e) e s) := by
  intro n
  induction n with
  | zero => intro e g s _ _ h1 h2; omega
  | succ n ih =>
    intro e g s R W h1 h2
    have hn := R.1.1
    simp only [f_X12_laysTelling_99, R.1.2.1]
    by_cases he : e = E.n
    · subst he
      rw [if_pos (Int32.le_refl _), Nat.sub_self, zlt_e, nI_1]
      exact ⟨g, rfl, sM.refl g, W⟩
    rw [if_neg (by rw [n_le (by omega) (by omega)]; omega)]
    obtain ⟨r, hr⟩ : ∃ r, E.n - e = r + 1 := ⟨E.n - e - 1, by omega⟩
    have hr' : r = E.n - (e + 1) := by omega
    rw [hr, fI, hr']
    simp only [q_isFr R.1 f hf, q_isEn R.1 e (by omega), zbd_e, q_canBoth R a b f e ha hb6 hf (by omega), q_canBoth R b a f e hb6 ha hf (by omega), i_10, f_X12_laysTelling_225, zlt_e, nI_1]
    have skip : okp E can a b f e = false → ∃ g', f_X12_laysTelling_99 k85 n x y (nI a) (nI b) (nI f) (nI (e + 1)) g = k85 x y (nI a) (nI b) (nI (f + 1)) g' ∧ sM g g' ∧ gS g' can a b x y (fI (okp E can a b) (eV E T) f (E.n - (e + 1)) (e + 1) (if okp E can a b f e = true ∧ s.1 < eV E T f e then (eV E T f e, f, e) else s)) := by
      intro hno
      rw [if_neg (by rw [hno]; exact fun z => absurd z.1 (by decide))]
      exact ih (e + 1) g s R W (by omega) (by omega)
    have hit : okp E can a b f e = true → ∃ g', f_X12_laysTelling_161 k85 (f_X12_laysTelling_99 k85 n) x y (nI a) (nI b) (nI f) (nI e) g = k85 x y (nI a) (nI b) (nI (f + 1)) g' ∧ sM g g' ∧ gS g' can a b x y (fI (okp E can a b) (eV E T) f (E.n - (e + 1)) (e + 1) (if okp E can a b f e = true ∧ s.1 < eV E T f e then (eV E T f e, f, e) else s)) := by
      intro hok
      unfold f_X12_laysTelling_161 f_X12_laysTelling_222
      simp only [f_X12_laysTelling_225, zlt_e, zst_e, nI_1]
      obtain ⟨g1, e1, e2⟩ := q_lmV R f e hf (by omega)
      have S1 : sM g g1 := ⟨fun c c1 c2 c3 => e2 c c2 c3, fun k _ => by rw [e2 100 (by decide) (by decide)]⟩
      have W1 : gS g1 can a b x y s := by unfold gS; rw [e2 100 (by decide) (by decide)]; exact W
      rw [e1, zbd_e, W1.1]
      by_cases c : s.1 < eV E T f e
      · rw [if_pos c, if_pos ⟨hok, c⟩]
        have S2 : ∀ v, sM g1 (zup (zup (zup (zup g1 100 26 (eV E T f e)) 100 23 (nI f)) 100 24 (nI e)) 100 25 v) := fun v => ⟨fun c c1 c2 c3 => by rw [zup_ne c c1, zup_ne c c1, zup_ne c c1, zup_ne c c1], fun k hk => by rw [zup_eq, pk_un (by omega), zup_eq, pk_un (by omega), zup_eq, pk_un (by omega), zup_eq, pk_un (by omega)]⟩
        have R2 : tM E can T (zup (zup (zup g1 100 26 (eV E T f e)) 100 23 (nI f)) 100 24 (nI e)) := (R.same S1).w rfl
        rw [q_canBoth R2 a b f e ha hb6 hf (by omega), zbd_e]
        simp only [i_10]
        have fin : ∀ v, (v = if (can a f && can b e) = true then x else y) → ∃ g', f_X12_laysTelling_99 k85 n x y (nI a) (nI b) (nI f) (nI (e + 1)) (zup (zup (zup (zup g1 100 26 (eV E T f e)) 100 23 (nI f)) 100 24 (nI e)) 100 25 v) = k85 x y (nI a) (nI b) (nI (f + 1)) g' ∧ sM g g' ∧ gS g' can a b x y (fI (okp E can a b) (eV E T) f (E.n - (e + 1)) (e + 1) (eV E T f e, f, e)) := by
          intro v hv
          obtain ⟨g', p1, p2, p3⟩ := ih (e + 1) (zup (zup (zup (zup g1 100 26 (eV E T f e)) 100 23 (nI f)) 100 24 (nI e)) 100 25 v) (eV E T f e, f, e) ((R.same S1).same (S2 v)) ⟨rfl, Or.inr ⟨rfl, rfl, hv⟩⟩ (by omega) (by omega)
          exact ⟨g', p1, (S1.trans (S2 v)).trans p2, p3⟩
        by_cases d : (can a f && can b e) = true
        · rw [if_neg (fun z => z d)]
          exact fin x (by rw [if_pos d])
        · rw [if_pos d]
          exact fin y (by rw [if_neg d])
      · rw [if_neg c, if_neg (fun z => c z.2)]
        obtain ⟨g', p1, p2, p3⟩ := ih (e + 1) g1 s (R.same S1) W1 (by omega) (by omega)
        exact ⟨g', p1, S1.trans p2, p3⟩
    by_cases d1 : E.sd f = 0
    case neg =>
      rw [if_pos d1]
      exact skip (by unfold okp; simp [d1])
    rw [if_neg (fun z => z d1)]
    by_cases d2 : E.sd e = 1
    case neg =>
      rw [if_pos d2]
      exact skip (by unfold okp; simp [d2])
    rw [if_neg (fun z => z d2)]
    by_cases d3 : (can a f && can b e) = true
    · rw [if_neg (fun z => z d3)]
      exact hit (by unfold okp; rw [d3]; simp [d1, d2])
    · rw [if_pos d3]
      by_cases d4 : (can b f && can a e) = true
      · rw [if_neg (fun z => z d4)]
        exact hit (by unfold okp; rw [d4]; simp [d1, d2])
      · rw [if_pos d4]
        refine skip ?_
        unfold okp
        rw [Bool.eq_false_iff.mpr d3, Bool.eq_false_iff.mpr d4]
        simp
theorem q_lays85 {E : zEv} {can : Nat → Nat → Bool} {T : zTe} (x y : Int32) (a b : Nat) (ha : a < 6) (hb6 : b < 6) : ∀ n f g s, tM E can T g → gS g can a b x y s → f ≤ E.n → E.n < n + f → ∃ g', f_X12_laysTelling_85 n x y (nI a) (nI b) (nI f) g = some (if (fO (okp E can a b) (eV E T) E.n (E.n - f) f s).1 ≤ 0 then 0 else 1, g') ∧ sM g g' ∧ gS g' can a b x y (fO (okp E can a b) (eV E T) E.n (E.n - f) f s) := by
  intro n
  induction n with
  | zero => intro f h s _ _ h1 h2; omega
  | succ n ih =>
    intro f g s R W h1 h2
    have hn := R.1.1
    simp only [f_X12_laysTelling_85, R.1.2.1]
    by_cases he : f = E.n
    · subst he
      rw [if_pos (Int32.le_refl _), Nat.sub_self, W.1]
      refine ⟨g, ?_, sM.refl g, W⟩
      show _ = some (if s.1 ≤ 0 then 0 else 1, g)
      split <;> rfl
    rw [if_neg (by rw [n_le (by omega) (by omega)]; omega)]
    obtain ⟨g1, k1, k3, k4⟩ := q_lays99 (T := T) (f_X12_laysTelling_85 n) x y a b f ha hb6 (by omega) zN 0 g s R W (by omega) (by unfold zN; omega)
    have k1 : f_X12_laysTelling_99 (f_X12_laysTelling_85 n) zN x y (nI a) (nI b) (nI f) 0 g = f_X12_laysTelling_85 n x y (nI a) (nI b) (nI (f + 1)) g1 := k1
    rw [k1]
    obtain ⟨r, hr⟩ : ∃ r, E.n - f = r + 1 := ⟨E.n - f - 1, by omega⟩
    have hr' : r = E.n - (f + 1) := by omega
    rw [hr, fO, hr']
    obtain ⟨g', p1, p3, p4⟩ := ih (f + 1) g1 _ (R.same k3) k4 (by omega) (by omega)
    exact ⟨g', p1, k3.trans p3, p4⟩
