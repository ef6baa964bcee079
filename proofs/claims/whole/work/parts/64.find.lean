/-! WHAT IS TOLD: the abstract search, and the class's -/
abbrev zEv : Type := Nat × List zLn × Nat × Nat × Nat × (Nat → Int32) × (Nat → Int32) × (Nat → Int32) × (Nat → Int32)
def zEv.n (E : zEv) : Nat := E.1
def zEv.ls (E : zEv) : List zLn := E.2.1
def zEv.sz (E : zEv) : Nat := E.2.2.1
def zEv.nt (E : zEv) : Nat := E.2.2.2.1
def zEv.nd (E : zEv) : Nat := E.2.2.2.2.1
def zEv.sd (E : zEv) : Nat → Int32 := E.2.2.2.2.2.1
def zEv.jk (E : zEv) : Nat → Int32 := E.2.2.2.2.2.2.1
def zEv.wt (E : zEv) : Nat → Int32 := E.2.2.2.2.2.2.2.1
def zEv.fe (E : zEv) : Nat → Int32 := E.2.2.2.2.2.2.2.2
abbrev zTe : Type := (Nat → Nat) × (Nat → Nat)
def eV (E : zEv) (T : zTe) (f e : Nat) : Int32 := evL E.ls (FA (E.wt f) (E.wt e) (E.jk f) (E.jk e) (nI (T.1 (f * 16 + e))) (if T.1 (f * 16 + e) = 0 then 9999 else nI E.nt - nI (T.2 (f * 16 + e))) (nI E.nt))
def okp (E : zEv) (can : Nat → Nat → Bool) (a b f e : Nat) : Bool := decide (E.sd f = 0) && decide (E.sd e = 1) && ((can a f && can b e) || (can b f && can a e))
def fI (ok : Nat → Nat → Bool) (V : Nat → Nat → Int32) (f : Nat) : Nat → Nat → Int32 × Nat × Nat → Int32 × Nat × Nat
  | 0, _, s => s
  | r + 1, e, s => fI ok V f r (e + 1) (if ok f e = true ∧ s.1 < V f e then (V f e, f, e) else s)
def fO (ok : Nat → Nat → Bool) (V : Nat → Nat → Int32) (n : Nat) : Nat → Nat → Int32 × Nat × Nat → Int32 × Nat × Nat
  | 0, _, s => s
  | r + 1, f, s => fO ok V n r (f + 1) (fI ok V f n 0 s)
def fnd (E : zEv) (can : Nat → Nat → Bool) (T : zTe) (a b : Nat) : Int32 × Nat × Nat := if a = b ∨ hb (E.fe a) b = true then (0, 0, 0) else fO (okp E can a b) (eV E T) E.n E.n 0 (0, 0, 0)
/-- what was found is a pair, and its laugh -/
def fOk (ok : Nat → Nat → Bool) (V : Nat → Nat → Int32) (n : Nat) (s : Int32 × Nat × Nat) : Prop := s.1 = 0 ∨ (0 < s.1 ∧ s.2.1 < n ∧ s.2.2 < n ∧ ok s.2.1 s.2.2 = true ∧ s.1 = V s.2.1 s.2.2)
theorem fI_ok {ok : Nat → Nat → Bool} {V : Nat → Nat → Int32} {n f : Nat} (hf : f < n) : ∀ r e s, e + r ≤ n → fOk ok V n s → fOk ok V n (fI ok V f r e s) := by
  intro r
  induction r with
  | zero => intro e s _ h; exact h
  | succ r ih =>
    intro e s he h
    unfold fI
    refine ih (e + 1) _ (by omega) ?_
    by_cases c : ok f e = true ∧ s.1 < V f e
    · rw [if_pos c]
      refine Or.inr ⟨?_, hf, show e < n by omega, c.1, rfl⟩
      rcases h with h | h
      · have := c.2; rw [h] at this; exact this
      · exact Int32.lt_trans h.1 c.2
    · rw [if_neg c]; exact h
theorem fO_ok {ok : Nat → Nat → Bool} {V : Nat → Nat → Int32} {n : Nat} : ∀ r f s, f + r ≤ n → fOk ok V n s → fOk ok V n (fO ok V n r f s) := by
  intro r
  induction r with
  | zero => intro e s _ h; exact h
  | succ r ih =>
    intro f s he h
    unfold fO
    exact ih (f + 1) _ (by omega) (fI_ok (by omega) n 0 s (by omega) h)
theorem fnd_ok (E : zEv) (can : Nat → Nat → Bool) (T : zTe) (a b : Nat) : fOk (okp E can a b) (eV E T) E.n (fnd E can T a b) := by
  unfold fnd
  split
  · exact Or.inl rfl
  · exact fO_ok E.n 0 _ (by omega) (Or.inl rfl)
/-- nothing fits: nothing changes -/
theorem fI_no {ok : Nat → Nat → Bool} {V : Nat → Nat → Int32} {f : Nat} : ∀ r e s, (∀ k, e ≤ k → k < e + r → ok f k = false) → fI ok V f r e s = s := by
  intro r
  induction r with
  | zero => intro e s _; rfl
  | succ r ih =>
    intro e s h
    unfold fI
    rw [if_neg (by rw [h e (by omega) (by omega)]; exact fun z => absurd z.1 (by decide))]
    exact ih (e + 1) s (fun k k1 k2 => h k (by omega) (by omega))
/-- the class: what stands still -/
def eC (E : zEv) (h : zH) : Prop := E.n ≤ 16 ∧ h 2 4 = nI E.n ∧ (∀ i, i < E.n → h 3 i = E.sd i ∧ h 4 i = E.jk i ∧ h 5 i = E.wt i) ∧ h 1 6 = nI E.nd ∧ (∀ f, f < 6 → h 20 f = E.fe f) ∧ h 11 5 = nI E.nt ∧ ∃ w, pLw E.sz E.ls (h 16) (h 17) (h 18) w
def cT (nt : Nat) (T : zTe) (h : zH) : Prop := ∀ p, p < 256 → ∃ m0 m : Nat, h 12 p = nI m0 ∧ h 40 p = nI m ∧ m0 + m = T.1 p ∧ T.1 p < 2 ^ 30 ∧ (T.1 p = 0 ∨ (0 < m ∧ T.2 p = nt) ∨ (m = 0 ∧ h 13 p = nI (T.2 p)))
def cM (E : zEv) (T : zTe) (h : zH) : Prop := ∀ f e, f < 16 → e < 16 → h 39 (f * 16 + e) = -1 ∨ h 39 (f * 16 + e) = eV E T f e
def cS (E : zEv) (can : Nat → Nat → Bool) (h : zH) : Prop := (∀ f, f < 6 → ∀ k, k < E.n → hb (h 41 f) k = can f k) ∧ ∀ k, k < E.n → hb (h 38 7) k = decide (E.sd k = 0) ∧ hb (h 38 8) k = decide (E.sd k = 1)
def tC (E : zEv) (can : Nat → Nat → Bool) (T : zTe) (h : zH) : Prop := eC E h ∧ cT E.nt T h ∧ cM E T h ∧ cS E can h
def sC (h h' : zH) : Prop := (∀ c, c ≠ 19 → c ≠ 21 → c ≠ 38 → c ≠ 39 → h' c = h c) ∧ ∀ k, k ≤ 8 → h' 38 k = h 38 k
theorem sC.refl (h : zH) : sC h h := ⟨fun _ _ _ _ _ => rfl, fun _ _ => rfl⟩
theorem sC.trans {h h' h'' : zH} (a : sC h h') (b : sC h' h'') : sC h h'' := ⟨fun c c1 c2 c3 c4 => (b.1 c c1 c2 c3 c4).trans (a.1 c c1 c2 c3 c4), fun k hk => (b.2 k hk).trans (a.2 k hk)⟩
theorem eC.same {E : zEv} {h h' : zH} (H : eC E h) (hc : ∀ c, c = 1 ∨ c = 2 ∨ c = 3 ∨ c = 4 ∨ c = 5 ∨ c = 11 ∨ c = 16 ∨ c = 17 ∨ c = 18 ∨ c = 20 → h' c = h c) : eC E h' := by
  unfold eC at *
  rw [hc 1 (by omega), hc 2 (by omega), hc 3 (by omega), hc 4 (by omega), hc 5 (by omega), hc 11 (by omega), hc 16 (by omega), hc 17 (by omega), hc 18 (by omega), hc 20 (by omega)]
  exact H
theorem cT.same {nt : Nat} {T : zTe} {h h' : zH} (H : cT nt T h) (h12 : h' 12 = h 12) (h13 : h' 13 = h 13) (h40 : h' 40 = h 40) : cT nt T h' := by
  unfold cT at *
  rw [h12, h13, h40]
  exact H
theorem cS.same {E : zEv} {can : Nat → Nat → Bool} {h h' : zH} (H : cS E can h) (h41 : h' 41 = h 41) (h7 : h' 38 7 = h 38 7) (h8 : h' 38 8 = h 38 8) : cS E can h' := by
  unfold cS at *
  rw [h41, h7, h8]
  exact H
theorem tC.same {E : zEv} {can : Nat → Nat → Bool} {T : zTe} {h h' : zH} (H : tC E can T h) (s : sC h h') (m : cM E T h') : tC E can T h' := by
  obtain ⟨a, b, c, d⟩ := H
  exact ⟨a.same (fun c hc => s.1 c (by omega) (by omega) (by omega) (by omega)), b.same (s.1 12 (by omega) (by omega) (by omega) (by omega)) (s.1 13 (by omega) (by omega) (by omega) (by omega)) (s.1 40 (by omega) (by omega) (by omega) (by omega)), m, d.same (s.1 41 (by omega) (by omega) (by omega) (by omega)) (s.2 7 (by omega)) (s.2 8 (by omega))⟩
theorem n_eq0 {a : Nat} (ha : a < 2 ^ 31) : (nI a = 0) = (a = 0) := n_eq (b := 0) ha (by decide)
/-- the class's laugh, as it stands now -/
theorem q_lcV {E : zEv} {T : zTe} {h : zH} (He : eC E h) (Ht : cT E.nt T h) (f e : Nat) (hf : f < E.n) (he : e < E.n) : ∃ h', f_X4_laughOf (nI f) (nI e) (h 40 (f * 16 + e)) h = some (eV E T f e, h') ∧ ∀ c, c ≠ 19 → c ≠ 21 → h' c = h c := by
  obtain ⟨a1, a2, a3, a4, a5, a6, w, a7⟩ := He
  obtain ⟨h', e1, e2⟩ := q_lc a7 f e (by omega) (by omega) (h 40 (f * 16 + e))
  refine ⟨h', ?_, e2⟩
  rw [e1]
  unfold eV
  obtain ⟨m0, m, b1, b2, b3, b4, b5⟩ := Ht (f * 16 + e) (by omega)
  rw [(a3 f hf).2.1, (a3 f hf).2.2, (a3 e he).2.1, (a3 e he).2.2, a6, b1, b2, n_add, b3]
  have : (if nI (T.1 (f * 16 + e)) = 0 then (9999 : Int32) else if nI m ≤ 0 then nI E.nt - h 13 (f * 16 + e) else 0) = (if T.1 (f * 16 + e) = 0 then 9999 else nI E.nt - nI (T.2 (f * 16 + e))) := by
    by_cases c0 : T.1 (f * 16 + e) = 0
    · rw [if_pos c0, if_pos (by rw [c0]; rfl)]
    · rw [if_neg c0, if_neg (by rw [n_eq0 (by omega)]; exact c0)]
      rcases b5 with b5 | ⟨b5, b6⟩ | ⟨b5, b6⟩
      · exact absurd b5 c0
      · rw [if_neg (show ¬ nI m ≤ 0 by rw [l_0, n_le (by omega) (by omega)]; omega), b6, n_sub (Nat.le_refl _), Nat.sub_self]; rfl
      · rw [b5, if_pos (by decide), b6]
  rw [this]
theorem q_partners {E : zEv} {can : Nat → Nat → Bool} {h : zH} (H : cS E can h) (hn : E.n ≤ 16) (f a b : Nat) (hf : f < E.n) (ha : a < 6) (hb6 : b < 6) : ∃ S, f_X1_partnersOf (nI f) (h 41 a) (h 41 b) h = some (S, h) ∧ ∀ e, e < E.n → hb S e = okp E can a b f e := by
  obtain ⟨c1, c2⟩ := H
  unfold f_X1_partnersOf f_X1_partnersOf_26 f_X1_partnersOf_39
  simp only [q_isIn f (by omega), zbd_e, i_10]
  rw [(c2 f hf).1, c1 a ha f hf, c1 b hb6 f hf]
  unfold okp
  by_cases d1 : E.sd f = 0
  · have e1 : ∀ (A B : zR), (if ¬ decide (E.sd f = 0) = true then A else B) = B := fun A B => if_neg (by simp [d1])
    rw [e1]
    cases d2 : can a f <;> cases d3 : can b f <;> simp only [Bool.false_eq_true, not_false_eq_true, not_true_eq_false, if_true, if_false] <;> refine ⟨_, rfl, fun e he => ?_⟩ <;> rw [hb_and, hb_or, (c2 e he).2] <;> simp only [hb_0, c1 a ha e he, c1 b hb6 e he, d1] <;> cases can a e <;> cases can b e <;> simp
  · have e1 : ∀ (A B : zR), (if ¬ decide (E.sd f = 0) = true then A else B) = A := fun A B => if_pos (by simp [d1])
    rw [e1]
    exact ⟨0, rfl, fun e he => by rw [hb_0]; simp [d1]⟩
/-- the state of the search -/
def fS (h : zH) (s : Int32 × Nat × Nat) : Prop := h 38 11 = s.1 ∧ (s.1 = 0 ∨ (h 38 9 = nI s.2.1 ∧ h 38 10 = nI s.2.2))
theorem q_find71 {E : zEv} {can : Nat → Nat → Bool} {T : zTe} (k42 : Int32 → Int32 → Int32 → Int32 → zH → zR) (a b f : Nat) (hf : f < E.n) (S : Int32) (hS : ∀ e, e < E.n → hb S e = okp E can a b f e) : ∀ n e h s, tC E can T h → fS h s → e ≤ E.n → E.n < n + e → ∃ h', f_X1_findOf_71 k42 n (nI a) (nI b) (nI E.n) (nI f) S (nI e) h = k42 (nI a) (nI b) (nI E.n) (nI (f + 1)) h' ∧ tC E can T h' ∧ sC h h' ∧ fS h' (fI (okp E can a b) (eV E T) f (E.n - e) e s) := by
  intro n
  induction n with
  | zero => intro e h s _ _ h1 h2; omega
  | succ n ih =>
    intro e h s R W h1 h2
    have hn := R.1.1
    simp only [f_X1_findOf_71]
    by_cases he : e = E.n
    · subst he
      rw [if_pos (Int32.le_refl _), Nat.sub_self]
      unfold f_X1_findOf_180
      rw [zlt_e, nI_1]
      exact ⟨h, rfl, R, sC.refl h, W⟩
    rw [if_neg (by rw [n_le (by omega) (by omega)]; omega)]
    by_cases hS0 : S = 0
    · rw [if_pos hS0]
      unfold f_X1_findOf_180
      rw [zlt_e, nI_1, fI_no _ _ _ (fun k k1 k2 => by rw [← hS k (by omega), hS0, hb_0])]
      exact ⟨h, rfl, R, sC.refl h, W⟩
    rw [if_neg hS0, q_isIn e (by omega), zbd_e]
    simp only [i_10]
    obtain ⟨r, hr⟩ : ∃ r, E.n - e = r + 1 := ⟨E.n - e - 1, by omega⟩
    have hr' : r = E.n - (e + 1) := by omega
    rw [hr, fI, hr', hS e (by omega)]
    by_cases hok : okp E can a b f e = true
    case neg =>
      rw [if_pos hok, if_neg (fun z => hok z.1)]
      unfold f_X1_findOf_174
      rw [zlt_e, nI_1]
      exact ih (e + 1) h s R W (by omega) (by omega)
    rw [if_neg (fun z => z hok)]
    unfold f_X11_pairOf
    rw [zbd_e, l_16, n_mul, n_add, zck_n (by omega) (by decide), n_cl (by omega)]
    -- with the laugh known
    have go : ∀ h1 : zH, tC E can T h1 → sC h h1 → fS h1 s → h1 39 (f * 16 + e) = eV E T f e → ∃ h', f_X1_findOf_137 k42 (f_X1_findOf_71 k42 n) (nI a) (nI b) (nI E.n) (nI f) S (nI e) (nI (f * 16 + e)) h1 = k42 (nI a) (nI b) (nI E.n) (nI (f + 1)) h' ∧ tC E can T h' ∧ sC h h' ∧ fS h' (fI (okp E can a b) (eV E T) f (E.n - (e + 1)) (e + 1) (if okp E can a b f e = true ∧ s.1 < eV E T f e then (eV E T f e, f, e) else s)) := by
      intro h1 R1 S1 W1 hv
      unfold f_X1_findOf_137 f_X1_findOf_174
      simp only [zlt_e, zst_e, nI_1]
      rw [zck_n (by omega) (by decide), n_cl (by omega), hv, W1.1]
      by_cases c : eV E T f e ≤ s.1
      · rw [if_pos c, if_neg (fun z => Int32.not_lt.mpr c z.2)]
        obtain ⟨h', e1, e2, e3, e4⟩ := ih (e + 1) h1 s R1 W1 (by omega) (by omega)
        exact ⟨h', e1, e2, S1.trans e3, e4⟩
      · rw [if_neg c, if_pos ⟨hok, Int32.not_le.mp c⟩, zck_n (by omega) (by decide)]
        have S2 : sC h1 (zup (zup (zup h1 38 11 (eV E T f e)) 38 9 (nI f)) 38 10 (nI e)) := ⟨fun c c1 c2 c3 c4 => by rw [zup_ne c c3, zup_ne c c3, zup_ne c c3], fun k hk => by rw [zup_eq, pk_un (by omega), zup_eq, pk_un (by omega), zup_eq, pk_un (by omega)]⟩
        obtain ⟨h', e1, e2, e3, e4⟩ := ih (e + 1) (zup (zup (zup h1 38 11 (eV E T f e)) 38 9 (nI f)) 38 10 (nI e)) (eV E T f e, f, e) (R1.same S2 (fun f' e' q1 q2 => by rw [zup_ne 39 (by decide), zup_ne 39 (by decide), zup_ne 39 (by decide)]; exact R1.2.2.1 f' e' q1 q2)) ⟨rfl, Or.inr ⟨rfl, rfl⟩⟩ (by omega) (by omega)
        exact ⟨h', e1, e2, (S1.trans S2).trans e3, e4⟩
    by_cases hm : h 39 (f * 16 + e) = -1
    · rw [if_pos hm]
      obtain ⟨h1, e1, e2⟩ := q_lcV R.1 R.2.1 f e hf (by omega)
      rw [zck_n (by omega) (by decide), e1, zbd_e, zck_n (by omega) (by decide), zst_e]
      have S1 : sC h (zup h1 39 (f * 16 + e) (eV E T f e)) := ⟨fun c c1 c2 c3 c4 => by rw [zup_ne c c4, e2 c c1 c2], fun k hk => by rw [zup_ne 38 (by decide), e2 38 (by decide) (by decide)]⟩
      refine go _ (R.same S1 (fun f' e' q1 q2 => ?_)) S1 ?_ ?_
      · rw [zup_eq]
        by_cases hp : f' * 16 + e' = f * 16 + e
        · rw [hp, pk_us]
          have : f' = f := by omega
          have : e' = e := by omega
          subst f' e'
          exact Or.inr rfl
        · rw [pk_un hp, e2 39 (by decide) (by decide)]
          exact R.2.2.1 f' e' q1 q2
      · unfold fS
        rw [zup_ne 38 (by decide), e2 38 (by decide) (by decide)]
        exact W
      · rw [zup_eq, pk_us]
    · rw [if_neg hm]
      refine go h R (sC.refl h) W ?_
      exact (R.2.2.1 f e (by omega) (by omega)).resolve_left hm
