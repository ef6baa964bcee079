/-! fit: the reference's table -/
def nbt (S : Nat) : Nat → Bool := fun e => !S.testBit e
def gL (g g' : zH) : Prop := ∀ c, c ≠ 108 → c ≠ 109 → c ≠ 112 → c ≠ 113 → g' c = g c
theorem gL.refl (g : zH) : gL g g := fun _ _ _ _ _ => rfl
theorem gL.trans {a b c : zH} (x : gL a b) (y : gL b c) : gL a c := fun k q1 q2 q3 q4 => (y k q1 q2 q3 q4).trans (x k q1 q2 q3 q4)
def fMl (E : zEv) (F D : Nat → Nat) (nf ne : Nat) (g : zH) : Prop := nf ≤ 8 ∧ ne ≤ 8 ∧ g 100 31 = nI nf ∧ g 100 32 = nI ne ∧ (∀ k, k < nf → g 110 k = nI (F k) ∧ F k < E.n) ∧ ∀ k, k < ne → g 111 k = nI (D k) ∧ D k < E.n
theorem fMl.mv {E : zEv} {F D : Nat → Nat} {nf ne : Nat} {g g' : zH} (H : fMl E F D nf ne g) (f : gL g g') : fMl E F D nf ne g' := by
  unfold fMl at *
  rw [f 100 (by decide) (by decide) (by decide) (by decide), f 110 (by decide) (by decide) (by decide) (by decide), f 111 (by decide) (by decide) (by decide) (by decide)]
  exact H
theorem q_fitd {i S : Nat} (g : zH) (hi : i ≤ 8) (hS : S < 256) : f_X12_fitted (nI i) (nI S) g = some (g 112 (256 * i + S), g) := by
  unfold f_X12_fitted
  rw [show (256 : Int32) * nI i + nI S = nI (256 * i + S) by rw [show (256 : Int32) * nI i = nI (256 * i) from n_mul 256 i]; exact n_add _ _, zck_n (by omega) (by decide), n_cl (by omega)]
def m112 (V : Nat → Nat → Int32) (nf ne i : Nat) (g : zH) : Prop := ∀ q, i ≤ q → q ≤ nf → ∀ s, s < 2 ^ ne → g 112 (256 * q + s) = fitG V nf ne (nf - q) (nbt s)
theorem q_m9 {E : zEv} {F D : Nat → Nat} {V : Nat → Nat → Int32} {nf ne : Nat} {g1 : zH} (C : fMl E F D nf ne g1) : ∀ m S g, gL g1 g → (∀ s, s < S → g 112 (256 * nf + s) = 0) → S ≤ 2 ^ ne → 2 ^ ne < m + S → ∃ g', f_X12_laysFit_9 m (nI (2 ^ ne)) (nI S) g = f_X12_laysFit_43 zN (nI (2 ^ ne)) (nI nf - 1) g' ∧ gL g1 g' ∧ m112 V nf ne nf g' := by
  intro m
  induction m with
  | zero => intro S h _ _ h1 h2; omega
  | succ m ih =>
    intro S g L A b1 b2
    obtain ⟨c1, c2, c3, c4, c5, c6⟩ := C.mv L
    have P := p_256 ne (by omega)
    simp only [f_X12_laysFit_9, c3]
    by_cases hS : S = 2 ^ ne
    · rw [hS, if_pos (Int32.le_refl _), zlt_e]
      refine ⟨g, rfl, L, fun q q1 q2 s hs => ?_⟩
      have : q = nf := by omega
      subst this
      rw [Nat.sub_self, A s (by omega)]
      rfl
    rw [if_neg (by rw [n_le (by omega) (by omega)]; omega), show (256 : Int32) * nI nf + nI S = nI (256 * nf + S) by rw [show (256 : Int32) * nI nf = nI (256 * nf) from n_mul 256 nf]; exact n_add _ _, zck_n (by omega) (by decide), n_cl (by omega), zst_e, zlt_e, nI_1]
    exact ih (S + 1) (zup g 112 (256 * nf + S) 0) (fun c q1 q2 q3 q4 => by rw [zup_ne c q3, L c q1 q2 q3 q4]) (fun s hs => by
      rw [zup_eq]
      by_cases d : s = S
      · subst d; rw [pk_us]
      · rw [pk_un (by omega)]; exact A s (by omega)) (by omega) (by omega)
theorem nbt_s {S e x : Nat} (hS : S < 256) (he : e < 8) (hx : x < 8) : nbt (stb S e) x = rmv (nbt S) e x := by
  unfold nbt rmv
  rw [stb_t S hS e he x hx]
  show (!(S.testBit x || decide (x = e))) = (!S.testBit x && !decide (x = e))
  cases S.testBit x <;> cases decide (x = e) <;> rfl
theorem q_m67 {E : zEv} {can : Nat → Nat → Bool} {T : zTe} {F D : Nat → Nat} {nf ne : Nat} {g1 : zH} (k43 : Int32 → Int32 → zH → zR) (k49 : Int32 → Int32 → Int32 → zH → zR) (Hm : tM E can T g1) (C : fMl E F D nf ne g1) {i S : Nat} (hi : i < nf) (hS : S < 2 ^ ne) : ∀ m e a g, gL g1 g → m112 (fV E T F D) nf ne (i + 1) g → e ≤ ne → ne < m + e → ∃ g', f_X12_laysFit_67 k43 k49 m (nI (2 ^ ne)) (nI i) (nI S) a (nI e) g = k49 (nI (2 ^ ne)) (nI i) (nI (S + 1)) (zup g' 112 (256 * i + S) (gmx (fV E T F D i) (fun e => fitG (fV E T F D) nf ne (nf - (i + 1)) (rmv (nbt S) e)) (nbt S) (ne - e) e a)) ∧ gL g1 g' ∧ g' 112 = g 112 := by
  have hn := Hm.1.1
  intro m
  induction m with
  | zero => intro e a g _ _ h1 h2; omega
  | succ m ih =>
    intro e a g L A b1 b2
    obtain ⟨c1, c2, c3, c4, c5, c6⟩ := C.mv L
    have P := p_256 ne (by omega)
    have Hg : tM E can T g := Hm.w (L 101 (by decide) (by decide) (by decide) (by decide))
    simp only [f_X12_laysFit_67, f_X12_laysFit_123, c4]
    by_cases he : e = ne
    · subst he
      rw [if_pos (Int32.le_refl _), show (256 : Int32) * nI i + nI S = nI (256 * i + S) by rw [show (256 : Int32) * nI i = nI (256 * i) from n_mul 256 i]; exact n_add _ _, zck_n (by omega) (by decide), n_cl (by omega), zst_e, zlt_e, nI_1, Nat.sub_self]
      exact ⟨g, rfl, L, rfl⟩
    obtain ⟨q, hq⟩ : ∃ q, ne - e = q + 1 := ⟨ne - e - 1, by omega⟩
    have hq' : q = ne - (e + 1) := by omega
    rw [if_neg (by rw [n_le (by omega) (by omega)]; omega), hb_in (nI S) e (by omega), hb_nI S e (by omega), hq, gmx, hq']
    simp only [i_10, zlt_e, nI_1]
    by_cases c : S.testBit e = true
    · rw [if_neg (fun z => z c), if_neg (show ¬ nbt S e = true by unfold nbt; rw [c]; decide)]
      exact ih (e + 1) a g L A (by omega) (by omega)
    · have hst := stb_l ne (by omega) S hS e (by omega)
      obtain ⟨g2, e1, e2⟩ := q_lmV Hg (F i) (D e) (c5 i hi).2 (c6 e (by omega)).2
      rw [if_pos c, if_pos (show nbt S e = true by unfold nbt; rw [Bool.eq_false_iff.mpr c]; rfl), zck_n (by omega) (by decide), zck_n (by omega) (by decide), n_cl (by omega), n_cl (by omega), (c5 i hi).1, (c6 e (by omega)).1, e1, zbd_e, stb_n S (by omega) e (by omega), q_fitd g2 (by omega) (by omega), zbd_e, e2 112 (by decide) (by decide), A (i + 1) (by omega) (by omega) _ hst, fitG_cong (nf - (i + 1)) (nbt (stb S e)) (rmv (nbt S) e) (fun x hx => nbt_s (by omega) (by omega) (by omega))]
      have L2 : gL g1 g2 := fun c q1 q2 q3 q4 => by rw [e2 c q1 q2, L c q1 q2 q3 q4]
      have A2 : m112 (fV E T F D) nf ne (i + 1) g2 := fun q q1 q2 s hs => by rw [e2 112 (by decide) (by decide)]; exact A q q1 q2 s hs
      have go := ih (e + 1) (if a < fV E T F D i e + fitG (fV E T F D) nf ne (nf - (i + 1)) (rmv (nbt S) e) then fV E T F D i e + fitG (fV E T F D) nf ne (nf - (i + 1)) (rmv (nbt S) e) else a) g2 L2 A2 (by omega) (by omega)
      obtain ⟨g', p1, p2, p3⟩ := go
      refine ⟨g', ?_, p2, by rw [p3, e2 112 (by decide) (by decide)]⟩
      rw [← p1, ← mst]
      unfold f_X12_most
      show zbd (if a ≤ fV E T F D i e + fitG (fV E T F D) nf ne (nf - (i + 1)) (rmv (nbt S) e) then _ else _) _ = _
      by_cases d : a ≤ fV E T F D i e + fitG (fV E T F D) nf ne (nf - (i + 1)) (rmv (nbt S) e)
      · rw [if_pos d, if_pos d, zbd_e]; rfl
      · rw [if_neg d, if_neg d, zbd_e]
theorem q_m49 {E : zEv} {can : Nat → Nat → Bool} {T : zTe} {F D : Nat → Nat} {nf ne : Nat} {g1 : zH} (k43 : Int32 → Int32 → zH → zR) (Hm : tM E can T g1) (C : fMl E F D nf ne g1) {i : Nat} (hi : i < nf) : ∀ m S g, gL g1 g → m112 (fV E T F D) nf ne (i + 1) g → (∀ s, s < S → g 112 (256 * i + s) = fitG (fV E T F D) nf ne (nf - i) (nbt s)) → S ≤ 2 ^ ne → 2 ^ ne < m + S → ∃ g', f_X12_laysFit_49 k43 m (nI (2 ^ ne)) (nI i) (nI S) g = k43 (nI (2 ^ ne)) (nI i + -1) g' ∧ gL g1 g' ∧ m112 (fV E T F D) nf ne i g' := by
  intro m
  induction m with
  | zero => intro S g _ _ _ h1 h2; omega
  | succ m ih =>
    intro S g L A W b1 b2
    obtain ⟨c1, c2, c3, c4, c5, c6⟩ := C.mv L
    have P := p_256 ne (by omega)
    simp only [f_X12_laysFit_49]
    by_cases hS : S = 2 ^ ne
    · rw [hS, if_pos (Int32.le_refl _), zlt_e]
      refine ⟨g, rfl, L, fun q q1 q2 s hs => ?_⟩
      by_cases c : q = i
      · subst c; exact W s (by omega)
      · exact A q (by omega) q2 s hs
    rw [if_neg (by rw [n_le (by omega) (by omega)]; omega), nI_1, q_fitd g (by omega) (by omega), zbd_e, A (i + 1) (by omega) (by omega) S (by omega)]
    obtain ⟨g2, p1, p2, p3⟩ := q_m67 (can := can) (T := T) k43 (f_X12_laysFit_49 k43 m) Hm C (i := i) (S := S) hi (by omega) zN 0 (fitG (fV E T F D) nf ne (nf - (i + 1)) (nbt S)) g L A (by omega) (by unfold zN; omega)
    have p1 : f_X12_laysFit_67 k43 (f_X12_laysFit_49 k43 m) zN (nI (2 ^ ne)) (nI i) (nI S) (fitG (fV E T F D) nf ne (nf - (i + 1)) (nbt S)) 0 g = _ := p1
    rw [p1]
    have val : gmx (fV E T F D i) (fun e => fitG (fV E T F D) nf ne (nf - (i + 1)) (rmv (nbt S) e)) (nbt S) (ne - 0) 0 (fitG (fV E T F D) nf ne (nf - (i + 1)) (nbt S)) = fitG (fV E T F D) nf ne (nf - i) (nbt S) := by
      rw [Nat.sub_zero, show nf - i = (nf - (i + 1)) + 1 by omega, show fitG (fV E T F D) nf ne (nf - (i + 1) + 1) (nbt S) = gmx (fV E T F D (nf - (nf - (i + 1) + 1))) (fun e => fitG (fV E T F D) nf ne (nf - (i + 1)) (rmv (nbt S) e)) (nbt S) ne 0 (fitG (fV E T F D) nf ne (nf - (i + 1)) (nbt S)) from rfl, show nf - (nf - (i + 1) + 1) = i by omega]
    rw [val]
    exact ih (S + 1) _ (fun c q1 q2 q3 q4 => by rw [zup_ne c q3, p2 c q1 q2 q3 q4]) (fun q q1 q2 s hs => by rw [zup_eq, pk_un (by omega), p3]; exact A q q1 q2 s hs) (fun s hs => by
      rw [zup_eq]
      by_cases d : s = S
      · subst d; rw [pk_us]
      · rw [pk_un (by omega), p3]; exact W s (by omega)) (by omega) (by omega)
theorem q_m43 {E : zEv} {can : Nat → Nat → Bool} {T : zTe} {F D : Nat → Nat} {nf ne : Nat} {g1 : zH} (Hm : tM E can T g1) (C : fMl E F D nf ne g1) : ∀ m i g, gL g1 g → m112 (fV E T F D) nf ne i g → i ≤ nf → i < m → ∃ g', f_X12_laysFit_43 m (nI (2 ^ ne)) (nI i - 1) g = f_X12_laysFit_157 zN 0 g' ∧ gL g1 g' ∧ m112 (fV E T F D) nf ne 0 g' := by
  intro m
  induction m with
  | zero => intro i g _ _ h1 h2; omega
  | succ m ih =>
    intro i g L A b1 b2
    have P := p_256 ne (by have := C.2.1; omega)
    simp only [f_X12_laysFit_43]
    cases i with
    | zero =>
      rw [if_pos (by decide)]
      exact ⟨g, rfl, L, A⟩
    | succ i =>
      rw [n_s1n (by omega), Nat.add_sub_cancel, if_neg (show ¬ nI i < 0 by rw [n_neg (by have := C.1; omega)]; exact id)]
      obtain ⟨g2, p1, p2, p3⟩ := q_m49 (T := T) (f_X12_laysFit_43 m) Hm C (i := i) (by omega) zN 0 g L A (fun s hs => by omega) (by omega) (by unfold zN; omega)
      have p1 : f_X12_laysFit_49 (f_X12_laysFit_43 m) zN (nI (2 ^ ne)) (nI i) 0 g = f_X12_laysFit_43 m (nI (2 ^ ne)) (nI i + -1) g2 := p1
      rw [p1, ← Int32.sub_eq_add_neg]
      exact ih i g2 p2 p3 (by omega) (by omega)
