/-! worths of halves by rounds -/
def gre (sd L W : Nat → Int32) (i : Nat) : Nat → Nat → Int32 → Int32
  | 0, _, a => a
  | r + 1, j, a => gre sd L W i r (j + 1) (if sd j = sd i then a else if a < L j - W j then L j - W j else a)
def lau (E : zEv) (T : zTe) (i j : Nat) : Int32 := if E.sd i = 0 then eV E T i j else eV E T j i
def wrt (E : zEv) (T : zTe) : Nat → Nat → Int32
  | 0, i => E.wt i
  | r + 1, i => gre E.sd (lau E T i) (wrt E T r) i E.n 0 0
def alk (E : zEv) (T : zTe) (a b : Nat) : Prop := ∀ j, j < E.n → wrt E T a j = wrt E T b j
def wF (h h' : zH) : Prop := ∀ c, c ≠ 19 → c ≠ 21 → c ≠ 80 → c ≠ 81 → c ≠ 82 → h' c = h c
def w82 (E : zEv) (T : zTe) (i k : Nat) (h : zH) : Prop := ∀ f e, f < E.n → e < E.n → E.sd f = 0 → E.sd e = 1 → (f < i ∨ (f = i ∧ e < k)) → h 82 (f * 16 + e) = eV E T f e ∧ h 82 (e * 16 + f) = eV E T f e
theorem q_wo30 {E : zEv} {T : zTe} {h0 : zH} (k7 : Int32 → zH → zR) (He : eC E h0) (Ht : cT E.nt T h0) (h40 : ∀ p, p < 256 → h0 40 p = 0) {i : Nat} (hi : i < E.n) : ∀ m k h, wF h0 h → w82 E T i k h → k ≤ E.n → E.n < m + k → ∃ h', f_X10_solve_r1_30 k7 m (nI i) (nI k) h = k7 (nI (i + 1)) h' ∧ wF h0 h' ∧ h' 81 = h 81 ∧ w82 E T i E.n h' := by
  have hn := He.1
  intro m
  induction m with
  | zero => intro k h _ _ h1 h2; omega
  | succ m ih =>
    intro k h F W h1 h2
    have c2 : h 2 4 = nI E.n := by rw [F 2 (by decide) (by decide) (by decide) (by decide) (by decide)]; exact He.2.1
    have c3 : ∀ j, j < E.n → h 3 j = E.sd j := fun j hj => by rw [F 3 (by decide) (by decide) (by decide) (by decide) (by decide)]; exact (He.2.2.1 j hj).1
    simp only [f_X10_solve_r1_30, f_X10_solve_r1_95, c2, zlt_e, nI_1]
    by_cases hk : k = E.n
    · subst hk
      rw [if_pos (Int32.le_refl _)]
      exact ⟨h, rfl, F, rfl, W⟩
    rw [if_neg (by rw [n_le (by omega) (by omega)]; omega), zck_n (by omega) (by decide), n_cl (by omega), c3 i hi, zck_n (by omega) (by decide), n_cl (by omega), c3 k (by omega)]
    have skip : ¬ (E.sd i = 0 ∧ E.sd k = 1) → ∃ h', f_X10_solve_r1_30 k7 m (nI i) (nI (k + 1)) h = k7 (nI (i + 1)) h' ∧ wF h0 h' ∧ h' 81 = h 81 ∧ w82 E T i E.n h' := by
      intro z
      refine ih (k + 1) h F (fun f e q1 q2 q3 q4 q5 => W f e q1 q2 q3 q4 ?_) (by omega) (by omega)
      rcases q5 with q5 | ⟨q5, q6⟩
      · exact Or.inl q5
      · refine Or.inr ⟨q5, ?_⟩
        have : e ≠ k := by
          intro y
          rw [q5] at q3
          rw [y] at q4
          exact z ⟨q3, q4⟩
        omega
    by_cases a0 : E.sd i = 0
    case neg =>
      rw [if_neg a0]
      exact skip (fun z => a0 z.1)
    rw [if_pos a0]
    by_cases a1 : E.sd k = 1
    case neg =>
      rw [if_neg a1]
      exact skip (fun z => a1 z.2)
    rw [if_pos a1]
    have hik : i ≠ k := by intro z; rw [z, a1] at a0; exact absurd a0 (by decide)
    obtain ⟨h1', e1, e2⟩ := q_lcV (h := h) (E := E) (T := T) (He.same (fun c hc => F c (by omega) (by omega) (by omega) (by omega) (by omega))) (Ht.same (F 12 (by decide) (by decide) (by decide) (by decide) (by decide)) (F 13 (by decide) (by decide) (by decide) (by decide) (by decide)) (F 40 (by decide) (by decide) (by decide) (by decide) (by decide))) i k hi (by omega)
    rw [F 40 (by decide) (by decide) (by decide) (by decide) (by decide), h40 _ (by omega)] at e1
    rw [e1, zbd_e]
    unfold f_X11_pairOf
    simp only [zbd_e, zst_e, show nI i * 16 + nI k = nI (i * 16 + k) by rw [show nI i * 16 = nI (i * 16) from n_mul i 16]; exact n_add _ _, show nI k * 16 + nI i = nI (k * 16 + i) by rw [show nI k * 16 = nI (k * 16) from n_mul k 16]; exact n_add _ _]
    rw [zck_n (by omega) (by decide), zck_n (by omega) (by decide), n_cl (by omega), n_cl (by omega)]
    generalize hX : zup (zup h1' 82 (i * 16 + k) (eV E T i k)) 82 (k * 16 + i) (eV E T i k) = X
    have xc : ∀ c, c ≠ 19 → c ≠ 21 → c ≠ 82 → X c = h c := fun c q1 q2 q3 => by rw [← hX, zup_ne c q3, zup_ne c q3, e2 c q1 q2]
    have x1 : X 82 (i * 16 + k) = eV E T i k := by rw [← hX, zup_eq, pk_un (by omega), zup_eq, pk_us]
    have x2 : X 82 (k * 16 + i) = eV E T i k := by rw [← hX, zup_eq, pk_us]
    have x3 : ∀ j, j ≠ i * 16 + k → j ≠ k * 16 + i → X 82 j = h 82 j := fun j q1 q2 => by rw [← hX, zup_eq, pk_un q2, zup_eq, pk_un q1, e2 82 (by decide) (by decide)]
    obtain ⟨h', p1, p2, p3, p4⟩ := ih (k + 1) X (fun c q1 q2 q3 q4 q5 => by rw [xc c q1 q2 q5, F c q1 q2 q3 q4 q5]) (fun f e q1 q2 q3 q4 q5 => by
      by_cases y : f = i ∧ e = k
      · obtain ⟨rfl, rfl⟩ := y
        exact ⟨x1, x2⟩
      · have nf : f ≠ k := by intro z; rw [z, a1] at q3; exact absurd q3 (by decide)
        have ne : e ≠ i := by intro z; rw [z, a0] at q4; exact absurd q4 (by decide)
        rw [x3 _ (by omega) (by omega), x3 _ (by omega) (by omega)]
        exact W f e q1 q2 q3 q4 (by omega)) (by omega) (by omega)
    exact ⟨h', p1, p2, by rw [p3, xc 81 (by decide) (by decide) (by decide)], p4⟩
theorem q_wo7 {E : zEv} {T : zTe} {h0 : zH} (He : eC E h0) (Ht : cT E.nt T h0) (h40 : ∀ p, p < 256 → h0 40 p = 0) : ∀ m i h, wF h0 h → (∀ j, j < i → h 81 j = E.wt j) → w82 E T i 0 h → i ≤ E.n → E.n < m + i → ∃ h', f_X10_solve_r1_7 m (nI i) h = f_X10_solve_r1_109 zN 1 h' ∧ wF h0 h' ∧ (∀ j, j < E.n → h' 81 j = E.wt j) ∧ w82 E T E.n 0 h' := by
  have hn := He.1
  intro m
  induction m with
  | zero => intro i h _ _ _ h1 h2; omega
  | succ m ih =>
    intro i h F A W h1 h2
    have c2 : h 2 4 = nI E.n := by rw [F 2 (by decide) (by decide) (by decide) (by decide) (by decide)]; exact He.2.1
    simp only [f_X10_solve_r1_7, c2]
    by_cases hi : i = E.n
    · subst hi
      rw [if_pos (Int32.le_refl _)]
      exact ⟨h, rfl, F, A, W⟩
    have c5 : h 5 i = E.wt i := by rw [F 5 (by decide) (by decide) (by decide) (by decide) (by decide)]; exact (He.2.2.1 i (by omega)).2.2
    rw [if_neg (by rw [n_le (by omega) (by omega)]; omega), zck_n (by omega) (by decide), zck_n (by omega) (by decide), n_cl (by omega), zst_e, c5]
    obtain ⟨h1', a1, a2, a3, a4⟩ := q_wo30 (f_X10_solve_r1_7 m) He Ht h40 (i := i) (by omega) zN 0 (zup h 81 i (E.wt i)) (fun c q1 q2 q3 q4 q5 => by rw [zup_ne c q4, F c q1 q2 q3 q4 q5]) (fun f e q1 q2 q3 q4 q5 => by rw [zup_ne 82 (by decide)]; exact W f e q1 q2 q3 q4 q5) (by omega) (by unfold zN; omega)
    have a1 : f_X10_solve_r1_30 (f_X10_solve_r1_7 m) zN (nI i) 0 (zup h 81 i (E.wt i)) = f_X10_solve_r1_7 m (nI (i + 1)) h1' := a1
    rw [a1]
    exact ih (i + 1) h1' a2 (fun j hj => by
      rw [a3, zup_eq]
      by_cases c : j = i
      · subst c; rw [pk_us]
      · rw [pk_un c]; exact A j (by omega)) (fun f e q1 q2 q3 q4 q5 => a4 f e q1 q2 q3 q4 (by omega)) (by omega) (by omega)
theorem q_gre {E : zEv} {T : zTe} {h : zH} (hn : E.n ≤ 16) (c2 : h 2 4 = nI E.n) (c3 : ∀ j, j < E.n → h 3 j = E.sd j) (W : w82 E T E.n 0 h) (hs : ∀ j, j < E.n → E.sd j = 0 ∨ E.sd j = 1) {i r : Nat} (hi : i < E.n) (hr : r ≤ 40) (A : ∀ j, j < E.n → h 81 (r * 16 + j) = wrt E T r j) : ∀ m k a, k ≤ E.n → E.n < m + k → f_X10_greatest_r2_6 m (nI i) (nI (r * 16)) a (nI k) h = some (gre E.sd (lau E T i) (wrt E T r) i (E.n - k) k a, h) := by
  intro m
  induction m with
  | zero => intro k a h1 h2; omega
  | succ m ih =>
    intro k a h1 h2
    simp only [f_X10_greatest_r2_6, f_X10_greatest_r2_59, c2, zlt_e, nI_1]
    by_cases hk : k = E.n
    · subst hk
      rw [if_pos (Int32.le_refl _), Nat.sub_self]
      rfl
    obtain ⟨q, hq⟩ : ∃ q, E.n - k = q + 1 := ⟨E.n - k - 1, by omega⟩
    have hq' : q = E.n - (k + 1) := by omega
    rw [if_neg (by rw [n_le (by omega) (by omega)]; omega), zck_n (by omega) (by decide), zck_n (by omega) (by decide), n_cl (by omega), n_cl (by omega), c3 k (by omega), c3 i hi, hq, gre, hq']
    by_cases c : E.sd k = E.sd i
    · rw [if_pos c, if_pos c]
      exact ih (k + 1) a (by omega) (by omega)
    rw [if_neg c, if_neg c]
    unfold f_X11_pairOf
    rw [zbd_e, show nI i * 16 + nI k = nI (i * 16 + k) by rw [show nI i * 16 = nI (i * 16) from n_mul i 16]; exact n_add _ _, n_add, zck_n (by omega) (by decide), zck_n (by omega) (by decide), n_cl (by omega), n_cl (by omega), A k (by omega)]
    have e : h 82 (i * 16 + k) = lau E T i k := by
      unfold lau
      rcases hs i hi with s | s
      · rw [if_pos s]
        have sk : E.sd k = 1 := (hs k (by omega)).resolve_left (fun z => c (z.trans s.symm))
        exact (W i k hi (by omega) s sk (by omega)).1
      · rw [if_neg (by rw [s]; decide)]
        have sk : E.sd k = 0 := (hs k (by omega)).resolve_right (fun z => c (z.trans s.symm))
        exact (W k i (by omega) hi sk s (by omega)).2
    rw [e]
    exact ih (k + 1) _ (by omega) (by omega)
def rowC (E : zEv) (T : zTe) (R : Nat) (h : zH) : Prop := ∀ q, q ≤ R → ∀ j, j < E.n → h 81 (q * 16 + j) = wrt E T q j
theorem q_wo118 {E : zEv} {T : zTe} {h0 : zH} (k109 : Int32 → zH → zR) (He : eC E h0) (hs : ∀ j, j < E.n → E.sd j = 0 ∨ E.sd j = 1) {r : Nat} (hr : r < 40) : ∀ m k h, wF h0 h → w82 E T E.n 0 h → rowC E T r h → (∀ j, j < k → h 81 ((r + 1) * 16 + j) = wrt E T (r + 1) j) → k ≤ E.n → E.n < m + k → ∃ h', f_X10_solve_r1_118 k109 m (nI (r + 1)) (nI k) h = k109 (nI (r + 2)) h' ∧ wF h0 h' ∧ w82 E T E.n 0 h' ∧ rowC E T (r + 1) h' := by
  have hn := He.1
  intro m
  induction m with
  | zero => intro k h _ _ _ _ h1 h2; omega
  | succ m ih =>
    intro k h F W A B h1 h2
    have c2 : h 2 4 = nI E.n := by rw [F 2 (by decide) (by decide) (by decide) (by decide) (by decide)]; exact He.2.1
    have c3 : ∀ j, j < E.n → h 3 j = E.sd j := fun j hj => by rw [F 3 (by decide) (by decide) (by decide) (by decide) (by decide)]; exact (He.2.2.1 j hj).1
    simp only [f_X10_solve_r1_118, c2]
    by_cases hk : k = E.n
    · subst hk
      rw [if_pos (Int32.le_refl _), zlt_e, nI_1]
      refine ⟨h, rfl, F, W, fun q hq j hj => ?_⟩
      by_cases c : q = r + 1
      · subst c; exact B j hj
      · exact A q (by omega) j hj
    rw [if_neg (by rw [n_le (by omega) (by omega)]; omega), n_s1n (by omega), Nat.add_sub_cancel, show nI r * 16 = nI (r * 16) from n_mul r 16]
    have e := q_gre hn c2 c3 W hs (i := k) (r := r) (by omega) (by omega) (A r (by omega)) zN 0 0 (by omega) (by unfold zN; omega)
    have e : f_X10_greatest_r2 (nI k) (nI (r * 16)) h = some (wrt E T (r + 1) k, h) := e
    rw [e, zbd_e, show nI (r + 1) * 16 + nI k = nI ((r + 1) * 16 + k) by rw [show nI (r + 1) * 16 = nI ((r + 1) * 16) from n_mul (r + 1) 16]; exact n_add _ _, zck_n (by omega) (by decide), n_cl (by omega), zst_e, zlt_e, nI_1]
    exact ih (k + 1) (zup h 81 ((r + 1) * 16 + k) (wrt E T (r + 1) k)) (fun c q1 q2 q3 q4 q5 => by rw [zup_ne c q4, F c q1 q2 q3 q4 q5]) (fun f e q1 q2 q3 q4 q5 => by rw [zup_ne 82 (by decide)]; exact W f e q1 q2 q3 q4 q5) (fun q hq j hj => by rw [zup_eq, pk_un (by omega)]; exact A q hq j hj) (fun j hj => by
      rw [zup_eq]
      by_cases c : j = k
      · subst c; rw [pk_us]
      · rw [pk_un (by omega)]; exact B j (by omega)) (by omega) (by omega)
theorem q_wo109 {E : zEv} {T : zTe} {h0 : zH} (He : eC E h0) (hs : ∀ j, j < E.n → E.sd j = 0 ∨ E.sd j = 1) : ∀ m r h, wF h0 h → w82 E T E.n 0 h → rowC E T r h → r ≤ 40 → 40 < m + r → ∃ h', f_X10_solve_r1_109 m (nI (r + 1)) h = zbd (f_X10_judge (nI E.n) h') (fun _ h2 => some (0, h2)) ∧ wF h0 h' ∧ rowC E T 40 h' := by
  have hn := He.1
  intro m
  induction m with
  | zero => intro r h _ _ _ h1 h2; omega
  | succ m ih =>
    intro r h F W A h1 h2
    simp only [f_X10_solve_r1_109]
    by_cases hr : r = 40
    · subst hr
      rw [if_pos (by decide), F 2 (by decide) (by decide) (by decide) (by decide) (by decide), He.2.1]
      exact ⟨h, rfl, F, A⟩
    rw [if_neg (show ¬ (40 : Int32) < nI (r + 1) by rw [l_40, n_lt (by omega) (by omega)]; omega)]
    obtain ⟨h1', a1, a2, a3, a4⟩ := q_wo118 (f_X10_solve_r1_109 m) He hs (r := r) (by omega) zN 0 h F W A (fun j hj => by omega) (by omega) (by unfold zN; omega)
    have a1 : f_X10_solve_r1_118 (f_X10_solve_r1_109 m) zN (nI (r + 1)) 0 h = f_X10_solve_r1_109 m (nI (r + 1 + 1)) h1' := a1
    rw [a1]
    exact ih (r + 1) h1' a2 a3 a4 (by omega) (by omega)
theorem q_alC {E : zEv} {T : zTe} {h : zH} (hn : E.n ≤ 16) (A : rowC E T 40 h) {a b : Nat} (ha : a ≤ 40) (hb : b ≤ 40) : ∃ v : Bool, f_X10_areAlike (nI a) (nI b) (nI E.n) h = some (if v = true then 1 else 0, h) ∧ (v = true ↔ alk E T a b) := by
  have loop : ∀ m k, (∀ j, j < k → wrt E T a j = wrt E T b j) → k ≤ E.n → E.n < m + k → ∃ v : Bool, f_X10_areAlike_3 m (nI a) (nI b) (nI E.n) (nI k) h = some (if v = true then 1 else 0, h) ∧ (v = true ↔ alk E T a b) := by
    intro m
    induction m with
    | zero => intro k _ h1 h2; omega
    | succ m ih =>
      intro k B h1 h2
      simp only [f_X10_areAlike_3]
      by_cases hk : k = E.n
      · subst hk
        rw [if_pos (Int32.le_refl _)]
        exact ⟨true, rfl, fun _ => B, fun _ => rfl⟩
      rw [if_neg (by rw [n_le (by omega) (by omega)]; omega), show nI a * 16 + nI k = nI (a * 16 + k) by rw [show nI a * 16 = nI (a * 16) from n_mul a 16]; exact n_add _ _, show nI b * 16 + nI k = nI (b * 16 + k) by rw [show nI b * 16 = nI (b * 16) from n_mul b 16]; exact n_add _ _, zck_n (by omega) (by decide), zck_n (by omega) (by decide), n_cl (by omega), n_cl (by omega), A a ha k (by omega), A b hb k (by omega)]
      by_cases c : wrt E T a k = wrt E T b k
      · rw [if_pos c, zlt_e, nI_1]
        exact ih (k + 1) (fun j hj => by
          by_cases d : j = k
          · subst d; exact c
          · exact B j (by omega)) (by omega) (by omega)
      · rw [if_neg c]
        exact ⟨false, rfl, fun z => absurd z (by decide), fun z => absurd (z k (by omega)) c⟩
  exact loop zN 0 (fun j hj => by omega) (by omega) (by unfold zN; omega)
