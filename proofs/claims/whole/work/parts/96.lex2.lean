/-! runs of letters and digits -/
def rn (P : Int32 → Prop) (L : Nat) (tp : Nat → Int32) (p e : Nat) : Prop := p ≤ e ∧ e ≤ L ∧ (∀ i, p ≤ i → i < e → P (tp i)) ∧ (e = L ∨ ¬ P (tp e))
theorem rn_ex (P : Int32 → Prop) (L : Nat) (tp : Nat → Int32) : ∀ n p, p ≤ L → L ≤ n + p → ∃ e, rn P L tp p e := by
  intro n
  induction n with
  | zero => intro p h1 h2; exact ⟨p, Nat.le_refl _, h1, fun i i1 i2 => by omega, Or.inl (by omega)⟩
  | succ n ih =>
    intro p h1 h2
    by_cases hp : p = L
    · exact ⟨p, Nat.le_refl _, h1, fun i i1 i2 => by omega, Or.inl hp⟩
    by_cases c : P (tp p)
    · obtain ⟨e, e1, e2, e3, e4⟩ := ih (p + 1) (by omega) (by omega)
      refine ⟨e, by omega, e2, fun i i1 i2 => ?_, e4⟩
      by_cases d : i = p
      · subst d; exact c
      · exact e3 i (by omega) i2
    · exact ⟨p, Nat.le_refl _, h1, fun i i1 i2 => by omega, Or.inr c⟩
/-- the reference passes over the letters -/
theorem q_76 {L : Nat} {tp : Nat → Int32} {p e : Nat} (hL : L ≤ 400) (R : rn iL L tp p e) : ∀ n g, tpM L tp g → g 100 14 = nI p → e < n + p → ∃ g', f_X12_next0_76 n g = (zbd (f_X12_word g') fun r29 h30 => (zst (zup h30 100 15 r29) fun h31 => (some (0, h31)))) ∧ (∀ c, c ≠ 100 → g' c = g c) ∧ (∀ j, j ≠ 14 → g' 100 j = g 100 j) ∧ g' 100 14 = nI e := by
  intro n
  induction n generalizing p with
  | zero => intro g _ _ h; have := R.1; omega
  | succ n ih =>
    intro g T g14 hn
    obtain ⟨r1, r2, r3, r4⟩ := R
    simp only [f_X12_next0_76]
    rw [g14, q_see T hL (by omega), zbd_e]
    by_cases c : p = e
    · subst c
      have nl : ¬ iL (if p < L then tp p else -1) := by
        by_cases d : p < L
        · rw [if_pos d]; exact r4.resolve_left (by omega)
        · rw [if_neg d]; decide
      rw [q_letM, zbd_e, if_neg nl, if_pos rfl]
      exact ⟨g, rfl, fun c _ => rfl, fun j _ => rfl, g14⟩
    · rw [if_pos (show p < L by omega), q_letM, zbd_e, if_pos (r3 p (by omega) (by omega)), if_neg (show ¬ (1 : Int32) = 0 by decide), g14, nI_1, zst_e]
      obtain ⟨g', p1, p2, p3, p4⟩ := ih (p := p + 1) ⟨by omega, r2, fun i i1 i2 => r3 i (by omega) i2, r4⟩ (zup g 100 14 (nI (p + 1))) (T.mv (gK1 g 14 _ (by omega))) (by rw [zup_eq, pk_us]) (by omega)
      exact ⟨g', p1, fun c hc => by rw [p2 c hc, zup_ne c hc], fun j hj => by rw [p3 j hj, zup_eq, pk_un hj], p4⟩
/-- the class passes over the letters -/
theorem q_tw2 {L : Nat} {tp : Nat → Int32} {p e q : Nat} {h : zH} (hL : L ≤ 400) (h5 : h 29 5 = nI L) (h30 : ∀ i, i < L → h 30 i = tp i) (R : rn iL L tp p e) : ∀ n, e < n + p → f_X7_takeWord_2 n (nI q) (nI p) h = f_X7_takeWord_28 (nI q) (nI e) h := by
  intro n
  induction n generalizing p with
  | zero => intro h; have := R.1; omega
  | succ n ih =>
    intro hn
    obtain ⟨r1, r2, r3, r4⟩ := R
    simp only [f_X7_takeWord_2, h5]
    by_cases c : p = e
    · subst c
      by_cases d : p < L
      · rw [if_neg (by rw [n_le (by omega) (by omega)]; omega), zck_n (by omega) (by decide), n_cl (by omega), h30 p d, q_letC, zbd_e, if_neg (r4.resolve_left (by omega)), if_pos rfl]
      · rw [if_pos (by rw [n_le (by omega) (by omega)]; omega)]
    · rw [if_neg (by rw [n_le (by omega) (by omega)]; omega), zck_n (by omega) (by decide), n_cl (by omega), h30 p (by omega), q_letC, zbd_e, if_pos (r3 p (by omega) (by omega)), if_neg (show ¬ (1 : Int32) = 0 by decide), zlt_e, nI_1]
      exact ih (p := p + 1) ⟨by omega, r2, fun i i1 i2 => r3 i (by omega) i2, r4⟩ (by omega)
/-! words -/
def wln (w : Nat) : Nat := zlen.getD ([6, 2, 3, 4, 5, 7, 8, 9, 10, 11, 12, 13].getD w 0) 0
def wch (w k : Nat) : Int32 := zcv ([6, 2, 3, 4, 5, 7, 8, 9, 10, 11, 12, 13].getD w 0) k
def wmt (tp : Nat → Int32) (p e w : Nat) : Prop := e - p = wln w ∧ ∀ i, i < wln w → tp (p + i) = wch w i
theorem w_t1 : ∀ w, w < 12 → 2 ≤ wln w ∧ wln w ≤ 5 ∧ (∀ k, k < 5 → zcv 0 (w * 5 + k) = if k < wln w then wch w k else 32) ∧ ∀ k, k < wln w → ¬ wch w k = 32 := by decide +kernel
theorem w_t2 : ∀ w, w < 12 → ∀ u, u < 12 → wln w = wln u → (∀ k, k < wln w → wch w k = wch u k) → w = u := by decide +kernel
theorem wmt_un {tp : Nat → Int32} {p e w u : Nat} (hw : w < 12) (hu : u < 12) (a : wmt tp p e w) (b : wmt tp p e u) : w = u := by
  refine w_t2 w hw u hu (a.1.symm.trans b.1) (fun k hk => ?_)
  rw [← a.2 k hk, b.2 k (by rw [← b.1, a.1]; exact hk)]
theorem q_isW {L : Nat} {tp : Nat → Int32} {p e w : Nat} {h : zH} (hL : L ≤ 400) (hw : w < 12) (h30 : ∀ i, i < L → h 30 i = tp i) (hp : p < e) (he : e ≤ L) (nb : ∀ i, p ≤ i → i < e → ¬ tp i = 32) : ∃ v : Bool, f_X7_isWord (nI w) (nI p) (nI e) h = some (if v = true then 1 else 0, h) ∧ (v = true ↔ wmt tp p e w) := by
  obtain ⟨t1, t2, t3, t4⟩ := w_t1 w hw
  unfold f_X7_isWord
  rw [n_sub (by omega)]
  by_cases c : e - p ≤ 5
  case neg =>
    rw [if_neg (show ¬ nI (e - p) ≤ 5 by rw [l_5, n_le (by omega) (by omega)]; exact c)]
    exact ⟨false, rfl, fun z => absurd z (by decide), fun z => by have := z.1; omega⟩
  rw [if_pos (show nI (e - p) ≤ 5 by rw [l_5, n_le (by omega) (by omega)]; exact c)]
  have loop : ∀ n k, k ≤ 5 → 5 < n + k → (∀ i, i < k → (if p + i < e then tp (p + i) else 32) = zcv 0 (w * 5 + i)) → ∃ v : Bool, f_X7_isWord_12 n (nI w) (nI p) (nI e) (nI k) h = some (if v = true then 1 else 0, h) ∧ (v = true ↔ ∀ i, i < 5 → (if p + i < e then tp (p + i) else 32) = zcv 0 (w * 5 + i)) := by
    intro n
    induction n with
    | zero => intro k h1 h2; omega
    | succ n ih =>
      intro k h1 h2 A
      simp only [f_X7_isWord_12, f_X7_isWord_40]
      by_cases hk : k = 5
      · subst hk
        rw [if_pos (by decide)]
        exact ⟨true, rfl, fun _ => A, fun _ => rfl⟩
      rw [if_neg (show ¬ (5 : Int32) ≤ nI k by rw [l_5, n_le (by omega) (by omega)]; omega), n_add, show nI w * 5 + nI k = nI (w * 5 + k) by rw [show nI w * 5 = nI (w * 5) from n_mul w 5]; exact n_add _ _]
      have body : ∀ x : Int32, x = (if p + k < e then tp (p + k) else 32) → ∃ v : Bool, (zbd (f_J0_charAt_5068e 0 (nI (w * 5 + k)) h) fun r1 h2 => (if x = r1 then (zlt (nI k + (1 : Int32)) fun y3 => (f_X7_isWord_12 n (nI w) (nI p) (nI e) y3 h2)) else (some ((0 : Int32), h2)))) = some (if v = true then 1 else 0, h) ∧ (v = true ↔ ∀ i, i < 5 → (if p + i < e then tp (p + i) else 32) = zcv 0 (w * 5 + i)) := by
        intro x hx
        rw [q_char 0 (w * 5 + k) (by decide) (show w * 5 + k < 60 by omega), zbd_e]
        by_cases d : x = zcv 0 (w * 5 + k)
        · rw [if_pos d, zlt_e, nI_1]
          refine ih (k + 1) (by omega) (by omega) (fun i hi => ?_)
          by_cases q : i = k
          · subst q; rw [← hx]; exact d
          · exact A i (by omega)
        · rw [if_neg d]
          exact ⟨false, rfl, fun z => absurd z (by decide), fun z => absurd (hx.trans (z k (by omega))) d⟩
      by_cases d : p + k < e
      · rw [if_neg (by rw [n_le (by omega) (by omega)]; omega), zck_n (by omega) (by decide), n_cl (by omega), h30 _ (by omega)]
        exact body _ (by rw [if_pos d])
      · rw [if_pos (by rw [n_le (by omega) (by omega)]; omega)]
        exact body _ (by rw [if_neg d])
  obtain ⟨v, v1, v2⟩ := loop zN 0 (by omega) (by unfold zN; omega) (fun i hi => by omega)
  refine ⟨v, v1, v2.trans ⟨fun A => ?_, fun A i hi => ?_⟩⟩
  · have hl : e - p = wln w := by
      by_cases a : e - p < wln w
      · have := A (e - p) (by omega)
        rw [if_neg (by omega), t3 _ (by omega), if_pos a] at this
        exact absurd this.symm (t4 _ a)
      · by_cases b : wln w < e - p
        · have := A (wln w) (by omega)
          rw [if_pos (by omega), t3 _ (by omega), if_neg (by omega)] at this
          exact absurd this (nb _ (by omega) (by omega))
        · omega
    refine ⟨hl, fun i hi => ?_⟩
    have := A i (by omega)
    rw [if_pos (by omega), t3 _ (by omega), if_pos hi] at this
    exact this
  · rw [t3 i hi]
    have := A.1
    by_cases c : i < wln w
    · rw [if_pos (by omega), if_pos c]; exact A.2 i c
    · rw [if_neg (by omega), if_neg c]
/-- the class's word -/
theorem q_tw33 {L : Nat} {tp : Nat → Int32} {p e : Nat} {h : zH} (hL : L ≤ 400) (h30 : ∀ i, i < L → h 30 i = tp i) (hp : p < e) (he : e ≤ L) (nb : ∀ i, p ≤ i → i < e → ¬ tp i = 32) : ∀ n w k, w ≤ 12 → 12 < n + w → ((∃ u, u < w ∧ wmt tp p e u ∧ k = 3 + u) ∨ ((∀ u, u < w → ¬ wmt tp p e u) ∧ k = 1)) → ∃ k', ((∃ u, u < 12 ∧ wmt tp p e u ∧ k' = 3 + u) ∨ ((∀ u, u < 12 → ¬ wmt tp p e u) ∧ k' = 1)) ∧ f_X7_takeWord_33 n (nI p) (nI e) (nI k) (nI w) h = (zbd (f_X7_addToken (nI k') (0 : Int32) (nI p) h) fun r1 h2 => (some (nI e, h2))) := by
  intro n
  induction n with
  | zero => intro w k h1 h2; omega
  | succ n ih =>
    intro w k h1 h2 A
    simp only [f_X7_takeWord_33, f_X7_takeWord_56, zlt_e, nI_1]
    by_cases hw : w = 12
    · subst hw
      rw [if_pos (by decide)]
      exact ⟨k, A, rfl⟩
    rw [if_neg (show ¬ (12 : Int32) ≤ nI w by rw [show (12 : Int32) = nI 12 from rfl, n_le (by omega) (by omega)]; omega)]
    obtain ⟨v, v1, v2⟩ := q_isW hL (show w < 12 by omega) h30 hp he nb
    rw [v1, zbd_e]
    cases v with
    | true =>
      rw [if_pos rfl, if_neg (show ¬ (1 : Int32) = 0 by decide), show (3 : Int32) + nI w = nI (3 + w) from n_add 3 w]
      exact ih (w + 1) (3 + w) (by omega) (by omega) (Or.inl ⟨w, by omega, v2.mp rfl, rfl⟩)
    | false =>
      rw [if_neg (show ¬ false = true by decide), if_pos rfl]
      refine ih (w + 1) k (by omega) (by omega) ?_
      have nw : ¬ wmt tp p e w := fun z => absurd (v2.mpr z) (by decide)
      rcases A with ⟨u, u1, u2, u3⟩ | ⟨a1, a2⟩
      · exact Or.inl ⟨u, by omega, u2, u3⟩
      · refine Or.inr ⟨fun u hu => ?_, a2⟩
        by_cases d : u = w
        · subst d; exact nw
        · exact a1 u (by omega)
/-- the reference's word -/
theorem q_is0 (n i : Nat) (hi : i < 14) (hz : 0 < zlen.getD i 0) (g : zH) : f_X12_is_24 (n + 1) i 0 (nI 0) g = some (0, g) := by
  have hl := zlen_t i hi
  simp only [f_X12_is_24, f_X12_is_67, q_len' i hi, zbd_e]
  rw [if_neg (show ¬ nI (zlen.getD i 0) ≤ nI 0 by rw [n_le (by omega) (by omega)]; omega), if_pos trivial]
  rfl
theorem q_is {L : Nat} {tp : Nat → Int32} {p e i : Nat} {g : zH} (hL : L ≤ 400) (hi : i < 14) (T : tpM L tp g) (g14 : g 100 14 = nI e) (g16 : g 100 16 = nI p) (hp : p ≤ e) (he : e ≤ L) (hz : 0 < zlen.getD i 0) : ∃ v : Bool, f_X12_is i g = some (if v = true then 1 else 0, g) ∧ (v = true ↔ (e - p = zlen.getD i 0 ∧ ∀ k, k < zlen.getD i 0 → tp (p + k) = zcv i k)) := by
  have hl := zlen_t i hi
  unfold f_X12_is f_X12_is_21
  rw [q_len' i hi, zbd_e, g14, g16, n_sub hp]
  by_cases c : e - p = zlen.getD i 0
  · rw [if_pos (by rw [c])]
    have loop : ∀ n k b, k ≤ zlen.getD i 0 → zlen.getD i 0 < n + k → (b = true ↔ ∀ j, j < k → tp (p + j) = zcv i j) → ∃ v : Bool, f_X12_is_24 n i (if b = true then 1 else 0) (nI k) g = some (if v = true then 1 else 0, g) ∧ (v = true ↔ ∀ j, j < zlen.getD i 0 → tp (p + j) = zcv i j) := by
      intro n
      induction n with
      | zero => intro k b h1 h2; omega
      | succ n ih =>
        intro k b h1 h2 A
        simp only [f_X12_is_24, f_X12_is_67, f_X12_is_60, q_len' i hi, zbd_e, zbo_ite, zlt_e, nI_1]
        by_cases hk : k = zlen.getD i 0
        · rw [if_pos (by rw [hk]; exact Int32.le_refl _)]
          exact ⟨b, rfl, by rw [← hk]; exact A⟩
        rw [if_neg (by rw [n_le (by omega) (by omega)]; omega)]
        cases b with
        | false =>
          rw [if_neg (show ¬ false = true by decide), if_pos rfl]
          exact ⟨false, rfl, fun z => absurd z (by decide), fun z => A.mpr (fun j hj => z j (by omega))⟩
        | true =>
          rw [if_pos rfl, if_neg (show ¬ (1 : Int32) = 0 by decide), g16, n_add, zck_n (by omega) (by decide), n_cl (by omega), T.2 _ (by omega), q_char i k hi (by omega), zbd_e]
          have A' := A.mp rfl
          by_cases d : tp (p + k) = zcv i k
          · rw [if_pos d]
            exact ih (k + 1) true (by omega) (by omega) ⟨fun _ j hj => by
              by_cases q : j = k
              · subst q; exact d
              · exact A' j (by omega), fun _ => rfl⟩
          · rw [if_neg d]
            exact ih (k + 1) false (by omega) (by omega) ⟨fun z => absurd z (by decide), fun z => absurd (z k (by omega)) d⟩
    obtain ⟨v, v1, v2⟩ := loop zN 0 true (by omega) (by unfold zN; omega) ⟨fun _ j hj => by omega, fun _ => rfl⟩
    exact ⟨v, v1, v2.trans ⟨fun z => ⟨c, z⟩, fun z => z.2⟩⟩
  · rw [if_neg (by rw [n_eq (by omega) (by omega)]; exact c)]
    refine ⟨false, ?_, fun z => absurd z (by decide), fun z => absurd z.1 c⟩
    exact q_is0 4095 i hi hz g
theorem q_isw {L : Nat} {tp : Nat → Int32} {p e : Nat} {g : zH} (hL : L ≤ 400) (T : tpM L tp g) (g14 : g 100 14 = nI e) (g16 : g 100 16 = nI p) (hp : p ≤ e) (he : e ≤ L) (w i : Nat) (hw : w < 12) (hi : [6, 2, 3, 4, 5, 7, 8, 9, 10, 11, 12, 13].getD w 0 = i) (hi14 : i < 14) : f_X12_is i g = some (1, g) ∧ wmt tp p e w ∨ f_X12_is i g = some (0, g) ∧ ¬ wmt tp p e w := by
  have e1 : wln w = zlen.getD i 0 := by unfold wln; rw [hi]
  have e2 : ∀ k, wch w k = zcv i k := fun k => by unfold wch; rw [hi]
  have := (w_t1 w hw).1
  obtain ⟨v, v1, v2⟩ := q_is hL hi14 T g14 g16 hp he (by omega)
  have e3 : v = true ↔ wmt tp p e w := by
    unfold wmt
    simp only [e2, e1]
    exact v2
  cases v with
  | true => exact Or.inl ⟨v1, e3.mp rfl⟩
  | false => exact Or.inr ⟨v1, fun z => absurd (e3.mpr z) (by decide)⟩
