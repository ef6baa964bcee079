/-! worths: the reference's rounds, and the judgement -/
def mF (g g' : zH) : Prop := ∀ c, c ≠ 108 → c ≠ 109 → c ≠ 116 → g' c = g c
def rowM (E : zEv) (T : zTe) (R : Nat) (g : zH) : Prop := ∀ q, q ≤ R → ∀ j, j < E.n → g 116 (16 * q + j) = wrt E T q j
theorem mst (a v : Int32) : (if a ≤ v then v else a) = (if a < v then v else a) := by
  by_cases c : a < v
  · rw [if_pos c, if_pos (Int32.le_of_lt c)]
  · rw [if_neg c]
    by_cases d : a ≤ v
    · rw [if_pos d]; exact Int32.le_antisymm (Int32.not_lt.mp c) d
    · rw [if_neg d]
theorem q_wb {E : zEv} {can : Nat → Nat → Bool} {T : zTe} {g0 : zH} (Hm : tM E can T g0) {i r : Nat} (hi : i < E.n) (hr : r < 40) : ∀ m k a g, mF g0 g → rowM E T r g → k ≤ E.n → E.n < m + k → ∃ g', f_X12_worthBehind_5 m (nI (r + 1)) (nI i) a (nI k) g = some (gre E.sd (lau E T i) (wrt E T r) i (E.n - k) k a, g') ∧ mF g0 g' ∧ g' 116 = g 116 := by
  have hn := Hm.1.1
  intro m
  induction m with
  | zero => intro k a g _ _ h1 h2; omega
  | succ m ih =>
    intro k a g F A h1 h2
    have gw : g 101 = g0 101 := F 101 (by decide) (by decide) (by decide)
    have Hg : tM E can T g := Hm.w gw
    simp only [f_X12_worthBehind_5, f_X12_worthBehind_84, Hg.1.2.1, zlt_e, nI_1]
    by_cases hk : k = E.n
    · subst hk
      rw [if_pos (Int32.le_refl _), Nat.sub_self]
      exact ⟨g, rfl, F, rfl⟩
    obtain ⟨q, hq⟩ : ∃ q, E.n - k = q + 1 := ⟨E.n - k - 1, by omega⟩
    have hq' : q = E.n - (k + 1) := by omega
    rw [if_neg (by rw [n_le (by omega) (by omega)]; omega), q_oh0 k g (by omega), zbd_e, q_oh0 i g (by omega), zbd_e, (Hg.1.2.2.1 k (by omega)).1, (Hg.1.2.2.1 i hi).1, hq, gre, hq']
    by_cases c : E.sd k = E.sd i
    · rw [if_pos c, if_pos c]
      exact ih (k + 1) a g F A (by omega) (by omega)
    rw [if_neg c, if_neg c, q_isFr Hg.1 i hi, zbd_e]
    have fin : ∀ g1 v, (∀ c, c ≠ 108 → c ≠ 109 → g1 c = g c) → v = lau E T i k → ∃ g', f_X12_worthBehind_60 (f_X12_worthBehind_5 m) (nI (r + 1)) (nI i) a (nI k) v g1 = some (gre E.sd (lau E T i) (wrt E T r) i (E.n - (k + 1)) (k + 1) (if a < lau E T i k - wrt E T r k then lau E T i k - wrt E T r k else a), g') ∧ mF g0 g' ∧ g' 116 = g 116 := by
      intro g1 v f1 hv
      have e116 : g1 116 = g 116 := f1 116 (by decide) (by decide)
      have F1 : mF g0 g1 := fun c q1 q2 q3 => by rw [f1 c q1 q2, F c q1 q2 q3]
      unfold f_X12_worthBehind_60 f_X12_most f_X12_worthBehind_84
      rw [n_s1n (by omega), Nat.add_sub_cancel, show (16 : Int32) * nI r + nI k = nI (16 * r + k) by rw [show (16 : Int32) * nI r = nI (16 * r) from n_mul 16 r]; exact n_add _ _, zck_n (by omega) (by decide), n_cl (by omega), e116, A r (by omega) k (by omega), hv]
      have A1 : rowM E T r g1 := fun q hq j hj => by rw [e116]; exact A q hq j hj
      obtain ⟨g', p1, p2, p3⟩ := ih (k + 1) (if a < lau E T i k - wrt E T r k then lau E T i k - wrt E T r k else a) g1 F1 A1 (by omega) (by omega)
      refine ⟨g', ?_, p2, p3.trans e116⟩
      rw [← p1, ← mst]
      by_cases d : a ≤ lau E T i k - wrt E T r k
      · rw [if_pos d, if_pos d, zbd_e, zlt_e, nI_1]
      · rw [if_neg d, if_neg d, zbd_e, zlt_e, nI_1]
    by_cases s : E.sd i = 0
    · rw [if_pos s, if_neg (show ¬ (1 : Int32) = 0 by decide)]
      obtain ⟨g1, e1, e2⟩ := q_lmV Hg i k hi (by omega)
      rw [e1, zbd_e]
      exact fin g1 _ e2 (by unfold lau; rw [if_pos s])
    · rw [if_neg s, if_pos rfl]
      obtain ⟨g1, e1, e2⟩ := q_lmV Hg k i (by omega) hi
      rw [e1, zbd_e]
      exact fin g1 _ e2 (by unfold lau; rw [if_neg s])
theorem q_wm80 {E : zEv} {can : Nat → Nat → Bool} {T : zTe} {g0 : zH} (k71 : Int32 → Int32 → Int32 → zH → zR) (x1 x2 : Int32) (Hm : tM E can T g0) {r : Nat} (hr : r < 40) : ∀ m k g, mF g0 g → rowM E T r g → (∀ j, j < k → g 116 (16 * (r + 1) + j) = wrt E T (r + 1) j) → k ≤ E.n → E.n < m + k → ∃ g', f_X12_worth_80 k71 m x1 x2 (nI (r + 1)) (nI k) g = k71 x1 x2 (nI (r + 2)) g' ∧ mF g0 g' ∧ rowM E T (r + 1) g' := by
  have hn := Hm.1.1
  intro m
  induction m with
  | zero => intro k g _ _ _ h1 h2; omega
  | succ m ih =>
    intro k g F A B h1 h2
    have gw : g 101 = g0 101 := F 101 (by decide) (by decide) (by decide)
    simp only [f_X12_worth_80, gw, Hm.1.2.1]
    by_cases hk : k = E.n
    · subst hk
      rw [if_pos (Int32.le_refl _), zlt_e, nI_1]
      refine ⟨g, rfl, F, fun q hq j hj => ?_⟩
      by_cases c : q = r + 1
      · subst c; exact B j hj
      · exact A q (by omega) j hj
    rw [if_neg (by rw [n_le (by omega) (by omega)]; omega)]
    obtain ⟨g1, e1, e2, e3⟩ := q_wb Hm (i := k) (r := r) (by omega) hr zN 0 0 g F A (by omega) (by unfold zN; omega)
    have e1 : f_X12_worthBehind (nI (r + 1)) (nI k) g = some (wrt E T (r + 1) k, g1) := e1
    rw [e1, zbd_e, show (16 : Int32) * nI (r + 1) + nI k = nI (16 * (r + 1) + k) by rw [show (16 : Int32) * nI (r + 1) = nI (16 * (r + 1)) from n_mul 16 (r + 1)]; exact n_add _ _, zck_n (by omega) (by decide), n_cl (by omega), zst_e, zlt_e, nI_1]
    exact ih (k + 1) (zup g1 116 (16 * (r + 1) + k) (wrt E T (r + 1) k)) (fun c q1 q2 q3 => by rw [zup_ne c q3, e2 c q1 q2 q3]) (fun q hq j hj => by rw [zup_eq, pk_un (by omega), e3]; exact A q hq j hj) (fun j hj => by
      rw [zup_eq]
      by_cases c : j = k
      · subst c; rw [pk_us]
      · rw [pk_un (by omega), e3]; exact B j (by omega)) (by omega) (by omega)
theorem q_wm71 {E : zEv} {can : Nat → Nat → Bool} {T : zTe} {g0 : zH} (x1 x2 : Int32) (Hm : tM E can T g0) : ∀ m r g, mF g0 g → rowM E T r g → r ≤ 40 → 40 < m + r → ∃ g', f_X12_worth_71 m x1 x2 (nI (r + 1)) g = (if x2 ≤ (1 : Int32) then (f_X12_worth_144 zN x2 (1 : Int32) g') else (zck ((((16 : Int32) * x1) + x2) - (10 : Int32)) 656 (some ((g' 116 (Int32.toNatClampNeg ((((16 : Int32) * x1) + x2) - (10 : Int32)))), g')))) ∧ mF g0 g' ∧ rowM E T 40 g' := by
  intro m
  induction m with
  | zero => intro r g _ _ h1 h2; omega
  | succ m ih =>
    intro r g F A h1 h2
    simp only [f_X12_worth_71]
    by_cases hr : r = 40
    · subst hr
      have s : (40 : Int32) < nI (40 + 1) := by decide
      rw [if_pos s]
      exact ⟨g, rfl, F, A⟩
    rw [if_neg (show ¬ (40 : Int32) < nI (r + 1) by rw [l_40, n_lt (by omega) (by omega)]; omega)]
    obtain ⟨g1, a1, a2, a3⟩ := q_wm80 (f_X12_worth_71 m) x1 x2 Hm (r := r) (by omega) zN 0 g F A (fun j hj => by omega) (by omega) (by have := Hm.1.1; unfold zN; omega)
    have a1 : f_X12_worth_80 (f_X12_worth_71 m) zN x1 x2 (nI (r + 1)) 0 g = f_X12_worth_71 m x1 x2 (nI (r + 1 + 1)) g1 := a1
    rw [a1]
    exact ih (r + 1) g1 a2 a3 (by omega) (by omega)
theorem q_wm41 {E : zEv} {can : Nat → Nat → Bool} {T : zTe} {g0 : zH} (x1 x2 : Int32) (Hm : tM E can T g0) : ∀ m i g, mF g0 g → (∀ j, j < i → g 116 j = E.wt j) → i ≤ E.n → E.n < m + i → ∃ g', f_X12_worth_41 m x1 x2 (nI i) g = f_X12_worth_71 zN x1 x2 1 g' ∧ mF g0 g' ∧ rowM E T 0 g' := by
  have hn := Hm.1.1
  intro m
  induction m with
  | zero => intro i g _ _ h1 h2; omega
  | succ m ih =>
    intro i g F A h1 h2
    have gw : g 101 = g0 101 := F 101 (by decide) (by decide) (by decide)
    simp only [f_X12_worth_41, gw, Hm.1.2.1]
    by_cases hi : i = E.n
    · subst hi
      rw [if_pos (Int32.le_refl _)]
      refine ⟨g, rfl, F, fun q hq j hj => ?_⟩
      have : q = 0 := by omega
      subst this
      rw [show 16 * 0 + j = j by omega]
      exact A j hj
    rw [if_neg (by rw [n_le (by omega) (by omega)]; omega), q_oh2 i g (by omega), zbd_e, gw, (Hm.1.2.2.1 i (by omega)).2.2, zck_n (by omega) (by decide), n_cl (by omega), zst_e, zlt_e, nI_1]
    exact ih (i + 1) (zup g 116 i (E.wt i)) (fun c q1 q2 q3 => by rw [zup_ne c q3, F c q1 q2 q3]) (fun j hj => by
      rw [zup_eq]
      by_cases c : j = i
      · subst c; rw [pk_us]
      · rw [pk_un c]; exact A j (by omega)) (by omega) (by omega)
theorem q_alM {E : zEv} {T : zTe} {g : zH} (hn : E.n ≤ 16) (w3 : g 101 3 = nI E.n) (A : rowM E T 40 g) {a b : Nat} (ha : a ≤ 40) (hb : b ≤ 40) : ∃ v : Bool, f_X12_isAlike (nI a) (nI b) g = some (if v = true then 1 else 0, g) ∧ (v = true ↔ alk E T a b) := by
  have loop : ∀ m k, (∀ j, j < k → wrt E T a j = wrt E T b j) → k ≤ E.n → E.n < m + k → ∃ v : Bool, f_X12_isAlike_2 m (nI a) (nI b) (nI k) g = some (if v = true then 1 else 0, g) ∧ (v = true ↔ alk E T a b) := by
    intro m
    induction m with
    | zero => intro k _ h1 h2; omega
    | succ m ih =>
      intro k B h1 h2
      simp only [f_X12_isAlike_2, w3]
      by_cases hk : k = E.n
      · subst hk
        rw [if_pos (Int32.le_refl _)]
        exact ⟨true, rfl, fun _ => B, fun _ => rfl⟩
      rw [if_neg (by rw [n_le (by omega) (by omega)]; omega), show (16 : Int32) * nI a + nI k = nI (16 * a + k) by rw [show (16 : Int32) * nI a = nI (16 * a) from n_mul 16 a]; exact n_add _ _, show (16 : Int32) * nI b + nI k = nI (16 * b + k) by rw [show (16 : Int32) * nI b = nI (16 * b) from n_mul 16 b]; exact n_add _ _, zck_n (by omega) (by decide), zck_n (by omega) (by decide), n_cl (by omega), n_cl (by omega), A a ha k (by omega), A b hb k (by omega)]
      by_cases c : wrt E T a k = wrt E T b k
      · rw [if_pos c, zlt_e, nI_1]
        exact ih (k + 1) (fun j hj => by
          by_cases d : j = k
          · subst d; exact c
          · exact B j (by omega)) (by omega) (by omega)
      · rw [if_neg c]
        exact ⟨false, rfl, fun z => absurd z (by decide), fun z => absurd (z k (by omega)) c⟩
  exact loop zN 0 (fun j hj => by omega) (by omega) (by unfold zN; omega)
/-- searching a row that is alike -/
theorem q_j20n {E : zEv} {T : zTe} {h : zH} (k12 : Int32 → Int32 → zH → zR) (hn : E.n ≤ 16) (A : rowC E T 40 h) {r : Nat} (hr : r ≤ 40) (no : ∀ a, a < r → ¬ alk E T a r) : ∀ m q, q ≤ r → r < m + q → f_X10_judge_20 k12 m (nI E.n) (nI r) (nI q) h = k12 (nI E.n) (nI (r + 1)) h := by
  intro m
  induction m with
  | zero => intro q h1 h2; omega
  | succ m ih =>
    intro q h1 h2
    simp only [f_X10_judge_20]
    by_cases hq : q = r
    · subst hq
      rw [if_pos (Int32.le_refl _), zlt_e, nI_1]
    obtain ⟨v, v1, v2⟩ := q_alC hn A (a := q) (b := r) (by omega) hr
    have : v = false := by
      cases v with
      | false => rfl
      | true => exact absurd (v2.mp rfl) (no q (by omega))
    subst this
    rw [if_neg (by rw [n_le (by omega) (by omega)]; omega), v1, zbd_e, if_neg (show ¬ false = true by decide), if_pos rfl, zlt_e, nI_1]
    exact ih (q + 1) (by omega) (by omega)
theorem q_j20s {E : zEv} {T : zTe} {h : zH} (k12 : Int32 → Int32 → zH → zR) (hn : E.n ≤ 16) (A : rowC E T 40 h) {r p : Nat} (hr : r ≤ 40) (hp : p < r) (al : alk E T p r) (no : ∀ a, a < p → ¬ alk E T a r) : ∀ m q, q ≤ p → r < m + q → f_X10_judge_20 k12 m (nI E.n) (nI r) (nI q) h = if p + 1 = r then f_X10_judge_47 (nI r) (nI p) 1 h else f_X10_judge_47 (nI r) (nI p) 0 h := by
  intro m
  induction m with
  | zero => intro q h1 h2; omega
  | succ m ih =>
    intro q h1 h2
    simp only [f_X10_judge_20]
    obtain ⟨v, v1, v2⟩ := q_alC hn A (a := q) (b := r) (by omega) hr
    rw [if_neg (by rw [n_le (by omega) (by omega)]; omega), v1, zbd_e]
    by_cases hq : q = p
    · subst hq
      have : v = true := v2.mpr al
      subst this
      rw [if_pos rfl, if_neg (show ¬ (1 : Int32) = 0 by decide), n_s1n (by omega)]
      by_cases c : q + 1 = r
      · rw [if_pos (by rw [n_eq (by omega) (by omega)]; omega), if_pos c]
      · rw [if_neg (by rw [n_eq (by omega) (by omega)]; omega), if_neg c]
    · have : v = false := by
        cases v with
        | false => rfl
        | true => exact absurd (v2.mp rfl) (no q (by omega))
      subst this
      rw [if_neg (show ¬ false = true by decide), if_pos rfl, zlt_e, nI_1]
      exact ih (q + 1) (by omega) (by omega)
theorem q_176n {E : zEv} {T : zTe} {g : zH} (k144 : Int32 → Int32 → zH → zR) (x : Int32) (hn : E.n ≤ 16) (w3 : g 101 3 = nI E.n) (A : rowM E T 40 g) {r : Nat} (hr1 : 1 ≤ r) (hr : r ≤ 40) (no : ∀ a, a < r → ¬ alk E T r a) : ∀ m q, q ≤ r - 1 → r < m + q → f_X12_worth_176 k144 m x (nI r) (nI q) g = k144 x (nI (r + 1)) g := by
  intro m
  induction m with
  | zero => intro q h1 h2; omega
  | succ m ih =>
    intro q h1 h2
    simp only [f_X12_worth_176]
    rw [n_s1n hr1]
    by_cases hq : q = r - 1
    · subst hq
      rw [if_pos (Int32.le_refl _), zlt_e, nI_1]
    obtain ⟨v, v1, v2⟩ := q_alM hn w3 A (a := r) (b := q) hr (by omega)
    have : v = false := by
      cases v with
      | false => rfl
      | true => exact absurd (v2.mp rfl) (no q (by omega))
    subst this
    rw [if_neg (by rw [n_le (by omega) (by omega)]; omega), v1, zbd_e, if_neg (show ¬ false = true by decide), if_pos rfl, zlt_e, nI_1]
    exact ih (q + 1) (by omega) (by omega)
theorem q_176s {E : zEv} {T : zTe} {g : zH} (k144 : Int32 → Int32 → zH → zR) (x : Int32) (hn : E.n ≤ 16) (w3 : g 101 3 = nI E.n) (A : rowM E T 40 g) {r p : Nat} (hr : r ≤ 40) (hp : p + 1 < r) (al : alk E T r p) (no : ∀ a, a < p → ¬ alk E T r a) : ∀ m q, q ≤ p → r < m + q → f_X12_worth_176 k144 m x (nI r) (nI q) g = if x = 0 then some (-1, g) else some (nI r - nI p, g) := by
  intro m
  induction m with
  | zero => intro q h1 h2; omega
  | succ m ih =>
    intro q h1 h2
    simp only [f_X12_worth_176]
    rw [n_s1n (by omega)]
    obtain ⟨v, v1, v2⟩ := q_alM hn w3 A (a := r) (b := q) hr (by omega)
    rw [if_neg (by rw [n_le (by omega) (by omega)]; omega), v1, zbd_e]
    by_cases hq : q = p
    · subst hq
      have : v = true := v2.mpr al
      subst this
      rw [if_pos rfl, if_neg (show ¬ (1 : Int32) = 0 by decide)]
    · have : v = false := by
        cases v with
        | false => rfl
        | true => exact absurd (v2.mp rfl) (no q (by omega))
      subst this
      rw [if_neg (show ¬ false = true by decide), if_pos rfl, zlt_e, nI_1]
      exact ih (q + 1) (by omega) (by omega)
theorem q_judge {E : zEv} {T : zTe} {g : zH} (hn : E.n ≤ 16) (w3 : g 101 3 = nI E.n) (B : rowM E T 40 g) {h : zH} (A : rowC E T 40 h) (h2 : h 80 2 = -1) (h3 : h 80 3 = 0) : ∀ m m' r, (∀ a b, a < b → b < r → ¬ alk E T a b) → 1 ≤ r → r ≤ 41 → 41 < m + r → 41 < m' + r → ∃ h', f_X10_judge_12 m (nI E.n) (nI r) h = some (0, h') ∧ (∀ c, c ≠ 80 → h' c = h c) ∧ f_X12_worth_144 m' 0 (nI r) g = some (h' 80 2, g) ∧ f_X12_worth_144 m' 1 (nI r) g = some (h' 80 3, g) := by
  intro m
  induction m with
  | zero => intro m' r _ h1 h2 h3; omega
  | succ m ih =>
    intro m' r D r1 r2 f1 f2
    obtain ⟨m', rfl⟩ : ∃ q, m' = q + 1 := ⟨m' - 1, by omega⟩
    have i10 : ¬ (1 : Int32) = 0 := by decide
    simp only [f_X10_judge_12, f_X12_worth_144]
    by_cases hr : r = 41
    · subst hr
      have s : (40 : Int32) < nI 41 := by decide
      rw [if_pos s, if_pos s, if_pos s, if_pos trivial, if_neg i10]
      exact ⟨h, rfl, fun c _ => rfl, by rw [h2], by rw [h3]⟩
    have s : ¬ (40 : Int32) < nI r := by rw [l_40, n_lt (by omega) (by omega)]; omega
    rw [if_neg s, if_neg s, if_neg s, n_s1n r1]
    have sy : ∀ a b, alk E T a b → alk E T b a := fun a b z j hj => (z j hj).symm
    obtain ⟨v, v1, v2⟩ := q_alM hn w3 B (a := r) (b := r - 1) (by omega) (by omega)
    rw [v1, zbd_e, zbd_e]
    by_cases ex : ∃ p, p < r ∧ alk E T p r
    · obtain ⟨p, p1, p2⟩ := ex
      have un : ∀ a, a < r → alk E T a r → a = p := by
        intro a ha z
        have ap : alk E T a p := fun j hj => (z j hj).trans (p2 j hj).symm
        by_cases c : a < p
        · exact absurd ap (D a p c p1)
        · by_cases d : p < a
          · exact absurd (sy _ _ ap) (D p a d ha)
          · omega
      have e20 := q_j20s (f_X10_judge_12 m) hn A (r := r) (p := p) (by omega) p1 p2 (fun a ha z => by have := un a (by omega) z; omega) zN 0 (by omega) (by unfold zN; omega)
      have e20 : f_X10_judge_20 (f_X10_judge_12 m) zN (nI E.n) (nI r) 0 h = if p + 1 = r then f_X10_judge_47 (nI r) (nI p) 1 h else f_X10_judge_47 (nI r) (nI p) 0 h := e20
      rw [e20]
      unfold f_X10_judge_47 f_X10_judge_60 f_X10_judge_76
      by_cases c : p + 1 = r
      · have hv : v = true := v2.mpr (by rw [show r - 1 = p by omega]; exact sy _ _ p2)
        subst hv
        rw [if_pos c]
        simp only [c00, c10, if_true, if_false, zst_e]
        refine ⟨_, rfl, fun c hc => by rw [zup_ne c hc, zup_ne c hc], ?_, ?_⟩
        · rw [zup_eq, pk_un (by decide), zup_eq, pk_us, show r - 1 = p by omega]
        · rw [zup_eq, pk_us]
      · have hv : v = false := by
          cases v with
          | false => rfl
          | true =>
            have := un (r - 1) (by omega) (sy _ _ (v2.mp rfl))
            omega
        subst hv
        rw [if_neg c]
        simp only [c00, c10, if_true, if_false, zst_e, Bool.false_eq_true]
        have t := fun x => q_176s (f_X12_worth_144 m') x hn w3 B (r := r) (p := p) (by omega) (by omega) (sy _ _ p2) (fun a ha z => by have := un a (by omega) (sy _ _ z); omega) zN 0 (by omega) (by unfold zN; omega)
        have t : ∀ x, f_X12_worth_176 (f_X12_worth_144 m') zN x (nI r) 0 g = if x = 0 then some (-1, g) else some (nI r - nI p, g) := t
        simp only [t, c00, c10, if_true, if_false]
        refine ⟨_, rfl, fun c hc => by rw [zup_ne c hc, zup_ne c hc], ?_, ?_⟩
        · rw [zup_eq, pk_un (by decide), zup_eq, pk_us]
        · rw [zup_eq, pk_us]
    · have none : ∀ a, a < r → ¬ alk E T a r := fun a ha z => ex ⟨a, ha, z⟩
      have hv : v = false := by
        cases v with
        | false => rfl
        | true => exact absurd (sy _ _ (v2.mp rfl)) (none (r - 1) (by omega))
      subst hv
      have e20 := q_j20n (f_X10_judge_12 m) hn A (r := r) (by omega) none zN 0 (by omega) (by unfold zN; omega)
      have e20 : f_X10_judge_20 (f_X10_judge_12 m) zN (nI E.n) (nI r) 0 h = f_X10_judge_12 m (nI E.n) (nI (r + 1)) h := e20
      have t := fun x => q_176n (f_X12_worth_144 m') x hn w3 B (r := r) r1 (by omega) (fun a ha z => none a ha (sy _ _ z)) zN 0 (by omega) (by unfold zN; omega)
      have t : ∀ x, f_X12_worth_176 (f_X12_worth_144 m') zN x (nI r) 0 g = f_X12_worth_144 m' x (nI (r + 1)) g := t
      rw [e20, if_neg (show ¬ false = true by decide), if_pos rfl, if_pos rfl, t, t]
      exact ih m' (r + 1) (fun a b ab br => by
        by_cases c : b = r
        · subst c; exact none a ab
        · exact D a b ab (by omega)) (by omega) (by omega) (by omega) (by omega)
