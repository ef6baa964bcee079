/-! which halves fit best of all: the lists -/
def fF (h h' : zH) : Prop := ∀ c, c ≠ 19 → c ≠ 21 → (c < 74 ∨ 79 < c) → h' c = h c
def fG (g g' : zH) : Prop := (∀ c, c ≠ 100 → c ≠ 108 → c ≠ 109 → (c < 110 ∨ 113 < c) → g' c = g c) ∧ ∀ k, k ≠ 31 → k ≠ 32 → g' 100 k = g 100 k
theorem fF.trans {a b c : zH} (x : fF a b) (y : fF b c) : fF a c := fun k q1 q2 q3 => (y k q1 q2 q3).trans (x k q1 q2 q3)
theorem fG.trans {a b c : zH} (x : fG a b) (y : fG b c) : fG a c := ⟨fun k q1 q2 q3 q4 => (y.1 k q1 q2 q3 q4).trans (x.1 k q1 q2 q3 q4), fun k q1 q2 => (y.2 k q1 q2).trans (x.2 k q1 q2)⟩
def lst (E : zEv) (a b : Nat) (h g : zH) : Prop := h 74 5 = nI a ∧ h 74 6 = nI b ∧ g 100 31 = nI a ∧ g 100 32 = nI b ∧ (∀ k, k < a → ∃ f, f < E.n ∧ h 77 k = nI f ∧ g 110 k = nI f) ∧ ∀ k, k < b → ∃ f, f < E.n ∧ h 78 k = nI f ∧ g 111 k = nI f
/-- one step of the reference -/
theorem q_sort1 {E : zEv} {can : Nat → Nat → Bool} {T : zTe} {g : zH} (Hg : tM E can T g) (m i a b : Nat) (hi : i < E.n) (ha : a ≤ i) (hb : b ≤ i) (h31 : g 100 31 = nI a) (h32 : g 100 32 = nI b) : f_X12_sorts_12 (m + 1) (nI i) g = f_X12_sorts_12 m (nI (i + 1)) (if E.sd i = 0 then zup (zup g 110 a (nI i)) 100 31 (nI (a + 1)) else zup (zup g 111 b (nI i)) 100 32 (nI (b + 1))) := by
  have hn := Hg.1.1
  simp only [f_X12_sorts_12, f_X12_sorts_73, Hg.1.2.1, zlt_e, nI_1]
  rw [if_neg (by rw [n_le (by omega) (by omega)]; omega), q_isFr Hg.1 i hi, zbd_e]
  by_cases s : E.sd i = 0
  · rw [if_pos s, if_pos s, if_neg (show ¬ (1 : Int32) = 0 by decide), h31, zck_n (by omega) (by decide), n_cl (by omega), zst_e, zup_ne 100 (by decide), h31, zst_e, nI_1]
  · rw [if_neg s, if_neg s, if_pos rfl, h32, zck_n (by omega) (by decide), n_cl (by omega), zst_e, zup_ne 100 (by decide), h32, zst_e, nI_1]
theorem q_sorts {E : zEv} {can : Nat → Nat → Bool} {T : zTe} {g0 : zH} (Hm : tM E can T g0) : ∀ m i a b g, fG g0 g → g 100 31 = nI a → g 100 32 = nI b → a + b = i → i ≤ E.n → E.n < m + i → ∃ g' a' b', f_X12_sorts_12 m (nI i) g = some (0, g') ∧ fG g0 g' ∧ g' 100 31 = nI a' ∧ g' 100 32 = nI b' ∧ a ≤ a' ∧ b ≤ b' ∧ a' + b' = E.n := by
  have hn := Hm.1.1
  intro m
  induction m with
  | zero => intro i a b g _ _ _ _ h1 h2; omega
  | succ m ih =>
    intro i a b g F h31 h32 hab h1 h2
    have Hg : tM E can T g := Hm.w (F.1 101 (by decide) (by decide) (by decide) (by decide))
    by_cases hi : i = E.n
    · subst hi
      refine ⟨g, a, b, ?_, F, h31, h32, Nat.le_refl _, Nat.le_refl _, hab⟩
      simp only [f_X12_sorts_12, Hg.1.2.1]
      rw [if_pos (Int32.le_refl _)]
    rw [q_sort1 Hg m i a b (by omega) (by omega) (by omega) h31 h32]
    by_cases s : E.sd i = 0
    · rw [if_pos s]
      obtain ⟨g', a', b', p1, p2, p3, p4, p5, p6, p7⟩ := ih (i + 1) (a + 1) b (zup (zup g 110 a (nI i)) 100 31 (nI (a + 1))) ⟨fun c q1 q2 q3 q4 => by rw [zup_ne c q1, zup_ne c (by omega), F.1 c q1 q2 q3 q4], fun k q1 q2 => by rw [zup_eq, pk_un q1, zup_ne 100 (by decide), F.2 k q1 q2]⟩ (by rw [zup_eq, pk_us]) (by rw [zup_eq, pk_un (by decide), zup_ne 100 (by decide)]; exact h32) (by omega) (by omega) (by omega)
      exact ⟨g', a', b', p1, p2, p3, p4, by omega, p6, p7⟩
    · rw [if_neg s]
      obtain ⟨g', a', b', p1, p2, p3, p4, p5, p6, p7⟩ := ih (i + 1) a (b + 1) (zup (zup g 111 b (nI i)) 100 32 (nI (b + 1))) ⟨fun c q1 q2 q3 q4 => by rw [zup_ne c q1, zup_ne c (by omega), F.1 c q1 q2 q3 q4], fun k q1 q2 => by rw [zup_eq, pk_un q2, zup_ne 100 (by decide), F.2 k q1 q2]⟩ (by rw [zup_eq, pk_un (by decide), zup_ne 100 (by decide)]; exact h31) (by rw [zup_eq, pk_us]) (by omega) (by omega) (by omega)
      exact ⟨g', a', b', p1, p2, p3, p4, p5, by omega, p7⟩
theorem q_gath {E : zEv} {can : Nat → Nat → Bool} {T : zTe} {h0 g0 : zH} (He : eC E h0) (Hm : tM E can T g0) : ∀ m m' i a b h g, fF h0 h → fG g0 g → lst E a b h g → a + b = i → a ≤ 8 → b ≤ 8 → i ≤ E.n → E.n < m + i → E.n < m' + i → ∃ h' g' a' b', f_X12_sorts_12 m' (nI i) g = some (0, g') ∧ fF h0 h' ∧ fG g0 g' ∧ a' ≤ 16 ∧ b' ≤ 16 ∧ ((f_X2_gather_r2_12 m (nI i) h = some (1, h') ∧ a' ≤ 8 ∧ b' ≤ 8 ∧ lst E a' b' h' g') ∨ (f_X2_gather_r2_12 m (nI i) h = some (0, h') ∧ g' 100 31 = nI a' ∧ g' 100 32 = nI b' ∧ (8 < a' ∨ 8 < b'))) := by
  have hn := He.1
  intro m
  induction m with
  | zero => intro m' i a b h g _ _ _ _ _ _ h1 h2; omega
  | succ m ih =>
    intro m' i a b h g F G L hab ha hb h1 h2 h3
    obtain ⟨m', rfl⟩ : ∃ q, m' = q + 1 := ⟨m' - 1, by omega⟩
    obtain ⟨l1, l2, l3, l4, l5, l6⟩ := L
    have Hg : tM E can T g := Hm.w (G.1 101 (by decide) (by decide) (by decide) (by decide))
    have c2 : h 2 4 = nI E.n := by rw [F 2 (by decide) (by decide) (by decide)]; exact He.2.1
    by_cases hi : i = E.n
    · subst hi
      refine ⟨h, g, a, b, ?_, F, G, by omega, by omega, Or.inl ⟨?_, ha, hb, l1, l2, l3, l4, l5, l6⟩⟩
      · simp only [f_X12_sorts_12, Hg.1.2.1]
        rw [if_pos (Int32.le_refl _)]
      · simp only [f_X2_gather_r2_12, c2]
        rw [if_pos (Int32.le_refl _)]
    have c3 : h 3 i = E.sd i := by rw [F 3 (by decide) (by decide) (by decide)]; exact (He.2.2.1 i (by omega)).1
    have eC0 : f_X2_gather_r2_12 (m + 1) (nI i) h = if E.sd i = 0 then (if a < 8 then f_X2_gather_r2_12 m (nI (i + 1)) (zup (zup h 77 a (nI i)) 74 5 (nI (a + 1))) else some (0, h)) else (if b < 8 then f_X2_gather_r2_12 m (nI (i + 1)) (zup (zup h 78 b (nI i)) 74 6 (nI (b + 1))) else some (0, h)) := by
      simp only [f_X2_gather_r2_12, f_X2_gather_r2_34, f_X2_gather_r2_50, f_X2_gather_r2_104, c2, zlt_e, nI_1]
      rw [if_neg (by rw [n_le (by omega) (by omega)]; omega), zck_n (by omega) (by decide), n_cl (by omega), c3]
      by_cases s : E.sd i = 0
      · rw [if_pos s, if_pos s]
        simp only [c10, if_false, l1]
        by_cases c : a < 8
        · rw [if_pos (show nI a < 8 by rw [l_8, n_lt (by omega) (by omega)]; exact c), if_pos c, zck_n (by omega) (by decide), n_cl (by omega), zst_e, zup_ne 74 (by decide), l1, zst_e, nI_1]
        · rw [if_neg (show ¬ nI a < 8 by rw [l_8, n_lt (by omega) (by omega)]; exact c), if_neg c]
      · rw [if_neg s, if_neg s]
        simp only [c00, if_true, l2]
        by_cases c : b < 8
        · rw [if_pos (show nI b < 8 by rw [l_8, n_lt (by omega) (by omega)]; exact c), if_pos c, zck_n (by omega) (by decide), n_cl (by omega), zst_e, zup_ne 74 (by decide), l2, zst_e, nI_1]
        · rw [if_neg (show ¬ nI b < 8 by rw [l_8, n_lt (by omega) (by omega)]; exact c), if_neg c]
    rw [eC0]
    by_cases s : E.sd i = 0
    · rw [if_pos s]
      have G1 : fG g0 (zup (zup g 110 a (nI i)) 100 31 (nI (a + 1))) := ⟨fun c q1 q2 q3 q4 => by rw [zup_ne c q1, zup_ne c (by omega), G.1 c q1 q2 q3 q4], fun k q1 q2 => by rw [zup_eq, pk_un q1, zup_ne 100 (by decide), G.2 k q1 q2]⟩
      have g31 : zup (zup g 110 a (nI i)) 100 31 (nI (a + 1)) 100 31 = nI (a + 1) := by rw [zup_eq, pk_us]
      have g32 : zup (zup g 110 a (nI i)) 100 31 (nI (a + 1)) 100 32 = nI b := by rw [zup_eq, pk_un (by decide), zup_ne 100 (by decide)]; exact l4
      rw [q_sort1 Hg m' i a b (by omega) (by omega) (by omega) l3 l4, if_pos s]
      by_cases c : a < 8
      · rw [if_pos c]
        refine ih m' (i + 1) (a + 1) b _ _ (fun c q1 q2 q3 => by rw [zup_ne c (by omega), zup_ne c (by omega), F c q1 q2 q3]) G1 ⟨by rw [zup_eq, pk_us], by rw [zup_eq, pk_un (by decide), zup_ne 74 (by decide)]; exact l2, g31, g32, fun k hk => ?_, fun k hk => ?_⟩ (by omega) (by omega) hb (by omega) (by omega) (by omega)
        · rw [zup_ne 77 (by decide), zup_eq, zup_ne 110 (by decide), zup_eq]
          by_cases d : k = a
          · subst d; rw [pk_us, pk_us]; exact ⟨i, by omega, rfl, rfl⟩
          · rw [pk_un d, pk_un d]; exact l5 k (by omega)
        · rw [zup_ne 78 (by decide), zup_ne 78 (by decide), zup_ne 111 (by decide), zup_ne 111 (by decide)]
          exact l6 k hk
      · rw [if_neg c]
        obtain ⟨g', a', b', p1, p2, p3, p4, p5, p6, p7⟩ := q_sorts Hm m' (i + 1) (a + 1) b _ G1 g31 g32 (by omega) (by omega) (by omega)
        exact ⟨h, g', a', b', p1, F, p2, by omega, by omega, Or.inr ⟨rfl, p3, p4, by omega⟩⟩
    · rw [if_neg s]
      have G1 : fG g0 (zup (zup g 111 b (nI i)) 100 32 (nI (b + 1))) := ⟨fun c q1 q2 q3 q4 => by rw [zup_ne c q1, zup_ne c (by omega), G.1 c q1 q2 q3 q4], fun k q1 q2 => by rw [zup_eq, pk_un q2, zup_ne 100 (by decide), G.2 k q1 q2]⟩
      have g31 : zup (zup g 111 b (nI i)) 100 32 (nI (b + 1)) 100 31 = nI a := by rw [zup_eq, pk_un (by decide), zup_ne 100 (by decide)]; exact l3
      have g32 : zup (zup g 111 b (nI i)) 100 32 (nI (b + 1)) 100 32 = nI (b + 1) := by rw [zup_eq, pk_us]
      rw [q_sort1 Hg m' i a b (by omega) (by omega) (by omega) l3 l4, if_neg s]
      by_cases c : b < 8
      · rw [if_pos c]
        refine ih m' (i + 1) a (b + 1) _ _ (fun c q1 q2 q3 => by rw [zup_ne c (by omega), zup_ne c (by omega), F c q1 q2 q3]) G1 ⟨by rw [zup_eq, pk_un (by decide), zup_ne 74 (by decide)]; exact l1, by rw [zup_eq, pk_us], g31, g32, fun k hk => ?_, fun k hk => ?_⟩ (by omega) ha (by omega) (by omega) (by omega) (by omega)
        · rw [zup_ne 77 (by decide), zup_ne 77 (by decide), zup_ne 110 (by decide), zup_ne 110 (by decide)]
          exact l5 k hk
        · rw [zup_ne 78 (by decide), zup_eq, zup_ne 111 (by decide), zup_eq]
          by_cases d : k = b
          · subst d; rw [pk_us, pk_us]; exact ⟨i, by omega, rfl, rfl⟩
          · rw [pk_un d, pk_un d]; exact l6 k (by omega)
      · rw [if_neg c]
        obtain ⟨g', a', b', p1, p2, p3, p4, p5, p6, p7⟩ := q_sorts Hm m' (i + 1) a (b + 1) _ G1 g31 g32 (by omega) (by omega) (by omega)
        exact ⟨h, g', a', b', p1, F, p2, by omega, by omega, Or.inr ⟨rfl, p3, p4, by omega⟩⟩
/-! sets of ends, and the most that can be laughed -/
def clr (S x : Nat) : Nat := if S.testBit x = true then S - 2 ^ x else S
def stb (S x : Nat) : Nat := if S.testBit x = true then S else S + 2 ^ x
theorem clr_n : ∀ S, S < 256 → ∀ x, x < 8 → (nI S &&& (((1 : Int32) <<< (nI x &&& 31)) ^^^ (-1 : Int32))) = nI (clr S x) := by decide +kernel
theorem stb_n : ∀ S, S < 256 → ∀ x, x < 8 → (nI S ||| ((1 : Int32) <<< (nI x &&& 31))) = nI (stb S x) := by decide +kernel
theorem clr_t : ∀ S, S < 256 → ∀ x, x < 8 → ∀ e, e < 8 → (clr S x).testBit e = (S.testBit e && !decide (e = x)) := by decide +kernel
theorem stb_t : ∀ S, S < 256 → ∀ x, x < 8 → ∀ e, e < 8 → (stb S x).testBit e = (S.testBit e || decide (e = x)) := by decide +kernel
theorem stb_l : ∀ n, n < 9 → ∀ S, S < 2 ^ n → ∀ x, x < n → stb S x < 2 ^ n := by decide +kernel
theorem clr_l (S x : Nat) : clr S x ≤ S := by
  unfold clr
  split
  · exact Nat.sub_le _ _
  · exact Nat.le_refl _
theorem sh_p : ∀ n, n < 9 → ((1 : Int32) <<< (nI n &&& 31)) = nI (2 ^ n) := by decide +kernel
theorem p_256 : ∀ n, n < 9 → 1 ≤ 2 ^ n ∧ 2 ^ n ≤ 256 := by decide
theorem full_t : ∀ n, n < 9 → ∀ e, e < n → (2 ^ n - 1).testBit e = true := by decide +kernel
def gmx (L nx : Nat → Int32) (av : Nat → Bool) : Nat → Nat → Int32 → Int32
  | 0, _, a => a
  | r + 1, e, a => gmx L nx av r (e + 1) (if av e = true then (if a < L e + nx e then L e + nx e else a) else a)
theorem gmx_cong {L nx nx' : Nat → Int32} {av av' : Nat → Bool} : ∀ r e a, (∀ j, e ≤ j → j < e + r → nx j = nx' j ∧ av j = av' j) → gmx L nx av r e a = gmx L nx' av' r e a := by
  intro r
  induction r with
  | zero => intro e a _; rfl
  | succ r ih =>
    intro e a h
    unfold gmx
    rw [(h e (by omega) (by omega)).1, (h e (by omega) (by omega)).2]
    exact ih (e + 1) _ (fun j j1 j2 => h j (by omega) (by omega))
def rmv (av : Nat → Bool) (x : Nat) : Nat → Bool := fun e => av e && !decide (e = x)
def fitG (V : Nat → Nat → Int32) (nf ne : Nat) : Nat → (Nat → Bool) → Int32
  | 0, _ => 0
  | k + 1, av => gmx (V (nf - (k + 1))) (fun e => fitG V nf ne k (rmv av e)) av ne 0 (fitG V nf ne k av)
theorem fitG_cong {V : Nat → Nat → Int32} {nf ne : Nat} : ∀ k av av', (∀ e, e < ne → av e = av' e) → fitG V nf ne k av = fitG V nf ne k av' := by
  intro k
  induction k with
  | zero => intro av av' _; rfl
  | succ k ih =>
    intro av av' h
    unfold fitG
    rw [ih av av' h]
    exact gmx_cong ne 0 _ (fun j _ hj => ⟨ih _ _ (fun e he => by unfold rmv; rw [h e he]), h j (by omega)⟩)
