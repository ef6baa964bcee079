/-! THE MATHEMATICS: numbers -/
theorem n_lt {a b : Nat} (ha : a < 2 ^ 31) (hb : b < 2 ^ 31) : (nI a < nI b) = (a < b) := propext (nI_ltI ha hb)
theorem n_le {a b : Nat} (ha : a < 2 ^ 31) (hb : b < 2 ^ 31) : (nI a ≤ nI b) = (a ≤ b) := propext (nI_leI ha hb)
theorem n_eq {a b : Nat} (ha : a < 2 ^ 31) (hb : b < 2 ^ 31) : (nI a = nI b) = (a = b) := propext (nI_eq ha hb)
theorem n_m1 {a : Nat} (ha : a < 2 ^ 31) : (nI a = -1) = False := by
  refine eq_false (fun h => ?_)
  have := congrArg Int32.toInt h
  rw [nI_toInt ha] at this
  simp at this
theorem n_m1' {a : Nat} (ha : a < 2 ^ 31) : ((-1 : Int32) = nI a) = False := by
  rw [show ((-1 : Int32) = nI a) = (nI a = -1) from propext ⟨Eq.symm, Eq.symm⟩, n_m1 ha]
theorem n_neg {a : Nat} (ha : a < 2 ^ 31) : (nI a < 0) = False := eq_false (nI_pos ha)
theorem n_nn {a : Nat} (ha : a < 2 ^ 31) : (0 ≤ nI a) = True := eq_true (nI_pos' ha)
theorem n_cl {a : Nat} (ha : a < 2 ^ 31) : Int32.toNatClampNeg (nI a) = a := nI_clamp ha
theorem zck_n {k n : Nat} {K : zR} (hk : k < n) (hn : n < 2 ^ 31) : zck (nI k) n K = K := by
  unfold zck
  rw [if_neg]
  rw [n_neg (by omega), n_cl (by omega), false_or]
  omega
theorem zck_0 {n : Nat} {K : zR} (hn : 0 < n) : zck 0 n K = K := by
  unfold zck
  rw [if_neg]
  intro h
  rcases h with h | h
  · exact absurd h (by decide)
  · exact absurd (show n ≤ 0 from h) (by omega)
theorem n_sub {a b : Nat} (h : b ≤ a) : nI a - nI b = nI (a - b) := pk_sub h
theorem n_add (a b : Nat) : nI a + nI b = nI (a + b) := nI_add a b
theorem n_mul (a b : Nat) : nI a * nI b = nI (a * b) := pk_mul a b
theorem l_0 : (0 : Int32) = nI 0 := rfl
theorem l_1 : (1 : Int32) = nI 1 := rfl
theorem l_2 : (2 : Int32) = nI 2 := rfl
theorem l_3 : (3 : Int32) = nI 3 := rfl
theorem l_4 : (4 : Int32) = nI 4 := rfl
theorem l_5 : (5 : Int32) = nI 5 := rfl
theorem l_6 : (6 : Int32) = nI 6 := rfl
theorem l_7 : (7 : Int32) = nI 7 := rfl
theorem l_8 : (8 : Int32) = nI 8 := rfl
theorem l_9 : (9 : Int32) = nI 9 := rfl
theorem l_10 : (10 : Int32) = nI 10 := rfl
theorem l_16 : (16 : Int32) = nI 16 := rfl
theorem l_19 : (19 : Int32) = nI 19 := rfl
theorem l_20 : (20 : Int32) = nI 20 := rfl
theorem l_24 : (24 : Int32) = nI 24 := rfl
theorem l_40 : (40 : Int32) = nI 40 := rfl
theorem l_99 : (99 : Int32) = nI 99 := rfl
theorem l_100 : (100 : Int32) = nI 100 := rfl
theorem l_180 : (180 : Int32) = nI 180 := rfl
theorem l_200 : (200 : Int32) = nI 200 := rfl
theorem l_210 : (210 : Int32) = nI 210 := rfl
theorem l_256 : (256 : Int32) = nI 256 := rfl
theorem l_400 : (400 : Int32) = nI 400 := rfl
theorem l_466 : (466 : Int32) = nI 466 := rfl
theorem l_730 : (730 : Int32) = nI 730 := rfl
theorem l_1000 : (1000 : Int32) = nI 1000 := rfl
theorem l_9999 : (9999 : Int32) = nI 9999 := rfl
theorem zup_ap (h : zH) (c k : Nat) (x : Int32) (d j : Nat) : zup h c k x d j = if d = c then (if j = k then x else h c j) else h d j := by
  unfold zup
  by_cases hd : d = c
  · subst hd; simp [upd]
  · simp [hd]
theorem zup_row (h : zH) (c k : Nat) (x : Int32) (d : Nat) : zup h c k x d = if d = c then upd (h c) k x else h d := rfl
/-- a number is in a range, or both tests say no -/
theorem n_ix (x : Int32) (n : Nat) (hn : n < 2 ^ 30) : (∃ k, k < n ∧ x = nI k) ∨ ((0 ≤ x ∧ x < nI n) = False ∧ (0 ≤ x ∧ x ≤ nI n - 1) = False) := by
  rcases pk_ix x (n := n) (by omega) with h | h | h
  · right
    have h1 : ¬ 0 ≤ x := Int32.not_le.mpr h
    exact ⟨eq_false (fun z => h1 z.1), eq_false (fun z => h1 z.1)⟩
  · right
    refine ⟨eq_false (fun z => Int32.not_le.mpr z.2 h), eq_false (fun z => ?_)⟩
    have h1 := Int32.le_iff_toInt_le.mp h
    have h2 := Int32.le_iff_toInt_le.mp z.2
    rw [nI_toInt (by omega)] at h1
    rw [show nI n - 1 = nI n - nI 1 from rfl, pk_sub_toInt (by omega) (by omega)] at h2
    omega
  · exact Or.inl h
theorem n_ix6 (x : Int32) : (∃ k, k < 6 ∧ x = nI k) ∨ ((0 ≤ x ∧ x < 6) = False ∧ (0 ≤ x ∧ x ≤ 5) = False) := n_ix x 6 (by decide)
/-- small readers -/
theorem q_below (x n : Int32) (h : zH) : f_X11_isBelow x n h = some (if 0 ≤ x ∧ x < n then 1 else 0, h) := by
  unfold f_X11_isBelow f_X11_isBelow_13
  by_cases h1 : x < 0
  · rw [if_pos h1, if_neg (fun z => Int32.not_lt.mpr z.1 h1)]
  · rw [if_neg h1]
    by_cases h2 : n ≤ x
    · rw [if_pos h2, if_neg (fun z => Int32.not_le.mpr z.2 h2)]
    · rw [if_neg h2, if_pos ⟨Int32.not_lt.mp h1, Int32.not_le.mp h2⟩]
theorem q_in (x a b : Int32) (h : zH) : f_X12_isIn x a b h = some (if a ≤ x ∧ x ≤ b then 1 else 0, h) := by
  unfold f_X12_isIn f_X12_isIn_14
  by_cases h1 : x < a
  · rw [if_pos h1, if_neg (fun z => Int32.not_lt.mpr z.1 h1)]
  · rw [if_neg h1]
    by_cases h2 : b < x
    · rw [if_pos h2, if_neg (fun z => Int32.not_lt.mpr z.2 h2)]
    · rw [if_neg h2, if_pos ⟨Int32.not_lt.mp h1, Int32.not_lt.mp h2⟩]
theorem zbo_ite (P : Prop) [Decidable P] (K : zR) : zbo (if P then 1 else 0) K = K := by
  unfold zbo
  by_cases h : P <;> simp [h]
theorem q_fam (x : Int32) (h : zH) : f_X12_isFamily x h = some (if 0 ≤ x ∧ x ≤ 5 then 1 else 0, h) := by
  unfold f_X12_isFamily
  rw [q_in]
  simp only [zbd, zbo_ite]
theorem q_has (x : Int32) (h : zH) : f_X3_has x h = some (if 0 ≤ x ∧ x < h 2 4 then 1 else 0, h) := by
  unfold f_X3_has
  rw [q_below]
  simp only [zbd, zbo_ite]
theorem q_half (x : Int32) (h : zH) : f_X12_isHalf x h = some (if 0 ≤ x ∧ x ≤ h 101 3 - 1 then 1 else 0, h) := by
  unfold f_X12_isHalf
  rw [q_in]
  simp only [zbd, zbo_ite]
theorem q_guest (x : Int32) (h : zH) : f_X12_isGuest x h = some (if 0 ≤ x ∧ x ≤ h 101 4 - 1 then 1 else 0, h) := by
  unfold f_X12_isGuest
  rw [q_in]
  simp only [zbd, zbo_ite]
theorem q_forget (h : zH) : f_X6_forget h = some (0, zup h 22 7 0) := rfl
theorem q_forgets (h : zH) : f_X12_forgets h = some (0, zup h 100 4 0) := rfl
theorem i_10 (P : Prop) [Decidable P] : ((if P then (1 : Int32) else 0) = 0) = ¬ P := by
  by_cases h : P <;> simp [h]
/-! THE RELATION of the two states -/
/-- table, family, place, sitter; w -/
def rTab (T Fa Pl Si : Nat → Int32) (w : Nat → Int32) : Prop := ∃ sn gn : Nat, T 3 = nI sn ∧ w 0 = nI sn ∧ 3 ≤ sn ∧ sn ≤ 8 ∧ T 4 = nI gn ∧ w 4 = nI gn ∧ gn ≤ 8 ∧ (∀ i, i < gn → (∃ f, f < 6 ∧ Fa i = nI f ∧ w (180 + 2 * i) = nI f) ∧ Pl i = w (181 + 2 * i) ∧ (Pl i = -1 ∨ ∃ s, s < sn ∧ Pl i = nI s ∧ Si s = nI i)) ∧ ∀ s, s < sn → Si s = -1 ∨ ∃ i, i < gn ∧ Si s = nI i ∧ Pl i = nI s
/-- halves: count, side, joke, wit, quarters -/
def rHal (C Sd Jk Wt Qu : Nat → Int32) (w : Nat → Int32) : Prop := ∃ n : Nat, n ≤ 16 ∧ C 4 = nI n ∧ w 3 = nI n ∧ ∀ i, i < n → (Sd i = w (20 + 10 * i) ∧ (Sd i = 0 ∨ Sd i = 1)) ∧ (∃ j, j < 10 ∧ Jk i = nI j ∧ w (21 + 10 * i) = nI j) ∧ (∃ j, j < 100 ∧ Wt i = nI j ∧ w (22 + 10 * i) = nI j) ∧ ∃ qf : Nat → Nat, qf 0 + qf 1 + qf 2 + qf 3 + qf 4 + qf 5 = 4 ∧ ∀ f, f < 6 → Qu (i * 6 + f) = nI (qf f) ∧ w (23 + 10 * i + f) = nI (qf f)
/-- what was told: book, told, last, fame, rows -/
def rTold (To La : Nat → Int32) (w : Nat → Int32) (nt : Nat) : Prop := ∀ p, p < 256 → ∃ t : Nat, t ≤ 8 * nt ∧ To p = nI t ∧ w (210 + p) = nI t ∧ ((t = 0 ∧ w (466 + p) = -1) ∨ (0 < t ∧ ∃ z, z < nt ∧ La p = nI z ∧ w (466 + p) = nI z))
def rBk (B To La Fm Rw : Nat → Int32) (w : Nat → Int32) : Prop := ∃ bl nt : Nat, bl ≤ 100 ∧ nt ≤ 9999 ∧ B 4 = nI bl ∧ w 6 = nI bl ∧ B 5 = nI nt ∧ w 5 = nI nt ∧ (∀ i, i < 6 → Fm i = w (200 + i)) ∧ (∀ i, i < 6 * bl → Rw i = w (730 + i)) ∧ rTold To La w nt
/-- need, spoil, draws, feuds -/
def rMs (Ho Fe : Nat → Int32) (w : Nat → Int32) : Prop := (∃ n, 1 ≤ n ∧ n ≤ 4 ∧ Ho 6 = nI n ∧ w 1 = nI n) ∧ (∃ n, n ≤ 1000 ∧ Ho 7 = nI n ∧ w 2 = nI n) ∧ Ho 8 = w 7 ∧ ∀ f, f < 6 → Fe f = w (10 + f)
/-- the law as steps on a stack, in the class's code -/
def joC (s a b : Int32) : Int32 := if s = 16 then a + b else if s = 17 then a - b else if s = 18 then a * b else if s = 22 then (if a < b then 1 else 0) else if s = 23 then (if a = b then 1 else 0) else if s = 24 then (if b < a then 1 else 0) else if s = 6 then a &&& b else if s = 5 then a ||| b else 0
def cla (v : Int32) : Int32 := if (if (999 : Int32) < v then 999 else v) < 0 then 0 else (if (999 : Int32) < v then 999 else v)
def evC (St Nu F : Nat → Int32) : Nat → Nat → Nat → (Nat → Int32) → Int32
  | 0, _, _, _ => 0
  | r + 1, i, top, z => if top < 2 ∨ 40 ≤ top then 0 else if St i = 2 then evC St Nu F r (i + 1) (top + 1) (upd z top (Nu i)) else if 8 ≤ St i ∧ St i ≤ 14 then evC St Nu F r (i + 1) (top + 1) (upd z top (F ((St i).toNatClampNeg - 8))) else if St i = 7 then evC St Nu F r (i + 1) top (upd z (top - 1) (1 - z (top - 1))) else if St i = 19 then evC St Nu F r (i + 1) top (upd z (top - 1) (if 0 < Nu i then z (top - 1) / Nu i else 0)) else if St i = 15 then cla (z (top - 1)) else if St i = 4 then (if z (top - 1) = 0 then evC St Nu F r (i + 1) 2 z else cla (z (top - 2))) else evC St Nu F r (i + 1) (top - 1) (upd z (top - 2) (joC (St i) (z (top - 2)) (z (top - 1))))
/-- the same in the reference's code, one segment -/
def joM (s a b : Int32) : Int32 := if s = 13 then a + b else if s = 14 then a - b else if s = 15 then a * b else if s = 17 then (if a < b then 1 else 0) else if s = 18 then (if a = b then 1 else 0) else if s = 19 then (if b < a then 1 else 0) else if s = 21 then a &&& b else a ||| b
def evM (w F : Nat → Int32) : Nat → Nat → Nat → (Nat → Int32) → Option Int32
  | 0, _, _, z => some (z 0)
  | r + 1, i, top, z => if w (1400 + 2 * i) < 13 then (if 420 ≤ top then none else if w (1400 + 2 * i) = 0 then evM w F r (i + 1) (top + 1) (upd z top (w (1401 + 2 * i))) else if 0 < w (1400 + 2 * i) ∧ w (1400 + 2 * i) < 8 then evM w F r (i + 1) (top + 1) (upd z top (F ((w (1400 + 2 * i)).toNatClampNeg - 1))) else none) else if top < 1 ∨ 420 < top then none else if w (1400 + 2 * i) = 16 then (if w (1401 + 2 * i) = 0 then none else evM w F r (i + 1) top (upd z (top - 1) (z (top - 1) / w (1401 + 2 * i)))) else if w (1400 + 2 * i) = 20 then evM w F r (i + 1) top (upd z (top - 1) (1 - z (top - 1))) else if top < 2 then none else evM w F r (i + 1) (top - 1) (upd z (top - 2) (joM (w (1400 + 2 * i)) (z (top - 2)) (z (top - 1))))
abbrev zLn : Type := ((Nat → Int32) → Int32) × Option ((Nat → Int32) → Int32)
def evL : List zLn → (Nat → Int32) → Int32
  | [], _ => 0
  | (e, none) :: _, F => cla (e F)
  | (e, some b) :: l, F => if b F = 1 then cla (e F) else evL l F
def mLine (w : Nat → Int32) (i : Nat) (x : zLn) : Prop := ∃ a b c : Nat, a ≤ b ∧ b ≤ c ∧ c ≤ 400 ∧ w (1340 + i) = nI a ∧ w (1360 + i) = nI b ∧ w (1380 + i) = nI c ∧ (∀ F z, evM w F (b - a) a 0 z = some (x.1 F)) ∧ match x.2 with
  | none => b = c
  | some v => b < c ∧ ∀ F z, evM w F (c - b) b 0 z = some (v F)
def rLw (L St Nu w : Nat → Int32) : Prop := ∃ (sz : Nat) (ls : List zLn), sz ≤ 400 ∧ ls.length ≤ 16 ∧ L 3 = nI sz ∧ L 4 = nI ls.length ∧ w 1335 = nI ls.length ∧ (∀ F z, evC St Nu F sz 0 2 z = evL ls F) ∧ ∀ (i : Nat) (x : zLn), ls[i]? = some x → mLine w i x
def rHouse (h : zH) (w : Nat → Int32) : Prop := rTab (h 7) (h 8) (h 9) (h 10) w ∧ rHal (h 2) (h 3) (h 4) (h 5) (h 6) w ∧ rBk (h 11) (h 12) (h 13) (h 14) (h 15) w ∧ rLw (h 16) (h 17) (h 18) w ∧ rMs (h 1) (h 20) w
def rKept (h : zH) (w : Nat → Int32) : Prop := rTab (h 56) (h 57) (h 58) (h 59) w ∧ rHal (h 51) (h 52) (h 53) (h 54) (h 55) w ∧ rBk (h 60) (h 61) (h 62) (h 63) (h 64) w ∧ rLw (h 65) (h 66) (h 67) w ∧ rMs (h 50) (h 69) w
/-- one evening's tellings taken back -/
def unT (Pr Ls : Nat → Int32) (m : Nat) : Nat → (Nat → Int32) × (Nat → Int32) → (Nat → Int32) × (Nat → Int32)
  | 0, s => s
  | i + 1, s => unT Pr Ls m i (upd s.1 (Pr (m * 8 + i)).toNatClampNeg (s.1 (Pr (m * 8 + i)).toNatClampNeg - 1), upd s.2 (Pr (m * 8 + i)).toNatClampNeg (Ls (m * 8 + i)))
/-- the evenings that can go back: tellings, pairs, lasts, fames, lines, draws; the reference's rows -/
def rPs (Tl Pr Ls Fs Ln Dr bk : Nat → Int32) : Nat → Nat → Nat → Nat → (Nat → Int32) × (Nat → Int32) → Prop
  | 0, _, _, _, _ => True
  | n + 1, m, nt, bl, s => ∃ t b0 : Nat, t ≤ 8 ∧ b0 ≤ bl ∧ 1 ≤ nt ∧ Tl m = nI t ∧ (∀ i, i < t → ∃ p, p < 256 ∧ Pr (m * 8 + i) = nI p) ∧ bk (525 * n) = nI (nt - 1) ∧ Ln m = nI b0 ∧ bk (525 * n + 1) = nI b0 ∧ Dr m = bk (525 * n + 2) ∧ (∀ f, f < 6 → Fs (m * 6 + f) = bk (525 * n + 3 + f)) ∧ rTold (unT Pr Ls m t s).1 (unT Pr Ls m t s).2 (fun k => bk (525 * n + 3 + (k - 200))) (nt - 1) ∧ rPs Tl Pr Ls Fs Ln Dr bk n ((m + 5) % 6) (nt - 1) b0 (unT Pr Ls m t s)
def rPast (h g : zH) : Prop := ∃ n m : Nat, n ≤ 6 ∧ m < 6 ∧ h 22 7 = nI n ∧ g 100 4 = nI n ∧ h 22 6 = nI m ∧ rPs (h 23) (h 24) (h 25) (h 26) (h 27) (h 28) (g 103) n m (h 11 5).toNatClampNeg (h 11 4).toNatClampNeg (h 12, h 13)
def rImg (h g : zH) : Prop := (h 0 5 = 0 ∧ g 100 5 = 0) ∨ (¬ h 0 5 = 0 ∧ g 100 5 = 1 ∧ rKept h (g 102))
def rTape (h g : zH) : Prop := ∃ n : Nat, n ≤ 400 ∧ h 29 5 = nI n ∧ g 100 13 = nI n ∧ ∀ i, i < n → ∃ b, b < 256 ∧ h 30 i = nI b ∧ g 107 i = nI b
def rFlt (h g : zH) : Prop := h 29 6 = g 100 20 ∧ h 29 7 = g 100 22
def rEve (h : zH) : Prop := (∀ p, p < 256 → h 40 p = 0) ∧ h 38 6 = 0
def zRel (h g : zH) : Prop := rHouse h (g 101) ∧ rPast h g ∧ rImg h g ∧ rTape h g ∧ rFlt h g ∧ rEve h
abbrev zRc : List Nat := [1, 2, 3, 4, 5, 6, 7, 8, 9, 10, 11, 12, 13, 14, 15, 16, 17, 18, 20, 22, 23, 24, 25, 26, 27, 28, 29, 30, 40, 50, 51, 52, 53, 54, 55, 56, 57, 58, 59, 60, 61, 62, 63, 64, 65, 66, 67, 69]
theorem zRel.cong {h g h' g' : zH} (R : zRel h g) (hc : ∀ c ∈ zRc, h' c = h c) (h0 : h' 0 5 = h 0 5) (h38 : h' 38 6 = h 38 6) (g0 : g' 100 4 = g 100 4 ∧ g' 100 5 = g 100 5 ∧ g' 100 13 = g 100 13 ∧ g' 100 20 = g 100 20 ∧ g' 100 22 = g 100 22) (g1 : g' 101 = g 101) (g2 : g' 102 = g 102) (g3 : g' 103 = g 103) (g7 : g' 107 = g 107) : zRel h' g' := by
  unfold zRel rHouse rPast rImg rKept rTape rFlt rEve at *
  simp only [List.mem_cons, List.not_mem_nil, or_false, forall_eq_or_imp, forall_eq] at hc
  obtain ⟨c1, c2, c3, c4, c5, c6, c7, c8, c9, c10, c11, c12, c13, c14, c15, c16, c17, c18, c20, c22, c23, c24, c25, c26, c27, c28, c29, c30, c40, c50, c51, c52, c53, c54, c55, c56, c57, c58, c59, c60, c61, c62, c63, c64, c65, c66, c67, c69⟩ := hc
  obtain ⟨k1, k2, k3, k4, k5⟩ := g0
  rw [c1, c2, c3, c4, c5, c6, c7, c8, c9, c10, c11, c12, c13, c14, c15, c16, c17, c18, c20, c22, c23, c24, c25, c26, c27, c28, c29, c30, c40, c50, c51, c52, c53, c54, c55, c56, c57, c58, c59, c60, c61, c62, c63, c64, c65, c66, c67, c69, h0, h38, k1, k2, k3, k4, k5, g1, g2, g3, g7]
  exact R
/-- nothing that matters has changed: class readers, reference readers -/
theorem zRel.read {h g h' g' : zH} (R : zRel h g) (e : h' = h) (f : g' = g) : zRel h' g' := by rw [e, f]; exact R
