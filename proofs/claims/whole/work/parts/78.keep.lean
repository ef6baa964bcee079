/-! an evening begins: what is kept of it -/
theorem unT_cong {Pr Ls Pr' Ls' : Nat → Int32} {m : Nat} : ∀ t s, (∀ i, i < t → Pr' (m * 8 + i) = Pr (m * 8 + i) ∧ Ls' (m * 8 + i) = Ls (m * 8 + i)) → unT Pr' Ls' m t s = unT Pr Ls m t s := by
  intro t
  induction t with
  | zero => intro s _; rfl
  | succ t ih =>
    intro s h
    unfold unT
    rw [(h t (by omega)).1, (h t (by omega)).2]
    exact ih _ (fun i hi => h i (by omega))
theorem rPs_cong {Tl Pr Ls Fs Ln Dr bk Tl' Pr' Ls' Fs' Ln' Dr' bk' : Nat → Int32} (x : Nat) (hA : ∀ q, q ≠ x → Tl' q = Tl q ∧ Ln' q = Ln q ∧ Dr' q = Dr q ∧ (∀ i, i < 8 → Pr' (q * 8 + i) = Pr (q * 8 + i) ∧ Ls' (q * 8 + i) = Ls (q * 8 + i)) ∧ ∀ f, f < 6 → Fs' (q * 6 + f) = Fs (q * 6 + f)) : ∀ n m nt bl s, m < 6 → (∀ j, j < n → (m + 5 * j) % 6 ≠ x) → (∀ j, j < 525 * n → bk' j = bk j) → rPs Tl Pr Ls Fs Ln Dr bk n m nt bl s → rPs Tl' Pr' Ls' Fs' Ln' Dr' bk' n m nt bl s := by
  intro n
  induction n with
  | zero => intro m nt bl s _ _ _ _; trivial
  | succ n ih =>
    intro m nt bl s hm hx hb ⟨t, b0, a1, a2, a3, a4, a5, a6, a7, a8, a9, a10, a11, a12⟩
    have hm' := hx 0 (by omega)
    rw [show (m + 5 * 0) % 6 = m by omega] at hm'
    obtain ⟨q1, q2, q3, q4, q5⟩ := hA m hm'
    have un : unT Pr' Ls' m t s = unT Pr Ls m t s := unT_cong t s (fun i hi => q4 i (by omega))
    refine ⟨t, b0, a1, a2, a3, q1.trans a4, fun i hi => ?_, by rw [hb _ (by omega)]; exact a6, q2.trans a7, by rw [hb _ (by omega)]; exact a8, by rw [q3, hb _ (by omega)]; exact a9, fun f hf => by rw [q5 f hf, hb _ (by omega)]; exact a10 f hf, ?_, ?_⟩
    · rw [(q4 i (by omega)).1]; exact a5 i hi
    · rw [un]
      exact a11.w (fun i i1 i2 => hb _ (by omega))
    · rw [un]
      exact ih _ _ _ _ (by omega) (fun j hj => by rw [show ((m + 5) % 6 + 5 * j) % 6 = (m + 5 * (j + 1)) % 6 by omega]; exact hx (j + 1) (by omega)) (fun j hj => hb j (by omega)) a12
theorem rPs_shift {Tl Pr Ls Fs Ln Dr bk bk' : Nat → Int32} : ∀ n m nt bl s, (∀ j, j < 525 * n → bk' j = bk (j + 525)) → rPs Tl Pr Ls Fs Ln Dr bk (n + 1) m nt bl s → rPs Tl Pr Ls Fs Ln Dr bk' n m nt bl s := by
  intro n
  induction n with
  | zero => intro m nt bl s _ _; trivial
  | succ n ih =>
    intro m nt bl s hb ⟨t, b0, a1, a2, a3, a4, a5, a6, a7, a8, a9, a10, a11, a12⟩
    have e : ∀ j, j < 525 → bk' (525 * n + j) = bk (525 * (n + 1) + j) := fun j hj => by rw [hb _ (by omega), show 525 * n + j + 525 = 525 * (n + 1) + j by omega]
    refine ⟨t, b0, a1, a2, a3, a4, a5, by rw [show 525 * n = 525 * n + 0 by omega, e 0 (by omega)]; exact a6, a7, by rw [e 1 (by omega)]; exact a8, by rw [e 2 (by omega)]; exact a9, fun f hf => by rw [show 525 * n + 3 + f = 525 * n + (3 + f) by omega, e _ (by omega), show 525 * (n + 1) + (3 + f) = 525 * (n + 1) + 3 + f by omega]; exact a10 f hf, ?_, ih _ _ _ _ (fun j hj => hb j (by omega)) a12⟩
    exact a11.w (fun i i1 i2 => by
      show bk' (525 * n + 3 + (i - 200)) = bk (525 * (n + 1) + 3 + (i - 200))
      rw [show 525 * n + 3 + (i - 200) = 525 * n + (3 + (i - 200)) by omega, e _ (by omega), show 525 * (n + 1) + (3 + (i - 200)) = 525 * (n + 1) + 3 + (i - 200) by omega])
theorem m1 : ∀ m, m < 6 → (nI m + 1) - (nI m + 1) / 6 * 6 = nI ((m + 1) % 6) := by decide +kernel
theorem n6 : ∀ n, n < 7 → (if (6 : Int32) < nI n + 1 then (6 : Int32) else nI n + 1) = nI (if n = 6 then 6 else n + 1) := by decide +kernel
theorem q_keepC {h : zH} {m n : Nat} (hm : m < 6) (hn : n ≤ 6) (h6 : h 22 6 = nI m) (h7 : h 22 7 = nI n) : ∃ h', f_X6_keep_r1 h = some (0, h') ∧ (∀ c, c ≠ 22 → c ≠ 23 → c ≠ 26 → c ≠ 27 → c ≠ 28 → h' c = h c) ∧ h' 22 6 = nI ((m + 1) % 6) ∧ h' 22 7 = nI (if n = 6 then 6 else n + 1) ∧ h' 23 = upd (h 23) ((m + 1) % 6) 0 ∧ h' 27 = upd (h 27) ((m + 1) % 6) (h 11 4) ∧ h' 28 = upd (h 28) ((m + 1) % 6) (h 1 8) ∧ ∀ j, h' 26 j = if (m + 1) % 6 * 6 ≤ j ∧ j < (m + 1) % 6 * 6 + 6 then h 14 (j - (m + 1) % 6 * 6) else h 26 j := by
  unfold f_X6_keep_r1
  rw [h6, m1 m hm]
  have hm' : (m + 1) % 6 < 6 := by omega
  generalize (m + 1) % 6 = k at *
  have z1 : zup h 22 6 (nI k) 22 7 = nI n := by rw [zup_eq, pk_un (by decide)]; exact h7
  simp only [zst_e]
  rw [z1, n6 n (by omega)]
  generalize (nI (if n = 6 then 6 else n + 1)) = q
  have z2 : zup (zup h 22 6 (nI k)) 22 7 q 22 6 = nI k := by rw [zup_eq, pk_un (by decide), zup_eq, pk_us]
  simp only [z2, n_cl (show k < 2 ^ 31 by omega), zck_n hm' (show 6 < 2 ^ 31 by decide)]
  have z3 : zup (zup (zup h 22 6 (nI k)) 22 7 q) 23 k 0 22 6 = nI k := by rw [zup_ne 22 (by decide)]; exact z2
  have z3' : zup (zup (zup h 22 6 (nI k)) 22 7 q) 23 k 0 11 = h 11 := by rw [zup_ne 11 (by decide), zup_ne 11 (by decide), zup_ne 11 (by decide)]
  simp only [z3, z3', n_cl (show k < 2 ^ 31 by omega), zck_n hm' (show 6 < 2 ^ 31 by decide)]
  have z4 : zup (zup (zup (zup h 22 6 (nI k)) 22 7 q) 23 k 0) 27 k (h 11 4) 22 6 = nI k := by rw [zup_ne 22 (by decide)]; exact z3
  have z4' : zup (zup (zup (zup h 22 6 (nI k)) 22 7 q) 23 k 0) 27 k (h 11 4) 1 = h 1 := by rw [zup_ne 1 (by decide), zup_ne 1 (by decide), zup_ne 1 (by decide), zup_ne 1 (by decide)]
  simp only [z4, z4', n_cl (show k < 2 ^ 31 by omega), zck_n hm' (show 6 < 2 ^ 31 by decide)]
  have z5 : zup (zup (zup (zup (zup h 22 6 (nI k)) 22 7 q) 23 k 0) 27 k (h 11 4)) 28 k (h 1 8) 22 6 = nI k := by rw [zup_ne 22 (by decide)]; exact z4
  simp only [z5]
  generalize hX : zup (zup (zup (zup (zup h 22 6 (nI k)) 22 7 q) 23 k 0) 27 k (h 11 4)) 28 k (h 1 8) = X
  have xc : ∀ c, c ≠ 22 → c ≠ 23 → c ≠ 27 → c ≠ 28 → X c = h c := fun c p1 p2 p3 p4 => by rw [← hX, zup_ne c p4, zup_ne c p3, zup_ne c p2, zup_ne c p1, zup_ne c p1]
  have e1 : nI k * 6 = nI (k * 6) := n_mul k 6
  rw [e1]
  have zc : ∀ K, (zcc 6 36 (0 : Int32) (nI (k * 6)) (6 : Int32) K) = K := fun K => zcc_n (n0 := 6) (n1 := 36) (a := 0) (b := k * 6) (c := 6) (by omega) (by omega) (by decide) (by decide)
  rw [zc]
  have cp := fun j => zcp_n (h := X) (a := 14) (b := 26) (sp := 0) (dp := k * 6) (n := 6) (by decide) (by omega) (by decide) j
  refine ⟨zcp X 14 26 0 (nI (k * 6)) 6, rfl, fun c p1 p2 p3 p4 p5 => by rw [zcp_ne c p3, xc c p1 p2 p4 p5], ?_, ?_, ?_, ?_, ?_, fun j => ?_⟩
  · rw [zcp_ne 22 (by decide), ← hX]; exact z5
  · rw [zcp_ne 22 (by decide), ← hX, zup_ne 22 (by decide), zup_ne 22 (by decide), zup_ne 22 (by decide), zup_eq, pk_us]
  · rw [zcp_ne 23 (by decide), ← hX, zup_ne 23 (by decide), zup_ne 23 (by decide), zup_eq, zup_ne 23 (by decide), zup_ne 23 (by decide)]
  · rw [zcp_ne 27 (by decide), ← hX, zup_ne 27 (by decide), zup_eq, zup_ne 27 (by decide), zup_ne 27 (by decide), zup_ne 27 (by decide)]
  · rw [zcp_ne 28 (by decide), ← hX, zup_eq, zup_ne 28 (by decide), zup_ne 28 (by decide), zup_ne 28 (by decide), zup_ne 28 (by decide)]
  · have := cp j
    rw [xc 14 (by decide) (by decide) (by decide) (by decide), xc 26 (by decide) (by decide) (by decide) (by decide), Nat.zero_add] at this
    exact this
/-- the reference keeps -/
theorem q_keep103 {b : Nat} (hb : b + 525 ≤ 3150) : ∀ n i g, i ≤ 522 → 522 < n + i → ∃ g', f_X12_keeps_103 n (nI b) (nI i) g = some (0, g') ∧ (∀ c, c ≠ 100 → c ≠ 103 → g' c = g c) ∧ g' 100 = upd (g 100) 4 (g 100 4 + 1) ∧ ∀ j, g' 103 j = if b + 3 + i ≤ j ∧ j < b + 525 then g 101 (200 + (j - (b + 3))) else g 103 j := by
  intro n
  induction n with
  | zero => intro i g h1 h2; omega
  | succ n ih =>
    intro i g h1 h2
    simp only [f_X12_keeps_103]
    by_cases hi : i = 522
    · subst hi
      rw [if_pos (by decide), zst_e]
      exact ⟨_, rfl, fun c c1 _ => zup_ne c c1, by rw [zup_eq], fun j => by rw [if_neg (by omega), zup_ne 103 (by decide)]⟩
    rw [if_neg (show ¬ (522 : Int32) ≤ nI i by rw [show (522 : Int32) = nI 522 from rfl, n_le (by omega) (by omega)]; omega)]
    simp (disch := omega) only [l_3, l_200, n_add, zck_n, n_cl, zst_e, zlt_e, nI_1]
    obtain ⟨g', e1, e2, e2', e3⟩ := ih (i + 1) (zup g 103 (b + 3 + i) (g 101 (200 + i))) (by omega) (by omega)
    refine ⟨g', e1, fun c c1 c2 => by rw [e2 c c1 c2, zup_ne c c2], by rw [e2', zup_ne 100 (by decide)], fun j => ?_⟩
    rw [e3 j, zup_ne 101 (by decide), zup_eq]
    by_cases c : j = b + 3 + i
    · subst c
      rw [if_neg (by omega), pk_us, if_pos (by omega), Nat.add_sub_cancel_left]
    · rw [pk_un c]
      by_cases d : b + 3 + (i + 1) ≤ j ∧ j < b + 525
      · rw [if_pos d, if_pos (by omega)]
      · rw [if_neg d, if_neg (by omega)]
theorem q_keep50 {g : zH} {n : Nat} (hn : n ≤ 5) (h4 : g 100 4 = nI n) : ∃ g', f_X12_keeps_50 g = some (0, g') ∧ (∀ c, c ≠ 100 → c ≠ 103 → g' c = g c) ∧ g' 100 = upd (g 100) 4 (nI (n + 1)) ∧ (∀ j, j < 525 * n → g' 103 j = g 103 j) ∧ g' 103 (525 * n) = g 101 5 ∧ g' 103 (525 * n + 1) = g 101 6 ∧ g' 103 (525 * n + 2) = g 101 7 ∧ ∀ j, j < 522 → g' 103 (525 * n + 3 + j) = g 101 (200 + j) := by
  unfold f_X12_keeps_50
  rw [h4, zlt_e, show (525 : Int32) * nI n = nI (525 * n) from n_mul 525 n]
  simp (disch := omega) only [l_1, l_2, n_add, zck_n, n_cl, zst_e]
  have z1 : zup g 103 (525 * n) (g 101 5) 101 = g 101 := zup_ne 101 (by decide)
  have z2 : zup (zup g 103 (525 * n) (g 101 5)) 103 (525 * n + 1) (g 101 6) 101 = g 101 := by rw [zup_ne 101 (by decide)]; exact z1
  rw [z1, z2]
  generalize hX : zup (zup (zup g 103 (525 * n) (g 101 5)) 103 (525 * n + 1) (g 101 6)) 103 (525 * n + 2) (g 101 7) = X
  have xc : ∀ c, c ≠ 103 → X c = g c := fun c p1 => by rw [← hX, zup_ne c p1, zup_ne c p1, zup_ne c p1]
  obtain ⟨g', e1, e2, e3, e4⟩ := q_keep103 (b := 525 * n) (by omega) zN 0 X (by omega) (by unfold zN; omega)
  have e1 : f_X12_keeps_103 zN (nI (525 * n)) 0 X = some (0, g') := e1
  refine ⟨g', e1, fun c c1 c2 => by rw [e2 c c1 c2, xc c c2], by rw [e3, xc 100 (by decide), h4, nI_1], fun j hj => ?_, ?_, ?_, ?_, fun j hj => ?_⟩
  · rw [e4, if_neg (by omega), ← hX, zup_eq, pk_un (by omega), zup_eq, pk_un (by omega), zup_eq, pk_un (by omega)]
  · rw [e4, if_neg (by omega), ← hX, zup_eq, pk_un (by omega), zup_eq, pk_un (by omega), zup_eq, pk_us]
  · rw [e4, if_neg (by omega), ← hX, zup_eq, pk_un (by omega), zup_eq, pk_us]
  · rw [e4, if_neg (by omega), ← hX, zup_eq, pk_us]
  · rw [e4, if_pos (by omega), xc 101 (by decide), show 525 * n + 3 + j - (525 * n + 3) = j by omega]
theorem q_keep11 : ∀ n i g, i ≤ 2625 → 2625 < n + i → ∃ g', f_X12_keeps_11 n (nI i) g = f_X12_keeps_50 (zup g' 100 4 (g' 100 4 - 1)) ∧ (∀ c, c ≠ 103 → g' c = g c) ∧ ∀ j, g' 103 j = if i ≤ j ∧ j < 2625 then g 103 (j + 525) else g 103 j := by
  intro n
  induction n with
  | zero => intro i g h1 h2; omega
  | succ n ih =>
    intro i g h1 h2
    simp only [f_X12_keeps_11]
    by_cases hi : i = 2625
    · subst hi
      rw [if_pos (by decide), zst_e]
      exact ⟨g, rfl, fun c _ => rfl, fun j => by rw [if_neg (by omega)]⟩
    rw [if_neg (show ¬ (2625 : Int32) ≤ nI i by rw [show (2625 : Int32) = nI 2625 from rfl, n_le (by omega) (by omega)]; omega)]
    rw [show nI i + 525 = nI (i + 525) from n_add i 525]
    simp (disch := omega) only [zck_n, n_cl, zst_e, zlt_e, nI_1]
    obtain ⟨g', e1, e2, e3⟩ := ih (i + 1) (zup g 103 i (g 103 (i + 525))) (by omega) (by omega)
    refine ⟨g', e1, fun c c1 => by rw [e2 c c1, zup_ne c c1], fun j => ?_⟩
    rw [e3 j, zup_eq]
    by_cases c : j = i
    · subst c
      rw [if_neg (by omega), pk_us, if_pos (by omega)]
    · rw [pk_un c]
      by_cases d : i + 1 ≤ j ∧ j < 2625
      · rw [if_pos d, if_pos (by omega), pk_un (by omega)]
      · rw [if_neg d, if_neg (by omega)]
theorem q_keepR {g : zH} {n : Nat} (hn : n ≤ 6) (h4 : g 100 4 = nI n) : ∃ g' n0, f_X12_keeps g = some (0, g') ∧ (n = 6 ∧ n0 = 5 ∨ n ≤ 5 ∧ n0 = n) ∧ (∀ c, c ≠ 100 → c ≠ 103 → g' c = g c) ∧ (∀ k, k ≠ 4 → g' 100 k = g 100 k) ∧ g' 100 4 = nI (n0 + 1) ∧ (∀ j, j < 525 * n0 → g' 103 j = if n = 6 then g 103 (j + 525) else g 103 j) ∧ g' 103 (525 * n0) = g 101 5 ∧ g' 103 (525 * n0 + 1) = g 101 6 ∧ g' 103 (525 * n0 + 2) = g 101 7 ∧ ∀ j, j < 522 → g' 103 (525 * n0 + 3 + j) = g 101 (200 + j) := by
  unfold f_X12_keeps
  rw [h4]
  by_cases c : n = 6
  · subst c
    rw [if_pos (show nI 6 = (6 : Int32) from rfl)]
    obtain ⟨g1, a1, a2, a3⟩ := q_keep11 zN 0 g (by omega) (by unfold zN; omega)
    have a1 : f_X12_keeps_11 zN 0 g = f_X12_keeps_50 (zup g1 100 4 (g1 100 4 - 1)) := a1
    have h4' : g1 100 4 - 1 = nI 5 := by rw [a2 100 (by decide), h4]; rfl
    rw [h4'] at a1
    obtain ⟨g', b1, b2, b3, b4, b5, b6, b7, b8⟩ := q_keep50 (g := zup g1 100 4 (nI 5)) (n := 5) (by omega) (by rw [zup_eq, pk_us])
    have w : zup g1 100 4 (nI 5) 101 = g 101 := by rw [zup_ne 101 (by decide), a2 101 (by decide)]
    rw [w] at b5 b6 b7 b8
    refine ⟨g', 5, a1.trans b1, Or.inl ⟨rfl, rfl⟩, fun c c1 c2 => by rw [b2 c c1 c2, zup_ne c c1, a2 c c2], fun k hk => by rw [b3, pk_un hk, zup_eq, pk_un hk, a2 100 (by decide)], by rw [b3, pk_us], fun j hj => ?_, b5, b6, b7, b8⟩
    rw [b4 j hj, zup_ne 103 (by decide), a3, if_pos (by omega), if_pos rfl]
  · rw [if_neg (show ¬ nI n = 6 by rw [l_6, n_eq (by omega) (by omega)]; exact c)]
    obtain ⟨g', b1, b2, b3, b4, b5, b6, b7, b8⟩ := q_keep50 (g := g) (n := n) (by omega) h4
    exact ⟨g', n, b1, Or.inr ⟨by omega, rfl⟩, b2, fun k hk => by rw [b3, pk_un hk], by rw [b3, pk_us], fun j hj => by rw [b4 j hj, if_neg c], b5, b6, b7, b8⟩
/-- the evening that is open, and those before it -/
def pO (nt bl0 n m t : Nat) (To0 La0 : Nat → Int32) (h g : zH) : Prop := n ≤ 5 ∧ m < 6 ∧ h 22 7 = nI (n + 1) ∧ g 100 4 = nI (n + 1) ∧ h 22 6 = nI m ∧ h 23 m = nI t ∧ (∀ i, i < t → ∃ p, p < 256 ∧ h 24 (m * 8 + i) = nI p) ∧ unT (h 24) (h 25) m t (h 12, h 13) = (To0, La0) ∧ g 103 (525 * n) = nI nt ∧ h 27 m = nI bl0 ∧ g 103 (525 * n + 1) = nI bl0 ∧ h 28 m = g 103 (525 * n + 2) ∧ (∀ f, f < 6 → h 26 (m * 6 + f) = g 103 (525 * n + 3 + f)) ∧ rTold To0 La0 (fun k => g 103 (525 * n + 3 + (k - 200))) nt ∧ rPs (h 23) (h 24) (h 25) (h 26) (h 27) (h 28) (g 103) n ((m + 5) % 6) nt bl0 (To0, La0)
theorem pO.same {nt bl0 n m t : Nat} {To0 La0 : Nat → Int32} {h g h' g' : zH} (H : pO nt bl0 n m t To0 La0 h g) (hc : ∀ c, c = 12 ∨ c = 13 ∨ (22 ≤ c ∧ c ≤ 28) → h' c = h c) (g4 : g' 100 4 = g 100 4) (g3 : g' 103 = g 103) : pO nt bl0 n m t To0 La0 h' g' := by
  unfold pO at *
  rw [hc 12 (by omega), hc 13 (by omega), hc 22 (by omega), hc 23 (by omega), hc 24 (by omega), hc 25 (by omega), hc 26 (by omega), hc 27 (by omega), hc 28 (by omega), g4, g3]
  exact H
theorem pO.close {nt bl0 bl n m t : Nat} {To0 La0 : Nat → Int32} {h g : zH} (H : pO nt bl0 n m t To0 La0 h g) (ht : t ≤ 8) (hb : bl0 ≤ bl) (h5 : h 11 5 = nI (nt + 1)) (h4 : h 11 4 = nI bl) (hnt : nt + 1 < 2 ^ 31) (hbl : bl < 2 ^ 31) : rPast h g := by
  obtain ⟨a1, a2, a3, a4, a5, a6, a7, a8, a9, a10, a11, a12, a13, a14, a15⟩ := H
  refine ⟨n + 1, m, by omega, a2, a3, a4, a5, ?_⟩
  rw [h5, h4, n_cl hnt, n_cl hbl]
  refine ⟨t, bl0, ht, hb, by omega, a6, a7, by rw [Nat.add_sub_cancel]; exact a9, a10, a11, a12, a13, ?_, ?_⟩
  · rw [a8, Nat.add_sub_cancel]; exact a14
  · rw [a8, Nat.add_sub_cancel]; exact a15
theorem pO.note {nt bl0 n m t p : Nat} {To0 La0 : Nat → Int32} {h g h' g' : zH} {x : Int32} (H : pO nt bl0 n m t To0 La0 h g) (ht : t < 8) (hp : p < 256) (hc : ∀ c, c = 22 ∨ c = 26 ∨ c = 27 ∨ c = 28 → h' c = h c) (h23 : h' 23 = upd (h 23) m (nI (t + 1))) (h24 : h' 24 = upd (h 24) (m * 8 + t) (nI p)) (h25 : h' 25 = upd (h 25) (m * 8 + t) (h 13 p)) (h12 : h' 12 = upd (h 12) p (h 12 p + 1)) (h13 : h' 13 = upd (h 13) p x) (g4 : g' 100 4 = g 100 4) (g3 : g' 103 = g 103) : pO nt bl0 n m (t + 1) To0 La0 h' g' := by
  obtain ⟨a1, a2, a3, a4, a5, a6, a7, a8, a9, a10, a11, a12, a13, a14, a15⟩ := H
  unfold pO
  rw [hc 22 (by omega), hc 26 (by omega), hc 27 (by omega), hc 28 (by omega), g4, g3]
  refine ⟨a1, a2, a3, a4, a5, by rw [h23, pk_us], fun i hi => ?_, ?_, a9, a10, a11, a12, a13, a14, ?_⟩
  · rw [h24]
    by_cases c : i = t
    · subst c; rw [pk_us]; exact ⟨p, hp, rfl⟩
    · rw [pk_un (by omega)]; exact a7 i (by omega)
  · rw [← a8]
    have e24 : (h' 24 (m * 8 + t)).toNatClampNeg = p := by rw [h24, pk_us, n_cl (by omega)]
    have e25 : h' 25 (m * 8 + t) = h 13 p := by rw [h25, pk_us]
    show unT (h' 24) (h' 25) m t (upd (h' 12) (h' 24 (m * 8 + t)).toNatClampNeg (h' 12 (h' 24 (m * 8 + t)).toNatClampNeg - 1), upd (h' 13) (h' 24 (m * 8 + t)).toNatClampNeg (h' 25 (m * 8 + t))) = _
    rw [e24, e25, h12, h13, pk_us, i_back]
    have f1 : upd (upd (h 12) p (h 12 p + 1)) p (h 12 p) = h 12 := by
      funext q
      by_cases c : q = p
      · subst c; rw [pk_us]
      · rw [pk_un c, pk_un c]
    have f2 : upd (upd (h 13) p x) p (h 13 p) = h 13 := by
      funext q
      by_cases c : q = p
      · subst c; rw [pk_us]
      · rw [pk_un c, pk_un c]
    rw [f1, f2]
    exact unT_cong t _ (fun i hi => by rw [h24, h25, pk_un (by omega), pk_un (by omega)]; exact ⟨rfl, rfl⟩)
  · refine rPs_cong m (fun q hq => ⟨by rw [h23, pk_un hq], rfl, rfl, fun i hi => by rw [h24, h25, pk_un (by omega), pk_un (by omega)]; exact ⟨rfl, rfl⟩, fun f _ => rfl⟩) n _ _ _ _ (by omega) (fun j hj => by omega) (fun j _ => rfl) a15
/-- keep on both sides -/
theorem q_keep {h g : zH} (R : zRel h g) : ∃ h' g' bl nt n m, f_X6_keep_r1 h = some (0, h') ∧ f_X12_keeps g = some (0, g') ∧ h 11 5 = nI nt ∧ nt ≤ 9999 ∧ h 11 4 = nI bl ∧ bl ≤ 100 ∧ pO nt bl n m 0 (h 12) (h 13) h' g' ∧ (∀ c, c ≠ 22 → c ≠ 23 → c ≠ 26 → c ≠ 27 → c ≠ 28 → h' c = h c) ∧ (∀ c, c ≠ 100 → c ≠ 103 → g' c = g c) ∧ ∀ k, k ≠ 4 → g' 100 k = g 100 k := by
  obtain ⟨⟨r1, r2, ⟨bl, nt, k1, k2, k3, k4, k5, k6, k7, k8, k9⟩, r4, r5⟩, ⟨n, m, n6, m6, b1, b2, b3, b4⟩, r6, r7, r8, r9⟩ := R
  obtain ⟨h', a1, a2, a3, a4, a5, a6, a7, a8⟩ := q_keepC m6 n6 b3 b1
  obtain ⟨g', n0, c1, c2, c3, c4, c5, c6, c7, c8, c9, c10⟩ := q_keepR n6 b2
  rw [k5, k3, n_cl (by omega), n_cl (by omega)] at b4
  refine ⟨h', g', bl, nt, n0, (m + 1) % 6, a1, c1, k5, k2, k3, k1, ⟨by omega, by omega, ?_, c5, a3, by rw [a5, pk_us]; rfl, fun i hi => by omega, ?_, by rw [c7]; exact k6, by rw [a6, pk_us]; exact k3, by rw [c8]; exact k4, by rw [a7, pk_us, c9]; exact r5.2.2.1, fun f hf => ?_, ?_, ?_⟩, a2, c3, c4⟩
  · rw [a4]
    rcases c2 with ⟨d1, d2⟩ | ⟨d1, d2⟩
    · rw [if_pos d1, d2]
    · rw [if_neg (by omega), d2]
  · show (h' 12, h' 13) = _
    rw [a2 12 (by decide) (by decide) (by decide) (by decide) (by decide), a2 13 (by decide) (by decide) (by decide) (by decide) (by decide)]
  · rw [a8, if_pos (by omega), c10 f (by omega), Nat.add_sub_cancel_left]; exact k7 f hf
  · refine k9.w (fun i i1 i2 => ?_)
    show g' 103 (525 * n0 + 3 + (i - 200)) = g 101 i
    rw [c10 (i - 200) (by omega), show 200 + (i - 200) = i by omega]
  · rw [show ((m + 1) % 6 + 5) % 6 = m by omega]
    have old : rPs (h 23) (h 24) (h 25) (h 26) (h 27) (h 28) (g' 103) n0 m nt bl (h 12, h 13) := by
      rcases c2 with ⟨d1, d2⟩ | ⟨d1, d2⟩
      · subst d1 d2
        exact rPs_shift 5 m nt bl _ (fun j hj => by rw [c6 j hj, if_pos rfl]) b4
      · subst d2
        exact rPs_cong 6 (fun q _ => ⟨rfl, rfl, rfl, fun i _ => ⟨rfl, rfl⟩, fun f _ => rfl⟩) n0 m nt bl _ m6 (fun j _ => by omega) (fun j hj => by rw [c6 j hj, if_neg (by omega)]) b4
    refine rPs_cong ((m + 1) % 6) (fun q hq => ⟨by rw [a5, pk_un hq], by rw [a6, pk_un hq], by rw [a7, pk_un hq], fun i _ => by rw [a2 24 (by decide) (by decide) (by decide) (by decide) (by decide), a2 25 (by decide) (by decide) (by decide) (by decide) (by decide)]; exact ⟨rfl, rfl⟩, fun f hf => by rw [a8, if_neg (by omega)]⟩) n0 m nt bl _ m6 (fun j hj => by omega) (fun j _ => rfl) old
