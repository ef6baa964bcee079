theorem q_add33 (i f : Nat) (hi : i < 16) (hf : f < 6) : ∀ n k h, k ≤ 6 → 6 < n + k → ∃ h', f_X3_add_33 n (nI f) (nI i) (nI k) h = some (nI i, zup h' 2 4 (h 2 4 + 1)) ∧ (∀ c, c ≠ 6 → h' c = h c) ∧ ∀ j, h' 6 j = if i * 6 + k ≤ j ∧ j < i * 6 + 6 then (if j = i * 6 + f then 4 else 0) else h 6 j := by
  intro n
  induction n with
  | zero => intro k h h1 h2; omega
  | succ n ih =>
    intro k h h1 h2
    rw [f_X3_add_33]
    simp (disch := omega) only [l_6, n_le]
    by_cases h3 : 6 ≤ k
    · rw [if_pos h3]
      exact ⟨h, rfl, fun c hc => rfl, fun j => by rw [if_neg (by omega)]⟩
    · rw [if_neg h3]
      unfold f_X3_add_64
      simp (disch := omega) only [n_eq, n_mul, n_add, zck_n, n_cl, zst, zlt, nI_1]
      have key : ∀ x : Int32, x = (if i * 6 + k = i * 6 + f then 4 else 0) → ∃ h', f_X3_add_33 n (nI f) (nI i) (nI (k + 1)) (zup h 6 (i * 6 + k) x) = some (nI i, zup h' 2 4 (h 2 4 + 1)) ∧ (∀ c, c ≠ 6 → h' c = h c) ∧ ∀ j, h' 6 j = if i * 6 + k ≤ j ∧ j < i * 6 + 6 then (if j = i * 6 + f then 4 else 0) else h 6 j := by
        intro x hx
        obtain ⟨h', e1, e2, e3⟩ := ih (k + 1) (zup h 6 (i * 6 + k) x) (by omega) (by omega)
        refine ⟨h', e1, fun c hc => by rw [e2 c hc, zup_ne c hc], fun j => ?_⟩
        rw [e3 j, zup_eq]
        by_cases h4 : j = i * 6 + k
        · subst h4; rw [if_neg (by omega), pk_us, if_pos (by omega), hx]
        · rw [pk_un h4]
          by_cases h5 : i * 6 + (k + 1) ≤ j ∧ j < i * 6 + 6
          · rw [if_pos h5, if_pos (show i * 6 + k ≤ j ∧ j < i * 6 + 6 by omega)]
          · rw [if_neg h5, if_neg (show ¬ (i * 6 + k ≤ j ∧ j < i * 6 + 6) by omega)]
      by_cases hk : k = f
      · rw [if_pos hk]
        exact key 4 (by rw [if_pos (by omega)])
      · rw [if_neg hk]
        exact key 0 (by rw [if_neg (by omega)])
theorem q_half67 (x1 x2 x3 : Int32) (f b : Nat) (hb : b < 2000) : ∀ n k g, k ≤ 10 → 10 < n + k → ∃ m g', f_X12_half_67 n x1 x2 x3 (nI f) (nI b) (nI k) g = f_X12_half_67 (m + 1) x1 x2 x3 (nI f) (nI b) (nI 10) g' ∧ (∀ c, c ≠ 101 → g' c = g c) ∧ ∀ j, g' 101 j = if b + k ≤ j ∧ j < b + 10 then 0 else g 101 j := by
  intro n
  induction n with
  | zero => intro k h h1 h2; omega
  | succ n ih =>
    intro k g h1 h2
    by_cases h3 : k = 10
    · subst h3
      exact ⟨n, g, rfl, fun c hc => rfl, fun j => by rw [if_neg (by omega)]⟩
    · obtain ⟨m, g', e1, e2, e3⟩ := ih (k + 1) (zup g 101 (b + k) 0) (by omega) (by omega)
      have e0 : f_X12_half_67 (n + 1) x1 x2 x3 (nI f) (nI b) (nI k) g = f_X12_half_67 n x1 x2 x3 (nI f) (nI b) (nI (k + 1)) (zup g 101 (b + k) 0) := by
        simp only [f_X12_half_67]
        rw [if_neg (show ¬ (10 : Int32) ≤ nI k by rw [l_10, n_le (by omega) (by omega)]; omega)]
        simp (disch := omega) only [n_add, zck_n, n_cl, zst, zlt, nI_1]
      refine ⟨m, g', e0.trans e1, fun c hc => by rw [e2 c hc, zup_ne c hc], fun j => ?_⟩
      rw [e3 j, zup_eq]
      by_cases h4 : j = b + k
      · subst h4; rw [if_neg (by omega), pk_us, if_pos (by omega)]
      · rw [pk_un h4]
        by_cases h5 : b + (k + 1) ≤ j ∧ j < b + 10
        · rw [if_pos h5, if_pos (by omega)]
        · rw [if_neg h5, if_neg (by omega)]
theorem zCore.rel0 {h g : zH} (R : zCore h g) (h0 : h 22 7 = 0) (g0 : g 100 4 = 0) : zRel h g := by
  obtain ⟨a, c, d, e, f, m, b2, b5⟩ := R
  exact ⟨a, ⟨0, m, by omega, b2, h0, g0, b5, trivial⟩, c, d, e, f⟩
theorem rHouse.hal {h h' : zH} {w w' : Nat → Int32} (H : rHouse h w) (hc : ∀ c, c = 1 ∨ (7 ≤ c ∧ c ≤ 20) → h' c = h c) (hw : ∀ j, j ≠ 3 → (j < 20 ∨ 180 ≤ j) → w' j = w j) (hh : rHal (h' 2) (h' 3) (h' 4) (h' 5) (h' 6) w') : rHouse h' w' := by
  obtain ⟨h1, h2, h3, h4, h5⟩ := H
  unfold rHouse
  rw [hc 7 (by decide), hc 8 (by decide), hc 9 (by decide), hc 10 (by decide), hc 11 (by decide), hc 12 (by decide), hc 13 (by decide), hc 14 (by decide), hc 15 (by decide), hc 16 (by decide), hc 17 (by decide), hc 18 (by decide), hc 1 (by decide), hc 20 (by decide)]
  exact ⟨h1.w (fun j hj => hw j (by omega) (by omega)), hh, h3.w (fun j hj => hw j (by omega) (by omega)), h4.w (fun j hj => hw j (by omega) (by omega)), h5.w (fun j hj => hw j (by omega) (by omega))⟩
theorem st_half : zst_half zRel := by
  intro h g a b c d R
  obtain ⟨n, n1, n2, n3, n4⟩ := R.1.2.1
  have no : f_X11_half a b c d h = some (-1, h) → f_X12_half a b c d g = some (-1, g) → ∃ r k1 k2, f_X11_half a b c d h = some (r, k1) ∧ f_X12_half a b c d g = some (r, k2) ∧ zRel k1 k2 := fun x y => ⟨-1, h, g, x, y, R⟩
  unfold f_X11_half f_X12_half f_X11_half_40 f_X11_half_41 f_X11_half_63 f_X12_half_48 at *
  rcases n_ix a 2 (by decide) with ⟨a, ha, rfl⟩ | ⟨e1, e2⟩
  case inr =>
    have e1 : (0 ≤ a ∧ a < 2) = False := e1
    have e2 : (0 ≤ a ∧ a ≤ 1) = False := e2
    exact no (by simp only [q_below, zbd, e1, if_false, c00, if_true]) (by simp only [q_in, zbd, e2, if_false, c00, if_true])
  have pa : (0 ≤ nI a ∧ nI a < 2) = True := eq_true (v_lt ha (by decide))
  have pb : (0 ≤ nI a ∧ nI a ≤ 1) = True := eq_true (v_le ha (by decide))
  rcases n_ix b 10 (by decide) with ⟨b, hb, rfl⟩ | ⟨e1, e2⟩
  case inr =>
    have e1 : (0 ≤ b ∧ b < 10) = False := e1
    have e2 : (0 ≤ b ∧ b ≤ 9) = False := e2
    exact no (by simp only [q_below, zbd, pa, e1, if_false, c00, c10, if_true]) (by simp only [q_in, zbd, pb, e2, if_false, c00, c10, if_true])
  have pc : (0 ≤ nI b ∧ nI b < 10) = True := eq_true (v_lt hb (by decide))
  have pd : (0 ≤ nI b ∧ nI b ≤ 9) = True := eq_true (v_le hb (by decide))
  rcases n_ix c 100 (by decide) with ⟨c, hc, rfl⟩ | ⟨e1, e2⟩
  case inr =>
    have e1 : (0 ≤ c ∧ c < 100) = False := e1
    have e2 : (0 ≤ c ∧ c ≤ 99) = False := e2
    exact no (by simp only [q_below, zbd, pa, pc, e1, if_false, c00, c10, if_true]) (by simp only [q_in, zbd, pb, pd, e2, if_false, c00, c10, if_true])
  have pe : (0 ≤ nI c ∧ nI c < 100) = True := eq_true (v_lt hc (by decide))
  have pf : (0 ≤ nI c ∧ nI c ≤ 99) = True := eq_true (v_le hc (by decide))
  rcases n_ix6 d with ⟨f, hf, rfl⟩ | ⟨e1, e2⟩
  case inr =>
    exact no (by simp only [q_below, zbd, pa, pc, pe, e1, if_false, c00, c10, if_true]) (by simp only [q_in, q_fam, zbd, pb, pd, pf, e2, if_false, c00, c10, if_true])
  have pg : (0 ≤ nI f ∧ nI f < 6) = True := eq_true (v_lt6 hf)
  have ph : (0 ≤ nI f ∧ nI f ≤ 5) = True := eq_true (v_le5 hf)
  simp only [q_below, q_in, q_fam, zbd, pa, pb, pc, pd, pe, pf, pg, ph, if_true, c10, if_false, n2, n3]
  by_cases h16 : n = 16
  · subst h16
    rw [if_neg (by decide), if_pos (by decide)]
    exact ⟨-1, h, g, rfl, rfl, R⟩
  rw [if_pos (show nI n < 16 from nI_lt (a := n) (b := 16) (by omega) (by omega)), if_neg (show ¬ nI n = 16 by rw [l_16, n_eq (by omega) (by omega)]; exact h16), q_forget]
  simp only []
  unfold f_X3_add
  rw [show zup h 22 7 0 2 4 = nI n from n2]
  simp (disch := omega) only [zlt, zck_n, n_cl, zst, l_20, l_10, n_mul, n_add]
  obtain ⟨h', k1, k2, k3⟩ := q_add33 n f (by omega) hf zN 0 (zup (zup (zup (zup h 22 7 0) 3 n (nI a)) 4 n (nI b)) 5 n (nI c)) (by omega) (by unfold zN; omega)
  obtain ⟨m, g', l1, l2, l3⟩ := q_half67 (nI a) (nI b) (nI c) f (20 + 10 * n) (by omega) zN 0 g (by omega) (by unfold zN; omega)
  have k1 : f_X3_add_33 zN (nI f) (nI n) 0 (zup (zup (zup (zup h 22 7 0) 3 n (nI a)) 4 n (nI b)) 5 n (nI c)) = some (nI n, zup h' 2 4 (zup (zup (zup (zup h 22 7 0) 3 n (nI a)) 4 n (nI b)) 5 n (nI c) 2 4 + 1)) := k1
  have l1 : f_X12_half_67 zN (nI a) (nI b) (nI c) (nI f) (nI (20 + 10 * n)) 0 g = f_X12_half_67 (m + 1) (nI a) (nI b) (nI c) (nI f) (nI (20 + 10 * n)) (nI 10) g' := l1
  have hk : (zup (zup (zup (zup h 22 7 0) 3 n (nI a)) 4 n (nI b)) 5 n (nI c)) 2 4 = nI n := n2
  rw [k1, l1]
  simp only [f_X12_half_67]
  rw [if_pos (show (10 : Int32) ≤ nI 10 by decide), hk]
  rw [show nI (20 + 10 * n) + 0 = nI (20 + 10 * n) from Int32.add_zero _]
  simp (disch := omega) only [l_2, l_3, l_1, n_add, zck_n, n_cl, zst, q_forgets, zbd]
  have hg3 : ∀ x y z u, (zup (zup (zup (zup g' 101 (20 + 10 * n) x) 101 (20 + 10 * n + 1) y) 101 (20 + 10 * n + 2) z) 101 (20 + 10 * n + 3 + f) u) 101 3 = nI n := by
    intro x y z u
    rw [zup_eq, pk_un (by omega), zup_eq, pk_un (by omega), zup_eq, pk_un (by omega), zup_eq, pk_un (by omega), l3, if_neg (by omega)]; exact n3
  rw [hg3, n_add]
  have hG : ∀ x y z u, ∀ j, (zup (zup (zup (zup (zup g' 101 (20 + 10 * n) x) 101 (20 + 10 * n + 1) y) 101 (20 + 10 * n + 2) z) 101 (20 + 10 * n + 3 + f) u) 101 3 (nI (n + 1))) 101 j = if j = 3 then nI (n + 1) else if j = 23 + 10 * n + f then u else if j = 22 + 10 * n then z else if j = 21 + 10 * n then y else if j = 20 + 10 * n then x else if 20 + 10 * n ≤ j ∧ j < 30 + 10 * n then 0 else g 101 j := by
    intro x y z u j
    rw [zup_eq]
    by_cases j3 : j = 3
    · subst j3; rw [pk_us, if_pos rfl]
    rw [pk_un j3, if_neg j3, zup_eq]
    by_cases j4 : j = 23 + 10 * n + f
    · rw [if_pos j4, show 20 + 10 * n + 3 + f = j by omega, pk_us]
    rw [pk_un (by omega), if_neg j4, zup_eq]
    by_cases j5 : j = 22 + 10 * n
    · rw [if_pos j5, show 20 + 10 * n + 2 = j by omega, pk_us]
    rw [pk_un (by omega), if_neg j5, zup_eq]
    by_cases j6 : j = 21 + 10 * n
    · rw [if_pos j6, show 20 + 10 * n + 1 = j by omega, pk_us]
    rw [pk_un (by omega), if_neg j6, zup_eq]
    by_cases j7 : j = 20 + 10 * n
    · rw [if_pos j7, ← j7, pk_us]
    rw [pk_un (by omega), if_neg j7, l3]
    by_cases j8 : 20 + 10 * n ≤ j ∧ j < 30 + 10 * n
    · rw [if_pos (by omega), if_pos j8]
    · rw [if_neg (by omega), if_neg j8]
  have hG := hG (nI a) (nI b) (nI c) 4
  generalize hX : zup (zup (zup (zup (zup g' 101 (20 + 10 * n) (nI a)) 101 (20 + 10 * n + 1) (nI b)) 101 (20 + 10 * n + 2) (nI c)) 101 (20 + 10 * n + 3 + f) 4) 101 3 (nI (n + 1)) = X at hG ⊢
  have l2 : ∀ c, c ≠ 101 → X c = g c := fun c hc => by rw [← hX, zup_ne c hc, zup_ne c hc, zup_ne c hc, zup_ne c hc, zup_ne c hc, l2 c hc]
  refine ⟨nI n, zup h' 2 4 (nI (n + 1)), zup X 100 4 0, rfl, ?_, ?_⟩
  · rw [show zup X 100 4 0 101 3 = nI (n + 1) from (hG 3).trans (if_pos rfl), n_sub (by omega)]; rfl
  · have R1 := R.core.forget.core
    refine zCore.rel0 (R1.house ?_ ?_ ?_ ?_ ?_ ?_ ?_) ?_ ?_
    · rw [zup_ne 101 (by decide)]
      refine R1.1.hal ?_ ?_ ?_
      · intro c hc
        rw [zup_ne c (by omega), k2 c (by omega), zup_ne c (by omega), zup_ne c (by omega), zup_ne c (by omega)]
      · intro j j1 j2
        rw [hG, if_neg j1, if_neg (by omega), if_neg (by omega), if_neg (by omega), if_neg (by omega), if_neg (by omega)]; rfl
      · refine ⟨n + 1, by omega, by rw [zup_eq, pk_us], by rw [hG, if_pos rfl], fun i hi => ?_⟩
        have z3 : zup h' 2 4 (nI (n + 1)) 3 = upd (h 3) n (nI a) := by rw [zup_ne 3 (by decide), k2 3 (by decide)]; rfl
        have z4 : zup h' 2 4 (nI (n + 1)) 4 = upd (h 4) n (nI b) := by rw [zup_ne 4 (by decide), k2 4 (by decide)]; rfl
        have z5 : zup h' 2 4 (nI (n + 1)) 5 = upd (h 5) n (nI c) := by rw [zup_ne 5 (by decide), k2 5 (by decide)]; rfl
        have z6 : ∀ j, zup h' 2 4 (nI (n + 1)) 6 j = if n * 6 ≤ j ∧ j < n * 6 + 6 then (if j = n * 6 + f then 4 else 0) else h 6 j := fun j => by rw [zup_ne 6 (by decide), k3 j]; rfl
        rw [z3, z4, z5]
        by_cases hin : i = n
        · subst hin
          rw [pk_us, pk_us, pk_us]
          refine ⟨⟨?_, ?_⟩, ⟨b, hb, rfl, ?_⟩, ⟨c, hc, rfl, ?_⟩, (fun x => if x = f then 4 else 0), ?_, fun f' hf' => ⟨?_, ?_⟩⟩
          · rw [hG, if_neg (by omega), if_neg (by omega), if_neg (by omega), if_neg (by omega), if_pos (by omega)]
          · rcases (show a = 0 ∨ a = 1 by omega) with rfl | rfl
            · exact Or.inl rfl
            · exact Or.inr rfl
          · rw [hG, if_neg (by omega), if_neg (by omega), if_neg (by omega), if_pos (by omega)]
          · rw [hG, if_neg (by omega), if_neg (by omega), if_pos (by omega)]
          · rcases six hf with rfl | rfl | rfl | rfl | rfl | rfl <;> rfl
          · show _ = nI (if f' = f then 4 else 0)
            rw [z6, if_pos (by omega)]
            by_cases hff : f' = f
            · rw [if_pos (by omega), if_pos hff]; rfl
            · rw [if_neg (by omega), if_neg hff]; rfl
          · show _ = nI (if f' = f then 4 else 0)
            rw [hG, if_neg (by omega)]
            by_cases hff : f' = f
            · rw [if_pos (by omega), if_pos hff]; rfl
            · rw [if_neg (by omega), if_neg (by omega), if_neg (by omega), if_neg (by omega), if_pos (by omega), if_neg hff]; rfl
        · rw [pk_un hin, pk_un hin, pk_un hin]
          have hG' : ∀ j, j ≠ 3 → j < 20 + 10 * n → _ := fun j j1 j2 => (hG j).trans (by rw [if_neg j1, if_neg (by omega), if_neg (by omega), if_neg (by omega), if_neg (by omega), if_neg (by omega)])
          rw [hG' _ (by omega) (by omega), hG' _ (by omega) (by omega), hG' _ (by omega) (by omega)]
          obtain ⟨b1, c1, d1, q0, e1, e2⟩ := n4 i (by omega)
          exact ⟨b1, c1, d1, q0, e1, fun f' hf' => ⟨by rw [z6, if_neg (by omega)]; exact (e2 f' hf').1, by rw [hG' _ (by omega) (by omega)]; exact (e2 f' hf').2⟩⟩
    · intro c hc
      simp only [List.mem_cons, List.not_mem_nil, or_false] at hc
      rw [zup_ne c (by omega), k2 c (by omega), zup_ne c (by omega), zup_ne c (by omega), zup_ne c (by omega)]
    · rw [zup_ne 0 (by decide), k2 0 (by decide)]; rfl
    · rw [zup_ne 38 (by decide), k2 38 (by decide)]; rfl
    · refine ⟨?_, ?_, ?_, ?_⟩ <;> (show X 100 _ = g 100 _; rw [l2 100 (by decide)])
    · exact l2 102 (by decide)
    · exact l2 107 (by decide)
    · rw [zup_ne 22 (by decide), k2 22 (by decide)]; rfl
    · rfl
