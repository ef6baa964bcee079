/-! halves that are like another one -/
theorem ab_n : ∀ a, a < 100 → ∀ b, b < 100 → (if 0 ≤ nI a - nI b then nI a - nI b else 0 - (nI a - nI b)) = nI (if b ≤ a then a - b else b - a) := by decide +kernel
theorem ng_n : ∀ m, m < 100 → -nI m = nI 0 - nI m := by decide +kernel
theorem ab_in {a b m : Nat} (ha : a < 100) (hb : b < 100) (hm : m < 100) : ((-nI m) ≤ nI a - nI b ∧ nI a - nI b ≤ nI m) = ((if b ≤ a then a - b else b - a) ≤ m) := by
  rw [ng_n m hm]
  simp only [Int32.le_iff_toInt_le]
  rw [pk_sub_toInt (by omega) (by omega), pk_sub_toInt (by omega) (by omega), nI_toInt (by omega)]
  apply propext
  split <;> omega
theorem q_else {i j : Nat} (hi : i < 16) (hj : j < 16) {h g : zH} (H : ∀ f, f < 6 → h 6 (i * 6 + f) = g 101 (23 + 10 * i + f) ∧ h 6 (j * 6 + f) = g 101 (23 + 10 * j + f)) : ∀ n m k, k ≤ 6 → 6 < n + k → 6 < m + k → ∃ b : Bool, f_X3_isLike_45 n (nI i) (nI j) (nI k) h = some (if b = true then 1 else 0, h) ∧ f_X12_isElsewhere_2 m (nI j) (nI i) (nI k) g = some (if b = true then 1 else 0, g) := by
  intro n
  induction n with
  | zero => intro m k h1 h2; omega
  | succ n ih =>
    intro m k h1 h2 h3
    obtain ⟨m, rfl⟩ : ∃ q, m = q + 1 := ⟨m - 1, by omega⟩
    simp only [f_X3_isLike_45, f_X12_isElsewhere_2, f_X3_isLike_74, f_X12_isElsewhere_28, zlt_e, nI_1]
    by_cases hk : k = 6
    · subst hk
      have s6 : (6 : Int32) ≤ nI 6 := by decide
      rw [if_pos s6, if_pos s6]
      exact ⟨false, rfl, rfl⟩
    have hle : ¬ (6 : Int32) ≤ nI k := by rw [l_6, n_le (by omega) (by omega)]; omega
    rw [if_neg hle, if_neg hle, q_qof j k h hj (by omega), zbd_e, q_qm j k g hj (by omega), zbd_e, (H k (by omega)).2, q_qof i k h hi (by omega), zbd_e, q_qm i k g hi (by omega), zbd_e, (H k (by omega)).1]
    by_cases c : g 101 (23 + 10 * j + k) ≤ 0
    · rw [if_pos c, if_pos c]
      exact ih m (k + 1) (by omega) (by omega) (by omega)
    · rw [if_neg c, if_neg c]
      by_cases d : g 101 (23 + 10 * i + k) = 0
      · rw [if_pos d, if_pos d]
        exact ⟨true, rfl, rfl⟩
      · rw [if_neg d, if_neg d]
        exact ih m (k + 1) (by omega) (by omega) (by omega)
theorem st_like : zst_like zRel := by
  intro h g a x R
  obtain ⟨n, n1, n2, n3, n4⟩ := R.1.2.1
  have no : f_X11_like a x h = some (-1, h) → f_X12_like a x g = some (-1, g) → ∃ r k1 k2, f_X11_like a x h = some (r, k1) ∧ f_X12_like a x g = some (r, k2) ∧ zRel k1 k2 := fun p q => ⟨-1, h, g, p, q, R⟩
  unfold f_X11_like f_X12_like f_X11_like_23 f_X12_like_18 at no ⊢
  simp only [q_has, q_half, zbd_e, q_below, q_in, n2, n3, i_10] at no ⊢
  rcases n_ixc a n (by omega) with ⟨i, hi, rfl⟩ | ⟨e1, e2⟩
  · have p1 := eq_true (v_lt hi (by omega))
    have p2 := eq_true (v_le hi (by omega))
    rcases n_ix x 100 (by decide) with ⟨m, hm, rfl⟩ | ⟨e1, e2⟩
    · have p3 : (0 ≤ nI m ∧ nI m < 100) = True := eq_true (v_lt hm (by decide))
      have p4 : (0 ≤ nI m ∧ nI m ≤ 99) = True := eq_true ⟨nI_pos' (by omega), by rw [l_99, n_le (by omega) (by omega)]; omega⟩
      simp only [p1, p2, p3, p4, not_true_eq_false, if_false] at no ⊢
      have loop : ∀ u v k S, k ≤ n → n < u + k → n < v + k → ∃ r, f_X11_like_30 u (nI i) (nI m) S (nI k) h = some (r, h) ∧ f_X12_like_25 v (nI i) (nI m) S (nI k) g = some (r, g) := by
        intro u
        induction u with
        | zero => intro v k S h1 h2; omega
        | succ u ih =>
          intro v k S h1 h2 h3
          obtain ⟨v, rfl⟩ : ∃ q, v = q + 1 := ⟨v - 1, by omega⟩
          simp only [f_X11_like_30, f_X12_like_25, n2, n3]
          by_cases hk : k = n
          · subst hk
            rw [if_pos (Int32.le_refl _), if_pos (Int32.le_refl _)]
            exact ⟨S, rfl, rfl⟩
          have hle : ¬ nI n ≤ nI k := by rw [n_le (by omega) (by omega)]; omega
          rw [if_neg hle, if_neg hle]
          obtain ⟨⟨s1, -⟩, -, ⟨wk, k1, k2, k3⟩, qk, q1, q2⟩ := n4 k (by omega)
          obtain ⟨⟨s2, -⟩, -, ⟨wi, i1, i2, i3⟩, qi, q3, q4⟩ := n4 i hi
          simp only [f_X11_like_69, f_X12_like_103, f_X12_like_104, zlt_e, nI_1, q_oh2 k g (show k < 16 by omega), q_oh2 i g (show i < 16 by omega), q_oh0 k g (show k < 16 by omega), q_oh0 i g (show i < 16 by omega), zbd_e, k3, i3, q_in, Int32.or_zero]
          unfold f_X3_isLike f_X3_isLike_40
          simp only [n_cl (show k < 2 ^ 31 by omega), n_cl (show i < 2 ^ 31 by omega), zck_n (show k < 16 by omega) (show 16 < 2 ^ 31 by decide), zck_n (show i < 16 by omega) (show 16 < 2 ^ 31 by decide), k2, i2, ab_n wk k1 wi i1, ab_in k1 i1 hm, s1, s2, i_10]
          have skip := ih v (k + 1) S (by omega) (by omega) (by omega)
          by_cases c1 : k = i
          · have c1' : nI k = nI i := by rw [c1]
            rw [if_pos c1', if_pos c1', zbd_e, if_pos rfl]
            exact skip
          have c1' : ¬ nI k = nI i := by rw [n_eq (by omega) (by omega)]; exact c1
          rw [if_neg c1', if_neg c1']
          by_cases c2 : g 101 (20 + 10 * k) = g 101 (20 + 10 * i)
          · rw [if_pos c2, if_pos c2]
            by_cases c3 : (if wi ≤ wk then wk - wi else wi - wk) ≤ m
            · rw [if_pos (nI_le c3 (by omega)), if_neg (fun z => z c3)]
              obtain ⟨b, b1, b2⟩ := q_else (i := i) (j := k) (by omega) (by omega) (h := h) (g := g) (fun f hf => by rw [(q4 f hf).1, (q4 f hf).2, (q2 f hf).1, (q2 f hf).2]; exact ⟨rfl, rfl⟩) zN zN 0 (by omega) (by unfold zN; omega) (by unfold zN; omega)
              have b1 : f_X3_isLike_45 zN (nI i) (nI k) 0 h = some (if b = true then 1 else 0, h) := b1
              have b2 : f_X12_isElsewhere (nI k) (nI i) g = some (if b = true then 1 else 0, g) := b2
              rw [b1, zbd_e, b2, zbd_e]
              cases b with
              | true =>
                rw [if_pos rfl, if_neg (show ¬ (1 : Int32) = 0 by decide), if_neg (show ¬ (1 : Int32) = 0 by decide)]
                exact ih v (k + 1) _ (by omega) (by omega) (by omega)
              | false =>
                rw [if_neg (show ¬ false = true by decide), if_pos rfl, if_pos rfl]
                exact skip
            · rw [if_neg (show ¬ nI (if wi ≤ wk then wk - wi else wi - wk) ≤ nI m by rw [n_le (by split <;> omega) (by omega)]; exact c3), if_pos c3, zbd_e, if_pos rfl]
              exact skip
          · rw [if_neg c2, if_neg c2, zbd_e, if_pos rfl]
            exact skip
      obtain ⟨r, r1, r2⟩ := loop zN zN 0 0 (by omega) (by unfold zN; omega) (by unfold zN; omega)
      exact ⟨r, h, g, r1, r2, R⟩
    · have e1 : (0 ≤ x ∧ x < 100) = False := e1
      have e2 : (0 ≤ x ∧ x ≤ 99) = False := e2
      exact no (by simp only [p1, e1, not_true_eq_false, not_false_eq_true, if_false, if_true]) (by simp only [p2, e2, not_true_eq_false, not_false_eq_true, if_false, if_true])
  · exact no (by simp only [e1, not_false_eq_true, if_true]) (by simp only [e2, not_false_eq_true, if_true])
