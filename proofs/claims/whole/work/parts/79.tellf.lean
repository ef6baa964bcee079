/-! one telling at an evening -/
def drw (d : Int32) : Int32 := ((1664525 : Int32) * d) + (1013904223 : Int32)
def rnd (d : Int32) : Int32 := (Int32.toUInt32 d >>> (Int32.toUInt32 (8 : Int32) &&& Int32.toUInt32 31)).toInt32 - (Int32.toUInt32 d >>> (Int32.toUInt32 (8 : Int32) &&& Int32.toUInt32 31)).toInt32 / (1000 : Int32) * (1000 : Int32)
theorem q_drawC (h : zH) : f_X4_draw (1000 : Int32) h = some (rnd (drw (h 1 8)), zup h 1 8 (drw (h 1 8))) := by
  unfold f_X4_draw znz rnd drw
  rw [zst_e, if_neg (show ¬ (1000 : Int32) ≤ 0 by decide), if_neg (show ¬ (1000 : Int32) = 0 by decide), zup_eq, pk_us]
theorem q_drawM (g : zH) : f_X12_draw (1000 : Int32) g = some (rnd (drw (g 101 7)), zup g 101 7 (drw (g 101 7))) := by
  unfold f_X12_draw znz rnd drw
  rw [zst_e, if_neg (show ¬ (1000 : Int32) = 0 by decide), zup_eq, pk_us]
/-- a row of the book -/
theorem q_writeC {h : zH} {bl : Nat} (v : Int32) (hb : bl ≤ 100) (h4 : h 11 4 = nI bl) : ∃ h', f_X0_write_r38 v h = some (0, h') ∧ (∀ c, c ≠ 11 → c ≠ 15 → h' c = h c) ∧ (∀ k, k ≠ 4 → h' 11 k = h 11 k) ∧ h' 11 4 = nI (if bl < 100 then bl + 1 else bl) ∧ ∀ j, h' 15 j = if bl < 100 then (if j = 6 * bl then h 38 9 else if j = 6 * bl + 1 then h 38 10 else if j = 6 * bl + 2 then h 38 12 else if j = 6 * bl + 3 then h 38 13 else if j = 6 * bl + 4 then h 11 5 else if j = 6 * bl + 5 then v else h 15 j) else h 15 j := by
  unfold f_X0_write_r38
  rw [h4]
  by_cases c : bl < 100
  · rw [if_pos (show nI bl < 100 by rw [l_100, n_lt (by omega) (by omega)]; exact c), if_pos c]
    rw [show nI bl * 6 = nI (6 * bl) by rw [Nat.mul_comm]; exact n_mul bl 6]
    have z38 : ∀ (h : zH) k x, zup h 15 k x 38 = h 38 := fun h k x => zup_ne 38 (by decide)
    have z11 : ∀ (h : zH) k x, zup h 15 k x 11 = h 11 := fun h k x => zup_ne 11 (by decide)
    simp (disch := omega) only [zlt_e, zst_e, l_1, l_2, l_3, l_4, l_5, n_add, zck_n, n_cl, z38, z11, h4]
    refine ⟨_, rfl, fun c c1 c2 => ?_, fun k hk => ?_, ?_, fun j => ?_⟩
    · rw [zup_ne c c1]; simp only [zup_ne c c2]
    · rw [zup_eq, pk_un hk]; simp only [z11]
    · rw [zup_eq, pk_us]
    · rw [zup_ne 15 (by decide), if_pos c]
      simp only [zup_eq, upd]
      by_cases e5 : j = 6 * bl + 5
      · subst e5
        rw [if_pos rfl, if_neg (by omega), if_neg (by omega), if_neg (by omega), if_neg (by omega), if_neg (by omega), if_pos rfl]
      · rw [if_neg e5]
        by_cases e4 : j = 6 * bl + 4
        · subst e4
          rw [if_pos rfl, if_neg (by omega), if_neg (by omega), if_neg (by omega), if_neg (by omega), if_pos rfl]
        · rw [if_neg e4]
          by_cases e3 : j = 6 * bl + 3
          · subst e3
            rw [if_pos rfl, if_neg (by omega), if_neg (by omega), if_neg (by omega), if_pos rfl]
          · rw [if_neg e3]
            by_cases e2 : j = 6 * bl + 2
            · subst e2
              rw [if_pos rfl, if_neg (by omega), if_neg (by omega), if_pos rfl]
            · rw [if_neg e2]
              by_cases e1 : j = 6 * bl + 1
              · subst e1
                rw [if_pos rfl, if_neg (by omega), if_pos rfl]
              · rw [if_neg e1]
                by_cases e0 : j = 6 * bl
                · subst e0; rw [if_pos rfl, if_pos rfl]
                · rw [if_neg e0, if_neg e0, if_neg e1, if_neg e2, if_neg e3, if_neg e4, if_neg e5]
  · rw [if_neg (show ¬ nI bl < 100 by rw [l_100, n_lt (by omega) (by omega)]; exact c), if_neg c]
    exact ⟨h, rfl, fun c _ _ => rfl, fun k _ => rfl, h4, fun j => by rw [if_neg c]⟩
theorem q_writeM {g : zH} {bl : Nat} (x v : Int32) (hb : bl ≤ 100) (h6 : g 101 6 = nI bl) : ∃ g', f_X12_writes x v g = some (0, g') ∧ (∀ c, c ≠ 101 → g' c = g c) ∧ (∀ j, j ≠ 6 → (j < 730 ∨ 1330 ≤ j) → g' 101 j = g 101 j) ∧ g' 101 6 = nI (if bl < 100 then bl + 1 else bl) ∧ ∀ j, j < 600 → g' 101 (730 + j) = if bl < 100 then (if j = 6 * bl then g 100 23 else if j = 6 * bl + 1 then g 100 24 else if j = 6 * bl + 2 then g 100 25 else if j = 6 * bl + 3 then x else if j = 6 * bl + 4 then g 101 5 else if j = 6 * bl + 5 then v else g 101 (730 + j)) else g 101 (730 + j) := by
  unfold f_X12_writes
  rw [h6]
  by_cases c : bl < 100
  · rw [if_neg (show ¬ nI bl = 100 by rw [l_100, n_eq (by omega) (by omega)]; omega), if_pos c]
    rw [show (730 : Int32) + 6 * nI bl = nI (730 + 6 * bl) by rw [show (6 : Int32) * nI bl = nI (6 * bl) from n_mul 6 bl]; exact n_add 730 _]
    have z100 : ∀ (h : zH) k x, zup h 101 k x 100 = h 100 := fun h k x => zup_ne 100 (by decide)
    simp (disch := omega) only [zlt_e, zst_e, l_1, l_2, l_3, l_4, l_5, n_add, zck_n, n_cl, z100]
    have zk : ∀ (h : zH) k x j, j ≠ k → zup h 101 k x 101 j = h 101 j := fun h k x j hj => by rw [zup_eq, pk_un hj]
    simp (disch := omega) only [zk, h6, n_add]
    refine ⟨_, rfl, fun c c1 => ?_, fun j hj hj2 => ?_, ?_, fun j hj => ?_⟩
    · simp only [zup_ne c c1]
    · simp (disch := omega) only [zk]
    · rw [zup_eq, pk_us]
    · rw [zk _ _ _ _ (by omega), if_pos c]
      simp only [zup_eq, upd]
      by_cases e5 : j = 6 * bl + 5
      · rw [if_pos (by omega), if_neg (by omega), if_neg (by omega), if_neg (by omega), if_neg (by omega), if_neg (by omega), if_pos e5]
      · rw [if_neg (by omega)]
        by_cases e4 : j = 6 * bl + 4
        · rw [if_pos (by omega), if_neg (by omega), if_neg (by omega), if_neg (by omega), if_neg (by omega), if_pos e4]
        · rw [if_neg (by omega)]
          by_cases e3 : j = 6 * bl + 3
          · rw [if_pos (by omega), if_neg (by omega), if_neg (by omega), if_neg (by omega), if_pos e3]
          · rw [if_neg (by omega)]
            by_cases e2 : j = 6 * bl + 2
            · rw [if_pos (by omega), if_neg (by omega), if_neg (by omega), if_pos e2]
            · rw [if_neg (by omega)]
              by_cases e1 : j = 6 * bl + 1
              · rw [if_pos (by omega), if_neg (by omega), if_pos e1]
              · rw [if_neg (by omega)]
                by_cases e0 : j = 6 * bl
                · rw [if_pos (by omega), if_pos e0]
                · rw [if_neg (by omega), if_neg e0, if_neg e1, if_neg e2, if_neg e3, if_neg e4, if_neg e5]
  · rw [if_pos (show nI bl = 100 by rw [show bl = 100 by omega]; rfl), if_neg c]
    exact ⟨g, rfl, fun c _ => rfl, fun j _ _ => rfl, h6, fun j _ => by rw [if_neg c]⟩
/-- fame by quarters -/
theorem q_fames {f e : Nat} (k4 : Int32 → Int32 → zH → zR) (v x1 x2 : Int32) (hf : f < 16) (he : e < 16) : ∀ n k i h g, h 38 9 = nI f → h 38 10 = nI e → g 100 23 = nI f → g 100 24 = nI e → (∀ q, q < 6 → h 6 (f * 6 + q) = g 101 (23 + 10 * f + q) ∧ h 6 (e * 6 + q) = g 101 (23 + 10 * e + q)) → (∀ q, q < 6 → h 14 q = g 101 (200 + q)) → i ≤ 6 → 6 < n + i → 6 < k + i → ∃ h' g', f_X11_tellFound_136 n v (nI i) h = some (v, h') ∧ f_X12_anEvening_118 k4 k x1 x2 v (nI i) g = k4 (x1 + v) (x2 + 1) g' ∧ (∀ c, c ≠ 14 → h' c = h c) ∧ (∀ c, c ≠ 101 → g' c = g c) ∧ (∀ j, (j < 200 ∨ 206 ≤ j) → g' 101 j = g 101 j) ∧ ∀ q, q < 6 → h' 14 q = g' 101 (200 + q) := by
  intro n
  induction n with
  | zero => intro k i h g _ _ _ _ _ _ h1 h2; omega
  | succ n ih =>
    intro k i h g a1 a2 a3 a4 a5 a6 h1 h2 h3
    obtain ⟨k, rfl⟩ : ∃ j, k = j + 1 := ⟨k - 1, by omega⟩
    simp only [f_X11_tellFound_136, f_X12_anEvening_118, f_X12_anEvening_174, zlt_e]
    by_cases hi : i = 6
    · subst hi
      rw [if_pos (by decide), if_pos (by decide)]
      exact ⟨h, g, rfl, rfl, fun c _ => rfl, fun c _ => rfl, fun j _ => rfl, a6⟩
    have hle : ¬ (6 : Int32) ≤ nI i := by rw [l_6, n_le (by omega) (by omega)]; omega
    rw [if_neg hle, if_neg hle, a1, q_qof f i h hf (by omega), zbd_e, a2, q_qof e i h he (by omega), zbd_e, a3, q_qm f i g hf (by omega), zbd_e, a4, q_qm e i g he (by omega), zbd_e, show (200 : Int32) + nI i = nI (200 + i) from n_add 200 i, n_cl (by omega), n_cl (by omega), zck_n (by omega) (by decide), zck_n (by omega) (by decide), zck_n (by omega) (by decide), zck_n (by omega) (by decide), zst_e, zst_e, nI_1, (a5 i (by omega)).1, (a5 i (by omega)).2, a6 i (by omega)]
    generalize hx : g 101 (200 + i) + v * (g 101 (23 + 10 * f + i) + g 101 (23 + 10 * e + i)) = x
    obtain ⟨h', g', e1, e2, e3, e4, e5, e6⟩ := ih k (i + 1) (zup h 14 i x) (zup g 101 (200 + i) x) (by rw [zup_ne 38 (by decide)]; exact a1) (by rw [zup_ne 38 (by decide)]; exact a2) (by rw [zup_ne 100 (by decide)]; exact a3) (by rw [zup_ne 100 (by decide)]; exact a4) (fun q hq => by rw [zup_ne 6 (by decide), zup_eq, pk_un (by omega), pk_un (by omega)]; exact a5 q hq) (fun q hq => by
      rw [zup_eq, zup_eq]
      by_cases c : q = i
      · subst c; rw [pk_us, pk_us]
      · rw [pk_un c, pk_un (by omega)]; exact a6 q hq) (by omega) (by omega) (by omega)
    exact ⟨h', g', e1, e2, fun c hc => by rw [e3 c hc, zup_ne c hc], fun c hc => by rw [e4 c hc, zup_ne c hc], fun j hj => by rw [e5 j hj, zup_eq, pk_un (by omega)], e6⟩
/-- the class's note, telling and memo -/
theorem q_noteC {h : zH} {m t p : Nat} (hm : m < 6) (ht : t < 8) (hp : p < 256) (h6 : h 22 6 = nI m) (h23 : h 23 m = nI t) (x : Int32) : f_X6_note (nI p) x h = some (0, zup (zup (zup h 24 (m * 8 + t) (nI p)) 25 (m * 8 + t) x) 23 m (nI (t + 1))) := by
  unfold f_X6_note
  rw [h6, n_cl (by omega), h23, if_pos (show nI t < 8 by rw [l_8, n_lt (by omega) (by omega)]; exact ht), zck_n (by omega) (by decide), zck_n (by omega) (by decide), zlt_e, show nI m * 8 + nI t = nI (m * 8 + t) by rw [show nI m * 8 = nI (m * 8) from n_mul m 8]; exact n_add _ _, n_cl (by omega), zck_n (by omega) (by decide), zst_e, zck_n (by omega) (by decide), zst_e]
  have z22 : zup (zup h 24 (m * 8 + t) (nI p)) 25 (m * 8 + t) x 22 = h 22 := by rw [zup_ne 22 (by decide), zup_ne 22 (by decide)]
  have z23 : zup (zup h 24 (m * 8 + t) (nI p)) 25 (m * 8 + t) x 23 = h 23 := by rw [zup_ne 23 (by decide), zup_ne 23 (by decide)]
  rw [z22, z23, h6, n_cl (by omega), h23, zck_n (by omega) (by decide), zck_n (by omega) (by decide), zst_e, nI_1]
