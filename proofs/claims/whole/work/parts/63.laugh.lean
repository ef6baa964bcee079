theorem zbd_e (r : Int32) (h : zH) (k : Int32 → zH → zR) : zbd (some (r, h)) k = k r h := Eq.trans rfl rfl
/-- only seven facts matter -/
theorem evC_F {St Nu F F' : Nat → Int32} (hF : ∀ k, k < 7 → F k = F' k) : ∀ r i top z, evC St Nu F r i top z = evC St Nu F' r i top z := by
  intro r
  induction r with
  | zero => intro i top z; rfl
  | succ r ih =>
    intro i top z
    rw [evC, evC]
    simp only [ih]
    by_cases c8 : 8 ≤ St i ∧ St i ≤ 14
    · rcases n_rng (St i) 8 14 (by decide) with ⟨v, v1, v2, v3⟩ | ⟨-, e2⟩
      · rw [hF ((St i).toNatClampNeg - 8) (by rw [v3, n_cl (by omega)]; omega)]
      · exact (Eq.mp e2 c8).elim
    · simp only [if_neg c8]
theorem evM_F {w F F' : Nat → Int32} (hF : ∀ k, k < 7 → F k = F' k) : ∀ r i top z, evM w F r i top z = evM w F' r i top z := by
  intro r
  induction r with
  | zero => intro i top z; rfl
  | succ r ih =>
    intro i top z
    rw [evM, evM]
    simp only [ih]
    by_cases c8 : 0 < w (1400 + 2 * i) ∧ w (1400 + 2 * i) < 8
    · have c8' : nI 1 ≤ w (1400 + 2 * i) ∧ w (1400 + 2 * i) ≤ nI 7 := by
        have h1 := Int32.lt_iff_toInt_lt.mp c8.1
        have h2 := Int32.lt_iff_toInt_lt.mp c8.2
        rw [Int32.le_iff_toInt_le, Int32.le_iff_toInt_le, nI_toInt (by decide), nI_toInt (by decide)]
        have z0 : (0 : Int32).toInt = 0 := by decide
        have z8 : (8 : Int32).toInt = 8 := by decide
        omega
      rcases n_rng (w (1400 + 2 * i)) 1 7 (by decide) with ⟨v, v1, v2, v3⟩ | ⟨-, e2⟩
      · rw [hF ((w (1400 + 2 * i)).toNatClampNeg - 1) (by rw [v3, n_cl (by omega)]; omega)]
      · exact (Eq.mp e2 c8').elim
    · simp only [if_neg c8]
def FA (wf we jf je t s n : Int32) : Nat → Int32
  | 0 => wf
  | 1 => we
  | 2 => if jf = je then 1 else 0
  | 3 => t
  | 4 => s
  | 5 => n
  | _ => jf
theorem seven {k : Nat} (h : k < 7) : k = 0 ∨ k = 1 ∨ k = 2 ∨ k = 3 ∨ k = 4 ∨ k = 5 ∨ k = 6 := by omega
/-- the law, taken apart -/
def pLw (sz : Nat) (ls : List zLn) (L St Nu w : Nat → Int32) : Prop := sz ≤ 400 ∧ ls.length ≤ 16 ∧ L 3 = nI sz ∧ L 4 = nI ls.length ∧ w 1335 = nI ls.length ∧ (∀ F z, evC St Nu F sz 0 2 z = evL ls F) ∧ ∀ (i : Nat) (x : zLn), ls[i]? = some x → mLine w i x
theorem rLw.p {L St Nu w : Nat → Int32} (H : rLw L St Nu w) : ∃ sz ls, pLw sz ls L St Nu w := H
theorem q_lines {sz : Nat} {ls : List zLn} {L St Nu : Nat → Int32} {w : Nat → Int32} (P : pLw sz ls L St Nu w) (F : Nat → Int32) : ∀ n i g, g 101 = w → (∀ k, k < 7 → g 109 (k + 1) = F k) → i ≤ ls.length → ls.length < n + i → ∃ g', f_X12_laughOf_141 n (nI i) g = some (evL (ls.drop i) F, g') ∧ ∀ c, c ≠ 108 → g' c = g c := by
  obtain ⟨p1, p2, p3, p4, p5, p6, p7⟩ := P
  intro n
  induction n with
  | zero => intro i g h1 h2 h3 h4; omega
  | succ n ih =>
    intro i g h1 h2 h3 h4
    simp only [f_X12_laughOf_141, h1, p5]
    by_cases hi : i = ls.length
    · rw [hi, if_pos (Int32.le_refl _), List.drop_length]
      exact ⟨g, rfl, fun c _ => rfl⟩
    rw [if_neg (by rw [n_le (by omega) (by omega)]; omega)]
    have hlt : i < ls.length := by omega
    obtain ⟨a, b, c, q1, q2, q3, q4, q5, q6, q7, q8⟩ := p7 i ls[i] (by rw [List.getElem?_eq_getElem hlt])
    rw [List.drop_eq_getElem_cons hlt]
    simp (disch := omega) only [show (1380 : Int32) = nI 1380 from rfl, show (1360 : Int32) = nI 1360 from rfl, n_add, zck_n, n_cl, q5, q6]
    have val : ∀ g1 : zH, g1 101 = w → (∀ k, k < 7 → g1 109 (k + 1) = F k) → ∃ g', f_X12_laughOf_209 (nI i) g1 = some (cla (ls[i].1 F), g') ∧ ∀ c, c ≠ 108 → g' c = g1 c := by
      intro g1 k1 k2
      unfold f_X12_laughOf_209 f_X12_comesTo
      simp (disch := omega) only [show (1340 : Int32) = nI 1340 from rfl, show (1360 : Int32) = nI 1360 from rfl, n_add, zck_n, n_cl, k1, q4, q5]
      obtain ⟨g', e1, e2⟩ := q_comes b (by omega) F zN a 0 g1 (ls[i].1 F) k2 q1 (by unfold zN; omega) (by omega) (by rw [k1]; exact q7 F (g1 108))
      have e1 : f_X12_comesTo_5 zN (nI b) 0 (nI a) g1 = some (ls[i].1 F, g') := e1
      rw [e1, zbd_e, cla_m]
      exact ⟨g', rfl, e2⟩
    cases hx : ls[i].2 with
    | none =>
      rw [hx] at q8
      have q8 : b = c := q8
      rw [if_pos (by rw [q8])]
      obtain ⟨g', e1, e2⟩ := val g h1 h2
      refine ⟨g', ?_, e2⟩
      rw [e1]
      have : ls[i] = (ls[i].1, none) := Prod.ext rfl hx
      rw [this]
      rfl
    | some v =>
      rw [hx] at q8
      obtain ⟨q8, q9⟩ := q8
      rw [if_neg (by rw [n_eq (by omega) (by omega)]; omega)]
      obtain ⟨g1, e1, e2⟩ := q_comes c (by omega) F zN b 0 g (v F) h2 (by omega) (by unfold zN; omega) (by omega) (by rw [h1]; exact q9 F (g 108))
      have e1 : f_X12_comesTo (nI b) (nI c) g = some (v F, g1) := e1
      rw [e1, zbd_e]
      have hl : ls[i] = (ls[i].1, some v) := Prod.ext rfl hx
      have h1' : g1 101 = w := by rw [e2 101 (by decide)]; exact h1
      have h2' : ∀ k, k < 7 → g1 109 (k + 1) = F k := fun k hk => by rw [e2 109 (by decide)]; exact h2 k hk
      by_cases hv : v F = 1
      · rw [if_pos hv]
        obtain ⟨g', e3, e4⟩ := val g1 h1' h2'
        refine ⟨g', ?_, fun c hc => by rw [e4 c hc, e2 c hc]⟩
        rw [e3, hl]
        show _ = some (if v F = 1 then _ else _, _)
        rw [if_pos hv]
      · rw [if_neg hv, zlt_e, nI_1]
        obtain ⟨g', e3, e4⟩ := ih (i + 1) g1 h1' h2' (by omega) (by omega)
        refine ⟨g', ?_, fun c hc => by rw [e4 c hc, e2 c hc]⟩
        rw [e3, hl]
        show _ = some (if v F = 1 then _ else _, _)
        rw [if_neg hv]
/-- the class's laugh -/
theorem q_lc {sz : Nat} {ls : List zLn} {w : Nat → Int32} {h : zH} (P : pLw sz ls (h 16) (h 17) (h 18) w) (i j : Nat) (hi : i < 16) (hj : j < 16) (m : Int32) : ∃ h', f_X4_laughOf (nI i) (nI j) m h = some (evL ls (FA (h 5 i) (h 5 j) (h 4 i) (h 4 j) (h 12 (i * 16 + j) + m) (if h 12 (i * 16 + j) + m = 0 then 9999 else if m ≤ 0 then h 11 5 - h 13 (i * 16 + j) else 0) (h 11 5)), h') ∧ ∀ c, c ≠ 19 → c ≠ 21 → h' c = h c := by
  obtain ⟨p1, p2, p3, p4, p5, p6, p7⟩ := P
  -- the facts laid, the value follows
  have fin : ∀ h1 : zH, (∀ c, c ≠ 21 → h1 c = h c) → ∀ F, (∀ k, k < 7 → h1 21 k = F k) → ∃ h', f_X5_valueOf_r21 h1 = some (evL ls F, h') ∧ ∀ c, c ≠ 19 → c ≠ 21 → h' c = h c := by
    intro h1 k1 F k2
    obtain ⟨h', e1, e2⟩ := q_value sz p1 zN 0 2 h1 (by rw [k1 16 (by decide)]; exact p3) (by omega) (by unfold zN; omega) (by omega)
    refine ⟨h', ?_, fun c c1 c2 => by rw [e2 c c1, k1 c c2]⟩
    rw [k1 17 (by decide), k1 18 (by decide), evC_F k2, Nat.sub_zero, p6] at e1
    exact e1
  unfold f_X4_laughOf f_X11_pairOf f_X4_laughOf_47 f_X4_laughOf_110 f_X4_laughOf_137
  simp (disch := omega) only [zbd_e, l_16, n_mul, n_add, zck_n, n_cl, zlt_e, zst_e, l_2, l_4]
  have body : ∀ t s a : Int32, (a = if h 4 i = h 4 j then 1 else 0) → ∀ h1 : zH, h1 = zup (zup (zup (zup (zup (zup (zup h 21 0 (h 5 i)) 21 1 (h 5 j)) 21 2 a) 21 3 t) 21 4 s) 21 5 (h 11 5)) 21 6 (h 4 i) → ∃ h', (zbd (f_X5_valueOf_r21 h1) fun r11 h12 => some (r11, h12)) = some (evL ls (FA (h 5 i) (h 5 j) (h 4 i) (h 4 j) t s (h 11 5)), h') ∧ ∀ c, c ≠ 19 → c ≠ 21 → h' c = h c := by
    intro t s a ha h1 hh
    obtain ⟨h', e1, e2⟩ := fin h1 (fun c hc => by rw [hh]; simp only [zup_ne c hc]) (FA (h 5 i) (h 5 j) (h 4 i) (h 4 j) t s (h 11 5)) (fun k hk => by
      rw [hh]
      simp only [zup_eq, upd]
      rcases seven hk with rfl | rfl | rfl | rfl | rfl | rfl | rfl <;> first | rfl | exact ha)
    exact ⟨h', by rw [e1, zbd_e], e2⟩
  have z5 : ∀ (h : zH) k x, zup h 21 k x 5 = h 5 := fun h k x => zup_ne 5 (by decide)
  have z4 : ∀ (h : zH) k x, zup h 21 k x 4 = h 4 := fun h k x => zup_ne 4 (by decide)
  have z11 : ∀ (h : zH) k x, zup h 21 k x 11 = h 11 := fun h k x => zup_ne 11 (by decide)
  simp only [z5, z4, z11]
  generalize h 12 (i * 16 + j) + m = t
  generalize h 11 5 - h 13 (i * 16 + j) = u at *
  have key : ∀ s : Int32, ∃ h', (if h 4 i = h 4 j then (if t = 0 then zbd (f_X5_valueOf_r21 (zup (zup (zup (zup (zup (zup (zup h 21 0 (h 5 i)) 21 1 (h 5 j)) 21 2 1) 21 3 t) 21 4 9999) 21 5 (h 11 5)) 21 6 (h 4 i))) (fun r11 h12 => some (r11, h12)) else zbd (f_X5_valueOf_r21 (zup (zup (zup (zup (zup (zup (zup h 21 0 (h 5 i)) 21 1 (h 5 j)) 21 2 1) 21 3 t) 21 4 s) 21 5 (h 11 5)) 21 6 (h 4 i))) (fun r11 h12 => some (r11, h12))) else (if t = 0 then zbd (f_X5_valueOf_r21 (zup (zup (zup (zup (zup (zup (zup h 21 0 (h 5 i)) 21 1 (h 5 j)) 21 2 0) 21 3 t) 21 4 9999) 21 5 (h 11 5)) 21 6 (h 4 i))) (fun r11 h12 => some (r11, h12)) else zbd (f_X5_valueOf_r21 (zup (zup (zup (zup (zup (zup (zup h 21 0 (h 5 i)) 21 1 (h 5 j)) 21 2 0) 21 3 t) 21 4 s) 21 5 (h 11 5)) 21 6 (h 4 i))) (fun r11 h12 => some (r11, h12)))) = some (evL ls (FA (h 5 i) (h 5 j) (h 4 i) (h 4 j) t (if t = 0 then 9999 else s) (h 11 5)), h') ∧ ∀ c, c ≠ 19 → c ≠ 21 → h' c = h c := by
    intro s
    by_cases c1 : h 4 i = h 4 j
    · rw [if_pos c1]
      by_cases c2 : t = 0
      · rw [if_pos c2, if_pos c2]
        exact body t 9999 1 (by rw [if_pos c1]) _ rfl
      · rw [if_neg c2, if_neg c2]
        exact body t s 1 (by rw [if_pos c1]) _ rfl
    · rw [if_neg c1]
      by_cases c2 : t = 0
      · rw [if_pos c2, if_pos c2]
        exact body t 9999 0 (by rw [if_neg c1]) _ rfl
      · rw [if_neg c2, if_neg c2]
        exact body t s 0 (by rw [if_neg c1]) _ rfl
  by_cases c0 : m ≤ 0
  · rw [if_pos c0, if_pos c0]
    exact key u
  · rw [if_neg c0, if_neg c0]
    exact key 0
/-- the reference's laugh -/
theorem q_lm {sz : Nat} {ls : List zLn} {L St Nu : Nat → Int32} {g : zH} (P : pLw sz ls L St Nu (g 101)) (i j : Nat) (hi : i < 16) (hj : j < 16) : ∃ g', f_X12_laughOf (nI i) (nI j) g = some (evL ls (FA (g 101 (22 + 10 * i)) (g 101 (22 + 10 * j)) (g 101 (21 + 10 * i)) (g 101 (21 + 10 * j)) (g 101 (210 + (i * 16 + j))) (if g 101 (466 + (i * 16 + j)) = -1 then 9999 else g 101 5 - g 101 (466 + (i * 16 + j))) (g 101 5)), g') ∧ ∀ c, c ≠ 108 → c ≠ 109 → g' c = g c := by
  have fin : ∀ g1 : zH, (∀ c, c ≠ 109 → g1 c = g c) → ∀ F, (∀ k, k < 7 → g1 109 (k + 1) = F k) → ∃ g', f_X12_laughOf_141 zN 0 g1 = some (evL ls F, g') ∧ ∀ c, c ≠ 108 → c ≠ 109 → g' c = g c := by
    intro g1 k1 F k2
    obtain ⟨g', e1, e2⟩ := q_lines P F zN 0 g1 (k1 101 (by decide)) k2 (by omega) (by have := P.2.1; unfold zN; omega)
    exact ⟨g', e1, fun c c1 c2 => by rw [e2 c c1, k1 c c2]⟩
  have body : ∀ t s a : Int32, (a = if g 101 (21 + 10 * i) = g 101 (21 + 10 * j) then 1 else 0) → ∀ g1 : zH, g1 = zup (zup (zup (zup (zup (zup (zup g 109 1 (g 101 (22 + 10 * i))) 109 2 (g 101 (22 + 10 * j))) 109 3 a) 109 4 t) 109 5 s) 109 6 (g 101 5)) 109 7 (g 101 (21 + 10 * i)) → ∃ g', f_X12_laughOf_141 zN 0 g1 = some (evL ls (FA (g 101 (22 + 10 * i)) (g 101 (22 + 10 * j)) (g 101 (21 + 10 * i)) (g 101 (21 + 10 * j)) t s (g 101 5)), g') ∧ ∀ c, c ≠ 108 → c ≠ 109 → g' c = g c := by
    intro t s a ha g1 hh
    exact fin g1 (fun c hc => by rw [hh]; simp only [zup_ne c hc]) _ (fun k hk => by
      rw [hh]
      simp only [zup_eq, upd]
      rcases seven hk with rfl | rfl | rfl | rfl | rfl | rfl | rfl <;> first | rfl | exact ha)
  have z1 : ∀ (g : zH) k x, zup g 109 k x 101 = g 101 := fun h k x => zup_ne 101 (by decide)
  unfold f_X12_laughOf f_X12_laughOf_65 f_X12_laughOf_111
  simp only [q_oh1 i _ hi, q_oh2 i _ hi, q_oh1 j _ hj, q_oh2 j _ hj, zbd_e, zst_e, zlt_e, z1]
  simp (disch := omega) only [l_466, l_210, l_16, l_3, l_5, n_mul, n_add, zck_n, n_cl]
  rw [show 466 + 16 * i + j = 466 + (i * 16 + j) by omega, show 210 + 16 * i + j = 210 + (i * 16 + j) by omega]
  by_cases c1 : g 101 (21 + 10 * i) = g 101 (21 + 10 * j)
  · rw [if_pos c1]
    by_cases c2 : g 101 (466 + (i * 16 + j)) = -1
    · rw [if_pos c2, if_pos c2]
      exact body _ 9999 1 (by rw [if_pos c1]) _ rfl
    · rw [if_neg c2, if_neg c2]
      exact body _ _ 1 (by rw [if_pos c1]) _ rfl
  · rw [if_neg c1]
    by_cases c2 : g 101 (466 + (i * 16 + j)) = -1
    · rw [if_pos c2, if_pos c2]
      exact body _ 9999 0 (by rw [if_neg c1]) _ rfl
    · rw [if_neg c2, if_neg c2]
      exact body _ _ 0 (by rw [if_neg c1]) _ rfl
