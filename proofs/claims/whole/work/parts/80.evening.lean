/-! the middle of an evening -/
def evA (h g : zH) : Prop := rTab (h 7) (h 8) (h 9) (h 10) (g 101) ∧ rHal (h 2) (h 3) (h 4) (h 5) (h 6) (g 101) ∧ rLw (h 16) (h 17) (h 18) (g 101) ∧ rMs (h 1) (h 20) (g 101) ∧ rImg h g ∧ rTape h g ∧ rFlt h g ∧ rEve h
theorem evA.mv {h g h' g' : zH} (H : evA h g) (hc : ∀ c, (c = 0 ∨ (2 ≤ c ∧ c ≤ 10) ∨ (16 ≤ c ∧ c ≤ 18) ∨ c = 20 ∨ c = 29 ∨ c = 30 ∨ c = 40 ∨ 50 ≤ c) → h' c = h c) (h16 : h' 1 6 = h 1 6) (h17 : h' 1 7 = h 1 7) (h18 : h' 1 8 = g' 101 7) (h38 : h' 38 6 = h 38 6) (hw : ∀ j, (j ≤ 4 ∨ (10 ≤ j ∧ j < 196) ∨ 1335 ≤ j) → g' 101 j = g 101 j) (g0 : ∀ k, 5 ≤ k → k < 23 → g' 100 k = g 100 k) (g2 : g' 102 = g 102) (g7 : g' 107 = g 107) : evA h' g' := by
  obtain ⟨a1, a2, a3, a4, a5, a6, a7, a8⟩ := H
  refine ⟨?_, ?_, ?_, ?_, ?_, ?_, ?_, ?_⟩
  · rw [hc 7 (by omega), hc 8 (by omega), hc 9 (by omega), hc 10 (by omega)]
    exact a1.w (fun i hi => hw i (by omega))
  · rw [hc 2 (by omega), hc 3 (by omega), hc 4 (by omega), hc 5 (by omega), hc 6 (by omega)]
    exact a2.w (fun i hi => hw i (by omega))
  · rw [hc 16 (by omega), hc 17 (by omega), hc 18 (by omega)]
    exact a3.w (fun i hi => hw i (by omega))
  · obtain ⟨⟨d, d1, d2, d3, d4⟩, ⟨d', e1, e2, e3⟩, -, e5⟩ := a4
    rw [hc 20 (by omega)]
    exact ⟨⟨d, d1, d2, by rw [h16]; exact d3, by rw [hw 1 (by omega)]; exact d4⟩, ⟨d', e1, by rw [h17]; exact e2, by rw [hw 2 (by omega)]; exact e3⟩, h18, fun f hf => by rw [hw _ (by omega)]; exact e5 f hf⟩
  · unfold rImg rKept at *
    have c5 : ∀ c, 50 ≤ c → h' c = h c := fun c h => hc c (by omega)
    simp only [c5 50 (by decide), c5 51 (by decide), c5 52 (by decide), c5 53 (by decide), c5 54 (by decide), c5 55 (by decide), c5 56 (by decide), c5 57 (by decide), c5 58 (by decide), c5 59 (by decide), c5 60 (by decide), c5 61 (by decide), c5 62 (by decide), c5 63 (by decide), c5 64 (by decide), c5 65 (by decide), c5 66 (by decide), c5 67 (by decide), c5 69 (by decide), hc 0 (by omega), g0 5 (by omega) (by omega), g2]
    exact a5
  · unfold rTape at *
    rw [hc 29 (by omega), hc 30 (by omega), g0 13 (by omega) (by omega), g7]
    exact a6
  · unfold rFlt at *
    rw [hc 29 (by omega), g0 20 (by omega) (by omega), g0 22 (by omega) (by omega)]
    exact a7
  · unfold rEve at *
    rw [hc 40 (by omega), h38]
    exact a8
theorem eC.mv {E : zEv} {h h' : zH} (H : eC E h) (hc : ∀ c, c = 2 ∨ c = 3 ∨ c = 4 ∨ c = 5 ∨ c = 16 ∨ c = 17 ∨ c = 18 ∨ c = 20 → h' c = h c) (h1 : h' 1 6 = h 1 6) (h11 : h' 11 5 = h 11 5) : eC E h' := by
  unfold eC at *
  rw [h1, h11, hc 2 (by omega), hc 3 (by omega), hc 4 (by omega), hc 5 (by omega), hc 16 (by omega), hc 17 (by omega), hc 18 (by omega), hc 20 (by omega)]
  exact H
theorem tM.mv {E : zEv} {can : Nat → Nat → Bool} {T : zTe} {g g' : zH} (H : tM E can T g) (hw : ∀ j, (j = 1 ∨ j = 3 ∨ j = 5 ∨ (10 ≤ j ∧ j < 180) ∨ (210 ≤ j ∧ j < 722) ∨ 1335 ≤ j) → g' 101 j = g 101 j) : tM E can T g' := by
  obtain ⟨a, b, c⟩ := H
  refine ⟨a.w (fun j hj => hw j (by omega)), fun p hp => ?_, c.w a.1 (fun j h1 h2 => hw j (by omega))⟩
  rw [hw _ (by omega), hw _ (by omega)]
  exact b p hp
def evI (E : zEv) (qf : Nat → Nat → Nat) (bl0 n m : Nat) (To0 La0 : Nat → Int32) (s t : Nat) (T : zTe) (h g : zH) : Prop := evA h g ∧ tC E (cnQ E qf) T h ∧ tM E (cnQ E qf) T g ∧ (∀ p, p < 256 → T.1 p ≤ 8 * E.nt + s ∧ T.2 p ≤ E.nt) ∧ pO E.nt bl0 n m t To0 La0 h g ∧ t ≤ s ∧ (∃ bl, bl0 ≤ bl ∧ bl ≤ 100 ∧ h 11 4 = nI bl ∧ g 101 6 = nI bl ∧ ∀ i, i < 6 * bl → h 15 i = g 101 (730 + i)) ∧ ∀ i, i < 6 → h 14 i = g 101 (200 + i)
theorem evI.look {E : zEv} {qf : Nat → Nat → Nat} {bl0 n m s t : Nat} {To0 La0 : Nat → Int32} {T : zTe} {h g h' g' : zH} (I : evI E qf bl0 n m To0 La0 s t T h g) (s1 : sC h h') (R : tC E (cnQ E qf) T h') (s2 : sM g g') : evI E qf bl0 n m To0 La0 s t T h' g' := by
  obtain ⟨a1, a2, a3, a4, a5, a6, a7, a8⟩ := I
  have hc : ∀ c, (c < 19 ∨ c = 20 ∨ (22 ≤ c ∧ c < 38) ∨ 40 ≤ c) → h' c = h c := fun c hc => s1.1 c (by omega) (by omega) (by omega) (by omega)
  have gw : g' 101 = g 101 := s2.1 101 (by decide) (by decide) (by decide)
  refine ⟨a1.mv (fun c q => hc c (by omega)) (by rw [hc 1 (by omega)]) (by rw [hc 1 (by omega)]) ?_ (s1.2 6 (by omega)) (fun j _ => by rw [gw]) (fun k _ hk => s2.2 k (by omega)) (s2.1 102 (by decide) (by decide) (by decide)) (s2.1 107 (by decide) (by decide) (by decide)), R, a3.w gw, a4, a5.same (fun c q => hc c (by omega)) (s2.2 4 (by omega)) (s2.1 103 (by decide) (by decide) (by decide)), a6, ?_, ?_⟩
  · rw [hc 1 (by omega), gw]; exact a1.2.2.2.1.2.2.1
  · rw [hc 11 (by omega), hc 15 (by omega), gw]; exact a7
  · rw [hc 14 (by omega), gw]; exact a8
theorem evI.next {E : zEv} {qf : Nat → Nat → Nat} {bl0 n m s t : Nat} {To0 La0 : Nat → Int32} {T : zTe} {h g : zH} (I : evI E qf bl0 n m To0 La0 s t T h g) : evI E qf bl0 n m To0 La0 (s + 1) t T h g := by
  obtain ⟨a1, a2, a3, a4, a5, a6, a7, a8⟩ := I
  exact ⟨a1, a2, a3, fun p hp => ⟨by have := (a4 p hp).1; omega, (a4 p hp).2⟩, a5, by omega, a7, a8⟩
/-- a telling on both sides -/
theorem q_tellF {E : zEv} {qf : Nat → Nat → Nat} {bl0 n m s t sn gn f e : Nat} {To0 La0 : Nat → Int32} {T : zTe} {h g : zH} {si : Nat → Int32} {fam : Nat → Nat} {L x12 cl : Int32} (I : evI E qf bl0 n m To0 La0 s t T h g) (hs : s < sn) (hnt : E.nt ≤ 9999) (A : sA sn gn si fam (g 101)) (hf : f < E.n) (he : e < E.n) (h9 : h 38 9 = nI f) (h10 : h 38 10 = nI e) (h11 : h 38 11 = L) (h12 : h 38 12 = x12) (h13 : h 38 13 = cl) (g23 : g 100 23 = nI f) (g24 : g 100 24 = nI e) (g25 : g 100 25 = x12) (g26 : g 100 26 = L) (hcl : cl = if x12 = si s then si (nxt sn s) else si s) (k4 : Int32 → Int32 → zH → zR) (x1 : Int32) : ∃ v h' g', f_X11_tellFound h = some (v, h') ∧ (if (g 101 2) ≤ 0 then (f_X12_anEvening_54 k4 x1 (nI s) g) else (zbd (f_X12_draw (1000 : Int32) g) fun r20 h21 => (if (h21 101 2) ≤ r20 then (f_X12_anEvening_54 k4 x1 (nI s) h21) else (f_X12_anEvening_55 k4 x1 (nI s) (1 : Int32) h21)))) = k4 (x1 + v) (nI s + 1) g' ∧ evI E qf bl0 n m To0 La0 (s + 1) (t + 1) (tT E T f e) h' g' ∧ (∀ c, c = 7 ∨ c = 8 ∨ c = 10 → h' c = h c) ∧ (∀ j, j = 0 ∨ j = 4 ∨ (180 ≤ j ∧ j < 196) → g' 101 j = g 101 j) := by
  obtain ⟨a1, a2, a3, a4, a5, a6, ⟨bl, b1, b2, b3, b4, b5⟩, a8⟩ := I
  obtain ⟨A1, A2, A3, A4, A5, A6, A7⟩ := A
  have hn := a2.1.1
  have hp : f * 16 + e < 256 := by omega
  generalize hpp : f * 16 + e = p at hp
  have pm := a5.2.1
  have p22 := a5.2.2.2.2.1
  have p23 := a5.2.2.2.2.2.1
  have h115 : h 11 5 = nI E.nt := a2.1.2.2.2.2.2.1
  -- note, told, last, memo
  have st1 : ∃ X, f_X11_tellFound h = (if (X 1 7) ≤ 0 then (f_X11_tellFound_104 X) else (zbd (f_X4_draw (1000 : Int32) X) fun r17 h18 => (if (h18 1 7) ≤ r17 then (f_X11_tellFound_104 h18) else (f_X11_tellFound_105 (1 : Int32) h18)))) ∧ (∀ c, c ≠ 12 → c ≠ 13 → c ≠ 23 → c ≠ 24 → c ≠ 25 → c ≠ 39 → X c = h c) ∧ X 12 = upd (h 12) p (h 12 p + 1) ∧ X 13 = upd (h 13) p (nI E.nt) ∧ X 23 = upd (h 23) m (nI (t + 1)) ∧ X 24 = upd (h 24) (m * 8 + t) (nI p) ∧ X 25 = upd (h 25) (m * 8 + t) (h 13 p) ∧ X 39 = upd (h 39) p (-1) := by
    unfold f_X11_tellFound f_X11_pairOf
    rw [h9, h10, zbd_e, show nI f * 16 + nI e = nI p by rw [← hpp, show nI f * 16 = nI (f * 16) from n_mul f 16]; exact n_add _ _, n_cl (by omega), zck_n hp (by decide), q_noteC pm (by omega) hp p22 p23, zbd_e, zck_n hp (by decide), zck_n hp (by decide), zst_e, zck_n hp (by decide), zst_e, zck_n hp (by decide), zst_e]
    generalize hK : zup (zup (zup h 24 (m * 8 + t) (nI p)) 25 (m * 8 + t) (h 13 p)) 23 m (nI (t + 1)) = K
    have kc : ∀ c, c ≠ 23 → c ≠ 24 → c ≠ 25 → K c = h c := fun c q1 q2 q3 => by rw [← hK, zup_ne c q1, zup_ne c q3, zup_ne c q2]
    refine ⟨_, rfl, fun c q1 q2 q3 q4 q5 q6 => ?_, ?_, ?_, ?_, ?_, ?_, ?_⟩
    · rw [zup_ne c q6, zup_ne c q2, zup_ne c q1, kc c q3 q4 q5]
    · rw [zup_ne 12 (by decide), zup_ne 12 (by decide), zup_eq, kc 12 (by decide) (by decide) (by decide)]
    · rw [zup_ne 13 (by decide), zup_eq, zup_ne 13 (by decide), kc 13 (by decide) (by decide) (by decide), zup_ne 11 (by decide), kc 11 (by decide) (by decide) (by decide), h115]
    · rw [zup_ne 23 (by decide), zup_ne 23 (by decide), zup_ne 23 (by decide), ← hK, zup_eq, zup_ne 23 (by decide), zup_ne 23 (by decide)]
    · rw [zup_ne 24 (by decide), zup_ne 24 (by decide), zup_ne 24 (by decide), ← hK, zup_ne 24 (by decide), zup_ne 24 (by decide), zup_eq]
    · rw [zup_ne 25 (by decide), zup_ne 25 (by decide), zup_ne 25 (by decide), ← hK, zup_ne 25 (by decide), zup_eq, zup_ne 25 (by decide)]
    · rw [zup_eq, zup_ne 39 (by decide), zup_ne 39 (by decide), kc 39 (by decide) (by decide) (by decide)]
  obtain ⟨X, x0, xc, x12', x13, x23, x24, x25, x39⟩ := st1
  rw [x0]
  -- spoilt or not
  have ms := a1.2.2.2.1
  have m7 : h 1 7 = g 101 2 := by obtain ⟨-, ⟨d, d1, d2, d3⟩, -⟩ := ms; rw [d2, d3]
  have m8 : h 1 8 = g 101 7 := ms.2.2.1
  have x1' : X 1 = h 1 := xc 1 (by decide) (by decide) (by decide) (by decide) (by decide) (by decide)
  have x38 : X 38 = h 38 := xc 38 (by decide) (by decide) (by decide) (by decide) (by decide) (by decide)
  have mid : ∃ v Y Z, (if (X 1 7) ≤ 0 then (f_X11_tellFound_104 X) else (zbd (f_X4_draw (1000 : Int32) X) fun r17 h18 => (if (h18 1 7) ≤ r17 then (f_X11_tellFound_104 h18) else (f_X11_tellFound_105 (1 : Int32) h18)))) = f_X11_tellFound_121 v Y ∧ (if (g 101 2) ≤ 0 then (f_X12_anEvening_54 k4 x1 (nI s) g) else (zbd (f_X12_draw (1000 : Int32) g) fun r20 h21 => (if (h21 101 2) ≤ r20 then (f_X12_anEvening_54 k4 x1 (nI s) h21) else (f_X12_anEvening_55 k4 x1 (nI s) (1 : Int32) h21)))) = f_X12_anEvening_68 k4 x1 (nI s) v Z ∧ (∀ c, c ≠ 1 → Y c = X c) ∧ (∀ k, k ≠ 8 → Y 1 k = h 1 k) ∧ (∀ c, c ≠ 101 → Z c = g c) ∧ (∀ j, j ≠ 7 → Z 101 j = g 101 j) ∧ Y 1 8 = Z 101 7 := by
    rw [x1', m7]
    unfold f_X11_tellFound_104 f_X11_tellFound_105 f_X12_anEvening_54 f_X12_anEvening_55
    by_cases c : g 101 2 ≤ 0
    · rw [if_pos c, if_pos c, if_pos rfl, if_pos rfl, x38, h11, g26]
      exact ⟨L, X, g, rfl, rfl, fun c _ => rfl, fun k _ => by rw [x1'], fun c _ => rfl, fun j _ => rfl, by rw [x1', m8]⟩
    · rw [if_neg c, if_neg c, q_drawC, q_drawM, zbd_e, zbd_e, x1', m8, zup_eq, pk_un (by decide), x1', m7, zup_eq, pk_un (by decide), zup_ne 38 (by decide), x38, h11, zup_ne 100 (by decide), g26]
      have f1 : ∀ c, c ≠ 1 → zup X 1 8 (drw (g 101 7)) c = X c := fun c hc => zup_ne c hc
      have f2 : ∀ k, k ≠ 8 → zup X 1 8 (drw (g 101 7)) 1 k = h 1 k := fun k hk => by rw [zup_eq, pk_un hk, x1']
      have f3 : ∀ c, c ≠ 101 → zup g 101 7 (drw (g 101 7)) c = g c := fun c hc => zup_ne c hc
      have f4 : ∀ j, j ≠ 7 → zup g 101 7 (drw (g 101 7)) 101 j = g 101 j := fun k hk => by rw [zup_eq, pk_un hk]
      have f5 : zup X 1 8 (drw (g 101 7)) 1 8 = zup g 101 7 (drw (g 101 7)) 101 7 := by rw [zup_eq, pk_us, zup_eq, pk_us]
      by_cases d : g 101 2 ≤ rnd (drw (g 101 7))
      · rw [if_pos d, if_pos d, if_pos rfl, if_pos rfl]
        exact ⟨L, _, _, rfl, rfl, f1, f2, f3, f4, f5⟩
      · rw [if_neg d, if_neg d, if_neg (show ¬ (1 : Int32) = 0 by decide), if_neg (show ¬ (1 : Int32) = 0 by decide)]
        exact ⟨0, _, _, rfl, rfl, f1, f2, f3, f4, f5⟩
  obtain ⟨v, Y, Z, y0, z0, yc, y1, zc, zw, y8⟩ := mid
  rw [y0, z0]
  unfold f_X11_tellFound_121 f_X12_anEvening_68
  have yl : ∀ c, c ≠ 1 → c ≠ 12 → c ≠ 13 → c ≠ 23 → c ≠ 24 → c ≠ 25 → c ≠ 39 → Y c = h c := fun c q0 q1 q2 q3 q4 q5 q6 => by rw [yc c q0, xc c q1 q2 q3 q4 q5 q6]
  have Y11 : Y 11 = h 11 := yl 11 (by decide) (by decide) (by decide) (by decide) (by decide) (by decide) (by decide)
  have Y38 : Y 38 = h 38 := yl 38 (by decide) (by decide) (by decide) (by decide) (by decide) (by decide) (by decide)
  -- the reference: told, and who ended it
  have zw5 : Z 101 5 = nI E.nt := by rw [zw 5 (by decide)]; exact a3.1.2.2.2.2.2.1
  rw [q_isTold (f := f) (e := e) (by omega) (by omega) (by rw [zc 100 (by decide)]; exact g23) (by rw [zc 100 (by decide)]; exact g24), zbd_e, hpp]
  have TZ : tM E (cnQ E qf) T Z := a3.mv (fun j hj => zw j (by omega))
  have TZ1 := TZ.tell (f := f) (e := e) (by omega) (by omega) (by rw [hpp]; have := (a4 p hp).1; omega) (by omega)
  rw [hpp] at TZ1
  generalize hW : zup (zup Z 101 (210 + p) (Z 101 (210 + p) + 1)) 101 (466 + p) (Z 101 5) = W at TZ1 ⊢
  have wc : ∀ c, c ≠ 101 → W c = g c := fun c q => by rw [← hW, zup_ne c q, zup_ne c q, zc c q]
  have ww : ∀ j, j ≠ 7 → (j < 210 ∨ 722 ≤ j) → W 101 j = g 101 j := fun j q1 q2 => by rw [← hW, zup_eq, pk_un (by omega), zup_eq, pk_un (by omega), zw j q1]
  have w7 : W 101 7 = Z 101 7 := by rw [← hW, zup_eq, pk_un (by omega), zup_eq, pk_un (by omega)]
  have AW : sA sn gn si fam (W 101) := (show sA sn gn si fam (g 101) from ⟨A1, A2, A3, A4, A5, A6, A7⟩).w (ww 0 (by omega) (by omega)) (ww 4 (by omega) (by omega)) (fun j j1 j2 => ww j (by omega) (by omega))
  rw [q_gat AW s hs, zbd_e, wc 100 (by decide), g25, AW.1]
  have who : (if x12 = si s then (znz (nI sn) (zbd (f_X12_guestAt ((nI s + (1 : Int32)) - (nI s + (1 : Int32)) / (nI sn) * (nI sn)) W) fun r18 h19 => (f_X12_anEvening_110 k4 x1 (nI s) v r18 h19))) else (f_X12_anEvening_110 k4 x1 (nI s) v (si s) W)) = f_X12_anEvening_110 k4 x1 (nI s) v cl W := by
    by_cases c : x12 = si s
    · rw [if_pos c] at hcl ⊢
      unfold znz
      rw [if_neg (show ¬ nI sn = 0 by rw [n_eq0 (by omega)]; omega), mnx sn (by omega) s hs, q_gat AW (nxt sn s) (nxt_lt hs), zbd_e, hcl]
    · rw [if_neg c] at hcl ⊢
      rw [hcl]
  rw [who]
  unfold f_X12_anEvening_110
  -- the book
  obtain ⟨Y2, c1, c2, c3, c4, c5⟩ := q_writeC (h := Y) (bl := bl) v b2 (by rw [Y11]; exact b3)
  obtain ⟨W2, d1, d2, d3, d4, d5⟩ := q_writeM (g := W) (bl := bl) cl v b2 (by rw [ww 6 (by omega) (by omega)]; exact b4)
  rw [c1, zbd_e, d1, zbd_e]
  -- the fame
  obtain ⟨qn, q1, q2, q3, q4⟩ := a1.2.1.n
  have hqn : qn = E.n := by
    have := a2.1.2.1
    rw [q2, n_eq (by omega) (by omega)] at this
    exact this
  have quo : ∀ i, i < E.n → ∀ q, q < 6 → h 6 (i * 6 + q) = g 101 (23 + 10 * i + q) := by
    intro i hi q hq
    obtain ⟨qv, r⟩ := q4 i (by omega)
    rw [(r.2 q hq).1, (r.2 q hq).2]
  have Y2l : ∀ c, c ≠ 1 → c ≠ 11 → c ≠ 12 → c ≠ 13 → c ≠ 15 → c ≠ 23 → c ≠ 24 → c ≠ 25 → c ≠ 39 → Y2 c = h c := fun c q0 q1 q2 q3 q4 q5 q6 q7 q8 => by rw [c2 c q1 q4, yl c q0 q2 q3 q5 q6 q7 q8]
  have W2w : ∀ j, j ≠ 6 → j ≠ 7 → (j < 210 ∨ (722 ≤ j ∧ j < 730) ∨ 1330 ≤ j) → W2 101 j = g 101 j := fun j q1 q2 q3 => by rw [d3 j q1 (by omega), ww j q2 (by omega)]
  have Y238 : Y2 38 = h 38 := Y2l 38 (by decide) (by decide) (by decide) (by decide) (by decide) (by decide) (by decide) (by decide) (by decide)
  have W2100 : W2 100 = g 100 := by rw [d2 100 (by decide), wc 100 (by decide)]
  obtain ⟨h', g', e1, e2, e3, e4, e5, e6⟩ := q_fames (f := f) (e := e) k4 v x1 (nI s) (by omega) (by omega) zN zN 0 Y2 W2 (by rw [Y238]; exact h9) (by rw [Y238]; exact h10) (by rw [W2100]; exact g23) (by rw [W2100]; exact g24) (fun q hq => by
      rw [Y2l 6 (by decide) (by decide) (by decide) (by decide) (by decide) (by decide) (by decide) (by decide) (by decide), W2w _ (by omega) (by omega) (by omega), W2w _ (by omega) (by omega) (by omega)]
      exact ⟨quo f hf q hq, quo e he q hq⟩) (fun q hq => by
      rw [Y2l 14 (by decide) (by decide) (by decide) (by decide) (by decide) (by decide) (by decide) (by decide) (by decide), W2w _ (by omega) (by omega) (by omega)]
      exact a8 q hq) (by omega) (by unfold zN; omega) (by unfold zN; omega)
  have e1 : f_X11_tellFound_136 zN v 0 Y2 = some (v, h') := e1
  have e2 : f_X12_anEvening_118 k4 zN x1 (nI s) v 0 W2 = k4 (x1 + v) (nI s + 1) g' := e2
  -- what is where
  have hl : ∀ c, c ≠ 1 → c ≠ 11 → c ≠ 12 → c ≠ 13 → c ≠ 14 → c ≠ 15 → c ≠ 23 → c ≠ 24 → c ≠ 25 → c ≠ 39 → h' c = h c := fun c q0 q1 q2 q3 q4 q5 q6 q7 q8 q9 => by rw [e3 c q4, Y2l c q0 q1 q2 q3 q5 q6 q7 q8 q9]
  have hl2 : ∀ c, c ≠ 1 → c ≠ 11 → c ≠ 14 → c ≠ 15 → h' c = X c := fun c q0 q1 q2 q3 => by rw [e3 c q2, c2 c q1 q3, yc c q0]
  have h'1 : h' 1 = Y 1 := by rw [e3 1 (by decide), c2 1 (by decide) (by decide)]
  have h'11 : ∀ k, k ≠ 4 → h' 11 k = h 11 k := fun k hk => by rw [e3 11 (by decide), c3 k hk, Y11]
  have g'w : ∀ j, j ≠ 6 → (j < 200 ∨ (206 ≤ j ∧ j < 730) ∨ 1330 ≤ j) → g' 101 j = W 101 j := fun j q1 q2 => by rw [e5 j (by omega), d3 j q1 (by omega)]
  have g'g : ∀ j, j ≠ 6 → j ≠ 7 → (j < 200 ∨ (206 ≤ j ∧ j < 210) ∨ (722 ≤ j ∧ j < 730) ∨ 1330 ≤ j) → g' 101 j = g 101 j := fun j q1 q2 q3 => by rw [g'w j q1 (by omega), ww j q2 (by omega)]
  have g'c : ∀ c, c ≠ 101 → g' c = g c := fun c q => by rw [e4 c q, d2 c q, wc c q]
  refine ⟨v, h', g', e1, e2, ⟨?_, ?_, ?_, ?_, ?_, by omega, ?_, e6⟩, fun c hc => hl c (by omega) (by omega) (by omega) (by omega) (by omega) (by omega) (by omega) (by omega) (by omega) (by omega), fun j hj => g'g j (by omega) (by omega) (by omega)⟩
  · refine a1.mv (fun c hc => hl c (by omega) (by omega) (by omega) (by omega) (by omega) (by omega) (by omega) (by omega) (by omega) (by omega)) ?_ ?_ ?_ ?_ (fun j hj => g'g j (by omega) (by omega) (by omega)) (fun k _ _ => by rw [g'c 100 (by decide)]) (g'c 102 (by decide)) (g'c 107 (by decide))
    · rw [h'1, y1 6 (by decide)]
    · rw [h'1, y1 7 (by decide)]
    · rw [h'1, y8, g'w 7 (by omega) (by omega), w7]
    · rw [hl 38 (by decide) (by decide) (by decide) (by decide) (by decide) (by decide) (by decide) (by decide) (by decide) (by decide)]
  · refine ⟨a2.1.mv (fun c hc => hl c (by omega) (by omega) (by omega) (by omega) (by omega) (by omega) (by omega) (by omega) (by omega) (by omega)) (by rw [h'1, y1 6 (by decide)]) (h'11 5 (by decide)), ?_, ?_, a2.2.2.2.same (hl 41 (by decide) (by decide) (by decide) (by decide) (by decide) (by decide) (by decide) (by decide) (by decide) (by decide)) (by rw [hl 38 (by decide) (by decide) (by decide) (by decide) (by decide) (by decide) (by decide) (by decide) (by decide) (by decide)]) (by rw [hl 38 (by decide) (by decide) (by decide) (by decide) (by decide) (by decide) (by decide) (by decide) (by decide) (by decide)])⟩
    · intro q hq
      obtain ⟨m0, mm, z1, z2, z3, z4, z5⟩ := a2.2.1 q hq
      have mm0 : mm = 0 := by
        have := a1.2.2.2.2.2.2.2.1 q hq
        rw [z2] at this
        have hm : mm < 2 ^ 31 := by omega
        rwa [n_eq0 hm] at this
      subst mm0
      rw [hl2 12 (by decide) (by decide) (by decide) (by decide), hl2 13 (by decide) (by decide) (by decide) (by decide), hl 40 (by decide) (by decide) (by decide) (by decide) (by decide) (by decide) (by decide) (by decide) (by decide) (by decide), x12', x13]
      unfold tT
      simp only [hpp]
      by_cases c : q = p
      · subst c
        have := (a4 q hq).1
        refine ⟨m0 + 1, 0, by rw [pk_us, z1, nI_1], z2, ?_, ?_, Or.inr (Or.inr ⟨rfl, ?_⟩)⟩
        · rw [if_pos rfl]; omega
        · rw [if_pos rfl]; omega
        · rw [if_pos rfl, pk_us]
      · refine ⟨m0, 0, by rw [pk_un c]; exact z1, z2, ?_, ?_, ?_⟩
        · rw [if_neg c]; exact z3
        · rw [if_neg c]; exact z4
        · rw [if_neg c, if_neg c, pk_un c]; exact z5
    · intro a b ha hb
      rw [hl2 39 (by decide) (by decide) (by decide) (by decide), x39]
      by_cases c : a * 16 + b = p
      · rw [c, pk_us]; exact Or.inl rfl
      · rw [pk_un c, eV_T (by omega) hb (by rw [hpp]; exact c)]
        exact a2.2.2.1 a b ha hb
  · exact TZ1.mv (fun j hj => g'w j (by omega) (by omega))
  · intro q hq
    have := a4 q hq
    unfold tT
    simp only [hpp]
    by_cases c : q = p
    · rw [if_pos c, if_pos c]; omega
    · rw [if_neg c, if_neg c]; omega
  · exact a5.note (p := p) (by omega) hp (fun c hc => hl c (by omega) (by omega) (by omega) (by omega) (by omega) (by omega) (by omega) (by omega) (by omega) (by omega)) (by rw [hl2 23 (by decide) (by decide) (by decide) (by decide), x23]) (by rw [hl2 24 (by decide) (by decide) (by decide) (by decide), x24]) (by rw [hl2 25 (by decide) (by decide) (by decide) (by decide), x25]) (by rw [hl2 12 (by decide) (by decide) (by decide) (by decide), x12']) (by rw [hl2 13 (by decide) (by decide) (by decide) (by decide), x13]) (by rw [g'c 100 (by decide)]) (g'c 103 (by decide))
  · refine ⟨if bl < 100 then bl + 1 else bl, by split <;> omega, by split <;> omega, by rw [e3 11 (by decide)]; exact c4, by rw [e5 6 (by omega)]; exact d4, fun i hi => ?_⟩
    have hi6 : i < 600 := by revert hi; split <;> omega
    rw [e3 15 (by decide), c5 i, e5 _ (by omega), d5 i hi6]
    by_cases c : bl < 100
    · rw [if_pos c] at hi ⊢
      rw [if_pos c, Y38, h9, h10, h12, h13, Y11, h115, wc 100 (by decide), g23, g24, g25, ww 5 (by omega) (by omega), a3.1.2.2.2.2.2.1]
      by_cases k0 : i = 6 * bl
      · rw [if_pos k0, if_pos k0]
      · rw [if_neg k0, if_neg k0]
        by_cases k1 : i = 6 * bl + 1
        · rw [if_pos k1, if_pos k1]
        · rw [if_neg k1, if_neg k1]
          by_cases k2 : i = 6 * bl + 2
          · rw [if_pos k2, if_pos k2]
          · rw [if_neg k2, if_neg k2]
            by_cases k3 : i = 6 * bl + 3
            · rw [if_pos k3, if_pos k3]
            · rw [if_neg k3, if_neg k3]
              by_cases k4 : i = 6 * bl + 4
              · rw [if_pos k4, if_pos k4]
              · rw [if_neg k4, if_neg k4]
                by_cases k5 : i = 6 * bl + 5
                · rw [if_pos k5, if_pos k5]
                · rw [if_neg k5, if_neg k5, yl 15 (by decide) (by decide) (by decide) (by decide) (by decide) (by decide) (by decide), ww _ (by omega) (by omega)]
                  exact b5 i (by omega)
    · rw [if_neg c] at hi ⊢
      rw [if_neg c, yl 15 (by decide) (by decide) (by decide) (by decide) (by decide) (by decide) (by decide), ww _ (by omega) (by omega)]
      exact b5 i (by omega)
