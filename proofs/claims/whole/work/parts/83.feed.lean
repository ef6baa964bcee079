/-! the tape -/
def by8 (x : Int32) (d : Nat) : Int32 := (x >>> (nI d &&& 31)) &&& (255 : Int32)
theorem u_sh : ∀ k, k < 32 → (Int32.toUInt32 (nI k) &&& Int32.toUInt32 31).toBitVec = BitVec.ofNat 32 k := by decide +kernel
theorem hb_255 : ∀ k, k < 32 → hb 255 k = decide (k < 8) := by decide +kernel
theorem by8_u (x : Int32) (d : Nat) (hd : d ≤ 24) : ((Int32.toUInt32 x >>> (Int32.toUInt32 (nI d) &&& Int32.toUInt32 31)).toInt32 &&& (255 : Int32)) = by8 x d := by
  unfold by8
  apply hb_ext
  intro i hi
  rw [hb_and, hb_and, hb_255 i hi]
  by_cases h8 : i < 8
  · rw [decide_eq_true h8, Bool.and_true, Bool.and_true]
    have e1 : hb (x >>> (nI d &&& 31)) i = hb x (d + i) := by
      unfold hb
      rw [Int32.toBitVec_shiftRight]
      show (x.toBitVec.sshiftRight ((nI d &&& 31).toBitVec.smod 32).toNat).getLsbD i = _
      rw [hb_sh d (by omega), BitVec.getLsbD_sshiftRight]
      simp [show d + i < 32 by omega, hi]
    have e2 : hb (Int32.toUInt32 x >>> (Int32.toUInt32 (nI d) &&& Int32.toUInt32 31)).toInt32 i = hb x (d + i) := by
      unfold hb
      show (Int32.toUInt32 x >>> (Int32.toUInt32 (nI d) &&& Int32.toUInt32 31)).toBitVec.getLsbD i = _
      rw [UInt32.toBitVec_shiftRight, u_sh d (by omega)]
      show ((x.toBitVec) >>> (BitVec.ofNat 32 d % 32#32)).getLsbD i = _
      rw [BitVec.ushiftRight_eq', BitVec.getLsbD_ushiftRight]
      have : (BitVec.ofNat 32 d % 32#32).toNat = d := by
        rw [BitVec.toNat_umod, BitVec.toNat_ofNat]
        simp only [BitVec.toNat_ofNat]
        rw [Nat.mod_eq_of_lt (show d < 2 ^ 32 by omega), Nat.mod_eq_of_lt (show 32 < 2 ^ 32 by decide), Nat.mod_eq_of_lt (by omega)]
      rw [this]
    rw [e1, e2]
  · rw [decide_eq_false h8, Bool.and_false, Bool.and_false]
theorem by8_n (x : Int32) (d : Nat) : ∃ b, b < 256 ∧ by8 x d = nI b := by
  refine ⟨((x >>> (nI d &&& 31)).toBitVec.toNat &&& 255), by have := Nat.and_le_right (n := (x >>> (nI d &&& 31)).toBitVec.toNat) (m := 255); omega, ?_⟩
  unfold by8
  apply Int32.toBitVec_inj.mp
  rw [Int32.toBitVec_and]
  apply BitVec.eq_of_toNat_eq
  rw [BitVec.toNat_and]
  show _ = (BitVec.ofNat 32 _).toNat
  rw [BitVec.toNat_ofNat]
  have := Nat.and_le_right (n := (x >>> (nI d &&& 31)).toBitVec.toNat) (m := 255)
  rw [Nat.mod_eq_of_lt (by omega)]
  rfl
theorem nar_n : ∀ b, b < 256 → vp_nar .char (Int32.toUInt32 (nI b) % 65536).toInt32 = nI b := by decide +kernel
/-- both tapes -/
def tP (L : Nat) (h g : zH) : Prop := L ≤ 400 ∧ h 29 5 = nI L ∧ g 100 13 = nI L ∧ ∀ i, i < L → ∃ b, b < 256 ∧ h 30 i = nI b ∧ g 107 i = nI b
def tF (h g h' g' : zH) : Prop := (∀ c, c ≠ 29 → c ≠ 30 → h' c = h c) ∧ (∀ k, k ≠ 5 → h' 29 k = h 29 k) ∧ (∀ c, c ≠ 100 → c ≠ 107 → g' c = g c) ∧ ∀ k, k ≠ 13 → g' 100 k = g 100 k
theorem tF.refl (h g : zH) : tF h g h g := ⟨fun _ _ _ => rfl, fun _ _ => rfl, fun _ _ _ => rfl, fun _ _ => rfl⟩
theorem tF.trans {h g h1 g1 h2 g2 : zH} (a : tF h g h1 g1) (b : tF h1 g1 h2 g2) : tF h g h2 g2 := ⟨fun c c1 c2 => (b.1 c c1 c2).trans (a.1 c c1 c2), fun k hk => (b.2.1 k hk).trans (a.2.1 k hk), fun c c1 c2 => (b.2.2.1 c c1 c2).trans (a.2.2.1 c c1 c2), fun k hk => (b.2.2.2 k hk).trans (a.2.2.2 k hk)⟩
theorem tP.put {L : Nat} {h g : zH} (H : tP L h g) (hL : L < 400) (x : Int32) (d : Nat) : tP (L + 1) (zup (zup h 30 L (by8 x d)) 29 5 (nI (L + 1))) (zup (zup g 107 L (by8 x d)) 100 13 (nI (L + 1))) ∧ tF h g (zup (zup h 30 L (by8 x d)) 29 5 (nI (L + 1))) (zup (zup g 107 L (by8 x d)) 100 13 (nI (L + 1))) := by
  obtain ⟨a1, a2, a3, a4⟩ := H
  refine ⟨⟨by omega, by rw [zup_eq, pk_us], by rw [zup_eq, pk_us], fun i hi => ?_⟩, fun c c1 c2 => by rw [zup_ne c c1, zup_ne c c2], fun k hk => by rw [zup_eq, pk_un hk, zup_ne 29 (by decide)], fun c c1 c2 => by rw [zup_ne c c1, zup_ne c c2], fun k hk => by rw [zup_eq, pk_un hk, zup_ne 100 (by decide)]⟩
  rw [zup_ne 30 (by decide), zup_eq, zup_ne 107 (by decide), zup_eq]
  by_cases c : i = L
  · subst c
    rw [pk_us, pk_us]
    obtain ⟨b, b1, b2⟩ := by8_n x d
    exact ⟨b, b1, b2, b2⟩
  · rw [pk_un c, pk_un c]
    exact a4 i (by omega)
theorem q_put1 {L : Nat} {h : zH} (n : Nat) (x : Int32) (d : Nat) (hd : d ≤ 24) (hL : L < 400) (h5 : h 29 5 = nI L) : f_X7_put_3 (n + 1) x (nI d) h = f_X7_put_3 n x (nI d + -8) (zup (zup h 30 L (by8 x d)) 29 5 (nI (L + 1))) := by
  simp only [f_X7_put_3]
  obtain ⟨b, b1, b2⟩ := by8_n x d
  rw [if_neg (show ¬ nI d < 0 by rw [n_neg (by omega)]; exact id), h5, if_neg (show ¬ (400 : Int32) ≤ nI L by rw [l_400, n_le (by omega) (by omega)]; omega), zck_n hL (by decide), n_cl (by omega), zst_e, by8_u x d hd, b2, nar_n b b1, zup_ne 29 (by decide), h5, zst_e, zlt_e, nI_1]
def sel (x1 x2 x3 x4 x5 : Int32) (k : Nat) : Int32 := if 4 ≤ k then (if 8 ≤ k then (if 12 ≤ k then (if 16 ≤ k then x5 else x4) else x3) else x2) else x1
theorem sh_n : ∀ k, k < 20 → (24 : Int32) - 8 * (nI k - nI k / 4 * 4) = nI (24 - 8 * (k % 4)) := by decide +kernel
theorem q_feed1 {L : Nat} {g : zH} (n : Nat) (x1 x2 x3 x4 x5 : Int32) (k : Nat) (hk : k < 20) (hL : L < 400) (h5 : g 100 13 = nI L) : f_X12_feed_18 (n + 1) x1 x2 x3 x4 x5 (nI k) g = f_X12_feed_18 n x1 x2 x3 x4 x5 (nI (k + 1)) (zup (zup g 107 L (by8 (sel x1 x2 x3 x4 x5 k) (24 - 8 * (k % 4)))) 100 13 (nI (L + 1))) := by
  have st : ∀ s, f_X12_feed_71 (f_X12_feed_18 n) x1 x2 x3 x4 x5 (nI k) s g = f_X12_feed_18 n x1 x2 x3 x4 x5 (nI (k + 1)) (zup (zup g 107 L (by8 s (24 - 8 * (k % 4)))) 100 13 (nI (L + 1))) := by
    intro s
    unfold f_X12_feed_71 by8
    rw [h5, zck_n hL (by decide), n_cl (by omega), zst_e, sh_n k hk, zup_ne 100 (by decide), h5, zst_e, zlt_e, nI_1, nI_1]
  simp only [f_X12_feed_18]
  rw [if_neg (show ¬ (20 : Int32) ≤ nI k by rw [l_20, n_le (by omega) (by omega)]; omega)]
  unfold sel
  by_cases c1 : 4 ≤ k
  · rw [if_pos (show (4 : Int32) ≤ nI k by rw [l_4, n_le (by omega) (by omega)]; exact c1), if_pos c1]
    by_cases c2 : 8 ≤ k
    · rw [if_pos (show (8 : Int32) ≤ nI k by rw [l_8, n_le (by omega) (by omega)]; exact c2), if_pos c2]
      by_cases c3 : 12 ≤ k
      · rw [if_pos (show (12 : Int32) ≤ nI k by rw [show (12 : Int32) = nI 12 from rfl, n_le (by omega) (by omega)]; exact c3), if_pos c3]
        by_cases c4 : 16 ≤ k
        · rw [if_pos (show (16 : Int32) ≤ nI k by rw [l_16, n_le (by omega) (by omega)]; exact c4), if_pos c4, st]
        · rw [if_neg (show ¬ (16 : Int32) ≤ nI k by rw [l_16, n_le (by omega) (by omega)]; exact c4), if_neg c4, st]
      · rw [if_neg (show ¬ (12 : Int32) ≤ nI k by rw [show (12 : Int32) = nI 12 from rfl, n_le (by omega) (by omega)]; exact c3), if_neg c3, st]
    · rw [if_neg (show ¬ (8 : Int32) ≤ nI k by rw [l_8, n_le (by omega) (by omega)]; exact c2), if_neg c2, st]
  · rw [if_neg (show ¬ (4 : Int32) ≤ nI k by rw [l_4, n_le (by omega) (by omega)]; exact c1), if_neg c1, st]
theorem q_putE (n : Nat) (x : Int32) (h : zH) : f_X7_put_3 (n + 1) x (nI 0 + -8) h = some (0, h) := by
  simp only [f_X7_put_3]
  rw [if_pos (by decide)]
theorem q_feedE (n : Nat) (x1 x2 x3 x4 x5 : Int32) (g : zH) : f_X12_feed_18 (n + 1) x1 x2 x3 x4 x5 (nI 20) g = some (g 100 13, g) := by
  simp only [f_X12_feed_18]
  rw [if_pos (by decide)]
/-- four bytes of one number -/
theorem q_put4 {L : Nat} {h g : zH} (n : Nat) (x1 x2 x3 x4 x5 x : Int32) (q : Nat) (hq : q < 5) (hs : ∀ k, 4 * q ≤ k → k < 4 * q + 4 → sel x1 x2 x3 x4 x5 k = x) (hL : L + 4 ≤ 400) (H : tP L h g) : ∃ h' g', f_X7_put x h = some (0, h') ∧ f_X12_feed_18 (n + 4) x1 x2 x3 x4 x5 (nI (4 * q)) g = f_X12_feed_18 n x1 x2 x3 x4 x5 (nI (4 * q + 4)) g' ∧ tP (L + 4) h' g' ∧ tF h g h' g' := by
  have s0 := hs (4 * q) (by omega) (by omega)
  have s1 := hs (4 * q + 1) (by omega) (by omega)
  have s2 := hs (4 * q + 2) (by omega) (by omega)
  have s3 := hs (4 * q + 3) (by omega) (by omega)
  have A := H.put (by omega) x 24
  have a1 := q_put1 (n := 4095) x 24 (by omega) (by omega : L < 400) H.2.1
  have b1 := q_feed1 (n + 3) x1 x2 x3 x4 x5 (4 * q) (by omega) (by omega : L < 400) H.2.2.1
  rw [s0, show 24 - 8 * (4 * q % 4) = 24 by omega] at b1
  generalize zup (zup h 30 L (by8 x 24)) 29 5 (nI (L + 1)) = h1 at A a1
  generalize zup (zup g 107 L (by8 x 24)) 100 13 (nI (L + 1)) = g1 at A b1
  have B := A.1.put (by omega) x 16
  have a2 := q_put1 (n := 4094) x 16 (by omega) (by omega : L + 1 < 400) A.1.2.1
  have b2 := q_feed1 (n + 2) x1 x2 x3 x4 x5 (4 * q + 1) (by omega) (by omega : L + 1 < 400) A.1.2.2.1
  rw [s1, show 24 - 8 * ((4 * q + 1) % 4) = 16 by omega] at b2
  generalize zup (zup h1 30 (L + 1) (by8 x 16)) 29 5 (nI (L + 1 + 1)) = h2 at B a2
  generalize zup (zup g1 107 (L + 1) (by8 x 16)) 100 13 (nI (L + 1 + 1)) = g2 at B b2
  have C := B.1.put (by omega) x 8
  have a3 := q_put1 (n := 4093) x 8 (by omega) (by omega : L + 1 + 1 < 400) B.1.2.1
  have b3 := q_feed1 (n + 1) x1 x2 x3 x4 x5 (4 * q + 2) (by omega) (by omega : L + 1 + 1 < 400) B.1.2.2.1
  rw [s2, show 24 - 8 * ((4 * q + 2) % 4) = 8 by omega] at b3
  generalize zup (zup h2 30 (L + 1 + 1) (by8 x 8)) 29 5 (nI (L + 1 + 1 + 1)) = h3 at C a3
  generalize zup (zup g2 107 (L + 1 + 1) (by8 x 8)) 100 13 (nI (L + 1 + 1 + 1)) = g3 at C b3
  have D := C.1.put (by omega) x 0
  have a4 := q_put1 (n := 4092) x 0 (by omega) (by omega : L + 1 + 1 + 1 < 400) C.1.2.1
  have b4 := q_feed1 n x1 x2 x3 x4 x5 (4 * q + 3) (by omega) (by omega : L + 1 + 1 + 1 < 400) C.1.2.2.1
  rw [s3, show 24 - 8 * ((4 * q + 3) % 4) = 0 by omega] at b4
  generalize zup (zup h3 30 (L + 1 + 1 + 1) (by8 x 0)) 29 5 (nI (L + 1 + 1 + 1 + 1)) = h4 at D a4
  generalize zup (zup g3 107 (L + 1 + 1 + 1) (by8 x 0)) 100 13 (nI (L + 1 + 1 + 1 + 1)) = g4 at D b4
  refine ⟨h4, g4, ?_, ?_, D.1, A.2.trans (B.2.trans (C.2.trans D.2))⟩
  · have e1 : f_X7_put x h = f_X7_put_3 4095 x (nI 24 + -8) h1 := a1
    have e2 : f_X7_put_3 4095 x (nI 24 + -8) h1 = f_X7_put_3 4094 x (nI 16 + -8) h2 := a2
    have e3 : f_X7_put_3 4094 x (nI 16 + -8) h2 = f_X7_put_3 4093 x (nI 8 + -8) h3 := a3
    have e4 : f_X7_put_3 4093 x (nI 8 + -8) h3 = f_X7_put_3 4092 x (nI 0 + -8) h4 := a4
    rw [e1, e2, e3, e4]
    exact q_putE 4091 x h4
  · exact b1.trans (b2.trans (b3.trans b4))
theorem st_feed : zst_feed zRel := by
  intro h g x1 x2 x3 x4 x5 R
  obtain ⟨L, a1, a2, a3, a4⟩ := R.2.2.2.1
  unfold f_X11_feed f_X12_feed f_X7_hasRoom
  rw [a2, a3, show nI L + 20 = nI (L + 20) from n_add L 20]
  by_cases c : L + 20 ≤ 400
  · rw [if_neg (show ¬ (400 : Int32) < nI (L + 20) by rw [l_400, n_lt (by omega) (by omega)]; omega), zbd_e, if_neg (show ¬ (1 : Int32) = 0 by decide), if_pos (show nI (L + 20) ≤ 400 by rw [l_400, n_le (by omega) (by omega)]; exact c)]
    have T0 : tP L h g := ⟨a1, a2, a3, a4⟩
    obtain ⟨h1, g1, p1, p2, p3, p4⟩ := q_put4 4092 x1 x2 x3 x4 x5 x1 0 (by omega) (fun k k1 k2 => by unfold sel; rw [if_neg (by omega)]) (by omega) T0
    obtain ⟨h2, g2, q1, q2, q3, q4⟩ := q_put4 4088 x1 x2 x3 x4 x5 x2 1 (by omega) (fun k k1 k2 => by unfold sel; rw [if_pos (by omega), if_neg (by omega)]) (by omega) p3
    obtain ⟨h3, g3, r1, r2, r3, r4⟩ := q_put4 4084 x1 x2 x3 x4 x5 x3 2 (by omega) (fun k k1 k2 => by unfold sel; rw [if_pos (by omega), if_pos (by omega), if_neg (by omega)]) (by omega) q3
    obtain ⟨h4, g4, s1, s2, s3, s4⟩ := q_put4 4080 x1 x2 x3 x4 x5 x4 3 (by omega) (fun k k1 k2 => by unfold sel; rw [if_pos (by omega), if_pos (by omega), if_pos (by omega), if_neg (by omega)]) (by omega) r3
    obtain ⟨h5, g5, t1, t2, t3, t4⟩ := q_put4 4076 x1 x2 x3 x4 x5 x5 4 (by omega) (fun k k1 k2 => by unfold sel; rw [if_pos (by omega), if_pos (by omega), if_pos (by omega), if_pos (by omega)]) (by omega) s3
    have F := p4.trans (q4.trans (r4.trans (s4.trans t4)))
    have e1 : f_X12_feed_18 zN x1 x2 x3 x4 x5 0 g = f_X12_feed_18 4092 x1 x2 x3 x4 x5 (nI 4) g1 := p2
    have e2 : f_X12_feed_18 4092 x1 x2 x3 x4 x5 (nI 4) g1 = f_X12_feed_18 4088 x1 x2 x3 x4 x5 (nI 8) g2 := q2
    have e3 : f_X12_feed_18 4088 x1 x2 x3 x4 x5 (nI 8) g2 = f_X12_feed_18 4084 x1 x2 x3 x4 x5 (nI 12) g3 := r2
    have e4 : f_X12_feed_18 4084 x1 x2 x3 x4 x5 (nI 12) g3 = f_X12_feed_18 4080 x1 x2 x3 x4 x5 (nI 16) g4 := s2
    have e5 : f_X12_feed_18 4080 x1 x2 x3 x4 x5 (nI 16) g4 = f_X12_feed_18 4076 x1 x2 x3 x4 x5 (nI 20) g5 := t2
    refine ⟨nI (L + 20), h5, g5, ?_, ?_, ?_⟩
    · rw [p1, zbd_e, q1, zbd_e, r1, zbd_e, s1, zbd_e, t1, zbd_e, t3.2.1]
    · rw [e1, e2, e3, e4, e5, ← t3.2.2.1]
      exact q_feedE 4075 x1 x2 x3 x4 x5 g5
    · obtain ⟨F1, F2, F3, F4⟩ := F
      obtain ⟨b1, b2, b3, b4, b5, b6⟩ := R
      have fc : ∀ c, c ≠ 29 → c ≠ 30 → h5 c = h c := F1
      refine ⟨?_, ?_, ?_, ⟨L + 20, t3⟩, ?_, ?_⟩
      · unfold rHouse at *
        rw [fc 7 (by decide) (by decide), fc 8 (by decide) (by decide), fc 9 (by decide) (by decide), fc 10 (by decide) (by decide), fc 2 (by decide) (by decide), fc 3 (by decide) (by decide), fc 4 (by decide) (by decide), fc 5 (by decide) (by decide), fc 6 (by decide) (by decide), fc 11 (by decide) (by decide), fc 12 (by decide) (by decide), fc 13 (by decide) (by decide), fc 14 (by decide) (by decide), fc 15 (by decide) (by decide), fc 16 (by decide) (by decide), fc 17 (by decide) (by decide), fc 18 (by decide) (by decide), fc 1 (by decide) (by decide), fc 20 (by decide) (by decide), F3 101 (by decide) (by decide)]
        exact b1
      · unfold rPast at *
        rw [fc 22 (by decide) (by decide), fc 23 (by decide) (by decide), fc 24 (by decide) (by decide), fc 25 (by decide) (by decide), fc 26 (by decide) (by decide), fc 27 (by decide) (by decide), fc 28 (by decide) (by decide), fc 11 (by decide) (by decide), fc 12 (by decide) (by decide), fc 13 (by decide) (by decide), F3 103 (by decide) (by decide), F4 4 (by decide)]
        exact b2
      · unfold rImg rKept at *
        have c5 : ∀ c, 50 ≤ c → h5 c = h c := fun c h => fc c (by omega) (by omega)
        simp only [c5 50 (by decide), c5 51 (by decide), c5 52 (by decide), c5 53 (by decide), c5 54 (by decide), c5 55 (by decide), c5 56 (by decide), c5 57 (by decide), c5 58 (by decide), c5 59 (by decide), c5 60 (by decide), c5 61 (by decide), c5 62 (by decide), c5 63 (by decide), c5 64 (by decide), c5 65 (by decide), c5 66 (by decide), c5 67 (by decide), c5 69 (by decide), fc 0 (by decide) (by decide), F4 5 (by decide), F3 102 (by decide) (by decide)]
        exact b3
      · unfold rFlt at *
        rw [F2 6 (by decide), F2 7 (by decide), F4 20 (by decide), F4 22 (by decide)]
        exact b5
      · unfold rEve at *
        rw [fc 40 (by decide) (by decide), fc 38 (by decide) (by decide)]
        exact b6
  · rw [if_pos (show (400 : Int32) < nI (L + 20) by rw [l_400, n_lt (by omega) (by omega)]; omega), zbd_e, if_pos rfl, if_neg (show ¬ nI (L + 20) ≤ 400 by rw [l_400, n_le (by omega) (by omega)]; exact c)]
    exact ⟨-1, h, g, rfl, rfl, R⟩
