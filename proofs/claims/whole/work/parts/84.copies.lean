/-! the image: arrays that agree -/
theorem rTab.arr {T Fa Pl Si T' Fa' Pl' Si' w : Nat → Int32} (H : rTab T Fa Pl Si w) (h3 : T' 3 = T 3) (h4 : T' 4 = T 4) (hF : ∀ i, i < 8 → Fa' i = Fa i) (hP : ∀ i, i < 8 → Pl' i = Pl i) (hS : ∀ i, i < 8 → Si' i = Si i) : rTab T' Fa' Pl' Si' w := by
  obtain ⟨sn, gn, a1, a2, a3, a4, a5, a6, a7, a8, a9⟩ := H
  refine ⟨sn, gn, h3.trans a1, a2, a3, a4, h4.trans a5, a6, a7, fun i hi => ?_, fun s hs => ?_⟩
  · rw [hF i (by omega), hP i (by omega)]
    obtain ⟨b1, b2, b3⟩ := a8 i hi
    refine ⟨b1, b2, b3.imp id (fun ⟨s, s1, s2, s3⟩ => ⟨s, s1, s2, by rw [hS s (by omega)]; exact s3⟩)⟩
  · rw [hS s (by omega)]
    exact (a9 s hs).imp id (fun ⟨i, i1, i2, i3⟩ => ⟨i, i1, i2, by rw [hP i (by omega)]; exact i3⟩)
theorem rHal.arr {C Sd Jk Wt Qu C' Sd' Jk' Wt' Qu' w : Nat → Int32} (H : rHal C Sd Jk Wt Qu w) (h4 : C' 4 = C 4) (hS : ∀ i, i < 16 → Sd' i = Sd i) (hJ : ∀ i, i < 16 → Jk' i = Jk i) (hW : ∀ i, i < 16 → Wt' i = Wt i) (hQ : ∀ i, i < 96 → Qu' i = Qu i) : rHal C' Sd' Jk' Wt' Qu' w := by
  obtain ⟨n, a1, a2, a3, a4⟩ := H
  refine ⟨n, a1, h4.trans a2, a3, fun i hi => ?_⟩
  obtain ⟨b1, b2, b3, qf, b4, b5⟩ := a4 i hi
  rw [hS i (by omega), hJ i (by omega), hW i (by omega)]
  exact ⟨b1, b2, b3, qf, b4, fun f hf => by rw [hQ _ (by omega)]; exact b5 f hf⟩
theorem rBk.arr {B To La Fm Rw B' To' La' Fm' Rw' w : Nat → Int32} (H : rBk B To La Fm Rw w) (h4 : B' 4 = B 4) (h5 : B' 5 = B 5) (hT : ∀ i, i < 256 → To' i = To i) (hL : ∀ i, i < 256 → La' i = La i) (hF : ∀ i, i < 6 → Fm' i = Fm i) (hR : ∀ i, i < (B 4).toNatClampNeg * 6 → Rw' i = Rw i) : rBk B' To' La' Fm' Rw' w := by
  obtain ⟨bl, nt, k1, k2, k3, k4, k5, k6, k7, k8, k9⟩ := H
  rw [k3, n_cl (by omega)] at hR
  exact ⟨bl, nt, k1, k2, h4.trans k3, k4, h5.trans k5, k6, fun i hi => by rw [hF i hi]; exact k7 i hi, fun i hi => by rw [hR i (by omega)]; exact k8 i hi, fun p hp => by rw [hT p hp, hL p hp]; exact k9 p hp⟩
theorem evC_arr {St Nu St' Nu' F : Nat → Int32} : ∀ r i top z, (∀ k, i ≤ k → k < i + r → St' k = St k ∧ Nu' k = Nu k) → evC St' Nu' F r i top z = evC St Nu F r i top z := by
  intro r
  induction r with
  | zero => intro i top z _; rfl
  | succ r ih =>
    intro i top z h
    have e := fun t y => ih (i + 1) t y (fun k k1 k2 => h k (by omega) (by omega))
    rw [evC, evC]
    simp only [e, (h i (by omega) (by omega)).1, (h i (by omega) (by omega)).2]
theorem rLw.arr {L St Nu L' St' Nu' w : Nat → Int32} (H : rLw L St Nu w) (h3 : L' 3 = L 3) (h4 : L' 4 = L 4) (hS : ∀ i, i < (L 3).toNatClampNeg → St' i = St i) (hN : ∀ i, i < (L 3).toNatClampNeg → Nu' i = Nu i) : rLw L' St' Nu' w := by
  obtain ⟨sz, ls, a1, a2, a3, a4, a5, a6, a7⟩ := H
  rw [a3, n_cl (by omega)] at hS hN
  refine ⟨sz, ls, a1, a2, h3.trans a3, h4.trans a4, a5, fun F z => ?_, a7⟩
  rw [evC_arr sz 0 2 z (fun k _ hk => ⟨hS k (by omega), hN k (by omega)⟩)]
  exact a6 F z
theorem rMs.arr {Ho Fe Ho' Fe' w : Nat → Int32} (H : rMs Ho Fe w) (h6 : Ho' 6 = Ho 6) (h7 : Ho' 7 = Ho 7) (h8 : Ho' 8 = Ho 8) (hF : ∀ f, f < 6 → Fe' f = Fe f) : rMs Ho' Fe' w := by
  obtain ⟨⟨n, a1, a2, a3, a4⟩, ⟨m, b1, b2, b3⟩, c, d⟩ := H
  exact ⟨⟨n, a1, a2, h6.trans a3, a4⟩, ⟨m, b1, h7.trans b2, b3⟩, h8.trans c, fun f hf => (hF f hf).trans (d f hf)⟩
theorem zcpA {h : zH} {a b n : Nat} (hn : n < 2 ^ 30) (j : Nat) : zcp h a b 0 0 (nI n) b j = if j < n then h a j else h b j := by
  have := zcp_n (h := h) (a := a) (b := b) (sp := 0) (dp := 0) (n := n) (by decide) (by decide) hn j
  rw [show 0 + (j - 0) = j by omega] at this
  by_cases c : j < n
  · rw [if_pos (by omega)] at this
    rw [if_pos c]
    exact this
  · rw [if_neg (by omega)] at this
    rw [if_neg c]
    exact this
theorem zcc6 (K : zR) : zcc 6 6 (0 : Int32) (0 : Int32) (6 : Int32) K = K := zcc_n (n0 := 6) (n1 := 6) (a := 0) (b := 0) (c := 6) (by decide) (by decide) (by decide) (by decide)
theorem zcp6 (h : zH) (a b j : Nat) : zcp h a b (0 : Int32) (0 : Int32) (6 : Int32) b j = if j < 6 then h a j else h b j := zcpA (n := 6) (by decide) j
theorem zcc8 (K : zR) : zcc 8 8 (0 : Int32) (0 : Int32) (8 : Int32) K = K := zcc_n (n0 := 8) (n1 := 8) (a := 0) (b := 0) (c := 8) (by decide) (by decide) (by decide) (by decide)
theorem zcp8 (h : zH) (a b j : Nat) : zcp h a b (0 : Int32) (0 : Int32) (8 : Int32) b j = if j < 8 then h a j else h b j := zcpA (n := 8) (by decide) j
theorem zcc16 (K : zR) : zcc 16 16 (0 : Int32) (0 : Int32) (16 : Int32) K = K := zcc_n (n0 := 16) (n1 := 16) (a := 0) (b := 0) (c := 16) (by decide) (by decide) (by decide) (by decide)
theorem zcp16 (h : zH) (a b j : Nat) : zcp h a b (0 : Int32) (0 : Int32) (16 : Int32) b j = if j < 16 then h a j else h b j := zcpA (n := 16) (by decide) j
theorem zcc96 (K : zR) : zcc 96 96 (0 : Int32) (0 : Int32) (96 : Int32) K = K := zcc_n (n0 := 96) (n1 := 96) (a := 0) (b := 0) (c := 96) (by decide) (by decide) (by decide) (by decide)
theorem zcp96 (h : zH) (a b j : Nat) : zcp h a b (0 : Int32) (0 : Int32) (96 : Int32) b j = if j < 96 then h a j else h b j := zcpA (n := 96) (by decide) j
theorem zcc256 (K : zR) : zcc 256 256 (0 : Int32) (0 : Int32) (256 : Int32) K = K := zcc_n (n0 := 256) (n1 := 256) (a := 0) (b := 0) (c := 256) (by decide) (by decide) (by decide) (by decide)
theorem zcp256 (h : zH) (a b j : Nat) : zcp h a b (0 : Int32) (0 : Int32) (256 : Int32) b j = if j < 256 then h a j else h b j := zcpA (n := 256) (by decide) j
theorem cp_X3t {h : zH} : ∃ h', f_X3_copyFrom_t51_r2 h = some (0, h') ∧ (∀ c, c ≠ 51 → c ≠ 52 → c ≠ 53 → c ≠ 54 → c ≠ 55 → h' c = h c) ∧ h' 51 4 = h 2 4 ∧ (∀ j, j < 16 → h' 52 j = h 3 j) ∧ (∀ j, j < 16 → h' 53 j = h 4 j) ∧ (∀ j, j < 16 → h' 54 j = h 5 j) ∧ (∀ j, j < 96 → h' 55 j = h 6 j) := by
  unfold f_X3_copyFrom_t51_r2
  simp only [zcc16, zcc96, zst_e]
  refine ⟨_, rfl, fun c q51 q52 q53 q54 q55 => ?_, ?_, ?_, ?_, ?_, ?_⟩
  · simp (disch := assumption) only [zup_ne, zcp_ne]
  · simp (disch := decide) only [zup_ne, zcp_ne, zup_eq, pk_us, pk_un]
  · intro j hj
    simp (disch := decide) only [zup_ne, zcp_ne, zcp16, if_pos hj]
  · intro j hj
    simp (disch := decide) only [zup_ne, zcp_ne, zcp16, if_pos hj]
  · intro j hj
    simp (disch := decide) only [zup_ne, zcp_ne, zcp16, if_pos hj]
  · intro j hj
    simp (disch := decide) only [zup_ne, zcp_ne, zcp96, if_pos hj]
theorem cp_X3r {h : zH} : ∃ h', f_X3_copyFrom_r51 h = some (0, h') ∧ (∀ c, c ≠ 2 → c ≠ 3 → c ≠ 4 → c ≠ 5 → c ≠ 6 → h' c = h c) ∧ h' 2 4 = h 51 4 ∧ (∀ j, j < 16 → h' 3 j = h 52 j) ∧ (∀ j, j < 16 → h' 4 j = h 53 j) ∧ (∀ j, j < 16 → h' 5 j = h 54 j) ∧ (∀ j, j < 96 → h' 6 j = h 55 j) := by
  unfold f_X3_copyFrom_r51
  simp only [zcc16, zcc96, zst_e]
  refine ⟨_, rfl, fun c q2 q3 q4 q5 q6 => ?_, ?_, ?_, ?_, ?_, ?_⟩
  · simp (disch := assumption) only [zup_ne, zcp_ne]
  · simp (disch := decide) only [zup_ne, zcp_ne, zup_eq, pk_us, pk_un]
  · intro j hj
    simp (disch := decide) only [zup_ne, zcp_ne, zcp16, if_pos hj]
  · intro j hj
    simp (disch := decide) only [zup_ne, zcp_ne, zcp16, if_pos hj]
  · intro j hj
    simp (disch := decide) only [zup_ne, zcp_ne, zcp16, if_pos hj]
  · intro j hj
    simp (disch := decide) only [zup_ne, zcp_ne, zcp96, if_pos hj]
theorem cp_X9t {h : zH} : ∃ h', f_X9_copyFrom_t56_r7 h = some (0, h') ∧ (∀ c, c ≠ 56 → c ≠ 57 → c ≠ 58 → c ≠ 59 → h' c = h c) ∧ h' 56 3 = h 7 3 ∧ h' 56 4 = h 7 4 ∧ (∀ j, j < 8 → h' 57 j = h 8 j) ∧ (∀ j, j < 8 → h' 58 j = h 9 j) ∧ (∀ j, j < 8 → h' 59 j = h 10 j) := by
  unfold f_X9_copyFrom_t56_r7
  simp only [zcc8, zst_e]
  refine ⟨_, rfl, fun c q56 q57 q58 q59 => ?_, ?_, ?_, ?_, ?_, ?_⟩
  · simp (disch := assumption) only [zup_ne, zcp_ne]
  · simp (disch := decide) only [zup_ne, zcp_ne, zup_eq, pk_us, pk_un]
  · simp (disch := decide) only [zup_ne, zcp_ne, zup_eq, pk_us, pk_un]
  · intro j hj
    simp (disch := decide) only [zup_ne, zcp_ne, zcp8, if_pos hj]
  · intro j hj
    simp (disch := decide) only [zup_ne, zcp_ne, zcp8, if_pos hj]
  · intro j hj
    simp (disch := decide) only [zup_ne, zcp_ne, zcp8, if_pos hj]
theorem cp_X9r {h : zH} : ∃ h', f_X9_copyFrom_r56 h = some (0, h') ∧ (∀ c, c ≠ 7 → c ≠ 8 → c ≠ 9 → c ≠ 10 → h' c = h c) ∧ h' 7 3 = h 56 3 ∧ h' 7 4 = h 56 4 ∧ (∀ j, j < 8 → h' 8 j = h 57 j) ∧ (∀ j, j < 8 → h' 9 j = h 58 j) ∧ (∀ j, j < 8 → h' 10 j = h 59 j) := by
  unfold f_X9_copyFrom_r56
  simp only [zcc8, zst_e]
  refine ⟨_, rfl, fun c q7 q8 q9 q10 => ?_, ?_, ?_, ?_, ?_, ?_⟩
  · simp (disch := assumption) only [zup_ne, zcp_ne]
  · simp (disch := decide) only [zup_ne, zcp_ne, zup_eq, pk_us, pk_un]
  · simp (disch := decide) only [zup_ne, zcp_ne, zup_eq, pk_us, pk_un]
  · intro j hj
    simp (disch := decide) only [zup_ne, zcp_ne, zcp8, if_pos hj]
  · intro j hj
    simp (disch := decide) only [zup_ne, zcp_ne, zcp8, if_pos hj]
  · intro j hj
    simp (disch := decide) only [zup_ne, zcp_ne, zcp8, if_pos hj]
theorem cp_X0t {h : zH} {bl : Nat} (hb : bl ≤ 100) (hB : h 11 4 = nI bl) : ∃ h', f_X0_copyFrom_t60_r11 h = some (0, h') ∧ (∀ c, c ≠ 60 → c ≠ 61 → c ≠ 62 → c ≠ 63 → c ≠ 64 → h' c = h c) ∧ h' 60 4 = h 11 4 ∧ h' 60 5 = h 11 5 ∧ (∀ j, j < 256 → h' 61 j = h 12 j) ∧ (∀ j, j < 256 → h' 62 j = h 13 j) ∧ (∀ j, j < 6 → h' 63 j = h 14 j) ∧ (∀ j, j < bl * 6 → h' 64 j = h 15 j) := by
  unfold f_X0_copyFrom_t60_r11
  simp only [zcc256, zcc6, zst_e]
  simp (disch := decide) only [zcp_ne]
  rw [hB, show nI bl * 6 = nI (bl * 6) from n_mul bl 6]
  have zv : ∀ K, zcc 600 600 (0 : Int32) (0 : Int32) (nI (bl * 6)) K = K := fun K => zcc_n (n0 := 600) (n1 := 600) (a := 0) (b := 0) (c := bl * 6) (by omega) (by omega) (by decide) (by decide)
  rw [zv]
  refine ⟨_, rfl, fun c q60 q61 q62 q63 q64 => ?_, ?_, ?_, ?_, ?_, ?_, ?_⟩
  · simp (disch := assumption) only [zup_ne, zcp_ne]
  · simp (disch := decide) only [zup_ne, zcp_ne, zup_eq, pk_us, pk_un]
    try exact hB.symm
    try rfl
  · simp (disch := decide) only [zup_ne, zcp_ne, zup_eq, pk_us, pk_un]
  · intro j hj
    simp (disch := decide) only [zup_ne, zcp_ne, zcp256, if_pos hj]
  · intro j hj
    simp (disch := decide) only [zup_ne, zcp_ne, zcp256, if_pos hj]
  · intro j hj
    simp (disch := decide) only [zup_ne, zcp_ne, zcp6, if_pos hj]
  · intro j hj
    simp (disch := decide) only [zup_ne, zcp_ne]
    rw [zcpA (by omega), if_pos hj]
    try simp (disch := decide) only [zup_ne, zcp_ne]
theorem cp_X0r {h : zH} {bl : Nat} (hb : bl ≤ 100) (hB : h 60 4 = nI bl) : ∃ h', f_X0_copyFrom_r60 h = some (0, h') ∧ (∀ c, c ≠ 11 → c ≠ 12 → c ≠ 13 → c ≠ 14 → c ≠ 15 → h' c = h c) ∧ h' 11 4 = h 60 4 ∧ h' 11 5 = h 60 5 ∧ (∀ j, j < 256 → h' 12 j = h 61 j) ∧ (∀ j, j < 256 → h' 13 j = h 62 j) ∧ (∀ j, j < 6 → h' 14 j = h 63 j) ∧ (∀ j, j < bl * 6 → h' 15 j = h 64 j) := by
  unfold f_X0_copyFrom_r60
  simp only [zcc256, zcc6, zst_e]
  simp (disch := decide) only [zcp_ne]
  rw [hB, show nI bl * 6 = nI (bl * 6) from n_mul bl 6]
  have zv : ∀ K, zcc 600 600 (0 : Int32) (0 : Int32) (nI (bl * 6)) K = K := fun K => zcc_n (n0 := 600) (n1 := 600) (a := 0) (b := 0) (c := bl * 6) (by omega) (by omega) (by decide) (by decide)
  rw [zv]
  refine ⟨_, rfl, fun c q11 q12 q13 q14 q15 => ?_, ?_, ?_, ?_, ?_, ?_, ?_⟩
  · simp (disch := assumption) only [zup_ne, zcp_ne]
  · simp (disch := decide) only [zup_ne, zcp_ne, zup_eq, pk_us, pk_un]
    try exact hB.symm
    try rfl
  · simp (disch := decide) only [zup_ne, zcp_ne, zup_eq, pk_us, pk_un]
  · intro j hj
    simp (disch := decide) only [zup_ne, zcp_ne, zcp256, if_pos hj]
  · intro j hj
    simp (disch := decide) only [zup_ne, zcp_ne, zcp256, if_pos hj]
  · intro j hj
    simp (disch := decide) only [zup_ne, zcp_ne, zcp6, if_pos hj]
  · intro j hj
    simp (disch := decide) only [zup_ne, zcp_ne]
    rw [zcpA (by omega), if_pos hj]
    try simp (disch := decide) only [zup_ne, zcp_ne]
theorem cp_X5t {h : zH} {bl : Nat} (hb : bl ≤ 400) (hB : h 16 3 = nI bl) : ∃ h', f_X5_copyFrom_t65_r16 h = some (0, h') ∧ (∀ c, c ≠ 65 → c ≠ 66 → c ≠ 67 → h' c = h c) ∧ h' 65 3 = h 16 3 ∧ h' 65 4 = h 16 4 ∧ (∀ j, j < bl → h' 66 j = h 17 j) ∧ (∀ j, j < bl → h' 67 j = h 18 j) := by
  unfold f_X5_copyFrom_t65_r16
  simp only [zst_e]
  simp (disch := decide) only [zcp_ne]
  rw [hB]
  have zv : ∀ K, zcc 400 400 (0 : Int32) (0 : Int32) (nI bl) K = K := fun K => zcc_n (n0 := 400) (n1 := 400) (a := 0) (b := 0) (c := bl) (by omega) (by omega) (by decide) (by decide)
  rw [zv, zv]
  refine ⟨_, rfl, fun c q65 q66 q67 => ?_, ?_, ?_, ?_, ?_⟩
  · simp (disch := assumption) only [zup_ne, zcp_ne]
  · simp (disch := decide) only [zup_ne, zcp_ne, zup_eq, pk_us, pk_un]
    try exact hB.symm
    try rfl
  · simp (disch := decide) only [zup_ne, zcp_ne, zup_eq, pk_us, pk_un]
  · intro j hj
    simp (disch := decide) only [zup_ne, zcp_ne]
    rw [zcpA (by omega), if_pos hj]
    try simp (disch := decide) only [zup_ne, zcp_ne]
  · intro j hj
    simp (disch := decide) only [zup_ne, zcp_ne]
    rw [zcpA (by omega), if_pos hj]
    try simp (disch := decide) only [zup_ne, zcp_ne]
theorem cp_X5r {h : zH} {bl : Nat} (hb : bl ≤ 400) (hB : h 65 3 = nI bl) : ∃ h', f_X5_copyFrom_r65 h = some (0, h') ∧ (∀ c, c ≠ 16 → c ≠ 17 → c ≠ 18 → h' c = h c) ∧ h' 16 3 = h 65 3 ∧ h' 16 4 = h 65 4 ∧ (∀ j, j < bl → h' 17 j = h 66 j) ∧ (∀ j, j < bl → h' 18 j = h 67 j) := by
  unfold f_X5_copyFrom_r65
  simp only [zst_e]
  simp (disch := decide) only [zcp_ne]
  rw [hB]
  have zv : ∀ K, zcc 400 400 (0 : Int32) (0 : Int32) (nI bl) K = K := fun K => zcc_n (n0 := 400) (n1 := 400) (a := 0) (b := 0) (c := bl) (by omega) (by omega) (by decide) (by decide)
  rw [zv, zv]
  refine ⟨_, rfl, fun c q16 q17 q18 => ?_, ?_, ?_, ?_, ?_⟩
  · simp (disch := assumption) only [zup_ne, zcp_ne]
  · simp (disch := decide) only [zup_ne, zcp_ne, zup_eq, pk_us, pk_un]
    try exact hB.symm
    try rfl
  · simp (disch := decide) only [zup_ne, zcp_ne, zup_eq, pk_us, pk_un]
  · intro j hj
    simp (disch := decide) only [zup_ne, zcp_ne]
    rw [zcpA (by omega), if_pos hj]
    try simp (disch := decide) only [zup_ne, zcp_ne]
  · intro j hj
    simp (disch := decide) only [zup_ne, zcp_ne]
    rw [zcpA (by omega), if_pos hj]
    try simp (disch := decide) only [zup_ne, zcp_ne]
