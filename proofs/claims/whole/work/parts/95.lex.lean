/-! the text: characters -/
abbrev iL (x : Int32) : Prop := (97 ≤ x ∧ x ≤ 122) ∨ (65 ≤ x ∧ x ≤ 90)
abbrev iD (x : Int32) : Prop := 48 ≤ x ∧ x ≤ 57
theorem q_letC (x : Int32) (h : zH) : f_X7_isLetter x h = some (if iL x then 1 else 0, h) := by
  unfold f_X7_isLetter f_X7_isLetter_12 f_X7_isLetter_24 f_X7_isLetter_28
  by_cases a : x < 97
  · rw [if_pos a]
    by_cases b : x < 65
    · rw [if_pos b, if_neg (fun z => z.elim (fun z => Int32.not_lt.mpr z.1 a) (fun z => Int32.not_lt.mpr z.1 b))]
    · rw [if_neg b]
      by_cases c : (90 : Int32) < x
      · rw [if_pos c, if_neg (fun z => z.elim (fun z => Int32.not_lt.mpr z.1 a) (fun z => Int32.not_lt.mpr z.2 c))]
      · rw [if_neg c, if_pos (Or.inr ⟨Int32.not_lt.mp b, Int32.not_lt.mp c⟩)]
  · rw [if_neg a]
    have a' := Int32.not_lt.mp a
    by_cases b : x ≤ 122
    · rw [if_pos b, if_pos (Or.inl ⟨a', b⟩)]
    · rw [if_neg b]
      have c : ¬ x < 65 := fun z => a (Int32.lt_trans z (by decide))
      have d : (90 : Int32) < x := Int32.lt_of_lt_of_le (by decide) a'
      rw [if_neg c, if_pos d, if_neg (fun z => z.elim (fun z => b z.2) (fun z => Int32.not_lt.mpr z.2 d))]
theorem q_digC (x : Int32) (h : zH) : f_X7_isDigit x h = some (if iD x then 1 else 0, h) := by
  unfold f_X7_isDigit f_X7_isDigit_16
  by_cases a : x < 48
  · rw [if_pos a, if_neg (fun z => Int32.not_lt.mpr z.1 a)]
  · rw [if_neg a]
    by_cases b : (57 : Int32) < x
    · rw [if_pos b, if_neg (fun z => Int32.not_lt.mpr z.2 b)]
    · rw [if_neg b, if_pos ⟨Int32.not_lt.mp a, Int32.not_lt.mp b⟩]
theorem q_letM (x : Int32) (g : zH) : f_X12_isLetter x g = some (if iL x then 1 else 0, g) := by
  unfold f_X12_isLetter f_X12_isLetter_22
  rw [q_in, zbd_e]
  simp only [i_10]
  by_cases a : 97 ≤ x ∧ x ≤ 122
  · rw [if_neg (fun z => z a), if_pos (Or.inl a)]
  · rw [if_pos a, q_in, zbd_e]
    simp only [i_10]
    by_cases b : 65 ≤ x ∧ x ≤ 90
    · rw [if_neg (fun z => z b), if_pos (Or.inr b)]
    · rw [if_pos b, if_neg (fun z => z.elim a b)]
theorem q_digM (x : Int32) (g : zH) : f_X12_isDigit x g = some (if iD x then 1 else 0, g) := by
  unfold f_X12_isDigit
  rw [q_in, zbd_e, zbo_ite]
/-- strings -/
def zcv (i k : Nat) : Int32 := (zbyt.getD i []).getD k 0
theorem zcv_t : ∀ i, i < 14 → ∀ k, k < zlen.getD i 0 → (Int32.toUInt32 (zcv i k &&& (255 : Int32)) % 65536).toInt32 = zcv i k ∧ ¬ (zcv i k < 0 ∨ 65535 < zcv i k) := by decide +kernel
theorem zlen_t : ∀ i, i < 14 → zlen.getD i 0 ≤ 60 := by decide
theorem q_char (i k : Nat) (hi : i < 14) (hk : k < zlen.getD i 0) (h : zH) : f_J0_charAt_5068e i (nI k) h = some (zcv i k, h) := by
  have hl := zlen_t i hi
  obtain ⟨t1, t2⟩ := zcv_t i hi k hk
  unfold f_J0_charAt_5068e f_J0_isLatin1_aae02 f_J1_charAt_3b067 f_J0_checkIndex_df160 f_J3_checkIndex_8e157
  rw [if_neg (show ¬ (1 : Int32) = 0 by decide), if_pos rfl, zbd_e, if_neg (show ¬ (1 : Int32) = 0 by decide), if_neg (show ¬ nI k < 0 by rw [n_neg (by omega)]; exact id), if_pos (show nI k < Int32.ofNat (zlen.getD i 0) from nI_lt hk (by omega)), zbd_e, zbd_e, zck_n hk (by omega), n_cl (by omega), zbd_e]
  show zch (Int32.toUInt32 (zcv i k &&& (255 : Int32)) % 65536).toInt32 _ = _
  unfold zch
  rw [t1, if_neg t2]
  exact congrArg (fun v => some (v, h)) t1
theorem q_len (i : Nat) (h : zH) : f_J0_length_8abf5 i h = some (nI (zlen.getD i 0) >>> ((0 : Int32) &&& 31), h) := by
  unfold f_J0_length_8abf5 f_J0_coder_7d493
  rw [if_neg (show ¬ (1 : Int32) = 0 by decide), zbd_e]
  rfl
theorem len_t : ∀ i, i < 14 → nI (zlen.getD i 0) >>> ((0 : Int32) &&& 31) = nI (zlen.getD i 0) := by decide +kernel
theorem q_len' (i : Nat) (hi : i < 14) (h : zH) : f_J0_length_8abf5 i h = some (nI (zlen.getD i 0), h) := by
  rw [q_len, len_t i hi]
/-- signs -/
def sgx (x : Int32) : Int32 := if x = 59 then 0 else if x = 43 then 1 else if x = 45 then 2 else if x = 42 then 3 else if x = 47 then 4 else if x = 40 then 5 else if x = 41 then 6 else if x = 60 then 7 else if x = 61 then 8 else if x = 62 then 9 else -1
theorem q_idx1 (n k : Nat) (hk : k < 10) (y : Int32) (h : zH) : f_J1_indexOfChar_4cfef_7 (n + 1) 1 (nI 10) y (nI k) h = if zcv 1 k = y then some (nI k, h) else f_J1_indexOfChar_4cfef_7 n 1 (nI 10) y (nI (k + 1)) h := by
  simp only [f_J1_indexOfChar_4cfef_7]
  rw [if_neg (by rw [n_le (by omega) (by omega)]; omega), zck_n (show k < zlen.getD 1 0 from hk) (by decide), n_cl (by omega), zlt_e, nI_1]
  rfl
theorem q_idxE (n : Nat) (y : Int32) (h : zH) : f_J1_indexOfChar_4cfef_7 (n + 1) 1 (nI 10) y (nI 10) h = some (-1, h) := by
  simp only [f_J1_indexOfChar_4cfef_7]
  rw [if_pos (Int32.le_refl _)]
theorem q_idx10 (m : Nat) (y : Int32) (h : zH) : f_J1_indexOfChar_4cfef_7 (m + 11) 1 (nI 10) y (nI 0) h = some (sgx y, h) := by
  have e : ∀ (a : Int32), (a = y) = (y = a) := fun a => propext ⟨Eq.symm, Eq.symm⟩
  rw [q_idx1 (m + 10) 0 (by omega), q_idx1 (m + 9) 1 (by omega), q_idx1 (m + 8) 2 (by omega), q_idx1 (m + 7) 3 (by omega), q_idx1 (m + 6) 4 (by omega), q_idx1 (m + 5) 5 (by omega), q_idx1 (m + 4) 6 (by omega), q_idx1 (m + 3) 7 (by omega), q_idx1 (m + 2) 8 (by omega), q_idx1 (m + 1) 9 (by omega), q_idxE m]
  simp only [show zcv 1 0 = 59 from rfl, show zcv 1 1 = 43 from rfl, show zcv 1 2 = 45 from rfl, show zcv 1 3 = 42 from rfl, show zcv 1 4 = 47 from rfl, show zcv 1 5 = 40 from rfl, show zcv 1 6 = 41 from rfl, show zcv 1 7 = 60 from rfl, show zcv 1 8 = 61 from rfl, show zcv 1 9 = 62 from rfl, e]
  unfold sgx
  by_cases c0 : y = 59
  · simp only [if_pos c0]; rfl
  simp only [if_neg c0]
  by_cases c1 : y = 43
  · simp only [if_pos c1]; rfl
  simp only [if_neg c1]
  by_cases c2 : y = 45
  · simp only [if_pos c2]; rfl
  simp only [if_neg c2]
  by_cases c3 : y = 42
  · simp only [if_pos c3]; rfl
  simp only [if_neg c3]
  by_cases c4 : y = 47
  · simp only [if_pos c4]; rfl
  simp only [if_neg c4]
  by_cases c5 : y = 40
  · simp only [if_pos c5]; rfl
  simp only [if_neg c5]
  by_cases c6 : y = 41
  · simp only [if_pos c6]; rfl
  simp only [if_neg c6]
  by_cases c7 : y = 60
  · simp only [if_pos c7]; rfl
  simp only [if_neg c7]
  by_cases c8 : y = 61
  · simp only [if_pos c8]; rfl
  simp only [if_neg c8]
  by_cases c9 : y = 62
  · simp only [if_pos c9]; rfl
  simp only [if_neg c9]
theorem sgx_8 : ∀ b, b < 256 → sgx (Int32.toInt8 (nI b)).toInt32 = sgx (nI b) := by decide +kernel
theorem q_sign {b : Nat} (hb : b < 256) (h : zH) : f_J0_indexOf_0f7a4 1 (nI b) h = some (sgx (nI b), h) := by
  unfold f_J0_indexOf_0f7a4 f_J0_indexOf_7cf53 f_J0_isLatin1_aae02 f_J1_indexOf_4cfef f_J1_canEncode_9a6ad f_J1_canEncode_9a6ad_15 f_J1_indexOfChar_4cfef
  rw [if_neg (show ¬ (1 : Int32) = 0 by decide), if_pos rfl, zbd_e, if_neg (show ¬ (1 : Int32) = 0 by decide), q_len' 1 (by decide), zbd_e, if_neg (show ¬ nI b < 0 by rw [n_neg (by omega)]; exact id), if_neg (show ¬ (255 : Int32) < nI b by rw [show (255 : Int32) = nI 255 from rfl, n_lt (by omega) (by omega)]; omega), zbd_e, if_neg (show ¬ (1 : Int32) = 0 by decide)]
  simp only [zlt_e]
  rw [if_neg (show ¬ (0 : Int32) < 0 by decide), if_neg (show ¬ Int32.ofNat (zlen.getD 1 0) < nI (zlen.getD 1 0) from Int32.lt_irrefl), if_pos (show (0 : Int32) < nI (zlen.getD 1 0) by decide)]
  have e := q_idx10 4085 (Int32.toInt8 (nI b)).toInt32 h
  have e : f_J1_indexOfChar_4cfef_7 zN 1 (nI (zlen.getD 1 0)) (Int32.toInt8 (nI b)).toInt32 0 h = some (sgx (Int32.toInt8 (nI b)).toInt32, h) := e
  rw [e, zbd_e, zbd_e, zbd_e, sgx_8 b hb]
/-! the reference's tokens -/
def mk (k : Nat) : Nat := if k = 3 then 20 else if k = 4 then 3 else if k = 5 then 4 else if k = 6 then 5 else if k = 7 then 6 else if 8 ≤ k ∧ k ≤ 14 then k + 33 else if k = 15 then 159 else if k = 16 then 143 else if k = 17 then 145 else if k = 18 then 142 else if k = 19 then 147 else if k = 20 then 140 else if k = 21 then 141 else if 22 ≤ k ∧ k ≤ 24 then k + 138 else k
def tpM (L : Nat) (tp : Nat → Int32) (g : zH) : Prop := g 100 13 = nI L ∧ ∀ i, i < L → g 107 i = tp i
def gK (g g' : zH) : Prop := (∀ c, c ≠ 100 → g' c = g c) ∧ ∀ j, (j < 14 ∨ 17 < j) → g' 100 j = g 100 j
theorem gK.refl (g : zH) : gK g g := ⟨fun _ _ => rfl, fun _ _ => rfl⟩
theorem gK.trans {a b c : zH} (x : gK a b) (y : gK b c) : gK a c := ⟨fun k hk => (y.1 k hk).trans (x.1 k hk), fun k hk => (y.2 k hk).trans (x.2 k hk)⟩
theorem tpM.mv {L : Nat} {tp : Nat → Int32} {g g' : zH} (H : tpM L tp g) (f : gK g g') : tpM L tp g' := ⟨by rw [f.2 13 (by omega)]; exact H.1, by rw [f.1 107 (by decide)]; exact H.2⟩
def tkS (k : Nat) (v : Int32) (pl e : Nat) (g : zH) : Prop := g 100 15 = nI (mk k) ∧ g 100 16 = nI pl ∧ g 100 14 = nI e ∧ (k = 2 → g 100 17 = v)
def nxT (L : Nat) (tp : Nat → Int32) (q k : Nat) (v : Int32) (pl e : Nat) : Prop := ∀ n g, tpM L tp g → g 100 14 = nI q → L < n + q → ∃ g', f_X12_next0_0 n g = some (0, g') ∧ gK g g' ∧ tkS k v pl e g'
theorem q_see {L p : Nat} {tp : Nat → Int32} {g : zH} (H : tpM L tp g) (hL : L ≤ 400) (hp : p ≤ L) : f_X12_see (nI p) g = some (if p < L then tp p else -1, g) := by
  unfold f_X12_see
  rw [H.1]
  by_cases c : p < L
  · rw [if_neg (by rw [n_le (by omega) (by omega)]; omega), if_pos c, zck_n (by omega) (by decide), n_cl (by omega), H.2 p c]
  · rw [if_pos (by rw [n_le (by omega) (by omega)]; omega), if_neg c]
theorem gK1 (g : zH) (j : Nat) (x : Int32) (hj : 14 ≤ j ∧ j ≤ 17) : gK g (zup g 100 j x) := ⟨fun c hc => zup_ne c hc, fun k hk => by rw [zup_eq, pk_un (by omega)]⟩
/-- a blank is passed over -/
theorem nxT_blank {L : Nat} {tp : Nat → Int32} {q k pl e : Nat} {v : Int32} (hL : L ≤ 400) (hq : q < L) (hb : tp q = 32 ∨ tp q = 10) (H : nxT L tp (q + 1) k v pl e) : nxT L tp q k v pl e := by
  intro n g T g14 hn
  obtain ⟨n, rfl⟩ : ∃ m, n = m + 1 := ⟨n - 1, by omega⟩
  have K1 := gK1 g 14 (nI (q + 1)) (by omega)
  obtain ⟨g', p1, p2, p3⟩ := H n (zup g 100 14 (nI (q + 1))) (T.mv K1) (by rw [zup_eq, pk_us]) (by omega)
  refine ⟨g', ?_, K1.trans p2, p3⟩
  rw [← p1]
  simp only [f_X12_next0_0, f_X12_next0_26]
  rw [g14, q_see T hL (by omega), zbd_e, if_pos hq]
  rcases hb with hb | hb
  · rw [if_pos hb, g14, nI_1, zst_e]
  · rw [if_neg (by rw [hb]; decide), g14, q_see T hL (by omega), zbd_e, if_pos hq, if_pos hb, g14, nI_1, zst_e]
/-- the head of next0 where no blank stands -/
theorem nx_head {L : Nat} {tp : Nat → Int32} {q n : Nat} {g : zH} (hL : L ≤ 400) (hq : q < L) (hb : ¬ (tp q = 32 ∨ tp q = 10)) (hm : ¬ tp q = -1) (T : tpM L tp g) (g14 : g 100 14 = nI q) : f_X12_next0_0 (n + 1) g = (if iL (tp q) then f_X12_next0_76 zN (zup g 100 16 (nI q)) else if iD (tp q) then f_X12_next0_126 zN (zup (zup g 100 16 (nI q)) 100 17 0) else (zst (zup (zup g 100 16 (nI q)) 100 14 (nI (q + 1))) fun h13 => (if 0 ≤ sgx (tp q) then f_X12_next0_284 (tp q) h13 else f_X12_next0_289 (tp q) 0 h13))) := by
  have K1 := gK1 g 16 (nI q) (by omega)
  have T1 := T.mv K1
  have e14 : zup g 100 16 (nI q) 100 14 = nI q := by rw [zup_eq, pk_un (by decide)]; exact g14
  simp only [f_X12_next0_0]
  rw [g14, q_see T hL (by omega), zbd_e, if_pos hq, if_neg (fun z => hb (Or.inl z)), g14, q_see T hL (by omega), zbd_e, if_pos hq, if_neg (fun z => hb (Or.inr z)), g14, zst_e, e14, q_see T1 hL (by omega), zbd_e, if_pos hq, if_neg hm, q_letM, zbd_e]
  simp only [i_10]
  by_cases c : iL (tp q)
  · rw [if_neg (fun z => z c), if_pos c]
  · rw [if_pos c, if_neg c, q_digM, zbd_e]
    simp only [i_10]
    by_cases d : iD (tp q)
    · rw [if_neg (fun z => z d), if_pos d, zst_e]
    · rw [if_pos d, if_neg d, e14, nI_1]
      simp only [zst_e]
      generalize zup (zup g 100 16 (nI q)) 100 14 (nI (q + 1)) = X
      generalize tp q = x
      unfold sgx
      by_cases c0 : x = 59
      · simp only [if_pos c0]; rw [if_pos (by decide)]
      simp only [if_neg c0]
      by_cases c1 : x = 43
      · simp only [if_pos c1]; rw [if_pos (by decide)]
      simp only [if_neg c1]
      by_cases c2 : x = 45
      · simp only [if_pos c2]; rw [if_pos (by decide)]
      simp only [if_neg c2]
      by_cases c3 : x = 42
      · simp only [if_pos c3]; rw [if_pos (by decide)]
      simp only [if_neg c3]
      by_cases c4 : x = 47
      · simp only [if_pos c4]; rw [if_pos (by decide)]
      simp only [if_neg c4]
      by_cases c5 : x = 40
      · simp only [if_pos c5]; rw [if_pos (by decide)]
      simp only [if_neg c5]
      by_cases c6 : x = 41
      · simp only [if_pos c6]; rw [if_pos (by decide)]
      simp only [if_neg c6]
      by_cases c7 : x = 60
      · simp only [if_pos c7]; rw [if_pos (by decide)]
      simp only [if_neg c7]
      by_cases c8 : x = 61
      · simp only [if_pos c8]; rw [if_pos (by decide)]
      simp only [if_neg c8]
      by_cases c9 : x = 62
      · simp only [if_pos c9]; rw [if_pos (by decide)]
      simp only [if_neg c9]
      rw [if_neg (by decide)]
/-- the end -/
theorem nxT_end {L : Nat} {tp : Nat → Int32} (hL : L ≤ 400) : nxT L tp L 0 0 L L := by
  intro n g T g14 hn
  obtain ⟨n, rfl⟩ : ∃ m, n = m + 1 := ⟨n - 1, by omega⟩
  have K1 := gK1 g 16 (nI L) (by omega)
  have T1 := T.mv K1
  have e14 : zup g 100 16 (nI L) 100 14 = nI L := by rw [zup_eq, pk_un (by decide)]; exact g14
  have lt : ¬ L < L := by omega
  refine ⟨zup (zup g 100 16 (nI L)) 100 15 0, ?_, K1.trans (gK1 _ 15 0 (by omega)), by rw [zup_eq, pk_us]; rfl, by rw [zup_eq, pk_un (by decide), zup_eq, pk_us], by rw [zup_eq, pk_un (by decide)]; exact e14, fun z => by omega⟩
  simp only [f_X12_next0_0]
  rw [g14, q_see T hL (by omega), zbd_e, if_neg lt, if_neg (show ¬ (-1 : Int32) = 32 by decide), g14, q_see T hL (by omega), zbd_e, if_neg lt, if_neg (show ¬ (-1 : Int32) = 10 by decide), g14, zst_e, e14, q_see T1 hL (by omega), zbd_e, if_neg lt, if_pos rfl, zst_e]
/-- a sign -/
theorem sg_k : ∀ b, b < 256 → 0 ≤ sgx (nI b) → ∃ j, j < 10 ∧ sgx (nI b) = nI j ∧ (100 : Int32) + nI b = nI (mk (15 + j)) := by decide +kernel
theorem nxT_sign {L : Nat} {tp : Nat → Int32} {q b : Nat} (hL : L ≤ 400) (hq : q < L) (hb : tp q = nI b) (b256 : b < 256) (nb : ¬ (tp q = 32 ∨ tp q = 10)) (nl : ¬ iL (tp q)) (nd : ¬ iD (tp q)) : (∃ j, j < 10 ∧ sgx (tp q) = nI j ∧ nxT L tp q (15 + j) 0 q (q + 1)) ∨ (¬ 0 ≤ sgx (tp q) ∧ nxT L tp q 1 0 q (q + 1)) := by
  have hm : ¬ tp q = -1 := by rw [hb, n_m1 (by omega)]; exact id
  by_cases s : 0 ≤ sgx (tp q)
  · rw [hb] at s
    obtain ⟨j, j1, j2, j3⟩ := sg_k b b256 s
    refine Or.inl ⟨j, j1, by rw [hb]; exact j2, ?_⟩
    intro n g T g14 hn
    obtain ⟨n, rfl⟩ : ∃ m, n = m + 1 := ⟨n - 1, by omega⟩
    rw [nx_head hL hq nb hm T g14, if_neg nl, if_neg nd, zst_e, hb, if_pos s]
    unfold f_X12_next0_284 f_X12_next0_289 f_X12_next0_303
    rw [if_neg (show ¬ (1 : Int32) = 0 by decide), zst_e, j3]
    exact ⟨_, rfl, (gK1 _ 16 _ (by omega)).trans ((gK1 _ 14 _ (by omega)).trans (gK1 _ 15 _ (by omega))), by rw [zup_eq, pk_us], by rw [zup_eq, pk_un (by decide), zup_eq, pk_un (by decide), zup_eq, pk_us], by rw [zup_eq, pk_un (by decide), zup_eq, pk_us], fun z => by omega⟩
  · refine Or.inr ⟨s, ?_⟩
    intro n g T g14 hn
    obtain ⟨n, rfl⟩ : ∃ m, n = m + 1 := ⟨n - 1, by omega⟩
    rw [nx_head hL hq nb hm T g14, if_neg nl, if_neg nd, zst_e, if_neg s]
    unfold f_X12_next0_289 f_X12_next0_303
    rw [if_pos rfl, zst_e]
    exact ⟨_, rfl, (gK1 _ 16 _ (by omega)).trans ((gK1 _ 14 _ (by omega)).trans (gK1 _ 15 _ (by omega))), by rw [zup_eq, pk_us]; rfl, by rw [zup_eq, pk_un (by decide), zup_eq, pk_un (by decide), zup_eq, pk_us], by rw [zup_eq, pk_un (by decide), zup_eq, pk_us], fun z => by omega⟩
