/-! the class splits the text -/
def sF (h h' : zH) : Prop := (∀ c, c ≠ 29 → c ≠ 31 → c ≠ 32 → c ≠ 33 → h' c = h c) ∧ ∀ k, k ≠ 8 → h' 29 k = h 29 k
theorem sF.refl (h : zH) : sF h h := ⟨fun _ _ _ _ _ => rfl, fun _ _ => rfl⟩
theorem sF.trans {a b c : zH} (x : sF a b) (y : sF b c) : sF a c := ⟨fun k q1 q2 q3 q4 => (y.1 k q1 q2 q3 q4).trans (x.1 k q1 q2 q3 q4), fun k hk => (y.2 k hk).trans (x.2 k hk)⟩
theorem q_addT {h : zH} {t : Nat} (k v pl : Int32) (ht : t ≤ 400) (h8 : h 29 8 = nI t) : ∃ h', f_X7_addToken k v pl h = some (0, h') ∧ sF h h' ∧ h' 29 8 = nI (t + 1) ∧ h' 31 = upd (h 31) t k ∧ h' 32 = upd (h 32) t v ∧ h' 33 = upd (h 33) t pl := by
  unfold f_X7_addToken
  have z1 : ∀ (h : zH) c k x, c ≠ 29 → zup h c k x 29 = h 29 := fun h c k x hc => zup_ne 29 (fun z => hc z.symm)
  rw [h8, if_neg (show ¬ (400 : Int32) < nI t by rw [l_400, n_lt (by omega) (by omega)]; omega), zck_n (by omega) (by decide), n_cl (by omega), zst_e, z1 _ 31 _ _ (by decide), h8, zck_n (by omega) (by decide), n_cl (by omega), zst_e, z1 _ 32 _ _ (by decide), z1 _ 31 _ _ (by decide), h8, zck_n (by omega) (by decide), n_cl (by omega), zst_e, z1 _ 33 _ _ (by decide), z1 _ 32 _ _ (by decide), z1 _ 31 _ _ (by decide), h8, nI_1, zst_e]
  refine ⟨_, rfl, ⟨fun c q1 q2 q3 q4 => by rw [zup_ne c q1, zup_ne c q4, zup_ne c q3, zup_ne c q2], fun k hk => by rw [zup_eq, pk_un hk, z1 _ 33 _ _ (by decide), z1 _ 32 _ _ (by decide), z1 _ 31 _ _ (by decide)]⟩, by rw [zup_eq, pk_us], ?_, ?_, ?_⟩
  · rw [zup_ne 31 (by decide), zup_ne 31 (by decide), zup_ne 31 (by decide), zup_eq]
  · rw [zup_ne 32 (by decide), zup_ne 32 (by decide), zup_eq, zup_ne 32 (by decide)]
  · rw [zup_ne 33 (by decide), zup_eq, zup_ne 33 (by decide), zup_ne 33 (by decide)]
/-- what is known of a token -/
def tkOk (k : Nat) (v : Int32) : Prop := 1 ≤ k ∧ k ≤ 24 ∧ (k = 2 → ∃ n, n < 10000 ∧ v = nI n) ∧ (k ≠ 2 → k ≠ 1 → v = 0)
theorem q_take {L : Nat} {tp : Nat → Int32} {p t : Nat} {h : zH} (hL : L ≤ 400) (h5 : h 29 5 = nI L) (h30 : ∀ i, i < L → ∃ b, b < 256 ∧ h 30 i = nI b ∧ tp i = nI b) (hp : p < L) (ht : t ≤ 400) (h8 : h 29 8 = nI t) : ((tp p = 32 ∨ tp p = 10) ∧ f_X7_takeToken (nI p) h = some (nI (p + 1), h)) ∨ (∃ k v e h', p < e ∧ e ≤ L ∧ tkOk k v ∧ nxT L tp p k v p e ∧ f_X7_takeToken (nI p) h = some (nI e, h') ∧ sF h h' ∧ h' 29 8 = nI (t + 1) ∧ h' 31 = upd (h 31) t (nI k) ∧ h' 32 = upd (h 32) t v ∧ h' 33 = upd (h 33) t (nI p)) := by
  have h30' : ∀ i, i < L → h 30 i = tp i := fun i hi => by obtain ⟨b, b1, b2, b3⟩ := h30 i hi; rw [b2, b3]
  obtain ⟨b, b1, b2, b3⟩ := h30 p hp
  have hm : ¬ tp p = -1 := by rw [b3, n_m1 (by omega)]; exact id
  unfold f_X7_takeToken f_X7_takeToken_19
  rw [zck_n (by omega) (by decide), n_cl (by omega), zlt_e, h30' p hp]
  by_cases c1 : tp p = 32
  · rw [if_pos c1, nI_1]
    exact Or.inl ⟨Or.inl c1, rfl⟩
  rw [if_neg c1]
  by_cases c2 : tp p = 10
  · rw [if_pos c2, nI_1]
    exact Or.inl ⟨Or.inr c2, rfl⟩
  rw [if_neg c2]
  have nb : ¬ (tp p = 32 ∨ tp p = 10) := fun z => z.elim c1 c2
  right
  rw [q_letC, zbd_e]
  simp only [i_10]
  by_cases c3 : iL (tp p)
  · rw [if_neg (fun z => z c3)]
    obtain ⟨e, R⟩ := rn_ex iL L tp L p (by omega) (by omega)
    have hpe : p < e := by
      rcases Nat.lt_or_ge p e with z | z
      · exact z
      · have : p = e := by have := R.1; omega
        subst this
        exact absurd c3 (R.2.2.2.resolve_left (by omega))
    have nbl : ∀ i, p ≤ i → i < e → ¬ tp i = 32 := fun i i1 i2 z => by
      have := R.2.2.1 i i1 i2
      rw [z] at this
      exact absurd this (by decide)
    unfold f_X7_takeWord
    rw [q_tw2 hL h5 h30' R zN (by have := R.2.1; unfold zN; omega)]
    unfold f_X7_takeWord_28
    obtain ⟨k, W, w2⟩ := q_tw33 (h := h) hL h30' hpe R.2.1 nbl zN 0 1 (by omega) (by unfold zN; omega) (Or.inr ⟨fun u hu => by omega, rfl⟩)
    have w2 : f_X7_takeWord_33 zN (nI p) (nI e) 1 0 h = _ := w2
    rw [w2]
    obtain ⟨h', a1, a2, a3, a4, a5, a6⟩ := q_addT (nI k) 0 (nI p) ht h8
    rw [a1, zbd_e, zbd_e]
    refine ⟨k, 0, e, h', hpe, R.2.1, ⟨?_, ?_, fun z => ⟨0, by omega, rfl⟩, fun _ _ => rfl⟩, nxT_word hL hp nb hm c3 R W, rfl, a2, a3, a4, a5, a6⟩
    · rcases W with ⟨u, u1, u2, u3⟩ | ⟨-, u3⟩ <;> omega
    · rcases W with ⟨u, u1, u2, u3⟩ | ⟨-, u3⟩ <;> omega
  rw [if_pos c3, q_digC, zbd_e]
  simp only [i_10]
  by_cases c4 : iD (tp p)
  · rw [if_neg (fun z => z c4)]
    obtain ⟨e, R⟩ := rn_ex iD L tp L p (by omega) (by omega)
    have hpe : p < e := by
      rcases Nat.lt_or_ge p e with z | z
      · exact z
      · have : p = e := by have := R.1; omega
        subst this
        exact absurd c4 (R.2.2.2.resolve_left (by omega))
    unfold f_X7_takeNumber
    rw [q_tn hL h5 h30' (Nat.le_refl p) R zN 0 (by have := R.2.1; unfold zN; omega)]
    obtain ⟨h', a1, a2, a3, a4, a5, a6⟩ := q_addT (nI (if 5 ≤ e - p then 1 else 2)) (numv tp (e - p) p 0) (nI p) ht h8
    rw [a1, zbd_e, zbd_e]
    refine ⟨_, _, e, h', hpe, R.2.1, ⟨?_, ?_, fun z => ?_, fun z1 z2 => ?_⟩, nxT_num hL hp nb hm c3 c4 R, rfl, a2, a3, a4, a5, a6⟩
    · split <;> omega
    · split <;> omega
    · have : e - p ≤ 4 := by
        by_cases c : 5 ≤ e - p
        · rw [if_pos c] at z; omega
        · omega
      exact numv_n (e - p) p 0 (fun i i1 i2 => by
        obtain ⟨b, q1, q2, q3⟩ := h30 i (by have := R.2.1; omega)
        exact ⟨b, q1, q3, R.2.2.1 i i1 (by omega)⟩) (Nat.pow_pos (by omega)) this
    · exfalso
      by_cases c : 5 ≤ e - p
      · rw [if_pos c] at z2; omega
      · rw [if_neg c] at z1; omega
  rw [if_pos c4, b3, q_sign b1, zbd_e, ← b3]
  unfold f_X7_takeToken_69
  rcases nxT_sign hL hp b3 b1 nb c3 c4 with ⟨j, j1, j2, j3⟩ | ⟨j1, j2⟩
  · obtain ⟨h', a1, a2, a3, a4, a5, a6⟩ := q_addT (nI (15 + j)) 0 (nI p) ht h8
    rw [j2, if_pos (nI_pos' (by omega)), show (15 : Int32) + nI j = nI (15 + j) from n_add 15 j, a1, zbd_e, nI_1]
    exact ⟨15 + j, 0, p + 1, h', by omega, by omega, ⟨by omega, by omega, fun z => by omega, fun _ _ => rfl⟩, j3, rfl, a2, a3, a4, a5, a6⟩
  · obtain ⟨h', a1, a2, a3, a4, a5, a6⟩ := q_addT (nI 1) 0 (nI p) ht h8
    rw [if_neg j1, show (1 : Int32) = nI 1 from rfl, a1, zbd_e, n_add]
    exact ⟨1, 0, p + 1, h', by omega, by omega, ⟨by omega, by omega, fun z => by omega, fun _ z => by omega⟩, j2, rfl, a2, a3, a4, a5, a6⟩
def TK (kd : Nat → Nat) (vl : Nat → Int32) (pc : Nat → Nat) (t N : Nat) (h : zH) : Prop := ∀ i, t ≤ i → i ≤ N → h 31 i = nI (kd i) ∧ h 32 i = vl i ∧ h 33 i = nI (pc i)
theorem q_split {L : Nat} {tp : Nat → Int32} (hL : L ≤ 400) : ∀ n p t h, h 29 5 = nI L → (∀ i, i < L → ∃ b, b < 256 ∧ h 30 i = nI b ∧ tp i = nI b) → h 29 8 = nI t → t ≤ p → p ≤ L → L < n + p → ∃ (N : Nat) (kd : Nat → Nat) (vl : Nat → Int32) (pc ep : Nat → Nat) (h' : zH), f_X7_split_7 n (nI p) h = some (0, h') ∧ sF h h' ∧ t ≤ N ∧ N ≤ L ∧ h' 29 8 = nI (N + 1) ∧ TK kd vl pc t N h' ∧ (∀ i, i < t → h' 31 i = h 31 i ∧ h' 32 i = h 32 i ∧ h' 33 i = h 33 i) ∧ kd N = 0 ∧ (∀ i, t ≤ i → i < N → tkOk (kd i) (vl i)) ∧ (∀ i, t ≤ i → i ≤ N → pc i ≤ L ∧ ep i ≤ L) ∧ nxT L tp p (kd t) (vl t) (pc t) (ep t) ∧ ∀ i, t ≤ i → i < N → nxT L tp (ep i) (kd (i + 1)) (vl (i + 1)) (pc (i + 1)) (ep (i + 1)) := by
  intro n
  induction n with
  | zero => intro p t h _ _ _ _ h1 h2; omega
  | succ n ih =>
    intro p t h h5 h30 h8 htp hp hn
    simp only [f_X7_split_7, h5]
    by_cases hpL : p = L
    · subst hpL
      rw [if_pos (Int32.le_refl _)]
      obtain ⟨h', a1, a2, a3, a4, a5, a6⟩ := q_addT 0 0 (nI p) (show t ≤ 400 by omega) h8
      rw [a1, zbd_e]
      refine ⟨t, fun _ => 0, fun _ => 0, fun _ => p, fun _ => p, h', rfl, a2, Nat.le_refl _, htp, a3, fun i i1 i2 => ?_, fun i hi => ?_, rfl, fun i i1 i2 => by omega, fun i _ _ => ⟨Nat.le_refl _, Nat.le_refl _⟩, nxT_end hL, fun i i1 i2 => by omega⟩
      · have : i = t := by omega
        subst this
        rw [a4, a5, a6, pk_us, pk_us, pk_us]
        exact ⟨rfl, rfl, rfl⟩
      · rw [a4, a5, a6, pk_un (by omega), pk_un (by omega), pk_un (by omega)]
        exact ⟨rfl, rfl, rfl⟩
    rw [if_neg (by rw [n_le (by omega) (by omega)]; omega)]
    rcases q_take hL h5 h30 (show p < L by omega) (show t ≤ 400 by omega) h8 with ⟨b1, b2⟩ | ⟨k, v, e, h1, b1, b2, b3, b4, b5, b6, b7, b8, b9, b10⟩
    · rw [b2, zbd_e, nI_1, if_neg (Int32.lt_irrefl), zlt_e]
      obtain ⟨N, kd, vl, pc, ep, h', p1, p2, p3, p4, p5, p6, p7, p8, p9, p10, p11, p12⟩ := ih (p + 1) t h h5 h30 h8 (by omega) (by omega) (by omega)
      exact ⟨N, kd, vl, pc, ep, h', p1, p2, p3, p4, p5, p6, p7, p8, p9, p10, nxT_blank hL (by omega) b1 p11, p12⟩
    · have em : (if nI p + 1 < nI e then nI e else nI p + 1) = nI e := by
        rw [nI_1]
        by_cases c : p + 1 < e
        · rw [if_pos (by rw [n_lt (by omega) (by omega)]; exact c)]
        · rw [if_neg (by rw [n_lt (by omega) (by omega)]; exact c), show p + 1 = e by omega]
      rw [b5, zbd_e, em, zlt_e]
      obtain ⟨N, kd, vl, pc, ep, h', p1, p2, p3, p4, p5, p6, p7, p8, p9, p10, p11, p12⟩ := ih e (t + 1) h1 (by rw [b6.2 5 (by decide)]; exact h5) (fun i hi => by rw [b6.1 30 (by decide) (by decide) (by decide) (by decide)]; exact h30 i hi) b7 (by omega) b2 (by omega)
      refine ⟨N, fun i => if i = t then k else kd i, fun i => if i = t then v else vl i, fun i => if i = t then p else pc i, fun i => if i = t then e else ep i, h', p1, b6.trans p2, by omega, p4, p5, fun i i1 i2 => ?_, fun i hi => ?_, ?_, fun i i1 i2 => ?_, fun i i1 i2 => ?_, ?_, fun i i1 i2 => ?_⟩
      · by_cases c : i = t
        · subst c
          simp only [if_true]
          obtain ⟨q1, q2, q3⟩ := p7 i (by omega)
          rw [q1, q2, q3, b8, b9, b10, pk_us, pk_us, pk_us]
          exact ⟨rfl, rfl, rfl⟩
        · simp only [if_neg c]
          exact p6 i (by omega) i2
      · obtain ⟨q1, q2, q3⟩ := p7 i (by omega)
        rw [q1, q2, q3, b8, b9, b10, pk_un (by omega), pk_un (by omega), pk_un (by omega)]
        exact ⟨rfl, rfl, rfl⟩
      · simp only [if_neg (show ¬ N = t by omega)]
        exact p8
      · by_cases c : i = t
        · simp only [if_pos c]; exact b3
        · simp only [if_neg c]; exact p9 i (by omega) i2
      · by_cases c : i = t
        · simp only [if_pos c]; omega
        · simp only [if_neg c]; exact p10 i (by omega) i2
      · simp only [if_true]; exact b4
      · by_cases c : i = t
        · subst c
          simp only [if_true, if_neg (show ¬ i + 1 = i by omega)]
          exact p11
        · simp only [if_neg c, if_neg (show ¬ i + 1 = t by omega)]
          exact p12 i (by omega) i2
