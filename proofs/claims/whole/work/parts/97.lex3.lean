/-! words and numbers as tokens -/
def wkd (tp : Nat → Int32) (p e k : Nat) : Prop := (∃ u, u < 12 ∧ wmt tp p e u ∧ k = 3 + u) ∨ ((∀ u, u < 12 → ¬ wmt tp p e u) ∧ k = 1)
theorem wkd_un {tp : Nat → Int32} {p e k l : Nat} (a : wkd tp p e k) (b : wkd tp p e l) : k = l := by
  rcases a with ⟨u, u1, u2, u3⟩ | ⟨a1, a2⟩ <;> rcases b with ⟨w, w1, w2, w3⟩ | ⟨b1, b2⟩
  · have := wmt_un u1 w1 u2 w2; omega
  · exact absurd u2 (b1 u u1)
  · exact absurd w2 (a1 w w1)
  · omega
theorem q_word {L : Nat} {tp : Nat → Int32} {p e : Nat} {g : zH} (hL : L ≤ 400) (T : tpM L tp g) (g14 : g 100 14 = nI e) (g16 : g 100 16 = nI p) (hp : p ≤ e) (he : e ≤ L) : ∃ k, wkd tp p e k ∧ f_X12_word g = some (nI (mk k), g) := by
  have J := fun w i (hw : w < 12) hi (h14 : i < 14) => q_isw hL T g14 g16 hp he w i hw hi h14
  have i10 : ¬ (1 : Int32) = 0 := by decide
  have yes : ∀ u, u < 12 → wmt tp p e u → wkd tp p e (3 + u) := fun u h1 h2 => Or.inl ⟨u, h1, h2, rfl⟩
  unfold f_X12_word f_X12_nameWord
  rcases J 1 2 (by decide) rfl (by decide) with ⟨a, b⟩ | ⟨a, n1⟩
  · exact ⟨_, yes 1 (by omega) b, by rw [a, zbd_e, if_neg i10]; rfl⟩
  rw [a, zbd_e, if_pos rfl]
  rcases J 2 3 (by decide) rfl (by decide) with ⟨a, b⟩ | ⟨a, n2⟩
  · exact ⟨_, yes 2 (by omega) b, by rw [a, zbd_e, if_neg i10]; rfl⟩
  rw [a, zbd_e, if_pos rfl]
  rcases J 3 4 (by decide) rfl (by decide) with ⟨a, b⟩ | ⟨a, n3⟩
  · exact ⟨_, yes 3 (by omega) b, by rw [a, zbd_e, if_neg i10]; rfl⟩
  rw [a, zbd_e, if_pos rfl]
  rcases J 4 5 (by decide) rfl (by decide) with ⟨a, b⟩ | ⟨a, n4⟩
  · exact ⟨_, yes 4 (by omega) b, by rw [a, zbd_e, if_neg i10]; rfl⟩
  rw [a, zbd_e, if_pos rfl]
  rcases J 0 6 (by decide) rfl (by decide) with ⟨a, b⟩ | ⟨a, n0⟩
  · exact ⟨_, yes 0 (by omega) b, by rw [a, zbd_e, if_neg i10]; rfl⟩
  rw [a, zbd_e, if_pos rfl]
  rcases J 5 7 (by decide) rfl (by decide) with ⟨a, b⟩ | ⟨a, n5⟩
  · exact ⟨_, yes 5 (by omega) b, by rw [a, zbd_e, if_neg i10, zbd_e]; rfl⟩
  rw [a, zbd_e, if_pos rfl]
  rcases J 6 8 (by decide) rfl (by decide) with ⟨a, b⟩ | ⟨a, n6⟩
  · exact ⟨_, yes 6 (by omega) b, by rw [a, zbd_e, if_neg i10, zbd_e]; rfl⟩
  rw [a, zbd_e, if_pos rfl]
  rcases J 7 9 (by decide) rfl (by decide) with ⟨a, b⟩ | ⟨a, n7⟩
  · exact ⟨_, yes 7 (by omega) b, by rw [a, zbd_e, if_neg i10, zbd_e]; rfl⟩
  rw [a, zbd_e, if_pos rfl]
  rcases J 8 10 (by decide) rfl (by decide) with ⟨a, b⟩ | ⟨a, n8⟩
  · exact ⟨_, yes 8 (by omega) b, by rw [a, zbd_e, if_neg i10, zbd_e]; rfl⟩
  rw [a, zbd_e, if_pos rfl]
  rcases J 9 11 (by decide) rfl (by decide) with ⟨a, b⟩ | ⟨a, n9⟩
  · exact ⟨_, yes 9 (by omega) b, by rw [a, zbd_e, if_neg i10, zbd_e]; rfl⟩
  rw [a, zbd_e, if_pos rfl]
  rcases J 10 12 (by decide) rfl (by decide) with ⟨a, b⟩ | ⟨a, n10⟩
  · exact ⟨_, yes 10 (by omega) b, by rw [a, zbd_e, if_neg i10, zbd_e]; rfl⟩
  rw [a, zbd_e, if_pos rfl]
  rcases J 11 13 (by decide) rfl (by decide) with ⟨a, b⟩ | ⟨a, n11⟩
  · exact ⟨_, yes 11 (by omega) b, by rw [a, zbd_e, if_neg i10, zbd_e]; rfl⟩
  rw [a, zbd_e, if_pos rfl, zbd_e]
  refine ⟨1, Or.inr ⟨fun u hu => ?_, rfl⟩, rfl⟩
  have : u = 0 ∨ u = 1 ∨ u = 2 ∨ u = 3 ∨ u = 4 ∨ u = 5 ∨ u = 6 ∨ u = 7 ∨ u = 8 ∨ u = 9 ∨ u = 10 ∨ u = 11 := by omega
  rcases this with rfl | rfl | rfl | rfl | rfl | rfl | rfl | rfl | rfl | rfl | rfl | rfl <;> assumption
theorem nxT_word {L : Nat} {tp : Nat → Int32} {q e k : Nat} (hL : L ≤ 400) (hq : q < L) (nb : ¬ (tp q = 32 ∨ tp q = 10)) (hm : ¬ tp q = -1) (hl : iL (tp q)) (R : rn iL L tp q e) (W : wkd tp q e k) : nxT L tp q k 0 q e := by
  intro n g T g14 hn
  obtain ⟨n, rfl⟩ : ∃ m, n = m + 1 := ⟨n - 1, by omega⟩
  have K1 := gK1 g 16 (nI q) (by omega)
  rw [nx_head hL hq nb hm T g14, if_pos hl]
  obtain ⟨g1, p1, p2, p3, p4⟩ := q_76 hL R zN (zup g 100 16 (nI q)) (T.mv K1) (by rw [zup_eq, pk_un (by decide)]; exact g14) (by have := R.2.1; unfold zN; omega)
  have K2 : gK (zup g 100 16 (nI q)) g1 := ⟨p2, fun j hj => p3 j (by omega)⟩
  have g16 : g1 100 16 = nI q := by rw [p3 16 (by decide), zup_eq, pk_us]
  obtain ⟨k', W', w2⟩ := q_word hL ((T.mv K1).mv K2) p4 g16 R.1 R.2.1
  have := wkd_un W W'
  subst this
  rw [p1, w2, zbd_e, zst_e]
  refine ⟨_, rfl, K1.trans (K2.trans (gK1 _ 15 _ (by omega))), by rw [zup_eq, pk_us], by rw [zup_eq, pk_un (by decide)]; exact g16, by rw [zup_eq, pk_un (by decide)]; exact p4, fun z => ?_⟩
  rcases W with ⟨u, u1, u2, u3⟩ | ⟨-, u3⟩ <;> omega
def numv (tp : Nat → Int32) : Nat → Nat → Int32 → Int32
  | 0, _, a => a
  | k + 1, p, a => numv tp k (p + 1) (a * 10 + tp p - 48)
theorem q_126 {L : Nat} {tp : Nat → Int32} {p q e : Nat} (hL : L ≤ 400) (hqp : q ≤ p) (R : rn iD L tp p e) : ∀ n g, tpM L tp g → g 100 14 = nI p → g 100 16 = nI q → e < n + p → ∃ g', f_X12_next0_126 n g = f_X12_next0_208 (if 5 ≤ e - q then 1 else 2) g' ∧ gK g g' ∧ g' 100 14 = nI e ∧ g' 100 16 = nI q ∧ (e - q ≤ 4 → g' 100 17 = numv tp (e - p) p (g 100 17)) := by
  intro n
  induction n generalizing p with
  | zero => intro g _ _ _ h; have := R.1; omega
  | succ n ih =>
    intro g T g14 g16 hn
    obtain ⟨r1, r2, r3, r4⟩ := R
    simp only [f_X12_next0_126, f_X12_next0_176]
    rw [g14, q_see T hL (by omega), zbd_e]
    by_cases c : p = e
    · subst c
      have nl : ¬ iD (if p < L then tp p else -1) := by
        by_cases d : p < L
        · rw [if_pos d]; exact r4.resolve_left (by omega)
        · rw [if_neg d]; decide
      rw [q_digM, zbd_e, if_neg nl, if_pos rfl, g14, g16, n_sub hqp]
      refine ⟨g, ?_, gK.refl g, g14, g16, fun _ => by rw [Nat.sub_self]; rfl⟩
      by_cases d : 5 ≤ p - q
      · rw [if_pos (show (5 : Int32) ≤ nI (p - q) by rw [l_5, n_le (by omega) (by omega)]; exact d), if_pos d]
      · rw [if_neg (show ¬ (5 : Int32) ≤ nI (p - q) by rw [l_5, n_le (by omega) (by omega)]; exact d), if_neg d]
    · rw [if_pos (show p < L by omega), q_digM, zbd_e, if_pos (r3 p (by omega) (by omega)), if_neg (show ¬ (1 : Int32) = 0 by decide), g14, g16, show nI q + 4 = nI (q + 4) from n_add q 4]
      have R' : rn iD L tp (p + 1) e := ⟨by omega, r2, fun i i1 i2 => r3 i (by omega) i2, r4⟩
      by_cases d : q + 4 ≤ p
      · rw [if_pos (show nI (q + 4) ≤ nI p by rw [n_le (by omega) (by omega)]; exact d), nI_1, zst_e]
        obtain ⟨g', p1, p2, p3, p4, p5⟩ := ih (p := p + 1) (by omega) R' (zup g 100 14 (nI (p + 1))) (T.mv (gK1 g 14 _ (by omega))) (by rw [zup_eq, pk_us]) (by rw [zup_eq, pk_un (by decide)]; exact g16) (by omega)
        exact ⟨g', p1, (gK1 g 14 _ (by omega)).trans p2, p3, p4, fun z => by omega⟩
      · rw [if_neg (show ¬ nI (q + 4) ≤ nI p by rw [n_le (by omega) (by omega)]; exact d), q_see T hL (by omega), zbd_e, if_pos (show p < L by omega), zst_e, zup_eq, pk_un (by decide), g14, nI_1, zst_e]
        have K2 : gK g (zup (zup g 100 17 (10 * g 100 17 + tp p - 48)) 100 14 (nI (p + 1))) := (gK1 g 17 _ (by omega)).trans (gK1 _ 14 _ (by omega))
        obtain ⟨g', p1, p2, p3, p4, p5⟩ := ih (p := p + 1) (by omega) R' (zup (zup g 100 17 (10 * g 100 17 + tp p - 48)) 100 14 (nI (p + 1))) (T.mv K2) (by rw [zup_eq, pk_us]) (by rw [zup_eq, pk_un (by decide), zup_eq, pk_un (by decide)]; exact g16) (by omega)
        refine ⟨g', p1, K2.trans p2, p3, p4, fun z => ?_⟩
        rw [p5 z, zup_eq, pk_un (by decide), zup_eq, pk_us]
        obtain ⟨m, hm⟩ : ∃ m, e - p = m + 1 := ⟨e - p - 1, by omega⟩
        rw [hm, show e - (p + 1) = m by omega, Int32.mul_comm]
        rfl
theorem nxT_num {L : Nat} {tp : Nat → Int32} {q e : Nat} (hL : L ≤ 400) (hq : q < L) (nb : ¬ (tp q = 32 ∨ tp q = 10)) (hm : ¬ tp q = -1) (nl : ¬ iL (tp q)) (hd : iD (tp q)) (R : rn iD L tp q e) : nxT L tp q (if 5 ≤ e - q then 1 else 2) (numv tp (e - q) q 0) q e := by
  intro n g T g14 hn
  obtain ⟨n, rfl⟩ : ∃ m, n = m + 1 := ⟨n - 1, by omega⟩
  have K1 := (gK1 g 16 (nI q) (by omega)).trans (gK1 _ 17 0 (by omega))
  rw [nx_head hL hq nb hm T g14, if_neg nl, if_pos hd]
  obtain ⟨g1, p1, p2, p3, p4, p5⟩ := q_126 hL (Nat.le_refl q) R zN (zup (zup g 100 16 (nI q)) 100 17 0) (T.mv K1) (by rw [zup_eq, pk_un (by decide), zup_eq, pk_un (by decide)]; exact g14) (by rw [zup_eq, pk_un (by decide), zup_eq, pk_us]) (by have := R.2.1; unfold zN; omega)
  rw [p1]
  unfold f_X12_next0_208
  rw [zst_e]
  refine ⟨_, rfl, K1.trans (p2.trans (gK1 _ 15 _ (by omega))), ?_, by rw [zup_eq, pk_un (by decide)]; exact p4, by rw [zup_eq, pk_un (by decide)]; exact p3, fun z => ?_⟩
  · rw [zup_eq, pk_us]
    by_cases c : 5 ≤ e - q
    · rw [if_pos c, if_pos c]; rfl
    · rw [if_neg c, if_neg c]; rfl
  · have : e - q ≤ 4 := by
      by_cases c : 5 ≤ e - q
      · rw [if_pos c] at z; omega
      · omega
    rw [zup_eq, pk_un (by decide), p5 this, zup_eq, pk_us]
theorem q_tn {L : Nat} {tp : Nat → Int32} {p q e : Nat} {h : zH} (hL : L ≤ 400) (h5 : h 29 5 = nI L) (h30 : ∀ i, i < L → h 30 i = tp i) (hqp : q ≤ p) (R : rn iD L tp p e) : ∀ n a, e < n + p → f_X7_takeNumber_4 n (nI q) (nI p) a h = (zbd (f_X7_addToken (nI (if 5 ≤ e - q then 1 else 2)) (numv tp (e - p) p a) (nI q) h) fun r1 h2 => (some (nI e, h2))) := by
  intro n
  induction n generalizing p with
  | zero => intro a h; have := R.1; omega
  | succ n ih =>
    intro a hn
    obtain ⟨r1, r2, r3, r4⟩ := R
    simp only [f_X7_takeNumber_4, h5]
    have fin : p = e → f_X7_takeNumber_45 (nI q) (nI p) a h = (zbd (f_X7_addToken (nI (if 5 ≤ e - q then 1 else 2)) (numv tp (e - p) p a) (nI q) h) fun r1 h2 => (some (nI e, h2))) := by
      intro c
      subst c
      unfold f_X7_takeNumber_45 f_X7_takeNumber_58
      rw [n_sub hqp, Nat.sub_self]
      by_cases d : 5 ≤ p - q
      · rw [if_neg (show ¬ nI (p - q) ≤ 4 by rw [l_4, n_le (by omega) (by omega)]; omega), if_pos d]; rfl
      · rw [if_pos (show nI (p - q) ≤ 4 by rw [l_4, n_le (by omega) (by omega)]; omega), if_neg d]; rfl
    by_cases c : p = e
    · by_cases d : p < L
      · rw [if_neg (by rw [n_le (by omega) (by omega)]; omega), zck_n (by omega) (by decide), n_cl (by omega), h30 p d, q_digC, zbd_e, if_neg (show ¬ iD (tp p) by rw [c]; exact r4.resolve_left (by omega)), if_pos rfl]
        exact fin c
      · rw [if_pos (by rw [n_le (by omega) (by omega)]; omega)]
        exact fin c
    · rw [if_neg (by rw [n_le (by omega) (by omega)]; omega), zck_n (by omega) (by decide), n_cl (by omega), h30 p (by omega), q_digC, zbd_e, if_pos (r3 p (by omega) (by omega)), if_neg (show ¬ (1 : Int32) = 0 by decide), zck_n (by omega) (by decide), h30 p (by omega), zlt_e, zlt_e, nI_1]
      obtain ⟨m, hm⟩ : ∃ m, e - p = m + 1 := ⟨e - p - 1, by omega⟩
      rw [ih (p := p + 1) (by omega) ⟨by omega, r2, fun i i1 i2 => r3 i (by omega) i2, r4⟩ _ (by omega), hm, show e - (p + 1) = m by omega]
      rfl
theorem dg_n : ∀ b, b < 256 → iD (nI b) → 48 ≤ b ∧ b ≤ 57 := by decide +kernel
theorem numv_n {tp : Nat → Int32} : ∀ k p n, (∀ i, p ≤ i → i < p + k → ∃ b, b < 256 ∧ tp i = nI b ∧ iD (tp i)) → n < 10 ^ (4 - k) → k ≤ 4 → ∃ v, v < 10000 ∧ numv tp k p (nI n) = nI v := by
  intro k
  induction k with
  | zero => intro p n _ hn _; exact ⟨n, by simpa using hn, rfl⟩
  | succ k ih =>
    intro p n A hn hk
    obtain ⟨b, b1, b2, b3⟩ := A p (by omega) (by omega)
    rw [b2] at b3
    obtain ⟨d1, d2⟩ := dg_n b b1 b3
    have e : nI n * 10 + tp p - 48 = nI (n * 10 + b - 48) := by
      rw [b2, show nI n * 10 = nI (n * 10) from n_mul n 10, n_add, show (48 : Int32) = nI 48 from rfl, n_sub (by omega)]
    show ∃ v, v < 10000 ∧ numv tp k (p + 1) (nI n * 10 + tp p - 48) = nI v
    rw [e]
    refine ih (p + 1) _ (fun i i1 i2 => A i (by omega) (by omega)) ?_ (by omega)
    have h4 : 4 - k = (4 - (k + 1)) + 1 := by omega
    rw [h4, Nat.pow_succ]
    omega
