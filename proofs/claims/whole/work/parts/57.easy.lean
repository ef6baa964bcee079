theorem q_sits (i : Nat) (hi : i < 8) (x : Int32) (g : zH) : f_X12_sits (nI i) x g = some (0, zup g 101 (181 + 2 * i) x) := by
  unfold f_X12_sits
  simp (disch := omega) only [l_180, l_2, n_mul, n_add, nI_1, zck_n, n_cl, zst]
  rw [show 180 + 2 * i + 1 = 181 + 2 * i by omega]
/-- a guest sits down, or stands up -/
theorem rTab.sit {T Fa Pl Si w : Nat → Int32} {sn gn : Nat} (h1 : T 3 = nI sn) (h2 : T 4 = nI gn) (hs8 : sn ≤ 8) (hg8 : gn ≤ 8) (H : rTab T Fa Pl Si w) {i : Nat} (hi : i < gn) (v : Int32) (Si' : Nat → Int32) (hv : (v = -1 ∧ ∀ s, s < sn → Si' s = if Pl i = nI s then -1 else Si s) ∨ (∃ t, t < sn ∧ v = nI t ∧ (Si t = -1 ∨ Si t = nI i) ∧ ∀ s, s < sn → Si' s = if s = t then nI i else if Pl i = nI s then -1 else Si s)) : rTab T Fa (upd Pl i v) Si' (upd w (181 + 2 * i) v) := by
  obtain ⟨sn', gn', a1, a2, a3, a4, a5, a6, a7, a8, a9⟩ := H
  have e1 : sn' = sn := by rw [a1, n_eq (by omega) (by omega)] at h1; exact h1
  have e2 : gn' = gn := by rw [a5, n_eq (by omega) (by omega)] at h2; exact h2
  subst e1
  subst e2
  refine ⟨sn', gn', a1, by rw [pk_un (by omega)]; exact a2, a3, a4, a5, by rw [pk_un (by omega)]; exact a6, a7, fun k hk => ?_, fun s hs => ?_⟩
  · obtain ⟨⟨f, f1, f2, f3⟩, f4, f5⟩ := a8 k hk
    refine ⟨⟨f, f1, f2, by rw [pk_un (by omega)]; exact f3⟩, ?_, ?_⟩
    · by_cases hki : k = i
      · subst hki; rw [pk_us, pk_us]
      · rw [pk_un hki, pk_un (by omega)]; exact f4
    · by_cases hki : k = i
      · subst hki
        rw [pk_us]
        rcases hv with ⟨hv, -⟩ | ⟨t, t1, t2, -, t4⟩
        · exact Or.inl hv
        · exact Or.inr ⟨t, t1, t2, by rw [t4 t t1, if_pos rfl]⟩
      · rw [pk_un hki]
        rcases f5 with f5 | ⟨s, s1, s2, s3⟩
        · exact Or.inl f5
        · have hne : ¬ Pl i = nI s := by
            intro e
            rcases (a8 i hi).2.2 with z | ⟨s', z1, z2, z3⟩
            · rw [z, n_m1' (by omega)] at e; exact e
            · rw [z2, n_eq (by omega) (by omega)] at e
              subst e
              rw [z3, n_eq (by omega) (by omega)] at s3
              exact hki s3.symm
          refine Or.inr ⟨s, s1, s2, ?_⟩
          rcases hv with ⟨-, hv⟩ | ⟨t, t1, t2, t3, t4⟩
          · rw [hv s s1, if_neg hne]; exact s3
          · rw [t4 s s1, if_neg hne, if_neg]
            · exact s3
            · intro e
              subst e
              rcases t3 with t3 | t3
              · rw [t3, n_m1' (by omega)] at s3; exact s3
              · rw [t3, n_eq (by omega) (by omega)] at s3; exact hki s3.symm
  · have old : ∀ k, k < gn' → Si s = nI k → Pl k = nI s → (¬ Pl i = nI s) → upd Pl i v k = nI s := by
      intro k hk e1 e2 e3
      have : k ≠ i := fun z => e3 (z ▸ e2)
      rw [pk_un this]; exact e2
    rcases hv with ⟨hv, hv2⟩ | ⟨t, t1, t2, t3, t4⟩
    · rw [hv2 s hs]
      by_cases hp : Pl i = nI s
      · rw [if_pos hp]; exact Or.inl rfl
      · rw [if_neg hp]
        rcases a9 s hs with z | ⟨k, k1, k2, k3⟩
        · exact Or.inl z
        · exact Or.inr ⟨k, k1, k2, old k k1 k2 k3 hp⟩
    · rw [t4 s hs]
      by_cases hst : s = t
      · subst hst
        rw [if_pos rfl]
        exact Or.inr ⟨i, hi, rfl, by rw [pk_us]; exact t2⟩
      · rw [if_neg hst]
        by_cases hp : Pl i = nI s
        · rw [if_pos hp]; exact Or.inl rfl
        · rw [if_neg hp]
          rcases a9 s hs with z | ⟨k, k1, k2, k3⟩
          · exact Or.inl z
          · exact Or.inr ⟨k, k1, k2, old k k1 k2 k3 hp⟩
theorem q_sit {h g : zH} {sn gn i : Nat} (R : rTab (h 7) (h 8) (h 9) (h 10) (g 101)) (h1 : h 7 3 = nI sn) (h2 : h 7 4 = nI gn) (hs8 : sn ≤ 8) (hg8 : gn ≤ 8) (hi : i < gn) (v : Int32) (hv : v = -1 ∨ ∃ t, t < sn ∧ v = nI t ∧ (h 10 t = -1 ∨ h 10 t = nI i)) : ∃ h', f_X9_sit (nI i) v h = some (0, h') ∧ (∀ c, c ≠ 9 → c ≠ 10 → h' c = h c) ∧ rTab (h' 7) (h' 8) (h' 9) (h' 10) (upd (g 101) (181 + 2 * i) v) := by
  have hpl : h 9 i = -1 ∨ ∃ s, s < sn ∧ h 9 i = nI s := by
    obtain ⟨sn', gn', a1, a2, a3, a4, a5, a6, a7, a8, a9⟩ := R
    have e1 : sn' = sn := by rw [a1, n_eq (by omega) (by omega)] at h1; exact h1
    have e2 : gn' = gn := by rw [a5, n_eq (by omega) (by omega)] at h2; exact h2
    subst e1
    subst e2
    rcases (a8 i hi).2.2 with z | ⟨s, z1, z2, z3⟩
    · exact Or.inl z
    · exact Or.inr ⟨s, z1, z2⟩
  -- the seat that he leaves
  obtain ⟨hA, eA, fA, gA, kA⟩ : ∃ hA : zH, f_X9_sit (nI i) v h = f_X9_sit_22 (nI i) v hA ∧ (∀ c, c ≠ 10 → hA c = h c) ∧ (∀ s, s < sn → hA 10 s = if h 9 i = nI s then -1 else h 10 s) ∧ True := by
    unfold f_X9_sit
    rw [zck_n (by omega) (by decide), n_cl (by omega)]
    rcases hpl with z | ⟨s0, z1, z2⟩
    · refine ⟨h, by rw [if_pos z], fun c _ => rfl, fun s hs => ?_, trivial⟩
      rw [if_neg]
      rw [z, n_m1' (by omega)]
      exact id
    · rw [if_neg (by rw [z2, n_m1 (by omega)]; exact id), zck_n (by omega) (by decide), z2, zck_n (by omega) (by decide), n_cl (by omega)]
      refine ⟨zup h 10 s0 (-1), rfl, fun c hc => zup_ne c hc, fun s hs => ?_, trivial⟩
      rw [zup_eq]
      by_cases e : s0 = s
      · subst e; rw [pk_us, if_pos rfl]
      · rw [pk_un (Ne.symm e), if_neg (by rw [n_eq (by omega) (by omega)]; exact e)]
  rw [eA]
  unfold f_X9_sit_22
  simp (disch := omega) only [zck_n, n_cl, zst]
  rcases hv with rfl | ⟨t, t1, rfl, t3⟩
  · rw [if_pos rfl]
    refine ⟨_, rfl, fun c c1 c2 => by rw [zup_ne c c1, fA c c2], ?_⟩
    rw [zup_ne 7 (by decide), zup_ne 8 (by decide), zup_ne 10 (by decide), zup_eq, fA 7 (by decide), fA 8 (by decide), fA 9 (by decide)]
    exact R.sit h1 h2 hs8 hg8 hi (-1) _ (Or.inl ⟨rfl, gA⟩)
  · rw [if_neg (by rw [n_m1 (by omega)]; exact id), zck_n (by omega) (by decide), n_cl (by omega)]
    refine ⟨_, rfl, fun c c1 c2 => by rw [zup_ne c c2, zup_ne c c1, fA c c2], ?_⟩
    rw [zup_ne 7 (by decide), zup_ne 8 (by decide), zup_ne 9 (by decide), zup_eq, zup_ne 7 (by decide), zup_ne 8 (by decide), zup_eq, fA 7 (by decide), fA 8 (by decide), fA 9 (by decide), zup_ne 10 (by decide)]
    refine R.sit h1 h2 hs8 hg8 hi (nI t) _ (Or.inr ⟨t, t1, rfl, t3, fun s hs => ?_⟩)
    by_cases e : s = t
    · subst e; rw [pk_us, if_pos rfl]
    · rw [pk_un e, if_neg e, gA s hs]
theorem st_seat : zst_seat zRel := by
  intro h g a b R
  have RT := R.1.1
  obtain ⟨sn, gn, a1, a2, a3, a4, a5, a6, a7, a8, a9⟩ := R.1.1
  have no : f_X11_seat a b h = some (0, h) → f_X12_seat a b g = some (0, g) → ∃ r k1 k2, f_X11_seat a b h = some (r, k1) ∧ f_X12_seat a b g = some (r, k2) ∧ zRel k1 k2 := fun x y => ⟨0, h, g, x, y, R⟩
  rcases n_ixc a gn (by omega) with ⟨i, hi, rfl⟩ | ⟨e1, e2⟩
  · have yes : (b = -1 ∨ ∃ t, t < sn ∧ b = nI t ∧ (h 10 t = -1 ∨ h 10 t = nI i)) → f_X9_canSit (nI i) b h = some (1, h) → f_X12_seat (nI i) b g = f_X12_seat_49 (nI i) b g → ∃ r k1 k2, f_X11_seat (nI i) b h = some (r, k1) ∧ f_X12_seat (nI i) b g = some (r, k2) ∧ zRel k1 k2 := by
      intro hv hc hm
      obtain ⟨h', p1, p2, p3⟩ := q_sit RT a1 a5 a4 a7 hi b hv
      refine ⟨1, zup h' 22 7 0, zup (zup g 101 (181 + 2 * i) b) 100 4 0, ?_, ?_, (R.core.house (h' := h') (g' := zup g 101 (181 + 2 * i) b) ?_ ?_ ?_ ?_ ⟨rfl, rfl, rfl, rfl⟩ rfl rfl).forget⟩
      · unfold f_X11_seat
        rw [hc]
        simp only [zbd]
        rw [if_neg (show ¬ ((1 : Int32) = 0) by decide), p1]
        rfl
      · rw [hm]
        unfold f_X12_seat_49
        rw [q_sits i (by omega)]
        rfl
      · refine ⟨by rw [zup_eq]; exact p3, ?_, ?_, ?_, ?_⟩
        · rw [p2 2 (by decide) (by decide), p2 3 (by decide) (by decide), p2 4 (by decide) (by decide), p2 5 (by decide) (by decide), p2 6 (by decide) (by decide), zup_eq]
          exact R.1.2.1.w (fun j hj => pk_un (by omega))
        · rw [p2 11 (by decide) (by decide), p2 12 (by decide) (by decide), p2 13 (by decide) (by decide), p2 14 (by decide) (by decide), p2 15 (by decide) (by decide), zup_eq]
          exact R.1.2.2.1.w (fun j hj => pk_un (by omega))
        · rw [p2 16 (by decide) (by decide), p2 17 (by decide) (by decide), p2 18 (by decide) (by decide), zup_eq]
          exact R.1.2.2.2.1.w (fun j hj => pk_un (by omega))
        · rw [p2 1 (by decide) (by decide), p2 20 (by decide) (by decide), zup_eq]
          exact R.1.2.2.2.2.w (fun j hj => pk_un (by omega))
      · intro c hc
        simp only [List.mem_cons, List.not_mem_nil, or_false] at hc
        exact p2 c (by omega) (by omega)
      · rw [p2 0 (by decide) (by decide)]
      · rw [p2 38 (by decide) (by decide)]
    have hcs : ∀ K : Int32 → zH → zR, zbd (f_X11_isBelow (nI i) (h 7 4) h) K = K 1 h := fun K => by rw [q_below, a5, i_pos (v_lt hi (by omega))]; rfl
    have hms : ∀ K : Int32 → zH → zR, zbd (f_X12_isGuest (nI i) g) K = K 1 g := fun K => by rw [q_guest, a6, i_pos (v_le hi (by omega))]; rfl
    by_cases hb : b = -1
    · refine yes (Or.inl hb) ?_ ?_
      · unfold f_X9_canSit
        rw [hcs, if_neg (show ¬ ((1 : Int32) = 0) by decide), if_pos hb]
      · unfold f_X12_seat
        rw [hms, if_neg (show ¬ ((1 : Int32) = 0) by decide), if_pos hb]
    · rcases n_ixc b sn (by omega) with ⟨t, ht, rfl⟩ | ⟨e3, e4⟩
      · have hat := q_at RT a1 a4 t ht
        have hC : f_X9_canSit (nI i) (nI t) h = if h 10 t = -1 then some (1, h) else if h 10 t = nI i then some (1, h) else some (0, h) := by
          unfold f_X9_canSit f_X9_canSit_51 f_X9_canSit_55
          rw [hcs, if_neg (show ¬ ((1 : Int32) = 0) by decide), if_neg hb, q_below, a1, i_pos (v_lt ht (by omega))]
          simp only [zbd]
          rw [if_neg (show ¬ ((1 : Int32) = 0) by decide), zck_n (by omega) (by decide), n_cl (by omega), zck_n (by omega) (by decide)]
        have hM : f_X12_seat (nI i) (nI t) g = if h 10 t = -1 then f_X12_seat_49 (nI i) (nI t) g else if h 10 t = nI i then f_X12_seat_49 (nI i) (nI t) g else some (0, g) := by
          unfold f_X12_seat f_X12_seat_47
          rw [hms, if_neg (show ¬ ((1 : Int32) = 0) by decide), if_neg hb, q_in, a2, i_pos (v_le ht (by omega))]
          simp only [zbd]
          rw [if_neg (show ¬ ((1 : Int32) = 0) by decide), hat]
          simp only []
          rw [hat]
        by_cases c1 : h 10 t = -1
        · exact yes (Or.inr ⟨t, ht, rfl, Or.inl c1⟩) (by rw [hC, if_pos c1]) (by rw [hM, if_pos c1])
        · by_cases c2 : h 10 t = nI i
          · exact yes (Or.inr ⟨t, ht, rfl, Or.inr c2⟩) (by rw [hC, if_neg c1, if_pos c2]) (by rw [hM, if_neg c1, if_pos c2])
          · refine no ?_ (by rw [hM, if_neg c1, if_neg c2])
            unfold f_X11_seat
            rw [hC, if_neg c1, if_neg c2]
            rfl
      · refine no ?_ ?_
        · unfold f_X11_seat f_X9_canSit f_X9_canSit_55
          rw [hcs, if_neg (show ¬ ((1 : Int32) = 0) by decide), if_neg hb, q_below, a1, i_neg (fun z => (Eq.mp e3 z).elim)]
          rfl
        · unfold f_X12_seat f_X12_seat_47
          rw [hms, if_neg (show ¬ ((1 : Int32) = 0) by decide), if_neg hb, q_in, a2, i_neg (fun z => (Eq.mp e4 z).elim)]
          rfl
  · refine no ?_ ?_
    · unfold f_X11_seat f_X9_canSit
      rw [q_below, a5, i_neg (fun z => (Eq.mp e1 z).elim)]
      rfl
    · unfold f_X12_seat f_X12_seat_47
      rw [q_guest, a6, i_neg (fun z => (Eq.mp e2 z).elim)]
      rfl
