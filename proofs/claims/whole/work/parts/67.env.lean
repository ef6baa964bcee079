/-! an evening begins -/
def bC (h h' : zH) : Prop := (∀ c, c ≠ 38 → c ≠ 39 → c ≠ 41 → h' c = h c) ∧ ∀ k, k ≠ 7 → k ≠ 8 → h' 38 k = h 38 k
def cnQ (E : zEv) (qf : Nat → Nat → Nat) : Nat → Nat → Bool := fun f k => decide (E.nd ≤ qf k f)
theorem q_begin54 {E : zEv} {qf : Nat → Nat → Nat} (hd4 : E.nd ≤ 4) : ∀ n i h, eC E h → qC E.n qf h → i ≤ 6 → 6 < n + i → (∀ f, f < i → ∀ k, k < E.n → hb (h 41 f) k = cnQ E qf f k) → ∃ h', f_X1_begin_54 n (nI i) h = some (0, h') ∧ (∀ c, c ≠ 41 → h' c = h c) ∧ ∀ f, f < 6 → ∀ k, k < E.n → hb (h' 41 f) k = cnQ E qf f k := by
  intro n
  induction n with
  | zero => intro i h _ _ h1 h2; omega
  | succ n ih =>
    intro i h He Hq h1 h2 h3
    simp only [f_X1_begin_54]
    by_cases h4 : i = 6
    · subst h4
      rw [if_pos (by decide)]
      exact ⟨h, rfl, fun c _ => rfl, h3⟩
    rw [if_neg (show ¬ (6 : Int32) ≤ nI i by rw [l_6, n_le (by omega) (by omega)]; omega)]
    obtain ⟨S, e1, e2⟩ := q_tellable He.1 He.2.1 He.2.2.2.1 hd4 Hq i i (by omega) (by omega)
    rw [e1, zbd_e, zck_n (by omega) (by decide), n_cl (by omega), zst_e, zlt_e, nI_1]
    obtain ⟨h', p1, p2, p3⟩ := ih (i + 1) (zup h 41 i S) (He.same (fun c hc => zup_ne c (by omega))) (by unfold qC; rw [zup_ne 6 (by decide)]; exact Hq) (by omega) (by omega) (fun f hf k hk => by
      rw [zup_eq]
      by_cases hfi : f = i
      · subst hfi; rw [pk_us, e2 k hk, if_pos rfl]; rfl
      · rw [pk_un hfi]; exact h3 f (by omega) k hk)
    exact ⟨h', p1, fun c hc => by rw [p2 c hc, zup_ne c hc], p3⟩
theorem q_begin2 : ∀ n i h, i ≤ 256 → 256 < n + i → (∀ p, p < i → h 39 p = -1) → ∃ m h', f_X1_begin_2 n (nI i) h = f_X1_begin_2 (m + 1) (nI 256) h' ∧ (∀ c, c ≠ 39 → h' c = h c) ∧ ∀ p, p < 256 → h' 39 p = -1 := by
  intro n
  induction n with
  | zero => intro i h h1 h2; omega
  | succ n ih =>
    intro i h h1 h2 h3
    by_cases h4 : i = 256
    · subst h4
      exact ⟨n, h, rfl, fun c _ => rfl, h3⟩
    obtain ⟨m, h', e1, e2, e3⟩ := ih (i + 1) (zup h 39 i (-1)) (by omega) (by omega) (fun p hp => by
      rw [zup_eq]
      by_cases hpi : p = i
      · subst hpi; rw [pk_us]
      · rw [pk_un hpi]; exact h3 p (by omega))
    refine ⟨m, h', Eq.trans ?_ e1, fun c hc => by rw [e2 c hc, zup_ne c hc], e3⟩
    simp only [f_X1_begin_2]
    rw [if_neg (show ¬ (256 : Int32) ≤ nI i by rw [l_256, n_le (by omega) (by omega)]; omega), zck_n (by omega) (by decide), n_cl (by omega), zst_e, zlt_e, nI_1]
theorem q_begin {E : zEv} {T : zTe} {qf : Nat → Nat → Nat} {h : zH} (He : eC E h) (Ht : cT E.nt T h) (Hq : qC E.n qf h) (hd4 : E.nd ≤ 4) : ∃ h', f_X1_begin h = some (0, h') ∧ tC E (cnQ E qf) T h' ∧ bC h h' := by
  unfold f_X1_begin
  obtain ⟨m, h1, e1, e2, e3⟩ := q_begin2 zN 0 h (by omega) (by unfold zN; omega) (fun p hp => by omega)
  have e1 : f_X1_begin_2 zN 0 h = f_X1_begin_2 (m + 1) (nI 256) h1 := e1
  rw [e1]
  simp only [f_X1_begin_2]
  rw [if_pos (by decide)]
  have He1 : eC E h1 := He.same (fun c hc => e2 c (by omega))
  obtain ⟨S0, s1, s2⟩ := q_setOn He1.1 He1.2.1 0
  rw [s1, zbd_e, zst_e]
  have He2 : eC E (zup h1 38 7 S0) := He1.same (fun c hc => zup_ne c (by omega))
  obtain ⟨S1, s3, s4⟩ := q_setOn He2.1 He2.2.1 1
  rw [s3, zbd_e, zst_e]
  have He3 : eC E (zup (zup h1 38 7 S0) 38 8 S1) := He2.same (fun c hc => zup_ne c (by omega))
  obtain ⟨h', p1, p2, p3⟩ := q_begin54 (qf := qf) hd4 zN 0 (zup (zup h1 38 7 S0) 38 8 S1) He3 (by unfold qC; rw [zup_ne 6 (by decide), zup_ne 6 (by decide), e2 6 (by decide)]; exact Hq) (by omega) (by unfold zN; omega) (fun f hf => by omega)
  refine ⟨h', p1, ⟨?_, ?_, ?_, p3, ?_⟩, ?_, ?_⟩
  · exact He3.same (fun c hc => p2 c (by omega))
  · refine Ht.same ?_ ?_ ?_
    · rw [p2 12 (by decide), zup_ne 12 (by decide), zup_ne 12 (by decide), e2 12 (by decide)]
    · rw [p2 13 (by decide), zup_ne 13 (by decide), zup_ne 13 (by decide), e2 13 (by decide)]
    · rw [p2 40 (by decide), zup_ne 40 (by decide), zup_ne 40 (by decide), e2 40 (by decide)]
  · intro f e q1 q2
    rw [p2 39 (by decide), zup_ne 39 (by decide), zup_ne 39 (by decide)]
    exact Or.inl (e3 _ (by omega))
  · intro k hk
    rw [p2 38 (by decide), zup_eq, pk_un (by decide), pk_us, zup_eq, pk_us, s2 k hk, s4 k hk, zup_ne 3 (by decide), (He1.2.2.1 k hk).1]
    exact ⟨rfl, rfl⟩
  · intro c c1 c2 c3
    rw [p2 c c3, zup_ne c c1, zup_ne c c1, e2 c c2]
  · intro k k1 k2
    rw [p2 38 (by decide), zup_eq, pk_un k2, zup_eq, pk_un k1, e2 38 (by decide)]
/-- what both sides know -/
theorem rHouse.env {h g : zH} (H : rHouse h (g 101)) (Hv : rEve h) : ∃ (E : zEv) (T : zTe) (qf : Nat → Nat → Nat), eC E h ∧ cT E.nt T h ∧ qC E.n qf h ∧ E.nd ≤ 4 ∧ E.nt ≤ 9999 ∧ (∀ p, p < 256 → T.1 p ≤ 8 * E.nt ∧ T.2 p ≤ E.nt ∧ h 12 p = nI (T.1 p) ∧ (T.1 p = 0 ∨ h 13 p = nI (T.2 p))) ∧ tM E (cnQ E qf) T g ∧ (∀ k, k < E.n → qf k 0 + qf k 1 + qf k 2 + qf k 3 + qf k 4 + qf k 5 = 4 ∧ ∀ f, f < 6 → g 101 (23 + 10 * k + f) = nI (qf k f)) := by
  obtain ⟨ht, ⟨n, n1, n2, n3, n4⟩, ⟨bl, nt, b1, b2, b3, b4, b5, b6, b7, b8, b9⟩, hl, ⟨nd, d1, d2, d3, d4⟩, -, -, d5⟩ := H
  obtain ⟨sz, ls, hp⟩ := hl.p
  refine ⟨(n, ls, sz, nt, nd, h 3, h 4, h 5, h 20), (fun p => (h 12 p).toNatClampNeg, fun p => if (h 12 p).toNatClampNeg = 0 then 0 else (h 13 p).toNatClampNeg), fun k f => (h 6 (k * 6 + f)).toNatClampNeg, ?_⟩
  have qv : ∀ k, k < n → ∃ q : Nat → Nat, q 0 + q 1 + q 2 + q 3 + q 4 + q 5 = 4 ∧ ∀ f, f < 6 → q f ≤ 4 ∧ h 6 (k * 6 + f) = nI (q f) ∧ g 101 (23 + 10 * k + f) = nI (q f) ∧ (h 6 (k * 6 + f)).toNatClampNeg = q f := by
    intro k hk
    obtain ⟨-, -, -, q, q1, q2⟩ := n4 k hk
    refine ⟨q, q1, fun f hf => ?_⟩
    have := qf4 q1 hf
    exact ⟨this, (q2 f hf).1, (q2 f hf).2, by rw [(q2 f hf).1, n_cl (by omega)]⟩
  have tv : ∀ p, p < 256 → ∃ t z : Nat, t ≤ 8 * nt ∧ z ≤ nt ∧ h 12 p = nI t ∧ g 101 (210 + p) = nI t ∧ (h 12 p).toNatClampNeg = t ∧ (if (h 12 p).toNatClampNeg = 0 then 0 else (h 13 p).toNatClampNeg) = z ∧ g 101 (466 + p) = (if t = 0 then -1 else nI z) ∧ (t = 0 ∨ h 13 p = nI z) := by
    intro p hp
    obtain ⟨t, t1, t2, t3, t4⟩ := b9 p hp
    have e : (h 12 p).toNatClampNeg = t := by rw [t2, n_cl (by omega)]
    rcases t4 with ⟨t4, t5⟩ | ⟨t4, z, z1, z2, z3⟩
    · exact ⟨t, 0, t1, by omega, t2, t3, e, by rw [e, if_pos t4], by rw [t5, if_pos t4], Or.inl t4⟩
    · exact ⟨t, z, t1, by omega, t2, t3, e, by rw [e, if_neg (by omega), z2, n_cl (by omega)], by rw [z3, if_neg (by omega)], Or.inr z2⟩
  refine ⟨⟨n1, n2, fun i _ => ⟨rfl, rfl, rfl⟩, d3, fun f _ => rfl, b5, g 101, hp⟩, ?_, ?_, d2, b2, ?_, ⟨⟨n1, n3, ?_, ⟨d4, d2⟩, ?_, b6, h 16, h 17, h 18, hp⟩, ?_, ?_⟩, ?_⟩
  · intro p hp
    obtain ⟨t, z, t1, t2, t3, t4, t5, t6, t7, t8⟩ := tv p hp
    refine ⟨t, 0, t3, Hv.1 p hp, ?_, ?_, ?_⟩
    · show t + 0 = (h 12 p).toNatClampNeg
      rw [t5]; rfl
    · show (h 12 p).toNatClampNeg < 2 ^ 30
      rw [t5]; omega
    · show (h 12 p).toNatClampNeg = 0 ∨ _ ∨ (0 = 0 ∧ h 13 p = nI (if (h 12 p).toNatClampNeg = 0 then 0 else (h 13 p).toNatClampNeg))
      rw [t6, t5]
      rcases t8 with t8 | t8
      · exact Or.inl t8
      · exact Or.inr (Or.inr ⟨rfl, t8⟩)
  · intro k hk f hf
    obtain ⟨q, q1, q2⟩ := qv k hk
    obtain ⟨q3, q4, q5, q6⟩ := q2 f hf
    show h 6 (k * 6 + f) = nI (h 6 (k * 6 + f)).toNatClampNeg ∧ (h 6 (k * 6 + f)).toNatClampNeg ≤ 4
    rw [q6]
    exact ⟨q4, q3⟩
  · intro p hp
    obtain ⟨t, z, t1, t2, t3, t4, t5, t6, t7, t8⟩ := tv p hp
    show (h 12 p).toNatClampNeg ≤ 8 * nt ∧ (if (h 12 p).toNatClampNeg = 0 then 0 else (h 13 p).toNatClampNeg) ≤ nt ∧ h 12 p = nI (h 12 p).toNatClampNeg ∧ ((h 12 p).toNatClampNeg = 0 ∨ h 13 p = nI (if (h 12 p).toNatClampNeg = 0 then 0 else (h 13 p).toNatClampNeg))
    rw [t6, t5]
    exact ⟨t1, t2, t3, t8⟩
  · intro i hi
    obtain ⟨⟨c1, c2⟩, ⟨j, j1, j2, j3⟩, ⟨k, k1, k2, k3⟩, -⟩ := n4 i hi
    exact ⟨c1.symm, j3.trans j2.symm, k3.trans k2.symm⟩
  · exact fun f hf => (d5 f hf).symm
  · intro p hp
    obtain ⟨t, z, t1, t2, t3, t4, t5, t6, t7, t8⟩ := tv p hp
    show (h 12 p).toNatClampNeg < 2 ^ 30 ∧ (if (h 12 p).toNatClampNeg = 0 then 0 else (h 13 p).toNatClampNeg) < 2 ^ 30 ∧ g 101 (210 + p) = nI (h 12 p).toNatClampNeg ∧ g 101 (466 + p) = (if (h 12 p).toNatClampNeg = 0 then -1 else nI (if (h 12 p).toNatClampNeg = 0 then 0 else (h 13 p).toNatClampNeg))
    rw [t6, t5]
    exact ⟨by omega, by omega, t4, t7⟩
  · intro k hk f hf
    obtain ⟨q, q1, q2⟩ := qv k hk
    obtain ⟨q3, q4, q5, q6⟩ := q2 f hf
    exact ⟨q f, by omega, q5, by show decide (nd ≤ (h 6 (k * 6 + f)).toNatClampNeg) = decide (nd ≤ q f); rw [q6]⟩
  · intro k hk
    obtain ⟨q, q1, q2⟩ := qv k hk
    show (h 6 (k * 6 + 0)).toNatClampNeg + (h 6 (k * 6 + 1)).toNatClampNeg + (h 6 (k * 6 + 2)).toNatClampNeg + (h 6 (k * 6 + 3)).toNatClampNeg + (h 6 (k * 6 + 4)).toNatClampNeg + (h 6 (k * 6 + 5)).toNatClampNeg = 4 ∧ ∀ f, f < 6 → g 101 (23 + 10 * k + f) = nI (h 6 (k * 6 + f)).toNatClampNeg
    rw [(q2 0 (by omega)).2.2.2, (q2 1 (by omega)).2.2.2, (q2 2 (by omega)).2.2.2, (q2 3 (by omega)).2.2.2, (q2 4 (by omega)).2.2.2, (q2 5 (by omega)).2.2.2]
    exact ⟨q1, fun f hf => by rw [(q2 f hf).2.2.2]; exact (q2 f hf).2.2.1⟩
/-- who sits where, on both sides -/
theorem rTab.sA {h g : zH} (H : rTab (h 7) (h 8) (h 9) (h 10) (g 101)) : ∃ (sn gn : Nat) (fam : Nat → Nat), h 7 3 = nI sn ∧ h 7 4 = nI gn ∧ 3 ≤ sn ∧ sA sn gn (h 10) fam (g 101) ∧ (∀ i, i < gn → fam i < 6 ∧ h 8 i = nI (fam i)) ∧ (∀ s, s < sn → h 10 s = -1 ∨ ∃ i, i < gn ∧ h 10 s = nI i) ∧ (∀ i, i < gn → h 9 i = g 101 (181 + 2 * i) ∧ (h 9 i = -1 ∨ ∃ s, s < sn ∧ h 9 i = nI s ∧ h 10 s = nI i)) ∧ ∀ s, s < sn → h 10 s = -1 ∨ ∃ i, i < gn ∧ h 10 s = nI i ∧ h 9 i = nI s := by
  obtain ⟨sn, gn, a1, a2, a3, a4, a5, a6, a7, a8, a9⟩ := H
  have fv : ∀ i, i < gn → (h 8 i).toNatClampNeg < 6 ∧ h 8 i = nI (h 8 i).toNatClampNeg ∧ g 101 (180 + 2 * i) = nI (h 8 i).toNatClampNeg := by
    intro i hi
    obtain ⟨⟨f, f1, f2, f3⟩, -⟩ := a8 i hi
    rw [f2, n_cl (by omega)]
    exact ⟨f1, rfl, f3⟩
  refine ⟨sn, gn, fun i => (h 8 i).toNatClampNeg, a1, a5, a3, ⟨a2, by omega, a4, a6, a7, fun i hi => ⟨(fv i hi).1, (fv i hi).2.2⟩, fun s hs => ?_⟩, fun i hi => ⟨(fv i hi).1, (fv i hi).2.1⟩, fun s hs => (a9 s hs).imp id (fun ⟨i, i1, i2, _⟩ => ⟨i, i1, i2⟩), fun i hi => (a8 i hi).2, a9⟩
  have inv : ∀ i, i < gn → g 101 (181 + 2 * i) = nI s → h 10 s = nI i := by
    intro i hi e
    rw [← (a8 i hi).2.1] at e
    rcases (a8 i hi).2.2 with z | ⟨s', z1, z2, z3⟩
    · rw [z, n_m1' (by omega)] at e; exact e.elim
    · rw [z2, n_eq (by omega) (by omega)] at e; subst e; exact z3
  rcases a9 s hs with z | ⟨i, i1, i2, i3⟩
  · refine Or.inl ⟨z, fun i hi e => ?_⟩
    have := inv i hi e
    rw [z, n_m1' (by omega)] at this
    exact this
  · refine Or.inr ⟨i, i1, i2, by rw [← (a8 i i1).2.1]; exact i3, fun k hk e => ?_⟩
    have := inv k (by omega) e
    rw [i2, n_eq (by omega) (by omega)] at this
    omega
theorem q_beside {h : zH} {sn : Nat} (h1 : h 7 3 = nI sn) (hs8 : sn ≤ 8) (s : Nat) (hs : s < sn) : f_X9_beside (nI s) h = some (nI (nxt sn s), h) := by
  unfold f_X9_beside nxt
  rw [h1, nI_1]
  by_cases c : s + 1 < sn
  · rw [if_neg (by rw [n_le (by omega) (by omega)]; omega), if_pos c]
  · rw [if_pos (by rw [n_le (by omega) (by omega)]; omega), if_neg c]; rfl
/-- after a look in thought -/
theorem zRel.thought {h g h' g' : zH} (R : zRel h g) (hc : ∀ c ∈ zRc, h' c = h c) (h0 : h' 0 5 = h 0 5) (h38 : h' 38 6 = h 38 6) (sm : sM g g') : zRel h' g' := by
  refine R.cong hc h0 h38 ⟨sm.2 4 (by omega), sm.2 5 (by omega), sm.2 13 (by omega), sm.2 20 (by omega), sm.2 22 (by omega)⟩ (sm.1 101 (by decide) (by decide) (by decide)) (sm.1 102 (by decide) (by decide) (by decide)) (sm.1 103 (by decide) (by decide) (by decide)) (sm.1 107 (by decide) (by decide) (by decide))
theorem zRc_ne {c : Nat} (hc : c ∈ zRc) : c ≠ 0 ∧ c ≠ 19 ∧ c ≠ 21 ∧ c ≠ 38 ∧ c ≠ 39 ∧ c ≠ 41 ∧ c ≠ 42 ∧ c ≠ 43 ∧ c ≠ 44 ∧ c < 71 := by
  simp only [List.mem_cons, List.not_mem_nil, or_false] at hc
  omega
theorem st_laugh : zst_laugh zRel := by
  intro h g a b R
  unfold f_X11_laugh f_X12_laugh f_X12_laugh_25
  rcases q_pair R.1.2.1 a b with ⟨n, i, j, hn, c1, c2, hi, hj, rfl, rfl, s1, s2, p1, p2, p3⟩ | ⟨p1, p2⟩
  · obtain ⟨E, T, qf, He, Ht, Hq, hd4, hnt, hT, Hm, hQ⟩ := R.1.env R.2.2.2.2.2
    have hEn : E.n = n := by
      have := He.2.1
      have h16 := He.1
      rw [c1, n_eq (by omega) (by omega)] at this
      exact this.symm
    obtain ⟨h', e1, e2⟩ := q_lcV He Ht i j (by omega) (by omega)
    rw [R.2.2.2.2.2.1 (i * 16 + j) (by omega)] at e1
    obtain ⟨g', e3, e4⟩ := q_lmV Hm i j (by omega) (by omega)
    refine ⟨eV E T i j, h', g', ?_, ?_, R.thought (fun c hc => ?_) ?_ ?_ ⟨fun c c1 c2 c3 => e4 c c2 c3, fun k _ => by rw [e4 100 (by decide) (by decide)]⟩⟩
    · rw [p1, zbd_e, if_neg (show ¬ (1 : Int32) = 0 by decide), e1, zbd_e]
    · rw [p2, zbd_e, if_neg (show ¬ (1 : Int32) = 0 by decide), p3, zbd_e, if_neg (show ¬ (1 : Int32) = 0 by decide), e3, zbd_e]
    · obtain ⟨z1, z2, z3, z4⟩ := zRc_ne hc
      exact e2 c z2 z3
    · rw [e2 0 (by decide) (by decide)]
    · rw [e2 38 (by decide) (by decide)]
  · refine ⟨-1, h, g, by rw [p1]; rfl, ?_, R⟩
    rcases p2 with p2 | ⟨p2, p3⟩
    · rw [p2]; rfl
    · rw [p2, zbd_e, if_neg (show ¬ (1 : Int32) = 0 by decide), p3]; rfl
