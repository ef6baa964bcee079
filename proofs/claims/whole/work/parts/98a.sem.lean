/-! what a piece of code does, in the class's steps and in the reference's -/
def sgC (St Nu : Nat → Int32) (K i j : Nat) (v : (Nat → Int32) → Int32) : Prop := ∀ St' Nu' : Nat → Int32, (∀ k, i ≤ k → k < j → St' k = St k ∧ Nu' k = Nu k) → ∀ (F : Nat → Int32) (r top : Nat) (z : Nat → Int32), 2 ≤ top → top + K ≤ 40 → ∃ z', evC St' Nu' F (r + (j - i)) i top z = evC St' Nu' F r j (top + 1) z' ∧ z' top = v F ∧ ∀ k, k < top → z' k = z k
def sgM (c : Nat → Int32) (K i j : Nat) (v : (Nat → Int32) → Int32) : Prop := ∀ w : Nat → Int32, (∀ k, i ≤ k → k < j → w (1400 + 2 * k) = c (2 * k) ∧ w (1401 + 2 * k) = c (2 * k + 1)) → ∀ (F : Nat → Int32) (r top : Nat) (z : Nat → Int32), top + K ≤ 420 → ∃ z', evM w F (r + (j - i)) i top z = evM w F r j (top + 1) z' ∧ z' top = v F ∧ ∀ k, k < top → z' k = z k
def sg (St Nu c : Nat → Int32) (K i j i' j' : Nat) (v : (Nat → Int32) → Int32) : Prop := i ≤ j ∧ i' ≤ j' ∧ sgC St Nu K i j v ∧ sgM c K i' j' v
theorem sg.ext {St Nu c St' Nu' c' : Nat → Int32} {K i j i' j' : Nat} {v : (Nat → Int32) → Int32} (H : sg St Nu c K i j i' j' v) (a : ∀ k, k < j → St' k = St k ∧ Nu' k = Nu k) (b : ∀ k, k < 2 * j' → c' k = c k) : sg St' Nu' c' K i j i' j' v := by
  obtain ⟨h1, h2, h3, h4⟩ := H
  refine ⟨h1, h2, fun S N A => h3 S N (fun k k1 k2 => ⟨(A k k1 k2).1.trans (a k k2).1, (A k k1 k2).2.trans (a k k2).2⟩), fun w A => h4 w (fun k k1 k2 => ⟨(A k k1 k2).1.trans (b _ (by omega)), (A k k1 k2).2.trans (b _ (by omega))⟩)⟩
theorem sg.mono {St Nu c : Nat → Int32} {K K' i j i' j' : Nat} {v : (Nat → Int32) → Int32} (H : sg St Nu c K i j i' j' v) (hK : K ≤ K') : sg St Nu c K' i j i' j' v := by
  obtain ⟨h1, h2, h3, h4⟩ := H
  exact ⟨h1, h2, fun S N A F r top z t1 t2 => h3 S N A F r top z t1 (by omega), fun w A F r top z t => h4 w A F r top z (by omega)⟩
theorem upd_lt {z : Nat → Int32} {t k : Nat} {x : Int32} (h : k < t) : upd z t x k = z k := pk_un (by omega)
theorem sg_num {St Nu c : Nat → Int32} {i i' : Nat} {n : Int32} (s1 : St i = 2) (s2 : Nu i = n) (c1 : c (2 * i') = 0) (c2 : c (2 * i' + 1) = n) : sg St Nu c 1 i (i + 1) i' (i' + 1) (fun _ => n) := by
  refine ⟨by omega, by omega, fun S N A F r top z t1 t2 => ⟨upd z top n, ?_, pk_us, fun k hk => upd_lt hk⟩, fun w A F r top z t => ⟨upd z top n, ?_, pk_us, fun k hk => upd_lt hk⟩⟩
  · obtain ⟨a1, a2⟩ := A i (by omega) (by omega)
    rw [show r + (i + 1 - i) = r + 1 by omega, evC, if_neg (by omega), a1, a2, s1, s2, if_pos rfl]
  · obtain ⟨a1, a2⟩ := A i' (by omega) (by omega)
    rw [show r + (i' + 1 - i') = r + 1 by omega, evM, a1, a2, c1, c2, if_pos (by decide), if_neg (by omega), if_pos rfl]
theorem fac_t : ∀ k, k < 7 → ¬ nI (8 + k) = 2 ∧ (8 ≤ nI (8 + k) ∧ nI (8 + k) ≤ 14) ∧ nI (1 + k) < 13 ∧ ¬ nI (1 + k) = 0 ∧ (0 < nI (1 + k) ∧ nI (1 + k) < 8) := by decide +kernel
theorem sg_fact {St Nu c : Nat → Int32} {i i' k : Nat} (hk : k < 7) (s1 : St i = nI (8 + k)) (c1 : c (2 * i') = nI (1 + k)) : sg St Nu c 1 i (i + 1) i' (i' + 1) (fun F => F k) := by
  obtain ⟨t1, t2, t3, t4, t5⟩ := fac_t k hk
  refine ⟨by omega, by omega, fun S N A F r top z q1 q2 => ⟨upd z top (F k), ?_, pk_us, fun k hk => upd_lt hk⟩, fun w A F r top z t => ⟨upd z top (F k), ?_, pk_us, fun k hk => upd_lt hk⟩⟩
  · obtain ⟨a1, a2⟩ := A i (by omega) (by omega)
    rw [show r + (i + 1 - i) = r + 1 by omega, evC, if_neg (by omega), a1, s1, if_neg t1, if_pos t2, n_cl (by omega), Nat.add_sub_cancel_left]
  · obtain ⟨a1, a2⟩ := A i' (by omega) (by omega)
    rw [show r + (i' + 1 - i') = r + 1 by omega, evM, a1, c1, if_pos t3, if_neg (by omega), if_neg t4, if_pos t5, n_cl (by omega), Nat.add_sub_cancel_left]
theorem sg_bin {St Nu c : Nat → Int32} {K K1 K2 i m j i' m' j' : Nat} {v1 v2 : (Nat → Int32) → Int32} {s s' : Int32} {op : Int32 → Int32 → Int32} (A : sg St Nu c K1 i m i' m' v1) (B : sg St Nu c K2 m j m' j' v2) (s1 : St j = s) (c1 : c (2 * j') = s') (hs : ¬ s = 2 ∧ ¬ (8 ≤ s ∧ s ≤ 14) ∧ ¬ s = 7 ∧ ¬ s = 19 ∧ ¬ s = 15 ∧ ¬ s = 4) (hs' : ¬ s' < 13 ∧ ¬ s' = 16 ∧ ¬ s' = 20) (hC : ∀ a b, joC s a b = op a b) (hM : ∀ a b, joM s' a b = op a b) (k1 : K1 ≤ K) (k2 : K2 + 1 ≤ K) (k3 : 3 ≤ K) : sg St Nu c K i (j + 1) i' (j' + 1) (fun F => op (v1 F) (v2 F)) := by
  obtain ⟨a1, a2, a3, a4⟩ := A
  obtain ⟨b1, b2, b3, b4⟩ := B
  refine ⟨by omega, by omega, fun S N A F r top z t1 t2 => ?_, fun w A F r top z t => ?_⟩
  · obtain ⟨z1, p1, p2, p3⟩ := a3 S N (fun k k1 k2 => A k k1 (by omega)) F (r + 1 + (j - m)) top z t1 (by omega)
    obtain ⟨z2, q1, q2, q3⟩ := b3 S N (fun k k1 k2 => A k (by omega) (by omega)) F (r + 1) (top + 1) z1 (by omega) (by omega)
    obtain ⟨e1, e2⟩ := A j (by omega) (by omega)
    refine ⟨upd z2 top (op (v1 F) (v2 F)), ?_, pk_us, fun k hk => by rw [upd_lt hk, q3 k (by omega), p3 k hk]⟩
    rw [show r + (j + 1 - i) = r + 1 + (j - m) + (m - i) by omega, p1, q1, evC, if_neg (by omega), e1, s1, if_neg hs.1, if_neg hs.2.1, if_neg hs.2.2.1, if_neg hs.2.2.2.1, if_neg hs.2.2.2.2.1, if_neg hs.2.2.2.2.2, show top + 1 + 1 - 1 = top + 1 by omega, show top + 1 + 1 - 2 = top by omega, q2, q3 top (by omega), p2, hC]
  · obtain ⟨z1, p1, p2, p3⟩ := a4 w (fun k k1 k2 => A k k1 (by omega)) F (r + 1 + (j' - m')) top z (by omega)
    obtain ⟨z2, q1, q2, q3⟩ := b4 w (fun k k1 k2 => A k (by omega) (by omega)) F (r + 1) (top + 1) z1 (by omega)
    obtain ⟨e1, e2⟩ := A j' (by omega) (by omega)
    refine ⟨upd z2 top (op (v1 F) (v2 F)), ?_, pk_us, fun k hk => by rw [upd_lt hk, q3 k (by omega), p3 k hk]⟩
    rw [show r + (j' + 1 - i') = r + 1 + (j' - m') + (m' - i') by omega, p1, q1, evM, e1, c1, if_neg hs'.1, if_neg (by omega), if_neg hs'.2.1, if_neg hs'.2.2, if_neg (by omega), show top + 1 + 1 - 1 = top + 1 by omega, show top + 1 + 1 - 2 = top by omega, q2, q3 top (by omega), p2, hM]
theorem sg_over {St Nu c : Nat → Int32} {K K1 i j i' j' n : Nat} {v : (Nat → Int32) → Int32} (A : sg St Nu c K1 i j i' j' v) (hn : 0 < n) (hn2 : n < 10000) (s1 : St j = 19) (s2 : Nu j = nI n) (c1 : c (2 * j') = 16) (c2 : c (2 * j' + 1) = nI n) (k1 : K1 ≤ K) (k2 : 2 ≤ K) : sg St Nu c K i (j + 1) i' (j' + 1) (fun F => v F / nI n) := by
  obtain ⟨a1, a2, a3, a4⟩ := A
  have pos : (0 : Int32) < nI n := by rw [l_0, n_lt (by omega) (by omega)]; exact hn
  have nz : ¬ nI n = 0 := by rw [n_eq0 (by omega)]; omega
  refine ⟨by omega, by omega, fun S N A F r top z t1 t2 => ?_, fun w A F r top z t => ?_⟩
  · obtain ⟨z1, p1, p2, p3⟩ := a3 S N (fun k k1 k2 => A k k1 (by omega)) F (r + 1) top z t1 (by omega)
    obtain ⟨e1, e2⟩ := A j (by omega) (by omega)
    refine ⟨upd z1 top (v F / nI n), ?_, pk_us, fun k hk => by rw [upd_lt hk, p3 k hk]⟩
    rw [show r + (j + 1 - i) = r + 1 + (j - i) by omega, p1, evC, if_neg (by omega), e1, e2, s1, s2, if_neg (by decide), if_neg (by decide), if_neg (by decide), if_pos rfl, show top + 1 - 1 = top by omega, if_pos pos, p2]
  · obtain ⟨z1, p1, p2, p3⟩ := a4 w (fun k k1 k2 => A k k1 (by omega)) F (r + 1) top z (by omega)
    obtain ⟨e1, e2⟩ := A j' (by omega) (by omega)
    refine ⟨upd z1 top (v F / nI n), ?_, pk_us, fun k hk => by rw [upd_lt hk, p3 k hk]⟩
    rw [show r + (j' + 1 - i') = r + 1 + (j' - i') by omega, p1, evM, e1, e2, c1, c2, if_neg (by decide), if_neg (by omega), if_pos rfl, if_neg nz, show top + 1 - 1 = top by omega, p2]
theorem sg_not {St Nu c : Nat → Int32} {K K1 i j i' j' : Nat} {v : (Nat → Int32) → Int32} (A : sg St Nu c K1 i j i' j' v) (s1 : St j = 7) (c1 : c (2 * j') = 20) (k1 : K1 ≤ K) (k2 : 2 ≤ K) : sg St Nu c K i (j + 1) i' (j' + 1) (fun F => 1 - v F) := by
  obtain ⟨a1, a2, a3, a4⟩ := A
  refine ⟨by omega, by omega, fun S N A F r top z t1 t2 => ?_, fun w A F r top z t => ?_⟩
  · obtain ⟨z1, p1, p2, p3⟩ := a3 S N (fun k k1 k2 => A k k1 (by omega)) F (r + 1) top z t1 (by omega)
    obtain ⟨e1, e2⟩ := A j (by omega) (by omega)
    refine ⟨upd z1 top (1 - v F), ?_, pk_us, fun k hk => by rw [upd_lt hk, p3 k hk]⟩
    rw [show r + (j + 1 - i) = r + 1 + (j - i) by omega, p1, evC, if_neg (by omega), e1, s1, if_neg (by decide), if_neg (by decide), if_pos rfl, show top + 1 - 1 = top by omega, p2]
  · obtain ⟨z1, p1, p2, p3⟩ := a4 w (fun k k1 k2 => A k k1 (by omega)) F (r + 1) top z (by omega)
    obtain ⟨e1, e2⟩ := A j' (by omega) (by omega)
    refine ⟨upd z1 top (1 - v F), ?_, pk_us, fun k hk => by rw [upd_lt hk, p3 k hk]⟩
    rw [show r + (j' + 1 - i') = r + 1 + (j' - i') by omega, p1, evM, e1, c1, if_neg (by decide), if_neg (by omega), if_neg (by decide), if_pos rfl, show top + 1 - 1 = top by omega, p2]
/-- a test is 0 or 1 -/
def b01 (v : (Nat → Int32) → Int32) : Prop := ∀ F, v F = 0 ∨ v F = 1
theorem and_01 : ∀ a b : Int32, (a = 0 ∨ a = 1) → (b = 0 ∨ b = 1) → (a &&& b = 0 ∨ a &&& b = 1) := by
  intro a b ha hb
  rcases ha with rfl | rfl <;> rcases hb with rfl | rfl <;> decide
theorem or_01 : ∀ a b : Int32, (a = 0 ∨ a = 1) → (b = 0 ∨ b = 1) → (a ||| b = 0 ∨ a ||| b = 1) := by
  intro a b ha hb
  rcases ha with rfl | rfl <;> rcases hb with rfl | rfl <;> decide
theorem not_01 : ∀ a : Int32, (a = 0 ∨ a = 1) → (1 - a = 0 ∨ 1 - a = 1) := by
  intro a ha
  rcases ha with rfl | rfl <;> decide
/-! lines -/
def evLo : List zLn → (Nat → Int32) → Option Int32
  | [], _ => none
  | (e, none) :: _, F => some (cla (e F))
  | (e, some b) :: l, F => if b F = 1 then some (cla (e F)) else evLo l F
theorem evLo_L (F : Nat → Int32) : ∀ ls, evL ls F = (evLo ls F).getD 0 := by
  intro ls
  induction ls with
  | nil => rfl
  | cons x l ih =>
    obtain ⟨e, b⟩ := x
    cases b with
    | none => rfl
    | some b =>
      show (if b F = 1 then cla (e F) else evL l F) = (if b F = 1 then some (cla (e F)) else evLo l F).getD 0
      by_cases c : b F = 1
      · rw [if_pos c, if_pos c]; rfl
      · rw [if_neg c, if_neg c, ih]
theorem evLo_app (F : Nat → Int32) (x : zLn) : ∀ ls, evLo (ls ++ [x]) F = match evLo ls F with
    | some v => some v
    | none => evLo [x] F := by
  intro ls
  induction ls with
  | nil => rfl
  | cons y l ih =>
    obtain ⟨e, b⟩ := y
    cases b with
    | none => rfl
    | some b =>
      show (if b F = 1 then some (cla (e F)) else evLo (l ++ [x]) F) = match (if b F = 1 then some (cla (e F)) else evLo l F) with
        | some v => some v
        | none => evLo [x] F
      by_cases c : b F = 1
      · rw [if_pos c, if_pos c]
      · rw [if_neg c, if_neg c, ih]
def lwC (St Nu : Nat → Int32) (z : Nat) (ls : List zLn) : Prop := ∀ St' Nu' : Nat → Int32, (∀ k, k < z → St' k = St k ∧ Nu' k = Nu k) → ∀ (F : Nat → Int32) (r : Nat) (y : Nat → Int32), ∃ y', evC St' Nu' F (r + z) 0 2 y = match evLo ls F with
  | some v => v
  | none => evC St' Nu' F r z 2 y'
theorem lwC_0 (St Nu : Nat → Int32) : lwC St Nu 0 [] := fun St' Nu' _ F r y => ⟨y, rfl⟩
theorem lwC.ext {St Nu St' Nu' : Nat → Int32} {z : Nat} {ls : List zLn} (H : lwC St Nu z ls) (a : ∀ k, k < z → St' k = St k ∧ Nu' k = Nu k) : lwC St' Nu' z ls := fun S N A => H S N (fun k hk => ⟨(A k hk).1.trans (a k hk).1, (A k hk).2.trans (a k hk).2⟩)
/-- a line without a test -/
theorem lwC_line {St Nu c : Nat → Int32} {z j i' j' K : Nat} {ls : List zLn} {v : (Nat → Int32) → Int32} (H : lwC St Nu z ls) (A : sg St Nu c K z j i' j' v) (hK : K ≤ 30) (s1 : St j = 15) : lwC St Nu (j + 1) (ls ++ [(v, none)]) := by
  intro S N B F r y
  obtain ⟨a1, a2, a3, a4⟩ := A
  obtain ⟨y1, p1⟩ := H S N (fun k hk => B k (by omega)) F (r + 1 + (j - z)) y
  rw [show r + (j + 1) = r + 1 + (j - z) + z by omega, p1, evLo_app]
  cases evLo ls F with
  | some u => exact ⟨y, rfl⟩
  | none =>
    obtain ⟨y2, q1, q2, q3⟩ := a3 S N (fun k k1 k2 => B k (by omega)) F (r + 1) 2 y1 (by omega) (by omega)
    refine ⟨y, ?_⟩
    show evC S N F (r + 1 + (j - z)) z 2 y1 = cla (v F)
    rw [q1, evC, if_neg (by omega), (B j (by omega)).1, s1, if_neg (by decide), if_neg (by decide), if_neg (by decide), if_neg (by decide), if_pos rfl, show 2 + 1 - 1 = 2 by omega, q2]
/-- a line with one -/
theorem lwC_when {St Nu c : Nat → Int32} {z m j i' m' j' K1 K2 : Nat} {ls : List zLn} {v t : (Nat → Int32) → Int32} (H : lwC St Nu z ls) (A : sg St Nu c K1 z m i' m' v) (T : sg St Nu c K2 m j m' j' t) (hb : b01 t) (hK1 : K1 ≤ 30) (hK2 : K2 ≤ 30) (s1 : St j = 4) : lwC St Nu (j + 1) (ls ++ [(v, some t)]) := by
  intro S N B F r y
  obtain ⟨a1, a2, a3, a4⟩ := A
  obtain ⟨b1, b2, b3, b4⟩ := T
  obtain ⟨y1, p1⟩ := H S N (fun k hk => B k (by omega)) F (r + 1 + (j - m) + (m - z)) y
  rw [show r + (j + 1) = r + 1 + (j - m) + (m - z) + z by omega, p1, evLo_app]
  cases evLo ls F with
  | some u => exact ⟨y, rfl⟩
  | none =>
    obtain ⟨y2, q1, q2, q3⟩ := a3 S N (fun k k1 k2 => B k (by omega)) F (r + 1 + (j - m)) 2 y1 (by omega) (by omega)
    obtain ⟨y3, u1, u2, u3⟩ := b3 S N (fun k k1 k2 => B k (by omega)) F (r + 1) 3 y2 (by omega) (by omega)
    refine ⟨y3, ?_⟩
    show evC S N F (r + 1 + (j - m) + (m - z)) z 2 y1 = match (if t F = 1 then some (cla (v F)) else none) with
      | some v => v
      | none => evC S N F r (j + 1) 2 y3
    have u1 : evC S N F (r + 1 + (j - m)) m (2 + 1) y2 = evC S N F (r + 1) j (3 + 1) y3 := u1
    rw [q1, u1, evC, if_neg (by omega), (B j (by omega)).1, s1, if_neg (by decide), if_neg (by decide), if_neg (by decide), if_neg (by decide), if_neg (by decide), if_pos rfl, show 3 + 1 - 1 = 3 by omega, show 3 + 1 - 2 = 2 by omega, u2, u3 2 (by omega), q2]
    rcases hb F with h0 | h1
    · rw [if_pos h0, if_neg (by rw [h0]; decide)]
    · rw [if_neg (by rw [h1]; decide), if_pos h1]
