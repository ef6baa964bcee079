/-! BITS of a set -/
def hb (S : Int32) (k : Nat) : Bool := S.toBitVec.getLsbD k
theorem hb_sh : ∀ k, k < 32 → ((nI k &&& 31).toBitVec.smod 32).toNat = k := by decide +kernel
theorem hb_one : ∀ j, j < 32 → ∀ k, k < 32 → hb ((1 : Int32) <<< (nI j &&& 31)) k = decide (k = j) := by decide +kernel
theorem hb_and (S T : Int32) (k : Nat) : hb (S &&& T) k = (hb S k && hb T k) := by unfold hb; rw [Int32.toBitVec_and, BitVec.getLsbD_and]
theorem hb_or (S T : Int32) (k : Nat) : hb (S ||| T) k = (hb S k || hb T k) := by unfold hb; rw [Int32.toBitVec_or, BitVec.getLsbD_or]
theorem hb_xor (S T : Int32) (k : Nat) : hb (S ^^^ T) k = (hb S k ^^ hb T k) := by unfold hb; rw [Int32.toBitVec_xor, BitVec.getLsbD_xor]
theorem hb_0 (k : Nat) : hb 0 k = false := BitVec.getLsbD_zero
theorem hb_m1 : ∀ k, k < 32 → hb (-1) k = true := by decide +kernel
theorem hb_1 : ∀ k, k < 32 → hb 1 k = decide (k = 0) := by decide +kernel
theorem hb_ext {S T : Int32} (h : ∀ k, k < 32 → hb S k = hb T k) : S = T := Int32.toBitVec_inj.mp (BitVec.eq_of_getLsbD_eq h)
theorem hb_in (S : Int32) (k : Nat) (hk : k < 32) : ((S >>> (nI k &&& 31)) &&& 1) = if hb S k = true then 1 else 0 := by
  apply hb_ext
  intro i hi
  rw [hb_and, hb_1 i hi]
  by_cases h0 : i = 0
  · subst h0
    have e : hb (S >>> (nI k &&& 31)) 0 = hb S k := by
      unfold hb
      rw [Int32.toBitVec_shiftRight]
      show (S.toBitVec.sshiftRight ((nI k &&& 31).toBitVec.smod 32).toNat).getLsbD 0 = _
      rw [hb_sh k hk, BitVec.getLsbD_sshiftRight]
      simp [hk]
    rw [e]
    cases hb S k <;> decide
  · rw [decide_eq_false h0, Bool.and_false]
    by_cases hs : hb S k = true
    · rw [if_pos hs, hb_1 i hi, decide_eq_false h0]
    · rw [if_neg hs, hb_0]
theorem hb_set (S : Int32) {j k : Nat} (hj : j < 32) (hk : k < 32) : hb (S ||| ((1 : Int32) <<< (nI j &&& 31))) k = (hb S k || decide (k = j)) := by rw [hb_or, hb_one j hj k hk]
theorem hb_clr (S : Int32) {j k : Nat} (hj : j < 32) (hk : k < 32) : hb (S &&& (((1 : Int32) <<< (nI j &&& 31)) ^^^ -1)) k = (hb S k && !decide (k = j)) := by
  rw [hb_and, hb_xor, hb_one j hj k hk, hb_m1 k hk]
  simp
theorem hb_nI (S k : Nat) (hk : k < 32) : hb (nI S) k = S.testBit k := by
  show (BitVec.ofNat 32 S).getLsbD k = _
  rw [BitVec.getLsbD_ofNat]
  simp [hk]
theorem q_isIn (k : Nat) (hk : k < 32) (S : Int32) (h : zH) : f_X11_isIn (nI k) S h = some (if hb S k = true then 1 else 0, h) := by
  unfold f_X11_isIn
  rw [hb_in S k hk]
  by_cases e : hb S k = true
  · simp only [if_pos e]; rfl
  · simp only [if_neg e]; rfl
theorem i01 (P : Prop) [Decidable P] : ((if P then (1 : Int32) else 0) = 1) = P := by
  by_cases h : P <;> simp [h]
/-! QUARTERS -/
def mvq (qf : Nat → Nat) (a b q : Nat) : Nat → Nat := fun f => if f = a then qf a - q else if f = b then qf b + q else qf f
theorem six {a : Nat} (h : a < 6) : a = 0 ∨ a = 1 ∨ a = 2 ∨ a = 3 ∨ a = 4 ∨ a = 5 := by omega
theorem mvq_sum {qf : Nat → Nat} {a b q : Nat} (ha : a < 6) (hb : b < 6) (hab : a ≠ b) (hq : q ≤ qf a) (hs : qf 0 + qf 1 + qf 2 + qf 3 + qf 4 + qf 5 = 4) : mvq qf a b q 0 + mvq qf a b q 1 + mvq qf a b q 2 + mvq qf a b q 3 + mvq qf a b q 4 + mvq qf a b q 5 = 4 := by
  unfold mvq
  rcases six ha with rfl | rfl | rfl | rfl | rfl | rfl <;> rcases six hb with rfl | rfl | rfl | rfl | rfl | rfl <;> first | exact absurd rfl hab | (simp; omega)
theorem qf4 {qf : Nat → Nat} (hs : qf 0 + qf 1 + qf 2 + qf 3 + qf 4 + qf 5 = 4) {f : Nat} (hf : f < 6) : qf f ≤ 4 := by
  rcases six hf with rfl | rfl | rfl | rfl | rfl | rfl <;> omega
/-- the quarters of one half -/
def hQ (Qu w : Nat → Int32) (i : Nat) (qf : Nat → Nat) : Prop := qf 0 + qf 1 + qf 2 + qf 3 + qf 4 + qf 5 = 4 ∧ ∀ f, f < 6 → Qu (i * 6 + f) = nI (qf f) ∧ w (23 + 10 * i + f) = nI (qf f)
theorem rHal.qu {C Sd Jk Wt Qu w Qu' w' : Nat → Int32} (H : rHal C Sd Jk Wt Qu w) {i : Nat} {qf : Nat → Nat} (hQu : ∀ j, (j < i * 6 ∨ i * 6 + 6 ≤ j) → Qu' j = Qu j) (hw : ∀ j, (j < 23 + 10 * i ∨ 29 + 10 * i ≤ j) → w' j = w j) (hq : hQ Qu' w' i qf) : rHal C Sd Jk Wt Qu' w' := by
  obtain ⟨n, a1, a2, a3, a4⟩ := H
  refine ⟨n, a1, a2, by rw [hw 3 (by omega)]; exact a3, fun k hk => ?_⟩
  obtain ⟨⟨b1, b2⟩, ⟨j, c1, c2, c3⟩, ⟨l, d1, d2, d3⟩, q0, e1, e2⟩ := a4 k hk
  refine ⟨⟨by rw [hw _ (by omega)]; exact b1, b2⟩, ⟨j, c1, c2, by rw [hw _ (by omega)]; exact c3⟩, ⟨l, d1, d2, by rw [hw _ (by omega)]; exact d3⟩, ?_⟩
  by_cases hki : k = i
  · subst hki; exact ⟨qf, hq⟩
  · exact ⟨q0, e1, fun f hf => ⟨by rw [hQu _ (by omega)]; exact (e2 f hf).1, by rw [hw _ (by omega)]; exact (e2 f hf).2⟩⟩
/-- the class moves quarters, the reference adds them twice -/
theorem q_move (i a b : Nat) (x : Int32) (hi : i < 16) (ha : a < 6) (hb : b < 6) (hab : a ≠ b) (h : zH) : f_X3_move (nI i) x (nI a) (nI b) h = some (0, zup (zup h 6 (i * 6 + a) (h 6 (i * 6 + a) - x)) 6 (i * 6 + b) (h 6 (i * 6 + b) + x)) := by
  unfold f_X3_move
  simp (disch := omega) only [l_6, n_mul, n_add, zck_n, n_cl, zst]
  rw [show zup h 6 (i * 6 + a) (h 6 (i * 6 + a) - x) 6 (i * 6 + b) = h 6 (i * 6 + b) from by rw [zup_eq, pk_un (by omega)]]
theorem q_adds (i a : Nat) (x : Int32) (hi : i < 16) (ha : a < 6) (g : zH) : f_X12_adds (nI i) (nI a) x g = some (0, zup g 101 (23 + 10 * i + a) (g 101 (23 + 10 * i + a) + x)) := by
  unfold f_X12_adds
  simp (disch := omega) only [l_20, l_10, l_3, n_mul, n_add, zck_n, n_cl, zst]
  rw [show 20 + 10 * i + 3 + a = 23 + 10 * i + a by omega]
theorem hQ.mv {Qu w Qu' w' : Nat → Int32} {i a b q : Nat} {qf : Nat → Nat} (H : hQ Qu w i qf) (ha : a < 6) (hb : b < 6) (hab : a ≠ b) (hq : q ≤ qf a) (hQu : Qu' = upd (upd Qu (i * 6 + a) (Qu (i * 6 + a) - nI q)) (i * 6 + b) (Qu (i * 6 + b) + nI q)) (hw : w' = upd (upd w (23 + 10 * i + a) (nI (qf a - q))) (23 + 10 * i + b) (nI (qf b + q))) : hQ Qu' w' i (mvq qf a b q) := by
  obtain ⟨h1, h2⟩ := H
  refine ⟨mvq_sum ha hb hab hq h1, fun f hf => ?_⟩
  subst hQu hw
  unfold mvq
  by_cases fa : f = a
  · subst fa
    rw [if_pos rfl, pk_un (by omega), pk_us, pk_un (by omega), pk_us, (h2 f hf).1, n_sub hq]
    exact ⟨rfl, rfl⟩
  · rw [if_neg fa]
    by_cases fb : f = b
    · subst fb
      rw [if_pos rfl, pk_us, pk_us, (h2 f hf).1, n_add]
      exact ⟨rfl, rfl⟩
    · rw [if_neg fb, pk_un (by omega), pk_un (by omega), pk_un (by omega), pk_un (by omega)]
      exact h2 f hf
theorem n_subn {a q : Nat} (h : q ≤ a) : nI a + -nI q = nI (a - q) := by
  rw [← Int32.sub_eq_add_neg, n_sub h]
