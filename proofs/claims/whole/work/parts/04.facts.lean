theorem kl_max : Cond.static Lib.Math.max.name ∈ zg ∧ Cond.code Lib.Math.max.name Lib.Math.max.code 2 (some .int) ∈ zg := ⟨zg_of (List.mem_of_getElem? (i := 660) (by decide +kernel)) (by decide +kernel), zg_of (List.mem_of_getElem? (i := 661) (by decide +kernel)) (by decide +kernel)⟩
theorem kl_min : Cond.static Lib.Math.min.name ∈ zg ∧ Cond.code Lib.Math.min.name Lib.Math.min.code 2 (some .int) ∈ zg := ⟨zg_of (List.mem_of_getElem? (i := 663) (by decide +kernel)) (by decide +kernel), zg_of (List.mem_of_getElem? (i := 664) (by decide +kernel)) (by decide +kernel)⟩
theorem kl_abs : Cond.static Lib.Math.abs.name ∈ zg ∧ Cond.code Lib.Math.abs.name Lib.Math.abs.code 1 (some .int) ∈ zg := ⟨zg_of (List.mem_of_getElem? (i := 1022) (by decide +kernel)) (by decide +kernel), zg_of (List.mem_of_getElem? (i := 1023) (by decide +kernel)) (by decide +kernel)⟩
theorem kl_math : Cond.initialized "java/lang/Math" ∈ zg := zg_of (List.mem_of_getElem? (i := 98) (by decide +kernel)) (by decide +kernel)
theorem kl_acp : Cond.native arraycopyName ∈ zg ∧ Cond.static arraycopyName ∈ zg ∧ Cond.initialized "java/lang/System" ∈ zg := ⟨zg_of (List.mem_of_getElem? (i := 750) (by decide +kernel)) (by decide +kernel), zg_of (List.mem_of_getElem? (i := 749) (by decide +kernel)) (by decide +kernel), zg_of (List.mem_of_getElem? (i := 100) (by decide +kernel)) (by decide +kernel)⟩
/-! more rows: names for numbers and heaps, Math, arraycopy, facts by the tables -/
def zN : Nat := 4096
def zst (h : zH) (k : zH → zR) : zR := k h
def zlt (x : Int32) (k : Int32 → zR) : zR := k x
theorem zst_some {h : zH} {k : zH → zR} {q : Int32 × zH} (hf : zst h k = some q) : ∃ h1, h1 = h ∧ k h1 = some q := ⟨h, rfl, hf⟩
theorem zlt_some {x : Int32} {k : Int32 → zR} {q : Int32 × zH} (hf : zlt x k = some q) : ∃ y, y = x ∧ k y = some q := ⟨x, rfl, hf⟩
theorem zfin {c0 k ci : Nat} {fl : List (Option (Nat × Bool))} {q : vw_C} (h1 : zsh c0 = .inr (ci, fl)) (h2 : zcl[ci]? = some q) (h3 : (q.2.1 k).2.2.2 = false ∧ (q.2.1 k).2.2.1 = "I") : ∀ q : vw_C, ∀ ci fl, zsh c0 = .inr (ci, fl) → zcl[ci]? = some q → (q.2.1 k).2.2.2 = false ∧ (q.2.1 k).2.2.1 = "I" := by
  intro q' ci' fl' g1 g2
  cases Sum.inr.inj (h1.symm.trans g1)
  cases Option.some.inj (h2.symm.trans g2)
  exact h3
theorem zso {x : Int32} (lo n : Nat) (h : ∀ k, k < n → ¬ x = Int32.ofNat (lo + k)) : x.toInt < (lo : Int) ∨ (lo : Int) + n - 1 < x.toInt := by
  rcases Int.lt_or_le x.toInt lo with h1 | h1
  · exact Or.inl h1
  · right
    rcases Int.lt_or_le ((lo : Int) + n - 1) x.toInt with h2 | h2
    · exact h2
    · exfalso
      have hb := x.toInt_lt
      refine h (x.toInt.toNat - lo) (by omega) ?_
      rw [show lo + (x.toInt.toNat - lo) = x.toInt.toNat by omega]
      apply Int32.toInt_inj.mp
      rw [show Int32.ofNat x.toInt.toNat = nI x.toInt.toNat from rfl, nI_toInt (by omega)]
      omega
section ZR2
variable {p : Program} {l : Launch} {e : Env} {R : Room} {s : State} {m : MethodId} {args : Array Value} {below : List Frame} {meth : Method} {c : Code} {H : Heap} {locs : List Loc} {cells slots : Nat} {Q : State → Prop} {cc : ByteArray} {nL : Nat} {own : String} {ret : Option FieldType} {G : zG} {h : zH} {pc : Nat} {ls : Array Slot} {rest : List Value}
theorem ztop {x y : Int32} (hy : y = x) (kk : W p l e R s m args below meth c H locs cells slots Q (F0 m pc ls (.int y :: rest))) : W p l e R s m args below meth c H locs cells slots Q (F0 m pc ls (.int x :: rest)) := hy ▸ kk
theorem zmax {idx : Nat} {x y : Int32} (C : zC G p s m args meth c cc nL own ret) (hw : Cond.methodLink own idx Lib.Math.max.name ∈ zg) (hr8 : (rest.map fun v => v.category).sum ≤ 8) (hl : ls.size = nL) (hR : 1 ≤ R.frames ∧ 60 ≤ R.locals ∧ cells ≤ R.cells ∧ slots ≤ R.slots) (hdg : decode cc pc = .ok (.invokestatic idx, 3))
    (kk : W p l e R s m args below meth c H locs cells slots Q (F0 m (pc + 3) ls (.int (if x < y then y else x) :: rest))) : W p l e R s m args below meth c H locs cells slots Q (F0 m pc ls (.int y :: .int x :: rest)) :=
  va_mmax C.1 C.2.1 (C.2.2.1.trans hl.symm) C.2.2.2.1 (C.2.2.2.2.1 _ hw) (C.2.2.2.2.1 _ kl_max.1) (C.2.2.2.2.1 _ kl_math) (C.2.2.2.2.1 _ kl_max.2) hR.1 (by have := hR.2.1; omega) hR.2.2.1 hR.2.2.2 hdg kk
theorem zmin {idx : Nat} {x y : Int32} (C : zC G p s m args meth c cc nL own ret) (hw : Cond.methodLink own idx Lib.Math.min.name ∈ zg) (hr8 : (rest.map fun v => v.category).sum ≤ 8) (hl : ls.size = nL) (hR : 1 ≤ R.frames ∧ 60 ≤ R.locals ∧ cells ≤ R.cells ∧ slots ≤ R.slots) (hdg : decode cc pc = .ok (.invokestatic idx, 3))
    (kk : W p l e R s m args below meth c H locs cells slots Q (F0 m (pc + 3) ls (.int (if y < x then y else x) :: rest))) : W p l e R s m args below meth c H locs cells slots Q (F0 m pc ls (.int y :: .int x :: rest)) :=
  va_mmin C.1 C.2.1 (C.2.2.1.trans hl.symm) C.2.2.2.1 (C.2.2.2.2.1 _ hw) (C.2.2.2.2.1 _ kl_min.1) (C.2.2.2.2.1 _ kl_math) (C.2.2.2.2.1 _ kl_min.2) hR.1 (by have := hR.2.1; omega) hR.2.2.1 hR.2.2.2 hdg kk
theorem zabs {idx : Nat} {x : Int32} (C : zC G p s m args meth c cc nL own ret) (hw : Cond.methodLink own idx Lib.Math.abs.name ∈ zg) (hr8 : (rest.map fun v => v.category).sum ≤ 8) (hl : ls.size = nL) (hR : 1 ≤ R.frames ∧ 60 ≤ R.locals ∧ cells ≤ R.cells ∧ slots ≤ R.slots) (hdg : decode cc pc = .ok (.invokestatic idx, 3))
    (kk : W p l e R s m args below meth c H locs cells slots Q (F0 m (pc + 3) ls (.int (if 0 ≤ x then x else 0 - x) :: rest))) : W p l e R s m args below meth c H locs cells slots Q (F0 m pc ls (.int x :: rest)) :=
  va_mabs C.1 C.2.1 (C.2.2.1.trans hl.symm) C.2.2.2.1 (C.2.2.2.2.1 _ hw) (C.2.2.2.2.1 _ kl_abs.1) (C.2.2.2.2.1 _ kl_math) (C.2.2.2.2.1 _ kl_abs.2) hR.1 (by have := hR.2.1; omega) hR.2.2.1 hR.2.2.2 hdg kk
theorem zcp_ne {h : zH} {a b : Nat} {sp dp n : Int32} : ∀ d, d ≠ b → zcp h a b sp dp n d = h d := fun d hd => by simp [zcp, hd]
theorem zcp_eq {h : zH} {a b : Nat} {sp dp n : Int32} : zcp h a b sp dp n b = va_cpy (h a) (h b) sp.toNatClampNeg dp.toNatClampNeg n.toNatClampNeg := by simp [zcp]
theorem zacp {idx c0 c1 n0 n1 : Nat} {sp dp n : Int32} (C : zC G p s m args meth c cc nL own ret) (hS : zS G h s.heap H locs) (hw : Cond.methodLink own idx arraycopyName ∈ zg) (hs0 : zsh c0 = .inl (false, n0)) (hs1 : zsh c1 = .inl (false, n1)) (hc0 : c0 ∈ znm G) (hc1 : c1 ∈ znm G) (hb : ¬ sp < 0 ∧ ¬ dp < 0 ∧ ¬ n < 0 ∧ sp.toNatClampNeg + n.toNatClampNeg ≤ n0 ∧ dp.toNatClampNeg + n.toNatClampNeg ≤ n1) (hr8 : (rest.map fun v => v.category).sum ≤ 8) (hl : ls.size = nL) (hR : 1 ≤ R.frames ∧ 60 ≤ R.locals) (hdg : decode cc pc = .ok (.invokestatic idx, 3))
    (kk : ∀ (H1 : Heap) (locs1 : List Loc), zS G (zcp h c0 c1 sp dp n) s.heap H1 locs1 → W p l e R s m args below meth c H1 locs1 cells slots Q (F0 m (pc + 3) ls rest)) : W p l e R s m args below meth c H locs cells slots Q (F0 m pc ls (.int n :: .int dp :: .ref (zal G c1) :: .int sp :: .ref (zal G c0) :: rest)) := by
  obtain ⟨q0, hq0⟩ := List.getElem?_of_mem hc0
  obtain ⟨q1, hq1⟩ := List.getElem?_of_mem hc1
  obtain ⟨b1, b2, b3, b4, b5⟩ := hb
  have hnw : nativeFrameWords "java/lang/System" "arraycopy" 5 + 19 ≤ 60 := by decide +kernel
  refine va_copyi C.1 C.2.1 (C.2.2.1.trans hl.symm) C.2.2.2.1 (C.2.2.2.2.1 _ hw) (C.2.2.2.2.1 _ kl_acp.1) (C.2.2.2.2.1 _ kl_acp.2.1) (C.2.2.2.2.1 _ kl_acp.2.2) C.2.2.2.2.2.1.1 hS.1 hS.2.1 hS.2.2 q0 q1 0 0 (ty := .int) (zwd_arr hq0 hs0) (zwd_arr hq1 hs1) rfl rfl rfl b1 b2 b3 b4 b5 (fun i hi => rfl) hR.1 (by have := hR.2; omega) hdg (fun H1 locs1 hP hD hS1 => ?_)
  have e1 : (zwd G h).set q1 (zal G c1, .inl (if false = true then zaC G else zaI G, n1, .inl (va_cpy (h c0) (h c1) sp.toNatClampNeg dp.toNatClampNeg n.toNatClampNeg))) = zwd G (zcp h c0 c1 sp dp n) := zwd_set hS.2.1 hq1 zcp_ne (by rw [zcp_eq, zce, hs1])
  rw [e1] at hP hD
  exact kk H1 locs1 ⟨hP, hD, hS1⟩
theorem zldc {idx : Nat} {v : Int32} (C : zC G p s m args meth c cc nL own ret) (hw : Cond.constant own idx v ∈ zg) (hdg : decode cc pc = .ok (.ldc idx, 2)) (kk : W p l e R s m args below meth c H locs cells slots Q (F0 m (pc + 2) ls (.int v :: rest))) : W p l e R s m args below meth c H locs cells slots Q (F0 m pc ls rest) := lv_ldc C.1 C.2.1 C.2.2.2.1 (C.2.2.2.2.1 _ hw) hdg kk
end ZR2
