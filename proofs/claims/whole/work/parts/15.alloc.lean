/-! making cells: the world grows -/
def zz (h : zH) (d : Nat) : zH := fun c => if c = d then fun _ => 0 else h c
def zext (G : zG) (ns : List Nat) (ls : List (Nat × Nat)) (qs : Nat → Nat) : zG := (zD G, zaI G, zaC G, zaK G, zaV G, zA G, znm G ++ ns, (fun c k => ls.contains (c, k) || zlk G c k), fun c => if ns.contains c = true then qs c else zal G c)
theorem zG_ext {G G' : zG} (h1 : zD G = zD G') (h2 : zaI G = zaI G') (h3 : zaC G = zaC G') (h4 : zaK G = zaK G') (h5 : zaV G = zaV G') (h6 : zA G = zA G') (h7 : znm G = znm G') (h8 : zlk G = zlk G') (h9 : zal G = zal G') : G = G' := by
  obtain ⟨a1, a2, a3, a4, a5, a6, a7, a8, a9⟩ := G
  obtain ⟨b1, b2, b3, b4, b5, b6, b7, b8, b9⟩ := G'
  simp only [zD, zaI, zaC, zaK, zaV, zA, znm, zlk, zal] at *
  subst h1; subst h2; subst h3; subst h4; subst h5; subst h6; subst h7; subst h8; subst h9
  rfl
theorem zext_zext (G : zG) (n1 n2 : List Nat) (l1 l2 : List (Nat × Nat)) (q1 q2 : Nat → Nat) : zext (zext G n1 l1 q1) n2 l2 q2 = zext G (n1 ++ n2) (l1 ++ l2) (fun c => if n2.contains c = true then q2 c else q1 c) := by
  refine zG_ext rfl rfl rfl rfl rfl rfl ?_ ?_ ?_
  · show (znm G ++ n1) ++ n2 = znm G ++ (n1 ++ n2)
    rw [List.append_assoc]
  · funext c k
    show (l2.contains (c, k) || (l1.contains (c, k) || zlk G c k)) = ((l1 ++ l2).contains (c, k) || zlk G c k)
    simp only [List.contains_eq_mem, List.mem_append, Bool.decide_or]
    cases decide ((c, k) ∈ l1) <;> cases decide ((c, k) ∈ l2) <;> rfl
  · funext c
    show (if n2.contains c = true then q2 c else (if n1.contains c = true then q1 c else zal G c)) = (if (n1 ++ n2).contains c = true then (if n2.contains c = true then q2 c else q1 c) else zal G c)
    simp only [List.contains_eq_mem, List.mem_append, decide_eq_true_eq]
    by_cases a : c ∈ n2 <;> by_cases b : c ∈ n1 <;> simp [a, b]
theorem zC_ext {G : zG} {p : Program} {s : State} {m : MethodId} {args : Array Value} {meth : Method} {c : Code} {cc : ByteArray} {nL : Nat} {own : String} {ret : Option FieldType} (ns : List Nat) (ls : List (Nat × Nat)) (qs : Nat → Nat) (C : zC G p s m args meth c cc nL own ret) : zC (zext G ns ls qs) p s m args meth c cc nL own ret := C
def ztg (c k : Nat) : Option (Nat × Bool) := match zsh c with
  | .inl _ => none
  | .inr (_, fl) => fl.getD k none
/-- all links of the shape: target, cell, field, whether it may be null -/
def ztl : List (Nat × Nat × Nat × Bool) := [(1, 0, 0, false), (22, 0, 1, false), (29, 0, 2, false), (38, 0, 3, false), (44, 0, 4, false), (50, 0, 5, true), (71, 0, 6, true), (74, 0, 7, true), (80, 0, 8, true), (2, 1, 0, false), (7, 1, 1, false), (11, 1, 2, false), (16, 1, 3, false), (20, 1, 4, false), (21, 1, 5, false), (3, 2, 0, false), (4, 2, 1, false), (5, 2, 2, false), (6, 2, 3, false), (8, 7, 0, false), (9, 7, 1, false), (10, 7, 2, false), (12, 11, 0, false), (13, 11, 1, false), (14, 11, 2, false), (15, 11, 3, false), (17, 16, 0, false), (18, 16, 1, false), (19, 16, 2, false), (23, 22, 0, false), (24, 22, 1, false), (25, 22, 2, false), (26, 22, 3, false), (27, 22, 4, false), (28, 22, 5, false), (30, 29, 0, false), (31, 29, 1, false), (32, 29, 2, false), (33, 29, 3, false), (34, 29, 4, false), (35, 34, 0, false), (36, 34, 1, false), (37, 34, 2, false), (1, 38, 0, false), (39, 38, 1, false), (40, 38, 2, false), (41, 38, 3, false), (42, 38, 4, false), (43, 38, 5, false), (51, 50, 0, false), (56, 50, 1, false), (60, 50, 2, false), (65, 50, 3, false), (69, 50, 4, false), (70, 50, 5, false), (52, 51, 0, false), (53, 51, 1, false), (54, 51, 2, false), (55, 51, 3, false), (57, 56, 0, false), (58, 56, 1, false), (59, 56, 2, false), (61, 60, 0, false), (62, 60, 1, false), (63, 60, 2, false), (64, 60, 3, false), (66, 65, 0, false), (67, 65, 1, false), (68, 65, 2, false), (38, 71, 0, false), (72, 71, 1, false), (73, 71, 2, false), (75, 74, 0, false), (76, 74, 1, false), (77, 74, 2, false), (78, 74, 3, false), (79, 74, 4, false), (81, 80, 0, false), (82, 80, 1, false), (101, 100, 0, false), (102, 100, 1, false), (103, 100, 2, false), (104, 100, 3, false), (105, 100, 6, false), (106, 100, 7, false), (107, 100, 8, false), (108, 100, 9, false), (109, 100, 10, false), (110, 100, 27, false), (111, 100, 28, false), (112, 100, 29, false), (113, 100, 30, false), (114, 100, 33, false), (115, 100, 34, false), (116, 100, 36, false), (117, 100, 37, false)]
theorem ztl_fin : ∀ c, c < 118 → ∀ k, k < 38 → (match ztg c k with | none => true | some (d, b) => ztl.contains (d, c, k, b)) = true := by decide +kernel
theorem ztg_fin : ∀ c, c < 118 → (match zsh c with | .inl _ => true | .inr (_, fl) => decide (fl.length ≤ 38)) = true := by decide +kernel
theorem ztl_all {c k d : Nat} {b : Bool} (h : ztg c k = some (d, b)) : (d, c, k, b) ∈ ztl := by
  have hc : c < 118 := by
    rcases Nat.lt_or_ge c 118 with h1 | h1
    · exact h1
    · exfalso
      have : zsh c = .inl (false, 0) := by
        unfold zsh
        rw [List.getD_eq_getElem?_getD, List.getElem?_eq_none (by show zshL.length ≤ c; exact h1)]
        rfl
      rw [ztg, this] at h
      cases h
  have hk : k < 38 := by
    rcases Nat.lt_or_ge k 38 with h1 | h1
    · exact h1
    · exfalso
      have h2 := ztg_fin c hc
      unfold ztg at h
      cases hs : zsh c with
      | inl x => rw [hs] at h; cases h
      | inr x =>
        obtain ⟨ci, fl⟩ := x
        rw [hs] at h h2
        simp only [decide_eq_true_eq] at h2
        simp only [List.getD_eq_getElem?_getD] at h
        rw [List.getElem?_eq_none (by omega)] at h
        cases h
  have h1 := ztl_fin c hc k hk
  rw [h] at h1
  simpa [List.contains_eq_mem] using h1
/-- no link leads to d -/
def zun (G : zG) (h : zH) (d : Nat) : Prop := ∀ q ∈ ztl, q.1 = d → if q.2.2.2 = true then h q.2.1 q.2.2.1 = 0 else zlk G q.2.1 q.2.2.1 = false
theorem zfs_al {lk : Nat → Nat → Bool} {al al' : Nat → Nat} {g : Nat → Int32} {c ci : Nat} {fl : List (Option (Nat × Bool))} (hs : zsh c = .inr (ci, fl)) (ho : ∀ k d b, ztg c k = some (d, b) → (if b = true then g k = 0 else lk c k = false) ∨ al' d = al d) : zfs lk al' g c 0 fl = zfs lk al g c 0 fl := by
  apply List.ext_getElem?
  intro j
  rw [zfs_get, zfs_get]
  cases hj : fl[j]? with
  | none => rfl
  | some f =>
    rcases f with _ | ⟨d, b⟩
    · rfl
    · have ht : ztg c j = some (d, b) := by
        unfold ztg
        rw [hs]
        simp only [List.getD_eq_getElem?_getD, hj]
        rfl
      rcases ho j d b ht with h1 | h1
      · cases b
        · simp only [Bool.false_eq_true, if_false] at h1
          simp only [Option.map_some, zv, Nat.zero_add, h1]
          rfl
        · simp only [if_true] at h1
          simp only [Option.map_some, zv, Nat.zero_add, h1]
          rfl
      · cases b <;> simp only [Option.map_some, zv, h1]
theorem zce_al {aI aC : ClassId} {lk : Nat → Nat → Bool} {al al' : Nat → Nat} {g : Nat → Int32} {c : Nat} (ho : ∀ k d b, ztg c k = some (d, b) → (if b = true then g k = 0 else lk c k = false) ∨ al' d = al d) : zce aI aC lk al' g c = zce aI aC lk al g c := by
  unfold zce
  cases hs : zsh c with
  | inl x => rfl
  | inr x =>
    obtain ⟨ci, fl⟩ := x
    simp only
    rw [zfs_al hs ho]
theorem zext_al {G : zG} {ns : List Nat} {ls : List (Nat × Nat)} {qs : Nat → Nat} {c : Nat} (h : c ∉ ns) : zal (zext G ns ls qs) c = zal G c := by
  show (if ns.contains c = true then qs c else zal G c) = zal G c
  rw [if_neg]
  simpa [List.contains_eq_mem] using h
theorem zext_aln {G : zG} {ns : List Nat} {ls : List (Nat × Nat)} {qs : Nat → Nat} {c : Nat} (h : c ∈ ns) : zal (zext G ns ls qs) c = qs c := by
  show (if ns.contains c = true then qs c else zal G c) = qs c
  rw [if_pos]
  simpa [List.contains_eq_mem] using h
theorem zz_ne {h : zH} {d c : Nat} (hc : c ≠ d) : zz h d c = h c := by simp [zz, hc]
theorem zz_eq {h : zH} {d : Nat} : zz h d d = fun _ => 0 := by simp [zz]
theorem zwd_new {G : zG} {h : zH} {d q : Nat} {e : va_E} (hd : d ∉ znm G) (hu : zun G h d) (he : zce (zaI G) (zaC G) (zlk G) (zal (zext G [d] [] (fun _ => q))) (fun _ => 0) d = e) : zwd G h ++ [(q, e)] = zwd (zext G [d] [] (fun _ => q)) (zz h d) := by
  have e1 : zwd (zext G [d] [] (fun _ => q)) (zz h d) = (znm G ++ [d]).map fun c => (zal (zext G [d] [] (fun _ => q)) c, zce (zaI G) (zaC G) (zlk G) (zal (zext G [d] [] (fun _ => q))) (zz h d c) c) := by
    unfold zwd
    rw [show zlk (zext G [d] [] (fun _ => q)) = zlk G from by funext c k; rfl]
    rfl
  rw [e1, List.map_append]
  congr 1
  · unfold zwd
    apply List.map_congr_left
    intro c hc
    have hcd : c ≠ d := fun z => hd (z ▸ hc)
    rw [zext_al (by simpa using hcd), zz_ne hcd]
    have e2 : zce (zaI G) (zaC G) (zlk G) (zal (zext G [d] [] (fun _ => q))) (h c) c = zce (zaI G) (zaC G) (zlk G) (zal G) (h c) c := by
      apply zce_al
      intro k d' b ht
      by_cases hdd : d' = d
      · subst hdd
        exact Or.inl (hu _ (ztl_all ht) rfl)
      · exact Or.inr (zext_al (by simpa using hdd))
    rw [e2]
  · show [(q, e)] = [(_, _)]
    rw [zext_aln (by simp), zz_eq, he]
theorem kl_obj : Cond.instanceMethod Lib.objectInit ∈ zg ∧ Cond.code Lib.objectInit ⟨#[0xb1]⟩ 1 none ∈ zg := ⟨zg_of (List.mem_of_getElem? (i := 110) (by decide +kernel)) (by decide +kernel), zg_of (List.mem_of_getElem? (i := 111) (by decide +kernel)) (by decide +kernel)⟩
theorem kl_arr : Cond.arrayClass (newarray.typeOf .int) ∈ zg ∧ Cond.arrayClass (newarray.typeOf .char) ∈ zg := ⟨zg_of (List.mem_of_getElem? (i := 152) (by decide +kernel)) (by decide +kernel), zg_of (List.mem_of_getElem? (i := 370) (by decide +kernel)) (by decide +kernel)⟩
section ZR6
variable {p : Program} {l : Launch} {e : Env} {R : Room} {s : State} {m : MethodId} {args : Array Value} {below : List Frame} {meth : Method} {c : Code} {H : Heap} {locs : List Loc} {cells slots : Nat} {Q : State → Prop} {cc : ByteArray} {nL : Nat} {own : String} {ret : Option FieldType} {G : zG} {h : zH} {pc : Nat} {ls : Array Slot} {rest : List Value}
theorem zobj {idx : Nat} {a : Nat} (C : zC G p s m args meth c cc nL own ret) (hw : Cond.methodLink own idx Lib.objectInit ∈ zg) (hr8 : (rest.map fun v => v.category).sum ≤ 8) (hl : ls.size = nL) (hR : 1 ≤ R.frames ∧ 60 ≤ R.locals) (hdg : decode cc pc = .ok (.invokespecial idx, 3))
    (kk : W p l e R s m args below meth c H locs cells slots Q (F0 m (pc + 3) ls rest)) : W p l e R s m args below meth c H locs cells slots Q (F0 m pc ls (.ref a :: rest)) :=
  W.objInit C.1 C.2.1 C.2.2.2.1 (C.2.2.2.2.1 _ hw) (C.2.2.2.2.1 _ kl_obj.1) (C.2.2.2.2.1 _ kl_obj.2) rfl (hl.trans C.2.2.1.symm) rfl hdg hR.1 (by show 2 * 0 + _ + 12 ≤ R.locals; have := hR.2; omega) kk
theorem zclass {cA : ClassId} {ty : FieldType} (h1 : va_RA s cA ty) (h2 : va_RA s (zaI G) ty) (ht : ty = .int) : cA = zaI G := by
  subst ht
  exact Option.some.inj (h1.symm.trans h2)
theorem zclassC {cA : ClassId} {ty : FieldType} (h1 : va_RA s cA ty) (h2 : va_RA s (zaC G) ty) (ht : ty = .char) : cA = zaC G := by
  subst ht
  exact Option.some.inj (h1.symm.trans h2)
theorem znewa {n : Int32} {N d : Nat} (C : zC G p s m args meth c cc nL own ret) (hS : zS G h s.heap H locs) (hd : d ∉ znm G) (hu : zun G h d) (hsh : zsh d = .inl (false, N)) (hn : ¬ n < 0) (hN : n.toNatClampNeg = N) (hB : N ≤ 10000) (hcells : cells + 1 ≤ R.cells) (hslots : slots + N ≤ R.slots) (hdg : decode cc pc = .ok (.newarray .int, 2))
    (kk : ∀ (q : Nat) (H1 : Heap), zS (zext G [d] [] (fun _ => q)) (zz h d) s.heap H1 locs → W p l e R s m args below meth c H1 locs (cells + 1) (slots + N) Q (F0 m (pc + 2) ls (.ref q :: rest))) : W p l e R s m args below meth c H locs cells slots Q (F0 m pc ls (.int n :: rest)) := by
  refine va_newa (ty := .int) (a0 := (N, .inl fun _ => 0)) C.1 C.2.1 (C.2.2.2.2.1 _ kl_arr.1) rfl C.2.2.2.2.2.1.1 hS.1 hS.2.1 hS.2.2 C.2.2.2.2.2.2.2.1 (fun cA => by rw [vp_cell_i]; rfl) hn hN (by show N * 4 ≤ _; omega) hcells hslots hdg (fun q cA H1 hK hP hD hS1 => ?_)
  have hcA : cA = zaI G := zclass (hK.2 2 (cA, .int) rfl).2 (C.2.2.2.2.2.1.1.2 0 (zaI G, .int) rfl).2 rfl
  subst hcA
  rw [zwd_new (h := h) hd hu (by rw [zce, hsh]; rfl)] at hP hD
  exact kk q H1 ⟨hP, hD, hS1⟩
theorem znewc {n : Int32} {N d : Nat} (C : zC G p s m args meth c cc nL own ret) (hS : zS G h s.heap H locs) (hd : d ∉ znm G) (hu : zun G h d) (hsh : zsh d = .inl (true, N)) (hn : ¬ n < 0) (hN : n.toNatClampNeg = N) (hB : N ≤ 10000) (hcells : cells + 1 ≤ R.cells) (hslots : slots + N ≤ R.slots) (hdg : decode cc pc = .ok (.newarray .char, 2))
    (kk : ∀ (q : Nat) (H1 : Heap), zS (zext G [d] [] (fun _ => q)) (zz h d) s.heap H1 locs → W p l e R s m args below meth c H1 locs (cells + 1) (slots + N) Q (F0 m (pc + 2) ls (.ref q :: rest))) : W p l e R s m args below meth c H locs cells slots Q (F0 m pc ls (.int n :: rest)) := by
  refine va_newa (ty := .char) (a0 := (N, .inl fun _ => 0)) C.1 C.2.1 (C.2.2.2.2.1 _ kl_arr.2) rfl C.2.2.2.2.2.1.1 hS.1 hS.2.1 hS.2.2 C.2.2.2.2.2.2.2.1 (fun cA => by rw [vp_cell_i]; rfl) hn hN (by show N * 2 ≤ _; omega) hcells hslots hdg (fun q cA H1 hK hP hD hS1 => ?_)
  have hcA : cA = zaC G := zclassC (hK.2 2 (cA, .char) rfl).2 (C.2.2.2.2.2.1.1.2 1 (zaC G, .char) rfl).2 rfl
  subst hcA
  rw [zwd_new (h := h) hd hu (by rw [zce, hsh]; rfl)] at hP hD
  exact kk q H1 ⟨hP, hD, hS1⟩
theorem zfs_zero {lk : Nat → Nat → Bool} {al : Nat → Nat} {d j : Nat} {fl : List (Option (Nat × Bool))} (hlk : ∀ k, lk d k = false) (hj : j < fl.length) : vp_V (zfs lk al (fun _ => 0) d 0 fl) j = vp_V (fl.map fun f => match f with | none => Value.int 0 | some _ => .null) j := by
  unfold vp_V
  simp only [List.getD_eq_getElem?_getD, zfs_get, List.getElem?_map, Nat.zero_add]
  cases fl[j]? with
  | none => rfl
  | some f => rcases f with _ | ⟨d', _ | _⟩ <;> simp [zv, hlk]
theorem znewo {idx d ci : Nat} {fl : List (Option (Nat × Bool))} {q : vw_C} (C : zC G p s m args meth c cc nL own ret) (hS : zS G h s.heap H locs) (hd : d ∉ znm G) (hu : zun G h d) (hlk : ∀ k, zlk G d k = false) (hsh : zsh d = .inr (ci, fl)) (hcl : zcl[ci]? = some q) (ty : Nat → FieldType) (hty : ∀ j, j < q.2.2 → parseFieldDescriptor (q.2.1 j).2.2.1 = some (ty j)) (hin : ∀ w ∈ u_ws q.1 q.2.1 q.2.2, w ∈ zg) (hlen : q.2.2 ≤ fl.length) (hdef : ∀ j, j < q.2.2 → defaultValue (ty j) = vp_V (fl.map fun f => match f with | none => Value.int 0 | some _ => .null) j) (hw : Cond.classLink own idx q.1 ∈ zg ∧ Cond.instantiable q.1 q.2.2 ∈ zg ∧ Cond.initialized q.1 ∈ zg) (hcells : cells + 1 ≤ R.cells) (hslots : slots + q.2.2 ≤ R.slots) (hdg : decode cc pc = .ok (.new idx, 3))
    (kk : ∀ (a : Nat) (H1 : Heap), zS (zext G [d] [] (fun _ => a)) (zz h d) s.heap H1 locs → W p l e R s m args below meth c H1 locs (cells + 1) (slots + q.2.2) Q (F0 m (pc + 3) ls (.ref a :: rest))) : W p l e R s m args below meth c H locs cells slots Q (F0 m pc ls rest) := by
  obtain ⟨Cn, T, N⟩ := q
  have hal : ∀ a a', zfs (zlk G) (zal (zext G [d] [] (fun _ => a))) (fun _ => 0) d 0 fl = zfs (zlk G) (zal (zext G [d] [] (fun _ => a'))) (fun _ => 0) d 0 fl := fun a a' => zfs_al hsh (fun k d' b _ => Or.inl (by cases b <;> simp [hlk]))
  refine va_new (ci := ci) (fs := zfs (zlk G) (zal (zext G [d] [] (fun _ => 0))) (fun _ => 0) d 0 fl) (C := Cn) (T := T) (N := N) C.1 C.2.1 C.2.2.2.2.1 hin ty hty C.2.2.2.1 (C.2.2.2.2.1 _ hw.1) (C.2.2.2.2.1 _ hw.2.1) (C.2.2.2.2.1 _ hw.2.2) C.2.2.2.2.2.1.1 hS.1 hS.2.1 hS.2.2 C.2.2.2.2.2.2.2.1 hcl (fun j hj => by rw [hdef j hj, zfs_zero hlk (Nat.lt_of_lt_of_le hj hlen)]) hcells hslots hdg (fun a H1 hP hD hS1 => ?_)
  rw [zwd_new (h := h) hd hu (by rw [zce, hsh]; simp only; rw [hal a 0])] at hP hD
  exact kk a H1 ⟨hP, hD, hS1⟩
theorem zputL {idx c0 k d a : Nat} {v : Nat} {ty : FieldType} (C : zC G p s m args meth c cc nL own ret) (hS : zS G h s.heap H locs) (F : zFc own idx c0 k (some (d, false))) (hfin : ∀ q : vw_C, ∀ ci fl, zsh c0 = .inr (ci, fl) → zcl[ci]? = some q → (q.2.1 k).2.2.2 = true ∧ (q.2.1 k).1 = own ∧ parseFieldDescriptor (q.2.1 k).2.2.1 = some ty) (hin : meth.name = "<init>") (hty : ∀ x : Nat, narrow ty (.ref x) = .ref x ∧ fits ty (.ref x) = true) (hc : c0 ∈ znm G) (ha : zal G c0 = a) (hv : zal G d = v) (hdg : decode cc pc = .ok (.putfield idx, 3))
    (kk : ∀ (H1 : Heap) (locs1 : List Loc), zS (zext G [] [(c0, k)] (fun _ => 0)) h s.heap H1 locs1 → W p l e R s m args below meth c H1 locs1 cells slots Q (F0 m (pc + 3) ls rest)) : W p l e R s m args below meth c H locs cells slots Q (F0 m pc ls (.ref v :: .ref a :: rest)) := by
  subst ha
  subst hv
  obtain ⟨ci, fl, ⟨Cn, T, N⟩, ty0, hsh, hcl, hk, hin1, hlink, hf, hty0, hnm⟩ := F
  obtain ⟨hfin, hdecl, hd⟩ := hfin _ _ _ hsh hcl
  obtain ⟨q0, hq0⟩ := List.getElem?_of_mem hc
  have hg : (zfs (zlk G) (zal G) (h c0) c0 0 fl)[k]? = some (zv (zlk G) (zal G) (h c0) c0 k (some (d, false))) := by rw [zfs_get, hf]; simp
  refine va_putF (D := zD G) (ci := ci) (C := Cn) (T := T) (N := N) (v := .ref (zal G d)) (ty := ty) C.1 C.2.1 C.2.2.2.2.1 hin1 ty0 hty0 hnm C.2.2.2.1 C.2.2.2.2.2.1.1 hS.1 hS.2.1 hS.2.2 q0 (zwd_obj hq0 hsh) hcl k hk (C.2.2.2.2.1 _ hlink) (fun _ h9 => h9) hfin hin hdecl hd (hty _).1 (hty _).2 (List.getElem?_eq_some_iff.mp hg).1 hdg (fun H1 locs1 hP hD hS1 => ?_)
  have e1 : (zwd G h).set q0 (zal G c0, .inr (ci, (zfs (zlk G) (zal G) (h c0) c0 0 fl).set k (.ref (zal G d)))) = zwd (zext G [] [(c0, k)] (fun _ => 0)) h := by
    have e2 : zwd (zext G [] [(c0, k)] (fun _ => 0)) h = (znm G).map fun c => (zal G c, zce (zaI G) (zaC G) (fun c' k' => [(c0, k)].contains (c', k') || zlk G c' k') (zal G) (h c) c) := by
      show ((znm G ++ []).map _) = _
      rw [List.append_nil]
      rfl
    rw [e2]
    have key : ∀ c, c ≠ c0 → zce (zaI G) (zaC G) (fun c' k' => [(c0, k)].contains (c', k') || zlk G c' k') (zal G) (h c) c = zce (zaI G) (zaC G) (zlk G) (zal G) (h c) c := by
      intro c hcc
      unfold zce
      cases hs : zsh c with
      | inl x => rfl
      | inr x =>
        obtain ⟨ci', fl'⟩ := x
        simp only
        congr 2
        apply List.ext_getElem?
        intro j
        rw [zfs_get, zfs_get]
        cases fl'[j]? with
        | none => rfl
        | some f => rcases f with _ | ⟨d', _ | _⟩ <;> simp [zv, hcc]
    have key0 : zce (zaI G) (zaC G) (fun c' k' => [(c0, k)].contains (c', k') || zlk G c' k') (zal G) (h c0) c0 = .inr (ci, (zfs (zlk G) (zal G) (h c0) c0 0 fl).set k (.ref (zal G d))) := by
      unfold zce
      rw [hsh]
      simp only
      congr 2
      apply List.ext_getElem?
      intro j
      by_cases hkj : k = j
      · subst hkj
        rw [List.getElem?_set_self (List.getElem?_eq_some_iff.mp hg).1, zfs_get, hf]
        simp [zv]
      · rw [List.getElem?_set_ne hkj, zfs_get, zfs_get]
        cases fl[j]? with
        | none => rfl
        | some f => rcases f with _ | ⟨d', _ | _⟩ <;> simp [zv, Ne.symm hkj]
    apply List.ext_getElem?
    intro j
    by_cases hij : q0 = j
    · subst hij
      rw [List.getElem?_set_self (List.getElem?_eq_some_iff.mp (zwd_get (h := h) hq0)).1, List.getElem?_map, hq0]
      simp only [Option.map_some, key0]
    · rw [List.getElem?_set_ne hij, List.getElem?_map]
      cases hj : (znm G)[j]? with
      | none => simp [zwd, List.getElem?_map, hj]
      | some d9 =>
        have hd9 : d9 ≠ c0 := by
          intro e9
          subst e9
          exact hij (hS.2.1.1 q0 j _ _ (zwd_get hq0) (zwd_get hj) rfl)
        rw [zwd_get hj]
        simp only [Option.map_some, key d9 hd9]
  rw [e1] at hP hD
  exact kk H1 locs1 ⟨hP, hD, hS1⟩
end ZR6
