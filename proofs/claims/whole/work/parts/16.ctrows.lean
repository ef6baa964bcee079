/-! contracts of constructors -/
theorem zext_nil {G : zG} {q : Nat → Nat} : zext G [] [] q = G := by
  refine zG_ext rfl rfl rfl rfl rfl rfl ?_ ?_ ?_
  · show znm G ++ [] = znm G
    rw [List.append_nil]
  · funext c k; rfl
  · funext c; rfl
def zrmC (n mc ms : Nat) : Room := { frames := n, cells := mc, slots := ms, locals := 60 * n }
def zQC (G : zG) (ns : List Nat) (ls : List (Nat × Nat)) (h : zH) : Array Value → State → Outcome → State → Prop := va_Qv (fun (_ : Nat → Nat) => True) (fun qs t => zPost (zext G ns ls qs) h t) (zA G)
def zCtC (l : Launch) (y : MethodName) (cc : ByteArray) (nL : Nat) (n mc ms : Nat) (av : List Value) (G : zG) (h : zH) (ns : List Nat) (ls : List (Nat × Nat)) (h' : zH) : Prop := Met l y (zw y cc nL none) (zrmC n mc ms) (va_Pc av (zPre G h)) (zQC G ns ls h') mc ms (zA G)
theorem zMetC {l : Launch} {y : MethodName} {cc : ByteArray} {nL : Nat} {n mc ms : Nat} {av : List Value} {G : zG} {h h' : zH} {ns : List Nat} {ls' : List (Nat × Nat)} (hy : plainName y.cls = true) (hyn : y.name = "<init>") (hn : (lg_sl av).length ≤ nL)
    (body : ∀ (p : Program) (e : Env) (s : State) (m : MethodId) (below : List Frame) (meth : Method) (c : Code) (ls : Array Slot), zC G p s m av.toArray meth c cc nL y.cls none → meth.name = "<init>" → lv_has ls nL (lv_args 0 av) → zS (zext G [] [] (fun _ => 0)) h s.heap s.heap [] → W p l e (zrmC n mc ms) s m av.toArray below meth c s.heap [] 0 0 (MQ below (zQC G ns ls' h') av.toArray s mc ms (zA G)) (F0 m 0 ls [])) :
    zCtC l y cc nL n mc ms av G h ns ls' h' := by
  refine Met.ofW (cc := cc) (maxL := nL) (ret := none) hy rfl ?_
  intro p e s m args below meth c s₁ B hml hv
  obtain ⟨rfl, hP, hD, hA, hK, hE⟩ := hv
  have hts := atoms_spec (ws := zw y cc nL none) B.pre
  have hl := lv_entry av hn
  rw [lg_entry_eq]
  exact body p e s m below meth c _ ⟨B.exec, B.bytes, hml, findClass_of_methodNamed B.named, fun w hw => hts w (List.mem_cons_of_mem _ hw), hK, hE, hA, B.returns, B.notSynchronized⟩ ((name_of_methodNamed B.named B.method).1.trans hyn) hl (by rw [zext_nil]; exact ⟨hP, hD, va_S.rf⟩)
theorem zfresh {G : zG} {ns : List Nat} {ls : List (Nat × Nat)} {qs : Nat → Nat} {d : Nat} (h1 : d ∉ znm G) (h2 : d ∉ ns) : d ∉ znm (zext G ns ls qs) := fun z => (List.mem_append.mp z).elim h1 h2
theorem zmem_o {G : zG} {ns : List Nat} {ls : List (Nat × Nat)} {qs : Nat → Nat} {d : Nat} (h1 : d ∈ znm G) : d ∈ znm (zext G ns ls qs) := List.mem_append_left _ h1
theorem zmem_n {G : zG} {ns : List Nat} {ls : List (Nat × Nat)} {qs : Nat → Nat} {d : Nat} (h1 : d ∈ ns) : d ∈ znm (zext G ns ls qs) := List.mem_append_right _ h1
theorem zlk_f {G : zG} {ns : List Nat} {ls : List (Nat × Nat)} {qs : Nat → Nat} {c k : Nat} (h1 : zlk G c k = false) (h2 : ls.contains (c, k) = false) : zlk (zext G ns ls qs) c k = false := by
  show (ls.contains (c, k) || zlk G c k) = false
  rw [h1, h2]; rfl
theorem zlk_t {G : zG} {ns : List Nat} {ls : List (Nat × Nat)} {qs : Nat → Nat} {c k : Nat} (h2 : ls.contains (c, k) = true) : zlk (zext G ns ls qs) c k = true := by
  show (ls.contains (c, k) || zlk G c k) = true
  rw [h2]; rfl
theorem zlk_o {G : zG} {ns : List Nat} {ls : List (Nat × Nat)} {qs : Nat → Nat} {c k : Nat} (h1 : zlk G c k = true) : zlk (zext G ns ls qs) c k = true := by
  show (ls.contains (c, k) || zlk G c k) = true
  rw [h1, Bool.or_true]
theorem zun_of {G : zG} {h : zH} {d : Nat} (L : List (Nat × Nat × Bool)) (hL : ztl.filter (fun q => q.1 == d) = L.map (fun q => (d, q))) (hh : ∀ q ∈ L, if q.2.2 = true then h q.1 q.2.1 = 0 else zlk G q.1 q.2.1 = false) : zun G h d := by
  intro q hq e
  have h1 : q ∈ ztl.filter (fun q => q.1 == d) := List.mem_filter.mpr ⟨hq, by simp [e]⟩
  rw [hL] at h1
  obtain ⟨z, hz, rfl⟩ := List.mem_map.mp h1
  exact hh z hz
section ZR7
variable {p : Program} {l : Launch} {e : Env} {R : Room} {s : State} {m : MethodId} {args : Array Value} {below : List Frame} {meth : Method} {c : Code} {H : Heap} {locs : List Loc} {cells slots : Nat} {Q : State → Prop} {cc : ByteArray} {nL : Nat} {own : String} {ret : Option FieldType} {G : zG} {h : zH} {pc : Nat} {ls : Array Slot} {rest : List Value}
theorem zretC {G0 : zG} {ns : List Nat} {ls' : List (Nat × Nat)} {qs : Nat → Nat} {v : Int32} {q : Int32 × zH} (C : zC G0 p s m args meth c cc nL own none) (hS : zS (zext G0 ns ls' qs) h s.heap H locs) (hf : some (v, h) = some q) (hdg : decode cc pc = .ok (.return_, 1)) : W p l e R s m args below meth c H locs cells slots (MQ below (zQC G0 ns ls' q.2) args s cells slots (zA G0)) (F0 m pc ls []) := by
  cases hf
  exact W.vret C.1 C.2.1 C.2.2.2.2.2.2.2.2.1 (fun t ht hW => ⟨⟨qs, rfl, trivial, by rw [← ht] at hS; exact ⟨hS.1, hS.2.1⟩⟩, hS.2.2.F ht⟩) hS.2.2.2.2 hdg C.2.2.2.2.2.2.2.2.2
def zMI (own : String) (idx : Nat) (y : MethodName) (bytes : ByteArray) (maxL : Nat) (n : Nat) : Prop := (Cond.methodLink own idx y ∈ zg ∧ Cond.instanceMethod y ∈ zg ∧ Cond.initialized y.cls ∈ zg ∧ Cond.code y bytes maxL none ∈ zg) ∧ (y.cls ≠ "java/lang/invoke/MethodHandle" ∧ y.cls ≠ "java/lang/invoke/VarHandle" ∧ (parseMethodDescriptor y.desc).map (fun d => d.parameters.length) = some n) ∧ y.name = "<init>" ∧ maxL + 19 ≤ 60
def zMJ (own : String) (idx : Nat) (y : MethodName) (bytes : ByteArray) (maxL : Nat) (n : Nat) : Prop := ((own, idx, y, "HalfAJoke") ∈ znest ∧ Cond.instanceMethod y ∈ zg ∧ Cond.initialized y.cls ∈ zg ∧ Cond.code y bytes maxL none ∈ zg) ∧ (y.cls ≠ "java/lang/invoke/MethodHandle" ∧ y.cls ≠ "java/lang/invoke/VarHandle" ∧ (parseMethodDescriptor y.desc).map (fun d => d.parameters.length) = some n) ∧ y.name = "<init>" ∧ maxL + 19 ≤ 60
theorem zcallI {y : MethodName} {bytes : ByteArray} {idx maxL n n' mc ms b : Nat} {As st0 : List Value} {h1 : zH} {ns : List Nat} {ls' : List (Nat × Nat)} (C : zC G p s m args meth c cc nL own ret) (hS : zS G h s.heap H locs) (M : zMI own idx y bytes maxL n) (hM : zCtC l y bytes maxL n' mc ms (.ref b :: As) G h ns ls' h1) (hn : As.length = n) (hst : st0 = As.reverse ++ .ref b :: rest) (hr8 : (rest.map fun v => v.category).sum ≤ 8) (hl : ls.size = nL) (hR : n' + 1 ≤ R.frames ∧ 60 + 60 * n' ≤ R.locals ∧ cells + mc ≤ R.cells ∧ slots + ms ≤ R.slots) (hdg : decode cc pc = .ok (.invokespecial idx, 3))
    (kk : ∀ (qs : Nat → Nat) (H1 : Heap) (locs1 : List Loc), zS (zext G ns ls' qs) h1 s.heap H1 locs1 → W p l e R s m args below meth c H1 locs1 (cells + mc) (slots + ms) Q (F0 m (pc + 3) ls rest)) : W p l e R s m args below meth c H locs cells slots Q (F0 m pc ls st0) := by
  obtain ⟨⟨w1, w2, w4, w5⟩, hd, hy1, h60⟩ := M
  have hts := C.2.2.2.2.1
  have cw : CallB R s args own idx y bytes maxL none (zw y bytes maxL none) (zrmC n' mc ms) mc ms n := callB_of n hts (zgood w5) rfl rfl rfl (hts _ w4) (hts _ w1) hd ⟨hR.1, by
    show 8 + (maxL + 11) + 60 * n' ≤ R.locals
    have := hR.2.1
    omega⟩
  refine va_callv (A0 := zA G) (va_runI (As := As) (rest := rest) ⟨C.1, C.2.1, C.2.2.1, C.2.2.2.1, C.2.2.2.2.1⟩ hM ⟨cw, hy1, hts _ w2⟩ ⟨zPre.blind, fun U hU hW => zpre C hS hU hW⟩ rfl hn hl hst (lv_room hr8) hdg hR.2.2) hS.2.2 (fun q _ h => h) (fun q h => h) (fun u t H1 locs1 ht hvm hw hB hz1 hk1 hS1 => ?_)
  rw [← ht] at hS1 ⊢
  exact kk u _ _ ⟨hB.1, hB.2, hS1⟩
theorem zcallJ {y : MethodName} {bytes : ByteArray} {idx maxL n n' mc ms b : Nat} {As st0 : List Value} {h1 : zH} {ns : List Nat} {ls' : List (Nat × Nat)} (C : zC G p s m args meth c cc nL own ret) (hS : zS G h s.heap H locs) (M : zMJ own idx y bytes maxL n) (hM : zCtC l y bytes maxL n' mc ms (.ref b :: As) G h ns ls' h1) (hn : As.length = n) (hst : st0 = As.reverse ++ .ref b :: rest) (hr8 : (rest.map fun v => v.category).sum ≤ 8) (hl : ls.size = nL) (hR : n' + 1 ≤ R.frames ∧ 60 + 60 * n' ≤ R.locals ∧ cells + mc ≤ R.cells ∧ slots + ms ≤ R.slots) (hdg : decode cc pc = .ok (.invokespecial idx, 3))
    (kk : ∀ (qs : Nat → Nat) (H1 : Heap) (locs1 : List Loc), zS (zext G ns ls' qs) h1 s.heap H1 locs1 → W p l e R s m args below meth c H1 locs1 (cells + mc) (slots + ms) Q (F0 m (pc + 3) ls rest)) : W p l e R s m args below meth c H locs cells slots Q (F0 m pc ls st0) := by
  obtain ⟨⟨w1, w2, w4, w5⟩, hd, hy1, h60⟩ := M
  have hts := C.2.2.2.2.1
  have cw : va_CN R s args own idx y "HalfAJoke" bytes maxL none (zw y bytes maxL none) (zrmC n' mc ms) mc ms n := va_cnB n hts (zgood w5) rfl rfl rfl (C.2.2.2.2.2.1.2.1 _ w1) (hts _ w4) hd ⟨hR.1, by
    show 8 + (maxL + 11) + 60 * n' ≤ R.locals
    have := hR.2.1
    omega⟩
  refine va_callv (A0 := zA G) (va_runIN (As := As) (rest := rest) ⟨C.1, C.2.1, C.2.2.1, C.2.2.2.1, C.2.2.2.2.1⟩ hM ⟨cw, hy1, hts _ w2⟩ ⟨zPre.blind, fun U hU hW => zpre C hS hU hW⟩ rfl hn hl hst (lv_room hr8) hdg hR.2.2) hS.2.2 (fun q _ h => h) (fun q h => h) (fun u t H1 locs1 ht hvm hw hB hz1 hk1 hS1 => ?_)
  rw [← ht] at hS1 ⊢
  exact kk u _ _ ⟨hB.1, hB.2, hS1⟩
theorem zputN {idx c0 k d a v : Nat} {ty : FieldType} (C : zC G p s m args meth c cc nL own ret) (hS : zS G h s.heap H locs) (F : zFc own idx c0 k (some (d, true))) (hfin : ∀ q : vw_C, ∀ ci fl, zsh c0 = .inr (ci, fl) → zcl[ci]? = some q → (q.2.1 k).2.2.2 = false ∧ parseFieldDescriptor (q.2.1 k).2.2.1 = some ty) (hty : ∀ x : Nat, narrow ty (.ref x) = .ref x ∧ fits ty (.ref x) = true) (hc : c0 ∈ znm G) (ha : zal G c0 = a) (hv : zal G d = v) (hdg : decode cc pc = .ok (.putfield idx, 3))
    (kk : ∀ (H1 : Heap) (locs1 : List Loc), zS G (zup h c0 k 1) s.heap H1 locs1 → W p l e R s m args below meth c H1 locs1 cells slots Q (F0 m (pc + 3) ls rest)) : W p l e R s m args below meth c H locs cells slots Q (F0 m pc ls (.ref v :: .ref a :: rest)) := by
  subst ha
  subst hv
  obtain ⟨ci, fl, ⟨Cn, T, N⟩, ty0, hsh, hcl, hk, hin1, hlink, hf, hty0, hnm⟩ := F
  obtain ⟨hfin, hd⟩ := hfin _ _ _ hsh hcl
  obtain ⟨q0, hq0⟩ := List.getElem?_of_mem hc
  have hg : (zfs (zlk G) (zal G) (h c0) c0 0 fl)[k]? = some (zv (zlk G) (zal G) (h c0) c0 k (some (d, true))) := by rw [zfs_get, hf]; simp
  refine va_put (D := zD G) (ci := ci) (C := Cn) (T := T) (N := N) (v := .ref (zal G d)) (ty := ty) C.1 C.2.1 C.2.2.2.2.1 hin1 ty0 hty0 hnm C.2.2.2.1 C.2.2.2.2.2.1.1 hS.1 hS.2.1 hS.2.2 q0 (zwd_obj hq0 hsh) hcl k hk (C.2.2.2.2.1 _ hlink) (fun _ h9 => h9) hfin hd (hty _).1 (hty _).2 (List.getElem?_eq_some_iff.mp hg).1 hdg (fun H1 locs1 hP hD hS1 => ?_)
  have e1 : (zwd G h).set q0 (zal G c0, .inr (ci, (zfs (zlk G) (zal G) (h c0) c0 0 fl).set k (.ref (zal G d)))) = zwd G (zup h c0 k 1) := zwd_set hS.2.1 hq0 zup_ne (by
    rw [zup_eq, zce, hsh]
    simp only
    congr 2
    apply List.ext_getElem?
    intro j
    by_cases hkj : k = j
    · subst hkj
      rw [List.getElem?_set_self (List.getElem?_eq_some_iff.mp hg).1, zfs_get, hf]
      simp [zv, upd]
    · rw [List.getElem?_set_ne hkj, zfs_get, zfs_get]
      cases fl[j]? with
      | none => rfl
      | some f =>
        have e : upd (h c0) k 1 (0 + j) = h c0 (0 + j) := by simp [upd]; intro h; omega
        rcases f with _ | ⟨d', _ | _⟩ <;> simp only [Option.map_some, zv, e])
  rw [e1] at hP hD
  exact kk H1 locs1 ⟨hP, hD, hS1⟩
end ZR7
theorem zfinL {c0 k ci : Nat} {fl : List (Option (Nat × Bool))} {q : vw_C} {own : String} {ty : FieldType} (h1 : zsh c0 = .inr (ci, fl)) (h2 : zcl[ci]? = some q) (h3 : (q.2.1 k).2.2.2 = true ∧ (q.2.1 k).1 = own ∧ parseFieldDescriptor (q.2.1 k).2.2.1 = some ty) : ∀ q : vw_C, ∀ ci fl, zsh c0 = .inr (ci, fl) → zcl[ci]? = some q → (q.2.1 k).2.2.2 = true ∧ (q.2.1 k).1 = own ∧ parseFieldDescriptor (q.2.1 k).2.2.1 = some ty := by
  intro q' ci' fl' g1 g2
  cases Sum.inr.inj (h1.symm.trans g1)
  cases Option.some.inj (h2.symm.trans g2)
  exact h3
theorem zfinN {c0 k ci : Nat} {fl : List (Option (Nat × Bool))} {q : vw_C} {ty : FieldType} (h1 : zsh c0 = .inr (ci, fl)) (h2 : zcl[ci]? = some q) (h3 : (q.2.1 k).2.2.2 = false ∧ parseFieldDescriptor (q.2.1 k).2.2.1 = some ty) : ∀ q : vw_C, ∀ ci fl, zsh c0 = .inr (ci, fl) → zcl[ci]? = some q → (q.2.1 k).2.2.2 = false ∧ parseFieldDescriptor (q.2.1 k).2.2.1 = some ty := by
  intro q' ci' fl' g1 g2
  cases Sum.inr.inj (h1.symm.trans g1)
  cases Option.some.inj (h2.symm.trans g2)
  exact h3

section ZR8
variable {p : Program} {l : Launch} {e : Env} {R : Room} {s : State} {m : MethodId} {args : Array Value} {below : List Frame} {meth : Method} {c : Code} {H : Heap} {locs : List Loc} {cells slots : Nat} {Q : State → Prop} {cc : ByteArray} {nL : Nat} {own : String} {ret : Option FieldType} {G : zG} {h : zH} {pc : Nat} {ls : Array Slot} {rest : List Value}
theorem zgetRA {idx c0 k d a : Nat} (C : zC G p s m args meth c cc nL own ret) (hS : zS G h s.heap H locs) (F : zFc own idx c0 k (some (d, false))) (hc : c0 ∈ znm G) (ha : zal G c0 = a) (hlk : zlk G c0 k = true) (hdg : decode cc pc = .ok (.getfield idx, 3))
    (kk : W p l e R s m args below meth c H locs cells slots Q (F0 m (pc + 3) ls (.ref (zal G d) :: rest))) : W p l e R s m args below meth c H locs cells slots Q (F0 m pc ls (.ref a :: rest)) := by
  subst ha
  exact zgetR C hS F hc hlk hdg kk
theorem zputIA {idx c0 k a : Nat} {x : Int32} (C : zC G p s m args meth c cc nL own ret) (hS : zS G h s.heap H locs) (F : zFc own idx c0 k none) (hfin : ∀ q : vw_C, ∀ ci fl, zsh c0 = .inr (ci, fl) → zcl[ci]? = some q → (q.2.1 k).2.2.2 = false ∧ (q.2.1 k).2.2.1 = "I") (hc : c0 ∈ znm G) (ha : zal G c0 = a) (hdg : decode cc pc = .ok (.putfield idx, 3))
    (kk : ∀ (H1 : Heap) (locs1 : List Loc), zS G (zup h c0 k x) s.heap H1 locs1 → W p l e R s m args below meth c H1 locs1 cells slots Q (F0 m (pc + 3) ls rest)) : W p l e R s m args below meth c H locs cells slots Q (F0 m pc ls (.int x :: .ref a :: rest)) := by
  subst ha
  exact zputI C hS F hfin hc hdg kk
end ZR8
theorem zun1 {G : zG} {h : zH} {d c k : Nat} (hL : ztl.filter (fun q => q.1 == d) = [(d, c, k, false)]) (h1 : zlk G c k = false) : zun G h d := zun_of [(c, k, false)] hL (fun q hq => by simp only [List.mem_cons, List.not_mem_nil, or_false] at hq; subst hq; simpa using h1)
theorem zun1n {G : zG} {h : zH} {d c k : Nat} (hL : ztl.filter (fun q => q.1 == d) = [(d, c, k, true)]) (h1 : h c k = 0) : zun G h d := zun_of [(c, k, true)] hL (fun q hq => by simp only [List.mem_cons, List.not_mem_nil, or_false] at hq; subst hq; simpa using h1)
theorem zun2 {G : zG} {h : zH} {d c k c' k' : Nat} (hL : ztl.filter (fun q => q.1 == d) = [(d, c, k, false), (d, c', k', false)]) (h1 : zlk G c k = false) (h2 : zlk G c' k' = false) : zun G h d := zun_of [(c, k, false), (c', k', false)] hL (fun q hq => by
  simp only [List.mem_cons, List.not_mem_nil, or_false] at hq
  rcases hq with hq | hq
  · subst hq; simpa using h1
  · subst hq; simpa using h2)
theorem zlk_fn {G : zG} {ns : List Nat} {ls : List (Nat × Nat)} {qs : Nat → Nat} {c : Nat} (h1 : ∀ k, zlk G c k = false) (h2 : ls.all (fun q => q.1 != c) = true) : ∀ k, zlk (zext G ns ls qs) c k = false := by
  intro k
  refine zlk_f (h1 k) ?_
  rw [List.contains_eq_mem]
  simp only [decide_eq_false_iff_not]
  intro hm
  have := List.all_eq_true.mp h2 _ hm
  simp at this
