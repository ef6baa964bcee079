theorem zs_n : ∀ j, j < znS → ∀ i, i < j → Cond.not (Cond.eq (ztm i) (ztm j)) ∈ zflat := by
  intro j hj i hi
  rcases Nat.lt_or_ge j 8 with h | h
  · exact zs_n1 j h i hi
  · rcases Nat.lt_or_ge j 11 with h' | h'
    · exact zs_n2 j h' i hi h
    · exact zs_n3 j hj i hi h'
theorem zs_ne : ∀ i, i < znS → ∀ j, j < znS → i ≠ j → Cond.not (Cond.eq (ztm i) (ztm j)) ∈ zflat ∨ Cond.not (Cond.eq (ztm j) (ztm i)) ∈ zflat := by
  intro i hi j hj hij
  rcases Nat.lt_or_ge i j with h | h
  · exact Or.inl (zs_n j hj i h)
  · exact Or.inr (zs_n i hi j (by omega))
theorem zs_rf : ∀ q ∈ zstr, Cond.stringRef q.1 q.2.1 q.2.2.1 ∈ lw_tbl := by decide +kernel
theorem zs_ix : ∀ q ∈ zstr, q.2.2.2 < znS ∧ ztm q.2.2.2 = Term.string q.1 q.2.1 := by decide +kernel
theorem zs_nest : ∀ q ∈ znest, Cond.methodLinkNest q.1 q.2.1 q.2.2.1 q.2.2.2 ∈ lw_tbl := by decide +kernel
theorem zs_cls : ∀ c, c < 13 → (match zcl[c]? with | none => true | some q => decide (Cond.instantiable q.1 q.2.2 ∈ lw_tbl)) = true := by decide +kernel
theorem zs_lay : ∀ c, c < 13 → (match zcl[c]? with | none => true | some q => decide (∀ w ∈ u_ws q.1 q.2.1 q.2.2, w ∈ lw_tbl)) = true := by decide +kernel
theorem zs_cmp : Cond.eq (.static "java/lang/String" "COMPACT_STRINGS" "Z") (.int 1) ∈ zflat := by decide +kernel
theorem zs_fmt : Cond.isRef (.static "jdk/internal/util/Preconditions" "SIOOBE_FORMATTER" "Ljava/util/function/BiFunction;") ∈ zflat := by decide +kernel
theorem zs_st : Cond.laysStatic "java/lang/String" "COMPACT_STRINGS" "Z" ∈ lw_tbl ∧ Cond.initialized "java/lang/String" ∈ lw_tbl ∧ Cond.laysStatic "jdk/internal/util/Preconditions" "SIOOBE_FORMATTER" "Ljava/util/function/BiFunction;" ∈ lw_tbl ∧ Cond.initialized "jdk/internal/util/Preconditions" ∈ lw_tbl := by decide +kernel
theorem zarr_of {args : Array Value} {s : State} {ty : FieldType} (hp : ∀ C, ty ≠ .object C) (h : (Cond.arrayClass ty).before args s = true) : ∃ cA : ClassId, ArrOfT s cA ty ∧ va_RA s cA ty := by
  obtain ⟨cA, kA, comp, h1, h2, h3⟩ := Cond.arrayClass_spec h
  refine ⟨cA, fun n z => ⟨fun k h => (by cases h), kA, h2, comp, h3⟩, ?_⟩
  cases ty <;> first | exact absurd rfl (hp _) | exact h1
/-- the start: D, int[], char[], the strings; nothing is made yet -/
theorem zstart {s : State} {b : Nat} (hts : ∀ w ∈ lw_tbl, w.before #[Value.ref b] s = true) (hgv : (Jvm.Cond.and given_1 narrow_1).before #[Value.ref b] s = true) : ∃ (D : va_G) (aI aC : ClassId) (aK aV : Nat → Nat), zK (D, aI, aC, aK, aV, (fun q => s.heap.size ≤ q), [], (fun _ _ => false), fun _ => 0) s ∧ zE (D, aI, aC, aK, aV, (fun q => s.heap.size ≤ q), [], (fun _ _ => false), fun _ => 0) s s.heap := by
  have hfl := flat_of_before _ hgv
  have hA : ∀ a : Nat, a < s.heap.size → ¬ (fun q => s.heap.size ≤ q) a := fun a h1 h2 => absurd h2 (Nat.not_le.mpr h1)
  obtain ⟨aK, aV, hS, hev⟩ := vk_Sof (A := fun q => s.heap.size ≤ q) (N := znS) (tm := ztm) (len := zlen) (byt := zbyt) zs_len (fun i hi => hfl _ (zs_ex i hi)) (fun i hi => hfl _ (zs_co i hi)) (fun i hi => hfl _ (zs_ar i hi)) (fun i hi => hfl _ (zs_le i hi)) (fun i hi j hj => hfl _ (zs_el i hi j hj)) (fun i j hi hj hij => (zs_ne i hi j hj hij).elim (fun h => Or.inl (hfl _ h)) (fun h => Or.inr (hfl _ h))) hA
  obtain ⟨aI, hI1, hI2⟩ := zarr_of (ty := .int) (fun C h => by cases h) (hts _ (zg_in kl_arr.1).1)
  obtain ⟨aC, hC1, hC2⟩ := zarr_of (ty := .char) (fun C h => by cases h) (hts _ (zg_in kl_arr.2).1)
  have hcl : ∀ c : Nat, ∃ x : ClassId × (Nat → Nat), ∀ q : vw_C, zcl[c]? = some q → u_Kn s q.1 q.2.1 q.2.2 x.1 x.2 := by
    intro c
    cases hq : zcl[c]? with
    | none => exact ⟨(0, fun _ => 0), fun q h => by cases h⟩
    | some q =>
      have hc : c < 13 := (List.getElem?_eq_some_iff.mp hq).1
      have h1 := zs_cls c hc
      have h2 := zs_lay c hc
      rw [hq] at h1 h2
      simp only [decide_eq_true_eq] at h1 h2
      obtain ⟨cC, iS, hk⟩ := u_known (C := q.1) (T := q.2.1) (N := q.2.2) hts h2 (hts _ h1)
      exact ⟨(cC, iS), fun q' h => by cases h; exact hk⟩
  obtain ⟨f, hf⟩ := Classical.axiomOfChoice hcl
  refine ⟨(fun c => (f c).1, fun c => (f c).2), aI, aC, aK, aV, ⟨⟨fun c q hq => hf c q hq, ?_⟩, fun q hq => va_Nw.of rfl (hts _ (zs_nest q hq)), fun q hq => ?_⟩, hS, ?_, ?_⟩
  · intro k q hk
    match k, hk with
    | 0, hk => cases hk; exact ⟨hI1, hI2⟩
    | 1, hk => cases hk; exact ⟨hC1, hC2⟩
  · have h1 := zs_ix q hq
    have h2 := hev _ h1.1
    rw [h1.2] at h2
    exact vk_R.of (hts _ (zs_rf q hq)) h2
  · exact va_Zof (hts _ zs_st.1) (hts _ zs_st.2.1) (va_eqi (hfl _ zs_cmp)) hA
  · exact va_Zqof (hts _ zs_st.2.2.1) (hts _ zs_st.2.2.2) (hfl _ zs_fmt) hA
/-! TWO WORLDS in one heap: the class's and the reference's; a call in one leaves the other as it was -/
def zSA (G : zG) (A : Nat → Prop) : zG := (zD G, zaI G, zaC G, zaK G, zaV G, A, znm G, zlk G, zal G)
def zT (s : State) (H : Heap) (locs : List Loc) (G : zG) (h : zH) (G' : zG) (h' : zH) : Prop :=
  va_P (zD G) zcl (zwd G h) H ∧ va_D (fun q => s.heap.size ≤ q) (zwd G h) ∧ va_P (zD G') zcl (zwd G' h') H ∧ va_D (fun q => s.heap.size ≤ q) (zwd G' h') ∧ (∀ c ∈ znm G, ∀ d ∈ znm G', zal G c ≠ zal G' d) ∧ va_S (fun q => s.heap.size ≤ q) s.heap H locs
theorem zT.symm {s : State} {H : Heap} {locs : List Loc} {G G' : zG} {h h' : zH} (T : zT s H locs G h G' h') : zT s H locs G' h' G h := ⟨T.2.2.1, T.2.2.2.1, T.1, T.2.1, fun c hc d hd => Ne.symm (T.2.2.2.2.1 d hd c hc), T.2.2.2.2.2⟩
def zA1 (s : State) (G' : zG) : Nat → Prop := fun q => s.heap.size ≤ q ∧ ∀ d ∈ znm G', q ≠ zal G' d
theorem zwd_mem {G : zG} {h : zH} {k : Nat} {q : Nat × va_E} (hk : (zwd G h)[k]? = some q) : ∃ c ∈ znm G, q.1 = zal G c := by
  have h1 := List.mem_of_getElem? hk
  obtain ⟨c, hc, rfl⟩ := List.mem_map.mp h1
  exact ⟨c, hc, rfl⟩
theorem zwd_lt {G : zG} {h : zH} {H : Heap} (hP : va_P (zD G) zcl (zwd G h) H) {c : Nat} (hc : c ∈ znm G) : zal G c < H.size := by
  obtain ⟨i, hi⟩ := List.getElem?_of_mem hc
  exact (hP i _ (zwd_get hi)).lt
theorem zE.narrow {G : zG} {A B : Nat → Prop} {U : State} {H : Heap} (h : zE (zSA G A) U H) (hAB : ∀ q, B q → A q) : zE (zSA G B) U H := ⟨vk_S.narrow h.1 hAB, va_Z.narrow h.2.1 hAB, va_Zq.narrow h.2.2 hAB⟩
/-- what holds of a world's ground at the law's start and ever after -/
def zKE (s : State) (G : zG) : Prop := zK G s ∧ zE (zSA G (fun q => s.heap.size ≤ q)) s s.heap
section ZL
variable {p : Program} {l : Launch} {e : Env} {R : Room} {s : State} {m : MethodId} {args : Array Value} {below : List Frame} {meth : Method} {c : Code} {H : Heap} {locs : List Loc} {cells slots : Nat} {Q : State → Prop} {cc : ByteArray} {nL : Nat} {own : String} {G G' : zG} {h h' : zH} {pc : Nat} {ls : Array Slot} {rest : List Value}
def zLC (p : Program) (s : State) (m : MethodId) (args : Array Value) (c : Code) (cc : ByteArray) (nL : Nat) (own : String) : Prop := p.tables.exec = Jvm.exec ∧ c.code = cc ∧ c.maxLocals = nL ∧ s.vm.findClass own = some m.cls ∧ ∀ w ∈ zg, w.before args s = true
theorem zLpre {av : List Value} {U : State} (KE : zKE s G) (T : zT s H locs G h G' h') (hU : U.heap = H) (hW : s.WarmedH U.vm) : va_Pc av (zPre (zSA G (zA1 s G')) h) av.toArray U := by
  refine ⟨rfl, by rw [hU]; exact T.1, ⟨T.2.1.1, fun k q hk => ⟨T.2.1.2 k q hk, ?_⟩⟩, ?_, KE.1.moved hW, ?_⟩
  · obtain ⟨c, hc, he⟩ := zwd_mem hk
    rw [he]
    exact T.2.2.2.2.1 c hc
  · intro q hq
    rw [hU] at hq
    exact ⟨Nat.le_trans T.2.2.2.2.2.1 hq, fun d hd e1 => absurd (zwd_lt T.2.2.1 hd) (by rw [← e1]; exact Nat.not_lt.mpr hq)⟩
  · rw [hU]
    refine zE.moved hW.alike (zE.narrow (A := fun q => s.heap.size ≤ q) ?_ (fun q hq => hq.1))
    exact zE.kept KE.2 T.2.2.2.2.2.2.1
theorem zLpost {H1 : Heap} {locs1 : List Loc} {G1 : zG} {h1 : zH} (T : zT s H locs G h G' h') (hP : va_P (zD G1) zcl (zwd G1 h1) H1) (hD : va_D (zA1 s G') (zwd G1 h1)) (hk : ∀ q : Nat, q < H.size → ¬ zA1 s G' q → H1[q]? = H[q]?) (hS : va_S (fun q => s.heap.size ≤ q) s.heap H1 locs1) : zT s H1 locs1 G1 h1 G' h' := by
  refine ⟨hP, ⟨hD.1, fun k q hk1 => (hD.2 k q hk1).1⟩, ?_, T.2.2.2.1, ?_, hS⟩
  · intro k q hq
    obtain ⟨d, hd, he⟩ := zwd_mem hq
    refine (T.2.2.1 k q hq).kept ?_
    rw [he]
    exact hk _ (zwd_lt T.2.2.1 hd) (fun z => z.2 d hd rfl)
  · intro c hc d hd
    obtain ⟨i, hi⟩ := List.getElem?_of_mem hc
    exact (hD.2 i _ (zwd_get hi)).2 d hd
theorem zLVI {y : MethodName} {bytes : ByteArray} {idx maxL n n' c0 mc ms : Nat} {ret' : Option FieldType} {As st0 : List Value} {r1 : Int32} {X : zG → Prop} {h1 : zH} (C : zLC p s m args c cc nL own) (KE : zKE s G) (T : zT s H locs G h G' h') (M : zMV own idx y bytes maxL ret' n) (hM : Met l y (zw y bytes maxL ret') (zrmC n' mc ms) (va_Pc (.ref (zal G c0) :: As) (zPre (zSA G (zA1 s G')) h)) (va_Qi (fun r (G1 : zG) => r = r1 ∧ X G1) (fun G1 t => zPost G1 h1 t) (zA1 s G')) mc ms (zA1 s G')) (hX : ∀ G1, X G1 → zA G1 = zA1 s G') (hc : c0 ∈ znm G) (hcl : ∃ ci fl q, zsh c0 = .inr (ci, fl) ∧ zcl[ci]? = some q ∧ q.1 = y.cls) (hn : As.length = n) (hst : st0 = As.reverse ++ .ref (zal G c0) :: rest) (hr8 : (rest.map fun v => v.category).sum ≤ 8) (hl : ls.size = nL) (hR : n' + 1 ≤ R.frames ∧ 60 + 60 * n' ≤ R.locals ∧ cells + mc ≤ R.cells ∧ slots + ms ≤ R.slots) (hdg : decode cc pc = .ok (.invokevirtual idx, 3))
    (kk : ∀ (G1 : zG) (H1 : Heap) (locs1 : List Loc), X G1 → zT s H1 locs1 G1 h1 G' h' → W p l e R s m args below meth c H1 locs1 (cells + mc) (slots + ms) Q (F0 m (pc + 3) ls (.int r1 :: rest))) : W p l e R s m args below meth c H locs cells slots Q (F0 m pc ls st0) := by
  obtain ⟨⟨w1, w2, w3, w4, w5⟩, hd, h60⟩ := M
  obtain ⟨ci, fl, q, hsh, hcl, hq⟩ := hcl
  have hg := zgood w5
  have cw : CallW R s args own y.cls idx y bytes maxL ret' (zw y bytes maxL ret') (zrmC n' mc ms) mc ms n := by
    refine cwV n C.2.2.2.2 (fun w hw => ?_) rfl rfl rfl ⟨rfl, hd⟩ ⟨hR.1, ?_⟩
    · rcases List.mem_append.mp hw with hw | hw
      · simp only [List.mem_cons, List.not_mem_nil, or_false] at hw
        rcases hw with rfl | rfl | rfl | rfl
        · exact ⟨w1, good_of_word (zg_in w1).2⟩
        · exact ⟨w2, good_of_word (zg_in w2).2⟩
        · exact ⟨w3, good_of_word (zg_in w3).2⟩
        · exact ⟨w4, good_of_word (zg_in w4).2⟩
      · exact hg w hw
    · show 8 + (maxL + 11) + 60 * n' ≤ R.locals
      have := hR.2.1
      omega
  obtain ⟨q0, hq0⟩ := List.getElem?_of_mem hc
  refine va_calli (A0 := fun q => s.heap.size ≤ q) (A1 := zA1 s G') (va_runV (As := As) (rest := rest) ⟨C.1, C.2.1, C.2.2.1, C.2.2.2.1, C.2.2.2.2⟩ hM cw ⟨zPre.blind, hq ▸ va_recv KE.1.1 T.1 hcl (zwd_obj hq0 hsh), fun U hU hW => zLpre KE T hU hW⟩ rfl hn hl hst (lv_room hr8) hdg hR.2.2) T.2.2.2.2.2 (fun q _ h => h.1) (fun q h => h.1) (fun r G1 t H1 locs1 ht hvm hw hB hz1 hk1 hS1 => ?_)
  obtain ⟨rfl, hXX⟩ := hw
  rw [← ht] at hS1 hk1 ⊢
  refine kk G1 _ _ hXX (zLpost T hB.1 ?_ hk1 hS1)
  have := hB.2
  rw [hX G1 hXX] at this
  exact this
/-- a plain contract in that form -/
theorem zLof {y : MethodName} {bytes : ByteArray} {maxL n' : Nat} {ret' : Option FieldType} {av : List Value} {h1 : zH} {r1 : Int32} {G0 : zG} {A : Nat → Prop} (hA : zA G0 = A) (hM : zCtI l y bytes maxL ret' n' av G0 h h1 r1) : Met l y (zw y bytes maxL ret') (zrmC n' 0 0) (va_Pc av (zPre G0 h)) (va_Qi (fun r (G1 : zG) => r = r1 ∧ G1 = G0) (fun G1 t => zPost G1 h1 t) A) 0 0 A := by
  subst hA
  intro p e a1 a2 a3 s m args below hf ha hP hK
  obtain ⟨n, o, b1, b2, b3, ⟨hq, L, hF, hL⟩⟩ := hM p e a1 a2 a3 s m args below hf ha hP hK
  refine ⟨n, o, b1, b2, b3, ⟨?_, L, hF, hL⟩⟩
  obtain ⟨⟨r, u, e1, e2, e3⟩, hF2⟩ := hq
  exact ⟨⟨r, G0, e1, ⟨e2, rfl⟩, e3⟩, hF2⟩
end ZL
