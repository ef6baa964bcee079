/-! string constants by their places, statics of the JDK, ends of other small types -/
def zch (y : Int32) (k : zR) : zR := if y < 0 ∨ 65535 < y then none else k
theorem zch_some {y : Int32} {k : zR} {q : Int32 × zH} (h : zch y k = some q) : narrow .char (.int y) = .int y ∧ k = some q := by
  unfold zch at h
  split at h
  · cases h
  · rename_i h0
    refine ⟨?_, h⟩
    simp only [not_or] at h0
    obtain ⟨n, hn, rfl⟩ := nI_of h0.1
    have h256 : n < 65536 := by
      rcases Nat.lt_or_ge n 65536 with q | q
      · exact q
      · exact absurd (nI_lt (a := 65535) (b := n) (by omega) hn) h0.2
    exact (pk_charN h256).1
section ZR3
variable {p : Program} {l : Launch} {e : Env} {R : Room} {s : State} {m : MethodId} {args : Array Value} {below : List Frame} {meth : Method} {c : Code} {H : Heap} {locs : List Loc} {cells slots : Nat} {Q : State → Prop} {cc : ByteArray} {nL : Nat} {own : String} {ret : Option FieldType} {G : zG} {h : zH} {pc : Nat} {ls : Array Slot} {rest : List Value}
theorem zldcS {idx i : Nat} {tx : String} (C : zC G p s m args meth c cc nL own ret) (hw : (own, idx, tx, i) ∈ zstr) (hdg : decode cc pc = .ok (.ldc idx, 2)) (kk : W p l e R s m args below meth c H locs cells slots Q (F0 m (pc + 2) ls (.ref (zaK G i) :: rest))) : W p l e R s m args below meth c H locs cells slots Q (F0 m pc ls rest) := va_ldcS C.1 C.2.1 C.2.2.2.1 (C.2.2.2.2.2.1.2.2 _ hw) hdg kk
theorem zstrV {idx i : Nat} (C : zC G p s m args meth c cc nL own ret) (hS : zS G h s.heap H locs) (hi : i < znS) (hw : Cond.fieldLink own idx "java/lang/String" "value" "[B" ∈ zg) (hdg : decode cc pc = .ok (.getfield idx, 3)) (kk : W p l e R s m args below meth c H locs cells slots Q (F0 m (pc + 3) ls (.ref (zaV G i) :: rest))) : W p l e R s m args below meth c H locs cells slots Q (F0 m pc ls (.ref (zaK G i) :: rest)) :=
  vk_getf C.1 C.2.1 (C.2.2.2.2.2.2.1.1.1 i hi).2.2.1 hS.2.2 C.2.2.2.1 (C.2.2.2.2.1 _ hw) (fun _ h9 => h9) hdg kk
theorem zstrC {idx i : Nat} (C : zC G p s m args meth c cc nL own ret) (hS : zS G h s.heap H locs) (hi : i < znS) (hw : Cond.fieldLink own idx "java/lang/String" "coder" "B" ∈ zg) (hdg : decode cc pc = .ok (.getfield idx, 3)) (kk : W p l e R s m args below meth c H locs cells slots Q (F0 m (pc + 3) ls (.int 0 :: rest))) : W p l e R s m args below meth c H locs cells slots Q (F0 m pc ls (.ref (zaK G i) :: rest)) :=
  vk_getf C.1 C.2.1 (C.2.2.2.2.2.2.1.1.1 i hi).2.1 hS.2.2 C.2.2.2.1 (C.2.2.2.2.1 _ hw) (fun _ h9 => h9) hdg kk
theorem zcomp {idx : Nat} (C : zC G p s m args meth c cc nL own ret) (hS : zS G h s.heap H locs) (hw : Cond.fieldLink own idx "java/lang/String" "COMPACT_STRINGS" "Z" ∈ zg) (hdg : decode cc pc = .ok (.getstatic idx, 3)) (kk : W p l e R s m args below meth c H locs cells slots Q (F0 m (pc + 3) ls (.int 1 :: rest))) : W p l e R s m args below meth c H locs cells slots Q (F0 m pc ls rest) :=
  va_gets C.1 C.2.1 C.2.2.2.2.2.2.1.2.1 hS.2.2 C.2.2.2.1 (C.2.2.2.2.1 _ hw) (fun _ h9 => h9) hdg kk
theorem zblen {i : Nat} (C : zC G p s m args meth c cc nL own ret) (hS : zS G h s.heap H locs) (hi : i < znS) (hdg : decode cc pc = .ok (.arraylength, 1)) (kk : W p l e R s m args below meth c H locs cells slots Q (F0 m (pc + 1) ls (.int (Int32.ofNat (zlen.getD i 0)) :: rest))) : W p l e R s m args below meth c H locs cells slots Q (F0 m pc ls (.ref (zaV G i) :: rest)) :=
  va_tlen C.1 C.2.1 (C.2.2.2.2.2.2.1.1.1 i hi).2.2.2 hS.2.2 rfl hdg kk
theorem zbald {i : Nat} {k : Int32} (C : zC G p s m args meth c cc nL own ret) (hS : zS G h s.heap H locs) (hi : i < znS) (hin : vp_in k (zlen.getD i 0)) (hdg : decode cc pc = .ok (.baload, 1)) (kk : W p l e R s m args below meth c H locs cells slots Q (F0 m (pc + 1) ls (.int ((zbyt.getD i []).getD k.toNatClampNeg 0) :: rest))) : W p l e R s m args below meth c H locs cells slots Q (F0 m pc ls (.int k :: .ref (zaV G i) :: rest)) :=
  va_tb C.1 C.2.1 (C.2.2.2.2.2.2.1.1.1 i hi).2.2.2 hS.2.2 hin rfl hdg kk
theorem zretN {v : Int32} {q : Int32 × zH} {ty : FieldType} (C : zC G p s m args meth c cc nL own (some ty)) (hS : zS G h s.heap H locs) (hn : narrow ty (.int v) = .int v) (hf : some (v, h) = some q) (hdg : decode cc pc = .ok (.ireturn, 1)) : W p l e R s m args below meth c H locs cells slots (MQ below (zQI G q.2 q.1) args s cells slots (zA G)) (F0 m pc ls [.int v]) := by
  cases hf
  exact W.zret (v := v) C.1 C.2.1 C.2.2.2.2.2.2.2.2.1 hn (fun t ht hW => ⟨⟨v, (), rfl, rfl, by rw [← ht] at hS; exact ⟨hS.1, hS.2.1⟩⟩, hS.2.2.F ht⟩) hS.2.2.2.2 hdg C.2.2.2.2.2.2.2.2.2
theorem zcallTI {y : MethodName} {bytes : ByteArray} {idx maxL n n' i : Nat} {ret' : Option FieldType} {As st0 : List Value} {h1 : zH} {r1 : Int32} (C : zC G p s m args meth c cc nL own ret) (hS : zS G h s.heap H locs) (M : zMV own idx y bytes maxL ret' n) (hM : zCtI l y bytes maxL ret' n' (.ref (zaK G i) :: As) G h h1 r1) (hi : i < znS) (hcl : y.cls = "java/lang/String") (hn : As.length = n) (hst : st0 = As.reverse ++ .ref (zaK G i) :: rest) (hr8 : (rest.map fun v => v.category).sum ≤ 8) (hl : ls.size = nL) (hR : n' + 1 ≤ R.frames ∧ 60 + 60 * n' ≤ R.locals ∧ cells ≤ R.cells ∧ slots ≤ R.slots) (hdg : decode cc pc = .ok (.invokevirtual idx, 3))
    (kk : ∀ (H1 : Heap) (locs1 : List Loc), zS G h1 s.heap H1 locs1 → W p l e R s m args below meth c H1 locs1 cells slots Q (F0 m (pc + 3) ls (.int r1 :: rest))) : W p l e R s m args below meth c H locs cells slots Q (F0 m pc ls st0) := by
  obtain ⟨⟨w1, w2, w3, w4, w5⟩, hd, h60⟩ := M
  have hg := zgood w5
  have cw : CallW R s args own y.cls idx y bytes maxL ret' (zw y bytes maxL ret') (zrm n') 0 0 n := by
    refine cwV n C.2.2.2.2.1 (fun w hw => ?_) rfl rfl rfl ⟨rfl, hd⟩ ⟨hR.1, ?_⟩
    · rcases List.mem_append.mp hw with hw | hw
      · simp only [List.mem_cons, List.not_mem_nil, or_false] at hw
        rcases hw with rfl | rfl | rfl | rfl
        · exact ⟨w1, good_of_word (zg_in w1).2⟩
        · exact ⟨w2, good_of_word (zg_in w2).2⟩
        · exact ⟨w3, good_of_word (zg_in w3).2⟩
        · exact ⟨w4, good_of_word (zg_in w4).2⟩
      · exact hg w hw
    · show 8 + (maxL + 11) + 60 * n' ≤ R.locals
      have := hR.2.1
      omega
  refine va_calli (A0 := zA G) (va_runV (As := As) (rest := rest) ⟨C.1, C.2.1, C.2.2.1, C.2.2.2.1, C.2.2.2.2.1⟩ hM cw ⟨zPre.blind, hcl.symm ▸ vk_recv C.2.2.2.2.2.2.1.1 hi hS.2.2, fun U hU hW => zpre C hS hU hW⟩ rfl hn hl hst (lv_room hr8) hdg ⟨hR.2.2.1, hR.2.2.2⟩) hS.2.2 (fun q _ h => h) (fun q h => h) (fun r u t H1 locs1 ht hvm hw hB hz1 hk1 hS1 => ?_)
  subst hw
  rw [← ht] at hS1 ⊢
  exact kk _ _ ⟨hB.1, hB.2, hS1⟩
theorem zcallSV {y : MethodName} {bytes : ByteArray} {idx maxL n n' : Nat} {ret' : Option FieldType} {As st0 : List Value} {h1 : zH} (C : zC G p s m args meth c cc nL own ret) (hS : zS G h s.heap H locs) (M : zMS own idx y bytes maxL ret' n) (hM : zCtV l y bytes maxL ret' n' As G h h1) (hn : As.length = n) (hst : st0 = As.reverse ++ rest) (hr8 : (rest.map fun v => v.category).sum ≤ 8) (hl : ls.size = nL) (hR : n' + 1 ≤ R.frames ∧ 60 + 60 * n' ≤ R.locals ∧ cells ≤ R.cells ∧ slots ≤ R.slots) (hdg : decode cc pc = .ok (.invokestatic idx, 3))
    (kk : ∀ (H1 : Heap) (locs1 : List Loc), zS G h1 s.heap H1 locs1 → W p l e R s m args below meth c H1 locs1 cells slots Q (F0 m (pc + 3) ls rest)) : W p l e R s m args below meth c H locs cells slots Q (F0 m pc ls st0) := by
  obtain ⟨⟨w1, w2, w4, w5⟩, hd, h60⟩ := M
  have hts := C.2.2.2.2.1
  have cw : CallB R s args own idx y bytes maxL ret' (zw y bytes maxL ret') (zrm n') 0 0 n := callB_of n hts (zgood w5) rfl rfl rfl (hts _ w4) (hts _ w1) hd ⟨hR.1, by
    show 8 + (maxL + 11) + 60 * n' ≤ R.locals
    have := hR.2.1
    omega⟩
  refine va_callv (A0 := zA G) (va_runS (As := As) (rest := rest) ⟨C.1, C.2.1, C.2.2.1, C.2.2.2.1, C.2.2.2.2.1⟩ hM ⟨cw, hts _ w2⟩ ⟨zPre.blind, fun U hU hW => zpre C hS hU hW⟩ rfl hn hl hst (lv_room hr8) hdg ⟨hR.2.2.1, hR.2.2.2⟩) hS.2.2 (fun q _ h => h) (fun q h => h) (fun u t H1 locs1 ht hvm hw hB hz1 hk1 hS1 => ?_)
  rw [← ht] at hS1 ⊢
  exact kk _ _ ⟨hB.1, hB.2, hS1⟩
theorem zputB {idx c0 k : Nat} {x : Int32} (C : zC G p s m args meth c cc nL own ret) (hS : zS G h s.heap H locs) (F : zFc own idx c0 k none) (hx : narrow .boolean (.int x) = .int x ∧ fits .boolean (.int x) = true) (hfin : ∀ q : vw_C, ∀ ci fl, zsh c0 = .inr (ci, fl) → zcl[ci]? = some q → (q.2.1 k).2.2.2 = false ∧ (q.2.1 k).2.2.1 = "Z") (hc : c0 ∈ znm G) (hdg : decode cc pc = .ok (.putfield idx, 3))
    (kk : ∀ (H1 : Heap) (locs1 : List Loc), zS G (zup h c0 k x) s.heap H1 locs1 → W p l e R s m args below meth c H1 locs1 cells slots Q (F0 m (pc + 3) ls rest)) : W p l e R s m args below meth c H locs cells slots Q (F0 m pc ls (.int x :: .ref (zal G c0) :: rest)) := by
  obtain ⟨ci, fl, ⟨Cn, T, N⟩, ty, hsh, hcl, hk, hin, hlink, hf, hty, hnm⟩ := F
  obtain ⟨hfin, hI⟩ := hfin _ _ _ hsh hcl
  obtain ⟨q0, hq0⟩ := List.getElem?_of_mem hc
  have hg : (zfs (zlk G) (zal G) (h c0) c0 0 fl)[k]? = some (.int (h c0 k)) := by rw [zfs_get, hf]; simp [zv]
  refine va_put (D := zD G) (ci := ci) (C := Cn) (T := T) (N := N) (v := .int x) (ty := .boolean) C.1 C.2.1 C.2.2.2.2.1 hin ty hty hnm C.2.2.2.1 C.2.2.2.2.2.1.1 hS.1 hS.2.1 hS.2.2 q0 (zwd_obj hq0 hsh) hcl k hk (C.2.2.2.2.1 _ hlink) (fun _ h9 => h9) hfin (by rw [show (T k).2.2.1 = "Z" from hI]; decide +kernel) hx.1 hx.2 (List.getElem?_eq_some_iff.mp hg).1 hdg (fun H1 locs1 hP hD hS1 => ?_)
  have e1 : (zwd G h).set q0 (zal G c0, .inr (ci, (zfs (zlk G) (zal G) (h c0) c0 0 fl).set k (.int x))) = zwd G (zup h c0 k x) := zwd_set hS.2.1 hq0 zup_ne (by rw [zup_eq, zce, hsh]; simp only; rw [zfs_set hf])
  rw [e1] at hP hD
  exact kk H1 locs1 ⟨hP, hD, hS1⟩
end ZR3
theorem zfinZ {c0 k ci : Nat} {fl : List (Option (Nat × Bool))} {q : vw_C} (h1 : zsh c0 = .inr (ci, fl)) (h2 : zcl[ci]? = some q) (h3 : (q.2.1 k).2.2.2 = false ∧ (q.2.1 k).2.2.1 = "Z") : ∀ q : vw_C, ∀ ci fl, zsh c0 = .inr (ci, fl) → zcl[ci]? = some q → (q.2.1 k).2.2.2 = false ∧ (q.2.1 k).2.2.1 = "Z" := by
  intro q' ci' fl' g1 g2
  cases Sum.inr.inj (h1.symm.trans g1)
  cases Option.some.inj (h2.symm.trans g2)
  exact h3
