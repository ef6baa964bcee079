def R_law : String := "HalfAJokeLaw"
def lw_P (b : Addr) (xs : List Int32) (args : Array Value) (s : State) : Prop := args = #[.ref b] ∧ s.IntsAt b xs ∧ xs.length ≤ 3072 ∧ (Jvm.Cond.and given_1 narrow_1).before args s = true
def lw_Q (_ : Array Value) (s : State) (o : Outcome) (t : State) : Prop := o = .returned (some (.int 1)) ∧ Framed s o t [] 600000 7302249
def lw_Z (below : List Frame) (a : Array Value) (s : State) : State → Prop := fun t => ∃ o, t.status = .running ∧ Ended t below o ∧ lw_Q a s o t
/-- the law's own end, with 1 on the stack, nothing written that was there before, its room as the claim has it -/
theorem lw_ret {p : Program} {l : Launch} {e : Env} {s : State} {m : MethodId} {below : List Frame} {meth : Method} {c : Code} {b : Nat} (hx : p.tables.exec = Jvm.exec) (hb : c.code = code) (hr : meth.sig.returnType = ret) (hlocks : meth.locks = false) {pc : Nat} {H : Heap} {ls : Array Slot} (hdg : decode code pc = .ok (.ireturn, 1)) : W p l e room_1 s m #[Value.ref b] below meth c H [] 600000 7302249 (lw_Z below #[Value.ref b] s) (F0 m pc ls [.int 1]) := by
  intro T hT X
  obtain ⟨fs, hret, hrun, hended, hW, hframe⟩ := X.leave (v := some (.int 1)) (hlocks := hlocks) (fun h => by rw [hr] at h; cases h)
  have hmeth' : T.vm.method? m = some meth := X.method'
  refine ⟨T.setFrames fs, ?_, .returned (some (.int 1)), hrun, hended, rfl, ⟨_, rfl⟩, hW, hframe⟩
  jvm_step X.here [X.here.top, hx, hb, hdg, hmeth', hr, ret, narrow_b1]
  (try refine ⟨rfl, ?_⟩); (try refine ⟨rfl, ?_⟩)
  first | (intro acts; rw [hret _ acts rfl rfl rfl]) | rw [hret _ _ rfl rfl rfl]
  exact Steps.refl _
/-- what holds at the law's entry: the machine, the code, the tables' words (any of lw_tbl by 'hts w (by decide +kernel)'), the script of L ints xs at the cell b, what the Statement gives of the start (any of its parts by flat_of_before) -/
def lw_At (p : Program) (s : State) (m : MethodId) (meth : Method) (c : Code) (b L : Nat) (xs : Nat → Int32) : Prop :=
  p.tables.exec = Jvm.exec ∧ c.code = code ∧ meth.sig.returnType = ret ∧ c.maxLocals = 4 ∧ s.vm.findClass R_law = some m.cls ∧ (∀ w ∈ lw_tbl, w.before #[Value.ref b] s = true) ∧ va_X b L xs s s.heap ∧ b < s.heap.size ∧ meth.locks = false ∧ (Jvm.Cond.and given_1 narrow_1).before #[Value.ref b] s = true
theorem kw_104 : Cond.classLink RL 7 RX11 ∈ zg := zg_of (List.mem_of_getElem? (i := 104) (by decide +kernel)) (by decide +kernel)
theorem kw_105 : Cond.instantiable RX11 9 ∈ zg := zg_of (List.mem_of_getElem? (i := 105) (by decide +kernel)) (by decide +kernel)
theorem kw_1127 : Cond.classLink RL 10 RX12 ∈ zg := zg_of (List.mem_of_getElem? (i := 1127) (by decide +kernel)) (by decide +kernel)
theorem kw_1128 : Cond.instantiable RX12 38 ∈ zg := zg_of (List.mem_of_getElem? (i := 1128) (by decide +kernel)) (by decide +kernel)
theorem kw_106 : Cond.methodLink RL 9 yX11_init ∈ zg := zg_of (List.mem_of_getElem? (i := 106) (by decide +kernel)) (by decide +kernel)
theorem kw_107 : Cond.instanceMethod yX11_init ∈ zg := zg_of (List.mem_of_getElem? (i := 107) (by decide +kernel)) (by decide +kernel)
theorem kw_108 : Cond.code yX11_init cX11_init 1 none ∈ zg := zg_of (List.mem_of_getElem? (i := 108) (by decide +kernel)) (by decide +kernel)
theorem mi_L_9 : zMI RL 9 yX11_init cX11_init 1 0 := ⟨⟨kw_106, kw_107, kw_84, kw_108⟩, ⟨by decide, by decide, by decide +kernel⟩, rfl, by decide⟩
theorem kw_1129 : Cond.methodLink RL 12 yX12_init ∈ zg := zg_of (List.mem_of_getElem? (i := 1129) (by decide +kernel)) (by decide +kernel)
theorem kw_1130 : Cond.instanceMethod yX12_init ∈ zg := zg_of (List.mem_of_getElem? (i := 1130) (by decide +kernel)) (by decide +kernel)
theorem kw_1131 : Cond.code yX12_init cX12_init 2 none ∈ zg := zg_of (List.mem_of_getElem? (i := 1131) (by decide +kernel)) (by decide +kernel)
theorem mi_L_12 : zMI RL 12 yX12_init cX12_init 2 0 := ⟨⟨kw_1129, kw_1130, kw_93, kw_1131⟩, ⟨by decide, by decide, by decide +kernel⟩, rfl, by decide⟩
def zSteps (Rel : zH → zH → Prop) : Prop := zst_state Rel ∧ zst_half Rel ∧ zst_give Rel ∧ zst_heirs Rel ∧ zst_feud Rel ∧ zst_guest Rel ∧ zst_seat Rel ∧ zst_set Rel ∧ zst_feed Rel ∧ zst_end Rel ∧ zst_text Rel ∧ zst_fault Rel ∧ zst_evenings Rel ∧ zst_of Rel ∧ zst_who Rel ∧ zst_laugh Rel ∧ zst_told Rel ∧ zst_telling Rel ∧ zst_book Rel ∧ zst_fame Rel ∧ zst_merry Rel ∧ zst_fit Rel ∧ zst_seating Rel ∧ zst_change Rel ∧ zst_like Rel ∧ zst_silent Rel ∧ zst_worth Rel ∧ zst_away Rel ∧ zst_uncle Rel ∧ zst_undo Rel ∧ zst_image Rel ∧ zst_look Rel
def zH0 : zH := fun _ _ => 0
def zInit (Rel : zH → zH → Prop) : Prop := ∃ q1 q2 : Int32 × zH, f_X11_init_t0 (zz zH0 0) = some q1 ∧ f_X12_init_t100 (zz q1.2 100) = some q2 ∧ Rel q2.2 q2.2 ∧ ∀ k, q2.2 0 k = 0
section
variable {p : Program} {l : Launch} {e : Env} {s : State} {m : MethodId} {below : List Frame} {meth : Method} {c : Code} {b L : Nat} {xs : Nat → Int32} {Rel : zH → zH → Prop}
theorem zend {H : Heap} {locs : List Loc} {cells slots : Nat} {G1 G2 : zG} {h1 h2 : zH} {ls : Array Slot} (C : zLC p s m #[.ref b] c code 4 RL) (hr : meth.sig.returnType = ret) (hlocks : meth.locks = false) (T : zT s H locs G1 h1 G2 h2) (h8 : cells ≤ 600000) (h9 : slots ≤ 7302249) : W p l e room_1 s m #[.ref b] below meth c H locs cells slots (lw_Z below #[.ref b] s) (F0 m 1160 ls []) := by
  refine lv_iconst (v := (1 : Int32)) C.1 C.2.1 dL_law_1160 rfl ?_
  refine W.widen (k := 600000) (n := 7302249) h8 h9 ?_
  refine va_forget (fun q hq => T.2.2.2.2.2.2.2 q hq) ?_
  exact lw_ret C.1 C.2.1 hr hlocks dL_law_1161
theorem zidx {L j : Nat} (hL : L ≤ 3072) (h : 6 * j + 6 ≤ L) : ∀ k : Int32, 0 ≤ k → k ≤ 5 → vp_in (nI (6 * j) + k) L := by
  intro k h0 h5
  obtain ⟨n, hn, rfl⟩ := nI_of (x := k) (Int32.not_lt.mpr h0)
  have h6 : n ≤ 5 := (nI_leI hn (by decide)).mp h5
  rw [nI_add]
  exact vp_in_nI (by omega) (by omega)
set_option maxHeartbeats 8000000 in
set_option maxRecDepth 100000 in
theorem zloop (C : zLC p s m #[.ref b] c code 4 RL) (hr : meth.sig.returnType = ret) (hlocks : meth.locks = false) (hX : va_X b L xs s s.heap) (hbl : b < s.heap.size) (hL : L ≤ 3072) (hs : zSteps Rel) : ∀ (n j : Nat) (G1 G2 : zG) (h1 h2 : zH) (H : Heap) (locs : List Loc) (ls : Array Slot), L < 6 * j + 6 * n → zT s H locs G1 h1 G2 h2 → zIX s G1 h1 → zIM s G2 → Rel h1 h2 → lv_has ls 4 [(0, .ref b), (1, .ref (zal G1 0)), (2, .ref (zal G2 100)), (3, .int (nI (6 * j)))] → 6 * j ≤ L + 5 → W p l e room_1 s m #[.ref b] below meth c H locs (100 + 21 * j) (20000 + 3000 * j) (lw_Z below #[.ref b] s) (F0 m 18 ls []) := by
  intro n
  induction n with
  | zero =>
    intro j G1 G2 h1 h2 H locs ls hn T I1 I2 hrel hl hj
    refine lv_iload_n C.1 C.2.1 dL_law_18 rfl (lv_at hl 3 rfl) ?_
    refine lv_aload_n C.1 C.2.1 dL_law_19 rfl (lv_at hl 0 rfl) ?_
    refine va_slen (A := fun q => s.heap.size ≤ q) C.1 C.2.1 hX hbl (Nat.not_le.mpr hbl) T.2.2.2.2.2 dL_law_20 ?_
    refine lv_bipush (v := (6 : Int32)) C.1 C.2.1 dL_law_21 rfl ?_
    refine lv_isub C.1 C.2.1 dL_law_23 ?_
    refine lv_icmp_gt (tgt := 1160) C.1 C.2.1 dL_law_24 (by decide) (fun hc => ?_) (fun hc => ?_)
    · exact zend C hr hlocks T (by omega) (by omega)
    · exfalso
      refine hc (Int32.lt_iff_toInt_lt.mpr ?_)
      rw [show (Int32.ofNat L - 6).toInt = (L : Int) - 6 from pk_sub_toInt (a := L) (b := 6) (by omega) (by omega), nI_toInt (by omega)]
      omega
  | succ n ih =>
    intro j G1 G2 h1 h2 H locs ls hn T I1 I2 hrel hl hj
    refine lv_iload_n C.1 C.2.1 dL_law_18 rfl (lv_at hl 3 rfl) ?_
    refine lv_aload_n C.1 C.2.1 dL_law_19 rfl (lv_at hl 0 rfl) ?_
    refine va_slen (A := fun q => s.heap.size ≤ q) C.1 C.2.1 hX hbl (Nat.not_le.mpr hbl) T.2.2.2.2.2 dL_law_20 ?_
    refine lv_bipush (v := (6 : Int32)) C.1 C.2.1 dL_law_21 rfl ?_
    refine lv_isub C.1 C.2.1 dL_law_23 ?_
    refine lv_icmp_gt (tgt := 1160) C.1 C.2.1 dL_law_24 (by decide) (fun hc => ?_) (fun hc => ?_)
    · exact zend C hr hlocks T (by omega) (by omega)
    · have h6 : 6 * j + 6 ≤ L := by
        rcases Nat.lt_or_ge L (6 * j + 6) with h | h
        · exfalso
          refine hc (Int32.lt_iff_toInt_lt.mpr ?_)
          rw [show (Int32.ofNat L - 6).toInt = (L : Int) - 6 from pk_sub_toInt (a := L) (b := 6) (by omega) (by omega), nI_toInt (by omega)]
          omega
        · exact h
      have hin := zidx hL h6
      refine lv_aload_n C.1 C.2.1 dL_law_27 rfl (lv_at hl 0 rfl) ?_
      refine lv_iload_n C.1 C.2.1 dL_law_28 rfl (lv_at hl 3 rfl) ?_
      refine va_sld (A := fun q => s.heap.size ≤ q) C.1 C.2.1 hX hbl (Nat.not_le.mpr hbl) T.2.2.2.2.2 (vp_in_nI (by omega) (by omega)) dL_law_29 ?_
      refine lv_bipush (v := (31 : Int32)) C.1 C.2.1 dL_law_30 rfl ?_
      refine lv_iand C.1 C.2.1 dL_law_32 ?_
      have kn : ∀ (G3 : zG) (h3 h4 : zH) (H1 : Heap) (locs1 : List Loc), zT s H1 locs1 G3 h3 G2 h4 → zIX s G3 h3 → Rel h3 h4 → zal G3 0 = zal G1 0 → W p l e room_1 s m #[.ref b] below meth c H1 locs1 (100 + 21 * j + 21) (20000 + 3000 * j + 3000) (lw_Z below #[.ref b] s) (F0 m 1154 ls []) := by
        intro G3 h3 h4 H1 locs1 T3 I3 hr3 ha
        rw [← ha] at hl
        refine lv_iinc (v := nI (6 * (j + 1))) (lv' := [(3, .int (nI (6 * (j + 1)))), (0, .ref b), (1, .ref (zal G3 0)), (2, .ref (zal G2 100))]) C.1 C.2.1 dL_law_1154 hl (k := 3) rfl (by rw [show Int32.ofInt 6 = nI 6 from rfl, nI_add, Nat.mul_succ]) (by decide) rfl (fun ls hl => ?_)
        refine lv_goto (tgt := 18) C.1 C.2.1 dL_law_1157 (by decide) ?_
        refine W.widen (k := 100 + 21 * (j + 1)) (n := 20000 + 3000 * (j + 1)) (by omega) (by omega) ?_
        exact ih (j + 1) G3 G2 h3 h4 H1 locs1 ls (by omega) T3 I3 I2 hr3 (lv_sub hl [1, 2, 3, 0] rfl) (by omega)
      have hcs : 100 + 21 * j + 21 ≤ 600000 ∧ 20000 + 3000 * j + 3000 ≤ 7302249 := by omega
      obtain ⟨k, hk, ek⟩ := pk_andE (xs (Int32.toNatClampNeg (nI (6 * j)))) (m := 31) 5 (by decide)
      have hk : k < 32 := hk
      match k, hk, ek with
      | 0, _, ek =>
        refine lv_tableIn (off := 143) (tgt := 176) C.1 C.2.1 dL_law_33 (by rw [ek]; decide) (by rw [ek]; decide) (by rw [ek]; rfl) (by decide) ?_
        exact lc_state C hX hbl T I1 I2 hs.1 hrel hl hin hcs kn
      | 1, _, ek =>
        refine lv_tableIn (off := 166) (tgt := 199) C.1 C.2.1 dL_law_33 (by rw [ek]; decide) (by rw [ek]; decide) (by rw [ek]; rfl) (by decide) ?_
        exact lc_half C hX hbl T I1 I2 hs.2.1 hrel hl hin hcs kn
      | 2, _, ek =>
        refine lv_tableIn (off := 219) (tgt := 252) C.1 C.2.1 dL_law_33 (by rw [ek]; decide) (by rw [ek]; decide) (by rw [ek]; rfl) (by decide) ?_
        exact lc_give C hX hbl T I1 I2 hs.2.2.1 hrel hl hin hcs kn
      | 3, _, ek =>
        refine lv_tableIn (off := 272) (tgt := 305) C.1 C.2.1 dL_law_33 (by rw [ek]; decide) (by rw [ek]; decide) (by rw [ek]; rfl) (by decide) ?_
        exact lc_heirs C hX hbl T I1 I2 hs.2.2.2.1 hrel hl hin hcs kn
      | 4, _, ek =>
        refine lv_tableIn (off := 305) (tgt := 338) C.1 C.2.1 dL_law_33 (by rw [ek]; decide) (by rw [ek]; decide) (by rw [ek]; rfl) (by decide) ?_
        exact lc_feud C hX hbl T I1 I2 hs.2.2.2.2.1 hrel hl hin hcs kn
      | 5, _, ek =>
        refine lv_tableIn (off := 364) (tgt := 397) C.1 C.2.1 dL_law_33 (by rw [ek]; decide) (by rw [ek]; decide) (by rw [ek]; rfl) (by decide) ?_
        exact lc_guest C hX hbl T I1 I2 hs.2.2.2.2.2.1 hrel hl hin hcs kn
      | 6, _, ek =>
        refine lv_tableIn (off := 387) (tgt := 420) C.1 C.2.1 dL_law_33 (by rw [ek]; decide) (by rw [ek]; decide) (by rw [ek]; rfl) (by decide) ?_
        exact lc_seat C hX hbl T I1 I2 hs.2.2.2.2.2.2.1 hrel hl hin hcs kn
      | 7, _, ek =>
        refine lv_tableIn (off := 420) (tgt := 453) C.1 C.2.1 dL_law_33 (by rw [ek]; decide) (by rw [ek]; decide) (by rw [ek]; rfl) (by decide) ?_
        exact lc_set C hX hbl T I1 I2 hs.2.2.2.2.2.2.2.1 hrel hl hin hcs kn
      | 8, _, ek =>
        refine lv_tableIn (off := 453) (tgt := 486) C.1 C.2.1 dL_law_33 (by rw [ek]; decide) (by rw [ek]; decide) (by rw [ek]; rfl) (by decide) ?_
        exact lc_feed C hX hbl T I1 I2 hs.2.2.2.2.2.2.2.2.1 hrel hl hin hcs kn
      | 9, _, ek =>
        refine lv_tableIn (off := 516) (tgt := 549) C.1 C.2.1 dL_law_33 (by rw [ek]; decide) (by rw [ek]; decide) (by rw [ek]; rfl) (by decide) ?_
        exact lc_end C hX hbl T I1 I2 hs.2.2.2.2.2.2.2.2.2.1 hrel hl hin hcs kn
      | 10, _, ek =>
        refine lv_tableIn (off := 539) (tgt := 572) C.1 C.2.1 dL_law_33 (by rw [ek]; decide) (by rw [ek]; decide) (by rw [ek]; rfl) (by decide) ?_
        exact lc_text C hX hbl T I1 I2 hs.2.2.2.2.2.2.2.2.2.2.1 hrel hl hin hcs kn
      | 11, _, ek =>
        refine lv_tableIn (off := 552) (tgt := 585) C.1 C.2.1 dL_law_33 (by rw [ek]; decide) (by rw [ek]; decide) (by rw [ek]; rfl) (by decide) ?_
        exact lc_fault C hX hbl T I1 I2 hs.2.2.2.2.2.2.2.2.2.2.2.1 hrel hl hin hcs kn
      | 12, _, ek =>
        refine lv_tableIn (off := 575) (tgt := 608) C.1 C.2.1 dL_law_33 (by rw [ek]; decide) (by rw [ek]; decide) (by rw [ek]; rfl) (by decide) ?_
        exact lc_evenings C hX hbl T I1 I2 hs.2.2.2.2.2.2.2.2.2.2.2.2.1 hrel hl hin hcs kn
      | 13, _, ek =>
        refine lv_tableIn (off := 598) (tgt := 631) C.1 C.2.1 dL_law_33 (by rw [ek]; decide) (by rw [ek]; decide) (by rw [ek]; rfl) (by decide) ?_
        exact lc_of C hX hbl T I1 I2 hs.2.2.2.2.2.2.2.2.2.2.2.2.2.1 hrel hl hin hcs kn
      | 14, _, ek =>
        refine lv_tableIn (off := 631) (tgt := 664) C.1 C.2.1 dL_law_33 (by rw [ek]; decide) (by rw [ek]; decide) (by rw [ek]; rfl) (by decide) ?_
        exact lc_who C hX hbl T I1 I2 hs.2.2.2.2.2.2.2.2.2.2.2.2.2.2.1 hrel hl hin hcs kn
      | 15, _, ek =>
        refine lv_tableIn (off := 664) (tgt := 697) C.1 C.2.1 dL_law_33 (by rw [ek]; decide) (by rw [ek]; decide) (by rw [ek]; rfl) (by decide) ?_
        exact lc_laugh C hX hbl T I1 I2 hs.2.2.2.2.2.2.2.2.2.2.2.2.2.2.2.1 hrel hl hin hcs kn
      | 16, _, ek =>
        refine lv_tableIn (off := 697) (tgt := 730) C.1 C.2.1 dL_law_33 (by rw [ek]; decide) (by rw [ek]; decide) (by rw [ek]; rfl) (by decide) ?_
        exact lc_told C hX hbl T I1 I2 hs.2.2.2.2.2.2.2.2.2.2.2.2.2.2.2.2.1 hrel hl hin hcs kn
      | 17, _, ek =>
        refine lv_tableIn (off := 730) (tgt := 763) C.1 C.2.1 dL_law_33 (by rw [ek]; decide) (by rw [ek]; decide) (by rw [ek]; rfl) (by decide) ?_
        exact lc_telling C hX hbl T I1 I2 hs.2.2.2.2.2.2.2.2.2.2.2.2.2.2.2.2.2.1 hrel hl hin hcs kn
      | 18, _, ek =>
        refine lv_tableIn (off := 763) (tgt := 796) C.1 C.2.1 dL_law_33 (by rw [ek]; decide) (by rw [ek]; decide) (by rw [ek]; rfl) (by decide) ?_
        exact lc_book C hX hbl T I1 I2 hs.2.2.2.2.2.2.2.2.2.2.2.2.2.2.2.2.2.2.1 hrel hl hin hcs kn
      | 19, _, ek =>
        refine lv_tableIn (off := 796) (tgt := 829) C.1 C.2.1 dL_law_33 (by rw [ek]; decide) (by rw [ek]; decide) (by rw [ek]; rfl) (by decide) ?_
        exact lc_fame C hX hbl T I1 I2 hs.2.2.2.2.2.2.2.2.2.2.2.2.2.2.2.2.2.2.2.1 hrel hl hin hcs kn
      | 20, _, ek =>
        refine lv_tableIn (off := 819) (tgt := 852) C.1 C.2.1 dL_law_33 (by rw [ek]; decide) (by rw [ek]; decide) (by rw [ek]; rfl) (by decide) ?_
        exact lc_merry C hX hbl T I1 I2 hs.2.2.2.2.2.2.2.2.2.2.2.2.2.2.2.2.2.2.2.2.1 hrel hl hin hcs kn
      | 21, _, ek =>
        refine lv_tableIn (off := 832) (tgt := 865) C.1 C.2.1 dL_law_33 (by rw [ek]; decide) (by rw [ek]; decide) (by rw [ek]; rfl) (by decide) ?_
        exact lc_fit C hX hbl T I1 I2 hs.2.2.2.2.2.2.2.2.2.2.2.2.2.2.2.2.2.2.2.2.2.1 hrel hl hin hcs kn
      | 22, _, ek =>
        refine lv_tableIn (off := 855) (tgt := 888) C.1 C.2.1 dL_law_33 (by rw [ek]; decide) (by rw [ek]; decide) (by rw [ek]; rfl) (by decide) ?_
        exact lc_seating C hX hbl T I1 I2 hs.2.2.2.2.2.2.2.2.2.2.2.2.2.2.2.2.2.2.2.2.2.2.1 hrel hl hin hcs kn
      | 23, _, ek =>
        refine lv_tableIn (off := 878) (tgt := 911) C.1 C.2.1 dL_law_33 (by rw [ek]; decide) (by rw [ek]; decide) (by rw [ek]; rfl) (by decide) ?_
        exact lc_change C hX hbl T I1 I2 hs.2.2.2.2.2.2.2.2.2.2.2.2.2.2.2.2.2.2.2.2.2.2.2.1 hrel hl hin hcs kn
      | 24, _, ek =>
        refine lv_tableIn (off := 901) (tgt := 934) C.1 C.2.1 dL_law_33 (by rw [ek]; decide) (by rw [ek]; decide) (by rw [ek]; rfl) (by decide) ?_
        exact lc_like C hX hbl T I1 I2 hs.2.2.2.2.2.2.2.2.2.2.2.2.2.2.2.2.2.2.2.2.2.2.2.2.1 hrel hl hin hcs kn
      | 25, _, ek =>
        refine lv_tableIn (off := 934) (tgt := 967) C.1 C.2.1 dL_law_33 (by rw [ek]; decide) (by rw [ek]; decide) (by rw [ek]; rfl) (by decide) ?_
        exact lc_silent C hX hbl T I1 I2 hs.2.2.2.2.2.2.2.2.2.2.2.2.2.2.2.2.2.2.2.2.2.2.2.2.2.1 hrel hl hin hcs kn
      | 26, _, ek =>
        refine lv_tableIn (off := 957) (tgt := 990) C.1 C.2.1 dL_law_33 (by rw [ek]; decide) (by rw [ek]; decide) (by rw [ek]; rfl) (by decide) ?_
        exact lc_worth C hX hbl T I1 I2 hs.2.2.2.2.2.2.2.2.2.2.2.2.2.2.2.2.2.2.2.2.2.2.2.2.2.2.1 hrel hl hin hcs kn
      | 27, _, ek =>
        refine lv_tableIn (off := 990) (tgt := 1023) C.1 C.2.1 dL_law_33 (by rw [ek]; decide) (by rw [ek]; decide) (by rw [ek]; rfl) (by decide) ?_
        exact lc_away C hX hbl T I1 I2 hs.2.2.2.2.2.2.2.2.2.2.2.2.2.2.2.2.2.2.2.2.2.2.2.2.2.2.2.1 hrel hl hin hcs kn
      | 28, _, ek =>
        refine lv_tableIn (off := 1013) (tgt := 1046) C.1 C.2.1 dL_law_33 (by rw [ek]; decide) (by rw [ek]; decide) (by rw [ek]; rfl) (by decide) ?_
        exact lc_uncle C hX hbl T I1 I2 hs.2.2.2.2.2.2.2.2.2.2.2.2.2.2.2.2.2.2.2.2.2.2.2.2.2.2.2.2.1 hrel hl hin hcs kn
      | 29, _, ek =>
        refine lv_tableIn (off := 1046) (tgt := 1079) C.1 C.2.1 dL_law_33 (by rw [ek]; decide) (by rw [ek]; decide) (by rw [ek]; rfl) (by decide) ?_
        exact lc_undo C hX hbl T I1 I2 hs.2.2.2.2.2.2.2.2.2.2.2.2.2.2.2.2.2.2.2.2.2.2.2.2.2.2.2.2.2.1 hrel hl hin hcs kn
      | 30, _, ek =>
        refine lv_tableIn (off := 1059) (tgt := 1092) C.1 C.2.1 dL_law_33 (by rw [ek]; decide) (by rw [ek]; decide) (by rw [ek]; rfl) (by decide) ?_
        exact lc_image C hX hbl T I1 I2 hs.2.2.2.2.2.2.2.2.2.2.2.2.2.2.2.2.2.2.2.2.2.2.2.2.2.2.2.2.2.2.1 hrel hl hin hcs kn
      | 31, _, ek =>
        refine lv_tableIn (off := 1098) (tgt := 1131) C.1 C.2.1 dL_law_33 (by rw [ek]; decide) (by rw [ek]; decide) (by rw [ek]; rfl) (by decide) ?_
        exact lc_look C hX hbl T I1 I2 hs.2.2.2.2.2.2.2.2.2.2.2.2.2.2.2.2.2.2.2.2.2.2.2.2.2.2.2.2.2.2.2 hrel hl hin hcs kn
      | k + 32, hk, _ => exact absurd hk (by omega)
/-- a part of a world by some of its names -/
def zpt (G : zG) (ns : List Nat) : zG := (zD G, zaI G, zaC G, zaK G, zaV G, zA G, ns, zlk G, zal G)
theorem zpt_P {G : zG} {h : zH} {H : Heap} {ns : List Nat} (hs : ∀ c ∈ ns, c ∈ znm G) (hP : va_P (zD G) zcl (zwd G h) H) : va_P (zD (zpt G ns)) zcl (zwd (zpt G ns) h) H := by
  intro k q hk
  have h1 := List.mem_of_getElem? hk
  obtain ⟨c, hc, rfl⟩ := List.mem_map.mp h1
  obtain ⟨i, hi⟩ := List.getElem?_of_mem (hs c hc)
  exact hP i _ (zwd_get hi)
theorem zal_inj {G : zG} {h : zH} {A : Nat → Prop} (hD : va_D A (zwd G h)) {c d : Nat} (hc : c ∈ znm G) (hd : d ∈ znm G) (e : zal G c = zal G d) : c = d := by
  obtain ⟨i, hi⟩ := List.getElem?_of_mem hc
  obtain ⟨j, hj⟩ := List.getElem?_of_mem hd
  have := hD.1 i j _ _ (zwd_get hi) (zwd_get hj) e
  subst this
  exact Option.some.inj (hi.symm.trans hj)
theorem zpt_D {G : zG} {h : zH} {A : Nat → Prop} {ns : List Nat} (hs : ∀ c ∈ ns, c ∈ znm G) (hn : ns.Nodup) (hD : va_D A (zwd G h)) : va_D A (zwd (zpt G ns) h) := by
  refine ⟨fun i j x y hi hj e => ?_, fun k q hk => ?_⟩
  · have h1 : ∀ (i : Nat) (x : Nat × va_E), (zwd (zpt G ns) h)[i]? = some x → ∃ c, ns[i]? = some c ∧ x.1 = zal G c := by
      intro i x hi
      have : (ns.map fun c => (zal G c, zce (zaI G) (zaC G) (zlk G) (zal G) (h c) c))[i]? = some x := hi
      rw [List.getElem?_map] at this
      cases hc : ns[i]? with
      | none => rw [hc] at this; cases this
      | some c => rw [hc] at this; cases this; exact ⟨c, rfl, rfl⟩
    obtain ⟨c1, e1, f1⟩ := h1 i x hi
    obtain ⟨c2, e2, f2⟩ := h1 j y hj
    have hcc : c1 = c2 := zal_inj hD (hs c1 (List.mem_of_getElem? e1)) (hs c2 (List.mem_of_getElem? e2)) (by rw [← f1, ← f2]; exact e)
    subst hcc
    have hi2 := (List.getElem?_eq_some_iff.mp e1)
    have hj2 := (List.getElem?_eq_some_iff.mp e2)
    exact (List.getElem_inj hn).mp (hi2.2.trans hj2.2.symm)
  · have h1 := List.mem_of_getElem? hk
    obtain ⟨c, hc, rfl⟩ := List.mem_map.mp h1
    obtain ⟨i, hi⟩ := List.getElem?_of_mem (hs c hc)
    exact hD.2 i _ (zwd_get (h := h) hi)
set_option maxHeartbeats 8000000 in
set_option maxRecDepth 100000 in
theorem zwhole {xs : Nat → Int32} (hL : L ≤ 3072) (C0 : lw_At p s m meth c b L xs) (hi : zInit Rel) (hs : zSteps Rel) : W p l e room_1 s m #[Value.ref b] below meth c s.heap [] 0 0 (lw_Z below #[Value.ref b] s) (entryFrame m ([Value.ref b] : List Value).toArray 4) := by
  obtain ⟨hx, hb, hr, hml, hown, hts, hX, hbl, hlocks, hgv⟩ := C0
  obtain ⟨D, aI, aC, aK, aV, hK, hE⟩ := zstart hts hgv
  obtain ⟨q1, q2, e1, e2, hrel, hz0⟩ := hi
  obtain ⟨G0, eG0⟩ : ∃ G0 : zG, G0 = (D, aI, aC, aK, aV, (fun q => s.heap.size ≤ q), [], (fun _ _ => false), fun _ => 0) := ⟨_, rfl⟩
  rw [← eG0] at hK hE
  have hA0 : zA G0 = fun q => s.heap.size ≤ q := by rw [eG0]; rfl
  have hnm0 : znm G0 = [] := by rw [eG0]; rfl
  have hlk0 : ∀ c k, zlk G0 c k = false := by rw [eG0]; intro c k; rfl
  have htz : ∀ w ∈ zg, w.before #[Value.ref b] s = true := fun w hw => hts w (zg_in hw).1
  have CZ : zC G0 p s m #[Value.ref b] meth c code 4 RL ret := ⟨hx, hb, hml, hown, htz, hK, hE, fun q hq => by rw [hA0]; exact hq, hr, hlocks⟩
  have hw0 : ∀ h, zwd G0 h = [] := by intro h; unfold zwd; rw [hnm0]; rfl
  have hS : zS G0 zH0 s.heap s.heap [] := ⟨(by rw [hw0]; intro k q hk; cases hk), by rw [hw0]; exact ⟨fun i j p q hp => (by cases hp), fun k q hk => (by cases hk)⟩, va_S.rf⟩
  have hl := lv_entry [Value.ref b] (n := 4) (Nat.le_of_ble_eq_true rfl)
  rw [lg_entry_eq]
  generalize (lg_sl [Value.ref b] ++ List.replicate (4 - (lg_sl [Value.ref b]).length) Slot.unset).toArray = ls at hl ⊢
  have hl : lv_has ls 4 [(0, .ref b)] := hl
  refine znewo (d := 0) CZ hS (by rw [hnm0]; exact List.not_mem_nil) (zun_of [] (by decide) (fun q hq => absurd hq List.not_mem_nil)) (hlk0 0) sh_0 rfl tyX11 tyX11_ok iz_X11 (by decide) (by decide) ⟨kw_104, kw_105, kw_84⟩ (Nat.le_of_ble_eq_true rfl) (Nat.le_of_ble_eq_true rfl) dL_law_0 (fun a0 H hS => ?_)
  refine lv_dup hx hb dL_law_3 rfl ?_
  refine zcallI (As := []) (rest := [.ref a0]) (zC_ext [0] [] (fun _ => a0) CZ) hS mi_L_9 (c_X11_init_t0 l (zext G0 [0] [] (fun _ => a0)) (zz zH0 0) q1 (zmem_n (by decide)) (fun d hd => zfresh (by rw [hnm0]; exact List.not_mem_nil) ((by decide : ∀ d ∈ ([1, 2, 3, 4, 5, 6, 7, 8, 9, 10, 11, 12, 13, 14, 15, 16, 17, 18, 19, 20, 21, 22, 23, 24, 25, 26, 27, 28, 29, 30, 31, 32, 33, 34, 35, 36, 37, 38, 39, 40, 41, 42, 43, 44] : List Nat), d ∉ [0]) d hd)) (fun d hd => zlk_fn (hlk0 d) rfl) (fun q hq => zlk_f (hlk0 _ _) rfl) e1) rfl rfl (Nat.le_of_ble_eq_true rfl) hl.1 ⟨Nat.le_of_ble_eq_true rfl, Nat.le_of_ble_eq_true rfl, Nat.le_of_ble_eq_true rfl, Nat.le_of_ble_eq_true rfl⟩ dL_law_4 (fun qs H locs hS => ?_)
  rw [zext_zext] at hS
  obtain ⟨qs, hS, eqs⟩ : ∃ qs', zS (zext G0 [0, 1, 2, 3, 4, 5, 6, 7, 8, 9, 10, 11, 12, 13, 14, 15, 16, 17, 18, 19, 20, 21, 22, 23, 24, 25, 26, 27, 28, 29, 30, 31, 32, 33, 34, 35, 36, 37, 38, 39, 40, 41, 42, 43, 44] [(2, 0), (2, 1), (2, 2), (2, 3), (1, 0), (7, 0), (7, 1), (7, 2), (1, 1), (11, 0), (11, 1), (11, 2), (11, 3), (1, 2), (16, 0), (16, 1), (16, 2), (1, 3), (1, 4), (1, 5), (0, 0), (22, 0), (22, 1), (22, 2), (22, 3), (22, 4), (22, 5), (0, 1), (29, 0), (29, 1), (29, 2), (29, 3), (34, 0), (34, 1), (34, 2), (29, 4), (0, 2), (38, 1), (38, 2), (38, 3), (38, 4), (38, 5), (38, 0), (0, 3), (0, 4)] qs') q1.2 s.heap H locs ∧ qs' 0 = a0 := ⟨_, hS, rfl⟩
  have CZ1 := zC_ext [0, 1, 2, 3, 4, 5, 6, 7, 8, 9, 10, 11, 12, 13, 14, 15, 16, 17, 18, 19, 20, 21, 22, 23, 24, 25, 26, 27, 28, 29, 30, 31, 32, 33, 34, 35, 36, 37, 38, 39, 40, 41, 42, 43, 44] [(2, 0), (2, 1), (2, 2), (2, 3), (1, 0), (7, 0), (7, 1), (7, 2), (1, 1), (11, 0), (11, 1), (11, 2), (11, 3), (1, 2), (16, 0), (16, 1), (16, 2), (1, 3), (1, 4), (1, 5), (0, 0), (22, 0), (22, 1), (22, 2), (22, 3), (22, 4), (22, 5), (0, 1), (29, 0), (29, 1), (29, 2), (29, 3), (34, 0), (34, 1), (34, 2), (29, 4), (0, 2), (38, 1), (38, 2), (38, 3), (38, 4), (38, 5), (38, 0), (0, 3), (0, 4)] qs CZ
  refine lv_astore_n (lv' := [(1, .ref a0), (0, .ref b)]) hx hb dL_law_7 rfl hl (by decide) rfl (fun ls hl => ?_)
  refine znewo (d := 100) CZ1 hS (zfresh (by rw [hnm0]; exact List.not_mem_nil) (by decide)) (zun_of [] (by decide) (fun q hq => absurd hq List.not_mem_nil)) (zlk_fn (hlk0 100) (by decide)) sh_100 rfl tyX12 tyX12_ok iz_X12 (by decide) (by decide) ⟨kw_1127, kw_1128, kw_93⟩ (Nat.le_of_ble_eq_true rfl) (Nat.le_of_ble_eq_true rfl) dL_law_8 (fun a1 H hS => ?_)
  refine lv_dup hx hb dL_law_11 rfl ?_
  refine zcallI (As := []) (rest := [.ref a1]) (zC_ext [100] [] (fun _ => a1) CZ1) hS mi_L_12 (c_X12_init_t100 l (zext (zext G0 [0, 1, 2, 3, 4, 5, 6, 7, 8, 9, 10, 11, 12, 13, 14, 15, 16, 17, 18, 19, 20, 21, 22, 23, 24, 25, 26, 27, 28, 29, 30, 31, 32, 33, 34, 35, 36, 37, 38, 39, 40, 41, 42, 43, 44] [(2, 0), (2, 1), (2, 2), (2, 3), (1, 0), (7, 0), (7, 1), (7, 2), (1, 1), (11, 0), (11, 1), (11, 2), (11, 3), (1, 2), (16, 0), (16, 1), (16, 2), (1, 3), (1, 4), (1, 5), (0, 0), (22, 0), (22, 1), (22, 2), (22, 3), (22, 4), (22, 5), (0, 1), (29, 0), (29, 1), (29, 2), (29, 3), (34, 0), (34, 1), (34, 2), (29, 4), (0, 2), (38, 1), (38, 2), (38, 3), (38, 4), (38, 5), (38, 0), (0, 3), (0, 4)] qs) [100] [] (fun _ => a1)) (zz q1.2 100) q2 (zmem_n (by decide)) (fun d hd => zfresh (zfresh (by rw [hnm0]; exact List.not_mem_nil) ((by decide : ∀ d ∈ ([101, 102, 103, 104, 105, 106, 107, 108, 109, 110, 111, 112, 113, 114, 115, 116, 117] : List Nat), d ∉ [0, 1, 2, 3, 4, 5, 6, 7, 8, 9, 10, 11, 12, 13, 14, 15, 16, 17, 18, 19, 20, 21, 22, 23, 24, 25, 26, 27, 28, 29, 30, 31, 32, 33, 34, 35, 36, 37, 38, 39, 40, 41, 42, 43, 44]) d hd)) ((by decide : ∀ d ∈ ([101, 102, 103, 104, 105, 106, 107, 108, 109, 110, 111, 112, 113, 114, 115, 116, 117] : List Nat), d ∉ [100]) d hd)) (fun d hd => zlk_fn (zlk_fn (hlk0 d) ((by decide : ∀ d ∈ ([100, 101, 102, 103, 104, 105, 106, 107, 108, 109, 110, 111, 112, 113, 114, 115, 116, 117] : List Nat), ([(2, 0), (2, 1), (2, 2), (2, 3), (1, 0), (7, 0), (7, 1), (7, 2), (1, 1), (11, 0), (11, 1), (11, 2), (11, 3), (1, 2), (16, 0), (16, 1), (16, 2), (1, 3), (1, 4), (1, 5), (0, 0), (22, 0), (22, 1), (22, 2), (22, 3), (22, 4), (22, 5), (0, 1), (29, 0), (29, 1), (29, 2), (29, 3), (34, 0), (34, 1), (34, 2), (29, 4), (0, 2), (38, 1), (38, 2), (38, 3), (38, 4), (38, 5), (38, 0), (0, 3), (0, 4)] : List (Nat × Nat)).all (fun q => q.1 != d) = true) d hd)) rfl) (fun q hq => absurd hq List.not_mem_nil) e2) rfl rfl (Nat.le_of_ble_eq_true rfl) hl.1 ⟨Nat.le_of_ble_eq_true rfl, Nat.le_of_ble_eq_true rfl, Nat.le_of_ble_eq_true rfl, Nat.le_of_ble_eq_true rfl⟩ dL_law_12 (fun qs2 H locs hS => ?_)
  rw [zext_zext, zext_zext] at hS
  obtain ⟨qs3, hS, eq0, eq1⟩ : ∃ qs', zS (zext G0 ([0, 1, 2, 3, 4, 5, 6, 7, 8, 9, 10, 11, 12, 13, 14, 15, 16, 17, 18, 19, 20, 21, 22, 23, 24, 25, 26, 27, 28, 29, 30, 31, 32, 33, 34, 35, 36, 37, 38, 39, 40, 41, 42, 43, 44] ++ [100, 101, 102, 103, 104, 105, 106, 107, 108, 109, 110, 111, 112, 113, 114, 115, 116, 117]) ([(2, 0), (2, 1), (2, 2), (2, 3), (1, 0), (7, 0), (7, 1), (7, 2), (1, 1), (11, 0), (11, 1), (11, 2), (11, 3), (1, 2), (16, 0), (16, 1), (16, 2), (1, 3), (1, 4), (1, 5), (0, 0), (22, 0), (22, 1), (22, 2), (22, 3), (22, 4), (22, 5), (0, 1), (29, 0), (29, 1), (29, 2), (29, 3), (34, 0), (34, 1), (34, 2), (29, 4), (0, 2), (38, 1), (38, 2), (38, 3), (38, 4), (38, 5), (38, 0), (0, 3), (0, 4)] ++ [(100, 0), (100, 1), (100, 2), (100, 3), (100, 6), (100, 7), (100, 8), (100, 9), (100, 10), (100, 27), (100, 28), (100, 29), (100, 30), (100, 33), (100, 34), (100, 36), (100, 37)]) qs') q2.2 s.heap H locs ∧ qs' 0 = a0 ∧ qs' 100 = a1 := ⟨_, hS, eqs, rfl⟩
  refine lv_astore_n (lv' := [(2, .ref a1), (1, .ref a0), (0, .ref b)]) hx hb dL_law_15 rfl hl (by decide) rfl (fun ls hl => ?_)
  refine lv_iconst (v := (0 : Int32)) hx hb dL_law_16 rfl ?_
  refine lv_istore_n (lv' := [(3, .int (0 : Int32)), (2, .ref a1), (1, .ref a0), (0, .ref b)]) hx hb dL_law_17 rfl hl (by decide) rfl (fun ls hl => ?_)
  obtain ⟨GA, eGA⟩ : ∃ GA : zG, GA = zext G0 ([0, 1, 2, 3, 4, 5, 6, 7, 8, 9, 10, 11, 12, 13, 14, 15, 16, 17, 18, 19, 20, 21, 22, 23, 24, 25, 26, 27, 28, 29, 30, 31, 32, 33, 34, 35, 36, 37, 38, 39, 40, 41, 42, 43, 44] ++ [100, 101, 102, 103, 104, 105, 106, 107, 108, 109, 110, 111, 112, 113, 114, 115, 116, 117]) ([(2, 0), (2, 1), (2, 2), (2, 3), (1, 0), (7, 0), (7, 1), (7, 2), (1, 1), (11, 0), (11, 1), (11, 2), (11, 3), (1, 2), (16, 0), (16, 1), (16, 2), (1, 3), (1, 4), (1, 5), (0, 0), (22, 0), (22, 1), (22, 2), (22, 3), (22, 4), (22, 5), (0, 1), (29, 0), (29, 1), (29, 2), (29, 3), (34, 0), (34, 1), (34, 2), (29, 4), (0, 2), (38, 1), (38, 2), (38, 3), (38, 4), (38, 5), (38, 0), (0, 3), (0, 4)] ++ [(100, 0), (100, 1), (100, 2), (100, 3), (100, 6), (100, 7), (100, 8), (100, 9), (100, 10), (100, 27), (100, 28), (100, 29), (100, 30), (100, 33), (100, 34), (100, 36), (100, 37)]) qs3 := ⟨_, rfl⟩
  rw [← eGA] at hS
  have hnmA : znm GA = [0, 1, 2, 3, 4, 5, 6, 7, 8, 9, 10, 11, 12, 13, 14, 15, 16, 17, 18, 19, 20, 21, 22, 23, 24, 25, 26, 27, 28, 29, 30, 31, 32, 33, 34, 35, 36, 37, 38, 39, 40, 41, 42, 43, 44] ++ [100, 101, 102, 103, 104, 105, 106, 107, 108, 109, 110, 111, 112, 113, 114, 115, 116, 117] := by rw [eGA]; show znm G0 ++ _ = _; rw [hnm0]; rfl
  have hlkA : ∀ c k, zlk GA c k = ([(2, 0), (2, 1), (2, 2), (2, 3), (1, 0), (7, 0), (7, 1), (7, 2), (1, 1), (11, 0), (11, 1), (11, 2), (11, 3), (1, 2), (16, 0), (16, 1), (16, 2), (1, 3), (1, 4), (1, 5), (0, 0), (22, 0), (22, 1), (22, 2), (22, 3), (22, 4), (22, 5), (0, 1), (29, 0), (29, 1), (29, 2), (29, 3), (34, 0), (34, 1), (34, 2), (29, 4), (0, 2), (38, 1), (38, 2), (38, 3), (38, 4), (38, 5), (38, 0), (0, 3), (0, 4)] ++ [(100, 0), (100, 1), (100, 2), (100, 3), (100, 6), (100, 7), (100, 8), (100, 9), (100, 10), (100, 27), (100, 28), (100, 29), (100, 30), (100, 33), (100, 34), (100, 36), (100, 37)] : List (Nat × Nat)).contains (c, k) := by
    intro c k
    rw [eGA]
    show (([(2, 0), (2, 1), (2, 2), (2, 3), (1, 0), (7, 0), (7, 1), (7, 2), (1, 1), (11, 0), (11, 1), (11, 2), (11, 3), (1, 2), (16, 0), (16, 1), (16, 2), (1, 3), (1, 4), (1, 5), (0, 0), (22, 0), (22, 1), (22, 2), (22, 3), (22, 4), (22, 5), (0, 1), (29, 0), (29, 1), (29, 2), (29, 3), (34, 0), (34, 1), (34, 2), (29, 4), (0, 2), (38, 1), (38, 2), (38, 3), (38, 4), (38, 5), (38, 0), (0, 3), (0, 4)] ++ [(100, 0), (100, 1), (100, 2), (100, 3), (100, 6), (100, 7), (100, 8), (100, 9), (100, 10), (100, 27), (100, 28), (100, 29), (100, 30), (100, 33), (100, 34), (100, 36), (100, 37)] : List (Nat × Nat)).contains (c, k) || zlk G0 c k) = _
    rw [hlk0, Bool.or_false]
  have hsX : ∀ c ∈ zBN, c ∈ znm GA := fun c hc => by rw [hnmA]; exact List.mem_append_left _ hc
  have hsM : ∀ c ∈ zNm, c ∈ znm GA := fun c hc => by rw [hnmA]; exact List.mem_append_right _ hc
  have hAA : zA GA = fun q => s.heap.size ≤ q := by rw [eGA]; exact hA0
  have hD := hS.2.1
  rw [hAA] at hD
  have hSS := hS.2.2
  rw [hAA] at hSS
  have KE : zKE s GA := by
    rw [eGA]
    refine ⟨hK, ?_⟩
    have : zSA (zext G0 ([0, 1, 2, 3, 4, 5, 6, 7, 8, 9, 10, 11, 12, 13, 14, 15, 16, 17, 18, 19, 20, 21, 22, 23, 24, 25, 26, 27, 28, 29, 30, 31, 32, 33, 34, 35, 36, 37, 38, 39, 40, 41, 42, 43, 44] ++ [100, 101, 102, 103, 104, 105, 106, 107, 108, 109, 110, 111, 112, 113, 114, 115, 116, 117]) ([(2, 0), (2, 1), (2, 2), (2, 3), (1, 0), (7, 0), (7, 1), (7, 2), (1, 1), (11, 0), (11, 1), (11, 2), (11, 3), (1, 2), (16, 0), (16, 1), (16, 2), (1, 3), (1, 4), (1, 5), (0, 0), (22, 0), (22, 1), (22, 2), (22, 3), (22, 4), (22, 5), (0, 1), (29, 0), (29, 1), (29, 2), (29, 3), (34, 0), (34, 1), (34, 2), (29, 4), (0, 2), (38, 1), (38, 2), (38, 3), (38, 4), (38, 5), (38, 0), (0, 3), (0, 4)] ++ [(100, 0), (100, 1), (100, 2), (100, 3), (100, 6), (100, 7), (100, 8), (100, 9), (100, 10), (100, 27), (100, 28), (100, 29), (100, 30), (100, 33), (100, 34), (100, 36), (100, 37)]) qs3) (fun q => s.heap.size ≤ q) = zSA (zext G0 ([0, 1, 2, 3, 4, 5, 6, 7, 8, 9, 10, 11, 12, 13, 14, 15, 16, 17, 18, 19, 20, 21, 22, 23, 24, 25, 26, 27, 28, 29, 30, 31, 32, 33, 34, 35, 36, 37, 38, 39, 40, 41, 42, 43, 44] ++ [100, 101, 102, 103, 104, 105, 106, 107, 108, 109, 110, 111, 112, 113, 114, 115, 116, 117]) ([(2, 0), (2, 1), (2, 2), (2, 3), (1, 0), (7, 0), (7, 1), (7, 2), (1, 1), (11, 0), (11, 1), (11, 2), (11, 3), (1, 2), (16, 0), (16, 1), (16, 2), (1, 3), (1, 4), (1, 5), (0, 0), (22, 0), (22, 1), (22, 2), (22, 3), (22, 4), (22, 5), (0, 1), (29, 0), (29, 1), (29, 2), (29, 3), (34, 0), (34, 1), (34, 2), (29, 4), (0, 2), (38, 1), (38, 2), (38, 3), (38, 4), (38, 5), (38, 0), (0, 3), (0, 4)] ++ [(100, 0), (100, 1), (100, 2), (100, 3), (100, 6), (100, 7), (100, 8), (100, 9), (100, 10), (100, 27), (100, 28), (100, 29), (100, 30), (100, 33), (100, 34), (100, 36), (100, 37)]) qs3) (zA G0) := by rw [hA0]
    rw [this]
    exact hE
  have T : zT s H locs (zpt GA zBN) q2.2 (zpt GA zNm) q2.2 := ⟨zpt_P hsX hS.1, zpt_D hsX (by decide) hD, zpt_P hsM hS.1, zpt_D hsM (by decide) hD, fun c hc d hd e9 => (by decide : ∀ c ∈ zBN, ∀ d ∈ zNm, c ≠ d) c hc d hd (zal_inj hD (hsX c hc) (hsM d hd) e9), hSS⟩
  have I1 : zIX s (zpt GA zBN) q2.2 := by
    refine ⟨KE, fun c hc => hc, fun q hq => ?_, ⟨fun h9 => absurd (hz0 5) h9, fun _ => ⟨(by decide : ∀ c ∈ ([50, 51, 52, 53, 54, 55, 56, 57, 58, 59, 60, 61, 62, 63, 64, 65, 66, 67, 68, 69, 70] : List Nat), c ∉ zBN), fun c hc k => ?_⟩⟩, ⟨fun h9 => absurd (hz0 6) h9, fun _ => ⟨(by decide : ∀ c ∈ ([71, 72, 73] : List Nat), c ∉ zBN), fun c hc k => ?_⟩⟩, ⟨fun h9 => absurd (hz0 7) h9, fun _ => ⟨(by decide : ∀ c ∈ ([74, 75, 76, 77, 78, 79] : List Nat), c ∉ zBN), fun c hc k => ?_⟩⟩, ⟨fun h9 => absurd (hz0 8) h9, fun _ => ⟨(by decide : ∀ c ∈ ([80, 81, 82] : List Nat), c ∉ zBN), fun c hc k => ?_⟩⟩⟩
    · show zlk GA q.1 q.2 = true
      rw [hlkA]
      exact (by decide : ∀ q ∈ zBL, ([(2, 0), (2, 1), (2, 2), (2, 3), (1, 0), (7, 0), (7, 1), (7, 2), (1, 1), (11, 0), (11, 1), (11, 2), (11, 3), (1, 2), (16, 0), (16, 1), (16, 2), (1, 3), (1, 4), (1, 5), (0, 0), (22, 0), (22, 1), (22, 2), (22, 3), (22, 4), (22, 5), (0, 1), (29, 0), (29, 1), (29, 2), (29, 3), (34, 0), (34, 1), (34, 2), (29, 4), (0, 2), (38, 1), (38, 2), (38, 3), (38, 4), (38, 5), (38, 0), (0, 3), (0, 4)] ++ [(100, 0), (100, 1), (100, 2), (100, 3), (100, 6), (100, 7), (100, 8), (100, 9), (100, 10), (100, 27), (100, 28), (100, 29), (100, 30), (100, 33), (100, 34), (100, 36), (100, 37)] : List (Nat × Nat)).contains (q.1, q.2) = true) q hq
    · show zlk GA c k = false
      rw [hlkA, List.contains_eq_mem]
      simp only [decide_eq_false_iff_not]
      intro h9
      have := (by decide : ∀ c ∈ ([50, 51, 52, 53, 54, 55, 56, 57, 58, 59, 60, 61, 62, 63, 64, 65, 66, 67, 68, 69, 70] : List Nat), ∀ q ∈ ([(2, 0), (2, 1), (2, 2), (2, 3), (1, 0), (7, 0), (7, 1), (7, 2), (1, 1), (11, 0), (11, 1), (11, 2), (11, 3), (1, 2), (16, 0), (16, 1), (16, 2), (1, 3), (1, 4), (1, 5), (0, 0), (22, 0), (22, 1), (22, 2), (22, 3), (22, 4), (22, 5), (0, 1), (29, 0), (29, 1), (29, 2), (29, 3), (34, 0), (34, 1), (34, 2), (29, 4), (0, 2), (38, 1), (38, 2), (38, 3), (38, 4), (38, 5), (38, 0), (0, 3), (0, 4)] ++ [(100, 0), (100, 1), (100, 2), (100, 3), (100, 6), (100, 7), (100, 8), (100, 9), (100, 10), (100, 27), (100, 28), (100, 29), (100, 30), (100, 33), (100, 34), (100, 36), (100, 37)] : List (Nat × Nat)), q.1 ≠ c) c hc _ h9
      exact this rfl
    · show zlk GA c k = false
      rw [hlkA, List.contains_eq_mem]
      simp only [decide_eq_false_iff_not]
      intro h9
      have := (by decide : ∀ c ∈ ([71, 72, 73] : List Nat), ∀ q ∈ ([(2, 0), (2, 1), (2, 2), (2, 3), (1, 0), (7, 0), (7, 1), (7, 2), (1, 1), (11, 0), (11, 1), (11, 2), (11, 3), (1, 2), (16, 0), (16, 1), (16, 2), (1, 3), (1, 4), (1, 5), (0, 0), (22, 0), (22, 1), (22, 2), (22, 3), (22, 4), (22, 5), (0, 1), (29, 0), (29, 1), (29, 2), (29, 3), (34, 0), (34, 1), (34, 2), (29, 4), (0, 2), (38, 1), (38, 2), (38, 3), (38, 4), (38, 5), (38, 0), (0, 3), (0, 4)] ++ [(100, 0), (100, 1), (100, 2), (100, 3), (100, 6), (100, 7), (100, 8), (100, 9), (100, 10), (100, 27), (100, 28), (100, 29), (100, 30), (100, 33), (100, 34), (100, 36), (100, 37)] : List (Nat × Nat)), q.1 ≠ c) c hc _ h9
      exact this rfl
    · show zlk GA c k = false
      rw [hlkA, List.contains_eq_mem]
      simp only [decide_eq_false_iff_not]
      intro h9
      have := (by decide : ∀ c ∈ ([74, 75, 76, 77, 78, 79] : List Nat), ∀ q ∈ ([(2, 0), (2, 1), (2, 2), (2, 3), (1, 0), (7, 0), (7, 1), (7, 2), (1, 1), (11, 0), (11, 1), (11, 2), (11, 3), (1, 2), (16, 0), (16, 1), (16, 2), (1, 3), (1, 4), (1, 5), (0, 0), (22, 0), (22, 1), (22, 2), (22, 3), (22, 4), (22, 5), (0, 1), (29, 0), (29, 1), (29, 2), (29, 3), (34, 0), (34, 1), (34, 2), (29, 4), (0, 2), (38, 1), (38, 2), (38, 3), (38, 4), (38, 5), (38, 0), (0, 3), (0, 4)] ++ [(100, 0), (100, 1), (100, 2), (100, 3), (100, 6), (100, 7), (100, 8), (100, 9), (100, 10), (100, 27), (100, 28), (100, 29), (100, 30), (100, 33), (100, 34), (100, 36), (100, 37)] : List (Nat × Nat)), q.1 ≠ c) c hc _ h9
      exact this rfl
    · show zlk GA c k = false
      rw [hlkA, List.contains_eq_mem]
      simp only [decide_eq_false_iff_not]
      intro h9
      have := (by decide : ∀ c ∈ ([80, 81, 82] : List Nat), ∀ q ∈ ([(2, 0), (2, 1), (2, 2), (2, 3), (1, 0), (7, 0), (7, 1), (7, 2), (1, 1), (11, 0), (11, 1), (11, 2), (11, 3), (1, 2), (16, 0), (16, 1), (16, 2), (1, 3), (1, 4), (1, 5), (0, 0), (22, 0), (22, 1), (22, 2), (22, 3), (22, 4), (22, 5), (0, 1), (29, 0), (29, 1), (29, 2), (29, 3), (34, 0), (34, 1), (34, 2), (29, 4), (0, 2), (38, 1), (38, 2), (38, 3), (38, 4), (38, 5), (38, 0), (0, 3), (0, 4)] ++ [(100, 0), (100, 1), (100, 2), (100, 3), (100, 6), (100, 7), (100, 8), (100, 9), (100, 10), (100, 27), (100, 28), (100, 29), (100, 30), (100, 33), (100, 34), (100, 36), (100, 37)] : List (Nat × Nat)), q.1 ≠ c) c hc _ h9
      exact this rfl
  have I2 : zIM s (zpt GA zNm) := by
    refine ⟨KE, fun c hc => hc, fun q hq => ?_⟩
    show zlk GA q.1 q.2 = true
    rw [hlkA]
    exact (by decide : ∀ q ∈ zLm, ([(2, 0), (2, 1), (2, 2), (2, 3), (1, 0), (7, 0), (7, 1), (7, 2), (1, 1), (11, 0), (11, 1), (11, 2), (11, 3), (1, 2), (16, 0), (16, 1), (16, 2), (1, 3), (1, 4), (1, 5), (0, 0), (22, 0), (22, 1), (22, 2), (22, 3), (22, 4), (22, 5), (0, 1), (29, 0), (29, 1), (29, 2), (29, 3), (34, 0), (34, 1), (34, 2), (29, 4), (0, 2), (38, 1), (38, 2), (38, 3), (38, 4), (38, 5), (38, 0), (0, 3), (0, 4)] ++ [(100, 0), (100, 1), (100, 2), (100, 3), (100, 6), (100, 7), (100, 8), (100, 9), (100, 10), (100, 27), (100, 28), (100, 29), (100, 30), (100, 33), (100, 34), (100, 36), (100, 37)] : List (Nat × Nat)).contains (q.1, q.2) = true) q hq
  have ea0 : zal (zpt GA zBN) 0 = a0 := by rw [← eq0]; show zal GA 0 = _; rw [eGA]; exact zext_aln (by decide)
  have ea1 : zal (zpt GA zNm) 100 = a1 := by rw [← eq1]; show zal GA 100 = _; rw [eGA]; exact zext_aln (by decide)
  rw [← ea0, ← ea1] at hl
  refine W.widen (k := 100 + 21 * 0) (n := 20000 + 3000 * 0) (Nat.le_of_ble_eq_true rfl) (Nat.le_of_ble_eq_true rfl) ?_
  exact zloop ⟨hx, hb, hml, hown, htz⟩ hr hlocks hX hbl hL hs 600 0 (zpt GA zBN) (zpt GA zNm) q2.2 q2.2 H locs ls (by omega) T I1 I2 hrel (lv_sub hl [3, 2, 1, 0] rfl) (by omega)
end
