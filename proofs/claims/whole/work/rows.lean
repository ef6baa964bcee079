section
-- ===== PART A: goes FIRST, ahead of the names: the tables' words, and 'selects' of the private methods out of them =====
/-- a private method of a class that the tables say can be made, by its rows of tables_1 -/
def lw_okq (q : MethodName × Nat) : Prop := (q.1.cls ≠ "java/lang/invoke/MethodHandle" ∧ q.1.cls ≠ "java/lang/invoke/VarHandle") ∧ Cond.instantiable q.1.cls q.2 ∈ tables_1 ∧ Cond.privateMethod q.1 ∈ tables_1 ∧ Cond.instanceMethod q.1 ∈ tables_1
theorem lw_p0 : lw_okq (⟨"HalfAJoke$Reader", "split", "()V"⟩, 11) := ⟨⟨by decide +kernel, by decide +kernel⟩, List.mem_of_getElem? (i := 242) (by decide +kernel), List.mem_of_getElem? (i := 483) (by decide +kernel), List.mem_of_getElem? (i := 484) (by decide +kernel)⟩
theorem lw_p1 : lw_okq (⟨"HalfAJoke$Reader", "takeToken", "(I)I"⟩, 11) := ⟨⟨by decide +kernel, by decide +kernel⟩, List.mem_of_getElem? (i := 242) (by decide +kernel), List.mem_of_getElem? (i := 487) (by decide +kernel), List.mem_of_getElem? (i := 488) (by decide +kernel)⟩
theorem lw_p2 : lw_okq (⟨"HalfAJoke$Reader", "takeWord", "(I)I"⟩, 11) := ⟨⟨by decide +kernel, by decide +kernel⟩, List.mem_of_getElem? (i := 242) (by decide +kernel), List.mem_of_getElem? (i := 494) (by decide +kernel), List.mem_of_getElem? (i := 495) (by decide +kernel)⟩
theorem lw_p3 : lw_okq (⟨"HalfAJoke$Reader", "isWord", "(III)Z"⟩, 11) := ⟨⟨by decide +kernel, by decide +kernel⟩, List.mem_of_getElem? (i := 242) (by decide +kernel), List.mem_of_getElem? (i := 498) (by decide +kernel), List.mem_of_getElem? (i := 499) (by decide +kernel)⟩
theorem lw_p4 : lw_okq (⟨"HalfAJoke$Reader", "addToken", "(III)V"⟩, 11) := ⟨⟨by decide +kernel, by decide +kernel⟩, List.mem_of_getElem? (i := 242) (by decide +kernel), List.mem_of_getElem? (i := 543) (by decide +kernel), List.mem_of_getElem? (i := 544) (by decide +kernel)⟩
theorem lw_p5 : lw_okq (⟨"HalfAJoke$Reader", "takeNumber", "(I)I"⟩, 11) := ⟨⟨by decide +kernel, by decide +kernel⟩, List.mem_of_getElem? (i := 242) (by decide +kernel), List.mem_of_getElem? (i := 550) (by decide +kernel), List.mem_of_getElem? (i := 551) (by decide +kernel)⟩
theorem lw_p6 : lw_okq (⟨"HalfAJoke$Reader", "readLine", "()V"⟩, 11) := ⟨⟨by decide +kernel, by decide +kernel⟩, List.mem_of_getElem? (i := 242) (by decide +kernel), List.mem_of_getElem? (i := 626) (by decide +kernel), List.mem_of_getElem? (i := 627) (by decide +kernel)⟩
theorem lw_p7 : lw_okq (⟨"HalfAJoke$Reader", "blame", "(I)V"⟩, 11) := ⟨⟨by decide +kernel, by decide +kernel⟩, List.mem_of_getElem? (i := 242) (by decide +kernel), List.mem_of_getElem? (i := 630) (by decide +kernel), List.mem_of_getElem? (i := 631) (by decide +kernel)⟩
theorem lw_p8 : lw_okq (⟨"HalfAJoke$Reader", "expect", "(II)V"⟩, 11) := ⟨⟨by decide +kernel, by decide +kernel⟩, List.mem_of_getElem? (i := 242) (by decide +kernel), List.mem_of_getElem? (i := 634) (by decide +kernel), List.mem_of_getElem? (i := 635) (by decide +kernel)⟩
theorem lw_p9 : lw_okq (⟨"HalfAJoke$Reader", "step", "()V"⟩, 11) := ⟨⟨by decide +kernel, by decide +kernel⟩, List.mem_of_getElem? (i := 242) (by decide +kernel), List.mem_of_getElem? (i := 638) (by decide +kernel), List.mem_of_getElem? (i := 639) (by decide +kernel)⟩
theorem lw_p10 : lw_okq (⟨"HalfAJoke$Reader", "readSum", "()V"⟩, 11) := ⟨⟨by decide +kernel, by decide +kernel⟩, List.mem_of_getElem? (i := 242) (by decide +kernel), List.mem_of_getElem? (i := 642) (by decide +kernel), List.mem_of_getElem? (i := 643) (by decide +kernel)⟩
theorem lw_p11 : lw_okq (⟨"HalfAJoke$Reader", "readUnit", "(I)V"⟩, 11) := ⟨⟨by decide +kernel, by decide +kernel⟩, List.mem_of_getElem? (i := 242) (by decide +kernel), List.mem_of_getElem? (i := 646) (by decide +kernel), List.mem_of_getElem? (i := 647) (by decide +kernel)⟩
theorem lw_p12 : lw_okq (⟨"HalfAJoke$Reader", "readCondition", "(I)V"⟩, 11) := ⟨⟨by decide +kernel, by decide +kernel⟩, List.mem_of_getElem? (i := 242) (by decide +kernel), List.mem_of_getElem? (i := 654) (by decide +kernel), List.mem_of_getElem? (i := 655) (by decide +kernel)⟩
theorem lw_p13 : lw_okq (⟨"HalfAJoke$Reader", "readClause", "(I)V"⟩, 11) := ⟨⟨by decide +kernel, by decide +kernel⟩, List.mem_of_getElem? (i := 242) (by decide +kernel), List.mem_of_getElem? (i := 658) (by decide +kernel), List.mem_of_getElem? (i := 659) (by decide +kernel)⟩
theorem lw_p14 : lw_okq (⟨"HalfAJoke", "spendEvening", "()I"⟩, 9) := ⟨⟨by decide +kernel, by decide +kernel⟩, List.mem_of_getElem? (i := 22) (by decide +kernel), List.mem_of_getElem? (i := 678) (by decide +kernel), List.mem_of_getElem? (i := 679) (by decide +kernel)⟩
theorem lw_p15 : lw_okq (⟨"HalfAJoke$Evening", "tellable", "(II)I"⟩, 14) := ⟨⟨by decide +kernel, by decide +kernel⟩, List.mem_of_getElem? (i := 289) (by decide +kernel), List.mem_of_getElem? (i := 696) (by decide +kernel), List.mem_of_getElem? (i := 697) (by decide +kernel)⟩
def lw_privs_1 : List (MethodName × Nat) := [(⟨"HalfAJoke$Reader", "split", "()V"⟩, 11), (⟨"HalfAJoke$Reader", "takeToken", "(I)I"⟩, 11), (⟨"HalfAJoke$Reader", "takeWord", "(I)I"⟩, 11), (⟨"HalfAJoke$Reader", "isWord", "(III)Z"⟩, 11), (⟨"HalfAJoke$Reader", "addToken", "(III)V"⟩, 11), (⟨"HalfAJoke$Reader", "takeNumber", "(I)I"⟩, 11), (⟨"HalfAJoke$Reader", "readLine", "()V"⟩, 11), (⟨"HalfAJoke$Reader", "blame", "(I)V"⟩, 11), (⟨"HalfAJoke$Reader", "expect", "(II)V"⟩, 11), (⟨"HalfAJoke$Reader", "step", "()V"⟩, 11), (⟨"HalfAJoke$Reader", "readSum", "()V"⟩, 11), (⟨"HalfAJoke$Reader", "readUnit", "(I)V"⟩, 11), (⟨"HalfAJoke$Reader", "readCondition", "(I)V"⟩, 11), (⟨"HalfAJoke$Reader", "readClause", "(I)V"⟩, 11), (⟨"HalfAJoke", "spendEvening", "()I"⟩, 9), (⟨"HalfAJoke$Evening", "tellable", "(II)I"⟩, 14)]
theorem lw_r1 : ∀ q ∈ lw_privs_1, lw_okq q := List.forall_mem_cons.mpr ⟨lw_p0, List.forall_mem_cons.mpr ⟨lw_p1, List.forall_mem_cons.mpr ⟨lw_p2, List.forall_mem_cons.mpr ⟨lw_p3, List.forall_mem_cons.mpr ⟨lw_p4, List.forall_mem_cons.mpr ⟨lw_p5, List.forall_mem_cons.mpr ⟨lw_p6, List.forall_mem_cons.mpr ⟨lw_p7, List.forall_mem_cons.mpr ⟨lw_p8, List.forall_mem_cons.mpr ⟨lw_p9, List.forall_mem_cons.mpr ⟨lw_p10, List.forall_mem_cons.mpr ⟨lw_p11, List.forall_mem_cons.mpr ⟨lw_p12, List.forall_mem_cons.mpr ⟨lw_p13, List.forall_mem_cons.mpr ⟨lw_p14, List.forall_mem_cons.mpr ⟨lw_p15, fun _ h => absurd h List.not_mem_nil⟩⟩⟩⟩⟩⟩⟩⟩⟩⟩⟩⟩⟩⟩⟩⟩
theorem lw_p16 : lw_okq (⟨"HalfAJoke$Evening", "partnersOf", "(III)I"⟩, 14) := ⟨⟨by decide +kernel, by decide +kernel⟩, List.mem_of_getElem? (i := 289) (by decide +kernel), List.mem_of_getElem? (i := 714) (by decide +kernel), List.mem_of_getElem? (i := 715) (by decide +kernel)⟩
theorem lw_p17 : lw_okq (⟨"HalfAJoke", "tellFound", "()I"⟩, 9) := ⟨⟨by decide +kernel, by decide +kernel⟩, List.mem_of_getElem? (i := 22) (by decide +kernel), List.mem_of_getElem? (i := 735) (by decide +kernel), List.mem_of_getElem? (i := 736) (by decide +kernel)⟩
theorem lw_p18 : lw_okq (⟨"HalfAJoke", "arePair", "(II)Z"⟩, 9) := ⟨⟨by decide +kernel, by decide +kernel⟩, List.mem_of_getElem? (i := 22) (by decide +kernel), List.mem_of_getElem? (i := 766) (by decide +kernel), List.mem_of_getElem? (i := 767) (by decide +kernel)⟩
theorem lw_p19 : lw_okq (⟨"HalfAJoke$Fit", "gather", "(LHalfAJoke$Halves;)Z"⟩, 8) := ⟨⟨by decide +kernel, by decide +kernel⟩, List.mem_of_getElem? (i := 812) (by decide +kernel), List.mem_of_getElem? (i := 849) (by decide +kernel), List.mem_of_getElem? (i := 850) (by decide +kernel)⟩
theorem lw_p20 : lw_okq (⟨"HalfAJoke$Fit", "mostFrom", "(II)I"⟩, 8) := ⟨⟨by decide +kernel, by decide +kernel⟩, List.mem_of_getElem? (i := 812) (by decide +kernel), List.mem_of_getElem? (i := 854) (by decide +kernel), List.mem_of_getElem? (i := 855) (by decide +kernel)⟩
theorem lw_p21 : lw_okq (⟨"HalfAJoke$Fit", "sumWith", "(III)I"⟩, 8) := ⟨⟨by decide +kernel, by decide +kernel⟩, List.mem_of_getElem? (i := 812) (by decide +kernel), List.mem_of_getElem? (i := 859) (by decide +kernel), List.mem_of_getElem? (i := 860) (by decide +kernel)⟩
theorem lw_p22 : lw_okq (⟨"HalfAJoke$Fit", "choose", "(I)V"⟩, 8) := ⟨⟨by decide +kernel, by decide +kernel⟩, List.mem_of_getElem? (i := 812) (by decide +kernel), List.mem_of_getElem? (i := 864) (by decide +kernel), List.mem_of_getElem? (i := 865) (by decide +kernel)⟩
theorem lw_p23 : lw_okq (⟨"HalfAJoke$Fit", "leastPartner", "(II)I"⟩, 8) := ⟨⟨by decide +kernel, by decide +kernel⟩, List.mem_of_getElem? (i := 812) (by decide +kernel), List.mem_of_getElem? (i := 868) (by decide +kernel), List.mem_of_getElem? (i := 869) (by decide +kernel)⟩
theorem lw_p24 : lw_okq (⟨"HalfAJoke$Seating", "place", "(III)V"⟩, 5) := ⟨⟨by decide +kernel, by decide +kernel⟩, List.mem_of_getElem? (i := 876) (by decide +kernel), List.mem_of_getElem? (i := 906) (by decide +kernel), List.mem_of_getElem? (i := 907) (by decide +kernel)⟩
theorem lw_p25 : lw_okq (⟨"HalfAJoke$Seating", "takeBack", "(I)V"⟩, 5) := ⟨⟨by decide +kernel, by decide +kernel⟩, List.mem_of_getElem? (i := 876) (by decide +kernel), List.mem_of_getElem? (i := 911) (by decide +kernel), List.mem_of_getElem? (i := 912) (by decide +kernel)⟩
theorem lw_p26 : lw_okq (⟨"HalfAJoke$Seating", "keepBest", "(I)V"⟩, 5) := ⟨⟨by decide +kernel, by decide +kernel⟩, List.mem_of_getElem? (i := 876) (by decide +kernel), List.mem_of_getElem? (i := 916) (by decide +kernel), List.mem_of_getElem? (i := 917) (by decide +kernel)⟩
theorem lw_p27 : lw_okq (⟨"HalfAJoke", "merryChanged", "(II)I"⟩, 9) := ⟨⟨by decide +kernel, by decide +kernel⟩, List.mem_of_getElem? (i := 22) (by decide +kernel), List.mem_of_getElem? (i := 926) (by decide +kernel), List.mem_of_getElem? (i := 927) (by decide +kernel)⟩
theorem lw_p28 : lw_okq (⟨"HalfAJoke$Worths", "greatest", "(LHalfAJoke$Halves;II)I"⟩, 4) := ⟨⟨by decide +kernel, by decide +kernel⟩, List.mem_of_getElem? (i := 951) (by decide +kernel), List.mem_of_getElem? (i := 979) (by decide +kernel), List.mem_of_getElem? (i := 980) (by decide +kernel)⟩
theorem lw_p29 : lw_okq (⟨"HalfAJoke$Worths", "judge", "(I)V"⟩, 4) := ⟨⟨by decide +kernel, by decide +kernel⟩, List.mem_of_getElem? (i := 951) (by decide +kernel), List.mem_of_getElem? (i := 984) (by decide +kernel), List.mem_of_getElem? (i := 985) (by decide +kernel)⟩
theorem lw_p30 : lw_okq (⟨"HalfAJoke$Worths", "areAlike", "(III)Z"⟩, 4) := ⟨⟨by decide +kernel, by decide +kernel⟩, List.mem_of_getElem? (i := 951) (by decide +kernel), List.mem_of_getElem? (i := 988) (by decide +kernel), List.mem_of_getElem? (i := 989) (by decide +kernel)⟩
theorem lw_p31 : lw_okq (⟨"HalfAJoke", "lookInRows", "(I)I"⟩, 9) := ⟨⟨by decide +kernel, by decide +kernel⟩, List.mem_of_getElem? (i := 22) (by decide +kernel), List.mem_of_getElem? (i := 1041) (by decide +kernel), List.mem_of_getElem? (i := 1042) (by decide +kernel)⟩
def lw_privs_2 : List (MethodName × Nat) := [(⟨"HalfAJoke$Evening", "partnersOf", "(III)I"⟩, 14), (⟨"HalfAJoke", "tellFound", "()I"⟩, 9), (⟨"HalfAJoke", "arePair", "(II)Z"⟩, 9), (⟨"HalfAJoke$Fit", "gather", "(LHalfAJoke$Halves;)Z"⟩, 8), (⟨"HalfAJoke$Fit", "mostFrom", "(II)I"⟩, 8), (⟨"HalfAJoke$Fit", "sumWith", "(III)I"⟩, 8), (⟨"HalfAJoke$Fit", "choose", "(I)V"⟩, 8), (⟨"HalfAJoke$Fit", "leastPartner", "(II)I"⟩, 8), (⟨"HalfAJoke$Seating", "place", "(III)V"⟩, 5), (⟨"HalfAJoke$Seating", "takeBack", "(I)V"⟩, 5), (⟨"HalfAJoke$Seating", "keepBest", "(I)V"⟩, 5), (⟨"HalfAJoke", "merryChanged", "(II)I"⟩, 9), (⟨"HalfAJoke$Worths", "greatest", "(LHalfAJoke$Halves;II)I"⟩, 4), (⟨"HalfAJoke$Worths", "judge", "(I)V"⟩, 4), (⟨"HalfAJoke$Worths", "areAlike", "(III)Z"⟩, 4), (⟨"HalfAJoke", "lookInRows", "(I)I"⟩, 9)]
theorem lw_r2 : ∀ q ∈ lw_privs_2, lw_okq q := List.forall_mem_cons.mpr ⟨lw_p16, List.forall_mem_cons.mpr ⟨lw_p17, List.forall_mem_cons.mpr ⟨lw_p18, List.forall_mem_cons.mpr ⟨lw_p19, List.forall_mem_cons.mpr ⟨lw_p20, List.forall_mem_cons.mpr ⟨lw_p21, List.forall_mem_cons.mpr ⟨lw_p22, List.forall_mem_cons.mpr ⟨lw_p23, List.forall_mem_cons.mpr ⟨lw_p24, List.forall_mem_cons.mpr ⟨lw_p25, List.forall_mem_cons.mpr ⟨lw_p26, List.forall_mem_cons.mpr ⟨lw_p27, List.forall_mem_cons.mpr ⟨lw_p28, List.forall_mem_cons.mpr ⟨lw_p29, List.forall_mem_cons.mpr ⟨lw_p30, List.forall_mem_cons.mpr ⟨lw_p31, fun _ h => absurd h List.not_mem_nil⟩⟩⟩⟩⟩⟩⟩⟩⟩⟩⟩⟩⟩⟩⟩⟩
theorem lw_p32 : lw_okq (⟨"HalfAJokeModel", "forgets", "()V"⟩, 38) := ⟨⟨by decide +kernel, by decide +kernel⟩, List.mem_of_getElem? (i := 1045) (by decide +kernel), List.mem_of_getElem? (i := 1170) (by decide +kernel), List.mem_of_getElem? (i := 1171) (by decide +kernel)⟩
theorem lw_p33 : lw_okq (⟨"HalfAJokeModel", "isHalf", "(I)Z"⟩, 38) := ⟨⟨by decide +kernel, by decide +kernel⟩, List.mem_of_getElem? (i := 1045) (by decide +kernel), List.mem_of_getElem? (i := 1188) (by decide +kernel), List.mem_of_getElem? (i := 1189) (by decide +kernel)⟩
theorem lw_p34 : lw_okq (⟨"HalfAJokeModel", "quarters", "(II)I"⟩, 38) := ⟨⟨by decide +kernel, by decide +kernel⟩, List.mem_of_getElem? (i := 1045) (by decide +kernel), List.mem_of_getElem? (i := 1192) (by decide +kernel), List.mem_of_getElem? (i := 1193) (by decide +kernel)⟩
theorem lw_p35 : lw_okq (⟨"HalfAJokeModel", "ofHalf", "(II)I"⟩, 38) := ⟨⟨by decide +kernel, by decide +kernel⟩, List.mem_of_getElem? (i := 1045) (by decide +kernel), List.mem_of_getElem? (i := 1196) (by decide +kernel), List.mem_of_getElem? (i := 1197) (by decide +kernel)⟩
theorem lw_p36 : lw_okq (⟨"HalfAJokeModel", "adds", "(III)V"⟩, 38) := ⟨⟨by decide +kernel, by decide +kernel⟩, List.mem_of_getElem? (i := 1045) (by decide +kernel), List.mem_of_getElem? (i := 1200) (by decide +kernel), List.mem_of_getElem? (i := 1201) (by decide +kernel)⟩
theorem lw_p37 : lw_okq (⟨"HalfAJokeModel", "feuds", "(IIZ)V"⟩, 38) := ⟨⟨by decide +kernel, by decide +kernel⟩, List.mem_of_getElem? (i := 1045) (by decide +kernel), List.mem_of_getElem? (i := 1215) (by decide +kernel), List.mem_of_getElem? (i := 1216) (by decide +kernel)⟩
theorem lw_p38 : lw_okq (⟨"HalfAJokeModel", "sits", "(II)V"⟩, 38) := ⟨⟨by decide +kernel, by decide +kernel⟩, List.mem_of_getElem? (i := 1045) (by decide +kernel), List.mem_of_getElem? (i := 1223) (by decide +kernel), List.mem_of_getElem? (i := 1224) (by decide +kernel)⟩
theorem lw_p39 : lw_okq (⟨"HalfAJokeModel", "isGuest", "(I)Z"⟩, 38) := ⟨⟨by decide +kernel, by decide +kernel⟩, List.mem_of_getElem? (i := 1045) (by decide +kernel), List.mem_of_getElem? (i := 1231) (by decide +kernel), List.mem_of_getElem? (i := 1232) (by decide +kernel)⟩
theorem lw_p40 : lw_okq (⟨"HalfAJokeModel", "guestAt", "(I)I"⟩, 38) := ⟨⟨by decide +kernel, by decide +kernel⟩, List.mem_of_getElem? (i := 1045) (by decide +kernel), List.mem_of_getElem? (i := 1235) (by decide +kernel), List.mem_of_getElem? (i := 1236) (by decide +kernel)⟩
theorem lw_p41 : lw_okq (⟨"HalfAJokeModel", "ofGuest", "(II)I"⟩, 38) := ⟨⟨by decide +kernel, by decide +kernel⟩, List.mem_of_getElem? (i := 1045) (by decide +kernel), List.mem_of_getElem? (i := 1239) (by decide +kernel), List.mem_of_getElem? (i := 1240) (by decide +kernel)⟩
theorem lw_p42 : lw_okq (⟨"HalfAJokeModel", "next0", "()V"⟩, 38) := ⟨⟨by decide +kernel, by decide +kernel⟩, List.mem_of_getElem? (i := 1045) (by decide +kernel), List.mem_of_getElem? (i := 1259) (by decide +kernel), List.mem_of_getElem? (i := 1260) (by decide +kernel)⟩
theorem lw_p43 : lw_okq (⟨"HalfAJokeModel", "see", "(I)I"⟩, 38) := ⟨⟨by decide +kernel, by decide +kernel⟩, List.mem_of_getElem? (i := 1045) (by decide +kernel), List.mem_of_getElem? (i := 1263) (by decide +kernel), List.mem_of_getElem? (i := 1264) (by decide +kernel)⟩
theorem lw_p44 : lw_okq (⟨"HalfAJokeModel", "word", "()I"⟩, 38) := ⟨⟨by decide +kernel, by decide +kernel⟩, List.mem_of_getElem? (i := 1045) (by decide +kernel), List.mem_of_getElem? (i := 1270) (by decide +kernel), List.mem_of_getElem? (i := 1271) (by decide +kernel)⟩
theorem lw_p45 : lw_okq (⟨"HalfAJokeModel", "is", "(Ljava/lang/String;)Z"⟩, 38) := ⟨⟨by decide +kernel, by decide +kernel⟩, List.mem_of_getElem? (i := 1045) (by decide +kernel), List.mem_of_getElem? (i := 1275) (by decide +kernel), List.mem_of_getElem? (i := 1276) (by decide +kernel)⟩
theorem lw_p46 : lw_okq (⟨"HalfAJokeModel", "nameWord", "()I"⟩, 38) := ⟨⟨by decide +kernel, by decide +kernel⟩, List.mem_of_getElem? (i := 1045) (by decide +kernel), List.mem_of_getElem? (i := 1285) (by decide +kernel), List.mem_of_getElem? (i := 1286) (by decide +kernel)⟩
theorem lw_p47 : lw_okq (⟨"HalfAJokeModel", "aLine", "()Z"⟩, 38) := ⟨⟨by decide +kernel, by decide +kernel⟩, List.mem_of_getElem? (i := 1045) (by decide +kernel), List.mem_of_getElem? (i := 1299) (by decide +kernel), List.mem_of_getElem? (i := 1300) (by decide +kernel)⟩
def lw_privs_3 : List (MethodName × Nat) := [(⟨"HalfAJokeModel", "forgets", "()V"⟩, 38), (⟨"HalfAJokeModel", "isHalf", "(I)Z"⟩, 38), (⟨"HalfAJokeModel", "quarters", "(II)I"⟩, 38), (⟨"HalfAJokeModel", "ofHalf", "(II)I"⟩, 38), (⟨"HalfAJokeModel", "adds", "(III)V"⟩, 38), (⟨"HalfAJokeModel", "feuds", "(IIZ)V"⟩, 38), (⟨"HalfAJokeModel", "sits", "(II)V"⟩, 38), (⟨"HalfAJokeModel", "isGuest", "(I)Z"⟩, 38), (⟨"HalfAJokeModel", "guestAt", "(I)I"⟩, 38), (⟨"HalfAJokeModel", "ofGuest", "(II)I"⟩, 38), (⟨"HalfAJokeModel", "next0", "()V"⟩, 38), (⟨"HalfAJokeModel", "see", "(I)I"⟩, 38), (⟨"HalfAJokeModel", "word", "()I"⟩, 38), (⟨"HalfAJokeModel", "is", "(Ljava/lang/String;)Z"⟩, 38), (⟨"HalfAJokeModel", "nameWord", "()I"⟩, 38), (⟨"HalfAJokeModel", "aLine", "()Z"⟩, 38)]
theorem lw_r3 : ∀ q ∈ lw_privs_3, lw_okq q := List.forall_mem_cons.mpr ⟨lw_p32, List.forall_mem_cons.mpr ⟨lw_p33, List.forall_mem_cons.mpr ⟨lw_p34, List.forall_mem_cons.mpr ⟨lw_p35, List.forall_mem_cons.mpr ⟨lw_p36, List.forall_mem_cons.mpr ⟨lw_p37, List.forall_mem_cons.mpr ⟨lw_p38, List.forall_mem_cons.mpr ⟨lw_p39, List.forall_mem_cons.mpr ⟨lw_p40, List.forall_mem_cons.mpr ⟨lw_p41, List.forall_mem_cons.mpr ⟨lw_p42, List.forall_mem_cons.mpr ⟨lw_p43, List.forall_mem_cons.mpr ⟨lw_p44, List.forall_mem_cons.mpr ⟨lw_p45, List.forall_mem_cons.mpr ⟨lw_p46, List.forall_mem_cons.mpr ⟨lw_p47, fun _ h => absurd h List.not_mem_nil⟩⟩⟩⟩⟩⟩⟩⟩⟩⟩⟩⟩⟩⟩⟩⟩
theorem lw_p48 : lw_okq (⟨"HalfAJokeModel", "bad", "(I)Z"⟩, 38) := ⟨⟨by decide +kernel, by decide +kernel⟩, List.mem_of_getElem? (i := 1045) (by decide +kernel), List.mem_of_getElem? (i := 1303) (by decide +kernel), List.mem_of_getElem? (i := 1304) (by decide +kernel)⟩
theorem lw_p49 : lw_okq (⟨"HalfAJokeModel", "sumUp", "()Z"⟩, 38) := ⟨⟨by decide +kernel, by decide +kernel⟩, List.mem_of_getElem? (i := 1045) (by decide +kernel), List.mem_of_getElem? (i := 1307) (by decide +kernel), List.mem_of_getElem? (i := 1308) (by decide +kernel)⟩
theorem lw_p50 : lw_okq (⟨"HalfAJokeModel", "product", "()Z"⟩, 38) := ⟨⟨by decide +kernel, by decide +kernel⟩, List.mem_of_getElem? (i := 1045) (by decide +kernel), List.mem_of_getElem? (i := 1311) (by decide +kernel), List.mem_of_getElem? (i := 1312) (by decide +kernel)⟩
theorem lw_p51 : lw_okq (⟨"HalfAJokeModel", "unit", "()Z"⟩, 38) := ⟨⟨by decide +kernel, by decide +kernel⟩, List.mem_of_getElem? (i := 1045) (by decide +kernel), List.mem_of_getElem? (i := 1315) (by decide +kernel), List.mem_of_getElem? (i := 1316) (by decide +kernel)⟩
theorem lw_p52 : lw_okq (⟨"HalfAJokeModel", "lay", "(II)V"⟩, 38) := ⟨⟨by decide +kernel, by decide +kernel⟩, List.mem_of_getElem? (i := 1045) (by decide +kernel), List.mem_of_getElem? (i := 1319) (by decide +kernel), List.mem_of_getElem? (i := 1320) (by decide +kernel)⟩
theorem lw_p53 : lw_okq (⟨"HalfAJokeModel", "any", "()Z"⟩, 38) := ⟨⟨by decide +kernel, by decide +kernel⟩, List.mem_of_getElem? (i := 1045) (by decide +kernel), List.mem_of_getElem? (i := 1323) (by decide +kernel), List.mem_of_getElem? (i := 1324) (by decide +kernel)⟩
theorem lw_p54 : lw_okq (⟨"HalfAJokeModel", "every", "()Z"⟩, 38) := ⟨⟨by decide +kernel, by decide +kernel⟩, List.mem_of_getElem? (i := 1045) (by decide +kernel), List.mem_of_getElem? (i := 1327) (by decide +kernel), List.mem_of_getElem? (i := 1328) (by decide +kernel)⟩
theorem lw_p55 : lw_okq (⟨"HalfAJokeModel", "oneTest", "()Z"⟩, 38) := ⟨⟨by decide +kernel, by decide +kernel⟩, List.mem_of_getElem? (i := 1045) (by decide +kernel), List.mem_of_getElem? (i := 1331) (by decide +kernel), List.mem_of_getElem? (i := 1332) (by decide +kernel)⟩
theorem lw_p56 : lw_okq (⟨"HalfAJokeModel", "opens", "()Z"⟩, 38) := ⟨⟨by decide +kernel, by decide +kernel⟩, List.mem_of_getElem? (i := 1045) (by decide +kernel), List.mem_of_getElem? (i := 1335) (by decide +kernel), List.mem_of_getElem? (i := 1336) (by decide +kernel)⟩
theorem lw_p57 : lw_okq (⟨"HalfAJokeModel", "need", "(I)Z"⟩, 38) := ⟨⟨by decide +kernel, by decide +kernel⟩, List.mem_of_getElem? (i := 1045) (by decide +kernel), List.mem_of_getElem? (i := 1339) (by decide +kernel), List.mem_of_getElem? (i := 1340) (by decide +kernel)⟩
theorem lw_p58 : lw_okq (⟨"HalfAJokeModel", "keeps", "()V"⟩, 38) := ⟨⟨by decide +kernel, by decide +kernel⟩, List.mem_of_getElem? (i := 1045) (by decide +kernel), List.mem_of_getElem? (i := 1355) (by decide +kernel), List.mem_of_getElem? (i := 1356) (by decide +kernel)⟩
theorem lw_p59 : lw_okq (⟨"HalfAJokeModel", "anEvening", "()I"⟩, 38) := ⟨⟨by decide +kernel, by decide +kernel⟩, List.mem_of_getElem? (i := 1045) (by decide +kernel), List.mem_of_getElem? (i := 1359) (by decide +kernel), List.mem_of_getElem? (i := 1360) (by decide +kernel)⟩
theorem lw_p60 : lw_okq (⟨"HalfAJokeModel", "laysTelling", "(I)Z"⟩, 38) := ⟨⟨by decide +kernel, by decide +kernel⟩, List.mem_of_getElem? (i := 1045) (by decide +kernel), List.mem_of_getElem? (i := 1363) (by decide +kernel), List.mem_of_getElem? (i := 1364) (by decide +kernel)⟩
theorem lw_p61 : lw_okq (⟨"HalfAJokeModel", "isFront", "(I)Z"⟩, 38) := ⟨⟨by decide +kernel, by decide +kernel⟩, List.mem_of_getElem? (i := 1045) (by decide +kernel), List.mem_of_getElem? (i := 1367) (by decide +kernel), List.mem_of_getElem? (i := 1368) (by decide +kernel)⟩
theorem lw_p62 : lw_okq (⟨"HalfAJokeModel", "isEnd", "(I)Z"⟩, 38) := ⟨⟨by decide +kernel, by decide +kernel⟩, List.mem_of_getElem? (i := 1045) (by decide +kernel), List.mem_of_getElem? (i := 1371) (by decide +kernel), List.mem_of_getElem? (i := 1372) (by decide +kernel)⟩
theorem lw_p63 : lw_okq (⟨"HalfAJokeModel", "canBoth", "(IIII)Z"⟩, 38) := ⟨⟨by decide +kernel, by decide +kernel⟩, List.mem_of_getElem? (i := 1045) (by decide +kernel), List.mem_of_getElem? (i := 1375) (by decide +kernel), List.mem_of_getElem? (i := 1376) (by decide +kernel)⟩
def lw_privs_4 : List (MethodName × Nat) := [(⟨"HalfAJokeModel", "bad", "(I)Z"⟩, 38), (⟨"HalfAJokeModel", "sumUp", "()Z"⟩, 38), (⟨"HalfAJokeModel", "product", "()Z"⟩, 38), (⟨"HalfAJokeModel", "unit", "()Z"⟩, 38), (⟨"HalfAJokeModel", "lay", "(II)V"⟩, 38), (⟨"HalfAJokeModel", "any", "()Z"⟩, 38), (⟨"HalfAJokeModel", "every", "()Z"⟩, 38), (⟨"HalfAJokeModel", "oneTest", "()Z"⟩, 38), (⟨"HalfAJokeModel", "opens", "()Z"⟩, 38), (⟨"HalfAJokeModel", "need", "(I)Z"⟩, 38), (⟨"HalfAJokeModel", "keeps", "()V"⟩, 38), (⟨"HalfAJokeModel", "anEvening", "()I"⟩, 38), (⟨"HalfAJokeModel", "laysTelling", "(I)Z"⟩, 38), (⟨"HalfAJokeModel", "isFront", "(I)Z"⟩, 38), (⟨"HalfAJokeModel", "isEnd", "(I)Z"⟩, 38), (⟨"HalfAJokeModel", "canBoth", "(IIII)Z"⟩, 38)]
theorem lw_r4 : ∀ q ∈ lw_privs_4, lw_okq q := List.forall_mem_cons.mpr ⟨lw_p48, List.forall_mem_cons.mpr ⟨lw_p49, List.forall_mem_cons.mpr ⟨lw_p50, List.forall_mem_cons.mpr ⟨lw_p51, List.forall_mem_cons.mpr ⟨lw_p52, List.forall_mem_cons.mpr ⟨lw_p53, List.forall_mem_cons.mpr ⟨lw_p54, List.forall_mem_cons.mpr ⟨lw_p55, List.forall_mem_cons.mpr ⟨lw_p56, List.forall_mem_cons.mpr ⟨lw_p57, List.forall_mem_cons.mpr ⟨lw_p58, List.forall_mem_cons.mpr ⟨lw_p59, List.forall_mem_cons.mpr ⟨lw_p60, List.forall_mem_cons.mpr ⟨lw_p61, List.forall_mem_cons.mpr ⟨lw_p62, List.forall_mem_cons.mpr ⟨lw_p63, fun _ h => absurd h List.not_mem_nil⟩⟩⟩⟩⟩⟩⟩⟩⟩⟩⟩⟩⟩⟩⟩⟩
theorem lw_p64 : lw_okq (⟨"HalfAJokeModel", "canTell", "(II)Z"⟩, 38) := ⟨⟨by decide +kernel, by decide +kernel⟩, List.mem_of_getElem? (i := 1045) (by decide +kernel), List.mem_of_getElem? (i := 1379) (by decide +kernel), List.mem_of_getElem? (i := 1380) (by decide +kernel)⟩
theorem lw_p65 : lw_okq (⟨"HalfAJokeModel", "laughOf", "(II)I"⟩, 38) := ⟨⟨by decide +kernel, by decide +kernel⟩, List.mem_of_getElem? (i := 1045) (by decide +kernel), List.mem_of_getElem? (i := 1383) (by decide +kernel), List.mem_of_getElem? (i := 1384) (by decide +kernel)⟩
theorem lw_p66 : lw_okq (⟨"HalfAJokeModel", "comesTo", "(II)I"⟩, 38) := ⟨⟨by decide +kernel, by decide +kernel⟩, List.mem_of_getElem? (i := 1045) (by decide +kernel), List.mem_of_getElem? (i := 1387) (by decide +kernel), List.mem_of_getElem? (i := 1388) (by decide +kernel)⟩
theorem lw_p67 : lw_okq (⟨"HalfAJokeModel", "draw", "(I)I"⟩, 38) := ⟨⟨by decide +kernel, by decide +kernel⟩, List.mem_of_getElem? (i := 1045) (by decide +kernel), List.mem_of_getElem? (i := 1400) (by decide +kernel), List.mem_of_getElem? (i := 1401) (by decide +kernel)⟩
theorem lw_p68 : lw_okq (⟨"HalfAJokeModel", "isTold", "()V"⟩, 38) := ⟨⟨by decide +kernel, by decide +kernel⟩, List.mem_of_getElem? (i := 1045) (by decide +kernel), List.mem_of_getElem? (i := 1406) (by decide +kernel), List.mem_of_getElem? (i := 1407) (by decide +kernel)⟩
theorem lw_p69 : lw_okq (⟨"HalfAJokeModel", "writes", "(II)V"⟩, 38) := ⟨⟨by decide +kernel, by decide +kernel⟩, List.mem_of_getElem? (i := 1045) (by decide +kernel), List.mem_of_getElem? (i := 1410) (by decide +kernel), List.mem_of_getElem? (i := 1411) (by decide +kernel)⟩
theorem lw_p70 : lw_okq (⟨"HalfAJokeModel", "merryNow", "()I"⟩, 38) := ⟨⟨by decide +kernel, by decide +kernel⟩, List.mem_of_getElem? (i := 1045) (by decide +kernel), List.mem_of_getElem? (i := 1446) (by decide +kernel), List.mem_of_getElem? (i := 1447) (by decide +kernel)⟩
theorem lw_p71 : lw_okq (⟨"HalfAJokeModel", "sorts", "()V"⟩, 38) := ⟨⟨by decide +kernel, by decide +kernel⟩, List.mem_of_getElem? (i := 1045) (by decide +kernel), List.mem_of_getElem? (i := 1454) (by decide +kernel), List.mem_of_getElem? (i := 1455) (by decide +kernel)⟩
theorem lw_p72 : lw_okq (⟨"HalfAJokeModel", "laysFit", "()V"⟩, 38) := ⟨⟨by decide +kernel, by decide +kernel⟩, List.mem_of_getElem? (i := 1045) (by decide +kernel), List.mem_of_getElem? (i := 1458) (by decide +kernel), List.mem_of_getElem? (i := 1459) (by decide +kernel)⟩
theorem lw_p73 : lw_okq (⟨"HalfAJokeModel", "fitted", "(II)I"⟩, 38) := ⟨⟨by decide +kernel, by decide +kernel⟩, List.mem_of_getElem? (i := 1045) (by decide +kernel), List.mem_of_getElem? (i := 1462) (by decide +kernel), List.mem_of_getElem? (i := 1463) (by decide +kernel)⟩
theorem lw_p74 : lw_okq (⟨"HalfAJokeModel", "laysSeats", "()V"⟩, 38) := ⟨⟨by decide +kernel, by decide +kernel⟩, List.mem_of_getElem? (i := 1045) (by decide +kernel), List.mem_of_getElem? (i := 1470) (by decide +kernel), List.mem_of_getElem? (i := 1471) (by decide +kernel)⟩
theorem lw_p75 : lw_okq (⟨"HalfAJokeModel", "seatsAll", "(II)V"⟩, 38) := ⟨⟨by decide +kernel, by decide +kernel⟩, List.mem_of_getElem? (i := 1045) (by decide +kernel), List.mem_of_getElem? (i := 1474) (by decide +kernel), List.mem_of_getElem? (i := 1475) (by decide +kernel)⟩
theorem lw_p76 : lw_okq (⟨"HalfAJokeModel", "backToSeats", "()V"⟩, 38) := ⟨⟨by decide +kernel, by decide +kernel⟩, List.mem_of_getElem? (i := 1045) (by decide +kernel), List.mem_of_getElem? (i := 1478) (by decide +kernel), List.mem_of_getElem? (i := 1479) (by decide +kernel)⟩
theorem lw_p77 : lw_okq (⟨"HalfAJokeModel", "isElsewhere", "(II)Z"⟩, 38) := ⟨⟨by decide +kernel, by decide +kernel⟩, List.mem_of_getElem? (i := 1045) (by decide +kernel), List.mem_of_getElem? (i := 1494) (by decide +kernel), List.mem_of_getElem? (i := 1495) (by decide +kernel)⟩
theorem lw_p78 : lw_okq (⟨"HalfAJokeModel", "canLaugh", "(II)Z"⟩, 38) := ⟨⟨by decide +kernel, by decide +kernel⟩, List.mem_of_getElem? (i := 1045) (by decide +kernel), List.mem_of_getElem? (i := 1502) (by decide +kernel), List.mem_of_getElem? (i := 1503) (by decide +kernel)⟩
theorem lw_p79 : lw_okq (⟨"HalfAJokeModel", "worthBehind", "(II)I"⟩, 38) := ⟨⟨by decide +kernel, by decide +kernel⟩, List.mem_of_getElem? (i := 1045) (by decide +kernel), List.mem_of_getElem? (i := 1510) (by decide +kernel), List.mem_of_getElem? (i := 1511) (by decide +kernel)⟩
def lw_privs_5 : List (MethodName × Nat) := [(⟨"HalfAJokeModel", "canTell", "(II)Z"⟩, 38), (⟨"HalfAJokeModel", "laughOf", "(II)I"⟩, 38), (⟨"HalfAJokeModel", "comesTo", "(II)I"⟩, 38), (⟨"HalfAJokeModel", "draw", "(I)I"⟩, 38), (⟨"HalfAJokeModel", "isTold", "()V"⟩, 38), (⟨"HalfAJokeModel", "writes", "(II)V"⟩, 38), (⟨"HalfAJokeModel", "merryNow", "()I"⟩, 38), (⟨"HalfAJokeModel", "sorts", "()V"⟩, 38), (⟨"HalfAJokeModel", "laysFit", "()V"⟩, 38), (⟨"HalfAJokeModel", "fitted", "(II)I"⟩, 38), (⟨"HalfAJokeModel", "laysSeats", "()V"⟩, 38), (⟨"HalfAJokeModel", "seatsAll", "(II)V"⟩, 38), (⟨"HalfAJokeModel", "backToSeats", "()V"⟩, 38), (⟨"HalfAJokeModel", "isElsewhere", "(II)Z"⟩, 38), (⟨"HalfAJokeModel", "canLaugh", "(II)Z"⟩, 38), (⟨"HalfAJokeModel", "worthBehind", "(II)I"⟩, 38)]
theorem lw_r5 : ∀ q ∈ lw_privs_5, lw_okq q := List.forall_mem_cons.mpr ⟨lw_p64, List.forall_mem_cons.mpr ⟨lw_p65, List.forall_mem_cons.mpr ⟨lw_p66, List.forall_mem_cons.mpr ⟨lw_p67, List.forall_mem_cons.mpr ⟨lw_p68, List.forall_mem_cons.mpr ⟨lw_p69, List.forall_mem_cons.mpr ⟨lw_p70, List.forall_mem_cons.mpr ⟨lw_p71, List.forall_mem_cons.mpr ⟨lw_p72, List.forall_mem_cons.mpr ⟨lw_p73, List.forall_mem_cons.mpr ⟨lw_p74, List.forall_mem_cons.mpr ⟨lw_p75, List.forall_mem_cons.mpr ⟨lw_p76, List.forall_mem_cons.mpr ⟨lw_p77, List.forall_mem_cons.mpr ⟨lw_p78, List.forall_mem_cons.mpr ⟨lw_p79, fun _ h => absurd h List.not_mem_nil⟩⟩⟩⟩⟩⟩⟩⟩⟩⟩⟩⟩⟩⟩⟩⟩
theorem lw_p80 : lw_okq (⟨"HalfAJokeModel", "isAlike", "(II)Z"⟩, 38) := ⟨⟨by decide +kernel, by decide +kernel⟩, List.mem_of_getElem? (i := 1045) (by decide +kernel), List.mem_of_getElem? (i := 1514) (by decide +kernel), List.mem_of_getElem? (i := 1515) (by decide +kernel)⟩
theorem lw_p81 : lw_okq (⟨"HalfAJokeModel", "laysQuarters", "()V"⟩, 38) := ⟨⟨by decide +kernel, by decide +kernel⟩, List.mem_of_getElem? (i := 1045) (by decide +kernel), List.mem_of_getElem? (i := 1522) (by decide +kernel), List.mem_of_getElem? (i := 1523) (by decide +kernel)⟩
theorem lw_p82 : lw_okq (⟨"HalfAJokeModel", "putsQuarters", "()V"⟩, 38) := ⟨⟨by decide +kernel, by decide +kernel⟩, List.mem_of_getElem? (i := 1045) (by decide +kernel), List.mem_of_getElem? (i := 1526) (by decide +kernel), List.mem_of_getElem? (i := 1527) (by decide +kernel)⟩
def lw_privs_6 : List (MethodName × Nat) := [(⟨"HalfAJokeModel", "isAlike", "(II)Z"⟩, 38), (⟨"HalfAJokeModel", "laysQuarters", "()V"⟩, 38), (⟨"HalfAJokeModel", "putsQuarters", "()V"⟩, 38)]
theorem lw_r6 : ∀ q ∈ lw_privs_6, lw_okq q := List.forall_mem_cons.mpr ⟨lw_p80, List.forall_mem_cons.mpr ⟨lw_p81, List.forall_mem_cons.mpr ⟨lw_p82, fun _ h => absurd h List.not_mem_nil⟩⟩⟩
def lw_privs : List (MethodName × Nat) := lw_privs_1 ++ (lw_privs_2 ++ (lw_privs_3 ++ (lw_privs_4 ++ (lw_privs_5 ++ (lw_privs_6)))))
def lw_tbl : List Cond := k2_sels lw_privs ++ tables_1
theorem lw_privs_ok : ∀ q ∈ lw_privs, lw_okq q := by
  show ∀ q ∈ lw_privs_1 ++ (lw_privs_2 ++ (lw_privs_3 ++ (lw_privs_4 ++ (lw_privs_5 ++ (lw_privs_6))))), lw_okq q
  exact List.forall_mem_append.mpr ⟨lw_r1, List.forall_mem_append.mpr ⟨lw_r2, List.forall_mem_append.mpr ⟨lw_r3, List.forall_mem_append.mpr ⟨lw_r4, List.forall_mem_append.mpr ⟨lw_r5, lw_r6⟩⟩⟩⟩⟩
end
section
/-! ===== BEGIN printed: names, fields, word lists, decode rows ===== -/
def RX0 : String := "HalfAJoke$Book"
def TX0 : u_T := fun k => match k with
  | 0 => ("HalfAJoke$Book", "told", "[I", true)
  | 1 => ("HalfAJoke$Book", "last", "[I", true)
  | 2 => ("HalfAJoke$Book", "fame", "[I", true)
  | 3 => ("HalfAJoke$Book", "rows", "[I", true)
  | 4 => ("HalfAJoke$Book", "lines", "I", false)
  | _ => ("HalfAJoke$Book", "night", "I", false)
def tyX0 : Nat → FieldType := fun k => match k with
  | 0 => .array .int
  | 1 => .array .int
  | 2 => .array .int
  | 3 => .array .int
  | 4 => .int
  | _ => .int
abbrev wsX00 : List Cond := u_ws RX0 TX0 6
theorem nmX0 : ∀ a, a < 6 → ∀ b, b < 6 → a ≠ b → (TX0 a).2.1 ≠ (TX0 b).2.1 := by decide +kernel
theorem tyX0_ok : ∀ k, k < 6 → parseFieldDescriptor (TX0 k).2.2.1 = some (tyX0 k) := by decide +kernel
abbrev cX0_init : ByteArray := prog_2_method_1_code
def yX0_init : MethodName := ⟨RX0, "<init>", "()V"⟩
abbrev cX0_copyFrom : ByteArray := prog_2_method_2_code
def yX0_copyFrom : MethodName := ⟨RX0, "copyFrom", "(LHalfAJoke$Book;)V"⟩
abbrev cX0_write : ByteArray := prog_2_method_3_code
def yX0_write : MethodName := ⟨RX0, "write", "(LHalfAJoke$Evening;I)V"⟩
def RX1 : String := "HalfAJoke$Evening"
def TX1 : u_T := fun k => match k with
  | 0 => ("HalfAJoke$Evening", "house", "LHalfAJoke$House;", true)
  | 1 => ("HalfAJoke$Evening", "laughs", "[I", true)
  | 2 => ("HalfAJoke$Evening", "more", "[I", true)
  | 3 => ("HalfAJoke$Evening", "can", "[I", true)
  | 4 => ("HalfAJoke$Evening", "trailPair", "[I", true)
  | 5 => ("HalfAJoke$Evening", "trailLaugh", "[I", true)
  | 6 => ("HalfAJoke$Evening", "trail", "I", false)
  | 7 => ("HalfAJoke$Evening", "fronts", "I", false)
  | 8 => ("HalfAJoke$Evening", "ends", "I", false)
  | 9 => ("HalfAJoke$Evening", "front", "I", false)
  | 10 => ("HalfAJoke$Evening", "end", "I", false)
  | 11 => ("HalfAJoke$Evening", "laugh", "I", false)
  | 12 => ("HalfAJoke$Evening", "opener", "I", false)
  | _ => ("HalfAJoke$Evening", "closer", "I", false)
def tyX1 : Nat → FieldType := fun k => match k with
  | 0 => .object "HalfAJoke$House"
  | 1 => .array .int
  | 2 => .array .int
  | 3 => .array .int
  | 4 => .array .int
  | 5 => .array .int
  | 6 => .int
  | 7 => .int
  | 8 => .int
  | 9 => .int
  | 10 => .int
  | 11 => .int
  | 12 => .int
  | _ => .int
abbrev wsX10 : List Cond := u_ws RX1 TX1 14
theorem nmX1 : ∀ a, a < 14 → ∀ b, b < 14 → a ≠ b → (TX1 a).2.1 ≠ (TX1 b).2.1 := by decide +kernel
theorem tyX1_ok : ∀ k, k < 14 → parseFieldDescriptor (TX1 k).2.2.1 = some (tyX1 k) := by decide +kernel
abbrev cX1_init : ByteArray := prog_3_method_1_code
def yX1_init : MethodName := ⟨RX1, "<init>", "(LHalfAJoke$House;)V"⟩
abbrev cX1_begin : ByteArray := prog_3_method_2_code
def yX1_begin : MethodName := ⟨RX1, "begin", "()V"⟩
abbrev cX1_tellable : ByteArray := prog_3_method_3_code
def yX1_tellable : MethodName := ⟨RX1, "tellable", "(II)I"⟩
abbrev cX1_leaveAll : ByteArray := prog_3_method_4_code
def yX1_leaveAll : MethodName := ⟨RX1, "leaveAll", "(II)V"⟩
abbrev cX1_findBetween : ByteArray := prog_3_method_5_code
def yX1_findBetween : MethodName := ⟨RX1, "findBetween", "(II)Z"⟩
abbrev cX1_findOf : ByteArray := prog_3_method_6_code
def yX1_findOf : MethodName := ⟨RX1, "findOf", "(II)Z"⟩
abbrev cX1_partnersOf : ByteArray := prog_3_method_7_code
def yX1_partnersOf : MethodName := ⟨RX1, "partnersOf", "(III)I"⟩
abbrev cX1_tellBetween : ByteArray := prog_3_method_8_code
def yX1_tellBetween : MethodName := ⟨RX1, "tellBetween", "(II)I"⟩
abbrev cX1_untell : ByteArray := prog_3_method_9_code
def yX1_untell : MethodName := ⟨RX1, "untell", "()V"⟩
abbrev cX1_merryOf : ByteArray := prog_3_method_10_code
def yX1_merryOf : MethodName := ⟨RX1, "merryOf", "([II)I"⟩
def RX2 : String := "HalfAJoke$Fit"
def TX2 : u_T := fun k => match k with
  | 0 => ("HalfAJoke$Fit", "most", "[I", true)
  | 1 => ("HalfAJoke$Fit", "laughs", "[I", true)
  | 2 => ("HalfAJoke$Fit", "fronts", "[I", true)
  | 3 => ("HalfAJoke$Fit", "ends", "[I", true)
  | 4 => ("HalfAJoke$Fit", "partner", "[I", true)
  | 5 => ("HalfAJoke$Fit", "frontCount", "I", false)
  | 6 => ("HalfAJoke$Fit", "endCount", "I", false)
  | _ => ("HalfAJoke$Fit", "sum", "I", false)
def tyX2 : Nat → FieldType := fun k => match k with
  | 0 => .array .int
  | 1 => .array .int
  | 2 => .array .int
  | 3 => .array .int
  | 4 => .array .int
  | 5 => .int
  | 6 => .int
  | _ => .int
abbrev wsX20 : List Cond := u_ws RX2 TX2 8
theorem nmX2 : ∀ a, a < 8 → ∀ b, b < 8 → a ≠ b → (TX2 a).2.1 ≠ (TX2 b).2.1 := by decide +kernel
theorem tyX2_ok : ∀ k, k < 8 → parseFieldDescriptor (TX2 k).2.2.1 = some (tyX2 k) := by decide +kernel
abbrev cX2_init : ByteArray := prog_4_method_1_code
def yX2_init : MethodName := ⟨RX2, "<init>", "()V"⟩
abbrev cX2_solve : ByteArray := prog_4_method_2_code
def yX2_solve : MethodName := ⟨RX2, "solve", "(LHalfAJoke$House;)Z"⟩
abbrev cX2_gather : ByteArray := prog_4_method_3_code
def yX2_gather : MethodName := ⟨RX2, "gather", "(LHalfAJoke$Halves;)Z"⟩
abbrev cX2_mostFrom : ByteArray := prog_4_method_4_code
def yX2_mostFrom : MethodName := ⟨RX2, "mostFrom", "(II)I"⟩
abbrev cX2_sumWith : ByteArray := prog_4_method_5_code
def yX2_sumWith : MethodName := ⟨RX2, "sumWith", "(III)I"⟩
abbrev cX2_choose : ByteArray := prog_4_method_6_code
def yX2_choose : MethodName := ⟨RX2, "choose", "(I)V"⟩
abbrev cX2_leastPartner : ByteArray := prog_4_method_7_code
def yX2_leastPartner : MethodName := ⟨RX2, "leastPartner", "(II)I"⟩
def RX3 : String := "HalfAJoke$Halves"
def TX3 : u_T := fun k => match k with
  | 0 => ("HalfAJoke$Halves", "side", "[I", true)
  | 1 => ("HalfAJoke$Halves", "joke", "[I", true)
  | 2 => ("HalfAJoke$Halves", "wit", "[I", true)
  | 3 => ("HalfAJoke$Halves", "quarters", "[I", true)
  | _ => ("HalfAJoke$Halves", "count", "I", false)
def tyX3 : Nat → FieldType := fun k => match k with
  | 0 => .array .int
  | 1 => .array .int
  | 2 => .array .int
  | 3 => .array .int
  | _ => .int
abbrev wsX30 : List Cond := u_ws RX3 TX3 5
theorem nmX3 : ∀ a, a < 5 → ∀ b, b < 5 → a ≠ b → (TX3 a).2.1 ≠ (TX3 b).2.1 := by decide +kernel
theorem tyX3_ok : ∀ k, k < 5 → parseFieldDescriptor (TX3 k).2.2.1 = some (tyX3 k) := by decide +kernel
abbrev cX3_init : ByteArray := prog_5_method_1_code
def yX3_init : MethodName := ⟨RX3, "<init>", "()V"⟩
abbrev cX3_copyFrom : ByteArray := prog_5_method_2_code
def yX3_copyFrom : MethodName := ⟨RX3, "copyFrom", "(LHalfAJoke$Halves;)V"⟩
abbrev cX3_has : ByteArray := prog_5_method_3_code
def yX3_has : MethodName := ⟨RX3, "has", "(I)Z"⟩
abbrev cX3_isOn : ByteArray := prog_5_method_4_code
def yX3_isOn : MethodName := ⟨RX3, "isOn", "(II)Z"⟩
abbrev cX3_quartersOf : ByteArray := prog_5_method_5_code
def yX3_quartersOf : MethodName := ⟨RX3, "quartersOf", "(II)I"⟩
abbrev cX3_add : ByteArray := prog_5_method_6_code
def yX3_add : MethodName := ⟨RX3, "add", "(IIII)I"⟩
abbrev cX3_move : ByteArray := prog_5_method_7_code
def yX3_move : MethodName := ⟨RX3, "move", "(IIII)V"⟩
abbrev cX3_inherit : ByteArray := prog_5_method_8_code
def yX3_inherit : MethodName := ⟨RX3, "inherit", "(III)I"⟩
abbrev cX3_isLike : ByteArray := prog_5_method_9_code
def yX3_isLike : MethodName := ⟨RX3, "isLike", "(III)Z"⟩
abbrev cX3_setOn : ByteArray := prog_5_method_10_code
def yX3_setOn : MethodName := ⟨RX3, "setOn", "(I)I"⟩
def RX4 : String := "HalfAJoke$House"
def TX4 : u_T := fun k => match k with
  | 0 => ("HalfAJoke$House", "halves", "LHalfAJoke$Halves;", true)
  | 1 => ("HalfAJoke$House", "table", "LHalfAJoke$Table;", true)
  | 2 => ("HalfAJoke$House", "book", "LHalfAJoke$Book;", true)
  | 3 => ("HalfAJoke$House", "law", "LHalfAJoke$Law;", true)
  | 4 => ("HalfAJoke$House", "feuds", "[I", true)
  | 5 => ("HalfAJoke$House", "facts", "[I", true)
  | 6 => ("HalfAJoke$House", "need", "I", false)
  | 7 => ("HalfAJoke$House", "spoil", "I", false)
  | _ => ("HalfAJoke$House", "draws", "I", false)
def tyX4 : Nat → FieldType := fun k => match k with
  | 0 => .object "HalfAJoke$Halves"
  | 1 => .object "HalfAJoke$Table"
  | 2 => .object "HalfAJoke$Book"
  | 3 => .object "HalfAJoke$Law"
  | 4 => .array .int
  | 5 => .array .int
  | 6 => .int
  | 7 => .int
  | _ => .int
abbrev wsX40 : List Cond := u_ws RX4 TX4 9
theorem nmX4 : ∀ a, a < 9 → ∀ b, b < 9 → a ≠ b → (TX4 a).2.1 ≠ (TX4 b).2.1 := by decide +kernel
theorem tyX4_ok : ∀ k, k < 9 → parseFieldDescriptor (TX4 k).2.2.1 = some (tyX4 k) := by decide +kernel
abbrev cX4_init : ByteArray := prog_6_method_1_code
def yX4_init : MethodName := ⟨RX4, "<init>", "()V"⟩
abbrev cX4_copyFrom : ByteArray := prog_6_method_2_code
def yX4_copyFrom : MethodName := ⟨RX4, "copyFrom", "(LHalfAJoke$House;)V"⟩
abbrev cX4_draw : ByteArray := prog_6_method_3_code
def yX4_draw : MethodName := ⟨RX4, "draw", "(I)I"⟩
abbrev cX4_quarrel : ByteArray := prog_6_method_4_code
def yX4_quarrel : MethodName := ⟨RX4, "quarrel", "(IIZ)V"⟩
abbrev cX4_laughOf : ByteArray := prog_6_method_5_code
def yX4_laughOf : MethodName := ⟨RX4, "laughOf", "(III)I"⟩
def RX5 : String := "HalfAJoke$Law"
def TX5 : u_T := fun k => match k with
  | 0 => ("HalfAJoke$Law", "steps", "[I", true)
  | 1 => ("HalfAJoke$Law", "numbers", "[I", true)
  | 2 => ("HalfAJoke$Law", "stack", "[I", true)
  | 3 => ("HalfAJoke$Law", "size", "I", false)
  | _ => ("HalfAJoke$Law", "lines", "I", false)
def tyX5 : Nat → FieldType := fun k => match k with
  | 0 => .array .int
  | 1 => .array .int
  | 2 => .array .int
  | 3 => .int
  | _ => .int
abbrev wsX50 : List Cond := u_ws RX5 TX5 5
theorem nmX5 : ∀ a, a < 5 → ∀ b, b < 5 → a ≠ b → (TX5 a).2.1 ≠ (TX5 b).2.1 := by decide +kernel
theorem tyX5_ok : ∀ k, k < 5 → parseFieldDescriptor (TX5 k).2.2.1 = some (tyX5 k) := by decide +kernel
abbrev cX5_init : ByteArray := prog_7_method_1_code
def yX5_init : MethodName := ⟨RX5, "<init>", "()V"⟩
abbrev cX5_clear : ByteArray := prog_7_method_2_code
def yX5_clear : MethodName := ⟨RX5, "clear", "()V"⟩
abbrev cX5_copyFrom : ByteArray := prog_7_method_3_code
def yX5_copyFrom : MethodName := ⟨RX5, "copyFrom", "(LHalfAJoke$Law;)V"⟩
abbrev cX5_add : ByteArray := prog_7_method_4_code
def yX5_add : MethodName := ⟨RX5, "add", "(II)V"⟩
abbrev cX5_valueOf : ByteArray := prog_7_method_5_code
def yX5_valueOf : MethodName := ⟨RX5, "valueOf", "([I)I"⟩
abbrev cX5_joined : ByteArray := prog_7_method_6_code
def yX5_joined : MethodName := ⟨RX5, "joined", "(III)I"⟩
def RX6 : String := "HalfAJoke$Past"
def TX6 : u_T := fun k => match k with
  | 0 => ("HalfAJoke$Past", "tellings", "[I", true)
  | 1 => ("HalfAJoke$Past", "pairs", "[I", true)
  | 2 => ("HalfAJoke$Past", "lasts", "[I", true)
  | 3 => ("HalfAJoke$Past", "fames", "[I", true)
  | 4 => ("HalfAJoke$Past", "lines", "[I", true)
  | 5 => ("HalfAJoke$Past", "draws", "[I", true)
  | 6 => ("HalfAJoke$Past", "newest", "I", false)
  | _ => ("HalfAJoke$Past", "count", "I", false)
def tyX6 : Nat → FieldType := fun k => match k with
  | 0 => .array .int
  | 1 => .array .int
  | 2 => .array .int
  | 3 => .array .int
  | 4 => .array .int
  | 5 => .array .int
  | 6 => .int
  | _ => .int
abbrev wsX60 : List Cond := u_ws RX6 TX6 8
theorem nmX6 : ∀ a, a < 8 → ∀ b, b < 8 → a ≠ b → (TX6 a).2.1 ≠ (TX6 b).2.1 := by decide +kernel
theorem tyX6_ok : ∀ k, k < 8 → parseFieldDescriptor (TX6 k).2.2.1 = some (tyX6 k) := by decide +kernel
abbrev cX6_init : ByteArray := prog_8_method_1_code
def yX6_init : MethodName := ⟨RX6, "<init>", "()V"⟩
abbrev cX6_forget : ByteArray := prog_8_method_2_code
def yX6_forget : MethodName := ⟨RX6, "forget", "()V"⟩
abbrev cX6_keep : ByteArray := prog_8_method_3_code
def yX6_keep : MethodName := ⟨RX6, "keep", "(LHalfAJoke$House;)V"⟩
abbrev cX6_note : ByteArray := prog_8_method_4_code
def yX6_note : MethodName := ⟨RX6, "note", "(II)V"⟩
abbrev cX6_goBack : ByteArray := prog_8_method_5_code
def yX6_goBack : MethodName := ⟨RX6, "goBack", "(LHalfAJoke$House;)Z"⟩
def RX7 : String := "HalfAJoke$Reader"
def TX7 : u_T := fun k => match k with
  | 0 => ("HalfAJoke$Reader", "tape", "[C", true)
  | 1 => ("HalfAJoke$Reader", "kinds", "[I", true)
  | 2 => ("HalfAJoke$Reader", "values", "[I", true)
  | 3 => ("HalfAJoke$Reader", "places", "[I", true)
  | 4 => ("HalfAJoke$Reader", "draft", "LHalfAJoke$Law;", true)
  | 5 => ("HalfAJoke$Reader", "length", "I", false)
  | 6 => ("HalfAJoke$Reader", "fault", "I", false)
  | 7 => ("HalfAJoke$Reader", "faultPlace", "I", false)
  | 8 => ("HalfAJoke$Reader", "tokens", "I", false)
  | 9 => ("HalfAJoke$Reader", "at", "I", false)
  | _ => ("HalfAJoke$Reader", "kind", "I", false)
def tyX7 : Nat → FieldType := fun k => match k with
  | 0 => .array .char
  | 1 => .array .int
  | 2 => .array .int
  | 3 => .array .int
  | 4 => .object "HalfAJoke$Law"
  | 5 => .int
  | 6 => .int
  | 7 => .int
  | 8 => .int
  | 9 => .int
  | _ => .int
abbrev wsX70 : List Cond := u_ws RX7 TX7 11
theorem nmX7 : ∀ a, a < 11 → ∀ b, b < 11 → a ≠ b → (TX7 a).2.1 ≠ (TX7 b).2.1 := by decide +kernel
theorem tyX7_ok : ∀ k, k < 11 → parseFieldDescriptor (TX7 k).2.2.1 = some (tyX7 k) := by decide +kernel
abbrev cX7_init : ByteArray := prog_9_method_1_code
def yX7_init : MethodName := ⟨RX7, "<init>", "()V"⟩
abbrev cX7_hasRoom : ByteArray := prog_9_method_2_code
def yX7_hasRoom : MethodName := ⟨RX7, "hasRoom", "(I)Z"⟩
abbrev cX7_put : ByteArray := prog_9_method_3_code
def yX7_put : MethodName := ⟨RX7, "put", "(I)V"⟩
abbrev cX7_readLaw : ByteArray := prog_9_method_4_code
def yX7_readLaw : MethodName := ⟨RX7, "readLaw", "()Z"⟩
abbrev cX7_split : ByteArray := prog_9_method_5_code
def yX7_split : MethodName := ⟨RX7, "split", "()V"⟩
abbrev cX7_addToken : ByteArray := prog_9_method_6_code
def yX7_addToken : MethodName := ⟨RX7, "addToken", "(III)V"⟩
abbrev cX7_takeToken : ByteArray := prog_9_method_7_code
def yX7_takeToken : MethodName := ⟨RX7, "takeToken", "(I)I"⟩
abbrev cX7_takeWord : ByteArray := prog_9_method_8_code
def yX7_takeWord : MethodName := ⟨RX7, "takeWord", "(I)I"⟩
abbrev cX7_isWord : ByteArray := prog_9_method_9_code
def yX7_isWord : MethodName := ⟨RX7, "isWord", "(III)Z"⟩
abbrev cX7_takeNumber : ByteArray := prog_9_method_10_code
def yX7_takeNumber : MethodName := ⟨RX7, "takeNumber", "(I)I"⟩
abbrev cX7_isLetter : ByteArray := prog_9_method_11_code
def yX7_isLetter : MethodName := ⟨RX7, "isLetter", "(C)Z"⟩
abbrev cX7_isDigit : ByteArray := prog_9_method_12_code
def yX7_isDigit : MethodName := ⟨RX7, "isDigit", "(C)Z"⟩
abbrev cX7_blame : ByteArray := prog_9_method_13_code
def yX7_blame : MethodName := ⟨RX7, "blame", "(I)V"⟩
abbrev cX7_step : ByteArray := prog_9_method_14_code
def yX7_step : MethodName := ⟨RX7, "step", "()V"⟩
abbrev cX7_expect : ByteArray := prog_9_method_15_code
def yX7_expect : MethodName := ⟨RX7, "expect", "(II)V"⟩
abbrev cX7_readLine : ByteArray := prog_9_method_16_code
def yX7_readLine : MethodName := ⟨RX7, "readLine", "()V"⟩
abbrev cX7_readCondition : ByteArray := prog_9_method_17_code
def yX7_readCondition : MethodName := ⟨RX7, "readCondition", "(I)V"⟩
abbrev cX7_readClause : ByteArray := prog_9_method_18_code
def yX7_readClause : MethodName := ⟨RX7, "readClause", "(I)V"⟩
abbrev cX7_readSum : ByteArray := prog_9_method_19_code
def yX7_readSum : MethodName := ⟨RX7, "readSum", "()V"⟩
abbrev cX7_readUnit : ByteArray := prog_9_method_20_code
def yX7_readUnit : MethodName := ⟨RX7, "readUnit", "(I)V"⟩
def RX8 : String := "HalfAJoke$Seating"
def TX8 : u_T := fun k => match k with
  | 0 => ("HalfAJoke$Seating", "evening", "LHalfAJoke$Evening;", true)
  | 1 => ("HalfAJoke$Seating", "tried", "[I", true)
  | 2 => ("HalfAJoke$Seating", "best", "[I", true)
  | 3 => ("HalfAJoke$Seating", "guests", "I", false)
  | _ => ("HalfAJoke$Seating", "merry", "I", false)
def tyX8 : Nat → FieldType := fun k => match k with
  | 0 => .object "HalfAJoke$Evening"
  | 1 => .array .int
  | 2 => .array .int
  | 3 => .int
  | _ => .int
abbrev wsX80 : List Cond := u_ws RX8 TX8 5
theorem nmX8 : ∀ a, a < 5 → ∀ b, b < 5 → a ≠ b → (TX8 a).2.1 ≠ (TX8 b).2.1 := by decide +kernel
theorem tyX8_ok : ∀ k, k < 5 → parseFieldDescriptor (TX8 k).2.2.1 = some (tyX8 k) := by decide +kernel
abbrev cX8_init : ByteArray := prog_10_method_1_code
def yX8_init : MethodName := ⟨RX8, "<init>", "(LHalfAJoke$Evening;)V"⟩
abbrev cX8_solve : ByteArray := prog_10_method_2_code
def yX8_solve : MethodName := ⟨RX8, "solve", "(I)V"⟩
abbrev cX8_place : ByteArray := prog_10_method_3_code
def yX8_place : MethodName := ⟨RX8, "place", "(III)V"⟩
abbrev cX8_takeBack : ByteArray := prog_10_method_4_code
def yX8_takeBack : MethodName := ⟨RX8, "takeBack", "(I)V"⟩
abbrev cX8_keepBest : ByteArray := prog_10_method_5_code
def yX8_keepBest : MethodName := ⟨RX8, "keepBest", "(I)V"⟩
def RX9 : String := "HalfAJoke$Table"
def TX9 : u_T := fun k => match k with
  | 0 => ("HalfAJoke$Table", "family", "[I", true)
  | 1 => ("HalfAJoke$Table", "place", "[I", true)
  | 2 => ("HalfAJoke$Table", "sitter", "[I", true)
  | 3 => ("HalfAJoke$Table", "seats", "I", false)
  | _ => ("HalfAJoke$Table", "guests", "I", false)
def tyX9 : Nat → FieldType := fun k => match k with
  | 0 => .array .int
  | 1 => .array .int
  | 2 => .array .int
  | 3 => .int
  | _ => .int
abbrev wsX90 : List Cond := u_ws RX9 TX9 5
theorem nmX9 : ∀ a, a < 5 → ∀ b, b < 5 → a ≠ b → (TX9 a).2.1 ≠ (TX9 b).2.1 := by decide +kernel
theorem tyX9_ok : ∀ k, k < 5 → parseFieldDescriptor (TX9 k).2.2.1 = some (tyX9 k) := by decide +kernel
abbrev cX9_init : ByteArray := prog_11_method_1_code
def yX9_init : MethodName := ⟨RX9, "<init>", "()V"⟩
abbrev cX9_copyFrom : ByteArray := prog_11_method_2_code
def yX9_copyFrom : MethodName := ⟨RX9, "copyFrom", "(LHalfAJoke$Table;)V"⟩
abbrev cX9_layFor : ByteArray := prog_11_method_3_code
def yX9_layFor : MethodName := ⟨RX9, "layFor", "(I)V"⟩
abbrev cX9_add : ByteArray := prog_11_method_4_code
def yX9_add : MethodName := ⟨RX9, "add", "(I)I"⟩
abbrev cX9_canSit : ByteArray := prog_11_method_5_code
def yX9_canSit : MethodName := ⟨RX9, "canSit", "(II)Z"⟩
abbrev cX9_sit : ByteArray := prog_11_method_6_code
def yX9_sit : MethodName := ⟨RX9, "sit", "(II)V"⟩
abbrev cX9_beside : ByteArray := prog_11_method_7_code
def yX9_beside : MethodName := ⟨RX9, "beside", "(I)I"⟩
def RX10 : String := "HalfAJoke$Worths"
def TX10 : u_T := fun k => match k with
  | 0 => ("HalfAJoke$Worths", "rows", "[I", true)
  | 1 => ("HalfAJoke$Worths", "laughs", "[I", true)
  | 2 => ("HalfAJoke$Worths", "settled", "I", false)
  | _ => ("HalfAJoke$Worths", "circle", "I", false)
def tyX10 : Nat → FieldType := fun k => match k with
  | 0 => .array .int
  | 1 => .array .int
  | 2 => .int
  | _ => .int
abbrev wsX100 : List Cond := u_ws RX10 TX10 4
theorem nmX10 : ∀ a, a < 4 → ∀ b, b < 4 → a ≠ b → (TX10 a).2.1 ≠ (TX10 b).2.1 := by decide +kernel
theorem tyX10_ok : ∀ k, k < 4 → parseFieldDescriptor (TX10 k).2.2.1 = some (tyX10 k) := by decide +kernel
abbrev cX10_init : ByteArray := prog_12_method_1_code
def yX10_init : MethodName := ⟨RX10, "<init>", "()V"⟩
abbrev cX10_solve : ByteArray := prog_12_method_2_code
def yX10_solve : MethodName := ⟨RX10, "solve", "(LHalfAJoke$House;)V"⟩
abbrev cX10_greatest : ByteArray := prog_12_method_3_code
def yX10_greatest : MethodName := ⟨RX10, "greatest", "(LHalfAJoke$Halves;II)I"⟩
abbrev cX10_judge : ByteArray := prog_12_method_4_code
def yX10_judge : MethodName := ⟨RX10, "judge", "(I)V"⟩
abbrev cX10_areAlike : ByteArray := prog_12_method_5_code
def yX10_areAlike : MethodName := ⟨RX10, "areAlike", "(III)Z"⟩
def RX11 : String := "HalfAJoke"
def TX11 : u_T := fun k => match k with
  | 0 => ("HalfAJoke", "house", "LHalfAJoke$House;", true)
  | 1 => ("HalfAJoke", "past", "LHalfAJoke$Past;", true)
  | 2 => ("HalfAJoke", "reader", "LHalfAJoke$Reader;", true)
  | 3 => ("HalfAJoke", "evening", "LHalfAJoke$Evening;", true)
  | 4 => ("HalfAJoke", "row", "[I", true)
  | 5 => ("HalfAJoke", "kept", "LHalfAJoke$House;", false)
  | 6 => ("HalfAJoke", "bestSeating", "LHalfAJoke$Seating;", false)
  | 7 => ("HalfAJoke", "bestFit", "LHalfAJoke$Fit;", false)
  | _ => ("HalfAJoke", "worths", "LHalfAJoke$Worths;", false)
def tyX11 : Nat → FieldType := fun k => match k with
  | 0 => .object "HalfAJoke$House"
  | 1 => .object "HalfAJoke$Past"
  | 2 => .object "HalfAJoke$Reader"
  | 3 => .object "HalfAJoke$Evening"
  | 4 => .array .int
  | 5 => .object "HalfAJoke$House"
  | 6 => .object "HalfAJoke$Seating"
  | 7 => .object "HalfAJoke$Fit"
  | _ => .object "HalfAJoke$Worths"
abbrev wsX110 : List Cond := u_ws RX11 TX11 9
theorem nmX11 : ∀ a, a < 9 → ∀ b, b < 9 → a ≠ b → (TX11 a).2.1 ≠ (TX11 b).2.1 := by decide +kernel
theorem tyX11_ok : ∀ k, k < 9 → parseFieldDescriptor (TX11 k).2.2.1 = some (tyX11 k) := by decide +kernel
abbrev cX11_init : ByteArray := prog_1_method_1_code
def yX11_init : MethodName := ⟨RX11, "<init>", "()V"⟩
abbrev cX11_state : ByteArray := prog_1_method_2_code
def yX11_state : MethodName := ⟨RX11, "state", "(I)I"⟩
abbrev cX11_half : ByteArray := prog_1_method_3_code
def yX11_half : MethodName := ⟨RX11, "half", "(IIII)I"⟩
abbrev cX11_give : ByteArray := prog_1_method_4_code
def yX11_give : MethodName := ⟨RX11, "give", "(IIII)Z"⟩
abbrev cX11_heirs : ByteArray := prog_1_method_5_code
def yX11_heirs : MethodName := ⟨RX11, "heirs", "(II)I"⟩
abbrev cX11_feud : ByteArray := prog_1_method_6_code
def yX11_feud : MethodName := ⟨RX11, "feud", "(IIZ)Z"⟩
abbrev cX11_guest : ByteArray := prog_1_method_7_code
def yX11_guest : MethodName := ⟨RX11, "guest", "(I)I"⟩
abbrev cX11_seat : ByteArray := prog_1_method_8_code
def yX11_seat : MethodName := ⟨RX11, "seat", "(II)Z"⟩
abbrev cX11_set : ByteArray := prog_1_method_9_code
def yX11_set : MethodName := ⟨RX11, "set", "(II)Z"⟩
abbrev cX11_feed : ByteArray := prog_1_method_10_code
def yX11_feed : MethodName := ⟨RX11, "feed", "(IIIII)I"⟩
abbrev cX11_end : ByteArray := prog_1_method_11_code
def yX11_end : MethodName := ⟨RX11, "end", "(I)Z"⟩
abbrev cX11_text : ByteArray := prog_1_method_12_code
def yX11_text : MethodName := ⟨RX11, "text", "()I"⟩
abbrev cX11_fault : ByteArray := prog_1_method_13_code
def yX11_fault : MethodName := ⟨RX11, "fault", "(I)I"⟩
abbrev cX11_evenings : ByteArray := prog_1_method_14_code
def yX11_evenings : MethodName := ⟨RX11, "evenings", "(I)I"⟩
abbrev cX11_of : ByteArray := prog_1_method_15_code
def yX11_of : MethodName := ⟨RX11, "of", "(II)I"⟩
abbrev cX11_who : ByteArray := prog_1_method_16_code
def yX11_who : MethodName := ⟨RX11, "who", "(II)I"⟩
abbrev cX11_laugh : ByteArray := prog_1_method_17_code
def yX11_laugh : MethodName := ⟨RX11, "laugh", "(II)I"⟩
abbrev cX11_told : ByteArray := prog_1_method_18_code
def yX11_told : MethodName := ⟨RX11, "told", "(II)I"⟩
abbrev cX11_telling : ByteArray := prog_1_method_19_code
def yX11_telling : MethodName := ⟨RX11, "telling", "(II)I"⟩
abbrev cX11_book : ByteArray := prog_1_method_20_code
def yX11_book : MethodName := ⟨RX11, "book", "(II)I"⟩
abbrev cX11_fame : ByteArray := prog_1_method_21_code
def yX11_fame : MethodName := ⟨RX11, "fame", "(I)I"⟩
abbrev cX11_merry : ByteArray := prog_1_method_22_code
def yX11_merry : MethodName := ⟨RX11, "merry", "()I"⟩
abbrev cX11_fit : ByteArray := prog_1_method_23_code
def yX11_fit : MethodName := ⟨RX11, "fit", "(I)I"⟩
abbrev cX11_seating : ByteArray := prog_1_method_24_code
def yX11_seating : MethodName := ⟨RX11, "seating", "(I)I"⟩
abbrev cX11_change : ByteArray := prog_1_method_25_code
def yX11_change : MethodName := ⟨RX11, "change", "(I)I"⟩
abbrev cX11_like : ByteArray := prog_1_method_26_code
def yX11_like : MethodName := ⟨RX11, "like", "(II)I"⟩
abbrev cX11_silent : ByteArray := prog_1_method_27_code
def yX11_silent : MethodName := ⟨RX11, "silent", "(I)I"⟩
abbrev cX11_worth : ByteArray := prog_1_method_28_code
def yX11_worth : MethodName := ⟨RX11, "worth", "(II)I"⟩
abbrev cX11_away : ByteArray := prog_1_method_29_code
def yX11_away : MethodName := ⟨RX11, "away", "(I)I"⟩
abbrev cX11_uncle : ByteArray := prog_1_method_30_code
def yX11_uncle : MethodName := ⟨RX11, "uncle", "(II)I"⟩
abbrev cX11_undo : ByteArray := prog_1_method_31_code
def yX11_undo : MethodName := ⟨RX11, "undo", "()Z"⟩
abbrev cX11_image : ByteArray := prog_1_method_32_code
def yX11_image : MethodName := ⟨RX11, "image", "(Z)Z"⟩
abbrev cX11_look : ByteArray := prog_1_method_33_code
def yX11_look : MethodName := ⟨RX11, "look", "(I)I"⟩
abbrev cX11_lookInRows : ByteArray := prog_1_method_34_code
def yX11_lookInRows : MethodName := ⟨RX11, "lookInRows", "(I)I"⟩
abbrev cX11_arePair : ByteArray := prog_1_method_35_code
def yX11_arePair : MethodName := ⟨RX11, "arePair", "(II)Z"⟩
abbrev cX11_merryChanged : ByteArray := prog_1_method_36_code
def yX11_merryChanged : MethodName := ⟨RX11, "merryChanged", "(II)I"⟩
abbrev cX11_spendEvening : ByteArray := prog_1_method_37_code
def yX11_spendEvening : MethodName := ⟨RX11, "spendEvening", "()I"⟩
abbrev cX11_tellFound : ByteArray := prog_1_method_38_code
def yX11_tellFound : MethodName := ⟨RX11, "tellFound", "()I"⟩
abbrev cX11_isBelow : ByteArray := prog_1_method_39_code
def yX11_isBelow : MethodName := ⟨RX11, "isBelow", "(II)Z"⟩
abbrev cX11_isIn : ByteArray := prog_1_method_40_code
def yX11_isIn : MethodName := ⟨RX11, "isIn", "(II)Z"⟩
abbrev cX11_pairOf : ByteArray := prog_1_method_41_code
def yX11_pairOf : MethodName := ⟨RX11, "pairOf", "(II)I"⟩
def RX12 : String := "HalfAJokeModel"
def TX12 : u_T := fun k => match k with
  | 0 => ("HalfAJokeModel", "w", "[I", true)
  | 1 => ("HalfAJokeModel", "kept", "[I", true)
  | 2 => ("HalfAJokeModel", "back", "[I", true)
  | 3 => ("HalfAJokeModel", "lying", "[I", true)
  | 4 => ("HalfAJokeModel", "backMany", "I", false)
  | 5 => ("HalfAJokeModel", "hasImage", "Z", false)
  | 6 => ("HalfAJokeModel", "freshLine", "[I", true)
  | 7 => ("HalfAJokeModel", "freshStep", "[I", true)
  | 8 => ("HalfAJokeModel", "tape", "[I", true)
  | 9 => ("HalfAJokeModel", "pile", "[I", true)
  | 10 => ("HalfAJokeModel", "facts", "[I", true)
  | 11 => ("HalfAJokeModel", "lines", "I", false)
  | 12 => ("HalfAJokeModel", "steps", "I", false)
  | 13 => ("HalfAJokeModel", "taped", "I", false)
  | 14 => ("HalfAJokeModel", "at", "I", false)
  | 15 => ("HalfAJokeModel", "token", "I", false)
  | 16 => ("HalfAJokeModel", "tokenAt", "I", false)
  | 17 => ("HalfAJokeModel", "value", "I", false)
  | 18 => ("HalfAJokeModel", "wrong", "I", false)
  | 19 => ("HalfAJokeModel", "wrongAt", "I", false)
  | 20 => ("HalfAJokeModel", "faultKind", "I", false)
  | 21 => ("HalfAJokeModel", "depth", "I", false)
  | 22 => ("HalfAJokeModel", "faultPlace", "I", false)
  | 23 => ("HalfAJokeModel", "tellFront", "I", false)
  | 24 => ("HalfAJokeModel", "tellEnd", "I", false)
  | 25 => ("HalfAJokeModel", "tellWho", "I", false)
  | 26 => ("HalfAJokeModel", "tellLaugh", "I", false)
  | 27 => ("HalfAJokeModel", "fronts", "[I", true)
  | 28 => ("HalfAJokeModel", "ends", "[I", true)
  | 29 => ("HalfAJokeModel", "fits", "[I", true)
  | 30 => ("HalfAJokeModel", "partner", "[I", true)
  | 31 => ("HalfAJokeModel", "frontMany", "I", false)
  | 32 => ("HalfAJokeModel", "endMany", "I", false)
  | 33 => ("HalfAJokeModel", "seats", "[I", true)
  | 34 => ("HalfAJokeModel", "bestRow", "[I", true)
  | 35 => ("HalfAJokeModel", "bestMerry", "I", false)
  | 36 => ("HalfAJokeModel", "worths", "[I", true)
  | _ => ("HalfAJokeModel", "hadQuarters", "[I", true)
def tyX12 : Nat → FieldType := fun k => match k with
  | 0 => .array .int
  | 1 => .array .int
  | 2 => .array .int
  | 3 => .array .int
  | 4 => .int
  | 5 => .boolean
  | 6 => .array .int
  | 7 => .array .int
  | 8 => .array .int
  | 9 => .array .int
  | 10 => .array .int
  | 11 => .int
  | 12 => .int
  | 13 => .int
  | 14 => .int
  | 15 => .int
  | 16 => .int
  | 17 => .int
  | 18 => .int
  | 19 => .int
  | 20 => .int
  | 21 => .int
  | 22 => .int
  | 23 => .int
  | 24 => .int
  | 25 => .int
  | 26 => .int
  | 27 => .array .int
  | 28 => .array .int
  | 29 => .array .int
  | 30 => .array .int
  | 31 => .int
  | 32 => .int
  | 33 => .array .int
  | 34 => .array .int
  | 35 => .int
  | 36 => .array .int
  | _ => .array .int
abbrev wsX120 : List Cond := u_ws RX12 TX12 38
theorem nmX12 : ∀ a, a < 38 → ∀ b, b < 38 → a ≠ b → (TX12 a).2.1 ≠ (TX12 b).2.1 := by decide +kernel
theorem tyX12_ok : ∀ k, k < 38 → parseFieldDescriptor (TX12 k).2.2.1 = some (tyX12 k) := by decide +kernel
abbrev cX12_init : ByteArray := prog_14_method_1_code
def yX12_init : MethodName := ⟨RX12, "<init>", "()V"⟩
abbrev cX12_isIn : ByteArray := prog_14_method_2_code
def yX12_isIn : MethodName := ⟨RX12, "isIn", "(III)Z"⟩
abbrev cX12_least : ByteArray := prog_14_method_3_code
def yX12_least : MethodName := ⟨RX12, "least", "(II)I"⟩
abbrev cX12_most : ByteArray := prog_14_method_4_code
def yX12_most : MethodName := ⟨RX12, "most", "(II)I"⟩
abbrev cX12_isFamily : ByteArray := prog_14_method_5_code
def yX12_isFamily : MethodName := ⟨RX12, "isFamily", "(I)Z"⟩
abbrev cX12_isHalf : ByteArray := prog_14_method_6_code
def yX12_isHalf : MethodName := ⟨RX12, "isHalf", "(I)Z"⟩
abbrev cX12_isGuest : ByteArray := prog_14_method_7_code
def yX12_isGuest : MethodName := ⟨RX12, "isGuest", "(I)Z"⟩
abbrev cX12_ofHalf : ByteArray := prog_14_method_8_code
def yX12_ofHalf : MethodName := ⟨RX12, "ofHalf", "(II)I"⟩
abbrev cX12_quarters : ByteArray := prog_14_method_9_code
def yX12_quarters : MethodName := ⟨RX12, "quarters", "(II)I"⟩
abbrev cX12_adds : ByteArray := prog_14_method_10_code
def yX12_adds : MethodName := ⟨RX12, "adds", "(III)V"⟩
abbrev cX12_ofGuest : ByteArray := prog_14_method_11_code
def yX12_ofGuest : MethodName := ⟨RX12, "ofGuest", "(II)I"⟩
abbrev cX12_sits : ByteArray := prog_14_method_12_code
def yX12_sits : MethodName := ⟨RX12, "sits", "(II)V"⟩
abbrev cX12_forgets : ByteArray := prog_14_method_13_code
def yX12_forgets : MethodName := ⟨RX12, "forgets", "()V"⟩
abbrev cX12_state : ByteArray := prog_14_method_14_code
def yX12_state : MethodName := ⟨RX12, "state", "(I)I"⟩
abbrev cX12_draw : ByteArray := prog_14_method_15_code
def yX12_draw : MethodName := ⟨RX12, "draw", "(I)I"⟩
abbrev cX12_half : ByteArray := prog_14_method_16_code
def yX12_half : MethodName := ⟨RX12, "half", "(IIII)I"⟩
abbrev cX12_give : ByteArray := prog_14_method_17_code
def yX12_give : MethodName := ⟨RX12, "give", "(IIII)Z"⟩
abbrev cX12_nextOf : ByteArray := prog_14_method_18_code
def yX12_nextOf : MethodName := ⟨RX12, "nextOf", "(II)I"⟩
abbrev cX12_heirs : ByteArray := prog_14_method_19_code
def yX12_heirs : MethodName := ⟨RX12, "heirs", "(II)I"⟩
abbrev cX12_feuds : ByteArray := prog_14_method_20_code
def yX12_feuds : MethodName := ⟨RX12, "feuds", "(IIZ)V"⟩
abbrev cX12_feud : ByteArray := prog_14_method_21_code
def yX12_feud : MethodName := ⟨RX12, "feud", "(IIZ)Z"⟩
abbrev cX12_guest : ByteArray := prog_14_method_22_code
def yX12_guest : MethodName := ⟨RX12, "guest", "(I)I"⟩
abbrev cX12_guestAt : ByteArray := prog_14_method_23_code
def yX12_guestAt : MethodName := ⟨RX12, "guestAt", "(I)I"⟩
abbrev cX12_seat : ByteArray := prog_14_method_24_code
def yX12_seat : MethodName := ⟨RX12, "seat", "(II)Z"⟩
abbrev cX12_set : ByteArray := prog_14_method_25_code
def yX12_set : MethodName := ⟨RX12, "set", "(II)Z"⟩
abbrev cX12_feed : ByteArray := prog_14_method_26_code
def yX12_feed : MethodName := ⟨RX12, "feed", "(IIIII)I"⟩
abbrev cX12_end : ByteArray := prog_14_method_27_code
def yX12_end : MethodName := ⟨RX12, "end", "(I)Z"⟩
abbrev cX12_see : ByteArray := prog_14_method_28_code
def yX12_see : MethodName := ⟨RX12, "see", "(I)I"⟩
abbrev cX12_isLetter : ByteArray := prog_14_method_29_code
def yX12_isLetter : MethodName := ⟨RX12, "isLetter", "(I)Z"⟩
abbrev cX12_isDigit : ByteArray := prog_14_method_30_code
def yX12_isDigit : MethodName := ⟨RX12, "isDigit", "(I)Z"⟩
abbrev cX12_is : ByteArray := prog_14_method_31_code
def yX12_is : MethodName := ⟨RX12, "is", "(Ljava/lang/String;)Z"⟩
abbrev cX12_nameWord : ByteArray := prog_14_method_32_code
def yX12_nameWord : MethodName := ⟨RX12, "nameWord", "()I"⟩
abbrev cX12_word : ByteArray := prog_14_method_33_code
def yX12_word : MethodName := ⟨RX12, "word", "()I"⟩
abbrev cX12_next0 : ByteArray := prog_14_method_34_code
def yX12_next0 : MethodName := ⟨RX12, "next0", "()V"⟩
abbrev cX12_bad : ByteArray := prog_14_method_35_code
def yX12_bad : MethodName := ⟨RX12, "bad", "(I)Z"⟩
abbrev cX12_need : ByteArray := prog_14_method_36_code
def yX12_need : MethodName := ⟨RX12, "need", "(I)Z"⟩
abbrev cX12_lay : ByteArray := prog_14_method_37_code
def yX12_lay : MethodName := ⟨RX12, "lay", "(II)V"⟩
abbrev cX12_opens : ByteArray := prog_14_method_38_code
def yX12_opens : MethodName := ⟨RX12, "opens", "()Z"⟩
abbrev cX12_sumUp : ByteArray := prog_14_method_39_code
def yX12_sumUp : MethodName := ⟨RX12, "sumUp", "()Z"⟩
abbrev cX12_product : ByteArray := prog_14_method_40_code
def yX12_product : MethodName := ⟨RX12, "product", "()Z"⟩
abbrev cX12_unit : ByteArray := prog_14_method_41_code
def yX12_unit : MethodName := ⟨RX12, "unit", "()Z"⟩
abbrev cX12_any : ByteArray := prog_14_method_42_code
def yX12_any : MethodName := ⟨RX12, "any", "()Z"⟩
abbrev cX12_every : ByteArray := prog_14_method_43_code
def yX12_every : MethodName := ⟨RX12, "every", "()Z"⟩
abbrev cX12_oneTest : ByteArray := prog_14_method_44_code
def yX12_oneTest : MethodName := ⟨RX12, "oneTest", "()Z"⟩
abbrev cX12_aLine : ByteArray := prog_14_method_45_code
def yX12_aLine : MethodName := ⟨RX12, "aLine", "()Z"⟩
abbrev cX12_text : ByteArray := prog_14_method_46_code
def yX12_text : MethodName := ⟨RX12, "text", "()I"⟩
abbrev cX12_fault : ByteArray := prog_14_method_47_code
def yX12_fault : MethodName := ⟨RX12, "fault", "(I)I"⟩
abbrev cX12_both : ByteArray := prog_14_method_48_code
def yX12_both : MethodName := ⟨RX12, "both", "(III)I"⟩
abbrev cX12_comesTo : ByteArray := prog_14_method_49_code
def yX12_comesTo : MethodName := ⟨RX12, "comesTo", "(II)I"⟩
abbrev cX12_laughOf : ByteArray := prog_14_method_50_code
def yX12_laughOf : MethodName := ⟨RX12, "laughOf", "(II)I"⟩
abbrev cX12_isFront : ByteArray := prog_14_method_51_code
def yX12_isFront : MethodName := ⟨RX12, "isFront", "(I)Z"⟩
abbrev cX12_isEnd : ByteArray := prog_14_method_52_code
def yX12_isEnd : MethodName := ⟨RX12, "isEnd", "(I)Z"⟩
abbrev cX12_canTell : ByteArray := prog_14_method_53_code
def yX12_canTell : MethodName := ⟨RX12, "canTell", "(II)Z"⟩
abbrev cX12_canBoth : ByteArray := prog_14_method_54_code
def yX12_canBoth : MethodName := ⟨RX12, "canBoth", "(IIII)Z"⟩
abbrev cX12_laysTelling : ByteArray := prog_14_method_55_code
def yX12_laysTelling : MethodName := ⟨RX12, "laysTelling", "(I)Z"⟩
abbrev cX12_isTold : ByteArray := prog_14_method_56_code
def yX12_isTold : MethodName := ⟨RX12, "isTold", "()V"⟩
abbrev cX12_merryNow : ByteArray := prog_14_method_57_code
def yX12_merryNow : MethodName := ⟨RX12, "merryNow", "()I"⟩
abbrev cX12_keeps : ByteArray := prog_14_method_58_code
def yX12_keeps : MethodName := ⟨RX12, "keeps", "()V"⟩
abbrev cX12_undo : ByteArray := prog_14_method_59_code
def yX12_undo : MethodName := ⟨RX12, "undo", "()Z"⟩
abbrev cX12_writes : ByteArray := prog_14_method_60_code
def yX12_writes : MethodName := ⟨RX12, "writes", "(II)V"⟩
abbrev cX12_anEvening : ByteArray := prog_14_method_61_code
def yX12_anEvening : MethodName := ⟨RX12, "anEvening", "()I"⟩
abbrev cX12_evenings : ByteArray := prog_14_method_62_code
def yX12_evenings : MethodName := ⟨RX12, "evenings", "(I)I"⟩
abbrev cX12_of : ByteArray := prog_14_method_63_code
def yX12_of : MethodName := ⟨RX12, "of", "(II)I"⟩
abbrev cX12_who : ByteArray := prog_14_method_64_code
def yX12_who : MethodName := ⟨RX12, "who", "(II)I"⟩
abbrev cX12_laugh : ByteArray := prog_14_method_65_code
def yX12_laugh : MethodName := ⟨RX12, "laugh", "(II)I"⟩
abbrev cX12_told : ByteArray := prog_14_method_66_code
def yX12_told : MethodName := ⟨RX12, "told", "(II)I"⟩
abbrev cX12_telling : ByteArray := prog_14_method_67_code
def yX12_telling : MethodName := ⟨RX12, "telling", "(II)I"⟩
abbrev cX12_book : ByteArray := prog_14_method_68_code
def yX12_book : MethodName := ⟨RX12, "book", "(II)I"⟩
abbrev cX12_fame : ByteArray := prog_14_method_69_code
def yX12_fame : MethodName := ⟨RX12, "fame", "(I)I"⟩
abbrev cX12_merry : ByteArray := prog_14_method_70_code
def yX12_merry : MethodName := ⟨RX12, "merry", "()I"⟩
abbrev cX12_sorts : ByteArray := prog_14_method_71_code
def yX12_sorts : MethodName := ⟨RX12, "sorts", "()V"⟩
abbrev cX12_fitted : ByteArray := prog_14_method_72_code
def yX12_fitted : MethodName := ⟨RX12, "fitted", "(II)I"⟩
abbrev cX12_laysFit : ByteArray := prog_14_method_73_code
def yX12_laysFit : MethodName := ⟨RX12, "laysFit", "()V"⟩
abbrev cX12_fit : ByteArray := prog_14_method_74_code
def yX12_fit : MethodName := ⟨RX12, "fit", "(I)I"⟩
abbrev cX12_seatsAll : ByteArray := prog_14_method_75_code
def yX12_seatsAll : MethodName := ⟨RX12, "seatsAll", "(II)V"⟩
abbrev cX12_laysSeats : ByteArray := prog_14_method_76_code
def yX12_laysSeats : MethodName := ⟨RX12, "laysSeats", "()V"⟩
abbrev cX12_backToSeats : ByteArray := prog_14_method_77_code
def yX12_backToSeats : MethodName := ⟨RX12, "backToSeats", "()V"⟩
abbrev cX12_seating : ByteArray := prog_14_method_78_code
def yX12_seating : MethodName := ⟨RX12, "seating", "(I)I"⟩
abbrev cX12_change : ByteArray := prog_14_method_79_code
def yX12_change : MethodName := ⟨RX12, "change", "(I)I"⟩
abbrev cX12_away : ByteArray := prog_14_method_80_code
def yX12_away : MethodName := ⟨RX12, "away", "(I)I"⟩
abbrev cX12_isElsewhere : ByteArray := prog_14_method_81_code
def yX12_isElsewhere : MethodName := ⟨RX12, "isElsewhere", "(II)Z"⟩
abbrev cX12_like : ByteArray := prog_14_method_82_code
def yX12_like : MethodName := ⟨RX12, "like", "(II)I"⟩
abbrev cX12_canLaugh : ByteArray := prog_14_method_83_code
def yX12_canLaugh : MethodName := ⟨RX12, "canLaugh", "(II)Z"⟩
abbrev cX12_silent : ByteArray := prog_14_method_84_code
def yX12_silent : MethodName := ⟨RX12, "silent", "(I)I"⟩
abbrev cX12_worthBehind : ByteArray := prog_14_method_85_code
def yX12_worthBehind : MethodName := ⟨RX12, "worthBehind", "(II)I"⟩
abbrev cX12_isAlike : ByteArray := prog_14_method_86_code
def yX12_isAlike : MethodName := ⟨RX12, "isAlike", "(II)Z"⟩
abbrev cX12_worth : ByteArray := prog_14_method_87_code
def yX12_worth : MethodName := ⟨RX12, "worth", "(II)I"⟩
abbrev cX12_laysQuarters : ByteArray := prog_14_method_88_code
def yX12_laysQuarters : MethodName := ⟨RX12, "laysQuarters", "()V"⟩
abbrev cX12_putsQuarters : ByteArray := prog_14_method_89_code
def yX12_putsQuarters : MethodName := ⟨RX12, "putsQuarters", "()V"⟩
abbrev cX12_uncle : ByteArray := prog_14_method_90_code
def yX12_uncle : MethodName := ⟨RX12, "uncle", "(II)I"⟩
abbrev cX12_image : ByteArray := prog_14_method_91_code
def yX12_image : MethodName := ⟨RX12, "image", "(Z)Z"⟩
abbrev cX12_look : ByteArray := prog_14_method_92_code
def yX12_look : MethodName := ⟨RX12, "look", "(I)I"⟩
def RJ11 : String := "java/lang/Character"
def TJ11 : u_T := fun k => match k with
  | _ => ("", "", "", false)
def tyJ11 : Nat → FieldType := fun k => match k with
  | _ => .int
abbrev wsJ110 : List Cond := u_ws RJ11 TJ11 0
theorem nmJ11 : ∀ a, a < 0 → ∀ b, b < 0 → a ≠ b → (TJ11 a).2.1 ≠ (TJ11 b).2.1 := by decide +kernel
theorem tyJ11_ok : ∀ k, k < 0 → parseFieldDescriptor (TJ11 k).2.2.1 = some (tyJ11 k) := by decide +kernel
abbrev cJ11_isValidCodePoint_9a6ad : ByteArray := prog_15_method_11_code
def yJ11_isValidCodePoint_9a6ad : MethodName := ⟨RJ11, "isValidCodePoint", "(I)Z"⟩
abbrev cJ11_highSurrogate_5068e : ByteArray := prog_15_method_28_code
def yJ11_highSurrogate_5068e : MethodName := ⟨RJ11, "highSurrogate", "(I)C"⟩
abbrev cJ11_lowSurrogate_5068e : ByteArray := prog_15_method_29_code
def yJ11_lowSurrogate_5068e : MethodName := ⟨RJ11, "lowSurrogate", "(I)C"⟩
def RJ9 : String := "java/lang/Math"
def TJ9 : u_T := fun k => match k with
  | _ => ("", "", "", false)
def tyJ9 : Nat → FieldType := fun k => match k with
  | _ => .int
abbrev wsJ90 : List Cond := u_ws RJ9 TJ9 0
theorem nmJ9 : ∀ a, a < 0 → ∀ b, b < 0 → a ≠ b → (TJ9 a).2.1 ≠ (TJ9 b).2.1 := by decide +kernel
theorem tyJ9_ok : ∀ k, k < 0 → parseFieldDescriptor (TJ9 k).2.2.1 = some (tyJ9 k) := by decide +kernel
abbrev cJ9_abs_0f7a4 : ByteArray := prog_16_method_59_code
def yJ9_abs_0f7a4 : MethodName := ⟨RJ9, "abs", "(I)I"⟩
abbrev cJ9_max_7cf53 : ByteArray := prog_16_method_65_code
def yJ9_max_7cf53 : MethodName := ⟨RJ9, "max", "(II)I"⟩
abbrev cJ9_min_7cf53 : ByteArray := prog_16_method_69_code
def yJ9_min_7cf53 : MethodName := ⟨RJ9, "min", "(II)I"⟩
def RJ0 : String := "java/lang/String"
def TJ0 : u_T := fun k => match k with
  | _ => ("", "", "", false)
def tyJ0 : Nat → FieldType := fun k => match k with
  | _ => .int
abbrev wsJ00 : List Cond := u_ws RJ0 TJ0 0
theorem nmJ0 : ∀ a, a < 0 → ∀ b, b < 0 → a ≠ b → (TJ0 a).2.1 ≠ (TJ0 b).2.1 := by decide +kernel
theorem tyJ0_ok : ∀ k, k < 0 → parseFieldDescriptor (TJ0 k).2.2.1 = some (tyJ0 k) := by decide +kernel
abbrev cJ0_length_8abf5 : ByteArray := prog_17_method_54_code
def yJ0_length_8abf5 : MethodName := ⟨RJ0, "length", "()I"⟩
abbrev cJ0_charAt_5068e : ByteArray := prog_17_method_56_code
def yJ0_charAt_5068e : MethodName := ⟨RJ0, "charAt", "(I)C"⟩
abbrev cJ0_indexOf_0f7a4 : ByteArray := prog_17_method_79_code
def yJ0_indexOf_0f7a4 : MethodName := ⟨RJ0, "indexOf", "(I)I"⟩
abbrev cJ0_indexOf_7cf53 : ByteArray := prog_17_method_80_code
def yJ0_indexOf_7cf53 : MethodName := ⟨RJ0, "indexOf", "(II)I"⟩
abbrev cJ0_coder_7d493 : ByteArray := prog_17_method_152_code
def yJ0_coder_7d493 : MethodName := ⟨RJ0, "coder", "()B"⟩
abbrev cJ0_isLatin1_aae02 : ByteArray := prog_17_method_154_code
def yJ0_isLatin1_aae02 : MethodName := ⟨RJ0, "isLatin1", "()Z"⟩
abbrev cJ0_checkIndex_df160 : ByteArray := prog_17_method_155_code
def yJ0_checkIndex_df160 : MethodName := ⟨RJ0, "checkIndex", "(II)V"⟩
abbrev cJ0_checkBoundsBeginEnd_23922 : ByteArray := prog_17_method_158_code
def yJ0_checkBoundsBeginEnd_23922 : MethodName := ⟨RJ0, "checkBoundsBeginEnd", "(III)V"⟩
def RJ1 : String := "java/lang/StringLatin1"
def TJ1 : u_T := fun k => match k with
  | _ => ("", "", "", false)
def tyJ1 : Nat → FieldType := fun k => match k with
  | _ => .int
abbrev wsJ10 : List Cond := u_ws RJ1 TJ1 0
theorem nmJ1 : ∀ a, a < 0 → ∀ b, b < 0 → a ≠ b → (TJ1 a).2.1 ≠ (TJ1 b).2.1 := by decide +kernel
theorem tyJ1_ok : ∀ k, k < 0 → parseFieldDescriptor (TJ1 k).2.2.1 = some (tyJ1 k) := by decide +kernel
abbrev cJ1_charAt_3b067 : ByteArray := prog_18_method_2_code
def yJ1_charAt_3b067 : MethodName := ⟨RJ1, "charAt", "([BI)C"⟩
abbrev cJ1_canEncode_9a6ad : ByteArray := prog_18_method_4_code
def yJ1_canEncode_9a6ad : MethodName := ⟨RJ1, "canEncode", "(I)Z"⟩
abbrev cJ1_indexOf_4cfef : ByteArray := prog_18_method_22_code
def yJ1_indexOf_4cfef : MethodName := ⟨RJ1, "indexOf", "([BIII)I"⟩
abbrev cJ1_indexOfChar_4cfef : ByteArray := prog_18_method_23_code
def yJ1_indexOfChar_4cfef : MethodName := ⟨RJ1, "indexOfChar", "([BIII)I"⟩
def RJ2 : String := "java/lang/StringUTF16"
def TJ2 : u_T := fun k => match k with
  | _ => ("", "", "", false)
def tyJ2 : Nat → FieldType := fun k => match k with
  | _ => .int
abbrev wsJ20 : List Cond := u_ws RJ2 TJ2 0
theorem nmJ2 : ∀ a, a < 0 → ∀ b, b < 0 → a ≠ b → (TJ2 a).2.1 ≠ (TJ2 b).2.1 := by decide +kernel
theorem tyJ2_ok : ∀ k, k < 0 → parseFieldDescriptor (TJ2 k).2.2.1 = some (tyJ2 k) := by decide +kernel
abbrev cJ2_getChar_3b067 : ByteArray := prog_19_method_5_code
def yJ2_getChar_3b067 : MethodName := ⟨RJ2, "getChar", "([BI)C"⟩
abbrev cJ2_length_9d52b : ByteArray := prog_19_method_6_code
def yJ2_length_9d52b : MethodName := ⟨RJ2, "length", "([B)I"⟩
abbrev cJ2_indexOf_4cfef : ByteArray := prog_19_method_40_code
def yJ2_indexOf_4cfef : MethodName := ⟨RJ2, "indexOf", "([BIII)I"⟩
abbrev cJ2_indexOfChar_4cfef : ByteArray := prog_19_method_47_code
def yJ2_indexOfChar_4cfef : MethodName := ⟨RJ2, "indexOfChar", "([BIII)I"⟩
abbrev cJ2_indexOfCharUnsafe_4cfef : ByteArray := prog_19_method_48_code
def yJ2_indexOfCharUnsafe_4cfef : MethodName := ⟨RJ2, "indexOfCharUnsafe", "([BIII)I"⟩
abbrev cJ2_indexOfSupplementary_4cfef : ByteArray := prog_19_method_49_code
def yJ2_indexOfSupplementary_4cfef : MethodName := ⟨RJ2, "indexOfSupplementary", "([BIII)I"⟩
abbrev cJ2_charAt_3b067 : ByteArray := prog_19_method_83_code
def yJ2_charAt_3b067 : MethodName := ⟨RJ2, "charAt", "([BI)C"⟩
abbrev cJ2_checkIndex_2214a : ByteArray := prog_19_method_91_code
def yJ2_checkIndex_2214a : MethodName := ⟨RJ2, "checkIndex", "(I[B)V"⟩
abbrev cJ2_checkBoundsBeginEnd_d044e : ByteArray := prog_19_method_93_code
def yJ2_checkBoundsBeginEnd_d044e : MethodName := ⟨RJ2, "checkBoundsBeginEnd", "(II[B)V"⟩
def RJ10 : String := "java/lang/System"
def TJ10 : u_T := fun k => match k with
  | _ => ("", "", "", false)
def tyJ10 : Nat → FieldType := fun k => match k with
  | _ => .int
abbrev wsJ100 : List Cond := u_ws RJ10 TJ10 0
theorem nmJ10 : ∀ a, a < 0 → ∀ b, b < 0 → a ≠ b → (TJ10 a).2.1 ≠ (TJ10 b).2.1 := by decide +kernel
theorem tyJ10_ok : ∀ k, k < 0 → parseFieldDescriptor (TJ10 k).2.2.1 = some (tyJ10 k) := by decide +kernel
def RJ3 : String := "jdk/internal/util/Preconditions"
def TJ3 : u_T := fun k => match k with
  | _ => ("", "", "", false)
def tyJ3 : Nat → FieldType := fun k => match k with
  | _ => .int
abbrev wsJ30 : List Cond := u_ws RJ3 TJ3 0
theorem nmJ3 : ∀ a, a < 0 → ∀ b, b < 0 → a ≠ b → (TJ3 a).2.1 ≠ (TJ3 b).2.1 := by decide +kernel
theorem tyJ3_ok : ∀ k, k < 0 → parseFieldDescriptor (TJ3 k).2.2.1 = some (tyJ3 k) := by decide +kernel
abbrev cJ3_checkIndex_8e157 : ByteArray := prog_21_method_11_code
def yJ3_checkIndex_8e157 : MethodName := ⟨RJ3, "checkIndex", "(IILjava/util/function/BiFunction;)I"⟩
abbrev cJ3_checkFromToIndex_8c36e : ByteArray := prog_21_method_12_code
def yJ3_checkFromToIndex_8c36e : MethodName := ⟨RJ3, "checkFromToIndex", "(IIILjava/util/function/BiFunction;)I"⟩
def RL : String := "HalfAJokeLaw"
abbrev cL_law : ByteArray := code
def yL_law : MethodName := ⟨RL, "law", "([I)Z"⟩
end
section
/-! THE PURE WORLD: a heap of ints by names; cells of the class and of the reference by a fixed shape. -/
abbrev zH : Type := Nat → Nat → Int32
abbrev zR : Type := Option (Int32 × zH)
/-- D, int[], char[], string cells, their byte rows, what may change, names, links, addresses -/
abbrev zG : Type := va_G × ClassId × ClassId × (Nat → Nat) × (Nat → Nat) × (Nat → Prop) × List Nat × (Nat → Nat → Bool) × (Nat → Nat)
def zD (G : zG) : va_G := G.1
def zaI (G : zG) : ClassId := G.2.1
def zaC (G : zG) : ClassId := G.2.2.1
def zaK (G : zG) : Nat → Nat := G.2.2.2.1
def zaV (G : zG) : Nat → Nat := G.2.2.2.2.1
def zA (G : zG) : Nat → Prop := G.2.2.2.2.2.1
def znm (G : zG) : List Nat := G.2.2.2.2.2.2.1
def zlk (G : zG) : Nat → Nat → Bool := G.2.2.2.2.2.2.2.1
def zal (G : zG) : Nat → Nat := G.2.2.2.2.2.2.2.2
def zup (h : zH) (c k : Nat) (x : Int32) : zH := fun d => if d = c then upd (h c) k x else h d
def zcp (h : zH) (a b : Nat) (sp dp n : Int32) : zH := fun d => if d = b then va_cpy (h a) (h b) sp.toNatClampNeg dp.toNatClampNeg n.toNatClampNeg else h d
def zck (i : Int32) (n : Nat) (k : zR) : zR := if i < 0 ∨ n ≤ i.toNatClampNeg then none else k
def znz (y : Int32) (k : zR) : zR := if y = 0 then none else k
def zbo (y : Int32) (k : zR) : zR := if y = 0 ∨ y = 1 then k else none
def zcc (n0 n1 : Nat) (sp dp n : Int32) (k : zR) : zR := if sp < 0 ∨ dp < 0 ∨ n < 0 ∨ n0 < sp.toNatClampNeg + n.toNatClampNeg ∨ n1 < dp.toNatClampNeg + n.toNatClampNeg then none else k
def zbd (x : zR) (k : Int32 → zH → zR) : zR := match x with
  | none => none
  | some (r, h) => k r h
theorem zck_some {i : Int32} {n : Nat} {k : zR} {q : Int32 × zH} (h : zck i n k = some q) : vp_in i n ∧ k = some q := by
  unfold zck at h
  split at h
  · cases h
  · rename_i h0; exact ⟨h0, h⟩
theorem znz_some {y : Int32} {k : zR} {q : Int32 × zH} (h : znz y k = some q) : ¬ y = 0 ∧ k = some q := by
  unfold znz at h
  split at h
  · cases h
  · rename_i h0; exact ⟨h0, h⟩
theorem zbo_some {y : Int32} {k : zR} {q : Int32 × zH} (h : zbo y k = some q) : narrow .boolean (.int y) = .int y ∧ k = some q := by
  unfold zbo at h
  split at h
  · rename_i h0
    refine ⟨?_, h⟩
    rcases h0 with rfl | rfl <;> rfl
  · cases h
theorem zcc_some {n0 n1 : Nat} {sp dp n : Int32} {k : zR} {q : Int32 × zH} (h : zcc n0 n1 sp dp n k = some q) : (¬ sp < 0 ∧ ¬ dp < 0 ∧ ¬ n < 0 ∧ sp.toNatClampNeg + n.toNatClampNeg ≤ n0 ∧ dp.toNatClampNeg + n.toNatClampNeg ≤ n1) ∧ k = some q := by
  unfold zcc at h
  split at h
  · cases h
  · rename_i h0
    simp only [not_or, Nat.not_lt] at h0
    exact ⟨h0, h⟩
theorem zbd_some {x : zR} {k : Int32 → zH → zR} {q : Int32 × zH} (h : zbd x k = some q) : ∃ r h1, x = some (r, h1) ∧ k r h1 = some q := by
  unfold zbd at h
  split at h
  · cases h
  · exact ⟨_, _, rfl, h⟩
theorem zif_t {P : Prop} [Decidable P] {a b : zR} {q : Int32 × zH} (hp : P) (h : (if P then a else b) = some q) : a = some q := (if_pos hp).symm.trans h
theorem zif_f {P : Prop} [Decidable P] {a b : zR} {q : Int32 × zH} (hp : ¬ P) (h : (if P then a else b) = some q) : b = some q := (if_neg hp).symm.trans h
/-- an int; a link set once; a link that may be null -/
def zv (lk : Nat → Nat → Bool) (al : Nat → Nat) (g : Nat → Int32) (c i : Nat) : Option (Nat × Bool) → Value
  | none => .int (g i)
  | some (d, false) => if lk c i = true then .ref (al d) else .null
  | some (d, true) => if g i = 0 then .null else .ref (al d)
def zfs (lk : Nat → Nat → Bool) (al : Nat → Nat) (g : Nat → Int32) (c : Nat) : Nat → List (Option (Nat × Bool)) → List Value
  | _, [] => []
  | i, f :: l => zv lk al g c i f :: zfs lk al g c (i + 1) l
theorem zfs_get {lk : Nat → Nat → Bool} {al : Nat → Nat} {g : Nat → Int32} {c : Nat} : ∀ (l : List (Option (Nat × Bool))) (i k : Nat), (zfs lk al g c i l)[k]? = (l[k]?).map (zv lk al g c (i + k)) := by
  intro l
  induction l with
  | nil => intro i k; simp [zfs]
  | cons f l ih =>
    intro i k
    cases k with
    | zero => simp [zfs]
    | succ k => simp only [zfs, List.getElem?_cons_succ, ih]; rw [show i + 1 + k = i + (k + 1) by omega]
abbrev zSh : Type := (Bool × Nat) ⊕ (Nat × List (Option (Nat × Bool)))
def zshL : List zSh := [.inr (11, [some (1, false), some (22, false), some (29, false), some (38, false), some (44, false), some (50, true), some (71, true), some (74, true), some (80, true)]),
  .inr (4, [some (2, false), some (7, false), some (11, false), some (16, false), some (20, false), some (21, false), none, none, none]),
  .inr (3, [some (3, false), some (4, false), some (5, false), some (6, false), none]),
  .inl (false, 16),
  .inl (false, 16),
  .inl (false, 16),
  .inl (false, 96),
  .inr (9, [some (8, false), some (9, false), some (10, false), none, none]),
  .inl (false, 8),
  .inl (false, 8),
  .inl (false, 8),
  .inr (0, [some (12, false), some (13, false), some (14, false), some (15, false), none, none]),
  .inl (false, 256),
  .inl (false, 256),
  .inl (false, 6),
  .inl (false, 600),
  .inr (5, [some (17, false), some (18, false), some (19, false), none, none]),
  .inl (false, 400),
  .inl (false, 400),
  .inl (false, 40),
  .inl (false, 6),
  .inl (false, 7),
  .inr (6, [some (23, false), some (24, false), some (25, false), some (26, false), some (27, false), some (28, false), none, none]),
  .inl (false, 6),
  .inl (false, 48),
  .inl (false, 48),
  .inl (false, 36),
  .inl (false, 6),
  .inl (false, 6),
  .inr (7, [some (30, false), some (31, false), some (32, false), some (33, false), some (34, false), none, none, none, none, none, none]),
  .inl (true, 400),
  .inl (false, 401),
  .inl (false, 401),
  .inl (false, 401),
  .inr (5, [some (35, false), some (36, false), some (37, false), none, none]),
  .inl (false, 400),
  .inl (false, 400),
  .inl (false, 40),
  .inr (1, [some (1, false), some (39, false), some (40, false), some (41, false), some (42, false), some (43, false), none, none, none, none, none, none, none, none]),
  .inl (false, 256),
  .inl (false, 256),
  .inl (false, 6),
  .inl (false, 8),
  .inl (false, 8),
  .inl (false, 8),
  .inl (false, 0),
  .inl (false, 0),
  .inl (false, 0),
  .inl (false, 0),
  .inl (false, 0),
  .inr (4, [some (51, false), some (56, false), some (60, false), some (65, false), some (69, false), some (70, false), none, none, none]),
  .inr (3, [some (52, false), some (53, false), some (54, false), some (55, false), none]),
  .inl (false, 16),
  .inl (false, 16),
  .inl (false, 16),
  .inl (false, 96),
  .inr (9, [some (57, false), some (58, false), some (59, false), none, none]),
  .inl (false, 8),
  .inl (false, 8),
  .inl (false, 8),
  .inr (0, [some (61, false), some (62, false), some (63, false), some (64, false), none, none]),
  .inl (false, 256),
  .inl (false, 256),
  .inl (false, 6),
  .inl (false, 600),
  .inr (5, [some (66, false), some (67, false), some (68, false), none, none]),
  .inl (false, 400),
  .inl (false, 400),
  .inl (false, 40),
  .inl (false, 6),
  .inl (false, 7),
  .inr (8, [some (38, false), some (72, false), some (73, false), none, none]),
  .inl (false, 7),
  .inl (false, 7),
  .inr (2, [some (75, false), some (76, false), some (77, false), some (78, false), some (79, false), none, none, none]),
  .inl (false, 2304),
  .inl (false, 64),
  .inl (false, 8),
  .inl (false, 8),
  .inl (false, 16),
  .inr (10, [some (81, false), some (82, false), none, none]),
  .inl (false, 656),
  .inl (false, 256),
  .inl (false, 0),
  .inl (false, 0),
  .inl (false, 0),
  .inl (false, 0),
  .inl (false, 0),
  .inl (false, 0),
  .inl (false, 0),
  .inl (false, 0),
  .inl (false, 0),
  .inl (false, 0),
  .inl (false, 0),
  .inl (false, 0),
  .inl (false, 0),
  .inl (false, 0),
  .inl (false, 0),
  .inl (false, 0),
  .inl (false, 0),
  .inr (12, [some (101, false), some (102, false), some (103, false), some (104, false), none, none, some (105, false), some (106, false), some (107, false), some (108, false), some (109, false), none, none, none, none, none, none, none, none, none, none, none, none, none, none, none, none, some (110, false), some (111, false), some (112, false), some (113, false), none, none, some (114, false), some (115, false), none, some (116, false), some (117, false)]),
  .inl (false, 2220),
  .inl (false, 2220),
  .inl (false, 3150),
  .inl (false, 512),
  .inl (false, 48),
  .inl (false, 820),
  .inl (false, 400),
  .inl (false, 420),
  .inl (false, 8),
  .inl (false, 16),
  .inl (false, 16),
  .inl (false, 2304),
  .inl (false, 16),
  .inl (false, 8),
  .inl (false, 8),
  .inl (false, 656),
  .inl (false, 96)]
def zsh (c : Nat) : zSh := zshL.getD c (.inl (false, 0))
theorem sh_0 : zsh 0 = .inr (11, [some (1, false), some (22, false), some (29, false), some (38, false), some (44, false), some (50, true), some (71, true), some (74, true), some (80, true)]) := rfl
theorem sh_1 : zsh 1 = .inr (4, [some (2, false), some (7, false), some (11, false), some (16, false), some (20, false), some (21, false), none, none, none]) := rfl
theorem sh_2 : zsh 2 = .inr (3, [some (3, false), some (4, false), some (5, false), some (6, false), none]) := rfl
theorem sh_3 : zsh 3 = .inl (false, 16) := rfl
theorem sh_4 : zsh 4 = .inl (false, 16) := rfl
theorem sh_5 : zsh 5 = .inl (false, 16) := rfl
theorem sh_6 : zsh 6 = .inl (false, 96) := rfl
theorem sh_7 : zsh 7 = .inr (9, [some (8, false), some (9, false), some (10, false), none, none]) := rfl
theorem sh_8 : zsh 8 = .inl (false, 8) := rfl
theorem sh_9 : zsh 9 = .inl (false, 8) := rfl
theorem sh_10 : zsh 10 = .inl (false, 8) := rfl
theorem sh_11 : zsh 11 = .inr (0, [some (12, false), some (13, false), some (14, false), some (15, false), none, none]) := rfl
theorem sh_12 : zsh 12 = .inl (false, 256) := rfl
theorem sh_13 : zsh 13 = .inl (false, 256) := rfl
theorem sh_14 : zsh 14 = .inl (false, 6) := rfl
theorem sh_15 : zsh 15 = .inl (false, 600) := rfl
theorem sh_16 : zsh 16 = .inr (5, [some (17, false), some (18, false), some (19, false), none, none]) := rfl
theorem sh_17 : zsh 17 = .inl (false, 400) := rfl
theorem sh_18 : zsh 18 = .inl (false, 400) := rfl
theorem sh_19 : zsh 19 = .inl (false, 40) := rfl
theorem sh_20 : zsh 20 = .inl (false, 6) := rfl
theorem sh_21 : zsh 21 = .inl (false, 7) := rfl
theorem sh_22 : zsh 22 = .inr (6, [some (23, false), some (24, false), some (25, false), some (26, false), some (27, false), some (28, false), none, none]) := rfl
theorem sh_23 : zsh 23 = .inl (false, 6) := rfl
theorem sh_24 : zsh 24 = .inl (false, 48) := rfl
theorem sh_25 : zsh 25 = .inl (false, 48) := rfl
theorem sh_26 : zsh 26 = .inl (false, 36) := rfl
theorem sh_27 : zsh 27 = .inl (false, 6) := rfl
theorem sh_28 : zsh 28 = .inl (false, 6) := rfl
theorem sh_29 : zsh 29 = .inr (7, [some (30, false), some (31, false), some (32, false), some (33, false), some (34, false), none, none, none, none, none, none]) := rfl
theorem sh_30 : zsh 30 = .inl (true, 400) := rfl
theorem sh_31 : zsh 31 = .inl (false, 401) := rfl
theorem sh_32 : zsh 32 = .inl (false, 401) := rfl
theorem sh_33 : zsh 33 = .inl (false, 401) := rfl
theorem sh_34 : zsh 34 = .inr (5, [some (35, false), some (36, false), some (37, false), none, none]) := rfl
theorem sh_35 : zsh 35 = .inl (false, 400) := rfl
theorem sh_36 : zsh 36 = .inl (false, 400) := rfl
theorem sh_37 : zsh 37 = .inl (false, 40) := rfl
theorem sh_38 : zsh 38 = .inr (1, [some (1, false), some (39, false), some (40, false), some (41, false), some (42, false), some (43, false), none, none, none, none, none, none, none, none]) := rfl
theorem sh_39 : zsh 39 = .inl (false, 256) := rfl
theorem sh_40 : zsh 40 = .inl (false, 256) := rfl
theorem sh_41 : zsh 41 = .inl (false, 6) := rfl
theorem sh_42 : zsh 42 = .inl (false, 8) := rfl
theorem sh_43 : zsh 43 = .inl (false, 8) := rfl
theorem sh_44 : zsh 44 = .inl (false, 8) := rfl
theorem sh_50 : zsh 50 = .inr (4, [some (51, false), some (56, false), some (60, false), some (65, false), some (69, false), some (70, false), none, none, none]) := rfl
theorem sh_51 : zsh 51 = .inr (3, [some (52, false), some (53, false), some (54, false), some (55, false), none]) := rfl
theorem sh_52 : zsh 52 = .inl (false, 16) := rfl
theorem sh_53 : zsh 53 = .inl (false, 16) := rfl
theorem sh_54 : zsh 54 = .inl (false, 16) := rfl
theorem sh_55 : zsh 55 = .inl (false, 96) := rfl
theorem sh_56 : zsh 56 = .inr (9, [some (57, false), some (58, false), some (59, false), none, none]) := rfl
theorem sh_57 : zsh 57 = .inl (false, 8) := rfl
theorem sh_58 : zsh 58 = .inl (false, 8) := rfl
theorem sh_59 : zsh 59 = .inl (false, 8) := rfl
theorem sh_60 : zsh 60 = .inr (0, [some (61, false), some (62, false), some (63, false), some (64, false), none, none]) := rfl
theorem sh_61 : zsh 61 = .inl (false, 256) := rfl
theorem sh_62 : zsh 62 = .inl (false, 256) := rfl
theorem sh_63 : zsh 63 = .inl (false, 6) := rfl
theorem sh_64 : zsh 64 = .inl (false, 600) := rfl
theorem sh_65 : zsh 65 = .inr (5, [some (66, false), some (67, false), some (68, false), none, none]) := rfl
theorem sh_66 : zsh 66 = .inl (false, 400) := rfl
theorem sh_67 : zsh 67 = .inl (false, 400) := rfl
theorem sh_68 : zsh 68 = .inl (false, 40) := rfl
theorem sh_69 : zsh 69 = .inl (false, 6) := rfl
theorem sh_70 : zsh 70 = .inl (false, 7) := rfl
theorem sh_71 : zsh 71 = .inr (8, [some (38, false), some (72, false), some (73, false), none, none]) := rfl
theorem sh_72 : zsh 72 = .inl (false, 7) := rfl
theorem sh_73 : zsh 73 = .inl (false, 7) := rfl
theorem sh_74 : zsh 74 = .inr (2, [some (75, false), some (76, false), some (77, false), some (78, false), some (79, false), none, none, none]) := rfl
theorem sh_75 : zsh 75 = .inl (false, 2304) := rfl
theorem sh_76 : zsh 76 = .inl (false, 64) := rfl
theorem sh_77 : zsh 77 = .inl (false, 8) := rfl
theorem sh_78 : zsh 78 = .inl (false, 8) := rfl
theorem sh_79 : zsh 79 = .inl (false, 16) := rfl
theorem sh_80 : zsh 80 = .inr (10, [some (81, false), some (82, false), none, none]) := rfl
theorem sh_81 : zsh 81 = .inl (false, 656) := rfl
theorem sh_82 : zsh 82 = .inl (false, 256) := rfl
theorem sh_100 : zsh 100 = .inr (12, [some (101, false), some (102, false), some (103, false), some (104, false), none, none, some (105, false), some (106, false), some (107, false), some (108, false), some (109, false), none, none, none, none, none, none, none, none, none, none, none, none, none, none, none, none, some (110, false), some (111, false), some (112, false), some (113, false), none, none, some (114, false), some (115, false), none, some (116, false), some (117, false)]) := rfl
theorem sh_101 : zsh 101 = .inl (false, 2220) := rfl
theorem sh_102 : zsh 102 = .inl (false, 2220) := rfl
theorem sh_103 : zsh 103 = .inl (false, 3150) := rfl
theorem sh_104 : zsh 104 = .inl (false, 512) := rfl
theorem sh_105 : zsh 105 = .inl (false, 48) := rfl
theorem sh_106 : zsh 106 = .inl (false, 820) := rfl
theorem sh_107 : zsh 107 = .inl (false, 400) := rfl
theorem sh_108 : zsh 108 = .inl (false, 420) := rfl
theorem sh_109 : zsh 109 = .inl (false, 8) := rfl
theorem sh_110 : zsh 110 = .inl (false, 16) := rfl
theorem sh_111 : zsh 111 = .inl (false, 16) := rfl
theorem sh_112 : zsh 112 = .inl (false, 2304) := rfl
theorem sh_113 : zsh 113 = .inl (false, 16) := rfl
theorem sh_114 : zsh 114 = .inl (false, 8) := rfl
theorem sh_115 : zsh 115 = .inl (false, 8) := rfl
theorem sh_116 : zsh 116 = .inl (false, 656) := rfl
theorem sh_117 : zsh 117 = .inl (false, 96) := rfl
abbrev zcl : List vw_C := [(RX0, TX0, 6), (RX1, TX1, 14), (RX2, TX2, 8), (RX3, TX3, 5), (RX4, TX4, 9), (RX5, TX5, 5), (RX6, TX6, 8), (RX7, TX7, 11), (RX8, TX8, 5), (RX9, TX9, 5), (RX10, TX10, 4), (RX11, TX11, 9), (RX12, TX12, 38)]
abbrev znest : List (String × Nat × MethodName × String) := [(RX11, 11, yX4_init, "HalfAJoke"), (RX4, 11, yX3_init, "HalfAJoke"), (RX4, 27, yX0_init, "HalfAJoke"), (RX4, 34, yX5_init, "HalfAJoke"), (RX11, 18, yX6_init, "HalfAJoke"), (RX11, 25, yX7_init, "HalfAJoke"), (RX7, 27, yX5_init, "HalfAJoke"), (RX3, 34, yX11_isBelow, "HalfAJoke"), (RX3, 46, yX11_isIn, "HalfAJoke"), (RX9, 38, yX11_isBelow, "HalfAJoke"), (RX1, 79, yX11_isIn, "HalfAJoke"), (RX1, 101, yX11_pairOf, "HalfAJoke"), (RX4, 77, yX11_pairOf, "HalfAJoke"), (RX11, 238, yX2_init, "HalfAJoke"), (RX2, 67, yX11_isIn, "HalfAJoke"), (RX8, 54, yX11_isIn, "HalfAJoke"), (RX11, 282, yX10_init, "HalfAJoke"), (RX10, 40, yX11_pairOf, "HalfAJoke")]
abbrev zstr : List (String × Nat × String × Nat) := [(RX7, 98, "laughwhen or   and  not  frontend  same told sincenightjoke ", 0), (RX7, 87, ";+-*/()<=>", 1), (RX12, 153, "when", 2), (RX12, 155, "or", 3), (RX12, 157, "and", 4), (RX12, 159, "not", 5), (RX12, 161, "laugh", 6), (RX12, 135, "front", 7), (RX12, 141, "end", 8), (RX12, 143, "same", 9), (RX12, 145, "told", 10), (RX12, 147, "since", 11), (RX12, 149, "night", 12), (RX12, 151, "joke", 13)]
abbrev znS : Nat := 14
abbrev zlen : List Nat := [60, 10, 4, 2, 3, 3, 5, 5, 3, 4, 4, 5, 5, 4]
abbrev zbyt : List (List Int32) := [[108, 97, 117, 103, 104, 119, 104, 101, 110, 32, 111, 114, 32, 32, 32, 97, 110, 100, 32, 32, 110, 111, 116, 32, 32, 102, 114, 111, 110, 116, 101, 110, 100, 32, 32, 115, 97, 109, 101, 32, 116, 111, 108, 100, 32, 115, 105, 110, 99, 101, 110, 105, 103, 104, 116, 106, 111, 107, 101, 32], [59, 43, 45, 42, 47, 40, 41, 60, 61, 62], [119, 104, 101, 110], [111, 114], [97, 110, 100], [110, 111, 116], [108, 97, 117, 103, 104], [102, 114, 111, 110, 116], [101, 110, 100], [115, 97, 109, 101], [116, 111, 108, 100], [115, 105, 110, 99, 101], [110, 105, 103, 104, 116], [106, 111, 107, 101]]
def zce (aI aC : ClassId) (lk : Nat → Nat → Bool) (al : Nat → Nat) (g : Nat → Int32) (c : Nat) : va_E := match zsh c with
  | .inl (b, n) => .inl (if b = true then aC else aI, n, .inl g)
  | .inr (ci, fl) => .inr (ci, zfs lk al g c 0 fl)
def zwd (G : zG) (h : zH) : va_W := (znm G).map fun c => (zal G c, zce (zaI G) (zaC G) (zlk G) (zal G) (h c) c)
def zS (G : zG) (h : zH) (H0 H : Heap) (locs : List Loc) : Prop := va_P (zD G) zcl (zwd G h) H ∧ va_D (zA G) (zwd G h) ∧ va_S (zA G) H0 H locs
def ztys (G : zG) : List (ClassId × FieldType) := [(zaI G, .int), (zaC G, .char)]
def zK (G : zG) (U : State) : Prop := va_K (zD G) zcl (ztys G) U ∧ (∀ q ∈ znest, va_Nw (.methodLinkNest q.1 q.2.1 q.2.2.1 q.2.2.2) U) ∧ ∀ q ∈ zstr, vk_R q.1 q.2.1 q.2.2.1 (zaK G q.2.2.2) U
def zE (G : zG) (U : State) (H : Heap) : Prop := vk_S znS zlen zbyt (zaK G) (zaV G) (zA G) U H
def zPre (G : zG) (h : zH) (U : State) : Prop := va_P (zD G) zcl (zwd G h) U.heap ∧ va_D (zA G) (zwd G h) ∧ (∀ q, U.heap.size ≤ q → zA G q) ∧ zK G U ∧ zE G U U.heap
def zPost (G : zG) (h : zH) (t : State) : Prop := va_P (zD G) zcl (zwd G h) t.heap ∧ va_D (zA G) (zwd G h)
def zrm (n : Nat) : Room := { frames := n, cells := 0, slots := 0, locals := 60 * n }
def zg : List Cond := lw_tbl.filter goodWord
theorem zg_of {w : Cond} (h : w ∈ lw_tbl) (hg : goodWord w = true) : w ∈ zg := List.mem_filter.mpr ⟨h, hg⟩
theorem zg_in {w : Cond} (h : w ∈ zg) : w ∈ lw_tbl ∧ goodWord w = true := List.mem_filter.mp h
abbrev zw (y : MethodName) (cc : ByteArray) (n : Nat) (ret : Option FieldType) : List Cond := Cond.code y cc n ret :: zg
theorem zgood {y : MethodName} {cc : ByteArray} {n : Nat} {ret : Option FieldType} (h : Cond.code y cc n ret ∈ zg) : GoodIn zg (zw y cc n ret) := fun w hw =>
  (List.mem_cons.mp hw).elim (fun e => e ▸ ⟨h, good_of_word (zg_in h).2⟩) (fun hw => ⟨hw, good_of_word (zg_in hw).2⟩)
def zQI (G : zG) (h : zH) (r : Int32) : Array Value → State → Outcome → State → Prop := va_Qi (fun r' (_ : Unit) => r' = r) (fun _ t => zPost G h t) (zA G)
def zQV (G : zG) (h : zH) : Array Value → State → Outcome → State → Prop := va_Qv (fun (_ : Unit) => True) (fun _ t => zPost G h t) (zA G)
def zCtI (l : Launch) (y : MethodName) (cc : ByteArray) (nL : Nat) (ret : Option FieldType) (n : Nat) (av : List Value) (G : zG) (h h' : zH) (r : Int32) : Prop := Met l y (zw y cc nL ret) (zrm n) (va_Pc av (zPre G h)) (zQI G h' r) 0 0 (zA G)
def zCtV (l : Launch) (y : MethodName) (cc : ByteArray) (nL : Nat) (ret : Option FieldType) (n : Nat) (av : List Value) (G : zG) (h h' : zH) : Prop := Met l y (zw y cc nL ret) (zrm n) (va_Pc av (zPre G h)) (zQV G h') 0 0 (zA G)
def zC (G : zG) (p : Program) (s : State) (m : MethodId) (args : Array Value) (meth : Method) (c : Code) (cc : ByteArray) (nL : Nat) (own : String) (ret : Option FieldType) : Prop :=
  p.tables.exec = Jvm.exec ∧ c.code = cc ∧ c.maxLocals = nL ∧ s.vm.findClass own = some m.cls ∧ (∀ w ∈ zg, w.before args s = true) ∧ zK G s ∧ zE G s s.heap ∧ (∀ q, s.heap.size ≤ q → zA G q) ∧ meth.sig.returnType = ret ∧ meth.locks = false
theorem zK.moved {G : zG} {u U : State} (hW : u.WarmedH U.vm) (h : zK G u) : zK G U :=
  ⟨va_K.moved hW.alike h.1, fun q hq => va_Nw.warmM hW (h.2.1 q hq), fun q hq => vk_R.warm hW (h.2.2 q hq)⟩
theorem zK.same {G : zG} {u U : State} (hv : U.vm = u.vm) (h : zK G u) : zK G U :=
  ⟨va_K.moved (by rw [hv]; exact Vm.Alike.refl u.vm) h.1, fun q hq => va_Nw.same rfl hv.symm (h.2.1 q hq), fun q hq => vk_R.same hv (h.2.2 q hq)⟩
theorem zPre.blind {G : zG} {h : zH} {av : List Value} : FrameBlind (va_Pc av (zPre G h)) := by
  intro a U g mk q
  obtain ⟨q0, q1, q2, q3, q4, q5⟩ := q
  exact ⟨q0, q1, q2, q3, zK.same (u := U) (U := U.calling g mk a) rfl q4, vk_S.moved (u := U) (U := U.calling g mk a) (Vm.Alike.refl U.vm) q5⟩
theorem zMetI {l : Launch} {y : MethodName} {cc : ByteArray} {nL : Nat} {ret : Option FieldType} {n : Nat} {av : List Value} {G : zG} {h h' : zH} {r : Int32} (hy : plainName y.cls = true) (hn : (lg_sl av).length ≤ nL)
    (body : ∀ (p : Program) (e : Env) (s : State) (m : MethodId) (below : List Frame) (meth : Method) (c : Code) (ls : Array Slot), zC G p s m av.toArray meth c cc nL y.cls ret → lv_has ls nL (lv_args 0 av) → zS G h s.heap s.heap [] → W p l e (zrm n) s m av.toArray below meth c s.heap [] 0 0 (MQ below (zQI G h' r) av.toArray s 0 0 (zA G)) (F0 m 0 ls [])) :
    zCtI l y cc nL ret n av G h h' r := by
  refine Met.ofW (cc := cc) (maxL := nL) (ret := ret) hy rfl ?_
  intro p e s m args below meth c s₁ B hml hv
  obtain ⟨rfl, hP, hD, hA, hK, hE⟩ := hv
  have hts := atoms_spec (ws := zw y cc nL ret) B.pre
  have hl := lv_entry av hn
  rw [lg_entry_eq]
  exact body p e s m below meth c _ ⟨B.exec, B.bytes, hml, findClass_of_methodNamed B.named, fun w hw => hts w (List.mem_cons_of_mem _ hw), hK, hE, hA, B.returns, B.notSynchronized⟩ hl ⟨hP, hD, va_S.rf⟩
theorem zMetV {l : Launch} {y : MethodName} {cc : ByteArray} {nL : Nat} {ret : Option FieldType} {n : Nat} {av : List Value} {G : zG} {h h' : zH} (hy : plainName y.cls = true) (hn : (lg_sl av).length ≤ nL)
    (body : ∀ (p : Program) (e : Env) (s : State) (m : MethodId) (below : List Frame) (meth : Method) (c : Code) (ls : Array Slot), zC G p s m av.toArray meth c cc nL y.cls ret → lv_has ls nL (lv_args 0 av) → zS G h s.heap s.heap [] → W p l e (zrm n) s m av.toArray below meth c s.heap [] 0 0 (MQ below (zQV G h') av.toArray s 0 0 (zA G)) (F0 m 0 ls [])) :
    zCtV l y cc nL ret n av G h h' := by
  refine Met.ofW (cc := cc) (maxL := nL) (ret := ret) hy rfl ?_
  intro p e s m args below meth c s₁ B hml hv
  obtain ⟨rfl, hP, hD, hA, hK, hE⟩ := hv
  have hts := atoms_spec (ws := zw y cc nL ret) B.pre
  have hl := lv_entry av hn
  rw [lg_entry_eq]
  exact body p e s m below meth c _ ⟨B.exec, B.bytes, hml, findClass_of_methodNamed B.named, fun w hw => hts w (List.mem_cons_of_mem _ hw), hK, hE, hA, B.returns, B.notSynchronized⟩ hl ⟨hP, hD, va_S.rf⟩
theorem zwd_get {G : zG} {h : zH} {c i : Nat} (hi : (znm G)[i]? = some c) : (zwd G h)[i]? = some (zal G c, zce (zaI G) (zaC G) (zlk G) (zal G) (h c) c) := by
  simp [zwd, List.getElem?_map, hi]
theorem zwd_arr {G : zG} {h : zH} {c i n : Nat} {b : Bool} (hi : (znm G)[i]? = some c) (hs : zsh c = .inl (b, n)) : (zwd G h)[i]? = some (zal G c, .inl (if b = true then zaC G else zaI G, n, .inl (h c))) := by
  rw [zwd_get hi, zce, hs]
theorem zwd_obj {G : zG} {h : zH} {c i ci : Nat} {fl : List (Option (Nat × Bool))} (hi : (znm G)[i]? = some c) (hs : zsh c = .inr (ci, fl)) : (zwd G h)[i]? = some (zal G c, .inr (ci, zfs (zlk G) (zal G) (h c) c 0 fl)) := by
  rw [zwd_get hi, zce, hs]
theorem zwd_set {G : zG} {h h1 : zH} {c i : Nat} {A : Nat → Prop} {e : va_E} (hD : va_D A (zwd G h)) (hi : (znm G)[i]? = some c) (ho : ∀ d, d ≠ c → h1 d = h d) (he : zce (zaI G) (zaC G) (zlk G) (zal G) (h1 c) c = e) : (zwd G h).set i (zal G c, e) = zwd G h1 := by
  apply List.ext_getElem?
  intro j
  by_cases hij : i = j
  · subst hij
    have hl : i < (zwd G h).length := by
      have := (List.getElem?_eq_some_iff.mp (zwd_get (h := h) hi)).1
      exact this
    rw [List.getElem?_set_self hl, zwd_get hi, he]
  · rw [List.getElem?_set_ne hij]
    cases hj : (znm G)[j]? with
    | none => simp [zwd, List.getElem?_map, hj]
    | some d =>
      have hd : d ≠ c := by
        intro e1
        subst e1
        exact hij (hD.1 i j _ _ (zwd_get hi) (zwd_get hj) rfl)
      rw [zwd_get hj, zwd_get hj, ho d hd]
theorem zup_ne {h : zH} {c k : Nat} {x : Int32} : ∀ d, d ≠ c → zup h c k x d = h d := fun d hd => by simp [zup, hd]
theorem zup_eq {h : zH} {c k : Nat} {x : Int32} : zup h c k x c = upd (h c) k x := by simp [zup]
theorem zfs_set {lk : Nat → Nat → Bool} {al : Nat → Nat} {g : Nat → Int32} {c k : Nat} {x : Int32} {fl : List (Option (Nat × Bool))} (hk : fl[k]? = some none) : zfs lk al (upd g k x) c 0 fl = (zfs lk al g c 0 fl).set k (.int x) := by
  apply List.ext_getElem?
  intro j
  by_cases hkj : k = j
  · subst hkj
    have hl : k < (zfs lk al g c 0 fl).length := by
      have h1 : (zfs lk al g c 0 fl)[k]? = some (zv lk al g c (0 + k) none) := by rw [zfs_get, hk]; rfl
      exact (List.getElem?_eq_some_iff.mp h1).1
    rw [List.getElem?_set_self hl, zfs_get, hk]
    simp [zv, upd]
  · rw [List.getElem?_set_ne hkj, zfs_get, zfs_get]
    cases hj : fl[j]? with
    | none => rfl
    | some f =>
      have e : upd g k x (0 + j) = g (0 + j) := by simp [upd]; intro h; omega
      rcases f with _ | ⟨d, _ | _⟩ <;> simp only [Option.map_some, zv, e]
/-- a field's link, and what the cell holds there -/
def zFc (own : String) (idx c k : Nat) (f : Option (Nat × Bool)) : Prop := ∃ (ci : Nat) (fl : List (Option (Nat × Bool))) (q : vw_C) (ty : Nat → FieldType), zsh c = .inr (ci, fl) ∧ zcl[ci]? = some q ∧ k < q.2.2 ∧ (∀ w ∈ u_ws q.1 q.2.1 q.2.2, w ∈ zg) ∧ Cond.fieldLink own idx (q.2.1 k).1 (q.2.1 k).2.1 (q.2.1 k).2.2.1 ∈ zg ∧ fl[k]? = some f ∧ (∀ j, j < q.2.2 → parseFieldDescriptor (q.2.1 j).2.2.1 = some (ty j)) ∧ (∀ a, a < q.2.2 → ∀ b, b < q.2.2 → a ≠ b → (q.2.1 a).2.1 ≠ (q.2.1 b).2.1)
section ZR
variable {p : Program} {l : Launch} {e : Env} {R : Room} {s : State} {m : MethodId} {args : Array Value} {below : List Frame} {meth : Method} {c : Code} {H : Heap} {locs : List Loc} {cells slots : Nat} {Q : State → Prop} {cc : ByteArray} {nL : Nat} {own : String} {ret : Option FieldType} {G : zG} {h : zH} {pc : Nat} {ls : Array Slot} {rest : List Value}
theorem zgetG {idx c0 k : Nat} {f : Option (Nat × Bool)} (C : zC G p s m args meth c cc nL own ret) (hS : zS G h s.heap H locs) (F : zFc own idx c0 k f) (hc : c0 ∈ znm G) (hdg : decode cc pc = .ok (.getfield idx, 3))
    (kk : W p l e R s m args below meth c H locs cells slots Q (F0 m (pc + 3) ls (zv (zlk G) (zal G) (h c0) c0 k f :: rest))) : W p l e R s m args below meth c H locs cells slots Q (F0 m pc ls (.ref (zal G c0) :: rest)) := by
  obtain ⟨ci, fl, ⟨Cn, T, N⟩, ty, hsh, hcl, hk, hin, hlink, hf, hty, hnm⟩ := F
  obtain ⟨q0, hq0⟩ := List.getElem?_of_mem hc
  refine va_get (D := zD G) (ci := ci) (C := Cn) (T := T) (N := N) C.1 C.2.1 C.2.2.2.2.1 hin C.2.2.2.1 C.2.2.2.2.2.1.1 hS.1 q0 (zwd_obj hq0 hsh) hcl k hk (C.2.2.2.2.1 _ hlink) (fun _ h9 => h9) (v := zv (zlk G) (zal G) (h c0) c0 k f) ?_ hdg kk
  rw [zfs_get, hf]
  simp
theorem zgetI {idx c0 k : Nat} (C : zC G p s m args meth c cc nL own ret) (hS : zS G h s.heap H locs) (F : zFc own idx c0 k none) (hc : c0 ∈ znm G) (hdg : decode cc pc = .ok (.getfield idx, 3))
    (kk : W p l e R s m args below meth c H locs cells slots Q (F0 m (pc + 3) ls (.int (h c0 k) :: rest))) : W p l e R s m args below meth c H locs cells slots Q (F0 m pc ls (.ref (zal G c0) :: rest)) := zgetG C hS F hc hdg kk
theorem zgetR {idx c0 k d : Nat} (C : zC G p s m args meth c cc nL own ret) (hS : zS G h s.heap H locs) (F : zFc own idx c0 k (some (d, false))) (hc : c0 ∈ znm G) (hlk : zlk G c0 k = true) (hdg : decode cc pc = .ok (.getfield idx, 3))
    (kk : W p l e R s m args below meth c H locs cells slots Q (F0 m (pc + 3) ls (.ref (zal G d) :: rest))) : W p l e R s m args below meth c H locs cells slots Q (F0 m pc ls (.ref (zal G c0) :: rest)) := by
  refine zgetG C hS F hc hdg ?_
  rw [zv, if_pos hlk]
  exact kk
theorem zgetN {idx c0 k d : Nat} (C : zC G p s m args meth c cc nL own ret) (hS : zS G h s.heap H locs) (F : zFc own idx c0 k (some (d, true))) (hc : c0 ∈ znm G) (hdg : decode cc pc = .ok (.getfield idx, 3))
    (k0 : h c0 k = 0 → W p l e R s m args below meth c H locs cells slots Q (F0 m (pc + 3) ls (.null :: rest))) (k1 : ¬ h c0 k = 0 → W p l e R s m args below meth c H locs cells slots Q (F0 m (pc + 3) ls (.ref (zal G d) :: rest))) : W p l e R s m args below meth c H locs cells slots Q (F0 m pc ls (.ref (zal G c0) :: rest)) := by
  refine zgetG C hS F hc hdg ?_
  by_cases h0 : h c0 k = 0
  · rw [zv, if_pos h0]; exact k0 h0
  · rw [zv, if_neg h0]; exact k1 h0
theorem zputI {idx c0 k : Nat} {x : Int32} (C : zC G p s m args meth c cc nL own ret) (hS : zS G h s.heap H locs) (F : zFc own idx c0 k none) (hfin : ∀ q : vw_C, ∀ ci fl, zsh c0 = .inr (ci, fl) → zcl[ci]? = some q → (q.2.1 k).2.2.2 = false ∧ (q.2.1 k).2.2.1 = "I") (hc : c0 ∈ znm G) (hdg : decode cc pc = .ok (.putfield idx, 3))
    (kk : ∀ (H1 : Heap) (locs1 : List Loc), zS G (zup h c0 k x) s.heap H1 locs1 → W p l e R s m args below meth c H1 locs1 cells slots Q (F0 m (pc + 3) ls rest)) : W p l e R s m args below meth c H locs cells slots Q (F0 m pc ls (.int x :: .ref (zal G c0) :: rest)) := by
  obtain ⟨ci, fl, ⟨Cn, T, N⟩, ty, hsh, hcl, hk, hin, hlink, hf, hty, hnm⟩ := F
  obtain ⟨hfin, hI⟩ := hfin _ _ _ hsh hcl
  obtain ⟨q0, hq0⟩ := List.getElem?_of_mem hc
  have hg : (zfs (zlk G) (zal G) (h c0) c0 0 fl)[k]? = some (.int (h c0 k)) := by rw [zfs_get, hf]; simp [zv]
  refine va_put (D := zD G) (ci := ci) (C := Cn) (T := T) (N := N) (v := .int x) (ty := .int) C.1 C.2.1 C.2.2.2.2.1 hin ty hty hnm C.2.2.2.1 C.2.2.2.2.2.1.1 hS.1 hS.2.1 hS.2.2 q0 (zwd_obj hq0 hsh) hcl k hk (C.2.2.2.2.1 _ hlink) (fun _ h9 => h9) hfin (by rw [show (T k).2.2.1 = "I" from hI]; decide +kernel) rfl rfl (List.getElem?_eq_some_iff.mp hg).1 hdg (fun H1 locs1 hP hD hS1 => ?_)
  have e1 : (zwd G h).set q0 (zal G c0, .inr (ci, (zfs (zlk G) (zal G) (h c0) c0 0 fl).set k (.int x))) = zwd G (zup h c0 k x) := zwd_set hS.2.1 hq0 zup_ne (by rw [zup_eq, zce, hsh]; simp only; rw [zfs_set hf])
  rw [e1] at hP hD
  exact kk H1 locs1 ⟨hP, hD, hS1⟩
theorem zald {c0 n : Nat} {i : Int32} (C : zC G p s m args meth c cc nL own ret) (hS : zS G h s.heap H locs) (hsh : zsh c0 = .inl (false, n)) (hc : c0 ∈ znm G) (hin : vp_in i n) (hdg : decode cc pc = .ok (.iaload, 1))
    (kk : W p l e R s m args below meth c H locs cells slots Q (F0 m (pc + 1) ls (.int (h c0 i.toNatClampNeg) :: rest))) : W p l e R s m args below meth c H locs cells slots Q (F0 m pc ls (.int i :: .ref (zal G c0) :: rest)) := by
  obtain ⟨q0, hq0⟩ := List.getElem?_of_mem hc
  exact va_iald C.1 C.2.1 C.2.2.2.2.2.1.1 hS.1 q0 0 (zwd_arr hq0 hsh) rfl hin hdg kk
theorem zaldC {c0 n : Nat} {i : Int32} (C : zC G p s m args meth c cc nL own ret) (hS : zS G h s.heap H locs) (hsh : zsh c0 = .inl (true, n)) (hc : c0 ∈ znm G) (hin : vp_in i n) (hdg : decode cc pc = .ok (.caload, 1))
    (kk : W p l e R s m args below meth c H locs cells slots Q (F0 m (pc + 1) ls (.int (h c0 i.toNatClampNeg) :: rest))) : W p l e R s m args below meth c H locs cells slots Q (F0 m pc ls (.int i :: .ref (zal G c0) :: rest)) := by
  obtain ⟨q0, hq0⟩ := List.getElem?_of_mem hc
  exact va_cald C.1 C.2.1 C.2.2.2.2.2.1.1 hS.1 q0 1 (zwd_arr hq0 hsh) rfl hin hdg kk
theorem zast {c0 n : Nat} {i x : Int32} (C : zC G p s m args meth c cc nL own ret) (hS : zS G h s.heap H locs) (hsh : zsh c0 = .inl (false, n)) (hc : c0 ∈ znm G) (hin : vp_in i n) (hdg : decode cc pc = .ok (.iastore, 1))
    (kk : ∀ (H1 : Heap) (locs1 : List Loc), zS G (zup h c0 i.toNatClampNeg x) s.heap H1 locs1 → W p l e R s m args below meth c H1 locs1 cells slots Q (F0 m (pc + 1) ls rest)) : W p l e R s m args below meth c H locs cells slots Q (F0 m pc ls (.int x :: .int i :: .ref (zal G c0) :: rest)) := by
  obtain ⟨q0, hq0⟩ := List.getElem?_of_mem hc
  refine va_iast C.1 C.2.1 C.2.2.2.2.2.1.1 hS.1 hS.2.1 hS.2.2 q0 0 (zwd_arr hq0 hsh) rfl hin hdg (fun H1 locs1 hP hD hS1 => ?_)
  have e1 : (zwd G h).set q0 (zal G c0, .inl (if false = true then zaC G else zaI G, n, .inl (upd (h c0) i.toNatClampNeg x))) = zwd G (zup h c0 i.toNatClampNeg x) := zwd_set hS.2.1 hq0 zup_ne (by rw [zup_eq, zce, hsh])
  rw [e1] at hP hD
  exact kk H1 locs1 ⟨hP, hD, hS1⟩
theorem zastC {c0 n : Nat} {i x : Int32} (C : zC G p s m args meth c cc nL own ret) (hS : zS G h s.heap H locs) (hsh : zsh c0 = .inl (true, n)) (hc : c0 ∈ znm G) (hin : vp_in i n) (hdg : decode cc pc = .ok (.castore, 1))
    (kk : ∀ (H1 : Heap) (locs1 : List Loc), zS G (zup h c0 i.toNatClampNeg (vp_nar .char x)) s.heap H1 locs1 → W p l e R s m args below meth c H1 locs1 cells slots Q (F0 m (pc + 1) ls rest)) : W p l e R s m args below meth c H locs cells slots Q (F0 m pc ls (.int x :: .int i :: .ref (zal G c0) :: rest)) := by
  obtain ⟨q0, hq0⟩ := List.getElem?_of_mem hc
  refine va_cast C.1 C.2.1 C.2.2.2.2.2.1.1 hS.1 hS.2.1 hS.2.2 q0 1 (zwd_arr hq0 hsh) rfl hin hdg (fun H1 locs1 hP hD hS1 => ?_)
  have e1 : (zwd G h).set q0 (zal G c0, .inl (if true = true then zaC G else zaI G, n, .inl (upd (h c0) i.toNatClampNeg (vp_nar .char x)))) = zwd G (zup h c0 i.toNatClampNeg (vp_nar .char x)) := zwd_set hS.2.1 hq0 zup_ne (by rw [zup_eq, zce, hsh])
  rw [e1] at hP hD
  exact kk H1 locs1 ⟨hP, hD, hS1⟩
/-- the ends -/
theorem zretI {v : Int32} {q : Int32 × zH} (C : zC G p s m args meth c cc nL own (some .int)) (hS : zS G h s.heap H locs) (hf : some (v, h) = some q) (hdg : decode cc pc = .ok (.ireturn, 1)) : W p l e R s m args below meth c H locs cells slots (MQ below (zQI G q.2 q.1) args s cells slots (zA G)) (F0 m pc ls [.int v]) := by
  cases hf
  exact W.iret (v := v) C.1 C.2.1 C.2.2.2.2.2.2.2.2.1 (fun t ht hW => ⟨⟨v, (), rfl, rfl, by rw [← ht] at hS; exact ⟨hS.1, hS.2.1⟩⟩, hS.2.2.F ht⟩) hS.2.2.2.2 hdg C.2.2.2.2.2.2.2.2.2
theorem zretZ {v : Int32} {q : Int32 × zH} (C : zC G p s m args meth c cc nL own (some .boolean)) (hS : zS G h s.heap H locs) (hn : narrow .boolean (.int v) = .int v) (hf : some (v, h) = some q) (hdg : decode cc pc = .ok (.ireturn, 1)) : W p l e R s m args below meth c H locs cells slots (MQ below (zQI G q.2 q.1) args s cells slots (zA G)) (F0 m pc ls [.int v]) := by
  cases hf
  exact W.zret (v := v) C.1 C.2.1 C.2.2.2.2.2.2.2.2.1 hn (fun t ht hW => ⟨⟨v, (), rfl, rfl, by rw [← ht] at hS; exact ⟨hS.1, hS.2.1⟩⟩, hS.2.2.F ht⟩) hS.2.2.2.2 hdg C.2.2.2.2.2.2.2.2.2
theorem zretV {v : Int32} {q : Int32 × zH} (C : zC G p s m args meth c cc nL own none) (hS : zS G h s.heap H locs) (hf : some (v, h) = some q) (hdg : decode cc pc = .ok (.return_, 1)) : W p l e R s m args below meth c H locs cells slots (MQ below (zQV G q.2) args s cells slots (zA G)) (F0 m pc ls []) := by
  cases hf
  exact W.vret C.1 C.2.1 C.2.2.2.2.2.2.2.2.1 (fun t ht hW => ⟨⟨(), rfl, trivial, by rw [← ht] at hS; exact ⟨hS.1, hS.2.1⟩⟩, hS.2.2.F ht⟩) hS.2.2.2.2 hdg C.2.2.2.2.2.2.2.2.2
/-- a call's words -/
def zMV (own : String) (idx : Nat) (y : MethodName) (bytes : ByteArray) (maxL : Nat) (ret : Option FieldType) (n : Nat) : Prop := (Cond.methodLink own idx y ∈ zg ∧ Cond.instanceMethod y ∈ zg ∧ Cond.selects y.cls y y ∈ zg ∧ Cond.initialized y.cls ∈ zg ∧ Cond.code y bytes maxL ret ∈ zg) ∧ (y.cls ≠ "java/lang/invoke/MethodHandle" ∧ y.cls ≠ "java/lang/invoke/VarHandle" ∧ (parseMethodDescriptor y.desc).map (fun d => d.parameters.length) = some n) ∧ maxL + 19 ≤ 60
def zMS (own : String) (idx : Nat) (y : MethodName) (bytes : ByteArray) (maxL : Nat) (ret : Option FieldType) (n : Nat) : Prop := (Cond.methodLink own idx y ∈ zg ∧ Cond.static y ∈ zg ∧ Cond.initialized y.cls ∈ zg ∧ Cond.code y bytes maxL ret ∈ zg) ∧ (y.cls ≠ "java/lang/invoke/MethodHandle" ∧ y.cls ≠ "java/lang/invoke/VarHandle" ∧ (parseMethodDescriptor y.desc).map (fun d => d.parameters.length) = some n) ∧ maxL + 19 ≤ 60
def zMN (own : String) (idx : Nat) (y : MethodName) (bytes : ByteArray) (maxL : Nat) (ret : Option FieldType) (n : Nat) : Prop := ((own, idx, y, "HalfAJoke") ∈ znest ∧ Cond.static y ∈ zg ∧ Cond.initialized y.cls ∈ zg ∧ Cond.code y bytes maxL ret ∈ zg) ∧ (y.cls ≠ "java/lang/invoke/MethodHandle" ∧ y.cls ≠ "java/lang/invoke/VarHandle" ∧ (parseMethodDescriptor y.desc).map (fun d => d.parameters.length) = some n) ∧ maxL + 19 ≤ 60
theorem zpre {av : List Value} {U : State} (C : zC G p s m args meth c cc nL own ret) (hS : zS G h s.heap H locs) (hU : U.heap = H) (hW : s.WarmedH U.vm) : va_Pc av (zPre G h) av.toArray U := by
  refine ⟨rfl, by rw [hU]; exact hS.1, hS.2.1, fun q hq => C.2.2.2.2.2.2.2.1 q (Nat.le_trans hS.2.2.1 (by rw [← hU]; exact hq)), C.2.2.2.2.2.1.moved hW, ?_⟩
  rw [hU]
  exact vk_S.moved hW.alike (vk_S.kept C.2.2.2.2.2.2.1 hS.2.2.2.1)
theorem zrecv {c0 ci : Nat} {fl : List (Option (Nat × Bool))} {q : vw_C} (C : zC G p s m args meth c cc nL own ret) (hS : zS G h s.heap H locs) (hc : c0 ∈ znm G) (hsh : zsh c0 = .inr (ci, fl)) (hcl : zcl[ci]? = some q) : ∃ cellB : Cell, H[zal G c0]? = some cellB ∧ cellB.vm.isStatics = false ∧ s.vm.findClass q.1 = some cellB.cls := by
  obtain ⟨q0, hq0⟩ := List.getElem?_of_mem hc
  exact va_recv C.2.2.2.2.2.1.1 hS.1 hcl (zwd_obj hq0 hsh)
theorem zcallVI {y : MethodName} {bytes : ByteArray} {idx maxL n n' c0 : Nat} {ret' : Option FieldType} {As st0 : List Value} {h1 : zH} {r1 : Int32} (C : zC G p s m args meth c cc nL own ret) (hS : zS G h s.heap H locs) (M : zMV own idx y bytes maxL ret' n) (hM : zCtI l y bytes maxL ret' n' (.ref (zal G c0) :: As) G h h1 r1) (hc : c0 ∈ znm G) (hcl : ∃ ci fl q, zsh c0 = .inr (ci, fl) ∧ zcl[ci]? = some q ∧ q.1 = y.cls) (hn : As.length = n) (hst : st0 = As.reverse ++ .ref (zal G c0) :: rest) (hr8 : (rest.map fun v => v.category).sum ≤ 8) (hl : ls.size = nL) (hR : n' + 1 ≤ R.frames ∧ 60 + 60 * n' ≤ R.locals ∧ cells ≤ R.cells ∧ slots ≤ R.slots) (hdg : decode cc pc = .ok (.invokevirtual idx, 3))
    (kk : ∀ (H1 : Heap) (locs1 : List Loc), zS G h1 s.heap H1 locs1 → W p l e R s m args below meth c H1 locs1 cells slots Q (F0 m (pc + 3) ls (.int r1 :: rest))) : W p l e R s m args below meth c H locs cells slots Q (F0 m pc ls st0) := by
  obtain ⟨⟨w1, w2, w3, w4, w5⟩, hd, h60⟩ := M
  obtain ⟨ci, fl, q, hsh, hcl, hq⟩ := hcl
  have hg := zgood w5
  have cw : CallW R s args own y.cls idx y bytes maxL ret' (zw y bytes maxL ret') (zrm n') 0 0 n := by
    refine cwV n C.2.2.2.2.1 (fun w hw => ?_) rfl rfl rfl ⟨rfl, hd⟩ ⟨hR.1, ?_⟩
    · rcases List.mem_append.mp hw with hw | hw
      · simp only [List.mem_cons, List.not_mem_nil, or_false] at hw
        rcases hw with rfl | rfl | rfl | rfl
        · exact ⟨w1, good_of_word (zg_in w1).2⟩
        · exact ⟨w2, good_of_word (zg_in w2).2⟩
        · exact ⟨w3, good_of_word (zg_in w3).2⟩
        · exact ⟨w4, good_of_word (zg_in w4).2⟩
      · exact hg w hw
    · show 8 + (maxL + 11) + 60 * n' ≤ R.locals
      have := hR.2.1
      omega
  refine va_calli (A0 := zA G) (va_runV (As := As) (rest := rest) ⟨C.1, C.2.1, C.2.2.1, C.2.2.2.1, C.2.2.2.2.1⟩ hM cw ⟨zPre.blind, hq ▸ zrecv C hS hc hsh hcl, fun U hU hW => zpre C hS hU hW⟩ rfl hn hl hst (lv_room hr8) hdg ⟨hR.2.2.1, hR.2.2.2⟩) hS.2.2 (fun q _ h => h) (fun q h => h) (fun r u t H1 locs1 ht hvm hw hB hz1 hk1 hS1 => ?_)
  subst hw
  rw [← ht] at hS1 ⊢
  exact kk _ _ ⟨hB.1, hB.2, hS1⟩
theorem zcallVV {y : MethodName} {bytes : ByteArray} {idx maxL n n' c0 : Nat} {ret' : Option FieldType} {As st0 : List Value} {h1 : zH} (C : zC G p s m args meth c cc nL own ret) (hS : zS G h s.heap H locs) (M : zMV own idx y bytes maxL ret' n) (hM : zCtV l y bytes maxL ret' n' (.ref (zal G c0) :: As) G h h1) (hc : c0 ∈ znm G) (hcl : ∃ ci fl q, zsh c0 = .inr (ci, fl) ∧ zcl[ci]? = some q ∧ q.1 = y.cls) (hn : As.length = n) (hst : st0 = As.reverse ++ .ref (zal G c0) :: rest) (hr8 : (rest.map fun v => v.category).sum ≤ 8) (hl : ls.size = nL) (hR : n' + 1 ≤ R.frames ∧ 60 + 60 * n' ≤ R.locals ∧ cells ≤ R.cells ∧ slots ≤ R.slots) (hdg : decode cc pc = .ok (.invokevirtual idx, 3))
    (kk : ∀ (H1 : Heap) (locs1 : List Loc), zS G h1 s.heap H1 locs1 → W p l e R s m args below meth c H1 locs1 cells slots Q (F0 m (pc + 3) ls rest)) : W p l e R s m args below meth c H locs cells slots Q (F0 m pc ls st0) := by
  obtain ⟨⟨w1, w2, w3, w4, w5⟩, hd, h60⟩ := M
  obtain ⟨ci, fl, q, hsh, hcl, hq⟩ := hcl
  have hg := zgood w5
  have cw : CallW R s args own y.cls idx y bytes maxL ret' (zw y bytes maxL ret') (zrm n') 0 0 n := by
    refine cwV n C.2.2.2.2.1 (fun w hw => ?_) rfl rfl rfl ⟨rfl, hd⟩ ⟨hR.1, ?_⟩
    · rcases List.mem_append.mp hw with hw | hw
      · simp only [List.mem_cons, List.not_mem_nil, or_false] at hw
        rcases hw with rfl | rfl | rfl | rfl
        · exact ⟨w1, good_of_word (zg_in w1).2⟩
        · exact ⟨w2, good_of_word (zg_in w2).2⟩
        · exact ⟨w3, good_of_word (zg_in w3).2⟩
        · exact ⟨w4, good_of_word (zg_in w4).2⟩
      · exact hg w hw
    · show 8 + (maxL + 11) + 60 * n' ≤ R.locals
      have := hR.2.1
      omega
  refine va_callv (A0 := zA G) (va_runV (As := As) (rest := rest) ⟨C.1, C.2.1, C.2.2.1, C.2.2.2.1, C.2.2.2.2.1⟩ hM cw ⟨zPre.blind, hq ▸ zrecv C hS hc hsh hcl, fun U hU hW => zpre C hS hU hW⟩ rfl hn hl hst (lv_room hr8) hdg ⟨hR.2.2.1, hR.2.2.2⟩) hS.2.2 (fun q _ h => h) (fun q h => h) (fun u t H1 locs1 ht hvm hw hB hz1 hk1 hS1 => ?_)
  rw [← ht] at hS1 ⊢
  exact kk _ _ ⟨hB.1, hB.2, hS1⟩
theorem zcallSI {y : MethodName} {bytes : ByteArray} {idx maxL n n' : Nat} {ret' : Option FieldType} {As st0 : List Value} {h1 : zH} {r1 : Int32} (C : zC G p s m args meth c cc nL own ret) (hS : zS G h s.heap H locs) (M : zMS own idx y bytes maxL ret' n) (hM : zCtI l y bytes maxL ret' n' As G h h1 r1) (hn : As.length = n) (hst : st0 = As.reverse ++ rest) (hr8 : (rest.map fun v => v.category).sum ≤ 8) (hl : ls.size = nL) (hR : n' + 1 ≤ R.frames ∧ 60 + 60 * n' ≤ R.locals ∧ cells ≤ R.cells ∧ slots ≤ R.slots) (hdg : decode cc pc = .ok (.invokestatic idx, 3))
    (kk : ∀ (H1 : Heap) (locs1 : List Loc), zS G h1 s.heap H1 locs1 → W p l e R s m args below meth c H1 locs1 cells slots Q (F0 m (pc + 3) ls (.int r1 :: rest))) : W p l e R s m args below meth c H locs cells slots Q (F0 m pc ls st0) := by
  obtain ⟨⟨w1, w2, w4, w5⟩, hd, h60⟩ := M
  have hts := C.2.2.2.2.1
  have cw : CallB R s args own idx y bytes maxL ret' (zw y bytes maxL ret') (zrm n') 0 0 n := callB_of n hts (zgood w5) rfl rfl rfl (hts _ w4) (hts _ w1) hd ⟨hR.1, by
    show 8 + (maxL + 11) + 60 * n' ≤ R.locals
    have := hR.2.1
    omega⟩
  refine va_calli (A0 := zA G) (va_runS (As := As) (rest := rest) ⟨C.1, C.2.1, C.2.2.1, C.2.2.2.1, C.2.2.2.2.1⟩ hM ⟨cw, hts _ w2⟩ ⟨zPre.blind, fun U hU hW => zpre C hS hU hW⟩ rfl hn hl hst (lv_room hr8) hdg ⟨hR.2.2.1, hR.2.2.2⟩) hS.2.2 (fun q _ h => h) (fun q h => h) (fun r u t H1 locs1 ht hvm hw hB hz1 hk1 hS1 => ?_)
  subst hw
  rw [← ht] at hS1 ⊢
  exact kk _ _ ⟨hB.1, hB.2, hS1⟩
theorem zcallNI {y : MethodName} {bytes : ByteArray} {idx maxL n n' : Nat} {ret' : Option FieldType} {As st0 : List Value} {h1 : zH} {r1 : Int32} (C : zC G p s m args meth c cc nL own ret) (hS : zS G h s.heap H locs) (M : zMN own idx y bytes maxL ret' n) (hM : zCtI l y bytes maxL ret' n' As G h h1 r1) (hn : As.length = n) (hst : st0 = As.reverse ++ rest) (hr8 : (rest.map fun v => v.category).sum ≤ 8) (hl : ls.size = nL) (hR : n' + 1 ≤ R.frames ∧ 60 + 60 * n' ≤ R.locals ∧ cells ≤ R.cells ∧ slots ≤ R.slots) (hdg : decode cc pc = .ok (.invokestatic idx, 3))
    (kk : ∀ (H1 : Heap) (locs1 : List Loc), zS G h1 s.heap H1 locs1 → W p l e R s m args below meth c H1 locs1 cells slots Q (F0 m (pc + 3) ls (.int r1 :: rest))) : W p l e R s m args below meth c H locs cells slots Q (F0 m pc ls st0) := by
  obtain ⟨⟨w1, w2, w4, w5⟩, hd, h60⟩ := M
  have hts := C.2.2.2.2.1
  have cw : va_CN R s args own idx y "HalfAJoke" bytes maxL ret' (zw y bytes maxL ret') (zrm n') 0 0 n := va_cnB n hts (zgood w5) rfl rfl rfl (C.2.2.2.2.2.1.2.1 _ w1) (hts _ w4) hd ⟨hR.1, by
    show 8 + (maxL + 11) + 60 * n' ≤ R.locals
    have := hR.2.1
    omega⟩
  refine va_calli (A0 := zA G) (va_runSN (As := As) (rest := rest) ⟨C.1, C.2.1, C.2.2.1, C.2.2.2.1, C.2.2.2.2.1⟩ hM ⟨cw, hts _ w2, trivial⟩ ⟨zPre.blind, fun U hU hW => zpre C hS hU hW⟩ rfl hn hl hst (lv_room hr8) hdg ⟨hR.2.2.1, hR.2.2.2⟩) hS.2.2 (fun q _ h => h) (fun q h => h) (fun r u t H1 locs1 ht hvm hw hB hz1 hk1 hS1 => ?_)
  subst hw
  rw [← ht] at hS1 ⊢
  exact kk _ _ ⟨hB.1, hB.2, hS1⟩
end ZR
end
