section
-- ===== PART A: goes FIRST, ahead of the names: the tables' words, and 'selects' of the private methods out of them =====
/-- a private method of a class that the tables say can be made, by its rows of tables_1 -/
def lw_okq (q : MethodName × Nat) : Prop := (q.1.cls ≠ "java/lang/invoke/MethodHandle" ∧ q.1.cls ≠ "java/lang/invoke/VarHandle") ∧ Cond.instantiable q.1.cls q.2 ∈ tables_1 ∧ Cond.privateMethod q.1 ∈ tables_1 ∧ Cond.instanceMethod q.1 ∈ tables_1
theorem lw_p0 : lw_okq (⟨"DollsAhead", "textOf", "(I)LDollsAhead$Text;"⟩, 17) := ⟨⟨by decide +kernel, by decide +kernel⟩, List.mem_of_getElem? (i := 16) (by decide +kernel), List.mem_of_getElem? (i := 301) (by decide +kernel), List.mem_of_getElem? (i := 302) (by decide +kernel)⟩
theorem lw_p1 : lw_okq (⟨"DollsAhead$People", "sortAt", "(I)I"⟩, 9) := ⟨⟨by decide +kernel, by decide +kernel⟩, List.mem_of_getElem? (i := 88) (by decide +kernel), List.mem_of_getElem? (i := 344) (by decide +kernel), List.mem_of_getElem? (i := 345) (by decide +kernel)⟩
theorem lw_p2 : lw_okq (⟨"DollsAhead", "textChanged", "()V"⟩, 17) := ⟨⟨by decide +kernel, by decide +kernel⟩, List.mem_of_getElem? (i := 16) (by decide +kernel), List.mem_of_getElem? (i := 369) (by decide +kernel), List.mem_of_getElem? (i := 370) (by decide +kernel)⟩
theorem lw_p3 : lw_okq (⟨"DollsAhead", "changed", "()V"⟩, 17) := ⟨⟨by decide +kernel, by decide +kernel⟩, List.mem_of_getElem? (i := 16) (by decide +kernel), List.mem_of_getElem? (i := 377) (by decide +kernel), List.mem_of_getElem? (i := 378) (by decide +kernel)⟩
theorem lw_p4 : lw_okq (⟨"DollsAhead", "isPerson", "(I)Z"⟩, 17) := ⟨⟨by decide +kernel, by decide +kernel⟩, List.mem_of_getElem? (i := 16) (by decide +kernel), List.mem_of_getElem? (i := 407) (by decide +kernel), List.mem_of_getElem? (i := 408) (by decide +kernel)⟩
theorem lw_p5 : lw_okq (⟨"DollsAhead", "refuse", "(I)I"⟩, 17) := ⟨⟨by decide +kernel, by decide +kernel⟩, List.mem_of_getElem? (i := 16) (by decide +kernel), List.mem_of_getElem? (i := 444) (by decide +kernel), List.mem_of_getElem? (i := 445) (by decide +kernel)⟩
theorem lw_p6 : lw_okq (⟨"DollsAhead", "weekAsTold", "()LDollsAhead$Week;"⟩, 17) := ⟨⟨by decide +kernel, by decide +kernel⟩, List.mem_of_getElem? (i := 16) (by decide +kernel), List.mem_of_getElem? (i := 453) (by decide +kernel), List.mem_of_getElem? (i := 454) (by decide +kernel)⟩
theorem lw_p7 : lw_okq (⟨"DollsAhead$Week", "layHours", "()V"⟩, 14) := ⟨⟨by decide +kernel, by decide +kernel⟩, List.mem_of_getElem? (i := 191) (by decide +kernel), List.mem_of_getElem? (i := 461) (by decide +kernel), List.mem_of_getElem? (i := 462) (by decide +kernel)⟩
theorem lw_p8 : lw_okq (⟨"DollsAhead$Week", "layTables", "()V"⟩, 14) := ⟨⟨by decide +kernel, by decide +kernel⟩, List.mem_of_getElem? (i := 191) (by decide +kernel), List.mem_of_getElem? (i := 465) (by decide +kernel), List.mem_of_getElem? (i := 466) (by decide +kernel)⟩
theorem lw_p9 : lw_okq (⟨"DollsAhead$Week", "sortOf", "(I)I"⟩, 14) := ⟨⟨by decide +kernel, by decide +kernel⟩, List.mem_of_getElem? (i := 191) (by decide +kernel), List.mem_of_getElem? (i := 478) (by decide +kernel), List.mem_of_getElem? (i := 479) (by decide +kernel)⟩
theorem lw_p10 : lw_okq (⟨"DollsAhead$Week", "walk", "(II)V"⟩, 14) := ⟨⟨by decide +kernel, by decide +kernel⟩, List.mem_of_getElem? (i := 191) (by decide +kernel), List.mem_of_getElem? (i := 482) (by decide +kernel), List.mem_of_getElem? (i := 483) (by decide +kernel)⟩
theorem lw_p11 : lw_okq (⟨"DollsAhead$Week", "bedOf", "(I)I"⟩, 14) := ⟨⟨by decide +kernel, by decide +kernel⟩, List.mem_of_getElem? (i := 191) (by decide +kernel), List.mem_of_getElem? (i := 486) (by decide +kernel), List.mem_of_getElem? (i := 487) (by decide +kernel)⟩
theorem lw_p12 : lw_okq (⟨"DollsAhead", "sparedRow", "()I"⟩, 17) := ⟨⟨by decide +kernel, by decide +kernel⟩, List.mem_of_getElem? (i := 16) (by decide +kernel), List.mem_of_getElem? (i := 603) (by decide +kernel), List.mem_of_getElem? (i := 604) (by decide +kernel)⟩
theorem lw_p13 : lw_okq (⟨"DollsAhead", "nobodyAloneWithout", "(I)Z"⟩, 17) := ⟨⟨by decide +kernel, by decide +kernel⟩, List.mem_of_getElem? (i := 16) (by decide +kernel), List.mem_of_getElem? (i := 607) (by decide +kernel), List.mem_of_getElem? (i := 608) (by decide +kernel)⟩
theorem lw_p14 : lw_okq (⟨"DollsAhead", "sortsThatFit", "(I)I"⟩, 17) := ⟨⟨by decide +kernel, by decide +kernel⟩, List.mem_of_getElem? (i := 16) (by decide +kernel), List.mem_of_getElem? (i := 640) (by decide +kernel), List.mem_of_getElem? (i := 641) (by decide +kernel)⟩
theorem lw_p15 : lw_okq (⟨"DollsAhead", "bedsThatFit", "(I)I"⟩, 17) := ⟨⟨by decide +kernel, by decide +kernel⟩, List.mem_of_getElem? (i := 16) (by decide +kernel), List.mem_of_getElem? (i := 644) (by decide +kernel), List.mem_of_getElem? (i := 645) (by decide +kernel)⟩
def lw_privs_1 : List (MethodName × Nat) := [(⟨"DollsAhead", "textOf", "(I)LDollsAhead$Text;"⟩, 17), (⟨"DollsAhead$People", "sortAt", "(I)I"⟩, 9), (⟨"DollsAhead", "textChanged", "()V"⟩, 17), (⟨"DollsAhead", "changed", "()V"⟩, 17), (⟨"DollsAhead", "isPerson", "(I)Z"⟩, 17), (⟨"DollsAhead", "refuse", "(I)I"⟩, 17), (⟨"DollsAhead", "weekAsTold", "()LDollsAhead$Week;"⟩, 17), (⟨"DollsAhead$Week", "layHours", "()V"⟩, 14), (⟨"DollsAhead$Week", "layTables", "()V"⟩, 14), (⟨"DollsAhead$Week", "sortOf", "(I)I"⟩, 14), (⟨"DollsAhead$Week", "walk", "(II)V"⟩, 14), (⟨"DollsAhead$Week", "bedOf", "(I)I"⟩, 14), (⟨"DollsAhead", "sparedRow", "()I"⟩, 17), (⟨"DollsAhead", "nobodyAloneWithout", "(I)Z"⟩, 17), (⟨"DollsAhead", "sortsThatFit", "(I)I"⟩, 17), (⟨"DollsAhead", "bedsThatFit", "(I)I"⟩, 17)]
theorem lw_r1 : ∀ q ∈ lw_privs_1, lw_okq q := List.forall_mem_cons.mpr ⟨lw_p0, List.forall_mem_cons.mpr ⟨lw_p1, List.forall_mem_cons.mpr ⟨lw_p2, List.forall_mem_cons.mpr ⟨lw_p3, List.forall_mem_cons.mpr ⟨lw_p4, List.forall_mem_cons.mpr ⟨lw_p5, List.forall_mem_cons.mpr ⟨lw_p6, List.forall_mem_cons.mpr ⟨lw_p7, List.forall_mem_cons.mpr ⟨lw_p8, List.forall_mem_cons.mpr ⟨lw_p9, List.forall_mem_cons.mpr ⟨lw_p10, List.forall_mem_cons.mpr ⟨lw_p11, List.forall_mem_cons.mpr ⟨lw_p12, List.forall_mem_cons.mpr ⟨lw_p13, List.forall_mem_cons.mpr ⟨lw_p14, List.forall_mem_cons.mpr ⟨lw_p15, fun _ h => absurd h List.not_mem_nil⟩⟩⟩⟩⟩⟩⟩⟩⟩⟩⟩⟩⟩⟩⟩⟩
theorem lw_p16 : lw_okq (⟨"DollsAhead", "mostBedsInOneRoom", "(II)I"⟩, 17) := ⟨⟨by decide +kernel, by decide +kernel⟩, List.mem_of_getElem? (i := 16) (by decide +kernel), List.mem_of_getElem? (i := 652) (by decide +kernel), List.mem_of_getElem? (i := 653) (by decide +kernel)⟩
theorem lw_p17 : lw_okq (⟨"DollsAhead", "weighOdds", "(II)V"⟩, 17) := ⟨⟨by decide +kernel, by decide +kernel⟩, List.mem_of_getElem? (i := 16) (by decide +kernel), List.mem_of_getElem? (i := 663) (by decide +kernel), List.mem_of_getElem? (i := 664) (by decide +kernel)⟩
theorem lw_p18 : lw_okq (⟨"DollsAhead", "weightOf", "(II)J"⟩, 17) := ⟨⟨by decide +kernel, by decide +kernel⟩, List.mem_of_getElem? (i := 16) (by decide +kernel), List.mem_of_getElem? (i := 670) (by decide +kernel), List.mem_of_getElem? (i := 671) (by decide +kernel)⟩
theorem lw_p19 : lw_okq (⟨"DollsAhead", "addOdds", "(IJ)V"⟩, 17) := ⟨⟨by decide +kernel, by decide +kernel⟩, List.mem_of_getElem? (i := 16) (by decide +kernel), List.mem_of_getElem? (i := 674) (by decide +kernel), List.mem_of_getElem? (i := 675) (by decide +kernel)⟩
theorem lw_p20 : lw_okq (⟨"DollsAhead", "refusalOfItem", "(III)I"⟩, 17) := ⟨⟨by decide +kernel, by decide +kernel⟩, List.mem_of_getElem? (i := 16) (by decide +kernel), List.mem_of_getElem? (i := 707) (by decide +kernel), List.mem_of_getElem? (i := 708) (by decide +kernel)⟩
theorem lw_p21 : lw_okq (⟨"DollsAhead", "emptyHoursOfAll", "()I"⟩, 17) := ⟨⟨by decide +kernel, by decide +kernel⟩, List.mem_of_getElem? (i := 16) (by decide +kernel), List.mem_of_getElem? (i := 741) (by decide +kernel), List.mem_of_getElem? (i := 742) (by decide +kernel)⟩
theorem lw_p22 : lw_okq (⟨"DollsAhead", "mixStays", "(JI)J"⟩, 17) := ⟨⟨by decide +kernel, by decide +kernel⟩, List.mem_of_getElem? (i := 16) (by decide +kernel), List.mem_of_getElem? (i := 759) (by decide +kernel), List.mem_of_getElem? (i := 760) (by decide +kernel)⟩
theorem lw_p23 : lw_okq (⟨"DollsAhead", "mixGuesses", "(JI)J"⟩, 17) := ⟨⟨by decide +kernel, by decide +kernel⟩, List.mem_of_getElem? (i := 16) (by decide +kernel), List.mem_of_getElem? (i := 765) (by decide +kernel), List.mem_of_getElem? (i := 766) (by decide +kernel)⟩
theorem lw_p24 : lw_okq (⟨"DollsAheadModel", "faultOf", "(I)I"⟩, 37) := ⟨⟨by decide +kernel, by decide +kernel⟩, List.mem_of_getElem? (i := 781) (by decide +kernel), List.mem_of_getElem? (i := 922) (by decide +kernel), List.mem_of_getElem? (i := 923) (by decide +kernel)⟩
theorem lw_p25 : lw_okq (⟨"DollsAheadModel", "readsParts", "(I)I"⟩, 37) := ⟨⟨by decide +kernel, by decide +kernel⟩, List.mem_of_getElem? (i := 781) (by decide +kernel), List.mem_of_getElem? (i := 926) (by decide +kernel), List.mem_of_getElem? (i := 927) (by decide +kernel)⟩
theorem lw_p26 : lw_okq (⟨"DollsAheadModel", "readsDoor", "(II)I"⟩, 37) := ⟨⟨by decide +kernel, by decide +kernel⟩, List.mem_of_getElem? (i := 781) (by decide +kernel), List.mem_of_getElem? (i := 930) (by decide +kernel), List.mem_of_getElem? (i := 931) (by decide +kernel)⟩
theorem lw_p27 : lw_okq (⟨"DollsAheadModel", "byteAt", "(II)I"⟩, 37) := ⟨⟨by decide +kernel, by decide +kernel⟩, List.mem_of_getElem? (i := 781) (by decide +kernel), List.mem_of_getElem? (i := 934) (by decide +kernel), List.mem_of_getElem? (i := 935) (by decide +kernel)⟩
theorem lw_p28 : lw_okq (⟨"DollsAheadModel", "readsPerson", "(II)I"⟩, 37) := ⟨⟨by decide +kernel, by decide +kernel⟩, List.mem_of_getElem? (i := 781) (by decide +kernel), List.mem_of_getElem? (i := 941) (by decide +kernel), List.mem_of_getElem? (i := 942) (by decide +kernel)⟩
theorem lw_p29 : lw_okq (⟨"DollsAheadModel", "isDoor", "(I)Z"⟩, 37) := ⟨⟨by decide +kernel, by decide +kernel⟩, List.mem_of_getElem? (i := 781) (by decide +kernel), List.mem_of_getElem? (i := 949) (by decide +kernel), List.mem_of_getElem? (i := 950) (by decide +kernel)⟩
theorem lw_p30 : lw_okq (⟨"DollsAheadModel", "reads", "()V"⟩, 37) := ⟨⟨by decide +kernel, by decide +kernel⟩, List.mem_of_getElem? (i := 781) (by decide +kernel), List.mem_of_getElem? (i := 953) (by decide +kernel), List.mem_of_getElem? (i := 954) (by decide +kernel)⟩
theorem lw_p31 : lw_okq (⟨"DollsAheadModel", "doorOf", "(II)I"⟩, 37) := ⟨⟨by decide +kernel, by decide +kernel⟩, List.mem_of_getElem? (i := 781) (by decide +kernel), List.mem_of_getElem? (i := 960) (by decide +kernel), List.mem_of_getElem? (i := 961) (by decide +kernel)⟩
def lw_privs_2 : List (MethodName × Nat) := [(⟨"DollsAhead", "mostBedsInOneRoom", "(II)I"⟩, 17), (⟨"DollsAhead", "weighOdds", "(II)V"⟩, 17), (⟨"DollsAhead", "weightOf", "(II)J"⟩, 17), (⟨"DollsAhead", "addOdds", "(IJ)V"⟩, 17), (⟨"DollsAhead", "refusalOfItem", "(III)I"⟩, 17), (⟨"DollsAhead", "emptyHoursOfAll", "()I"⟩, 17), (⟨"DollsAhead", "mixStays", "(JI)J"⟩, 17), (⟨"DollsAhead", "mixGuesses", "(JI)J"⟩, 17), (⟨"DollsAheadModel", "faultOf", "(I)I"⟩, 37), (⟨"DollsAheadModel", "readsParts", "(I)I"⟩, 37), (⟨"DollsAheadModel", "readsDoor", "(II)I"⟩, 37), (⟨"DollsAheadModel", "byteAt", "(II)I"⟩, 37), (⟨"DollsAheadModel", "readsPerson", "(II)I"⟩, 37), (⟨"DollsAheadModel", "isDoor", "(I)Z"⟩, 37), (⟨"DollsAheadModel", "reads", "()V"⟩, 37), (⟨"DollsAheadModel", "doorOf", "(II)I"⟩, 37)]
theorem lw_r2 : ∀ q ∈ lw_privs_2, lw_okq q := List.forall_mem_cons.mpr ⟨lw_p16, List.forall_mem_cons.mpr ⟨lw_p17, List.forall_mem_cons.mpr ⟨lw_p18, List.forall_mem_cons.mpr ⟨lw_p19, List.forall_mem_cons.mpr ⟨lw_p20, List.forall_mem_cons.mpr ⟨lw_p21, List.forall_mem_cons.mpr ⟨lw_p22, List.forall_mem_cons.mpr ⟨lw_p23, List.forall_mem_cons.mpr ⟨lw_p24, List.forall_mem_cons.mpr ⟨lw_p25, List.forall_mem_cons.mpr ⟨lw_p26, List.forall_mem_cons.mpr ⟨lw_p27, List.forall_mem_cons.mpr ⟨lw_p28, List.forall_mem_cons.mpr ⟨lw_p29, List.forall_mem_cons.mpr ⟨lw_p30, List.forall_mem_cons.mpr ⟨lw_p31, fun _ h => absurd h List.not_mem_nil⟩⟩⟩⟩⟩⟩⟩⟩⟩⟩⟩⟩⟩⟩⟩⟩
theorem lw_p32 : lw_okq (⟨"DollsAheadModel", "isPerson", "(I)Z"⟩, 37) := ⟨⟨by decide +kernel, by decide +kernel⟩, List.mem_of_getElem? (i := 781) (by decide +kernel), List.mem_of_getElem? (i := 968) (by decide +kernel), List.mem_of_getElem? (i := 969) (by decide +kernel)⟩
theorem lw_p33 : lw_okq (⟨"DollsAheadModel", "personOf", "(II)I"⟩, 37) := ⟨⟨by decide +kernel, by decide +kernel⟩, List.mem_of_getElem? (i := 781) (by decide +kernel), List.mem_of_getElem? (i := 975) (by decide +kernel), List.mem_of_getElem? (i := 976) (by decide +kernel)⟩
theorem lw_p34 : lw_okq (⟨"DollsAheadModel", "meets", "(I)I"⟩, 37) := ⟨⟨by decide +kernel, by decide +kernel⟩, List.mem_of_getElem? (i := 781) (by decide +kernel), List.mem_of_getElem? (i := 1001) (by decide +kernel), List.mem_of_getElem? (i := 1002) (by decide +kernel)⟩
theorem lw_p35 : lw_okq (⟨"DollsAheadModel", "atOf", "(III)I"⟩, 37) := ⟨⟨by decide +kernel, by decide +kernel⟩, List.mem_of_getElem? (i := 781) (by decide +kernel), List.mem_of_getElem? (i := 1010) (by decide +kernel), List.mem_of_getElem? (i := 1011) (by decide +kernel)⟩
theorem lw_p36 : lw_okq (⟨"DollsAheadModel", "runsTold", "()V"⟩, 37) := ⟨⟨by decide +kernel, by decide +kernel⟩, List.mem_of_getElem? (i := 781) (by decide +kernel), List.mem_of_getElem? (i := 1014) (by decide +kernel), List.mem_of_getElem? (i := 1015) (by decide +kernel)⟩
theorem lw_p37 : lw_okq (⟨"DollsAheadModel", "asTold", "()V"⟩, 37) := ⟨⟨by decide +kernel, by decide +kernel⟩, List.mem_of_getElem? (i := 781) (by decide +kernel), List.mem_of_getElem? (i := 1018) (by decide +kernel), List.mem_of_getElem? (i := 1019) (by decide +kernel)⟩
theorem lw_p38 : lw_okq (⟨"DollsAheadModel", "runs", "()V"⟩, 37) := ⟨⟨by decide +kernel, by decide +kernel⟩, List.mem_of_getElem? (i := 781) (by decide +kernel), List.mem_of_getElem? (i := 1022) (by decide +kernel), List.mem_of_getElem? (i := 1023) (by decide +kernel)⟩
theorem lw_p39 : lw_okq (⟨"DollsAheadModel", "befalls", "(I)V"⟩, 37) := ⟨⟨by decide +kernel, by decide +kernel⟩, List.mem_of_getElem? (i := 781) (by decide +kernel), List.mem_of_getElem? (i := 1026) (by decide +kernel), List.mem_of_getElem? (i := 1027) (by decide +kernel)⟩
theorem lw_p40 : lw_okq (⟨"DollsAheadModel", "measures", "(I)V"⟩, 37) := ⟨⟨by decide +kernel, by decide +kernel⟩, List.mem_of_getElem? (i := 781) (by decide +kernel), List.mem_of_getElem? (i := 1033) (by decide +kernel), List.mem_of_getElem? (i := 1034) (by decide +kernel)⟩
theorem lw_p41 : lw_okq (⟨"DollsAheadModel", "nears", "(IIII)V"⟩, 37) := ⟨⟨by decide +kernel, by decide +kernel⟩, List.mem_of_getElem? (i := 781) (by decide +kernel), List.mem_of_getElem? (i := 1037) (by decide +kernel), List.mem_of_getElem? (i := 1038) (by decide +kernel)⟩
theorem lw_p42 : lw_okq (⟨"DollsAheadModel", "leastChild", "()I"⟩, 37) := ⟨⟨by decide +kernel, by decide +kernel⟩, List.mem_of_getElem? (i := 781) (by decide +kernel), List.mem_of_getElem? (i := 1041) (by decide +kernel), List.mem_of_getElem? (i := 1042) (by decide +kernel)⟩
theorem lw_p43 : lw_okq (⟨"DollsAheadModel", "goesThrough", "(II)V"⟩, 37) := ⟨⟨by decide +kernel, by decide +kernel⟩, List.mem_of_getElem? (i := 781) (by decide +kernel), List.mem_of_getElem? (i := 1045) (by decide +kernel), List.mem_of_getElem? (i := 1046) (by decide +kernel)⟩
theorem lw_p44 : lw_okq (⟨"DollsAheadModel", "step", "(III)I"⟩, 37) := ⟨⟨by decide +kernel, by decide +kernel⟩, List.mem_of_getElem? (i := 781) (by decide +kernel), List.mem_of_getElem? (i := 1049) (by decide +kernel), List.mem_of_getElem? (i := 1050) (by decide +kernel)⟩
theorem lw_p45 : lw_okq (⟨"DollsAheadModel", "isBeside", "(III)Z"⟩, 37) := ⟨⟨by decide +kernel, by decide +kernel⟩, List.mem_of_getElem? (i := 781) (by decide +kernel), List.mem_of_getElem? (i := 1053) (by decide +kernel), List.mem_of_getElem? (i := 1054) (by decide +kernel)⟩
theorem lw_p46 : lw_okq (⟨"DollsAheadModel", "roomOf", "(II)I"⟩, 37) := ⟨⟨by decide +kernel, by decide +kernel⟩, List.mem_of_getElem? (i := 781) (by decide +kernel), List.mem_of_getElem? (i := 1061) (by decide +kernel), List.mem_of_getElem? (i := 1062) (by decide +kernel)⟩
theorem lw_p47 : lw_okq (⟨"DollsAheadModel", "inRoom", "(II)I"⟩, 37) := ⟨⟨by decide +kernel, by decide +kernel⟩, List.mem_of_getElem? (i := 781) (by decide +kernel), List.mem_of_getElem? (i := 1065) (by decide +kernel), List.mem_of_getElem? (i := 1066) (by decide +kernel)⟩
def lw_privs_3 : List (MethodName × Nat) := [(⟨"DollsAheadModel", "isPerson", "(I)Z"⟩, 37), (⟨"DollsAheadModel", "personOf", "(II)I"⟩, 37), (⟨"DollsAheadModel", "meets", "(I)I"⟩, 37), (⟨"DollsAheadModel", "atOf", "(III)I"⟩, 37), (⟨"DollsAheadModel", "runsTold", "()V"⟩, 37), (⟨"DollsAheadModel", "asTold", "()V"⟩, 37), (⟨"DollsAheadModel", "runs", "()V"⟩, 37), (⟨"DollsAheadModel", "befalls", "(I)V"⟩, 37), (⟨"DollsAheadModel", "measures", "(I)V"⟩, 37), (⟨"DollsAheadModel", "nears", "(IIII)V"⟩, 37), (⟨"DollsAheadModel", "leastChild", "()I"⟩, 37), (⟨"DollsAheadModel", "goesThrough", "(II)V"⟩, 37), (⟨"DollsAheadModel", "step", "(III)I"⟩, 37), (⟨"DollsAheadModel", "isBeside", "(III)Z"⟩, 37), (⟨"DollsAheadModel", "roomOf", "(II)I"⟩, 37), (⟨"DollsAheadModel", "inRoom", "(II)I"⟩, 37)]
theorem lw_r3 : ∀ q ∈ lw_privs_3, lw_okq q := List.forall_mem_cons.mpr ⟨lw_p32, List.forall_mem_cons.mpr ⟨lw_p33, List.forall_mem_cons.mpr ⟨lw_p34, List.forall_mem_cons.mpr ⟨lw_p35, List.forall_mem_cons.mpr ⟨lw_p36, List.forall_mem_cons.mpr ⟨lw_p37, List.forall_mem_cons.mpr ⟨lw_p38, List.forall_mem_cons.mpr ⟨lw_p39, List.forall_mem_cons.mpr ⟨lw_p40, List.forall_mem_cons.mpr ⟨lw_p41, List.forall_mem_cons.mpr ⟨lw_p42, List.forall_mem_cons.mpr ⟨lw_p43, List.forall_mem_cons.mpr ⟨lw_p44, List.forall_mem_cons.mpr ⟨lw_p45, List.forall_mem_cons.mpr ⟨lw_p46, List.forall_mem_cons.mpr ⟨lw_p47, fun _ h => absurd h List.not_mem_nil⟩⟩⟩⟩⟩⟩⟩⟩⟩⟩⟩⟩⟩⟩⟩⟩
theorem lw_p48 : lw_okq (⟨"DollsAheadModel", "farOf", "(III)I"⟩, 37) := ⟨⟨by decide +kernel, by decide +kernel⟩, List.mem_of_getElem? (i := 781) (by decide +kernel), List.mem_of_getElem? (i := 1073) (by decide +kernel), List.mem_of_getElem? (i := 1074) (by decide +kernel)⟩
theorem lw_p49 : lw_okq (⟨"DollsAheadModel", "metOf", "(II)I"⟩, 37) := ⟨⟨by decide +kernel, by decide +kernel⟩, List.mem_of_getElem? (i := 781) (by decide +kernel), List.mem_of_getElem? (i := 1081) (by decide +kernel), List.mem_of_getElem? (i := 1082) (by decide +kernel)⟩
theorem lw_p50 : lw_okq (⟨"DollsAheadModel", "emptyOf", "(I)I"⟩, 37) := ⟨⟨by decide +kernel, by decide +kernel⟩, List.mem_of_getElem? (i := 781) (by decide +kernel), List.mem_of_getElem? (i := 1089) (by decide +kernel), List.mem_of_getElem? (i := 1090) (by decide +kernel)⟩
theorem lw_p51 : lw_okq (⟨"DollsAheadModel", "emptyNow", "(I)I"⟩, 37) := ⟨⟨by decide +kernel, by decide +kernel⟩, List.mem_of_getElem? (i := 781) (by decide +kernel), List.mem_of_getElem? (i := 1093) (by decide +kernel), List.mem_of_getElem? (i := 1094) (by decide +kernel)⟩
theorem lw_p52 : lw_okq (⟨"DollsAheadModel", "foundOf", "(I)I"⟩, 37) := ⟨⟨by decide +kernel, by decide +kernel⟩, List.mem_of_getElem? (i := 781) (by decide +kernel), List.mem_of_getElem? (i := 1101) (by decide +kernel), List.mem_of_getElem? (i := 1102) (by decide +kernel)⟩
theorem lw_p53 : lw_okq (⟨"DollsAheadModel", "foundNow", "(I)I"⟩, 37) := ⟨⟨by decide +kernel, by decide +kernel⟩, List.mem_of_getElem? (i := 781) (by decide +kernel), List.mem_of_getElem? (i := 1105) (by decide +kernel), List.mem_of_getElem? (i := 1106) (by decide +kernel)⟩
theorem lw_p54 : lw_okq (⟨"DollsAheadModel", "crowdOf", "(I)I"⟩, 37) := ⟨⟨by decide +kernel, by decide +kernel⟩, List.mem_of_getElem? (i := 781) (by decide +kernel), List.mem_of_getElem? (i := 1113) (by decide +kernel), List.mem_of_getElem? (i := 1114) (by decide +kernel)⟩
theorem lw_p55 : lw_okq (⟨"DollsAheadModel", "many", "(I)I"⟩, 37) := ⟨⟨by decide +kernel, by decide +kernel⟩, List.mem_of_getElem? (i := 781) (by decide +kernel), List.mem_of_getElem? (i := 1117) (by decide +kernel), List.mem_of_getElem? (i := 1118) (by decide +kernel)⟩
theorem lw_p56 : lw_okq (⟨"DollsAheadModel", "aloneOf", "()I"⟩, 37) := ⟨⟨by decide +kernel, by decide +kernel⟩, List.mem_of_getElem? (i := 781) (by decide +kernel), List.mem_of_getElem? (i := 1125) (by decide +kernel), List.mem_of_getElem? (i := 1126) (by decide +kernel)⟩
theorem lw_p57 : lw_okq (⟨"DollsAheadModel", "aloneNow", "()I"⟩, 37) := ⟨⟨by decide +kernel, by decide +kernel⟩, List.mem_of_getElem? (i := 781) (by decide +kernel), List.mem_of_getElem? (i := 1129) (by decide +kernel), List.mem_of_getElem? (i := 1130) (by decide +kernel)⟩
theorem lw_p58 : lw_okq (⟨"DollsAheadModel", "isByItself", "(II)Z"⟩, 37) := ⟨⟨by decide +kernel, by decide +kernel⟩, List.mem_of_getElem? (i := 781) (by decide +kernel), List.mem_of_getElem? (i := 1133) (by decide +kernel), List.mem_of_getElem? (i := 1134) (by decide +kernel)⟩
theorem lw_p59 : lw_okq (⟨"DollsAheadModel", "sleepOf", "(II)I"⟩, 37) := ⟨⟨by decide +kernel, by decide +kernel⟩, List.mem_of_getElem? (i := 781) (by decide +kernel), List.mem_of_getElem? (i := 1141) (by decide +kernel), List.mem_of_getElem? (i := 1142) (by decide +kernel)⟩
theorem lw_p60 : lw_okq (⟨"DollsAheadModel", "hoursByItself", "(I)I"⟩, 37) := ⟨⟨by decide +kernel, by decide +kernel⟩, List.mem_of_getElem? (i := 781) (by decide +kernel), List.mem_of_getElem? (i := 1145) (by decide +kernel), List.mem_of_getElem? (i := 1146) (by decide +kernel)⟩
theorem lw_p61 : lw_okq (⟨"DollsAheadModel", "niceOf", "(II)I"⟩, 37) := ⟨⟨by decide +kernel, by decide +kernel⟩, List.mem_of_getElem? (i := 781) (by decide +kernel), List.mem_of_getElem? (i := 1153) (by decide +kernel), List.mem_of_getElem? (i := 1154) (by decide +kernel)⟩
theorem lw_p62 : lw_okq (⟨"DollsAheadModel", "mostAt", "(I)I"⟩, 37) := ⟨⟨by decide +kernel, by decide +kernel⟩, List.mem_of_getElem? (i := 781) (by decide +kernel), List.mem_of_getElem? (i := 1157) (by decide +kernel), List.mem_of_getElem? (i := 1158) (by decide +kernel)⟩
theorem lw_p63 : lw_okq (⟨"DollsAheadModel", "lensOf", "(I)I"⟩, 37) := ⟨⟨by decide +kernel, by decide +kernel⟩, List.mem_of_getElem? (i := 781) (by decide +kernel), List.mem_of_getElem? (i := 1165) (by decide +kernel), List.mem_of_getElem? (i := 1166) (by decide +kernel)⟩
def lw_privs_4 : List (MethodName × Nat) := [(⟨"DollsAheadModel", "farOf", "(III)I"⟩, 37), (⟨"DollsAheadModel", "metOf", "(II)I"⟩, 37), (⟨"DollsAheadModel", "emptyOf", "(I)I"⟩, 37), (⟨"DollsAheadModel", "emptyNow", "(I)I"⟩, 37), (⟨"DollsAheadModel", "foundOf", "(I)I"⟩, 37), (⟨"DollsAheadModel", "foundNow", "(I)I"⟩, 37), (⟨"DollsAheadModel", "crowdOf", "(I)I"⟩, 37), (⟨"DollsAheadModel", "many", "(I)I"⟩, 37), (⟨"DollsAheadModel", "aloneOf", "()I"⟩, 37), (⟨"DollsAheadModel", "aloneNow", "()I"⟩, 37), (⟨"DollsAheadModel", "isByItself", "(II)Z"⟩, 37), (⟨"DollsAheadModel", "sleepOf", "(II)I"⟩, 37), (⟨"DollsAheadModel", "hoursByItself", "(I)I"⟩, 37), (⟨"DollsAheadModel", "niceOf", "(II)I"⟩, 37), (⟨"DollsAheadModel", "mostAt", "(I)I"⟩, 37), (⟨"DollsAheadModel", "lensOf", "(I)I"⟩, 37)]
theorem lw_r4 : ∀ q ∈ lw_privs_4, lw_okq q := List.forall_mem_cons.mpr ⟨lw_p48, List.forall_mem_cons.mpr ⟨lw_p49, List.forall_mem_cons.mpr ⟨lw_p50, List.forall_mem_cons.mpr ⟨lw_p51, List.forall_mem_cons.mpr ⟨lw_p52, List.forall_mem_cons.mpr ⟨lw_p53, List.forall_mem_cons.mpr ⟨lw_p54, List.forall_mem_cons.mpr ⟨lw_p55, List.forall_mem_cons.mpr ⟨lw_p56, List.forall_mem_cons.mpr ⟨lw_p57, List.forall_mem_cons.mpr ⟨lw_p58, List.forall_mem_cons.mpr ⟨lw_p59, List.forall_mem_cons.mpr ⟨lw_p60, List.forall_mem_cons.mpr ⟨lw_p61, List.forall_mem_cons.mpr ⟨lw_p62, List.forall_mem_cons.mpr ⟨lw_p63, fun _ h => absurd h List.not_mem_nil⟩⟩⟩⟩⟩⟩⟩⟩⟩⟩⟩⟩⟩⟩⟩⟩
theorem lw_p64 : lw_okq (⟨"DollsAheadModel", "spareBy", "()I"⟩, 37) := ⟨⟨by decide +kernel, by decide +kernel⟩, List.mem_of_getElem? (i := 781) (by decide +kernel), List.mem_of_getElem? (i := 1173) (by decide +kernel), List.mem_of_getElem? (i := 1174) (by decide +kernel)⟩
theorem lw_p65 : lw_okq (⟨"DollsAheadModel", "isSpared", "(I)Z"⟩, 37) := ⟨⟨by decide +kernel, by decide +kernel⟩, List.mem_of_getElem? (i := 781) (by decide +kernel), List.mem_of_getElem? (i := 1177) (by decide +kernel), List.mem_of_getElem? (i := 1178) (by decide +kernel)⟩
theorem lw_p66 : lw_okq (⟨"DollsAheadModel", "ofRow", "(II)I"⟩, 37) := ⟨⟨by decide +kernel, by decide +kernel⟩, List.mem_of_getElem? (i := 781) (by decide +kernel), List.mem_of_getElem? (i := 1181) (by decide +kernel), List.mem_of_getElem? (i := 1182) (by decide +kernel)⟩
theorem lw_p67 : lw_okq (⟨"DollsAheadModel", "neverNow", "()I"⟩, 37) := ⟨⟨by decide +kernel, by decide +kernel⟩, List.mem_of_getElem? (i := 781) (by decide +kernel), List.mem_of_getElem? (i := 1197) (by decide +kernel), List.mem_of_getElem? (i := 1198) (by decide +kernel)⟩
theorem lw_p68 : lw_okq (⟨"DollsAheadModel", "isSeen", "()Z"⟩, 37) := ⟨⟨by decide +kernel, by decide +kernel⟩, List.mem_of_getElem? (i := 781) (by decide +kernel), List.mem_of_getElem? (i := 1201) (by decide +kernel), List.mem_of_getElem? (i := 1202) (by decide +kernel)⟩
theorem lw_p69 : lw_okq (⟨"DollsAheadModel", "sortsBy", "(I)I"⟩, 37) := ⟨⟨by decide +kernel, by decide +kernel⟩, List.mem_of_getElem? (i := 781) (by decide +kernel), List.mem_of_getElem? (i := 1209) (by decide +kernel), List.mem_of_getElem? (i := 1210) (by decide +kernel)⟩
theorem lw_p70 : lw_okq (⟨"DollsAheadModel", "bedsBy", "(I)I"⟩, 37) := ⟨⟨by decide +kernel, by decide +kernel⟩, List.mem_of_getElem? (i := 781) (by decide +kernel), List.mem_of_getElem? (i := 1213) (by decide +kernel), List.mem_of_getElem? (i := 1214) (by decide +kernel)⟩
theorem lw_p71 : lw_okq (⟨"DollsAheadModel", "askOf", "(I)I"⟩, 37) := ⟨⟨by decide +kernel, by decide +kernel⟩, List.mem_of_getElem? (i := 781) (by decide +kernel), List.mem_of_getElem? (i := 1221) (by decide +kernel), List.mem_of_getElem? (i := 1222) (by decide +kernel)⟩
theorem lw_p72 : lw_okq (⟨"DollsAheadModel", "chanceOf", "(IIII)J"⟩, 37) := ⟨⟨by decide +kernel, by decide +kernel⟩, List.mem_of_getElem? (i := 781) (by decide +kernel), List.mem_of_getElem? (i := 1229) (by decide +kernel), List.mem_of_getElem? (i := 1230) (by decide +kernel)⟩
theorem lw_p73 : lw_okq (⟨"DollsAheadModel", "weeksOf", "(III)I"⟩, 37) := ⟨⟨by decide +kernel, by decide +kernel⟩, List.mem_of_getElem? (i := 781) (by decide +kernel), List.mem_of_getElem? (i := 1244) (by decide +kernel), List.mem_of_getElem? (i := 1245) (by decide +kernel)⟩
theorem lw_p74 : lw_okq (⟨"DollsAheadModel", "lacks", "(III)I"⟩, 37) := ⟨⟨by decide +kernel, by decide +kernel⟩, List.mem_of_getElem? (i := 781) (by decide +kernel), List.mem_of_getElem? (i := 1261) (by decide +kernel), List.mem_of_getElem? (i := 1262) (by decide +kernel)⟩
theorem lw_p75 : lw_okq (⟨"DollsAheadModel", "keep", "(III)V"⟩, 37) := ⟨⟨by decide +kernel, by decide +kernel⟩, List.mem_of_getElem? (i := 781) (by decide +kernel), List.mem_of_getElem? (i := 1265) (by decide +kernel), List.mem_of_getElem? (i := 1266) (by decide +kernel)⟩
theorem lw_p76 : lw_okq (⟨"DollsAheadModel", "sumOf", "(I)I"⟩, 37) := ⟨⟨by decide +kernel, by decide +kernel⟩, List.mem_of_getElem? (i := 781) (by decide +kernel), List.mem_of_getElem? (i := 1286) (by decide +kernel), List.mem_of_getElem? (i := 1287) (by decide +kernel)⟩
theorem lw_p77 : lw_okq (⟨"DollsAheadModel", "personDigest", "(JI)J"⟩, 37) := ⟨⟨by decide +kernel, by decide +kernel⟩, List.mem_of_getElem? (i := 781) (by decide +kernel), List.mem_of_getElem? (i := 1297) (by decide +kernel), List.mem_of_getElem? (i := 1298) (by decide +kernel)⟩
theorem lw_p78 : lw_okq (⟨"DollsAheadModel", "hourDigest", "(JII)J"⟩, 37) := ⟨⟨by decide +kernel, by decide +kernel⟩, List.mem_of_getElem? (i := 781) (by decide +kernel), List.mem_of_getElem? (i := 1301) (by decide +kernel), List.mem_of_getElem? (i := 1302) (by decide +kernel)⟩
def lw_privs_5 : List (MethodName × Nat) := [(⟨"DollsAheadModel", "spareBy", "()I"⟩, 37), (⟨"DollsAheadModel", "isSpared", "(I)Z"⟩, 37), (⟨"DollsAheadModel", "ofRow", "(II)I"⟩, 37), (⟨"DollsAheadModel", "neverNow", "()I"⟩, 37), (⟨"DollsAheadModel", "isSeen", "()Z"⟩, 37), (⟨"DollsAheadModel", "sortsBy", "(I)I"⟩, 37), (⟨"DollsAheadModel", "bedsBy", "(I)I"⟩, 37), (⟨"DollsAheadModel", "askOf", "(I)I"⟩, 37), (⟨"DollsAheadModel", "chanceOf", "(IIII)J"⟩, 37), (⟨"DollsAheadModel", "weeksOf", "(III)I"⟩, 37), (⟨"DollsAheadModel", "lacks", "(III)I"⟩, 37), (⟨"DollsAheadModel", "keep", "(III)V"⟩, 37), (⟨"DollsAheadModel", "sumOf", "(I)I"⟩, 37), (⟨"DollsAheadModel", "personDigest", "(JI)J"⟩, 37), (⟨"DollsAheadModel", "hourDigest", "(JII)J"⟩, 37)]
theorem lw_r5 : ∀ q ∈ lw_privs_5, lw_okq q := List.forall_mem_cons.mpr ⟨lw_p64, List.forall_mem_cons.mpr ⟨lw_p65, List.forall_mem_cons.mpr ⟨lw_p66, List.forall_mem_cons.mpr ⟨lw_p67, List.forall_mem_cons.mpr ⟨lw_p68, List.forall_mem_cons.mpr ⟨lw_p69, List.forall_mem_cons.mpr ⟨lw_p70, List.forall_mem_cons.mpr ⟨lw_p71, List.forall_mem_cons.mpr ⟨lw_p72, List.forall_mem_cons.mpr ⟨lw_p73, List.forall_mem_cons.mpr ⟨lw_p74, List.forall_mem_cons.mpr ⟨lw_p75, List.forall_mem_cons.mpr ⟨lw_p76, List.forall_mem_cons.mpr ⟨lw_p77, List.forall_mem_cons.mpr ⟨lw_p78, fun _ h => absurd h List.not_mem_nil⟩⟩⟩⟩⟩⟩⟩⟩⟩⟩⟩⟩⟩⟩⟩
def lw_privs : List (MethodName × Nat) := lw_privs_1 ++ (lw_privs_2 ++ (lw_privs_3 ++ (lw_privs_4 ++ (lw_privs_5))))
def lw_tbl : List Cond := k2_sels lw_privs ++ tables_1
theorem lw_privs_ok : ∀ q ∈ lw_privs, lw_okq q := by
  show ∀ q ∈ lw_privs_1 ++ (lw_privs_2 ++ (lw_privs_3 ++ (lw_privs_4 ++ (lw_privs_5)))), lw_okq q
  exact List.forall_mem_append.mpr ⟨lw_r1, List.forall_mem_append.mpr ⟨lw_r2, List.forall_mem_append.mpr ⟨lw_r3, List.forall_mem_append.mpr ⟨lw_r4, lw_r5⟩⟩⟩⟩
def RX0 : String := "DollsAhead$Doors"
def TX0 : u_T := fun k => match k with
  | 0 => ("DollsAhead$Text", "bytes", "[I", true)
  | 1 => ("DollsAhead$Text", "limit", "I", true)
  | 2 => ("DollsAhead$Text", "part", "I", true)
  | 3 => ("DollsAhead$Text", "size", "I", false)
  | 4 => ("DollsAhead$Text", "faultPlace", "I", false)
  | 5 => ("DollsAhead$Text", "many", "I", false)
  | 6 => ("DollsAhead$Doors", "ones", "[I", true)
  | 7 => ("DollsAhead$Doors", "others", "[I", true)
  | _ => ("DollsAhead$Doors", "beside", "[I", true)
def tyX0 : Nat → FieldType := fun k => match k with
  | 0 => .array .int
  | 1 => .int
  | 2 => .int
  | 3 => .int
  | 4 => .int
  | 5 => .int
  | 6 => .array .int
  | 7 => .array .int
  | _ => .array .int
abbrev wsX00 : List Cond := u_ws RX0 TX0 9
theorem nmX0 : ∀ a, a < 9 → ∀ b, b < 9 → a ≠ b → (TX0 a).2.1 ≠ (TX0 b).2.1 := by decide +kernel
theorem tyX0_ok : ∀ k, k < 9 → parseFieldDescriptor (TX0 k).2.2.1 = some (tyX0 k) := by decide +kernel
abbrev cX0_init : ByteArray := prog_2_method_1_code
def yX0_init : MethodName := ⟨RX0, "<init>", "()V"⟩
abbrev cX0_fits : ByteArray := prog_2_method_2_code
def yX0_fits : MethodName := ⟨RX0, "fits", "(II)Z"⟩
abbrev cX0_readThings : ByteArray := prog_2_method_3_code
def yX0_readThings : MethodName := ⟨RX0, "readThings", "()V"⟩
abbrev cX0_openAllBut : ByteArray := prog_2_method_4_code
def yX0_openAllBut : MethodName := ⟨RX0, "openAllBut", "(I)V"⟩
abbrev cX0_fillStepsTo : ByteArray := prog_2_method_5_code
def yX0_fillStepsTo : MethodName := ⟨RX0, "fillStepsTo", "(I[II)V"⟩
def RX1 : String := "DollsAhead$Events"
def TX1 : u_T := fun k => match k with
  | 0 => ("DollsAhead$Events", "kinds", "[I", true)
  | 1 => ("DollsAhead$Events", "hours", "[I", true)
  | 2 => ("DollsAhead$Events", "numbers", "[I", true)
  | _ => ("DollsAhead$Events", "size", "I", false)
def tyX1 : Nat → FieldType := fun k => match k with
  | 0 => .array .int
  | 1 => .array .int
  | 2 => .array .int
  | _ => .int
abbrev wsX10 : List Cond := u_ws RX1 TX1 4
theorem nmX1 : ∀ a, a < 4 → ∀ b, b < 4 → a ≠ b → (TX1 a).2.1 ≠ (TX1 b).2.1 := by decide +kernel
theorem tyX1_ok : ∀ k, k < 4 → parseFieldDescriptor (TX1 k).2.2.1 = some (tyX1 k) := by decide +kernel
abbrev cX1_init : ByteArray := prog_3_method_1_code
def yX1_init : MethodName := ⟨RX1, "<init>", "()V"⟩
abbrev cX1_add : ByteArray := prog_3_method_2_code
def yX1_add : MethodName := ⟨RX1, "add", "(III)V"⟩
abbrev cX1_become : ByteArray := prog_3_method_3_code
def yX1_become : MethodName := ⟨RX1, "become", "(LDollsAhead$Events;)V"⟩
def RX2 : String := "DollsAhead$Lots"
def TX2 : u_T := fun k => match k with
  | _ => ("DollsAhead$Lots", "seed", "I", false)
def tyX2 : Nat → FieldType := fun k => match k with
  | _ => .int
abbrev wsX20 : List Cond := u_ws RX2 TX2 1
theorem nmX2 : ∀ a, a < 1 → ∀ b, b < 1 → a ≠ b → (TX2 a).2.1 ≠ (TX2 b).2.1 := by decide +kernel
theorem tyX2_ok : ∀ k, k < 1 → parseFieldDescriptor (TX2 k).2.2.1 = some (tyX2 k) := by decide +kernel
abbrev cX2_init : ByteArray := prog_4_method_1_code
def yX2_init : MethodName := ⟨RX2, "<init>", "()V"⟩
abbrev cX2_draw : ByteArray := prog_4_method_2_code
def yX2_draw : MethodName := ⟨RX2, "draw", "(I)I"⟩
def RX3 : String := "DollsAhead$People"
def TX3 : u_T := fun k => match k with
  | 0 => ("DollsAhead$Text", "bytes", "[I", true)
  | 1 => ("DollsAhead$Text", "limit", "I", true)
  | 2 => ("DollsAhead$Text", "part", "I", true)
  | 3 => ("DollsAhead$Text", "size", "I", false)
  | 4 => ("DollsAhead$Text", "faultPlace", "I", false)
  | 5 => ("DollsAhead$Text", "many", "I", false)
  | 6 => ("DollsAhead$People", "sorts", "[I", true)
  | 7 => ("DollsAhead$People", "starts", "[I", true)
  | _ => ("DollsAhead$People", "beds", "[I", true)
def tyX3 : Nat → FieldType := fun k => match k with
  | 0 => .array .int
  | 1 => .int
  | 2 => .int
  | 3 => .int
  | 4 => .int
  | 5 => .int
  | 6 => .array .int
  | 7 => .array .int
  | _ => .array .int
abbrev wsX30 : List Cond := u_ws RX3 TX3 9
theorem nmX3 : ∀ a, a < 9 → ∀ b, b < 9 → a ≠ b → (TX3 a).2.1 ≠ (TX3 b).2.1 := by decide +kernel
theorem tyX3_ok : ∀ k, k < 9 → parseFieldDescriptor (TX3 k).2.2.1 = some (tyX3 k) := by decide +kernel
abbrev cX3_init : ByteArray := prog_5_method_1_code
def yX3_init : MethodName := ⟨RX3, "<init>", "()V"⟩
abbrev cX3_fits : ByteArray := prog_5_method_2_code
def yX3_fits : MethodName := ⟨RX3, "fits", "(II)Z"⟩
abbrev cX3_readThings : ByteArray := prog_5_method_3_code
def yX3_readThings : MethodName := ⟨RX3, "readThings", "()V"⟩
abbrev cX3_sortAt : ByteArray := prog_5_method_4_code
def yX3_sortAt : MethodName := ⟨RX3, "sortAt", "(I)I"⟩
def RX4 : String := "DollsAhead$Sheet"
def TX4 : u_T := fun k => match k with
  | 0 => ("DollsAhead$Sheet", "items", "[I", true)
  | 1 => ("DollsAhead$Sheet", "form", "I", false)
  | _ => ("DollsAhead$Sheet", "size", "I", false)
def tyX4 : Nat → FieldType := fun k => match k with
  | 0 => .array .int
  | 1 => .int
  | _ => .int
abbrev wsX40 : List Cond := u_ws RX4 TX4 3
theorem nmX4 : ∀ a, a < 3 → ∀ b, b < 3 → a ≠ b → (TX4 a).2.1 ≠ (TX4 b).2.1 := by decide +kernel
theorem tyX4_ok : ∀ k, k < 3 → parseFieldDescriptor (TX4 k).2.2.1 = some (tyX4 k) := by decide +kernel
abbrev cX4_init : ByteArray := prog_6_method_1_code
def yX4_init : MethodName := ⟨RX4, "<init>", "()V"⟩
abbrev cX4_isLost : ByteArray := prog_6_method_2_code
def yX4_isLost : MethodName := ⟨RX4, "isLost", "()Z"⟩
abbrev cX4_become : ByteArray := prog_6_method_3_code
def yX4_become : MethodName := ⟨RX4, "become", "(II)V"⟩
abbrev cX4_holds : ByteArray := prog_6_method_4_code
def yX4_holds : MethodName := ⟨RX4, "holds", "(II)Z"⟩
abbrev cX4_lay : ByteArray := prog_6_method_5_code
def yX4_lay : MethodName := ⟨RX4, "lay", "(II)V"⟩
def RX5 : String := "DollsAhead$Sights"
def TX5 : u_T := fun k => match k with
  | 0 => ("DollsAhead$Sights", "hours", "[I", true)
  | 1 => ("DollsAhead$Sights", "persons", "[I", true)
  | 2 => ("DollsAhead$Sights", "rooms", "[I", true)
  | _ => ("DollsAhead$Sights", "size", "I", false)
def tyX5 : Nat → FieldType := fun k => match k with
  | 0 => .array .int
  | 1 => .array .int
  | 2 => .array .int
  | _ => .int
abbrev wsX50 : List Cond := u_ws RX5 TX5 4
theorem nmX5 : ∀ a, a < 4 → ∀ b, b < 4 → a ≠ b → (TX5 a).2.1 ≠ (TX5 b).2.1 := by decide +kernel
theorem tyX5_ok : ∀ k, k < 4 → parseFieldDescriptor (TX5 k).2.2.1 = some (tyX5 k) := by decide +kernel
abbrev cX5_init : ByteArray := prog_7_method_1_code
def yX5_init : MethodName := ⟨RX5, "<init>", "()V"⟩
abbrev cX5_add : ByteArray := prog_7_method_2_code
def yX5_add : MethodName := ⟨RX5, "add", "(III)V"⟩
abbrev cX5_allIn : ByteArray := prog_7_method_3_code
def yX5_allIn : MethodName := ⟨RX5, "allIn", "(LDollsAhead$Week;)Z"⟩
def RX6 : String := "DollsAhead$Text"
abbrev cX6_init : ByteArray := prog_8_method_1_code
def yX6_init : MethodName := ⟨RX6, "<init>", "(II)V"⟩
abbrev cX6_isFull : ByteArray := prog_8_method_4_code
def yX6_isFull : MethodName := ⟨RX6, "isFull", "()Z"⟩
abbrev cX6_add : ByteArray := prog_8_method_5_code
def yX6_add : MethodName := ⟨RX6, "add", "(I)V"⟩
abbrev cX6_shorten : ByteArray := prog_8_method_6_code
def yX6_shorten : MethodName := ⟨RX6, "shorten", "(I)V"⟩
abbrev cX6_isFigure : ByteArray := prog_8_method_7_code
def yX6_isFigure : MethodName := ⟨RX6, "isFigure", "(I)Z"⟩
abbrev cX6_figure : ByteArray := prog_8_method_8_code
def yX6_figure : MethodName := ⟨RX6, "figure", "(I)I"⟩
abbrev cX6_understand : ByteArray := prog_8_method_9_code
def yX6_understand : MethodName := ⟨RX6, "understand", "()V"⟩
abbrev cX6_firstFault : ByteArray := prog_8_method_10_code
def yX6_firstFault : MethodName := ⟨RX6, "firstFault", "()I"⟩
def RX7 : String := "DollsAhead$Week"
def TX7 : u_T := fun k => match k with
  | 0 => ("DollsAhead$Week", "doors", "LDollsAhead$Doors;", true)
  | 1 => ("DollsAhead$Week", "people", "LDollsAhead$People;", true)
  | 2 => ("DollsAhead$Week", "where", "[I", true)
  | 3 => ("DollsAhead$Week", "hams", "[I", true)
  | 4 => ("DollsAhead$Week", "shuts", "[I", true)
  | 5 => ("DollsAhead$Week", "tables", "[I", true)
  | 6 => ("DollsAhead$Week", "steps", "[I", true)
  | 7 => ("DollsAhead$Week", "shutInSpan", "[I", true)
  | 8 => ("DollsAhead$Week", "events", "LDollsAhead$Events;", false)
  | 9 => ("DollsAhead$Week", "without", "I", false)
  | 10 => ("DollsAhead$Week", "lead", "I", false)
  | 11 => ("DollsAhead$Week", "who", "I", false)
  | 12 => ("DollsAhead$Week", "sortOfWho", "I", false)
  | _ => ("DollsAhead$Week", "bedOfWho", "I", false)
def tyX7 : Nat → FieldType := fun k => match k with
  | 0 => .object "DollsAhead$Doors"
  | 1 => .object "DollsAhead$People"
  | 2 => .array .int
  | 3 => .array .int
  | 4 => .array .int
  | 5 => .array .int
  | 6 => .array .int
  | 7 => .array .int
  | 8 => .object "DollsAhead$Events"
  | 9 => .int
  | 10 => .int
  | 11 => .int
  | 12 => .int
  | _ => .int
abbrev wsX70 : List Cond := u_ws RX7 TX7 14
theorem nmX7 : ∀ a, a < 14 → ∀ b, b < 14 → a ≠ b → (TX7 a).2.1 ≠ (TX7 b).2.1 := by decide +kernel
theorem tyX7_ok : ∀ k, k < 14 → parseFieldDescriptor (TX7 k).2.2.1 = some (tyX7 k) := by decide +kernel
abbrev cX7_init : ByteArray := prog_9_method_1_code
def yX7_init : MethodName := ⟨RX7, "<init>", "(LDollsAhead$Doors;LDollsAhead$People;LDollsAhead$Events;)V"⟩
abbrev cX7_forgetSteps : ByteArray := prog_9_method_2_code
def yX7_forgetSteps : MethodName := ⟨RX7, "forgetSteps", "()V"⟩
abbrev cX7_suppose : ByteArray := prog_9_method_3_code
def yX7_suppose : MethodName := ⟨RX7, "suppose", "(III)V"⟩
abbrev cX7_runWith : ByteArray := prog_9_method_4_code
def yX7_runWith : MethodName := ⟨RX7, "runWith", "(LDollsAhead$Events;II)V"⟩
abbrev cX7_layHours : ByteArray := prog_9_method_5_code
def yX7_layHours : MethodName := ⟨RX7, "layHours", "()V"⟩
abbrev cX7_layTables : ByteArray := prog_9_method_6_code
def yX7_layTables : MethodName := ⟨RX7, "layTables", "()V"⟩
abbrev cX7_walk : ByteArray := prog_9_method_7_code
def yX7_walk : MethodName := ⟨RX7, "walk", "(II)V"⟩
abbrev cX7_sortOf : ByteArray := prog_9_method_8_code
def yX7_sortOf : MethodName := ⟨RX7, "sortOf", "(I)I"⟩
abbrev cX7_bedOf : ByteArray := prog_9_method_9_code
def yX7_bedOf : MethodName := ⟨RX7, "bedOf", "(I)I"⟩
abbrev cX7_roomOf : ByteArray := prog_9_method_10_code
def yX7_roomOf : MethodName := ⟨RX7, "roomOf", "(II)I"⟩
abbrev cX7_whoIn : ByteArray := prog_9_method_11_code
def yX7_whoIn : MethodName := ⟨RX7, "whoIn", "(II)I"⟩
abbrev cX7_doorsBetween : ByteArray := prog_9_method_12_code
def yX7_doorsBetween : MethodName := ⟨RX7, "doorsBetween", "(III)I"⟩
abbrev cX7_emptyHours : ByteArray := prog_9_method_13_code
def yX7_emptyHours : MethodName := ⟨RX7, "emptyHours", "(I)I"⟩
abbrev cX7_aloneBehind : ByteArray := prog_9_method_14_code
def yX7_aloneBehind : MethodName := ⟨RX7, "aloneBehind", "(I)I"⟩
abbrev cX7_hoursAlone : ByteArray := prog_9_method_15_code
def yX7_hoursAlone : MethodName := ⟨RX7, "hoursAlone", "(I)I"⟩
abbrev cX7_mostIn : ByteArray := prog_9_method_16_code
def yX7_mostIn : MethodName := ⟨RX7, "mostIn", "(I)I"⟩
abbrev cX7_firstRoomOf : ByteArray := prog_9_method_17_code
def yX7_firstRoomOf : MethodName := ⟨RX7, "firstRoomOf", "(II)I"⟩
abbrev cX7_findingHour : ByteArray := prog_9_method_18_code
def yX7_findingHour : MethodName := ⟨RX7, "findingHour", "()I"⟩
abbrev cX7_finder : ByteArray := prog_9_method_19_code
def yX7_finder : MethodName := ⟨RX7, "finder", "(I)I"⟩
abbrev cX7_childWith : ByteArray := prog_9_method_20_code
def yX7_childWith : MethodName := ⟨RX7, "childWith", "(II)I"⟩
def RX8 : String := "DollsAhead"
def TX8 : u_T := fun k => match k with
  | 0 => ("DollsAhead", "doors", "LDollsAhead$Doors;", true)
  | 1 => ("DollsAhead", "people", "LDollsAhead$People;", true)
  | 2 => ("DollsAhead", "told", "LDollsAhead$Events;", true)
  | 3 => ("DollsAhead", "supposed", "LDollsAhead$Events;", true)
  | 4 => ("DollsAhead", "lots", "LDollsAhead$Lots;", true)
  | 5 => ("DollsAhead", "sights", "LDollsAhead$Sights;", true)
  | 6 => ("DollsAhead", "sheets", "[LDollsAhead$Sheet;", true)
  | 7 => ("DollsAhead", "now", "LDollsAhead$Week;", true)
  | 8 => ("DollsAhead", "trial", "LDollsAhead$Week;", true)
  | 9 => ("DollsAhead", "paths", "[I", true)
  | 10 => ("DollsAhead", "crowds", "[I", true)
  | 11 => ("DollsAhead", "odds", "[J", true)
  | 12 => ("DollsAhead", "lead", "I", false)
  | 13 => ("DollsAhead", "finding", "I", false)
  | 14 => ("DollsAhead", "nowStands", "Z", false)
  | 15 => ("DollsAhead", "oddsSixteenths", "I", false)
  | _ => ("DollsAhead", "oddsHour", "I", false)
def tyX8 : Nat → FieldType := fun k => match k with
  | 0 => .object "DollsAhead$Doors"
  | 1 => .object "DollsAhead$People"
  | 2 => .object "DollsAhead$Events"
  | 3 => .object "DollsAhead$Events"
  | 4 => .object "DollsAhead$Lots"
  | 5 => .object "DollsAhead$Sights"
  | 6 => .array (.object "DollsAhead$Sheet")
  | 7 => .object "DollsAhead$Week"
  | 8 => .object "DollsAhead$Week"
  | 9 => .array .int
  | 10 => .array .int
  | 11 => .array .long
  | 12 => .int
  | 13 => .int
  | 14 => .boolean
  | 15 => .int
  | _ => .int
abbrev wsX80 : List Cond := u_ws RX8 TX8 17
theorem nmX8 : ∀ a, a < 17 → ∀ b, b < 17 → a ≠ b → (TX8 a).2.1 ≠ (TX8 b).2.1 := by decide +kernel
theorem tyX8_ok : ∀ k, k < 17 → parseFieldDescriptor (TX8 k).2.2.1 = some (tyX8 k) := by decide +kernel
abbrev cX8_init : ByteArray := prog_1_method_1_code
def yX8_init : MethodName := ⟨RX8, "<init>", "()V"⟩
abbrev cX8_type : ByteArray := prog_1_method_2_code
def yX8_type : MethodName := ⟨RX8, "type", "(II)I"⟩
abbrev cX8_wipe : ByteArray := prog_1_method_3_code
def yX8_wipe : MethodName := ⟨RX8, "wipe", "(I)I"⟩
abbrev cX8_undo : ByteArray := prog_1_method_4_code
def yX8_undo : MethodName := ⟨RX8, "undo", "(I)I"⟩
abbrev cX8_fault : ByteArray := prog_1_method_5_code
def yX8_fault : MethodName := ⟨RX8, "fault", "(I)I"⟩
abbrev cX8_door : ByteArray := prog_1_method_6_code
def yX8_door : MethodName := ⟨RX8, "door", "(II)I"⟩
abbrev cX8_person : ByteArray := prog_1_method_7_code
def yX8_person : MethodName := ⟨RX8, "person", "(II)I"⟩
abbrev cX8_ahead : ByteArray := prog_1_method_8_code
def yX8_ahead : MethodName := ⟨RX8, "ahead", "(I)I"⟩
abbrev cX8_event : ByteArray := prog_1_method_9_code
def yX8_event : MethodName := ⟨RX8, "event", "(III)I"⟩
abbrev cX8_back : ByteArray := prog_1_method_10_code
def yX8_back : MethodName := ⟨RX8, "back", "()I"⟩
abbrev cX8_read : ByteArray := prog_1_method_11_code
def yX8_read : MethodName := ⟨RX8, "read", "(I)I"⟩
abbrev cX8_at : ByteArray := prog_1_method_12_code
def yX8_at : MethodName := ⟨RX8, "at", "(III)I"⟩
abbrev cX8_room : ByteArray := prog_1_method_13_code
def yX8_room : MethodName := ⟨RX8, "room", "(II)I"⟩
abbrev cX8_far : ByteArray := prog_1_method_14_code
def yX8_far : MethodName := ⟨RX8, "far", "(III)I"⟩
abbrev cX8_meet : ByteArray := prog_1_method_15_code
def yX8_meet : MethodName := ⟨RX8, "meet", "(II)I"⟩
abbrev cX8_empty : ByteArray := prog_1_method_16_code
def yX8_empty : MethodName := ⟨RX8, "empty", "(I)I"⟩
abbrev cX8_found : ByteArray := prog_1_method_17_code
def yX8_found : MethodName := ⟨RX8, "found", "(I)I"⟩
abbrev cX8_crowd : ByteArray := prog_1_method_18_code
def yX8_crowd : MethodName := ⟨RX8, "crowd", "(I)I"⟩
abbrev cX8_alone : ByteArray := prog_1_method_19_code
def yX8_alone : MethodName := ⟨RX8, "alone", "()I"⟩
abbrev cX8_sleep : ByteArray := prog_1_method_20_code
def yX8_sleep : MethodName := ⟨RX8, "sleep", "(II)I"⟩
abbrev cX8_nice : ByteArray := prog_1_method_21_code
def yX8_nice : MethodName := ⟨RX8, "nice", "(II)I"⟩
abbrev cX8_lens : ByteArray := prog_1_method_22_code
def yX8_lens : MethodName := ⟨RX8, "lens", "(I)I"⟩
abbrev cX8_spare : ByteArray := prog_1_method_23_code
def yX8_spare : MethodName := ⟨RX8, "spare", "(I)I"⟩
abbrev cX8_seen : ByteArray := prog_1_method_24_code
def yX8_seen : MethodName := ⟨RX8, "seen", "(III)I"⟩
abbrev cX8_forget : ByteArray := prog_1_method_25_code
def yX8_forget : MethodName := ⟨RX8, "forget", "()I"⟩
abbrev cX8_never : ByteArray := prog_1_method_26_code
def yX8_never : MethodName := ⟨RX8, "never", "()I"⟩
abbrev cX8_was : ByteArray := prog_1_method_27_code
def yX8_was : MethodName := ⟨RX8, "was", "(II)I"⟩
abbrev cX8_ask : ByteArray := prog_1_method_28_code
def yX8_ask : MethodName := ⟨RX8, "ask", "(I)I"⟩
abbrev cX8_chance : ByteArray := prog_1_method_29_code
def yX8_chance : MethodName := ⟨RX8, "chance", "(IIII)J"⟩
abbrev cX8_weeks : ByteArray := prog_1_method_30_code
def yX8_weeks : MethodName := ⟨RX8, "weeks", "(III)I"⟩
abbrev cX8_sheet : ByteArray := prog_1_method_31_code
def yX8_sheet : MethodName := ⟨RX8, "sheet", "(III)I"⟩
abbrev cX8_lose : ByteArray := prog_1_method_32_code
def yX8_lose : MethodName := ⟨RX8, "lose", "(I)I"⟩
abbrev cX8_put : ByteArray := prog_1_method_33_code
def yX8_put : MethodName := ⟨RX8, "put", "(IIII)I"⟩
abbrev cX8_get : ByteArray := prog_1_method_34_code
def yX8_get : MethodName := ⟨RX8, "get", "(III)I"⟩
abbrev cX8_copy : ByteArray := prog_1_method_35_code
def yX8_copy : MethodName := ⟨RX8, "copy", "(IIIII)I"⟩
abbrev cX8_write : ByteArray := prog_1_method_36_code
def yX8_write : MethodName := ⟨RX8, "write", "(II)I"⟩
abbrev cX8_count : ByteArray := prog_1_method_37_code
def yX8_count : MethodName := ⟨RX8, "count", "(I)I"⟩
abbrev cX8_digest : ByteArray := prog_1_method_38_code
def yX8_digest : MethodName := ⟨RX8, "digest", "()J"⟩
abbrev cX8_mix : ByteArray := prog_1_method_39_code
def yX8_mix : MethodName := ⟨RX8, "mix", "(JJ)J"⟩
abbrev cX8_mixStays : ByteArray := prog_1_method_40_code
def yX8_mixStays : MethodName := ⟨RX8, "mixStays", "(JI)J"⟩
abbrev cX8_mixGuesses : ByteArray := prog_1_method_41_code
def yX8_mixGuesses : MethodName := ⟨RX8, "mixGuesses", "(JI)J"⟩
abbrev cX8_within : ByteArray := prog_1_method_42_code
def yX8_within : MethodName := ⟨RX8, "within", "(III)Z"⟩
abbrev cX8_isHour : ByteArray := prog_1_method_43_code
def yX8_isHour : MethodName := ⟨RX8, "isHour", "(I)Z"⟩
abbrev cX8_isRoom : ByteArray := prog_1_method_44_code
def yX8_isRoom : MethodName := ⟨RX8, "isRoom", "(I)Z"⟩
abbrev cX8_isSheet : ByteArray := prog_1_method_45_code
def yX8_isSheet : MethodName := ⟨RX8, "isSheet", "(I)Z"⟩
abbrev cX8_isForm : ByteArray := prog_1_method_46_code
def yX8_isForm : MethodName := ⟨RX8, "isForm", "(I)Z"⟩
abbrev cX8_isEvent : ByteArray := prog_1_method_47_code
def yX8_isEvent : MethodName := ⟨RX8, "isEvent", "(III)Z"⟩
abbrev cX8_isPerson : ByteArray := prog_1_method_48_code
def yX8_isPerson : MethodName := ⟨RX8, "isPerson", "(I)Z"⟩
abbrev cX8_textOf : ByteArray := prog_1_method_49_code
def yX8_textOf : MethodName := ⟨RX8, "textOf", "(I)LDollsAhead$Text;"⟩
abbrev cX8_textChanged : ByteArray := prog_1_method_50_code
def yX8_textChanged : MethodName := ⟨RX8, "textChanged", "()V"⟩
abbrev cX8_changed : ByteArray := prog_1_method_51_code
def yX8_changed : MethodName := ⟨RX8, "changed", "()V"⟩
abbrev cX8_weekAsTold : ByteArray := prog_1_method_52_code
def yX8_weekAsTold : MethodName := ⟨RX8, "weekAsTold", "()LDollsAhead$Week;"⟩
abbrev cX8_emptyHoursOfAll : ByteArray := prog_1_method_53_code
def yX8_emptyHoursOfAll : MethodName := ⟨RX8, "emptyHoursOfAll", "()I"⟩
abbrev cX8_sparedRow : ByteArray := prog_1_method_54_code
def yX8_sparedRow : MethodName := ⟨RX8, "sparedRow", "()I"⟩
abbrev cX8_nobodyAloneWithout : ByteArray := prog_1_method_55_code
def yX8_nobodyAloneWithout : MethodName := ⟨RX8, "nobodyAloneWithout", "(I)Z"⟩
abbrev cX8_placeOfBit : ByteArray := prog_1_method_56_code
def yX8_placeOfBit : MethodName := ⟨RX8, "placeOfBit", "(II)I"⟩
abbrev cX8_sortsThatFit : ByteArray := prog_1_method_57_code
def yX8_sortsThatFit : MethodName := ⟨RX8, "sortsThatFit", "(I)I"⟩
abbrev cX8_bedsThatFit : ByteArray := prog_1_method_58_code
def yX8_bedsThatFit : MethodName := ⟨RX8, "bedsThatFit", "(I)I"⟩
abbrev cX8_mostBedsInOneRoom : ByteArray := prog_1_method_59_code
def yX8_mostBedsInOneRoom : MethodName := ⟨RX8, "mostBedsInOneRoom", "(II)I"⟩
abbrev cX8_weighOdds : ByteArray := prog_1_method_60_code
def yX8_weighOdds : MethodName := ⟨RX8, "weighOdds", "(II)V"⟩
abbrev cX8_weightOf : ByteArray := prog_1_method_61_code
def yX8_weightOf : MethodName := ⟨RX8, "weightOf", "(II)J"⟩
abbrev cX8_addOdds : ByteArray := prog_1_method_62_code
def yX8_addOdds : MethodName := ⟨RX8, "addOdds", "(IJ)V"⟩
abbrev cX8_refuse : ByteArray := prog_1_method_63_code
def yX8_refuse : MethodName := ⟨RX8, "refuse", "(I)I"⟩
abbrev cX8_refusalOfItem : ByteArray := prog_1_method_64_code
def yX8_refusalOfItem : MethodName := ⟨RX8, "refusalOfItem", "(III)I"⟩
def RX9 : String := "DollsAheadModel"
def TX9 : u_T := fun k => match k with
  | 0 => ("DollsAheadModel", "typed", "[I", true)
  | 1 => ("DollsAheadModel", "texts", "[I", true)
  | 2 => ("DollsAheadModel", "doors", "I", false)
  | 3 => ("DollsAheadModel", "ones", "[I", true)
  | 4 => ("DollsAheadModel", "others", "[I", true)
  | 5 => ("DollsAheadModel", "people", "I", false)
  | 6 => ("DollsAheadModel", "sorts", "[I", true)
  | 7 => ("DollsAheadModel", "rooms", "[I", true)
  | 8 => ("DollsAheadModel", "beds", "[I", true)
  | 9 => ("DollsAheadModel", "aheadTold", "I", false)
  | 10 => ("DollsAheadModel", "events", "I", false)
  | 11 => ("DollsAheadModel", "eventKind", "[I", true)
  | 12 => ("DollsAheadModel", "eventHour", "[I", true)
  | 13 => ("DollsAheadModel", "eventNumber", "[I", true)
  | 14 => ("DollsAheadModel", "aheadNow", "I", false)
  | 15 => ("DollsAheadModel", "eventsNow", "I", false)
  | 16 => ("DollsAheadModel", "kindNow", "[I", true)
  | 17 => ("DollsAheadModel", "hourNow", "[I", true)
  | 18 => ("DollsAheadModel", "numberNow", "[I", true)
  | 19 => ("DollsAheadModel", "notEvents", "I", false)
  | 20 => ("DollsAheadModel", "ham", "I", false)
  | 21 => ("DollsAheadModel", "shutBits", "I", false)
  | 22 => ("DollsAheadModel", "hamAt", "[I", true)
  | 23 => ("DollsAheadModel", "farAt", "[I", true)
  | 24 => ("DollsAheadModel", "roomAt", "[I", true)
  | 25 => ("DollsAheadModel", "planRow", "[I", true)
  | 26 => ("DollsAheadModel", "seens", "I", false)
  | 27 => ("DollsAheadModel", "seenHour", "[I", true)
  | 28 => ("DollsAheadModel", "seenWho", "[I", true)
  | 29 => ("DollsAheadModel", "seenRoom", "[I", true)
  | 30 => ("DollsAheadModel", "roomBy", "[I", true)
  | 31 => ("DollsAheadModel", "isThere", "[Z", true)
  | 32 => ("DollsAheadModel", "forms", "[I", true)
  | 33 => ("DollsAheadModel", "sizes", "[I", true)
  | 34 => ("DollsAheadModel", "items", "[I", true)
  | 35 => ("DollsAheadModel", "moved", "[I", true)
  | _ => ("DollsAheadModel", "finding", "I", false)
def tyX9 : Nat → FieldType := fun k => match k with
  | 0 => .array .int
  | 1 => .array .int
  | 2 => .int
  | 3 => .array .int
  | 4 => .array .int
  | 5 => .int
  | 6 => .array .int
  | 7 => .array .int
  | 8 => .array .int
  | 9 => .int
  | 10 => .int
  | 11 => .array .int
  | 12 => .array .int
  | 13 => .array .int
  | 14 => .int
  | 15 => .int
  | 16 => .array .int
  | 17 => .array .int
  | 18 => .array .int
  | 19 => .int
  | 20 => .int
  | 21 => .int
  | 22 => .array .int
  | 23 => .array .int
  | 24 => .array .int
  | 25 => .array .int
  | 26 => .int
  | 27 => .array .int
  | 28 => .array .int
  | 29 => .array .int
  | 30 => .array .int
  | 31 => .array .boolean
  | 32 => .array .int
  | 33 => .array .int
  | 34 => .array .int
  | 35 => .array .int
  | _ => .int
abbrev wsX90 : List Cond := u_ws RX9 TX9 37
theorem nmX9 : ∀ a, a < 37 → ∀ b, b < 37 → a ≠ b → (TX9 a).2.1 ≠ (TX9 b).2.1 := by decide +kernel
theorem tyX9_ok : ∀ k, k < 37 → parseFieldDescriptor (TX9 k).2.2.1 = some (tyX9 k) := by decide +kernel
abbrev cX9_init : ByteArray := prog_11_method_1_code
def yX9_init : MethodName := ⟨RX9, "<init>", "()V"⟩
abbrev cX9_in : ByteArray := prog_11_method_3_code
def yX9_in : MethodName := ⟨RX9, "in", "(III)Z"⟩
abbrev cX9_isIn : ByteArray := prog_11_method_4_code
def yX9_isIn : MethodName := ⟨RX9, "isIn", "(II)Z"⟩
abbrev cX9_no : ByteArray := prog_11_method_5_code
def yX9_no : MethodName := ⟨RX9, "no", "(I)J"⟩
abbrev cX9_lowest : ByteArray := prog_11_method_6_code
def yX9_lowest : MethodName := ⟨RX9, "lowest", "(JJI)J"⟩
abbrev cX9_isText : ByteArray := prog_11_method_7_code
def yX9_isText : MethodName := ⟨RX9, "isText", "(I)Z"⟩
abbrev cX9_isHour : ByteArray := prog_11_method_8_code
def yX9_isHour : MethodName := ⟨RX9, "isHour", "(I)Z"⟩
abbrev cX9_isTwo : ByteArray := prog_11_method_9_code
def yX9_isTwo : MethodName := ⟨RX9, "isTwo", "(I)Z"⟩
abbrev cX9_isThree : ByteArray := prog_11_method_10_code
def yX9_isThree : MethodName := ⟨RX9, "isThree", "(I)Z"⟩
abbrev cX9_isEight : ByteArray := prog_11_method_11_code
def yX9_isEight : MethodName := ⟨RX9, "isEight", "(I)Z"⟩
abbrev cX9_type : ByteArray := prog_11_method_12_code
def yX9_type : MethodName := ⟨RX9, "type", "(II)I"⟩
abbrev cX9_wipe : ByteArray := prog_11_method_13_code
def yX9_wipe : MethodName := ⟨RX9, "wipe", "(I)I"⟩
abbrev cX9_undo : ByteArray := prog_11_method_14_code
def yX9_undo : MethodName := ⟨RX9, "undo", "(I)I"⟩
abbrev cX9_byteAt : ByteArray := prog_11_method_15_code
def yX9_byteAt : MethodName := ⟨RX9, "byteAt", "(II)I"⟩
abbrev cX9_readsDoor : ByteArray := prog_11_method_16_code
def yX9_readsDoor : MethodName := ⟨RX9, "readsDoor", "(II)I"⟩
abbrev cX9_readsPerson : ByteArray := prog_11_method_17_code
def yX9_readsPerson : MethodName := ⟨RX9, "readsPerson", "(II)I"⟩
abbrev cX9_readsParts : ByteArray := prog_11_method_18_code
def yX9_readsParts : MethodName := ⟨RX9, "readsParts", "(I)I"⟩
abbrev cX9_faultOf : ByteArray := prog_11_method_19_code
def yX9_faultOf : MethodName := ⟨RX9, "faultOf", "(I)I"⟩
abbrev cX9_reads : ByteArray := prog_11_method_20_code
def yX9_reads : MethodName := ⟨RX9, "reads", "()V"⟩
abbrev cX9_fault : ByteArray := prog_11_method_21_code
def yX9_fault : MethodName := ⟨RX9, "fault", "(I)I"⟩
abbrev cX9_isDoor : ByteArray := prog_11_method_22_code
def yX9_isDoor : MethodName := ⟨RX9, "isDoor", "(I)Z"⟩
abbrev cX9_isPerson : ByteArray := prog_11_method_23_code
def yX9_isPerson : MethodName := ⟨RX9, "isPerson", "(I)Z"⟩
abbrev cX9_doorOf : ByteArray := prog_11_method_24_code
def yX9_doorOf : MethodName := ⟨RX9, "doorOf", "(II)I"⟩
abbrev cX9_door : ByteArray := prog_11_method_25_code
def yX9_door : MethodName := ⟨RX9, "door", "(II)I"⟩
abbrev cX9_personOf : ByteArray := prog_11_method_26_code
def yX9_personOf : MethodName := ⟨RX9, "personOf", "(II)I"⟩
abbrev cX9_person : ByteArray := prog_11_method_27_code
def yX9_person : MethodName := ⟨RX9, "person", "(II)I"⟩
abbrev cX9_ahead : ByteArray := prog_11_method_28_code
def yX9_ahead : MethodName := ⟨RX9, "ahead", "(I)I"⟩
abbrev cX9_event : ByteArray := prog_11_method_29_code
def yX9_event : MethodName := ⟨RX9, "event", "(III)I"⟩
abbrev cX9_back : ByteArray := prog_11_method_30_code
def yX9_back : MethodName := ⟨RX9, "back", "()I"⟩
abbrev cX9_read : ByteArray := prog_11_method_31_code
def yX9_read : MethodName := ⟨RX9, "read", "(I)I"⟩
abbrev cX9_asTold : ByteArray := prog_11_method_32_code
def yX9_asTold : MethodName := ⟨RX9, "asTold", "()V"⟩
abbrev cX9_befalls : ByteArray := prog_11_method_33_code
def yX9_befalls : MethodName := ⟨RX9, "befalls", "(I)V"⟩
abbrev cX9_nears : ByteArray := prog_11_method_34_code
def yX9_nears : MethodName := ⟨RX9, "nears", "(IIII)V"⟩
abbrev cX9_measures : ByteArray := prog_11_method_35_code
def yX9_measures : MethodName := ⟨RX9, "measures", "(I)V"⟩
abbrev cX9_isBeside : ByteArray := prog_11_method_36_code
def yX9_isBeside : MethodName := ⟨RX9, "isBeside", "(III)Z"⟩
abbrev cX9_step : ByteArray := prog_11_method_37_code
def yX9_step : MethodName := ⟨RX9, "step", "(III)I"⟩
abbrev cX9_leastChild : ByteArray := prog_11_method_38_code
def yX9_leastChild : MethodName := ⟨RX9, "leastChild", "()I"⟩
abbrev cX9_goesThrough : ByteArray := prog_11_method_39_code
def yX9_goesThrough : MethodName := ⟨RX9, "goesThrough", "(II)V"⟩
abbrev cX9_runs : ByteArray := prog_11_method_40_code
def yX9_runs : MethodName := ⟨RX9, "runs", "()V"⟩
abbrev cX9_runsTold : ByteArray := prog_11_method_41_code
def yX9_runsTold : MethodName := ⟨RX9, "runsTold", "()V"⟩
abbrev cX9_atOf : ByteArray := prog_11_method_42_code
def yX9_atOf : MethodName := ⟨RX9, "atOf", "(III)I"⟩
abbrev cX9_at : ByteArray := prog_11_method_43_code
def yX9_at : MethodName := ⟨RX9, "at", "(III)I"⟩
abbrev cX9_inRoom : ByteArray := prog_11_method_44_code
def yX9_inRoom : MethodName := ⟨RX9, "inRoom", "(II)I"⟩
abbrev cX9_roomOf : ByteArray := prog_11_method_45_code
def yX9_roomOf : MethodName := ⟨RX9, "roomOf", "(II)I"⟩
abbrev cX9_room : ByteArray := prog_11_method_46_code
def yX9_room : MethodName := ⟨RX9, "room", "(II)I"⟩
abbrev cX9_farOf : ByteArray := prog_11_method_47_code
def yX9_farOf : MethodName := ⟨RX9, "farOf", "(III)I"⟩
abbrev cX9_far : ByteArray := prog_11_method_48_code
def yX9_far : MethodName := ⟨RX9, "far", "(III)I"⟩
abbrev cX9_metOf : ByteArray := prog_11_method_49_code
def yX9_metOf : MethodName := ⟨RX9, "metOf", "(II)I"⟩
abbrev cX9_meet : ByteArray := prog_11_method_50_code
def yX9_meet : MethodName := ⟨RX9, "meet", "(II)I"⟩
abbrev cX9_emptyNow : ByteArray := prog_11_method_51_code
def yX9_emptyNow : MethodName := ⟨RX9, "emptyNow", "(I)I"⟩
abbrev cX9_emptyOf : ByteArray := prog_11_method_52_code
def yX9_emptyOf : MethodName := ⟨RX9, "emptyOf", "(I)I"⟩
abbrev cX9_empty : ByteArray := prog_11_method_53_code
def yX9_empty : MethodName := ⟨RX9, "empty", "(I)I"⟩
abbrev cX9_foundNow : ByteArray := prog_11_method_54_code
def yX9_foundNow : MethodName := ⟨RX9, "foundNow", "(I)I"⟩
abbrev cX9_foundOf : ByteArray := prog_11_method_55_code
def yX9_foundOf : MethodName := ⟨RX9, "foundOf", "(I)I"⟩
abbrev cX9_found : ByteArray := prog_11_method_56_code
def yX9_found : MethodName := ⟨RX9, "found", "(I)I"⟩
abbrev cX9_many : ByteArray := prog_11_method_57_code
def yX9_many : MethodName := ⟨RX9, "many", "(I)I"⟩
abbrev cX9_crowdOf : ByteArray := prog_11_method_58_code
def yX9_crowdOf : MethodName := ⟨RX9, "crowdOf", "(I)I"⟩
abbrev cX9_crowd : ByteArray := prog_11_method_59_code
def yX9_crowd : MethodName := ⟨RX9, "crowd", "(I)I"⟩
abbrev cX9_isByItself : ByteArray := prog_11_method_60_code
def yX9_isByItself : MethodName := ⟨RX9, "isByItself", "(II)Z"⟩
abbrev cX9_aloneNow : ByteArray := prog_11_method_61_code
def yX9_aloneNow : MethodName := ⟨RX9, "aloneNow", "()I"⟩
abbrev cX9_aloneOf : ByteArray := prog_11_method_62_code
def yX9_aloneOf : MethodName := ⟨RX9, "aloneOf", "()I"⟩
abbrev cX9_alone : ByteArray := prog_11_method_63_code
def yX9_alone : MethodName := ⟨RX9, "alone", "()I"⟩
abbrev cX9_hoursByItself : ByteArray := prog_11_method_64_code
def yX9_hoursByItself : MethodName := ⟨RX9, "hoursByItself", "(I)I"⟩
abbrev cX9_sleepOf : ByteArray := prog_11_method_65_code
def yX9_sleepOf : MethodName := ⟨RX9, "sleepOf", "(II)I"⟩
abbrev cX9_sleep : ByteArray := prog_11_method_66_code
def yX9_sleep : MethodName := ⟨RX9, "sleep", "(II)I"⟩
abbrev cX9_mostAt : ByteArray := prog_11_method_67_code
def yX9_mostAt : MethodName := ⟨RX9, "mostAt", "(I)I"⟩
abbrev cX9_niceOf : ByteArray := prog_11_method_68_code
def yX9_niceOf : MethodName := ⟨RX9, "niceOf", "(II)I"⟩
abbrev cX9_nice : ByteArray := prog_11_method_69_code
def yX9_nice : MethodName := ⟨RX9, "nice", "(II)I"⟩
abbrev cX9_lensOf : ByteArray := prog_11_method_70_code
def yX9_lensOf : MethodName := ⟨RX9, "lensOf", "(I)I"⟩
abbrev cX9_lens : ByteArray := prog_11_method_71_code
def yX9_lens : MethodName := ⟨RX9, "lens", "(I)I"⟩
abbrev cX9_isSpared : ByteArray := prog_11_method_72_code
def yX9_isSpared : MethodName := ⟨RX9, "isSpared", "(I)Z"⟩
abbrev cX9_spareBy : ByteArray := prog_11_method_73_code
def yX9_spareBy : MethodName := ⟨RX9, "spareBy", "()I"⟩
abbrev cX9_ofRow : ByteArray := prog_11_method_74_code
def yX9_ofRow : MethodName := ⟨RX9, "ofRow", "(II)I"⟩
abbrev cX9_spare : ByteArray := prog_11_method_75_code
def yX9_spare : MethodName := ⟨RX9, "spare", "(I)I"⟩
abbrev cX9_seen : ByteArray := prog_11_method_76_code
def yX9_seen : MethodName := ⟨RX9, "seen", "(III)I"⟩
abbrev cX9_forget : ByteArray := prog_11_method_77_code
def yX9_forget : MethodName := ⟨RX9, "forget", "()I"⟩
abbrev cX9_isSeen : ByteArray := prog_11_method_78_code
def yX9_isSeen : MethodName := ⟨RX9, "isSeen", "()Z"⟩
abbrev cX9_neverNow : ByteArray := prog_11_method_79_code
def yX9_neverNow : MethodName := ⟨RX9, "neverNow", "()I"⟩
abbrev cX9_never : ByteArray := prog_11_method_80_code
def yX9_never : MethodName := ⟨RX9, "never", "()I"⟩
abbrev cX9_sortsBy : ByteArray := prog_11_method_81_code
def yX9_sortsBy : MethodName := ⟨RX9, "sortsBy", "(I)I"⟩
abbrev cX9_bedsBy : ByteArray := prog_11_method_82_code
def yX9_bedsBy : MethodName := ⟨RX9, "bedsBy", "(I)I"⟩
abbrev cX9_was : ByteArray := prog_11_method_83_code
def yX9_was : MethodName := ⟨RX9, "was", "(II)I"⟩
abbrev cX9_askOf : ByteArray := prog_11_method_84_code
def yX9_askOf : MethodName := ⟨RX9, "askOf", "(I)I"⟩
abbrev cX9_ask : ByteArray := prog_11_method_85_code
def yX9_ask : MethodName := ⟨RX9, "ask", "(I)I"⟩
abbrev cX9_chanceOf : ByteArray := prog_11_method_86_code
def yX9_chanceOf : MethodName := ⟨RX9, "chanceOf", "(IIII)J"⟩
abbrev cX9_chance : ByteArray := prog_11_method_87_code
def yX9_chance : MethodName := ⟨RX9, "chance", "(IIII)J"⟩
abbrev cX9_weeksOf : ByteArray := prog_11_method_88_code
def yX9_weeksOf : MethodName := ⟨RX9, "weeksOf", "(III)I"⟩
abbrev cX9_weeks : ByteArray := prog_11_method_89_code
def yX9_weeks : MethodName := ⟨RX9, "weeks", "(III)I"⟩
abbrev cX9_meets : ByteArray := prog_11_method_90_code
def yX9_meets : MethodName := ⟨RX9, "meets", "(I)I"⟩
abbrev cX9_isSheet : ByteArray := prog_11_method_91_code
def yX9_isSheet : MethodName := ⟨RX9, "isSheet", "(I)Z"⟩
abbrev cX9_sheet : ByteArray := prog_11_method_92_code
def yX9_sheet : MethodName := ⟨RX9, "sheet", "(III)I"⟩
abbrev cX9_lose : ByteArray := prog_11_method_93_code
def yX9_lose : MethodName := ⟨RX9, "lose", "(I)I"⟩
abbrev cX9_lacks : ByteArray := prog_11_method_94_code
def yX9_lacks : MethodName := ⟨RX9, "lacks", "(III)I"⟩
abbrev cX9_keep : ByteArray := prog_11_method_95_code
def yX9_keep : MethodName := ⟨RX9, "keep", "(III)V"⟩
abbrev cX9_put : ByteArray := prog_11_method_96_code
def yX9_put : MethodName := ⟨RX9, "put", "(IIII)I"⟩
abbrev cX9_get : ByteArray := prog_11_method_97_code
def yX9_get : MethodName := ⟨RX9, "get", "(III)I"⟩
abbrev cX9_copy : ByteArray := prog_11_method_98_code
def yX9_copy : MethodName := ⟨RX9, "copy", "(IIIII)I"⟩
abbrev cX9_write : ByteArray := prog_11_method_99_code
def yX9_write : MethodName := ⟨RX9, "write", "(II)I"⟩
abbrev cX9_sumOf : ByteArray := prog_11_method_100_code
def yX9_sumOf : MethodName := ⟨RX9, "sumOf", "(I)I"⟩
abbrev cX9_count : ByteArray := prog_11_method_101_code
def yX9_count : MethodName := ⟨RX9, "count", "(I)I"⟩
abbrev cX9_hourDigest : ByteArray := prog_11_method_102_code
def yX9_hourDigest : MethodName := ⟨RX9, "hourDigest", "(JII)J"⟩
abbrev cX9_personDigest : ByteArray := prog_11_method_103_code
def yX9_personDigest : MethodName := ⟨RX9, "personDigest", "(JI)J"⟩
abbrev cX9_digest : ByteArray := prog_11_method_104_code
def yX9_digest : MethodName := ⟨RX9, "digest", "()J"⟩
def RJ6 : String := "java/lang/Integer"
abbrev cJ6_bitCount_0f7a4 : ByteArray := prog_12_method_49_code
def yJ6_bitCount_0f7a4 : MethodName := ⟨RJ6, "bitCount", "(I)I"⟩
def RJ9 : String := "java/lang/Math"
abbrev cJ9_max_7cf53 : ByteArray := prog_13_method_65_code
def yJ9_max_7cf53 : MethodName := ⟨RJ9, "max", "(II)I"⟩
abbrev cJ9_min_7cf53 : ByteArray := prog_13_method_69_code
def yJ9_min_7cf53 : MethodName := ⟨RJ9, "min", "(II)I"⟩
def RJ10 : String := "java/lang/System"
def RJ7 : String := "java/util/Arrays"
abbrev cJ7_fill_d0a16 : ByteArray := prog_15_method_101_code
def yJ7_fill_d0a16 : MethodName := ⟨RJ7, "fill", "([JJ)V"⟩
abbrev cJ7_fill_53178 : ByteArray := prog_15_method_103_code
def yJ7_fill_53178 : MethodName := ⟨RJ7, "fill", "([II)V"⟩
def RL : String := "DollsAheadLaw"
abbrev cL_law : ByteArray := code
abbrev vwCl : List vw_C := [(RX0, TX0, 9), (RX1, TX1, 4), (RX2, TX2, 1), (RX3, TX3, 9), (RX4, TX4, 3), (RX5, TX5, 4), (RX7, TX7, 14), (RX8, TX8, 17), (RX9, TX9, 37)]
theorem zq_in0 : ∀ w ∈ wsX00, w ∈ lw_tbl := by decide +kernel
theorem zq_in1 : ∀ w ∈ wsX10, w ∈ lw_tbl := by decide +kernel
theorem zq_in2 : ∀ w ∈ wsX20, w ∈ lw_tbl := by decide +kernel
theorem zq_in3 : ∀ w ∈ wsX30, w ∈ lw_tbl := by decide +kernel
theorem zq_in4 : ∀ w ∈ wsX40, w ∈ lw_tbl := by decide +kernel
theorem zq_in5 : ∀ w ∈ wsX50, w ∈ lw_tbl := by decide +kernel
theorem zq_in7 : ∀ w ∈ wsX70, w ∈ lw_tbl := by decide +kernel
theorem zq_in8 : ∀ w ∈ wsX80, w ∈ lw_tbl := by decide +kernel
theorem zq_in9 : ∀ w ∈ wsX90, w ∈ lw_tbl := by decide +kernel
/-! the world: which cells there are (0 an object of a class with its fields: 0 an int, 1 a reference that may change, n + 2 the cell n for good; 1 ints, 2 longs, 3 booleans, 4 references; 5 the script) -/
def zq_shape : List (Nat × Nat × List Nat) := [(0, 7, [3, 8, 13, 17, 21, 22, 26, 35, 42, 49, 50, 51, 0, 0, 0, 0, 0]), (0, 0, [4, 0, 0, 0, 0, 0, 5, 6, 7]), (1, 35, []), (1, 12, []), (1, 12, []), (1, 8, []), (0, 3, [9, 0, 0, 0, 0, 0, 10, 11, 12]), (1, 35, []), (1, 8, []), (1, 8, []), (1, 8, []), (0, 1, [14, 15, 16, 0]), (1, 9, []), (1, 9, []), (1, 9, []), (0, 1, [18, 19, 20, 0]), (1, 9, []), (1, 9, []), (1, 9, []), (0, 2, [0]), (0, 5, [23, 24, 25, 0]), (1, 8, []), (1, 8, []), (1, 8, []), (4, 4, [25, 27, 29, 31]), (0, 4, [28, 0, 0]), (1, 60, []), (0, 4, [30, 0, 0]), (1, 60, []), (0, 4, [32, 0, 0]), (1, 60, []), (0, 4, [34, 0, 0]), (1, 60, []), (0, 6, [3, 8, 36, 37, 38, 39, 40, 41, 1, 0, 0, 0, 0, 0]), (1, 192, []), (1, 24, []), (1, 24, []), (1, 24, []), (1, 576, []), (1, 9, []), (0, 6, [3, 8, 43, 44, 45, 46, 47, 48, 1, 0, 0, 0, 0, 0]), (1, 192, []), (1, 24, []), (1, 24, []), (1, 24, []), (1, 576, []), (1, 9, []), (1, 192, []), (1, 8, []), (2, 8, []), (0, 8, [53, 54, 0, 55, 56, 0, 57, 58, 59, 0, 0, 60, 61, 62, 0, 0, 63, 64, 65, 0, 0, 0, 66, 67, 68, 69, 0, 70, 71, 72, 73, 74, 75, 76, 77, 78, 0]), (1, 2, []), (1, 70, []), (1, 13, []), (1, 13, []), (1, 9, []), (1, 9, []), (1, 9, []), (1, 9, []), (1, 9, []), (1, 9, []), (1, 9, []), (1, 9, []), (1, 9, []), (1, 24, []), (1, 1536, []), (1, 192, []), (1, 2, []), (1, 8, []), (1, 8, []), (1, 8, []), (1, 192, []), (3, 4, []), (1, 4, []), (1, 4, []), (1, 240, []), (1, 60, []), (5, 0, [])]
abbrev zq_nC : Nat := 77
end
section
/-! ===== an abstract machine over the fixed world: its state is a table of numbers; each instruction is a function; each is held against the machine by one row of the kit ===== -/
abbrev zq_Lo : Type := List (Nat × Value)
abbrev zq_Me : Type := (Nat → Nat → Int32) × (Nat → Nat → Int64) × (Nat → Nat → Nat) × (Nat × (Nat → Int32))
abbrev zq_Rs : Type := List Prop × Nat × zq_Lo × List Value × zq_Me
abbrev zq_Op : Type := zq_Lo → List Value → zq_Me → Option zq_Rs
abbrev zq_G : Type := va_G × (Nat → ClassId) × (Nat → Nat) × (Nat × (Nat → Int32))
def zq_ad (g : zq_G) (k : Nat) : Nat := g.2.2.1 k
def zq_cA (g : zq_G) (k : Nat) : ClassId := g.2.1 k
/-- a private method of a class that cannot be made, called on an object of a class below it -/
theorem zq_selp {C : String} {y z : MethodName} {s : State} {args : Array Value} (hy : y.cls ≠ "java/lang/invoke/MethodHandle" ∧ y.cls ≠ "java/lang/invoke/VarHandle") (hz : z.cls = y.cls) (h1 : (Cond.selects C z z).before args s = true) (hpriv : (Cond.privateMethod y).before args s = true) (hinst : (Cond.instanceMethod y).before args s = true) : (Cond.selects C y y).before args s = true := by
  obtain ⟨c, r, m, hc, -, hn, -, kk, hk, hni⟩ := Cond.selects_spec h1
  obtain ⟨mk, methM, hnamed, hmethM, -, -⟩ := Cond.instanceMethod_spec hinst
  have hfound : s.methodFound? y.cls y.name y.desc = some mk := State.methodFound?_of_named hnamed hy
  have hcls : mk.cls = m.cls := Option.some.inj ((findClass_of_methodNamed hnamed).symm.trans (by rw [← hz]; exact findClass_of_methodNamed hn))
  have hsel : selectMethod {} s.vm c mk = .method mk := selectMethod_private hmethM (Cond.privateMethod_at hpriv mk methM hnamed hmethM)
  simp only [Cond.before, Cond.holds, Cond.value, hc, hfound, hnamed, hsel, hcls, hk]
  simp; exact hni
def zq_ext : List Cond := [.selects RX0 yX6_understand yX6_understand, .selects RX3 yX6_understand yX6_understand, .selects RX0 yX6_firstFault yX6_firstFault, .selects RX3 yX6_firstFault yX6_firstFault]
def zq_W : List Cond := (zq_ext ++ lw_tbl).filter goodWord
theorem zq_inW {w : Cond} (h : w ∈ lw_tbl) (hg : goodWord w = true) : w ∈ zq_W := List.mem_filter.mpr ⟨List.mem_append_right _ h, hg⟩
theorem zq_inX {w : Cond} (h : w ∈ zq_ext) (hg : goodWord w = true) : w ∈ zq_W := List.mem_filter.mpr ⟨List.mem_append_left _ h, hg⟩
def zq_sh (a : Nat) : Nat × Nat × List Nat := zq_shape.getD a (9, 0, [])
def zq_cv (g : zq_G) (v : Value) : Value := match v with
  | .ref k => .ref (zq_ad g k)
  | w => w
def zq_fv (a j code : Nat) (μ : zq_Me) : Value := match code with
  | 0 => .int (μ.1 a j)
  | 1 => .ref (μ.2.2.1 a j)
  | n + 2 => .ref n
def zq_fvs (a : Nat) (μ : zq_Me) : Nat → List Nat → List Value
  | _, [] => []
  | j, c :: r => zq_fv a j c μ :: zq_fvs a μ (j + 1) r
def zq_ce (g : zq_G) (μ : zq_Me) (a : Nat) : va_E := match zq_sh a with
  | (0, ci, cs) => .inr (ci, (zq_fvs a μ 0 cs).map (zq_cv g))
  | (1, n, _) => .inl (zq_cA g 0, (n, .inl (μ.1 a)))
  | (2, n, _) => .inl (zq_cA g 1, (n, .inr (.inl (μ.2.1 a))))
  | (3, n, _) => .inl (zq_cA g 2, (n, .inl (μ.1 a)))
  | (_, n, cs) => .inl (zq_cA g 3, (n, .inr (.inr (.inr (.inr (fun j => some (zq_ad g (cs.getD j 0))))))))
def zq_ws (g : zq_G) (μ : zq_Me) : va_W := (List.range zq_nC).map (fun a => (zq_ad g a, zq_ce g μ a))
def zq_tys (g : zq_G) : List (ClassId × FieldType) := [(zq_cA g 0, .int), (zq_cA g 1, .long), (zq_cA g 2, .boolean), (zq_cA g 3, .object "DollsAhead$Sheet")]
def zq_A (g : zq_G) : Nat → Prop := fun q => ∃ k, k < zq_nC ∧ q = zq_ad g k
def zq_inj (g : zq_G) : Prop := ∀ i j, i ≤ zq_nC → j ≤ zq_nC → zq_ad g i = zq_ad g j → i = j
theorem zq_at {g : zq_G} {μ : zq_Me} {a : Nat} (h : a < zq_nC) : (zq_ws g μ)[a]? = some (zq_ad g a, zq_ce g μ a) := by
  unfold zq_ws
  rw [List.getElem?_map, List.getElem?_range h]
  rfl
theorem zq_len {g : zq_G} {μ : zq_Me} : (zq_ws g μ).length = zq_nC := by simp [zq_ws]
theorem zq_kind {a : Nat} : (zq_sh a).1 < 5 ∧ a < zq_nC ∨ (zq_sh a).1 = 5 ∧ a = zq_nC ∨ 5 < (zq_sh a).1 := by
  by_cases hl : a < 78
  · have : ∀ b, b < 78 → ((zq_sh b).1 < 5 ∧ b < zq_nC ∨ (zq_sh b).1 = 5 ∧ b = zq_nC ∨ 5 < (zq_sh b).1) := by decide +kernel
    exact this a hl
  · have hn : zq_shape.length = 78 := by decide +kernel
    have h : zq_sh a = (9, 0, []) := by
      unfold zq_sh
      rw [List.getD_eq_getElem?_getD, List.getElem?_eq_none (by omega)]
      rfl
    rw [h]
    exact Or.inr (Or.inr (by decide))
theorem zq_lt {a n : Nat} {x : Nat × List Nat} (h : zq_sh a = (n, x)) (hn : n < 5) : a < zq_nC := by
  rcases zq_kind (a := a) with ⟨-, h2⟩ | ⟨h1, -⟩ | h1
  · exact h2
  · rw [h] at h1; exact absurd h1 (by show ¬ n = 5; omega)
  · rw [h] at h1; exact absurd h1 (by show ¬ 5 < n; omega)
theorem zq_is5 {a : Nat} {x : Nat × List Nat} (h : zq_sh a = (5, x)) : a = zq_nC := by
  rcases zq_kind (a := a) with ⟨h1, -⟩ | ⟨-, h2⟩ | h1
  · rw [h] at h1; exact absurd h1 (by show ¬ 5 < 5; omega)
  · exact h2
  · rw [h] at h1; exact absurd h1 (by show ¬ 5 < 5; omega)
theorem zq_dis {g : zq_G} (h : zq_inj g) (μ : zq_Me) : va_D (zq_A g) (zq_ws g μ) := by
  have key : ∀ (k : Nat) (q : Nat × va_E), (zq_ws g μ)[k]? = some q → k < zq_nC ∧ q.1 = zq_ad g k := by
    intro k q hk
    have hl : k < zq_nC := by
      have h1 := (List.getElem?_eq_some_iff.mp hk).1
      rw [zq_len] at h1
      exact h1
    rw [zq_at hl] at hk
    cases hk
    exact ⟨hl, rfl⟩
  refine ⟨fun i j p q hi hj hpq => ?_, fun k q hk => ?_⟩
  · obtain ⟨a1, a2⟩ := key i p hi
    obtain ⟨b1, b2⟩ := key j q hj
    exact h i j (Nat.le_of_lt a1) (Nat.le_of_lt b1) (by rw [← a2, ← b2]; exact hpq)
  · obtain ⟨a1, a2⟩ := key k q hk
    exact ⟨k, a1, a2⟩
theorem zq_set {g : zq_G} {μ μ' : zq_Me} {a : Nat} {e : va_E} (h1 : zq_ce g μ' a = e) (h2 : ∀ j, j ≠ a → zq_ce g μ' j = zq_ce g μ j) : (zq_ws g μ).set a (zq_ad g a, e) = zq_ws g μ' := by
  apply List.ext_getElem?
  intro k
  by_cases hk : k < zq_nC
  · rw [zq_at hk]
    by_cases hka : a = k
    · subst hka
      rw [List.getElem?_set_self (by rw [zq_len]; exact hk), h1]
    · rw [List.getElem?_set_ne hka, zq_at hk, h2 k (Ne.symm hka)]
  · rw [List.getElem?_eq_none (by rw [List.length_set, zq_len]; omega), List.getElem?_eq_none (by rw [zq_len]; omega)]
def zq_u1 (μ : zq_Me) (a i : Nat) (x : Int32) : zq_Me := (fun b => if b = a then upd (μ.1 a) i x else μ.1 b, μ.2)
def zq_u2 (μ : zq_Me) (a i : Nat) (x : Int64) : zq_Me := (μ.1, fun b => if b = a then vp_updL (μ.2.1 a) i x else μ.2.1 b, μ.2.2)
def zq_u3 (μ : zq_Me) (a i n : Nat) : zq_Me := (μ.1, μ.2.1, fun b => if b = a then (fun j => if j = i then n else μ.2.2.1 a j) else μ.2.2.1 b, μ.2.2.2)
def zq_ur (μ : zq_Me) (a : Nat) (f : Nat → Int32) : zq_Me := (fun b => if b = a then f else μ.1 b, μ.2)
theorem zq_fv_congr {μ μ' : zq_Me} {a : Nat} (h1 : μ.1 a = μ'.1 a) (h3 : μ.2.2.1 a = μ'.2.2.1 a) (j c : Nat) : zq_fv a j c μ = zq_fv a j c μ' := by
  unfold zq_fv
  split
  · rw [h1]
  · rw [h3]
  · rfl
theorem zq_fvs_congr {μ μ' : zq_Me} {a : Nat} (h1 : μ.1 a = μ'.1 a) (h3 : μ.2.2.1 a = μ'.2.2.1 a) : ∀ (cs : List Nat) (j : Nat), zq_fvs a μ j cs = zq_fvs a μ' j cs
  | [], _ => rfl
  | c :: r, j => by
    show zq_fv a j c μ :: zq_fvs a μ (j + 1) r = zq_fv a j c μ' :: zq_fvs a μ' (j + 1) r
    rw [zq_fvs_congr h1 h3 r (j + 1), zq_fv_congr h1 h3]
theorem zq_ce_congr {g : zq_G} {μ μ' : zq_Me} {a : Nat} (h1 : μ.1 a = μ'.1 a) (h2 : μ.2.1 a = μ'.2.1 a) (h3 : μ.2.2.1 a = μ'.2.2.1 a) : zq_ce g μ a = zq_ce g μ' a := by
  unfold zq_ce
  split
  · rw [zq_fvs_congr h1 h3]
  · rw [h1]
  · rw [h2]
  · rw [h1]
  · rfl
theorem zq_fvs_get {μ : zq_Me} {a : Nat} : ∀ (cs : List Nat) (o j : Nat), (zq_fvs a μ o cs)[j]? = (cs[j]?).map (fun c => zq_fv a (o + j) c μ)
  | [], _, _ => by simp [zq_fvs]
  | c :: r, o, 0 => by simp [zq_fvs]
  | c :: r, o, j + 1 => by
    show (zq_fv a o c μ :: zq_fvs a μ (o + 1) r)[j + 1]? = _
    rw [List.getElem?_cons_succ, List.getElem?_cons_succ, zq_fvs_get r (o + 1) j, show o + 1 + j = o + (j + 1) by omega]
theorem zq_fvs_len {μ : zq_Me} {a : Nat} : ∀ (cs : List Nat) (o : Nat), (zq_fvs a μ o cs).length = cs.length
  | [], _ => rfl
  | c :: r, o => by show (zq_fvs a μ (o + 1) r).length + 1 = r.length + 1; rw [zq_fvs_len r (o + 1)]
theorem zq_fvs_set1 {μ : zq_Me} {a j : Nat} {x : Int32} (cs : List Nat) (hj : cs[j]? = some 0) : zq_fvs a (zq_u1 μ a j x) 0 cs = (zq_fvs a μ 0 cs).set j (.int x) := by
  apply List.ext_getElem?
  intro k
  rw [zq_fvs_get]
  by_cases hk : j = k
  · subst hk
    rw [List.getElem?_set_self (by rw [zq_fvs_len]; exact (List.getElem?_eq_some_iff.mp hj).1), hj]
    simp [zq_fv, zq_u1, upd]
  · rw [List.getElem?_set_ne hk, zq_fvs_get]
    cases hc : cs[k]? with
    | none => rfl
    | some c =>
      show some (zq_fv a (0 + k) c _) = some (zq_fv a (0 + k) c _)
      rcases c with _ | _ | n
      · simp [zq_fv, zq_u1, upd, Ne.symm hk]
      · rfl
      · rfl
theorem zq_fvs_set3 {μ : zq_Me} {a j n : Nat} (cs : List Nat) (hj : cs[j]? = some 1) : zq_fvs a (zq_u3 μ a j n) 0 cs = (zq_fvs a μ 0 cs).set j (.ref n) := by
  apply List.ext_getElem?
  intro k
  rw [zq_fvs_get]
  by_cases hk : j = k
  · subst hk
    rw [List.getElem?_set_self (by rw [zq_fvs_len]; exact (List.getElem?_eq_some_iff.mp hj).1), hj]
    simp [zq_fv, zq_u3]
  · rw [List.getElem?_set_ne hk, zq_fvs_get]
    cases hc : cs[k]? with
    | none => rfl
    | some c =>
      show some (zq_fv a (0 + k) c _) = some (zq_fv a (0 + k) c _)
      rcases c with _ | _ | n
      · rfl
      · simp [zq_fv, zq_u3, Ne.symm hk]
      · rfl
/-! the locals: a list by places -/
def zq_lk (i : Nat) : zq_Lo → Option Value
  | [] => none
  | q :: r => bif Nat.beq q.1 i then some q.2 else zq_lk i r
theorem zq_lk_mem {i : Nat} {v : Value} : ∀ {lo : zq_Lo}, zq_lk i lo = some v → (i, v) ∈ lo
  | [], h => by cases h
  | q :: r, h => by
    unfold zq_lk at h
    cases hb : Nat.beq q.1 i with
    | true =>
      rw [hb] at h
      cases h
      have := Nat.eq_of_beq_eq_true hb
      subst this
      exact List.mem_cons_self
    | false =>
      rw [hb] at h
      exact List.mem_cons_of_mem _ (zq_lk_mem h)
def zq_ml (g : zq_G) (lo : zq_Lo) : List (Nat × Value) := lo.map (fun q => (q.1, zq_cv g q.2))
theorem zq_lv {g : zq_G} {ls : Array Slot} {nL i : Nat} {lo : zq_Lo} {v : Value} (h : lv_has ls nL (zq_ml g lo)) (hk : zq_lk i lo = some v) : ls[i]? = some (.val (zq_cv g v)) :=
  h.2.2 (i, zq_cv g v) (List.mem_map.mpr ⟨(i, v), zq_lk_mem hk, rfl⟩)
theorem zq_lv_sub {ls : Array Slot} {nL : Nat} {l l' : List (Nat × Value)} (h : lv_has ls nL l) (hs : ∀ q ∈ l', q ∈ l) : lv_has ls nL l' := ⟨h.1, h.2.1, fun q hq => h.2.2 q (hs q hq)⟩
def zq_ins (i : Nat) (v : Value) : zq_Lo → zq_Lo
  | [] => [(i, v)]
  | q :: r => bif Nat.blt i q.1 then (i, v) :: q :: r else q :: zq_ins i v r
theorem zq_ins_mem {i : Nat} {v : Value} {q : Nat × Value} : ∀ {lo : zq_Lo}, q ∈ zq_ins i v lo → q = (i, v) ∨ q ∈ lo
  | [], h => by
    rcases List.mem_cons.mp h with h | h
    · exact Or.inl h
    · cases h
  | a :: r, h => by
    unfold zq_ins at h
    cases hb : Nat.blt i a.1 with
    | true =>
      rw [hb] at h
      rcases List.mem_cons.mp h with h | h
      · exact Or.inl h
      · exact Or.inr h
    | false =>
      rw [hb] at h
      rcases List.mem_cons.mp h with h | h
      · exact Or.inr (by rw [h]; exact List.mem_cons_self)
      · rcases zq_ins_mem h with h | h
        · exact Or.inl h
        · exact Or.inr (List.mem_cons_of_mem _ h)
def zq_st1 (i : Nat) (v : Value) (lo : zq_Lo) : zq_Lo := zq_ins i v (lo.filter (fun q => !(q.1 == i) && !(q.1 + 1 == i && q.2.category == 2)))
def zq_st2 (i : Nat) (v : Value) (lo : zq_Lo) : zq_Lo := zq_ins i v (lo.filter (fun q => !(q.1 == i) && (!(q.1 == i + 1) && !(q.1 + 1 == i && q.2.category == 2))))
theorem zq_cv_cat (g : zq_G) (v : Value) : (zq_cv g v).category = v.category := by cases v <;> rfl
theorem zq_has1 {g : zq_G} {ls : Array Slot} {nL i : Nat} {lo : zq_Lo} {v : Value} (h : lv_has ls nL ((i, zq_cv g v) :: (zq_ml g lo).filter (fun q => !(q.1 == i) && !(q.1 + 1 == i && q.2.category == 2)))) : lv_has ls nL (zq_ml g (zq_st1 i v lo)) := by
  refine zq_lv_sub h fun q hq => ?_
  obtain ⟨q0, h0, rfl⟩ := List.mem_map.mp hq
  rcases zq_ins_mem h0 with rfl | h1
  · exact List.mem_cons_self
  · obtain ⟨h2, h3⟩ := List.mem_filter.mp h1
    refine List.mem_cons_of_mem _ (List.mem_filter.mpr ⟨List.mem_map.mpr ⟨q0, h2, rfl⟩, ?_⟩)
    dsimp only
    rw [zq_cv_cat]
    exact h3
theorem zq_has2 {g : zq_G} {ls : Array Slot} {nL i : Nat} {lo : zq_Lo} {v : Value} (h : lv_has ls nL ((i, zq_cv g v) :: (zq_ml g lo).filter (fun q => !(q.1 == i) && (!(q.1 == i + 1) && !(q.1 + 1 == i && q.2.category == 2))))) : lv_has ls nL (zq_ml g (zq_st2 i v lo)) := by
  refine zq_lv_sub h fun q hq => ?_
  obtain ⟨q0, h0, rfl⟩ := List.mem_map.mp hq
  rcases zq_ins_mem h0 with rfl | h1
  · exact List.mem_cons_self
  · obtain ⟨h2, h3⟩ := List.mem_filter.mp h1
    refine List.mem_cons_of_mem _ (List.mem_filter.mpr ⟨List.mem_map.mpr ⟨q0, h2, rfl⟩, ?_⟩)
    dsimp only
    rw [zq_cv_cat]
    exact h3
def zq_all : List Prop → Prop
  | [] => True
  | a :: l => a ∧ zq_all l
/-! what holds along a method's walk -/
def zq_dl : List MethodName := [⟨"DollsAhead$Text", "fits", "(II)Z"⟩, ⟨"DollsAhead$Text", "readThings", "()V"⟩]
def zq_Dk (U : State) : Prop := ∀ x ∈ zq_dl, va_Nw (.declares x) U
theorem zq_Dk.warm {s U : State} (hW : s.WarmedH U.vm) (h : zq_Dk s) : zq_Dk U := fun x hx => va_Nw.warmD hW (h x hx)
theorem zq_Dk.same {s U : State} (hv : s.vm = U.vm) (h : zq_Dk s) : zq_Dk U := fun x hx => va_tabs rfl hv (h x hx)
def zq_Cx (g : zq_G) (cc : ByteArray) (nL : Nat) (own : String) (rf rl : Nat) (R : Room) (p : Program) (s : State) (m : MethodId) (args : Array Value) (c : Code) (cells slots : Nat) : Prop :=
  p.tables.exec = Jvm.exec ∧ c.code = cc ∧ c.maxLocals = nL ∧ s.vm.findClass own = some m.cls ∧ (∀ w ∈ zq_W, w.before args s = true) ∧ va_K g.1 vwCl (zq_tys g) s ∧ va_X (zq_ad g zq_nC) g.2.2.2.1 g.2.2.2.2 s s.heap ∧ zq_ad g zq_nC < s.heap.size ∧ zq_inj g ∧ rf ≤ R.frames ∧ rl ≤ R.locals ∧ cells ≤ R.cells ∧ slots ≤ R.slots ∧ zq_Dk s
def zq_St (g : zq_G) (s : State) (H : Heap) (locs : List Loc) (nL : Nat) (ls : Array Slot) (lo : zq_Lo) (μ : zq_Me) : Prop :=
  va_P g.1 vwCl (zq_ws g μ) H ∧ va_S (zq_A g) s.heap H locs ∧ lv_has ls nL (zq_ml g lo) ∧ μ.2.2.2 = g.2.2.2
def zq_snd (cc : ByteArray) (nL : Nat) (own : String) (rf rl pc : Nat) (f : zq_Op) : Prop :=
  ∀ (g : zq_G) {p : Program} {l : Launch} {e : Env} {R : Room} {s : State} {m : MethodId} {args : Array Value} {below : List Frame} {meth : Method} {c : Code} {H : Heap} {locs : List Loc} {cells slots : Nat} {Z : State → Prop} {ls : Array Slot} {lo : zq_Lo} {st : List Value} {μ : zq_Me} {P : List Prop} {pc' : Nat} {lo' : zq_Lo} {st' : List Value} {μ' : zq_Me},
    zq_Cx g cc nL own rf rl R p s m args c cells slots → zq_St g s H locs nL ls lo μ → f lo st μ = some (P, pc', lo', st', μ') → zq_all P →
    (∀ (H' : Heap) (locs' : List Loc) (ls' : Array Slot), zq_St g s H' locs' nL ls' lo' μ' → W p l e R s m args below meth c H' locs' cells slots Z (F0 m pc' ls' (st'.map (zq_cv g)))) →
    W p l e R s m args below meth c H locs cells slots Z (F0 m pc ls (st.map (zq_cv g)))
theorem zq_notA {g : zq_G} (h : zq_inj g) : ¬ zq_A g (zq_ad g zq_nC) := by
  rintro ⟨k, h1, h2⟩
  have := h _ _ (Nat.le_refl _) (Nat.le_of_lt h1) h2
  omega
end
section
def zq_push (pc' : Nat) (v : Value) : zq_Op := fun lo st μ => some ([], pc', lo, v :: st, μ)
theorem zq_s_iconst {cc : ByteArray} {nL : Nat} {own : String} {rf rl pc : Nat} {n : Int} {v : Int32} (hdg : decode cc pc = .ok (.iconst n, 1)) (hv : Int32.ofInt n = v) : zq_snd cc nL own rf rl pc (zq_push (pc + 1) (.int v)) := by
  intro g p l e R s m args below meth c H locs cells slots Z ls lo st μ P pc' lo' st' μ' hC hS hf hP k
  obtain ⟨hx, hb, hml, hown, hts, hK, hX, hbl, hJ, hrf, hrl, hce, hsl, hdk⟩ := hC
  obtain ⟨hW, hH, hL, hsc⟩ := hS
  cases hf
  exact lv_iconst hx hb hdg hv (k H locs ls ⟨hW, hH, hL, hsc⟩)
theorem zq_s_bipush {cc : ByteArray} {nL : Nat} {own : String} {rf rl pc : Nat} {n : Int} {v : Int32} (hdg : decode cc pc = .ok (.bipush n, 2)) (hv : (Int8.ofInt n).toInt32 = v) : zq_snd cc nL own rf rl pc (zq_push (pc + 2) (.int v)) := by
  intro g p l e R s m args below meth c H locs cells slots Z ls lo st μ P pc' lo' st' μ' hC hS hf hP k
  obtain ⟨hx, hb, hml, hown, hts, hK, hX, hbl, hJ, hrf, hrl, hce, hsl, hdk⟩ := hC
  obtain ⟨hW, hH, hL, hsc⟩ := hS
  cases hf
  exact lv_bipush hx hb hdg hv (k H locs ls ⟨hW, hH, hL, hsc⟩)
theorem zq_s_sipush {cc : ByteArray} {nL : Nat} {own : String} {rf rl pc : Nat} {n : Int} {v : Int32} (hdg : decode cc pc = .ok (.sipush n, 3)) (hv : (Int16.ofInt n).toInt32 = v) : zq_snd cc nL own rf rl pc (zq_push (pc + 3) (.int v)) := by
  intro g p l e R s m args below meth c H locs cells slots Z ls lo st μ P pc' lo' st' μ' hC hS hf hP k
  obtain ⟨hx, hb, hml, hown, hts, hK, hX, hbl, hJ, hrf, hrl, hce, hsl, hdk⟩ := hC
  obtain ⟨hW, hH, hL, hsc⟩ := hS
  cases hf
  exact lv_sipush hx hb hdg hv (k H locs ls ⟨hW, hH, hL, hsc⟩)
theorem zq_s_lconst {cc : ByteArray} {nL : Nat} {own : String} {rf rl pc : Nat} {n : Fin 2} {v : Int64} (hdg : decode cc pc = .ok (.lconst n, 1)) (hv : Int64.ofNat (n : Nat) = v) : zq_snd cc nL own rf rl pc (zq_push (pc + 1) (.long v)) := by
  intro g p l e R s m args below meth c H locs cells slots Z ls lo st μ P pc' lo' st' μ' hC hS hf hP k
  obtain ⟨hx, hb, hml, hown, hts, hK, hX, hbl, hJ, hrf, hrl, hce, hsl, hdk⟩ := hC
  obtain ⟨hW, hH, hL, hsc⟩ := hS
  cases hf
  exact lv_lconst hx hb hdg hv (k H locs ls ⟨hW, hH, hL, hsc⟩)
theorem zq_s_ldc {cc : ByteArray} {nL : Nat} {own : String} {rf rl pc : Nat} {index : Nat} {v : Int32} (hdg : decode cc pc = .ok (.ldc index, 2)) (hw : Cond.constant own index v ∈ zq_W) : zq_snd cc nL own rf rl pc (zq_push (pc + 2) (.int v)) := by
  intro g p l e R s m args below meth c H locs cells slots Z ls lo st μ P pc' lo' st' μ' hC hS hf hP k
  obtain ⟨hx, hb, hml, hown, hts, hK, hX, hbl, hJ, hrf, hrl, hce, hsl, hdk⟩ := hC
  obtain ⟨hW, hH, hL, hsc⟩ := hS
  cases hf
  exact lv_ldc hx hb hown (hts _ hw) hdg (k H locs ls ⟨hW, hH, hL, hsc⟩)
theorem zq_s_ldcw {cc : ByteArray} {nL : Nat} {own : String} {rf rl pc : Nat} {index : Nat} {v : Int32} (hdg : decode cc pc = .ok (.ldc_w index, 3)) (hw : Cond.constant own index v ∈ zq_W) : zq_snd cc nL own rf rl pc (zq_push (pc + 3) (.int v)) := by
  intro g p l e R s m args below meth c H locs cells slots Z ls lo st μ P pc' lo' st' μ' hC hS hf hP k
  obtain ⟨hx, hb, hml, hown, hts, hK, hX, hbl, hJ, hrf, hrl, hce, hsl, hdk⟩ := hC
  obtain ⟨hW, hH, hL, hsc⟩ := hS
  cases hf
  exact lv_ldcw hx hb hown (hts _ hw) hdg (k H locs ls ⟨hW, hH, hL, hsc⟩)
theorem zq_s_ldc2 {cc : ByteArray} {nL : Nat} {own : String} {rf rl pc : Nat} {index : Nat} {v : Int64} (hdg : decode cc pc = .ok (.ldc2_w index, 3)) (hw : Cond.constantLong own index v ∈ zq_W) : zq_snd cc nL own rf rl pc (zq_push (pc + 3) (.long v)) := by
  intro g p l e R s m args below meth c H locs cells slots Z ls lo st μ P pc' lo' st' μ' hC hS hf hP k
  obtain ⟨hx, hb, hml, hown, hts, hK, hX, hbl, hJ, hrf, hrl, hce, hsl, hdk⟩ := hC
  obtain ⟨hW, hH, hL, hsc⟩ := hS
  cases hf
  exact lv_ldc2 hx hb hown (hts _ hw) hdg (k H locs ls ⟨hW, hH, hL, hsc⟩)
theorem zq_s_null {cc : ByteArray} {nL : Nat} {own : String} {rf rl pc : Nat}  (hdg : decode cc pc = .ok (.aconst_null, 1))  : zq_snd cc nL own rf rl pc (zq_push (pc + 1) (.null)) := by
  intro g p l e R s m args below meth c H locs cells slots Z ls lo st μ P pc' lo' st' μ' hC hS hf hP k
  obtain ⟨hx, hb, hml, hown, hts, hK, hX, hbl, hJ, hrf, hrl, hce, hsl, hdk⟩ := hC
  obtain ⟨hW, hH, hL, hsc⟩ := hS
  cases hf
  exact lv_null hx hb hdg (k H locs ls ⟨hW, hH, hL, hsc⟩)
def zq_il (pc' i : Nat) : zq_Op := fun lo st μ => match zq_lk i lo with
  | some (.int x) => some ([], pc', lo, .int x :: st, μ)
  | _ => none
def zq_ll (pc' i : Nat) : zq_Op := fun lo st μ => match zq_lk i lo with
  | some (.long x) => some ([], pc', lo, .long x :: st, μ)
  | _ => none
def zq_al (pc' i : Nat) : zq_Op := fun lo st μ => match zq_lk i lo with
  | some (.ref x) => some ([], pc', lo, .ref x :: st, μ)
  | some .null => some ([], pc', lo, .null :: st, μ)
  | _ => none
theorem zq_s_iload_n {cc : ByteArray} {nL : Nat} {own : String} {rf rl pc : Nat} {n : Fin 4} {i : Nat} (hdg : decode cc pc = .ok (.iload_n n, 1)) (hi : (n : Nat) = i) : zq_snd cc nL own rf rl pc (zq_il (pc + 1) i) := by
  intro g p l e R s m args below meth c H locs cells slots Z ls lo st μ P pc' lo' st' μ' hC hS hf hP k
  obtain ⟨hx, hb, hml, hown, hts, hK, hX, hbl, hJ, hrf, hrl, hce, hsl, hdk⟩ := hC
  obtain ⟨hW, hH, hL, hsc⟩ := hS
  unfold zq_il at hf
  split at hf
  · rename_i x hk
    cases hf
    exact lv_iload_n hx hb hdg hi (zq_lv hL hk) (k H locs ls ⟨hW, hH, hL, hsc⟩)
  · cases hf
theorem zq_s_iload {cc : ByteArray} {nL : Nat} {own : String} {rf rl pc : Nat} {i : Nat} (hdg : decode cc pc = .ok (.iload i, 2)) : zq_snd cc nL own rf rl pc (zq_il (pc + 2) i) := by
  intro g p l e R s m args below meth c H locs cells slots Z ls lo st μ P pc' lo' st' μ' hC hS hf hP k
  obtain ⟨hx, hb, hml, hown, hts, hK, hX, hbl, hJ, hrf, hrl, hce, hsl, hdk⟩ := hC
  obtain ⟨hW, hH, hL, hsc⟩ := hS
  unfold zq_il at hf
  split at hf
  · rename_i x hk
    cases hf
    exact lv_iload hx hb hdg (zq_lv hL hk) (k H locs ls ⟨hW, hH, hL, hsc⟩)
  · cases hf
theorem zq_s_lload_n {cc : ByteArray} {nL : Nat} {own : String} {rf rl pc : Nat} {n : Fin 4} {i : Nat} (hdg : decode cc pc = .ok (.lload_n n, 1)) (hi : (n : Nat) = i) : zq_snd cc nL own rf rl pc (zq_ll (pc + 1) i) := by
  intro g p l e R s m args below meth c H locs cells slots Z ls lo st μ P pc' lo' st' μ' hC hS hf hP k
  obtain ⟨hx, hb, hml, hown, hts, hK, hX, hbl, hJ, hrf, hrl, hce, hsl, hdk⟩ := hC
  obtain ⟨hW, hH, hL, hsc⟩ := hS
  unfold zq_ll at hf
  split at hf
  · rename_i x hk
    cases hf
    exact lv_lload_n hx hb hdg hi (zq_lv hL hk) (k H locs ls ⟨hW, hH, hL, hsc⟩)
  · cases hf
theorem zq_s_lload {cc : ByteArray} {nL : Nat} {own : String} {rf rl pc : Nat} {i : Nat} (hdg : decode cc pc = .ok (.lload i, 2)) : zq_snd cc nL own rf rl pc (zq_ll (pc + 2) i) := by
  intro g p l e R s m args below meth c H locs cells slots Z ls lo st μ P pc' lo' st' μ' hC hS hf hP k
  obtain ⟨hx, hb, hml, hown, hts, hK, hX, hbl, hJ, hrf, hrl, hce, hsl, hdk⟩ := hC
  obtain ⟨hW, hH, hL, hsc⟩ := hS
  unfold zq_ll at hf
  split at hf
  · rename_i x hk
    cases hf
    exact lv_lload hx hb hdg (zq_lv hL hk) (k H locs ls ⟨hW, hH, hL, hsc⟩)
  · cases hf
theorem zq_s_aload_n {cc : ByteArray} {nL : Nat} {own : String} {rf rl pc : Nat} {n : Fin 4} {i : Nat} (hdg : decode cc pc = .ok (.aload_n n, 1)) (hi : (n : Nat) = i) : zq_snd cc nL own rf rl pc (zq_al (pc + 1) i) := by
  intro g p l e R s m args below meth c H locs cells slots Z ls lo st μ P pc' lo' st' μ' hC hS hf hP k
  obtain ⟨hx, hb, hml, hown, hts, hK, hX, hbl, hJ, hrf, hrl, hce, hsl, hdk⟩ := hC
  obtain ⟨hW, hH, hL, hsc⟩ := hS
  unfold zq_al at hf
  split at hf
  · rename_i x hk
    cases hf
    exact lv_aload_n hx hb hdg hi (zq_lv hL hk) (k H locs ls ⟨hW, hH, hL, hsc⟩)
  · rename_i hk
    cases hf
    exact lv_aload_nN hx hb hdg hi (zq_lv hL hk) (k H locs ls ⟨hW, hH, hL, hsc⟩)
  · cases hf
theorem zq_s_aload {cc : ByteArray} {nL : Nat} {own : String} {rf rl pc : Nat} {i : Nat} (hdg : decode cc pc = .ok (.aload i, 2)) : zq_snd cc nL own rf rl pc (zq_al (pc + 2) i) := by
  intro g p l e R s m args below meth c H locs cells slots Z ls lo st μ P pc' lo' st' μ' hC hS hf hP k
  obtain ⟨hx, hb, hml, hown, hts, hK, hX, hbl, hJ, hrf, hrl, hce, hsl, hdk⟩ := hC
  obtain ⟨hW, hH, hL, hsc⟩ := hS
  unfold zq_al at hf
  split at hf
  · rename_i x hk
    cases hf
    exact lv_aload hx hb hdg (zq_lv hL hk) (k H locs ls ⟨hW, hH, hL, hsc⟩)
  · rename_i hk
    cases hf
    exact lv_aloadN hx hb hdg (zq_lv hL hk) (k H locs ls ⟨hW, hH, hL, hsc⟩)
  · cases hf
def zq_is (pc' i : Nat) : zq_Op := fun lo st μ => match st with
  | .int x :: r => some ([], pc', zq_st1 i (.int x) lo, r, μ)
  | _ => none
def zq_lst (pc' i : Nat) : zq_Op := fun lo st μ => match st with
  | .long x :: r => some ([], pc', zq_st2 i (.long x) lo, r, μ)
  | _ => none
def zq_as (pc' i : Nat) : zq_Op := fun lo st μ => match st with
  | .ref x :: r => some ([], pc', zq_st1 i (.ref x) lo, r, μ)
  | .null :: r => some ([], pc', zq_st1 i .null lo, r, μ)
  | _ => none
theorem zq_s_istore_n {cc : ByteArray} {nL : Nat} {own : String} {rf rl pc : Nat} {n : Fin 4} {i : Nat} (hdg : decode cc pc = .ok (.istore_n n, 1)) (hi : (n : Nat) = i) (hn : i < nL) : zq_snd cc nL own rf rl pc (zq_is (pc + 1) i) := by
  intro g p l e R s m args below meth c H locs cells slots Z ls lo st μ P pc' lo' st' μ' hC hS hf hP k
  obtain ⟨hx, hb, hml, hown, hts, hK, hX, hbl, hJ, hrf, hrl, hce, hsl, hdk⟩ := hC
  obtain ⟨hW, hH, hL, hsc⟩ := hS
  unfold zq_is at hf
  split at hf
  · cases hf
    refine lv_istore_n hx hb hdg hi hL hn rfl (fun ls' h => ?_)
    exact k H locs ls' ⟨hW, hH, zq_has1 (v := .int _) h, hsc⟩
  · cases hf
theorem zq_s_istore {cc : ByteArray} {nL : Nat} {own : String} {rf rl pc : Nat} {i : Nat} (hdg : decode cc pc = .ok (.istore i, 2)) (hn : i < nL) : zq_snd cc nL own rf rl pc (zq_is (pc + 2) i) := by
  intro g p l e R s m args below meth c H locs cells slots Z ls lo st μ P pc' lo' st' μ' hC hS hf hP k
  obtain ⟨hx, hb, hml, hown, hts, hK, hX, hbl, hJ, hrf, hrl, hce, hsl, hdk⟩ := hC
  obtain ⟨hW, hH, hL, hsc⟩ := hS
  unfold zq_is at hf
  split at hf
  · cases hf
    refine lv_istore hx hb hdg hL hn rfl (fun ls' h => ?_)
    exact k H locs ls' ⟨hW, hH, zq_has1 (v := .int _) h, hsc⟩
  · cases hf
theorem zq_s_lstore_n {cc : ByteArray} {nL : Nat} {own : String} {rf rl pc : Nat} {n : Fin 4} {i : Nat} (hdg : decode cc pc = .ok (.lstore_n n, 1)) (hi : (n : Nat) = i) (hn : i + 1 < nL) : zq_snd cc nL own rf rl pc (zq_lst (pc + 1) i) := by
  intro g p l e R s m args below meth c H locs cells slots Z ls lo st μ P pc' lo' st' μ' hC hS hf hP k
  obtain ⟨hx, hb, hml, hown, hts, hK, hX, hbl, hJ, hrf, hrl, hce, hsl, hdk⟩ := hC
  obtain ⟨hW, hH, hL, hsc⟩ := hS
  unfold zq_lst at hf
  split at hf
  · cases hf
    refine lv_lstore_n hx hb hdg hi hL hn rfl (fun ls' h => ?_)
    exact k H locs ls' ⟨hW, hH, zq_has2 (v := .long _) h, hsc⟩
  · cases hf
theorem zq_s_lstore {cc : ByteArray} {nL : Nat} {own : String} {rf rl pc : Nat} {i : Nat} (hdg : decode cc pc = .ok (.lstore i, 2)) (hn : i + 1 < nL) : zq_snd cc nL own rf rl pc (zq_lst (pc + 2) i) := by
  intro g p l e R s m args below meth c H locs cells slots Z ls lo st μ P pc' lo' st' μ' hC hS hf hP k
  obtain ⟨hx, hb, hml, hown, hts, hK, hX, hbl, hJ, hrf, hrl, hce, hsl, hdk⟩ := hC
  obtain ⟨hW, hH, hL, hsc⟩ := hS
  unfold zq_lst at hf
  split at hf
  · cases hf
    refine lv_lstore hx hb hdg hL hn rfl (fun ls' h => ?_)
    exact k H locs ls' ⟨hW, hH, zq_has2 (v := .long _) h, hsc⟩
  · cases hf
theorem zq_s_astore_n {cc : ByteArray} {nL : Nat} {own : String} {rf rl pc : Nat} {n : Fin 4} {i : Nat} (hdg : decode cc pc = .ok (.astore_n n, 1)) (hi : (n : Nat) = i) (hn : i < nL) : zq_snd cc nL own rf rl pc (zq_as (pc + 1) i) := by
  intro g p l e R s m args below meth c H locs cells slots Z ls lo st μ P pc' lo' st' μ' hC hS hf hP k
  obtain ⟨hx, hb, hml, hown, hts, hK, hX, hbl, hJ, hrf, hrl, hce, hsl, hdk⟩ := hC
  obtain ⟨hW, hH, hL, hsc⟩ := hS
  unfold zq_as at hf
  split at hf
  · cases hf
    refine lv_astore_n hx hb hdg hi hL hn rfl (fun ls' h => ?_)
    exact k H locs ls' ⟨hW, hH, zq_has1 (v := .ref _) h, hsc⟩
  · cases hf
    refine lv_astore_nN hx hb hdg hi hL hn rfl (fun ls' h => ?_)
    exact k H locs ls' ⟨hW, hH, zq_has1 (v := .null) h, hsc⟩
  · cases hf
theorem zq_s_astore {cc : ByteArray} {nL : Nat} {own : String} {rf rl pc : Nat} {i : Nat} (hdg : decode cc pc = .ok (.astore i, 2)) (hn : i < nL) : zq_snd cc nL own rf rl pc (zq_as (pc + 2) i) := by
  intro g p l e R s m args below meth c H locs cells slots Z ls lo st μ P pc' lo' st' μ' hC hS hf hP k
  obtain ⟨hx, hb, hml, hown, hts, hK, hX, hbl, hJ, hrf, hrl, hce, hsl, hdk⟩ := hC
  obtain ⟨hW, hH, hL, hsc⟩ := hS
  unfold zq_as at hf
  split at hf
  · cases hf
    refine lv_astore hx hb hdg hL hn rfl (fun ls' h => ?_)
    exact k H locs ls' ⟨hW, hH, zq_has1 (v := .ref _) h, hsc⟩
  · cases hf
    refine lv_astoreN hx hb hdg hL hn rfl (fun ls' h => ?_)
    exact k H locs ls' ⟨hW, hH, zq_has1 (v := .null) h, hsc⟩
  · cases hf
def zq_inc (pc' i : Nat) (n : Int32) : zq_Op := fun lo st μ => match zq_lk i lo with
  | some (.int x) => some ([], pc', zq_st1 i (.int (x + n)) lo, st, μ)
  | _ => none
theorem zq_s_iinc {cc : ByteArray} {nL : Nat} {own : String} {rf rl pc : Nat} {i : Nat} {n : Int} {v : Int32} (hdg : decode cc pc = .ok (.iinc i n, 3)) (hv : Int32.ofInt n = v) (hn : i < nL) : zq_snd cc nL own rf rl pc (zq_inc (pc + 3) i v) := by
  intro g p l e R s m args below meth c H locs cells slots Z ls lo st μ P pc' lo' st' μ' hC hS hf hP k
  obtain ⟨hx, hb, hml, hown, hts, hK, hX, hbl, hJ, hrf, hrl, hce, hsl, hdk⟩ := hC
  obtain ⟨hW, hH, hL, hsc⟩ := hS
  unfold zq_inc at hf
  split at hf
  · rename_i x hk
    cases hf
    subst hv
    have hm : (i, zq_cv g (.int x)) ∈ zq_ml g lo := List.mem_map.mpr ⟨(i, .int x), zq_lk_mem hk, rfl⟩
    obtain ⟨j, hj⟩ := List.getElem?_of_mem hm
    refine lv_iinc hx hb hdg hL hj rfl hn rfl (fun ls' h => ?_)
    exact k H locs ls' ⟨hW, hH, zq_has1 (v := .int _) h, hsc⟩
  · cases hf
def zq_i2 (pc' : Nat) (f : Int32 → Int32 → Int32) : zq_Op := fun lo st μ => match st with
  | .int y :: .int x :: r => some ([], pc', lo, .int (f x y) :: r, μ)
  | _ => none
def zq_i2c (pc' : Nat) (f : Int32 → Int32 → Int32) : zq_Op := fun lo st μ => match st with
  | .int y :: .int x :: r => some ([¬ y = 0], pc', lo, .int (f x y) :: r, μ)
  | _ => none
def zq_i1 (pc' : Nat) (f : Int32 → Int32) : zq_Op := fun lo st μ => match st with
  | .int x :: r => some ([], pc', lo, .int (f x) :: r, μ)
  | _ => none
def zq_l2 (pc' : Nat) (f : Int64 → Int64 → Int64) : zq_Op := fun lo st μ => match st with
  | .long y :: .long x :: r => some ([], pc', lo, .long (f x y) :: r, μ)
  | _ => none
def zq_l2c (pc' : Nat) (f : Int64 → Int64 → Int64) : zq_Op := fun lo st μ => match st with
  | .long y :: .long x :: r => some ([¬ y = 0], pc', lo, .long (f x y) :: r, μ)
  | _ => none
def zq_lsf (pc' : Nat) (f : Int64 → Int32 → Int64) : zq_Op := fun lo st μ => match st with
  | .int y :: .long x :: r => some ([], pc', lo, .long (f x y) :: r, μ)
  | _ => none
def zq_i2l (pc' : Nat) : zq_Op := fun lo st μ => match st with
  | .int x :: r => some ([], pc', lo, .long x.toInt64 :: r, μ)
  | _ => none
def zq_lcmp (pc' : Nat) : zq_Op := fun lo st μ => match st with
  | .long y :: .long x :: r => some ([], pc', lo, .int (lg_cmp x y) :: r, μ)
  | _ => none
def zq_dup (pc' : Nat) : zq_Op := fun lo st μ => match st with
  | .int x :: r => some ([], pc', lo, .int x :: .int x :: r, μ)
  | .ref x :: r => some ([], pc', lo, .ref x :: .ref x :: r, μ)
  | _ => none
def zq_dup2 (pc' : Nat) : zq_Op := fun lo st μ => match st with
  | .int x :: .ref a :: r => some ([], pc', lo, .int x :: .ref a :: .int x :: .ref a :: r, μ)
  | _ => none
theorem zq_s_iadd {cc : ByteArray} {nL : Nat} {own : String} {rf rl pc : Nat}  (hdg : decode cc pc = .ok (.iadd, 1))  : zq_snd cc nL own rf rl pc (zq_i2 (pc + 1) (fun x y => x + y)) := by
  intro g p l e R s m args below meth c H locs cells slots Z ls lo st μ P pc' lo' st' μ' hC hS hf hP k
  obtain ⟨hx, hb, hml, hown, hts, hK, hX, hbl, hJ, hrf, hrl, hce, hsl, hdk⟩ := hC
  obtain ⟨hW, hH, hL, hsc⟩ := hS
  unfold zq_i2 at hf
  split at hf
  · cases hf
    exact lv_iadd hx hb hdg (k H locs ls ⟨hW, hH, hL, hsc⟩)
  · cases hf
theorem zq_s_isub {cc : ByteArray} {nL : Nat} {own : String} {rf rl pc : Nat}  (hdg : decode cc pc = .ok (.isub, 1))  : zq_snd cc nL own rf rl pc (zq_i2 (pc + 1) (fun x y => x - y)) := by
  intro g p l e R s m args below meth c H locs cells slots Z ls lo st μ P pc' lo' st' μ' hC hS hf hP k
  obtain ⟨hx, hb, hml, hown, hts, hK, hX, hbl, hJ, hrf, hrl, hce, hsl, hdk⟩ := hC
  obtain ⟨hW, hH, hL, hsc⟩ := hS
  unfold zq_i2 at hf
  split at hf
  · cases hf
    exact lv_isub hx hb hdg (k H locs ls ⟨hW, hH, hL, hsc⟩)
  · cases hf
theorem zq_s_imul {cc : ByteArray} {nL : Nat} {own : String} {rf rl pc : Nat}  (hdg : decode cc pc = .ok (.imul, 1))  : zq_snd cc nL own rf rl pc (zq_i2 (pc + 1) (fun x y => x * y)) := by
  intro g p l e R s m args below meth c H locs cells slots Z ls lo st μ P pc' lo' st' μ' hC hS hf hP k
  obtain ⟨hx, hb, hml, hown, hts, hK, hX, hbl, hJ, hrf, hrl, hce, hsl, hdk⟩ := hC
  obtain ⟨hW, hH, hL, hsc⟩ := hS
  unfold zq_i2 at hf
  split at hf
  · cases hf
    exact lv_imul hx hb hdg (k H locs ls ⟨hW, hH, hL, hsc⟩)
  · cases hf
theorem zq_s_iand {cc : ByteArray} {nL : Nat} {own : String} {rf rl pc : Nat}  (hdg : decode cc pc = .ok (.iand, 1))  : zq_snd cc nL own rf rl pc (zq_i2 (pc + 1) (fun x y => x &&& y)) := by
  intro g p l e R s m args below meth c H locs cells slots Z ls lo st μ P pc' lo' st' μ' hC hS hf hP k
  obtain ⟨hx, hb, hml, hown, hts, hK, hX, hbl, hJ, hrf, hrl, hce, hsl, hdk⟩ := hC
  obtain ⟨hW, hH, hL, hsc⟩ := hS
  unfold zq_i2 at hf
  split at hf
  · cases hf
    exact lv_iand hx hb hdg (k H locs ls ⟨hW, hH, hL, hsc⟩)
  · cases hf
theorem zq_s_ior {cc : ByteArray} {nL : Nat} {own : String} {rf rl pc : Nat}  (hdg : decode cc pc = .ok (.ior, 1))  : zq_snd cc nL own rf rl pc (zq_i2 (pc + 1) (fun x y => x ||| y)) := by
  intro g p l e R s m args below meth c H locs cells slots Z ls lo st μ P pc' lo' st' μ' hC hS hf hP k
  obtain ⟨hx, hb, hml, hown, hts, hK, hX, hbl, hJ, hrf, hrl, hce, hsl, hdk⟩ := hC
  obtain ⟨hW, hH, hL, hsc⟩ := hS
  unfold zq_i2 at hf
  split at hf
  · cases hf
    exact lv_ior hx hb hdg (k H locs ls ⟨hW, hH, hL, hsc⟩)
  · cases hf
theorem zq_s_ixor {cc : ByteArray} {nL : Nat} {own : String} {rf rl pc : Nat}  (hdg : decode cc pc = .ok (.ixor, 1))  : zq_snd cc nL own rf rl pc (zq_i2 (pc + 1) (fun x y => x ^^^ y)) := by
  intro g p l e R s m args below meth c H locs cells slots Z ls lo st μ P pc' lo' st' μ' hC hS hf hP k
  obtain ⟨hx, hb, hml, hown, hts, hK, hX, hbl, hJ, hrf, hrl, hce, hsl, hdk⟩ := hC
  obtain ⟨hW, hH, hL, hsc⟩ := hS
  unfold zq_i2 at hf
  split at hf
  · cases hf
    exact lv_ixor hx hb hdg (k H locs ls ⟨hW, hH, hL, hsc⟩)
  · cases hf
theorem zq_s_ishl {cc : ByteArray} {nL : Nat} {own : String} {rf rl pc : Nat}  (hdg : decode cc pc = .ok (.ishl, 1))  : zq_snd cc nL own rf rl pc (zq_i2 (pc + 1) (fun x y => x <<< (y &&& 31))) := by
  intro g p l e R s m args below meth c H locs cells slots Z ls lo st μ P pc' lo' st' μ' hC hS hf hP k
  obtain ⟨hx, hb, hml, hown, hts, hK, hX, hbl, hJ, hrf, hrl, hce, hsl, hdk⟩ := hC
  obtain ⟨hW, hH, hL, hsc⟩ := hS
  unfold zq_i2 at hf
  split at hf
  · cases hf
    exact lv_ishl hx hb hdg (k H locs ls ⟨hW, hH, hL, hsc⟩)
  · cases hf
theorem zq_s_ishr {cc : ByteArray} {nL : Nat} {own : String} {rf rl pc : Nat}  (hdg : decode cc pc = .ok (.ishr, 1))  : zq_snd cc nL own rf rl pc (zq_i2 (pc + 1) (fun x y => x >>> (y &&& 31))) := by
  intro g p l e R s m args below meth c H locs cells slots Z ls lo st μ P pc' lo' st' μ' hC hS hf hP k
  obtain ⟨hx, hb, hml, hown, hts, hK, hX, hbl, hJ, hrf, hrl, hce, hsl, hdk⟩ := hC
  obtain ⟨hW, hH, hL, hsc⟩ := hS
  unfold zq_i2 at hf
  split at hf
  · cases hf
    exact lv_ishr hx hb hdg (k H locs ls ⟨hW, hH, hL, hsc⟩)
  · cases hf
def zq_ush (x y : Int32) : Int32 := (x.toUInt32 >>> (y.toUInt32 &&& Int32.toUInt32 31)).toInt32
theorem zq_s_iushr {cc : ByteArray} {nL : Nat} {own : String} {rf rl pc : Nat}  (hdg : decode cc pc = .ok (.iushr, 1))  : zq_snd cc nL own rf rl pc (zq_i2 (pc + 1) zq_ush) := by
  intro g p l e R s m args below meth c H locs cells slots Z ls lo st μ P pc' lo' st' μ' hC hS hf hP k
  obtain ⟨hx, hb, hml, hown, hts, hK, hX, hbl, hJ, hrf, hrl, hce, hsl, hdk⟩ := hC
  obtain ⟨hW, hH, hL, hsc⟩ := hS
  unfold zq_i2 at hf
  split at hf
  · cases hf
    exact lv_iushr hx hb hdg rfl (k H locs ls ⟨hW, hH, hL, hsc⟩)
  · cases hf
theorem zq_s_idiv {cc : ByteArray} {nL : Nat} {own : String} {rf rl pc : Nat}  (hdg : decode cc pc = .ok (.idiv, 1)) : zq_snd cc nL own rf rl pc (zq_i2c (pc + 1) (fun x y => x / y)) := by
  intro g p l e R s m args below meth c H locs cells slots Z ls lo st μ P pc' lo' st' μ' hC hS hf hP k
  obtain ⟨hx, hb, hml, hown, hts, hK, hX, hbl, hJ, hrf, hrl, hce, hsl, hdk⟩ := hC
  obtain ⟨hW, hH, hL, hsc⟩ := hS
  unfold zq_i2c at hf
  split at hf
  · cases hf
    exact lv_idiv hx hb hdg hP.1 (k H locs ls ⟨hW, hH, hL, hsc⟩)
  · cases hf
theorem zq_s_irem {cc : ByteArray} {nL : Nat} {own : String} {rf rl pc : Nat}  (hdg : decode cc pc = .ok (.irem, 1)) : zq_snd cc nL own rf rl pc (zq_i2c (pc + 1) (fun x y => x - x / y * y)) := by
  intro g p l e R s m args below meth c H locs cells slots Z ls lo st μ P pc' lo' st' μ' hC hS hf hP k
  obtain ⟨hx, hb, hml, hown, hts, hK, hX, hbl, hJ, hrf, hrl, hce, hsl, hdk⟩ := hC
  obtain ⟨hW, hH, hL, hsc⟩ := hS
  unfold zq_i2c at hf
  split at hf
  · cases hf
    exact lv_irem hx hb hdg hP.1 (k H locs ls ⟨hW, hH, hL, hsc⟩)
  · cases hf
theorem zq_s_ldiv {cc : ByteArray} {nL : Nat} {own : String} {rf rl pc : Nat}  (hdg : decode cc pc = .ok (.ldiv, 1)) : zq_snd cc nL own rf rl pc (zq_l2c (pc + 1) (fun x y => x / y)) := by
  intro g p l e R s m args below meth c H locs cells slots Z ls lo st μ P pc' lo' st' μ' hC hS hf hP k
  obtain ⟨hx, hb, hml, hown, hts, hK, hX, hbl, hJ, hrf, hrl, hce, hsl, hdk⟩ := hC
  obtain ⟨hW, hH, hL, hsc⟩ := hS
  unfold zq_l2c at hf
  split at hf
  · cases hf
    exact lv_ldiv hx hb hdg hP.1 (k H locs ls ⟨hW, hH, hL, hsc⟩)
  · cases hf
theorem zq_s_lrem {cc : ByteArray} {nL : Nat} {own : String} {rf rl pc : Nat}  (hdg : decode cc pc = .ok (.lrem, 1)) : zq_snd cc nL own rf rl pc (zq_l2c (pc + 1) (fun x y => x - x / y * y)) := by
  intro g p l e R s m args below meth c H locs cells slots Z ls lo st μ P pc' lo' st' μ' hC hS hf hP k
  obtain ⟨hx, hb, hml, hown, hts, hK, hX, hbl, hJ, hrf, hrl, hce, hsl, hdk⟩ := hC
  obtain ⟨hW, hH, hL, hsc⟩ := hS
  unfold zq_l2c at hf
  split at hf
  · cases hf
    exact lv_lrem hx hb hdg hP.1 (k H locs ls ⟨hW, hH, hL, hsc⟩)
  · cases hf
theorem zq_s_ladd {cc : ByteArray} {nL : Nat} {own : String} {rf rl pc : Nat}  (hdg : decode cc pc = .ok (.ladd, 1))  : zq_snd cc nL own rf rl pc (zq_l2 (pc + 1) (fun x y => x + y)) := by
  intro g p l e R s m args below meth c H locs cells slots Z ls lo st μ P pc' lo' st' μ' hC hS hf hP k
  obtain ⟨hx, hb, hml, hown, hts, hK, hX, hbl, hJ, hrf, hrl, hce, hsl, hdk⟩ := hC
  obtain ⟨hW, hH, hL, hsc⟩ := hS
  unfold zq_l2 at hf
  split at hf
  · cases hf
    exact lv_ladd hx hb hdg (k H locs ls ⟨hW, hH, hL, hsc⟩)
  · cases hf
theorem zq_s_lsub {cc : ByteArray} {nL : Nat} {own : String} {rf rl pc : Nat}  (hdg : decode cc pc = .ok (.lsub, 1))  : zq_snd cc nL own rf rl pc (zq_l2 (pc + 1) (fun x y => x - y)) := by
  intro g p l e R s m args below meth c H locs cells slots Z ls lo st μ P pc' lo' st' μ' hC hS hf hP k
  obtain ⟨hx, hb, hml, hown, hts, hK, hX, hbl, hJ, hrf, hrl, hce, hsl, hdk⟩ := hC
  obtain ⟨hW, hH, hL, hsc⟩ := hS
  unfold zq_l2 at hf
  split at hf
  · cases hf
    exact lv_lsub hx hb hdg (k H locs ls ⟨hW, hH, hL, hsc⟩)
  · cases hf
theorem zq_s_lmul {cc : ByteArray} {nL : Nat} {own : String} {rf rl pc : Nat}  (hdg : decode cc pc = .ok (.lmul, 1))  : zq_snd cc nL own rf rl pc (zq_l2 (pc + 1) (fun x y => x * y)) := by
  intro g p l e R s m args below meth c H locs cells slots Z ls lo st μ P pc' lo' st' μ' hC hS hf hP k
  obtain ⟨hx, hb, hml, hown, hts, hK, hX, hbl, hJ, hrf, hrl, hce, hsl, hdk⟩ := hC
  obtain ⟨hW, hH, hL, hsc⟩ := hS
  unfold zq_l2 at hf
  split at hf
  · cases hf
    exact lv_lmul hx hb hdg (k H locs ls ⟨hW, hH, hL, hsc⟩)
  · cases hf
theorem zq_s_land {cc : ByteArray} {nL : Nat} {own : String} {rf rl pc : Nat}  (hdg : decode cc pc = .ok (.land, 1))  : zq_snd cc nL own rf rl pc (zq_l2 (pc + 1) (fun x y => x &&& y)) := by
  intro g p l e R s m args below meth c H locs cells slots Z ls lo st μ P pc' lo' st' μ' hC hS hf hP k
  obtain ⟨hx, hb, hml, hown, hts, hK, hX, hbl, hJ, hrf, hrl, hce, hsl, hdk⟩ := hC
  obtain ⟨hW, hH, hL, hsc⟩ := hS
  unfold zq_l2 at hf
  split at hf
  · cases hf
    exact lv_land hx hb hdg (k H locs ls ⟨hW, hH, hL, hsc⟩)
  · cases hf
theorem zq_s_lshl {cc : ByteArray} {nL : Nat} {own : String} {rf rl pc : Nat}  (hdg : decode cc pc = .ok (.lshl, 1))  : zq_snd cc nL own rf rl pc (zq_lsf (pc + 1) (fun x y => x <<< (y.toInt64 &&& 63))) := by
  intro g p l e R s m args below meth c H locs cells slots Z ls lo st μ P pc' lo' st' μ' hC hS hf hP k
  obtain ⟨hx, hb, hml, hown, hts, hK, hX, hbl, hJ, hrf, hrl, hce, hsl, hdk⟩ := hC
  obtain ⟨hW, hH, hL, hsc⟩ := hS
  unfold zq_lsf at hf
  split at hf
  · cases hf
    exact lv_lshl hx hb hdg rfl (k H locs ls ⟨hW, hH, hL, hsc⟩)
  · cases hf
theorem zq_s_lshr {cc : ByteArray} {nL : Nat} {own : String} {rf rl pc : Nat}  (hdg : decode cc pc = .ok (.lshr, 1))  : zq_snd cc nL own rf rl pc (zq_lsf (pc + 1) (fun x y => x >>> (y.toInt64 &&& 63))) := by
  intro g p l e R s m args below meth c H locs cells slots Z ls lo st μ P pc' lo' st' μ' hC hS hf hP k
  obtain ⟨hx, hb, hml, hown, hts, hK, hX, hbl, hJ, hrf, hrl, hce, hsl, hdk⟩ := hC
  obtain ⟨hW, hH, hL, hsc⟩ := hS
  unfold zq_lsf at hf
  split at hf
  · cases hf
    exact lv_lshr hx hb hdg rfl (k H locs ls ⟨hW, hH, hL, hsc⟩)
  · cases hf
theorem zq_s_i2l {cc : ByteArray} {nL : Nat} {own : String} {rf rl pc : Nat}  (hdg : decode cc pc = .ok (.i2l, 1))  : zq_snd cc nL own rf rl pc (zq_i2l (pc + 1) ) := by
  intro g p l e R s m args below meth c H locs cells slots Z ls lo st μ P pc' lo' st' μ' hC hS hf hP k
  obtain ⟨hx, hb, hml, hown, hts, hK, hX, hbl, hJ, hrf, hrl, hce, hsl, hdk⟩ := hC
  obtain ⟨hW, hH, hL, hsc⟩ := hS
  unfold zq_i2l at hf
  split at hf
  · cases hf
    exact lv_i2l hx hb hdg rfl (k H locs ls ⟨hW, hH, hL, hsc⟩)
  · cases hf
theorem zq_s_i2b {cc : ByteArray} {nL : Nat} {own : String} {rf rl pc : Nat}  (hdg : decode cc pc = .ok (.i2b, 1))  : zq_snd cc nL own rf rl pc (zq_i1 (pc + 1) (fun x => x.toInt8.toInt32)) := by
  intro g p l e R s m args below meth c H locs cells slots Z ls lo st μ P pc' lo' st' μ' hC hS hf hP k
  obtain ⟨hx, hb, hml, hown, hts, hK, hX, hbl, hJ, hrf, hrl, hce, hsl, hdk⟩ := hC
  obtain ⟨hW, hH, hL, hsc⟩ := hS
  unfold zq_i1 at hf
  split at hf
  · cases hf
    exact lv_i2b hx hb hdg rfl (k H locs ls ⟨hW, hH, hL, hsc⟩)
  · cases hf
theorem zq_s_i2s {cc : ByteArray} {nL : Nat} {own : String} {rf rl pc : Nat}  (hdg : decode cc pc = .ok (.i2s, 1))  : zq_snd cc nL own rf rl pc (zq_i1 (pc + 1) (fun x => x.toInt16.toInt32)) := by
  intro g p l e R s m args below meth c H locs cells slots Z ls lo st μ P pc' lo' st' μ' hC hS hf hP k
  obtain ⟨hx, hb, hml, hown, hts, hK, hX, hbl, hJ, hrf, hrl, hce, hsl, hdk⟩ := hC
  obtain ⟨hW, hH, hL, hsc⟩ := hS
  unfold zq_i1 at hf
  split at hf
  · cases hf
    exact lv_i2s hx hb hdg rfl (k H locs ls ⟨hW, hH, hL, hsc⟩)
  · cases hf
theorem zq_s_lcmp {cc : ByteArray} {nL : Nat} {own : String} {rf rl pc : Nat}  (hdg : decode cc pc = .ok (.lcmp, 1))  : zq_snd cc nL own rf rl pc (zq_lcmp (pc + 1) ) := by
  intro g p l e R s m args below meth c H locs cells slots Z ls lo st μ P pc' lo' st' μ' hC hS hf hP k
  obtain ⟨hx, hb, hml, hown, hts, hK, hX, hbl, hJ, hrf, hrl, hce, hsl, hdk⟩ := hC
  obtain ⟨hW, hH, hL, hsc⟩ := hS
  unfold zq_lcmp at hf
  split at hf
  · cases hf
    exact W.lcmp hx hb hdg (k H locs ls ⟨hW, hH, hL, hsc⟩)
  · cases hf
theorem zq_s_dup {cc : ByteArray} {nL : Nat} {own : String} {rf rl pc : Nat}  (hdg : decode cc pc = .ok (.dup, 1)) : zq_snd cc nL own rf rl pc (zq_dup (pc + 1)) := by
  intro g p l e R s m args below meth c H locs cells slots Z ls lo st μ P pc' lo' st' μ' hC hS hf hP k
  obtain ⟨hx, hb, hml, hown, hts, hK, hX, hbl, hJ, hrf, hrl, hce, hsl, hdk⟩ := hC
  obtain ⟨hW, hH, hL, hsc⟩ := hS
  unfold zq_dup at hf
  split at hf
  · cases hf
    exact lv_dup hx hb hdg rfl (k H locs ls ⟨hW, hH, hL, hsc⟩)
  · cases hf
    exact lv_dup hx hb hdg rfl (k H locs ls ⟨hW, hH, hL, hsc⟩)
  · cases hf
theorem zq_s_dup2 {cc : ByteArray} {nL : Nat} {own : String} {rf rl pc : Nat}  (hdg : decode cc pc = .ok (.dup2, 1))  : zq_snd cc nL own rf rl pc (zq_dup2 (pc + 1) ) := by
  intro g p l e R s m args below meth c H locs cells slots Z ls lo st μ P pc' lo' st' μ' hC hS hf hP k
  obtain ⟨hx, hb, hml, hown, hts, hK, hX, hbl, hJ, hrf, hrl, hce, hsl, hdk⟩ := hC
  obtain ⟨hW, hH, hL, hsc⟩ := hS
  unfold zq_dup2 at hf
  split at hf
  · cases hf
    exact lv_dup2_11 hx hb hdg rfl rfl (k H locs ls ⟨hW, hH, hL, hsc⟩)
  · cases hf
def zq_if_eq (pc' tgt : Nat) : zq_Op := fun lo st μ => match st with
  | .int x :: r => some ([], if x = 0 then tgt else pc', lo, r, μ)
  | _ => none
def zq_ic_eq (pc' tgt : Nat) : zq_Op := fun lo st μ => match st with
  | .int y :: .int x :: r => some ([], if x = y then tgt else pc', lo, r, μ)
  | _ => none
theorem zq_s_if_eq {cc : ByteArray} {nL : Nat} {own : String} {rf rl pc : Nat} {off : Int} {tgt : Nat} (hdg : decode cc pc = .ok (.ifCond .eq off, 3)) (ht : (pc : Int) + off = (tgt : Int)) : zq_snd cc nL own rf rl pc (zq_if_eq (pc + 3) tgt) := by
  intro g p l e R s m args below meth c H locs cells slots Z ls lo st μ P pc' lo' st' μ' hC hS hf hP k
  obtain ⟨hx, hb, hml, hown, hts, hK, hX, hbl, hJ, hrf, hrl, hce, hsl, hdk⟩ := hC
  obtain ⟨hW, hH, hL, hsc⟩ := hS
  unfold zq_if_eq at hf
  split at hf
  · cases hf
    have k := k H locs ls ⟨hW, hH, hL, hsc⟩
    refine lv_if_eq hx hb hdg ht (fun hq => ?_) (fun hq => ?_)
    · rw [if_pos hq] at k
      exact k
    · rw [if_neg hq] at k
      exact k
  · cases hf
theorem zq_s_ic_eq {cc : ByteArray} {nL : Nat} {own : String} {rf rl pc : Nat} {off : Int} {tgt : Nat} (hdg : decode cc pc = .ok (.if_icmp .eq off, 3)) (ht : (pc : Int) + off = (tgt : Int)) : zq_snd cc nL own rf rl pc (zq_ic_eq (pc + 3) tgt) := by
  intro g p l e R s m args below meth c H locs cells slots Z ls lo st μ P pc' lo' st' μ' hC hS hf hP k
  obtain ⟨hx, hb, hml, hown, hts, hK, hX, hbl, hJ, hrf, hrl, hce, hsl, hdk⟩ := hC
  obtain ⟨hW, hH, hL, hsc⟩ := hS
  unfold zq_ic_eq at hf
  split at hf
  · cases hf
    have k := k H locs ls ⟨hW, hH, hL, hsc⟩
    refine lv_icmp_eq hx hb hdg ht (fun hq => ?_) (fun hq => ?_)
    · rw [if_pos hq] at k
      exact k
    · rw [if_neg hq] at k
      exact k
  · cases hf
def zq_if_ne (pc' tgt : Nat) : zq_Op := fun lo st μ => match st with
  | .int x :: r => some ([], if ¬ x = 0 then tgt else pc', lo, r, μ)
  | _ => none
def zq_ic_ne (pc' tgt : Nat) : zq_Op := fun lo st μ => match st with
  | .int y :: .int x :: r => some ([], if ¬ x = y then tgt else pc', lo, r, μ)
  | _ => none
theorem zq_s_if_ne {cc : ByteArray} {nL : Nat} {own : String} {rf rl pc : Nat} {off : Int} {tgt : Nat} (hdg : decode cc pc = .ok (.ifCond .ne off, 3)) (ht : (pc : Int) + off = (tgt : Int)) : zq_snd cc nL own rf rl pc (zq_if_ne (pc + 3) tgt) := by
  intro g p l e R s m args below meth c H locs cells slots Z ls lo st μ P pc' lo' st' μ' hC hS hf hP k
  obtain ⟨hx, hb, hml, hown, hts, hK, hX, hbl, hJ, hrf, hrl, hce, hsl, hdk⟩ := hC
  obtain ⟨hW, hH, hL, hsc⟩ := hS
  unfold zq_if_ne at hf
  split at hf
  · cases hf
    have k := k H locs ls ⟨hW, hH, hL, hsc⟩
    refine lv_if_ne hx hb hdg ht (fun hq => ?_) (fun hq => ?_)
    · rw [if_pos hq] at k
      exact k
    · rw [if_neg (fun h => h hq)] at k
      exact k
  · cases hf
theorem zq_s_ic_ne {cc : ByteArray} {nL : Nat} {own : String} {rf rl pc : Nat} {off : Int} {tgt : Nat} (hdg : decode cc pc = .ok (.if_icmp .ne off, 3)) (ht : (pc : Int) + off = (tgt : Int)) : zq_snd cc nL own rf rl pc (zq_ic_ne (pc + 3) tgt) := by
  intro g p l e R s m args below meth c H locs cells slots Z ls lo st μ P pc' lo' st' μ' hC hS hf hP k
  obtain ⟨hx, hb, hml, hown, hts, hK, hX, hbl, hJ, hrf, hrl, hce, hsl, hdk⟩ := hC
  obtain ⟨hW, hH, hL, hsc⟩ := hS
  unfold zq_ic_ne at hf
  split at hf
  · cases hf
    have k := k H locs ls ⟨hW, hH, hL, hsc⟩
    refine lv_icmp_ne hx hb hdg ht (fun hq => ?_) (fun hq => ?_)
    · rw [if_pos hq] at k
      exact k
    · rw [if_neg (fun h => h hq)] at k
      exact k
  · cases hf
def zq_if_lt (pc' tgt : Nat) : zq_Op := fun lo st μ => match st with
  | .int x :: r => some ([], if x < 0 then tgt else pc', lo, r, μ)
  | _ => none
def zq_ic_lt (pc' tgt : Nat) : zq_Op := fun lo st μ => match st with
  | .int y :: .int x :: r => some ([], if x < y then tgt else pc', lo, r, μ)
  | _ => none
theorem zq_s_if_lt {cc : ByteArray} {nL : Nat} {own : String} {rf rl pc : Nat} {off : Int} {tgt : Nat} (hdg : decode cc pc = .ok (.ifCond .lt off, 3)) (ht : (pc : Int) + off = (tgt : Int)) : zq_snd cc nL own rf rl pc (zq_if_lt (pc + 3) tgt) := by
  intro g p l e R s m args below meth c H locs cells slots Z ls lo st μ P pc' lo' st' μ' hC hS hf hP k
  obtain ⟨hx, hb, hml, hown, hts, hK, hX, hbl, hJ, hrf, hrl, hce, hsl, hdk⟩ := hC
  obtain ⟨hW, hH, hL, hsc⟩ := hS
  unfold zq_if_lt at hf
  split at hf
  · cases hf
    have k := k H locs ls ⟨hW, hH, hL, hsc⟩
    refine lv_if_lt hx hb hdg ht (fun hq => ?_) (fun hq => ?_)
    · rw [if_pos hq] at k
      exact k
    · rw [if_neg hq] at k
      exact k
  · cases hf
theorem zq_s_ic_lt {cc : ByteArray} {nL : Nat} {own : String} {rf rl pc : Nat} {off : Int} {tgt : Nat} (hdg : decode cc pc = .ok (.if_icmp .lt off, 3)) (ht : (pc : Int) + off = (tgt : Int)) : zq_snd cc nL own rf rl pc (zq_ic_lt (pc + 3) tgt) := by
  intro g p l e R s m args below meth c H locs cells slots Z ls lo st μ P pc' lo' st' μ' hC hS hf hP k
  obtain ⟨hx, hb, hml, hown, hts, hK, hX, hbl, hJ, hrf, hrl, hce, hsl, hdk⟩ := hC
  obtain ⟨hW, hH, hL, hsc⟩ := hS
  unfold zq_ic_lt at hf
  split at hf
  · cases hf
    have k := k H locs ls ⟨hW, hH, hL, hsc⟩
    refine lv_icmp_lt hx hb hdg ht (fun hq => ?_) (fun hq => ?_)
    · rw [if_pos hq] at k
      exact k
    · rw [if_neg hq] at k
      exact k
  · cases hf
def zq_if_ge (pc' tgt : Nat) : zq_Op := fun lo st μ => match st with
  | .int x :: r => some ([], if 0 ≤ x then tgt else pc', lo, r, μ)
  | _ => none
def zq_ic_ge (pc' tgt : Nat) : zq_Op := fun lo st μ => match st with
  | .int y :: .int x :: r => some ([], if y ≤ x then tgt else pc', lo, r, μ)
  | _ => none
theorem zq_s_if_ge {cc : ByteArray} {nL : Nat} {own : String} {rf rl pc : Nat} {off : Int} {tgt : Nat} (hdg : decode cc pc = .ok (.ifCond .ge off, 3)) (ht : (pc : Int) + off = (tgt : Int)) : zq_snd cc nL own rf rl pc (zq_if_ge (pc + 3) tgt) := by
  intro g p l e R s m args below meth c H locs cells slots Z ls lo st μ P pc' lo' st' μ' hC hS hf hP k
  obtain ⟨hx, hb, hml, hown, hts, hK, hX, hbl, hJ, hrf, hrl, hce, hsl, hdk⟩ := hC
  obtain ⟨hW, hH, hL, hsc⟩ := hS
  unfold zq_if_ge at hf
  split at hf
  · cases hf
    have k := k H locs ls ⟨hW, hH, hL, hsc⟩
    refine lv_if_ge hx hb hdg ht (fun hq => ?_) (fun hq => ?_)
    · rw [if_pos hq] at k
      exact k
    · rw [if_neg hq] at k
      exact k
  · cases hf
theorem zq_s_ic_ge {cc : ByteArray} {nL : Nat} {own : String} {rf rl pc : Nat} {off : Int} {tgt : Nat} (hdg : decode cc pc = .ok (.if_icmp .ge off, 3)) (ht : (pc : Int) + off = (tgt : Int)) : zq_snd cc nL own rf rl pc (zq_ic_ge (pc + 3) tgt) := by
  intro g p l e R s m args below meth c H locs cells slots Z ls lo st μ P pc' lo' st' μ' hC hS hf hP k
  obtain ⟨hx, hb, hml, hown, hts, hK, hX, hbl, hJ, hrf, hrl, hce, hsl, hdk⟩ := hC
  obtain ⟨hW, hH, hL, hsc⟩ := hS
  unfold zq_ic_ge at hf
  split at hf
  · cases hf
    have k := k H locs ls ⟨hW, hH, hL, hsc⟩
    refine lv_icmp_ge hx hb hdg ht (fun hq => ?_) (fun hq => ?_)
    · rw [if_pos hq] at k
      exact k
    · rw [if_neg hq] at k
      exact k
  · cases hf
def zq_if_gt (pc' tgt : Nat) : zq_Op := fun lo st μ => match st with
  | .int x :: r => some ([], if 0 < x then tgt else pc', lo, r, μ)
  | _ => none
def zq_ic_gt (pc' tgt : Nat) : zq_Op := fun lo st μ => match st with
  | .int y :: .int x :: r => some ([], if y < x then tgt else pc', lo, r, μ)
  | _ => none
theorem zq_s_if_gt {cc : ByteArray} {nL : Nat} {own : String} {rf rl pc : Nat} {off : Int} {tgt : Nat} (hdg : decode cc pc = .ok (.ifCond .gt off, 3)) (ht : (pc : Int) + off = (tgt : Int)) : zq_snd cc nL own rf rl pc (zq_if_gt (pc + 3) tgt) := by
  intro g p l e R s m args below meth c H locs cells slots Z ls lo st μ P pc' lo' st' μ' hC hS hf hP k
  obtain ⟨hx, hb, hml, hown, hts, hK, hX, hbl, hJ, hrf, hrl, hce, hsl, hdk⟩ := hC
  obtain ⟨hW, hH, hL, hsc⟩ := hS
  unfold zq_if_gt at hf
  split at hf
  · cases hf
    have k := k H locs ls ⟨hW, hH, hL, hsc⟩
    refine lv_if_gt hx hb hdg ht (fun hq => ?_) (fun hq => ?_)
    · rw [if_pos hq] at k
      exact k
    · rw [if_neg hq] at k
      exact k
  · cases hf
theorem zq_s_ic_gt {cc : ByteArray} {nL : Nat} {own : String} {rf rl pc : Nat} {off : Int} {tgt : Nat} (hdg : decode cc pc = .ok (.if_icmp .gt off, 3)) (ht : (pc : Int) + off = (tgt : Int)) : zq_snd cc nL own rf rl pc (zq_ic_gt (pc + 3) tgt) := by
  intro g p l e R s m args below meth c H locs cells slots Z ls lo st μ P pc' lo' st' μ' hC hS hf hP k
  obtain ⟨hx, hb, hml, hown, hts, hK, hX, hbl, hJ, hrf, hrl, hce, hsl, hdk⟩ := hC
  obtain ⟨hW, hH, hL, hsc⟩ := hS
  unfold zq_ic_gt at hf
  split at hf
  · cases hf
    have k := k H locs ls ⟨hW, hH, hL, hsc⟩
    refine lv_icmp_gt hx hb hdg ht (fun hq => ?_) (fun hq => ?_)
    · rw [if_pos hq] at k
      exact k
    · rw [if_neg hq] at k
      exact k
  · cases hf
def zq_if_le (pc' tgt : Nat) : zq_Op := fun lo st μ => match st with
  | .int x :: r => some ([], if x ≤ 0 then tgt else pc', lo, r, μ)
  | _ => none
def zq_ic_le (pc' tgt : Nat) : zq_Op := fun lo st μ => match st with
  | .int y :: .int x :: r => some ([], if x ≤ y then tgt else pc', lo, r, μ)
  | _ => none
theorem zq_s_if_le {cc : ByteArray} {nL : Nat} {own : String} {rf rl pc : Nat} {off : Int} {tgt : Nat} (hdg : decode cc pc = .ok (.ifCond .le off, 3)) (ht : (pc : Int) + off = (tgt : Int)) : zq_snd cc nL own rf rl pc (zq_if_le (pc + 3) tgt) := by
  intro g p l e R s m args below meth c H locs cells slots Z ls lo st μ P pc' lo' st' μ' hC hS hf hP k
  obtain ⟨hx, hb, hml, hown, hts, hK, hX, hbl, hJ, hrf, hrl, hce, hsl, hdk⟩ := hC
  obtain ⟨hW, hH, hL, hsc⟩ := hS
  unfold zq_if_le at hf
  split at hf
  · cases hf
    have k := k H locs ls ⟨hW, hH, hL, hsc⟩
    refine lv_if_le hx hb hdg ht (fun hq => ?_) (fun hq => ?_)
    · rw [if_pos hq] at k
      exact k
    · rw [if_neg hq] at k
      exact k
  · cases hf
theorem zq_s_ic_le {cc : ByteArray} {nL : Nat} {own : String} {rf rl pc : Nat} {off : Int} {tgt : Nat} (hdg : decode cc pc = .ok (.if_icmp .le off, 3)) (ht : (pc : Int) + off = (tgt : Int)) : zq_snd cc nL own rf rl pc (zq_ic_le (pc + 3) tgt) := by
  intro g p l e R s m args below meth c H locs cells slots Z ls lo st μ P pc' lo' st' μ' hC hS hf hP k
  obtain ⟨hx, hb, hml, hown, hts, hK, hX, hbl, hJ, hrf, hrl, hce, hsl, hdk⟩ := hC
  obtain ⟨hW, hH, hL, hsc⟩ := hS
  unfold zq_ic_le at hf
  split at hf
  · cases hf
    have k := k H locs ls ⟨hW, hH, hL, hsc⟩
    refine lv_icmp_le hx hb hdg ht (fun hq => ?_) (fun hq => ?_)
    · rw [if_pos hq] at k
      exact k
    · rw [if_neg hq] at k
      exact k
  · cases hf
def zq_ifnull (pc' tgt : Nat) : zq_Op := fun lo st μ => match st with
  | .ref _ :: r => some ([], pc', lo, r, μ)
  | .null :: r => some ([], tgt, lo, r, μ)
  | _ => none
def zq_goto (tgt : Nat) : zq_Op := fun lo st μ => some ([], tgt, lo, st, μ)
theorem zq_s_ifnull {cc : ByteArray} {nL : Nat} {own : String} {rf rl pc : Nat} {off : Int} {tgt : Nat} (hdg : decode cc pc = .ok (.ifnull off, 3)) (ht : (pc : Int) + off = (tgt : Int)) : zq_snd cc nL own rf rl pc (zq_ifnull (pc + 3) tgt) := by
  intro g p l e R s m args below meth c H locs cells slots Z ls lo st μ P pc' lo' st' μ' hC hS hf hP k
  obtain ⟨hx, hb, hml, hown, hts, hK, hX, hbl, hJ, hrf, hrl, hce, hsl, hdk⟩ := hC
  obtain ⟨hW, hH, hL, hsc⟩ := hS
  unfold zq_ifnull at hf
  split at hf
  · cases hf
    exact lv_ifnull hx hb hdg (k H locs ls ⟨hW, hH, hL, hsc⟩)
  · cases hf
    exact lv_ifnullN hx hb hdg ht (k H locs ls ⟨hW, hH, hL, hsc⟩)
  · cases hf
theorem zq_s_ifnonnull {cc : ByteArray} {nL : Nat} {own : String} {rf rl pc : Nat} {off : Int} {tgt : Nat} (hdg : decode cc pc = .ok (.ifnonnull off, 3)) (ht : (pc : Int) + off = (tgt : Int)) : zq_snd cc nL own rf rl pc (zq_ifnull tgt (pc + 3)) := by
  intro g p l e R s m args below meth c H locs cells slots Z ls lo st μ P pc' lo' st' μ' hC hS hf hP k
  obtain ⟨hx, hb, hml, hown, hts, hK, hX, hbl, hJ, hrf, hrl, hce, hsl, hdk⟩ := hC
  obtain ⟨hW, hH, hL, hsc⟩ := hS
  unfold zq_ifnull at hf
  split at hf
  · cases hf
    exact lv_ifnonnull hx hb hdg ht (k H locs ls ⟨hW, hH, hL, hsc⟩)
  · cases hf
    exact lv_ifnonnullN hx hb hdg (k H locs ls ⟨hW, hH, hL, hsc⟩)
  · cases hf
theorem zq_s_goto {cc : ByteArray} {nL : Nat} {own : String} {rf rl pc : Nat} {off : Int} {tgt : Nat} (hdg : decode cc pc = .ok (.goto off, 3)) (ht : (pc : Int) + off = (tgt : Int)) : zq_snd cc nL own rf rl pc (zq_goto tgt) := by
  intro g p l e R s m args below meth c H locs cells slots Z ls lo st μ P pc' lo' st' μ' hC hS hf hP k
  obtain ⟨hx, hb, hml, hown, hts, hK, hX, hbl, hJ, hrf, hrl, hce, hsl, hdk⟩ := hC
  obtain ⟨hW, hH, hL, hsc⟩ := hS
  cases hf
  exact lv_goto hx hb hdg ht (k H locs ls ⟨hW, hH, hL, hsc⟩)
def zq_tgt (lo hi : Int) (d : Nat) (tg : List Nat) (x : Int32) : Nat := if x.toInt < lo ∨ hi < x.toInt then d else tg.getD (x.toInt - lo).toNat d
def zq_tsw (lo hi : Int) (d : Nat) (tg : List Nat) : zq_Op := fun l st μ => match st with
  | .int x :: r => some ([], zq_tgt lo hi d tg x, l, r, μ)
  | _ => none
theorem zq_s_tsw {cc : ByteArray} {nL : Nat} {own : String} {rf rl pc : Nat} {dflt lw hi : Int} {offs : Array Int} {len d : Nat} {tg : List Nat} (hdg : decode cc pc = .ok (.tableswitch dflt lw hi offs, len)) (hd : (pc : Int) + dflt = (d : Int)) (hn : hi - lw < tg.length) (ht : ∀ n, n < tg.length → ∃ off, offs[n]? = some off ∧ (pc : Int) + off = (tg.getD n d : Int)) : zq_snd cc nL own rf rl pc (zq_tsw lw hi d tg) := by
  intro g p l e R s m args below meth c H locs cells slots Z ls lo st μ P pc' lo' st' μ' hC hS hf hP k
  obtain ⟨hx, hb, hml, hown, hts, hK, hX, hbl, hJ, hrf, hrl, hce, hsl, hdk⟩ := hC
  obtain ⟨hW, hH, hL, hsc⟩ := hS
  unfold zq_tsw at hf
  split at hf
  · rename_i x r
    cases hf
    have k := k H locs ls ⟨hW, hH, hL, hsc⟩
    by_cases hq : x.toInt < lw ∨ hi < x.toInt
    · unfold zq_tgt at k
      rw [if_pos hq] at k
      exact lv_tableOut hx hb hdg hq hd k
    · unfold zq_tgt at k
      rw [if_neg hq] at k
      obtain ⟨off, h1, h2⟩ := ht (x.toInt - lw).toNat (by omega)
      exact lv_tableIn hx hb hdg (fun h => hq (Or.inl h)) (fun h => hq (Or.inr h)) h1 h2 k
  · cases hf
def zq_l3 (a1 a2 a3 : Int32) (t1 t2 t3 d : Nat) : zq_Op := fun l st μ => match st with
  | .int x :: r => some ([], if x = a1 then t1 else if x = a2 then t2 else if x = a3 then t3 else d, l, r, μ)
  | _ => none
theorem zq_s_l3 {cc : ByteArray} {nL : Nat} {own : String} {rf rl pc : Nat} {dflt : Int} {ps : Array (Int × Int)} {len d : Nat} {a1 a2 a3 : Int32} {b1 b2 b3 o1 o2 o3 : Int} {t1 t2 t3 : Nat} (hdg : decode cc pc = .ok (.lookupswitch dflt ps, len)) (hp : (ps.toList.zip (ps.toList.drop 1)).all (fun (a, next) => a.1 < next.1) = true) (hl : ps.toList = [(b1, o1), (b2, o2), (b3, o3)]) (h1 : a1.toInt = b1 ∧ a2.toInt = b2 ∧ a3.toInt = b3) (hd : (pc : Int) + dflt = (d : Int) ∧ (pc : Int) + o1 = (t1 : Int) ∧ (pc : Int) + o2 = (t2 : Int) ∧ (pc : Int) + o3 = (t3 : Int)) : zq_snd cc nL own rf rl pc (zq_l3 a1 a2 a3 t1 t2 t3 d) := by
  intro g p l e R s m args below meth c H locs cells slots Z ls lo st μ P pc' lo' st' μ' hC hS hf hP k
  obtain ⟨hx, hb, hml, hown, hts, hK, hX, hbl, hJ, hrf, hrl, hce, hsl, hdk⟩ := hC
  obtain ⟨hW, hH, hL, hsc⟩ := hS
  unfold zq_l3 at hf
  split at hf
  · rename_i x r
    cases hf
    have k := k H locs ls ⟨hW, hH, hL, hsc⟩
    obtain ⟨e1, e2, e3⟩ := h1
    obtain ⟨d0, d1, d2, d3⟩ := hd
    by_cases q1 : x = a1
    · rw [if_pos q1] at k
      exact lv_lookup hx hb hdg hp (off := o1) (by rw [hl, q1, ← e1]; simp [Op.lookupswitch.offset]) d1 k
    · rw [if_neg q1] at k
      by_cases q2 : x = a2
      · rw [if_pos q2] at k
        exact lv_lookup hx hb hdg hp (off := o2) (by rw [hl, lv_osw q1 e1, q2, ← e2]; simp [Op.lookupswitch.offset]) d2 k
      · rw [if_neg q2] at k
        by_cases q3 : x = a3
        · rw [if_pos q3] at k
          exact lv_lookup hx hb hdg hp (off := o3) (by rw [hl, lv_osw q1 e1, lv_osw q2 e2, q3, ← e3]; simp [Op.lookupswitch.offset]) d3 k
        · rw [if_neg q3] at k
          exact lv_lookup hx hb hdg hp (off := dflt) (by rw [hl, lv_osw q1 e1, lv_osw q2 e2, lv_osw q3 e3]; simp [Op.lookupswitch.offset]) d0 k
  · cases hf
def zq_asc (ci : Nat) : List (Nat × Nat) → Option Nat
  | [] => none
  | q :: r => bif Nat.beq q.1 ci then some q.2 else zq_asc ci r
theorem zq_asc_mem {ci j : Nat} : ∀ {cj : List (Nat × Nat)}, zq_asc ci cj = some j → (ci, j) ∈ cj
  | [], h => by cases h
  | q :: r, h => by
    unfold zq_asc at h
    cases hb : Nat.beq q.1 ci with
    | true =>
      rw [hb] at h
      cases h
      have := Nat.eq_of_beq_eq_true hb
      subst this
      exact List.mem_cons_self
    | false =>
      rw [hb] at h
      exact List.mem_cons_of_mem _ (zq_asc_mem h)
def zq_fcode (a : Nat) (cj : List (Nat × Nat)) : Option (Nat × Nat) := match zq_sh a with
  | (0, ci, cs) => match zq_asc ci cj with
    | some j => match cs[j]? with
      | some code => some (j, code)
      | none => none
    | none => none
  | _ => none
theorem zq_fcode_spec {a j code : Nat} {cj : List (Nat × Nat)} (h : zq_fcode a cj = some (j, code)) : ∃ (ci : Nat) (cs : List Nat), zq_sh a = (0, ci, cs) ∧ (ci, j) ∈ cj ∧ cs[j]? = some code := by
  unfold zq_fcode at h
  split at h
  · rename_i ci cs he
    split at h
    · rename_i j' hj
      split at h
      · rename_i code' hc
        cases h
        exact ⟨ci, cs, he, zq_asc_mem hj, hc⟩
      · cases h
    · cases h
  · cases h
def zq_fok (own : String) (index ci j : Nat) : Prop := ∃ (ref C : String) (T : u_T) (N : Nat), vwCl[ci]? = some (C, T, N) ∧ j < N ∧ (∀ w ∈ u_ws C T N, w ∈ zq_W) ∧ Cond.fieldLink own index ref (T j).2.1 (T j).2.2.1 ∈ zq_W ∧ (ref = (T j).1 ∨ Cond.sameField ref (T j).1 (T j).2.1 (T j).2.2.1 ∈ zq_W)
def zq_wok (own : String) (index ci j : Nat) (ty : FieldType) : Prop := ∃ (C : String) (T : u_T) (N : Nat) (ty0 : Nat → FieldType), vwCl[ci]? = some (C, T, N) ∧ j < N ∧ (∀ w ∈ u_ws C T N, w ∈ zq_W) ∧ Cond.fieldLink own index (T j).1 (T j).2.1 (T j).2.2.1 ∈ zq_W ∧ (∀ k, k < N → parseFieldDescriptor (T k).2.2.1 = some (ty0 k)) ∧ (∀ a, a < N → ∀ b, b < N → a ≠ b → (T a).2.1 ≠ (T b).2.1) ∧ (T j).2.2.2 = false ∧ parseFieldDescriptor (T j).2.2.1 = some ty
theorem zq_ce0 {g : zq_G} {μ : zq_Me} {a ci : Nat} {cs : List Nat} (h : zq_sh a = (0, ci, cs)) : zq_ce g μ a = .inr (ci, (zq_fvs a μ 0 cs).map (zq_cv g)) := by unfold zq_ce; rw [h]; rfl
theorem zq_ce1 {g : zq_G} {μ : zq_Me} {a n : Nat} {cs : List Nat} (h : zq_sh a = (1, n, cs)) : zq_ce g μ a = .inl (zq_cA g 0, (n, .inl (μ.1 a))) := by unfold zq_ce; rw [h]; rfl
theorem zq_ce2 {g : zq_G} {μ : zq_Me} {a n : Nat} {cs : List Nat} (h : zq_sh a = (2, n, cs)) : zq_ce g μ a = .inl (zq_cA g 1, (n, .inr (.inl (μ.2.1 a)))) := by unfold zq_ce; rw [h]; rfl
theorem zq_ce3 {g : zq_G} {μ : zq_Me} {a n : Nat} {cs : List Nat} (h : zq_sh a = (3, n, cs)) : zq_ce g μ a = .inl (zq_cA g 2, (n, .inl (μ.1 a))) := by unfold zq_ce; rw [h]; rfl
theorem zq_ce4 {g : zq_G} {μ : zq_Me} {a n : Nat} {cs : List Nat} (h : zq_sh a = (4, n, cs)) : zq_ce g μ a = .inl (zq_cA g 3, (n, .inr (.inr (.inr (.inr (fun j => some (zq_ad g (cs.getD j 0)))))))) := by unfold zq_ce; rw [h]; rfl
theorem zq_row {g : zq_G} {μ : zq_Me} {a : Nat} {e : va_E} (hl : a < zq_nC) (h : zq_ce g μ a = e) : (zq_ws g μ)[a]? = some (zq_ad g a, e) := by rw [zq_at hl, h]
def zq_getf (pc' : Nat) (cj : List (Nat × Nat)) : zq_Op := fun lo st μ => match st with
  | .ref a :: r => match zq_fcode a cj with
    | some (j, code) => some ([], pc', lo, zq_fv a j code μ :: r, μ)
    | none => none
  | _ => none
theorem zq_s_getf {cc : ByteArray} {nL : Nat} {own : String} {rf rl pc : Nat} {index : Nat} {cj : List (Nat × Nat)} (hdg : decode cc pc = .ok (.getfield index, 3)) (hok : ∀ q ∈ cj, zq_fok own index q.1 q.2) : zq_snd cc nL own rf rl pc (zq_getf (pc + 3) cj) := by
  intro g p l e R s m args below meth c H locs cells slots Z ls lo st μ P pc' lo' st' μ' hC hS hf hP k
  obtain ⟨hx, hb, hml, hown, hts, hK, hX, hbl, hJ, hrf, hrl, hce, hsl, hdk⟩ := hC
  obtain ⟨hW, hH, hL, hsc⟩ := hS
  unfold zq_getf at hf
  split at hf
  · rename_i a r
    split at hf
    · rename_i j code hq
      cases hf
      obtain ⟨ci, cs, h1, h2, h3⟩ := zq_fcode_spec hq
      obtain ⟨ref, C, T, N, q1, q2, q3, q4, q5⟩ := hok _ h2
      have hv : ((zq_fvs a μ 0 cs).map (zq_cv g))[j]? = some (zq_cv g (zq_fv a j code μ)) := by
        rw [List.getElem?_map, zq_fvs_get, h3, Nat.zero_add]
        rfl
      refine va_get (D := g.1) (ref := ref) hx hb hts q3 hown hK hW a (zq_row (zq_lt h1 (by decide)) (zq_ce0 h1)) q1 j q2 (hts _ q4) (fun x hx9 => ?_) hv hdg (k H locs ls ⟨hW, hH, hL, hsc⟩)
      rcases q5 with q5 | q5
      · rw [q5]; exact hx9
      · exact u_same (hts _ q5) x hx9
    · cases hf
  · cases hf
def zq_puti (pc' : Nat) (bz : Bool) (cj : List (Nat × Nat)) : zq_Op := fun lo st μ => match st with
  | .int x :: .ref a :: r => match zq_fcode a cj with
    | some (j, 0) => some (bif bz then [x = 0 ∨ x = 1] else [], pc', lo, r, zq_u1 μ a j x)
    | _ => none
  | _ => none
def zq_putr (pc' : Nat) (cj : List (Nat × Nat)) : zq_Op := fun lo st μ => match st with
  | .ref n :: .ref a :: r => match zq_fcode a cj with
    | some (j, 1) => some ([], pc', lo, r, zq_u3 μ a j n)
    | _ => none
  | _ => none
theorem zq_u1_o {g : zq_G} {μ : zq_Me} {a i : Nat} {x : Int32} : ∀ j, j ≠ a → zq_ce g (zq_u1 μ a i x) j = zq_ce g μ j := fun j hj => zq_ce_congr (by simp [zq_u1, hj]) rfl rfl
theorem zq_u2_o {g : zq_G} {μ : zq_Me} {a i : Nat} {x : Int64} : ∀ j, j ≠ a → zq_ce g (zq_u2 μ a i x) j = zq_ce g μ j := fun j hj => zq_ce_congr rfl (by simp [zq_u2, hj]) rfl
theorem zq_u3_o {g : zq_G} {μ : zq_Me} {a i n : Nat} : ∀ j, j ≠ a → zq_ce g (zq_u3 μ a i n) j = zq_ce g μ j := fun j hj => zq_ce_congr rfl rfl (by simp [zq_u3, hj])
theorem zq_ur_o {g : zq_G} {μ : zq_Me} {a : Nat} {f : Nat → Int32} : ∀ j, j ≠ a → zq_ce g (zq_ur μ a f) j = zq_ce g μ j := fun j hj => zq_ce_congr (by simp [zq_ur, hj]) rfl rfl
theorem zq_s_puti {cc : ByteArray} {nL : Nat} {own : String} {rf rl pc : Nat} {index : Nat} {bz : Bool} {cj : List (Nat × Nat)} {ty : FieldType} (hdg : decode cc pc = .ok (.putfield index, 3)) (hok : ∀ q ∈ cj, zq_wok own index q.1 q.2 ty) (hty : ∀ x : Int32, (bz = true → x = 0 ∨ x = 1) → narrow ty (.int x) = .int x ∧ fits ty (.int x) = true) : zq_snd cc nL own rf rl pc (zq_puti (pc + 3) bz cj) := by
  intro g p l e R s m args below meth c H locs cells slots Z ls lo st μ P pc' lo' st' μ' hC hS hf hP k
  obtain ⟨hx, hb, hml, hown, hts, hK, hX, hbl, hJ, hrf, hrl, hce, hsl, hdk⟩ := hC
  obtain ⟨hW, hH, hL, hsc⟩ := hS
  unfold zq_puti at hf
  split at hf
  · rename_i x a r
    split at hf
    · rename_i j hq
      cases hf
      obtain ⟨ci, cs, h1, h2, h3⟩ := zq_fcode_spec hq
      obtain ⟨C, T, N, ty0, q1, q2, q3, q4, q5, q6, q7, q8⟩ := hok _ h2
      obtain ⟨n1, n2⟩ := hty x (fun hb9 => by rw [hb9] at hP; exact hP.1)
      refine va_put (D := g.1) (ty := ty) hx hb hts q3 ty0 q5 q6 hown hK hW (zq_dis hJ μ) hH a (zq_row (zq_lt h1 (by decide)) (zq_ce0 h1)) q1 j q2 (hts _ q4) (fun _ h9 => h9) q7 q8 n1 n2 (by rw [List.length_map, zq_fvs_len]; exact (List.getElem?_eq_some_iff.mp h3).1) hdg (fun H1 locs1 hP1 _ hS1 => ?_)
      rw [zq_set (μ' := zq_u1 μ a j x) (by rw [zq_ce0 h1, zq_fvs_set1 cs h3, List.map_set]) zq_u1_o] at hP1
      exact k H1 locs1 ls ⟨hP1, hS1, hL, hsc⟩
    · cases hf
  · cases hf
theorem zq_s_putr {cc : ByteArray} {nL : Nat} {own : String} {rf rl pc : Nat} {index : Nat} {cj : List (Nat × Nat)} {C0 : String} (hdg : decode cc pc = .ok (.putfield index, 3)) (hok : ∀ q ∈ cj, zq_wok own index q.1 q.2 (.object C0)) : zq_snd cc nL own rf rl pc (zq_putr (pc + 3) cj) := by
  intro g p l e R s m args below meth c H locs cells slots Z ls lo st μ P pc' lo' st' μ' hC hS hf hP k
  obtain ⟨hx, hb, hml, hown, hts, hK, hX, hbl, hJ, hrf, hrl, hce, hsl, hdk⟩ := hC
  obtain ⟨hW, hH, hL, hsc⟩ := hS
  unfold zq_putr at hf
  split at hf
  · rename_i n a r
    split at hf
    · rename_i j hq
      cases hf
      obtain ⟨ci, cs, h1, h2, h3⟩ := zq_fcode_spec hq
      obtain ⟨C, T, N, ty0, q1, q2, q3, q4, q5, q6, q7, q8⟩ := hok _ h2
      refine va_put (D := g.1) (ty := .object C0) hx hb hts q3 ty0 q5 q6 hown hK hW (zq_dis hJ μ) hH a (zq_row (zq_lt h1 (by decide)) (zq_ce0 h1)) q1 j q2 (hts _ q4) (fun _ h9 => h9) q7 q8 rfl rfl (by rw [List.length_map, zq_fvs_len]; exact (List.getElem?_eq_some_iff.mp h3).1) hdg (fun H1 locs1 hP1 _ hS1 => ?_)
      rw [zq_set (μ' := zq_u3 μ a j n) (by rw [zq_ce0 h1, zq_fvs_set3 cs h3, List.map_set]) zq_u3_o] at hP1
      exact k H1 locs1 ls ⟨hP1, hS1, hL, hsc⟩
    · cases hf
  · cases hf
def zq_iald (pc' : Nat) : zq_Op := fun lo st μ => match st with
  | .int i :: .ref a :: r => match zq_sh a with
    | (1, n, _) => some ([vp_in i n], pc', lo, .int (μ.1 a i.toNatClampNeg) :: r, μ)
    | (5, _, _) => some ([vp_in i μ.2.2.2.1], pc', lo, .int (μ.2.2.2.2 i.toNatClampNeg) :: r, μ)
    | _ => none
  | _ => none
def zq_iast (pc' : Nat) : zq_Op := fun lo st μ => match st with
  | .int x :: .int i :: .ref a :: r => match zq_sh a with
    | (1, n, _) => some ([vp_in i n], pc', lo, r, zq_u1 μ a i.toNatClampNeg x)
    | _ => none
  | _ => none
def zq_lald (pc' : Nat) : zq_Op := fun lo st μ => match st with
  | .int i :: .ref a :: r => match zq_sh a with
    | (2, n, _) => some ([vp_in i n], pc', lo, .long (μ.2.1 a i.toNatClampNeg) :: r, μ)
    | _ => none
  | _ => none
def zq_last (pc' : Nat) : zq_Op := fun lo st μ => match st with
  | .long x :: .int i :: .ref a :: r => match zq_sh a with
    | (2, n, _) => some ([vp_in i n], pc', lo, r, zq_u2 μ a i.toNatClampNeg x)
    | _ => none
  | _ => none
def zq_zald (pc' : Nat) : zq_Op := fun lo st μ => match st with
  | .int i :: .ref a :: r => match zq_sh a with
    | (3, n, _) => some ([vp_in i n], pc', lo, .int (μ.1 a i.toNatClampNeg) :: r, μ)
    | _ => none
  | _ => none
def zq_zast (pc' : Nat) : zq_Op := fun lo st μ => match st with
  | .int x :: .int i :: .ref a :: r => match zq_sh a with
    | (3, n, _) => some ([vp_in i n], pc', lo, r, zq_u1 μ a i.toNatClampNeg (vp_nar .boolean x))
    | _ => none
  | _ => none
def zq_aald (pc' : Nat) : zq_Op := fun lo st μ => match st with
  | .int i :: .ref a :: r => match zq_sh a with
    | (4, n, cs) => some ([vp_in i n], pc', lo, .ref (cs.getD i.toNatClampNeg 0) :: r, μ)
    | _ => none
  | _ => none
def zq_alen (pc' : Nat) : zq_Op := fun lo st μ => match st with
  | .ref a :: r => match zq_sh a with
    | (1, n, _) => some ([], pc', lo, .int (Int32.ofNat n) :: r, μ)
    | (2, n, _) => some ([], pc', lo, .int (Int32.ofNat n) :: r, μ)
    | (5, _, _) => some ([], pc', lo, .int (Int32.ofNat μ.2.2.2.1) :: r, μ)
    | _ => none
  | _ => none
theorem zq_u1_ce {g : zq_G} {μ : zq_Me} {a n i : Nat} {cs : List Nat} {x : Int32} (h : zq_sh a = (1, n, cs)) : zq_ce g (zq_u1 μ a i x) a = .inl (zq_cA g 0, (n, .inl (upd (μ.1 a) i x))) := by rw [zq_ce1 h]; simp [zq_u1]
theorem zq_u1_ce3 {g : zq_G} {μ : zq_Me} {a n i : Nat} {cs : List Nat} {x : Int32} (h : zq_sh a = (3, n, cs)) : zq_ce g (zq_u1 μ a i x) a = .inl (zq_cA g 2, (n, .inl (upd (μ.1 a) i x))) := by rw [zq_ce3 h]; simp [zq_u1]
theorem zq_u2_ce {g : zq_G} {μ : zq_Me} {a n i : Nat} {cs : List Nat} {x : Int64} (h : zq_sh a = (2, n, cs)) : zq_ce g (zq_u2 μ a i x) a = .inl (zq_cA g 1, (n, .inr (.inl (vp_updL (μ.2.1 a) i x)))) := by rw [zq_ce2 h]; simp [zq_u2]
theorem zq_ur_ce {g : zq_G} {μ : zq_Me} {a n : Nat} {cs : List Nat} {f : Nat → Int32} (h : zq_sh a = (1, n, cs)) : zq_ce g (zq_ur μ a f) a = .inl (zq_cA g 0, (n, .inl f)) := by rw [zq_ce1 h]; simp [zq_ur]
theorem zq_s_iald {cc : ByteArray} {nL : Nat} {own : String} {rf rl pc : Nat}  (hdg : decode cc pc = .ok (.iaload, 1)) : zq_snd cc nL own rf rl pc (zq_iald (pc + 1)) := by
  intro g p l e R s m args below meth c H locs cells slots Z ls lo st μ P pc' lo' st' μ' hC hS hf hP k
  obtain ⟨hx, hb, hml, hown, hts, hK, hX, hbl, hJ, hrf, hrl, hce, hsl, hdk⟩ := hC
  obtain ⟨hW, hH, hL, hsc⟩ := hS
  unfold zq_iald at hf
  split at hf
  · rename_i i a r
    split at hf
    · rename_i n cs he
      cases hf
      exact va_iald (D := g.1) hx hb hK hW a 0 (zq_row (zq_lt he (by decide)) (zq_ce1 he)) rfl hP.1 hdg (k H locs ls ⟨hW, hH, hL, hsc⟩)
    · rename_i n cs he
      cases hf
      have ha := zq_is5 he
      subst ha
      have k := k H locs ls ⟨hW, hH, hL, hsc⟩
      rw [hsc] at k hP
      exact va_sld hx hb hX hbl (zq_notA hJ) hH hP.1 hdg k
    · cases hf
  · cases hf
theorem zq_s_iast {cc : ByteArray} {nL : Nat} {own : String} {rf rl pc : Nat}  (hdg : decode cc pc = .ok (.iastore, 1)) : zq_snd cc nL own rf rl pc (zq_iast (pc + 1)) := by
  intro g p l e R s m args below meth c H locs cells slots Z ls lo st μ P pc' lo' st' μ' hC hS hf hP k
  obtain ⟨hx, hb, hml, hown, hts, hK, hX, hbl, hJ, hrf, hrl, hce, hsl, hdk⟩ := hC
  obtain ⟨hW, hH, hL, hsc⟩ := hS
  unfold zq_iast at hf
  split at hf
  · rename_i x i a r
    split at hf
    · rename_i n cs he
      cases hf
      refine va_iast (D := g.1) hx hb hK hW (zq_dis hJ μ) hH a 0 (zq_row (zq_lt he (by decide)) (zq_ce1 he)) rfl hP.1 hdg (fun H1 locs1 hP1 _ hS1 => ?_)
      rw [zq_set (zq_u1_ce he) zq_u1_o] at hP1
      exact k H1 locs1 ls ⟨hP1, hS1, hL, hsc⟩
    · cases hf
  · cases hf
theorem zq_s_last {cc : ByteArray} {nL : Nat} {own : String} {rf rl pc : Nat}  (hdg : decode cc pc = .ok (.lastore, 1)) : zq_snd cc nL own rf rl pc (zq_last (pc + 1)) := by
  intro g p l e R s m args below meth c H locs cells slots Z ls lo st μ P pc' lo' st' μ' hC hS hf hP k
  obtain ⟨hx, hb, hml, hown, hts, hK, hX, hbl, hJ, hrf, hrl, hce, hsl, hdk⟩ := hC
  obtain ⟨hW, hH, hL, hsc⟩ := hS
  unfold zq_last at hf
  split at hf
  · rename_i x i a r
    split at hf
    · rename_i n cs he
      cases hf
      refine va_last (D := g.1) hx hb hK hW (zq_dis hJ μ) hH a 1 (zq_row (zq_lt he (by decide)) (zq_ce2 he)) rfl hP.1 hdg (fun H1 locs1 hP1 _ hS1 => ?_)
      rw [zq_set (zq_u2_ce he) zq_u2_o] at hP1
      exact k H1 locs1 ls ⟨hP1, hS1, hL, hsc⟩
    · cases hf
  · cases hf
theorem zq_s_zast {cc : ByteArray} {nL : Nat} {own : String} {rf rl pc : Nat}  (hdg : decode cc pc = .ok (.bastore, 1)) : zq_snd cc nL own rf rl pc (zq_zast (pc + 1)) := by
  intro g p l e R s m args below meth c H locs cells slots Z ls lo st μ P pc' lo' st' μ' hC hS hf hP k
  obtain ⟨hx, hb, hml, hown, hts, hK, hX, hbl, hJ, hrf, hrl, hce, hsl, hdk⟩ := hC
  obtain ⟨hW, hH, hL, hsc⟩ := hS
  unfold zq_zast at hf
  split at hf
  · rename_i x i a r
    split at hf
    · rename_i n cs he
      cases hf
      refine va_zast (D := g.1) hx hb hK hW (zq_dis hJ μ) hH a 2 (zq_row (zq_lt he (by decide)) (zq_ce3 he)) rfl hP.1 hdg (fun H1 locs1 hP1 _ hS1 => ?_)
      rw [zq_set (zq_u1_ce3 he) zq_u1_o] at hP1
      exact k H1 locs1 ls ⟨hP1, hS1, hL, hsc⟩
    · cases hf
  · cases hf
theorem zq_s_lald {cc : ByteArray} {nL : Nat} {own : String} {rf rl pc : Nat}  (hdg : decode cc pc = .ok (.laload, 1)) : zq_snd cc nL own rf rl pc (zq_lald (pc + 1)) := by
  intro g p l e R s m args below meth c H locs cells slots Z ls lo st μ P pc' lo' st' μ' hC hS hf hP k
  obtain ⟨hx, hb, hml, hown, hts, hK, hX, hbl, hJ, hrf, hrl, hce, hsl, hdk⟩ := hC
  obtain ⟨hW, hH, hL, hsc⟩ := hS
  unfold zq_lald at hf
  split at hf
  · rename_i i a r
    split at hf
    · rename_i n cs he
      cases hf
      exact va_lald (D := g.1) hx hb hK hW a 1 (zq_row (zq_lt he (by decide)) (zq_ce2 he)) rfl hP.1 hdg (k H locs ls ⟨hW, hH, hL, hsc⟩)
    · cases hf
  · cases hf
theorem zq_s_zald {cc : ByteArray} {nL : Nat} {own : String} {rf rl pc : Nat}  (hdg : decode cc pc = .ok (.baload, 1)) : zq_snd cc nL own rf rl pc (zq_zald (pc + 1)) := by
  intro g p l e R s m args below meth c H locs cells slots Z ls lo st μ P pc' lo' st' μ' hC hS hf hP k
  obtain ⟨hx, hb, hml, hown, hts, hK, hX, hbl, hJ, hrf, hrl, hce, hsl, hdk⟩ := hC
  obtain ⟨hW, hH, hL, hsc⟩ := hS
  unfold zq_zald at hf
  split at hf
  · rename_i i a r
    split at hf
    · rename_i n cs he
      cases hf
      exact va_zald (D := g.1) hx hb hK hW a 2 (zq_row (zq_lt he (by decide)) (zq_ce3 he)) rfl hP.1 hdg (k H locs ls ⟨hW, hH, hL, hsc⟩)
    · cases hf
  · cases hf
theorem zq_s_aald {cc : ByteArray} {nL : Nat} {own : String} {rf rl pc : Nat}  (hdg : decode cc pc = .ok (.aaload, 1)) : zq_snd cc nL own rf rl pc (zq_aald (pc + 1)) := by
  intro g p l e R s m args below meth c H locs cells slots Z ls lo st μ P pc' lo' st' μ' hC hS hf hP k
  obtain ⟨hx, hb, hml, hown, hts, hK, hX, hbl, hJ, hrf, hrl, hce, hsl, hdk⟩ := hC
  obtain ⟨hW, hH, hL, hsc⟩ := hS
  unfold zq_aald at hf
  split at hf
  · rename_i i a r
    split at hf
    · rename_i n cs he
      cases hf
      exact va_aldq (D := g.1) hx hb hK hW a 3 (zq_row (zq_lt he (by decide)) (zq_ce4 he)) rfl hP.1 hdg (k H locs ls ⟨hW, hH, hL, hsc⟩)
    · cases hf
  · cases hf
theorem zq_s_alen {cc : ByteArray} {nL : Nat} {own : String} {rf rl pc : Nat}  (hdg : decode cc pc = .ok (.arraylength, 1)) : zq_snd cc nL own rf rl pc (zq_alen (pc + 1)) := by
  intro g p l e R s m args below meth c H locs cells slots Z ls lo st μ P pc' lo' st' μ' hC hS hf hP k
  obtain ⟨hx, hb, hml, hown, hts, hK, hX, hbl, hJ, hrf, hrl, hce, hsl, hdk⟩ := hC
  obtain ⟨hW, hH, hL, hsc⟩ := hS
  unfold zq_alen at hf
  split at hf
  · rename_i a r
    split at hf
    · rename_i n cs he
      cases hf
      exact va_alen (D := g.1) hx hb hK hW a 0 (zq_row (zq_lt he (by decide)) (zq_ce1 he)) rfl rfl hdg (k H locs ls ⟨hW, hH, hL, hsc⟩)
    · rename_i n cs he
      cases hf
      exact va_alen (D := g.1) hx hb hK hW a 1 (zq_row (zq_lt he (by decide)) (zq_ce2 he)) rfl rfl hdg (k H locs ls ⟨hW, hH, hL, hsc⟩)
    · rename_i n cs he
      cases hf
      have ha := zq_is5 he
      subst ha
      have k := k H locs ls ⟨hW, hH, hL, hsc⟩
      rw [hsc] at k
      exact va_slen hx hb hX hbl (zq_notA hJ) hH hdg k
    · cases hf
  · cases hf
def zq_cats (r : List Value) : Nat := (r.map fun v => v.category).sum
theorem zq_cats_map (g : zq_G) (r : List Value) : ((r.map (zq_cv g)).map fun v => v.category).sum = zq_cats r := by
  unfold zq_cats
  rw [List.map_map]
  congr 1
  apply List.map_congr_left
  intro v _
  exact zq_cv_cat g v
def zq_mm (pc' : Nat) (f : Int32 → Int32 → Int32) : zq_Op := fun lo st μ => match st with
  | .int y :: .int x :: r => bif Nat.ble (zq_cats r) 8 then some ([], pc', lo, .int (f x y) :: r, μ) else none
  | _ => none
def zq_copy (pc' : Nat) : zq_Op := fun lo st μ => match st with
  | .int n :: .int dp :: .ref b :: .int sp :: .ref a :: r => match zq_sh a, zq_sh b with
    | (1, n0, _), (1, n1, _) => bif Nat.ble (zq_cats r) 8 then some ([¬ sp < 0 ∧ ¬ dp < 0 ∧ ¬ n < 0 ∧ sp.toNatClampNeg + n.toNatClampNeg ≤ n0 ∧ dp.toNatClampNeg + n.toNatClampNeg ≤ n1], pc', lo, r, zq_ur μ b (va_cpy (μ.1 a) (μ.1 b) sp.toNatClampNeg dp.toNatClampNeg n.toNatClampNeg)) else none
    | _, _ => none
  | _ => none
theorem zq_s_mmax {cc : ByteArray} {nL : Nat} {own : String} {rf rl pc : Nat} {index : Nat} (hdg : decode cc pc = .ok (.invokestatic index, 3)) (h1 : Cond.methodLink own index Lib.Math.max.name ∈ zq_W) (h2 : Cond.static Lib.Math.max.name ∈ zq_W) (h3 : Cond.initialized "java/lang/Math" ∈ zq_W) (h4 : Cond.code Lib.Math.max.name Lib.Math.max.code 2 (some .int) ∈ zq_W) (h5 : 1 ≤ rf) (h6 : 21 ≤ rl) : zq_snd cc nL own rf rl pc (zq_mm (pc + 3) (fun x y => if x < y then y else x)) := by
  intro g p l e R s m args below meth c H locs cells slots Z ls lo st μ P pc' lo' st' μ' hC hS hf hP k
  obtain ⟨hx, hb, hml, hown, hts, hK, hX, hbl, hJ, hrf, hrl, hce, hsl, hdk⟩ := hC
  obtain ⟨hW, hH, hL, hsc⟩ := hS
  unfold zq_mm at hf
  split at hf
  · rename_i y x r
    cases hb9 : Nat.ble (zq_cats r) 8 with
    | false => rw [hb9] at hf; cases hf
    | true =>
      rw [hb9] at hf
      cases hf
      have h9 := Nat.le_of_ble_eq_true hb9
      exact va_mmax hx hb (hml.trans hL.1.symm) hown (hts _ h1) (hts _ h2) (hts _ h3) (hts _ h4) (by omega) (by rw [zq_cats_map]; omega) hce hsl hdg (k H locs ls ⟨hW, hH, hL, hsc⟩)
  · cases hf
theorem zq_s_mmin {cc : ByteArray} {nL : Nat} {own : String} {rf rl pc : Nat} {index : Nat} (hdg : decode cc pc = .ok (.invokestatic index, 3)) (h1 : Cond.methodLink own index Lib.Math.min.name ∈ zq_W) (h2 : Cond.static Lib.Math.min.name ∈ zq_W) (h3 : Cond.initialized "java/lang/Math" ∈ zq_W) (h4 : Cond.code Lib.Math.min.name Lib.Math.min.code 2 (some .int) ∈ zq_W) (h5 : 1 ≤ rf) (h6 : 21 ≤ rl) : zq_snd cc nL own rf rl pc (zq_mm (pc + 3) (fun x y => if y < x then y else x)) := by
  intro g p l e R s m args below meth c H locs cells slots Z ls lo st μ P pc' lo' st' μ' hC hS hf hP k
  obtain ⟨hx, hb, hml, hown, hts, hK, hX, hbl, hJ, hrf, hrl, hce, hsl, hdk⟩ := hC
  obtain ⟨hW, hH, hL, hsc⟩ := hS
  unfold zq_mm at hf
  split at hf
  · rename_i y x r
    cases hb9 : Nat.ble (zq_cats r) 8 with
    | false => rw [hb9] at hf; cases hf
    | true =>
      rw [hb9] at hf
      cases hf
      have h9 := Nat.le_of_ble_eq_true hb9
      exact va_mmin hx hb (hml.trans hL.1.symm) hown (hts _ h1) (hts _ h2) (hts _ h3) (hts _ h4) (by omega) (by rw [zq_cats_map]; omega) hce hsl hdg (k H locs ls ⟨hW, hH, hL, hsc⟩)
  · cases hf
theorem zq_s_copy {cc : ByteArray} {nL : Nat} {own : String} {rf rl pc : Nat} {index : Nat} (hdg : decode cc pc = .ok (.invokestatic index, 3)) (h1 : Cond.methodLink own index arraycopyName ∈ zq_W) (h2 : Cond.native arraycopyName ∈ zq_W) (h3 : Cond.static arraycopyName ∈ zq_W) (h4 : Cond.initialized "java/lang/System" ∈ zq_W) (h5 : 1 ≤ rf) (h6 : 8 + (nativeFrameWords "java/lang/System" "arraycopy" 5 + 11) ≤ rl) : zq_snd cc nL own rf rl pc (zq_copy (pc + 3)) := by
  intro g p l e R s m args below meth c H locs cells slots Z ls lo st μ P pc' lo' st' μ' hC hS hf hP k
  obtain ⟨hx, hb, hml, hown, hts, hK, hX, hbl, hJ, hrf, hrl, hce, hsl, hdk⟩ := hC
  obtain ⟨hW, hH, hL, hsc⟩ := hS
  unfold zq_copy at hf
  split at hf
  · rename_i n dp b sp a r
    split at hf
    · rename_i n0 cs0 n1 cs1 ha hb0
      cases hb9 : Nat.ble (zq_cats r) 8 with
      | false => rw [hb9] at hf; cases hf
      | true =>
        rw [hb9] at hf
        cases hf
        have h9 := Nat.le_of_ble_eq_true hb9
        obtain ⟨⟨g1, g2, g3, g4, g5⟩, -⟩ := hP
        refine va_copyi (D := g.1) hx hb (hml.trans hL.1.symm) hown (hts _ h1) (hts _ h2) (hts _ h3) (hts _ h4) hK hW (zq_dis hJ μ) hH a b 0 0 (zq_row (zq_lt ha (by decide)) (zq_ce1 ha)) (zq_row (zq_lt hb0 (by decide)) (zq_ce1 hb0)) rfl rfl rfl g1 g2 g3 g4 g5 (fun _ _ => rfl) (by omega) (by rw [zq_cats_map]; omega) hdg (fun H1 locs1 hP1 _ hS1 => ?_)
        rw [zq_set (zq_ur_ce hb0) zq_ur_o] at hP1
        exact k H1 locs1 ls ⟨hP1, hS1, hL, hsc⟩
    · cases hf
  · cases hf
end
section
/-! ===== calls: a callee's contract out of its walk; a call by the callee's contract ===== -/
def zq_Wd (g : zq_G) (μ : zq_Me) (U : State) : Prop := va_P g.1 vwCl (zq_ws g μ) U.heap ∧ va_K g.1 vwCl (zq_tys g) U ∧ va_X (zq_ad g zq_nC) g.2.2.2.1 g.2.2.2.2 U U.heap ∧ zq_ad g zq_nC < U.heap.size ∧ zq_inj g ∧ μ.2.2.2 = g.2.2.2 ∧ zq_Dk U
def zq_Qc (g : zq_G) (Q1 : Option Value → zq_Me → Prop) : Array Value → State → Outcome → State → Prop := fun _ st oc t => (∃ (v : Option Value) (μ' : zq_Me), oc = .returned (v.map (zq_cv g)) ∧ Q1 v μ' ∧ va_P g.1 vwCl (zq_ws g μ') t.heap ∧ μ'.2.2.2 = g.2.2.2) ∧ va_F (zq_A g) st t
def zq_Mt (g : zq_G) (l : Launch) (y : MethodName) (bytes : ByteArray) (maxL : Nat) (ret : Option FieldType) (rm : Room) (as : List Value) (μ : zq_Me) (Q1 : Option Value → zq_Me → Prop) : Prop :=
  Met l y (Cond.code y bytes maxL ret :: zq_W) rm (va_Pc (as.map (zq_cv g)) (zq_Wd g μ)) (zq_Qc g Q1) 0 0 (zq_A g)
def zq_rv (recv : Option Nat) (as : List Value) : Prop := match recv with
  | none => True
  | some ci => ∃ (a : Nat) (as' : List Value) (cs : List Nat), as = .ref a :: as' ∧ zq_sh a = (0, ci, cs)
def zq_sndc (cc : ByteArray) (nL : Nat) (own : String) (rf rl pc n : Nat) (recv : Option Nat) (y : MethodName) (bytes : ByteArray) (maxL : Nat) (ret : Option FieldType) (rm : Room) : Prop :=
  ∀ (g : zq_G) {p : Program} {l : Launch} {e : Env} {R : Room} {s : State} {m : MethodId} {args : Array Value} {below : List Frame} {meth : Method} {c : Code} {H : Heap} {locs : List Loc} {cells slots : Nat} {Z : State → Prop} {ls : Array Slot} {lo : zq_Lo} {as rest : List Value} {μ : zq_Me} {Q1 : Option Value → zq_Me → Prop},
    zq_Cx g cc nL own rf rl R p s m args c cells slots → zq_St g s H locs nL ls lo μ → as.length = n → zq_rv recv as → zq_cats rest ≤ 8 → zq_Mt g l y bytes maxL ret rm as μ Q1 →
    (∀ (v : Option Value) (μ' : zq_Me) (H' : Heap) (locs' : List Loc), Q1 v μ' → zq_St g s H' locs' nL ls lo μ' → W p l e R s m args below meth c H' locs' cells slots Z (F0 m (pc + 3) ls ((v.toList ++ rest).map (zq_cv g)))) →
    W p l e R s m args below meth c H locs cells slots Z (F0 m pc ls ((as.reverse ++ rest).map (zq_cv g)))
theorem zq_good {ws : List Cond} (h : ∀ w ∈ ws, w ∈ zq_W) : GoodIn zq_W ws := fun w hw => ⟨h w hw, good_of_word (List.mem_filter.mp (h w hw)).2⟩
theorem zq_blind {g : zq_G} {av : List Value} {μ : zq_Me} : FrameBlind (va_Pc av (zq_Wd g μ)) := by
  intro a U h mk q
  obtain ⟨q0, q1, q2, q3, q4, q5, q6, q7⟩ := q
  exact ⟨q0, q1, va_K.moved (u := U) (U := U.calling h mk a) (Vm.Alike.refl U.vm) q2, va_X.moved (u := U) (U := U.calling h mk a) (Vm.Alike.refl U.vm) q3, q4, q5, q6, zq_Dk.same (s := U) (U := U.calling h mk a) rfl q7⟩
section ZQC
variable {p : Program} {l : Launch} {e : Env} {R : Room} {s : State} {m : MethodId} {args : Array Value} {below : List Frame} {meth : Method} {c : Code} {H : Heap} {locs : List Loc} {cells slots : Nat} {Z : State → Prop}
theorem zq_callg {g : zq_G} {pc : Nat} {ls : Array Slot} {st0 rest : List Value} {Q1 : Option Value → zq_Me → Prop} {a : Array Value} (hr : va_Run p l e R s m args below meth c H locs cells slots 0 0 (F0 m pc ls st0) rest (zq_Qc g Q1 a) (zq_A g)) (hS : va_S (zq_A g) s.heap H locs)
    (kk : ∀ (v : Option Value) (μ' : zq_Me) (H1 : Heap) (locs1 : List Loc), Q1 v μ' → va_P g.1 vwCl (zq_ws g μ') H1 → μ'.2.2.2 = g.2.2.2 → va_S (zq_A g) s.heap H1 locs1 → W p l e R s m args below meth c H1 locs1 cells slots Z (F0 m (pc + 3) ls ((v.map (zq_cv g)).toList ++ rest))) : W p l e R s m args below meth c H locs cells slots Z (F0 m pc ls st0) := by
  intro T hT X
  obtain ⟨v, st₀, t, T', L, h0, X', hL, e1, e2, ⟨⟨v', μ', hv, hq, hp, hs⟩, hz, hk⟩, st⟩ := hr T hT X
  cases hv
  rw [h0] at hz hk
  obtain ⟨t2, a1, b1⟩ := kk v' μ' T'.heap (locs ++ L) hq (by rw [e1]; exact hp) hs
    ⟨Nat.le_trans hS.1 (by rw [e1]; exact hz), fun q h1 h2 => by rw [e1, hk q (Nat.lt_of_lt_of_le h1 hS.1) h2]; exact hS.2.1 q h1 h2, fun q hq => by
      rcases List.mem_append.mp hq with h | h
      · exact hS.2.2 q h
      · exact hL q h⟩ T' rfl X'
  exact ⟨t2, st t2 a1, b1⟩
theorem zq_wd {g : zq_G} {cc : ByteArray} {nL rf rl : Nat} {own : String} {ls : Array Slot} {lo : zq_Lo} {μ : zq_Me} (hC : zq_Cx g cc nL own rf rl R p s m args c cells slots) (hS : zq_St g s H locs nL ls lo μ) (U : State) (hU : U.heap = H) (hW : s.WarmedH U.vm) : zq_Wd g μ U := by
  obtain ⟨hx, hb, hml, hown, hts, hK, hX, hbl, hJ, hrf, hrl, hce, hsl, hdk⟩ := hC
  obtain ⟨hP, hH, hL, hsc⟩ := hS
  have hq : H[zq_ad g zq_nC]? = s.heap[zq_ad g zq_nC]? := hH.2.1 _ hbl (zq_notA hJ)
  exact ⟨by rw [hU]; exact hP, va_K.moved hW.alike hK, va_X.moved hW.alike (hX.kept (by rw [hU]; exact hq)), by rw [hU]; exact Nat.lt_of_lt_of_le hbl hH.1, hJ, hsc, hdk.warm hW⟩
end ZQC
theorem zq_optmap (g : zq_G) (v : Option Value) (rest : List Value) : (v.map (zq_cv g)).toList ++ rest.map (zq_cv g) = (v.toList ++ rest).map (zq_cv g) := by cases v <;> rfl
theorem zq_s_callS {cc : ByteArray} {nL : Nat} {own : String} {rf rl pc n index maxL : Nat} {y : MethodName} {bytes : ByteArray} {ret : Option FieldType} {rm : Room} (hdg : decode cc pc = .ok (.invokestatic index, 3)) (h1 : Cond.methodLink own index y ∈ zq_W) (h2 : Cond.static y ∈ zq_W) (h3 : Cond.initialized y.cls ∈ zq_W) (h4 : Cond.code y bytes maxL ret ∈ zq_W)
    (hd : y.cls ≠ "java/lang/invoke/MethodHandle" ∧ y.cls ≠ "java/lang/invoke/VarHandle" ∧ (parseMethodDescriptor y.desc).map (fun d => d.parameters.length) = some n) (hR : rm.frames + 1 ≤ rf ∧ 8 + (maxL + 11) + rm.locals ≤ rl) (hz : rm.cells = 0 ∧ rm.slots = 0) : zq_sndc cc nL own rf rl pc n none y bytes maxL ret rm := by
  intro g p l e R s m args below meth c H locs cells slots Z ls lo as rest μ Q1 hC hS hn hr hw hM k
  have hC0 := hC
  obtain ⟨hx, hb, hml, hown, hts, hK, hX, hbl, hJ, hrf, hrl, hce, hsl, hdk⟩ := hC
  have hS0 := hS
  obtain ⟨hP, hH, hL, hsc⟩ := hS
  have hG : GoodIn zq_W (va_wsS own index y (Cond.code y bytes maxL ret :: zq_W)) := zq_good (by
    intro w hw
    simp only [va_wsS, List.cons_append, List.nil_append, List.mem_cons] at hw
    rcases hw with rfl | rfl | rfl | rfl | hw
    · exact h1
    · exact h2
    · exact h3
    · exact h4
    · exact hw)
  refine zq_callg (a := (as.map (zq_cv g)).toArray) (rest := rest.map (zq_cv g)) (va_runS (As := as.map (zq_cv g)) (n := n) ⟨hx, hb, hml, hown, hts⟩ hM (va_cwS n hts hG rfl hz.1 hz.2 hd ⟨by omega, by omega⟩) ⟨zq_blind, fun U hU hW => ⟨rfl, zq_wd hC0 hS0 U hU hW⟩⟩ rfl (by rw [List.length_map]; exact hn) hL.1 (by show (as.reverse ++ rest).map (zq_cv g) = _; rw [List.map_append, List.map_reverse]) (lv_room (by rw [zq_cats_map]; exact hw)) hdg ⟨hce, hsl⟩) hH (fun v μ' H1 locs1 q1 q2 q3 q4 => ?_)
  rw [zq_optmap]
  exact k v μ' H1 locs1 q1 ⟨q2, q4, hL, q3⟩
theorem zq_recv {g : zq_G} {s : State} {H : Heap} {μ : zq_Me} {a ci : Nat} {cs : List Nat} {q : vw_C} (hK : va_K g.1 vwCl (zq_tys g) s) (hP : va_P g.1 vwCl (zq_ws g μ) H) (h : zq_sh a = (0, ci, cs)) (hc : vwCl[ci]? = some q) : ∃ cell : Cell, H[zq_ad g a]? = some cell ∧ cell.vm.isStatics = false ∧ s.vm.findClass q.1 = some cell.cls :=
  va_recv hK hP hc (zq_row (zq_lt h (by decide)) (zq_ce0 h))
theorem zq_s_callV {cc : ByteArray} {nL : Nat} {own : String} {rf rl pc n index maxL ci : Nat} {y : MethodName} {bytes : ByteArray} {ret : Option FieldType} {rm : Room} {q : vw_C} (hdg : decode cc pc = .ok (.invokevirtual index, 3)) (hc : vwCl[ci]? = some q) (h1 : Cond.methodLink own index y ∈ zq_W) (h2 : Cond.instanceMethod y ∈ zq_W) (h3 : Cond.selects q.1 y y ∈ zq_W) (h5 : Cond.initialized q.1 ∈ zq_W) (h4 : Cond.code y bytes maxL ret ∈ zq_W)
    (hd : y.cls = q.1 ∧ y.cls ≠ "java/lang/invoke/MethodHandle" ∧ y.cls ≠ "java/lang/invoke/VarHandle" ∧ (parseMethodDescriptor y.desc).map (fun d => d.parameters.length) = some n) (hR : rm.frames + 1 ≤ rf ∧ 8 + (maxL + 11) + rm.locals ≤ rl) (hz : rm.cells = 0 ∧ rm.slots = 0) : zq_sndc cc nL own rf rl pc (n + 1) (some ci) y bytes maxL ret rm := by
  intro g p l e R s m args below meth c H locs cells slots Z ls lo as rest μ Q1 hC hS hn hr hw hM k
  obtain ⟨a, as', cs, rfl, hsh⟩ := hr
  have hC0 := hC
  obtain ⟨hx, hb, hml, hown, hts, hK, hX, hbl, hJ, hrf, hrl, hce, hsl, hdk⟩ := hC
  have hS0 := hS
  obtain ⟨hP, hH, hL, hsc⟩ := hS
  have hG : GoodIn zq_W (wsV own index q.1 y (Cond.code y bytes maxL ret :: zq_W)) := zq_good (by
    intro w hw
    simp only [wsV, List.cons_append, List.nil_append, List.mem_cons] at hw
    rcases hw with rfl | rfl | rfl | rfl | rfl | hw
    · exact h1
    · exact h2
    · exact h3
    · exact h5
    · exact h4
    · exact hw)
  refine zq_callg (a := (Value.ref (zq_ad g a) :: as'.map (zq_cv g)).toArray) (rest := rest.map (zq_cv g)) (va_runV (As := as'.map (zq_cv g)) (n := n) (b := zq_ad g a) ⟨hx, hb, hml, hown, hts⟩ hM (cwV n hts hG rfl hz.1 hz.2 hd ⟨by omega, by omega⟩) ⟨zq_blind, zq_recv hK hP hsh hc, fun U hU hW => ⟨rfl, zq_wd hC0 hS0 U hU hW⟩⟩ rfl (by rw [List.length_map]; simpa using hn) hL.1 (by show ((Value.ref a :: as').reverse ++ rest).map (zq_cv g) = _; rw [List.map_append, List.map_reverse, List.map_cons, List.reverse_cons, List.append_assoc]; rfl) (lv_room (by rw [zq_cats_map]; exact hw)) hdg ⟨hce, hsl⟩) hH (fun v μ' H1 locs1 q1 q2 q3 q4 => ?_)
  rw [zq_optmap]
  exact k v μ' H1 locs1 q1 ⟨q2, q4, hL, q3⟩
theorem zq_s_callU {cc : ByteArray} {nL : Nat} {own owner : String} {rf rl pc n index maxL ci : Nat} {x y : MethodName} {bytes : ByteArray} {ret : Option FieldType} {rm : Room} {q : vw_C} (hdg : decode cc pc = .ok (.invokevirtual index, 3)) (hc : vwCl[ci]? = some q) (h1 : Cond.methodLink own index x ∈ zq_W) (h2 : Cond.sameMethod x.cls owner x.name x.desc ∈ zq_W) (h3 : Cond.selects q.1 x y ∈ zq_W) (h5 : Cond.instanceMethod y ∈ zq_W) (h6 : Cond.initialized y.cls ∈ zq_W) (h4 : Cond.code y bytes maxL ret ∈ zq_W)
    (hyx : y = ⟨owner, x.name, x.desc⟩ ∨ (⟨owner, x.name, x.desc⟩ : MethodName) ∈ zq_dl) (hd : owner ≠ "java/lang/invoke/MethodHandle" ∧ owner ≠ "java/lang/invoke/VarHandle" ∧ (parseMethodDescriptor x.desc).map (fun d => d.parameters.length) = some n) (hR : rm.frames + 1 ≤ rf ∧ 8 + (maxL + 11) + rm.locals ≤ rl) (hz : rm.cells = 0 ∧ rm.slots = 0) : zq_sndc cc nL own rf rl pc (n + 1) (some ci) y bytes maxL ret rm := by
  intro g p l e R s m args below meth c H locs cells slots Z ls lo as rest μ Q1 hC hS hn hr hw hM k
  obtain ⟨a, as', cs, rfl, hsh⟩ := hr
  have hC0 := hC
  obtain ⟨hx, hb, hml, hown, hts, hK, hX, hbl, hJ, hrf, hrl, hce, hsl, hdk⟩ := hC
  have hS0 := hS
  obtain ⟨hP, hH, hL, hsc⟩ := hS
  have hG : GoodIn zq_W (va_wsU own index q.1 owner x y (Cond.code y bytes maxL ret :: zq_W)) := zq_good (by
    intro w hw
    simp only [va_wsU, List.cons_append, List.nil_append, List.mem_cons] at hw
    rcases hw with rfl | rfl | rfl | rfl | rfl | rfl | hw
    · exact h1
    · exact h2
    · exact h3
    · exact h5
    · exact h6
    · exact h4
    · exact hw)
  have hCU : va_CU R s args own q.1 owner index x y bytes maxL ret (Cond.code y bytes maxL ret :: zq_W) rm 0 0 n := by
    rcases hyx with hyx | hyx
    · exact va_cwU n hts hG rfl hz.1 hz.2 hyx hd ⟨by omega, by omega⟩
    · exact va_cwA n hts hG rfl hz.1 hz.2 (hdk _ hyx) hd ⟨by omega, by omega⟩
  refine zq_callg (a := (Value.ref (zq_ad g a) :: as'.map (zq_cv g)).toArray) (rest := rest.map (zq_cv g)) (va_runU (As := as'.map (zq_cv g)) (n := n) (b := zq_ad g a) ⟨hx, hb, hml, hown, hts⟩ hM hCU ⟨zq_blind, zq_recv hK hP hsh hc, fun U hU hW => ⟨rfl, zq_wd hC0 hS0 U hU hW⟩⟩ rfl (by rw [List.length_map]; simpa using hn) hL.1 (by show ((Value.ref a :: as').reverse ++ rest).map (zq_cv g) = _; rw [List.map_append, List.map_reverse, List.map_cons, List.reverse_cons, List.append_assoc]; rfl) (lv_room (by rw [zq_cats_map]; exact hw)) hdg ⟨hce, hsl⟩) hH (fun v μ' H1 locs1 q1 q2 q3 q4 => ?_)
  rw [zq_optmap]
  exact k v μ' H1 locs1 q1 ⟨q2, q4, hL, q3⟩
end
section
/-! ===== the methods' infos, the words of the tables that their instructions want, fields; codes as items ===== -/
abbrev zq_In : Type := MethodName × ByteArray × Nat × Option FieldType × Room
abbrev zq_It : Type := zq_Op ⊕ ((Nat × (Nat ⊕ List (Nat × Nat))) ⊕ Nat)
theorem zq_bz (x : Int32) (h : true = true → x = 0 ∨ x = 1) : narrow .boolean (.int x) = .int x ∧ fits .boolean (.int x) = true := by
  rcases h rfl with rfl | rfl
  · exact ⟨by decide +kernel, by decide +kernel⟩
  · exact ⟨by decide +kernel, by decide +kernel⟩
theorem zq_tb {pc d : Nat} {offs : Array Int} {tg : List Nat} (h : ((List.range tg.length).all fun n => (offs[n]?).any fun off => (pc : Int) + off == (tg.getD n d : Int)) = true) : ∀ n, n < tg.length → ∃ off, offs[n]? = some off ∧ (pc : Int) + off = (tg.getD n d : Int) := by
  intro n hn
  have h1 := List.all_eq_true.mp h n (List.mem_range.mpr hn)
  cases ho : offs[n]? with
  | none => rw [ho] at h1; cases h1
  | some off =>
    rw [ho] at h1
    exact ⟨off, rfl, eq_of_beq h1⟩
theorem zq_x0 : Cond.selects RX0 yX6_understand yX6_understand ∈ zq_W := zq_inX (List.mem_of_getElem? (i := 0) rfl) rfl
theorem zq_x1 : Cond.selects RX3 yX6_understand yX6_understand ∈ zq_W := zq_inX (List.mem_of_getElem? (i := 1) rfl) rfl
theorem zq_x2 : Cond.selects RX0 yX6_firstFault yX6_firstFault ∈ zq_W := zq_inX (List.mem_of_getElem? (i := 2) rfl) rfl
theorem zq_x3 : Cond.selects RX3 yX6_firstFault yX6_firstFault ∈ zq_W := zq_inX (List.mem_of_getElem? (i := 3) rfl) rfl
theorem zq_t1 {w : Cond} (h : w ∈ tables_1_1) : w ∈ lw_tbl := List.mem_append_right _ (List.mem_append_left _ h)
theorem zq_t2 {w : Cond} (h : w ∈ tables_1_2) : w ∈ lw_tbl := List.mem_append_right _ (List.mem_append_right _ (List.mem_append_left _ h))
theorem zq_t3 {w : Cond} (h : w ∈ tables_1_3) : w ∈ lw_tbl := List.mem_append_right _ (List.mem_append_right _ (List.mem_append_right _ (List.mem_append_left _ h)))
theorem zq_t4 {w : Cond} (h : w ∈ tables_1_4) : w ∈ lw_tbl := List.mem_append_right _ (List.mem_append_right _ (List.mem_append_right _ (List.mem_append_right _ (List.mem_append_left _ h))))
theorem zq_t5 {w : Cond} (h : w ∈ tables_1_5) : w ∈ lw_tbl := List.mem_append_right _ (List.mem_append_right _ (List.mem_append_right _ (List.mem_append_right _ (List.mem_append_right _ (List.mem_append_left _ h)))))
theorem zq_t6 {w : Cond} (h : w ∈ tables_1_6) : w ∈ lw_tbl := List.mem_append_right _ (List.mem_append_right _ (List.mem_append_right _ (List.mem_append_right _ (List.mem_append_right _ (List.mem_append_right _ (h))))))
theorem zq_ug0 : ∀ w ∈ u_ws RX0 TX0 9, goodWord w = true := by decide +kernel
theorem zq_ug1 : ∀ w ∈ u_ws RX1 TX1 4, goodWord w = true := by decide +kernel
theorem zq_ug2 : ∀ w ∈ u_ws RX2 TX2 1, goodWord w = true := by decide +kernel
theorem zq_ug3 : ∀ w ∈ u_ws RX3 TX3 9, goodWord w = true := by decide +kernel
theorem zq_ug4 : ∀ w ∈ u_ws RX4 TX4 3, goodWord w = true := by decide +kernel
theorem zq_ug5 : ∀ w ∈ u_ws RX5 TX5 4, goodWord w = true := by decide +kernel
theorem zq_ug7 : ∀ w ∈ u_ws RX7 TX7 14, goodWord w = true := by decide +kernel
theorem zq_ug8 : ∀ w ∈ u_ws RX8 TX8 17, goodWord w = true := by decide +kernel
theorem zq_ug9 : ∀ w ∈ u_ws RX9 TX9 37, goodWord w = true := by decide +kernel
theorem zq_uw0 : ∀ w ∈ u_ws RX0 TX0 9, w ∈ zq_W := fun w h => zq_inW (zq_in0 w h) (zq_ug0 w h)
theorem zq_uw1 : ∀ w ∈ u_ws RX1 TX1 4, w ∈ zq_W := fun w h => zq_inW (zq_in1 w h) (zq_ug1 w h)
theorem zq_uw2 : ∀ w ∈ u_ws RX2 TX2 1, w ∈ zq_W := fun w h => zq_inW (zq_in2 w h) (zq_ug2 w h)
theorem zq_uw3 : ∀ w ∈ u_ws RX3 TX3 9, w ∈ zq_W := fun w h => zq_inW (zq_in3 w h) (zq_ug3 w h)
theorem zq_uw4 : ∀ w ∈ u_ws RX4 TX4 3, w ∈ zq_W := fun w h => zq_inW (zq_in4 w h) (zq_ug4 w h)
theorem zq_uw5 : ∀ w ∈ u_ws RX5 TX5 4, w ∈ zq_W := fun w h => zq_inW (zq_in5 w h) (zq_ug5 w h)
theorem zq_uw7 : ∀ w ∈ u_ws RX7 TX7 14, w ∈ zq_W := fun w h => zq_inW (zq_in7 w h) (zq_ug7 w h)
theorem zq_uw8 : ∀ w ∈ u_ws RX8 TX8 17, w ∈ zq_W := fun w h => zq_inW (zq_in8 w h) (zq_ug8 w h)
theorem zq_uw9 : ∀ w ∈ u_ws RX9 TX9 37, w ∈ zq_W := fun w h => zq_inW (zq_in9 w h) (zq_ug9 w h)
abbrev zn_X0_fits : Nat := 0
def zi_X0_fits : zq_In := (yX0_fits, cX0_fits, 3, (some .boolean), { frames := 1, cells := 0, slots := 0, locals := 21 })
abbrev zn_X0_readThings : Nat := 1
def zi_X0_readThings : zq_In := (yX0_readThings, cX0_readThings, 2, none, { frames := 1, cells := 0, slots := 0, locals := 21 })
abbrev zn_X0_openAllBut : Nat := 2
def zi_X0_openAllBut : zq_In := (yX0_openAllBut, cX0_openAllBut, 3, none, { frames := 1, cells := 0, slots := 0, locals := 23 })
abbrev zn_X0_fillStepsTo : Nat := 3
def zi_X0_fillStepsTo : zq_In := (yX0_fillStepsTo, cX0_fillStepsTo, 11, none, { frames := 0, cells := 0, slots := 0, locals := 0 })
abbrev zn_X1_add : Nat := 4
def zi_X1_add : zq_In := (yX1_add, cX1_add, 4, none, { frames := 0, cells := 0, slots := 0, locals := 0 })
abbrev zn_X1_become : Nat := 5
def zi_X1_become : zq_In := (yX1_become, cX1_become, 3, none, { frames := 1, cells := 0, slots := 0, locals := 23 })
abbrev zn_X2_draw : Nat := 6
def zi_X2_draw : zq_In := (yX2_draw, cX2_draw, 2, (some .int), { frames := 0, cells := 0, slots := 0, locals := 0 })
abbrev zn_X3_fits : Nat := 7
def zi_X3_fits : zq_In := (yX3_fits, cX3_fits, 3, (some .boolean), { frames := 1, cells := 0, slots := 0, locals := 21 })
abbrev zn_X3_readThings : Nat := 8
def zi_X3_readThings : zq_In := (yX3_readThings, cX3_readThings, 2, none, { frames := 1, cells := 0, slots := 0, locals := 21 })
abbrev zn_X3_sortAt : Nat := 9
def zi_X3_sortAt : zq_In := (yX3_sortAt, cX3_sortAt, 2, (some .int), { frames := 0, cells := 0, slots := 0, locals := 0 })
abbrev zn_X4_isLost : Nat := 10
def zi_X4_isLost : zq_In := (yX4_isLost, cX4_isLost, 1, (some .boolean), { frames := 0, cells := 0, slots := 0, locals := 0 })
abbrev zn_X4_become : Nat := 11
def zi_X4_become : zq_In := (yX4_become, cX4_become, 3, none, { frames := 1, cells := 0, slots := 0, locals := 23 })
abbrev zn_X4_holds : Nat := 12
def zi_X4_holds : zq_In := (yX4_holds, cX4_holds, 3, (some .boolean), { frames := 0, cells := 0, slots := 0, locals := 0 })
abbrev zn_X4_lay : Nat := 13
def zi_X4_lay : zq_In := (yX4_lay, cX4_lay, 3, none, { frames := 0, cells := 0, slots := 0, locals := 0 })
abbrev zn_X5_add : Nat := 14
def zi_X5_add : zq_In := (yX5_add, cX5_add, 4, none, { frames := 0, cells := 0, slots := 0, locals := 0 })
abbrev zn_X5_allIn : Nat := 15
def zi_X5_allIn : zq_In := (yX5_allIn, cX5_allIn, 4, (some .boolean), { frames := 1, cells := 0, slots := 0, locals := 22 })
abbrev zn_X6_isFull : Nat := 16
def zi_X6_isFull : zq_In := (yX6_isFull, cX6_isFull, 1, (some .boolean), { frames := 0, cells := 0, slots := 0, locals := 0 })
abbrev zn_X6_add : Nat := 17
def zi_X6_add : zq_In := (yX6_add, cX6_add, 2, none, { frames := 4, cells := 0, slots := 0, locals := 85 })
abbrev zn_X6_shorten : Nat := 18
def zi_X6_shorten : zq_In := (yX6_shorten, cX6_shorten, 2, none, { frames := 4, cells := 0, slots := 0, locals := 85 })
abbrev zn_X6_isFigure : Nat := 19
def zi_X6_isFigure : zq_In := (yX6_isFigure, cX6_isFigure, 2, (some .boolean), { frames := 0, cells := 0, slots := 0, locals := 0 })
abbrev zn_X6_figure : Nat := 20
def zi_X6_figure : zq_In := (yX6_figure, cX6_figure, 2, (some .int), { frames := 0, cells := 0, slots := 0, locals := 0 })
abbrev zn_X6_understand : Nat := 21
def zi_X6_understand : zq_In := (yX6_understand, cX6_understand, 1, none, { frames := 3, cells := 0, slots := 0, locals := 65 })
abbrev zn_X6_firstFault : Nat := 22
def zi_X6_firstFault : zq_In := (yX6_firstFault, cX6_firstFault, 3, (some .int), { frames := 2, cells := 0, slots := 0, locals := 43 })
abbrev zn_X7_forgetSteps : Nat := 23
def zi_X7_forgetSteps : zq_In := (yX7_forgetSteps, cX7_forgetSteps, 1, none, { frames := 1, cells := 0, slots := 0, locals := 23 })
abbrev zn_X7_suppose : Nat := 24
def zi_X7_suppose : zq_In := (yX7_suppose, cX7_suppose, 4, none, { frames := 0, cells := 0, slots := 0, locals := 0 })
abbrev zn_X7_runWith : Nat := 25
def zi_X7_runWith : zq_In := (yX7_runWith, cX7_runWith, 7, none, { frames := 3, cells := 0, slots := 0, locals := 68 })
abbrev zn_X7_layHours : Nat := 26
def zi_X7_layHours : zq_In := (yX7_layHours, cX7_layHours, 5, none, { frames := 0, cells := 0, slots := 0, locals := 0 })
abbrev zn_X7_layTables : Nat := 27
def zi_X7_layTables : zq_In := (yX7_layTables, cX7_layTables, 4, none, { frames := 2, cells := 0, slots := 0, locals := 45 })
abbrev zn_X7_walk : Nat := 28
def zi_X7_walk : zq_In := (yX7_walk, cX7_walk, 9, none, { frames := 1, cells := 0, slots := 0, locals := 22 })
abbrev zn_X7_sortOf : Nat := 29
def zi_X7_sortOf : zq_In := (yX7_sortOf, cX7_sortOf, 2, (some .int), { frames := 0, cells := 0, slots := 0, locals := 0 })
abbrev zn_X7_bedOf : Nat := 30
def zi_X7_bedOf : zq_In := (yX7_bedOf, cX7_bedOf, 2, (some .int), { frames := 0, cells := 0, slots := 0, locals := 0 })
abbrev zn_X7_roomOf : Nat := 31
def zi_X7_roomOf : zq_In := (yX7_roomOf, cX7_roomOf, 3, (some .int), { frames := 0, cells := 0, slots := 0, locals := 0 })
abbrev zn_X7_whoIn : Nat := 32
def zi_X7_whoIn : zq_In := (yX7_whoIn, cX7_whoIn, 5, (some .int), { frames := 1, cells := 0, slots := 0, locals := 22 })
abbrev zn_X7_doorsBetween : Nat := 33
def zi_X7_doorsBetween : zq_In := (yX7_doorsBetween, cX7_doorsBetween, 6, (some .int), { frames := 0, cells := 0, slots := 0, locals := 0 })
abbrev zn_X7_emptyHours : Nat := 34
def zi_X7_emptyHours : zq_In := (yX7_emptyHours, cX7_emptyHours, 4, (some .int), { frames := 2, cells := 0, slots := 0, locals := 46 })
abbrev zn_X7_aloneBehind : Nat := 35
def zi_X7_aloneBehind : zq_In := (yX7_aloneBehind, cX7_aloneBehind, 6, (some .int), { frames := 1, cells := 0, slots := 0, locals := 22 })
abbrev zn_X7_hoursAlone : Nat := 36
def zi_X7_hoursAlone : zq_In := (yX7_hoursAlone, cX7_hoursAlone, 4, (some .int), { frames := 2, cells := 0, slots := 0, locals := 47 })
abbrev zn_X7_mostIn : Nat := 37
def zi_X7_mostIn : zq_In := (yX7_mostIn, cX7_mostIn, 4, (some .int), { frames := 2, cells := 0, slots := 0, locals := 46 })
abbrev zn_X7_firstRoomOf : Nat := 38
def zi_X7_firstRoomOf : zq_In := (yX7_firstRoomOf, cX7_firstRoomOf, 4, (some .int), { frames := 2, cells := 0, slots := 0, locals := 46 })
abbrev zn_X7_findingHour : Nat := 39
def zi_X7_findingHour : zq_In := (yX7_findingHour, cX7_findingHour, 2, (some .int), { frames := 3, cells := 0, slots := 0, locals := 67 })
abbrev zn_X7_finder : Nat := 40
def zi_X7_finder : zq_In := (yX7_finder, cX7_finder, 3, (some .int), { frames := 2, cells := 0, slots := 0, locals := 45 })
abbrev zn_X7_childWith : Nat := 41
def zi_X7_childWith : zq_In := (yX7_childWith, cX7_childWith, 4, (some .int), { frames := 1, cells := 0, slots := 0, locals := 22 })
abbrev zn_X8_type : Nat := 42
def zi_X8_type : zq_In := (yX8_type, cX8_type, 4, (some .int), { frames := 5, cells := 0, slots := 0, locals := 106 })
abbrev zn_X8_wipe : Nat := 43
def zi_X8_wipe : zq_In := (yX8_wipe, cX8_wipe, 4, (some .int), { frames := 5, cells := 0, slots := 0, locals := 106 })
abbrev zn_X8_undo : Nat := 44
def zi_X8_undo : zq_In := (yX8_undo, cX8_undo, 3, (some .int), { frames := 5, cells := 0, slots := 0, locals := 106 })
abbrev zn_X8_fault : Nat := 45
def zi_X8_fault : zq_In := (yX8_fault, cX8_fault, 3, (some .int), { frames := 1, cells := 0, slots := 0, locals := 21 })
abbrev zn_X8_door : Nat := 46
def zi_X8_door : zq_In := (yX8_door, cX8_door, 3, (some .int), { frames := 1, cells := 0, slots := 0, locals := 22 })
abbrev zn_X8_person : Nat := 47
def zi_X8_person : zq_In := (yX8_person, cX8_person, 3, (some .int), { frames := 2, cells := 0, slots := 0, locals := 43 })
abbrev zn_X8_ahead : Nat := 48
def zi_X8_ahead : zq_In := (yX8_ahead, cX8_ahead, 3, (some .int), { frames := 1, cells := 0, slots := 0, locals := 22 })
abbrev zn_X8_event : Nat := 49
def zi_X8_event : zq_In := (yX8_event, cX8_event, 4, (some .int), { frames := 3, cells := 0, slots := 0, locals := 65 })
abbrev zn_X8_back : Nat := 50
def zi_X8_back : zq_In := (yX8_back, cX8_back, 1, (some .int), { frames := 1, cells := 0, slots := 0, locals := 20 })
abbrev zn_X8_read : Nat := 51
def zi_X8_read : zq_In := (yX8_read, cX8_read, 5, (some .int), { frames := 4, cells := 0, slots := 0, locals := 88 })
abbrev zn_X8_at : Nat := 52
def zi_X8_at : zq_In := (yX8_at, cX8_at, 5, (some .int), { frames := 5, cells := 0, slots := 0, locals := 114 })
abbrev zn_X8_room : Nat := 53
def zi_X8_room : zq_In := (yX8_room, cX8_room, 3, (some .int), { frames := 5, cells := 0, slots := 0, locals := 114 })
abbrev zn_X8_far : Nat := 54
def zi_X8_far : zq_In := (yX8_far, cX8_far, 4, (some .int), { frames := 5, cells := 0, slots := 0, locals := 114 })
abbrev zn_X8_meet : Nat := 55
def zi_X8_meet : zq_In := (yX8_meet, cX8_meet, 5, (some .int), { frames := 5, cells := 0, slots := 0, locals := 114 })
abbrev zn_X8_empty : Nat := 56
def zi_X8_empty : zq_In := (yX8_empty, cX8_empty, 2, (some .int), { frames := 5, cells := 0, slots := 0, locals := 114 })
abbrev zn_X8_found : Nat := 57
def zi_X8_found : zq_In := (yX8_found, cX8_found, 5, (some .int), { frames := 5, cells := 0, slots := 0, locals := 114 })
abbrev zn_X8_crowd : Nat := 58
def zi_X8_crowd : zq_In := (yX8_crowd, cX8_crowd, 5, (some .int), { frames := 5, cells := 0, slots := 0, locals := 114 })
abbrev zn_X8_alone : Nat := 59
def zi_X8_alone : zq_In := (yX8_alone, cX8_alone, 1, (some .int), { frames := 5, cells := 0, slots := 0, locals := 114 })
abbrev zn_X8_sleep : Nat := 60
def zi_X8_sleep : zq_In := (yX8_sleep, cX8_sleep, 7, (some .int), { frames := 4, cells := 0, slots := 0, locals := 94 })
abbrev zn_X8_nice : Nat := 61
def zi_X8_nice : zq_In := (yX8_nice, cX8_nice, 7, (some .int), { frames := 4, cells := 0, slots := 0, locals := 94 })
abbrev zn_X8_lens : Nat := 62
def zi_X8_lens : zq_In := (yX8_lens, cX8_lens, 6, (some .int), { frames := 4, cells := 0, slots := 0, locals := 94 })
abbrev zn_X8_spare : Nat := 63
def zi_X8_spare : zq_In := (yX8_spare, cX8_spare, 3, (some .int), { frames := 6, cells := 0, slots := 0, locals := 137 })
abbrev zn_X8_seen : Nat := 64
def zi_X8_seen : zq_In := (yX8_seen, cX8_seen, 4, (some .int), { frames := 2, cells := 0, slots := 0, locals := 42 })
abbrev zn_X8_forget : Nat := 65
def zi_X8_forget : zq_In := (yX8_forget, cX8_forget, 2, (some .int), { frames := 0, cells := 0, slots := 0, locals := 0 })
abbrev zn_X8_never : Nat := 66
def zi_X8_never : zq_In := (yX8_never, cX8_never, 3, (some .int), { frames := 4, cells := 0, slots := 0, locals := 94 })
abbrev zn_X8_was : Nat := 67
def zi_X8_was : zq_In := (yX8_was, cX8_was, 3, (some .int), { frames := 5, cells := 0, slots := 0, locals := 118 })
abbrev zn_X8_ask : Nat := 68
def zi_X8_ask : zq_In := (yX8_ask, cX8_ask, 7, (some .int), { frames := 5, cells := 0, slots := 0, locals := 118 })
abbrev zn_X8_chance : Nat := 69
def zi_X8_chance : zq_In := (yX8_chance, cX8_chance, 10, (some .long), { frames := 5, cells := 0, slots := 0, locals := 119 })
abbrev zn_X8_weeks : Nat := 70
def zi_X8_weeks : zq_In := (yX8_weeks, cX8_weeks, 7, (some .int), { frames := 4, cells := 0, slots := 0, locals := 94 })
abbrev zn_X8_sheet : Nat := 71
def zi_X8_sheet : zq_In := (yX8_sheet, cX8_sheet, 4, (some .int), { frames := 2, cells := 0, slots := 0, locals := 45 })
abbrev zn_X8_lose : Nat := 72
def zi_X8_lose : zq_In := (yX8_lose, cX8_lose, 4, (some .int), { frames := 2, cells := 0, slots := 0, locals := 42 })
abbrev zn_X8_put : Nat := 73
def zi_X8_put : zq_In := (yX8_put, cX8_put, 6, (some .int), { frames := 3, cells := 0, slots := 0, locals := 66 })
abbrev zn_X8_get : Nat := 74
def zi_X8_get : zq_In := (yX8_get, cX8_get, 4, (some .int), { frames := 3, cells := 0, slots := 0, locals := 66 })
abbrev zn_X8_copy : Nat := 75
def zi_X8_copy : zq_In := (yX8_copy, cX8_copy, 8, (some .int), { frames := 2, cells := 0, slots := 0, locals := 42 })
abbrev zn_X8_write : Nat := 76
def zi_X8_write : zq_In := (yX8_write, cX8_write, 7, (some .int), { frames := 5, cells := 0, slots := 0, locals := 114 })
abbrev zn_X8_count : Nat := 77
def zi_X8_count : zq_In := (yX8_count, cX8_count, 2, (some .int), { frames := 6, cells := 0, slots := 0, locals := 137 })
abbrev zn_X8_digest : Nat := 78
def zi_X8_digest : zq_In := (yX8_digest, cX8_digest, 4, (some .long), { frames := 7, cells := 0, slots := 0, locals := 173 })
abbrev zn_X8_mix : Nat := 79
def zi_X8_mix : zq_In := (yX8_mix, cX8_mix, 4, (some .long), { frames := 0, cells := 0, slots := 0, locals := 0 })
abbrev zn_X8_mixStays : Nat := 80
def zi_X8_mixStays : zq_In := (yX8_mixStays, cX8_mixStays, 7, (some .long), { frames := 6, cells := 0, slots := 0, locals := 138 })
abbrev zn_X8_mixGuesses : Nat := 81
def zi_X8_mixGuesses : zq_In := (yX8_mixGuesses, cX8_mixGuesses, 6, (some .long), { frames := 6, cells := 0, slots := 0, locals := 148 })
abbrev zn_X8_within : Nat := 82
def zi_X8_within : zq_In := (yX8_within, cX8_within, 3, (some .boolean), { frames := 0, cells := 0, slots := 0, locals := 0 })
abbrev zn_X8_isHour : Nat := 83
def zi_X8_isHour : zq_In := (yX8_isHour, cX8_isHour, 1, (some .boolean), { frames := 1, cells := 0, slots := 0, locals := 22 })
abbrev zn_X8_isRoom : Nat := 84
def zi_X8_isRoom : zq_In := (yX8_isRoom, cX8_isRoom, 1, (some .boolean), { frames := 1, cells := 0, slots := 0, locals := 22 })
abbrev zn_X8_isSheet : Nat := 85
def zi_X8_isSheet : zq_In := (yX8_isSheet, cX8_isSheet, 1, (some .boolean), { frames := 1, cells := 0, slots := 0, locals := 22 })
abbrev zn_X8_isForm : Nat := 86
def zi_X8_isForm : zq_In := (yX8_isForm, cX8_isForm, 1, (some .boolean), { frames := 1, cells := 0, slots := 0, locals := 22 })
abbrev zn_X8_isEvent : Nat := 87
def zi_X8_isEvent : zq_In := (yX8_isEvent, cX8_isEvent, 4, (some .boolean), { frames := 2, cells := 0, slots := 0, locals := 42 })
abbrev zn_X8_isPerson : Nat := 88
def zi_X8_isPerson : zq_In := (yX8_isPerson, cX8_isPerson, 2, (some .boolean), { frames := 1, cells := 0, slots := 0, locals := 22 })
abbrev zn_X8_textOf : Nat := 89
def zi_X8_textOf : zq_In := (yX8_textOf, cX8_textOf, 2, (some (.object "DollsAhead$Text")), { frames := 0, cells := 0, slots := 0, locals := 0 })
abbrev zn_X8_textChanged : Nat := 90
def zi_X8_textChanged : zq_In := (yX8_textChanged, cX8_textChanged, 1, none, { frames := 2, cells := 0, slots := 0, locals := 43 })
abbrev zn_X8_changed : Nat := 91
def zi_X8_changed : zq_In := (yX8_changed, cX8_changed, 1, none, { frames := 0, cells := 0, slots := 0, locals := 0 })
abbrev zn_X8_weekAsTold : Nat := 92
def zi_X8_weekAsTold : zq_In := (yX8_weekAsTold, cX8_weekAsTold, 1, (some (.object "DollsAhead$Week")), { frames := 4, cells := 0, slots := 0, locals := 94 })
abbrev zn_X8_emptyHoursOfAll : Nat := 93
def zi_X8_emptyHoursOfAll : zq_In := (yX8_emptyHoursOfAll, cX8_emptyHoursOfAll, 4, (some .int), { frames := 5, cells := 0, slots := 0, locals := 114 })
abbrev zn_X8_sparedRow : Nat := 94
def zi_X8_sparedRow : zq_In := (yX8_sparedRow, cX8_sparedRow, 3, (some .int), { frames := 5, cells := 0, slots := 0, locals := 115 })
abbrev zn_X8_nobodyAloneWithout : Nat := 95
def zi_X8_nobodyAloneWithout : zq_In := (yX8_nobodyAloneWithout, cX8_nobodyAloneWithout, 2, (some .boolean), { frames := 4, cells := 0, slots := 0, locals := 94 })
abbrev zn_X8_placeOfBit : Nat := 96
def zi_X8_placeOfBit : zq_In := (yX8_placeOfBit, cX8_placeOfBit, 4, (some .int), { frames := 0, cells := 0, slots := 0, locals := 0 })
abbrev zn_X8_sortsThatFit : Nat := 97
def zi_X8_sortsThatFit : zq_In := (yX8_sortsThatFit, cX8_sortsThatFit, 4, (some .int), { frames := 4, cells := 0, slots := 0, locals := 94 })
abbrev zn_X8_bedsThatFit : Nat := 98
def zi_X8_bedsThatFit : zq_In := (yX8_bedsThatFit, cX8_bedsThatFit, 5, (some .int), { frames := 4, cells := 0, slots := 0, locals := 94 })
abbrev zn_X8_mostBedsInOneRoom : Nat := 99
def zi_X8_mostBedsInOneRoom : zq_In := (yX8_mostBedsInOneRoom, cX8_mostBedsInOneRoom, 6, (some .int), { frames := 1, cells := 0, slots := 0, locals := 23 })
abbrev zn_X8_weighOdds : Nat := 100
def zi_X8_weighOdds : zq_In := (yX8_weighOdds, cX8_weighOdds, 6, none, { frames := 4, cells := 0, slots := 0, locals := 94 })
abbrev zn_X8_weightOf : Nat := 101
def zi_X8_weightOf : zq_In := (yX8_weightOf, cX8_weightOf, 6, (some .long), { frames := 0, cells := 0, slots := 0, locals := 0 })
abbrev zn_X8_addOdds : Nat := 102
def zi_X8_addOdds : zq_In := (yX8_addOdds, cX8_addOdds, 5, none, { frames := 0, cells := 0, slots := 0, locals := 0 })
abbrev zn_X8_refuse : Nat := 103
def zi_X8_refuse : zq_In := (yX8_refuse, cX8_refuse, 2, (some .int), { frames := 0, cells := 0, slots := 0, locals := 0 })
abbrev zn_X8_refusalOfItem : Nat := 104
def zi_X8_refusalOfItem : zq_In := (yX8_refusalOfItem, cX8_refusalOfItem, 5, (some .int), { frames := 2, cells := 0, slots := 0, locals := 42 })
abbrev zn_X9_in : Nat := 105
def zi_X9_in : zq_In := (yX9_in, cX9_in, 3, (some .boolean), { frames := 0, cells := 0, slots := 0, locals := 0 })
abbrev zn_X9_isIn : Nat := 106
def zi_X9_isIn : zq_In := (yX9_isIn, cX9_isIn, 2, (some .boolean), { frames := 0, cells := 0, slots := 0, locals := 0 })
abbrev zn_X9_no : Nat := 107
def zi_X9_no : zq_In := (yX9_no, cX9_no, 1, (some .long), { frames := 0, cells := 0, slots := 0, locals := 0 })
abbrev zn_X9_lowest : Nat := 108
def zi_X9_lowest : zq_In := (yX9_lowest, cX9_lowest, 11, (some .long), { frames := 0, cells := 0, slots := 0, locals := 0 })
abbrev zn_X9_isText : Nat := 109
def zi_X9_isText : zq_In := (yX9_isText, cX9_isText, 1, (some .boolean), { frames := 1, cells := 0, slots := 0, locals := 22 })
abbrev zn_X9_isHour : Nat := 110
def zi_X9_isHour : zq_In := (yX9_isHour, cX9_isHour, 1, (some .boolean), { frames := 1, cells := 0, slots := 0, locals := 22 })
abbrev zn_X9_isTwo : Nat := 111
def zi_X9_isTwo : zq_In := (yX9_isTwo, cX9_isTwo, 1, (some .boolean), { frames := 1, cells := 0, slots := 0, locals := 22 })
abbrev zn_X9_isThree : Nat := 112
def zi_X9_isThree : zq_In := (yX9_isThree, cX9_isThree, 1, (some .boolean), { frames := 1, cells := 0, slots := 0, locals := 22 })
abbrev zn_X9_isEight : Nat := 113
def zi_X9_isEight : zq_In := (yX9_isEight, cX9_isEight, 1, (some .boolean), { frames := 1, cells := 0, slots := 0, locals := 22 })
abbrev zn_X9_type : Nat := 114
def zi_X9_type : zq_In := (yX9_type, cX9_type, 3, (some .int), { frames := 2, cells := 0, slots := 0, locals := 42 })
abbrev zn_X9_wipe : Nat := 115
def zi_X9_wipe : zq_In := (yX9_wipe, cX9_wipe, 3, (some .int), { frames := 2, cells := 0, slots := 0, locals := 42 })
abbrev zn_X9_undo : Nat := 116
def zi_X9_undo : zq_In := (yX9_undo, cX9_undo, 2, (some .int), { frames := 2, cells := 0, slots := 0, locals := 42 })
abbrev zn_X9_byteAt : Nat := 117
def zi_X9_byteAt : zq_In := (yX9_byteAt, cX9_byteAt, 3, (some .int), { frames := 0, cells := 0, slots := 0, locals := 0 })
abbrev zn_X9_readsDoor : Nat := 118
def zi_X9_readsDoor : zq_In := (yX9_readsDoor, cX9_readsDoor, 5, (some .int), { frames := 2, cells := 0, slots := 0, locals := 42 })
abbrev zn_X9_readsPerson : Nat := 119
def zi_X9_readsPerson : zq_In := (yX9_readsPerson, cX9_readsPerson, 7, (some .int), { frames := 2, cells := 0, slots := 0, locals := 42 })
abbrev zn_X9_readsParts : Nat := 120
def zi_X9_readsParts : zq_In := (yX9_readsParts, cX9_readsParts, 6, (some .int), { frames := 3, cells := 0, slots := 0, locals := 68 })
abbrev zn_X9_faultOf : Nat := 121
def zi_X9_faultOf : zq_In := (yX9_faultOf, cX9_faultOf, 4, (some .int), { frames := 4, cells := 0, slots := 0, locals := 93 })
abbrev zn_X9_reads : Nat := 122
def zi_X9_reads : zq_In := (yX9_reads, cX9_reads, 2, none, { frames := 5, cells := 0, slots := 0, locals := 116 })
abbrev zn_X9_fault : Nat := 123
def zi_X9_fault : zq_In := (yX9_fault, cX9_fault, 2, (some .int), { frames := 5, cells := 0, slots := 0, locals := 116 })
abbrev zn_X9_isDoor : Nat := 124
def zi_X9_isDoor : zq_In := (yX9_isDoor, cX9_isDoor, 2, (some .boolean), { frames := 6, cells := 0, slots := 0, locals := 137 })
abbrev zn_X9_isPerson : Nat := 125
def zi_X9_isPerson : zq_In := (yX9_isPerson, cX9_isPerson, 2, (some .boolean), { frames := 6, cells := 0, slots := 0, locals := 137 })
abbrev zn_X9_doorOf : Nat := 126
def zi_X9_doorOf : zq_In := (yX9_doorOf, cX9_doorOf, 3, (some .int), { frames := 0, cells := 0, slots := 0, locals := 0 })
abbrev zn_X9_door : Nat := 127
def zi_X9_door : zq_In := (yX9_door, cX9_door, 3, (some .int), { frames := 7, cells := 0, slots := 0, locals := 158 })
abbrev zn_X9_personOf : Nat := 128
def zi_X9_personOf : zq_In := (yX9_personOf, cX9_personOf, 3, (some .int), { frames := 0, cells := 0, slots := 0, locals := 0 })
abbrev zn_X9_person : Nat := 129
def zi_X9_person : zq_In := (yX9_person, cX9_person, 3, (some .int), { frames := 7, cells := 0, slots := 0, locals := 158 })
abbrev zn_X9_ahead : Nat := 130
def zi_X9_ahead : zq_In := (yX9_ahead, cX9_ahead, 3, (some .int), { frames := 1, cells := 0, slots := 0, locals := 22 })
abbrev zn_X9_event : Nat := 131
def zi_X9_event : zq_In := (yX9_event, cX9_event, 4, (some .int), { frames := 2, cells := 0, slots := 0, locals := 42 })
abbrev zn_X9_back : Nat := 132
def zi_X9_back : zq_In := (yX9_back, cX9_back, 1, (some .int), { frames := 0, cells := 0, slots := 0, locals := 0 })
abbrev zn_X9_read : Nat := 133
def zi_X9_read : zq_In := (yX9_read, cX9_read, 4, (some .int), { frames := 3, cells := 0, slots := 0, locals := 65 })
abbrev zn_X9_asTold : Nat := 134
def zi_X9_asTold : zq_In := (yX9_asTold, cX9_asTold, 2, none, { frames := 6, cells := 0, slots := 0, locals := 137 })
abbrev zn_X9_befalls : Nat := 135
def zi_X9_befalls : zq_In := (yX9_befalls, cX9_befalls, 3, none, { frames := 1, cells := 0, slots := 0, locals := 21 })
abbrev zn_X9_nears : Nat := 136
def zi_X9_nears : zq_In := (yX9_nears, cX9_nears, 6, none, { frames := 0, cells := 0, slots := 0, locals := 0 })
abbrev zn_X9_measures : Nat := 137
def zi_X9_measures : zq_In := (yX9_measures, cX9_measures, 6, none, { frames := 1, cells := 0, slots := 0, locals := 25 })
abbrev zn_X9_isBeside : Nat := 138
def zi_X9_isBeside : zq_In := (yX9_isBeside, cX9_isBeside, 4, (some .boolean), { frames := 0, cells := 0, slots := 0, locals := 0 })
abbrev zn_X9_step : Nat := 139
def zi_X9_step : zq_In := (yX9_step, cX9_step, 8, (some .int), { frames := 1, cells := 0, slots := 0, locals := 23 })
abbrev zn_X9_leastChild : Nat := 140
def zi_X9_leastChild : zq_In := (yX9_leastChild, cX9_leastChild, 3, (some .int), { frames := 0, cells := 0, slots := 0, locals := 0 })
abbrev zn_X9_goesThrough : Nat := 141
def zi_X9_goesThrough : zq_In := (yX9_goesThrough, cX9_goesThrough, 8, none, { frames := 2, cells := 0, slots := 0, locals := 50 })
abbrev zn_X9_runs : Nat := 142
def zi_X9_runs : zq_In := (yX9_runs, cX9_runs, 3, none, { frames := 3, cells := 0, slots := 0, locals := 77 })
abbrev zn_X9_runsTold : Nat := 143
def zi_X9_runsTold : zq_In := (yX9_runsTold, cX9_runsTold, 1, none, { frames := 7, cells := 0, slots := 0, locals := 158 })
abbrev zn_X9_atOf : Nat := 144
def zi_X9_atOf : zq_In := (yX9_atOf, cX9_atOf, 5, (some .int), { frames := 8, cells := 0, slots := 0, locals := 178 })
abbrev zn_X9_at : Nat := 145
def zi_X9_at : zq_In := (yX9_at, cX9_at, 4, (some .int), { frames := 9, cells := 0, slots := 0, locals := 202 })
abbrev zn_X9_inRoom : Nat := 146
def zi_X9_inRoom : zq_In := (yX9_inRoom, cX9_inRoom, 5, (some .int), { frames := 0, cells := 0, slots := 0, locals := 0 })
abbrev zn_X9_roomOf : Nat := 147
def zi_X9_roomOf : zq_In := (yX9_roomOf, cX9_roomOf, 3, (some .int), { frames := 8, cells := 0, slots := 0, locals := 178 })
abbrev zn_X9_room : Nat := 148
def zi_X9_room : zq_In := (yX9_room, cX9_room, 3, (some .int), { frames := 9, cells := 0, slots := 0, locals := 200 })
abbrev zn_X9_farOf : Nat := 149
def zi_X9_farOf : zq_In := (yX9_farOf, cX9_farOf, 5, (some .int), { frames := 8, cells := 0, slots := 0, locals := 178 })
abbrev zn_X9_far : Nat := 150
def zi_X9_far : zq_In := (yX9_far, cX9_far, 4, (some .int), { frames := 9, cells := 0, slots := 0, locals := 202 })
abbrev zn_X9_metOf : Nat := 151
def zi_X9_metOf : zq_In := (yX9_metOf, cX9_metOf, 5, (some .int), { frames := 8, cells := 0, slots := 0, locals := 178 })
abbrev zn_X9_meet : Nat := 152
def zi_X9_meet : zq_In := (yX9_meet, cX9_meet, 3, (some .int), { frames := 9, cells := 0, slots := 0, locals := 202 })
abbrev zn_X9_emptyNow : Nat := 153
def zi_X9_emptyNow : zq_In := (yX9_emptyNow, cX9_emptyNow, 4, (some .int), { frames := 1, cells := 0, slots := 0, locals := 24 })
abbrev zn_X9_emptyOf : Nat := 154
def zi_X9_emptyOf : zq_In := (yX9_emptyOf, cX9_emptyOf, 2, (some .int), { frames := 8, cells := 0, slots := 0, locals := 178 })
abbrev zn_X9_empty : Nat := 155
def zi_X9_empty : zq_In := (yX9_empty, cX9_empty, 2, (some .int), { frames := 9, cells := 0, slots := 0, locals := 199 })
abbrev zn_X9_foundNow : Nat := 156
def zi_X9_foundNow : zq_In := (yX9_foundNow, cX9_foundNow, 5, (some .int), { frames := 0, cells := 0, slots := 0, locals := 0 })
abbrev zn_X9_foundOf : Nat := 157
def zi_X9_foundOf : zq_In := (yX9_foundOf, cX9_foundOf, 2, (some .int), { frames := 8, cells := 0, slots := 0, locals := 178 })
abbrev zn_X9_found : Nat := 158
def zi_X9_found : zq_In := (yX9_found, cX9_found, 2, (some .int), { frames := 9, cells := 0, slots := 0, locals := 199 })
abbrev zn_X9_many : Nat := 159
def zi_X9_many : zq_In := (yX9_many, cX9_many, 4, (some .int), { frames := 1, cells := 0, slots := 0, locals := 21 })
abbrev zn_X9_crowdOf : Nat := 160
def zi_X9_crowdOf : zq_In := (yX9_crowdOf, cX9_crowdOf, 6, (some .int), { frames := 8, cells := 0, slots := 0, locals := 178 })
abbrev zn_X9_crowd : Nat := 161
def zi_X9_crowd : zq_In := (yX9_crowd, cX9_crowd, 2, (some .int), { frames := 9, cells := 0, slots := 0, locals := 203 })
abbrev zn_X9_isByItself : Nat := 162
def zi_X9_isByItself : zq_In := (yX9_isByItself, cX9_isByItself, 3, (some .boolean), { frames := 1, cells := 0, slots := 0, locals := 24 })
abbrev zn_X9_aloneNow : Nat := 163
def zi_X9_aloneNow : zq_In := (yX9_aloneNow, cX9_aloneNow, 3, (some .int), { frames := 2, cells := 0, slots := 0, locals := 46 })
abbrev zn_X9_aloneOf : Nat := 164
def zi_X9_aloneOf : zq_In := (yX9_aloneOf, cX9_aloneOf, 1, (some .int), { frames := 8, cells := 0, slots := 0, locals := 178 })
abbrev zn_X9_alone : Nat := 165
def zi_X9_alone : zq_In := (yX9_alone, cX9_alone, 1, (some .int), { frames := 9, cells := 0, slots := 0, locals := 198 })
abbrev zn_X9_hoursByItself : Nat := 166
def zi_X9_hoursByItself : zq_In := (yX9_hoursByItself, cX9_hoursByItself, 4, (some .int), { frames := 2, cells := 0, slots := 0, locals := 46 })
abbrev zn_X9_sleepOf : Nat := 167
def zi_X9_sleepOf : zq_In := (yX9_sleepOf, cX9_sleepOf, 8, (some .int), { frames := 7, cells := 0, slots := 0, locals := 158 })
abbrev zn_X9_sleep : Nat := 168
def zi_X9_sleep : zq_In := (yX9_sleep, cX9_sleep, 3, (some .int), { frames := 8, cells := 0, slots := 0, locals := 185 })
abbrev zn_X9_mostAt : Nat := 169
def zi_X9_mostAt : zq_In := (yX9_mostAt, cX9_mostAt, 5, (some .int), { frames := 2, cells := 0, slots := 0, locals := 44 })
abbrev zn_X9_niceOf : Nat := 170
def zi_X9_niceOf : zq_In := (yX9_niceOf, cX9_niceOf, 7, (some .int), { frames := 7, cells := 0, slots := 0, locals := 158 })
abbrev zn_X9_nice : Nat := 171
def zi_X9_nice : zq_In := (yX9_nice, cX9_nice, 3, (some .int), { frames := 8, cells := 0, slots := 0, locals := 184 })
abbrev zn_X9_lensOf : Nat := 172
def zi_X9_lensOf : zq_In := (yX9_lensOf, cX9_lensOf, 7, (some .int), { frames := 7, cells := 0, slots := 0, locals := 158 })
abbrev zn_X9_lens : Nat := 173
def zi_X9_lens : zq_In := (yX9_lens, cX9_lens, 2, (some .int), { frames := 8, cells := 0, slots := 0, locals := 184 })
abbrev zn_X9_isSpared : Nat := 174
def zi_X9_isSpared : zq_In := (yX9_isSpared, cX9_isSpared, 2, (some .boolean), { frames := 4, cells := 0, slots := 0, locals := 99 })
abbrev zn_X9_spareBy : Nat := 175
def zi_X9_spareBy : zq_In := (yX9_spareBy, cX9_spareBy, 3, (some .int), { frames := 7, cells := 0, slots := 0, locals := 158 })
abbrev zn_X9_ofRow : Nat := 176
def zi_X9_ofRow : zq_In := (yX9_ofRow, cX9_ofRow, 3, (some .int), { frames := 0, cells := 0, slots := 0, locals := 0 })
abbrev zn_X9_spare : Nat := 177
def zi_X9_spare : zq_In := (yX9_spare, cX9_spare, 2, (some .int), { frames := 8, cells := 0, slots := 0, locals := 180 })
abbrev zn_X9_seen : Nat := 178
def zi_X9_seen : zq_In := (yX9_seen, cX9_seen, 4, (some .int), { frames := 2, cells := 0, slots := 0, locals := 42 })
abbrev zn_X9_forget : Nat := 179
def zi_X9_forget : zq_In := (yX9_forget, cX9_forget, 2, (some .int), { frames := 0, cells := 0, slots := 0, locals := 0 })
abbrev zn_X9_isSeen : Nat := 180
def zi_X9_isSeen : zq_In := (yX9_isSeen, cX9_isSeen, 3, (some .boolean), { frames := 4, cells := 0, slots := 0, locals := 99 })
abbrev zn_X9_neverNow : Nat := 181
def zi_X9_neverNow : zq_In := (yX9_neverNow, cX9_neverNow, 3, (some .int), { frames := 7, cells := 0, slots := 0, locals := 158 })
abbrev zn_X9_never : Nat := 182
def zi_X9_never : zq_In := (yX9_never, cX9_never, 1, (some .int), { frames := 8, cells := 0, slots := 0, locals := 180 })
abbrev zn_X9_sortsBy : Nat := 183
def zi_X9_sortsBy : zq_In := (yX9_sortsBy, cX9_sortsBy, 5, (some .int), { frames := 7, cells := 0, slots := 0, locals := 158 })
abbrev zn_X9_bedsBy : Nat := 184
def zi_X9_bedsBy : zq_In := (yX9_bedsBy, cX9_bedsBy, 6, (some .int), { frames := 7, cells := 0, slots := 0, locals := 158 })
abbrev zn_X9_was : Nat := 185
def zi_X9_was : zq_In := (yX9_was, cX9_was, 3, (some .int), { frames := 8, cells := 0, slots := 0, locals := 183 })
abbrev zn_X9_askOf : Nat := 186
def zi_X9_askOf : zq_In := (yX9_askOf, cX9_askOf, 10, (some .int), { frames := 8, cells := 0, slots := 0, locals := 183 })
abbrev zn_X9_ask : Nat := 187
def zi_X9_ask : zq_In := (yX9_ask, cX9_ask, 2, (some .int), { frames := 9, cells := 0, slots := 0, locals := 212 })
abbrev zn_X9_chanceOf : Nat := 188
def zi_X9_chanceOf : zq_In := (yX9_chanceOf, cX9_chanceOf, 11, (some .long), { frames := 7, cells := 0, slots := 0, locals := 158 })
abbrev zn_X9_chance : Nat := 189
def zi_X9_chance : zq_In := (yX9_chance, cX9_chance, 5, (some .long), { frames := 8, cells := 0, slots := 0, locals := 188 })
abbrev zn_X9_weeksOf : Nat := 190
def zi_X9_weeksOf : zq_In := (yX9_weeksOf, cX9_weeksOf, 6, (some .int), { frames := 7, cells := 0, slots := 0, locals := 158 })
abbrev zn_X9_weeks : Nat := 191
def zi_X9_weeks : zq_In := (yX9_weeks, cX9_weeks, 4, (some .int), { frames := 8, cells := 0, slots := 0, locals := 183 })
abbrev zn_X9_meets : Nat := 192
def zi_X9_meets : zq_In := (yX9_meets, cX9_meets, 2, (some .int), { frames := 0, cells := 0, slots := 0, locals := 0 })
abbrev zn_X9_isSheet : Nat := 193
def zi_X9_isSheet : zq_In := (yX9_isSheet, cX9_isSheet, 1, (some .boolean), { frames := 1, cells := 0, slots := 0, locals := 22 })
abbrev zn_X9_sheet : Nat := 194
def zi_X9_sheet : zq_In := (yX9_sheet, cX9_sheet, 5, (some .int), { frames := 2, cells := 0, slots := 0, locals := 42 })
abbrev zn_X9_lose : Nat := 195
def zi_X9_lose : zq_In := (yX9_lose, cX9_lose, 2, (some .int), { frames := 2, cells := 0, slots := 0, locals := 42 })
abbrev zn_X9_lacks : Nat := 196
def zi_X9_lacks : zq_In := (yX9_lacks, cX9_lacks, 4, (some .int), { frames := 1, cells := 0, slots := 0, locals := 22 })
abbrev zn_X9_keep : Nat := 197
def zi_X9_keep : zq_In := (yX9_keep, cX9_keep, 4, none, { frames := 0, cells := 0, slots := 0, locals := 0 })
abbrev zn_X9_put : Nat := 198
def zi_X9_put : zq_In := (yX9_put, cX9_put, 6, (some .int), { frames := 2, cells := 0, slots := 0, locals := 45 })
abbrev zn_X9_get : Nat := 199
def zi_X9_get : zq_In := (yX9_get, cX9_get, 5, (some .int), { frames := 2, cells := 0, slots := 0, locals := 45 })
abbrev zn_X9_copy : Nat := 200
def zi_X9_copy : zq_In := (yX9_copy, cX9_copy, 7, (some .int), { frames := 2, cells := 0, slots := 0, locals := 42 })
abbrev zn_X9_write : Nat := 201
def zi_X9_write : zq_In := (yX9_write, cX9_write, 4, (some .int), { frames := 8, cells := 0, slots := 0, locals := 178 })
abbrev zn_X9_sumOf : Nat := 202
def zi_X9_sumOf : zq_In := (yX9_sumOf, cX9_sumOf, 4, (some .int), { frames := 8, cells := 0, slots := 0, locals := 178 })
abbrev zn_X9_count : Nat := 203
def zi_X9_count : zq_In := (yX9_count, cX9_count, 2, (some .int), { frames := 9, cells := 0, slots := 0, locals := 201 })
abbrev zn_X9_hourDigest : Nat := 204
def zi_X9_hourDigest : zq_In := (yX9_hourDigest, cX9_hourDigest, 7, (some .long), { frames := 9, cells := 0, slots := 0, locals := 202 })
abbrev zn_X9_personDigest : Nat := 205
def zi_X9_personDigest : zq_In := (yX9_personDigest, cX9_personDigest, 7, (some .long), { frames := 10, cells := 0, slots := 0, locals := 228 })
abbrev zn_X9_digest : Nat := 206
def zi_X9_digest : zq_In := (yX9_digest, cX9_digest, 4, (some .long), { frames := 11, cells := 0, slots := 0, locals := 254 })
abbrev zn_J6_bitCount_0f7a4 : Nat := 207
def zi_J6_bitCount_0f7a4 : zq_In := (yJ6_bitCount_0f7a4, cJ6_bitCount_0f7a4, 1, (some .int), { frames := 0, cells := 0, slots := 0, locals := 0 })
abbrev zn_J7_fill_d0a16 : Nat := 208
def zi_J7_fill_d0a16 : zq_In := (yJ7_fill_d0a16, cJ7_fill_d0a16, 5, none, { frames := 0, cells := 0, slots := 0, locals := 0 })
abbrev zn_J7_fill_53178 : Nat := 209
def zi_J7_fill_53178 : zq_In := (yJ7_fill_53178, cJ7_fill_53178, 4, none, { frames := 0, cells := 0, slots := 0, locals := 0 })
abbrev zn_L_law : Nat := 210
def zi_L_law : zq_In := (x, code, 4, (some .boolean), room_1)
def zq_inf : List zq_In := [zi_X0_fits, zi_X0_readThings, zi_X0_openAllBut, zi_X0_fillStepsTo, zi_X1_add, zi_X1_become, zi_X2_draw, zi_X3_fits, zi_X3_readThings, zi_X3_sortAt, zi_X4_isLost, zi_X4_become, zi_X4_holds, zi_X4_lay, zi_X5_add, zi_X5_allIn, zi_X6_isFull, zi_X6_add, zi_X6_shorten, zi_X6_isFigure, zi_X6_figure, zi_X6_understand, zi_X6_firstFault, zi_X7_forgetSteps, zi_X7_suppose, zi_X7_runWith, zi_X7_layHours, zi_X7_layTables, zi_X7_walk, zi_X7_sortOf, zi_X7_bedOf, zi_X7_roomOf, zi_X7_whoIn, zi_X7_doorsBetween, zi_X7_emptyHours, zi_X7_aloneBehind, zi_X7_hoursAlone, zi_X7_mostIn, zi_X7_firstRoomOf, zi_X7_findingHour, zi_X7_finder, zi_X7_childWith, zi_X8_type, zi_X8_wipe, zi_X8_undo, zi_X8_fault, zi_X8_door, zi_X8_person, zi_X8_ahead, zi_X8_event, zi_X8_back, zi_X8_read, zi_X8_at, zi_X8_room, zi_X8_far, zi_X8_meet, zi_X8_empty, zi_X8_found, zi_X8_crowd, zi_X8_alone, zi_X8_sleep, zi_X8_nice, zi_X8_lens, zi_X8_spare, zi_X8_seen, zi_X8_forget, zi_X8_never, zi_X8_was, zi_X8_ask, zi_X8_chance, zi_X8_weeks, zi_X8_sheet, zi_X8_lose, zi_X8_put, zi_X8_get, zi_X8_copy, zi_X8_write, zi_X8_count, zi_X8_digest, zi_X8_mix, zi_X8_mixStays, zi_X8_mixGuesses, zi_X8_within, zi_X8_isHour, zi_X8_isRoom, zi_X8_isSheet, zi_X8_isForm, zi_X8_isEvent, zi_X8_isPerson, zi_X8_textOf, zi_X8_textChanged, zi_X8_changed, zi_X8_weekAsTold, zi_X8_emptyHoursOfAll, zi_X8_sparedRow, zi_X8_nobodyAloneWithout, zi_X8_placeOfBit, zi_X8_sortsThatFit, zi_X8_bedsThatFit, zi_X8_mostBedsInOneRoom, zi_X8_weighOdds, zi_X8_weightOf, zi_X8_addOdds, zi_X8_refuse, zi_X8_refusalOfItem, zi_X9_in, zi_X9_isIn, zi_X9_no, zi_X9_lowest, zi_X9_isText, zi_X9_isHour, zi_X9_isTwo, zi_X9_isThree, zi_X9_isEight, zi_X9_type, zi_X9_wipe, zi_X9_undo, zi_X9_byteAt, zi_X9_readsDoor, zi_X9_readsPerson, zi_X9_readsParts, zi_X9_faultOf, zi_X9_reads, zi_X9_fault, zi_X9_isDoor, zi_X9_isPerson, zi_X9_doorOf, zi_X9_door, zi_X9_personOf, zi_X9_person, zi_X9_ahead, zi_X9_event, zi_X9_back, zi_X9_read, zi_X9_asTold, zi_X9_befalls, zi_X9_nears, zi_X9_measures, zi_X9_isBeside, zi_X9_step, zi_X9_leastChild, zi_X9_goesThrough, zi_X9_runs, zi_X9_runsTold, zi_X9_atOf, zi_X9_at, zi_X9_inRoom, zi_X9_roomOf, zi_X9_room, zi_X9_farOf, zi_X9_far, zi_X9_metOf, zi_X9_meet, zi_X9_emptyNow, zi_X9_emptyOf, zi_X9_empty, zi_X9_foundNow, zi_X9_foundOf, zi_X9_found, zi_X9_many, zi_X9_crowdOf, zi_X9_crowd, zi_X9_isByItself, zi_X9_aloneNow, zi_X9_aloneOf, zi_X9_alone, zi_X9_hoursByItself, zi_X9_sleepOf, zi_X9_sleep, zi_X9_mostAt, zi_X9_niceOf, zi_X9_nice, zi_X9_lensOf, zi_X9_lens, zi_X9_isSpared, zi_X9_spareBy, zi_X9_ofRow, zi_X9_spare, zi_X9_seen, zi_X9_forget, zi_X9_isSeen, zi_X9_neverNow, zi_X9_never, zi_X9_sortsBy, zi_X9_bedsBy, zi_X9_was, zi_X9_askOf, zi_X9_ask, zi_X9_chanceOf, zi_X9_chance, zi_X9_weeksOf, zi_X9_weeks, zi_X9_meets, zi_X9_isSheet, zi_X9_sheet, zi_X9_lose, zi_X9_lacks, zi_X9_keep, zi_X9_put, zi_X9_get, zi_X9_copy, zi_X9_write, zi_X9_sumOf, zi_X9_count, zi_X9_hourDigest, zi_X9_personDigest, zi_X9_digest, zi_J6_bitCount_0f7a4, zi_J7_fill_d0a16, zi_J7_fill_53178, zi_L_law]
def zq_rok (i : zq_In) (pc kind : Nat) : Prop := match kind with
  | 0 => i.2.2.2.1 = none ∧ decode i.2.1 pc = .ok (.return_, 1)
  | 1 => i.2.2.2.1 = some .int ∧ decode i.2.1 pc = .ok (.ireturn, 1)
  | 2 => i.2.2.2.1 = some .boolean ∧ decode i.2.1 pc = .ok (.ireturn, 1)
  | 3 => i.2.2.2.1 = some .long ∧ decode i.2.1 pc = .ok (.lreturn, 1)
  | _ => (∃ n, i.2.2.2.1 = some (.object n)) ∧ decode i.2.1 pc = .ok (.areturn, 1)
def zq_ok (i : zq_In) (pc : Nat) (it : zq_It) : Prop := match it with
  | .inl f => zq_snd i.2.1 i.2.2.1 i.1.cls i.2.2.2.2.frames i.2.2.2.2.locals pc f
  | .inr (.inl (n, .inl k)) => ∃ i', zq_inf[k]? = some i' ∧ zq_sndc i.2.1 i.2.2.1 i.1.cls i.2.2.2.2.frames i.2.2.2.2.locals pc n none i'.1 i'.2.1 i'.2.2.1 i'.2.2.2.1 i'.2.2.2.2
  | .inr (.inl (n, .inr cj)) => ∀ q ∈ cj, ∃ i', zq_inf[q.2]? = some i' ∧ zq_sndc i.2.1 i.2.2.1 i.1.cls i.2.2.2.2.frames i.2.2.2.2.locals pc n (some q.1) i'.1 i'.2.1 i'.2.2.1 i'.2.2.2.1 i'.2.2.2.2
  | .inr (.inr kind) => zq_rok i pc kind
def zq_oks (i : zq_In) (c : List (Nat × zq_It)) : Prop := ∀ q ∈ c, zq_ok i q.1 q.2
theorem zq_nil {i : zq_In} : zq_oks i [] := fun _ h => absurd h List.not_mem_nil
theorem zq_cons {i : zq_In} {pc : Nat} {it : zq_It} {c : List (Nat × zq_It)} (h : zq_ok i pc it) (t : zq_oks i c) : zq_oks i ((pc, it) :: c) := List.forall_mem_cons.mpr ⟨h, t⟩
theorem zq_app {i : zq_In} {c1 c2 : List (Nat × zq_It)} (h : zq_oks i c1) (t : zq_oks i c2) : zq_oks i (c1 ++ c2) := List.forall_mem_append.mpr ⟨h, t⟩
theorem zw_0 : Cond.selects RX8 yX8_textOf yX8_textOf ∈ zq_W := zq_inW (List.mem_append_left _ (List.mem_of_getElem? (i := 0) rfl)) rfl
theorem zw_1 : Cond.selects RX3 yX3_sortAt yX3_sortAt ∈ zq_W := zq_inW (List.mem_append_left _ (List.mem_of_getElem? (i := 1) rfl)) rfl
theorem zw_2 : Cond.selects RX8 yX8_textChanged yX8_textChanged ∈ zq_W := zq_inW (List.mem_append_left _ (List.mem_of_getElem? (i := 2) rfl)) rfl
theorem zw_3 : Cond.selects RX8 yX8_changed yX8_changed ∈ zq_W := zq_inW (List.mem_append_left _ (List.mem_of_getElem? (i := 3) rfl)) rfl
theorem zw_4 : Cond.selects RX8 yX8_isPerson yX8_isPerson ∈ zq_W := zq_inW (List.mem_append_left _ (List.mem_of_getElem? (i := 4) rfl)) rfl
theorem zw_5 : Cond.selects RX8 yX8_refuse yX8_refuse ∈ zq_W := zq_inW (List.mem_append_left _ (List.mem_of_getElem? (i := 5) rfl)) rfl
theorem zw_6 : Cond.selects RX8 yX8_weekAsTold yX8_weekAsTold ∈ zq_W := zq_inW (List.mem_append_left _ (List.mem_of_getElem? (i := 6) rfl)) rfl
theorem zw_7 : Cond.selects RX7 yX7_layHours yX7_layHours ∈ zq_W := zq_inW (List.mem_append_left _ (List.mem_of_getElem? (i := 7) rfl)) rfl
theorem zw_8 : Cond.selects RX7 yX7_layTables yX7_layTables ∈ zq_W := zq_inW (List.mem_append_left _ (List.mem_of_getElem? (i := 8) rfl)) rfl
theorem zw_9 : Cond.selects RX7 yX7_sortOf yX7_sortOf ∈ zq_W := zq_inW (List.mem_append_left _ (List.mem_of_getElem? (i := 9) rfl)) rfl
theorem zw_10 : Cond.selects RX7 yX7_walk yX7_walk ∈ zq_W := zq_inW (List.mem_append_left _ (List.mem_of_getElem? (i := 10) rfl)) rfl
theorem zw_11 : Cond.selects RX7 yX7_bedOf yX7_bedOf ∈ zq_W := zq_inW (List.mem_append_left _ (List.mem_of_getElem? (i := 11) rfl)) rfl
theorem zw_12 : Cond.selects RX8 yX8_sparedRow yX8_sparedRow ∈ zq_W := zq_inW (List.mem_append_left _ (List.mem_of_getElem? (i := 12) rfl)) rfl
theorem zw_13 : Cond.selects RX8 yX8_nobodyAloneWithout yX8_nobodyAloneWithout ∈ zq_W := zq_inW (List.mem_append_left _ (List.mem_of_getElem? (i := 13) rfl)) rfl
theorem zw_14 : Cond.selects RX8 yX8_sortsThatFit yX8_sortsThatFit ∈ zq_W := zq_inW (List.mem_append_left _ (List.mem_of_getElem? (i := 14) rfl)) rfl
theorem zw_15 : Cond.selects RX8 yX8_bedsThatFit yX8_bedsThatFit ∈ zq_W := zq_inW (List.mem_append_left _ (List.mem_of_getElem? (i := 15) rfl)) rfl
theorem zw_16 : Cond.selects RX8 yX8_mostBedsInOneRoom yX8_mostBedsInOneRoom ∈ zq_W := zq_inW (List.mem_append_left _ (List.mem_of_getElem? (i := 16) rfl)) rfl
theorem zw_17 : Cond.selects RX8 yX8_weighOdds yX8_weighOdds ∈ zq_W := zq_inW (List.mem_append_left _ (List.mem_of_getElem? (i := 17) rfl)) rfl
theorem zw_18 : Cond.selects RX8 yX8_weightOf yX8_weightOf ∈ zq_W := zq_inW (List.mem_append_left _ (List.mem_of_getElem? (i := 18) rfl)) rfl
theorem zw_19 : Cond.selects RX8 yX8_addOdds yX8_addOdds ∈ zq_W := zq_inW (List.mem_append_left _ (List.mem_of_getElem? (i := 19) rfl)) rfl
theorem zw_20 : Cond.selects RX8 yX8_refusalOfItem yX8_refusalOfItem ∈ zq_W := zq_inW (List.mem_append_left _ (List.mem_of_getElem? (i := 20) rfl)) rfl
theorem zw_21 : Cond.selects RX8 yX8_emptyHoursOfAll yX8_emptyHoursOfAll ∈ zq_W := zq_inW (List.mem_append_left _ (List.mem_of_getElem? (i := 21) rfl)) rfl
theorem zw_22 : Cond.selects RX8 yX8_mixStays yX8_mixStays ∈ zq_W := zq_inW (List.mem_append_left _ (List.mem_of_getElem? (i := 22) rfl)) rfl
theorem zw_23 : Cond.selects RX8 yX8_mixGuesses yX8_mixGuesses ∈ zq_W := zq_inW (List.mem_append_left _ (List.mem_of_getElem? (i := 23) rfl)) rfl
theorem zw_24 : Cond.selects RX9 yX9_faultOf yX9_faultOf ∈ zq_W := zq_inW (List.mem_append_left _ (List.mem_of_getElem? (i := 24) rfl)) rfl
theorem zw_25 : Cond.selects RX9 yX9_readsParts yX9_readsParts ∈ zq_W := zq_inW (List.mem_append_left _ (List.mem_of_getElem? (i := 25) rfl)) rfl
theorem zw_26 : Cond.selects RX9 yX9_readsDoor yX9_readsDoor ∈ zq_W := zq_inW (List.mem_append_left _ (List.mem_of_getElem? (i := 26) rfl)) rfl
theorem zw_27 : Cond.selects RX9 yX9_byteAt yX9_byteAt ∈ zq_W := zq_inW (List.mem_append_left _ (List.mem_of_getElem? (i := 27) rfl)) rfl
theorem zw_28 : Cond.selects RX9 yX9_readsPerson yX9_readsPerson ∈ zq_W := zq_inW (List.mem_append_left _ (List.mem_of_getElem? (i := 28) rfl)) rfl
theorem zw_29 : Cond.selects RX9 yX9_isDoor yX9_isDoor ∈ zq_W := zq_inW (List.mem_append_left _ (List.mem_of_getElem? (i := 29) rfl)) rfl
theorem zw_30 : Cond.selects RX9 yX9_reads yX9_reads ∈ zq_W := zq_inW (List.mem_append_left _ (List.mem_of_getElem? (i := 30) rfl)) rfl
theorem zw_31 : Cond.selects RX9 yX9_doorOf yX9_doorOf ∈ zq_W := zq_inW (List.mem_append_left _ (List.mem_of_getElem? (i := 31) rfl)) rfl
theorem zw_32 : Cond.selects RX9 yX9_isPerson yX9_isPerson ∈ zq_W := zq_inW (List.mem_append_left _ (List.mem_of_getElem? (i := 32) rfl)) rfl
theorem zw_33 : Cond.selects RX9 yX9_personOf yX9_personOf ∈ zq_W := zq_inW (List.mem_append_left _ (List.mem_of_getElem? (i := 33) rfl)) rfl
theorem zw_34 : Cond.selects RX9 yX9_meets yX9_meets ∈ zq_W := zq_inW (List.mem_append_left _ (List.mem_of_getElem? (i := 34) rfl)) rfl
theorem zw_35 : Cond.selects RX9 yX9_atOf yX9_atOf ∈ zq_W := zq_inW (List.mem_append_left _ (List.mem_of_getElem? (i := 35) rfl)) rfl
theorem zw_36 : Cond.selects RX9 yX9_runsTold yX9_runsTold ∈ zq_W := zq_inW (List.mem_append_left _ (List.mem_of_getElem? (i := 36) rfl)) rfl
theorem zw_37 : Cond.selects RX9 yX9_asTold yX9_asTold ∈ zq_W := zq_inW (List.mem_append_left _ (List.mem_of_getElem? (i := 37) rfl)) rfl
theorem zw_38 : Cond.selects RX9 yX9_runs yX9_runs ∈ zq_W := zq_inW (List.mem_append_left _ (List.mem_of_getElem? (i := 38) rfl)) rfl
theorem zw_39 : Cond.selects RX9 yX9_befalls yX9_befalls ∈ zq_W := zq_inW (List.mem_append_left _ (List.mem_of_getElem? (i := 39) rfl)) rfl
theorem zw_40 : Cond.selects RX9 yX9_measures yX9_measures ∈ zq_W := zq_inW (List.mem_append_left _ (List.mem_of_getElem? (i := 40) rfl)) rfl
theorem zw_41 : Cond.selects RX9 yX9_nears yX9_nears ∈ zq_W := zq_inW (List.mem_append_left _ (List.mem_of_getElem? (i := 41) rfl)) rfl
theorem zw_42 : Cond.selects RX9 yX9_leastChild yX9_leastChild ∈ zq_W := zq_inW (List.mem_append_left _ (List.mem_of_getElem? (i := 42) rfl)) rfl
theorem zw_43 : Cond.selects RX9 yX9_goesThrough yX9_goesThrough ∈ zq_W := zq_inW (List.mem_append_left _ (List.mem_of_getElem? (i := 43) rfl)) rfl
theorem zw_44 : Cond.selects RX9 yX9_step yX9_step ∈ zq_W := zq_inW (List.mem_append_left _ (List.mem_of_getElem? (i := 44) rfl)) rfl
theorem zw_45 : Cond.selects RX9 yX9_isBeside yX9_isBeside ∈ zq_W := zq_inW (List.mem_append_left _ (List.mem_of_getElem? (i := 45) rfl)) rfl
theorem zw_46 : Cond.selects RX9 yX9_roomOf yX9_roomOf ∈ zq_W := zq_inW (List.mem_append_left _ (List.mem_of_getElem? (i := 46) rfl)) rfl
theorem zw_47 : Cond.selects RX9 yX9_inRoom yX9_inRoom ∈ zq_W := zq_inW (List.mem_append_left _ (List.mem_of_getElem? (i := 47) rfl)) rfl
theorem zw_48 : Cond.selects RX9 yX9_farOf yX9_farOf ∈ zq_W := zq_inW (List.mem_append_left _ (List.mem_of_getElem? (i := 48) rfl)) rfl
theorem zw_49 : Cond.selects RX9 yX9_metOf yX9_metOf ∈ zq_W := zq_inW (List.mem_append_left _ (List.mem_of_getElem? (i := 49) rfl)) rfl
theorem zw_50 : Cond.selects RX9 yX9_emptyOf yX9_emptyOf ∈ zq_W := zq_inW (List.mem_append_left _ (List.mem_of_getElem? (i := 50) rfl)) rfl
theorem zw_51 : Cond.selects RX9 yX9_emptyNow yX9_emptyNow ∈ zq_W := zq_inW (List.mem_append_left _ (List.mem_of_getElem? (i := 51) rfl)) rfl
theorem zw_52 : Cond.selects RX9 yX9_foundOf yX9_foundOf ∈ zq_W := zq_inW (List.mem_append_left _ (List.mem_of_getElem? (i := 52) rfl)) rfl
theorem zw_53 : Cond.selects RX9 yX9_foundNow yX9_foundNow ∈ zq_W := zq_inW (List.mem_append_left _ (List.mem_of_getElem? (i := 53) rfl)) rfl
theorem zw_54 : Cond.selects RX9 yX9_crowdOf yX9_crowdOf ∈ zq_W := zq_inW (List.mem_append_left _ (List.mem_of_getElem? (i := 54) rfl)) rfl
theorem zw_55 : Cond.selects RX9 yX9_many yX9_many ∈ zq_W := zq_inW (List.mem_append_left _ (List.mem_of_getElem? (i := 55) rfl)) rfl
theorem zw_56 : Cond.selects RX9 yX9_aloneOf yX9_aloneOf ∈ zq_W := zq_inW (List.mem_append_left _ (List.mem_of_getElem? (i := 56) rfl)) rfl
theorem zw_57 : Cond.selects RX9 yX9_aloneNow yX9_aloneNow ∈ zq_W := zq_inW (List.mem_append_left _ (List.mem_of_getElem? (i := 57) rfl)) rfl
theorem zw_58 : Cond.selects RX9 yX9_isByItself yX9_isByItself ∈ zq_W := zq_inW (List.mem_append_left _ (List.mem_of_getElem? (i := 58) rfl)) rfl
theorem zw_59 : Cond.selects RX9 yX9_sleepOf yX9_sleepOf ∈ zq_W := zq_inW (List.mem_append_left _ (List.mem_of_getElem? (i := 59) rfl)) rfl
theorem zw_60 : Cond.selects RX9 yX9_hoursByItself yX9_hoursByItself ∈ zq_W := zq_inW (List.mem_append_left _ (List.mem_of_getElem? (i := 60) rfl)) rfl
theorem zw_61 : Cond.selects RX9 yX9_niceOf yX9_niceOf ∈ zq_W := zq_inW (List.mem_append_left _ (List.mem_of_getElem? (i := 61) rfl)) rfl
theorem zw_62 : Cond.selects RX9 yX9_mostAt yX9_mostAt ∈ zq_W := zq_inW (List.mem_append_left _ (List.mem_of_getElem? (i := 62) rfl)) rfl
theorem zw_63 : Cond.selects RX9 yX9_lensOf yX9_lensOf ∈ zq_W := zq_inW (List.mem_append_left _ (List.mem_of_getElem? (i := 63) rfl)) rfl
theorem zw_64 : Cond.selects RX9 yX9_spareBy yX9_spareBy ∈ zq_W := zq_inW (List.mem_append_left _ (List.mem_of_getElem? (i := 64) rfl)) rfl
theorem zw_65 : Cond.selects RX9 yX9_isSpared yX9_isSpared ∈ zq_W := zq_inW (List.mem_append_left _ (List.mem_of_getElem? (i := 65) rfl)) rfl
theorem zw_66 : Cond.selects RX9 yX9_ofRow yX9_ofRow ∈ zq_W := zq_inW (List.mem_append_left _ (List.mem_of_getElem? (i := 66) rfl)) rfl
theorem zw_67 : Cond.selects RX9 yX9_neverNow yX9_neverNow ∈ zq_W := zq_inW (List.mem_append_left _ (List.mem_of_getElem? (i := 67) rfl)) rfl
theorem zw_68 : Cond.selects RX9 yX9_isSeen yX9_isSeen ∈ zq_W := zq_inW (List.mem_append_left _ (List.mem_of_getElem? (i := 68) rfl)) rfl
theorem zw_69 : Cond.selects RX9 yX9_sortsBy yX9_sortsBy ∈ zq_W := zq_inW (List.mem_append_left _ (List.mem_of_getElem? (i := 69) rfl)) rfl
theorem zw_70 : Cond.selects RX9 yX9_bedsBy yX9_bedsBy ∈ zq_W := zq_inW (List.mem_append_left _ (List.mem_of_getElem? (i := 70) rfl)) rfl
theorem zw_71 : Cond.selects RX9 yX9_askOf yX9_askOf ∈ zq_W := zq_inW (List.mem_append_left _ (List.mem_of_getElem? (i := 71) rfl)) rfl
theorem zw_72 : Cond.selects RX9 yX9_chanceOf yX9_chanceOf ∈ zq_W := zq_inW (List.mem_append_left _ (List.mem_of_getElem? (i := 72) rfl)) rfl
theorem zw_73 : Cond.selects RX9 yX9_weeksOf yX9_weeksOf ∈ zq_W := zq_inW (List.mem_append_left _ (List.mem_of_getElem? (i := 73) rfl)) rfl
theorem zw_74 : Cond.selects RX9 yX9_lacks yX9_lacks ∈ zq_W := zq_inW (List.mem_append_left _ (List.mem_of_getElem? (i := 74) rfl)) rfl
theorem zw_75 : Cond.selects RX9 yX9_keep yX9_keep ∈ zq_W := zq_inW (List.mem_append_left _ (List.mem_of_getElem? (i := 75) rfl)) rfl
theorem zw_76 : Cond.selects RX9 yX9_sumOf yX9_sumOf ∈ zq_W := zq_inW (List.mem_append_left _ (List.mem_of_getElem? (i := 76) rfl)) rfl
theorem zw_77 : Cond.selects RX9 yX9_personDigest yX9_personDigest ∈ zq_W := zq_inW (List.mem_append_left _ (List.mem_of_getElem? (i := 77) rfl)) rfl
theorem zw_78 : Cond.selects RX9 yX9_hourDigest yX9_hourDigest ∈ zq_W := zq_inW (List.mem_append_left _ (List.mem_of_getElem? (i := 78) rfl)) rfl
theorem zw_80 : Cond.initialized RX8 ∈ zq_W := zq_inW (zq_t1 (List.mem_of_getElem? (i := 1) rfl)) rfl
theorem zw_81 : Cond.initialized RX6 ∈ zq_W := zq_inW (zq_t1 (List.mem_of_getElem? (i := 2) rfl)) rfl
theorem zw_82 : Cond.initialized RX0 ∈ zq_W := zq_inW (zq_t1 (List.mem_of_getElem? (i := 3) rfl)) rfl
theorem zw_83 : Cond.initialized RJ9 ∈ zq_W := zq_inW (zq_t1 (List.mem_of_getElem? (i := 4) rfl)) rfl
theorem zw_84 : Cond.initialized RX3 ∈ zq_W := zq_inW (zq_t1 (List.mem_of_getElem? (i := 5) rfl)) rfl
theorem zw_85 : Cond.initialized RX1 ∈ zq_W := zq_inW (zq_t1 (List.mem_of_getElem? (i := 6) rfl)) rfl
theorem zw_86 : Cond.initialized RX2 ∈ zq_W := zq_inW (zq_t1 (List.mem_of_getElem? (i := 7) rfl)) rfl
theorem zw_87 : Cond.initialized RX5 ∈ zq_W := zq_inW (zq_t1 (List.mem_of_getElem? (i := 8) rfl)) rfl
theorem zw_88 : Cond.initialized RX4 ∈ zq_W := zq_inW (zq_t1 (List.mem_of_getElem? (i := 9) rfl)) rfl
theorem zw_89 : Cond.initialized RX7 ∈ zq_W := zq_inW (zq_t1 (List.mem_of_getElem? (i := 10) rfl)) rfl
theorem zw_90 : Cond.initialized RJ7 ∈ zq_W := zq_inW (zq_t1 (List.mem_of_getElem? (i := 11) rfl)) rfl
theorem zw_91 : Cond.initialized RX9 ∈ zq_W := zq_inW (zq_t1 (List.mem_of_getElem? (i := 12) rfl)) rfl
theorem zw_92 : Cond.initialized RJ6 ∈ zq_W := zq_inW (zq_t1 (List.mem_of_getElem? (i := 13) rfl)) rfl
theorem zw_93 : Cond.initialized RJ10 ∈ zq_W := zq_inW (zq_t1 (List.mem_of_getElem? (i := 14) rfl)) rfl
theorem zw_112 : Cond.static yJ9_min_7cf53 ∈ zq_W := zq_inW (zq_t1 (List.mem_of_getElem? (i := 33) rfl)) rfl
theorem zw_113 : Cond.code yJ9_min_7cf53 prog_13_method_69_code 2 (some .int) ∈ zq_W := zq_inW (zq_t1 (List.mem_of_getElem? (i := 34) rfl)) rfl
theorem zw_115 : Cond.static yJ9_max_7cf53 ∈ zq_W := zq_inW (zq_t1 (List.mem_of_getElem? (i := 36) rfl)) rfl
theorem zw_116 : Cond.code yJ9_max_7cf53 prog_13_method_65_code 2 (some .int) ∈ zq_W := zq_inW (zq_t1 (List.mem_of_getElem? (i := 37) rfl)) rfl
theorem zw_117 : Cond.fieldLink RX0 11 "DollsAhead$Doors" "ones" "[I" ∈ zq_W := zq_inW (zq_t1 (List.mem_of_getElem? (i := 38) rfl)) rfl
theorem zw_118 : Cond.fieldLink RX8 127 "DollsAhead$Doors" "ones" "[I" ∈ zq_W := zq_inW (zq_t1 (List.mem_of_getElem? (i := 39) rfl)) rfl
theorem zw_119 : Cond.fieldLink RX0 15 "DollsAhead$Doors" "others" "[I" ∈ zq_W := zq_inW (zq_t1 (List.mem_of_getElem? (i := 40) rfl)) rfl
theorem zw_120 : Cond.fieldLink RX8 130 "DollsAhead$Doors" "others" "[I" ∈ zq_W := zq_inW (zq_t1 (List.mem_of_getElem? (i := 41) rfl)) rfl
theorem zw_121 : Cond.fieldLink RX0 18 "DollsAhead$Doors" "beside" "[I" ∈ zq_W := zq_inW (zq_t1 (List.mem_of_getElem? (i := 42) rfl)) rfl
theorem zw_122 : Cond.fieldLink RX6 9 "DollsAhead$Text" "bytes" "[I" ∈ zq_W := zq_inW (zq_t1 (List.mem_of_getElem? (i := 43) rfl)) rfl
theorem zw_123 : Cond.fieldLink RX0 25 "DollsAhead$Doors" "bytes" "[I" ∈ zq_W := zq_inW (zq_t1 (List.mem_of_getElem? (i := 44) rfl)) rfl
theorem zw_124 : Cond.sameField "DollsAhead$Doors" "DollsAhead$Text" "bytes" "[I" ∈ zq_W := zq_inW (zq_t1 (List.mem_of_getElem? (i := 45) rfl)) rfl
theorem zw_125 : Cond.fieldLink RX3 36 "DollsAhead$People" "bytes" "[I" ∈ zq_W := zq_inW (zq_t1 (List.mem_of_getElem? (i := 46) rfl)) rfl
theorem zw_126 : Cond.sameField "DollsAhead$People" "DollsAhead$Text" "bytes" "[I" ∈ zq_W := zq_inW (zq_t1 (List.mem_of_getElem? (i := 47) rfl)) rfl
theorem zw_127 : Cond.fieldLink RX6 21 "DollsAhead$Text" "limit" "I" ∈ zq_W := zq_inW (zq_t1 (List.mem_of_getElem? (i := 48) rfl)) rfl
theorem zw_128 : Cond.fieldLink RX6 28 "DollsAhead$Text" "part" "I" ∈ zq_W := zq_inW (zq_t1 (List.mem_of_getElem? (i := 49) rfl)) rfl
theorem zw_129 : Cond.fieldLink RX6 31 "DollsAhead$Text" "size" "I" ∈ zq_W := zq_inW (zq_t1 (List.mem_of_getElem? (i := 50) rfl)) rfl
theorem zw_130 : Cond.fieldLink RX8 115 "DollsAhead$Text" "size" "I" ∈ zq_W := zq_inW (zq_t1 (List.mem_of_getElem? (i := 51) rfl)) rfl
theorem zw_131 : Cond.fieldLink RX8 301 "DollsAhead$Doors" "size" "I" ∈ zq_W := zq_inW (zq_t1 (List.mem_of_getElem? (i := 52) rfl)) rfl
theorem zw_132 : Cond.sameField "DollsAhead$Doors" "DollsAhead$Text" "size" "I" ∈ zq_W := zq_inW (zq_t1 (List.mem_of_getElem? (i := 53) rfl)) rfl
theorem zw_133 : Cond.fieldLink RX8 302 "DollsAhead$People" "size" "I" ∈ zq_W := zq_inW (zq_t1 (List.mem_of_getElem? (i := 54) rfl)) rfl
theorem zw_134 : Cond.sameField "DollsAhead$People" "DollsAhead$Text" "size" "I" ∈ zq_W := zq_inW (zq_t1 (List.mem_of_getElem? (i := 55) rfl)) rfl
theorem zw_135 : Cond.fieldLink RX6 34 "DollsAhead$Text" "faultPlace" "I" ∈ zq_W := zq_inW (zq_t1 (List.mem_of_getElem? (i := 56) rfl)) rfl
theorem zw_136 : Cond.fieldLink RX8 121 "DollsAhead$Text" "faultPlace" "I" ∈ zq_W := zq_inW (zq_t1 (List.mem_of_getElem? (i := 57) rfl)) rfl
theorem zw_137 : Cond.fieldLink RX6 37 "DollsAhead$Text" "many" "I" ∈ zq_W := zq_inW (zq_t1 (List.mem_of_getElem? (i := 58) rfl)) rfl
theorem zw_138 : Cond.fieldLink RX0 28 "DollsAhead$Doors" "many" "I" ∈ zq_W := zq_inW (zq_t1 (List.mem_of_getElem? (i := 59) rfl)) rfl
theorem zw_139 : Cond.sameField "DollsAhead$Doors" "DollsAhead$Text" "many" "I" ∈ zq_W := zq_inW (zq_t1 (List.mem_of_getElem? (i := 60) rfl)) rfl
theorem zw_140 : Cond.fieldLink RX3 29 "DollsAhead$People" "many" "I" ∈ zq_W := zq_inW (zq_t1 (List.mem_of_getElem? (i := 61) rfl)) rfl
theorem zw_141 : Cond.sameField "DollsAhead$People" "DollsAhead$Text" "many" "I" ∈ zq_W := zq_inW (zq_t1 (List.mem_of_getElem? (i := 62) rfl)) rfl
theorem zw_142 : Cond.fieldLink RX5 31 "DollsAhead$People" "many" "I" ∈ zq_W := zq_inW (zq_t1 (List.mem_of_getElem? (i := 63) rfl)) rfl
theorem zw_143 : Cond.fieldLink RX7 70 "DollsAhead$People" "many" "I" ∈ zq_W := zq_inW (zq_t1 (List.mem_of_getElem? (i := 64) rfl)) rfl
theorem zw_144 : Cond.fieldLink RX8 124 "DollsAhead$Doors" "many" "I" ∈ zq_W := zq_inW (zq_t1 (List.mem_of_getElem? (i := 65) rfl)) rfl
theorem zw_145 : Cond.fieldLink RX8 300 "DollsAhead$People" "many" "I" ∈ zq_W := zq_inW (zq_t1 (List.mem_of_getElem? (i := 66) rfl)) rfl
theorem zw_172 : Cond.fieldLink RX3 11 "DollsAhead$People" "sorts" "[I" ∈ zq_W := zq_inW (zq_t1 (List.mem_of_getElem? (i := 93) rfl)) rfl
theorem zw_173 : Cond.fieldLink RX8 137 "DollsAhead$People" "sorts" "[I" ∈ zq_W := zq_inW (zq_t1 (List.mem_of_getElem? (i := 94) rfl)) rfl
theorem zw_174 : Cond.fieldLink RX7 122 "DollsAhead$People" "sorts" "[I" ∈ zq_W := zq_inW (zq_t1 (List.mem_of_getElem? (i := 95) rfl)) rfl
theorem zw_175 : Cond.fieldLink RX3 15 "DollsAhead$People" "starts" "[I" ∈ zq_W := zq_inW (zq_t1 (List.mem_of_getElem? (i := 96) rfl)) rfl
theorem zw_176 : Cond.fieldLink RX7 110 "DollsAhead$People" "starts" "[I" ∈ zq_W := zq_inW (zq_t1 (List.mem_of_getElem? (i := 97) rfl)) rfl
theorem zw_177 : Cond.fieldLink RX8 140 "DollsAhead$People" "starts" "[I" ∈ zq_W := zq_inW (zq_t1 (List.mem_of_getElem? (i := 98) rfl)) rfl
theorem zw_178 : Cond.fieldLink RX3 18 "DollsAhead$People" "beds" "[I" ∈ zq_W := zq_inW (zq_t1 (List.mem_of_getElem? (i := 99) rfl)) rfl
theorem zw_179 : Cond.fieldLink RX8 143 "DollsAhead$People" "beds" "[I" ∈ zq_W := zq_inW (zq_t1 (List.mem_of_getElem? (i := 100) rfl)) rfl
theorem zw_180 : Cond.fieldLink RX7 125 "DollsAhead$People" "beds" "[I" ∈ zq_W := zq_inW (zq_t1 (List.mem_of_getElem? (i := 101) rfl)) rfl
theorem zw_200 : Cond.fieldLink RX1 11 "DollsAhead$Events" "kinds" "[I" ∈ zq_W := zq_inW (zq_t1 (List.mem_of_getElem? (i := 121) rfl)) rfl
theorem zw_201 : Cond.fieldLink RX7 91 "DollsAhead$Events" "kinds" "[I" ∈ zq_W := zq_inW (zq_t1 (List.mem_of_getElem? (i := 122) rfl)) rfl
theorem zw_202 : Cond.fieldLink RX1 15 "DollsAhead$Events" "hours" "[I" ∈ zq_W := zq_inW (zq_t1 (List.mem_of_getElem? (i := 123) rfl)) rfl
theorem zw_203 : Cond.fieldLink RX7 88 "DollsAhead$Events" "hours" "[I" ∈ zq_W := zq_inW (zq_t1 (List.mem_of_getElem? (i := 124) rfl)) rfl
theorem zw_204 : Cond.fieldLink RX1 18 "DollsAhead$Events" "numbers" "[I" ∈ zq_W := zq_inW (zq_t1 (List.mem_of_getElem? (i := 125) rfl)) rfl
theorem zw_205 : Cond.fieldLink RX7 94 "DollsAhead$Events" "numbers" "[I" ∈ zq_W := zq_inW (zq_t1 (List.mem_of_getElem? (i := 126) rfl)) rfl
theorem zw_206 : Cond.fieldLink RX1 21 "DollsAhead$Events" "size" "I" ∈ zq_W := zq_inW (zq_t1 (List.mem_of_getElem? (i := 127) rfl)) rfl
theorem zw_207 : Cond.fieldLink RX7 83 "DollsAhead$Events" "size" "I" ∈ zq_W := zq_inW (zq_t1 (List.mem_of_getElem? (i := 128) rfl)) rfl
theorem zw_208 : Cond.fieldLink RX8 152 "DollsAhead$Events" "size" "I" ∈ zq_W := zq_inW (zq_t1 (List.mem_of_getElem? (i := 129) rfl)) rfl
theorem zw_224 : Cond.fieldLink RX2 8 "DollsAhead$Lots" "seed" "I" ∈ zq_W := zq_inW (zq_t1 (List.mem_of_getElem? (i := 145) rfl)) rfl
theorem zw_225 : Cond.fieldLink RX8 264 "DollsAhead$Lots" "seed" "I" ∈ zq_W := zq_inW (zq_t1 (List.mem_of_getElem? (i := 146) rfl)) rfl
theorem zw_235 : Cond.fieldLink RX5 9 "DollsAhead$Sights" "hours" "[I" ∈ zq_W := zq_inW (zq_t1 (List.mem_of_getElem? (i := 156) rfl)) rfl
theorem zw_236 : Cond.fieldLink RX5 15 "DollsAhead$Sights" "persons" "[I" ∈ zq_W := zq_inW (zq_t1 (List.mem_of_getElem? (i := 157) rfl)) rfl
theorem zw_237 : Cond.fieldLink RX5 18 "DollsAhead$Sights" "rooms" "[I" ∈ zq_W := zq_inW (zq_t1 (List.mem_of_getElem? (i := 158) rfl)) rfl
theorem zw_238 : Cond.fieldLink RX5 21 "DollsAhead$Sights" "size" "I" ∈ zq_W := zq_inW (zq_t1 (List.mem_of_getElem? (i := 159) rfl)) rfl
theorem zw_239 : Cond.fieldLink RX8 241 "DollsAhead$Sights" "size" "I" ∈ zq_W := zq_inW (zq_t1 (List.mem_of_getElem? (i := 160) rfl)) rfl
theorem zw_256 : Cond.fieldLink RX4 9 "DollsAhead$Sheet" "items" "[I" ∈ zq_W := zq_inW (zq_t1 (List.mem_of_getElem? (i := 177) rfl)) rfl
theorem zw_257 : Cond.fieldLink RX8 167 "DollsAhead$Sheet" "items" "[I" ∈ zq_W := zq_inW (zq_t1 (List.mem_of_getElem? (i := 178) rfl)) rfl
theorem zw_258 : Cond.fieldLink RX4 15 "DollsAhead$Sheet" "form" "I" ∈ zq_W := zq_inW (zq_t1 (List.mem_of_getElem? (i := 179) rfl)) rfl
theorem zw_259 : Cond.fieldLink RX8 282 "DollsAhead$Sheet" "form" "I" ∈ zq_W := zq_inW (zq_t1 (List.mem_of_getElem? (i := 180) rfl)) rfl
theorem zw_260 : Cond.fieldLink RX4 19 "DollsAhead$Sheet" "size" "I" ∈ zq_W := zq_inW (zq_t1 (List.mem_of_getElem? (i := 181) rfl)) rfl
theorem zw_261 : Cond.fieldLink RX8 166 "DollsAhead$Sheet" "size" "I" ∈ zq_W := zq_inW (zq_t1 (List.mem_of_getElem? (i := 182) rfl)) rfl
theorem zw_275 : Cond.methodLink RX7 52 yJ7_fill_53178 ∈ zq_W := zq_inW (zq_t1 (List.mem_of_getElem? (i := 196) rfl)) rfl
theorem zw_276 : Cond.static yJ7_fill_53178 ∈ zq_W := zq_inW (zq_t1 (List.mem_of_getElem? (i := 197) rfl)) rfl
theorem zw_277 : Cond.code yJ7_fill_53178 prog_15_method_103_code 4 none ∈ zq_W := zq_inW (zq_t1 (List.mem_of_getElem? (i := 198) rfl)) rfl
theorem zw_278 : Cond.fieldLink RX7 30 "DollsAhead$Week" "doors" "LDollsAhead$Doors;" ∈ zq_W := zq_inW (zq_t1 (List.mem_of_getElem? (i := 199) rfl)) rfl
theorem zw_279 : Cond.fieldLink RX7 34 "DollsAhead$Week" "people" "LDollsAhead$People;" ∈ zq_W := zq_inW (zq_t1 (List.mem_of_getElem? (i := 200) rfl)) rfl
theorem zw_280 : Cond.fieldLink RX5 25 "DollsAhead$Week" "people" "LDollsAhead$People;" ∈ zq_W := zq_inW (zq_t1 (List.mem_of_getElem? (i := 201) rfl)) rfl
theorem zw_281 : Cond.fieldLink RX7 9 "DollsAhead$Week" "where" "[I" ∈ zq_W := zq_inW (zq_t1 (List.mem_of_getElem? (i := 202) rfl)) rfl
theorem zw_282 : Cond.fieldLink RX7 15 "DollsAhead$Week" "hams" "[I" ∈ zq_W := zq_inW (zq_t1 (List.mem_of_getElem? (i := 203) rfl)) rfl
theorem zw_283 : Cond.fieldLink RX7 18 "DollsAhead$Week" "shuts" "[I" ∈ zq_W := zq_inW (zq_t1 (List.mem_of_getElem? (i := 204) rfl)) rfl
theorem zw_284 : Cond.fieldLink RX7 21 "DollsAhead$Week" "tables" "[I" ∈ zq_W := zq_inW (zq_t1 (List.mem_of_getElem? (i := 205) rfl)) rfl
theorem zw_285 : Cond.fieldLink RX7 24 "DollsAhead$Week" "steps" "[I" ∈ zq_W := zq_inW (zq_t1 (List.mem_of_getElem? (i := 206) rfl)) rfl
theorem zw_286 : Cond.fieldLink RX7 27 "DollsAhead$Week" "shutInSpan" "[I" ∈ zq_W := zq_inW (zq_t1 (List.mem_of_getElem? (i := 207) rfl)) rfl
theorem zw_287 : Cond.fieldLink RX7 38 "DollsAhead$Week" "events" "LDollsAhead$Events;" ∈ zq_W := zq_inW (zq_t1 (List.mem_of_getElem? (i := 208) rfl)) rfl
theorem zw_288 : Cond.fieldLink RX7 58 "DollsAhead$Week" "without" "I" ∈ zq_W := zq_inW (zq_t1 (List.mem_of_getElem? (i := 209) rfl)) rfl
theorem zw_289 : Cond.fieldLink RX7 61 "DollsAhead$Week" "lead" "I" ∈ zq_W := zq_inW (zq_t1 (List.mem_of_getElem? (i := 210) rfl)) rfl
theorem zw_290 : Cond.fieldLink RX7 42 "DollsAhead$Week" "who" "I" ∈ zq_W := zq_inW (zq_t1 (List.mem_of_getElem? (i := 211) rfl)) rfl
theorem zw_291 : Cond.fieldLink RX7 46 "DollsAhead$Week" "sortOfWho" "I" ∈ zq_W := zq_inW (zq_t1 (List.mem_of_getElem? (i := 212) rfl)) rfl
theorem zw_292 : Cond.fieldLink RX7 49 "DollsAhead$Week" "bedOfWho" "I" ∈ zq_W := zq_inW (zq_t1 (List.mem_of_getElem? (i := 213) rfl)) rfl
theorem zw_322 : Cond.fieldLink RX8 10 "DollsAhead" "doors" "LDollsAhead$Doors;" ∈ zq_W := zq_inW (zq_t2 (List.mem_of_getElem? (i := 3) rfl)) rfl
theorem zw_323 : Cond.fieldLink RX8 19 "DollsAhead" "people" "LDollsAhead$People;" ∈ zq_W := zq_inW (zq_t2 (List.mem_of_getElem? (i := 4) rfl)) rfl
theorem zw_324 : Cond.fieldLink RX8 26 "DollsAhead" "told" "LDollsAhead$Events;" ∈ zq_W := zq_inW (zq_t2 (List.mem_of_getElem? (i := 5) rfl)) rfl
theorem zw_325 : Cond.fieldLink RX8 30 "DollsAhead" "supposed" "LDollsAhead$Events;" ∈ zq_W := zq_inW (zq_t2 (List.mem_of_getElem? (i := 6) rfl)) rfl
theorem zw_326 : Cond.fieldLink RX8 36 "DollsAhead" "lots" "LDollsAhead$Lots;" ∈ zq_W := zq_inW (zq_t2 (List.mem_of_getElem? (i := 7) rfl)) rfl
theorem zw_327 : Cond.fieldLink RX8 43 "DollsAhead" "sights" "LDollsAhead$Sights;" ∈ zq_W := zq_inW (zq_t2 (List.mem_of_getElem? (i := 8) rfl)) rfl
theorem zw_328 : Cond.fieldLink RX8 49 "DollsAhead" "sheets" "[LDollsAhead$Sheet;" ∈ zq_W := zq_inW (zq_t2 (List.mem_of_getElem? (i := 9) rfl)) rfl
theorem zw_329 : Cond.fieldLink RX8 59 "DollsAhead" "now" "LDollsAhead$Week;" ∈ zq_W := zq_inW (zq_t2 (List.mem_of_getElem? (i := 10) rfl)) rfl
theorem zw_330 : Cond.fieldLink RX8 63 "DollsAhead" "trial" "LDollsAhead$Week;" ∈ zq_W := zq_inW (zq_t2 (List.mem_of_getElem? (i := 11) rfl)) rfl
theorem zw_331 : Cond.fieldLink RX8 66 "DollsAhead" "paths" "[I" ∈ zq_W := zq_inW (zq_t2 (List.mem_of_getElem? (i := 12) rfl)) rfl
theorem zw_332 : Cond.fieldLink RX8 70 "DollsAhead" "crowds" "[I" ∈ zq_W := zq_inW (zq_t2 (List.mem_of_getElem? (i := 13) rfl)) rfl
theorem zw_333 : Cond.fieldLink RX8 73 "DollsAhead" "odds" "[J" ∈ zq_W := zq_inW (zq_t2 (List.mem_of_getElem? (i := 14) rfl)) rfl
theorem zw_334 : Cond.fieldLink RX8 77 "DollsAhead" "lead" "I" ∈ zq_W := zq_inW (zq_t2 (List.mem_of_getElem? (i := 15) rfl)) rfl
theorem zw_335 : Cond.fieldLink RX8 81 "DollsAhead" "finding" "I" ∈ zq_W := zq_inW (zq_t2 (List.mem_of_getElem? (i := 16) rfl)) rfl
theorem zw_336 : Cond.fieldLink RX8 84 "DollsAhead" "nowStands" "Z" ∈ zq_W := zq_inW (zq_t2 (List.mem_of_getElem? (i := 17) rfl)) rfl
theorem zw_337 : Cond.fieldLink RX8 88 "DollsAhead" "oddsSixteenths" "I" ∈ zq_W := zq_inW (zq_t2 (List.mem_of_getElem? (i := 18) rfl)) rfl
theorem zw_338 : Cond.fieldLink RX8 91 "DollsAhead" "oddsHour" "I" ∈ zq_W := zq_inW (zq_t2 (List.mem_of_getElem? (i := 19) rfl)) rfl
theorem zw_375 : Cond.methodLink RL 13 yX8_type ∈ zq_W := zq_inW (zq_t2 (List.mem_of_getElem? (i := 56) rfl)) rfl
theorem zw_376 : Cond.instanceMethod yX8_type ∈ zq_W := zq_inW (zq_t2 (List.mem_of_getElem? (i := 57) rfl)) rfl
theorem zw_377 : Cond.selects RX8 yX8_type yX8_type ∈ zq_W := zq_inW (zq_t2 (List.mem_of_getElem? (i := 58) rfl)) rfl
theorem zw_378 : Cond.code yX8_type prog_1_method_2_code 4 (some .int) ∈ zq_W := zq_inW (zq_t2 (List.mem_of_getElem? (i := 59) rfl)) rfl
theorem zw_379 : Cond.methodLink RX8 94 yX8_textOf ∈ zq_W := zq_inW (zq_t2 (List.mem_of_getElem? (i := 60) rfl)) rfl
theorem zw_381 : Cond.instanceMethod yX8_textOf ∈ zq_W := zq_inW (zq_t2 (List.mem_of_getElem? (i := 62) rfl)) rfl
theorem zw_382 : Cond.code yX8_textOf prog_1_method_49_code 2 (some (.object "DollsAhead$Text")) ∈ zq_W := zq_inW (zq_t2 (List.mem_of_getElem? (i := 63) rfl)) rfl
theorem zw_383 : Cond.methodLink RX8 98 yX8_within ∈ zq_W := zq_inW (zq_t2 (List.mem_of_getElem? (i := 64) rfl)) rfl
theorem zw_384 : Cond.static yX8_within ∈ zq_W := zq_inW (zq_t2 (List.mem_of_getElem? (i := 65) rfl)) rfl
theorem zw_385 : Cond.code yX8_within prog_1_method_42_code 3 (some .boolean) ∈ zq_W := zq_inW (zq_t2 (List.mem_of_getElem? (i := 66) rfl)) rfl
theorem zw_386 : Cond.methodLink RX8 102 yX6_isFull ∈ zq_W := zq_inW (zq_t2 (List.mem_of_getElem? (i := 67) rfl)) rfl
theorem zw_387 : Cond.instanceMethod yX6_isFull ∈ zq_W := zq_inW (zq_t2 (List.mem_of_getElem? (i := 68) rfl)) rfl
theorem zw_388 : Cond.sameMethod "DollsAhead$Text" "DollsAhead$Text" "isFull" "()Z" ∈ zq_W := zq_inW (zq_t2 (List.mem_of_getElem? (i := 69) rfl)) rfl
theorem zw_389 : Cond.selects RX0 yX6_isFull yX6_isFull ∈ zq_W := zq_inW (zq_t2 (List.mem_of_getElem? (i := 70) rfl)) rfl
theorem zw_390 : Cond.selects RX3 yX6_isFull yX6_isFull ∈ zq_W := zq_inW (zq_t2 (List.mem_of_getElem? (i := 71) rfl)) rfl
theorem zw_391 : Cond.code yX6_isFull prog_8_method_4_code 1 (some .boolean) ∈ zq_W := zq_inW (zq_t2 (List.mem_of_getElem? (i := 72) rfl)) rfl
theorem zw_392 : Cond.methodLink RX8 108 yX6_add ∈ zq_W := zq_inW (zq_t2 (List.mem_of_getElem? (i := 73) rfl)) rfl
theorem zw_393 : Cond.instanceMethod yX6_add ∈ zq_W := zq_inW (zq_t2 (List.mem_of_getElem? (i := 74) rfl)) rfl
theorem zw_394 : Cond.sameMethod "DollsAhead$Text" "DollsAhead$Text" "add" "(I)V" ∈ zq_W := zq_inW (zq_t2 (List.mem_of_getElem? (i := 75) rfl)) rfl
theorem zw_395 : Cond.selects RX0 yX6_add yX6_add ∈ zq_W := zq_inW (zq_t2 (List.mem_of_getElem? (i := 76) rfl)) rfl
theorem zw_396 : Cond.selects RX3 yX6_add yX6_add ∈ zq_W := zq_inW (zq_t2 (List.mem_of_getElem? (i := 77) rfl)) rfl
theorem zw_397 : Cond.code yX6_add prog_8_method_5_code 2 none ∈ zq_W := zq_inW (zq_t2 (List.mem_of_getElem? (i := 78) rfl)) rfl
theorem zw_398 : Cond.methodLink RX6 40 yX6_isFull ∈ zq_W := zq_inW (zq_t2 (List.mem_of_getElem? (i := 79) rfl)) rfl
theorem zw_399 : Cond.methodLink RX6 44 yX6_understand ∈ zq_W := zq_inW (zq_t2 (List.mem_of_getElem? (i := 80) rfl)) rfl
theorem zw_401 : Cond.instanceMethod yX6_understand ∈ zq_W := zq_inW (zq_t2 (List.mem_of_getElem? (i := 82) rfl)) rfl
theorem zw_402 : Cond.code yX6_understand prog_8_method_9_code 1 none ∈ zq_W := zq_inW (zq_t2 (List.mem_of_getElem? (i := 83) rfl)) rfl
theorem zw_403 : Cond.methodLink RX6 47 yX6_firstFault ∈ zq_W := zq_inW (zq_t2 (List.mem_of_getElem? (i := 84) rfl)) rfl
theorem zw_405 : Cond.instanceMethod yX6_firstFault ∈ zq_W := zq_inW (zq_t2 (List.mem_of_getElem? (i := 86) rfl)) rfl
theorem zw_406 : Cond.code yX6_firstFault prog_8_method_10_code 3 (some .int) ∈ zq_W := zq_inW (zq_t2 (List.mem_of_getElem? (i := 87) rfl)) rfl
theorem zw_407 : Cond.methodLink RX6 54 ⟨"DollsAhead$Text", "fits", "(II)Z"⟩ ∈ zq_W := zq_inW (zq_t2 (List.mem_of_getElem? (i := 88) rfl)) rfl
theorem zw_409 : Cond.sameMethod "DollsAhead$Text" "DollsAhead$Text" "fits" "(II)Z" ∈ zq_W := zq_inW (zq_t2 (List.mem_of_getElem? (i := 90) rfl)) rfl
theorem zw_410 : Cond.selects RX0 ⟨"DollsAhead$Text", "fits", "(II)Z"⟩ yX0_fits ∈ zq_W := zq_inW (zq_t2 (List.mem_of_getElem? (i := 91) rfl)) rfl
theorem zw_411 : Cond.instanceMethod yX0_fits ∈ zq_W := zq_inW (zq_t2 (List.mem_of_getElem? (i := 92) rfl)) rfl
theorem zw_412 : Cond.code yX0_fits prog_2_method_2_code 3 (some .boolean) ∈ zq_W := zq_inW (zq_t2 (List.mem_of_getElem? (i := 93) rfl)) rfl
theorem zw_413 : Cond.methodLink RX0 21 ⟨"DollsAhead$Doors", "isFigure", "(I)Z"⟩ ∈ zq_W := zq_inW (zq_t2 (List.mem_of_getElem? (i := 94) rfl)) rfl
theorem zw_414 : Cond.sameMethod "DollsAhead$Doors" "DollsAhead$Text" "isFigure" "(I)Z" ∈ zq_W := zq_inW (zq_t2 (List.mem_of_getElem? (i := 95) rfl)) rfl
theorem zw_416 : Cond.selects RX0 ⟨"DollsAhead$Doors", "isFigure", "(I)Z"⟩ yX6_isFigure ∈ zq_W := zq_inW (zq_t2 (List.mem_of_getElem? (i := 97) rfl)) rfl
theorem zw_417 : Cond.instanceMethod yX6_isFigure ∈ zq_W := zq_inW (zq_t2 (List.mem_of_getElem? (i := 98) rfl)) rfl
theorem zw_418 : Cond.code yX6_isFigure prog_8_method_7_code 2 (some .boolean) ∈ zq_W := zq_inW (zq_t2 (List.mem_of_getElem? (i := 99) rfl)) rfl
theorem zw_419 : Cond.selects RX3 ⟨"DollsAhead$Text", "fits", "(II)Z"⟩ yX3_fits ∈ zq_W := zq_inW (zq_t2 (List.mem_of_getElem? (i := 100) rfl)) rfl
theorem zw_420 : Cond.instanceMethod yX3_fits ∈ zq_W := zq_inW (zq_t2 (List.mem_of_getElem? (i := 101) rfl)) rfl
theorem zw_421 : Cond.code yX3_fits prog_5_method_2_code 3 (some .boolean) ∈ zq_W := zq_inW (zq_t2 (List.mem_of_getElem? (i := 102) rfl)) rfl
theorem zw_422 : Cond.methodLink RX3 21 yX3_sortAt ∈ zq_W := zq_inW (zq_t2 (List.mem_of_getElem? (i := 103) rfl)) rfl
theorem zw_424 : Cond.instanceMethod yX3_sortAt ∈ zq_W := zq_inW (zq_t2 (List.mem_of_getElem? (i := 105) rfl)) rfl
theorem zw_425 : Cond.code yX3_sortAt prog_5_method_4_code 2 (some .int) ∈ zq_W := zq_inW (zq_t2 (List.mem_of_getElem? (i := 106) rfl)) rfl
theorem zw_426 : Cond.methodLink RX3 25 ⟨"DollsAhead$People", "isFigure", "(I)Z"⟩ ∈ zq_W := zq_inW (zq_t2 (List.mem_of_getElem? (i := 107) rfl)) rfl
theorem zw_427 : Cond.sameMethod "DollsAhead$People" "DollsAhead$Text" "isFigure" "(I)Z" ∈ zq_W := zq_inW (zq_t2 (List.mem_of_getElem? (i := 108) rfl)) rfl
theorem zw_428 : Cond.selects RX3 ⟨"DollsAhead$People", "isFigure", "(I)Z"⟩ yX6_isFigure ∈ zq_W := zq_inW (zq_t2 (List.mem_of_getElem? (i := 109) rfl)) rfl
theorem zw_429 : Cond.methodLink RX6 51 ⟨"DollsAhead$Text", "readThings", "()V"⟩ ∈ zq_W := zq_inW (zq_t2 (List.mem_of_getElem? (i := 110) rfl)) rfl
theorem zw_431 : Cond.sameMethod "DollsAhead$Text" "DollsAhead$Text" "readThings" "()V" ∈ zq_W := zq_inW (zq_t2 (List.mem_of_getElem? (i := 112) rfl)) rfl
theorem zw_432 : Cond.selects RX0 ⟨"DollsAhead$Text", "readThings", "()V"⟩ yX0_readThings ∈ zq_W := zq_inW (zq_t2 (List.mem_of_getElem? (i := 113) rfl)) rfl
theorem zw_433 : Cond.instanceMethod yX0_readThings ∈ zq_W := zq_inW (zq_t2 (List.mem_of_getElem? (i := 114) rfl)) rfl
theorem zw_434 : Cond.code yX0_readThings prog_2_method_3_code 2 none ∈ zq_W := zq_inW (zq_t2 (List.mem_of_getElem? (i := 115) rfl)) rfl
theorem zw_435 : Cond.methodLink RX0 32 ⟨"DollsAhead$Doors", "figure", "(I)I"⟩ ∈ zq_W := zq_inW (zq_t2 (List.mem_of_getElem? (i := 116) rfl)) rfl
theorem zw_436 : Cond.sameMethod "DollsAhead$Doors" "DollsAhead$Text" "figure" "(I)I" ∈ zq_W := zq_inW (zq_t2 (List.mem_of_getElem? (i := 117) rfl)) rfl
theorem zw_438 : Cond.selects RX0 ⟨"DollsAhead$Doors", "figure", "(I)I"⟩ yX6_figure ∈ zq_W := zq_inW (zq_t2 (List.mem_of_getElem? (i := 119) rfl)) rfl
theorem zw_439 : Cond.instanceMethod yX6_figure ∈ zq_W := zq_inW (zq_t2 (List.mem_of_getElem? (i := 120) rfl)) rfl
theorem zw_440 : Cond.code yX6_figure prog_8_method_8_code 2 (some .int) ∈ zq_W := zq_inW (zq_t2 (List.mem_of_getElem? (i := 121) rfl)) rfl
theorem zw_441 : Cond.selects RX3 ⟨"DollsAhead$Text", "readThings", "()V"⟩ yX3_readThings ∈ zq_W := zq_inW (zq_t2 (List.mem_of_getElem? (i := 122) rfl)) rfl
theorem zw_442 : Cond.instanceMethod yX3_readThings ∈ zq_W := zq_inW (zq_t2 (List.mem_of_getElem? (i := 123) rfl)) rfl
theorem zw_443 : Cond.code yX3_readThings prog_5_method_3_code 2 none ∈ zq_W := zq_inW (zq_t2 (List.mem_of_getElem? (i := 124) rfl)) rfl
theorem zw_444 : Cond.methodLink RX3 33 ⟨"DollsAhead$People", "figure", "(I)I"⟩ ∈ zq_W := zq_inW (zq_t2 (List.mem_of_getElem? (i := 125) rfl)) rfl
theorem zw_445 : Cond.sameMethod "DollsAhead$People" "DollsAhead$Text" "figure" "(I)I" ∈ zq_W := zq_inW (zq_t2 (List.mem_of_getElem? (i := 126) rfl)) rfl
theorem zw_446 : Cond.selects RX3 ⟨"DollsAhead$People", "figure", "(I)I"⟩ yX6_figure ∈ zq_W := zq_inW (zq_t2 (List.mem_of_getElem? (i := 127) rfl)) rfl
theorem zw_447 : Cond.methodLink RX8 112 yX8_textChanged ∈ zq_W := zq_inW (zq_t2 (List.mem_of_getElem? (i := 128) rfl)) rfl
theorem zw_449 : Cond.instanceMethod yX8_textChanged ∈ zq_W := zq_inW (zq_t2 (List.mem_of_getElem? (i := 130) rfl)) rfl
theorem zw_450 : Cond.code yX8_textChanged prog_1_method_50_code 1 none ∈ zq_W := zq_inW (zq_t2 (List.mem_of_getElem? (i := 131) rfl)) rfl
theorem zw_451 : Cond.methodLink RX8 382 yX7_forgetSteps ∈ zq_W := zq_inW (zq_t2 (List.mem_of_getElem? (i := 132) rfl)) rfl
theorem zw_452 : Cond.instanceMethod yX7_forgetSteps ∈ zq_W := zq_inW (zq_t2 (List.mem_of_getElem? (i := 133) rfl)) rfl
theorem zw_453 : Cond.selects RX7 yX7_forgetSteps yX7_forgetSteps ∈ zq_W := zq_inW (zq_t2 (List.mem_of_getElem? (i := 134) rfl)) rfl
theorem zw_454 : Cond.code yX7_forgetSteps prog_9_method_2_code 1 none ∈ zq_W := zq_inW (zq_t2 (List.mem_of_getElem? (i := 135) rfl)) rfl
theorem zw_455 : Cond.methodLink RX8 146 yX8_changed ∈ zq_W := zq_inW (zq_t2 (List.mem_of_getElem? (i := 136) rfl)) rfl
theorem zw_457 : Cond.instanceMethod yX8_changed ∈ zq_W := zq_inW (zq_t2 (List.mem_of_getElem? (i := 138) rfl)) rfl
theorem zw_458 : Cond.code yX8_changed prog_1_method_51_code 1 none ∈ zq_W := zq_inW (zq_t2 (List.mem_of_getElem? (i := 139) rfl)) rfl
theorem zw_459 : Cond.methodLink RL 18 yX8_wipe ∈ zq_W := zq_inW (zq_t2 (List.mem_of_getElem? (i := 140) rfl)) rfl
theorem zw_460 : Cond.instanceMethod yX8_wipe ∈ zq_W := zq_inW (zq_t2 (List.mem_of_getElem? (i := 141) rfl)) rfl
theorem zw_461 : Cond.selects RX8 yX8_wipe yX8_wipe ∈ zq_W := zq_inW (zq_t2 (List.mem_of_getElem? (i := 142) rfl)) rfl
theorem zw_462 : Cond.code yX8_wipe prog_1_method_3_code 4 (some .int) ∈ zq_W := zq_inW (zq_t2 (List.mem_of_getElem? (i := 143) rfl)) rfl
theorem zw_463 : Cond.methodLink RX8 118 yX6_shorten ∈ zq_W := zq_inW (zq_t2 (List.mem_of_getElem? (i := 144) rfl)) rfl
theorem zw_464 : Cond.instanceMethod yX6_shorten ∈ zq_W := zq_inW (zq_t2 (List.mem_of_getElem? (i := 145) rfl)) rfl
theorem zw_465 : Cond.sameMethod "DollsAhead$Text" "DollsAhead$Text" "shorten" "(I)V" ∈ zq_W := zq_inW (zq_t2 (List.mem_of_getElem? (i := 146) rfl)) rfl
theorem zw_466 : Cond.selects RX0 yX6_shorten yX6_shorten ∈ zq_W := zq_inW (zq_t2 (List.mem_of_getElem? (i := 147) rfl)) rfl
theorem zw_467 : Cond.selects RX3 yX6_shorten yX6_shorten ∈ zq_W := zq_inW (zq_t2 (List.mem_of_getElem? (i := 148) rfl)) rfl
theorem zw_468 : Cond.code yX6_shorten prog_8_method_6_code 2 none ∈ zq_W := zq_inW (zq_t2 (List.mem_of_getElem? (i := 149) rfl)) rfl
theorem zw_469 : Cond.methodLink RL 23 yX8_undo ∈ zq_W := zq_inW (zq_t2 (List.mem_of_getElem? (i := 150) rfl)) rfl
theorem zw_470 : Cond.instanceMethod yX8_undo ∈ zq_W := zq_inW (zq_t2 (List.mem_of_getElem? (i := 151) rfl)) rfl
theorem zw_471 : Cond.selects RX8 yX8_undo yX8_undo ∈ zq_W := zq_inW (zq_t2 (List.mem_of_getElem? (i := 152) rfl)) rfl
theorem zw_472 : Cond.code yX8_undo prog_1_method_4_code 3 (some .int) ∈ zq_W := zq_inW (zq_t2 (List.mem_of_getElem? (i := 153) rfl)) rfl
theorem zw_473 : Cond.methodLink RL 27 yX8_fault ∈ zq_W := zq_inW (zq_t2 (List.mem_of_getElem? (i := 154) rfl)) rfl
theorem zw_474 : Cond.instanceMethod yX8_fault ∈ zq_W := zq_inW (zq_t2 (List.mem_of_getElem? (i := 155) rfl)) rfl
theorem zw_475 : Cond.selects RX8 yX8_fault yX8_fault ∈ zq_W := zq_inW (zq_t2 (List.mem_of_getElem? (i := 156) rfl)) rfl
theorem zw_476 : Cond.code yX8_fault prog_1_method_5_code 3 (some .int) ∈ zq_W := zq_inW (zq_t2 (List.mem_of_getElem? (i := 157) rfl)) rfl
theorem zw_477 : Cond.methodLink RL 31 yX8_door ∈ zq_W := zq_inW (zq_t2 (List.mem_of_getElem? (i := 158) rfl)) rfl
theorem zw_478 : Cond.instanceMethod yX8_door ∈ zq_W := zq_inW (zq_t2 (List.mem_of_getElem? (i := 159) rfl)) rfl
theorem zw_479 : Cond.selects RX8 yX8_door yX8_door ∈ zq_W := zq_inW (zq_t2 (List.mem_of_getElem? (i := 160) rfl)) rfl
theorem zw_480 : Cond.code yX8_door prog_1_method_6_code 3 (some .int) ∈ zq_W := zq_inW (zq_t2 (List.mem_of_getElem? (i := 161) rfl)) rfl
theorem zw_481 : Cond.methodLink RL 35 yX8_person ∈ zq_W := zq_inW (zq_t2 (List.mem_of_getElem? (i := 162) rfl)) rfl
theorem zw_482 : Cond.instanceMethod yX8_person ∈ zq_W := zq_inW (zq_t2 (List.mem_of_getElem? (i := 163) rfl)) rfl
theorem zw_483 : Cond.selects RX8 yX8_person yX8_person ∈ zq_W := zq_inW (zq_t2 (List.mem_of_getElem? (i := 164) rfl)) rfl
theorem zw_484 : Cond.code yX8_person prog_1_method_7_code 3 (some .int) ∈ zq_W := zq_inW (zq_t2 (List.mem_of_getElem? (i := 165) rfl)) rfl
theorem zw_485 : Cond.methodLink RX8 133 yX8_isPerson ∈ zq_W := zq_inW (zq_t2 (List.mem_of_getElem? (i := 166) rfl)) rfl
theorem zw_487 : Cond.instanceMethod yX8_isPerson ∈ zq_W := zq_inW (zq_t2 (List.mem_of_getElem? (i := 168) rfl)) rfl
theorem zw_488 : Cond.code yX8_isPerson prog_1_method_48_code 2 (some .boolean) ∈ zq_W := zq_inW (zq_t2 (List.mem_of_getElem? (i := 169) rfl)) rfl
theorem zw_489 : Cond.methodLink RL 39 yX8_ahead ∈ zq_W := zq_inW (zq_t2 (List.mem_of_getElem? (i := 170) rfl)) rfl
theorem zw_490 : Cond.instanceMethod yX8_ahead ∈ zq_W := zq_inW (zq_t2 (List.mem_of_getElem? (i := 171) rfl)) rfl
theorem zw_491 : Cond.selects RX8 yX8_ahead yX8_ahead ∈ zq_W := zq_inW (zq_t2 (List.mem_of_getElem? (i := 172) rfl)) rfl
theorem zw_492 : Cond.code yX8_ahead prog_1_method_8_code 3 (some .int) ∈ zq_W := zq_inW (zq_t2 (List.mem_of_getElem? (i := 173) rfl)) rfl
theorem zw_493 : Cond.methodLink RL 43 yX8_event ∈ zq_W := zq_inW (zq_t2 (List.mem_of_getElem? (i := 174) rfl)) rfl
theorem zw_494 : Cond.instanceMethod yX8_event ∈ zq_W := zq_inW (zq_t2 (List.mem_of_getElem? (i := 175) rfl)) rfl
theorem zw_495 : Cond.selects RX8 yX8_event yX8_event ∈ zq_W := zq_inW (zq_t2 (List.mem_of_getElem? (i := 176) rfl)) rfl
theorem zw_496 : Cond.code yX8_event prog_1_method_9_code 4 (some .int) ∈ zq_W := zq_inW (zq_t2 (List.mem_of_getElem? (i := 177) rfl)) rfl
theorem zw_497 : Cond.methodLink RX8 149 yX8_isEvent ∈ zq_W := zq_inW (zq_t2 (List.mem_of_getElem? (i := 178) rfl)) rfl
theorem zw_498 : Cond.static yX8_isEvent ∈ zq_W := zq_inW (zq_t2 (List.mem_of_getElem? (i := 179) rfl)) rfl
theorem zw_499 : Cond.code yX8_isEvent prog_1_method_47_code 4 (some .boolean) ∈ zq_W := zq_inW (zq_t2 (List.mem_of_getElem? (i := 180) rfl)) rfl
theorem zw_500 : Cond.methodLink RX8 174 yX8_isHour ∈ zq_W := zq_inW (zq_t2 (List.mem_of_getElem? (i := 181) rfl)) rfl
theorem zw_501 : Cond.static yX8_isHour ∈ zq_W := zq_inW (zq_t2 (List.mem_of_getElem? (i := 182) rfl)) rfl
theorem zw_502 : Cond.code yX8_isHour prog_1_method_43_code 1 (some .boolean) ∈ zq_W := zq_inW (zq_t2 (List.mem_of_getElem? (i := 183) rfl)) rfl
theorem zw_503 : Cond.methodLink RX8 153 yX1_add ∈ zq_W := zq_inW (zq_t2 (List.mem_of_getElem? (i := 184) rfl)) rfl
theorem zw_504 : Cond.instanceMethod yX1_add ∈ zq_W := zq_inW (zq_t2 (List.mem_of_getElem? (i := 185) rfl)) rfl
theorem zw_505 : Cond.selects RX1 yX1_add yX1_add ∈ zq_W := zq_inW (zq_t2 (List.mem_of_getElem? (i := 186) rfl)) rfl
theorem zw_506 : Cond.code yX1_add prog_3_method_2_code 4 none ∈ zq_W := zq_inW (zq_t2 (List.mem_of_getElem? (i := 187) rfl)) rfl
theorem zw_507 : Cond.methodLink RL 48 yX8_back ∈ zq_W := zq_inW (zq_t2 (List.mem_of_getElem? (i := 188) rfl)) rfl
theorem zw_508 : Cond.instanceMethod yX8_back ∈ zq_W := zq_inW (zq_t2 (List.mem_of_getElem? (i := 189) rfl)) rfl
theorem zw_509 : Cond.selects RX8 yX8_back yX8_back ∈ zq_W := zq_inW (zq_t2 (List.mem_of_getElem? (i := 190) rfl)) rfl
theorem zw_510 : Cond.code yX8_back prog_1_method_10_code 1 (some .int) ∈ zq_W := zq_inW (zq_t2 (List.mem_of_getElem? (i := 191) rfl)) rfl
theorem zw_511 : Cond.methodLink RL 53 yX8_read ∈ zq_W := zq_inW (zq_t2 (List.mem_of_getElem? (i := 192) rfl)) rfl
theorem zw_512 : Cond.instanceMethod yX8_read ∈ zq_W := zq_inW (zq_t2 (List.mem_of_getElem? (i := 193) rfl)) rfl
theorem zw_513 : Cond.selects RX8 yX8_read yX8_read ∈ zq_W := zq_inW (zq_t2 (List.mem_of_getElem? (i := 194) rfl)) rfl
theorem zw_514 : Cond.code yX8_read prog_1_method_11_code 5 (some .int) ∈ zq_W := zq_inW (zq_t2 (List.mem_of_getElem? (i := 195) rfl)) rfl
theorem zw_515 : Cond.methodLink RX8 156 yX8_isSheet ∈ zq_W := zq_inW (zq_t2 (List.mem_of_getElem? (i := 196) rfl)) rfl
theorem zw_516 : Cond.static yX8_isSheet ∈ zq_W := zq_inW (zq_t2 (List.mem_of_getElem? (i := 197) rfl)) rfl
theorem zw_517 : Cond.code yX8_isSheet prog_1_method_45_code 1 (some .boolean) ∈ zq_W := zq_inW (zq_t2 (List.mem_of_getElem? (i := 198) rfl)) rfl
theorem zw_518 : Cond.methodLink RX8 159 yX4_isLost ∈ zq_W := zq_inW (zq_t2 (List.mem_of_getElem? (i := 199) rfl)) rfl
theorem zw_519 : Cond.instanceMethod yX4_isLost ∈ zq_W := zq_inW (zq_t2 (List.mem_of_getElem? (i := 200) rfl)) rfl
theorem zw_520 : Cond.selects RX4 yX4_isLost yX4_isLost ∈ zq_W := zq_inW (zq_t2 (List.mem_of_getElem? (i := 201) rfl)) rfl
theorem zw_521 : Cond.code yX4_isLost prog_6_method_2_code 1 (some .boolean) ∈ zq_W := zq_inW (zq_t2 (List.mem_of_getElem? (i := 202) rfl)) rfl
theorem zw_522 : Cond.methodLink RX8 162 yX8_refuse ∈ zq_W := zq_inW (zq_t2 (List.mem_of_getElem? (i := 203) rfl)) rfl
theorem zw_524 : Cond.instanceMethod yX8_refuse ∈ zq_W := zq_inW (zq_t2 (List.mem_of_getElem? (i := 205) rfl)) rfl
theorem zw_525 : Cond.code yX8_refuse prog_1_method_63_code 2 (some .int) ∈ zq_W := zq_inW (zq_t2 (List.mem_of_getElem? (i := 206) rfl)) rfl
theorem zw_526 : Cond.methodLink RX8 170 yX8_event ∈ zq_W := zq_inW (zq_t2 (List.mem_of_getElem? (i := 207) rfl)) rfl
theorem zw_527 : Cond.methodLink RL 57 yX8_at ∈ zq_W := zq_inW (zq_t2 (List.mem_of_getElem? (i := 208) rfl)) rfl
theorem zw_528 : Cond.instanceMethod yX8_at ∈ zq_W := zq_inW (zq_t2 (List.mem_of_getElem? (i := 209) rfl)) rfl
theorem zw_529 : Cond.selects RX8 yX8_at yX8_at ∈ zq_W := zq_inW (zq_t2 (List.mem_of_getElem? (i := 210) rfl)) rfl
theorem zw_530 : Cond.code yX8_at prog_1_method_12_code 5 (some .int) ∈ zq_W := zq_inW (zq_t2 (List.mem_of_getElem? (i := 211) rfl)) rfl
theorem zw_531 : Cond.methodLink RX8 177 yX8_weekAsTold ∈ zq_W := zq_inW (zq_t2 (List.mem_of_getElem? (i := 212) rfl)) rfl
theorem zw_533 : Cond.instanceMethod yX8_weekAsTold ∈ zq_W := zq_inW (zq_t2 (List.mem_of_getElem? (i := 214) rfl)) rfl
theorem zw_534 : Cond.code yX8_weekAsTold prog_1_method_52_code 1 (some (.object "DollsAhead$Week")) ∈ zq_W := zq_inW (zq_t2 (List.mem_of_getElem? (i := 215) rfl)) rfl
theorem zw_535 : Cond.methodLink RX8 219 yX7_runWith ∈ zq_W := zq_inW (zq_t2 (List.mem_of_getElem? (i := 216) rfl)) rfl
theorem zw_536 : Cond.instanceMethod yX7_runWith ∈ zq_W := zq_inW (zq_t2 (List.mem_of_getElem? (i := 217) rfl)) rfl
theorem zw_537 : Cond.selects RX7 yX7_runWith yX7_runWith ∈ zq_W := zq_inW (zq_t2 (List.mem_of_getElem? (i := 218) rfl)) rfl
theorem zw_538 : Cond.code yX7_runWith prog_9_method_4_code 7 none ∈ zq_W := zq_inW (zq_t2 (List.mem_of_getElem? (i := 219) rfl)) rfl
theorem zw_539 : Cond.methodLink RX7 64 yX7_layHours ∈ zq_W := zq_inW (zq_t2 (List.mem_of_getElem? (i := 220) rfl)) rfl
theorem zw_541 : Cond.instanceMethod yX7_layHours ∈ zq_W := zq_inW (zq_t2 (List.mem_of_getElem? (i := 222) rfl)) rfl
theorem zw_542 : Cond.code yX7_layHours prog_9_method_5_code 5 none ∈ zq_W := zq_inW (zq_t2 (List.mem_of_getElem? (i := 223) rfl)) rfl
theorem zw_543 : Cond.methodLink RX7 67 yX7_layTables ∈ zq_W := zq_inW (zq_t2 (List.mem_of_getElem? (i := 224) rfl)) rfl
theorem zw_545 : Cond.instanceMethod yX7_layTables ∈ zq_W := zq_inW (zq_t2 (List.mem_of_getElem? (i := 226) rfl)) rfl
theorem zw_546 : Cond.code yX7_layTables prog_9_method_6_code 4 none ∈ zq_W := zq_inW (zq_t2 (List.mem_of_getElem? (i := 227) rfl)) rfl
theorem zw_547 : Cond.methodLink RX7 97 yX0_openAllBut ∈ zq_W := zq_inW (zq_t2 (List.mem_of_getElem? (i := 228) rfl)) rfl
theorem zw_548 : Cond.instanceMethod yX0_openAllBut ∈ zq_W := zq_inW (zq_t2 (List.mem_of_getElem? (i := 229) rfl)) rfl
theorem zw_549 : Cond.selects RX0 yX0_openAllBut yX0_openAllBut ∈ zq_W := zq_inW (zq_t2 (List.mem_of_getElem? (i := 230) rfl)) rfl
theorem zw_550 : Cond.code yX0_openAllBut prog_2_method_4_code 3 none ∈ zq_W := zq_inW (zq_t2 (List.mem_of_getElem? (i := 231) rfl)) rfl
theorem zw_551 : Cond.methodLink RX0 36 yJ7_fill_53178 ∈ zq_W := zq_inW (zq_t2 (List.mem_of_getElem? (i := 232) rfl)) rfl
theorem zw_552 : Cond.methodLink RX7 103 yX0_fillStepsTo ∈ zq_W := zq_inW (zq_t2 (List.mem_of_getElem? (i := 233) rfl)) rfl
theorem zw_553 : Cond.instanceMethod yX0_fillStepsTo ∈ zq_W := zq_inW (zq_t2 (List.mem_of_getElem? (i := 234) rfl)) rfl
theorem zw_554 : Cond.selects RX0 yX0_fillStepsTo yX0_fillStepsTo ∈ zq_W := zq_inW (zq_t2 (List.mem_of_getElem? (i := 235) rfl)) rfl
theorem zw_555 : Cond.code yX0_fillStepsTo prog_2_method_5_code 11 none ∈ zq_W := zq_inW (zq_t2 (List.mem_of_getElem? (i := 236) rfl)) rfl
theorem zw_556 : Cond.methodLink RX7 75 yX7_sortOf ∈ zq_W := zq_inW (zq_t2 (List.mem_of_getElem? (i := 237) rfl)) rfl
theorem zw_558 : Cond.instanceMethod yX7_sortOf ∈ zq_W := zq_inW (zq_t2 (List.mem_of_getElem? (i := 239) rfl)) rfl
theorem zw_559 : Cond.code yX7_sortOf prog_9_method_8_code 2 (some .int) ∈ zq_W := zq_inW (zq_t3 (List.mem_of_getElem? (i := 0) rfl)) rfl
theorem zw_560 : Cond.methodLink RX7 79 yX7_walk ∈ zq_W := zq_inW (zq_t3 (List.mem_of_getElem? (i := 1) rfl)) rfl
theorem zw_562 : Cond.instanceMethod yX7_walk ∈ zq_W := zq_inW (zq_t3 (List.mem_of_getElem? (i := 3) rfl)) rfl
theorem zw_563 : Cond.code yX7_walk prog_9_method_7_code 9 none ∈ zq_W := zq_inW (zq_t3 (List.mem_of_getElem? (i := 4) rfl)) rfl
theorem zw_564 : Cond.methodLink RX7 107 yX7_bedOf ∈ zq_W := zq_inW (zq_t3 (List.mem_of_getElem? (i := 5) rfl)) rfl
theorem zw_566 : Cond.instanceMethod yX7_bedOf ∈ zq_W := zq_inW (zq_t3 (List.mem_of_getElem? (i := 7) rfl)) rfl
theorem zw_567 : Cond.code yX7_bedOf prog_9_method_9_code 2 (some .int) ∈ zq_W := zq_inW (zq_t3 (List.mem_of_getElem? (i := 8) rfl)) rfl
theorem zw_568 : Cond.methodLink RX7 113 yJ9_min_7cf53 ∈ zq_W := zq_inW (zq_t3 (List.mem_of_getElem? (i := 9) rfl)) rfl
theorem zw_569 : Cond.methodLink RX7 119 yX7_roomOf ∈ zq_W := zq_inW (zq_t3 (List.mem_of_getElem? (i := 10) rfl)) rfl
theorem zw_570 : Cond.instanceMethod yX7_roomOf ∈ zq_W := zq_inW (zq_t3 (List.mem_of_getElem? (i := 11) rfl)) rfl
theorem zw_571 : Cond.selects RX7 yX7_roomOf yX7_roomOf ∈ zq_W := zq_inW (zq_t3 (List.mem_of_getElem? (i := 12) rfl)) rfl
theorem zw_572 : Cond.code yX7_roomOf prog_9_method_10_code 3 (some .int) ∈ zq_W := zq_inW (zq_t3 (List.mem_of_getElem? (i := 13) rfl)) rfl
theorem zw_573 : Cond.methodLink RX8 181 yX7_roomOf ∈ zq_W := zq_inW (zq_t3 (List.mem_of_getElem? (i := 14) rfl)) rfl
theorem zw_574 : Cond.methodLink RL 61 yX8_room ∈ zq_W := zq_inW (zq_t3 (List.mem_of_getElem? (i := 15) rfl)) rfl
theorem zw_575 : Cond.instanceMethod yX8_room ∈ zq_W := zq_inW (zq_t3 (List.mem_of_getElem? (i := 16) rfl)) rfl
theorem zw_576 : Cond.selects RX8 yX8_room yX8_room ∈ zq_W := zq_inW (zq_t3 (List.mem_of_getElem? (i := 17) rfl)) rfl
theorem zw_577 : Cond.code yX8_room prog_1_method_13_code 3 (some .int) ∈ zq_W := zq_inW (zq_t3 (List.mem_of_getElem? (i := 18) rfl)) rfl
theorem zw_578 : Cond.methodLink RX8 185 yX8_isRoom ∈ zq_W := zq_inW (zq_t3 (List.mem_of_getElem? (i := 19) rfl)) rfl
theorem zw_579 : Cond.static yX8_isRoom ∈ zq_W := zq_inW (zq_t3 (List.mem_of_getElem? (i := 20) rfl)) rfl
theorem zw_580 : Cond.code yX8_isRoom prog_1_method_44_code 1 (some .boolean) ∈ zq_W := zq_inW (zq_t3 (List.mem_of_getElem? (i := 21) rfl)) rfl
theorem zw_581 : Cond.methodLink RX8 188 yX7_whoIn ∈ zq_W := zq_inW (zq_t3 (List.mem_of_getElem? (i := 22) rfl)) rfl
theorem zw_582 : Cond.instanceMethod yX7_whoIn ∈ zq_W := zq_inW (zq_t3 (List.mem_of_getElem? (i := 23) rfl)) rfl
theorem zw_583 : Cond.selects RX7 yX7_whoIn yX7_whoIn ∈ zq_W := zq_inW (zq_t3 (List.mem_of_getElem? (i := 24) rfl)) rfl
theorem zw_584 : Cond.code yX7_whoIn prog_9_method_11_code 5 (some .int) ∈ zq_W := zq_inW (zq_t3 (List.mem_of_getElem? (i := 25) rfl)) rfl
theorem zw_585 : Cond.methodLink RL 65 yX8_far ∈ zq_W := zq_inW (zq_t3 (List.mem_of_getElem? (i := 26) rfl)) rfl
theorem zw_586 : Cond.instanceMethod yX8_far ∈ zq_W := zq_inW (zq_t3 (List.mem_of_getElem? (i := 27) rfl)) rfl
theorem zw_587 : Cond.selects RX8 yX8_far yX8_far ∈ zq_W := zq_inW (zq_t3 (List.mem_of_getElem? (i := 28) rfl)) rfl
theorem zw_588 : Cond.code yX8_far prog_1_method_14_code 4 (some .int) ∈ zq_W := zq_inW (zq_t3 (List.mem_of_getElem? (i := 29) rfl)) rfl
theorem zw_589 : Cond.methodLink RX8 191 yX7_doorsBetween ∈ zq_W := zq_inW (zq_t3 (List.mem_of_getElem? (i := 30) rfl)) rfl
theorem zw_590 : Cond.instanceMethod yX7_doorsBetween ∈ zq_W := zq_inW (zq_t3 (List.mem_of_getElem? (i := 31) rfl)) rfl
theorem zw_591 : Cond.selects RX7 yX7_doorsBetween yX7_doorsBetween ∈ zq_W := zq_inW (zq_t3 (List.mem_of_getElem? (i := 32) rfl)) rfl
theorem zw_592 : Cond.code yX7_doorsBetween prog_9_method_12_code 6 (some .int) ∈ zq_W := zq_inW (zq_t3 (List.mem_of_getElem? (i := 33) rfl)) rfl
theorem zw_593 : Cond.methodLink RL 69 yX8_meet ∈ zq_W := zq_inW (zq_t3 (List.mem_of_getElem? (i := 34) rfl)) rfl
theorem zw_594 : Cond.instanceMethod yX8_meet ∈ zq_W := zq_inW (zq_t3 (List.mem_of_getElem? (i := 35) rfl)) rfl
theorem zw_595 : Cond.selects RX8 yX8_meet yX8_meet ∈ zq_W := zq_inW (zq_t3 (List.mem_of_getElem? (i := 36) rfl)) rfl
theorem zw_596 : Cond.code yX8_meet prog_1_method_15_code 5 (some .int) ∈ zq_W := zq_inW (zq_t3 (List.mem_of_getElem? (i := 37) rfl)) rfl
theorem zw_597 : Cond.methodLink RL 73 yX8_empty ∈ zq_W := zq_inW (zq_t3 (List.mem_of_getElem? (i := 38) rfl)) rfl
theorem zw_598 : Cond.instanceMethod yX8_empty ∈ zq_W := zq_inW (zq_t3 (List.mem_of_getElem? (i := 39) rfl)) rfl
theorem zw_599 : Cond.selects RX8 yX8_empty yX8_empty ∈ zq_W := zq_inW (zq_t3 (List.mem_of_getElem? (i := 40) rfl)) rfl
theorem zw_600 : Cond.code yX8_empty prog_1_method_16_code 2 (some .int) ∈ zq_W := zq_inW (zq_t3 (List.mem_of_getElem? (i := 41) rfl)) rfl
theorem zw_601 : Cond.methodLink RX8 194 yX7_emptyHours ∈ zq_W := zq_inW (zq_t3 (List.mem_of_getElem? (i := 42) rfl)) rfl
theorem zw_602 : Cond.instanceMethod yX7_emptyHours ∈ zq_W := zq_inW (zq_t3 (List.mem_of_getElem? (i := 43) rfl)) rfl
theorem zw_603 : Cond.selects RX7 yX7_emptyHours yX7_emptyHours ∈ zq_W := zq_inW (zq_t3 (List.mem_of_getElem? (i := 44) rfl)) rfl
theorem zw_604 : Cond.code yX7_emptyHours prog_9_method_13_code 4 (some .int) ∈ zq_W := zq_inW (zq_t3 (List.mem_of_getElem? (i := 45) rfl)) rfl
theorem zw_605 : Cond.methodLink RX7 128 yX7_whoIn ∈ zq_W := zq_inW (zq_t3 (List.mem_of_getElem? (i := 46) rfl)) rfl
theorem zw_606 : Cond.methodLink RL 77 yX8_found ∈ zq_W := zq_inW (zq_t3 (List.mem_of_getElem? (i := 47) rfl)) rfl
theorem zw_607 : Cond.instanceMethod yX8_found ∈ zq_W := zq_inW (zq_t3 (List.mem_of_getElem? (i := 48) rfl)) rfl
theorem zw_608 : Cond.selects RX8 yX8_found yX8_found ∈ zq_W := zq_inW (zq_t3 (List.mem_of_getElem? (i := 49) rfl)) rfl
theorem zw_609 : Cond.code yX8_found prog_1_method_17_code 5 (some .int) ∈ zq_W := zq_inW (zq_t3 (List.mem_of_getElem? (i := 50) rfl)) rfl
theorem zw_610 : Cond.methodLink RX8 197 yX7_findingHour ∈ zq_W := zq_inW (zq_t3 (List.mem_of_getElem? (i := 51) rfl)) rfl
theorem zw_611 : Cond.instanceMethod yX7_findingHour ∈ zq_W := zq_inW (zq_t3 (List.mem_of_getElem? (i := 52) rfl)) rfl
theorem zw_612 : Cond.selects RX7 yX7_findingHour yX7_findingHour ∈ zq_W := zq_inW (zq_t3 (List.mem_of_getElem? (i := 53) rfl)) rfl
theorem zw_613 : Cond.code yX7_findingHour prog_9_method_18_code 2 (some .int) ∈ zq_W := zq_inW (zq_t3 (List.mem_of_getElem? (i := 54) rfl)) rfl
theorem zw_614 : Cond.methodLink RX7 142 yX7_finder ∈ zq_W := zq_inW (zq_t3 (List.mem_of_getElem? (i := 55) rfl)) rfl
theorem zw_615 : Cond.instanceMethod yX7_finder ∈ zq_W := zq_inW (zq_t3 (List.mem_of_getElem? (i := 56) rfl)) rfl
theorem zw_616 : Cond.selects RX7 yX7_finder yX7_finder ∈ zq_W := zq_inW (zq_t3 (List.mem_of_getElem? (i := 57) rfl)) rfl
theorem zw_617 : Cond.code yX7_finder prog_9_method_19_code 3 (some .int) ∈ zq_W := zq_inW (zq_t3 (List.mem_of_getElem? (i := 58) rfl)) rfl
theorem zw_618 : Cond.methodLink RX7 145 yX7_childWith ∈ zq_W := zq_inW (zq_t3 (List.mem_of_getElem? (i := 59) rfl)) rfl
theorem zw_619 : Cond.instanceMethod yX7_childWith ∈ zq_W := zq_inW (zq_t3 (List.mem_of_getElem? (i := 60) rfl)) rfl
theorem zw_620 : Cond.selects RX7 yX7_childWith yX7_childWith ∈ zq_W := zq_inW (zq_t3 (List.mem_of_getElem? (i := 61) rfl)) rfl
theorem zw_621 : Cond.code yX7_childWith prog_9_method_20_code 4 (some .int) ∈ zq_W := zq_inW (zq_t3 (List.mem_of_getElem? (i := 62) rfl)) rfl
theorem zw_622 : Cond.methodLink RX8 201 yX7_finder ∈ zq_W := zq_inW (zq_t3 (List.mem_of_getElem? (i := 63) rfl)) rfl
theorem zw_623 : Cond.methodLink RX8 204 yX7_childWith ∈ zq_W := zq_inW (zq_t3 (List.mem_of_getElem? (i := 64) rfl)) rfl
theorem zw_624 : Cond.methodLink RL 81 yX8_crowd ∈ zq_W := zq_inW (zq_t3 (List.mem_of_getElem? (i := 65) rfl)) rfl
theorem zw_625 : Cond.instanceMethod yX8_crowd ∈ zq_W := zq_inW (zq_t3 (List.mem_of_getElem? (i := 66) rfl)) rfl
theorem zw_626 : Cond.selects RX8 yX8_crowd yX8_crowd ∈ zq_W := zq_inW (zq_t3 (List.mem_of_getElem? (i := 67) rfl)) rfl
theorem zw_627 : Cond.code yX8_crowd prog_1_method_18_code 5 (some .int) ∈ zq_W := zq_inW (zq_t3 (List.mem_of_getElem? (i := 68) rfl)) rfl
theorem zw_628 : Cond.methodLink RX8 207 yX7_mostIn ∈ zq_W := zq_inW (zq_t3 (List.mem_of_getElem? (i := 69) rfl)) rfl
theorem zw_629 : Cond.instanceMethod yX7_mostIn ∈ zq_W := zq_inW (zq_t3 (List.mem_of_getElem? (i := 70) rfl)) rfl
theorem zw_630 : Cond.selects RX7 yX7_mostIn yX7_mostIn ∈ zq_W := zq_inW (zq_t3 (List.mem_of_getElem? (i := 71) rfl)) rfl
theorem zw_631 : Cond.code yX7_mostIn prog_9_method_16_code 4 (some .int) ∈ zq_W := zq_inW (zq_t3 (List.mem_of_getElem? (i := 72) rfl)) rfl
theorem zw_632 : Cond.methodLink RX7 134 yJ6_bitCount_0f7a4 ∈ zq_W := zq_inW (zq_t3 (List.mem_of_getElem? (i := 73) rfl)) rfl
theorem zw_633 : Cond.static yJ6_bitCount_0f7a4 ∈ zq_W := zq_inW (zq_t3 (List.mem_of_getElem? (i := 74) rfl)) rfl
theorem zw_634 : Cond.code yJ6_bitCount_0f7a4 prog_12_method_49_code 1 (some .int) ∈ zq_W := zq_inW (zq_t3 (List.mem_of_getElem? (i := 75) rfl)) rfl
theorem zw_635 : Cond.constant RJ6 265 (1431655765) ∈ zq_W := zq_inW (zq_t3 (List.mem_of_getElem? (i := 76) rfl)) rfl
theorem zw_636 : Cond.constant RJ6 266 (858993459) ∈ zq_W := zq_inW (zq_t3 (List.mem_of_getElem? (i := 77) rfl)) rfl
theorem zw_637 : Cond.constant RJ6 267 (252645135) ∈ zq_W := zq_inW (zq_t3 (List.mem_of_getElem? (i := 78) rfl)) rfl
theorem zw_638 : Cond.methodLink RX7 139 yJ9_max_7cf53 ∈ zq_W := zq_inW (zq_t3 (List.mem_of_getElem? (i := 79) rfl)) rfl
theorem zw_639 : Cond.methodLink RX8 210 yX7_firstRoomOf ∈ zq_W := zq_inW (zq_t3 (List.mem_of_getElem? (i := 80) rfl)) rfl
theorem zw_640 : Cond.instanceMethod yX7_firstRoomOf ∈ zq_W := zq_inW (zq_t3 (List.mem_of_getElem? (i := 81) rfl)) rfl
theorem zw_641 : Cond.selects RX7 yX7_firstRoomOf yX7_firstRoomOf ∈ zq_W := zq_inW (zq_t3 (List.mem_of_getElem? (i := 82) rfl)) rfl
theorem zw_642 : Cond.code yX7_firstRoomOf prog_9_method_17_code 4 (some .int) ∈ zq_W := zq_inW (zq_t3 (List.mem_of_getElem? (i := 83) rfl)) rfl
theorem zw_643 : Cond.methodLink RL 85 yX8_alone ∈ zq_W := zq_inW (zq_t3 (List.mem_of_getElem? (i := 84) rfl)) rfl
theorem zw_644 : Cond.instanceMethod yX8_alone ∈ zq_W := zq_inW (zq_t3 (List.mem_of_getElem? (i := 85) rfl)) rfl
theorem zw_645 : Cond.selects RX8 yX8_alone yX8_alone ∈ zq_W := zq_inW (zq_t3 (List.mem_of_getElem? (i := 86) rfl)) rfl
theorem zw_646 : Cond.code yX8_alone prog_1_method_19_code 1 (some .int) ∈ zq_W := zq_inW (zq_t3 (List.mem_of_getElem? (i := 87) rfl)) rfl
theorem zw_647 : Cond.methodLink RX8 213 yX7_aloneBehind ∈ zq_W := zq_inW (zq_t3 (List.mem_of_getElem? (i := 88) rfl)) rfl
theorem zw_648 : Cond.instanceMethod yX7_aloneBehind ∈ zq_W := zq_inW (zq_t3 (List.mem_of_getElem? (i := 89) rfl)) rfl
theorem zw_649 : Cond.selects RX7 yX7_aloneBehind yX7_aloneBehind ∈ zq_W := zq_inW (zq_t3 (List.mem_of_getElem? (i := 90) rfl)) rfl
theorem zw_650 : Cond.code yX7_aloneBehind prog_9_method_14_code 6 (some .int) ∈ zq_W := zq_inW (zq_t3 (List.mem_of_getElem? (i := 91) rfl)) rfl
theorem zw_651 : Cond.methodLink RL 89 yX8_sleep ∈ zq_W := zq_inW (zq_t3 (List.mem_of_getElem? (i := 92) rfl)) rfl
theorem zw_652 : Cond.instanceMethod yX8_sleep ∈ zq_W := zq_inW (zq_t3 (List.mem_of_getElem? (i := 93) rfl)) rfl
theorem zw_653 : Cond.selects RX8 yX8_sleep yX8_sleep ∈ zq_W := zq_inW (zq_t3 (List.mem_of_getElem? (i := 94) rfl)) rfl
theorem zw_654 : Cond.code yX8_sleep prog_1_method_20_code 7 (some .int) ∈ zq_W := zq_inW (zq_t3 (List.mem_of_getElem? (i := 95) rfl)) rfl
theorem zw_655 : Cond.methodLink RX8 216 yX7_suppose ∈ zq_W := zq_inW (zq_t3 (List.mem_of_getElem? (i := 96) rfl)) rfl
theorem zw_656 : Cond.instanceMethod yX7_suppose ∈ zq_W := zq_inW (zq_t3 (List.mem_of_getElem? (i := 97) rfl)) rfl
theorem zw_657 : Cond.selects RX7 yX7_suppose yX7_suppose ∈ zq_W := zq_inW (zq_t3 (List.mem_of_getElem? (i := 98) rfl)) rfl
theorem zw_658 : Cond.code yX7_suppose prog_9_method_3_code 4 none ∈ zq_W := zq_inW (zq_t3 (List.mem_of_getElem? (i := 99) rfl)) rfl
theorem zw_659 : Cond.methodLink RX8 223 yX7_hoursAlone ∈ zq_W := zq_inW (zq_t3 (List.mem_of_getElem? (i := 100) rfl)) rfl
theorem zw_660 : Cond.instanceMethod yX7_hoursAlone ∈ zq_W := zq_inW (zq_t3 (List.mem_of_getElem? (i := 101) rfl)) rfl
theorem zw_661 : Cond.selects RX7 yX7_hoursAlone yX7_hoursAlone ∈ zq_W := zq_inW (zq_t3 (List.mem_of_getElem? (i := 102) rfl)) rfl
theorem zw_662 : Cond.code yX7_hoursAlone prog_9_method_15_code 4 (some .int) ∈ zq_W := zq_inW (zq_t3 (List.mem_of_getElem? (i := 103) rfl)) rfl
theorem zw_663 : Cond.methodLink RX7 131 yX7_aloneBehind ∈ zq_W := zq_inW (zq_t3 (List.mem_of_getElem? (i := 104) rfl)) rfl
theorem zw_664 : Cond.methodLink RL 93 yX8_nice ∈ zq_W := zq_inW (zq_t3 (List.mem_of_getElem? (i := 105) rfl)) rfl
theorem zw_665 : Cond.instanceMethod yX8_nice ∈ zq_W := zq_inW (zq_t3 (List.mem_of_getElem? (i := 106) rfl)) rfl
theorem zw_666 : Cond.selects RX8 yX8_nice yX8_nice ∈ zq_W := zq_inW (zq_t3 (List.mem_of_getElem? (i := 107) rfl)) rfl
theorem zw_667 : Cond.code yX8_nice prog_1_method_21_code 7 (some .int) ∈ zq_W := zq_inW (zq_t3 (List.mem_of_getElem? (i := 108) rfl)) rfl
theorem zw_668 : Cond.methodLink RX8 226 yX1_become ∈ zq_W := zq_inW (zq_t3 (List.mem_of_getElem? (i := 109) rfl)) rfl
theorem zw_669 : Cond.instanceMethod yX1_become ∈ zq_W := zq_inW (zq_t3 (List.mem_of_getElem? (i := 110) rfl)) rfl
theorem zw_670 : Cond.selects RX1 yX1_become yX1_become ∈ zq_W := zq_inW (zq_t3 (List.mem_of_getElem? (i := 111) rfl)) rfl
theorem zw_671 : Cond.code yX1_become prog_3_method_3_code 3 none ∈ zq_W := zq_inW (zq_t3 (List.mem_of_getElem? (i := 112) rfl)) rfl
theorem zw_672 : Cond.methodLink RX1 25 yX1_add ∈ zq_W := zq_inW (zq_t3 (List.mem_of_getElem? (i := 113) rfl)) rfl
theorem zw_673 : Cond.methodLink RL 97 yX8_lens ∈ zq_W := zq_inW (zq_t3 (List.mem_of_getElem? (i := 114) rfl)) rfl
theorem zw_674 : Cond.instanceMethod yX8_lens ∈ zq_W := zq_inW (zq_t3 (List.mem_of_getElem? (i := 115) rfl)) rfl
theorem zw_675 : Cond.selects RX8 yX8_lens yX8_lens ∈ zq_W := zq_inW (zq_t3 (List.mem_of_getElem? (i := 116) rfl)) rfl
theorem zw_676 : Cond.code yX8_lens prog_1_method_22_code 6 (some .int) ∈ zq_W := zq_inW (zq_t3 (List.mem_of_getElem? (i := 117) rfl)) rfl
theorem zw_677 : Cond.methodLink RL 101 yX8_spare ∈ zq_W := zq_inW (zq_t3 (List.mem_of_getElem? (i := 118) rfl)) rfl
theorem zw_678 : Cond.instanceMethod yX8_spare ∈ zq_W := zq_inW (zq_t3 (List.mem_of_getElem? (i := 119) rfl)) rfl
theorem zw_679 : Cond.selects RX8 yX8_spare yX8_spare ∈ zq_W := zq_inW (zq_t3 (List.mem_of_getElem? (i := 120) rfl)) rfl
theorem zw_680 : Cond.code yX8_spare prog_1_method_23_code 3 (some .int) ∈ zq_W := zq_inW (zq_t3 (List.mem_of_getElem? (i := 121) rfl)) rfl
theorem zw_681 : Cond.methodLink RX8 230 yX8_sparedRow ∈ zq_W := zq_inW (zq_t3 (List.mem_of_getElem? (i := 122) rfl)) rfl
theorem zw_683 : Cond.instanceMethod yX8_sparedRow ∈ zq_W := zq_inW (zq_t3 (List.mem_of_getElem? (i := 124) rfl)) rfl
theorem zw_684 : Cond.code yX8_sparedRow prog_1_method_54_code 3 (some .int) ∈ zq_W := zq_inW (zq_t3 (List.mem_of_getElem? (i := 125) rfl)) rfl
theorem zw_685 : Cond.methodLink RX8 385 yX8_nobodyAloneWithout ∈ zq_W := zq_inW (zq_t3 (List.mem_of_getElem? (i := 126) rfl)) rfl
theorem zw_687 : Cond.instanceMethod yX8_nobodyAloneWithout ∈ zq_W := zq_inW (zq_t3 (List.mem_of_getElem? (i := 128) rfl)) rfl
theorem zw_688 : Cond.code yX8_nobodyAloneWithout prog_1_method_55_code 2 (some .boolean) ∈ zq_W := zq_inW (zq_t3 (List.mem_of_getElem? (i := 129) rfl)) rfl
theorem zw_689 : Cond.methodLink RX8 233 yJ6_bitCount_0f7a4 ∈ zq_W := zq_inW (zq_t3 (List.mem_of_getElem? (i := 130) rfl)) rfl
theorem zw_690 : Cond.methodLink RX8 238 yX8_placeOfBit ∈ zq_W := zq_inW (zq_t3 (List.mem_of_getElem? (i := 131) rfl)) rfl
theorem zw_691 : Cond.static yX8_placeOfBit ∈ zq_W := zq_inW (zq_t3 (List.mem_of_getElem? (i := 132) rfl)) rfl
theorem zw_692 : Cond.code yX8_placeOfBit prog_1_method_56_code 4 (some .int) ∈ zq_W := zq_inW (zq_t3 (List.mem_of_getElem? (i := 133) rfl)) rfl
theorem zw_693 : Cond.methodLink RL 105 yX8_seen ∈ zq_W := zq_inW (zq_t3 (List.mem_of_getElem? (i := 134) rfl)) rfl
theorem zw_694 : Cond.instanceMethod yX8_seen ∈ zq_W := zq_inW (zq_t3 (List.mem_of_getElem? (i := 135) rfl)) rfl
theorem zw_695 : Cond.selects RX8 yX8_seen yX8_seen ∈ zq_W := zq_inW (zq_t3 (List.mem_of_getElem? (i := 136) rfl)) rfl
theorem zw_696 : Cond.code yX8_seen prog_1_method_24_code 4 (some .int) ∈ zq_W := zq_inW (zq_t3 (List.mem_of_getElem? (i := 137) rfl)) rfl
theorem zw_697 : Cond.methodLink RX8 242 yX5_add ∈ zq_W := zq_inW (zq_t3 (List.mem_of_getElem? (i := 138) rfl)) rfl
theorem zw_698 : Cond.instanceMethod yX5_add ∈ zq_W := zq_inW (zq_t3 (List.mem_of_getElem? (i := 139) rfl)) rfl
theorem zw_699 : Cond.selects RX5 yX5_add yX5_add ∈ zq_W := zq_inW (zq_t3 (List.mem_of_getElem? (i := 140) rfl)) rfl
theorem zw_700 : Cond.code yX5_add prog_7_method_2_code 4 none ∈ zq_W := zq_inW (zq_t3 (List.mem_of_getElem? (i := 141) rfl)) rfl
theorem zw_701 : Cond.methodLink RL 109 yX8_forget ∈ zq_W := zq_inW (zq_t3 (List.mem_of_getElem? (i := 142) rfl)) rfl
theorem zw_702 : Cond.instanceMethod yX8_forget ∈ zq_W := zq_inW (zq_t3 (List.mem_of_getElem? (i := 143) rfl)) rfl
theorem zw_703 : Cond.selects RX8 yX8_forget yX8_forget ∈ zq_W := zq_inW (zq_t3 (List.mem_of_getElem? (i := 144) rfl)) rfl
theorem zw_704 : Cond.code yX8_forget prog_1_method_25_code 2 (some .int) ∈ zq_W := zq_inW (zq_t3 (List.mem_of_getElem? (i := 145) rfl)) rfl
theorem zw_705 : Cond.methodLink RL 113 yX8_never ∈ zq_W := zq_inW (zq_t3 (List.mem_of_getElem? (i := 146) rfl)) rfl
theorem zw_706 : Cond.instanceMethod yX8_never ∈ zq_W := zq_inW (zq_t3 (List.mem_of_getElem? (i := 147) rfl)) rfl
theorem zw_707 : Cond.selects RX8 yX8_never yX8_never ∈ zq_W := zq_inW (zq_t3 (List.mem_of_getElem? (i := 148) rfl)) rfl
theorem zw_708 : Cond.code yX8_never prog_1_method_26_code 3 (some .int) ∈ zq_W := zq_inW (zq_t3 (List.mem_of_getElem? (i := 149) rfl)) rfl
theorem zw_709 : Cond.methodLink RX8 243 yX5_allIn ∈ zq_W := zq_inW (zq_t3 (List.mem_of_getElem? (i := 150) rfl)) rfl
theorem zw_710 : Cond.instanceMethod yX5_allIn ∈ zq_W := zq_inW (zq_t3 (List.mem_of_getElem? (i := 151) rfl)) rfl
theorem zw_711 : Cond.selects RX5 yX5_allIn yX5_allIn ∈ zq_W := zq_inW (zq_t3 (List.mem_of_getElem? (i := 152) rfl)) rfl
theorem zw_712 : Cond.code yX5_allIn prog_7_method_3_code 4 (some .boolean) ∈ zq_W := zq_inW (zq_t3 (List.mem_of_getElem? (i := 153) rfl)) rfl
theorem zw_713 : Cond.methodLink RX5 36 yX7_roomOf ∈ zq_W := zq_inW (zq_t3 (List.mem_of_getElem? (i := 154) rfl)) rfl
theorem zw_714 : Cond.methodLink RL 117 yX8_was ∈ zq_W := zq_inW (zq_t3 (List.mem_of_getElem? (i := 155) rfl)) rfl
theorem zw_715 : Cond.instanceMethod yX8_was ∈ zq_W := zq_inW (zq_t3 (List.mem_of_getElem? (i := 156) rfl)) rfl
theorem zw_716 : Cond.selects RX8 yX8_was yX8_was ∈ zq_W := zq_inW (zq_t3 (List.mem_of_getElem? (i := 157) rfl)) rfl
theorem zw_717 : Cond.code yX8_was prog_1_method_27_code 3 (some .int) ∈ zq_W := zq_inW (zq_t3 (List.mem_of_getElem? (i := 158) rfl)) rfl
theorem zw_718 : Cond.methodLink RX8 247 yX8_sortsThatFit ∈ zq_W := zq_inW (zq_t3 (List.mem_of_getElem? (i := 159) rfl)) rfl
theorem zw_720 : Cond.instanceMethod yX8_sortsThatFit ∈ zq_W := zq_inW (zq_t3 (List.mem_of_getElem? (i := 161) rfl)) rfl
theorem zw_721 : Cond.code yX8_sortsThatFit prog_1_method_57_code 4 (some .int) ∈ zq_W := zq_inW (zq_t3 (List.mem_of_getElem? (i := 162) rfl)) rfl
theorem zw_722 : Cond.methodLink RX8 250 yX8_bedsThatFit ∈ zq_W := zq_inW (zq_t3 (List.mem_of_getElem? (i := 163) rfl)) rfl
theorem zw_724 : Cond.instanceMethod yX8_bedsThatFit ∈ zq_W := zq_inW (zq_t3 (List.mem_of_getElem? (i := 165) rfl)) rfl
theorem zw_725 : Cond.code yX8_bedsThatFit prog_1_method_58_code 5 (some .int) ∈ zq_W := zq_inW (zq_t3 (List.mem_of_getElem? (i := 166) rfl)) rfl
theorem zw_726 : Cond.methodLink RL 121 yX8_ask ∈ zq_W := zq_inW (zq_t3 (List.mem_of_getElem? (i := 167) rfl)) rfl
theorem zw_727 : Cond.instanceMethod yX8_ask ∈ zq_W := zq_inW (zq_t3 (List.mem_of_getElem? (i := 168) rfl)) rfl
theorem zw_728 : Cond.selects RX8 yX8_ask yX8_ask ∈ zq_W := zq_inW (zq_t3 (List.mem_of_getElem? (i := 169) rfl)) rfl
theorem zw_729 : Cond.code yX8_ask prog_1_method_28_code 7 (some .int) ∈ zq_W := zq_inW (zq_t3 (List.mem_of_getElem? (i := 170) rfl)) rfl
theorem zw_730 : Cond.methodLink RX8 253 yX8_mostBedsInOneRoom ∈ zq_W := zq_inW (zq_t3 (List.mem_of_getElem? (i := 171) rfl)) rfl
theorem zw_732 : Cond.instanceMethod yX8_mostBedsInOneRoom ∈ zq_W := zq_inW (zq_t3 (List.mem_of_getElem? (i := 173) rfl)) rfl
theorem zw_733 : Cond.code yX8_mostBedsInOneRoom prog_1_method_59_code 6 (some .int) ∈ zq_W := zq_inW (zq_t3 (List.mem_of_getElem? (i := 174) rfl)) rfl
theorem zw_734 : Cond.methodLink RX8 388 yJ7_fill_53178 ∈ zq_W := zq_inW (zq_t3 (List.mem_of_getElem? (i := 175) rfl)) rfl
theorem zw_735 : Cond.methodLink RX8 394 yJ9_max_7cf53 ∈ zq_W := zq_inW (zq_t3 (List.mem_of_getElem? (i := 176) rfl)) rfl
theorem zw_736 : Cond.methodLink RL 125 yX8_chance ∈ zq_W := zq_inW (zq_t3 (List.mem_of_getElem? (i := 177) rfl)) rfl
theorem zw_737 : Cond.instanceMethod yX8_chance ∈ zq_W := zq_inW (zq_t3 (List.mem_of_getElem? (i := 178) rfl)) rfl
theorem zw_738 : Cond.selects RX8 yX8_chance yX8_chance ∈ zq_W := zq_inW (zq_t3 (List.mem_of_getElem? (i := 179) rfl)) rfl
theorem zw_739 : Cond.code yX8_chance prog_1_method_29_code 10 (some .long) ∈ zq_W := zq_inW (zq_t3 (List.mem_of_getElem? (i := 180) rfl)) rfl
theorem zw_740 : Cond.constantLong RX8 258 (-9223372036854775806) ∈ zq_W := zq_inW (zq_t3 (List.mem_of_getElem? (i := 181) rfl)) rfl
theorem zw_741 : Cond.methodLink RX8 260 yX8_weighOdds ∈ zq_W := zq_inW (zq_t3 (List.mem_of_getElem? (i := 182) rfl)) rfl
theorem zw_743 : Cond.instanceMethod yX8_weighOdds ∈ zq_W := zq_inW (zq_t3 (List.mem_of_getElem? (i := 184) rfl)) rfl
theorem zw_744 : Cond.code yX8_weighOdds prog_1_method_60_code 6 none ∈ zq_W := zq_inW (zq_t3 (List.mem_of_getElem? (i := 185) rfl)) rfl
theorem zw_745 : Cond.methodLink RX8 397 yJ7_fill_d0a16 ∈ zq_W := zq_inW (zq_t3 (List.mem_of_getElem? (i := 186) rfl)) rfl
theorem zw_746 : Cond.static yJ7_fill_d0a16 ∈ zq_W := zq_inW (zq_t3 (List.mem_of_getElem? (i := 187) rfl)) rfl
theorem zw_747 : Cond.code yJ7_fill_d0a16 prog_15_method_101_code 5 none ∈ zq_W := zq_inW (zq_t3 (List.mem_of_getElem? (i := 188) rfl)) rfl
theorem zw_748 : Cond.methodLink RX8 400 yX8_weightOf ∈ zq_W := zq_inW (zq_t3 (List.mem_of_getElem? (i := 189) rfl)) rfl
theorem zw_750 : Cond.instanceMethod yX8_weightOf ∈ zq_W := zq_inW (zq_t3 (List.mem_of_getElem? (i := 191) rfl)) rfl
theorem zw_751 : Cond.code yX8_weightOf prog_1_method_61_code 6 (some .long) ∈ zq_W := zq_inW (zq_t3 (List.mem_of_getElem? (i := 192) rfl)) rfl
theorem zw_752 : Cond.methodLink RX8 404 yX8_addOdds ∈ zq_W := zq_inW (zq_t3 (List.mem_of_getElem? (i := 193) rfl)) rfl
theorem zw_754 : Cond.instanceMethod yX8_addOdds ∈ zq_W := zq_inW (zq_t3 (List.mem_of_getElem? (i := 195) rfl)) rfl
theorem zw_755 : Cond.code yX8_addOdds prog_1_method_62_code 5 none ∈ zq_W := zq_inW (zq_t3 (List.mem_of_getElem? (i := 196) rfl)) rfl
theorem zw_756 : Cond.methodLink RL 130 yX8_weeks ∈ zq_W := zq_inW (zq_t3 (List.mem_of_getElem? (i := 197) rfl)) rfl
theorem zw_757 : Cond.instanceMethod yX8_weeks ∈ zq_W := zq_inW (zq_t3 (List.mem_of_getElem? (i := 198) rfl)) rfl
theorem zw_758 : Cond.selects RX8 yX8_weeks yX8_weeks ∈ zq_W := zq_inW (zq_t3 (List.mem_of_getElem? (i := 199) rfl)) rfl
theorem zw_759 : Cond.code yX8_weeks prog_1_method_30_code 7 (some .int) ∈ zq_W := zq_inW (zq_t3 (List.mem_of_getElem? (i := 200) rfl)) rfl
theorem zw_760 : Cond.methodLink RX8 267 yX2_draw ∈ zq_W := zq_inW (zq_t3 (List.mem_of_getElem? (i := 201) rfl)) rfl
theorem zw_761 : Cond.instanceMethod yX2_draw ∈ zq_W := zq_inW (zq_t3 (List.mem_of_getElem? (i := 202) rfl)) rfl
theorem zw_762 : Cond.selects RX2 yX2_draw yX2_draw ∈ zq_W := zq_inW (zq_t3 (List.mem_of_getElem? (i := 203) rfl)) rfl
theorem zw_763 : Cond.code yX2_draw prog_4_method_2_code 2 (some .int) ∈ zq_W := zq_inW (zq_t3 (List.mem_of_getElem? (i := 204) rfl)) rfl
theorem zw_764 : Cond.constant RX2 7 (1103515245) ∈ zq_W := zq_inW (zq_t3 (List.mem_of_getElem? (i := 205) rfl)) rfl
theorem zw_765 : Cond.methodLink RL 134 yX8_sheet ∈ zq_W := zq_inW (zq_t3 (List.mem_of_getElem? (i := 206) rfl)) rfl
theorem zw_766 : Cond.instanceMethod yX8_sheet ∈ zq_W := zq_inW (zq_t3 (List.mem_of_getElem? (i := 207) rfl)) rfl
theorem zw_767 : Cond.selects RX8 yX8_sheet yX8_sheet ∈ zq_W := zq_inW (zq_t3 (List.mem_of_getElem? (i := 208) rfl)) rfl
theorem zw_768 : Cond.code yX8_sheet prog_1_method_31_code 4 (some .int) ∈ zq_W := zq_inW (zq_t3 (List.mem_of_getElem? (i := 209) rfl)) rfl
theorem zw_769 : Cond.methodLink RX8 270 yX8_isForm ∈ zq_W := zq_inW (zq_t3 (List.mem_of_getElem? (i := 210) rfl)) rfl
theorem zw_770 : Cond.static yX8_isForm ∈ zq_W := zq_inW (zq_t3 (List.mem_of_getElem? (i := 211) rfl)) rfl
theorem zw_771 : Cond.code yX8_isForm prog_1_method_46_code 1 (some .boolean) ∈ zq_W := zq_inW (zq_t3 (List.mem_of_getElem? (i := 212) rfl)) rfl
theorem zw_772 : Cond.methodLink RX8 273 yX4_become ∈ zq_W := zq_inW (zq_t3 (List.mem_of_getElem? (i := 213) rfl)) rfl
theorem zw_773 : Cond.instanceMethod yX4_become ∈ zq_W := zq_inW (zq_t3 (List.mem_of_getElem? (i := 214) rfl)) rfl
theorem zw_774 : Cond.selects RX4 yX4_become yX4_become ∈ zq_W := zq_inW (zq_t3 (List.mem_of_getElem? (i := 215) rfl)) rfl
theorem zw_775 : Cond.code yX4_become prog_6_method_3_code 3 none ∈ zq_W := zq_inW (zq_t3 (List.mem_of_getElem? (i := 216) rfl)) rfl
theorem zw_776 : Cond.methodLink RX4 22 yJ7_fill_53178 ∈ zq_W := zq_inW (zq_t3 (List.mem_of_getElem? (i := 217) rfl)) rfl
theorem zw_777 : Cond.methodLink RL 138 yX8_lose ∈ zq_W := zq_inW (zq_t3 (List.mem_of_getElem? (i := 218) rfl)) rfl
theorem zw_778 : Cond.instanceMethod yX8_lose ∈ zq_W := zq_inW (zq_t3 (List.mem_of_getElem? (i := 219) rfl)) rfl
theorem zw_779 : Cond.selects RX8 yX8_lose yX8_lose ∈ zq_W := zq_inW (zq_t3 (List.mem_of_getElem? (i := 220) rfl)) rfl
theorem zw_780 : Cond.code yX8_lose prog_1_method_32_code 4 (some .int) ∈ zq_W := zq_inW (zq_t3 (List.mem_of_getElem? (i := 221) rfl)) rfl
theorem zw_781 : Cond.methodLink RL 142 yX8_put ∈ zq_W := zq_inW (zq_t3 (List.mem_of_getElem? (i := 222) rfl)) rfl
theorem zw_782 : Cond.instanceMethod yX8_put ∈ zq_W := zq_inW (zq_t3 (List.mem_of_getElem? (i := 223) rfl)) rfl
theorem zw_783 : Cond.selects RX8 yX8_put yX8_put ∈ zq_W := zq_inW (zq_t3 (List.mem_of_getElem? (i := 224) rfl)) rfl
theorem zw_784 : Cond.code yX8_put prog_1_method_33_code 6 (some .int) ∈ zq_W := zq_inW (zq_t3 (List.mem_of_getElem? (i := 225) rfl)) rfl
theorem zw_785 : Cond.methodLink RX8 275 yX8_refusalOfItem ∈ zq_W := zq_inW (zq_t3 (List.mem_of_getElem? (i := 226) rfl)) rfl
theorem zw_787 : Cond.instanceMethod yX8_refusalOfItem ∈ zq_W := zq_inW (zq_t3 (List.mem_of_getElem? (i := 228) rfl)) rfl
theorem zw_788 : Cond.code yX8_refusalOfItem prog_1_method_64_code 5 (some .int) ∈ zq_W := zq_inW (zq_t3 (List.mem_of_getElem? (i := 229) rfl)) rfl
theorem zw_789 : Cond.methodLink RX8 285 yX4_holds ∈ zq_W := zq_inW (zq_t3 (List.mem_of_getElem? (i := 230) rfl)) rfl
theorem zw_790 : Cond.instanceMethod yX4_holds ∈ zq_W := zq_inW (zq_t3 (List.mem_of_getElem? (i := 231) rfl)) rfl
theorem zw_791 : Cond.selects RX4 yX4_holds yX4_holds ∈ zq_W := zq_inW (zq_t3 (List.mem_of_getElem? (i := 232) rfl)) rfl
theorem zw_792 : Cond.code yX4_holds prog_6_method_4_code 3 (some .boolean) ∈ zq_W := zq_inW (zq_t3 (List.mem_of_getElem? (i := 233) rfl)) rfl
theorem zw_793 : Cond.methodLink RX8 278 yX4_lay ∈ zq_W := zq_inW (zq_t3 (List.mem_of_getElem? (i := 234) rfl)) rfl
theorem zw_794 : Cond.instanceMethod yX4_lay ∈ zq_W := zq_inW (zq_t3 (List.mem_of_getElem? (i := 235) rfl)) rfl
theorem zw_795 : Cond.selects RX4 yX4_lay yX4_lay ∈ zq_W := zq_inW (zq_t3 (List.mem_of_getElem? (i := 236) rfl)) rfl
theorem zw_796 : Cond.code yX4_lay prog_6_method_5_code 3 none ∈ zq_W := zq_inW (zq_t3 (List.mem_of_getElem? (i := 237) rfl)) rfl
theorem zw_797 : Cond.methodLink RL 147 yX8_get ∈ zq_W := zq_inW (zq_t3 (List.mem_of_getElem? (i := 238) rfl)) rfl
theorem zw_798 : Cond.instanceMethod yX8_get ∈ zq_W := zq_inW (zq_t3 (List.mem_of_getElem? (i := 239) rfl)) rfl
theorem zw_799 : Cond.selects RX8 yX8_get yX8_get ∈ zq_W := zq_inW (zq_t4 (List.mem_of_getElem? (i := 0) rfl)) rfl
theorem zw_800 : Cond.code yX8_get prog_1_method_34_code 4 (some .int) ∈ zq_W := zq_inW (zq_t4 (List.mem_of_getElem? (i := 1) rfl)) rfl
theorem zw_801 : Cond.constant RX8 281 (-2147483648) ∈ zq_W := zq_inW (zq_t4 (List.mem_of_getElem? (i := 2) rfl)) rfl
theorem zw_802 : Cond.methodLink RL 151 yX8_copy ∈ zq_W := zq_inW (zq_t4 (List.mem_of_getElem? (i := 3) rfl)) rfl
theorem zw_803 : Cond.instanceMethod yX8_copy ∈ zq_W := zq_inW (zq_t4 (List.mem_of_getElem? (i := 4) rfl)) rfl
theorem zw_804 : Cond.selects RX8 yX8_copy yX8_copy ∈ zq_W := zq_inW (zq_t4 (List.mem_of_getElem? (i := 5) rfl)) rfl
theorem zw_805 : Cond.code yX8_copy prog_1_method_35_code 8 (some .int) ∈ zq_W := zq_inW (zq_t4 (List.mem_of_getElem? (i := 6) rfl)) rfl
theorem zw_806 : Cond.methodLink RX8 289 ⟨"java/lang/System", "arraycopy", "(Ljava/lang/Object;ILjava/lang/Object;II)V"⟩ ∈ zq_W := zq_inW (zq_t4 (List.mem_of_getElem? (i := 7) rfl)) rfl
theorem zw_807 : Cond.static ⟨"java/lang/System", "arraycopy", "(Ljava/lang/Object;ILjava/lang/Object;II)V"⟩ ∈ zq_W := zq_inW (zq_t4 (List.mem_of_getElem? (i := 8) rfl)) rfl
theorem zw_808 : Cond.native ⟨"java/lang/System", "arraycopy", "(Ljava/lang/Object;ILjava/lang/Object;II)V"⟩ ∈ zq_W := zq_inW (zq_t4 (List.mem_of_getElem? (i := 9) rfl)) rfl
theorem zw_809 : Cond.methodLink RL 156 yX8_write ∈ zq_W := zq_inW (zq_t4 (List.mem_of_getElem? (i := 10) rfl)) rfl
theorem zw_810 : Cond.instanceMethod yX8_write ∈ zq_W := zq_inW (zq_t4 (List.mem_of_getElem? (i := 11) rfl)) rfl
theorem zw_811 : Cond.selects RX8 yX8_write yX8_write ∈ zq_W := zq_inW (zq_t4 (List.mem_of_getElem? (i := 12) rfl)) rfl
theorem zw_812 : Cond.code yX8_write prog_1_method_36_code 7 (some .int) ∈ zq_W := zq_inW (zq_t4 (List.mem_of_getElem? (i := 13) rfl)) rfl
theorem zw_813 : Cond.methodLink RX8 295 yJ9_min_7cf53 ∈ zq_W := zq_inW (zq_t4 (List.mem_of_getElem? (i := 14) rfl)) rfl
theorem zw_814 : Cond.methodLink RL 160 yX8_count ∈ zq_W := zq_inW (zq_t4 (List.mem_of_getElem? (i := 15) rfl)) rfl
theorem zw_815 : Cond.instanceMethod yX8_count ∈ zq_W := zq_inW (zq_t4 (List.mem_of_getElem? (i := 16) rfl)) rfl
theorem zw_816 : Cond.selects RX8 yX8_count yX8_count ∈ zq_W := zq_inW (zq_t4 (List.mem_of_getElem? (i := 17) rfl)) rfl
theorem zw_817 : Cond.code yX8_count prog_1_method_37_code 2 (some .int) ∈ zq_W := zq_inW (zq_t4 (List.mem_of_getElem? (i := 18) rfl)) rfl
theorem zw_818 : Cond.methodLink RX8 303 yX8_alone ∈ zq_W := zq_inW (zq_t4 (List.mem_of_getElem? (i := 19) rfl)) rfl
theorem zw_819 : Cond.methodLink RX8 306 yX8_emptyHoursOfAll ∈ zq_W := zq_inW (zq_t4 (List.mem_of_getElem? (i := 20) rfl)) rfl
theorem zw_821 : Cond.instanceMethod yX8_emptyHoursOfAll ∈ zq_W := zq_inW (zq_t4 (List.mem_of_getElem? (i := 22) rfl)) rfl
theorem zw_822 : Cond.code yX8_emptyHoursOfAll prog_1_method_53_code 4 (some .int) ∈ zq_W := zq_inW (zq_t4 (List.mem_of_getElem? (i := 23) rfl)) rfl
theorem zw_823 : Cond.methodLink RL 164 yX8_digest ∈ zq_W := zq_inW (zq_t4 (List.mem_of_getElem? (i := 24) rfl)) rfl
theorem zw_824 : Cond.instanceMethod yX8_digest ∈ zq_W := zq_inW (zq_t4 (List.mem_of_getElem? (i := 25) rfl)) rfl
theorem zw_825 : Cond.selects RX8 yX8_digest yX8_digest ∈ zq_W := zq_inW (zq_t4 (List.mem_of_getElem? (i := 26) rfl)) rfl
theorem zw_826 : Cond.code yX8_digest prog_1_method_38_code 4 (some .long) ∈ zq_W := zq_inW (zq_t4 (List.mem_of_getElem? (i := 27) rfl)) rfl
theorem zw_827 : Cond.constantLong RX8 309 (17) ∈ zq_W := zq_inW (zq_t4 (List.mem_of_getElem? (i := 28) rfl)) rfl
theorem zw_828 : Cond.methodLink RX8 311 yX8_count ∈ zq_W := zq_inW (zq_t4 (List.mem_of_getElem? (i := 29) rfl)) rfl
theorem zw_829 : Cond.methodLink RX8 314 yX8_mix ∈ zq_W := zq_inW (zq_t4 (List.mem_of_getElem? (i := 30) rfl)) rfl
theorem zw_830 : Cond.static yX8_mix ∈ zq_W := zq_inW (zq_t4 (List.mem_of_getElem? (i := 31) rfl)) rfl
theorem zw_831 : Cond.code yX8_mix prog_1_method_39_code 4 (some .long) ∈ zq_W := zq_inW (zq_t4 (List.mem_of_getElem? (i := 32) rfl)) rfl
theorem zw_832 : Cond.constantLong RX8 358 (31) ∈ zq_W := zq_inW (zq_t4 (List.mem_of_getElem? (i := 33) rfl)) rfl
theorem zw_833 : Cond.methodLink RX8 318 yX8_fault ∈ zq_W := zq_inW (zq_t4 (List.mem_of_getElem? (i := 34) rfl)) rfl
theorem zw_834 : Cond.methodLink RX8 321 yX8_door ∈ zq_W := zq_inW (zq_t4 (List.mem_of_getElem? (i := 35) rfl)) rfl
theorem zw_835 : Cond.methodLink RX8 324 yX8_empty ∈ zq_W := zq_inW (zq_t4 (List.mem_of_getElem? (i := 36) rfl)) rfl
theorem zw_836 : Cond.methodLink RX8 327 yX8_far ∈ zq_W := zq_inW (zq_t4 (List.mem_of_getElem? (i := 37) rfl)) rfl
theorem zw_837 : Cond.methodLink RX8 330 yX8_mixStays ∈ zq_W := zq_inW (zq_t4 (List.mem_of_getElem? (i := 38) rfl)) rfl
theorem zw_839 : Cond.instanceMethod yX8_mixStays ∈ zq_W := zq_inW (zq_t4 (List.mem_of_getElem? (i := 40) rfl)) rfl
theorem zw_840 : Cond.code yX8_mixStays prog_1_method_40_code 7 (some .long) ∈ zq_W := zq_inW (zq_t4 (List.mem_of_getElem? (i := 41) rfl)) rfl
theorem zw_841 : Cond.methodLink RX8 360 yX8_person ∈ zq_W := zq_inW (zq_t4 (List.mem_of_getElem? (i := 42) rfl)) rfl
theorem zw_842 : Cond.methodLink RX8 363 yX8_at ∈ zq_W := zq_inW (zq_t4 (List.mem_of_getElem? (i := 43) rfl)) rfl
theorem zw_843 : Cond.methodLink RX8 334 yX8_mixGuesses ∈ zq_W := zq_inW (zq_t4 (List.mem_of_getElem? (i := 44) rfl)) rfl
theorem zw_845 : Cond.instanceMethod yX8_mixGuesses ∈ zq_W := zq_inW (zq_t4 (List.mem_of_getElem? (i := 46) rfl)) rfl
theorem zw_846 : Cond.code yX8_mixGuesses prog_1_method_41_code 6 (some .long) ∈ zq_W := zq_inW (zq_t4 (List.mem_of_getElem? (i := 47) rfl)) rfl
theorem zw_847 : Cond.methodLink RX8 366 yX8_sleep ∈ zq_W := zq_inW (zq_t4 (List.mem_of_getElem? (i := 48) rfl)) rfl
theorem zw_848 : Cond.methodLink RX8 369 yX8_was ∈ zq_W := zq_inW (zq_t4 (List.mem_of_getElem? (i := 49) rfl)) rfl
theorem zw_849 : Cond.methodLink RX8 372 yX8_ask ∈ zq_W := zq_inW (zq_t4 (List.mem_of_getElem? (i := 50) rfl)) rfl
theorem zw_850 : Cond.methodLink RX8 375 yX8_chance ∈ zq_W := zq_inW (zq_t4 (List.mem_of_getElem? (i := 51) rfl)) rfl
theorem zw_851 : Cond.methodLink RX8 379 yX8_meet ∈ zq_W := zq_inW (zq_t4 (List.mem_of_getElem? (i := 52) rfl)) rfl
theorem zw_852 : Cond.methodLink RX8 337 yX8_found ∈ zq_W := zq_inW (zq_t4 (List.mem_of_getElem? (i := 53) rfl)) rfl
theorem zw_853 : Cond.methodLink RX8 340 yX8_crowd ∈ zq_W := zq_inW (zq_t4 (List.mem_of_getElem? (i := 54) rfl)) rfl
theorem zw_854 : Cond.methodLink RX8 343 yX8_nice ∈ zq_W := zq_inW (zq_t4 (List.mem_of_getElem? (i := 55) rfl)) rfl
theorem zw_855 : Cond.methodLink RX8 346 yX8_lens ∈ zq_W := zq_inW (zq_t4 (List.mem_of_getElem? (i := 56) rfl)) rfl
theorem zw_856 : Cond.methodLink RX8 349 yX8_spare ∈ zq_W := zq_inW (zq_t4 (List.mem_of_getElem? (i := 57) rfl)) rfl
theorem zw_857 : Cond.methodLink RX8 352 yX8_never ∈ zq_W := zq_inW (zq_t4 (List.mem_of_getElem? (i := 58) rfl)) rfl
theorem zw_858 : Cond.methodLink RX8 355 yX8_weeks ∈ zq_W := zq_inW (zq_t4 (List.mem_of_getElem? (i := 59) rfl)) rfl
theorem zw_865 : Cond.fieldLink RX9 7 "DollsAheadModel" "typed" "[I" ∈ zq_W := zq_inW (zq_t4 (List.mem_of_getElem? (i := 66) rfl)) rfl
theorem zw_866 : Cond.fieldLink RX9 13 "DollsAheadModel" "texts" "[I" ∈ zq_W := zq_inW (zq_t4 (List.mem_of_getElem? (i := 67) rfl)) rfl
theorem zw_867 : Cond.fieldLink RX9 110 "DollsAheadModel" "doors" "I" ∈ zq_W := zq_inW (zq_t4 (List.mem_of_getElem? (i := 68) rfl)) rfl
theorem zw_868 : Cond.fieldLink RX9 16 "DollsAheadModel" "ones" "[I" ∈ zq_W := zq_inW (zq_t4 (List.mem_of_getElem? (i := 69) rfl)) rfl
theorem zw_869 : Cond.fieldLink RX9 19 "DollsAheadModel" "others" "[I" ∈ zq_W := zq_inW (zq_t4 (List.mem_of_getElem? (i := 70) rfl)) rfl
theorem zw_870 : Cond.fieldLink RX9 113 "DollsAheadModel" "people" "I" ∈ zq_W := zq_inW (zq_t4 (List.mem_of_getElem? (i := 71) rfl)) rfl
theorem zw_871 : Cond.fieldLink RX9 22 "DollsAheadModel" "sorts" "[I" ∈ zq_W := zq_inW (zq_t4 (List.mem_of_getElem? (i := 72) rfl)) rfl
theorem zw_872 : Cond.fieldLink RX9 25 "DollsAheadModel" "rooms" "[I" ∈ zq_W := zq_inW (zq_t4 (List.mem_of_getElem? (i := 73) rfl)) rfl
theorem zw_873 : Cond.fieldLink RX9 28 "DollsAheadModel" "beds" "[I" ∈ zq_W := zq_inW (zq_t4 (List.mem_of_getElem? (i := 74) rfl)) rfl
theorem zw_874 : Cond.fieldLink RX9 89 "DollsAheadModel" "aheadTold" "I" ∈ zq_W := zq_inW (zq_t4 (List.mem_of_getElem? (i := 75) rfl)) rfl
theorem zw_875 : Cond.fieldLink RX9 153 "DollsAheadModel" "events" "I" ∈ zq_W := zq_inW (zq_t4 (List.mem_of_getElem? (i := 76) rfl)) rfl
theorem zw_876 : Cond.fieldLink RX9 31 "DollsAheadModel" "eventKind" "[I" ∈ zq_W := zq_inW (zq_t4 (List.mem_of_getElem? (i := 77) rfl)) rfl
theorem zw_877 : Cond.fieldLink RX9 34 "DollsAheadModel" "eventHour" "[I" ∈ zq_W := zq_inW (zq_t4 (List.mem_of_getElem? (i := 78) rfl)) rfl
theorem zw_878 : Cond.fieldLink RX9 37 "DollsAheadModel" "eventNumber" "[I" ∈ zq_W := zq_inW (zq_t4 (List.mem_of_getElem? (i := 79) rfl)) rfl
theorem zw_879 : Cond.fieldLink RX9 166 "DollsAheadModel" "aheadNow" "I" ∈ zq_W := zq_inW (zq_t4 (List.mem_of_getElem? (i := 80) rfl)) rfl
theorem zw_880 : Cond.fieldLink RX9 169 "DollsAheadModel" "eventsNow" "I" ∈ zq_W := zq_inW (zq_t4 (List.mem_of_getElem? (i := 81) rfl)) rfl
theorem zw_881 : Cond.fieldLink RX9 40 "DollsAheadModel" "kindNow" "[I" ∈ zq_W := zq_inW (zq_t4 (List.mem_of_getElem? (i := 82) rfl)) rfl
theorem zw_882 : Cond.fieldLink RX9 43 "DollsAheadModel" "hourNow" "[I" ∈ zq_W := zq_inW (zq_t4 (List.mem_of_getElem? (i := 83) rfl)) rfl
theorem zw_883 : Cond.fieldLink RX9 46 "DollsAheadModel" "numberNow" "[I" ∈ zq_W := zq_inW (zq_t4 (List.mem_of_getElem? (i := 84) rfl)) rfl
theorem zw_884 : Cond.fieldLink RX9 172 "DollsAheadModel" "notEvents" "I" ∈ zq_W := zq_inW (zq_t4 (List.mem_of_getElem? (i := 85) rfl)) rfl
theorem zw_885 : Cond.fieldLink RX9 179 "DollsAheadModel" "ham" "I" ∈ zq_W := zq_inW (zq_t4 (List.mem_of_getElem? (i := 86) rfl)) rfl
theorem zw_886 : Cond.fieldLink RX9 182 "DollsAheadModel" "shutBits" "I" ∈ zq_W := zq_inW (zq_t4 (List.mem_of_getElem? (i := 87) rfl)) rfl
theorem zw_887 : Cond.fieldLink RX9 49 "DollsAheadModel" "hamAt" "[I" ∈ zq_W := zq_inW (zq_t4 (List.mem_of_getElem? (i := 88) rfl)) rfl
theorem zw_888 : Cond.fieldLink RX9 52 "DollsAheadModel" "farAt" "[I" ∈ zq_W := zq_inW (zq_t4 (List.mem_of_getElem? (i := 89) rfl)) rfl
theorem zw_889 : Cond.fieldLink RX9 55 "DollsAheadModel" "roomAt" "[I" ∈ zq_W := zq_inW (zq_t4 (List.mem_of_getElem? (i := 90) rfl)) rfl
theorem zw_890 : Cond.fieldLink RX9 58 "DollsAheadModel" "planRow" "[I" ∈ zq_W := zq_inW (zq_t4 (List.mem_of_getElem? (i := 91) rfl)) rfl
theorem zw_891 : Cond.fieldLink RX9 285 "DollsAheadModel" "seens" "I" ∈ zq_W := zq_inW (zq_t4 (List.mem_of_getElem? (i := 92) rfl)) rfl
theorem zw_892 : Cond.fieldLink RX9 61 "DollsAheadModel" "seenHour" "[I" ∈ zq_W := zq_inW (zq_t4 (List.mem_of_getElem? (i := 93) rfl)) rfl
theorem zw_893 : Cond.fieldLink RX9 64 "DollsAheadModel" "seenWho" "[I" ∈ zq_W := zq_inW (zq_t4 (List.mem_of_getElem? (i := 94) rfl)) rfl
theorem zw_894 : Cond.fieldLink RX9 67 "DollsAheadModel" "seenRoom" "[I" ∈ zq_W := zq_inW (zq_t4 (List.mem_of_getElem? (i := 95) rfl)) rfl
theorem zw_895 : Cond.fieldLink RX9 70 "DollsAheadModel" "roomBy" "[I" ∈ zq_W := zq_inW (zq_t4 (List.mem_of_getElem? (i := 96) rfl)) rfl
theorem zw_896 : Cond.fieldLink RX9 73 "DollsAheadModel" "isThere" "[Z" ∈ zq_W := zq_inW (zq_t4 (List.mem_of_getElem? (i := 97) rfl)) rfl
theorem zw_897 : Cond.fieldLink RX9 77 "DollsAheadModel" "forms" "[I" ∈ zq_W := zq_inW (zq_t4 (List.mem_of_getElem? (i := 98) rfl)) rfl
theorem zw_898 : Cond.fieldLink RX9 80 "DollsAheadModel" "sizes" "[I" ∈ zq_W := zq_inW (zq_t4 (List.mem_of_getElem? (i := 99) rfl)) rfl
theorem zw_899 : Cond.fieldLink RX9 83 "DollsAheadModel" "items" "[I" ∈ zq_W := zq_inW (zq_t4 (List.mem_of_getElem? (i := 100) rfl)) rfl
theorem zw_900 : Cond.fieldLink RX9 86 "DollsAheadModel" "moved" "[I" ∈ zq_W := zq_inW (zq_t4 (List.mem_of_getElem? (i := 101) rfl)) rfl
theorem zw_901 : Cond.fieldLink RX9 320 "DollsAheadModel" "finding" "I" ∈ zq_W := zq_inW (zq_t4 (List.mem_of_getElem? (i := 102) rfl)) rfl
theorem zw_978 : Cond.methodLink RL 17 yX9_type ∈ zq_W := zq_inW (zq_t4 (List.mem_of_getElem? (i := 179) rfl)) rfl
theorem zw_979 : Cond.instanceMethod yX9_type ∈ zq_W := zq_inW (zq_t4 (List.mem_of_getElem? (i := 180) rfl)) rfl
theorem zw_980 : Cond.selects RX9 yX9_type yX9_type ∈ zq_W := zq_inW (zq_t4 (List.mem_of_getElem? (i := 181) rfl)) rfl
theorem zw_981 : Cond.code yX9_type prog_11_method_12_code 3 (some .int) ∈ zq_W := zq_inW (zq_t4 (List.mem_of_getElem? (i := 182) rfl)) rfl
theorem zw_982 : Cond.methodLink RX9 99 yX9_isText ∈ zq_W := zq_inW (zq_t4 (List.mem_of_getElem? (i := 183) rfl)) rfl
theorem zw_983 : Cond.static yX9_isText ∈ zq_W := zq_inW (zq_t4 (List.mem_of_getElem? (i := 184) rfl)) rfl
theorem zw_984 : Cond.code yX9_isText prog_11_method_7_code 1 (some .boolean) ∈ zq_W := zq_inW (zq_t4 (List.mem_of_getElem? (i := 185) rfl)) rfl
theorem zw_985 : Cond.methodLink RX9 95 yX9_in ∈ zq_W := zq_inW (zq_t4 (List.mem_of_getElem? (i := 186) rfl)) rfl
theorem zw_986 : Cond.static yX9_in ∈ zq_W := zq_inW (zq_t4 (List.mem_of_getElem? (i := 187) rfl)) rfl
theorem zw_987 : Cond.code yX9_in prog_11_method_3_code 3 (some .boolean) ∈ zq_W := zq_inW (zq_t4 (List.mem_of_getElem? (i := 188) rfl)) rfl
theorem zw_988 : Cond.methodLink RL 22 yX9_wipe ∈ zq_W := zq_inW (zq_t4 (List.mem_of_getElem? (i := 189) rfl)) rfl
theorem zw_989 : Cond.instanceMethod yX9_wipe ∈ zq_W := zq_inW (zq_t4 (List.mem_of_getElem? (i := 190) rfl)) rfl
theorem zw_990 : Cond.selects RX9 yX9_wipe yX9_wipe ∈ zq_W := zq_inW (zq_t4 (List.mem_of_getElem? (i := 191) rfl)) rfl
theorem zw_991 : Cond.code yX9_wipe prog_11_method_13_code 3 (some .int) ∈ zq_W := zq_inW (zq_t4 (List.mem_of_getElem? (i := 192) rfl)) rfl
theorem zw_992 : Cond.methodLink RL 26 yX9_undo ∈ zq_W := zq_inW (zq_t4 (List.mem_of_getElem? (i := 193) rfl)) rfl
theorem zw_993 : Cond.instanceMethod yX9_undo ∈ zq_W := zq_inW (zq_t4 (List.mem_of_getElem? (i := 194) rfl)) rfl
theorem zw_994 : Cond.selects RX9 yX9_undo yX9_undo ∈ zq_W := zq_inW (zq_t4 (List.mem_of_getElem? (i := 195) rfl)) rfl
theorem zw_995 : Cond.code yX9_undo prog_11_method_14_code 2 (some .int) ∈ zq_W := zq_inW (zq_t4 (List.mem_of_getElem? (i := 196) rfl)) rfl
theorem zw_996 : Cond.methodLink RL 30 yX9_fault ∈ zq_W := zq_inW (zq_t4 (List.mem_of_getElem? (i := 197) rfl)) rfl
theorem zw_997 : Cond.instanceMethod yX9_fault ∈ zq_W := zq_inW (zq_t4 (List.mem_of_getElem? (i := 198) rfl)) rfl
theorem zw_998 : Cond.selects RX9 yX9_fault yX9_fault ∈ zq_W := zq_inW (zq_t4 (List.mem_of_getElem? (i := 199) rfl)) rfl
theorem zw_999 : Cond.code yX9_fault prog_11_method_21_code 2 (some .int) ∈ zq_W := zq_inW (zq_t4 (List.mem_of_getElem? (i := 200) rfl)) rfl
theorem zw_1000 : Cond.methodLink RX9 126 yX9_faultOf ∈ zq_W := zq_inW (zq_t4 (List.mem_of_getElem? (i := 201) rfl)) rfl
theorem zw_1002 : Cond.instanceMethod yX9_faultOf ∈ zq_W := zq_inW (zq_t4 (List.mem_of_getElem? (i := 203) rfl)) rfl
theorem zw_1003 : Cond.code yX9_faultOf prog_11_method_19_code 4 (some .int) ∈ zq_W := zq_inW (zq_t4 (List.mem_of_getElem? (i := 204) rfl)) rfl
theorem zw_1004 : Cond.methodLink RX9 122 yX9_readsParts ∈ zq_W := zq_inW (zq_t4 (List.mem_of_getElem? (i := 205) rfl)) rfl
theorem zw_1006 : Cond.instanceMethod yX9_readsParts ∈ zq_W := zq_inW (zq_t4 (List.mem_of_getElem? (i := 207) rfl)) rfl
theorem zw_1007 : Cond.code yX9_readsParts prog_11_method_18_code 6 (some .int) ∈ zq_W := zq_inW (zq_t4 (List.mem_of_getElem? (i := 208) rfl)) rfl
theorem zw_1008 : Cond.methodLink RX9 116 yX9_readsDoor ∈ zq_W := zq_inW (zq_t4 (List.mem_of_getElem? (i := 209) rfl)) rfl
theorem zw_1010 : Cond.instanceMethod yX9_readsDoor ∈ zq_W := zq_inW (zq_t4 (List.mem_of_getElem? (i := 211) rfl)) rfl
theorem zw_1011 : Cond.code yX9_readsDoor prog_11_method_16_code 5 (some .int) ∈ zq_W := zq_inW (zq_t4 (List.mem_of_getElem? (i := 212) rfl)) rfl
theorem zw_1012 : Cond.methodLink RX9 103 yX9_byteAt ∈ zq_W := zq_inW (zq_t4 (List.mem_of_getElem? (i := 213) rfl)) rfl
theorem zw_1014 : Cond.instanceMethod yX9_byteAt ∈ zq_W := zq_inW (zq_t4 (List.mem_of_getElem? (i := 215) rfl)) rfl
theorem zw_1015 : Cond.code yX9_byteAt prog_11_method_15_code 3 (some .int) ∈ zq_W := zq_inW (zq_t4 (List.mem_of_getElem? (i := 216) rfl)) rfl
theorem zw_1016 : Cond.methodLink RX9 107 yX9_isEight ∈ zq_W := zq_inW (zq_t4 (List.mem_of_getElem? (i := 217) rfl)) rfl
theorem zw_1017 : Cond.static yX9_isEight ∈ zq_W := zq_inW (zq_t4 (List.mem_of_getElem? (i := 218) rfl)) rfl
theorem zw_1018 : Cond.code yX9_isEight prog_11_method_11_code 1 (some .boolean) ∈ zq_W := zq_inW (zq_t4 (List.mem_of_getElem? (i := 219) rfl)) rfl
theorem zw_1019 : Cond.methodLink RX9 119 yX9_readsPerson ∈ zq_W := zq_inW (zq_t4 (List.mem_of_getElem? (i := 220) rfl)) rfl
theorem zw_1021 : Cond.instanceMethod yX9_readsPerson ∈ zq_W := zq_inW (zq_t4 (List.mem_of_getElem? (i := 222) rfl)) rfl
theorem zw_1022 : Cond.code yX9_readsPerson prog_11_method_17_code 7 (some .int) ∈ zq_W := zq_inW (zq_t4 (List.mem_of_getElem? (i := 223) rfl)) rfl
theorem zw_1023 : Cond.methodLink RL 34 yX9_door ∈ zq_W := zq_inW (zq_t4 (List.mem_of_getElem? (i := 224) rfl)) rfl
theorem zw_1024 : Cond.instanceMethod yX9_door ∈ zq_W := zq_inW (zq_t4 (List.mem_of_getElem? (i := 225) rfl)) rfl
theorem zw_1025 : Cond.selects RX9 yX9_door yX9_door ∈ zq_W := zq_inW (zq_t4 (List.mem_of_getElem? (i := 226) rfl)) rfl
theorem zw_1026 : Cond.code yX9_door prog_11_method_25_code 3 (some .int) ∈ zq_W := zq_inW (zq_t4 (List.mem_of_getElem? (i := 227) rfl)) rfl
theorem zw_1027 : Cond.methodLink RX9 132 yX9_isDoor ∈ zq_W := zq_inW (zq_t4 (List.mem_of_getElem? (i := 228) rfl)) rfl
theorem zw_1029 : Cond.instanceMethod yX9_isDoor ∈ zq_W := zq_inW (zq_t4 (List.mem_of_getElem? (i := 230) rfl)) rfl
theorem zw_1030 : Cond.code yX9_isDoor prog_11_method_22_code 2 (some .boolean) ∈ zq_W := zq_inW (zq_t4 (List.mem_of_getElem? (i := 231) rfl)) rfl
theorem zw_1031 : Cond.methodLink RX9 129 yX9_reads ∈ zq_W := zq_inW (zq_t4 (List.mem_of_getElem? (i := 232) rfl)) rfl
theorem zw_1033 : Cond.instanceMethod yX9_reads ∈ zq_W := zq_inW (zq_t4 (List.mem_of_getElem? (i := 234) rfl)) rfl
theorem zw_1034 : Cond.code yX9_reads prog_11_method_20_code 2 none ∈ zq_W := zq_inW (zq_t4 (List.mem_of_getElem? (i := 235) rfl)) rfl
theorem zw_1035 : Cond.methodLink RX9 135 yX9_isTwo ∈ zq_W := zq_inW (zq_t4 (List.mem_of_getElem? (i := 236) rfl)) rfl
theorem zw_1036 : Cond.static yX9_isTwo ∈ zq_W := zq_inW (zq_t4 (List.mem_of_getElem? (i := 237) rfl)) rfl
theorem zw_1037 : Cond.code yX9_isTwo prog_11_method_9_code 1 (some .boolean) ∈ zq_W := zq_inW (zq_t4 (List.mem_of_getElem? (i := 238) rfl)) rfl
theorem zw_1038 : Cond.methodLink RX9 138 yX9_doorOf ∈ zq_W := zq_inW (zq_t4 (List.mem_of_getElem? (i := 239) rfl)) rfl
theorem zw_1040 : Cond.instanceMethod yX9_doorOf ∈ zq_W := zq_inW (zq_t5 (List.mem_of_getElem? (i := 1) rfl)) rfl
theorem zw_1041 : Cond.code yX9_doorOf prog_11_method_24_code 3 (some .int) ∈ zq_W := zq_inW (zq_t5 (List.mem_of_getElem? (i := 2) rfl)) rfl
theorem zw_1042 : Cond.methodLink RL 38 yX9_person ∈ zq_W := zq_inW (zq_t5 (List.mem_of_getElem? (i := 3) rfl)) rfl
theorem zw_1043 : Cond.instanceMethod yX9_person ∈ zq_W := zq_inW (zq_t5 (List.mem_of_getElem? (i := 4) rfl)) rfl
theorem zw_1044 : Cond.selects RX9 yX9_person yX9_person ∈ zq_W := zq_inW (zq_t5 (List.mem_of_getElem? (i := 5) rfl)) rfl
theorem zw_1045 : Cond.code yX9_person prog_11_method_27_code 3 (some .int) ∈ zq_W := zq_inW (zq_t5 (List.mem_of_getElem? (i := 6) rfl)) rfl
theorem zw_1046 : Cond.methodLink RX9 141 yX9_isPerson ∈ zq_W := zq_inW (zq_t5 (List.mem_of_getElem? (i := 7) rfl)) rfl
theorem zw_1048 : Cond.instanceMethod yX9_isPerson ∈ zq_W := zq_inW (zq_t5 (List.mem_of_getElem? (i := 9) rfl)) rfl
theorem zw_1049 : Cond.code yX9_isPerson prog_11_method_23_code 2 (some .boolean) ∈ zq_W := zq_inW (zq_t5 (List.mem_of_getElem? (i := 10) rfl)) rfl
theorem zw_1050 : Cond.methodLink RX9 144 yX9_isThree ∈ zq_W := zq_inW (zq_t5 (List.mem_of_getElem? (i := 11) rfl)) rfl
theorem zw_1051 : Cond.static yX9_isThree ∈ zq_W := zq_inW (zq_t5 (List.mem_of_getElem? (i := 12) rfl)) rfl
theorem zw_1052 : Cond.code yX9_isThree prog_11_method_10_code 1 (some .boolean) ∈ zq_W := zq_inW (zq_t5 (List.mem_of_getElem? (i := 13) rfl)) rfl
theorem zw_1053 : Cond.methodLink RX9 147 yX9_personOf ∈ zq_W := zq_inW (zq_t5 (List.mem_of_getElem? (i := 14) rfl)) rfl
theorem zw_1055 : Cond.instanceMethod yX9_personOf ∈ zq_W := zq_inW (zq_t5 (List.mem_of_getElem? (i := 16) rfl)) rfl
theorem zw_1056 : Cond.code yX9_personOf prog_11_method_26_code 3 (some .int) ∈ zq_W := zq_inW (zq_t5 (List.mem_of_getElem? (i := 17) rfl)) rfl
theorem zw_1057 : Cond.methodLink RL 42 yX9_ahead ∈ zq_W := zq_inW (zq_t5 (List.mem_of_getElem? (i := 18) rfl)) rfl
theorem zw_1058 : Cond.instanceMethod yX9_ahead ∈ zq_W := zq_inW (zq_t5 (List.mem_of_getElem? (i := 19) rfl)) rfl
theorem zw_1059 : Cond.selects RX9 yX9_ahead yX9_ahead ∈ zq_W := zq_inW (zq_t5 (List.mem_of_getElem? (i := 20) rfl)) rfl
theorem zw_1060 : Cond.code yX9_ahead prog_11_method_28_code 3 (some .int) ∈ zq_W := zq_inW (zq_t5 (List.mem_of_getElem? (i := 21) rfl)) rfl
theorem zw_1061 : Cond.methodLink RL 47 yX9_event ∈ zq_W := zq_inW (zq_t5 (List.mem_of_getElem? (i := 22) rfl)) rfl
theorem zw_1062 : Cond.instanceMethod yX9_event ∈ zq_W := zq_inW (zq_t5 (List.mem_of_getElem? (i := 23) rfl)) rfl
theorem zw_1063 : Cond.selects RX9 yX9_event yX9_event ∈ zq_W := zq_inW (zq_t5 (List.mem_of_getElem? (i := 24) rfl)) rfl
theorem zw_1064 : Cond.code yX9_event prog_11_method_29_code 4 (some .int) ∈ zq_W := zq_inW (zq_t5 (List.mem_of_getElem? (i := 25) rfl)) rfl
theorem zw_1065 : Cond.methodLink RX9 150 yX9_isHour ∈ zq_W := zq_inW (zq_t5 (List.mem_of_getElem? (i := 26) rfl)) rfl
theorem zw_1066 : Cond.static yX9_isHour ∈ zq_W := zq_inW (zq_t5 (List.mem_of_getElem? (i := 27) rfl)) rfl
theorem zw_1067 : Cond.code yX9_isHour prog_11_method_8_code 1 (some .boolean) ∈ zq_W := zq_inW (zq_t5 (List.mem_of_getElem? (i := 28) rfl)) rfl
theorem zw_1068 : Cond.methodLink RL 52 yX9_back ∈ zq_W := zq_inW (zq_t5 (List.mem_of_getElem? (i := 29) rfl)) rfl
theorem zw_1069 : Cond.instanceMethod yX9_back ∈ zq_W := zq_inW (zq_t5 (List.mem_of_getElem? (i := 30) rfl)) rfl
theorem zw_1070 : Cond.selects RX9 yX9_back yX9_back ∈ zq_W := zq_inW (zq_t5 (List.mem_of_getElem? (i := 31) rfl)) rfl
theorem zw_1071 : Cond.code yX9_back prog_11_method_30_code 1 (some .int) ∈ zq_W := zq_inW (zq_t5 (List.mem_of_getElem? (i := 32) rfl)) rfl
theorem zw_1072 : Cond.methodLink RL 56 yX9_read ∈ zq_W := zq_inW (zq_t5 (List.mem_of_getElem? (i := 33) rfl)) rfl
theorem zw_1073 : Cond.instanceMethod yX9_read ∈ zq_W := zq_inW (zq_t5 (List.mem_of_getElem? (i := 34) rfl)) rfl
theorem zw_1074 : Cond.selects RX9 yX9_read yX9_read ∈ zq_W := zq_inW (zq_t5 (List.mem_of_getElem? (i := 35) rfl)) rfl
theorem zw_1075 : Cond.code yX9_read prog_11_method_31_code 4 (some .int) ∈ zq_W := zq_inW (zq_t5 (List.mem_of_getElem? (i := 36) rfl)) rfl
theorem zw_1076 : Cond.methodLink RX9 156 yX9_isSheet ∈ zq_W := zq_inW (zq_t5 (List.mem_of_getElem? (i := 37) rfl)) rfl
theorem zw_1077 : Cond.static yX9_isSheet ∈ zq_W := zq_inW (zq_t5 (List.mem_of_getElem? (i := 38) rfl)) rfl
theorem zw_1078 : Cond.code yX9_isSheet prog_11_method_91_code 1 (some .boolean) ∈ zq_W := zq_inW (zq_t5 (List.mem_of_getElem? (i := 39) rfl)) rfl
theorem zw_1079 : Cond.methodLink RX9 159 yX9_meets ∈ zq_W := zq_inW (zq_t5 (List.mem_of_getElem? (i := 40) rfl)) rfl
theorem zw_1081 : Cond.instanceMethod yX9_meets ∈ zq_W := zq_inW (zq_t5 (List.mem_of_getElem? (i := 42) rfl)) rfl
theorem zw_1082 : Cond.code yX9_meets prog_11_method_90_code 2 (some .int) ∈ zq_W := zq_inW (zq_t5 (List.mem_of_getElem? (i := 43) rfl)) rfl
theorem zw_1083 : Cond.methodLink RX9 162 yX9_event ∈ zq_W := zq_inW (zq_t5 (List.mem_of_getElem? (i := 44) rfl)) rfl
theorem zw_1084 : Cond.methodLink RL 60 yX9_at ∈ zq_W := zq_inW (zq_t5 (List.mem_of_getElem? (i := 45) rfl)) rfl
theorem zw_1085 : Cond.instanceMethod yX9_at ∈ zq_W := zq_inW (zq_t5 (List.mem_of_getElem? (i := 46) rfl)) rfl
theorem zw_1086 : Cond.selects RX9 yX9_at yX9_at ∈ zq_W := zq_inW (zq_t5 (List.mem_of_getElem? (i := 47) rfl)) rfl
theorem zw_1087 : Cond.code yX9_at prog_11_method_43_code 4 (some .int) ∈ zq_W := zq_inW (zq_t5 (List.mem_of_getElem? (i := 48) rfl)) rfl
theorem zw_1088 : Cond.methodLink RX9 219 yX9_atOf ∈ zq_W := zq_inW (zq_t5 (List.mem_of_getElem? (i := 49) rfl)) rfl
theorem zw_1090 : Cond.instanceMethod yX9_atOf ∈ zq_W := zq_inW (zq_t5 (List.mem_of_getElem? (i := 51) rfl)) rfl
theorem zw_1091 : Cond.code yX9_atOf prog_11_method_42_code 5 (some .int) ∈ zq_W := zq_inW (zq_t5 (List.mem_of_getElem? (i := 52) rfl)) rfl
theorem zw_1092 : Cond.methodLink RX9 216 yX9_runsTold ∈ zq_W := zq_inW (zq_t5 (List.mem_of_getElem? (i := 53) rfl)) rfl
theorem zw_1094 : Cond.instanceMethod yX9_runsTold ∈ zq_W := zq_inW (zq_t5 (List.mem_of_getElem? (i := 55) rfl)) rfl
theorem zw_1095 : Cond.code yX9_runsTold prog_11_method_41_code 1 none ∈ zq_W := zq_inW (zq_t5 (List.mem_of_getElem? (i := 56) rfl)) rfl
theorem zw_1096 : Cond.methodLink RX9 210 yX9_asTold ∈ zq_W := zq_inW (zq_t5 (List.mem_of_getElem? (i := 57) rfl)) rfl
theorem zw_1098 : Cond.instanceMethod yX9_asTold ∈ zq_W := zq_inW (zq_t5 (List.mem_of_getElem? (i := 59) rfl)) rfl
theorem zw_1099 : Cond.code yX9_asTold prog_11_method_32_code 2 none ∈ zq_W := zq_inW (zq_t5 (List.mem_of_getElem? (i := 60) rfl)) rfl
theorem zw_1100 : Cond.methodLink RX9 213 yX9_runs ∈ zq_W := zq_inW (zq_t5 (List.mem_of_getElem? (i := 61) rfl)) rfl
theorem zw_1102 : Cond.instanceMethod yX9_runs ∈ zq_W := zq_inW (zq_t5 (List.mem_of_getElem? (i := 63) rfl)) rfl
theorem zw_1103 : Cond.code yX9_runs prog_11_method_40_code 3 none ∈ zq_W := zq_inW (zq_t5 (List.mem_of_getElem? (i := 64) rfl)) rfl
theorem zw_1104 : Cond.methodLink RX9 195 yX9_befalls ∈ zq_W := zq_inW (zq_t5 (List.mem_of_getElem? (i := 65) rfl)) rfl
theorem zw_1106 : Cond.instanceMethod yX9_befalls ∈ zq_W := zq_inW (zq_t5 (List.mem_of_getElem? (i := 67) rfl)) rfl
theorem zw_1107 : Cond.code yX9_befalls prog_11_method_33_code 3 none ∈ zq_W := zq_inW (zq_t5 (List.mem_of_getElem? (i := 68) rfl)) rfl
theorem zw_1108 : Cond.methodLink RX9 175 yX9_isIn ∈ zq_W := zq_inW (zq_t5 (List.mem_of_getElem? (i := 69) rfl)) rfl
theorem zw_1109 : Cond.static yX9_isIn ∈ zq_W := zq_inW (zq_t5 (List.mem_of_getElem? (i := 70) rfl)) rfl
theorem zw_1110 : Cond.code yX9_isIn prog_11_method_4_code 2 (some .boolean) ∈ zq_W := zq_inW (zq_t5 (List.mem_of_getElem? (i := 71) rfl)) rfl
theorem zw_1111 : Cond.methodLink RX9 199 yX9_measures ∈ zq_W := zq_inW (zq_t5 (List.mem_of_getElem? (i := 72) rfl)) rfl
theorem zw_1113 : Cond.instanceMethod yX9_measures ∈ zq_W := zq_inW (zq_t5 (List.mem_of_getElem? (i := 74) rfl)) rfl
theorem zw_1114 : Cond.code yX9_measures prog_11_method_35_code 6 none ∈ zq_W := zq_inW (zq_t5 (List.mem_of_getElem? (i := 75) rfl)) rfl
theorem zw_1115 : Cond.methodLink RX9 185 yX9_nears ∈ zq_W := zq_inW (zq_t5 (List.mem_of_getElem? (i := 76) rfl)) rfl
theorem zw_1117 : Cond.instanceMethod yX9_nears ∈ zq_W := zq_inW (zq_t5 (List.mem_of_getElem? (i := 78) rfl)) rfl
theorem zw_1118 : Cond.code yX9_nears prog_11_method_34_code 6 none ∈ zq_W := zq_inW (zq_t5 (List.mem_of_getElem? (i := 79) rfl)) rfl
theorem zw_1119 : Cond.methodLink RX9 202 yX9_leastChild ∈ zq_W := zq_inW (zq_t5 (List.mem_of_getElem? (i := 80) rfl)) rfl
theorem zw_1121 : Cond.instanceMethod yX9_leastChild ∈ zq_W := zq_inW (zq_t5 (List.mem_of_getElem? (i := 82) rfl)) rfl
theorem zw_1122 : Cond.code yX9_leastChild prog_11_method_38_code 3 (some .int) ∈ zq_W := zq_inW (zq_t5 (List.mem_of_getElem? (i := 83) rfl)) rfl
theorem zw_1123 : Cond.methodLink RX9 206 yX9_goesThrough ∈ zq_W := zq_inW (zq_t5 (List.mem_of_getElem? (i := 84) rfl)) rfl
theorem zw_1125 : Cond.instanceMethod yX9_goesThrough ∈ zq_W := zq_inW (zq_t5 (List.mem_of_getElem? (i := 86) rfl)) rfl
theorem zw_1126 : Cond.code yX9_goesThrough prog_11_method_39_code 8 none ∈ zq_W := zq_inW (zq_t5 (List.mem_of_getElem? (i := 87) rfl)) rfl
theorem zw_1127 : Cond.methodLink RX9 192 yX9_step ∈ zq_W := zq_inW (zq_t5 (List.mem_of_getElem? (i := 88) rfl)) rfl
theorem zw_1129 : Cond.instanceMethod yX9_step ∈ zq_W := zq_inW (zq_t5 (List.mem_of_getElem? (i := 90) rfl)) rfl
theorem zw_1130 : Cond.code yX9_step prog_11_method_37_code 8 (some .int) ∈ zq_W := zq_inW (zq_t5 (List.mem_of_getElem? (i := 91) rfl)) rfl
theorem zw_1131 : Cond.methodLink RX9 189 yX9_isBeside ∈ zq_W := zq_inW (zq_t5 (List.mem_of_getElem? (i := 92) rfl)) rfl
theorem zw_1133 : Cond.instanceMethod yX9_isBeside ∈ zq_W := zq_inW (zq_t5 (List.mem_of_getElem? (i := 94) rfl)) rfl
theorem zw_1134 : Cond.code yX9_isBeside prog_11_method_36_code 4 (some .boolean) ∈ zq_W := zq_inW (zq_t5 (List.mem_of_getElem? (i := 95) rfl)) rfl
theorem zw_1135 : Cond.methodLink RL 64 yX9_room ∈ zq_W := zq_inW (zq_t5 (List.mem_of_getElem? (i := 96) rfl)) rfl
theorem zw_1136 : Cond.instanceMethod yX9_room ∈ zq_W := zq_inW (zq_t5 (List.mem_of_getElem? (i := 97) rfl)) rfl
theorem zw_1137 : Cond.selects RX9 yX9_room yX9_room ∈ zq_W := zq_inW (zq_t5 (List.mem_of_getElem? (i := 98) rfl)) rfl
theorem zw_1138 : Cond.code yX9_room prog_11_method_46_code 3 (some .int) ∈ zq_W := zq_inW (zq_t5 (List.mem_of_getElem? (i := 99) rfl)) rfl
theorem zw_1139 : Cond.methodLink RX9 225 yX9_roomOf ∈ zq_W := zq_inW (zq_t5 (List.mem_of_getElem? (i := 100) rfl)) rfl
theorem zw_1141 : Cond.instanceMethod yX9_roomOf ∈ zq_W := zq_inW (zq_t5 (List.mem_of_getElem? (i := 102) rfl)) rfl
theorem zw_1142 : Cond.code yX9_roomOf prog_11_method_45_code 3 (some .int) ∈ zq_W := zq_inW (zq_t5 (List.mem_of_getElem? (i := 103) rfl)) rfl
theorem zw_1143 : Cond.methodLink RX9 222 yX9_inRoom ∈ zq_W := zq_inW (zq_t5 (List.mem_of_getElem? (i := 104) rfl)) rfl
theorem zw_1145 : Cond.instanceMethod yX9_inRoom ∈ zq_W := zq_inW (zq_t5 (List.mem_of_getElem? (i := 106) rfl)) rfl
theorem zw_1146 : Cond.code yX9_inRoom prog_11_method_44_code 5 (some .int) ∈ zq_W := zq_inW (zq_t5 (List.mem_of_getElem? (i := 107) rfl)) rfl
theorem zw_1147 : Cond.methodLink RL 68 yX9_far ∈ zq_W := zq_inW (zq_t5 (List.mem_of_getElem? (i := 108) rfl)) rfl
theorem zw_1148 : Cond.instanceMethod yX9_far ∈ zq_W := zq_inW (zq_t5 (List.mem_of_getElem? (i := 109) rfl)) rfl
theorem zw_1149 : Cond.selects RX9 yX9_far yX9_far ∈ zq_W := zq_inW (zq_t5 (List.mem_of_getElem? (i := 110) rfl)) rfl
theorem zw_1150 : Cond.code yX9_far prog_11_method_48_code 4 (some .int) ∈ zq_W := zq_inW (zq_t5 (List.mem_of_getElem? (i := 111) rfl)) rfl
theorem zw_1151 : Cond.methodLink RX9 228 yX9_farOf ∈ zq_W := zq_inW (zq_t5 (List.mem_of_getElem? (i := 112) rfl)) rfl
theorem zw_1153 : Cond.instanceMethod yX9_farOf ∈ zq_W := zq_inW (zq_t5 (List.mem_of_getElem? (i := 114) rfl)) rfl
theorem zw_1154 : Cond.code yX9_farOf prog_11_method_47_code 5 (some .int) ∈ zq_W := zq_inW (zq_t5 (List.mem_of_getElem? (i := 115) rfl)) rfl
theorem zw_1155 : Cond.methodLink RL 72 yX9_meet ∈ zq_W := zq_inW (zq_t5 (List.mem_of_getElem? (i := 116) rfl)) rfl
theorem zw_1156 : Cond.instanceMethod yX9_meet ∈ zq_W := zq_inW (zq_t5 (List.mem_of_getElem? (i := 117) rfl)) rfl
theorem zw_1157 : Cond.selects RX9 yX9_meet yX9_meet ∈ zq_W := zq_inW (zq_t5 (List.mem_of_getElem? (i := 118) rfl)) rfl
theorem zw_1158 : Cond.code yX9_meet prog_11_method_50_code 3 (some .int) ∈ zq_W := zq_inW (zq_t5 (List.mem_of_getElem? (i := 119) rfl)) rfl
theorem zw_1159 : Cond.methodLink RX9 231 yX9_metOf ∈ zq_W := zq_inW (zq_t5 (List.mem_of_getElem? (i := 120) rfl)) rfl
theorem zw_1161 : Cond.instanceMethod yX9_metOf ∈ zq_W := zq_inW (zq_t5 (List.mem_of_getElem? (i := 122) rfl)) rfl
theorem zw_1162 : Cond.code yX9_metOf prog_11_method_49_code 5 (some .int) ∈ zq_W := zq_inW (zq_t5 (List.mem_of_getElem? (i := 123) rfl)) rfl
theorem zw_1163 : Cond.methodLink RL 76 yX9_empty ∈ zq_W := zq_inW (zq_t5 (List.mem_of_getElem? (i := 124) rfl)) rfl
theorem zw_1164 : Cond.instanceMethod yX9_empty ∈ zq_W := zq_inW (zq_t5 (List.mem_of_getElem? (i := 125) rfl)) rfl
theorem zw_1165 : Cond.selects RX9 yX9_empty yX9_empty ∈ zq_W := zq_inW (zq_t5 (List.mem_of_getElem? (i := 126) rfl)) rfl
theorem zw_1166 : Cond.code yX9_empty prog_11_method_53_code 2 (some .int) ∈ zq_W := zq_inW (zq_t5 (List.mem_of_getElem? (i := 127) rfl)) rfl
theorem zw_1167 : Cond.methodLink RX9 237 yX9_emptyOf ∈ zq_W := zq_inW (zq_t5 (List.mem_of_getElem? (i := 128) rfl)) rfl
theorem zw_1169 : Cond.instanceMethod yX9_emptyOf ∈ zq_W := zq_inW (zq_t5 (List.mem_of_getElem? (i := 130) rfl)) rfl
theorem zw_1170 : Cond.code yX9_emptyOf prog_11_method_52_code 2 (some .int) ∈ zq_W := zq_inW (zq_t5 (List.mem_of_getElem? (i := 131) rfl)) rfl
theorem zw_1171 : Cond.methodLink RX9 234 yX9_emptyNow ∈ zq_W := zq_inW (zq_t5 (List.mem_of_getElem? (i := 132) rfl)) rfl
theorem zw_1173 : Cond.instanceMethod yX9_emptyNow ∈ zq_W := zq_inW (zq_t5 (List.mem_of_getElem? (i := 134) rfl)) rfl
theorem zw_1174 : Cond.code yX9_emptyNow prog_11_method_51_code 4 (some .int) ∈ zq_W := zq_inW (zq_t5 (List.mem_of_getElem? (i := 135) rfl)) rfl
theorem zw_1175 : Cond.methodLink RL 80 yX9_found ∈ zq_W := zq_inW (zq_t5 (List.mem_of_getElem? (i := 136) rfl)) rfl
theorem zw_1176 : Cond.instanceMethod yX9_found ∈ zq_W := zq_inW (zq_t5 (List.mem_of_getElem? (i := 137) rfl)) rfl
theorem zw_1177 : Cond.selects RX9 yX9_found yX9_found ∈ zq_W := zq_inW (zq_t5 (List.mem_of_getElem? (i := 138) rfl)) rfl
theorem zw_1178 : Cond.code yX9_found prog_11_method_56_code 2 (some .int) ∈ zq_W := zq_inW (zq_t5 (List.mem_of_getElem? (i := 139) rfl)) rfl
theorem zw_1179 : Cond.methodLink RX9 243 yX9_foundOf ∈ zq_W := zq_inW (zq_t5 (List.mem_of_getElem? (i := 140) rfl)) rfl
theorem zw_1181 : Cond.instanceMethod yX9_foundOf ∈ zq_W := zq_inW (zq_t5 (List.mem_of_getElem? (i := 142) rfl)) rfl
theorem zw_1182 : Cond.code yX9_foundOf prog_11_method_55_code 2 (some .int) ∈ zq_W := zq_inW (zq_t5 (List.mem_of_getElem? (i := 143) rfl)) rfl
theorem zw_1183 : Cond.methodLink RX9 240 yX9_foundNow ∈ zq_W := zq_inW (zq_t5 (List.mem_of_getElem? (i := 144) rfl)) rfl
theorem zw_1185 : Cond.instanceMethod yX9_foundNow ∈ zq_W := zq_inW (zq_t5 (List.mem_of_getElem? (i := 146) rfl)) rfl
theorem zw_1186 : Cond.code yX9_foundNow prog_11_method_54_code 5 (some .int) ∈ zq_W := zq_inW (zq_t5 (List.mem_of_getElem? (i := 147) rfl)) rfl
theorem zw_1187 : Cond.methodLink RL 84 yX9_crowd ∈ zq_W := zq_inW (zq_t5 (List.mem_of_getElem? (i := 148) rfl)) rfl
theorem zw_1188 : Cond.instanceMethod yX9_crowd ∈ zq_W := zq_inW (zq_t5 (List.mem_of_getElem? (i := 149) rfl)) rfl
theorem zw_1189 : Cond.selects RX9 yX9_crowd yX9_crowd ∈ zq_W := zq_inW (zq_t5 (List.mem_of_getElem? (i := 150) rfl)) rfl
theorem zw_1190 : Cond.code yX9_crowd prog_11_method_59_code 2 (some .int) ∈ zq_W := zq_inW (zq_t5 (List.mem_of_getElem? (i := 151) rfl)) rfl
theorem zw_1191 : Cond.methodLink RX9 249 yX9_crowdOf ∈ zq_W := zq_inW (zq_t5 (List.mem_of_getElem? (i := 152) rfl)) rfl
theorem zw_1193 : Cond.instanceMethod yX9_crowdOf ∈ zq_W := zq_inW (zq_t5 (List.mem_of_getElem? (i := 154) rfl)) rfl
theorem zw_1194 : Cond.code yX9_crowdOf prog_11_method_58_code 6 (some .int) ∈ zq_W := zq_inW (zq_t5 (List.mem_of_getElem? (i := 155) rfl)) rfl
theorem zw_1195 : Cond.methodLink RX9 246 yX9_many ∈ zq_W := zq_inW (zq_t5 (List.mem_of_getElem? (i := 156) rfl)) rfl
theorem zw_1197 : Cond.instanceMethod yX9_many ∈ zq_W := zq_inW (zq_t5 (List.mem_of_getElem? (i := 158) rfl)) rfl
theorem zw_1198 : Cond.code yX9_many prog_11_method_57_code 4 (some .int) ∈ zq_W := zq_inW (zq_t5 (List.mem_of_getElem? (i := 159) rfl)) rfl
theorem zw_1199 : Cond.methodLink RL 88 yX9_alone ∈ zq_W := zq_inW (zq_t5 (List.mem_of_getElem? (i := 160) rfl)) rfl
theorem zw_1200 : Cond.instanceMethod yX9_alone ∈ zq_W := zq_inW (zq_t5 (List.mem_of_getElem? (i := 161) rfl)) rfl
theorem zw_1201 : Cond.selects RX9 yX9_alone yX9_alone ∈ zq_W := zq_inW (zq_t5 (List.mem_of_getElem? (i := 162) rfl)) rfl
theorem zw_1202 : Cond.code yX9_alone prog_11_method_63_code 1 (some .int) ∈ zq_W := zq_inW (zq_t5 (List.mem_of_getElem? (i := 163) rfl)) rfl
theorem zw_1203 : Cond.methodLink RX9 258 yX9_aloneOf ∈ zq_W := zq_inW (zq_t5 (List.mem_of_getElem? (i := 164) rfl)) rfl
theorem zw_1205 : Cond.instanceMethod yX9_aloneOf ∈ zq_W := zq_inW (zq_t5 (List.mem_of_getElem? (i := 166) rfl)) rfl
theorem zw_1206 : Cond.code yX9_aloneOf prog_11_method_62_code 1 (some .int) ∈ zq_W := zq_inW (zq_t5 (List.mem_of_getElem? (i := 167) rfl)) rfl
theorem zw_1207 : Cond.methodLink RX9 255 yX9_aloneNow ∈ zq_W := zq_inW (zq_t5 (List.mem_of_getElem? (i := 168) rfl)) rfl
theorem zw_1209 : Cond.instanceMethod yX9_aloneNow ∈ zq_W := zq_inW (zq_t5 (List.mem_of_getElem? (i := 170) rfl)) rfl
theorem zw_1210 : Cond.code yX9_aloneNow prog_11_method_61_code 3 (some .int) ∈ zq_W := zq_inW (zq_t5 (List.mem_of_getElem? (i := 171) rfl)) rfl
theorem zw_1211 : Cond.methodLink RX9 252 yX9_isByItself ∈ zq_W := zq_inW (zq_t5 (List.mem_of_getElem? (i := 172) rfl)) rfl
theorem zw_1213 : Cond.instanceMethod yX9_isByItself ∈ zq_W := zq_inW (zq_t5 (List.mem_of_getElem? (i := 174) rfl)) rfl
theorem zw_1214 : Cond.code yX9_isByItself prog_11_method_60_code 3 (some .boolean) ∈ zq_W := zq_inW (zq_t5 (List.mem_of_getElem? (i := 175) rfl)) rfl
theorem zw_1215 : Cond.methodLink RL 92 yX9_sleep ∈ zq_W := zq_inW (zq_t5 (List.mem_of_getElem? (i := 176) rfl)) rfl
theorem zw_1216 : Cond.instanceMethod yX9_sleep ∈ zq_W := zq_inW (zq_t5 (List.mem_of_getElem? (i := 177) rfl)) rfl
theorem zw_1217 : Cond.selects RX9 yX9_sleep yX9_sleep ∈ zq_W := zq_inW (zq_t5 (List.mem_of_getElem? (i := 178) rfl)) rfl
theorem zw_1218 : Cond.code yX9_sleep prog_11_method_66_code 3 (some .int) ∈ zq_W := zq_inW (zq_t5 (List.mem_of_getElem? (i := 179) rfl)) rfl
theorem zw_1219 : Cond.methodLink RX9 264 yX9_sleepOf ∈ zq_W := zq_inW (zq_t5 (List.mem_of_getElem? (i := 180) rfl)) rfl
theorem zw_1221 : Cond.instanceMethod yX9_sleepOf ∈ zq_W := zq_inW (zq_t5 (List.mem_of_getElem? (i := 182) rfl)) rfl
theorem zw_1222 : Cond.code yX9_sleepOf prog_11_method_65_code 8 (some .int) ∈ zq_W := zq_inW (zq_t5 (List.mem_of_getElem? (i := 183) rfl)) rfl
theorem zw_1223 : Cond.methodLink RX9 261 yX9_hoursByItself ∈ zq_W := zq_inW (zq_t5 (List.mem_of_getElem? (i := 184) rfl)) rfl
theorem zw_1225 : Cond.instanceMethod yX9_hoursByItself ∈ zq_W := zq_inW (zq_t5 (List.mem_of_getElem? (i := 186) rfl)) rfl
theorem zw_1226 : Cond.code yX9_hoursByItself prog_11_method_64_code 4 (some .int) ∈ zq_W := zq_inW (zq_t5 (List.mem_of_getElem? (i := 187) rfl)) rfl
theorem zw_1227 : Cond.methodLink RL 96 yX9_nice ∈ zq_W := zq_inW (zq_t5 (List.mem_of_getElem? (i := 188) rfl)) rfl
theorem zw_1228 : Cond.instanceMethod yX9_nice ∈ zq_W := zq_inW (zq_t5 (List.mem_of_getElem? (i := 189) rfl)) rfl
theorem zw_1229 : Cond.selects RX9 yX9_nice yX9_nice ∈ zq_W := zq_inW (zq_t5 (List.mem_of_getElem? (i := 190) rfl)) rfl
theorem zw_1230 : Cond.code yX9_nice prog_11_method_69_code 3 (some .int) ∈ zq_W := zq_inW (zq_t5 (List.mem_of_getElem? (i := 191) rfl)) rfl
theorem zw_1231 : Cond.methodLink RX9 270 yX9_niceOf ∈ zq_W := zq_inW (zq_t5 (List.mem_of_getElem? (i := 192) rfl)) rfl
theorem zw_1233 : Cond.instanceMethod yX9_niceOf ∈ zq_W := zq_inW (zq_t5 (List.mem_of_getElem? (i := 194) rfl)) rfl
theorem zw_1234 : Cond.code yX9_niceOf prog_11_method_68_code 7 (some .int) ∈ zq_W := zq_inW (zq_t5 (List.mem_of_getElem? (i := 195) rfl)) rfl
theorem zw_1235 : Cond.methodLink RX9 267 yX9_mostAt ∈ zq_W := zq_inW (zq_t5 (List.mem_of_getElem? (i := 196) rfl)) rfl
theorem zw_1237 : Cond.instanceMethod yX9_mostAt ∈ zq_W := zq_inW (zq_t5 (List.mem_of_getElem? (i := 198) rfl)) rfl
theorem zw_1238 : Cond.code yX9_mostAt prog_11_method_67_code 5 (some .int) ∈ zq_W := zq_inW (zq_t5 (List.mem_of_getElem? (i := 199) rfl)) rfl
theorem zw_1239 : Cond.methodLink RL 100 yX9_lens ∈ zq_W := zq_inW (zq_t5 (List.mem_of_getElem? (i := 200) rfl)) rfl
theorem zw_1240 : Cond.instanceMethod yX9_lens ∈ zq_W := zq_inW (zq_t5 (List.mem_of_getElem? (i := 201) rfl)) rfl
theorem zw_1241 : Cond.selects RX9 yX9_lens yX9_lens ∈ zq_W := zq_inW (zq_t5 (List.mem_of_getElem? (i := 202) rfl)) rfl
theorem zw_1242 : Cond.code yX9_lens prog_11_method_71_code 2 (some .int) ∈ zq_W := zq_inW (zq_t5 (List.mem_of_getElem? (i := 203) rfl)) rfl
theorem zw_1243 : Cond.methodLink RX9 273 yX9_lensOf ∈ zq_W := zq_inW (zq_t5 (List.mem_of_getElem? (i := 204) rfl)) rfl
theorem zw_1245 : Cond.instanceMethod yX9_lensOf ∈ zq_W := zq_inW (zq_t5 (List.mem_of_getElem? (i := 206) rfl)) rfl
theorem zw_1246 : Cond.code yX9_lensOf prog_11_method_70_code 7 (some .int) ∈ zq_W := zq_inW (zq_t5 (List.mem_of_getElem? (i := 207) rfl)) rfl
theorem zw_1247 : Cond.methodLink RL 104 yX9_spare ∈ zq_W := zq_inW (zq_t5 (List.mem_of_getElem? (i := 208) rfl)) rfl
theorem zw_1248 : Cond.instanceMethod yX9_spare ∈ zq_W := zq_inW (zq_t5 (List.mem_of_getElem? (i := 209) rfl)) rfl
theorem zw_1249 : Cond.selects RX9 yX9_spare yX9_spare ∈ zq_W := zq_inW (zq_t5 (List.mem_of_getElem? (i := 210) rfl)) rfl
theorem zw_1250 : Cond.code yX9_spare prog_11_method_75_code 2 (some .int) ∈ zq_W := zq_inW (zq_t5 (List.mem_of_getElem? (i := 211) rfl)) rfl
theorem zw_1251 : Cond.methodLink RX9 279 yX9_spareBy ∈ zq_W := zq_inW (zq_t5 (List.mem_of_getElem? (i := 212) rfl)) rfl
theorem zw_1253 : Cond.instanceMethod yX9_spareBy ∈ zq_W := zq_inW (zq_t5 (List.mem_of_getElem? (i := 214) rfl)) rfl
theorem zw_1254 : Cond.code yX9_spareBy prog_11_method_73_code 3 (some .int) ∈ zq_W := zq_inW (zq_t5 (List.mem_of_getElem? (i := 215) rfl)) rfl
theorem zw_1255 : Cond.methodLink RX9 276 yX9_isSpared ∈ zq_W := zq_inW (zq_t5 (List.mem_of_getElem? (i := 216) rfl)) rfl
theorem zw_1257 : Cond.instanceMethod yX9_isSpared ∈ zq_W := zq_inW (zq_t5 (List.mem_of_getElem? (i := 218) rfl)) rfl
theorem zw_1258 : Cond.code yX9_isSpared prog_11_method_72_code 2 (some .boolean) ∈ zq_W := zq_inW (zq_t5 (List.mem_of_getElem? (i := 219) rfl)) rfl
theorem zw_1259 : Cond.methodLink RX9 282 yX9_ofRow ∈ zq_W := zq_inW (zq_t5 (List.mem_of_getElem? (i := 220) rfl)) rfl
theorem zw_1261 : Cond.instanceMethod yX9_ofRow ∈ zq_W := zq_inW (zq_t5 (List.mem_of_getElem? (i := 222) rfl)) rfl
theorem zw_1262 : Cond.code yX9_ofRow prog_11_method_74_code 3 (some .int) ∈ zq_W := zq_inW (zq_t5 (List.mem_of_getElem? (i := 223) rfl)) rfl
theorem zw_1263 : Cond.methodLink RL 108 yX9_seen ∈ zq_W := zq_inW (zq_t5 (List.mem_of_getElem? (i := 224) rfl)) rfl
theorem zw_1264 : Cond.instanceMethod yX9_seen ∈ zq_W := zq_inW (zq_t5 (List.mem_of_getElem? (i := 225) rfl)) rfl
theorem zw_1265 : Cond.selects RX9 yX9_seen yX9_seen ∈ zq_W := zq_inW (zq_t5 (List.mem_of_getElem? (i := 226) rfl)) rfl
theorem zw_1266 : Cond.code yX9_seen prog_11_method_76_code 4 (some .int) ∈ zq_W := zq_inW (zq_t5 (List.mem_of_getElem? (i := 227) rfl)) rfl
theorem zw_1267 : Cond.methodLink RL 112 yX9_forget ∈ zq_W := zq_inW (zq_t5 (List.mem_of_getElem? (i := 228) rfl)) rfl
theorem zw_1268 : Cond.instanceMethod yX9_forget ∈ zq_W := zq_inW (zq_t5 (List.mem_of_getElem? (i := 229) rfl)) rfl
theorem zw_1269 : Cond.selects RX9 yX9_forget yX9_forget ∈ zq_W := zq_inW (zq_t5 (List.mem_of_getElem? (i := 230) rfl)) rfl
theorem zw_1270 : Cond.code yX9_forget prog_11_method_77_code 2 (some .int) ∈ zq_W := zq_inW (zq_t5 (List.mem_of_getElem? (i := 231) rfl)) rfl
theorem zw_1271 : Cond.methodLink RL 116 yX9_never ∈ zq_W := zq_inW (zq_t5 (List.mem_of_getElem? (i := 232) rfl)) rfl
theorem zw_1272 : Cond.instanceMethod yX9_never ∈ zq_W := zq_inW (zq_t5 (List.mem_of_getElem? (i := 233) rfl)) rfl
theorem zw_1273 : Cond.selects RX9 yX9_never yX9_never ∈ zq_W := zq_inW (zq_t5 (List.mem_of_getElem? (i := 234) rfl)) rfl
theorem zw_1274 : Cond.code yX9_never prog_11_method_80_code 1 (some .int) ∈ zq_W := zq_inW (zq_t5 (List.mem_of_getElem? (i := 235) rfl)) rfl
theorem zw_1275 : Cond.methodLink RX9 292 yX9_neverNow ∈ zq_W := zq_inW (zq_t5 (List.mem_of_getElem? (i := 236) rfl)) rfl
theorem zw_1277 : Cond.instanceMethod yX9_neverNow ∈ zq_W := zq_inW (zq_t5 (List.mem_of_getElem? (i := 238) rfl)) rfl
theorem zw_1278 : Cond.code yX9_neverNow prog_11_method_79_code 3 (some .int) ∈ zq_W := zq_inW (zq_t5 (List.mem_of_getElem? (i := 239) rfl)) rfl
theorem zw_1279 : Cond.methodLink RX9 288 yX9_isSeen ∈ zq_W := zq_inW (zq_t6 (List.mem_of_getElem? (i := 0) rfl)) rfl
theorem zw_1281 : Cond.instanceMethod yX9_isSeen ∈ zq_W := zq_inW (zq_t6 (List.mem_of_getElem? (i := 2) rfl)) rfl
theorem zw_1282 : Cond.code yX9_isSeen prog_11_method_78_code 3 (some .boolean) ∈ zq_W := zq_inW (zq_t6 (List.mem_of_getElem? (i := 3) rfl)) rfl
theorem zw_1283 : Cond.methodLink RL 120 yX9_was ∈ zq_W := zq_inW (zq_t6 (List.mem_of_getElem? (i := 4) rfl)) rfl
theorem zw_1284 : Cond.instanceMethod yX9_was ∈ zq_W := zq_inW (zq_t6 (List.mem_of_getElem? (i := 5) rfl)) rfl
theorem zw_1285 : Cond.selects RX9 yX9_was yX9_was ∈ zq_W := zq_inW (zq_t6 (List.mem_of_getElem? (i := 6) rfl)) rfl
theorem zw_1286 : Cond.code yX9_was prog_11_method_83_code 3 (some .int) ∈ zq_W := zq_inW (zq_t6 (List.mem_of_getElem? (i := 7) rfl)) rfl
theorem zw_1287 : Cond.methodLink RX9 295 yX9_sortsBy ∈ zq_W := zq_inW (zq_t6 (List.mem_of_getElem? (i := 8) rfl)) rfl
theorem zw_1289 : Cond.instanceMethod yX9_sortsBy ∈ zq_W := zq_inW (zq_t6 (List.mem_of_getElem? (i := 10) rfl)) rfl
theorem zw_1290 : Cond.code yX9_sortsBy prog_11_method_81_code 5 (some .int) ∈ zq_W := zq_inW (zq_t6 (List.mem_of_getElem? (i := 11) rfl)) rfl
theorem zw_1291 : Cond.methodLink RX9 298 yX9_bedsBy ∈ zq_W := zq_inW (zq_t6 (List.mem_of_getElem? (i := 12) rfl)) rfl
theorem zw_1293 : Cond.instanceMethod yX9_bedsBy ∈ zq_W := zq_inW (zq_t6 (List.mem_of_getElem? (i := 14) rfl)) rfl
theorem zw_1294 : Cond.code yX9_bedsBy prog_11_method_82_code 6 (some .int) ∈ zq_W := zq_inW (zq_t6 (List.mem_of_getElem? (i := 15) rfl)) rfl
theorem zw_1295 : Cond.methodLink RL 124 yX9_ask ∈ zq_W := zq_inW (zq_t6 (List.mem_of_getElem? (i := 16) rfl)) rfl
theorem zw_1296 : Cond.instanceMethod yX9_ask ∈ zq_W := zq_inW (zq_t6 (List.mem_of_getElem? (i := 17) rfl)) rfl
theorem zw_1297 : Cond.selects RX9 yX9_ask yX9_ask ∈ zq_W := zq_inW (zq_t6 (List.mem_of_getElem? (i := 18) rfl)) rfl
theorem zw_1298 : Cond.code yX9_ask prog_11_method_85_code 2 (some .int) ∈ zq_W := zq_inW (zq_t6 (List.mem_of_getElem? (i := 19) rfl)) rfl
theorem zw_1299 : Cond.methodLink RX9 301 yX9_askOf ∈ zq_W := zq_inW (zq_t6 (List.mem_of_getElem? (i := 20) rfl)) rfl
theorem zw_1301 : Cond.instanceMethod yX9_askOf ∈ zq_W := zq_inW (zq_t6 (List.mem_of_getElem? (i := 22) rfl)) rfl
theorem zw_1302 : Cond.code yX9_askOf prog_11_method_84_code 10 (some .int) ∈ zq_W := zq_inW (zq_t6 (List.mem_of_getElem? (i := 23) rfl)) rfl
theorem zw_1303 : Cond.methodLink RL 129 yX9_chance ∈ zq_W := zq_inW (zq_t6 (List.mem_of_getElem? (i := 24) rfl)) rfl
theorem zw_1304 : Cond.instanceMethod yX9_chance ∈ zq_W := zq_inW (zq_t6 (List.mem_of_getElem? (i := 25) rfl)) rfl
theorem zw_1305 : Cond.selects RX9 yX9_chance yX9_chance ∈ zq_W := zq_inW (zq_t6 (List.mem_of_getElem? (i := 26) rfl)) rfl
theorem zw_1306 : Cond.code yX9_chance prog_11_method_87_code 5 (some .long) ∈ zq_W := zq_inW (zq_t6 (List.mem_of_getElem? (i := 27) rfl)) rfl
theorem zw_1307 : Cond.methodLink RX9 308 yX9_chanceOf ∈ zq_W := zq_inW (zq_t6 (List.mem_of_getElem? (i := 28) rfl)) rfl
theorem zw_1309 : Cond.instanceMethod yX9_chanceOf ∈ zq_W := zq_inW (zq_t6 (List.mem_of_getElem? (i := 30) rfl)) rfl
theorem zw_1310 : Cond.code yX9_chanceOf prog_11_method_86_code 11 (some .long) ∈ zq_W := zq_inW (zq_t6 (List.mem_of_getElem? (i := 31) rfl)) rfl
theorem zw_1311 : Cond.methodLink RX9 304 yX9_lowest ∈ zq_W := zq_inW (zq_t6 (List.mem_of_getElem? (i := 32) rfl)) rfl
theorem zw_1312 : Cond.static yX9_lowest ∈ zq_W := zq_inW (zq_t6 (List.mem_of_getElem? (i := 33) rfl)) rfl
theorem zw_1313 : Cond.code yX9_lowest prog_11_method_6_code 11 (some .long) ∈ zq_W := zq_inW (zq_t6 (List.mem_of_getElem? (i := 34) rfl)) rfl
theorem zw_1314 : Cond.methodLink RX9 312 yX9_no ∈ zq_W := zq_inW (zq_t6 (List.mem_of_getElem? (i := 35) rfl)) rfl
theorem zw_1315 : Cond.static yX9_no ∈ zq_W := zq_inW (zq_t6 (List.mem_of_getElem? (i := 36) rfl)) rfl
theorem zw_1316 : Cond.code yX9_no prog_11_method_5_code 1 (some .long) ∈ zq_W := zq_inW (zq_t6 (List.mem_of_getElem? (i := 37) rfl)) rfl
theorem zw_1317 : Cond.constantLong RX9 93 (-9223372036854775808) ∈ zq_W := zq_inW (zq_t6 (List.mem_of_getElem? (i := 38) rfl)) rfl
theorem zw_1318 : Cond.methodLink RL 133 yX9_weeks ∈ zq_W := zq_inW (zq_t6 (List.mem_of_getElem? (i := 39) rfl)) rfl
theorem zw_1319 : Cond.instanceMethod yX9_weeks ∈ zq_W := zq_inW (zq_t6 (List.mem_of_getElem? (i := 40) rfl)) rfl
theorem zw_1320 : Cond.selects RX9 yX9_weeks yX9_weeks ∈ zq_W := zq_inW (zq_t6 (List.mem_of_getElem? (i := 41) rfl)) rfl
theorem zw_1321 : Cond.code yX9_weeks prog_11_method_89_code 4 (some .int) ∈ zq_W := zq_inW (zq_t6 (List.mem_of_getElem? (i := 42) rfl)) rfl
theorem zw_1322 : Cond.methodLink RX9 317 yX9_weeksOf ∈ zq_W := zq_inW (zq_t6 (List.mem_of_getElem? (i := 43) rfl)) rfl
theorem zw_1324 : Cond.instanceMethod yX9_weeksOf ∈ zq_W := zq_inW (zq_t6 (List.mem_of_getElem? (i := 45) rfl)) rfl
theorem zw_1325 : Cond.code yX9_weeksOf prog_11_method_88_code 6 (some .int) ∈ zq_W := zq_inW (zq_t6 (List.mem_of_getElem? (i := 46) rfl)) rfl
theorem zw_1326 : Cond.constant RX9 316 (1103515245) ∈ zq_W := zq_inW (zq_t6 (List.mem_of_getElem? (i := 47) rfl)) rfl
theorem zw_1327 : Cond.methodLink RL 137 yX9_sheet ∈ zq_W := zq_inW (zq_t6 (List.mem_of_getElem? (i := 48) rfl)) rfl
theorem zw_1328 : Cond.instanceMethod yX9_sheet ∈ zq_W := zq_inW (zq_t6 (List.mem_of_getElem? (i := 49) rfl)) rfl
theorem zw_1329 : Cond.selects RX9 yX9_sheet yX9_sheet ∈ zq_W := zq_inW (zq_t6 (List.mem_of_getElem? (i := 50) rfl)) rfl
theorem zw_1330 : Cond.code yX9_sheet prog_11_method_92_code 5 (some .int) ∈ zq_W := zq_inW (zq_t6 (List.mem_of_getElem? (i := 51) rfl)) rfl
theorem zw_1331 : Cond.methodLink RL 141 yX9_lose ∈ zq_W := zq_inW (zq_t6 (List.mem_of_getElem? (i := 52) rfl)) rfl
theorem zw_1332 : Cond.instanceMethod yX9_lose ∈ zq_W := zq_inW (zq_t6 (List.mem_of_getElem? (i := 53) rfl)) rfl
theorem zw_1333 : Cond.selects RX9 yX9_lose yX9_lose ∈ zq_W := zq_inW (zq_t6 (List.mem_of_getElem? (i := 54) rfl)) rfl
theorem zw_1334 : Cond.code yX9_lose prog_11_method_93_code 2 (some .int) ∈ zq_W := zq_inW (zq_t6 (List.mem_of_getElem? (i := 55) rfl)) rfl
theorem zw_1335 : Cond.methodLink RL 146 yX9_put ∈ zq_W := zq_inW (zq_t6 (List.mem_of_getElem? (i := 56) rfl)) rfl
theorem zw_1336 : Cond.instanceMethod yX9_put ∈ zq_W := zq_inW (zq_t6 (List.mem_of_getElem? (i := 57) rfl)) rfl
theorem zw_1337 : Cond.selects RX9 yX9_put yX9_put ∈ zq_W := zq_inW (zq_t6 (List.mem_of_getElem? (i := 58) rfl)) rfl
theorem zw_1338 : Cond.code yX9_put prog_11_method_96_code 6 (some .int) ∈ zq_W := zq_inW (zq_t6 (List.mem_of_getElem? (i := 59) rfl)) rfl
theorem zw_1339 : Cond.methodLink RX9 323 yX9_lacks ∈ zq_W := zq_inW (zq_t6 (List.mem_of_getElem? (i := 60) rfl)) rfl
theorem zw_1341 : Cond.instanceMethod yX9_lacks ∈ zq_W := zq_inW (zq_t6 (List.mem_of_getElem? (i := 62) rfl)) rfl
theorem zw_1342 : Cond.code yX9_lacks prog_11_method_94_code 4 (some .int) ∈ zq_W := zq_inW (zq_t6 (List.mem_of_getElem? (i := 63) rfl)) rfl
theorem zw_1343 : Cond.methodLink RX9 326 yX9_keep ∈ zq_W := zq_inW (zq_t6 (List.mem_of_getElem? (i := 64) rfl)) rfl
theorem zw_1345 : Cond.instanceMethod yX9_keep ∈ zq_W := zq_inW (zq_t6 (List.mem_of_getElem? (i := 66) rfl)) rfl
theorem zw_1346 : Cond.code yX9_keep prog_11_method_95_code 4 none ∈ zq_W := zq_inW (zq_t6 (List.mem_of_getElem? (i := 67) rfl)) rfl
theorem zw_1347 : Cond.methodLink RL 150 yX9_get ∈ zq_W := zq_inW (zq_t6 (List.mem_of_getElem? (i := 68) rfl)) rfl
theorem zw_1348 : Cond.instanceMethod yX9_get ∈ zq_W := zq_inW (zq_t6 (List.mem_of_getElem? (i := 69) rfl)) rfl
theorem zw_1349 : Cond.selects RX9 yX9_get yX9_get ∈ zq_W := zq_inW (zq_t6 (List.mem_of_getElem? (i := 70) rfl)) rfl
theorem zw_1350 : Cond.code yX9_get prog_11_method_97_code 5 (some .int) ∈ zq_W := zq_inW (zq_t6 (List.mem_of_getElem? (i := 71) rfl)) rfl
theorem zw_1351 : Cond.constant RX9 330 (-2147483648) ∈ zq_W := zq_inW (zq_t6 (List.mem_of_getElem? (i := 72) rfl)) rfl
theorem zw_1352 : Cond.methodLink RL 155 yX9_copy ∈ zq_W := zq_inW (zq_t6 (List.mem_of_getElem? (i := 73) rfl)) rfl
theorem zw_1353 : Cond.instanceMethod yX9_copy ∈ zq_W := zq_inW (zq_t6 (List.mem_of_getElem? (i := 74) rfl)) rfl
theorem zw_1354 : Cond.selects RX9 yX9_copy yX9_copy ∈ zq_W := zq_inW (zq_t6 (List.mem_of_getElem? (i := 75) rfl)) rfl
theorem zw_1355 : Cond.code yX9_copy prog_11_method_98_code 7 (some .int) ∈ zq_W := zq_inW (zq_t6 (List.mem_of_getElem? (i := 76) rfl)) rfl
theorem zw_1356 : Cond.methodLink RL 159 yX9_write ∈ zq_W := zq_inW (zq_t6 (List.mem_of_getElem? (i := 77) rfl)) rfl
theorem zw_1357 : Cond.instanceMethod yX9_write ∈ zq_W := zq_inW (zq_t6 (List.mem_of_getElem? (i := 78) rfl)) rfl
theorem zw_1358 : Cond.selects RX9 yX9_write yX9_write ∈ zq_W := zq_inW (zq_t6 (List.mem_of_getElem? (i := 79) rfl)) rfl
theorem zw_1359 : Cond.code yX9_write prog_11_method_99_code 4 (some .int) ∈ zq_W := zq_inW (zq_t6 (List.mem_of_getElem? (i := 80) rfl)) rfl
theorem zw_1360 : Cond.methodLink RL 163 yX9_count ∈ zq_W := zq_inW (zq_t6 (List.mem_of_getElem? (i := 81) rfl)) rfl
theorem zw_1361 : Cond.instanceMethod yX9_count ∈ zq_W := zq_inW (zq_t6 (List.mem_of_getElem? (i := 82) rfl)) rfl
theorem zw_1362 : Cond.selects RX9 yX9_count yX9_count ∈ zq_W := zq_inW (zq_t6 (List.mem_of_getElem? (i := 83) rfl)) rfl
theorem zw_1363 : Cond.code yX9_count prog_11_method_101_code 2 (some .int) ∈ zq_W := zq_inW (zq_t6 (List.mem_of_getElem? (i := 84) rfl)) rfl
theorem zw_1364 : Cond.methodLink RX9 331 yX9_sumOf ∈ zq_W := zq_inW (zq_t6 (List.mem_of_getElem? (i := 85) rfl)) rfl
theorem zw_1366 : Cond.instanceMethod yX9_sumOf ∈ zq_W := zq_inW (zq_t6 (List.mem_of_getElem? (i := 87) rfl)) rfl
theorem zw_1367 : Cond.code yX9_sumOf prog_11_method_100_code 4 (some .int) ∈ zq_W := zq_inW (zq_t6 (List.mem_of_getElem? (i := 88) rfl)) rfl
theorem zw_1368 : Cond.methodLink RL 168 yX9_digest ∈ zq_W := zq_inW (zq_t6 (List.mem_of_getElem? (i := 89) rfl)) rfl
theorem zw_1369 : Cond.instanceMethod yX9_digest ∈ zq_W := zq_inW (zq_t6 (List.mem_of_getElem? (i := 90) rfl)) rfl
theorem zw_1370 : Cond.selects RX9 yX9_digest yX9_digest ∈ zq_W := zq_inW (zq_t6 (List.mem_of_getElem? (i := 91) rfl)) rfl
theorem zw_1371 : Cond.code yX9_digest prog_11_method_104_code 4 (some .long) ∈ zq_W := zq_inW (zq_t6 (List.mem_of_getElem? (i := 92) rfl)) rfl
theorem zw_1372 : Cond.constantLong RX9 340 (17) ∈ zq_W := zq_inW (zq_t6 (List.mem_of_getElem? (i := 93) rfl)) rfl
theorem zw_1373 : Cond.constantLong RX9 334 (31) ∈ zq_W := zq_inW (zq_t6 (List.mem_of_getElem? (i := 94) rfl)) rfl
theorem zw_1374 : Cond.methodLink RX9 342 yX9_count ∈ zq_W := zq_inW (zq_t6 (List.mem_of_getElem? (i := 95) rfl)) rfl
theorem zw_1375 : Cond.methodLink RX9 345 yX9_personDigest ∈ zq_W := zq_inW (zq_t6 (List.mem_of_getElem? (i := 96) rfl)) rfl
theorem zw_1377 : Cond.instanceMethod yX9_personDigest ∈ zq_W := zq_inW (zq_t6 (List.mem_of_getElem? (i := 98) rfl)) rfl
theorem zw_1378 : Cond.code yX9_personDigest prog_11_method_103_code 7 (some .long) ∈ zq_W := zq_inW (zq_t6 (List.mem_of_getElem? (i := 99) rfl)) rfl
theorem zw_1379 : Cond.methodLink RX9 336 yX9_hourDigest ∈ zq_W := zq_inW (zq_t6 (List.mem_of_getElem? (i := 100) rfl)) rfl
theorem zw_1381 : Cond.instanceMethod yX9_hourDigest ∈ zq_W := zq_inW (zq_t6 (List.mem_of_getElem? (i := 102) rfl)) rfl
theorem zw_1382 : Cond.code yX9_hourDigest prog_11_method_102_code 7 (some .long) ∈ zq_W := zq_inW (zq_t6 (List.mem_of_getElem? (i := 103) rfl)) rfl
theorem zw_1383 : Cond.sameMethod "DollsAhead$Text" "DollsAhead$Text" "understand" "()V" ∈ zq_W := zq_inW (zq_t6 (List.mem_of_getElem? (i := 104) rfl)) rfl
theorem zw_1384 : Cond.sameMethod "DollsAhead$Text" "DollsAhead$Text" "firstFault" "()I" ∈ zq_W := zq_inW (zq_t6 (List.mem_of_getElem? (i := 105) rfl)) rfl
theorem zf_X0_25 : ∀ q ∈ ([(0, 0)] : List (Nat × Nat)), zq_fok RX0 25 q.1 q.2 := List.forall_mem_cons.mpr ⟨⟨_, RX0, TX0, 9, rfl, by decide, zq_uw0, zw_123, Or.inr zw_124⟩, fun _ h => absurd h List.not_mem_nil⟩
theorem zf_X0_28 : ∀ q ∈ ([(0, 5)] : List (Nat × Nat)), zq_fok RX0 28 q.1 q.2 := List.forall_mem_cons.mpr ⟨⟨_, RX0, TX0, 9, rfl, by decide, zq_uw0, zw_138, Or.inr zw_139⟩, fun _ h => absurd h List.not_mem_nil⟩
theorem zf_X0_11 : ∀ q ∈ ([(0, 6)] : List (Nat × Nat)), zq_fok RX0 11 q.1 q.2 := List.forall_mem_cons.mpr ⟨⟨_, RX0, TX0, 9, rfl, by decide, zq_uw0, zw_117, Or.inl rfl⟩, fun _ h => absurd h List.not_mem_nil⟩
theorem zf_X0_15 : ∀ q ∈ ([(0, 7)] : List (Nat × Nat)), zq_fok RX0 15 q.1 q.2 := List.forall_mem_cons.mpr ⟨⟨_, RX0, TX0, 9, rfl, by decide, zq_uw0, zw_119, Or.inl rfl⟩, fun _ h => absurd h List.not_mem_nil⟩
theorem zf_X0_18 : ∀ q ∈ ([(0, 8)] : List (Nat × Nat)), zq_fok RX0 18 q.1 q.2 := List.forall_mem_cons.mpr ⟨⟨_, RX0, TX0, 9, rfl, by decide, zq_uw0, zw_121, Or.inl rfl⟩, fun _ h => absurd h List.not_mem_nil⟩
theorem zf_X1_21 : ∀ q ∈ ([(1, 3)] : List (Nat × Nat)), zq_fok RX1 21 q.1 q.2 := List.forall_mem_cons.mpr ⟨⟨_, RX1, TX1, 4, rfl, by decide, zq_uw1, zw_206, Or.inl rfl⟩, fun _ h => absurd h List.not_mem_nil⟩
theorem zf_X1_11 : ∀ q ∈ ([(1, 0)] : List (Nat × Nat)), zq_fok RX1 11 q.1 q.2 := List.forall_mem_cons.mpr ⟨⟨_, RX1, TX1, 4, rfl, by decide, zq_uw1, zw_200, Or.inl rfl⟩, fun _ h => absurd h List.not_mem_nil⟩
theorem zf_X1_15 : ∀ q ∈ ([(1, 1)] : List (Nat × Nat)), zq_fok RX1 15 q.1 q.2 := List.forall_mem_cons.mpr ⟨⟨_, RX1, TX1, 4, rfl, by decide, zq_uw1, zw_202, Or.inl rfl⟩, fun _ h => absurd h List.not_mem_nil⟩
theorem zf_X1_18 : ∀ q ∈ ([(1, 2)] : List (Nat × Nat)), zq_fok RX1 18 q.1 q.2 := List.forall_mem_cons.mpr ⟨⟨_, RX1, TX1, 4, rfl, by decide, zq_uw1, zw_204, Or.inl rfl⟩, fun _ h => absurd h List.not_mem_nil⟩
theorem zf_X2_8 : ∀ q ∈ ([(2, 0)] : List (Nat × Nat)), zq_fok RX2 8 q.1 q.2 := List.forall_mem_cons.mpr ⟨⟨_, RX2, TX2, 1, rfl, by decide, zq_uw2, zw_224, Or.inl rfl⟩, fun _ h => absurd h List.not_mem_nil⟩
theorem zf_X3_29 : ∀ q ∈ ([(3, 5)] : List (Nat × Nat)), zq_fok RX3 29 q.1 q.2 := List.forall_mem_cons.mpr ⟨⟨_, RX3, TX3, 9, rfl, by decide, zq_uw3, zw_140, Or.inr zw_141⟩, fun _ h => absurd h List.not_mem_nil⟩
theorem zf_X3_11 : ∀ q ∈ ([(3, 6)] : List (Nat × Nat)), zq_fok RX3 11 q.1 q.2 := List.forall_mem_cons.mpr ⟨⟨_, RX3, TX3, 9, rfl, by decide, zq_uw3, zw_172, Or.inl rfl⟩, fun _ h => absurd h List.not_mem_nil⟩
theorem zf_X3_15 : ∀ q ∈ ([(3, 7)] : List (Nat × Nat)), zq_fok RX3 15 q.1 q.2 := List.forall_mem_cons.mpr ⟨⟨_, RX3, TX3, 9, rfl, by decide, zq_uw3, zw_175, Or.inl rfl⟩, fun _ h => absurd h List.not_mem_nil⟩
theorem zf_X3_18 : ∀ q ∈ ([(3, 8)] : List (Nat × Nat)), zq_fok RX3 18 q.1 q.2 := List.forall_mem_cons.mpr ⟨⟨_, RX3, TX3, 9, rfl, by decide, zq_uw3, zw_178, Or.inl rfl⟩, fun _ h => absurd h List.not_mem_nil⟩
theorem zf_X3_36 : ∀ q ∈ ([(3, 0)] : List (Nat × Nat)), zq_fok RX3 36 q.1 q.2 := List.forall_mem_cons.mpr ⟨⟨_, RX3, TX3, 9, rfl, by decide, zq_uw3, zw_125, Or.inr zw_126⟩, fun _ h => absurd h List.not_mem_nil⟩
theorem zf_X4_19 : ∀ q ∈ ([(4, 2)] : List (Nat × Nat)), zq_fok RX4 19 q.1 q.2 := List.forall_mem_cons.mpr ⟨⟨_, RX4, TX4, 3, rfl, by decide, zq_uw4, zw_260, Or.inl rfl⟩, fun _ h => absurd h List.not_mem_nil⟩
theorem zf_X4_9 : ∀ q ∈ ([(4, 0)] : List (Nat × Nat)), zq_fok RX4 9 q.1 q.2 := List.forall_mem_cons.mpr ⟨⟨_, RX4, TX4, 3, rfl, by decide, zq_uw4, zw_256, Or.inl rfl⟩, fun _ h => absurd h List.not_mem_nil⟩
theorem zf_X4_15 : ∀ q ∈ ([(4, 1)] : List (Nat × Nat)), zq_fok RX4 15 q.1 q.2 := List.forall_mem_cons.mpr ⟨⟨_, RX4, TX4, 3, rfl, by decide, zq_uw4, zw_258, Or.inl rfl⟩, fun _ h => absurd h List.not_mem_nil⟩
theorem zf_X5_21 : ∀ q ∈ ([(5, 3)] : List (Nat × Nat)), zq_fok RX5 21 q.1 q.2 := List.forall_mem_cons.mpr ⟨⟨_, RX5, TX5, 4, rfl, by decide, zq_uw5, zw_238, Or.inl rfl⟩, fun _ h => absurd h List.not_mem_nil⟩
theorem zf_X5_9 : ∀ q ∈ ([(5, 0)] : List (Nat × Nat)), zq_fok RX5 9 q.1 q.2 := List.forall_mem_cons.mpr ⟨⟨_, RX5, TX5, 4, rfl, by decide, zq_uw5, zw_235, Or.inl rfl⟩, fun _ h => absurd h List.not_mem_nil⟩
theorem zf_X5_15 : ∀ q ∈ ([(5, 1)] : List (Nat × Nat)), zq_fok RX5 15 q.1 q.2 := List.forall_mem_cons.mpr ⟨⟨_, RX5, TX5, 4, rfl, by decide, zq_uw5, zw_236, Or.inl rfl⟩, fun _ h => absurd h List.not_mem_nil⟩
theorem zf_X5_18 : ∀ q ∈ ([(5, 2)] : List (Nat × Nat)), zq_fok RX5 18 q.1 q.2 := List.forall_mem_cons.mpr ⟨⟨_, RX5, TX5, 4, rfl, by decide, zq_uw5, zw_237, Or.inl rfl⟩, fun _ h => absurd h List.not_mem_nil⟩
theorem zf_X5_25 : ∀ q ∈ ([(6, 1)] : List (Nat × Nat)), zq_fok RX5 25 q.1 q.2 := List.forall_mem_cons.mpr ⟨⟨_, RX7, TX7, 14, rfl, by decide, zq_uw7, zw_280, Or.inl rfl⟩, fun _ h => absurd h List.not_mem_nil⟩
theorem zf_X5_31 : ∀ q ∈ ([(3, 5)] : List (Nat × Nat)), zq_fok RX5 31 q.1 q.2 := List.forall_mem_cons.mpr ⟨⟨_, RX3, TX3, 9, rfl, by decide, zq_uw3, zw_142, Or.inr zw_141⟩, fun _ h => absurd h List.not_mem_nil⟩
theorem zf_X6_31 : ∀ q ∈ ([(0, 3), (3, 3)] : List (Nat × Nat)), zq_fok RX6 31 q.1 q.2 := List.forall_mem_cons.mpr ⟨⟨_, RX0, TX0, 9, rfl, by decide, zq_uw0, zw_129, Or.inl rfl⟩, List.forall_mem_cons.mpr ⟨⟨_, RX3, TX3, 9, rfl, by decide, zq_uw3, zw_129, Or.inl rfl⟩, fun _ h => absurd h List.not_mem_nil⟩⟩
theorem zf_X6_21 : ∀ q ∈ ([(0, 1), (3, 1)] : List (Nat × Nat)), zq_fok RX6 21 q.1 q.2 := List.forall_mem_cons.mpr ⟨⟨_, RX0, TX0, 9, rfl, by decide, zq_uw0, zw_127, Or.inl rfl⟩, List.forall_mem_cons.mpr ⟨⟨_, RX3, TX3, 9, rfl, by decide, zq_uw3, zw_127, Or.inl rfl⟩, fun _ h => absurd h List.not_mem_nil⟩⟩
theorem zf_X6_9 : ∀ q ∈ ([(0, 0), (3, 0)] : List (Nat × Nat)), zq_fok RX6 9 q.1 q.2 := List.forall_mem_cons.mpr ⟨⟨_, RX0, TX0, 9, rfl, by decide, zq_uw0, zw_122, Or.inl rfl⟩, List.forall_mem_cons.mpr ⟨⟨_, RX3, TX3, 9, rfl, by decide, zq_uw3, zw_122, Or.inl rfl⟩, fun _ h => absurd h List.not_mem_nil⟩⟩
theorem zf_X6_34 : ∀ q ∈ ([(0, 4), (3, 4)] : List (Nat × Nat)), zq_fok RX6 34 q.1 q.2 := List.forall_mem_cons.mpr ⟨⟨_, RX0, TX0, 9, rfl, by decide, zq_uw0, zw_135, Or.inl rfl⟩, List.forall_mem_cons.mpr ⟨⟨_, RX3, TX3, 9, rfl, by decide, zq_uw3, zw_135, Or.inl rfl⟩, fun _ h => absurd h List.not_mem_nil⟩⟩
theorem zf_X6_28 : ∀ q ∈ ([(0, 2), (3, 2)] : List (Nat × Nat)), zq_fok RX6 28 q.1 q.2 := List.forall_mem_cons.mpr ⟨⟨_, RX0, TX0, 9, rfl, by decide, zq_uw0, zw_128, Or.inl rfl⟩, List.forall_mem_cons.mpr ⟨⟨_, RX3, TX3, 9, rfl, by decide, zq_uw3, zw_128, Or.inl rfl⟩, fun _ h => absurd h List.not_mem_nil⟩⟩
theorem zf_X7_27 : ∀ q ∈ ([(6, 7)] : List (Nat × Nat)), zq_fok RX7 27 q.1 q.2 := List.forall_mem_cons.mpr ⟨⟨_, RX7, TX7, 14, rfl, by decide, zq_uw7, zw_286, Or.inl rfl⟩, fun _ h => absurd h List.not_mem_nil⟩
theorem zf_X7_34 : ∀ q ∈ ([(6, 1)] : List (Nat × Nat)), zq_fok RX7 34 q.1 q.2 := List.forall_mem_cons.mpr ⟨⟨_, RX7, TX7, 14, rfl, by decide, zq_uw7, zw_279, Or.inl rfl⟩, fun _ h => absurd h List.not_mem_nil⟩
theorem zf_X7_70 : ∀ q ∈ ([(3, 5)] : List (Nat × Nat)), zq_fok RX7 70 q.1 q.2 := List.forall_mem_cons.mpr ⟨⟨_, RX3, TX3, 9, rfl, by decide, zq_uw3, zw_143, Or.inr zw_141⟩, fun _ h => absurd h List.not_mem_nil⟩
theorem zf_X7_38 : ∀ q ∈ ([(6, 8)] : List (Nat × Nat)), zq_fok RX7 38 q.1 q.2 := List.forall_mem_cons.mpr ⟨⟨_, RX7, TX7, 14, rfl, by decide, zq_uw7, zw_287, Or.inl rfl⟩, fun _ h => absurd h List.not_mem_nil⟩
theorem zf_X7_83 : ∀ q ∈ ([(1, 3)] : List (Nat × Nat)), zq_fok RX7 83 q.1 q.2 := List.forall_mem_cons.mpr ⟨⟨_, RX1, TX1, 4, rfl, by decide, zq_uw1, zw_207, Or.inl rfl⟩, fun _ h => absurd h List.not_mem_nil⟩
theorem zf_X7_88 : ∀ q ∈ ([(1, 1)] : List (Nat × Nat)), zq_fok RX7 88 q.1 q.2 := List.forall_mem_cons.mpr ⟨⟨_, RX1, TX1, 4, rfl, by decide, zq_uw1, zw_203, Or.inl rfl⟩, fun _ h => absurd h List.not_mem_nil⟩
theorem zf_X7_58 : ∀ q ∈ ([(6, 9)] : List (Nat × Nat)), zq_fok RX7 58 q.1 q.2 := List.forall_mem_cons.mpr ⟨⟨_, RX7, TX7, 14, rfl, by decide, zq_uw7, zw_288, Or.inl rfl⟩, fun _ h => absurd h List.not_mem_nil⟩
theorem zf_X7_91 : ∀ q ∈ ([(1, 0)] : List (Nat × Nat)), zq_fok RX7 91 q.1 q.2 := List.forall_mem_cons.mpr ⟨⟨_, RX1, TX1, 4, rfl, by decide, zq_uw1, zw_201, Or.inl rfl⟩, fun _ h => absurd h List.not_mem_nil⟩
theorem zf_X7_94 : ∀ q ∈ ([(1, 2)] : List (Nat × Nat)), zq_fok RX7 94 q.1 q.2 := List.forall_mem_cons.mpr ⟨⟨_, RX1, TX1, 4, rfl, by decide, zq_uw1, zw_205, Or.inl rfl⟩, fun _ h => absurd h List.not_mem_nil⟩
theorem zf_X7_15 : ∀ q ∈ ([(6, 3)] : List (Nat × Nat)), zq_fok RX7 15 q.1 q.2 := List.forall_mem_cons.mpr ⟨⟨_, RX7, TX7, 14, rfl, by decide, zq_uw7, zw_282, Or.inl rfl⟩, fun _ h => absurd h List.not_mem_nil⟩
theorem zf_X7_18 : ∀ q ∈ ([(6, 4)] : List (Nat × Nat)), zq_fok RX7 18 q.1 q.2 := List.forall_mem_cons.mpr ⟨⟨_, RX7, TX7, 14, rfl, by decide, zq_uw7, zw_283, Or.inl rfl⟩, fun _ h => absurd h List.not_mem_nil⟩
theorem zf_X7_21 : ∀ q ∈ ([(6, 5)] : List (Nat × Nat)), zq_fok RX7 21 q.1 q.2 := List.forall_mem_cons.mpr ⟨⟨_, RX7, TX7, 14, rfl, by decide, zq_uw7, zw_284, Or.inl rfl⟩, fun _ h => absurd h List.not_mem_nil⟩
theorem zf_X7_30 : ∀ q ∈ ([(6, 0)] : List (Nat × Nat)), zq_fok RX7 30 q.1 q.2 := List.forall_mem_cons.mpr ⟨⟨_, RX7, TX7, 14, rfl, by decide, zq_uw7, zw_278, Or.inl rfl⟩, fun _ h => absurd h List.not_mem_nil⟩
theorem zf_X7_24 : ∀ q ∈ ([(6, 6)] : List (Nat × Nat)), zq_fok RX7 24 q.1 q.2 := List.forall_mem_cons.mpr ⟨⟨_, RX7, TX7, 14, rfl, by decide, zq_uw7, zw_285, Or.inl rfl⟩, fun _ h => absurd h List.not_mem_nil⟩
theorem zf_X7_110 : ∀ q ∈ ([(3, 7)] : List (Nat × Nat)), zq_fok RX7 110 q.1 q.2 := List.forall_mem_cons.mpr ⟨⟨_, RX3, TX3, 9, rfl, by decide, zq_uw3, zw_176, Or.inl rfl⟩, fun _ h => absurd h List.not_mem_nil⟩
theorem zf_X7_61 : ∀ q ∈ ([(6, 10)] : List (Nat × Nat)), zq_fok RX7 61 q.1 q.2 := List.forall_mem_cons.mpr ⟨⟨_, RX7, TX7, 14, rfl, by decide, zq_uw7, zw_289, Or.inl rfl⟩, fun _ h => absurd h List.not_mem_nil⟩
theorem zf_X7_9 : ∀ q ∈ ([(6, 2)] : List (Nat × Nat)), zq_fok RX7 9 q.1 q.2 := List.forall_mem_cons.mpr ⟨⟨_, RX7, TX7, 14, rfl, by decide, zq_uw7, zw_281, Or.inl rfl⟩, fun _ h => absurd h List.not_mem_nil⟩
theorem zf_X7_42 : ∀ q ∈ ([(6, 11)] : List (Nat × Nat)), zq_fok RX7 42 q.1 q.2 := List.forall_mem_cons.mpr ⟨⟨_, RX7, TX7, 14, rfl, by decide, zq_uw7, zw_290, Or.inl rfl⟩, fun _ h => absurd h List.not_mem_nil⟩
theorem zf_X7_46 : ∀ q ∈ ([(6, 12)] : List (Nat × Nat)), zq_fok RX7 46 q.1 q.2 := List.forall_mem_cons.mpr ⟨⟨_, RX7, TX7, 14, rfl, by decide, zq_uw7, zw_291, Or.inl rfl⟩, fun _ h => absurd h List.not_mem_nil⟩
theorem zf_X7_122 : ∀ q ∈ ([(3, 6)] : List (Nat × Nat)), zq_fok RX7 122 q.1 q.2 := List.forall_mem_cons.mpr ⟨⟨_, RX3, TX3, 9, rfl, by decide, zq_uw3, zw_174, Or.inl rfl⟩, fun _ h => absurd h List.not_mem_nil⟩
theorem zf_X7_49 : ∀ q ∈ ([(6, 13)] : List (Nat × Nat)), zq_fok RX7 49 q.1 q.2 := List.forall_mem_cons.mpr ⟨⟨_, RX7, TX7, 14, rfl, by decide, zq_uw7, zw_292, Or.inl rfl⟩, fun _ h => absurd h List.not_mem_nil⟩
theorem zf_X7_125 : ∀ q ∈ ([(3, 8)] : List (Nat × Nat)), zq_fok RX7 125 q.1 q.2 := List.forall_mem_cons.mpr ⟨⟨_, RX3, TX3, 9, rfl, by decide, zq_uw3, zw_180, Or.inl rfl⟩, fun _ h => absurd h List.not_mem_nil⟩
theorem zf_X8_115 : ∀ q ∈ ([(0, 3), (3, 3)] : List (Nat × Nat)), zq_fok RX8 115 q.1 q.2 := List.forall_mem_cons.mpr ⟨⟨_, RX0, TX0, 9, rfl, by decide, zq_uw0, zw_130, Or.inl rfl⟩, List.forall_mem_cons.mpr ⟨⟨_, RX3, TX3, 9, rfl, by decide, zq_uw3, zw_130, Or.inl rfl⟩, fun _ h => absurd h List.not_mem_nil⟩⟩
theorem zf_X8_121 : ∀ q ∈ ([(0, 4), (3, 4)] : List (Nat × Nat)), zq_fok RX8 121 q.1 q.2 := List.forall_mem_cons.mpr ⟨⟨_, RX0, TX0, 9, rfl, by decide, zq_uw0, zw_136, Or.inl rfl⟩, List.forall_mem_cons.mpr ⟨⟨_, RX3, TX3, 9, rfl, by decide, zq_uw3, zw_136, Or.inl rfl⟩, fun _ h => absurd h List.not_mem_nil⟩⟩
theorem zf_X8_10 : ∀ q ∈ ([(7, 0)] : List (Nat × Nat)), zq_fok RX8 10 q.1 q.2 := List.forall_mem_cons.mpr ⟨⟨_, RX8, TX8, 17, rfl, by decide, zq_uw8, zw_322, Or.inl rfl⟩, fun _ h => absurd h List.not_mem_nil⟩
theorem zf_X8_124 : ∀ q ∈ ([(0, 5)] : List (Nat × Nat)), zq_fok RX8 124 q.1 q.2 := List.forall_mem_cons.mpr ⟨⟨_, RX0, TX0, 9, rfl, by decide, zq_uw0, zw_144, Or.inr zw_139⟩, fun _ h => absurd h List.not_mem_nil⟩
theorem zf_X8_127 : ∀ q ∈ ([(0, 6)] : List (Nat × Nat)), zq_fok RX8 127 q.1 q.2 := List.forall_mem_cons.mpr ⟨⟨_, RX0, TX0, 9, rfl, by decide, zq_uw0, zw_118, Or.inl rfl⟩, fun _ h => absurd h List.not_mem_nil⟩
theorem zf_X8_130 : ∀ q ∈ ([(0, 7)] : List (Nat × Nat)), zq_fok RX8 130 q.1 q.2 := List.forall_mem_cons.mpr ⟨⟨_, RX0, TX0, 9, rfl, by decide, zq_uw0, zw_120, Or.inl rfl⟩, fun _ h => absurd h List.not_mem_nil⟩
theorem zf_X8_19 : ∀ q ∈ ([(7, 1)] : List (Nat × Nat)), zq_fok RX8 19 q.1 q.2 := List.forall_mem_cons.mpr ⟨⟨_, RX8, TX8, 17, rfl, by decide, zq_uw8, zw_323, Or.inl rfl⟩, fun _ h => absurd h List.not_mem_nil⟩
theorem zf_X8_137 : ∀ q ∈ ([(3, 6)] : List (Nat × Nat)), zq_fok RX8 137 q.1 q.2 := List.forall_mem_cons.mpr ⟨⟨_, RX3, TX3, 9, rfl, by decide, zq_uw3, zw_173, Or.inl rfl⟩, fun _ h => absurd h List.not_mem_nil⟩
theorem zf_X8_140 : ∀ q ∈ ([(3, 7)] : List (Nat × Nat)), zq_fok RX8 140 q.1 q.2 := List.forall_mem_cons.mpr ⟨⟨_, RX3, TX3, 9, rfl, by decide, zq_uw3, zw_177, Or.inl rfl⟩, fun _ h => absurd h List.not_mem_nil⟩
theorem zf_X8_143 : ∀ q ∈ ([(3, 8)] : List (Nat × Nat)), zq_fok RX8 143 q.1 q.2 := List.forall_mem_cons.mpr ⟨⟨_, RX3, TX3, 9, rfl, by decide, zq_uw3, zw_179, Or.inl rfl⟩, fun _ h => absurd h List.not_mem_nil⟩
theorem zf_X8_77 : ∀ q ∈ ([(7, 12)] : List (Nat × Nat)), zq_fok RX8 77 q.1 q.2 := List.forall_mem_cons.mpr ⟨⟨_, RX8, TX8, 17, rfl, by decide, zq_uw8, zw_334, Or.inl rfl⟩, fun _ h => absurd h List.not_mem_nil⟩
theorem zf_X8_26 : ∀ q ∈ ([(7, 2)] : List (Nat × Nat)), zq_fok RX8 26 q.1 q.2 := List.forall_mem_cons.mpr ⟨⟨_, RX8, TX8, 17, rfl, by decide, zq_uw8, zw_324, Or.inl rfl⟩, fun _ h => absurd h List.not_mem_nil⟩
theorem zf_X8_152 : ∀ q ∈ ([(1, 3)] : List (Nat × Nat)), zq_fok RX8 152 q.1 q.2 := List.forall_mem_cons.mpr ⟨⟨_, RX1, TX1, 4, rfl, by decide, zq_uw1, zw_208, Or.inl rfl⟩, fun _ h => absurd h List.not_mem_nil⟩
theorem zf_X8_49 : ∀ q ∈ ([(7, 6)] : List (Nat × Nat)), zq_fok RX8 49 q.1 q.2 := List.forall_mem_cons.mpr ⟨⟨_, RX8, TX8, 17, rfl, by decide, zq_uw8, zw_328, Or.inl rfl⟩, fun _ h => absurd h List.not_mem_nil⟩
theorem zf_X8_166 : ∀ q ∈ ([(4, 2)] : List (Nat × Nat)), zq_fok RX8 166 q.1 q.2 := List.forall_mem_cons.mpr ⟨⟨_, RX4, TX4, 3, rfl, by decide, zq_uw4, zw_261, Or.inl rfl⟩, fun _ h => absurd h List.not_mem_nil⟩
theorem zf_X8_167 : ∀ q ∈ ([(4, 0)] : List (Nat × Nat)), zq_fok RX8 167 q.1 q.2 := List.forall_mem_cons.mpr ⟨⟨_, RX4, TX4, 3, rfl, by decide, zq_uw4, zw_257, Or.inl rfl⟩, fun _ h => absurd h List.not_mem_nil⟩
theorem zf_X8_63 : ∀ q ∈ ([(7, 8)] : List (Nat × Nat)), zq_fok RX8 63 q.1 q.2 := List.forall_mem_cons.mpr ⟨⟨_, RX8, TX8, 17, rfl, by decide, zq_uw8, zw_330, Or.inl rfl⟩, fun _ h => absurd h List.not_mem_nil⟩
theorem zf_X8_30 : ∀ q ∈ ([(7, 3)] : List (Nat × Nat)), zq_fok RX8 30 q.1 q.2 := List.forall_mem_cons.mpr ⟨⟨_, RX8, TX8, 17, rfl, by decide, zq_uw8, zw_325, Or.inl rfl⟩, fun _ h => absurd h List.not_mem_nil⟩
theorem zf_X8_43 : ∀ q ∈ ([(7, 5)] : List (Nat × Nat)), zq_fok RX8 43 q.1 q.2 := List.forall_mem_cons.mpr ⟨⟨_, RX8, TX8, 17, rfl, by decide, zq_uw8, zw_327, Or.inl rfl⟩, fun _ h => absurd h List.not_mem_nil⟩
theorem zf_X8_241 : ∀ q ∈ ([(5, 3)] : List (Nat × Nat)), zq_fok RX8 241 q.1 q.2 := List.forall_mem_cons.mpr ⟨⟨_, RX5, TX5, 4, rfl, by decide, zq_uw5, zw_239, Or.inl rfl⟩, fun _ h => absurd h List.not_mem_nil⟩
theorem zf_X8_73 : ∀ q ∈ ([(7, 11)] : List (Nat × Nat)), zq_fok RX8 73 q.1 q.2 := List.forall_mem_cons.mpr ⟨⟨_, RX8, TX8, 17, rfl, by decide, zq_uw8, zw_333, Or.inl rfl⟩, fun _ h => absurd h List.not_mem_nil⟩
theorem zf_X8_36 : ∀ q ∈ ([(7, 4)] : List (Nat × Nat)), zq_fok RX8 36 q.1 q.2 := List.forall_mem_cons.mpr ⟨⟨_, RX8, TX8, 17, rfl, by decide, zq_uw8, zw_326, Or.inl rfl⟩, fun _ h => absurd h List.not_mem_nil⟩
theorem zf_X8_282 : ∀ q ∈ ([(4, 1)] : List (Nat × Nat)), zq_fok RX8 282 q.1 q.2 := List.forall_mem_cons.mpr ⟨⟨_, RX4, TX4, 3, rfl, by decide, zq_uw4, zw_259, Or.inl rfl⟩, fun _ h => absurd h List.not_mem_nil⟩
theorem zf_X8_300 : ∀ q ∈ ([(3, 5)] : List (Nat × Nat)), zq_fok RX8 300 q.1 q.2 := List.forall_mem_cons.mpr ⟨⟨_, RX3, TX3, 9, rfl, by decide, zq_uw3, zw_145, Or.inr zw_141⟩, fun _ h => absurd h List.not_mem_nil⟩
theorem zf_X8_301 : ∀ q ∈ ([(0, 3)] : List (Nat × Nat)), zq_fok RX8 301 q.1 q.2 := List.forall_mem_cons.mpr ⟨⟨_, RX0, TX0, 9, rfl, by decide, zq_uw0, zw_131, Or.inr zw_132⟩, fun _ h => absurd h List.not_mem_nil⟩
theorem zf_X8_302 : ∀ q ∈ ([(3, 3)] : List (Nat × Nat)), zq_fok RX8 302 q.1 q.2 := List.forall_mem_cons.mpr ⟨⟨_, RX3, TX3, 9, rfl, by decide, zq_uw3, zw_133, Or.inr zw_134⟩, fun _ h => absurd h List.not_mem_nil⟩
theorem zf_X8_81 : ∀ q ∈ ([(7, 13)] : List (Nat × Nat)), zq_fok RX8 81 q.1 q.2 := List.forall_mem_cons.mpr ⟨⟨_, RX8, TX8, 17, rfl, by decide, zq_uw8, zw_335, Or.inl rfl⟩, fun _ h => absurd h List.not_mem_nil⟩
theorem zf_X8_59 : ∀ q ∈ ([(7, 7)] : List (Nat × Nat)), zq_fok RX8 59 q.1 q.2 := List.forall_mem_cons.mpr ⟨⟨_, RX8, TX8, 17, rfl, by decide, zq_uw8, zw_329, Or.inl rfl⟩, fun _ h => absurd h List.not_mem_nil⟩
theorem zf_X8_84 : ∀ q ∈ ([(7, 14)] : List (Nat × Nat)), zq_fok RX8 84 q.1 q.2 := List.forall_mem_cons.mpr ⟨⟨_, RX8, TX8, 17, rfl, by decide, zq_uw8, zw_336, Or.inl rfl⟩, fun _ h => absurd h List.not_mem_nil⟩
theorem zf_X8_66 : ∀ q ∈ ([(7, 9)] : List (Nat × Nat)), zq_fok RX8 66 q.1 q.2 := List.forall_mem_cons.mpr ⟨⟨_, RX8, TX8, 17, rfl, by decide, zq_uw8, zw_331, Or.inl rfl⟩, fun _ h => absurd h List.not_mem_nil⟩
theorem zf_X8_70 : ∀ q ∈ ([(7, 10)] : List (Nat × Nat)), zq_fok RX8 70 q.1 q.2 := List.forall_mem_cons.mpr ⟨⟨_, RX8, TX8, 17, rfl, by decide, zq_uw8, zw_332, Or.inl rfl⟩, fun _ h => absurd h List.not_mem_nil⟩
theorem zf_X8_88 : ∀ q ∈ ([(7, 15)] : List (Nat × Nat)), zq_fok RX8 88 q.1 q.2 := List.forall_mem_cons.mpr ⟨⟨_, RX8, TX8, 17, rfl, by decide, zq_uw8, zw_337, Or.inl rfl⟩, fun _ h => absurd h List.not_mem_nil⟩
theorem zf_X8_91 : ∀ q ∈ ([(7, 16)] : List (Nat × Nat)), zq_fok RX8 91 q.1 q.2 := List.forall_mem_cons.mpr ⟨⟨_, RX8, TX8, 17, rfl, by decide, zq_uw8, zw_338, Or.inl rfl⟩, fun _ h => absurd h List.not_mem_nil⟩
theorem zf_X9_7 : ∀ q ∈ ([(8, 0)] : List (Nat × Nat)), zq_fok RX9 7 q.1 q.2 := List.forall_mem_cons.mpr ⟨⟨_, RX9, TX9, 37, rfl, by decide, zq_uw9, zw_865, Or.inl rfl⟩, fun _ h => absurd h List.not_mem_nil⟩
theorem zf_X9_13 : ∀ q ∈ ([(8, 1)] : List (Nat × Nat)), zq_fok RX9 13 q.1 q.2 := List.forall_mem_cons.mpr ⟨⟨_, RX9, TX9, 37, rfl, by decide, zq_uw9, zw_866, Or.inl rfl⟩, fun _ h => absurd h List.not_mem_nil⟩
theorem zf_X9_16 : ∀ q ∈ ([(8, 3)] : List (Nat × Nat)), zq_fok RX9 16 q.1 q.2 := List.forall_mem_cons.mpr ⟨⟨_, RX9, TX9, 37, rfl, by decide, zq_uw9, zw_868, Or.inl rfl⟩, fun _ h => absurd h List.not_mem_nil⟩
theorem zf_X9_19 : ∀ q ∈ ([(8, 4)] : List (Nat × Nat)), zq_fok RX9 19 q.1 q.2 := List.forall_mem_cons.mpr ⟨⟨_, RX9, TX9, 37, rfl, by decide, zq_uw9, zw_869, Or.inl rfl⟩, fun _ h => absurd h List.not_mem_nil⟩
theorem zf_X9_22 : ∀ q ∈ ([(8, 6)] : List (Nat × Nat)), zq_fok RX9 22 q.1 q.2 := List.forall_mem_cons.mpr ⟨⟨_, RX9, TX9, 37, rfl, by decide, zq_uw9, zw_871, Or.inl rfl⟩, fun _ h => absurd h List.not_mem_nil⟩
theorem zf_X9_25 : ∀ q ∈ ([(8, 7)] : List (Nat × Nat)), zq_fok RX9 25 q.1 q.2 := List.forall_mem_cons.mpr ⟨⟨_, RX9, TX9, 37, rfl, by decide, zq_uw9, zw_872, Or.inl rfl⟩, fun _ h => absurd h List.not_mem_nil⟩
theorem zf_X9_28 : ∀ q ∈ ([(8, 8)] : List (Nat × Nat)), zq_fok RX9 28 q.1 q.2 := List.forall_mem_cons.mpr ⟨⟨_, RX9, TX9, 37, rfl, by decide, zq_uw9, zw_873, Or.inl rfl⟩, fun _ h => absurd h List.not_mem_nil⟩
theorem zf_X9_110 : ∀ q ∈ ([(8, 2)] : List (Nat × Nat)), zq_fok RX9 110 q.1 q.2 := List.forall_mem_cons.mpr ⟨⟨_, RX9, TX9, 37, rfl, by decide, zq_uw9, zw_867, Or.inl rfl⟩, fun _ h => absurd h List.not_mem_nil⟩
theorem zf_X9_113 : ∀ q ∈ ([(8, 5)] : List (Nat × Nat)), zq_fok RX9 113 q.1 q.2 := List.forall_mem_cons.mpr ⟨⟨_, RX9, TX9, 37, rfl, by decide, zq_uw9, zw_870, Or.inl rfl⟩, fun _ h => absurd h List.not_mem_nil⟩
theorem zf_X9_89 : ∀ q ∈ ([(8, 9)] : List (Nat × Nat)), zq_fok RX9 89 q.1 q.2 := List.forall_mem_cons.mpr ⟨⟨_, RX9, TX9, 37, rfl, by decide, zq_uw9, zw_874, Or.inl rfl⟩, fun _ h => absurd h List.not_mem_nil⟩
theorem zf_X9_153 : ∀ q ∈ ([(8, 10)] : List (Nat × Nat)), zq_fok RX9 153 q.1 q.2 := List.forall_mem_cons.mpr ⟨⟨_, RX9, TX9, 37, rfl, by decide, zq_uw9, zw_875, Or.inl rfl⟩, fun _ h => absurd h List.not_mem_nil⟩
theorem zf_X9_31 : ∀ q ∈ ([(8, 11)] : List (Nat × Nat)), zq_fok RX9 31 q.1 q.2 := List.forall_mem_cons.mpr ⟨⟨_, RX9, TX9, 37, rfl, by decide, zq_uw9, zw_876, Or.inl rfl⟩, fun _ h => absurd h List.not_mem_nil⟩
theorem zf_X9_34 : ∀ q ∈ ([(8, 12)] : List (Nat × Nat)), zq_fok RX9 34 q.1 q.2 := List.forall_mem_cons.mpr ⟨⟨_, RX9, TX9, 37, rfl, by decide, zq_uw9, zw_877, Or.inl rfl⟩, fun _ h => absurd h List.not_mem_nil⟩
theorem zf_X9_37 : ∀ q ∈ ([(8, 13)] : List (Nat × Nat)), zq_fok RX9 37 q.1 q.2 := List.forall_mem_cons.mpr ⟨⟨_, RX9, TX9, 37, rfl, by decide, zq_uw9, zw_878, Or.inl rfl⟩, fun _ h => absurd h List.not_mem_nil⟩
theorem zf_X9_73 : ∀ q ∈ ([(8, 31)] : List (Nat × Nat)), zq_fok RX9 73 q.1 q.2 := List.forall_mem_cons.mpr ⟨⟨_, RX9, TX9, 37, rfl, by decide, zq_uw9, zw_896, Or.inl rfl⟩, fun _ h => absurd h List.not_mem_nil⟩
theorem zf_X9_80 : ∀ q ∈ ([(8, 33)] : List (Nat × Nat)), zq_fok RX9 80 q.1 q.2 := List.forall_mem_cons.mpr ⟨⟨_, RX9, TX9, 37, rfl, by decide, zq_uw9, zw_898, Or.inl rfl⟩, fun _ h => absurd h List.not_mem_nil⟩
theorem zf_X9_83 : ∀ q ∈ ([(8, 34)] : List (Nat × Nat)), zq_fok RX9 83 q.1 q.2 := List.forall_mem_cons.mpr ⟨⟨_, RX9, TX9, 37, rfl, by decide, zq_uw9, zw_899, Or.inl rfl⟩, fun _ h => absurd h List.not_mem_nil⟩
theorem zf_X9_40 : ∀ q ∈ ([(8, 16)] : List (Nat × Nat)), zq_fok RX9 40 q.1 q.2 := List.forall_mem_cons.mpr ⟨⟨_, RX9, TX9, 37, rfl, by decide, zq_uw9, zw_881, Or.inl rfl⟩, fun _ h => absurd h List.not_mem_nil⟩
theorem zf_X9_43 : ∀ q ∈ ([(8, 17)] : List (Nat × Nat)), zq_fok RX9 43 q.1 q.2 := List.forall_mem_cons.mpr ⟨⟨_, RX9, TX9, 37, rfl, by decide, zq_uw9, zw_882, Or.inl rfl⟩, fun _ h => absurd h List.not_mem_nil⟩
theorem zf_X9_46 : ∀ q ∈ ([(8, 18)] : List (Nat × Nat)), zq_fok RX9 46 q.1 q.2 := List.forall_mem_cons.mpr ⟨⟨_, RX9, TX9, 37, rfl, by decide, zq_uw9, zw_883, Or.inl rfl⟩, fun _ h => absurd h List.not_mem_nil⟩
theorem zf_X9_169 : ∀ q ∈ ([(8, 15)] : List (Nat × Nat)), zq_fok RX9 169 q.1 q.2 := List.forall_mem_cons.mpr ⟨⟨_, RX9, TX9, 37, rfl, by decide, zq_uw9, zw_880, Or.inl rfl⟩, fun _ h => absurd h List.not_mem_nil⟩
theorem zf_X9_172 : ∀ q ∈ ([(8, 19)] : List (Nat × Nat)), zq_fok RX9 172 q.1 q.2 := List.forall_mem_cons.mpr ⟨⟨_, RX9, TX9, 37, rfl, by decide, zq_uw9, zw_884, Or.inl rfl⟩, fun _ h => absurd h List.not_mem_nil⟩
theorem zf_X9_179 : ∀ q ∈ ([(8, 20)] : List (Nat × Nat)), zq_fok RX9 179 q.1 q.2 := List.forall_mem_cons.mpr ⟨⟨_, RX9, TX9, 37, rfl, by decide, zq_uw9, zw_885, Or.inl rfl⟩, fun _ h => absurd h List.not_mem_nil⟩
theorem zf_X9_182 : ∀ q ∈ ([(8, 21)] : List (Nat × Nat)), zq_fok RX9 182 q.1 q.2 := List.forall_mem_cons.mpr ⟨⟨_, RX9, TX9, 37, rfl, by decide, zq_uw9, zw_886, Or.inl rfl⟩, fun _ h => absurd h List.not_mem_nil⟩
theorem zf_X9_49 : ∀ q ∈ ([(8, 22)] : List (Nat × Nat)), zq_fok RX9 49 q.1 q.2 := List.forall_mem_cons.mpr ⟨⟨_, RX9, TX9, 37, rfl, by decide, zq_uw9, zw_887, Or.inl rfl⟩, fun _ h => absurd h List.not_mem_nil⟩
theorem zf_X9_52 : ∀ q ∈ ([(8, 23)] : List (Nat × Nat)), zq_fok RX9 52 q.1 q.2 := List.forall_mem_cons.mpr ⟨⟨_, RX9, TX9, 37, rfl, by decide, zq_uw9, zw_888, Or.inl rfl⟩, fun _ h => absurd h List.not_mem_nil⟩
theorem zf_X9_166 : ∀ q ∈ ([(8, 14)] : List (Nat × Nat)), zq_fok RX9 166 q.1 q.2 := List.forall_mem_cons.mpr ⟨⟨_, RX9, TX9, 37, rfl, by decide, zq_uw9, zw_879, Or.inl rfl⟩, fun _ h => absurd h List.not_mem_nil⟩
theorem zf_X9_55 : ∀ q ∈ ([(8, 24)] : List (Nat × Nat)), zq_fok RX9 55 q.1 q.2 := List.forall_mem_cons.mpr ⟨⟨_, RX9, TX9, 37, rfl, by decide, zq_uw9, zw_889, Or.inl rfl⟩, fun _ h => absurd h List.not_mem_nil⟩
theorem zf_X9_58 : ∀ q ∈ ([(8, 25)] : List (Nat × Nat)), zq_fok RX9 58 q.1 q.2 := List.forall_mem_cons.mpr ⟨⟨_, RX9, TX9, 37, rfl, by decide, zq_uw9, zw_890, Or.inl rfl⟩, fun _ h => absurd h List.not_mem_nil⟩
theorem zf_X9_285 : ∀ q ∈ ([(8, 26)] : List (Nat × Nat)), zq_fok RX9 285 q.1 q.2 := List.forall_mem_cons.mpr ⟨⟨_, RX9, TX9, 37, rfl, by decide, zq_uw9, zw_891, Or.inl rfl⟩, fun _ h => absurd h List.not_mem_nil⟩
theorem zf_X9_61 : ∀ q ∈ ([(8, 27)] : List (Nat × Nat)), zq_fok RX9 61 q.1 q.2 := List.forall_mem_cons.mpr ⟨⟨_, RX9, TX9, 37, rfl, by decide, zq_uw9, zw_892, Or.inl rfl⟩, fun _ h => absurd h List.not_mem_nil⟩
theorem zf_X9_64 : ∀ q ∈ ([(8, 28)] : List (Nat × Nat)), zq_fok RX9 64 q.1 q.2 := List.forall_mem_cons.mpr ⟨⟨_, RX9, TX9, 37, rfl, by decide, zq_uw9, zw_893, Or.inl rfl⟩, fun _ h => absurd h List.not_mem_nil⟩
theorem zf_X9_67 : ∀ q ∈ ([(8, 29)] : List (Nat × Nat)), zq_fok RX9 67 q.1 q.2 := List.forall_mem_cons.mpr ⟨⟨_, RX9, TX9, 37, rfl, by decide, zq_uw9, zw_894, Or.inl rfl⟩, fun _ h => absurd h List.not_mem_nil⟩
theorem zf_X9_70 : ∀ q ∈ ([(8, 30)] : List (Nat × Nat)), zq_fok RX9 70 q.1 q.2 := List.forall_mem_cons.mpr ⟨⟨_, RX9, TX9, 37, rfl, by decide, zq_uw9, zw_895, Or.inl rfl⟩, fun _ h => absurd h List.not_mem_nil⟩
theorem zf_X9_77 : ∀ q ∈ ([(8, 32)] : List (Nat × Nat)), zq_fok RX9 77 q.1 q.2 := List.forall_mem_cons.mpr ⟨⟨_, RX9, TX9, 37, rfl, by decide, zq_uw9, zw_897, Or.inl rfl⟩, fun _ h => absurd h List.not_mem_nil⟩
theorem zf_X9_86 : ∀ q ∈ ([(8, 35)] : List (Nat × Nat)), zq_fok RX9 86 q.1 q.2 := List.forall_mem_cons.mpr ⟨⟨_, RX9, TX9, 37, rfl, by decide, zq_uw9, zw_900, Or.inl rfl⟩, fun _ h => absurd h List.not_mem_nil⟩
theorem zf_X9_320 : ∀ q ∈ ([(8, 36)] : List (Nat × Nat)), zq_fok RX9 320 q.1 q.2 := List.forall_mem_cons.mpr ⟨⟨_, RX9, TX9, 37, rfl, by decide, zq_uw9, zw_901, Or.inl rfl⟩, fun _ h => absurd h List.not_mem_nil⟩
theorem zp_X1_21 : ∀ q ∈ ([(1, 3)] : List (Nat × Nat)), zq_wok RX1 21 q.1 q.2 .int := List.forall_mem_cons.mpr ⟨⟨RX1, TX1, 4, tyX1, rfl, by decide, zq_uw1, zw_206, tyX1_ok, nmX1, rfl, by decide +kernel⟩, fun _ h => absurd h List.not_mem_nil⟩
theorem zp_X2_8 : ∀ q ∈ ([(2, 0)] : List (Nat × Nat)), zq_wok RX2 8 q.1 q.2 .int := List.forall_mem_cons.mpr ⟨⟨RX2, TX2, 1, tyX2, rfl, by decide, zq_uw2, zw_224, tyX2_ok, nmX2, rfl, by decide +kernel⟩, fun _ h => absurd h List.not_mem_nil⟩
theorem zp_X4_15 : ∀ q ∈ ([(4, 1)] : List (Nat × Nat)), zq_wok RX4 15 q.1 q.2 .int := List.forall_mem_cons.mpr ⟨⟨RX4, TX4, 3, tyX4, rfl, by decide, zq_uw4, zw_258, tyX4_ok, nmX4, rfl, by decide +kernel⟩, fun _ h => absurd h List.not_mem_nil⟩
theorem zp_X4_19 : ∀ q ∈ ([(4, 2)] : List (Nat × Nat)), zq_wok RX4 19 q.1 q.2 .int := List.forall_mem_cons.mpr ⟨⟨RX4, TX4, 3, tyX4, rfl, by decide, zq_uw4, zw_260, tyX4_ok, nmX4, rfl, by decide +kernel⟩, fun _ h => absurd h List.not_mem_nil⟩
theorem zp_X5_21 : ∀ q ∈ ([(5, 3)] : List (Nat × Nat)), zq_wok RX5 21 q.1 q.2 .int := List.forall_mem_cons.mpr ⟨⟨RX5, TX5, 4, tyX5, rfl, by decide, zq_uw5, zw_238, tyX5_ok, nmX5, rfl, by decide +kernel⟩, fun _ h => absurd h List.not_mem_nil⟩
theorem zp_X6_31 : ∀ q ∈ ([(0, 3), (3, 3)] : List (Nat × Nat)), zq_wok RX6 31 q.1 q.2 .int := List.forall_mem_cons.mpr ⟨⟨RX0, TX0, 9, tyX0, rfl, by decide, zq_uw0, zw_129, tyX0_ok, nmX0, rfl, by decide +kernel⟩, List.forall_mem_cons.mpr ⟨⟨RX3, TX3, 9, tyX3, rfl, by decide, zq_uw3, zw_129, tyX3_ok, nmX3, rfl, by decide +kernel⟩, fun _ h => absurd h List.not_mem_nil⟩⟩
theorem zp_X6_34 : ∀ q ∈ ([(0, 4), (3, 4)] : List (Nat × Nat)), zq_wok RX6 34 q.1 q.2 .int := List.forall_mem_cons.mpr ⟨⟨RX0, TX0, 9, tyX0, rfl, by decide, zq_uw0, zw_135, tyX0_ok, nmX0, rfl, by decide +kernel⟩, List.forall_mem_cons.mpr ⟨⟨RX3, TX3, 9, tyX3, rfl, by decide, zq_uw3, zw_135, tyX3_ok, nmX3, rfl, by decide +kernel⟩, fun _ h => absurd h List.not_mem_nil⟩⟩
theorem zp_X6_37 : ∀ q ∈ ([(0, 5), (3, 5)] : List (Nat × Nat)), zq_wok RX6 37 q.1 q.2 .int := List.forall_mem_cons.mpr ⟨⟨RX0, TX0, 9, tyX0, rfl, by decide, zq_uw0, zw_137, tyX0_ok, nmX0, rfl, by decide +kernel⟩, List.forall_mem_cons.mpr ⟨⟨RX3, TX3, 9, tyX3, rfl, by decide, zq_uw3, zw_137, tyX3_ok, nmX3, rfl, by decide +kernel⟩, fun _ h => absurd h List.not_mem_nil⟩⟩
theorem zp_X7_42 : ∀ q ∈ ([(6, 11)] : List (Nat × Nat)), zq_wok RX7 42 q.1 q.2 .int := List.forall_mem_cons.mpr ⟨⟨RX7, TX7, 14, tyX7, rfl, by decide, zq_uw7, zw_290, tyX7_ok, nmX7, rfl, by decide +kernel⟩, fun _ h => absurd h List.not_mem_nil⟩
theorem zp_X7_46 : ∀ q ∈ ([(6, 12)] : List (Nat × Nat)), zq_wok RX7 46 q.1 q.2 .int := List.forall_mem_cons.mpr ⟨⟨RX7, TX7, 14, tyX7, rfl, by decide, zq_uw7, zw_291, tyX7_ok, nmX7, rfl, by decide +kernel⟩, fun _ h => absurd h List.not_mem_nil⟩
theorem zp_X7_49 : ∀ q ∈ ([(6, 13)] : List (Nat × Nat)), zq_wok RX7 49 q.1 q.2 .int := List.forall_mem_cons.mpr ⟨⟨RX7, TX7, 14, tyX7, rfl, by decide, zq_uw7, zw_292, tyX7_ok, nmX7, rfl, by decide +kernel⟩, fun _ h => absurd h List.not_mem_nil⟩
theorem zp_X7_38 : ∀ q ∈ ([(6, 8)] : List (Nat × Nat)), zq_wok RX7 38 q.1 q.2 (.object "DollsAhead$Events") := List.forall_mem_cons.mpr ⟨⟨RX7, TX7, 14, tyX7, rfl, by decide, zq_uw7, zw_287, tyX7_ok, nmX7, rfl, by decide +kernel⟩, fun _ h => absurd h List.not_mem_nil⟩
theorem zp_X7_58 : ∀ q ∈ ([(6, 9)] : List (Nat × Nat)), zq_wok RX7 58 q.1 q.2 .int := List.forall_mem_cons.mpr ⟨⟨RX7, TX7, 14, tyX7, rfl, by decide, zq_uw7, zw_288, tyX7_ok, nmX7, rfl, by decide +kernel⟩, fun _ h => absurd h List.not_mem_nil⟩
theorem zp_X7_61 : ∀ q ∈ ([(6, 10)] : List (Nat × Nat)), zq_wok RX7 61 q.1 q.2 .int := List.forall_mem_cons.mpr ⟨⟨RX7, TX7, 14, tyX7, rfl, by decide, zq_uw7, zw_289, tyX7_ok, nmX7, rfl, by decide +kernel⟩, fun _ h => absurd h List.not_mem_nil⟩
theorem zp_X8_77 : ∀ q ∈ ([(7, 12)] : List (Nat × Nat)), zq_wok RX8 77 q.1 q.2 .int := List.forall_mem_cons.mpr ⟨⟨RX8, TX8, 17, tyX8, rfl, by decide, zq_uw8, zw_334, tyX8_ok, nmX8, rfl, by decide +kernel⟩, fun _ h => absurd h List.not_mem_nil⟩
theorem zp_X8_152 : ∀ q ∈ ([(1, 3)] : List (Nat × Nat)), zq_wok RX8 152 q.1 q.2 .int := List.forall_mem_cons.mpr ⟨⟨RX1, TX1, 4, tyX1, rfl, by decide, zq_uw1, zw_208, tyX1_ok, nmX1, rfl, by decide +kernel⟩, fun _ h => absurd h List.not_mem_nil⟩
theorem zp_X8_241 : ∀ q ∈ ([(5, 3)] : List (Nat × Nat)), zq_wok RX8 241 q.1 q.2 .int := List.forall_mem_cons.mpr ⟨⟨RX5, TX5, 4, tyX5, rfl, by decide, zq_uw5, zw_239, tyX5_ok, nmX5, rfl, by decide +kernel⟩, fun _ h => absurd h List.not_mem_nil⟩
theorem zp_X8_264 : ∀ q ∈ ([(2, 0)] : List (Nat × Nat)), zq_wok RX8 264 q.1 q.2 .int := List.forall_mem_cons.mpr ⟨⟨RX2, TX2, 1, tyX2, rfl, by decide, zq_uw2, zw_225, tyX2_ok, nmX2, rfl, by decide +kernel⟩, fun _ h => absurd h List.not_mem_nil⟩
theorem zp_X8_166 : ∀ q ∈ ([(4, 2)] : List (Nat × Nat)), zq_wok RX8 166 q.1 q.2 .int := List.forall_mem_cons.mpr ⟨⟨RX4, TX4, 3, tyX4, rfl, by decide, zq_uw4, zw_261, tyX4_ok, nmX4, rfl, by decide +kernel⟩, fun _ h => absurd h List.not_mem_nil⟩
theorem zp_X8_84 : ∀ q ∈ ([(7, 14)] : List (Nat × Nat)), zq_wok RX8 84 q.1 q.2 .boolean := List.forall_mem_cons.mpr ⟨⟨RX8, TX8, 17, tyX8, rfl, by decide, zq_uw8, zw_336, tyX8_ok, nmX8, rfl, by decide +kernel⟩, fun _ h => absurd h List.not_mem_nil⟩
theorem zp_X8_91 : ∀ q ∈ ([(7, 16)] : List (Nat × Nat)), zq_wok RX8 91 q.1 q.2 .int := List.forall_mem_cons.mpr ⟨⟨RX8, TX8, 17, tyX8, rfl, by decide, zq_uw8, zw_338, tyX8_ok, nmX8, rfl, by decide +kernel⟩, fun _ h => absurd h List.not_mem_nil⟩
theorem zp_X8_88 : ∀ q ∈ ([(7, 15)] : List (Nat × Nat)), zq_wok RX8 88 q.1 q.2 .int := List.forall_mem_cons.mpr ⟨⟨RX8, TX8, 17, tyX8, rfl, by decide, zq_uw8, zw_337, tyX8_ok, nmX8, rfl, by decide +kernel⟩, fun _ h => absurd h List.not_mem_nil⟩
theorem zp_X8_81 : ∀ q ∈ ([(7, 13)] : List (Nat × Nat)), zq_wok RX8 81 q.1 q.2 .int := List.forall_mem_cons.mpr ⟨⟨RX8, TX8, 17, tyX8, rfl, by decide, zq_uw8, zw_335, tyX8_ok, nmX8, rfl, by decide +kernel⟩, fun _ h => absurd h List.not_mem_nil⟩
theorem zp_X9_110 : ∀ q ∈ ([(8, 2)] : List (Nat × Nat)), zq_wok RX9 110 q.1 q.2 .int := List.forall_mem_cons.mpr ⟨⟨RX9, TX9, 37, tyX9, rfl, by decide, zq_uw9, zw_867, tyX9_ok, nmX9, rfl, by decide +kernel⟩, fun _ h => absurd h List.not_mem_nil⟩
theorem zp_X9_113 : ∀ q ∈ ([(8, 5)] : List (Nat × Nat)), zq_wok RX9 113 q.1 q.2 .int := List.forall_mem_cons.mpr ⟨⟨RX9, TX9, 37, tyX9, rfl, by decide, zq_uw9, zw_870, tyX9_ok, nmX9, rfl, by decide +kernel⟩, fun _ h => absurd h List.not_mem_nil⟩
theorem zp_X9_89 : ∀ q ∈ ([(8, 9)] : List (Nat × Nat)), zq_wok RX9 89 q.1 q.2 .int := List.forall_mem_cons.mpr ⟨⟨RX9, TX9, 37, tyX9, rfl, by decide, zq_uw9, zw_874, tyX9_ok, nmX9, rfl, by decide +kernel⟩, fun _ h => absurd h List.not_mem_nil⟩
theorem zp_X9_153 : ∀ q ∈ ([(8, 10)] : List (Nat × Nat)), zq_wok RX9 153 q.1 q.2 .int := List.forall_mem_cons.mpr ⟨⟨RX9, TX9, 37, tyX9, rfl, by decide, zq_uw9, zw_875, tyX9_ok, nmX9, rfl, by decide +kernel⟩, fun _ h => absurd h List.not_mem_nil⟩
theorem zp_X9_166 : ∀ q ∈ ([(8, 14)] : List (Nat × Nat)), zq_wok RX9 166 q.1 q.2 .int := List.forall_mem_cons.mpr ⟨⟨RX9, TX9, 37, tyX9, rfl, by decide, zq_uw9, zw_879, tyX9_ok, nmX9, rfl, by decide +kernel⟩, fun _ h => absurd h List.not_mem_nil⟩
theorem zp_X9_169 : ∀ q ∈ ([(8, 15)] : List (Nat × Nat)), zq_wok RX9 169 q.1 q.2 .int := List.forall_mem_cons.mpr ⟨⟨RX9, TX9, 37, tyX9, rfl, by decide, zq_uw9, zw_880, tyX9_ok, nmX9, rfl, by decide +kernel⟩, fun _ h => absurd h List.not_mem_nil⟩
theorem zp_X9_172 : ∀ q ∈ ([(8, 19)] : List (Nat × Nat)), zq_wok RX9 172 q.1 q.2 .int := List.forall_mem_cons.mpr ⟨⟨RX9, TX9, 37, tyX9, rfl, by decide, zq_uw9, zw_884, tyX9_ok, nmX9, rfl, by decide +kernel⟩, fun _ h => absurd h List.not_mem_nil⟩
theorem zp_X9_179 : ∀ q ∈ ([(8, 20)] : List (Nat × Nat)), zq_wok RX9 179 q.1 q.2 .int := List.forall_mem_cons.mpr ⟨⟨RX9, TX9, 37, tyX9, rfl, by decide, zq_uw9, zw_885, tyX9_ok, nmX9, rfl, by decide +kernel⟩, fun _ h => absurd h List.not_mem_nil⟩
theorem zp_X9_182 : ∀ q ∈ ([(8, 21)] : List (Nat × Nat)), zq_wok RX9 182 q.1 q.2 .int := List.forall_mem_cons.mpr ⟨⟨RX9, TX9, 37, tyX9, rfl, by decide, zq_uw9, zw_886, tyX9_ok, nmX9, rfl, by decide +kernel⟩, fun _ h => absurd h List.not_mem_nil⟩
theorem zp_X9_285 : ∀ q ∈ ([(8, 26)] : List (Nat × Nat)), zq_wok RX9 285 q.1 q.2 .int := List.forall_mem_cons.mpr ⟨⟨RX9, TX9, 37, tyX9, rfl, by decide, zq_uw9, zw_891, tyX9_ok, nmX9, rfl, by decide +kernel⟩, fun _ h => absurd h List.not_mem_nil⟩
theorem zp_X9_320 : ∀ q ∈ ([(8, 36)] : List (Nat × Nat)), zq_wok RX9 320 q.1 q.2 .int := List.forall_mem_cons.mpr ⟨⟨RX9, TX9, 37, tyX9, rfl, by decide, zq_uw9, zw_901, tyX9_ok, nmX9, rfl, by decide +kernel⟩, fun _ h => absurd h List.not_mem_nil⟩
end
section
def zc_X0_fits : List (Nat × zq_It) := [(0, .inl (zq_al 1 0)), (1, .inl (zq_il 2 1)), (2, .inr (.inl (2, .inr [(0, zn_X6_isFigure)]))), (5, .inl (zq_if_eq 8 33)), (8, .inl (zq_il 9 2)), (9, .inl (zq_if_eq 12 29)), (12, .inl (zq_al 13 0)), (13, .inl (zq_getf 16 [(0, 0)])), (16, .inl (zq_il 17 1)), (17, .inl (zq_iald 18)), (18, .inl (zq_al 19 0)), (19, .inl (zq_getf 22 [(0, 0)])), (22, .inl (zq_il 23 1)), (23, .inl (zq_push 24 (.int 1))), (24, .inl (zq_i2 25 (fun x y => x - y))), (25, .inl (zq_iald 26)), (26, .inl (zq_ic_eq 29 33)), (29, .inl (zq_push 30 (.int 1))), (30, .inl (zq_goto 34)), (33, .inl (zq_push 34 (.int 0))), (34, .inr (.inr 2))]
theorem zk_X0_fits : zq_oks zi_X0_fits zc_X0_fits := zq_cons (zq_s_aload_n (n := 0) (by decide +kernel) rfl) <|
  zq_cons (zq_s_iload_n (n := 1) (by decide +kernel) rfl) <|
  zq_cons (List.forall_mem_cons.mpr ⟨⟨zi_X6_isFigure, rfl, zq_s_callU (owner := "DollsAhead$Text") (x := ⟨"DollsAhead$Doors", "isFigure", "(I)Z"⟩) (n := 1) (index := 21) (by decide +kernel) rfl zw_413 zw_414 zw_416 zw_417 zw_81 zw_418 (Or.inl rfl) (by decide +kernel) (by decide +kernel) ⟨rfl, rfl⟩⟩, fun _ h => absurd h List.not_mem_nil⟩) <|
  zq_cons (zq_s_if_eq (off := 28) (by decide +kernel) (by decide)) <|
  zq_cons (zq_s_iload_n (n := 2) (by decide +kernel) rfl) <|
  zq_cons (zq_s_if_eq (off := 20) (by decide +kernel) (by decide)) <|
  zq_cons (zq_s_aload_n (n := 0) (by decide +kernel) rfl) <|
  zq_cons (zq_s_getf (index := 25) (by decide +kernel) zf_X0_25) <|
  zq_cons (zq_s_iload_n (n := 1) (by decide +kernel) rfl) <|
  zq_cons (zq_s_iald (by decide +kernel)) <|
  zq_cons (zq_s_aload_n (n := 0) (by decide +kernel) rfl) <|
  zq_cons (zq_s_getf (index := 25) (by decide +kernel) zf_X0_25) <|
  zq_cons (zq_s_iload_n (n := 1) (by decide +kernel) rfl) <|
  zq_cons (zq_s_iconst (n := 1) (by decide +kernel) (by decide +kernel)) <|
  zq_cons (zq_s_isub (by decide +kernel)) <|
  zq_cons (zq_s_iald (by decide +kernel)) <|
  zq_cons (zq_s_ic_eq (off := 7) (by decide +kernel) (by decide)) <|
  zq_cons (zq_s_iconst (n := 1) (by decide +kernel) (by decide +kernel)) <|
  zq_cons (zq_s_goto (off := 4) (by decide +kernel) (by decide)) <|
  zq_cons (zq_s_iconst (n := 0) (by decide +kernel) (by decide +kernel)) <|
  zq_cons (⟨rfl, (by decide +kernel)⟩) <|
  zq_nil
def zc_X0_readThings : List (Nat × zq_It) := [(0, .inl (zq_push 1 (.int 0))), (1, .inl (zq_is 2 1)), (2, .inl (zq_il 3 1)), (3, .inl (zq_al 4 0)), (4, .inl (zq_getf 7 [(0, 5)])), (7, .inl (zq_ic_ge 10 44)), (10, .inl (zq_al 11 0)), (11, .inl (zq_getf 14 [(0, 6)])), (14, .inl (zq_il 15 1)), (15, .inl (zq_al 16 0)), (16, .inl (zq_il 17 1)), (17, .inl (zq_push 18 (.int 3))), (18, .inl (zq_i2 19 (fun x y => x * y))), (19, .inr (.inl (2, .inr [(0, zn_X6_figure)]))), (22, .inl (zq_iast 23)), (23, .inl (zq_al 24 0)), (24, .inl (zq_getf 27 [(0, 7)])), (27, .inl (zq_il 28 1)), (28, .inl (zq_al 29 0)), (29, .inl (zq_il 30 1)), (30, .inl (zq_push 31 (.int 3))), (31, .inl (zq_i2 32 (fun x y => x * y))), (32, .inl (zq_push 33 (.int 1))), (33, .inl (zq_i2 34 (fun x y => x + y))), (34, .inr (.inl (2, .inr [(0, zn_X6_figure)]))), (37, .inl (zq_iast 38)), (38, .inl (zq_inc 41 1 1)), (41, .inl (zq_goto 2)), (44, .inr (.inr 0))]
theorem zk_X0_readThings : zq_oks zi_X0_readThings zc_X0_readThings := zq_cons (zq_s_iconst (n := 0) (by decide +kernel) (by decide +kernel)) <|
  zq_cons (zq_s_istore_n (n := 1) (by decide +kernel) rfl (by decide +kernel)) <|
  zq_cons (zq_s_iload_n (n := 1) (by decide +kernel) rfl) <|
  zq_cons (zq_s_aload_n (n := 0) (by decide +kernel) rfl) <|
  zq_cons (zq_s_getf (index := 28) (by decide +kernel) zf_X0_28) <|
  zq_cons (zq_s_ic_ge (off := 37) (by decide +kernel) (by decide)) <|
  zq_cons (zq_s_aload_n (n := 0) (by decide +kernel) rfl) <|
  zq_cons (zq_s_getf (index := 11) (by decide +kernel) zf_X0_11) <|
  zq_cons (zq_s_iload_n (n := 1) (by decide +kernel) rfl) <|
  zq_cons (zq_s_aload_n (n := 0) (by decide +kernel) rfl) <|
  zq_cons (zq_s_iload_n (n := 1) (by decide +kernel) rfl) <|
  zq_cons (zq_s_iconst (n := 3) (by decide +kernel) (by decide +kernel)) <|
  zq_cons (zq_s_imul (by decide +kernel)) <|
  zq_cons (List.forall_mem_cons.mpr ⟨⟨zi_X6_figure, rfl, zq_s_callU (owner := "DollsAhead$Text") (x := ⟨"DollsAhead$Doors", "figure", "(I)I"⟩) (n := 1) (index := 32) (by decide +kernel) rfl zw_435 zw_436 zw_438 zw_439 zw_81 zw_440 (Or.inl rfl) (by decide +kernel) (by decide +kernel) ⟨rfl, rfl⟩⟩, fun _ h => absurd h List.not_mem_nil⟩) <|
  zq_cons (zq_s_iast (by decide +kernel)) <|
  zq_cons (zq_s_aload_n (n := 0) (by decide +kernel) rfl) <|
  zq_cons (zq_s_getf (index := 15) (by decide +kernel) zf_X0_15) <|
  zq_cons (zq_s_iload_n (n := 1) (by decide +kernel) rfl) <|
  zq_cons (zq_s_aload_n (n := 0) (by decide +kernel) rfl) <|
  zq_cons (zq_s_iload_n (n := 1) (by decide +kernel) rfl) <|
  zq_cons (zq_s_iconst (n := 3) (by decide +kernel) (by decide +kernel)) <|
  zq_cons (zq_s_imul (by decide +kernel)) <|
  zq_cons (zq_s_iconst (n := 1) (by decide +kernel) (by decide +kernel)) <|
  zq_cons (zq_s_iadd (by decide +kernel)) <|
  zq_cons (List.forall_mem_cons.mpr ⟨⟨zi_X6_figure, rfl, zq_s_callU (owner := "DollsAhead$Text") (x := ⟨"DollsAhead$Doors", "figure", "(I)I"⟩) (n := 1) (index := 32) (by decide +kernel) rfl zw_435 zw_436 zw_438 zw_439 zw_81 zw_440 (Or.inl rfl) (by decide +kernel) (by decide +kernel) ⟨rfl, rfl⟩⟩, fun _ h => absurd h List.not_mem_nil⟩) <|
  zq_cons (zq_s_iast (by decide +kernel)) <|
  zq_cons (zq_s_iinc (n := 1) (by decide +kernel) (by decide +kernel) (by decide +kernel)) <|
  zq_cons (zq_s_goto (off := (-39)) (by decide +kernel) (by decide)) <|
  zq_cons (⟨rfl, (by decide +kernel)⟩) <|
  zq_nil
def zc_X0_openAllBut_0 : List (Nat × zq_It) := [(0, .inl (zq_al 1 0)), (1, .inl (zq_getf 4 [(0, 8)])), (4, .inl (zq_push 5 (.int 0))), (5, .inr (.inl (2, .inl zn_J7_fill_53178))), (8, .inl (zq_push 9 (.int 0))), (9, .inl (zq_is 10 2)), (10, .inl (zq_il 11 2)), (11, .inl (zq_al 12 0)), (12, .inl (zq_getf 15 [(0, 5)])), (15, .inl (zq_ic_ge 18 76)), (18, .inl (zq_il 19 1)), (19, .inl (zq_il 20 2)), (20, .inl (zq_i2 21 (fun x y => x >>> (y &&& 31)))), (21, .inl (zq_push 22 (.int 1))), (22, .inl (zq_i2 23 (fun x y => x &&& y))), (23, .inl (zq_if_ne 26 70)), (26, .inl (zq_al 27 0)), (27, .inl (zq_getf 30 [(0, 8)])), (30, .inl (zq_al 31 0)), (31, .inl (zq_getf 34 [(0, 6)])), (34, .inl (zq_il 35 2)), (35, .inl (zq_iald 36)), (36, .inl (zq_dup2 37)), (37, .inl (zq_iald 38)), (38, .inl (zq_push 39 (.int 1))), (39, .inl (zq_al 40 0)), (40, .inl (zq_getf 43 [(0, 7)])), (43, .inl (zq_il 44 2)), (44, .inl (zq_iald 45)), (45, .inl (zq_i2 46 (fun x y => x <<< (y &&& 31)))), (46, .inl (zq_i2 47 (fun x y => x ||| y))), (47, .inl (zq_iast 48)), (48, .inl (zq_al 49 0)), (49, .inl (zq_getf 52 [(0, 8)])), (52, .inl (zq_al 53 0)), (53, .inl (zq_getf 56 [(0, 7)])), (56, .inl (zq_il 57 2)), (57, .inl (zq_iald 58)), (58, .inl (zq_dup2 59)), (59, .inl (zq_iald 60))]
theorem zk_X0_openAllBut_0 : zq_oks zi_X0_openAllBut zc_X0_openAllBut_0 := zq_cons (zq_s_aload_n (n := 0) (by decide +kernel) rfl) <|
  zq_cons (zq_s_getf (index := 18) (by decide +kernel) zf_X0_18) <|
  zq_cons (zq_s_iconst (n := 0) (by decide +kernel) (by decide +kernel)) <|
  zq_cons (⟨zi_J7_fill_53178, rfl, zq_s_callS (n := 2) (index := 36) (by decide +kernel) zw_551 zw_276 zw_90 zw_277 (by decide +kernel) (by decide +kernel) ⟨rfl, rfl⟩⟩) <|
  zq_cons (zq_s_iconst (n := 0) (by decide +kernel) (by decide +kernel)) <|
  zq_cons (zq_s_istore_n (n := 2) (by decide +kernel) rfl (by decide +kernel)) <|
  zq_cons (zq_s_iload_n (n := 2) (by decide +kernel) rfl) <|
  zq_cons (zq_s_aload_n (n := 0) (by decide +kernel) rfl) <|
  zq_cons (zq_s_getf (index := 28) (by decide +kernel) zf_X0_28) <|
  zq_cons (zq_s_ic_ge (off := 61) (by decide +kernel) (by decide)) <|
  zq_cons (zq_s_iload_n (n := 1) (by decide +kernel) rfl) <|
  zq_cons (zq_s_iload_n (n := 2) (by decide +kernel) rfl) <|
  zq_cons (zq_s_ishr (by decide +kernel)) <|
  zq_cons (zq_s_iconst (n := 1) (by decide +kernel) (by decide +kernel)) <|
  zq_cons (zq_s_iand (by decide +kernel)) <|
  zq_cons (zq_s_if_ne (off := 47) (by decide +kernel) (by decide)) <|
  zq_cons (zq_s_aload_n (n := 0) (by decide +kernel) rfl) <|
  zq_cons (zq_s_getf (index := 18) (by decide +kernel) zf_X0_18) <|
  zq_cons (zq_s_aload_n (n := 0) (by decide +kernel) rfl) <|
  zq_cons (zq_s_getf (index := 11) (by decide +kernel) zf_X0_11) <|
  zq_cons (zq_s_iload_n (n := 2) (by decide +kernel) rfl) <|
  zq_cons (zq_s_iald (by decide +kernel)) <|
  zq_cons (zq_s_dup2 (by decide +kernel)) <|
  zq_cons (zq_s_iald (by decide +kernel)) <|
  zq_cons (zq_s_iconst (n := 1) (by decide +kernel) (by decide +kernel)) <|
  zq_cons (zq_s_aload_n (n := 0) (by decide +kernel) rfl) <|
  zq_cons (zq_s_getf (index := 15) (by decide +kernel) zf_X0_15) <|
  zq_cons (zq_s_iload_n (n := 2) (by decide +kernel) rfl) <|
  zq_cons (zq_s_iald (by decide +kernel)) <|
  zq_cons (zq_s_ishl (by decide +kernel)) <|
  zq_cons (zq_s_ior (by decide +kernel)) <|
  zq_cons (zq_s_iast (by decide +kernel)) <|
  zq_cons (zq_s_aload_n (n := 0) (by decide +kernel) rfl) <|
  zq_cons (zq_s_getf (index := 18) (by decide +kernel) zf_X0_18) <|
  zq_cons (zq_s_aload_n (n := 0) (by decide +kernel) rfl) <|
  zq_cons (zq_s_getf (index := 15) (by decide +kernel) zf_X0_15) <|
  zq_cons (zq_s_iload_n (n := 2) (by decide +kernel) rfl) <|
  zq_cons (zq_s_iald (by decide +kernel)) <|
  zq_cons (zq_s_dup2 (by decide +kernel)) <|
  zq_cons (zq_s_iald (by decide +kernel)) <|
  zq_nil
def zc_X0_openAllBut_1 : List (Nat × zq_It) := [(60, .inl (zq_push 61 (.int 1))), (61, .inl (zq_al 62 0)), (62, .inl (zq_getf 65 [(0, 6)])), (65, .inl (zq_il 66 2)), (66, .inl (zq_iald 67)), (67, .inl (zq_i2 68 (fun x y => x <<< (y &&& 31)))), (68, .inl (zq_i2 69 (fun x y => x ||| y))), (69, .inl (zq_iast 70)), (70, .inl (zq_inc 73 2 1)), (73, .inl (zq_goto 10)), (76, .inr (.inr 0))]
theorem zk_X0_openAllBut_1 : zq_oks zi_X0_openAllBut zc_X0_openAllBut_1 := zq_cons (zq_s_iconst (n := 1) (by decide +kernel) (by decide +kernel)) <|
  zq_cons (zq_s_aload_n (n := 0) (by decide +kernel) rfl) <|
  zq_cons (zq_s_getf (index := 11) (by decide +kernel) zf_X0_11) <|
  zq_cons (zq_s_iload_n (n := 2) (by decide +kernel) rfl) <|
  zq_cons (zq_s_iald (by decide +kernel)) <|
  zq_cons (zq_s_ishl (by decide +kernel)) <|
  zq_cons (zq_s_ior (by decide +kernel)) <|
  zq_cons (zq_s_iast (by decide +kernel)) <|
  zq_cons (zq_s_iinc (n := 1) (by decide +kernel) (by decide +kernel) (by decide +kernel)) <|
  zq_cons (zq_s_goto (off := (-63)) (by decide +kernel) (by decide)) <|
  zq_cons (⟨rfl, (by decide +kernel)⟩) <|
  zq_nil
def zc_X0_openAllBut : List (Nat × zq_It) := zc_X0_openAllBut_0 ++ (zc_X0_openAllBut_1)
theorem zk_X0_openAllBut : zq_oks zi_X0_openAllBut zc_X0_openAllBut := zq_app zk_X0_openAllBut_0 (zk_X0_openAllBut_1)
def zc_X0_fillStepsTo_0 : List (Nat × zq_It) := [(0, .inl (zq_push 1 (.int 0))), (1, .inl (zq_is 3 4)), (3, .inl (zq_il 5 4)), (5, .inl (zq_push 7 (.int 8))), (7, .inl (zq_ic_ge 10 29)), (10, .inl (zq_al 11 2)), (11, .inl (zq_il 12 3)), (12, .inl (zq_il 14 4)), (14, .inl (zq_push 16 (.int 8))), (16, .inl (zq_i2 17 (fun x y => x * y))), (17, .inl (zq_i2 18 (fun x y => x + y))), (18, .inl (zq_il 19 1)), (19, .inl (zq_i2 20 (fun x y => x + y))), (20, .inl (zq_il 22 4)), (22, .inl (zq_iast 23)), (23, .inl (zq_inc 26 4 1)), (26, .inl (zq_goto 3)), (29, .inl (zq_push 30 (.int 1))), (30, .inl (zq_il 31 1)), (31, .inl (zq_i2 32 (fun x y => x <<< (y &&& 31)))), (32, .inl (zq_is 34 4)), (34, .inl (zq_il 36 4)), (36, .inl (zq_is 38 5)), (38, .inl (zq_push 39 (.int 1))), (39, .inl (zq_is 41 6)), (41, .inl (zq_il 43 6)), (43, .inl (zq_push 45 (.int 8))), (45, .inl (zq_ic_ge 48 171)), (48, .inl (zq_il 50 5)), (50, .inl (zq_if_eq 53 171)), (53, .inl (zq_push 54 (.int 0))), (54, .inl (zq_is 56 7)), (56, .inl (zq_push 57 (.int 0))), (57, .inl (zq_is 59 8)), (59, .inl (zq_il 61 8)), (61, .inl (zq_push 63 (.int 8))), (63, .inl (zq_ic_ge 66 154)), (66, .inl (zq_il 68 5)), (68, .inl (zq_il 70 8)), (70, .inl (zq_i2 71 (fun x y => x >>> (y &&& 31))))]
theorem zk_X0_fillStepsTo_0 : zq_oks zi_X0_fillStepsTo zc_X0_fillStepsTo_0 := zq_cons (zq_s_iconst (n := 0) (by decide +kernel) (by decide +kernel)) <|
  zq_cons (zq_s_istore (by decide +kernel) (by decide +kernel)) <|
  zq_cons (zq_s_iload (by decide +kernel)) <|
  zq_cons (zq_s_bipush (n := 8) (by decide +kernel) (by decide +kernel)) <|
  zq_cons (zq_s_ic_ge (off := 22) (by decide +kernel) (by decide)) <|
  zq_cons (zq_s_aload_n (n := 2) (by decide +kernel) rfl) <|
  zq_cons (zq_s_iload_n (n := 3) (by decide +kernel) rfl) <|
  zq_cons (zq_s_iload (by decide +kernel)) <|
  zq_cons (zq_s_bipush (n := 8) (by decide +kernel) (by decide +kernel)) <|
  zq_cons (zq_s_imul (by decide +kernel)) <|
  zq_cons (zq_s_iadd (by decide +kernel)) <|
  zq_cons (zq_s_iload_n (n := 1) (by decide +kernel) rfl) <|
  zq_cons (zq_s_iadd (by decide +kernel)) <|
  zq_cons (zq_s_iload (by decide +kernel)) <|
  zq_cons (zq_s_iast (by decide +kernel)) <|
  zq_cons (zq_s_iinc (n := 1) (by decide +kernel) (by decide +kernel) (by decide +kernel)) <|
  zq_cons (zq_s_goto (off := (-23)) (by decide +kernel) (by decide)) <|
  zq_cons (zq_s_iconst (n := 1) (by decide +kernel) (by decide +kernel)) <|
  zq_cons (zq_s_iload_n (n := 1) (by decide +kernel) rfl) <|
  zq_cons (zq_s_ishl (by decide +kernel)) <|
  zq_cons (zq_s_istore (by decide +kernel) (by decide +kernel)) <|
  zq_cons (zq_s_iload (by decide +kernel)) <|
  zq_cons (zq_s_istore (by decide +kernel) (by decide +kernel)) <|
  zq_cons (zq_s_iconst (n := 1) (by decide +kernel) (by decide +kernel)) <|
  zq_cons (zq_s_istore (by decide +kernel) (by decide +kernel)) <|
  zq_cons (zq_s_iload (by decide +kernel)) <|
  zq_cons (zq_s_bipush (n := 8) (by decide +kernel) (by decide +kernel)) <|
  zq_cons (zq_s_ic_ge (off := 126) (by decide +kernel) (by decide)) <|
  zq_cons (zq_s_iload (by decide +kernel)) <|
  zq_cons (zq_s_if_eq (off := 121) (by decide +kernel) (by decide)) <|
  zq_cons (zq_s_iconst (n := 0) (by decide +kernel) (by decide +kernel)) <|
  zq_cons (zq_s_istore (by decide +kernel) (by decide +kernel)) <|
  zq_cons (zq_s_iconst (n := 0) (by decide +kernel) (by decide +kernel)) <|
  zq_cons (zq_s_istore (by decide +kernel) (by decide +kernel)) <|
  zq_cons (zq_s_iload (by decide +kernel)) <|
  zq_cons (zq_s_bipush (n := 8) (by decide +kernel) (by decide +kernel)) <|
  zq_cons (zq_s_ic_ge (off := 91) (by decide +kernel) (by decide)) <|
  zq_cons (zq_s_iload (by decide +kernel)) <|
  zq_cons (zq_s_iload (by decide +kernel)) <|
  zq_cons (zq_s_ishr (by decide +kernel)) <|
  zq_nil
def zc_X0_fillStepsTo_1 : List (Nat × zq_It) := [(71, .inl (zq_push 72 (.int 1))), (72, .inl (zq_i2 73 (fun x y => x &&& y))), (73, .inl (zq_if_ne 76 80)), (76, .inl (zq_push 77 (.int 0))), (77, .inl (zq_goto 95)), (80, .inl (zq_al 81 0)), (81, .inl (zq_getf 84 [(0, 8)])), (84, .inl (zq_il 86 8)), (86, .inl (zq_iald 87)), (87, .inl (zq_il 89 4)), (89, .inl (zq_il 91 7)), (91, .inl (zq_i2 92 (fun x y => x ||| y))), (92, .inl (zq_push 93 (.int (-1)))), (93, .inl (zq_i2 94 (fun x y => x ^^^ y))), (94, .inl (zq_i2 95 (fun x y => x &&& y))), (95, .inl (zq_is 97 9)), (97, .inl (zq_il 99 7)), (99, .inl (zq_il 101 9)), (101, .inl (zq_i2 102 (fun x y => x ||| y))), (102, .inl (zq_is 104 7)), (104, .inl (zq_push 105 (.int 0))), (105, .inl (zq_is 107 10)), (107, .inl (zq_il 109 10)), (109, .inl (zq_push 111 (.int 8))), (111, .inl (zq_ic_ge 114 148)), (114, .inl (zq_il 116 9)), (116, .inl (zq_if_eq 119 148)), (119, .inl (zq_il 121 9)), (121, .inl (zq_il 123 10)), (123, .inl (zq_i2 124 (fun x y => x >>> (y &&& 31)))), (124, .inl (zq_push 125 (.int 1))), (125, .inl (zq_i2 126 (fun x y => x &&& y))), (126, .inl (zq_if_eq 129 142)), (129, .inl (zq_al 130 2)), (130, .inl (zq_il 131 3)), (131, .inl (zq_il 133 10)), (133, .inl (zq_push 135 (.int 8))), (135, .inl (zq_i2 136 (fun x y => x * y))), (136, .inl (zq_i2 137 (fun x y => x + y))), (137, .inl (zq_il 138 1))]
theorem zk_X0_fillStepsTo_1 : zq_oks zi_X0_fillStepsTo zc_X0_fillStepsTo_1 := zq_cons (zq_s_iconst (n := 1) (by decide +kernel) (by decide +kernel)) <|
  zq_cons (zq_s_iand (by decide +kernel)) <|
  zq_cons (zq_s_if_ne (off := 7) (by decide +kernel) (by decide)) <|
  zq_cons (zq_s_iconst (n := 0) (by decide +kernel) (by decide +kernel)) <|
  zq_cons (zq_s_goto (off := 18) (by decide +kernel) (by decide)) <|
  zq_cons (zq_s_aload_n (n := 0) (by decide +kernel) rfl) <|
  zq_cons (zq_s_getf (index := 18) (by decide +kernel) zf_X0_18) <|
  zq_cons (zq_s_iload (by decide +kernel)) <|
  zq_cons (zq_s_iald (by decide +kernel)) <|
  zq_cons (zq_s_iload (by decide +kernel)) <|
  zq_cons (zq_s_iload (by decide +kernel)) <|
  zq_cons (zq_s_ior (by decide +kernel)) <|
  zq_cons (zq_s_iconst (n := (-1)) (by decide +kernel) (by decide +kernel)) <|
  zq_cons (zq_s_ixor (by decide +kernel)) <|
  zq_cons (zq_s_iand (by decide +kernel)) <|
  zq_cons (zq_s_istore (by decide +kernel) (by decide +kernel)) <|
  zq_cons (zq_s_iload (by decide +kernel)) <|
  zq_cons (zq_s_iload (by decide +kernel)) <|
  zq_cons (zq_s_ior (by decide +kernel)) <|
  zq_cons (zq_s_istore (by decide +kernel) (by decide +kernel)) <|
  zq_cons (zq_s_iconst (n := 0) (by decide +kernel) (by decide +kernel)) <|
  zq_cons (zq_s_istore (by decide +kernel) (by decide +kernel)) <|
  zq_cons (zq_s_iload (by decide +kernel)) <|
  zq_cons (zq_s_bipush (n := 8) (by decide +kernel) (by decide +kernel)) <|
  zq_cons (zq_s_ic_ge (off := 37) (by decide +kernel) (by decide)) <|
  zq_cons (zq_s_iload (by decide +kernel)) <|
  zq_cons (zq_s_if_eq (off := 32) (by decide +kernel) (by decide)) <|
  zq_cons (zq_s_iload (by decide +kernel)) <|
  zq_cons (zq_s_iload (by decide +kernel)) <|
  zq_cons (zq_s_ishr (by decide +kernel)) <|
  zq_cons (zq_s_iconst (n := 1) (by decide +kernel) (by decide +kernel)) <|
  zq_cons (zq_s_iand (by decide +kernel)) <|
  zq_cons (zq_s_if_eq (off := 16) (by decide +kernel) (by decide)) <|
  zq_cons (zq_s_aload_n (n := 2) (by decide +kernel) rfl) <|
  zq_cons (zq_s_iload_n (n := 3) (by decide +kernel) rfl) <|
  zq_cons (zq_s_iload (by decide +kernel)) <|
  zq_cons (zq_s_bipush (n := 8) (by decide +kernel) (by decide +kernel)) <|
  zq_cons (zq_s_imul (by decide +kernel)) <|
  zq_cons (zq_s_iadd (by decide +kernel)) <|
  zq_cons (zq_s_iload_n (n := 1) (by decide +kernel) rfl) <|
  zq_nil
def zc_X0_fillStepsTo_2 : List (Nat × zq_It) := [(138, .inl (zq_i2 139 (fun x y => x + y))), (139, .inl (zq_il 141 8)), (141, .inl (zq_iast 142)), (142, .inl (zq_inc 145 10 1)), (145, .inl (zq_goto 107)), (148, .inl (zq_inc 151 8 1)), (151, .inl (zq_goto 59)), (154, .inl (zq_il 156 4)), (156, .inl (zq_il 158 7)), (158, .inl (zq_i2 159 (fun x y => x ||| y))), (159, .inl (zq_is 161 4)), (161, .inl (zq_il 163 7)), (163, .inl (zq_is 165 5)), (165, .inl (zq_inc 168 6 1)), (168, .inl (zq_goto 41)), (171, .inr (.inr 0))]
theorem zk_X0_fillStepsTo_2 : zq_oks zi_X0_fillStepsTo zc_X0_fillStepsTo_2 := zq_cons (zq_s_iadd (by decide +kernel)) <|
  zq_cons (zq_s_iload (by decide +kernel)) <|
  zq_cons (zq_s_iast (by decide +kernel)) <|
  zq_cons (zq_s_iinc (n := 1) (by decide +kernel) (by decide +kernel) (by decide +kernel)) <|
  zq_cons (zq_s_goto (off := (-38)) (by decide +kernel) (by decide)) <|
  zq_cons (zq_s_iinc (n := 1) (by decide +kernel) (by decide +kernel) (by decide +kernel)) <|
  zq_cons (zq_s_goto (off := (-92)) (by decide +kernel) (by decide)) <|
  zq_cons (zq_s_iload (by decide +kernel)) <|
  zq_cons (zq_s_iload (by decide +kernel)) <|
  zq_cons (zq_s_ior (by decide +kernel)) <|
  zq_cons (zq_s_istore (by decide +kernel) (by decide +kernel)) <|
  zq_cons (zq_s_iload (by decide +kernel)) <|
  zq_cons (zq_s_istore (by decide +kernel) (by decide +kernel)) <|
  zq_cons (zq_s_iinc (n := 1) (by decide +kernel) (by decide +kernel) (by decide +kernel)) <|
  zq_cons (zq_s_goto (off := (-127)) (by decide +kernel) (by decide)) <|
  zq_cons (⟨rfl, (by decide +kernel)⟩) <|
  zq_nil
def zc_X0_fillStepsTo : List (Nat × zq_It) := zc_X0_fillStepsTo_0 ++ (zc_X0_fillStepsTo_1 ++ (zc_X0_fillStepsTo_2))
theorem zk_X0_fillStepsTo : zq_oks zi_X0_fillStepsTo zc_X0_fillStepsTo := zq_app zk_X0_fillStepsTo_0 (zq_app zk_X0_fillStepsTo_1 (zk_X0_fillStepsTo_2))
def zc_X1_add : List (Nat × zq_It) := [(0, .inl (zq_al 1 0)), (1, .inl (zq_getf 4 [(1, 3)])), (4, .inl (zq_if_lt 7 56)), (7, .inl (zq_al 8 0)), (8, .inl (zq_getf 11 [(1, 3)])), (11, .inl (zq_push 13 (.int 9))), (13, .inl (zq_ic_ge 16 56)), (16, .inl (zq_al 17 0)), (17, .inl (zq_getf 20 [(1, 0)])), (20, .inl (zq_al 21 0)), (21, .inl (zq_getf 24 [(1, 3)])), (24, .inl (zq_il 25 1)), (25, .inl (zq_iast 26)), (26, .inl (zq_al 27 0)), (27, .inl (zq_getf 30 [(1, 1)])), (30, .inl (zq_al 31 0)), (31, .inl (zq_getf 34 [(1, 3)])), (34, .inl (zq_il 35 2)), (35, .inl (zq_iast 36)), (36, .inl (zq_al 37 0)), (37, .inl (zq_getf 40 [(1, 2)])), (40, .inl (zq_al 41 0)), (41, .inl (zq_getf 44 [(1, 3)])), (44, .inl (zq_il 45 3)), (45, .inl (zq_iast 46)), (46, .inl (zq_al 47 0)), (47, .inl (zq_dup 48)), (48, .inl (zq_getf 51 [(1, 3)])), (51, .inl (zq_push 52 (.int 1))), (52, .inl (zq_i2 53 (fun x y => x + y))), (53, .inl (zq_puti 56 false [(1, 3)])), (56, .inr (.inr 0))]
theorem zk_X1_add : zq_oks zi_X1_add zc_X1_add := zq_cons (zq_s_aload_n (n := 0) (by decide +kernel) rfl) <|
  zq_cons (zq_s_getf (index := 21) (by decide +kernel) zf_X1_21) <|
  zq_cons (zq_s_if_lt (off := 52) (by decide +kernel) (by decide)) <|
  zq_cons (zq_s_aload_n (n := 0) (by decide +kernel) rfl) <|
  zq_cons (zq_s_getf (index := 21) (by decide +kernel) zf_X1_21) <|
  zq_cons (zq_s_bipush (n := 9) (by decide +kernel) (by decide +kernel)) <|
  zq_cons (zq_s_ic_ge (off := 43) (by decide +kernel) (by decide)) <|
  zq_cons (zq_s_aload_n (n := 0) (by decide +kernel) rfl) <|
  zq_cons (zq_s_getf (index := 11) (by decide +kernel) zf_X1_11) <|
  zq_cons (zq_s_aload_n (n := 0) (by decide +kernel) rfl) <|
  zq_cons (zq_s_getf (index := 21) (by decide +kernel) zf_X1_21) <|
  zq_cons (zq_s_iload_n (n := 1) (by decide +kernel) rfl) <|
  zq_cons (zq_s_iast (by decide +kernel)) <|
  zq_cons (zq_s_aload_n (n := 0) (by decide +kernel) rfl) <|
  zq_cons (zq_s_getf (index := 15) (by decide +kernel) zf_X1_15) <|
  zq_cons (zq_s_aload_n (n := 0) (by decide +kernel) rfl) <|
  zq_cons (zq_s_getf (index := 21) (by decide +kernel) zf_X1_21) <|
  zq_cons (zq_s_iload_n (n := 2) (by decide +kernel) rfl) <|
  zq_cons (zq_s_iast (by decide +kernel)) <|
  zq_cons (zq_s_aload_n (n := 0) (by decide +kernel) rfl) <|
  zq_cons (zq_s_getf (index := 18) (by decide +kernel) zf_X1_18) <|
  zq_cons (zq_s_aload_n (n := 0) (by decide +kernel) rfl) <|
  zq_cons (zq_s_getf (index := 21) (by decide +kernel) zf_X1_21) <|
  zq_cons (zq_s_iload_n (n := 3) (by decide +kernel) rfl) <|
  zq_cons (zq_s_iast (by decide +kernel)) <|
  zq_cons (zq_s_aload_n (n := 0) (by decide +kernel) rfl) <|
  zq_cons (zq_s_dup (by decide +kernel)) <|
  zq_cons (zq_s_getf (index := 21) (by decide +kernel) zf_X1_21) <|
  zq_cons (zq_s_iconst (n := 1) (by decide +kernel) (by decide +kernel)) <|
  zq_cons (zq_s_iadd (by decide +kernel)) <|
  zq_cons (zq_s_puti (index := 21) (by decide +kernel) zp_X1_21 (fun _ _ => ⟨rfl, rfl⟩)) <|
  zq_cons (⟨rfl, (by decide +kernel)⟩) <|
  zq_nil
def zc_X1_become : List (Nat × zq_It) := [(0, .inl (zq_al 1 0)), (1, .inl (zq_push 2 (.int 0))), (2, .inl (zq_puti 5 false [(1, 3)])), (5, .inl (zq_push 6 (.int 0))), (6, .inl (zq_is 7 2)), (7, .inl (zq_il 8 2)), (8, .inl (zq_al 9 1)), (9, .inl (zq_getf 12 [(1, 3)])), (12, .inl (zq_ic_ge 15 43)), (15, .inl (zq_al 16 0)), (16, .inl (zq_al 17 1)), (17, .inl (zq_getf 20 [(1, 0)])), (20, .inl (zq_il 21 2)), (21, .inl (zq_iald 22)), (22, .inl (zq_al 23 1)), (23, .inl (zq_getf 26 [(1, 1)])), (26, .inl (zq_il 27 2)), (27, .inl (zq_iald 28)), (28, .inl (zq_al 29 1)), (29, .inl (zq_getf 32 [(1, 2)])), (32, .inl (zq_il 33 2)), (33, .inl (zq_iald 34)), (34, .inr (.inl (4, .inr [(1, zn_X1_add)]))), (37, .inl (zq_inc 40 2 1)), (40, .inl (zq_goto 7)), (43, .inr (.inr 0))]
theorem zk_X1_become : zq_oks zi_X1_become zc_X1_become := zq_cons (zq_s_aload_n (n := 0) (by decide +kernel) rfl) <|
  zq_cons (zq_s_iconst (n := 0) (by decide +kernel) (by decide +kernel)) <|
  zq_cons (zq_s_puti (index := 21) (by decide +kernel) zp_X1_21 (fun _ _ => ⟨rfl, rfl⟩)) <|
  zq_cons (zq_s_iconst (n := 0) (by decide +kernel) (by decide +kernel)) <|
  zq_cons (zq_s_istore_n (n := 2) (by decide +kernel) rfl (by decide +kernel)) <|
  zq_cons (zq_s_iload_n (n := 2) (by decide +kernel) rfl) <|
  zq_cons (zq_s_aload_n (n := 1) (by decide +kernel) rfl) <|
  zq_cons (zq_s_getf (index := 21) (by decide +kernel) zf_X1_21) <|
  zq_cons (zq_s_ic_ge (off := 31) (by decide +kernel) (by decide)) <|
  zq_cons (zq_s_aload_n (n := 0) (by decide +kernel) rfl) <|
  zq_cons (zq_s_aload_n (n := 1) (by decide +kernel) rfl) <|
  zq_cons (zq_s_getf (index := 11) (by decide +kernel) zf_X1_11) <|
  zq_cons (zq_s_iload_n (n := 2) (by decide +kernel) rfl) <|
  zq_cons (zq_s_iald (by decide +kernel)) <|
  zq_cons (zq_s_aload_n (n := 1) (by decide +kernel) rfl) <|
  zq_cons (zq_s_getf (index := 15) (by decide +kernel) zf_X1_15) <|
  zq_cons (zq_s_iload_n (n := 2) (by decide +kernel) rfl) <|
  zq_cons (zq_s_iald (by decide +kernel)) <|
  zq_cons (zq_s_aload_n (n := 1) (by decide +kernel) rfl) <|
  zq_cons (zq_s_getf (index := 18) (by decide +kernel) zf_X1_18) <|
  zq_cons (zq_s_iload_n (n := 2) (by decide +kernel) rfl) <|
  zq_cons (zq_s_iald (by decide +kernel)) <|
  zq_cons (List.forall_mem_cons.mpr ⟨⟨zi_X1_add, rfl, zq_s_callV (n := 3) (index := 25) (by decide +kernel) rfl zw_672 zw_504 zw_505 zw_85 zw_506 (by decide +kernel) (by decide +kernel) ⟨rfl, rfl⟩⟩, fun _ h => absurd h List.not_mem_nil⟩) <|
  zq_cons (zq_s_iinc (n := 1) (by decide +kernel) (by decide +kernel) (by decide +kernel)) <|
  zq_cons (zq_s_goto (off := (-33)) (by decide +kernel) (by decide)) <|
  zq_cons (⟨rfl, (by decide +kernel)⟩) <|
  zq_nil
def zc_X2_draw : List (Nat × zq_It) := [(0, .inl (zq_al 1 0)), (1, .inl (zq_push 3 (.int 1103515245))), (3, .inl (zq_al 4 0)), (4, .inl (zq_getf 7 [(2, 0)])), (7, .inl (zq_i2 8 (fun x y => x * y))), (8, .inl (zq_push 11 (.int 12345))), (11, .inl (zq_i2 12 (fun x y => x + y))), (12, .inl (zq_puti 15 false [(2, 0)])), (15, .inl (zq_il 16 1)), (16, .inl (zq_push 17 (.int 1))), (17, .inl (zq_ic_ge 20 24)), (20, .inl (zq_push 21 (.int 0))), (21, .inl (zq_goto 33)), (24, .inl (zq_al 25 0)), (25, .inl (zq_getf 28 [(2, 0)])), (28, .inl (zq_push 30 (.int 16))), (30, .inl (zq_i2 31 zq_ush)), (31, .inl (zq_il 32 1)), (32, .inl (zq_i2c 33 (fun x y => x - x / y * y))), (33, .inr (.inr 1))]
theorem zk_X2_draw : zq_oks zi_X2_draw zc_X2_draw := zq_cons (zq_s_aload_n (n := 0) (by decide +kernel) rfl) <|
  zq_cons (zq_s_ldc (index := 7) (by decide +kernel) zw_764) <|
  zq_cons (zq_s_aload_n (n := 0) (by decide +kernel) rfl) <|
  zq_cons (zq_s_getf (index := 8) (by decide +kernel) zf_X2_8) <|
  zq_cons (zq_s_imul (by decide +kernel)) <|
  zq_cons (zq_s_sipush (n := 12345) (by decide +kernel) (by decide +kernel)) <|
  zq_cons (zq_s_iadd (by decide +kernel)) <|
  zq_cons (zq_s_puti (index := 8) (by decide +kernel) zp_X2_8 (fun _ _ => ⟨rfl, rfl⟩)) <|
  zq_cons (zq_s_iload_n (n := 1) (by decide +kernel) rfl) <|
  zq_cons (zq_s_iconst (n := 1) (by decide +kernel) (by decide +kernel)) <|
  zq_cons (zq_s_ic_ge (off := 7) (by decide +kernel) (by decide)) <|
  zq_cons (zq_s_iconst (n := 0) (by decide +kernel) (by decide +kernel)) <|
  zq_cons (zq_s_goto (off := 12) (by decide +kernel) (by decide)) <|
  zq_cons (zq_s_aload_n (n := 0) (by decide +kernel) rfl) <|
  zq_cons (zq_s_getf (index := 8) (by decide +kernel) zf_X2_8) <|
  zq_cons (zq_s_bipush (n := 16) (by decide +kernel) (by decide +kernel)) <|
  zq_cons (zq_s_iushr (by decide +kernel)) <|
  zq_cons (zq_s_iload_n (n := 1) (by decide +kernel) rfl) <|
  zq_cons (zq_s_irem (by decide +kernel)) <|
  zq_cons (⟨rfl, (by decide +kernel)⟩) <|
  zq_nil
def zc_X3_fits : List (Nat × zq_It) := [(0, .inl (zq_il 1 2)), (1, .inl (zq_if_ne 4 21)), (4, .inl (zq_al 5 0)), (5, .inl (zq_il 6 1)), (6, .inr (.inl (2, .inr [(3, zn_X3_sortAt)]))), (9, .inl (zq_push 10 (.int (-1)))), (10, .inl (zq_ic_eq 13 17)), (13, .inl (zq_push 14 (.int 1))), (14, .inl (zq_goto 26)), (17, .inl (zq_push 18 (.int 0))), (18, .inl (zq_goto 26)), (21, .inl (zq_al 22 0)), (22, .inl (zq_il 23 1)), (23, .inr (.inl (2, .inr [(3, zn_X6_isFigure)]))), (26, .inr (.inr 2))]
theorem zk_X3_fits : zq_oks zi_X3_fits zc_X3_fits := zq_cons (zq_s_iload_n (n := 2) (by decide +kernel) rfl) <|
  zq_cons (zq_s_if_ne (off := 20) (by decide +kernel) (by decide)) <|
  zq_cons (zq_s_aload_n (n := 0) (by decide +kernel) rfl) <|
  zq_cons (zq_s_iload_n (n := 1) (by decide +kernel) rfl) <|
  zq_cons (List.forall_mem_cons.mpr ⟨⟨zi_X3_sortAt, rfl, zq_s_callV (n := 1) (index := 21) (by decide +kernel) rfl zw_422 zw_424 zw_1 zw_84 zw_425 (by decide +kernel) (by decide +kernel) ⟨rfl, rfl⟩⟩, fun _ h => absurd h List.not_mem_nil⟩) <|
  zq_cons (zq_s_iconst (n := (-1)) (by decide +kernel) (by decide +kernel)) <|
  zq_cons (zq_s_ic_eq (off := 7) (by decide +kernel) (by decide)) <|
  zq_cons (zq_s_iconst (n := 1) (by decide +kernel) (by decide +kernel)) <|
  zq_cons (zq_s_goto (off := 12) (by decide +kernel) (by decide)) <|
  zq_cons (zq_s_iconst (n := 0) (by decide +kernel) (by decide +kernel)) <|
  zq_cons (zq_s_goto (off := 8) (by decide +kernel) (by decide)) <|
  zq_cons (zq_s_aload_n (n := 0) (by decide +kernel) rfl) <|
  zq_cons (zq_s_iload_n (n := 1) (by decide +kernel) rfl) <|
  zq_cons (List.forall_mem_cons.mpr ⟨⟨zi_X6_isFigure, rfl, zq_s_callU (owner := "DollsAhead$Text") (x := ⟨"DollsAhead$People", "isFigure", "(I)Z"⟩) (n := 1) (index := 25) (by decide +kernel) rfl zw_426 zw_427 zw_428 zw_417 zw_81 zw_418 (Or.inl rfl) (by decide +kernel) (by decide +kernel) ⟨rfl, rfl⟩⟩, fun _ h => absurd h List.not_mem_nil⟩) <|
  zq_cons (⟨rfl, (by decide +kernel)⟩) <|
  zq_nil
def zc_X3_readThings : List (Nat × zq_It) := [(0, .inl (zq_push 1 (.int 0))), (1, .inl (zq_is 2 1)), (2, .inl (zq_il 3 1)), (3, .inl (zq_al 4 0)), (4, .inl (zq_getf 7 [(3, 5)])), (7, .inl (zq_ic_ge 10 59)), (10, .inl (zq_al 11 0)), (11, .inl (zq_getf 14 [(3, 6)])), (14, .inl (zq_il 15 1)), (15, .inl (zq_al 16 0)), (16, .inl (zq_il 17 1)), (17, .inl (zq_push 18 (.int 4))), (18, .inl (zq_i2 19 (fun x y => x * y))), (19, .inr (.inl (2, .inr [(3, zn_X3_sortAt)]))), (22, .inl (zq_iast 23)), (23, .inl (zq_al 24 0)), (24, .inl (zq_getf 27 [(3, 7)])), (27, .inl (zq_il 28 1)), (28, .inl (zq_al 29 0)), (29, .inl (zq_il 30 1)), (30, .inl (zq_push 31 (.int 4))), (31, .inl (zq_i2 32 (fun x y => x * y))), (32, .inl (zq_push 33 (.int 1))), (33, .inl (zq_i2 34 (fun x y => x + y))), (34, .inr (.inl (2, .inr [(3, zn_X6_figure)]))), (37, .inl (zq_iast 38)), (38, .inl (zq_al 39 0)), (39, .inl (zq_getf 42 [(3, 8)])), (42, .inl (zq_il 43 1)), (43, .inl (zq_al 44 0)), (44, .inl (zq_il 45 1)), (45, .inl (zq_push 46 (.int 4))), (46, .inl (zq_i2 47 (fun x y => x * y))), (47, .inl (zq_push 48 (.int 2))), (48, .inl (zq_i2 49 (fun x y => x + y))), (49, .inr (.inl (2, .inr [(3, zn_X6_figure)]))), (52, .inl (zq_iast 53)), (53, .inl (zq_inc 56 1 1)), (56, .inl (zq_goto 2)), (59, .inr (.inr 0))]
theorem zk_X3_readThings : zq_oks zi_X3_readThings zc_X3_readThings := zq_cons (zq_s_iconst (n := 0) (by decide +kernel) (by decide +kernel)) <|
  zq_cons (zq_s_istore_n (n := 1) (by decide +kernel) rfl (by decide +kernel)) <|
  zq_cons (zq_s_iload_n (n := 1) (by decide +kernel) rfl) <|
  zq_cons (zq_s_aload_n (n := 0) (by decide +kernel) rfl) <|
  zq_cons (zq_s_getf (index := 29) (by decide +kernel) zf_X3_29) <|
  zq_cons (zq_s_ic_ge (off := 52) (by decide +kernel) (by decide)) <|
  zq_cons (zq_s_aload_n (n := 0) (by decide +kernel) rfl) <|
  zq_cons (zq_s_getf (index := 11) (by decide +kernel) zf_X3_11) <|
  zq_cons (zq_s_iload_n (n := 1) (by decide +kernel) rfl) <|
  zq_cons (zq_s_aload_n (n := 0) (by decide +kernel) rfl) <|
  zq_cons (zq_s_iload_n (n := 1) (by decide +kernel) rfl) <|
  zq_cons (zq_s_iconst (n := 4) (by decide +kernel) (by decide +kernel)) <|
  zq_cons (zq_s_imul (by decide +kernel)) <|
  zq_cons (List.forall_mem_cons.mpr ⟨⟨zi_X3_sortAt, rfl, zq_s_callV (n := 1) (index := 21) (by decide +kernel) rfl zw_422 zw_424 zw_1 zw_84 zw_425 (by decide +kernel) (by decide +kernel) ⟨rfl, rfl⟩⟩, fun _ h => absurd h List.not_mem_nil⟩) <|
  zq_cons (zq_s_iast (by decide +kernel)) <|
  zq_cons (zq_s_aload_n (n := 0) (by decide +kernel) rfl) <|
  zq_cons (zq_s_getf (index := 15) (by decide +kernel) zf_X3_15) <|
  zq_cons (zq_s_iload_n (n := 1) (by decide +kernel) rfl) <|
  zq_cons (zq_s_aload_n (n := 0) (by decide +kernel) rfl) <|
  zq_cons (zq_s_iload_n (n := 1) (by decide +kernel) rfl) <|
  zq_cons (zq_s_iconst (n := 4) (by decide +kernel) (by decide +kernel)) <|
  zq_cons (zq_s_imul (by decide +kernel)) <|
  zq_cons (zq_s_iconst (n := 1) (by decide +kernel) (by decide +kernel)) <|
  zq_cons (zq_s_iadd (by decide +kernel)) <|
  zq_cons (List.forall_mem_cons.mpr ⟨⟨zi_X6_figure, rfl, zq_s_callU (owner := "DollsAhead$Text") (x := ⟨"DollsAhead$People", "figure", "(I)I"⟩) (n := 1) (index := 33) (by decide +kernel) rfl zw_444 zw_445 zw_446 zw_439 zw_81 zw_440 (Or.inl rfl) (by decide +kernel) (by decide +kernel) ⟨rfl, rfl⟩⟩, fun _ h => absurd h List.not_mem_nil⟩) <|
  zq_cons (zq_s_iast (by decide +kernel)) <|
  zq_cons (zq_s_aload_n (n := 0) (by decide +kernel) rfl) <|
  zq_cons (zq_s_getf (index := 18) (by decide +kernel) zf_X3_18) <|
  zq_cons (zq_s_iload_n (n := 1) (by decide +kernel) rfl) <|
  zq_cons (zq_s_aload_n (n := 0) (by decide +kernel) rfl) <|
  zq_cons (zq_s_iload_n (n := 1) (by decide +kernel) rfl) <|
  zq_cons (zq_s_iconst (n := 4) (by decide +kernel) (by decide +kernel)) <|
  zq_cons (zq_s_imul (by decide +kernel)) <|
  zq_cons (zq_s_iconst (n := 2) (by decide +kernel) (by decide +kernel)) <|
  zq_cons (zq_s_iadd (by decide +kernel)) <|
  zq_cons (List.forall_mem_cons.mpr ⟨⟨zi_X6_figure, rfl, zq_s_callU (owner := "DollsAhead$Text") (x := ⟨"DollsAhead$People", "figure", "(I)I"⟩) (n := 1) (index := 33) (by decide +kernel) rfl zw_444 zw_445 zw_446 zw_439 zw_81 zw_440 (Or.inl rfl) (by decide +kernel) (by decide +kernel) ⟨rfl, rfl⟩⟩, fun _ h => absurd h List.not_mem_nil⟩) <|
  zq_cons (zq_s_iast (by decide +kernel)) <|
  zq_cons (zq_s_iinc (n := 1) (by decide +kernel) (by decide +kernel) (by decide +kernel)) <|
  zq_cons (zq_s_goto (off := (-54)) (by decide +kernel) (by decide)) <|
  zq_cons (⟨rfl, (by decide +kernel)⟩) <|
  zq_nil
def zc_X3_sortAt : List (Nat × zq_It) := [(0, .inl (zq_al 1 0)), (1, .inl (zq_getf 4 [(3, 0)])), (4, .inl (zq_il 5 1)), (5, .inl (zq_iald 6)), (6, .inl (zq_l3 99 103 104 42 40 44 46)), (40, .inl (zq_push 41 (.int 0))), (41, .inr (.inr 1)), (42, .inl (zq_push 43 (.int 1))), (43, .inr (.inr 1)), (44, .inl (zq_push 45 (.int 2))), (45, .inr (.inr 1)), (46, .inl (zq_push 47 (.int (-1)))), (47, .inr (.inr 1))]
theorem zk_X3_sortAt : zq_oks zi_X3_sortAt zc_X3_sortAt := zq_cons (zq_s_aload_n (n := 0) (by decide +kernel) rfl) <|
  zq_cons (zq_s_getf (index := 36) (by decide +kernel) zf_X3_36) <|
  zq_cons (zq_s_iload_n (n := 1) (by decide +kernel) rfl) <|
  zq_cons (zq_s_iald (by decide +kernel)) <|
  zq_cons (zq_s_l3 (dflt := 40) (ps := #[(99, 36), (103, 34), (104, 38)]) (len := 34) (by decide +kernel) (by decide +kernel) rfl (by decide +kernel) (by decide +kernel)) <|
  zq_cons (zq_s_iconst (n := 0) (by decide +kernel) (by decide +kernel)) <|
  zq_cons (⟨rfl, (by decide +kernel)⟩) <|
  zq_cons (zq_s_iconst (n := 1) (by decide +kernel) (by decide +kernel)) <|
  zq_cons (⟨rfl, (by decide +kernel)⟩) <|
  zq_cons (zq_s_iconst (n := 2) (by decide +kernel) (by decide +kernel)) <|
  zq_cons (⟨rfl, (by decide +kernel)⟩) <|
  zq_cons (zq_s_iconst (n := (-1)) (by decide +kernel) (by decide +kernel)) <|
  zq_cons (⟨rfl, (by decide +kernel)⟩) <|
  zq_nil
def zc_X4_isLost : List (Nat × zq_It) := [(0, .inl (zq_al 1 0)), (1, .inl (zq_getf 4 [(4, 2)])), (4, .inl (zq_push 5 (.int (-1)))), (5, .inl (zq_ic_ne 8 12)), (8, .inl (zq_push 9 (.int 1))), (9, .inl (zq_goto 13)), (12, .inl (zq_push 13 (.int 0))), (13, .inr (.inr 2))]
theorem zk_X4_isLost : zq_oks zi_X4_isLost zc_X4_isLost := zq_cons (zq_s_aload_n (n := 0) (by decide +kernel) rfl) <|
  zq_cons (zq_s_getf (index := 19) (by decide +kernel) zf_X4_19) <|
  zq_cons (zq_s_iconst (n := (-1)) (by decide +kernel) (by decide +kernel)) <|
  zq_cons (zq_s_ic_ne (off := 7) (by decide +kernel) (by decide)) <|
  zq_cons (zq_s_iconst (n := 1) (by decide +kernel) (by decide +kernel)) <|
  zq_cons (zq_s_goto (off := 4) (by decide +kernel) (by decide)) <|
  zq_cons (zq_s_iconst (n := 0) (by decide +kernel) (by decide +kernel)) <|
  zq_cons (⟨rfl, (by decide +kernel)⟩) <|
  zq_nil
def zc_X4_become : List (Nat × zq_It) := [(0, .inl (zq_al 1 0)), (1, .inl (zq_il 2 1)), (2, .inl (zq_puti 5 false [(4, 1)])), (5, .inl (zq_al 6 0)), (6, .inl (zq_il 7 2)), (7, .inl (zq_puti 10 false [(4, 2)])), (10, .inl (zq_al 11 0)), (11, .inl (zq_getf 14 [(4, 0)])), (14, .inl (zq_push 15 (.int 0))), (15, .inr (.inl (2, .inl zn_J7_fill_53178))), (18, .inr (.inr 0))]
theorem zk_X4_become : zq_oks zi_X4_become zc_X4_become := zq_cons (zq_s_aload_n (n := 0) (by decide +kernel) rfl) <|
  zq_cons (zq_s_iload_n (n := 1) (by decide +kernel) rfl) <|
  zq_cons (zq_s_puti (index := 15) (by decide +kernel) zp_X4_15 (fun _ _ => ⟨rfl, rfl⟩)) <|
  zq_cons (zq_s_aload_n (n := 0) (by decide +kernel) rfl) <|
  zq_cons (zq_s_iload_n (n := 2) (by decide +kernel) rfl) <|
  zq_cons (zq_s_puti (index := 19) (by decide +kernel) zp_X4_19 (fun _ _ => ⟨rfl, rfl⟩)) <|
  zq_cons (zq_s_aload_n (n := 0) (by decide +kernel) rfl) <|
  zq_cons (zq_s_getf (index := 9) (by decide +kernel) zf_X4_9) <|
  zq_cons (zq_s_iconst (n := 0) (by decide +kernel) (by decide +kernel)) <|
  zq_cons (⟨zi_J7_fill_53178, rfl, zq_s_callS (n := 2) (index := 22) (by decide +kernel) zw_776 zw_276 zw_90 zw_277 (by decide +kernel) (by decide +kernel) ⟨rfl, rfl⟩⟩) <|
  zq_cons (⟨rfl, (by decide +kernel)⟩) <|
  zq_nil
def zc_X4_holds : List (Nat × zq_It) := [(0, .inl (zq_il 1 1)), (1, .inl (zq_if_lt 4 30)), (4, .inl (zq_il 5 2)), (5, .inl (zq_if_lt 8 30)), (8, .inl (zq_il 9 1)), (9, .inl (zq_al 10 0)), (10, .inl (zq_getf 13 [(4, 2)])), (13, .inl (zq_ic_gt 16 30)), (16, .inl (zq_il 17 2)), (17, .inl (zq_al 18 0)), (18, .inl (zq_getf 21 [(4, 2)])), (21, .inl (zq_il 22 1)), (22, .inl (zq_i2 23 (fun x y => x - y))), (23, .inl (zq_ic_gt 26 30)), (26, .inl (zq_push 27 (.int 1))), (27, .inl (zq_goto 31)), (30, .inl (zq_push 31 (.int 0))), (31, .inr (.inr 2))]
theorem zk_X4_holds : zq_oks zi_X4_holds zc_X4_holds := zq_cons (zq_s_iload_n (n := 1) (by decide +kernel) rfl) <|
  zq_cons (zq_s_if_lt (off := 29) (by decide +kernel) (by decide)) <|
  zq_cons (zq_s_iload_n (n := 2) (by decide +kernel) rfl) <|
  zq_cons (zq_s_if_lt (off := 25) (by decide +kernel) (by decide)) <|
  zq_cons (zq_s_iload_n (n := 1) (by decide +kernel) rfl) <|
  zq_cons (zq_s_aload_n (n := 0) (by decide +kernel) rfl) <|
  zq_cons (zq_s_getf (index := 19) (by decide +kernel) zf_X4_19) <|
  zq_cons (zq_s_ic_gt (off := 17) (by decide +kernel) (by decide)) <|
  zq_cons (zq_s_iload_n (n := 2) (by decide +kernel) rfl) <|
  zq_cons (zq_s_aload_n (n := 0) (by decide +kernel) rfl) <|
  zq_cons (zq_s_getf (index := 19) (by decide +kernel) zf_X4_19) <|
  zq_cons (zq_s_iload_n (n := 1) (by decide +kernel) rfl) <|
  zq_cons (zq_s_isub (by decide +kernel)) <|
  zq_cons (zq_s_ic_gt (off := 7) (by decide +kernel) (by decide)) <|
  zq_cons (zq_s_iconst (n := 1) (by decide +kernel) (by decide +kernel)) <|
  zq_cons (zq_s_goto (off := 4) (by decide +kernel) (by decide)) <|
  zq_cons (zq_s_iconst (n := 0) (by decide +kernel) (by decide +kernel)) <|
  zq_cons (⟨rfl, (by decide +kernel)⟩) <|
  zq_nil
def zc_X4_lay : List (Nat × zq_It) := [(0, .inl (zq_al 1 0)), (1, .inl (zq_getf 4 [(4, 1)])), (4, .inl (zq_if_ne 7 18)), (7, .inl (zq_al 8 0)), (8, .inl (zq_getf 11 [(4, 0)])), (11, .inl (zq_il 12 1)), (12, .inl (zq_il 13 2)), (13, .inl (zq_i1 14 (fun x => x.toInt8.toInt32))), (14, .inl (zq_iast 15)), (15, .inl (zq_goto 38)), (18, .inl (zq_al 19 0)), (19, .inl (zq_getf 22 [(4, 0)])), (22, .inl (zq_il 23 1)), (23, .inl (zq_al 24 0)), (24, .inl (zq_getf 27 [(4, 1)])), (27, .inl (zq_push 28 (.int 1))), (28, .inl (zq_ic_ne 31 36)), (31, .inl (zq_il 32 2)), (32, .inl (zq_i1 33 (fun x => x.toInt16.toInt32))), (33, .inl (zq_goto 37)), (36, .inl (zq_il 37 2)), (37, .inl (zq_iast 38)), (38, .inr (.inr 0))]
theorem zk_X4_lay : zq_oks zi_X4_lay zc_X4_lay := zq_cons (zq_s_aload_n (n := 0) (by decide +kernel) rfl) <|
  zq_cons (zq_s_getf (index := 15) (by decide +kernel) zf_X4_15) <|
  zq_cons (zq_s_if_ne (off := 14) (by decide +kernel) (by decide)) <|
  zq_cons (zq_s_aload_n (n := 0) (by decide +kernel) rfl) <|
  zq_cons (zq_s_getf (index := 9) (by decide +kernel) zf_X4_9) <|
  zq_cons (zq_s_iload_n (n := 1) (by decide +kernel) rfl) <|
  zq_cons (zq_s_iload_n (n := 2) (by decide +kernel) rfl) <|
  zq_cons (zq_s_i2b (by decide +kernel)) <|
  zq_cons (zq_s_iast (by decide +kernel)) <|
  zq_cons (zq_s_goto (off := 23) (by decide +kernel) (by decide)) <|
  zq_cons (zq_s_aload_n (n := 0) (by decide +kernel) rfl) <|
  zq_cons (zq_s_getf (index := 9) (by decide +kernel) zf_X4_9) <|
  zq_cons (zq_s_iload_n (n := 1) (by decide +kernel) rfl) <|
  zq_cons (zq_s_aload_n (n := 0) (by decide +kernel) rfl) <|
  zq_cons (zq_s_getf (index := 15) (by decide +kernel) zf_X4_15) <|
  zq_cons (zq_s_iconst (n := 1) (by decide +kernel) (by decide +kernel)) <|
  zq_cons (zq_s_ic_ne (off := 8) (by decide +kernel) (by decide)) <|
  zq_cons (zq_s_iload_n (n := 2) (by decide +kernel) rfl) <|
  zq_cons (zq_s_i2s (by decide +kernel)) <|
  zq_cons (zq_s_goto (off := 4) (by decide +kernel) (by decide)) <|
  zq_cons (zq_s_iload_n (n := 2) (by decide +kernel) rfl) <|
  zq_cons (zq_s_iast (by decide +kernel)) <|
  zq_cons (⟨rfl, (by decide +kernel)⟩) <|
  zq_nil
def zc_X5_add : List (Nat × zq_It) := [(0, .inl (zq_al 1 0)), (1, .inl (zq_getf 4 [(5, 3)])), (4, .inl (zq_if_lt 7 56)), (7, .inl (zq_al 8 0)), (8, .inl (zq_getf 11 [(5, 3)])), (11, .inl (zq_push 13 (.int 8))), (13, .inl (zq_ic_ge 16 56)), (16, .inl (zq_al 17 0)), (17, .inl (zq_getf 20 [(5, 0)])), (20, .inl (zq_al 21 0)), (21, .inl (zq_getf 24 [(5, 3)])), (24, .inl (zq_il 25 1)), (25, .inl (zq_iast 26)), (26, .inl (zq_al 27 0)), (27, .inl (zq_getf 30 [(5, 1)])), (30, .inl (zq_al 31 0)), (31, .inl (zq_getf 34 [(5, 3)])), (34, .inl (zq_il 35 2)), (35, .inl (zq_iast 36)), (36, .inl (zq_al 37 0)), (37, .inl (zq_getf 40 [(5, 2)])), (40, .inl (zq_al 41 0)), (41, .inl (zq_getf 44 [(5, 3)])), (44, .inl (zq_il 45 3)), (45, .inl (zq_iast 46)), (46, .inl (zq_al 47 0)), (47, .inl (zq_dup 48)), (48, .inl (zq_getf 51 [(5, 3)])), (51, .inl (zq_push 52 (.int 1))), (52, .inl (zq_i2 53 (fun x y => x + y))), (53, .inl (zq_puti 56 false [(5, 3)])), (56, .inr (.inr 0))]
theorem zk_X5_add : zq_oks zi_X5_add zc_X5_add := zq_cons (zq_s_aload_n (n := 0) (by decide +kernel) rfl) <|
  zq_cons (zq_s_getf (index := 21) (by decide +kernel) zf_X5_21) <|
  zq_cons (zq_s_if_lt (off := 52) (by decide +kernel) (by decide)) <|
  zq_cons (zq_s_aload_n (n := 0) (by decide +kernel) rfl) <|
  zq_cons (zq_s_getf (index := 21) (by decide +kernel) zf_X5_21) <|
  zq_cons (zq_s_bipush (n := 8) (by decide +kernel) (by decide +kernel)) <|
  zq_cons (zq_s_ic_ge (off := 43) (by decide +kernel) (by decide)) <|
  zq_cons (zq_s_aload_n (n := 0) (by decide +kernel) rfl) <|
  zq_cons (zq_s_getf (index := 9) (by decide +kernel) zf_X5_9) <|
  zq_cons (zq_s_aload_n (n := 0) (by decide +kernel) rfl) <|
  zq_cons (zq_s_getf (index := 21) (by decide +kernel) zf_X5_21) <|
  zq_cons (zq_s_iload_n (n := 1) (by decide +kernel) rfl) <|
  zq_cons (zq_s_iast (by decide +kernel)) <|
  zq_cons (zq_s_aload_n (n := 0) (by decide +kernel) rfl) <|
  zq_cons (zq_s_getf (index := 15) (by decide +kernel) zf_X5_15) <|
  zq_cons (zq_s_aload_n (n := 0) (by decide +kernel) rfl) <|
  zq_cons (zq_s_getf (index := 21) (by decide +kernel) zf_X5_21) <|
  zq_cons (zq_s_iload_n (n := 2) (by decide +kernel) rfl) <|
  zq_cons (zq_s_iast (by decide +kernel)) <|
  zq_cons (zq_s_aload_n (n := 0) (by decide +kernel) rfl) <|
  zq_cons (zq_s_getf (index := 18) (by decide +kernel) zf_X5_18) <|
  zq_cons (zq_s_aload_n (n := 0) (by decide +kernel) rfl) <|
  zq_cons (zq_s_getf (index := 21) (by decide +kernel) zf_X5_21) <|
  zq_cons (zq_s_iload_n (n := 3) (by decide +kernel) rfl) <|
  zq_cons (zq_s_iast (by decide +kernel)) <|
  zq_cons (zq_s_aload_n (n := 0) (by decide +kernel) rfl) <|
  zq_cons (zq_s_dup (by decide +kernel)) <|
  zq_cons (zq_s_getf (index := 21) (by decide +kernel) zf_X5_21) <|
  zq_cons (zq_s_iconst (n := 1) (by decide +kernel) (by decide +kernel)) <|
  zq_cons (zq_s_iadd (by decide +kernel)) <|
  zq_cons (zq_s_puti (index := 21) (by decide +kernel) zp_X5_21 (fun _ _ => ⟨rfl, rfl⟩)) <|
  zq_cons (⟨rfl, (by decide +kernel)⟩) <|
  zq_nil
def zc_X5_allIn : List (Nat × zq_It) := [(0, .inl (zq_al 1 1)), (1, .inl (zq_getf 4 [(6, 1)])), (4, .inl (zq_getf 7 [(3, 5)])), (7, .inl (zq_is 8 2)), (8, .inl (zq_push 9 (.int 0))), (9, .inl (zq_is 10 3)), (10, .inl (zq_il 11 3)), (11, .inl (zq_al 12 0)), (12, .inl (zq_getf 15 [(5, 3)])), (15, .inl (zq_ic_ge 18 61)), (18, .inl (zq_al 19 0)), (19, .inl (zq_getf 22 [(5, 1)])), (22, .inl (zq_il 23 3)), (23, .inl (zq_iald 24)), (24, .inl (zq_il 25 2)), (25, .inl (zq_ic_ge 28 53)), (28, .inl (zq_al 29 1)), (29, .inl (zq_al 30 0)), (30, .inl (zq_getf 33 [(5, 0)])), (33, .inl (zq_il 34 3)), (34, .inl (zq_iald 35)), (35, .inl (zq_al 36 0)), (36, .inl (zq_getf 39 [(5, 1)])), (39, .inl (zq_il 40 3)), (40, .inl (zq_iald 41)), (41, .inr (.inl (3, .inr [(6, zn_X7_roomOf)]))), (44, .inl (zq_al 45 0)), (45, .inl (zq_getf 48 [(5, 2)])), (48, .inl (zq_il 49 3)), (49, .inl (zq_iald 50)), (50, .inl (zq_ic_eq 53 55)), (53, .inl (zq_push 54 (.int 0))), (54, .inr (.inr 2)), (55, .inl (zq_inc 58 3 1)), (58, .inl (zq_goto 10)), (61, .inl (zq_push 62 (.int 1))), (62, .inr (.inr 2))]
theorem zk_X5_allIn : zq_oks zi_X5_allIn zc_X5_allIn := zq_cons (zq_s_aload_n (n := 1) (by decide +kernel) rfl) <|
  zq_cons (zq_s_getf (index := 25) (by decide +kernel) zf_X5_25) <|
  zq_cons (zq_s_getf (index := 31) (by decide +kernel) zf_X5_31) <|
  zq_cons (zq_s_istore_n (n := 2) (by decide +kernel) rfl (by decide +kernel)) <|
  zq_cons (zq_s_iconst (n := 0) (by decide +kernel) (by decide +kernel)) <|
  zq_cons (zq_s_istore_n (n := 3) (by decide +kernel) rfl (by decide +kernel)) <|
  zq_cons (zq_s_iload_n (n := 3) (by decide +kernel) rfl) <|
  zq_cons (zq_s_aload_n (n := 0) (by decide +kernel) rfl) <|
  zq_cons (zq_s_getf (index := 21) (by decide +kernel) zf_X5_21) <|
  zq_cons (zq_s_ic_ge (off := 46) (by decide +kernel) (by decide)) <|
  zq_cons (zq_s_aload_n (n := 0) (by decide +kernel) rfl) <|
  zq_cons (zq_s_getf (index := 15) (by decide +kernel) zf_X5_15) <|
  zq_cons (zq_s_iload_n (n := 3) (by decide +kernel) rfl) <|
  zq_cons (zq_s_iald (by decide +kernel)) <|
  zq_cons (zq_s_iload_n (n := 2) (by decide +kernel) rfl) <|
  zq_cons (zq_s_ic_ge (off := 28) (by decide +kernel) (by decide)) <|
  zq_cons (zq_s_aload_n (n := 1) (by decide +kernel) rfl) <|
  zq_cons (zq_s_aload_n (n := 0) (by decide +kernel) rfl) <|
  zq_cons (zq_s_getf (index := 9) (by decide +kernel) zf_X5_9) <|
  zq_cons (zq_s_iload_n (n := 3) (by decide +kernel) rfl) <|
  zq_cons (zq_s_iald (by decide +kernel)) <|
  zq_cons (zq_s_aload_n (n := 0) (by decide +kernel) rfl) <|
  zq_cons (zq_s_getf (index := 15) (by decide +kernel) zf_X5_15) <|
  zq_cons (zq_s_iload_n (n := 3) (by decide +kernel) rfl) <|
  zq_cons (zq_s_iald (by decide +kernel)) <|
  zq_cons (List.forall_mem_cons.mpr ⟨⟨zi_X7_roomOf, rfl, zq_s_callV (n := 2) (index := 36) (by decide +kernel) rfl zw_713 zw_570 zw_571 zw_89 zw_572 (by decide +kernel) (by decide +kernel) ⟨rfl, rfl⟩⟩, fun _ h => absurd h List.not_mem_nil⟩) <|
  zq_cons (zq_s_aload_n (n := 0) (by decide +kernel) rfl) <|
  zq_cons (zq_s_getf (index := 18) (by decide +kernel) zf_X5_18) <|
  zq_cons (zq_s_iload_n (n := 3) (by decide +kernel) rfl) <|
  zq_cons (zq_s_iald (by decide +kernel)) <|
  zq_cons (zq_s_ic_eq (off := 5) (by decide +kernel) (by decide)) <|
  zq_cons (zq_s_iconst (n := 0) (by decide +kernel) (by decide +kernel)) <|
  zq_cons (⟨rfl, (by decide +kernel)⟩) <|
  zq_cons (zq_s_iinc (n := 1) (by decide +kernel) (by decide +kernel) (by decide +kernel)) <|
  zq_cons (zq_s_goto (off := (-48)) (by decide +kernel) (by decide)) <|
  zq_cons (zq_s_iconst (n := 1) (by decide +kernel) (by decide +kernel)) <|
  zq_cons (⟨rfl, (by decide +kernel)⟩) <|
  zq_nil
def zc_X6_isFull : List (Nat × zq_It) := [(0, .inl (zq_al 1 0)), (1, .inl (zq_getf 4 [(0, 3), (3, 3)])), (4, .inl (zq_al 5 0)), (5, .inl (zq_getf 8 [(0, 1), (3, 1)])), (8, .inl (zq_ic_lt 11 15)), (11, .inl (zq_push 12 (.int 1))), (12, .inl (zq_goto 16)), (15, .inl (zq_push 16 (.int 0))), (16, .inr (.inr 2))]
theorem zk_X6_isFull : zq_oks zi_X6_isFull zc_X6_isFull := zq_cons (zq_s_aload_n (n := 0) (by decide +kernel) rfl) <|
  zq_cons (zq_s_getf (index := 31) (by decide +kernel) zf_X6_31) <|
  zq_cons (zq_s_aload_n (n := 0) (by decide +kernel) rfl) <|
  zq_cons (zq_s_getf (index := 21) (by decide +kernel) zf_X6_21) <|
  zq_cons (zq_s_ic_lt (off := 7) (by decide +kernel) (by decide)) <|
  zq_cons (zq_s_iconst (n := 1) (by decide +kernel) (by decide +kernel)) <|
  zq_cons (zq_s_goto (off := 4) (by decide +kernel) (by decide)) <|
  zq_cons (zq_s_iconst (n := 0) (by decide +kernel) (by decide +kernel)) <|
  zq_cons (⟨rfl, (by decide +kernel)⟩) <|
  zq_nil
def zc_X6_add : List (Nat × zq_It) := [(0, .inl (zq_al 1 0)), (1, .inr (.inl (1, .inr [(0, zn_X6_isFull), (3, zn_X6_isFull)]))), (4, .inl (zq_if_ne 7 31)), (7, .inl (zq_al 8 0)), (8, .inl (zq_getf 11 [(0, 0), (3, 0)])), (11, .inl (zq_al 12 0)), (12, .inl (zq_getf 15 [(0, 3), (3, 3)])), (15, .inl (zq_il 16 1)), (16, .inl (zq_iast 17)), (17, .inl (zq_al 18 0)), (18, .inl (zq_dup 19)), (19, .inl (zq_getf 22 [(0, 3), (3, 3)])), (22, .inl (zq_push 23 (.int 1))), (23, .inl (zq_i2 24 (fun x y => x + y))), (24, .inl (zq_puti 27 false [(0, 3), (3, 3)])), (27, .inl (zq_al 28 0)), (28, .inr (.inl (1, .inr [(0, zn_X6_understand), (3, zn_X6_understand)]))), (31, .inr (.inr 0))]
theorem zk_X6_add : zq_oks zi_X6_add zc_X6_add := zq_cons (zq_s_aload_n (n := 0) (by decide +kernel) rfl) <|
  zq_cons (List.forall_mem_cons.mpr ⟨⟨zi_X6_isFull, rfl, zq_s_callU (owner := "DollsAhead$Text") (x := yX6_isFull) (n := 0) (index := 40) (by decide +kernel) rfl zw_398 zw_388 zw_389 zw_387 zw_81 zw_391 (Or.inl rfl) (by decide +kernel) (by decide +kernel) ⟨rfl, rfl⟩⟩, List.forall_mem_cons.mpr ⟨⟨zi_X6_isFull, rfl, zq_s_callU (owner := "DollsAhead$Text") (x := yX6_isFull) (n := 0) (index := 40) (by decide +kernel) rfl zw_398 zw_388 zw_390 zw_387 zw_81 zw_391 (Or.inl rfl) (by decide +kernel) (by decide +kernel) ⟨rfl, rfl⟩⟩, fun _ h => absurd h List.not_mem_nil⟩⟩) <|
  zq_cons (zq_s_if_ne (off := 27) (by decide +kernel) (by decide)) <|
  zq_cons (zq_s_aload_n (n := 0) (by decide +kernel) rfl) <|
  zq_cons (zq_s_getf (index := 9) (by decide +kernel) zf_X6_9) <|
  zq_cons (zq_s_aload_n (n := 0) (by decide +kernel) rfl) <|
  zq_cons (zq_s_getf (index := 31) (by decide +kernel) zf_X6_31) <|
  zq_cons (zq_s_iload_n (n := 1) (by decide +kernel) rfl) <|
  zq_cons (zq_s_iast (by decide +kernel)) <|
  zq_cons (zq_s_aload_n (n := 0) (by decide +kernel) rfl) <|
  zq_cons (zq_s_dup (by decide +kernel)) <|
  zq_cons (zq_s_getf (index := 31) (by decide +kernel) zf_X6_31) <|
  zq_cons (zq_s_iconst (n := 1) (by decide +kernel) (by decide +kernel)) <|
  zq_cons (zq_s_iadd (by decide +kernel)) <|
  zq_cons (zq_s_puti (index := 31) (by decide +kernel) zp_X6_31 (fun _ _ => ⟨rfl, rfl⟩)) <|
  zq_cons (zq_s_aload_n (n := 0) (by decide +kernel) rfl) <|
  zq_cons (List.forall_mem_cons.mpr ⟨⟨zi_X6_understand, rfl, zq_s_callU (owner := "DollsAhead$Text") (x := yX6_understand) (n := 0) (index := 44) (by decide +kernel) rfl zw_399 zw_1383 zq_x0 zw_401 zw_81 zw_402 (Or.inl rfl) (by decide +kernel) (by decide +kernel) ⟨rfl, rfl⟩⟩, List.forall_mem_cons.mpr ⟨⟨zi_X6_understand, rfl, zq_s_callU (owner := "DollsAhead$Text") (x := yX6_understand) (n := 0) (index := 44) (by decide +kernel) rfl zw_399 zw_1383 zq_x1 zw_401 zw_81 zw_402 (Or.inl rfl) (by decide +kernel) (by decide +kernel) ⟨rfl, rfl⟩⟩, fun _ h => absurd h List.not_mem_nil⟩⟩) <|
  zq_cons (⟨rfl, (by decide +kernel)⟩) <|
  zq_nil
def zc_X6_shorten : List (Nat × zq_It) := [(0, .inl (zq_il 1 1)), (1, .inl (zq_if_lt 4 21)), (4, .inl (zq_il 5 1)), (5, .inl (zq_al 6 0)), (6, .inl (zq_getf 9 [(0, 3), (3, 3)])), (9, .inl (zq_ic_ge 12 21)), (12, .inl (zq_al 13 0)), (13, .inl (zq_il 14 1)), (14, .inl (zq_puti 17 false [(0, 3), (3, 3)])), (17, .inl (zq_al 18 0)), (18, .inr (.inl (1, .inr [(0, zn_X6_understand), (3, zn_X6_understand)]))), (21, .inr (.inr 0))]
theorem zk_X6_shorten : zq_oks zi_X6_shorten zc_X6_shorten := zq_cons (zq_s_iload_n (n := 1) (by decide +kernel) rfl) <|
  zq_cons (zq_s_if_lt (off := 20) (by decide +kernel) (by decide)) <|
  zq_cons (zq_s_iload_n (n := 1) (by decide +kernel) rfl) <|
  zq_cons (zq_s_aload_n (n := 0) (by decide +kernel) rfl) <|
  zq_cons (zq_s_getf (index := 31) (by decide +kernel) zf_X6_31) <|
  zq_cons (zq_s_ic_ge (off := 12) (by decide +kernel) (by decide)) <|
  zq_cons (zq_s_aload_n (n := 0) (by decide +kernel) rfl) <|
  zq_cons (zq_s_iload_n (n := 1) (by decide +kernel) rfl) <|
  zq_cons (zq_s_puti (index := 31) (by decide +kernel) zp_X6_31 (fun _ _ => ⟨rfl, rfl⟩)) <|
  zq_cons (zq_s_aload_n (n := 0) (by decide +kernel) rfl) <|
  zq_cons (List.forall_mem_cons.mpr ⟨⟨zi_X6_understand, rfl, zq_s_callU (owner := "DollsAhead$Text") (x := yX6_understand) (n := 0) (index := 44) (by decide +kernel) rfl zw_399 zw_1383 zq_x0 zw_401 zw_81 zw_402 (Or.inl rfl) (by decide +kernel) (by decide +kernel) ⟨rfl, rfl⟩⟩, List.forall_mem_cons.mpr ⟨⟨zi_X6_understand, rfl, zq_s_callU (owner := "DollsAhead$Text") (x := yX6_understand) (n := 0) (index := 44) (by decide +kernel) rfl zw_399 zw_1383 zq_x1 zw_401 zw_81 zw_402 (Or.inl rfl) (by decide +kernel) (by decide +kernel) ⟨rfl, rfl⟩⟩, fun _ h => absurd h List.not_mem_nil⟩⟩) <|
  zq_cons (⟨rfl, (by decide +kernel)⟩) <|
  zq_nil
def zc_X6_isFigure : List (Nat × zq_It) := [(0, .inl (zq_al 1 0)), (1, .inl (zq_getf 4 [(0, 0), (3, 0)])), (4, .inl (zq_il 5 1)), (5, .inl (zq_iald 6)), (6, .inl (zq_push 8 (.int 48))), (8, .inl (zq_ic_lt 11 26)), (11, .inl (zq_al 12 0)), (12, .inl (zq_getf 15 [(0, 0), (3, 0)])), (15, .inl (zq_il 16 1)), (16, .inl (zq_iald 17)), (17, .inl (zq_push 19 (.int 56))), (19, .inl (zq_ic_ge 22 26)), (22, .inl (zq_push 23 (.int 1))), (23, .inl (zq_goto 27)), (26, .inl (zq_push 27 (.int 0))), (27, .inr (.inr 2))]
theorem zk_X6_isFigure : zq_oks zi_X6_isFigure zc_X6_isFigure := zq_cons (zq_s_aload_n (n := 0) (by decide +kernel) rfl) <|
  zq_cons (zq_s_getf (index := 9) (by decide +kernel) zf_X6_9) <|
  zq_cons (zq_s_iload_n (n := 1) (by decide +kernel) rfl) <|
  zq_cons (zq_s_iald (by decide +kernel)) <|
  zq_cons (zq_s_bipush (n := 48) (by decide +kernel) (by decide +kernel)) <|
  zq_cons (zq_s_ic_lt (off := 18) (by decide +kernel) (by decide)) <|
  zq_cons (zq_s_aload_n (n := 0) (by decide +kernel) rfl) <|
  zq_cons (zq_s_getf (index := 9) (by decide +kernel) zf_X6_9) <|
  zq_cons (zq_s_iload_n (n := 1) (by decide +kernel) rfl) <|
  zq_cons (zq_s_iald (by decide +kernel)) <|
  zq_cons (zq_s_bipush (n := 56) (by decide +kernel) (by decide +kernel)) <|
  zq_cons (zq_s_ic_ge (off := 7) (by decide +kernel) (by decide)) <|
  zq_cons (zq_s_iconst (n := 1) (by decide +kernel) (by decide +kernel)) <|
  zq_cons (zq_s_goto (off := 4) (by decide +kernel) (by decide)) <|
  zq_cons (zq_s_iconst (n := 0) (by decide +kernel) (by decide +kernel)) <|
  zq_cons (⟨rfl, (by decide +kernel)⟩) <|
  zq_nil
def zc_X6_figure : List (Nat × zq_It) := [(0, .inl (zq_al 1 0)), (1, .inl (zq_getf 4 [(0, 0), (3, 0)])), (4, .inl (zq_il 5 1)), (5, .inl (zq_iald 6)), (6, .inl (zq_push 8 (.int 48))), (8, .inl (zq_i2 9 (fun x y => x - y))), (9, .inr (.inr 1))]
theorem zk_X6_figure : zq_oks zi_X6_figure zc_X6_figure := zq_cons (zq_s_aload_n (n := 0) (by decide +kernel) rfl) <|
  zq_cons (zq_s_getf (index := 9) (by decide +kernel) zf_X6_9) <|
  zq_cons (zq_s_iload_n (n := 1) (by decide +kernel) rfl) <|
  zq_cons (zq_s_iald (by decide +kernel)) <|
  zq_cons (zq_s_bipush (n := 48) (by decide +kernel) (by decide +kernel)) <|
  zq_cons (zq_s_isub (by decide +kernel)) <|
  zq_cons (⟨rfl, (by decide +kernel)⟩) <|
  zq_nil
def zc_X6_understand : List (Nat × zq_It) := [(0, .inl (zq_al 1 0)), (1, .inl (zq_al 2 0)), (2, .inr (.inl (1, .inr [(0, zn_X6_firstFault), (3, zn_X6_firstFault)]))), (5, .inl (zq_puti 8 false [(0, 4), (3, 4)])), (8, .inl (zq_al 9 0)), (9, .inl (zq_al 10 0)), (10, .inl (zq_getf 13 [(0, 4), (3, 4)])), (13, .inl (zq_push 14 (.int (-1)))), (14, .inl (zq_ic_ne 17 31)), (17, .inl (zq_al 18 0)), (18, .inl (zq_getf 21 [(0, 3), (3, 3)])), (21, .inl (zq_push 22 (.int 1))), (22, .inl (zq_i2 23 (fun x y => x + y))), (23, .inl (zq_al 24 0)), (24, .inl (zq_getf 27 [(0, 2), (3, 2)])), (27, .inl (zq_i2c 28 (fun x y => x / y))), (28, .inl (zq_goto 32)), (31, .inl (zq_push 32 (.int 0))), (32, .inl (zq_puti 35 false [(0, 5), (3, 5)])), (35, .inl (zq_al 36 0)), (36, .inr (.inl (1, .inr [(0, zn_X0_readThings), (3, zn_X3_readThings)]))), (39, .inr (.inr 0))]
theorem zk_X6_understand : zq_oks zi_X6_understand zc_X6_understand := zq_cons (zq_s_aload_n (n := 0) (by decide +kernel) rfl) <|
  zq_cons (zq_s_aload_n (n := 0) (by decide +kernel) rfl) <|
  zq_cons (List.forall_mem_cons.mpr ⟨⟨zi_X6_firstFault, rfl, zq_s_callU (owner := "DollsAhead$Text") (x := yX6_firstFault) (n := 0) (index := 47) (by decide +kernel) rfl zw_403 zw_1384 zq_x2 zw_405 zw_81 zw_406 (Or.inl rfl) (by decide +kernel) (by decide +kernel) ⟨rfl, rfl⟩⟩, List.forall_mem_cons.mpr ⟨⟨zi_X6_firstFault, rfl, zq_s_callU (owner := "DollsAhead$Text") (x := yX6_firstFault) (n := 0) (index := 47) (by decide +kernel) rfl zw_403 zw_1384 zq_x3 zw_405 zw_81 zw_406 (Or.inl rfl) (by decide +kernel) (by decide +kernel) ⟨rfl, rfl⟩⟩, fun _ h => absurd h List.not_mem_nil⟩⟩) <|
  zq_cons (zq_s_puti (index := 34) (by decide +kernel) zp_X6_34 (fun _ _ => ⟨rfl, rfl⟩)) <|
  zq_cons (zq_s_aload_n (n := 0) (by decide +kernel) rfl) <|
  zq_cons (zq_s_aload_n (n := 0) (by decide +kernel) rfl) <|
  zq_cons (zq_s_getf (index := 34) (by decide +kernel) zf_X6_34) <|
  zq_cons (zq_s_iconst (n := (-1)) (by decide +kernel) (by decide +kernel)) <|
  zq_cons (zq_s_ic_ne (off := 17) (by decide +kernel) (by decide)) <|
  zq_cons (zq_s_aload_n (n := 0) (by decide +kernel) rfl) <|
  zq_cons (zq_s_getf (index := 31) (by decide +kernel) zf_X6_31) <|
  zq_cons (zq_s_iconst (n := 1) (by decide +kernel) (by decide +kernel)) <|
  zq_cons (zq_s_iadd (by decide +kernel)) <|
  zq_cons (zq_s_aload_n (n := 0) (by decide +kernel) rfl) <|
  zq_cons (zq_s_getf (index := 28) (by decide +kernel) zf_X6_28) <|
  zq_cons (zq_s_idiv (by decide +kernel)) <|
  zq_cons (zq_s_goto (off := 4) (by decide +kernel) (by decide)) <|
  zq_cons (zq_s_iconst (n := 0) (by decide +kernel) (by decide +kernel)) <|
  zq_cons (zq_s_puti (index := 37) (by decide +kernel) zp_X6_37 (fun _ _ => ⟨rfl, rfl⟩)) <|
  zq_cons (zq_s_aload_n (n := 0) (by decide +kernel) rfl) <|
  zq_cons (List.forall_mem_cons.mpr ⟨⟨zi_X0_readThings, rfl, zq_s_callU (owner := "DollsAhead$Text") (x := ⟨"DollsAhead$Text", "readThings", "()V"⟩) (n := 0) (index := 51) (by decide +kernel) rfl zw_429 zw_431 zw_432 zw_433 zw_82 zw_434 (Or.inr (List.mem_of_getElem? (i := 1) rfl)) (by decide +kernel) (by decide +kernel) ⟨rfl, rfl⟩⟩, List.forall_mem_cons.mpr ⟨⟨zi_X3_readThings, rfl, zq_s_callU (owner := "DollsAhead$Text") (x := ⟨"DollsAhead$Text", "readThings", "()V"⟩) (n := 0) (index := 51) (by decide +kernel) rfl zw_429 zw_431 zw_441 zw_442 zw_84 zw_443 (Or.inr (List.mem_of_getElem? (i := 1) rfl)) (by decide +kernel) (by decide +kernel) ⟨rfl, rfl⟩⟩, fun _ h => absurd h List.not_mem_nil⟩⟩) <|
  zq_cons (⟨rfl, (by decide +kernel)⟩) <|
  zq_nil
def zc_X6_firstFault_0 : List (Nat × zq_It) := [(0, .inl (zq_push 1 (.int 0))), (1, .inl (zq_is 2 1)), (2, .inl (zq_il 3 1)), (3, .inl (zq_al 4 0)), (4, .inl (zq_getf 7 [(0, 3), (3, 3)])), (7, .inl (zq_ic_ge 10 58)), (10, .inl (zq_il 11 1)), (11, .inl (zq_al 12 0)), (12, .inl (zq_getf 15 [(0, 2), (3, 2)])), (15, .inl (zq_i2c 16 (fun x y => x - x / y * y))), (16, .inl (zq_is 17 2)), (17, .inl (zq_il 18 2)), (18, .inl (zq_al 19 0)), (19, .inl (zq_getf 22 [(0, 2), (3, 2)])), (22, .inl (zq_push 23 (.int 1))), (23, .inl (zq_i2 24 (fun x y => x - y))), (24, .inl (zq_ic_ne 27 41)), (27, .inl (zq_al 28 0)), (28, .inl (zq_getf 31 [(0, 0), (3, 0)])), (31, .inl (zq_il 32 1)), (32, .inl (zq_iald 33)), (33, .inl (zq_push 35 (.int 59))), (35, .inl (zq_ic_eq 38 52)), (38, .inl (zq_goto 50)), (41, .inl (zq_al 42 0)), (42, .inl (zq_il 43 1)), (43, .inl (zq_il 44 2)), (44, .inr (.inl (3, .inr [(0, zn_X0_fits), (3, zn_X3_fits)]))), (47, .inl (zq_if_ne 50 52)), (50, .inl (zq_il 51 1)), (51, .inr (.inr 1)), (52, .inl (zq_inc 55 1 1)), (55, .inl (zq_goto 2)), (58, .inl (zq_al 59 0)), (59, .inl (zq_getf 62 [(0, 3), (3, 3)])), (62, .inl (zq_if_eq 65 83)), (65, .inl (zq_al 66 0)), (66, .inl (zq_getf 69 [(0, 3), (3, 3)])), (69, .inl (zq_al 70 0)), (70, .inl (zq_getf 73 [(0, 2), (3, 2)]))]
theorem zk_X6_firstFault_0 : zq_oks zi_X6_firstFault zc_X6_firstFault_0 := zq_cons (zq_s_iconst (n := 0) (by decide +kernel) (by decide +kernel)) <|
  zq_cons (zq_s_istore_n (n := 1) (by decide +kernel) rfl (by decide +kernel)) <|
  zq_cons (zq_s_iload_n (n := 1) (by decide +kernel) rfl) <|
  zq_cons (zq_s_aload_n (n := 0) (by decide +kernel) rfl) <|
  zq_cons (zq_s_getf (index := 31) (by decide +kernel) zf_X6_31) <|
  zq_cons (zq_s_ic_ge (off := 51) (by decide +kernel) (by decide)) <|
  zq_cons (zq_s_iload_n (n := 1) (by decide +kernel) rfl) <|
  zq_cons (zq_s_aload_n (n := 0) (by decide +kernel) rfl) <|
  zq_cons (zq_s_getf (index := 28) (by decide +kernel) zf_X6_28) <|
  zq_cons (zq_s_irem (by decide +kernel)) <|
  zq_cons (zq_s_istore_n (n := 2) (by decide +kernel) rfl (by decide +kernel)) <|
  zq_cons (zq_s_iload_n (n := 2) (by decide +kernel) rfl) <|
  zq_cons (zq_s_aload_n (n := 0) (by decide +kernel) rfl) <|
  zq_cons (zq_s_getf (index := 28) (by decide +kernel) zf_X6_28) <|
  zq_cons (zq_s_iconst (n := 1) (by decide +kernel) (by decide +kernel)) <|
  zq_cons (zq_s_isub (by decide +kernel)) <|
  zq_cons (zq_s_ic_ne (off := 17) (by decide +kernel) (by decide)) <|
  zq_cons (zq_s_aload_n (n := 0) (by decide +kernel) rfl) <|
  zq_cons (zq_s_getf (index := 9) (by decide +kernel) zf_X6_9) <|
  zq_cons (zq_s_iload_n (n := 1) (by decide +kernel) rfl) <|
  zq_cons (zq_s_iald (by decide +kernel)) <|
  zq_cons (zq_s_bipush (n := 59) (by decide +kernel) (by decide +kernel)) <|
  zq_cons (zq_s_ic_eq (off := 17) (by decide +kernel) (by decide)) <|
  zq_cons (zq_s_goto (off := 12) (by decide +kernel) (by decide)) <|
  zq_cons (zq_s_aload_n (n := 0) (by decide +kernel) rfl) <|
  zq_cons (zq_s_iload_n (n := 1) (by decide +kernel) rfl) <|
  zq_cons (zq_s_iload_n (n := 2) (by decide +kernel) rfl) <|
  zq_cons (List.forall_mem_cons.mpr ⟨⟨zi_X0_fits, rfl, zq_s_callU (owner := "DollsAhead$Text") (x := ⟨"DollsAhead$Text", "fits", "(II)Z"⟩) (n := 2) (index := 54) (by decide +kernel) rfl zw_407 zw_409 zw_410 zw_411 zw_82 zw_412 (Or.inr (List.mem_of_getElem? (i := 0) rfl)) (by decide +kernel) (by decide +kernel) ⟨rfl, rfl⟩⟩, List.forall_mem_cons.mpr ⟨⟨zi_X3_fits, rfl, zq_s_callU (owner := "DollsAhead$Text") (x := ⟨"DollsAhead$Text", "fits", "(II)Z"⟩) (n := 2) (index := 54) (by decide +kernel) rfl zw_407 zw_409 zw_419 zw_420 zw_84 zw_421 (Or.inr (List.mem_of_getElem? (i := 0) rfl)) (by decide +kernel) (by decide +kernel) ⟨rfl, rfl⟩⟩, fun _ h => absurd h List.not_mem_nil⟩⟩) <|
  zq_cons (zq_s_if_ne (off := 5) (by decide +kernel) (by decide)) <|
  zq_cons (zq_s_iload_n (n := 1) (by decide +kernel) rfl) <|
  zq_cons (⟨rfl, (by decide +kernel)⟩) <|
  zq_cons (zq_s_iinc (n := 1) (by decide +kernel) (by decide +kernel) (by decide +kernel)) <|
  zq_cons (zq_s_goto (off := (-53)) (by decide +kernel) (by decide)) <|
  zq_cons (zq_s_aload_n (n := 0) (by decide +kernel) rfl) <|
  zq_cons (zq_s_getf (index := 31) (by decide +kernel) zf_X6_31) <|
  zq_cons (zq_s_if_eq (off := 21) (by decide +kernel) (by decide)) <|
  zq_cons (zq_s_aload_n (n := 0) (by decide +kernel) rfl) <|
  zq_cons (zq_s_getf (index := 31) (by decide +kernel) zf_X6_31) <|
  zq_cons (zq_s_aload_n (n := 0) (by decide +kernel) rfl) <|
  zq_cons (zq_s_getf (index := 28) (by decide +kernel) zf_X6_28) <|
  zq_nil
def zc_X6_firstFault_1 : List (Nat × zq_It) := [(73, .inl (zq_i2c 74 (fun x y => x - x / y * y))), (74, .inl (zq_al 75 0)), (75, .inl (zq_getf 78 [(0, 2), (3, 2)])), (78, .inl (zq_push 79 (.int 1))), (79, .inl (zq_i2 80 (fun x y => x - y))), (80, .inl (zq_ic_ne 83 87)), (83, .inl (zq_push 84 (.int (-1)))), (84, .inl (zq_goto 91)), (87, .inl (zq_al 88 0)), (88, .inl (zq_getf 91 [(0, 3), (3, 3)])), (91, .inr (.inr 1))]
theorem zk_X6_firstFault_1 : zq_oks zi_X6_firstFault zc_X6_firstFault_1 := zq_cons (zq_s_irem (by decide +kernel)) <|
  zq_cons (zq_s_aload_n (n := 0) (by decide +kernel) rfl) <|
  zq_cons (zq_s_getf (index := 28) (by decide +kernel) zf_X6_28) <|
  zq_cons (zq_s_iconst (n := 1) (by decide +kernel) (by decide +kernel)) <|
  zq_cons (zq_s_isub (by decide +kernel)) <|
  zq_cons (zq_s_ic_ne (off := 7) (by decide +kernel) (by decide)) <|
  zq_cons (zq_s_iconst (n := (-1)) (by decide +kernel) (by decide +kernel)) <|
  zq_cons (zq_s_goto (off := 7) (by decide +kernel) (by decide)) <|
  zq_cons (zq_s_aload_n (n := 0) (by decide +kernel) rfl) <|
  zq_cons (zq_s_getf (index := 31) (by decide +kernel) zf_X6_31) <|
  zq_cons (⟨rfl, (by decide +kernel)⟩) <|
  zq_nil
def zc_X6_firstFault : List (Nat × zq_It) := zc_X6_firstFault_0 ++ (zc_X6_firstFault_1)
theorem zk_X6_firstFault : zq_oks zi_X6_firstFault zc_X6_firstFault := zq_app zk_X6_firstFault_0 (zk_X6_firstFault_1)
def zc_X7_forgetSteps : List (Nat × zq_It) := [(0, .inl (zq_al 1 0)), (1, .inl (zq_getf 4 [(6, 7)])), (4, .inl (zq_push 5 (.int (-1)))), (5, .inr (.inl (2, .inl zn_J7_fill_53178))), (8, .inr (.inr 0))]
theorem zk_X7_forgetSteps : zq_oks zi_X7_forgetSteps zc_X7_forgetSteps := zq_cons (zq_s_aload_n (n := 0) (by decide +kernel) rfl) <|
  zq_cons (zq_s_getf (index := 27) (by decide +kernel) zf_X7_27) <|
  zq_cons (zq_s_iconst (n := (-1)) (by decide +kernel) (by decide +kernel)) <|
  zq_cons (⟨zi_J7_fill_53178, rfl, zq_s_callS (n := 2) (index := 52) (by decide +kernel) zw_275 zw_276 zw_90 zw_277 (by decide +kernel) (by decide +kernel) ⟨rfl, rfl⟩⟩) <|
  zq_cons (⟨rfl, (by decide +kernel)⟩) <|
  zq_nil
def zc_X7_suppose : List (Nat × zq_It) := [(0, .inl (zq_al 1 0)), (1, .inl (zq_il 2 1)), (2, .inl (zq_puti 5 false [(6, 11)])), (5, .inl (zq_al 6 0)), (6, .inl (zq_il 7 2)), (7, .inl (zq_puti 10 false [(6, 12)])), (10, .inl (zq_al 11 0)), (11, .inl (zq_il 12 3)), (12, .inl (zq_puti 15 false [(6, 13)])), (15, .inr (.inr 0))]
theorem zk_X7_suppose : zq_oks zi_X7_suppose zc_X7_suppose := zq_cons (zq_s_aload_n (n := 0) (by decide +kernel) rfl) <|
  zq_cons (zq_s_iload_n (n := 1) (by decide +kernel) rfl) <|
  zq_cons (zq_s_puti (index := 42) (by decide +kernel) zp_X7_42 (fun _ _ => ⟨rfl, rfl⟩)) <|
  zq_cons (zq_s_aload_n (n := 0) (by decide +kernel) rfl) <|
  zq_cons (zq_s_iload_n (n := 2) (by decide +kernel) rfl) <|
  zq_cons (zq_s_puti (index := 46) (by decide +kernel) zp_X7_46 (fun _ _ => ⟨rfl, rfl⟩)) <|
  zq_cons (zq_s_aload_n (n := 0) (by decide +kernel) rfl) <|
  zq_cons (zq_s_iload_n (n := 3) (by decide +kernel) rfl) <|
  zq_cons (zq_s_puti (index := 49) (by decide +kernel) zp_X7_49 (fun _ _ => ⟨rfl, rfl⟩)) <|
  zq_cons (⟨rfl, (by decide +kernel)⟩) <|
  zq_nil
def zc_X7_runWith_0 : List (Nat × zq_It) := [(0, .inl (zq_al 1 0)), (1, .inl (zq_al 2 1)), (2, .inl (zq_putr 5 [(6, 8)])), (5, .inl (zq_al 6 0)), (6, .inl (zq_il 7 2)), (7, .inl (zq_puti 10 false [(6, 9)])), (10, .inl (zq_al 11 0)), (11, .inl (zq_il 12 3)), (12, .inl (zq_puti 15 false [(6, 10)])), (15, .inl (zq_al 16 0)), (16, .inr (.inl (1, .inr [(6, zn_X7_layHours)]))), (19, .inl (zq_al 20 0)), (20, .inr (.inl (1, .inr [(6, zn_X7_layTables)]))), (23, .inl (zq_al 24 0)), (24, .inl (zq_getf 27 [(6, 1)])), (27, .inl (zq_getf 30 [(3, 5)])), (30, .inl (zq_is 32 4)), (32, .inl (zq_push 33 (.int (-1)))), (33, .inl (zq_is 35 5)), (35, .inl (zq_il 37 4)), (37, .inl (zq_push 38 (.int 1))), (38, .inl (zq_i2 39 (fun x y => x - y))), (39, .inl (zq_is 41 6)), (41, .inl (zq_il 43 6)), (43, .inl (zq_if_lt 46 83)), (46, .inl (zq_al 47 0)), (47, .inl (zq_il 49 6)), (49, .inr (.inl (2, .inr [(6, zn_X7_sortOf)]))), (52, .inl (zq_push 53 (.int 1))), (53, .inl (zq_ic_ne 56 60)), (56, .inl (zq_il 58 6)), (58, .inl (zq_is 60 5)), (60, .inl (zq_al 61 0)), (61, .inl (zq_il 63 6)), (63, .inr (.inl (2, .inr [(6, zn_X7_sortOf)]))), (66, .inl (zq_push 67 (.int 2))), (67, .inl (zq_ic_eq 70 77)), (70, .inl (zq_al 71 0)), (71, .inl (zq_il 73 6)), (73, .inl (zq_push 74 (.int (-1))))]
theorem zk_X7_runWith_0 : zq_oks zi_X7_runWith zc_X7_runWith_0 := zq_cons (zq_s_aload_n (n := 0) (by decide +kernel) rfl) <|
  zq_cons (zq_s_aload_n (n := 1) (by decide +kernel) rfl) <|
  zq_cons (zq_s_putr (index := 38) (by decide +kernel) zp_X7_38) <|
  zq_cons (zq_s_aload_n (n := 0) (by decide +kernel) rfl) <|
  zq_cons (zq_s_iload_n (n := 2) (by decide +kernel) rfl) <|
  zq_cons (zq_s_puti (index := 58) (by decide +kernel) zp_X7_58 (fun _ _ => ⟨rfl, rfl⟩)) <|
  zq_cons (zq_s_aload_n (n := 0) (by decide +kernel) rfl) <|
  zq_cons (zq_s_iload_n (n := 3) (by decide +kernel) rfl) <|
  zq_cons (zq_s_puti (index := 61) (by decide +kernel) zp_X7_61 (fun _ _ => ⟨rfl, rfl⟩)) <|
  zq_cons (zq_s_aload_n (n := 0) (by decide +kernel) rfl) <|
  zq_cons (List.forall_mem_cons.mpr ⟨⟨zi_X7_layHours, rfl, zq_s_callV (n := 0) (index := 64) (by decide +kernel) rfl zw_539 zw_541 zw_7 zw_89 zw_542 (by decide +kernel) (by decide +kernel) ⟨rfl, rfl⟩⟩, fun _ h => absurd h List.not_mem_nil⟩) <|
  zq_cons (zq_s_aload_n (n := 0) (by decide +kernel) rfl) <|
  zq_cons (List.forall_mem_cons.mpr ⟨⟨zi_X7_layTables, rfl, zq_s_callV (n := 0) (index := 67) (by decide +kernel) rfl zw_543 zw_545 zw_8 zw_89 zw_546 (by decide +kernel) (by decide +kernel) ⟨rfl, rfl⟩⟩, fun _ h => absurd h List.not_mem_nil⟩) <|
  zq_cons (zq_s_aload_n (n := 0) (by decide +kernel) rfl) <|
  zq_cons (zq_s_getf (index := 34) (by decide +kernel) zf_X7_34) <|
  zq_cons (zq_s_getf (index := 70) (by decide +kernel) zf_X7_70) <|
  zq_cons (zq_s_istore (by decide +kernel) (by decide +kernel)) <|
  zq_cons (zq_s_iconst (n := (-1)) (by decide +kernel) (by decide +kernel)) <|
  zq_cons (zq_s_istore (by decide +kernel) (by decide +kernel)) <|
  zq_cons (zq_s_iload (by decide +kernel)) <|
  zq_cons (zq_s_iconst (n := 1) (by decide +kernel) (by decide +kernel)) <|
  zq_cons (zq_s_isub (by decide +kernel)) <|
  zq_cons (zq_s_istore (by decide +kernel) (by decide +kernel)) <|
  zq_cons (zq_s_iload (by decide +kernel)) <|
  zq_cons (zq_s_if_lt (off := 40) (by decide +kernel) (by decide)) <|
  zq_cons (zq_s_aload_n (n := 0) (by decide +kernel) rfl) <|
  zq_cons (zq_s_iload (by decide +kernel)) <|
  zq_cons (List.forall_mem_cons.mpr ⟨⟨zi_X7_sortOf, rfl, zq_s_callV (n := 1) (index := 75) (by decide +kernel) rfl zw_556 zw_558 zw_9 zw_89 zw_559 (by decide +kernel) (by decide +kernel) ⟨rfl, rfl⟩⟩, fun _ h => absurd h List.not_mem_nil⟩) <|
  zq_cons (zq_s_iconst (n := 1) (by decide +kernel) (by decide +kernel)) <|
  zq_cons (zq_s_ic_ne (off := 7) (by decide +kernel) (by decide)) <|
  zq_cons (zq_s_iload (by decide +kernel)) <|
  zq_cons (zq_s_istore (by decide +kernel) (by decide +kernel)) <|
  zq_cons (zq_s_aload_n (n := 0) (by decide +kernel) rfl) <|
  zq_cons (zq_s_iload (by decide +kernel)) <|
  zq_cons (List.forall_mem_cons.mpr ⟨⟨zi_X7_sortOf, rfl, zq_s_callV (n := 1) (index := 75) (by decide +kernel) rfl zw_556 zw_558 zw_9 zw_89 zw_559 (by decide +kernel) (by decide +kernel) ⟨rfl, rfl⟩⟩, fun _ h => absurd h List.not_mem_nil⟩) <|
  zq_cons (zq_s_iconst (n := 2) (by decide +kernel) (by decide +kernel)) <|
  zq_cons (zq_s_ic_eq (off := 10) (by decide +kernel) (by decide)) <|
  zq_cons (zq_s_aload_n (n := 0) (by decide +kernel) rfl) <|
  zq_cons (zq_s_iload (by decide +kernel)) <|
  zq_cons (zq_s_iconst (n := (-1)) (by decide +kernel) (by decide +kernel)) <|
  zq_nil
def zc_X7_runWith_1 : List (Nat × zq_It) := [(74, .inr (.inl (3, .inr [(6, zn_X7_walk)]))), (77, .inl (zq_inc 80 6 (-1))), (80, .inl (zq_goto 41)), (83, .inl (zq_push 84 (.int 0))), (84, .inl (zq_is 86 6)), (86, .inl (zq_il 88 6)), (88, .inl (zq_il 90 4)), (90, .inl (zq_ic_ge 93 117)), (93, .inl (zq_al 94 0)), (94, .inl (zq_il 96 6)), (96, .inr (.inl (2, .inr [(6, zn_X7_sortOf)]))), (99, .inl (zq_push 100 (.int 2))), (100, .inl (zq_ic_ne 103 111)), (103, .inl (zq_al 104 0)), (104, .inl (zq_il 106 6)), (106, .inl (zq_il 108 5)), (108, .inr (.inl (3, .inr [(6, zn_X7_walk)]))), (111, .inl (zq_inc 114 6 1)), (114, .inl (zq_goto 86)), (117, .inr (.inr 0))]
theorem zk_X7_runWith_1 : zq_oks zi_X7_runWith zc_X7_runWith_1 := zq_cons (List.forall_mem_cons.mpr ⟨⟨zi_X7_walk, rfl, zq_s_callV (n := 2) (index := 79) (by decide +kernel) rfl zw_560 zw_562 zw_10 zw_89 zw_563 (by decide +kernel) (by decide +kernel) ⟨rfl, rfl⟩⟩, fun _ h => absurd h List.not_mem_nil⟩) <|
  zq_cons (zq_s_iinc (n := (-1)) (by decide +kernel) (by decide +kernel) (by decide +kernel)) <|
  zq_cons (zq_s_goto (off := (-39)) (by decide +kernel) (by decide)) <|
  zq_cons (zq_s_iconst (n := 0) (by decide +kernel) (by decide +kernel)) <|
  zq_cons (zq_s_istore (by decide +kernel) (by decide +kernel)) <|
  zq_cons (zq_s_iload (by decide +kernel)) <|
  zq_cons (zq_s_iload (by decide +kernel)) <|
  zq_cons (zq_s_ic_ge (off := 27) (by decide +kernel) (by decide)) <|
  zq_cons (zq_s_aload_n (n := 0) (by decide +kernel) rfl) <|
  zq_cons (zq_s_iload (by decide +kernel)) <|
  zq_cons (List.forall_mem_cons.mpr ⟨⟨zi_X7_sortOf, rfl, zq_s_callV (n := 1) (index := 75) (by decide +kernel) rfl zw_556 zw_558 zw_9 zw_89 zw_559 (by decide +kernel) (by decide +kernel) ⟨rfl, rfl⟩⟩, fun _ h => absurd h List.not_mem_nil⟩) <|
  zq_cons (zq_s_iconst (n := 2) (by decide +kernel) (by decide +kernel)) <|
  zq_cons (zq_s_ic_ne (off := 11) (by decide +kernel) (by decide)) <|
  zq_cons (zq_s_aload_n (n := 0) (by decide +kernel) rfl) <|
  zq_cons (zq_s_iload (by decide +kernel)) <|
  zq_cons (zq_s_iload (by decide +kernel)) <|
  zq_cons (List.forall_mem_cons.mpr ⟨⟨zi_X7_walk, rfl, zq_s_callV (n := 2) (index := 79) (by decide +kernel) rfl zw_560 zw_562 zw_10 zw_89 zw_563 (by decide +kernel) (by decide +kernel) ⟨rfl, rfl⟩⟩, fun _ h => absurd h List.not_mem_nil⟩) <|
  zq_cons (zq_s_iinc (n := 1) (by decide +kernel) (by decide +kernel) (by decide +kernel)) <|
  zq_cons (zq_s_goto (off := (-28)) (by decide +kernel) (by decide)) <|
  zq_cons (⟨rfl, (by decide +kernel)⟩) <|
  zq_nil
def zc_X7_runWith : List (Nat × zq_It) := zc_X7_runWith_0 ++ (zc_X7_runWith_1)
theorem zk_X7_runWith : zq_oks zi_X7_runWith zc_X7_runWith := zq_app zk_X7_runWith_0 (zk_X7_runWith_1)
def zc_X7_layHours_0 : List (Nat × zq_It) := [(0, .inl (zq_push 1 (.int (-1)))), (1, .inl (zq_is 2 1)), (2, .inl (zq_push 3 (.int 0))), (3, .inl (zq_is 4 2)), (4, .inl (zq_push 5 (.int 0))), (5, .inl (zq_is 6 3)), (6, .inl (zq_il 7 3)), (7, .inl (zq_push 9 (.int 24))), (9, .inl (zq_ic_ge 12 124)), (12, .inl (zq_push 13 (.int 0))), (13, .inl (zq_is 15 4)), (15, .inl (zq_il 17 4)), (17, .inl (zq_al 18 0)), (18, .inl (zq_getf 21 [(6, 8)])), (21, .inl (zq_getf 24 [(1, 3)])), (24, .inl (zq_ic_ge 27 104)), (27, .inl (zq_al 28 0)), (28, .inl (zq_getf 31 [(6, 8)])), (31, .inl (zq_getf 34 [(1, 1)])), (34, .inl (zq_il 36 4)), (36, .inl (zq_iald 37)), (37, .inl (zq_il 38 3)), (38, .inl (zq_ic_ne 41 98)), (41, .inl (zq_al 42 0)), (42, .inl (zq_getf 45 [(6, 9)])), (45, .inl (zq_il 47 4)), (47, .inl (zq_i2 48 (fun x y => x >>> (y &&& 31)))), (48, .inl (zq_push 49 (.int 1))), (49, .inl (zq_i2 50 (fun x y => x &&& y))), (50, .inl (zq_if_eq 53 56)), (53, .inl (zq_goto 98)), (56, .inl (zq_al 57 0)), (57, .inl (zq_getf 60 [(6, 8)])), (60, .inl (zq_getf 63 [(1, 0)])), (63, .inl (zq_il 65 4)), (65, .inl (zq_iald 66)), (66, .inl (zq_if_ne 69 83)), (69, .inl (zq_al 70 0)), (70, .inl (zq_getf 73 [(6, 8)])), (73, .inl (zq_getf 76 [(1, 2)]))]
theorem zk_X7_layHours_0 : zq_oks zi_X7_layHours zc_X7_layHours_0 := zq_cons (zq_s_iconst (n := (-1)) (by decide +kernel) (by decide +kernel)) <|
  zq_cons (zq_s_istore_n (n := 1) (by decide +kernel) rfl (by decide +kernel)) <|
  zq_cons (zq_s_iconst (n := 0) (by decide +kernel) (by decide +kernel)) <|
  zq_cons (zq_s_istore_n (n := 2) (by decide +kernel) rfl (by decide +kernel)) <|
  zq_cons (zq_s_iconst (n := 0) (by decide +kernel) (by decide +kernel)) <|
  zq_cons (zq_s_istore_n (n := 3) (by decide +kernel) rfl (by decide +kernel)) <|
  zq_cons (zq_s_iload_n (n := 3) (by decide +kernel) rfl) <|
  zq_cons (zq_s_bipush (n := 24) (by decide +kernel) (by decide +kernel)) <|
  zq_cons (zq_s_ic_ge (off := 115) (by decide +kernel) (by decide)) <|
  zq_cons (zq_s_iconst (n := 0) (by decide +kernel) (by decide +kernel)) <|
  zq_cons (zq_s_istore (by decide +kernel) (by decide +kernel)) <|
  zq_cons (zq_s_iload (by decide +kernel)) <|
  zq_cons (zq_s_aload_n (n := 0) (by decide +kernel) rfl) <|
  zq_cons (zq_s_getf (index := 38) (by decide +kernel) zf_X7_38) <|
  zq_cons (zq_s_getf (index := 83) (by decide +kernel) zf_X7_83) <|
  zq_cons (zq_s_ic_ge (off := 80) (by decide +kernel) (by decide)) <|
  zq_cons (zq_s_aload_n (n := 0) (by decide +kernel) rfl) <|
  zq_cons (zq_s_getf (index := 38) (by decide +kernel) zf_X7_38) <|
  zq_cons (zq_s_getf (index := 88) (by decide +kernel) zf_X7_88) <|
  zq_cons (zq_s_iload (by decide +kernel)) <|
  zq_cons (zq_s_iald (by decide +kernel)) <|
  zq_cons (zq_s_iload_n (n := 3) (by decide +kernel) rfl) <|
  zq_cons (zq_s_ic_ne (off := 60) (by decide +kernel) (by decide)) <|
  zq_cons (zq_s_aload_n (n := 0) (by decide +kernel) rfl) <|
  zq_cons (zq_s_getf (index := 58) (by decide +kernel) zf_X7_58) <|
  zq_cons (zq_s_iload (by decide +kernel)) <|
  zq_cons (zq_s_ishr (by decide +kernel)) <|
  zq_cons (zq_s_iconst (n := 1) (by decide +kernel) (by decide +kernel)) <|
  zq_cons (zq_s_iand (by decide +kernel)) <|
  zq_cons (zq_s_if_eq (off := 6) (by decide +kernel) (by decide)) <|
  zq_cons (zq_s_goto (off := 45) (by decide +kernel) (by decide)) <|
  zq_cons (zq_s_aload_n (n := 0) (by decide +kernel) rfl) <|
  zq_cons (zq_s_getf (index := 38) (by decide +kernel) zf_X7_38) <|
  zq_cons (zq_s_getf (index := 91) (by decide +kernel) zf_X7_91) <|
  zq_cons (zq_s_iload (by decide +kernel)) <|
  zq_cons (zq_s_iald (by decide +kernel)) <|
  zq_cons (zq_s_if_ne (off := 17) (by decide +kernel) (by decide)) <|
  zq_cons (zq_s_aload_n (n := 0) (by decide +kernel) rfl) <|
  zq_cons (zq_s_getf (index := 38) (by decide +kernel) zf_X7_38) <|
  zq_cons (zq_s_getf (index := 94) (by decide +kernel) zf_X7_94) <|
  zq_nil
def zc_X7_layHours_1 : List (Nat × zq_It) := [(76, .inl (zq_il 78 4)), (78, .inl (zq_iald 79)), (79, .inl (zq_is 80 1)), (80, .inl (zq_goto 98)), (83, .inl (zq_il 84 2)), (84, .inl (zq_push 85 (.int 1))), (85, .inl (zq_al 86 0)), (86, .inl (zq_getf 89 [(6, 8)])), (89, .inl (zq_getf 92 [(1, 2)])), (92, .inl (zq_il 94 4)), (94, .inl (zq_iald 95)), (95, .inl (zq_i2 96 (fun x y => x <<< (y &&& 31)))), (96, .inl (zq_i2 97 (fun x y => x ||| y))), (97, .inl (zq_is 98 2)), (98, .inl (zq_inc 101 4 1)), (101, .inl (zq_goto 15)), (104, .inl (zq_al 105 0)), (105, .inl (zq_getf 108 [(6, 3)])), (108, .inl (zq_il 109 3)), (109, .inl (zq_il 110 1)), (110, .inl (zq_iast 111)), (111, .inl (zq_al 112 0)), (112, .inl (zq_getf 115 [(6, 4)])), (115, .inl (zq_il 116 3)), (116, .inl (zq_il 117 2)), (117, .inl (zq_iast 118)), (118, .inl (zq_inc 121 3 1)), (121, .inl (zq_goto 6)), (124, .inr (.inr 0))]
theorem zk_X7_layHours_1 : zq_oks zi_X7_layHours zc_X7_layHours_1 := zq_cons (zq_s_iload (by decide +kernel)) <|
  zq_cons (zq_s_iald (by decide +kernel)) <|
  zq_cons (zq_s_istore_n (n := 1) (by decide +kernel) rfl (by decide +kernel)) <|
  zq_cons (zq_s_goto (off := 18) (by decide +kernel) (by decide)) <|
  zq_cons (zq_s_iload_n (n := 2) (by decide +kernel) rfl) <|
  zq_cons (zq_s_iconst (n := 1) (by decide +kernel) (by decide +kernel)) <|
  zq_cons (zq_s_aload_n (n := 0) (by decide +kernel) rfl) <|
  zq_cons (zq_s_getf (index := 38) (by decide +kernel) zf_X7_38) <|
  zq_cons (zq_s_getf (index := 94) (by decide +kernel) zf_X7_94) <|
  zq_cons (zq_s_iload (by decide +kernel)) <|
  zq_cons (zq_s_iald (by decide +kernel)) <|
  zq_cons (zq_s_ishl (by decide +kernel)) <|
  zq_cons (zq_s_ior (by decide +kernel)) <|
  zq_cons (zq_s_istore_n (n := 2) (by decide +kernel) rfl (by decide +kernel)) <|
  zq_cons (zq_s_iinc (n := 1) (by decide +kernel) (by decide +kernel) (by decide +kernel)) <|
  zq_cons (zq_s_goto (off := (-86)) (by decide +kernel) (by decide)) <|
  zq_cons (zq_s_aload_n (n := 0) (by decide +kernel) rfl) <|
  zq_cons (zq_s_getf (index := 15) (by decide +kernel) zf_X7_15) <|
  zq_cons (zq_s_iload_n (n := 3) (by decide +kernel) rfl) <|
  zq_cons (zq_s_iload_n (n := 1) (by decide +kernel) rfl) <|
  zq_cons (zq_s_iast (by decide +kernel)) <|
  zq_cons (zq_s_aload_n (n := 0) (by decide +kernel) rfl) <|
  zq_cons (zq_s_getf (index := 18) (by decide +kernel) zf_X7_18) <|
  zq_cons (zq_s_iload_n (n := 3) (by decide +kernel) rfl) <|
  zq_cons (zq_s_iload_n (n := 2) (by decide +kernel) rfl) <|
  zq_cons (zq_s_iast (by decide +kernel)) <|
  zq_cons (zq_s_iinc (n := 1) (by decide +kernel) (by decide +kernel) (by decide +kernel)) <|
  zq_cons (zq_s_goto (off := (-115)) (by decide +kernel) (by decide)) <|
  zq_cons (⟨rfl, (by decide +kernel)⟩) <|
  zq_nil
def zc_X7_layHours : List (Nat × zq_It) := zc_X7_layHours_0 ++ (zc_X7_layHours_1)
theorem zk_X7_layHours : zq_oks zi_X7_layHours zc_X7_layHours := zq_app zk_X7_layHours_0 (zk_X7_layHours_1)
def zc_X7_layTables_0 : List (Nat × zq_It) := [(0, .inl (zq_push 1 (.int 0))), (1, .inl (zq_is 2 1)), (2, .inl (zq_push 3 (.int 0))), (3, .inl (zq_is 4 2)), (4, .inl (zq_il 5 2)), (5, .inl (zq_push 7 (.int 24))), (7, .inl (zq_ic_ge 10 128)), (10, .inl (zq_il 11 2)), (11, .inl (zq_if_le 14 40)), (14, .inl (zq_al 15 0)), (15, .inl (zq_getf 18 [(6, 4)])), (18, .inl (zq_il 19 2)), (19, .inl (zq_iald 20)), (20, .inl (zq_al 21 0)), (21, .inl (zq_getf 24 [(6, 4)])), (24, .inl (zq_il 25 2)), (25, .inl (zq_push 26 (.int 1))), (26, .inl (zq_i2 27 (fun x y => x - y))), (27, .inl (zq_iald 28)), (28, .inl (zq_ic_eq 31 40)), (31, .inl (zq_il 32 1)), (32, .inl (zq_push 34 (.int 8))), (34, .inl (zq_ic_ge 37 40)), (37, .inl (zq_inc 40 1 1)), (40, .inl (zq_al 41 0)), (41, .inl (zq_getf 44 [(6, 5)])), (44, .inl (zq_il 45 2)), (45, .inl (zq_il 46 1)), (46, .inl (zq_push 48 (.int 64))), (48, .inl (zq_i2 49 (fun x y => x * y))), (49, .inl (zq_iast 50)), (50, .inl (zq_al 51 0)), (51, .inl (zq_getf 54 [(6, 7)])), (54, .inl (zq_il 55 1)), (55, .inl (zq_iald 56)), (56, .inl (zq_al 57 0)), (57, .inl (zq_getf 60 [(6, 4)])), (60, .inl (zq_il 61 2)), (61, .inl (zq_iald 62)), (62, .inl (zq_ic_eq 65 122))]
theorem zk_X7_layTables_0 : zq_oks zi_X7_layTables zc_X7_layTables_0 := zq_cons (zq_s_iconst (n := 0) (by decide +kernel) (by decide +kernel)) <|
  zq_cons (zq_s_istore_n (n := 1) (by decide +kernel) rfl (by decide +kernel)) <|
  zq_cons (zq_s_iconst (n := 0) (by decide +kernel) (by decide +kernel)) <|
  zq_cons (zq_s_istore_n (n := 2) (by decide +kernel) rfl (by decide +kernel)) <|
  zq_cons (zq_s_iload_n (n := 2) (by decide +kernel) rfl) <|
  zq_cons (zq_s_bipush (n := 24) (by decide +kernel) (by decide +kernel)) <|
  zq_cons (zq_s_ic_ge (off := 121) (by decide +kernel) (by decide)) <|
  zq_cons (zq_s_iload_n (n := 2) (by decide +kernel) rfl) <|
  zq_cons (zq_s_if_le (off := 29) (by decide +kernel) (by decide)) <|
  zq_cons (zq_s_aload_n (n := 0) (by decide +kernel) rfl) <|
  zq_cons (zq_s_getf (index := 18) (by decide +kernel) zf_X7_18) <|
  zq_cons (zq_s_iload_n (n := 2) (by decide +kernel) rfl) <|
  zq_cons (zq_s_iald (by decide +kernel)) <|
  zq_cons (zq_s_aload_n (n := 0) (by decide +kernel) rfl) <|
  zq_cons (zq_s_getf (index := 18) (by decide +kernel) zf_X7_18) <|
  zq_cons (zq_s_iload_n (n := 2) (by decide +kernel) rfl) <|
  zq_cons (zq_s_iconst (n := 1) (by decide +kernel) (by decide +kernel)) <|
  zq_cons (zq_s_isub (by decide +kernel)) <|
  zq_cons (zq_s_iald (by decide +kernel)) <|
  zq_cons (zq_s_ic_eq (off := 12) (by decide +kernel) (by decide)) <|
  zq_cons (zq_s_iload_n (n := 1) (by decide +kernel) rfl) <|
  zq_cons (zq_s_bipush (n := 8) (by decide +kernel) (by decide +kernel)) <|
  zq_cons (zq_s_ic_ge (off := 6) (by decide +kernel) (by decide)) <|
  zq_cons (zq_s_iinc (n := 1) (by decide +kernel) (by decide +kernel) (by decide +kernel)) <|
  zq_cons (zq_s_aload_n (n := 0) (by decide +kernel) rfl) <|
  zq_cons (zq_s_getf (index := 21) (by decide +kernel) zf_X7_21) <|
  zq_cons (zq_s_iload_n (n := 2) (by decide +kernel) rfl) <|
  zq_cons (zq_s_iload_n (n := 1) (by decide +kernel) rfl) <|
  zq_cons (zq_s_bipush (n := 64) (by decide +kernel) (by decide +kernel)) <|
  zq_cons (zq_s_imul (by decide +kernel)) <|
  zq_cons (zq_s_iast (by decide +kernel)) <|
  zq_cons (zq_s_aload_n (n := 0) (by decide +kernel) rfl) <|
  zq_cons (zq_s_getf (index := 27) (by decide +kernel) zf_X7_27) <|
  zq_cons (zq_s_iload_n (n := 1) (by decide +kernel) rfl) <|
  zq_cons (zq_s_iald (by decide +kernel)) <|
  zq_cons (zq_s_aload_n (n := 0) (by decide +kernel) rfl) <|
  zq_cons (zq_s_getf (index := 18) (by decide +kernel) zf_X7_18) <|
  zq_cons (zq_s_iload_n (n := 2) (by decide +kernel) rfl) <|
  zq_cons (zq_s_iald (by decide +kernel)) <|
  zq_cons (zq_s_ic_eq (off := 60) (by decide +kernel) (by decide)) <|
  zq_nil
def zc_X7_layTables_1 : List (Nat × zq_It) := [(65, .inl (zq_al 66 0)), (66, .inl (zq_getf 69 [(6, 7)])), (69, .inl (zq_il 70 1)), (70, .inl (zq_al 71 0)), (71, .inl (zq_getf 74 [(6, 4)])), (74, .inl (zq_il 75 2)), (75, .inl (zq_iald 76)), (76, .inl (zq_iast 77)), (77, .inl (zq_al 78 0)), (78, .inl (zq_getf 81 [(6, 0)])), (81, .inl (zq_al 82 0)), (82, .inl (zq_getf 85 [(6, 4)])), (85, .inl (zq_il 86 2)), (86, .inl (zq_iald 87)), (87, .inr (.inl (2, .inr [(0, zn_X0_openAllBut)]))), (90, .inl (zq_push 91 (.int 0))), (91, .inl (zq_is 92 3)), (92, .inl (zq_il 93 3)), (93, .inl (zq_push 95 (.int 8))), (95, .inl (zq_ic_ge 98 122)), (98, .inl (zq_al 99 0)), (99, .inl (zq_getf 102 [(6, 0)])), (102, .inl (zq_il 103 3)), (103, .inl (zq_al 104 0)), (104, .inl (zq_getf 107 [(6, 6)])), (107, .inl (zq_al 108 0)), (108, .inl (zq_getf 111 [(6, 5)])), (111, .inl (zq_il 112 2)), (112, .inl (zq_iald 113)), (113, .inr (.inl (4, .inr [(0, zn_X0_fillStepsTo)]))), (116, .inl (zq_inc 119 3 1)), (119, .inl (zq_goto 92)), (122, .inl (zq_inc 125 2 1)), (125, .inl (zq_goto 4)), (128, .inr (.inr 0))]
theorem zk_X7_layTables_1 : zq_oks zi_X7_layTables zc_X7_layTables_1 := zq_cons (zq_s_aload_n (n := 0) (by decide +kernel) rfl) <|
  zq_cons (zq_s_getf (index := 27) (by decide +kernel) zf_X7_27) <|
  zq_cons (zq_s_iload_n (n := 1) (by decide +kernel) rfl) <|
  zq_cons (zq_s_aload_n (n := 0) (by decide +kernel) rfl) <|
  zq_cons (zq_s_getf (index := 18) (by decide +kernel) zf_X7_18) <|
  zq_cons (zq_s_iload_n (n := 2) (by decide +kernel) rfl) <|
  zq_cons (zq_s_iald (by decide +kernel)) <|
  zq_cons (zq_s_iast (by decide +kernel)) <|
  zq_cons (zq_s_aload_n (n := 0) (by decide +kernel) rfl) <|
  zq_cons (zq_s_getf (index := 30) (by decide +kernel) zf_X7_30) <|
  zq_cons (zq_s_aload_n (n := 0) (by decide +kernel) rfl) <|
  zq_cons (zq_s_getf (index := 18) (by decide +kernel) zf_X7_18) <|
  zq_cons (zq_s_iload_n (n := 2) (by decide +kernel) rfl) <|
  zq_cons (zq_s_iald (by decide +kernel)) <|
  zq_cons (List.forall_mem_cons.mpr ⟨⟨zi_X0_openAllBut, rfl, zq_s_callV (n := 1) (index := 97) (by decide +kernel) rfl zw_547 zw_548 zw_549 zw_82 zw_550 (by decide +kernel) (by decide +kernel) ⟨rfl, rfl⟩⟩, fun _ h => absurd h List.not_mem_nil⟩) <|
  zq_cons (zq_s_iconst (n := 0) (by decide +kernel) (by decide +kernel)) <|
  zq_cons (zq_s_istore_n (n := 3) (by decide +kernel) rfl (by decide +kernel)) <|
  zq_cons (zq_s_iload_n (n := 3) (by decide +kernel) rfl) <|
  zq_cons (zq_s_bipush (n := 8) (by decide +kernel) (by decide +kernel)) <|
  zq_cons (zq_s_ic_ge (off := 27) (by decide +kernel) (by decide)) <|
  zq_cons (zq_s_aload_n (n := 0) (by decide +kernel) rfl) <|
  zq_cons (zq_s_getf (index := 30) (by decide +kernel) zf_X7_30) <|
  zq_cons (zq_s_iload_n (n := 3) (by decide +kernel) rfl) <|
  zq_cons (zq_s_aload_n (n := 0) (by decide +kernel) rfl) <|
  zq_cons (zq_s_getf (index := 24) (by decide +kernel) zf_X7_24) <|
  zq_cons (zq_s_aload_n (n := 0) (by decide +kernel) rfl) <|
  zq_cons (zq_s_getf (index := 21) (by decide +kernel) zf_X7_21) <|
  zq_cons (zq_s_iload_n (n := 2) (by decide +kernel) rfl) <|
  zq_cons (zq_s_iald (by decide +kernel)) <|
  zq_cons (List.forall_mem_cons.mpr ⟨⟨zi_X0_fillStepsTo, rfl, zq_s_callV (n := 3) (index := 103) (by decide +kernel) rfl zw_552 zw_553 zw_554 zw_82 zw_555 (by decide +kernel) (by decide +kernel) ⟨rfl, rfl⟩⟩, fun _ h => absurd h List.not_mem_nil⟩) <|
  zq_cons (zq_s_iinc (n := 1) (by decide +kernel) (by decide +kernel) (by decide +kernel)) <|
  zq_cons (zq_s_goto (off := (-27)) (by decide +kernel) (by decide)) <|
  zq_cons (zq_s_iinc (n := 1) (by decide +kernel) (by decide +kernel) (by decide +kernel)) <|
  zq_cons (zq_s_goto (off := (-121)) (by decide +kernel) (by decide)) <|
  zq_cons (⟨rfl, (by decide +kernel)⟩) <|
  zq_nil
def zc_X7_layTables : List (Nat × zq_It) := zc_X7_layTables_0 ++ (zc_X7_layTables_1)
theorem zk_X7_layTables : zq_oks zi_X7_layTables zc_X7_layTables := zq_app zk_X7_layTables_0 (zk_X7_layTables_1)
def zc_X7_walk_0 : List (Nat × zq_It) := [(0, .inl (zq_al 1 0)), (1, .inl (zq_il 2 1)), (2, .inr (.inl (2, .inr [(6, zn_X7_sortOf)]))), (5, .inl (zq_is 6 3)), (6, .inl (zq_al 7 0)), (7, .inl (zq_il 8 1)), (8, .inr (.inl (2, .inr [(6, zn_X7_bedOf)]))), (11, .inl (zq_is 13 4)), (13, .inl (zq_al 14 0)), (14, .inl (zq_getf 17 [(6, 1)])), (17, .inl (zq_getf 20 [(3, 7)])), (20, .inl (zq_il 21 1)), (21, .inl (zq_iald 22)), (22, .inl (zq_is 24 5)), (24, .inl (zq_il 26 5)), (26, .inl (zq_is 28 6)), (28, .inl (zq_il 30 4)), (30, .inl (zq_is 32 7)), (32, .inl (zq_push 33 (.int 0))), (33, .inl (zq_is 35 8)), (35, .inl (zq_il 37 8)), (37, .inl (zq_push 39 (.int 24))), (39, .inl (zq_ic_ge 42 169)), (42, .inl (zq_il 43 3)), (43, .inl (zq_push 44 (.int 2))), (44, .inl (zq_ic_ne 47 74)), (47, .inl (zq_il 48 2)), (48, .inl (zq_push 49 (.int (-1)))), (49, .inl (zq_ic_eq 52 74)), (52, .inl (zq_al 53 0)), (53, .inl (zq_il 55 8)), (55, .inl (zq_al 56 0)), (56, .inl (zq_getf 59 [(6, 10)])), (59, .inl (zq_i2 60 (fun x y => x + y))), (60, .inl (zq_push 62 (.int 23))), (62, .inl (zq_mm 65 (fun x y => if y < x then y else x))), (65, .inl (zq_il 66 2)), (66, .inr (.inl (3, .inr [(6, zn_X7_roomOf)]))), (69, .inl (zq_is 71 7)), (71, .inl (zq_goto 98))]
theorem zk_X7_walk_0 : zq_oks zi_X7_walk zc_X7_walk_0 := zq_cons (zq_s_aload_n (n := 0) (by decide +kernel) rfl) <|
  zq_cons (zq_s_iload_n (n := 1) (by decide +kernel) rfl) <|
  zq_cons (List.forall_mem_cons.mpr ⟨⟨zi_X7_sortOf, rfl, zq_s_callV (n := 1) (index := 75) (by decide +kernel) rfl zw_556 zw_558 zw_9 zw_89 zw_559 (by decide +kernel) (by decide +kernel) ⟨rfl, rfl⟩⟩, fun _ h => absurd h List.not_mem_nil⟩) <|
  zq_cons (zq_s_istore_n (n := 3) (by decide +kernel) rfl (by decide +kernel)) <|
  zq_cons (zq_s_aload_n (n := 0) (by decide +kernel) rfl) <|
  zq_cons (zq_s_iload_n (n := 1) (by decide +kernel) rfl) <|
  zq_cons (List.forall_mem_cons.mpr ⟨⟨zi_X7_bedOf, rfl, zq_s_callV (n := 1) (index := 107) (by decide +kernel) rfl zw_564 zw_566 zw_11 zw_89 zw_567 (by decide +kernel) (by decide +kernel) ⟨rfl, rfl⟩⟩, fun _ h => absurd h List.not_mem_nil⟩) <|
  zq_cons (zq_s_istore (by decide +kernel) (by decide +kernel)) <|
  zq_cons (zq_s_aload_n (n := 0) (by decide +kernel) rfl) <|
  zq_cons (zq_s_getf (index := 34) (by decide +kernel) zf_X7_34) <|
  zq_cons (zq_s_getf (index := 110) (by decide +kernel) zf_X7_110) <|
  zq_cons (zq_s_iload_n (n := 1) (by decide +kernel) rfl) <|
  zq_cons (zq_s_iald (by decide +kernel)) <|
  zq_cons (zq_s_istore (by decide +kernel) (by decide +kernel)) <|
  zq_cons (zq_s_iload (by decide +kernel)) <|
  zq_cons (zq_s_istore (by decide +kernel) (by decide +kernel)) <|
  zq_cons (zq_s_iload (by decide +kernel)) <|
  zq_cons (zq_s_istore (by decide +kernel) (by decide +kernel)) <|
  zq_cons (zq_s_iconst (n := 0) (by decide +kernel) (by decide +kernel)) <|
  zq_cons (zq_s_istore (by decide +kernel) (by decide +kernel)) <|
  zq_cons (zq_s_iload (by decide +kernel)) <|
  zq_cons (zq_s_bipush (n := 24) (by decide +kernel) (by decide +kernel)) <|
  zq_cons (zq_s_ic_ge (off := 130) (by decide +kernel) (by decide)) <|
  zq_cons (zq_s_iload_n (n := 3) (by decide +kernel) rfl) <|
  zq_cons (zq_s_iconst (n := 2) (by decide +kernel) (by decide +kernel)) <|
  zq_cons (zq_s_ic_ne (off := 30) (by decide +kernel) (by decide)) <|
  zq_cons (zq_s_iload_n (n := 2) (by decide +kernel) rfl) <|
  zq_cons (zq_s_iconst (n := (-1)) (by decide +kernel) (by decide +kernel)) <|
  zq_cons (zq_s_ic_eq (off := 25) (by decide +kernel) (by decide)) <|
  zq_cons (zq_s_aload_n (n := 0) (by decide +kernel) rfl) <|
  zq_cons (zq_s_iload (by decide +kernel)) <|
  zq_cons (zq_s_aload_n (n := 0) (by decide +kernel) rfl) <|
  zq_cons (zq_s_getf (index := 61) (by decide +kernel) zf_X7_61) <|
  zq_cons (zq_s_iadd (by decide +kernel)) <|
  zq_cons (zq_s_bipush (n := 23) (by decide +kernel) (by decide +kernel)) <|
  zq_cons (zq_s_mmin (index := 113) (by decide +kernel) zw_568 zw_112 zw_83 zw_113 (by decide) (by decide)) <|
  zq_cons (zq_s_iload_n (n := 2) (by decide +kernel) rfl) <|
  zq_cons (List.forall_mem_cons.mpr ⟨⟨zi_X7_roomOf, rfl, zq_s_callV (n := 2) (index := 119) (by decide +kernel) rfl zw_569 zw_570 zw_571 zw_89 zw_572 (by decide +kernel) (by decide +kernel) ⟨rfl, rfl⟩⟩, fun _ h => absurd h List.not_mem_nil⟩) <|
  zq_cons (zq_s_istore (by decide +kernel) (by decide +kernel)) <|
  zq_cons (zq_s_goto (off := 27) (by decide +kernel) (by decide)) <|
  zq_nil
def zc_X7_walk_1 : List (Nat × zq_It) := [(74, .inl (zq_il 75 3)), (75, .inl (zq_if_ne 78 98)), (78, .inl (zq_al 79 0)), (79, .inl (zq_getf 82 [(6, 3)])), (82, .inl (zq_il 84 8)), (84, .inl (zq_iald 85)), (85, .inl (zq_push 86 (.int (-1)))), (86, .inl (zq_ic_eq 89 98)), (89, .inl (zq_al 90 0)), (90, .inl (zq_getf 93 [(6, 3)])), (93, .inl (zq_il 95 8)), (95, .inl (zq_iald 96)), (96, .inl (zq_is 98 7)), (98, .inl (zq_al 99 0)), (99, .inl (zq_getf 102 [(6, 6)])), (102, .inl (zq_al 103 0)), (103, .inl (zq_getf 106 [(6, 5)])), (106, .inl (zq_il 108 8)), (108, .inl (zq_iald 109)), (109, .inl (zq_il 111 6)), (111, .inl (zq_push 113 (.int 8))), (113, .inl (zq_i2 114 (fun x y => x * y))), (114, .inl (zq_i2 115 (fun x y => x + y))), (115, .inl (zq_il 117 7)), (117, .inl (zq_i2 118 (fun x y => x + y))), (118, .inl (zq_iald 119)), (119, .inl (zq_is 121 6)), (121, .inl (zq_al 122 0)), (122, .inl (zq_getf 125 [(6, 2)])), (125, .inl (zq_il 127 8)), (127, .inl (zq_push 129 (.int 8))), (129, .inl (zq_i2 130 (fun x y => x * y))), (130, .inl (zq_il 131 1)), (131, .inl (zq_i2 132 (fun x y => x + y))), (132, .inl (zq_il 134 6)), (134, .inl (zq_iast 135)), (135, .inl (zq_il 136 3)), (136, .inl (zq_push 137 (.int 1))), (137, .inl (zq_ic_ne 140 163)), (140, .inl (zq_il 142 6))]
theorem zk_X7_walk_1 : zq_oks zi_X7_walk zc_X7_walk_1 := zq_cons (zq_s_iload_n (n := 3) (by decide +kernel) rfl) <|
  zq_cons (zq_s_if_ne (off := 23) (by decide +kernel) (by decide)) <|
  zq_cons (zq_s_aload_n (n := 0) (by decide +kernel) rfl) <|
  zq_cons (zq_s_getf (index := 15) (by decide +kernel) zf_X7_15) <|
  zq_cons (zq_s_iload (by decide +kernel)) <|
  zq_cons (zq_s_iald (by decide +kernel)) <|
  zq_cons (zq_s_iconst (n := (-1)) (by decide +kernel) (by decide +kernel)) <|
  zq_cons (zq_s_ic_eq (off := 12) (by decide +kernel) (by decide)) <|
  zq_cons (zq_s_aload_n (n := 0) (by decide +kernel) rfl) <|
  zq_cons (zq_s_getf (index := 15) (by decide +kernel) zf_X7_15) <|
  zq_cons (zq_s_iload (by decide +kernel)) <|
  zq_cons (zq_s_iald (by decide +kernel)) <|
  zq_cons (zq_s_istore (by decide +kernel) (by decide +kernel)) <|
  zq_cons (zq_s_aload_n (n := 0) (by decide +kernel) rfl) <|
  zq_cons (zq_s_getf (index := 24) (by decide +kernel) zf_X7_24) <|
  zq_cons (zq_s_aload_n (n := 0) (by decide +kernel) rfl) <|
  zq_cons (zq_s_getf (index := 21) (by decide +kernel) zf_X7_21) <|
  zq_cons (zq_s_iload (by decide +kernel)) <|
  zq_cons (zq_s_iald (by decide +kernel)) <|
  zq_cons (zq_s_iload (by decide +kernel)) <|
  zq_cons (zq_s_bipush (n := 8) (by decide +kernel) (by decide +kernel)) <|
  zq_cons (zq_s_imul (by decide +kernel)) <|
  zq_cons (zq_s_iadd (by decide +kernel)) <|
  zq_cons (zq_s_iload (by decide +kernel)) <|
  zq_cons (zq_s_iadd (by decide +kernel)) <|
  zq_cons (zq_s_iald (by decide +kernel)) <|
  zq_cons (zq_s_istore (by decide +kernel) (by decide +kernel)) <|
  zq_cons (zq_s_aload_n (n := 0) (by decide +kernel) rfl) <|
  zq_cons (zq_s_getf (index := 9) (by decide +kernel) zf_X7_9) <|
  zq_cons (zq_s_iload (by decide +kernel)) <|
  zq_cons (zq_s_bipush (n := 8) (by decide +kernel) (by decide +kernel)) <|
  zq_cons (zq_s_imul (by decide +kernel)) <|
  zq_cons (zq_s_iload_n (n := 1) (by decide +kernel) rfl) <|
  zq_cons (zq_s_iadd (by decide +kernel)) <|
  zq_cons (zq_s_iload (by decide +kernel)) <|
  zq_cons (zq_s_iast (by decide +kernel)) <|
  zq_cons (zq_s_iload_n (n := 3) (by decide +kernel) rfl) <|
  zq_cons (zq_s_iconst (n := 1) (by decide +kernel) (by decide +kernel)) <|
  zq_cons (zq_s_ic_ne (off := 26) (by decide +kernel) (by decide)) <|
  zq_cons (zq_s_iload (by decide +kernel)) <|
  zq_nil
def zc_X7_walk_2 : List (Nat × zq_It) := [(142, .inl (zq_il 144 7)), (144, .inl (zq_ic_ne 147 163)), (147, .inl (zq_il 149 7)), (149, .inl (zq_il 151 4)), (151, .inl (zq_ic_ne 154 159)), (154, .inl (zq_il 156 5)), (156, .inl (zq_goto 161)), (159, .inl (zq_il 161 4)), (161, .inl (zq_is 163 7)), (163, .inl (zq_inc 166 8 1)), (166, .inl (zq_goto 35)), (169, .inr (.inr 0))]
theorem zk_X7_walk_2 : zq_oks zi_X7_walk zc_X7_walk_2 := zq_cons (zq_s_iload (by decide +kernel)) <|
  zq_cons (zq_s_ic_ne (off := 19) (by decide +kernel) (by decide)) <|
  zq_cons (zq_s_iload (by decide +kernel)) <|
  zq_cons (zq_s_iload (by decide +kernel)) <|
  zq_cons (zq_s_ic_ne (off := 8) (by decide +kernel) (by decide)) <|
  zq_cons (zq_s_iload (by decide +kernel)) <|
  zq_cons (zq_s_goto (off := 5) (by decide +kernel) (by decide)) <|
  zq_cons (zq_s_iload (by decide +kernel)) <|
  zq_cons (zq_s_istore (by decide +kernel) (by decide +kernel)) <|
  zq_cons (zq_s_iinc (n := 1) (by decide +kernel) (by decide +kernel) (by decide +kernel)) <|
  zq_cons (zq_s_goto (off := (-131)) (by decide +kernel) (by decide)) <|
  zq_cons (⟨rfl, (by decide +kernel)⟩) <|
  zq_nil
def zc_X7_walk : List (Nat × zq_It) := zc_X7_walk_0 ++ (zc_X7_walk_1 ++ (zc_X7_walk_2))
theorem zk_X7_walk : zq_oks zi_X7_walk zc_X7_walk := zq_app zk_X7_walk_0 (zq_app zk_X7_walk_1 (zk_X7_walk_2))
def zc_X7_sortOf : List (Nat × zq_It) := [(0, .inl (zq_il 1 1)), (1, .inl (zq_al 2 0)), (2, .inl (zq_getf 5 [(6, 11)])), (5, .inl (zq_ic_ne 8 23)), (8, .inl (zq_al 9 0)), (9, .inl (zq_getf 12 [(6, 12)])), (12, .inl (zq_push 13 (.int (-1)))), (13, .inl (zq_ic_eq 16 23)), (16, .inl (zq_al 17 0)), (17, .inl (zq_getf 20 [(6, 12)])), (20, .inl (zq_goto 32)), (23, .inl (zq_al 24 0)), (24, .inl (zq_getf 27 [(6, 1)])), (27, .inl (zq_getf 30 [(3, 6)])), (30, .inl (zq_il 31 1)), (31, .inl (zq_iald 32)), (32, .inr (.inr 1))]
theorem zk_X7_sortOf : zq_oks zi_X7_sortOf zc_X7_sortOf := zq_cons (zq_s_iload_n (n := 1) (by decide +kernel) rfl) <|
  zq_cons (zq_s_aload_n (n := 0) (by decide +kernel) rfl) <|
  zq_cons (zq_s_getf (index := 42) (by decide +kernel) zf_X7_42) <|
  zq_cons (zq_s_ic_ne (off := 18) (by decide +kernel) (by decide)) <|
  zq_cons (zq_s_aload_n (n := 0) (by decide +kernel) rfl) <|
  zq_cons (zq_s_getf (index := 46) (by decide +kernel) zf_X7_46) <|
  zq_cons (zq_s_iconst (n := (-1)) (by decide +kernel) (by decide +kernel)) <|
  zq_cons (zq_s_ic_eq (off := 10) (by decide +kernel) (by decide)) <|
  zq_cons (zq_s_aload_n (n := 0) (by decide +kernel) rfl) <|
  zq_cons (zq_s_getf (index := 46) (by decide +kernel) zf_X7_46) <|
  zq_cons (zq_s_goto (off := 12) (by decide +kernel) (by decide)) <|
  zq_cons (zq_s_aload_n (n := 0) (by decide +kernel) rfl) <|
  zq_cons (zq_s_getf (index := 34) (by decide +kernel) zf_X7_34) <|
  zq_cons (zq_s_getf (index := 122) (by decide +kernel) zf_X7_122) <|
  zq_cons (zq_s_iload_n (n := 1) (by decide +kernel) rfl) <|
  zq_cons (zq_s_iald (by decide +kernel)) <|
  zq_cons (⟨rfl, (by decide +kernel)⟩) <|
  zq_nil
def zc_X7_bedOf : List (Nat × zq_It) := [(0, .inl (zq_il 1 1)), (1, .inl (zq_al 2 0)), (2, .inl (zq_getf 5 [(6, 11)])), (5, .inl (zq_ic_ne 8 23)), (8, .inl (zq_al 9 0)), (9, .inl (zq_getf 12 [(6, 13)])), (12, .inl (zq_push 13 (.int (-1)))), (13, .inl (zq_ic_eq 16 23)), (16, .inl (zq_al 17 0)), (17, .inl (zq_getf 20 [(6, 13)])), (20, .inl (zq_goto 32)), (23, .inl (zq_al 24 0)), (24, .inl (zq_getf 27 [(6, 1)])), (27, .inl (zq_getf 30 [(3, 8)])), (30, .inl (zq_il 31 1)), (31, .inl (zq_iald 32)), (32, .inr (.inr 1))]
theorem zk_X7_bedOf : zq_oks zi_X7_bedOf zc_X7_bedOf := zq_cons (zq_s_iload_n (n := 1) (by decide +kernel) rfl) <|
  zq_cons (zq_s_aload_n (n := 0) (by decide +kernel) rfl) <|
  zq_cons (zq_s_getf (index := 42) (by decide +kernel) zf_X7_42) <|
  zq_cons (zq_s_ic_ne (off := 18) (by decide +kernel) (by decide)) <|
  zq_cons (zq_s_aload_n (n := 0) (by decide +kernel) rfl) <|
  zq_cons (zq_s_getf (index := 49) (by decide +kernel) zf_X7_49) <|
  zq_cons (zq_s_iconst (n := (-1)) (by decide +kernel) (by decide +kernel)) <|
  zq_cons (zq_s_ic_eq (off := 10) (by decide +kernel) (by decide)) <|
  zq_cons (zq_s_aload_n (n := 0) (by decide +kernel) rfl) <|
  zq_cons (zq_s_getf (index := 49) (by decide +kernel) zf_X7_49) <|
  zq_cons (zq_s_goto (off := 12) (by decide +kernel) (by decide)) <|
  zq_cons (zq_s_aload_n (n := 0) (by decide +kernel) rfl) <|
  zq_cons (zq_s_getf (index := 34) (by decide +kernel) zf_X7_34) <|
  zq_cons (zq_s_getf (index := 125) (by decide +kernel) zf_X7_125) <|
  zq_cons (zq_s_iload_n (n := 1) (by decide +kernel) rfl) <|
  zq_cons (zq_s_iald (by decide +kernel)) <|
  zq_cons (⟨rfl, (by decide +kernel)⟩) <|
  zq_nil
def zc_X7_roomOf : List (Nat × zq_It) := [(0, .inl (zq_al 1 0)), (1, .inl (zq_getf 4 [(6, 2)])), (4, .inl (zq_il 5 1)), (5, .inl (zq_push 7 (.int 8))), (7, .inl (zq_i2 8 (fun x y => x * y))), (8, .inl (zq_il 9 2)), (9, .inl (zq_i2 10 (fun x y => x + y))), (10, .inl (zq_iald 11)), (11, .inr (.inr 1))]
theorem zk_X7_roomOf : zq_oks zi_X7_roomOf zc_X7_roomOf := zq_cons (zq_s_aload_n (n := 0) (by decide +kernel) rfl) <|
  zq_cons (zq_s_getf (index := 9) (by decide +kernel) zf_X7_9) <|
  zq_cons (zq_s_iload_n (n := 1) (by decide +kernel) rfl) <|
  zq_cons (zq_s_bipush (n := 8) (by decide +kernel) (by decide +kernel)) <|
  zq_cons (zq_s_imul (by decide +kernel)) <|
  zq_cons (zq_s_iload_n (n := 2) (by decide +kernel) rfl) <|
  zq_cons (zq_s_iadd (by decide +kernel)) <|
  zq_cons (zq_s_iald (by decide +kernel)) <|
  zq_cons (⟨rfl, (by decide +kernel)⟩) <|
  zq_nil
def zc_X7_whoIn : List (Nat × zq_It) := [(0, .inl (zq_push 1 (.int 0))), (1, .inl (zq_is 2 3)), (2, .inl (zq_push 3 (.int 0))), (3, .inl (zq_is 5 4)), (5, .inl (zq_il 7 4)), (7, .inl (zq_al 8 0)), (8, .inl (zq_getf 11 [(6, 1)])), (11, .inl (zq_getf 14 [(3, 5)])), (14, .inl (zq_ic_ge 17 41)), (17, .inl (zq_al 18 0)), (18, .inl (zq_il 19 1)), (19, .inl (zq_il 21 4)), (21, .inr (.inl (3, .inr [(6, zn_X7_roomOf)]))), (24, .inl (zq_il 25 2)), (25, .inl (zq_ic_ne 28 35)), (28, .inl (zq_il 29 3)), (29, .inl (zq_push 30 (.int 1))), (30, .inl (zq_il 32 4)), (32, .inl (zq_i2 33 (fun x y => x <<< (y &&& 31)))), (33, .inl (zq_i2 34 (fun x y => x ||| y))), (34, .inl (zq_is 35 3)), (35, .inl (zq_inc 38 4 1)), (38, .inl (zq_goto 5)), (41, .inl (zq_il 42 3)), (42, .inr (.inr 1))]
theorem zk_X7_whoIn : zq_oks zi_X7_whoIn zc_X7_whoIn := zq_cons (zq_s_iconst (n := 0) (by decide +kernel) (by decide +kernel)) <|
  zq_cons (zq_s_istore_n (n := 3) (by decide +kernel) rfl (by decide +kernel)) <|
  zq_cons (zq_s_iconst (n := 0) (by decide +kernel) (by decide +kernel)) <|
  zq_cons (zq_s_istore (by decide +kernel) (by decide +kernel)) <|
  zq_cons (zq_s_iload (by decide +kernel)) <|
  zq_cons (zq_s_aload_n (n := 0) (by decide +kernel) rfl) <|
  zq_cons (zq_s_getf (index := 34) (by decide +kernel) zf_X7_34) <|
  zq_cons (zq_s_getf (index := 70) (by decide +kernel) zf_X7_70) <|
  zq_cons (zq_s_ic_ge (off := 27) (by decide +kernel) (by decide)) <|
  zq_cons (zq_s_aload_n (n := 0) (by decide +kernel) rfl) <|
  zq_cons (zq_s_iload_n (n := 1) (by decide +kernel) rfl) <|
  zq_cons (zq_s_iload (by decide +kernel)) <|
  zq_cons (List.forall_mem_cons.mpr ⟨⟨zi_X7_roomOf, rfl, zq_s_callV (n := 2) (index := 119) (by decide +kernel) rfl zw_569 zw_570 zw_571 zw_89 zw_572 (by decide +kernel) (by decide +kernel) ⟨rfl, rfl⟩⟩, fun _ h => absurd h List.not_mem_nil⟩) <|
  zq_cons (zq_s_iload_n (n := 2) (by decide +kernel) rfl) <|
  zq_cons (zq_s_ic_ne (off := 10) (by decide +kernel) (by decide)) <|
  zq_cons (zq_s_iload_n (n := 3) (by decide +kernel) rfl) <|
  zq_cons (zq_s_iconst (n := 1) (by decide +kernel) (by decide +kernel)) <|
  zq_cons (zq_s_iload (by decide +kernel)) <|
  zq_cons (zq_s_ishl (by decide +kernel)) <|
  zq_cons (zq_s_ior (by decide +kernel)) <|
  zq_cons (zq_s_istore_n (n := 3) (by decide +kernel) rfl (by decide +kernel)) <|
  zq_cons (zq_s_iinc (n := 1) (by decide +kernel) (by decide +kernel) (by decide +kernel)) <|
  zq_cons (zq_s_goto (off := (-33)) (by decide +kernel) (by decide)) <|
  zq_cons (zq_s_iload_n (n := 3) (by decide +kernel) rfl) <|
  zq_cons (⟨rfl, (by decide +kernel)⟩) <|
  zq_nil
def zc_X7_doorsBetween : List (Nat × zq_It) := [(0, .inl (zq_il 1 2)), (1, .inl (zq_is 3 4)), (3, .inl (zq_push 4 (.int 0))), (4, .inl (zq_is 6 5)), (6, .inl (zq_il 8 5)), (8, .inl (zq_push 10 (.int 8))), (10, .inl (zq_ic_ge 13 49)), (13, .inl (zq_il 15 4)), (15, .inl (zq_il 16 3)), (16, .inl (zq_ic_ne 19 22)), (19, .inl (zq_il 21 5)), (21, .inr (.inr 1)), (22, .inl (zq_al 23 0)), (23, .inl (zq_getf 26 [(6, 6)])), (26, .inl (zq_al 27 0)), (27, .inl (zq_getf 30 [(6, 5)])), (30, .inl (zq_il 31 1)), (31, .inl (zq_iald 32)), (32, .inl (zq_il 34 4)), (34, .inl (zq_push 36 (.int 8))), (36, .inl (zq_i2 37 (fun x y => x * y))), (37, .inl (zq_i2 38 (fun x y => x + y))), (38, .inl (zq_il 39 3)), (39, .inl (zq_i2 40 (fun x y => x + y))), (40, .inl (zq_iald 41)), (41, .inl (zq_is 43 4)), (43, .inl (zq_inc 46 5 1)), (46, .inl (zq_goto 6)), (49, .inl (zq_push 50 (.int (-1)))), (50, .inr (.inr 1))]
theorem zk_X7_doorsBetween : zq_oks zi_X7_doorsBetween zc_X7_doorsBetween := zq_cons (zq_s_iload_n (n := 2) (by decide +kernel) rfl) <|
  zq_cons (zq_s_istore (by decide +kernel) (by decide +kernel)) <|
  zq_cons (zq_s_iconst (n := 0) (by decide +kernel) (by decide +kernel)) <|
  zq_cons (zq_s_istore (by decide +kernel) (by decide +kernel)) <|
  zq_cons (zq_s_iload (by decide +kernel)) <|
  zq_cons (zq_s_bipush (n := 8) (by decide +kernel) (by decide +kernel)) <|
  zq_cons (zq_s_ic_ge (off := 39) (by decide +kernel) (by decide)) <|
  zq_cons (zq_s_iload (by decide +kernel)) <|
  zq_cons (zq_s_iload_n (n := 3) (by decide +kernel) rfl) <|
  zq_cons (zq_s_ic_ne (off := 6) (by decide +kernel) (by decide)) <|
  zq_cons (zq_s_iload (by decide +kernel)) <|
  zq_cons (⟨rfl, (by decide +kernel)⟩) <|
  zq_cons (zq_s_aload_n (n := 0) (by decide +kernel) rfl) <|
  zq_cons (zq_s_getf (index := 24) (by decide +kernel) zf_X7_24) <|
  zq_cons (zq_s_aload_n (n := 0) (by decide +kernel) rfl) <|
  zq_cons (zq_s_getf (index := 21) (by decide +kernel) zf_X7_21) <|
  zq_cons (zq_s_iload_n (n := 1) (by decide +kernel) rfl) <|
  zq_cons (zq_s_iald (by decide +kernel)) <|
  zq_cons (zq_s_iload (by decide +kernel)) <|
  zq_cons (zq_s_bipush (n := 8) (by decide +kernel) (by decide +kernel)) <|
  zq_cons (zq_s_imul (by decide +kernel)) <|
  zq_cons (zq_s_iadd (by decide +kernel)) <|
  zq_cons (zq_s_iload_n (n := 3) (by decide +kernel) rfl) <|
  zq_cons (zq_s_iadd (by decide +kernel)) <|
  zq_cons (zq_s_iald (by decide +kernel)) <|
  zq_cons (zq_s_istore (by decide +kernel) (by decide +kernel)) <|
  zq_cons (zq_s_iinc (n := 1) (by decide +kernel) (by decide +kernel) (by decide +kernel)) <|
  zq_cons (zq_s_goto (off := (-40)) (by decide +kernel) (by decide)) <|
  zq_cons (zq_s_iconst (n := (-1)) (by decide +kernel) (by decide +kernel)) <|
  zq_cons (⟨rfl, (by decide +kernel)⟩) <|
  zq_nil
def zc_X7_emptyHours : List (Nat × zq_It) := [(0, .inl (zq_push 1 (.int 0))), (1, .inl (zq_is 2 2)), (2, .inl (zq_push 3 (.int 0))), (3, .inl (zq_is 4 3)), (4, .inl (zq_il 5 3)), (5, .inl (zq_push 7 (.int 24))), (7, .inl (zq_ic_ge 10 31)), (10, .inl (zq_al 11 0)), (11, .inl (zq_il 12 3)), (12, .inl (zq_il 13 1)), (13, .inr (.inl (3, .inr [(6, zn_X7_whoIn)]))), (16, .inl (zq_if_ne 19 25)), (19, .inl (zq_il 20 2)), (20, .inl (zq_push 21 (.int 1))), (21, .inl (zq_il 22 3)), (22, .inl (zq_i2 23 (fun x y => x <<< (y &&& 31)))), (23, .inl (zq_i2 24 (fun x y => x ||| y))), (24, .inl (zq_is 25 2)), (25, .inl (zq_inc 28 3 1)), (28, .inl (zq_goto 4)), (31, .inl (zq_il 32 2)), (32, .inr (.inr 1))]
theorem zk_X7_emptyHours : zq_oks zi_X7_emptyHours zc_X7_emptyHours := zq_cons (zq_s_iconst (n := 0) (by decide +kernel) (by decide +kernel)) <|
  zq_cons (zq_s_istore_n (n := 2) (by decide +kernel) rfl (by decide +kernel)) <|
  zq_cons (zq_s_iconst (n := 0) (by decide +kernel) (by decide +kernel)) <|
  zq_cons (zq_s_istore_n (n := 3) (by decide +kernel) rfl (by decide +kernel)) <|
  zq_cons (zq_s_iload_n (n := 3) (by decide +kernel) rfl) <|
  zq_cons (zq_s_bipush (n := 24) (by decide +kernel) (by decide +kernel)) <|
  zq_cons (zq_s_ic_ge (off := 24) (by decide +kernel) (by decide)) <|
  zq_cons (zq_s_aload_n (n := 0) (by decide +kernel) rfl) <|
  zq_cons (zq_s_iload_n (n := 3) (by decide +kernel) rfl) <|
  zq_cons (zq_s_iload_n (n := 1) (by decide +kernel) rfl) <|
  zq_cons (List.forall_mem_cons.mpr ⟨⟨zi_X7_whoIn, rfl, zq_s_callV (n := 2) (index := 128) (by decide +kernel) rfl zw_605 zw_582 zw_583 zw_89 zw_584 (by decide +kernel) (by decide +kernel) ⟨rfl, rfl⟩⟩, fun _ h => absurd h List.not_mem_nil⟩) <|
  zq_cons (zq_s_if_ne (off := 9) (by decide +kernel) (by decide)) <|
  zq_cons (zq_s_iload_n (n := 2) (by decide +kernel) rfl) <|
  zq_cons (zq_s_iconst (n := 1) (by decide +kernel) (by decide +kernel)) <|
  zq_cons (zq_s_iload_n (n := 3) (by decide +kernel) rfl) <|
  zq_cons (zq_s_ishl (by decide +kernel)) <|
  zq_cons (zq_s_ior (by decide +kernel)) <|
  zq_cons (zq_s_istore_n (n := 2) (by decide +kernel) rfl (by decide +kernel)) <|
  zq_cons (zq_s_iinc (n := 1) (by decide +kernel) (by decide +kernel) (by decide +kernel)) <|
  zq_cons (zq_s_goto (off := (-24)) (by decide +kernel) (by decide)) <|
  zq_cons (zq_s_iload_n (n := 2) (by decide +kernel) rfl) <|
  zq_cons (⟨rfl, (by decide +kernel)⟩) <|
  zq_nil
def zc_X7_aloneBehind_0 : List (Nat × zq_It) := [(0, .inl (zq_push 1 (.int 0))), (1, .inl (zq_is 2 2)), (2, .inl (zq_push 3 (.int 0))), (3, .inl (zq_is 4 3)), (4, .inl (zq_push 5 (.int 0))), (5, .inl (zq_is 7 4)), (7, .inl (zq_il 9 4)), (9, .inl (zq_al 10 0)), (10, .inl (zq_getf 13 [(6, 1)])), (13, .inl (zq_getf 16 [(3, 5)])), (16, .inl (zq_ic_ge 19 48)), (19, .inl (zq_push 20 (.int 1))), (20, .inl (zq_al 21 0)), (21, .inl (zq_il 22 1)), (22, .inl (zq_il 24 4)), (24, .inr (.inl (3, .inr [(6, zn_X7_roomOf)]))), (27, .inl (zq_i2 28 (fun x y => x <<< (y &&& 31)))), (28, .inl (zq_is 30 5)), (30, .inl (zq_il 31 3)), (31, .inl (zq_il 32 2)), (32, .inl (zq_il 34 5)), (34, .inl (zq_i2 35 (fun x y => x &&& y))), (35, .inl (zq_i2 36 (fun x y => x ||| y))), (36, .inl (zq_is 37 3)), (37, .inl (zq_il 38 2)), (38, .inl (zq_il 40 5)), (40, .inl (zq_i2 41 (fun x y => x ||| y))), (41, .inl (zq_is 42 2)), (42, .inl (zq_inc 45 4 1)), (45, .inl (zq_goto 7)), (48, .inl (zq_push 49 (.int 0))), (49, .inl (zq_is 51 4)), (51, .inl (zq_push 52 (.int 0))), (52, .inl (zq_is 54 5)), (54, .inl (zq_il 56 5)), (56, .inl (zq_al 57 0)), (57, .inl (zq_getf 60 [(6, 1)])), (60, .inl (zq_getf 63 [(3, 5)])), (63, .inl (zq_ic_ge 66 95)), (66, .inl (zq_il 67 3))]
theorem zk_X7_aloneBehind_0 : zq_oks zi_X7_aloneBehind zc_X7_aloneBehind_0 := zq_cons (zq_s_iconst (n := 0) (by decide +kernel) (by decide +kernel)) <|
  zq_cons (zq_s_istore_n (n := 2) (by decide +kernel) rfl (by decide +kernel)) <|
  zq_cons (zq_s_iconst (n := 0) (by decide +kernel) (by decide +kernel)) <|
  zq_cons (zq_s_istore_n (n := 3) (by decide +kernel) rfl (by decide +kernel)) <|
  zq_cons (zq_s_iconst (n := 0) (by decide +kernel) (by decide +kernel)) <|
  zq_cons (zq_s_istore (by decide +kernel) (by decide +kernel)) <|
  zq_cons (zq_s_iload (by decide +kernel)) <|
  zq_cons (zq_s_aload_n (n := 0) (by decide +kernel) rfl) <|
  zq_cons (zq_s_getf (index := 34) (by decide +kernel) zf_X7_34) <|
  zq_cons (zq_s_getf (index := 70) (by decide +kernel) zf_X7_70) <|
  zq_cons (zq_s_ic_ge (off := 32) (by decide +kernel) (by decide)) <|
  zq_cons (zq_s_iconst (n := 1) (by decide +kernel) (by decide +kernel)) <|
  zq_cons (zq_s_aload_n (n := 0) (by decide +kernel) rfl) <|
  zq_cons (zq_s_iload_n (n := 1) (by decide +kernel) rfl) <|
  zq_cons (zq_s_iload (by decide +kernel)) <|
  zq_cons (List.forall_mem_cons.mpr ⟨⟨zi_X7_roomOf, rfl, zq_s_callV (n := 2) (index := 119) (by decide +kernel) rfl zw_569 zw_570 zw_571 zw_89 zw_572 (by decide +kernel) (by decide +kernel) ⟨rfl, rfl⟩⟩, fun _ h => absurd h List.not_mem_nil⟩) <|
  zq_cons (zq_s_ishl (by decide +kernel)) <|
  zq_cons (zq_s_istore (by decide +kernel) (by decide +kernel)) <|
  zq_cons (zq_s_iload_n (n := 3) (by decide +kernel) rfl) <|
  zq_cons (zq_s_iload_n (n := 2) (by decide +kernel) rfl) <|
  zq_cons (zq_s_iload (by decide +kernel)) <|
  zq_cons (zq_s_iand (by decide +kernel)) <|
  zq_cons (zq_s_ior (by decide +kernel)) <|
  zq_cons (zq_s_istore_n (n := 3) (by decide +kernel) rfl (by decide +kernel)) <|
  zq_cons (zq_s_iload_n (n := 2) (by decide +kernel) rfl) <|
  zq_cons (zq_s_iload (by decide +kernel)) <|
  zq_cons (zq_s_ior (by decide +kernel)) <|
  zq_cons (zq_s_istore_n (n := 2) (by decide +kernel) rfl (by decide +kernel)) <|
  zq_cons (zq_s_iinc (n := 1) (by decide +kernel) (by decide +kernel) (by decide +kernel)) <|
  zq_cons (zq_s_goto (off := (-38)) (by decide +kernel) (by decide)) <|
  zq_cons (zq_s_iconst (n := 0) (by decide +kernel) (by decide +kernel)) <|
  zq_cons (zq_s_istore (by decide +kernel) (by decide +kernel)) <|
  zq_cons (zq_s_iconst (n := 0) (by decide +kernel) (by decide +kernel)) <|
  zq_cons (zq_s_istore (by decide +kernel) (by decide +kernel)) <|
  zq_cons (zq_s_iload (by decide +kernel)) <|
  zq_cons (zq_s_aload_n (n := 0) (by decide +kernel) rfl) <|
  zq_cons (zq_s_getf (index := 34) (by decide +kernel) zf_X7_34) <|
  zq_cons (zq_s_getf (index := 70) (by decide +kernel) zf_X7_70) <|
  zq_cons (zq_s_ic_ge (off := 32) (by decide +kernel) (by decide)) <|
  zq_cons (zq_s_iload_n (n := 3) (by decide +kernel) rfl) <|
  zq_nil
def zc_X7_aloneBehind_1 : List (Nat × zq_It) := [(67, .inl (zq_al 68 0)), (68, .inl (zq_il 69 1)), (69, .inl (zq_il 71 5)), (71, .inr (.inl (3, .inr [(6, zn_X7_roomOf)]))), (74, .inl (zq_i2 75 (fun x y => x >>> (y &&& 31)))), (75, .inl (zq_push 76 (.int 1))), (76, .inl (zq_i2 77 (fun x y => x &&& y))), (77, .inl (zq_if_ne 80 89)), (80, .inl (zq_il 82 4)), (82, .inl (zq_push 83 (.int 1))), (83, .inl (zq_il 85 5)), (85, .inl (zq_i2 86 (fun x y => x <<< (y &&& 31)))), (86, .inl (zq_i2 87 (fun x y => x ||| y))), (87, .inl (zq_is 89 4)), (89, .inl (zq_inc 92 5 1)), (92, .inl (zq_goto 54)), (95, .inl (zq_il 97 4)), (97, .inr (.inr 1))]
theorem zk_X7_aloneBehind_1 : zq_oks zi_X7_aloneBehind zc_X7_aloneBehind_1 := zq_cons (zq_s_aload_n (n := 0) (by decide +kernel) rfl) <|
  zq_cons (zq_s_iload_n (n := 1) (by decide +kernel) rfl) <|
  zq_cons (zq_s_iload (by decide +kernel)) <|
  zq_cons (List.forall_mem_cons.mpr ⟨⟨zi_X7_roomOf, rfl, zq_s_callV (n := 2) (index := 119) (by decide +kernel) rfl zw_569 zw_570 zw_571 zw_89 zw_572 (by decide +kernel) (by decide +kernel) ⟨rfl, rfl⟩⟩, fun _ h => absurd h List.not_mem_nil⟩) <|
  zq_cons (zq_s_ishr (by decide +kernel)) <|
  zq_cons (zq_s_iconst (n := 1) (by decide +kernel) (by decide +kernel)) <|
  zq_cons (zq_s_iand (by decide +kernel)) <|
  zq_cons (zq_s_if_ne (off := 12) (by decide +kernel) (by decide)) <|
  zq_cons (zq_s_iload (by decide +kernel)) <|
  zq_cons (zq_s_iconst (n := 1) (by decide +kernel) (by decide +kernel)) <|
  zq_cons (zq_s_iload (by decide +kernel)) <|
  zq_cons (zq_s_ishl (by decide +kernel)) <|
  zq_cons (zq_s_ior (by decide +kernel)) <|
  zq_cons (zq_s_istore (by decide +kernel) (by decide +kernel)) <|
  zq_cons (zq_s_iinc (n := 1) (by decide +kernel) (by decide +kernel) (by decide +kernel)) <|
  zq_cons (zq_s_goto (off := (-38)) (by decide +kernel) (by decide)) <|
  zq_cons (zq_s_iload (by decide +kernel)) <|
  zq_cons (⟨rfl, (by decide +kernel)⟩) <|
  zq_nil
def zc_X7_aloneBehind : List (Nat × zq_It) := zc_X7_aloneBehind_0 ++ (zc_X7_aloneBehind_1)
theorem zk_X7_aloneBehind : zq_oks zi_X7_aloneBehind zc_X7_aloneBehind := zq_app zk_X7_aloneBehind_0 (zk_X7_aloneBehind_1)
def zc_X7_hoursAlone : List (Nat × zq_It) := [(0, .inl (zq_push 1 (.int 0))), (1, .inl (zq_is 2 2)), (2, .inl (zq_push 3 (.int 0))), (3, .inl (zq_is 4 3)), (4, .inl (zq_il 5 3)), (5, .inl (zq_push 7 (.int 24))), (7, .inl (zq_ic_ge 10 28)), (10, .inl (zq_il 11 2)), (11, .inl (zq_al 12 0)), (12, .inl (zq_il 13 3)), (13, .inr (.inl (2, .inr [(6, zn_X7_aloneBehind)]))), (16, .inl (zq_il 17 1)), (17, .inl (zq_i2 18 (fun x y => x >>> (y &&& 31)))), (18, .inl (zq_push 19 (.int 1))), (19, .inl (zq_i2 20 (fun x y => x &&& y))), (20, .inl (zq_i2 21 (fun x y => x + y))), (21, .inl (zq_is 22 2)), (22, .inl (zq_inc 25 3 1)), (25, .inl (zq_goto 4)), (28, .inl (zq_il 29 2)), (29, .inr (.inr 1))]
theorem zk_X7_hoursAlone : zq_oks zi_X7_hoursAlone zc_X7_hoursAlone := zq_cons (zq_s_iconst (n := 0) (by decide +kernel) (by decide +kernel)) <|
  zq_cons (zq_s_istore_n (n := 2) (by decide +kernel) rfl (by decide +kernel)) <|
  zq_cons (zq_s_iconst (n := 0) (by decide +kernel) (by decide +kernel)) <|
  zq_cons (zq_s_istore_n (n := 3) (by decide +kernel) rfl (by decide +kernel)) <|
  zq_cons (zq_s_iload_n (n := 3) (by decide +kernel) rfl) <|
  zq_cons (zq_s_bipush (n := 24) (by decide +kernel) (by decide +kernel)) <|
  zq_cons (zq_s_ic_ge (off := 21) (by decide +kernel) (by decide)) <|
  zq_cons (zq_s_iload_n (n := 2) (by decide +kernel) rfl) <|
  zq_cons (zq_s_aload_n (n := 0) (by decide +kernel) rfl) <|
  zq_cons (zq_s_iload_n (n := 3) (by decide +kernel) rfl) <|
  zq_cons (List.forall_mem_cons.mpr ⟨⟨zi_X7_aloneBehind, rfl, zq_s_callV (n := 1) (index := 131) (by decide +kernel) rfl zw_663 zw_648 zw_649 zw_89 zw_650 (by decide +kernel) (by decide +kernel) ⟨rfl, rfl⟩⟩, fun _ h => absurd h List.not_mem_nil⟩) <|
  zq_cons (zq_s_iload_n (n := 1) (by decide +kernel) rfl) <|
  zq_cons (zq_s_ishr (by decide +kernel)) <|
  zq_cons (zq_s_iconst (n := 1) (by decide +kernel) (by decide +kernel)) <|
  zq_cons (zq_s_iand (by decide +kernel)) <|
  zq_cons (zq_s_iadd (by decide +kernel)) <|
  zq_cons (zq_s_istore_n (n := 2) (by decide +kernel) rfl (by decide +kernel)) <|
  zq_cons (zq_s_iinc (n := 1) (by decide +kernel) (by decide +kernel) (by decide +kernel)) <|
  zq_cons (zq_s_goto (off := (-21)) (by decide +kernel) (by decide)) <|
  zq_cons (zq_s_iload_n (n := 2) (by decide +kernel) rfl) <|
  zq_cons (⟨rfl, (by decide +kernel)⟩) <|
  zq_nil
def zc_X7_mostIn : List (Nat × zq_It) := [(0, .inl (zq_push 1 (.int 0))), (1, .inl (zq_is 2 2)), (2, .inl (zq_push 3 (.int 0))), (3, .inl (zq_is 4 3)), (4, .inl (zq_il 5 3)), (5, .inl (zq_push 7 (.int 8))), (7, .inl (zq_ic_ge 10 30)), (10, .inl (zq_il 11 2)), (11, .inl (zq_al 12 0)), (12, .inl (zq_il 13 1)), (13, .inl (zq_il 14 3)), (14, .inr (.inl (3, .inr [(6, zn_X7_whoIn)]))), (17, .inr (.inl (1, .inl zn_J6_bitCount_0f7a4))), (20, .inl (zq_mm 23 (fun x y => if x < y then y else x))), (23, .inl (zq_is 24 2)), (24, .inl (zq_inc 27 3 1)), (27, .inl (zq_goto 4)), (30, .inl (zq_il 31 2)), (31, .inr (.inr 1))]
theorem zk_X7_mostIn : zq_oks zi_X7_mostIn zc_X7_mostIn := zq_cons (zq_s_iconst (n := 0) (by decide +kernel) (by decide +kernel)) <|
  zq_cons (zq_s_istore_n (n := 2) (by decide +kernel) rfl (by decide +kernel)) <|
  zq_cons (zq_s_iconst (n := 0) (by decide +kernel) (by decide +kernel)) <|
  zq_cons (zq_s_istore_n (n := 3) (by decide +kernel) rfl (by decide +kernel)) <|
  zq_cons (zq_s_iload_n (n := 3) (by decide +kernel) rfl) <|
  zq_cons (zq_s_bipush (n := 8) (by decide +kernel) (by decide +kernel)) <|
  zq_cons (zq_s_ic_ge (off := 23) (by decide +kernel) (by decide)) <|
  zq_cons (zq_s_iload_n (n := 2) (by decide +kernel) rfl) <|
  zq_cons (zq_s_aload_n (n := 0) (by decide +kernel) rfl) <|
  zq_cons (zq_s_iload_n (n := 1) (by decide +kernel) rfl) <|
  zq_cons (zq_s_iload_n (n := 3) (by decide +kernel) rfl) <|
  zq_cons (List.forall_mem_cons.mpr ⟨⟨zi_X7_whoIn, rfl, zq_s_callV (n := 2) (index := 128) (by decide +kernel) rfl zw_605 zw_582 zw_583 zw_89 zw_584 (by decide +kernel) (by decide +kernel) ⟨rfl, rfl⟩⟩, fun _ h => absurd h List.not_mem_nil⟩) <|
  zq_cons (⟨zi_J6_bitCount_0f7a4, rfl, zq_s_callS (n := 1) (index := 134) (by decide +kernel) zw_632 zw_633 zw_92 zw_634 (by decide +kernel) (by decide +kernel) ⟨rfl, rfl⟩⟩) <|
  zq_cons (zq_s_mmax (index := 139) (by decide +kernel) zw_638 zw_115 zw_83 zw_116 (by decide) (by decide)) <|
  zq_cons (zq_s_istore_n (n := 2) (by decide +kernel) rfl (by decide +kernel)) <|
  zq_cons (zq_s_iinc (n := 1) (by decide +kernel) (by decide +kernel) (by decide +kernel)) <|
  zq_cons (zq_s_goto (off := (-23)) (by decide +kernel) (by decide)) <|
  zq_cons (zq_s_iload_n (n := 2) (by decide +kernel) rfl) <|
  zq_cons (⟨rfl, (by decide +kernel)⟩) <|
  zq_nil
def zc_X7_firstRoomOf : List (Nat × zq_It) := [(0, .inl (zq_push 1 (.int 0))), (1, .inl (zq_is 2 3)), (2, .inl (zq_il 3 3)), (3, .inl (zq_push 5 (.int 8))), (5, .inl (zq_ic_ge 8 29)), (8, .inl (zq_al 9 0)), (9, .inl (zq_il 10 1)), (10, .inl (zq_il 11 3)), (11, .inr (.inl (3, .inr [(6, zn_X7_whoIn)]))), (14, .inr (.inl (1, .inl zn_J6_bitCount_0f7a4))), (17, .inl (zq_il 18 2)), (18, .inl (zq_ic_ne 21 23)), (21, .inl (zq_il 22 3)), (22, .inr (.inr 1)), (23, .inl (zq_inc 26 3 1)), (26, .inl (zq_goto 2)), (29, .inl (zq_push 30 (.int (-1)))), (30, .inr (.inr 1))]
theorem zk_X7_firstRoomOf : zq_oks zi_X7_firstRoomOf zc_X7_firstRoomOf := zq_cons (zq_s_iconst (n := 0) (by decide +kernel) (by decide +kernel)) <|
  zq_cons (zq_s_istore_n (n := 3) (by decide +kernel) rfl (by decide +kernel)) <|
  zq_cons (zq_s_iload_n (n := 3) (by decide +kernel) rfl) <|
  zq_cons (zq_s_bipush (n := 8) (by decide +kernel) (by decide +kernel)) <|
  zq_cons (zq_s_ic_ge (off := 24) (by decide +kernel) (by decide)) <|
  zq_cons (zq_s_aload_n (n := 0) (by decide +kernel) rfl) <|
  zq_cons (zq_s_iload_n (n := 1) (by decide +kernel) rfl) <|
  zq_cons (zq_s_iload_n (n := 3) (by decide +kernel) rfl) <|
  zq_cons (List.forall_mem_cons.mpr ⟨⟨zi_X7_whoIn, rfl, zq_s_callV (n := 2) (index := 128) (by decide +kernel) rfl zw_605 zw_582 zw_583 zw_89 zw_584 (by decide +kernel) (by decide +kernel) ⟨rfl, rfl⟩⟩, fun _ h => absurd h List.not_mem_nil⟩) <|
  zq_cons (⟨zi_J6_bitCount_0f7a4, rfl, zq_s_callS (n := 1) (index := 134) (by decide +kernel) zw_632 zw_633 zw_92 zw_634 (by decide +kernel) (by decide +kernel) ⟨rfl, rfl⟩⟩) <|
  zq_cons (zq_s_iload_n (n := 2) (by decide +kernel) rfl) <|
  zq_cons (zq_s_ic_ne (off := 5) (by decide +kernel) (by decide)) <|
  zq_cons (zq_s_iload_n (n := 3) (by decide +kernel) rfl) <|
  zq_cons (⟨rfl, (by decide +kernel)⟩) <|
  zq_cons (zq_s_iinc (n := 1) (by decide +kernel) (by decide +kernel) (by decide +kernel)) <|
  zq_cons (zq_s_goto (off := (-24)) (by decide +kernel) (by decide)) <|
  zq_cons (zq_s_iconst (n := (-1)) (by decide +kernel) (by decide +kernel)) <|
  zq_cons (⟨rfl, (by decide +kernel)⟩) <|
  zq_nil
def zc_X7_findingHour : List (Nat × zq_It) := [(0, .inl (zq_push 1 (.int 0))), (1, .inl (zq_is 2 1)), (2, .inl (zq_il 3 1)), (3, .inl (zq_push 5 (.int 24))), (5, .inl (zq_ic_ge 8 25)), (8, .inl (zq_al 9 0)), (9, .inl (zq_il 10 1)), (10, .inr (.inl (2, .inr [(6, zn_X7_finder)]))), (13, .inl (zq_push 14 (.int (-1)))), (14, .inl (zq_ic_eq 17 19)), (17, .inl (zq_il 18 1)), (18, .inr (.inr 1)), (19, .inl (zq_inc 22 1 1)), (22, .inl (zq_goto 2)), (25, .inl (zq_push 26 (.int (-1)))), (26, .inr (.inr 1))]
theorem zk_X7_findingHour : zq_oks zi_X7_findingHour zc_X7_findingHour := zq_cons (zq_s_iconst (n := 0) (by decide +kernel) (by decide +kernel)) <|
  zq_cons (zq_s_istore_n (n := 1) (by decide +kernel) rfl (by decide +kernel)) <|
  zq_cons (zq_s_iload_n (n := 1) (by decide +kernel) rfl) <|
  zq_cons (zq_s_bipush (n := 24) (by decide +kernel) (by decide +kernel)) <|
  zq_cons (zq_s_ic_ge (off := 20) (by decide +kernel) (by decide)) <|
  zq_cons (zq_s_aload_n (n := 0) (by decide +kernel) rfl) <|
  zq_cons (zq_s_iload_n (n := 1) (by decide +kernel) rfl) <|
  zq_cons (List.forall_mem_cons.mpr ⟨⟨zi_X7_finder, rfl, zq_s_callV (n := 1) (index := 142) (by decide +kernel) rfl zw_614 zw_615 zw_616 zw_89 zw_617 (by decide +kernel) (by decide +kernel) ⟨rfl, rfl⟩⟩, fun _ h => absurd h List.not_mem_nil⟩) <|
  zq_cons (zq_s_iconst (n := (-1)) (by decide +kernel) (by decide +kernel)) <|
  zq_cons (zq_s_ic_eq (off := 5) (by decide +kernel) (by decide)) <|
  zq_cons (zq_s_iload_n (n := 1) (by decide +kernel) rfl) <|
  zq_cons (⟨rfl, (by decide +kernel)⟩) <|
  zq_cons (zq_s_iinc (n := 1) (by decide +kernel) (by decide +kernel) (by decide +kernel)) <|
  zq_cons (zq_s_goto (off := (-20)) (by decide +kernel) (by decide)) <|
  zq_cons (zq_s_iconst (n := (-1)) (by decide +kernel) (by decide +kernel)) <|
  zq_cons (⟨rfl, (by decide +kernel)⟩) <|
  zq_nil
def zc_X7_finder : List (Nat × zq_It) := [(0, .inl (zq_push 1 (.int 0))), (1, .inl (zq_is 2 2)), (2, .inl (zq_il 3 2)), (3, .inl (zq_al 4 0)), (4, .inl (zq_getf 7 [(6, 1)])), (7, .inl (zq_getf 10 [(3, 5)])), (10, .inl (zq_ic_ge 13 40)), (13, .inl (zq_al 14 0)), (14, .inl (zq_il 15 2)), (15, .inr (.inl (2, .inr [(6, zn_X7_sortOf)]))), (18, .inl (zq_push 19 (.int 2))), (19, .inl (zq_ic_ne 22 34)), (22, .inl (zq_al 23 0)), (23, .inl (zq_il 24 1)), (24, .inl (zq_il 25 2)), (25, .inr (.inl (3, .inr [(6, zn_X7_childWith)]))), (28, .inl (zq_push 29 (.int (-1)))), (29, .inl (zq_ic_eq 32 34)), (32, .inl (zq_il 33 2)), (33, .inr (.inr 1)), (34, .inl (zq_inc 37 2 1)), (37, .inl (zq_goto 2)), (40, .inl (zq_push 41 (.int (-1)))), (41, .inr (.inr 1))]
theorem zk_X7_finder : zq_oks zi_X7_finder zc_X7_finder := zq_cons (zq_s_iconst (n := 0) (by decide +kernel) (by decide +kernel)) <|
  zq_cons (zq_s_istore_n (n := 2) (by decide +kernel) rfl (by decide +kernel)) <|
  zq_cons (zq_s_iload_n (n := 2) (by decide +kernel) rfl) <|
  zq_cons (zq_s_aload_n (n := 0) (by decide +kernel) rfl) <|
  zq_cons (zq_s_getf (index := 34) (by decide +kernel) zf_X7_34) <|
  zq_cons (zq_s_getf (index := 70) (by decide +kernel) zf_X7_70) <|
  zq_cons (zq_s_ic_ge (off := 30) (by decide +kernel) (by decide)) <|
  zq_cons (zq_s_aload_n (n := 0) (by decide +kernel) rfl) <|
  zq_cons (zq_s_iload_n (n := 2) (by decide +kernel) rfl) <|
  zq_cons (List.forall_mem_cons.mpr ⟨⟨zi_X7_sortOf, rfl, zq_s_callV (n := 1) (index := 75) (by decide +kernel) rfl zw_556 zw_558 zw_9 zw_89 zw_559 (by decide +kernel) (by decide +kernel) ⟨rfl, rfl⟩⟩, fun _ h => absurd h List.not_mem_nil⟩) <|
  zq_cons (zq_s_iconst (n := 2) (by decide +kernel) (by decide +kernel)) <|
  zq_cons (zq_s_ic_ne (off := 15) (by decide +kernel) (by decide)) <|
  zq_cons (zq_s_aload_n (n := 0) (by decide +kernel) rfl) <|
  zq_cons (zq_s_iload_n (n := 1) (by decide +kernel) rfl) <|
  zq_cons (zq_s_iload_n (n := 2) (by decide +kernel) rfl) <|
  zq_cons (List.forall_mem_cons.mpr ⟨⟨zi_X7_childWith, rfl, zq_s_callV (n := 2) (index := 145) (by decide +kernel) rfl zw_618 zw_619 zw_620 zw_89 zw_621 (by decide +kernel) (by decide +kernel) ⟨rfl, rfl⟩⟩, fun _ h => absurd h List.not_mem_nil⟩) <|
  zq_cons (zq_s_iconst (n := (-1)) (by decide +kernel) (by decide +kernel)) <|
  zq_cons (zq_s_ic_eq (off := 5) (by decide +kernel) (by decide)) <|
  zq_cons (zq_s_iload_n (n := 2) (by decide +kernel) rfl) <|
  zq_cons (⟨rfl, (by decide +kernel)⟩) <|
  zq_cons (zq_s_iinc (n := 1) (by decide +kernel) (by decide +kernel) (by decide +kernel)) <|
  zq_cons (zq_s_goto (off := (-35)) (by decide +kernel) (by decide)) <|
  zq_cons (zq_s_iconst (n := (-1)) (by decide +kernel) (by decide +kernel)) <|
  zq_cons (⟨rfl, (by decide +kernel)⟩) <|
  zq_nil
def zc_X7_childWith : List (Nat × zq_It) := [(0, .inl (zq_push 1 (.int 0))), (1, .inl (zq_is 2 3)), (2, .inl (zq_il 3 3)), (3, .inl (zq_al 4 0)), (4, .inl (zq_getf 7 [(6, 1)])), (7, .inl (zq_getf 10 [(3, 5)])), (10, .inl (zq_ic_ge 13 45)), (13, .inl (zq_al 14 0)), (14, .inl (zq_il 15 3)), (15, .inr (.inl (2, .inr [(6, zn_X7_sortOf)]))), (18, .inl (zq_push 19 (.int 1))), (19, .inl (zq_ic_ne 22 39)), (22, .inl (zq_al 23 0)), (23, .inl (zq_il 24 1)), (24, .inl (zq_il 25 3)), (25, .inr (.inl (3, .inr [(6, zn_X7_roomOf)]))), (28, .inl (zq_al 29 0)), (29, .inl (zq_il 30 1)), (30, .inl (zq_il 31 2)), (31, .inr (.inl (3, .inr [(6, zn_X7_roomOf)]))), (34, .inl (zq_ic_ne 37 39)), (37, .inl (zq_il 38 3)), (38, .inr (.inr 1)), (39, .inl (zq_inc 42 3 1)), (42, .inl (zq_goto 2)), (45, .inl (zq_push 46 (.int (-1)))), (46, .inr (.inr 1))]
theorem zk_X7_childWith : zq_oks zi_X7_childWith zc_X7_childWith := zq_cons (zq_s_iconst (n := 0) (by decide +kernel) (by decide +kernel)) <|
  zq_cons (zq_s_istore_n (n := 3) (by decide +kernel) rfl (by decide +kernel)) <|
  zq_cons (zq_s_iload_n (n := 3) (by decide +kernel) rfl) <|
  zq_cons (zq_s_aload_n (n := 0) (by decide +kernel) rfl) <|
  zq_cons (zq_s_getf (index := 34) (by decide +kernel) zf_X7_34) <|
  zq_cons (zq_s_getf (index := 70) (by decide +kernel) zf_X7_70) <|
  zq_cons (zq_s_ic_ge (off := 35) (by decide +kernel) (by decide)) <|
  zq_cons (zq_s_aload_n (n := 0) (by decide +kernel) rfl) <|
  zq_cons (zq_s_iload_n (n := 3) (by decide +kernel) rfl) <|
  zq_cons (List.forall_mem_cons.mpr ⟨⟨zi_X7_sortOf, rfl, zq_s_callV (n := 1) (index := 75) (by decide +kernel) rfl zw_556 zw_558 zw_9 zw_89 zw_559 (by decide +kernel) (by decide +kernel) ⟨rfl, rfl⟩⟩, fun _ h => absurd h List.not_mem_nil⟩) <|
  zq_cons (zq_s_iconst (n := 1) (by decide +kernel) (by decide +kernel)) <|
  zq_cons (zq_s_ic_ne (off := 20) (by decide +kernel) (by decide)) <|
  zq_cons (zq_s_aload_n (n := 0) (by decide +kernel) rfl) <|
  zq_cons (zq_s_iload_n (n := 1) (by decide +kernel) rfl) <|
  zq_cons (zq_s_iload_n (n := 3) (by decide +kernel) rfl) <|
  zq_cons (List.forall_mem_cons.mpr ⟨⟨zi_X7_roomOf, rfl, zq_s_callV (n := 2) (index := 119) (by decide +kernel) rfl zw_569 zw_570 zw_571 zw_89 zw_572 (by decide +kernel) (by decide +kernel) ⟨rfl, rfl⟩⟩, fun _ h => absurd h List.not_mem_nil⟩) <|
  zq_cons (zq_s_aload_n (n := 0) (by decide +kernel) rfl) <|
  zq_cons (zq_s_iload_n (n := 1) (by decide +kernel) rfl) <|
  zq_cons (zq_s_iload_n (n := 2) (by decide +kernel) rfl) <|
  zq_cons (List.forall_mem_cons.mpr ⟨⟨zi_X7_roomOf, rfl, zq_s_callV (n := 2) (index := 119) (by decide +kernel) rfl zw_569 zw_570 zw_571 zw_89 zw_572 (by decide +kernel) (by decide +kernel) ⟨rfl, rfl⟩⟩, fun _ h => absurd h List.not_mem_nil⟩) <|
  zq_cons (zq_s_ic_ne (off := 5) (by decide +kernel) (by decide)) <|
  zq_cons (zq_s_iload_n (n := 3) (by decide +kernel) rfl) <|
  zq_cons (⟨rfl, (by decide +kernel)⟩) <|
  zq_cons (zq_s_iinc (n := 1) (by decide +kernel) (by decide +kernel) (by decide +kernel)) <|
  zq_cons (zq_s_goto (off := (-40)) (by decide +kernel) (by decide)) <|
  zq_cons (zq_s_iconst (n := (-1)) (by decide +kernel) (by decide +kernel)) <|
  zq_cons (⟨rfl, (by decide +kernel)⟩) <|
  zq_nil
def zc_X8_type : List (Nat × zq_It) := [(0, .inl (zq_al 1 0)), (1, .inl (zq_il 2 1)), (2, .inr (.inl (2, .inr [(7, zn_X8_textOf)]))), (5, .inl (zq_as 6 3)), (6, .inl (zq_al 7 3)), (7, .inl (zq_ifnull 10 21)), (10, .inl (zq_il 11 2)), (11, .inl (zq_push 12 (.int 0))), (12, .inl (zq_push 15 (.int 255))), (15, .inr (.inl (3, .inl zn_X8_within))), (18, .inl (zq_if_ne 21 24)), (21, .inl (zq_push 23 (.int (-2)))), (23, .inr (.inr 1)), (24, .inl (zq_al 25 3)), (25, .inr (.inl (1, .inr [(0, zn_X6_isFull), (3, zn_X6_isFull)]))), (28, .inl (zq_if_eq 31 34)), (31, .inl (zq_push 33 (.int (-4)))), (33, .inr (.inr 1)), (34, .inl (zq_al 35 3)), (35, .inl (zq_il 36 2)), (36, .inr (.inl (2, .inr [(0, zn_X6_add), (3, zn_X6_add)]))), (39, .inl (zq_al 40 0)), (40, .inr (.inl (1, .inr [(7, zn_X8_textChanged)]))), (43, .inl (zq_al 44 3)), (44, .inl (zq_getf 47 [(0, 3), (3, 3)])), (47, .inr (.inr 1))]
theorem zk_X8_type : zq_oks zi_X8_type zc_X8_type := zq_cons (zq_s_aload_n (n := 0) (by decide +kernel) rfl) <|
  zq_cons (zq_s_iload_n (n := 1) (by decide +kernel) rfl) <|
  zq_cons (List.forall_mem_cons.mpr ⟨⟨zi_X8_textOf, rfl, zq_s_callV (n := 1) (index := 94) (by decide +kernel) rfl zw_379 zw_381 zw_0 zw_80 zw_382 (by decide +kernel) (by decide +kernel) ⟨rfl, rfl⟩⟩, fun _ h => absurd h List.not_mem_nil⟩) <|
  zq_cons (zq_s_astore_n (n := 3) (by decide +kernel) rfl (by decide +kernel)) <|
  zq_cons (zq_s_aload_n (n := 3) (by decide +kernel) rfl) <|
  zq_cons (zq_s_ifnull (off := 14) (by decide +kernel) (by decide)) <|
  zq_cons (zq_s_iload_n (n := 2) (by decide +kernel) rfl) <|
  zq_cons (zq_s_iconst (n := 0) (by decide +kernel) (by decide +kernel)) <|
  zq_cons (zq_s_sipush (n := 255) (by decide +kernel) (by decide +kernel)) <|
  zq_cons (⟨zi_X8_within, rfl, zq_s_callS (n := 3) (index := 98) (by decide +kernel) zw_383 zw_384 zw_80 zw_385 (by decide +kernel) (by decide +kernel) ⟨rfl, rfl⟩⟩) <|
  zq_cons (zq_s_if_ne (off := 6) (by decide +kernel) (by decide)) <|
  zq_cons (zq_s_bipush (n := (-2)) (by decide +kernel) (by decide +kernel)) <|
  zq_cons (⟨rfl, (by decide +kernel)⟩) <|
  zq_cons (zq_s_aload_n (n := 3) (by decide +kernel) rfl) <|
  zq_cons (List.forall_mem_cons.mpr ⟨⟨zi_X6_isFull, rfl, zq_s_callU (owner := "DollsAhead$Text") (x := yX6_isFull) (n := 0) (index := 102) (by decide +kernel) rfl zw_386 zw_388 zw_389 zw_387 zw_81 zw_391 (Or.inl rfl) (by decide +kernel) (by decide +kernel) ⟨rfl, rfl⟩⟩, List.forall_mem_cons.mpr ⟨⟨zi_X6_isFull, rfl, zq_s_callU (owner := "DollsAhead$Text") (x := yX6_isFull) (n := 0) (index := 102) (by decide +kernel) rfl zw_386 zw_388 zw_390 zw_387 zw_81 zw_391 (Or.inl rfl) (by decide +kernel) (by decide +kernel) ⟨rfl, rfl⟩⟩, fun _ h => absurd h List.not_mem_nil⟩⟩) <|
  zq_cons (zq_s_if_eq (off := 6) (by decide +kernel) (by decide)) <|
  zq_cons (zq_s_bipush (n := (-4)) (by decide +kernel) (by decide +kernel)) <|
  zq_cons (⟨rfl, (by decide +kernel)⟩) <|
  zq_cons (zq_s_aload_n (n := 3) (by decide +kernel) rfl) <|
  zq_cons (zq_s_iload_n (n := 2) (by decide +kernel) rfl) <|
  zq_cons (List.forall_mem_cons.mpr ⟨⟨zi_X6_add, rfl, zq_s_callU (owner := "DollsAhead$Text") (x := yX6_add) (n := 1) (index := 108) (by decide +kernel) rfl zw_392 zw_394 zw_395 zw_393 zw_81 zw_397 (Or.inl rfl) (by decide +kernel) (by decide +kernel) ⟨rfl, rfl⟩⟩, List.forall_mem_cons.mpr ⟨⟨zi_X6_add, rfl, zq_s_callU (owner := "DollsAhead$Text") (x := yX6_add) (n := 1) (index := 108) (by decide +kernel) rfl zw_392 zw_394 zw_396 zw_393 zw_81 zw_397 (Or.inl rfl) (by decide +kernel) (by decide +kernel) ⟨rfl, rfl⟩⟩, fun _ h => absurd h List.not_mem_nil⟩⟩) <|
  zq_cons (zq_s_aload_n (n := 0) (by decide +kernel) rfl) <|
  zq_cons (List.forall_mem_cons.mpr ⟨⟨zi_X8_textChanged, rfl, zq_s_callV (n := 0) (index := 112) (by decide +kernel) rfl zw_447 zw_449 zw_2 zw_80 zw_450 (by decide +kernel) (by decide +kernel) ⟨rfl, rfl⟩⟩, fun _ h => absurd h List.not_mem_nil⟩) <|
  zq_cons (zq_s_aload_n (n := 3) (by decide +kernel) rfl) <|
  zq_cons (zq_s_getf (index := 115) (by decide +kernel) zf_X8_115) <|
  zq_cons (⟨rfl, (by decide +kernel)⟩) <|
  zq_nil
def zc_X8_wipe : List (Nat × zq_It) := [(0, .inl (zq_al 1 0)), (1, .inl (zq_il 2 1)), (2, .inr (.inl (2, .inr [(7, zn_X8_textOf)]))), (5, .inl (zq_as 6 2)), (6, .inl (zq_al 7 2)), (7, .inl (zq_ifnull 13 10)), (10, .inl (zq_push 12 (.int (-2)))), (12, .inr (.inr 1)), (13, .inl (zq_al 14 2)), (14, .inl (zq_getf 17 [(0, 3), (3, 3)])), (17, .inl (zq_is 18 3)), (18, .inl (zq_al 19 2)), (19, .inl (zq_push 20 (.int 0))), (20, .inr (.inl (2, .inr [(0, zn_X6_shorten), (3, zn_X6_shorten)]))), (23, .inl (zq_al 24 0)), (24, .inr (.inl (1, .inr [(7, zn_X8_textChanged)]))), (27, .inl (zq_il 28 3)), (28, .inr (.inr 1))]
theorem zk_X8_wipe : zq_oks zi_X8_wipe zc_X8_wipe := zq_cons (zq_s_aload_n (n := 0) (by decide +kernel) rfl) <|
  zq_cons (zq_s_iload_n (n := 1) (by decide +kernel) rfl) <|
  zq_cons (List.forall_mem_cons.mpr ⟨⟨zi_X8_textOf, rfl, zq_s_callV (n := 1) (index := 94) (by decide +kernel) rfl zw_379 zw_381 zw_0 zw_80 zw_382 (by decide +kernel) (by decide +kernel) ⟨rfl, rfl⟩⟩, fun _ h => absurd h List.not_mem_nil⟩) <|
  zq_cons (zq_s_astore_n (n := 2) (by decide +kernel) rfl (by decide +kernel)) <|
  zq_cons (zq_s_aload_n (n := 2) (by decide +kernel) rfl) <|
  zq_cons (zq_s_ifnonnull (off := 6) (by decide +kernel) (by decide)) <|
  zq_cons (zq_s_bipush (n := (-2)) (by decide +kernel) (by decide +kernel)) <|
  zq_cons (⟨rfl, (by decide +kernel)⟩) <|
  zq_cons (zq_s_aload_n (n := 2) (by decide +kernel) rfl) <|
  zq_cons (zq_s_getf (index := 115) (by decide +kernel) zf_X8_115) <|
  zq_cons (zq_s_istore_n (n := 3) (by decide +kernel) rfl (by decide +kernel)) <|
  zq_cons (zq_s_aload_n (n := 2) (by decide +kernel) rfl) <|
  zq_cons (zq_s_iconst (n := 0) (by decide +kernel) (by decide +kernel)) <|
  zq_cons (List.forall_mem_cons.mpr ⟨⟨zi_X6_shorten, rfl, zq_s_callU (owner := "DollsAhead$Text") (x := yX6_shorten) (n := 1) (index := 118) (by decide +kernel) rfl zw_463 zw_465 zw_466 zw_464 zw_81 zw_468 (Or.inl rfl) (by decide +kernel) (by decide +kernel) ⟨rfl, rfl⟩⟩, List.forall_mem_cons.mpr ⟨⟨zi_X6_shorten, rfl, zq_s_callU (owner := "DollsAhead$Text") (x := yX6_shorten) (n := 1) (index := 118) (by decide +kernel) rfl zw_463 zw_465 zw_467 zw_464 zw_81 zw_468 (Or.inl rfl) (by decide +kernel) (by decide +kernel) ⟨rfl, rfl⟩⟩, fun _ h => absurd h List.not_mem_nil⟩⟩) <|
  zq_cons (zq_s_aload_n (n := 0) (by decide +kernel) rfl) <|
  zq_cons (List.forall_mem_cons.mpr ⟨⟨zi_X8_textChanged, rfl, zq_s_callV (n := 0) (index := 112) (by decide +kernel) rfl zw_447 zw_449 zw_2 zw_80 zw_450 (by decide +kernel) (by decide +kernel) ⟨rfl, rfl⟩⟩, fun _ h => absurd h List.not_mem_nil⟩) <|
  zq_cons (zq_s_iload_n (n := 3) (by decide +kernel) rfl) <|
  zq_cons (⟨rfl, (by decide +kernel)⟩) <|
  zq_nil
def zc_X8_undo : List (Nat × zq_It) := [(0, .inl (zq_al 1 0)), (1, .inl (zq_il 2 1)), (2, .inr (.inl (2, .inr [(7, zn_X8_textOf)]))), (5, .inl (zq_as 6 2)), (6, .inl (zq_al 7 2)), (7, .inl (zq_ifnull 13 10)), (10, .inl (zq_push 12 (.int (-2)))), (12, .inr (.inr 1)), (13, .inl (zq_al 14 2)), (14, .inl (zq_getf 17 [(0, 3), (3, 3)])), (17, .inl (zq_if_ne 20 23)), (20, .inl (zq_push 22 (.int (-3)))), (22, .inr (.inr 1)), (23, .inl (zq_al 24 2)), (24, .inl (zq_al 25 2)), (25, .inl (zq_getf 28 [(0, 3), (3, 3)])), (28, .inl (zq_push 29 (.int 1))), (29, .inl (zq_i2 30 (fun x y => x - y))), (30, .inr (.inl (2, .inr [(0, zn_X6_shorten), (3, zn_X6_shorten)]))), (33, .inl (zq_al 34 0)), (34, .inr (.inl (1, .inr [(7, zn_X8_textChanged)]))), (37, .inl (zq_al 38 2)), (38, .inl (zq_getf 41 [(0, 3), (3, 3)])), (41, .inr (.inr 1))]
theorem zk_X8_undo : zq_oks zi_X8_undo zc_X8_undo := zq_cons (zq_s_aload_n (n := 0) (by decide +kernel) rfl) <|
  zq_cons (zq_s_iload_n (n := 1) (by decide +kernel) rfl) <|
  zq_cons (List.forall_mem_cons.mpr ⟨⟨zi_X8_textOf, rfl, zq_s_callV (n := 1) (index := 94) (by decide +kernel) rfl zw_379 zw_381 zw_0 zw_80 zw_382 (by decide +kernel) (by decide +kernel) ⟨rfl, rfl⟩⟩, fun _ h => absurd h List.not_mem_nil⟩) <|
  zq_cons (zq_s_astore_n (n := 2) (by decide +kernel) rfl (by decide +kernel)) <|
  zq_cons (zq_s_aload_n (n := 2) (by decide +kernel) rfl) <|
  zq_cons (zq_s_ifnonnull (off := 6) (by decide +kernel) (by decide)) <|
  zq_cons (zq_s_bipush (n := (-2)) (by decide +kernel) (by decide +kernel)) <|
  zq_cons (⟨rfl, (by decide +kernel)⟩) <|
  zq_cons (zq_s_aload_n (n := 2) (by decide +kernel) rfl) <|
  zq_cons (zq_s_getf (index := 115) (by decide +kernel) zf_X8_115) <|
  zq_cons (zq_s_if_ne (off := 6) (by decide +kernel) (by decide)) <|
  zq_cons (zq_s_bipush (n := (-3)) (by decide +kernel) (by decide +kernel)) <|
  zq_cons (⟨rfl, (by decide +kernel)⟩) <|
  zq_cons (zq_s_aload_n (n := 2) (by decide +kernel) rfl) <|
  zq_cons (zq_s_aload_n (n := 2) (by decide +kernel) rfl) <|
  zq_cons (zq_s_getf (index := 115) (by decide +kernel) zf_X8_115) <|
  zq_cons (zq_s_iconst (n := 1) (by decide +kernel) (by decide +kernel)) <|
  zq_cons (zq_s_isub (by decide +kernel)) <|
  zq_cons (List.forall_mem_cons.mpr ⟨⟨zi_X6_shorten, rfl, zq_s_callU (owner := "DollsAhead$Text") (x := yX6_shorten) (n := 1) (index := 118) (by decide +kernel) rfl zw_463 zw_465 zw_466 zw_464 zw_81 zw_468 (Or.inl rfl) (by decide +kernel) (by decide +kernel) ⟨rfl, rfl⟩⟩, List.forall_mem_cons.mpr ⟨⟨zi_X6_shorten, rfl, zq_s_callU (owner := "DollsAhead$Text") (x := yX6_shorten) (n := 1) (index := 118) (by decide +kernel) rfl zw_463 zw_465 zw_467 zw_464 zw_81 zw_468 (Or.inl rfl) (by decide +kernel) (by decide +kernel) ⟨rfl, rfl⟩⟩, fun _ h => absurd h List.not_mem_nil⟩⟩) <|
  zq_cons (zq_s_aload_n (n := 0) (by decide +kernel) rfl) <|
  zq_cons (List.forall_mem_cons.mpr ⟨⟨zi_X8_textChanged, rfl, zq_s_callV (n := 0) (index := 112) (by decide +kernel) rfl zw_447 zw_449 zw_2 zw_80 zw_450 (by decide +kernel) (by decide +kernel) ⟨rfl, rfl⟩⟩, fun _ h => absurd h List.not_mem_nil⟩) <|
  zq_cons (zq_s_aload_n (n := 2) (by decide +kernel) rfl) <|
  zq_cons (zq_s_getf (index := 115) (by decide +kernel) zf_X8_115) <|
  zq_cons (⟨rfl, (by decide +kernel)⟩) <|
  zq_nil
def zc_X8_fault : List (Nat × zq_It) := [(0, .inl (zq_al 1 0)), (1, .inl (zq_il 2 1)), (2, .inr (.inl (2, .inr [(7, zn_X8_textOf)]))), (5, .inl (zq_as 6 2)), (6, .inl (zq_al 7 2)), (7, .inl (zq_ifnull 15 10)), (10, .inl (zq_push 12 (.int (-2)))), (12, .inl (zq_goto 19)), (15, .inl (zq_al 16 2)), (16, .inl (zq_getf 19 [(0, 4), (3, 4)])), (19, .inr (.inr 1))]
theorem zk_X8_fault : zq_oks zi_X8_fault zc_X8_fault := zq_cons (zq_s_aload_n (n := 0) (by decide +kernel) rfl) <|
  zq_cons (zq_s_iload_n (n := 1) (by decide +kernel) rfl) <|
  zq_cons (List.forall_mem_cons.mpr ⟨⟨zi_X8_textOf, rfl, zq_s_callV (n := 1) (index := 94) (by decide +kernel) rfl zw_379 zw_381 zw_0 zw_80 zw_382 (by decide +kernel) (by decide +kernel) ⟨rfl, rfl⟩⟩, fun _ h => absurd h List.not_mem_nil⟩) <|
  zq_cons (zq_s_astore_n (n := 2) (by decide +kernel) rfl (by decide +kernel)) <|
  zq_cons (zq_s_aload_n (n := 2) (by decide +kernel) rfl) <|
  zq_cons (zq_s_ifnonnull (off := 8) (by decide +kernel) (by decide)) <|
  zq_cons (zq_s_bipush (n := (-2)) (by decide +kernel) (by decide +kernel)) <|
  zq_cons (zq_s_goto (off := 7) (by decide +kernel) (by decide)) <|
  zq_cons (zq_s_aload_n (n := 2) (by decide +kernel) rfl) <|
  zq_cons (zq_s_getf (index := 121) (by decide +kernel) zf_X8_121) <|
  zq_cons (⟨rfl, (by decide +kernel)⟩) <|
  zq_nil
def zc_X8_door : List (Nat × zq_It) := [(0, .inl (zq_il 1 1)), (1, .inl (zq_push 2 (.int 0))), (2, .inl (zq_al 3 0)), (3, .inl (zq_getf 6 [(7, 0)])), (6, .inl (zq_getf 9 [(0, 5)])), (9, .inl (zq_push 10 (.int 1))), (10, .inl (zq_i2 11 (fun x y => x - y))), (11, .inr (.inl (3, .inl zn_X8_within))), (14, .inl (zq_if_eq 17 26)), (17, .inl (zq_il 18 2)), (18, .inl (zq_push 19 (.int 0))), (19, .inl (zq_push 20 (.int 1))), (20, .inr (.inl (3, .inl zn_X8_within))), (23, .inl (zq_if_ne 26 29)), (26, .inl (zq_push 28 (.int (-2)))), (28, .inr (.inr 1)), (29, .inl (zq_il 30 2)), (30, .inl (zq_if_ne 33 45)), (33, .inl (zq_al 34 0)), (34, .inl (zq_getf 37 [(7, 0)])), (37, .inl (zq_getf 40 [(0, 6)])), (40, .inl (zq_il 41 1)), (41, .inl (zq_iald 42)), (42, .inl (zq_goto 54)), (45, .inl (zq_al 46 0)), (46, .inl (zq_getf 49 [(7, 0)])), (49, .inl (zq_getf 52 [(0, 7)])), (52, .inl (zq_il 53 1)), (53, .inl (zq_iald 54)), (54, .inr (.inr 1))]
theorem zk_X8_door : zq_oks zi_X8_door zc_X8_door := zq_cons (zq_s_iload_n (n := 1) (by decide +kernel) rfl) <|
  zq_cons (zq_s_iconst (n := 0) (by decide +kernel) (by decide +kernel)) <|
  zq_cons (zq_s_aload_n (n := 0) (by decide +kernel) rfl) <|
  zq_cons (zq_s_getf (index := 10) (by decide +kernel) zf_X8_10) <|
  zq_cons (zq_s_getf (index := 124) (by decide +kernel) zf_X8_124) <|
  zq_cons (zq_s_iconst (n := 1) (by decide +kernel) (by decide +kernel)) <|
  zq_cons (zq_s_isub (by decide +kernel)) <|
  zq_cons (⟨zi_X8_within, rfl, zq_s_callS (n := 3) (index := 98) (by decide +kernel) zw_383 zw_384 zw_80 zw_385 (by decide +kernel) (by decide +kernel) ⟨rfl, rfl⟩⟩) <|
  zq_cons (zq_s_if_eq (off := 12) (by decide +kernel) (by decide)) <|
  zq_cons (zq_s_iload_n (n := 2) (by decide +kernel) rfl) <|
  zq_cons (zq_s_iconst (n := 0) (by decide +kernel) (by decide +kernel)) <|
  zq_cons (zq_s_iconst (n := 1) (by decide +kernel) (by decide +kernel)) <|
  zq_cons (⟨zi_X8_within, rfl, zq_s_callS (n := 3) (index := 98) (by decide +kernel) zw_383 zw_384 zw_80 zw_385 (by decide +kernel) (by decide +kernel) ⟨rfl, rfl⟩⟩) <|
  zq_cons (zq_s_if_ne (off := 6) (by decide +kernel) (by decide)) <|
  zq_cons (zq_s_bipush (n := (-2)) (by decide +kernel) (by decide +kernel)) <|
  zq_cons (⟨rfl, (by decide +kernel)⟩) <|
  zq_cons (zq_s_iload_n (n := 2) (by decide +kernel) rfl) <|
  zq_cons (zq_s_if_ne (off := 15) (by decide +kernel) (by decide)) <|
  zq_cons (zq_s_aload_n (n := 0) (by decide +kernel) rfl) <|
  zq_cons (zq_s_getf (index := 10) (by decide +kernel) zf_X8_10) <|
  zq_cons (zq_s_getf (index := 127) (by decide +kernel) zf_X8_127) <|
  zq_cons (zq_s_iload_n (n := 1) (by decide +kernel) rfl) <|
  zq_cons (zq_s_iald (by decide +kernel)) <|
  zq_cons (zq_s_goto (off := 12) (by decide +kernel) (by decide)) <|
  zq_cons (zq_s_aload_n (n := 0) (by decide +kernel) rfl) <|
  zq_cons (zq_s_getf (index := 10) (by decide +kernel) zf_X8_10) <|
  zq_cons (zq_s_getf (index := 130) (by decide +kernel) zf_X8_130) <|
  zq_cons (zq_s_iload_n (n := 1) (by decide +kernel) rfl) <|
  zq_cons (zq_s_iald (by decide +kernel)) <|
  zq_cons (⟨rfl, (by decide +kernel)⟩) <|
  zq_nil
def zc_X8_person : List (Nat × zq_It) := [(0, .inl (zq_al 1 0)), (1, .inl (zq_il 2 1)), (2, .inr (.inl (2, .inr [(7, zn_X8_isPerson)]))), (5, .inl (zq_if_eq 8 17)), (8, .inl (zq_il 9 2)), (9, .inl (zq_push 10 (.int 0))), (10, .inl (zq_push 11 (.int 2))), (11, .inr (.inl (3, .inl zn_X8_within))), (14, .inl (zq_if_ne 17 20)), (17, .inl (zq_push 19 (.int (-2)))), (19, .inr (.inr 1)), (20, .inl (zq_il 21 2)), (21, .inl (zq_if_ne 24 34)), (24, .inl (zq_al 25 0)), (25, .inl (zq_getf 28 [(7, 1)])), (28, .inl (zq_getf 31 [(3, 6)])), (31, .inl (zq_il 32 1)), (32, .inl (zq_iald 33)), (33, .inr (.inr 1)), (34, .inl (zq_il 35 2)), (35, .inl (zq_push 36 (.int 1))), (36, .inl (zq_ic_ne 39 51)), (39, .inl (zq_al 40 0)), (40, .inl (zq_getf 43 [(7, 1)])), (43, .inl (zq_getf 46 [(3, 7)])), (46, .inl (zq_il 47 1)), (47, .inl (zq_iald 48)), (48, .inl (zq_goto 60)), (51, .inl (zq_al 52 0)), (52, .inl (zq_getf 55 [(7, 1)])), (55, .inl (zq_getf 58 [(3, 8)])), (58, .inl (zq_il 59 1)), (59, .inl (zq_iald 60)), (60, .inr (.inr 1))]
theorem zk_X8_person : zq_oks zi_X8_person zc_X8_person := zq_cons (zq_s_aload_n (n := 0) (by decide +kernel) rfl) <|
  zq_cons (zq_s_iload_n (n := 1) (by decide +kernel) rfl) <|
  zq_cons (List.forall_mem_cons.mpr ⟨⟨zi_X8_isPerson, rfl, zq_s_callV (n := 1) (index := 133) (by decide +kernel) rfl zw_485 zw_487 zw_4 zw_80 zw_488 (by decide +kernel) (by decide +kernel) ⟨rfl, rfl⟩⟩, fun _ h => absurd h List.not_mem_nil⟩) <|
  zq_cons (zq_s_if_eq (off := 12) (by decide +kernel) (by decide)) <|
  zq_cons (zq_s_iload_n (n := 2) (by decide +kernel) rfl) <|
  zq_cons (zq_s_iconst (n := 0) (by decide +kernel) (by decide +kernel)) <|
  zq_cons (zq_s_iconst (n := 2) (by decide +kernel) (by decide +kernel)) <|
  zq_cons (⟨zi_X8_within, rfl, zq_s_callS (n := 3) (index := 98) (by decide +kernel) zw_383 zw_384 zw_80 zw_385 (by decide +kernel) (by decide +kernel) ⟨rfl, rfl⟩⟩) <|
  zq_cons (zq_s_if_ne (off := 6) (by decide +kernel) (by decide)) <|
  zq_cons (zq_s_bipush (n := (-2)) (by decide +kernel) (by decide +kernel)) <|
  zq_cons (⟨rfl, (by decide +kernel)⟩) <|
  zq_cons (zq_s_iload_n (n := 2) (by decide +kernel) rfl) <|
  zq_cons (zq_s_if_ne (off := 13) (by decide +kernel) (by decide)) <|
  zq_cons (zq_s_aload_n (n := 0) (by decide +kernel) rfl) <|
  zq_cons (zq_s_getf (index := 19) (by decide +kernel) zf_X8_19) <|
  zq_cons (zq_s_getf (index := 137) (by decide +kernel) zf_X8_137) <|
  zq_cons (zq_s_iload_n (n := 1) (by decide +kernel) rfl) <|
  zq_cons (zq_s_iald (by decide +kernel)) <|
  zq_cons (⟨rfl, (by decide +kernel)⟩) <|
  zq_cons (zq_s_iload_n (n := 2) (by decide +kernel) rfl) <|
  zq_cons (zq_s_iconst (n := 1) (by decide +kernel) (by decide +kernel)) <|
  zq_cons (zq_s_ic_ne (off := 15) (by decide +kernel) (by decide)) <|
  zq_cons (zq_s_aload_n (n := 0) (by decide +kernel) rfl) <|
  zq_cons (zq_s_getf (index := 19) (by decide +kernel) zf_X8_19) <|
  zq_cons (zq_s_getf (index := 140) (by decide +kernel) zf_X8_140) <|
  zq_cons (zq_s_iload_n (n := 1) (by decide +kernel) rfl) <|
  zq_cons (zq_s_iald (by decide +kernel)) <|
  zq_cons (zq_s_goto (off := 12) (by decide +kernel) (by decide)) <|
  zq_cons (zq_s_aload_n (n := 0) (by decide +kernel) rfl) <|
  zq_cons (zq_s_getf (index := 19) (by decide +kernel) zf_X8_19) <|
  zq_cons (zq_s_getf (index := 143) (by decide +kernel) zf_X8_143) <|
  zq_cons (zq_s_iload_n (n := 1) (by decide +kernel) rfl) <|
  zq_cons (zq_s_iald (by decide +kernel)) <|
  zq_cons (⟨rfl, (by decide +kernel)⟩) <|
  zq_nil
def zc_X8_ahead : List (Nat × zq_It) := [(0, .inl (zq_il 1 1)), (1, .inl (zq_push 2 (.int 1))), (2, .inl (zq_push 4 (.int 9))), (4, .inr (.inl (3, .inl zn_X8_within))), (7, .inl (zq_if_ne 10 13)), (10, .inl (zq_push 12 (.int (-2)))), (12, .inr (.inr 1)), (13, .inl (zq_al 14 0)), (14, .inl (zq_getf 17 [(7, 12)])), (17, .inl (zq_is 18 2)), (18, .inl (zq_al 19 0)), (19, .inl (zq_il 20 1)), (20, .inl (zq_puti 23 false [(7, 12)])), (23, .inl (zq_al 24 0)), (24, .inr (.inl (1, .inr [(7, zn_X8_changed)]))), (27, .inl (zq_il 28 2)), (28, .inr (.inr 1))]
theorem zk_X8_ahead : zq_oks zi_X8_ahead zc_X8_ahead := zq_cons (zq_s_iload_n (n := 1) (by decide +kernel) rfl) <|
  zq_cons (zq_s_iconst (n := 1) (by decide +kernel) (by decide +kernel)) <|
  zq_cons (zq_s_bipush (n := 9) (by decide +kernel) (by decide +kernel)) <|
  zq_cons (⟨zi_X8_within, rfl, zq_s_callS (n := 3) (index := 98) (by decide +kernel) zw_383 zw_384 zw_80 zw_385 (by decide +kernel) (by decide +kernel) ⟨rfl, rfl⟩⟩) <|
  zq_cons (zq_s_if_ne (off := 6) (by decide +kernel) (by decide)) <|
  zq_cons (zq_s_bipush (n := (-2)) (by decide +kernel) (by decide +kernel)) <|
  zq_cons (⟨rfl, (by decide +kernel)⟩) <|
  zq_cons (zq_s_aload_n (n := 0) (by decide +kernel) rfl) <|
  zq_cons (zq_s_getf (index := 77) (by decide +kernel) zf_X8_77) <|
  zq_cons (zq_s_istore_n (n := 2) (by decide +kernel) rfl (by decide +kernel)) <|
  zq_cons (zq_s_aload_n (n := 0) (by decide +kernel) rfl) <|
  zq_cons (zq_s_iload_n (n := 1) (by decide +kernel) rfl) <|
  zq_cons (zq_s_puti (index := 77) (by decide +kernel) zp_X8_77 (fun _ _ => ⟨rfl, rfl⟩)) <|
  zq_cons (zq_s_aload_n (n := 0) (by decide +kernel) rfl) <|
  zq_cons (List.forall_mem_cons.mpr ⟨⟨zi_X8_changed, rfl, zq_s_callV (n := 0) (index := 146) (by decide +kernel) rfl zw_455 zw_457 zw_3 zw_80 zw_458 (by decide +kernel) (by decide +kernel) ⟨rfl, rfl⟩⟩, fun _ h => absurd h List.not_mem_nil⟩) <|
  zq_cons (zq_s_iload_n (n := 2) (by decide +kernel) rfl) <|
  zq_cons (⟨rfl, (by decide +kernel)⟩) <|
  zq_nil
end
