section
-- ===== PART A: goes FIRST, ahead of the names: the tables' words, and 'selects' of the private methods out of them =====
/-- a private method of a class that the tables say can be made, by its rows of tables_1 -/
def lw_okq (q : MethodName × Nat) : Prop := (q.1.cls ≠ "java/lang/invoke/MethodHandle" ∧ q.1.cls ≠ "java/lang/invoke/VarHandle") ∧ Cond.instantiable q.1.cls q.2 ∈ tables_1 ∧ Cond.privateMethod q.1 ∈ tables_1 ∧ Cond.instanceMethod q.1 ∈ tables_1
theorem lw_p0 : lw_okq (⟨"DollsAhead", "textOf", "(I)LDollsAhead$Text;"⟩, 17) := ⟨⟨by decide +kernel, by decide +kernel⟩, List.mem_of_getElem? (i := 16) (by decide +kernel), List.mem_of_getElem? (i := 301) (by decide +kernel), List.mem_of_getElem? (i := 302) (by decide +kernel)⟩
theorem lw_p1 : lw_okq (⟨"DollsAhead$People", "sortAt", "(I)I"⟩, 9) := ⟨⟨by decide +kernel, by decide +kernel⟩, List.mem_of_getElem? (i := 88) (by decide +kernel), List.mem_of_getElem? (i := 344) (by decide +kernel), List.mem_of_getElem? (i := 345) (by decide +kernel)⟩
theorem lw_p2 : lw_okq (⟨"DollsAhead", "textChanged", "()V"⟩, 17) := ⟨⟨by decide +kernel, by decide +kernel⟩, List.mem_of_getElem? (i := 16) (by decide +kernel), List.mem_of_getElem? (i := 369) (by decide +kernel), List.mem_of_getElem? (i := 370) (by decide +kernel)⟩
theorem lw_p3 : lw_okq (⟨"DollsAhead", "changed", "()V"⟩, 17) := ⟨⟨by decide +kernel, by decide +kernel⟩, List.mem_of_getElem? (i := 16) (by decide +kernel), List.mem_of_getElem? (i := 377) (by decide +kernel), List.mem_of_getElem? (i := 378) (by decide +kernel)⟩
theorem lw_p4 : lw_okq (⟨"DollsAhead", "isPerson", "(I)Z"⟩, 17) := ⟨⟨by decide +kernel, by decide +kernel⟩, List.mem_of_getElem? (i := 16) (by decide +kernel), List.mem_of_getElem? (i := 407) (by decide +kernel), List.mem_of_getElem? (i := 408) (by decide +kernel)⟩
theorem lw_p5 : lw_okq (⟨"DollsAhead", "refuse", "(I)I"⟩, 17) := ⟨⟨by decide +kernel, by decide +kernel⟩, List.mem_of_getElem? (i := 16) (by decide +kernel), List.mem_of_getElem? (i := 444) (by decide +kernel), List.mem_of_getElem? (i := 445) (by decide +kernel)⟩
theorem lw_p6 : lw_okq (⟨"DollsAhead", "weekAsTold", "()LDollsAhead$Week;"⟩, 17) := ⟨⟨by decide +kernel, by decide +kernel⟩, List.mem_of_getElem? (i := 16) (by decide +kernel), List.mem_of_getElem? (i := 453) (by decide +kernel), List.mem_of_getElem? (i := 454) (by decide +kernel)⟩
theorem lw_p7 : lw_okq (⟨"DollsAhead$Week", "layHours", "()V"⟩, 14) := ⟨⟨by decide +kernel, by decide +kernel⟩, List.mem_of_getElem? (i := 191) (by decide +kernel), List.mem_of_getElem? (i := 461) (by decide +kernel), List.mem_of_getElem? (i := 462) (by decide +kernel)⟩
theorem lw_p8 : lw_okq (⟨"DollsAhead$Week", "layTables", "()V"⟩, 14) := ⟨⟨by decide +kernel, by decide +kernel⟩, List.mem_of_getElem? (i := 191) (by decide +kernel), List.mem_of_getElem? (i := 465) (by decide +kernel), List.mem_of_getElem? (i := 466) (by decide +kernel)⟩
theorem lw_p9 : lw_okq (⟨"DollsAhead$Week", "sortOf", "(I)I"⟩, 14) := ⟨⟨by decide +kernel, by decide +kernel⟩, List.mem_of_getElem? (i := 191) (by decide +kernel), List.mem_of_getElem? (i := 478) (by decide +kernel), List.mem_of_getElem? (i := 479) (by decide +kernel)⟩
theorem lw_p10 : lw_okq (⟨"DollsAhead$Week", "walk", "(II)V"⟩, 14) := ⟨⟨by decide +kernel, by decide +kernel⟩, List.mem_of_getElem? (i := 191) (by decide +kernel), List.mem_of_getElem? (i := 482) (by decide +kernel), List.mem_of_getElem? (i := 483) (by decide +kernel)⟩
theorem lw_p11 : lw_okq (⟨"DollsAhead$Week", "bedOf", "(I)I"⟩, 14) := ⟨⟨by decide +kernel, by decide +kernel⟩, List.mem_of_getElem? (i := 191) (by decide +kernel), List.mem_of_getElem? (i := 486) (by decide +kernel), List.mem_of_getElem? (i := 487) (by decide +kernel)⟩
theorem lw_p12 : lw_okq (⟨"DollsAhead", "sparedRow", "()I"⟩, 17) := ⟨⟨by decide +kernel, by decide +kernel⟩, List.mem_of_getElem? (i := 16) (by decide +kernel), List.mem_of_getElem? (i := 603) (by decide +kernel), List.mem_of_getElem? (i := 604) (by decide +kernel)⟩
theorem lw_p13 : lw_okq (⟨"DollsAhead", "nobodyAloneWithout", "(I)Z"⟩, 17) := ⟨⟨by decide +kernel, by decide +kernel⟩, List.mem_of_getElem? (i := 16) (by decide +kernel), List.mem_of_getElem? (i := 607) (by decide +kernel), List.mem_of_getElem? (i := 608) (by decide +kernel)⟩
theorem lw_p14 : lw_okq (⟨"DollsAhead", "sortsThatFit", "(I)I"⟩, 17) := ⟨⟨by decide +kernel, by decide +kernel⟩, List.mem_of_getElem? (i := 16) (by decide +kernel), List.mem_of_getElem? (i := 640) (by decide +kernel), List.mem_of_getElem? (i := 641) (by decide +kernel)⟩
theorem lw_p15 : lw_okq (⟨"DollsAhead", "bedsThatFit", "(I)I"⟩, 17) := ⟨⟨by decide +kernel, by decide +kernel⟩, List.mem_of_getElem? (i := 16) (by decide +kernel), List.mem_of_getElem? (i := 644) (by decide +kernel), List.mem_of_getElem? (i := 645) (by decide +kernel)⟩
def lw_privs_1 : List (MethodName × Nat) := [(⟨"DollsAhead", "textOf", "(I)LDollsAhead$Text;"⟩, 17), (⟨"DollsAhead$People", "sortAt", "(I)I"⟩, 9), (⟨"DollsAhead", "textChanged", "()V"⟩, 17), (⟨"DollsAhead", "changed", "()V"⟩, 17), (⟨"DollsAhead", "isPerson", "(I)Z"⟩, 17), (⟨"DollsAhead", "refuse", "(I)I"⟩, 17), (⟨"DollsAhead", "weekAsTold", "()LDollsAhead$Week;"⟩, 17), (⟨"DollsAhead$Week", "layHours", "()V"⟩, 14), (⟨"DollsAhead$Week", "layTables", "()V"⟩, 14), (⟨"DollsAhead$Week", "sortOf", "(I)I"⟩, 14), (⟨"DollsAhead$Week", "walk", "(II)V"⟩, 14), (⟨"DollsAhead$Week", "bedOf", "(I)I"⟩, 14), (⟨"DollsAhead", "sparedRow", "()I"⟩, 17), (⟨"DollsAhead", "nobodyAloneWithout", "(I)Z"⟩, 17), (⟨"DollsAhead", "sortsThatFit", "(I)I"⟩, 17), (⟨"DollsAhead", "bedsThatFit", "(I)I"⟩, 17)]
theorem lw_r1 : ∀ q ∈ lw_privs_1, lw_okq q := List.forall_mem_cons.mpr ⟨lw_p0, List.forall_mem_cons.mpr ⟨lw_p1, List.forall_mem_cons.mpr ⟨lw_p2, List.forall_mem_cons.mpr ⟨lw_p3, List.forall_mem_cons.mpr ⟨lw_p4, List.forall_mem_cons.mpr ⟨lw_p5, List.forall_mem_cons.mpr ⟨lw_p6, List.forall_mem_cons.mpr ⟨lw_p7, List.forall_mem_cons.mpr ⟨lw_p8, List.forall_mem_cons.mpr ⟨lw_p9, List.forall_mem_cons.mpr ⟨lw_p10, List.forall_mem_cons.mpr ⟨lw_p11, List.forall_mem_cons.mpr ⟨lw_p12, List.forall_mem_cons.mpr ⟨lw_p13, List.forall_mem_cons.mpr ⟨lw_p14, List.forall_mem_cons.mpr ⟨lw_p15, fun _ h => absurd h List.not_mem_nil⟩⟩⟩⟩⟩⟩⟩⟩⟩⟩⟩⟩⟩⟩⟩⟩
theorem lw_p16 : lw_okq (⟨"DollsAhead", "mostBedsInOneRoom", "(II)I"⟩, 17) := ⟨⟨by decide +kernel, by decide +kernel⟩, List.mem_of_getElem? (i := 16) (by decide +kernel), List.mem_of_getElem? (i := 652) (by decide +kernel), List.mem_of_getElem? (i := 653) (by decide +kernel)⟩
theorem lw_p17 : lw_okq (⟨"DollsAhead", "weighOdds", "(II)V"⟩, 17) := ⟨⟨by decide +kernel, by decide +kernel⟩, List.mem_of_getElem? (i := 16) (by decide +kernel), List.mem_of_getElem? (i := 663) (by decide +kernel), List.mem_of_getElem? (i := 664) (by decide +kernel)⟩
theorem lw_p18 : lw_okq (⟨"DollsAhead", "weightOf", "(II)J"⟩, 17) := ⟨⟨by decide +kernel, by decide +kernel⟩, List.mem_of_getElem? (i := 16) (by decide +kernel), List.mem_of_getElem? (i := 670) (by decide +kernel), List.mem_of_getElem? (i := 671) (by decide +kernel)⟩
theorem lw_p19 : lw_okq (⟨"DollsAhead", "addOdds", "(IJ)V"⟩, 17) := ⟨⟨by decide +kernel, by decide +kernel⟩, List.mem_of_getElem? (i := 16) (by decide +kernel), List.mem_of_getElem? (i := 674) (by decide +kernel), List.mem_of_getElem? (i := 675) (by decide +kernel)⟩
theorem lw_p20 : lw_okq (⟨"DollsAhead", "refusalOfItem", "(III)I"⟩, 17) := ⟨⟨by decide +kernel, by decide +kernel⟩, List.mem_of_getElem? (i := 16) (by decide +kernel), List.mem_of_getElem? (i := 707) (by decide +kernel), List.mem_of_getElem? (i := 708) (by decide +kernel)⟩
theorem lw_p21 : lw_okq (⟨"DollsAhead", "emptyHoursOfAll", "()I"⟩, 17) := ⟨⟨by decide +kernel, by decide +kernel⟩, List.mem_of_getElem? (i := 16) (by decide +kernel), List.mem_of_getElem? (i := 741) (by decide +kernel), List.mem_of_getElem? (i := 742) (by decide +kernel)⟩
theorem lw_p22 : lw_okq (⟨"DollsAhead", "mixStays", "(JI)J"⟩, 17) := ⟨⟨by decide +kernel, by decide +kernel⟩, List.mem_of_getElem? (i := 16) (by decide +kernel), List.mem_of_getElem? (i := 759) (by decide +kernel), List.mem_of_getElem? (i := 760) (by decide +kernel)⟩
theorem lw_p23 : lw_okq (⟨"DollsAhead", "mixGuesses", "(JI)J"⟩, 17) := ⟨⟨by decide +kernel, by decide +kernel⟩, List.mem_of_getElem? (i := 16) (by decide +kernel), List.mem_of_getElem? (i := 765) (by decide +kernel), List.mem_of_getElem? (i := 766) (by decide +kernel)⟩
theorem lw_p24 : lw_okq (⟨"DollsAheadModel", "faultOf", "(I)I"⟩, 37) := ⟨⟨by decide +kernel, by decide +kernel⟩, List.mem_of_getElem? (i := 781) (by decide +kernel), List.mem_of_getElem? (i := 922) (by decide +kernel), List.mem_of_getElem? (i := 923) (by decide +kernel)⟩
theorem lw_p25 : lw_okq (⟨"DollsAheadModel", "readsParts", "(I)I"⟩, 37) := ⟨⟨by decide +kernel, by decide +kernel⟩, List.mem_of_getElem? (i := 781) (by decide +kernel), List.mem_of_getElem? (i := 926) (by decide +kernel), List.mem_of_getElem? (i := 927) (by decide +kernel)⟩
theorem lw_p26 : lw_okq (⟨"DollsAheadModel", "readsDoor", "(II)I"⟩, 37) := ⟨⟨by decide +kernel, by decide +kernel⟩, List.mem_of_getElem? (i := 781) (by decide +kernel), List.mem_of_getElem? (i := 930) (by decide +kernel), List.mem_of_getElem? (i := 931) (by decide +kernel)⟩
theorem lw_p27 : lw_okq (⟨"DollsAheadModel", "byteAt", "(II)I"⟩, 37) := ⟨⟨by decide +kernel, by decide +kernel⟩, List.mem_of_getElem? (i := 781) (by decide +kernel), List.mem_of_getElem? (i := 934) (by decide +kernel), List.mem_of_getElem? (i := 935) (by decide +kernel)⟩
theorem lw_p28 : lw_okq (⟨"DollsAheadModel", "readsPerson", "(II)I"⟩, 37) := ⟨⟨by decide +kernel, by decide +kernel⟩, List.mem_of_getElem? (i := 781) (by decide +kernel), List.mem_of_getElem? (i := 941) (by decide +kernel), List.mem_of_getElem? (i := 942) (by decide +kernel)⟩
theorem lw_p29 : lw_okq (⟨"DollsAheadModel", "isDoor", "(I)Z"⟩, 37) := ⟨⟨by decide +kernel, by decide +kernel⟩, List.mem_of_getElem? (i := 781) (by decide +kernel), List.mem_of_getElem? (i := 949) (by decide +kernel), List.mem_of_getElem? (i := 950) (by decide +kernel)⟩
theorem lw_p30 : lw_okq (⟨"DollsAheadModel", "reads", "()V"⟩, 37) := ⟨⟨by decide +kernel, by decide +kernel⟩, List.mem_of_getElem? (i := 781) (by decide +kernel), List.mem_of_getElem? (i := 953) (by decide +kernel), List.mem_of_getElem? (i := 954) (by decide +kernel)⟩
theorem lw_p31 : lw_okq (⟨"DollsAheadModel", "doorOf", "(II)I"⟩, 37) := ⟨⟨by decide +kernel, by decide +kernel⟩, List.mem_of_getElem? (i := 781) (by decide +kernel), List.mem_of_getElem? (i := 960) (by decide +kernel), List.mem_of_getElem? (i := 961) (by decide +kernel)⟩
def lw_privs_2 : List (MethodName × Nat) := [(⟨"DollsAhead", "mostBedsInOneRoom", "(II)I"⟩, 17), (⟨"DollsAhead", "weighOdds", "(II)V"⟩, 17), (⟨"DollsAhead", "weightOf", "(II)J"⟩, 17), (⟨"DollsAhead", "addOdds", "(IJ)V"⟩, 17), (⟨"DollsAhead", "refusalOfItem", "(III)I"⟩, 17), (⟨"DollsAhead", "emptyHoursOfAll", "()I"⟩, 17), (⟨"DollsAhead", "mixStays", "(JI)J"⟩, 17), (⟨"DollsAhead", "mixGuesses", "(JI)J"⟩, 17), (⟨"DollsAheadModel", "faultOf", "(I)I"⟩, 37), (⟨"DollsAheadModel", "readsParts", "(I)I"⟩, 37), (⟨"DollsAheadModel", "readsDoor", "(II)I"⟩, 37), (⟨"DollsAheadModel", "byteAt", "(II)I"⟩, 37), (⟨"DollsAheadModel", "readsPerson", "(II)I"⟩, 37), (⟨"DollsAheadModel", "isDoor", "(I)Z"⟩, 37), (⟨"DollsAheadModel", "reads", "()V"⟩, 37), (⟨"DollsAheadModel", "doorOf", "(II)I"⟩, 37)]
theorem lw_r2 : ∀ q ∈ lw_privs_2, lw_okq q := List.forall_mem_cons.mpr ⟨lw_p16, List.forall_mem_cons.mpr ⟨lw_p17, List.forall_mem_cons.mpr ⟨lw_p18, List.forall_mem_cons.mpr ⟨lw_p19, List.forall_mem_cons.mpr ⟨lw_p20, List.forall_mem_cons.mpr ⟨lw_p21, List.forall_mem_cons.mpr ⟨lw_p22, List.forall_mem_cons.mpr ⟨lw_p23, List.forall_mem_cons.mpr ⟨lw_p24, List.forall_mem_cons.mpr ⟨lw_p25, List.forall_mem_cons.mpr ⟨lw_p26, List.forall_mem_cons.mpr ⟨lw_p27, List.forall_mem_cons.mpr ⟨lw_p28, List.forall_mem_cons.mpr ⟨lw_p29, List.forall_mem_cons.mpr ⟨lw_p30, List.forall_mem_cons.mpr ⟨lw_p31, fun _ h => absurd h List.not_mem_nil⟩⟩⟩⟩⟩⟩⟩⟩⟩⟩⟩⟩⟩⟩⟩⟩
theorem lw_p32 : lw_okq (⟨"DollsAheadModel", "isPerson", "(I)Z"⟩, 37) := ⟨⟨by decide +kernel, by decide +kernel⟩, List.mem_of_getElem? (i := 781) (by decide +kernel), List.mem_of_getElem? (i := 968) (by decide +kernel), List.mem_of_getElem? (i := 969) (by decide +kernel)⟩
theorem lw_p33 : lw_okq (⟨"DollsAheadModel", "personOf", "(II)I"⟩, 37) := ⟨⟨by decide +kernel, by decide +kernel⟩, List.mem_of_getElem? (i := 781) (by decide +kernel), List.mem_of_getElem? (i := 975) (by decide +kernel), List.mem_of_getElem? (i := 976) (by decide +kernel)⟩
theorem lw_p34 : lw_okq (⟨"DollsAheadModel", "meets", "(I)I"⟩, 37) := ⟨⟨by decide +kernel, by decide +kernel⟩, List.mem_of_getElem? (i := 781) (by decide +kernel), List.mem_of_getElem? (i := 1001) (by decide +kernel), List.mem_of_getElem? (i := 1002) (by decide +kernel)⟩
theorem lw_p35 : lw_okq (⟨"DollsAheadModel", "atOf", "(III)I"⟩, 37) := ⟨⟨by decide +kernel, by decide +kernel⟩, List.mem_of_getElem? (i := 781) (by decide +kernel), List.mem_of_getElem? (i := 1010) (by decide +kernel), List.mem_of_getElem? (i := 1011) (by decide +kernel)⟩
theorem lw_p36 : lw_okq (⟨"DollsAheadModel", "runsTold", "()V"⟩, 37) := ⟨⟨by decide +kernel, by decide +kernel⟩, List.mem_of_getElem? (i := 781) (by decide +kernel), List.mem_of_getElem? (i := 1014) (by decide +kernel), List.mem_of_getElem? (i := 1015) (by decide +kernel)⟩
theorem lw_p37 : lw_okq (⟨"DollsAheadModel", "asTold", "()V"⟩, 37) := ⟨⟨by decide +kernel, by decide +kernel⟩, List.mem_of_getElem? (i := 781) (by decide +kernel), List.mem_of_getElem? (i := 1018) (by decide +kernel), List.mem_of_getElem? (i := 1019) (by decide +kernel)⟩
theorem lw_p38 : lw_okq (⟨"DollsAheadModel", "runs", "()V"⟩, 37) := ⟨⟨by decide +kernel, by decide +kernel⟩, List.mem_of_getElem? (i := 781) (by decide +kernel), List.mem_of_getElem? (i := 1022) (by decide +kernel), List.mem_of_getElem? (i := 1023) (by decide +kernel)⟩
theorem lw_p39 : lw_okq (⟨"DollsAheadModel", "befalls", "(I)V"⟩, 37) := ⟨⟨by decide +kernel, by decide +kernel⟩, List.mem_of_getElem? (i := 781) (by decide +kernel), List.mem_of_getElem? (i := 1026) (by decide +kernel), List.mem_of_getElem? (i := 1027) (by decide +kernel)⟩
theorem lw_p40 : lw_okq (⟨"DollsAheadModel", "measures", "(I)V"⟩, 37) := ⟨⟨by decide +kernel, by decide +kernel⟩, List.mem_of_getElem? (i := 781) (by decide +kernel), List.mem_of_getElem? (i := 1033) (by decide +kernel), List.mem_of_getElem? (i := 1034) (by decide +kernel)⟩
theorem lw_p41 : lw_okq (⟨"DollsAheadModel", "nears", "(IIII)V"⟩, 37) := ⟨⟨by decide +kernel, by decide +kernel⟩, List.mem_of_getElem? (i := 781) (by decide +kernel), List.mem_of_getElem? (i := 1037) (by decide +kernel), List.mem_of_getElem? (i := 1038) (by decide +kernel)⟩
theorem lw_p42 : lw_okq (⟨"DollsAheadModel", "leastChild", "()I"⟩, 37) := ⟨⟨by decide +kernel, by decide +kernel⟩, List.mem_of_getElem? (i := 781) (by decide +kernel), List.mem_of_getElem? (i := 1041) (by decide +kernel), List.mem_of_getElem? (i := 1042) (by decide +kernel)⟩
theorem lw_p43 : lw_okq (⟨"DollsAheadModel", "goesThrough", "(II)V"⟩, 37) := ⟨⟨by decide +kernel, by decide +kernel⟩, List.mem_of_getElem? (i := 781) (by decide +kernel), List.mem_of_getElem? (i := 1045) (by decide +kernel), List.mem_of_getElem? (i := 1046) (by decide +kernel)⟩
theorem lw_p44 : lw_okq (⟨"DollsAheadModel", "step", "(III)I"⟩, 37) := ⟨⟨by decide +kernel, by decide +kernel⟩, List.mem_of_getElem? (i := 781) (by decide +kernel), List.mem_of_getElem? (i := 1049) (by decide +kernel), List.mem_of_getElem? (i := 1050) (by decide +kernel)⟩
theorem lw_p45 : lw_okq (⟨"DollsAheadModel", "isBeside", "(III)Z"⟩, 37) := ⟨⟨by decide +kernel, by decide +kernel⟩, List.mem_of_getElem? (i := 781) (by decide +kernel), List.mem_of_getElem? (i := 1053) (by decide +kernel), List.mem_of_getElem? (i := 1054) (by decide +kernel)⟩
theorem lw_p46 : lw_okq (⟨"DollsAheadModel", "roomOf", "(II)I"⟩, 37) := ⟨⟨by decide +kernel, by decide +kernel⟩, List.mem_of_getElem? (i := 781) (by decide +kernel), List.mem_of_getElem? (i := 1061) (by decide +kernel), List.mem_of_getElem? (i := 1062) (by decide +kernel)⟩
theorem lw_p47 : lw_okq (⟨"DollsAheadModel", "inRoom", "(II)I"⟩, 37) := ⟨⟨by decide +kernel, by decide +kernel⟩, List.mem_of_getElem? (i := 781) (by decide +kernel), List.mem_of_getElem? (i := 1065) (by decide +kernel), List.mem_of_getElem? (i := 1066) (by decide +kernel)⟩
def lw_privs_3 : List (MethodName × Nat) := [(⟨"DollsAheadModel", "isPerson", "(I)Z"⟩, 37), (⟨"DollsAheadModel", "personOf", "(II)I"⟩, 37), (⟨"DollsAheadModel", "meets", "(I)I"⟩, 37), (⟨"DollsAheadModel", "atOf", "(III)I"⟩, 37), (⟨"DollsAheadModel", "runsTold", "()V"⟩, 37), (⟨"DollsAheadModel", "asTold", "()V"⟩, 37), (⟨"DollsAheadModel", "runs", "()V"⟩, 37), (⟨"DollsAheadModel", "befalls", "(I)V"⟩, 37), (⟨"DollsAheadModel", "measures", "(I)V"⟩, 37), (⟨"DollsAheadModel", "nears", "(IIII)V"⟩, 37), (⟨"DollsAheadModel", "leastChild", "()I"⟩, 37), (⟨"DollsAheadModel", "goesThrough", "(II)V"⟩, 37), (⟨"DollsAheadModel", "step", "(III)I"⟩, 37), (⟨"DollsAheadModel", "isBeside", "(III)Z"⟩, 37), (⟨"DollsAheadModel", "roomOf", "(II)I"⟩, 37), (⟨"DollsAheadModel", "inRoom", "(II)I"⟩, 37)]
theorem lw_r3 : ∀ q ∈ lw_privs_3, lw_okq q := List.forall_mem_cons.mpr ⟨lw_p32, List.forall_mem_cons.mpr ⟨lw_p33, List.forall_mem_cons.mpr ⟨lw_p34, List.forall_mem_cons.mpr ⟨lw_p35, List.forall_mem_cons.mpr ⟨lw_p36, List.forall_mem_cons.mpr ⟨lw_p37, List.forall_mem_cons.mpr ⟨lw_p38, List.forall_mem_cons.mpr ⟨lw_p39, List.forall_mem_cons.mpr ⟨lw_p40, List.forall_mem_cons.mpr ⟨lw_p41, List.forall_mem_cons.mpr ⟨lw_p42, List.forall_mem_cons.mpr ⟨lw_p43, List.forall_mem_cons.mpr ⟨lw_p44, List.forall_mem_cons.mpr ⟨lw_p45, List.forall_mem_cons.mpr ⟨lw_p46, List.forall_mem_cons.mpr ⟨lw_p47, fun _ h => absurd h List.not_mem_nil⟩⟩⟩⟩⟩⟩⟩⟩⟩⟩⟩⟩⟩⟩⟩⟩
theorem lw_p48 : lw_okq (⟨"DollsAheadModel", "farOf", "(III)I"⟩, 37) := ⟨⟨by decide +kernel, by decide +kernel⟩, List.mem_of_getElem? (i := 781) (by decide +kernel), List.mem_of_getElem? (i := 1073) (by decide +kernel), List.mem_of_getElem? (i := 1074) (by decide +kernel)⟩
theorem lw_p49 : lw_okq (⟨"DollsAheadModel", "metOf", "(II)I"⟩, 37) := ⟨⟨by decide +kernel, by decide +kernel⟩, List.mem_of_getElem? (i := 781) (by decide +kernel), List.mem_of_getElem? (i := 1081) (by decide +kernel), List.mem_of_getElem? (i := 1082) (by decide +kernel)⟩
theorem lw_p50 : lw_okq (⟨"DollsAheadModel", "emptyOf", "(I)I"⟩, 37) := ⟨⟨by decide +kernel, by decide +kernel⟩, List.mem_of_getElem? (i := 781) (by decide +kernel), List.mem_of_getElem? (i := 1089) (by decide +kernel), List.mem_of_getElem? (i := 1090) (by decide +kernel)⟩
theorem lw_p51 : lw_okq (⟨"DollsAheadModel", "emptyNow", "(I)I"⟩, 37) := ⟨⟨by decide +kernel, by decide +kernel⟩, List.mem_of_getElem? (i := 781) (by decide +kernel), List.mem_of_getElem? (i := 1093) (by decide +kernel), List.mem_of_getElem? (i := 1094) (by decide +kernel)⟩
theorem lw_p52 : lw_okq (⟨"DollsAheadModel", "foundOf", "(I)I"⟩, 37) := ⟨⟨by decide +kernel, by decide +kernel⟩, List.mem_of_getElem? (i := 781) (by decide +kernel), List.mem_of_getElem? (i := 1101) (by decide +kernel), List.mem_of_getElem? (i := 1102) (by decide +kernel)⟩
theorem lw_p53 : lw_okq (⟨"DollsAheadModel", "foundNow", "(I)I"⟩, 37) := ⟨⟨by decide +kernel, by decide +kernel⟩, List.mem_of_getElem? (i := 781) (by decide +kernel), List.mem_of_getElem? (i := 1105) (by decide +kernel), List.mem_of_getElem? (i := 1106) (by decide +kernel)⟩
theorem lw_p54 : lw_okq (⟨"DollsAheadModel", "crowdOf", "(I)I"⟩, 37) := ⟨⟨by decide +kernel, by decide +kernel⟩, List.mem_of_getElem? (i := 781) (by decide +kernel), List.mem_of_getElem? (i := 1113) (by decide +kernel), List.mem_of_getElem? (i := 1114) (by decide +kernel)⟩
theorem lw_p55 : lw_okq (⟨"DollsAheadModel", "many", "(I)I"⟩, 37) := ⟨⟨by decide +kernel, by decide +kernel⟩, List.mem_of_getElem? (i := 781) (by decide +kernel), List.mem_of_getElem? (i := 1117) (by decide +kernel), List.mem_of_getElem? (i := 1118) (by decide +kernel)⟩
theorem lw_p56 : lw_okq (⟨"DollsAheadModel", "aloneOf", "()I"⟩, 37) := ⟨⟨by decide +kernel, by decide +kernel⟩, List.mem_of_getElem? (i := 781) (by decide +kernel), List.mem_of_getElem? (i := 1125) (by decide +kernel), List.mem_of_getElem? (i := 1126) (by decide +kernel)⟩
theorem lw_p57 : lw_okq (⟨"DollsAheadModel", "aloneNow", "()I"⟩, 37) := ⟨⟨by decide +kernel, by decide +kernel⟩, List.mem_of_getElem? (i := 781) (by decide +kernel), List.mem_of_getElem? (i := 1129) (by decide +kernel), List.mem_of_getElem? (i := 1130) (by decide +kernel)⟩
theorem lw_p58 : lw_okq (⟨"DollsAheadModel", "isByItself", "(II)Z"⟩, 37) := ⟨⟨by decide +kernel, by decide +kernel⟩, List.mem_of_getElem? (i := 781) (by decide +kernel), List.mem_of_getElem? (i := 1133) (by decide +kernel), List.mem_of_getElem? (i := 1134) (by decide +kernel)⟩
theorem lw_p59 : lw_okq (⟨"DollsAheadModel", "sleepOf", "(II)I"⟩, 37) := ⟨⟨by decide +kernel, by decide +kernel⟩, List.mem_of_getElem? (i := 781) (by decide +kernel), List.mem_of_getElem? (i := 1141) (by decide +kernel), List.mem_of_getElem? (i := 1142) (by decide +kernel)⟩
theorem lw_p60 : lw_okq (⟨"DollsAheadModel", "hoursByItself", "(I)I"⟩, 37) := ⟨⟨by decide +kernel, by decide +kernel⟩, List.mem_of_getElem? (i := 781) (by decide +kernel), List.mem_of_getElem? (i := 1145) (by decide +kernel), List.mem_of_getElem? (i := 1146) (by decide +kernel)⟩
theorem lw_p61 : lw_okq (⟨"DollsAheadModel", "niceOf", "(II)I"⟩, 37) := ⟨⟨by decide +kernel, by decide +kernel⟩, List.mem_of_getElem? (i := 781) (by decide +kernel), List.mem_of_getElem? (i := 1153) (by decide +kernel), List.mem_of_getElem? (i := 1154) (by decide +kernel)⟩
theorem lw_p62 : lw_okq (⟨"DollsAheadModel", "mostAt", "(I)I"⟩, 37) := ⟨⟨by decide +kernel, by decide +kernel⟩, List.mem_of_getElem? (i := 781) (by decide +kernel), List.mem_of_getElem? (i := 1157) (by decide +kernel), List.mem_of_getElem? (i := 1158) (by decide +kernel)⟩
theorem lw_p63 : lw_okq (⟨"DollsAheadModel", "lensOf", "(I)I"⟩, 37) := ⟨⟨by decide +kernel, by decide +kernel⟩, List.mem_of_getElem? (i := 781) (by decide +kernel), List.mem_of_getElem? (i := 1165) (by decide +kernel), List.mem_of_getElem? (i := 1166) (by decide +kernel)⟩
def lw_privs_4 : List (MethodName × Nat) := [(⟨"DollsAheadModel", "farOf", "(III)I"⟩, 37), (⟨"DollsAheadModel", "metOf", "(II)I"⟩, 37), (⟨"DollsAheadModel", "emptyOf", "(I)I"⟩, 37), (⟨"DollsAheadModel", "emptyNow", "(I)I"⟩, 37), (⟨"DollsAheadModel", "foundOf", "(I)I"⟩, 37), (⟨"DollsAheadModel", "foundNow", "(I)I"⟩, 37), (⟨"DollsAheadModel", "crowdOf", "(I)I"⟩, 37), (⟨"DollsAheadModel", "many", "(I)I"⟩, 37), (⟨"DollsAheadModel", "aloneOf", "()I"⟩, 37), (⟨"DollsAheadModel", "aloneNow", "()I"⟩, 37), (⟨"DollsAheadModel", "isByItself", "(II)Z"⟩, 37), (⟨"DollsAheadModel", "sleepOf", "(II)I"⟩, 37), (⟨"DollsAheadModel", "hoursByItself", "(I)I"⟩, 37), (⟨"DollsAheadModel", "niceOf", "(II)I"⟩, 37), (⟨"DollsAheadModel", "mostAt", "(I)I"⟩, 37), (⟨"DollsAheadModel", "lensOf", "(I)I"⟩, 37)]
theorem lw_r4 : ∀ q ∈ lw_privs_4, lw_okq q := List.forall_mem_cons.mpr ⟨lw_p48, List.forall_mem_cons.mpr ⟨lw_p49, List.forall_mem_cons.mpr ⟨lw_p50, List.forall_mem_cons.mpr ⟨lw_p51, List.forall_mem_cons.mpr ⟨lw_p52, List.forall_mem_cons.mpr ⟨lw_p53, List.forall_mem_cons.mpr ⟨lw_p54, List.forall_mem_cons.mpr ⟨lw_p55, List.forall_mem_cons.mpr ⟨lw_p56, List.forall_mem_cons.mpr ⟨lw_p57, List.forall_mem_cons.mpr ⟨lw_p58, List.forall_mem_cons.mpr ⟨lw_p59, List.forall_mem_cons.mpr ⟨lw_p60, List.forall_mem_cons.mpr ⟨lw_p61, List.forall_mem_cons.mpr ⟨lw_p62, List.forall_mem_cons.mpr ⟨lw_p63, fun _ h => absurd h List.not_mem_nil⟩⟩⟩⟩⟩⟩⟩⟩⟩⟩⟩⟩⟩⟩⟩⟩
theorem lw_p64 : lw_okq (⟨"DollsAheadModel", "spareBy", "()I"⟩, 37) := ⟨⟨by decide +kernel, by decide +kernel⟩, List.mem_of_getElem? (i := 781) (by decide +kernel), List.mem_of_getElem? (i := 1173) (by decide +kernel), List.mem_of_getElem? (i := 1174) (by decide +kernel)⟩
theorem lw_p65 : lw_okq (⟨"DollsAheadModel", "isSpared", "(I)Z"⟩, 37) := ⟨⟨by decide +kernel, by decide +kernel⟩, List.mem_of_getElem? (i := 781) (by decide +kernel), List.mem_of_getElem? (i := 1177) (by decide +kernel), List.mem_of_getElem? (i := 1178) (by decide +kernel)⟩
theorem lw_p66 : lw_okq (⟨"DollsAheadModel", "ofRow", "(II)I"⟩, 37) := ⟨⟨by decide +kernel, by decide +kernel⟩, List.mem_of_getElem? (i := 781) (by decide +kernel), List.mem_of_getElem? (i := 1181) (by decide +kernel), List.mem_of_getElem? (i := 1182) (by decide +kernel)⟩
theorem lw_p67 : lw_okq (⟨"DollsAheadModel", "neverNow", "()I"⟩, 37) := ⟨⟨by decide +kernel, by decide +kernel⟩, List.mem_of_getElem? (i := 781) (by decide +kernel), List.mem_of_getElem? (i := 1197) (by decide +kernel), List.mem_of_getElem? (i := 1198) (by decide +kernel)⟩
theorem lw_p68 : lw_okq (⟨"DollsAheadModel", "isSeen", "()Z"⟩, 37) := ⟨⟨by decide +kernel, by decide +kernel⟩, List.mem_of_getElem? (i := 781) (by decide +kernel), List.mem_of_getElem? (i := 1201) (by decide +kernel), List.mem_of_getElem? (i := 1202) (by decide +kernel)⟩
theorem lw_p69 : lw_okq (⟨"DollsAheadModel", "sortsBy", "(I)I"⟩, 37) := ⟨⟨by decide +kernel, by decide +kernel⟩, List.mem_of_getElem? (i := 781) (by decide +kernel), List.mem_of_getElem? (i := 1209) (by decide +kernel), List.mem_of_getElem? (i := 1210) (by decide +kernel)⟩
theorem lw_p70 : lw_okq (⟨"DollsAheadModel", "bedsBy", "(I)I"⟩, 37) := ⟨⟨by decide +kernel, by decide +kernel⟩, List.mem_of_getElem? (i := 781) (by decide +kernel), List.mem_of_getElem? (i := 1213) (by decide +kernel), List.mem_of_getElem? (i := 1214) (by decide +kernel)⟩
theorem lw_p71 : lw_okq (⟨"DollsAheadModel", "askOf", "(I)I"⟩, 37) := ⟨⟨by decide +kernel, by decide +kernel⟩, List.mem_of_getElem? (i := 781) (by decide +kernel), List.mem_of_getElem? (i := 1221) (by decide +kernel), List.mem_of_getElem? (i := 1222) (by decide +kernel)⟩
theorem lw_p72 : lw_okq (⟨"DollsAheadModel", "chanceOf", "(IIII)J"⟩, 37) := ⟨⟨by decide +kernel, by decide +kernel⟩, List.mem_of_getElem? (i := 781) (by decide +kernel), List.mem_of_getElem? (i := 1229) (by decide +kernel), List.mem_of_getElem? (i := 1230) (by decide +kernel)⟩
theorem lw_p73 : lw_okq (⟨"DollsAheadModel", "weeksOf", "(III)I"⟩, 37) := ⟨⟨by decide +kernel, by decide +kernel⟩, List.mem_of_getElem? (i := 781) (by decide +kernel), List.mem_of_getElem? (i := 1244) (by decide +kernel), List.mem_of_getElem? (i := 1245) (by decide +kernel)⟩
theorem lw_p74 : lw_okq (⟨"DollsAheadModel", "lacks", "(III)I"⟩, 37) := ⟨⟨by decide +kernel, by decide +kernel⟩, List.mem_of_getElem? (i := 781) (by decide +kernel), List.mem_of_getElem? (i := 1261) (by decide +kernel), List.mem_of_getElem? (i := 1262) (by decide +kernel)⟩
theorem lw_p75 : lw_okq (⟨"DollsAheadModel", "keep", "(III)V"⟩, 37) := ⟨⟨by decide +kernel, by decide +kernel⟩, List.mem_of_getElem? (i := 781) (by decide +kernel), List.mem_of_getElem? (i := 1265) (by decide +kernel), List.mem_of_getElem? (i := 1266) (by decide +kernel)⟩
theorem lw_p76 : lw_okq (⟨"DollsAheadModel", "sumOf", "(I)I"⟩, 37) := ⟨⟨by decide +kernel, by decide +kernel⟩, List.mem_of_getElem? (i := 781) (by decide +kernel), List.mem_of_getElem? (i := 1286) (by decide +kernel), List.mem_of_getElem? (i := 1287) (by decide +kernel)⟩
theorem lw_p77 : lw_okq (⟨"DollsAheadModel", "personDigest", "(JI)J"⟩, 37) := ⟨⟨by decide +kernel, by decide +kernel⟩, List.mem_of_getElem? (i := 781) (by decide +kernel), List.mem_of_getElem? (i := 1297) (by decide +kernel), List.mem_of_getElem? (i := 1298) (by decide +kernel)⟩
theorem lw_p78 : lw_okq (⟨"DollsAheadModel", "hourDigest", "(JII)J"⟩, 37) := ⟨⟨by decide +kernel, by decide +kernel⟩, List.mem_of_getElem? (i := 781) (by decide +kernel), List.mem_of_getElem? (i := 1301) (by decide +kernel), List.mem_of_getElem? (i := 1302) (by decide +kernel)⟩
def lw_privs_5 : List (MethodName × Nat) := [(⟨"DollsAheadModel", "spareBy", "()I"⟩, 37), (⟨"DollsAheadModel", "isSpared", "(I)Z"⟩, 37), (⟨"DollsAheadModel", "ofRow", "(II)I"⟩, 37), (⟨"DollsAheadModel", "neverNow", "()I"⟩, 37), (⟨"DollsAheadModel", "isSeen", "()Z"⟩, 37), (⟨"DollsAheadModel", "sortsBy", "(I)I"⟩, 37), (⟨"DollsAheadModel", "bedsBy", "(I)I"⟩, 37), (⟨"DollsAheadModel", "askOf", "(I)I"⟩, 37), (⟨"DollsAheadModel", "chanceOf", "(IIII)J"⟩, 37), (⟨"DollsAheadModel", "weeksOf", "(III)I"⟩, 37), (⟨"DollsAheadModel", "lacks", "(III)I"⟩, 37), (⟨"DollsAheadModel", "keep", "(III)V"⟩, 37), (⟨"DollsAheadModel", "sumOf", "(I)I"⟩, 37), (⟨"DollsAheadModel", "personDigest", "(JI)J"⟩, 37), (⟨"DollsAheadModel", "hourDigest", "(JII)J"⟩, 37)]
theorem lw_r5 : ∀ q ∈ lw_privs_5, lw_okq q := List.forall_mem_cons.mpr ⟨lw_p64, List.forall_mem_cons.mpr ⟨lw_p65, List.forall_mem_cons.mpr ⟨lw_p66, List.forall_mem_cons.mpr ⟨lw_p67, List.forall_mem_cons.mpr ⟨lw_p68, List.forall_mem_cons.mpr ⟨lw_p69, List.forall_mem_cons.mpr ⟨lw_p70, List.forall_mem_cons.mpr ⟨lw_p71, List.forall_mem_cons.mpr ⟨lw_p72, List.forall_mem_cons.mpr ⟨lw_p73, List.forall_mem_cons.mpr ⟨lw_p74, List.forall_mem_cons.mpr ⟨lw_p75, List.forall_mem_cons.mpr ⟨lw_p76, List.forall_mem_cons.mpr ⟨lw_p77, List.forall_mem_cons.mpr ⟨lw_p78, fun _ h => absurd h List.not_mem_nil⟩⟩⟩⟩⟩⟩⟩⟩⟩⟩⟩⟩⟩⟩⟩
def lw_privs : List (MethodName × Nat) := lw_privs_1 ++ (lw_privs_2 ++ (lw_privs_3 ++ (lw_privs_4 ++ (lw_privs_5))))
def lw_tbl : List Cond := k2_sels lw_privs ++ tables_1
theorem lw_privs_ok : ∀ q ∈ lw_privs, lw_okq q := by
  show ∀ q ∈ lw_privs_1 ++ (lw_privs_2 ++ (lw_privs_3 ++ (lw_privs_4 ++ (lw_privs_5)))), lw_okq q
  exact List.forall_mem_append.mpr ⟨lw_r1, List.forall_mem_append.mpr ⟨lw_r2, List.forall_mem_append.mpr ⟨lw_r3, List.forall_mem_append.mpr ⟨lw_r4, lw_r5⟩⟩⟩⟩
def RX0 : String := "DollsAhead$Doors"
def TX0 : u_T := fun k => match k with
  | 0 => ("DollsAhead$Text", "bytes", "[I", true)
  | 1 => ("DollsAhead$Text", "limit", "I", true)
  | 2 => ("DollsAhead$Text", "part", "I", true)
  | 3 => ("DollsAhead$Text", "size", "I", false)
  | 4 => ("DollsAhead$Text", "faultPlace", "I", false)
  | 5 => ("DollsAhead$Text", "many", "I", false)
  | 6 => ("DollsAhead$Doors", "ones", "[I", true)
  | 7 => ("DollsAhead$Doors", "others", "[I", true)
  | _ => ("DollsAhead$Doors", "beside", "[I", true)
def tyX0 : Nat → FieldType := fun k => match k with
  | 0 => .array .int
  | 1 => .int
  | 2 => .int
  | 3 => .int
  | 4 => .int
  | 5 => .int
  | 6 => .array .int
  | 7 => .array .int
  | _ => .array .int
abbrev wsX00 : List Cond := u_ws RX0 TX0 9
theorem nmX0 : ∀ a, a < 9 → ∀ b, b < 9 → a ≠ b → (TX0 a).2.1 ≠ (TX0 b).2.1 := by decide +kernel
theorem tyX0_ok : ∀ k, k < 9 → parseFieldDescriptor (TX0 k).2.2.1 = some (tyX0 k) := by decide +kernel
abbrev cX0_init : ByteArray := prog_2_method_1_code
def yX0_init : MethodName := ⟨RX0, "<init>", "()V"⟩
abbrev cX0_fits : ByteArray := prog_2_method_2_code
def yX0_fits : MethodName := ⟨RX0, "fits", "(II)Z"⟩
abbrev cX0_readThings : ByteArray := prog_2_method_3_code
def yX0_readThings : MethodName := ⟨RX0, "readThings", "()V"⟩
abbrev cX0_openAllBut : ByteArray := prog_2_method_4_code
def yX0_openAllBut : MethodName := ⟨RX0, "openAllBut", "(I)V"⟩
abbrev cX0_fillStepsTo : ByteArray := prog_2_method_5_code
def yX0_fillStepsTo : MethodName := ⟨RX0, "fillStepsTo", "(I[II)V"⟩
def RX1 : String := "DollsAhead$Events"
def TX1 : u_T := fun k => match k with
  | 0 => ("DollsAhead$Events", "kinds", "[I", true)
  | 1 => ("DollsAhead$Events", "hours", "[I", true)
  | 2 => ("DollsAhead$Events", "numbers", "[I", true)
  | _ => ("DollsAhead$Events", "size", "I", false)
def tyX1 : Nat → FieldType := fun k => match k with
  | 0 => .array .int
  | 1 => .array .int
  | 2 => .array .int
  | _ => .int
abbrev wsX10 : List Cond := u_ws RX1 TX1 4
theorem nmX1 : ∀ a, a < 4 → ∀ b, b < 4 → a ≠ b → (TX1 a).2.1 ≠ (TX1 b).2.1 := by decide +kernel
theorem tyX1_ok : ∀ k, k < 4 → parseFieldDescriptor (TX1 k).2.2.1 = some (tyX1 k) := by decide +kernel
abbrev cX1_init : ByteArray := prog_3_method_1_code
def yX1_init : MethodName := ⟨RX1, "<init>", "()V"⟩
abbrev cX1_add : ByteArray := prog_3_method_2_code
def yX1_add : MethodName := ⟨RX1, "add", "(III)V"⟩
abbrev cX1_become : ByteArray := prog_3_method_3_code
def yX1_become : MethodName := ⟨RX1, "become", "(LDollsAhead$Events;)V"⟩
def RX2 : String := "DollsAhead$Lots"
def TX2 : u_T := fun k => match k with
  | _ => ("DollsAhead$Lots", "seed", "I", false)
def tyX2 : Nat → FieldType := fun k => match k with
  | _ => .int
abbrev wsX20 : List Cond := u_ws RX2 TX2 1
theorem nmX2 : ∀ a, a < 1 → ∀ b, b < 1 → a ≠ b → (TX2 a).2.1 ≠ (TX2 b).2.1 := by decide +kernel
theorem tyX2_ok : ∀ k, k < 1 → parseFieldDescriptor (TX2 k).2.2.1 = some (tyX2 k) := by decide +kernel
abbrev cX2_init : ByteArray := prog_4_method_1_code
def yX2_init : MethodName := ⟨RX2, "<init>", "()V"⟩
abbrev cX2_draw : ByteArray := prog_4_method_2_code
def yX2_draw : MethodName := ⟨RX2, "draw", "(I)I"⟩
def RX3 : String := "DollsAhead$People"
def TX3 : u_T := fun k => match k with
  | 0 => ("DollsAhead$Text", "bytes", "[I", true)
  | 1 => ("DollsAhead$Text", "limit", "I", true)
  | 2 => ("DollsAhead$Text", "part", "I", true)
  | 3 => ("DollsAhead$Text", "size", "I", false)
  | 4 => ("DollsAhead$Text", "faultPlace", "I", false)
  | 5 => ("DollsAhead$Text", "many", "I", false)
  | 6 => ("DollsAhead$People", "sorts", "[I", true)
  | 7 => ("DollsAhead$People", "starts", "[I", true)
  | _ => ("DollsAhead$People", "beds", "[I", true)
def tyX3 : Nat → FieldType := fun k => match k with
  | 0 => .array .int
  | 1 => .int
  | 2 => .int
  | 3 => .int
  | 4 => .int
  | 5 => .int
  | 6 => .array .int
  | 7 => .array .int
  | _ => .array .int
abbrev wsX30 : List Cond := u_ws RX3 TX3 9
theorem nmX3 : ∀ a, a < 9 → ∀ b, b < 9 → a ≠ b → (TX3 a).2.1 ≠ (TX3 b).2.1 := by decide +kernel
theorem tyX3_ok : ∀ k, k < 9 → parseFieldDescriptor (TX3 k).2.2.1 = some (tyX3 k) := by decide +kernel
abbrev cX3_init : ByteArray := prog_5_method_1_code
def yX3_init : MethodName := ⟨RX3, "<init>", "()V"⟩
abbrev cX3_fits : ByteArray := prog_5_method_2_code
def yX3_fits : MethodName := ⟨RX3, "fits", "(II)Z"⟩
abbrev cX3_readThings : ByteArray := prog_5_method_3_code
def yX3_readThings : MethodName := ⟨RX3, "readThings", "()V"⟩
abbrev cX3_sortAt : ByteArray := prog_5_method_4_code
def yX3_sortAt : MethodName := ⟨RX3, "sortAt", "(I)I"⟩
def RX4 : String := "DollsAhead$Sheet"
def TX4 : u_T := fun k => match k with
  | 0 => ("DollsAhead$Sheet", "items", "[I", true)
  | 1 => ("DollsAhead$Sheet", "form", "I", false)
  | _ => ("DollsAhead$Sheet", "size", "I", false)
def tyX4 : Nat → FieldType := fun k => match k with
  | 0 => .array .int
  | 1 => .int
  | _ => .int
abbrev wsX40 : List Cond := u_ws RX4 TX4 3
theorem nmX4 : ∀ a, a < 3 → ∀ b, b < 3 → a ≠ b → (TX4 a).2.1 ≠ (TX4 b).2.1 := by decide +kernel
theorem tyX4_ok : ∀ k, k < 3 → parseFieldDescriptor (TX4 k).2.2.1 = some (tyX4 k) := by decide +kernel
abbrev cX4_init : ByteArray := prog_6_method_1_code
def yX4_init : MethodName := ⟨RX4, "<init>", "()V"⟩
abbrev cX4_isLost : ByteArray := prog_6_method_2_code
def yX4_isLost : MethodName := ⟨RX4, "isLost", "()Z"⟩
abbrev cX4_become : ByteArray := prog_6_method_3_code
def yX4_become : MethodName := ⟨RX4, "become", "(II)V"⟩
abbrev cX4_holds : ByteArray := prog_6_method_4_code
def yX4_holds : MethodName := ⟨RX4, "holds", "(II)Z"⟩
abbrev cX4_lay : ByteArray := prog_6_method_5_code
def yX4_lay : MethodName := ⟨RX4, "lay", "(II)V"⟩
def RX5 : String := "DollsAhead$Sights"
def TX5 : u_T := fun k => match k with
  | 0 => ("DollsAhead$Sights", "hours", "[I", true)
  | 1 => ("DollsAhead$Sights", "persons", "[I", true)
  | 2 => ("DollsAhead$Sights", "rooms", "[I", true)
  | _ => ("DollsAhead$Sights", "size", "I", false)
def tyX5 : Nat → FieldType := fun k => match k with
  | 0 => .array .int
  | 1 => .array .int
  | 2 => .array .int
  | _ => .int
abbrev wsX50 : List Cond := u_ws RX5 TX5 4
theorem nmX5 : ∀ a, a < 4 → ∀ b, b < 4 → a ≠ b → (TX5 a).2.1 ≠ (TX5 b).2.1 := by decide +kernel
theorem tyX5_ok : ∀ k, k < 4 → parseFieldDescriptor (TX5 k).2.2.1 = some (tyX5 k) := by decide +kernel
abbrev cX5_init : ByteArray := prog_7_method_1_code
def yX5_init : MethodName := ⟨RX5, "<init>", "()V"⟩
abbrev cX5_add : ByteArray := prog_7_method_2_code
def yX5_add : MethodName := ⟨RX5, "add", "(III)V"⟩
abbrev cX5_allIn : ByteArray := prog_7_method_3_code
def yX5_allIn : MethodName := ⟨RX5, "allIn", "(LDollsAhead$Week;)Z"⟩
def RX6 : String := "DollsAhead$Text"
abbrev cX6_init : ByteArray := prog_8_method_1_code
def yX6_init : MethodName := ⟨RX6, "<init>", "(II)V"⟩
abbrev cX6_isFull : ByteArray := prog_8_method_4_code
def yX6_isFull : MethodName := ⟨RX6, "isFull", "()Z"⟩
abbrev cX6_add : ByteArray := prog_8_method_5_code
def yX6_add : MethodName := ⟨RX6, "add", "(I)V"⟩
abbrev cX6_shorten : ByteArray := prog_8_method_6_code
def yX6_shorten : MethodName := ⟨RX6, "shorten", "(I)V"⟩
abbrev cX6_isFigure : ByteArray := prog_8_method_7_code
def yX6_isFigure : MethodName := ⟨RX6, "isFigure", "(I)Z"⟩
abbrev cX6_figure : ByteArray := prog_8_method_8_code
def yX6_figure : MethodName := ⟨RX6, "figure", "(I)I"⟩
abbrev cX6_understand : ByteArray := prog_8_method_9_code
def yX6_understand : MethodName := ⟨RX6, "understand", "()V"⟩
abbrev cX6_firstFault : ByteArray := prog_8_method_10_code
def yX6_firstFault : MethodName := ⟨RX6, "firstFault", "()I"⟩
def RX7 : String := "DollsAhead$Week"
def TX7 : u_T := fun k => match k with
  | 0 => ("DollsAhead$Week", "doors", "LDollsAhead$Doors;", true)
  | 1 => ("DollsAhead$Week", "people", "LDollsAhead$People;", true)
  | 2 => ("DollsAhead$Week", "where", "[I", true)
  | 3 => ("DollsAhead$Week", "hams", "[I", true)
  | 4 => ("DollsAhead$Week", "shuts", "[I", true)
  | 5 => ("DollsAhead$Week", "tables", "[I", true)
  | 6 => ("DollsAhead$Week", "steps", "[I", true)
  | 7 => ("DollsAhead$Week", "shutInSpan", "[I", true)
  | 8 => ("DollsAhead$Week", "events", "LDollsAhead$Events;", false)
  | 9 => ("DollsAhead$Week", "without", "I", false)
  | 10 => ("DollsAhead$Week", "lead", "I", false)
  | 11 => ("DollsAhead$Week", "who", "I", false)
  | 12 => ("DollsAhead$Week", "sortOfWho", "I", false)
  | _ => ("DollsAhead$Week", "bedOfWho", "I", false)
def tyX7 : Nat → FieldType := fun k => match k with
  | 0 => .object "DollsAhead$Doors"
  | 1 => .object "DollsAhead$People"
  | 2 => .array .int
  | 3 => .array .int
  | 4 => .array .int
  | 5 => .array .int
  | 6 => .array .int
  | 7 => .array .int
  | 8 => .object "DollsAhead$Events"
  | 9 => .int
  | 10 => .int
  | 11 => .int
  | 12 => .int
  | _ => .int
abbrev wsX70 : List Cond := u_ws RX7 TX7 14
theorem nmX7 : ∀ a, a < 14 → ∀ b, b < 14 → a ≠ b → (TX7 a).2.1 ≠ (TX7 b).2.1 := by decide +kernel
theorem tyX7_ok : ∀ k, k < 14 → parseFieldDescriptor (TX7 k).2.2.1 = some (tyX7 k) := by decide +kernel
abbrev cX7_init : ByteArray := prog_9_method_1_code
def yX7_init : MethodName := ⟨RX7, "<init>", "(LDollsAhead$Doors;LDollsAhead$People;LDollsAhead$Events;)V"⟩
abbrev cX7_forgetSteps : ByteArray := prog_9_method_2_code
def yX7_forgetSteps : MethodName := ⟨RX7, "forgetSteps", "()V"⟩
abbrev cX7_suppose : ByteArray := prog_9_method_3_code
def yX7_suppose : MethodName := ⟨RX7, "suppose", "(III)V"⟩
abbrev cX7_runWith : ByteArray := prog_9_method_4_code
def yX7_runWith : MethodName := ⟨RX7, "runWith", "(LDollsAhead$Events;II)V"⟩
abbrev cX7_layHours : ByteArray := prog_9_method_5_code
def yX7_layHours : MethodName := ⟨RX7, "layHours", "()V"⟩
abbrev cX7_layTables : ByteArray := prog_9_method_6_code
def yX7_layTables : MethodName := ⟨RX7, "layTables", "()V"⟩
abbrev cX7_walk : ByteArray := prog_9_method_7_code
def yX7_walk : MethodName := ⟨RX7, "walk", "(II)V"⟩
abbrev cX7_sortOf : ByteArray := prog_9_method_8_code
def yX7_sortOf : MethodName := ⟨RX7, "sortOf", "(I)I"⟩
abbrev cX7_bedOf : ByteArray := prog_9_method_9_code
def yX7_bedOf : MethodName := ⟨RX7, "bedOf", "(I)I"⟩
abbrev cX7_roomOf : ByteArray := prog_9_method_10_code
def yX7_roomOf : MethodName := ⟨RX7, "roomOf", "(II)I"⟩
abbrev cX7_whoIn : ByteArray := prog_9_method_11_code
def yX7_whoIn : MethodName := ⟨RX7, "whoIn", "(II)I"⟩
abbrev cX7_doorsBetween : ByteArray := prog_9_method_12_code
def yX7_doorsBetween : MethodName := ⟨RX7, "doorsBetween", "(III)I"⟩
abbrev cX7_emptyHours : ByteArray := prog_9_method_13_code
def yX7_emptyHours : MethodName := ⟨RX7, "emptyHours", "(I)I"⟩
abbrev cX7_aloneBehind : ByteArray := prog_9_method_14_code
def yX7_aloneBehind : MethodName := ⟨RX7, "aloneBehind", "(I)I"⟩
abbrev cX7_hoursAlone : ByteArray := prog_9_method_15_code
def yX7_hoursAlone : MethodName := ⟨RX7, "hoursAlone", "(I)I"⟩
abbrev cX7_mostIn : ByteArray := prog_9_method_16_code
def yX7_mostIn : MethodName := ⟨RX7, "mostIn", "(I)I"⟩
abbrev cX7_firstRoomOf : ByteArray := prog_9_method_17_code
def yX7_firstRoomOf : MethodName := ⟨RX7, "firstRoomOf", "(II)I"⟩
abbrev cX7_findingHour : ByteArray := prog_9_method_18_code
def yX7_findingHour : MethodName := ⟨RX7, "findingHour", "()I"⟩
abbrev cX7_finder : ByteArray := prog_9_method_19_code
def yX7_finder : MethodName := ⟨RX7, "finder", "(I)I"⟩
abbrev cX7_childWith : ByteArray := prog_9_method_20_code
def yX7_childWith : MethodName := ⟨RX7, "childWith", "(II)I"⟩
def RX8 : String := "DollsAhead"
def TX8 : u_T := fun k => match k with
  | 0 => ("DollsAhead", "doors", "LDollsAhead$Doors;", true)
  | 1 => ("DollsAhead", "people", "LDollsAhead$People;", true)
  | 2 => ("DollsAhead", "told", "LDollsAhead$Events;", true)
  | 3 => ("DollsAhead", "supposed", "LDollsAhead$Events;", true)
  | 4 => ("DollsAhead", "lots", "LDollsAhead$Lots;", true)
  | 5 => ("DollsAhead", "sights", "LDollsAhead$Sights;", true)
  | 6 => ("DollsAhead", "sheets", "[LDollsAhead$Sheet;", true)
  | 7 => ("DollsAhead", "now", "LDollsAhead$Week;", true)
  | 8 => ("DollsAhead", "trial", "LDollsAhead$Week;", true)
  | 9 => ("DollsAhead", "paths", "[I", true)
  | 10 => ("DollsAhead", "crowds", "[I", true)
  | 11 => ("DollsAhead", "odds", "[J", true)
  | 12 => ("DollsAhead", "lead", "I", false)
  | 13 => ("DollsAhead", "finding", "I", false)
  | 14 => ("DollsAhead", "nowStands", "Z", false)
  | 15 => ("DollsAhead", "oddsSixteenths", "I", false)
  | _ => ("DollsAhead", "oddsHour", "I", false)
def tyX8 : Nat → FieldType := fun k => match k with
  | 0 => .object "DollsAhead$Doors"
  | 1 => .object "DollsAhead$People"
  | 2 => .object "DollsAhead$Events"
  | 3 => .object "DollsAhead$Events"
  | 4 => .object "DollsAhead$Lots"
  | 5 => .object "DollsAhead$Sights"
  | 6 => .array (.object "DollsAhead$Sheet")
  | 7 => .object "DollsAhead$Week"
  | 8 => .object "DollsAhead$Week"
  | 9 => .array .int
  | 10 => .array .int
  | 11 => .array .long
  | 12 => .int
  | 13 => .int
  | 14 => .boolean
  | 15 => .int
  | _ => .int
abbrev wsX80 : List Cond := u_ws RX8 TX8 17
theorem nmX8 : ∀ a, a < 17 → ∀ b, b < 17 → a ≠ b → (TX8 a).2.1 ≠ (TX8 b).2.1 := by decide +kernel
theorem tyX8_ok : ∀ k, k < 17 → parseFieldDescriptor (TX8 k).2.2.1 = some (tyX8 k) := by decide +kernel
abbrev cX8_init : ByteArray := prog_1_method_1_code
def yX8_init : MethodName := ⟨RX8, "<init>", "()V"⟩
abbrev cX8_type : ByteArray := prog_1_method_2_code
def yX8_type : MethodName := ⟨RX8, "type", "(II)I"⟩
abbrev cX8_wipe : ByteArray := prog_1_method_3_code
def yX8_wipe : MethodName := ⟨RX8, "wipe", "(I)I"⟩
abbrev cX8_undo : ByteArray := prog_1_method_4_code
def yX8_undo : MethodName := ⟨RX8, "undo", "(I)I"⟩
abbrev cX8_fault : ByteArray := prog_1_method_5_code
def yX8_fault : MethodName := ⟨RX8, "fault", "(I)I"⟩
abbrev cX8_door : ByteArray := prog_1_method_6_code
def yX8_door : MethodName := ⟨RX8, "door", "(II)I"⟩
abbrev cX8_person : ByteArray := prog_1_method_7_code
def yX8_person : MethodName := ⟨RX8, "person", "(II)I"⟩
abbrev cX8_ahead : ByteArray := prog_1_method_8_code
def yX8_ahead : MethodName := ⟨RX8, "ahead", "(I)I"⟩
abbrev cX8_event : ByteArray := prog_1_method_9_code
def yX8_event : MethodName := ⟨RX8, "event", "(III)I"⟩
abbrev cX8_back : ByteArray := prog_1_method_10_code
def yX8_back : MethodName := ⟨RX8, "back", "()I"⟩
abbrev cX8_read : ByteArray := prog_1_method_11_code
def yX8_read : MethodName := ⟨RX8, "read", "(I)I"⟩
abbrev cX8_at : ByteArray := prog_1_method_12_code
def yX8_at : MethodName := ⟨RX8, "at", "(III)I"⟩
abbrev cX8_room : ByteArray := prog_1_method_13_code
def yX8_room : MethodName := ⟨RX8, "room", "(II)I"⟩
abbrev cX8_far : ByteArray := prog_1_method_14_code
def yX8_far : MethodName := ⟨RX8, "far", "(III)I"⟩
abbrev cX8_meet : ByteArray := prog_1_method_15_code
def yX8_meet : MethodName := ⟨RX8, "meet", "(II)I"⟩
abbrev cX8_empty : ByteArray := prog_1_method_16_code
def yX8_empty : MethodName := ⟨RX8, "empty", "(I)I"⟩
abbrev cX8_found : ByteArray := prog_1_method_17_code
def yX8_found : MethodName := ⟨RX8, "found", "(I)I"⟩
abbrev cX8_crowd : ByteArray := prog_1_method_18_code
def yX8_crowd : MethodName := ⟨RX8, "crowd", "(I)I"⟩
abbrev cX8_alone : ByteArray := prog_1_method_19_code
def yX8_alone : MethodName := ⟨RX8, "alone", "()I"⟩
abbrev cX8_sleep : ByteArray := prog_1_method_20_code
def yX8_sleep : MethodName := ⟨RX8, "sleep", "(II)I"⟩
abbrev cX8_nice : ByteArray := prog_1_method_21_code
def yX8_nice : MethodName := ⟨RX8, "nice", "(II)I"⟩
abbrev cX8_lens : ByteArray := prog_1_method_22_code
def yX8_lens : MethodName := ⟨RX8, "lens", "(I)I"⟩
abbrev cX8_spare : ByteArray := prog_1_method_23_code
def yX8_spare : MethodName := ⟨RX8, "spare", "(I)I"⟩
abbrev cX8_seen : ByteArray := prog_1_method_24_code
def yX8_seen : MethodName := ⟨RX8, "seen", "(III)I"⟩
abbrev cX8_forget : ByteArray := prog_1_method_25_code
def yX8_forget : MethodName := ⟨RX8, "forget", "()I"⟩
abbrev cX8_never : ByteArray := prog_1_method_26_code
def yX8_never : MethodName := ⟨RX8, "never", "()I"⟩
abbrev cX8_was : ByteArray := prog_1_method_27_code
def yX8_was : MethodName := ⟨RX8, "was", "(II)I"⟩
abbrev cX8_ask : ByteArray := prog_1_method_28_code
def yX8_ask : MethodName := ⟨RX8, "ask", "(I)I"⟩
abbrev cX8_chance : ByteArray := prog_1_method_29_code
def yX8_chance : MethodName := ⟨RX8, "chance", "(IIII)J"⟩
abbrev cX8_weeks : ByteArray := prog_1_method_30_code
def yX8_weeks : MethodName := ⟨RX8, "weeks", "(III)I"⟩
abbrev cX8_sheet : ByteArray := prog_1_method_31_code
def yX8_sheet : MethodName := ⟨RX8, "sheet", "(III)I"⟩
abbrev cX8_lose : ByteArray := prog_1_method_32_code
def yX8_lose : MethodName := ⟨RX8, "lose", "(I)I"⟩
abbrev cX8_put : ByteArray := prog_1_method_33_code
def yX8_put : MethodName := ⟨RX8, "put", "(IIII)I"⟩
abbrev cX8_get : ByteArray := prog_1_method_34_code
def yX8_get : MethodName := ⟨RX8, "get", "(III)I"⟩
abbrev cX8_copy : ByteArray := prog_1_method_35_code
def yX8_copy : MethodName := ⟨RX8, "copy", "(IIIII)I"⟩
abbrev cX8_write : ByteArray := prog_1_method_36_code
def yX8_write : MethodName := ⟨RX8, "write", "(II)I"⟩
abbrev cX8_count : ByteArray := prog_1_method_37_code
def yX8_count : MethodName := ⟨RX8, "count", "(I)I"⟩
abbrev cX8_digest : ByteArray := prog_1_method_38_code
def yX8_digest : MethodName := ⟨RX8, "digest", "()J"⟩
abbrev cX8_mix : ByteArray := prog_1_method_39_code
def yX8_mix : MethodName := ⟨RX8, "mix", "(JJ)J"⟩
abbrev cX8_mixStays : ByteArray := prog_1_method_40_code
def yX8_mixStays : MethodName := ⟨RX8, "mixStays", "(JI)J"⟩
abbrev cX8_mixGuesses : ByteArray := prog_1_method_41_code
def yX8_mixGuesses : MethodName := ⟨RX8, "mixGuesses", "(JI)J"⟩
abbrev cX8_within : ByteArray := prog_1_method_42_code
def yX8_within : MethodName := ⟨RX8, "within", "(III)Z"⟩
abbrev cX8_isHour : ByteArray := prog_1_method_43_code
def yX8_isHour : MethodName := ⟨RX8, "isHour", "(I)Z"⟩
abbrev cX8_isRoom : ByteArray := prog_1_method_44_code
def yX8_isRoom : MethodName := ⟨RX8, "isRoom", "(I)Z"⟩
abbrev cX8_isSheet : ByteArray := prog_1_method_45_code
def yX8_isSheet : MethodName := ⟨RX8, "isSheet", "(I)Z"⟩
abbrev cX8_isForm : ByteArray := prog_1_method_46_code
def yX8_isForm : MethodName := ⟨RX8, "isForm", "(I)Z"⟩
abbrev cX8_isEvent : ByteArray := prog_1_method_47_code
def yX8_isEvent : MethodName := ⟨RX8, "isEvent", "(III)Z"⟩
abbrev cX8_isPerson : ByteArray := prog_1_method_48_code
def yX8_isPerson : MethodName := ⟨RX8, "isPerson", "(I)Z"⟩
abbrev cX8_textOf : ByteArray := prog_1_method_49_code
def yX8_textOf : MethodName := ⟨RX8, "textOf", "(I)LDollsAhead$Text;"⟩
abbrev cX8_textChanged : ByteArray := prog_1_method_50_code
def yX8_textChanged : MethodName := ⟨RX8, "textChanged", "()V"⟩
abbrev cX8_changed : ByteArray := prog_1_method_51_code
def yX8_changed : MethodName := ⟨RX8, "changed", "()V"⟩
abbrev cX8_weekAsTold : ByteArray := prog_1_method_52_code
def yX8_weekAsTold : MethodName := ⟨RX8, "weekAsTold", "()LDollsAhead$Week;"⟩
abbrev cX8_emptyHoursOfAll : ByteArray := prog_1_method_53_code
def yX8_emptyHoursOfAll : MethodName := ⟨RX8, "emptyHoursOfAll", "()I"⟩
abbrev cX8_sparedRow : ByteArray := prog_1_method_54_code
def yX8_sparedRow : MethodName := ⟨RX8, "sparedRow", "()I"⟩
abbrev cX8_nobodyAloneWithout : ByteArray := prog_1_method_55_code
def yX8_nobodyAloneWithout : MethodName := ⟨RX8, "nobodyAloneWithout", "(I)Z"⟩
abbrev cX8_placeOfBit : ByteArray := prog_1_method_56_code
def yX8_placeOfBit : MethodName := ⟨RX8, "placeOfBit", "(II)I"⟩
abbrev cX8_sortsThatFit : ByteArray := prog_1_method_57_code
def yX8_sortsThatFit : MethodName := ⟨RX8, "sortsThatFit", "(I)I"⟩
abbrev cX8_bedsThatFit : ByteArray := prog_1_method_58_code
def yX8_bedsThatFit : MethodName := ⟨RX8, "bedsThatFit", "(I)I"⟩
abbrev cX8_mostBedsInOneRoom : ByteArray := prog_1_method_59_code
def yX8_mostBedsInOneRoom : MethodName := ⟨RX8, "mostBedsInOneRoom", "(II)I"⟩
abbrev cX8_weighOdds : ByteArray := prog_1_method_60_code
def yX8_weighOdds : MethodName := ⟨RX8, "weighOdds", "(II)V"⟩
abbrev cX8_weightOf : ByteArray := prog_1_method_61_code
def yX8_weightOf : MethodName := ⟨RX8, "weightOf", "(II)J"⟩
abbrev cX8_addOdds : ByteArray := prog_1_method_62_code
def yX8_addOdds : MethodName := ⟨RX8, "addOdds", "(IJ)V"⟩
abbrev cX8_refuse : ByteArray := prog_1_method_63_code
def yX8_refuse : MethodName := ⟨RX8, "refuse", "(I)I"⟩
abbrev cX8_refusalOfItem : ByteArray := prog_1_method_64_code
def yX8_refusalOfItem : MethodName := ⟨RX8, "refusalOfItem", "(III)I"⟩
def RX9 : String := "DollsAheadModel"
def TX9 : u_T := fun k => match k with
  | 0 => ("DollsAheadModel", "typed", "[I", true)
  | 1 => ("DollsAheadModel", "texts", "[I", true)
  | 2 => ("DollsAheadModel", "doors", "I", false)
  | 3 => ("DollsAheadModel", "ones", "[I", true)
  | 4 => ("DollsAheadModel", "others", "[I", true)
  | 5 => ("DollsAheadModel", "people", "I", false)
  | 6 => ("DollsAheadModel", "sorts", "[I", true)
  | 7 => ("DollsAheadModel", "rooms", "[I", true)
  | 8 => ("DollsAheadModel", "beds", "[I", true)
  | 9 => ("DollsAheadModel", "aheadTold", "I", false)
  | 10 => ("DollsAheadModel", "events", "I", false)
  | 11 => ("DollsAheadModel", "eventKind", "[I", true)
  | 12 => ("DollsAheadModel", "eventHour", "[I", true)
  | 13 => ("DollsAheadModel", "eventNumber", "[I", true)
  | 14 => ("DollsAheadModel", "aheadNow", "I", false)
  | 15 => ("DollsAheadModel", "eventsNow", "I", false)
  | 16 => ("DollsAheadModel", "kindNow", "[I", true)
  | 17 => ("DollsAheadModel", "hourNow", "[I", true)
  | 18 => ("DollsAheadModel", "numberNow", "[I", true)
  | 19 => ("DollsAheadModel", "notEvents", "I", false)
  | 20 => ("DollsAheadModel", "ham", "I", false)
  | 21 => ("DollsAheadModel", "shutBits", "I", false)
  | 22 => ("DollsAheadModel", "hamAt", "[I", true)
  | 23 => ("DollsAheadModel", "farAt", "[I", true)
  | 24 => ("DollsAheadModel", "roomAt", "[I", true)
  | 25 => ("DollsAheadModel", "planRow", "[I", true)
  | 26 => ("DollsAheadModel", "seens", "I", false)
  | 27 => ("DollsAheadModel", "seenHour", "[I", true)
  | 28 => ("DollsAheadModel", "seenWho", "[I", true)
  | 29 => ("DollsAheadModel", "seenRoom", "[I", true)
  | 30 => ("DollsAheadModel", "roomBy", "[I", true)
  | 31 => ("DollsAheadModel", "isThere", "[Z", true)
  | 32 => ("DollsAheadModel", "forms", "[I", true)
  | 33 => ("DollsAheadModel", "sizes", "[I", true)
  | 34 => ("DollsAheadModel", "items", "[I", true)
  | 35 => ("DollsAheadModel", "moved", "[I", true)
  | _ => ("DollsAheadModel", "finding", "I", false)
def tyX9 : Nat → FieldType := fun k => match k with
  | 0 => .array .int
  | 1 => .array .int
  | 2 => .int
  | 3 => .array .int
  | 4 => .array .int
  | 5 => .int
  | 6 => .array .int
  | 7 => .array .int
  | 8 => .array .int
  | 9 => .int
  | 10 => .int
  | 11 => .array .int
  | 12 => .array .int
  | 13 => .array .int
  | 14 => .int
  | 15 => .int
  | 16 => .array .int
  | 17 => .array .int
  | 18 => .array .int
  | 19 => .int
  | 20 => .int
  | 21 => .int
  | 22 => .array .int
  | 23 => .array .int
  | 24 => .array .int
  | 25 => .array .int
  | 26 => .int
  | 27 => .array .int
  | 28 => .array .int
  | 29 => .array .int
  | 30 => .array .int
  | 31 => .array .boolean
  | 32 => .array .int
  | 33 => .array .int
  | 34 => .array .int
  | 35 => .array .int
  | _ => .int
abbrev wsX90 : List Cond := u_ws RX9 TX9 37
theorem nmX9 : ∀ a, a < 37 → ∀ b, b < 37 → a ≠ b → (TX9 a).2.1 ≠ (TX9 b).2.1 := by decide +kernel
theorem tyX9_ok : ∀ k, k < 37 → parseFieldDescriptor (TX9 k).2.2.1 = some (tyX9 k) := by decide +kernel
abbrev cX9_init : ByteArray := prog_11_method_1_code
def yX9_init : MethodName := ⟨RX9, "<init>", "()V"⟩
abbrev cX9_in : ByteArray := prog_11_method_3_code
def yX9_in : MethodName := ⟨RX9, "in", "(III)Z"⟩
abbrev cX9_isIn : ByteArray := prog_11_method_4_code
def yX9_isIn : MethodName := ⟨RX9, "isIn", "(II)Z"⟩
abbrev cX9_no : ByteArray := prog_11_method_5_code
def yX9_no : MethodName := ⟨RX9, "no", "(I)J"⟩
abbrev cX9_lowest : ByteArray := prog_11_method_6_code
def yX9_lowest : MethodName := ⟨RX9, "lowest", "(JJI)J"⟩
abbrev cX9_isText : ByteArray := prog_11_method_7_code
def yX9_isText : MethodName := ⟨RX9, "isText", "(I)Z"⟩
abbrev cX9_isHour : ByteArray := prog_11_method_8_code
def yX9_isHour : MethodName := ⟨RX9, "isHour", "(I)Z"⟩
abbrev cX9_isTwo : ByteArray := prog_11_method_9_code
def yX9_isTwo : MethodName := ⟨RX9, "isTwo", "(I)Z"⟩
abbrev cX9_isThree : ByteArray := prog_11_method_10_code
def yX9_isThree : MethodName := ⟨RX9, "isThree", "(I)Z"⟩
abbrev cX9_isEight : ByteArray := prog_11_method_11_code
def yX9_isEight : MethodName := ⟨RX9, "isEight", "(I)Z"⟩
abbrev cX9_type : ByteArray := prog_11_method_12_code
def yX9_type : MethodName := ⟨RX9, "type", "(II)I"⟩
abbrev cX9_wipe : ByteArray := prog_11_method_13_code
def yX9_wipe : MethodName := ⟨RX9, "wipe", "(I)I"⟩
abbrev cX9_undo : ByteArray := prog_11_method_14_code
def yX9_undo : MethodName := ⟨RX9, "undo", "(I)I"⟩
abbrev cX9_byteAt : ByteArray := prog_11_method_15_code
def yX9_byteAt : MethodName := ⟨RX9, "byteAt", "(II)I"⟩
abbrev cX9_readsDoor : ByteArray := prog_11_method_16_code
def yX9_readsDoor : MethodName := ⟨RX9, "readsDoor", "(II)I"⟩
abbrev cX9_readsPerson : ByteArray := prog_11_method_17_code
def yX9_readsPerson : MethodName := ⟨RX9, "readsPerson", "(II)I"⟩
abbrev cX9_readsParts : ByteArray := prog_11_method_18_code
def yX9_readsParts : MethodName := ⟨RX9, "readsParts", "(I)I"⟩
abbrev cX9_faultOf : ByteArray := prog_11_method_19_code
def yX9_faultOf : MethodName := ⟨RX9, "faultOf", "(I)I"⟩
abbrev cX9_reads : ByteArray := prog_11_method_20_code
def yX9_reads : MethodName := ⟨RX9, "reads", "()V"⟩
abbrev cX9_fault : ByteArray := prog_11_method_21_code
def yX9_fault : MethodName := ⟨RX9, "fault", "(I)I"⟩
abbrev cX9_isDoor : ByteArray := prog_11_method_22_code
def yX9_isDoor : MethodName := ⟨RX9, "isDoor", "(I)Z"⟩
abbrev cX9_isPerson : ByteArray := prog_11_method_23_code
def yX9_isPerson : MethodName := ⟨RX9, "isPerson", "(I)Z"⟩
abbrev cX9_doorOf : ByteArray := prog_11_method_24_code
def yX9_doorOf : MethodName := ⟨RX9, "doorOf", "(II)I"⟩
abbrev cX9_door : ByteArray := prog_11_method_25_code
def yX9_door : MethodName := ⟨RX9, "door", "(II)I"⟩
abbrev cX9_personOf : ByteArray := prog_11_method_26_code
def yX9_personOf : MethodName := ⟨RX9, "personOf", "(II)I"⟩
abbrev cX9_person : ByteArray := prog_11_method_27_code
def yX9_person : MethodName := ⟨RX9, "person", "(II)I"⟩
abbrev cX9_ahead : ByteArray := prog_11_method_28_code
def yX9_ahead : MethodName := ⟨RX9, "ahead", "(I)I"⟩
abbrev cX9_event : ByteArray := prog_11_method_29_code
def yX9_event : MethodName := ⟨RX9, "event", "(III)I"⟩
abbrev cX9_back : ByteArray := prog_11_method_30_code
def yX9_back : MethodName := ⟨RX9, "back", "()I"⟩
abbrev cX9_read : ByteArray := prog_11_method_31_code
def yX9_read : MethodName := ⟨RX9, "read", "(I)I"⟩
abbrev cX9_asTold : ByteArray := prog_11_method_32_code
def yX9_asTold : MethodName := ⟨RX9, "asTold", "()V"⟩
abbrev cX9_befalls : ByteArray := prog_11_method_33_code
def yX9_befalls : MethodName := ⟨RX9, "befalls", "(I)V"⟩
abbrev cX9_nears : ByteArray := prog_11_method_34_code
def yX9_nears : MethodName := ⟨RX9, "nears", "(IIII)V"⟩
abbrev cX9_measures : ByteArray := prog_11_method_35_code
def yX9_measures : MethodName := ⟨RX9, "measures", "(I)V"⟩
abbrev cX9_isBeside : ByteArray := prog_11_method_36_code
def yX9_isBeside : MethodName := ⟨RX9, "isBeside", "(III)Z"⟩
abbrev cX9_step : ByteArray := prog_11_method_37_code
def yX9_step : MethodName := ⟨RX9, "step", "(III)I"⟩
abbrev cX9_leastChild : ByteArray := prog_11_method_38_code
def yX9_leastChild : MethodName := ⟨RX9, "leastChild", "()I"⟩
abbrev cX9_goesThrough : ByteArray := prog_11_method_39_code
def yX9_goesThrough : MethodName := ⟨RX9, "goesThrough", "(II)V"⟩
abbrev cX9_runs : ByteArray := prog_11_method_40_code
def yX9_runs : MethodName := ⟨RX9, "runs", "()V"⟩
abbrev cX9_runsTold : ByteArray := prog_11_method_41_code
def yX9_runsTold : MethodName := ⟨RX9, "runsTold", "()V"⟩
abbrev cX9_atOf : ByteArray := prog_11_method_42_code
def yX9_atOf : MethodName := ⟨RX9, "atOf", "(III)I"⟩
abbrev cX9_at : ByteArray := prog_11_method_43_code
def yX9_at : MethodName := ⟨RX9, "at", "(III)I"⟩
abbrev cX9_inRoom : ByteArray := prog_11_method_44_code
def yX9_inRoom : MethodName := ⟨RX9, "inRoom", "(II)I"⟩
abbrev cX9_roomOf : ByteArray := prog_11_method_45_code
def yX9_roomOf : MethodName := ⟨RX9, "roomOf", "(II)I"⟩
abbrev cX9_room : ByteArray := prog_11_method_46_code
def yX9_room : MethodName := ⟨RX9, "room", "(II)I"⟩
abbrev cX9_farOf : ByteArray := prog_11_method_47_code
def yX9_farOf : MethodName := ⟨RX9, "farOf", "(III)I"⟩
abbrev cX9_far : ByteArray := prog_11_method_48_code
def yX9_far : MethodName := ⟨RX9, "far", "(III)I"⟩
abbrev cX9_metOf : ByteArray := prog_11_method_49_code
def yX9_metOf : MethodName := ⟨RX9, "metOf", "(II)I"⟩
abbrev cX9_meet : ByteArray := prog_11_method_50_code
def yX9_meet : MethodName := ⟨RX9, "meet", "(II)I"⟩
abbrev cX9_emptyNow : ByteArray := prog_11_method_51_code
def yX9_emptyNow : MethodName := ⟨RX9, "emptyNow", "(I)I"⟩
abbrev cX9_emptyOf : ByteArray := prog_11_method_52_code
def yX9_emptyOf : MethodName := ⟨RX9, "emptyOf", "(I)I"⟩
abbrev cX9_empty : ByteArray := prog_11_method_53_code
def yX9_empty : MethodName := ⟨RX9, "empty", "(I)I"⟩
abbrev cX9_foundNow : ByteArray := prog_11_method_54_code
def yX9_foundNow : MethodName := ⟨RX9, "foundNow", "(I)I"⟩
abbrev cX9_foundOf : ByteArray := prog_11_method_55_code
def yX9_foundOf : MethodName := ⟨RX9, "foundOf", "(I)I"⟩
abbrev cX9_found : ByteArray := prog_11_method_56_code
def yX9_found : MethodName := ⟨RX9, "found", "(I)I"⟩
abbrev cX9_many : ByteArray := prog_11_method_57_code
def yX9_many : MethodName := ⟨RX9, "many", "(I)I"⟩
abbrev cX9_crowdOf : ByteArray := prog_11_method_58_code
def yX9_crowdOf : MethodName := ⟨RX9, "crowdOf", "(I)I"⟩
abbrev cX9_crowd : ByteArray := prog_11_method_59_code
def yX9_crowd : MethodName := ⟨RX9, "crowd", "(I)I"⟩
abbrev cX9_isByItself : ByteArray := prog_11_method_60_code
def yX9_isByItself : MethodName := ⟨RX9, "isByItself", "(II)Z"⟩
abbrev cX9_aloneNow : ByteArray := prog_11_method_61_code
def yX9_aloneNow : MethodName := ⟨RX9, "aloneNow", "()I"⟩
abbrev cX9_aloneOf : ByteArray := prog_11_method_62_code
def yX9_aloneOf : MethodName := ⟨RX9, "aloneOf", "()I"⟩
abbrev cX9_alone : ByteArray := prog_11_method_63_code
def yX9_alone : MethodName := ⟨RX9, "alone", "()I"⟩
abbrev cX9_hoursByItself : ByteArray := prog_11_method_64_code
def yX9_hoursByItself : MethodName := ⟨RX9, "hoursByItself", "(I)I"⟩
abbrev cX9_sleepOf : ByteArray := prog_11_method_65_code
def yX9_sleepOf : MethodName := ⟨RX9, "sleepOf", "(II)I"⟩
abbrev cX9_sleep : ByteArray := prog_11_method_66_code
def yX9_sleep : MethodName := ⟨RX9, "sleep", "(II)I"⟩
abbrev cX9_mostAt : ByteArray := prog_11_method_67_code
def yX9_mostAt : MethodName := ⟨RX9, "mostAt", "(I)I"⟩
abbrev cX9_niceOf : ByteArray := prog_11_method_68_code
def yX9_niceOf : MethodName := ⟨RX9, "niceOf", "(II)I"⟩
abbrev cX9_nice : ByteArray := prog_11_method_69_code
def yX9_nice : MethodName := ⟨RX9, "nice", "(II)I"⟩
abbrev cX9_lensOf : ByteArray := prog_11_method_70_code
def yX9_lensOf : MethodName := ⟨RX9, "lensOf", "(I)I"⟩
abbrev cX9_lens : ByteArray := prog_11_method_71_code
def yX9_lens : MethodName := ⟨RX9, "lens", "(I)I"⟩
abbrev cX9_isSpared : ByteArray := prog_11_method_72_code
def yX9_isSpared : MethodName := ⟨RX9, "isSpared", "(I)Z"⟩
abbrev cX9_spareBy : ByteArray := prog_11_method_73_code
def yX9_spareBy : MethodName := ⟨RX9, "spareBy", "()I"⟩
abbrev cX9_ofRow : ByteArray := prog_11_method_74_code
def yX9_ofRow : MethodName := ⟨RX9, "ofRow", "(II)I"⟩
abbrev cX9_spare : ByteArray := prog_11_method_75_code
def yX9_spare : MethodName := ⟨RX9, "spare", "(I)I"⟩
abbrev cX9_seen : ByteArray := prog_11_method_76_code
def yX9_seen : MethodName := ⟨RX9, "seen", "(III)I"⟩
abbrev cX9_forget : ByteArray := prog_11_method_77_code
def yX9_forget : MethodName := ⟨RX9, "forget", "()I"⟩
abbrev cX9_isSeen : ByteArray := prog_11_method_78_code
def yX9_isSeen : MethodName := ⟨RX9, "isSeen", "()Z"⟩
abbrev cX9_neverNow : ByteArray := prog_11_method_79_code
def yX9_neverNow : MethodName := ⟨RX9, "neverNow", "()I"⟩
abbrev cX9_never : ByteArray := prog_11_method_80_code
def yX9_never : MethodName := ⟨RX9, "never", "()I"⟩
abbrev cX9_sortsBy : ByteArray := prog_11_method_81_code
def yX9_sortsBy : MethodName := ⟨RX9, "sortsBy", "(I)I"⟩
abbrev cX9_bedsBy : ByteArray := prog_11_method_82_code
def yX9_bedsBy : MethodName := ⟨RX9, "bedsBy", "(I)I"⟩
abbrev cX9_was : ByteArray := prog_11_method_83_code
def yX9_was : MethodName := ⟨RX9, "was", "(II)I"⟩
abbrev cX9_askOf : ByteArray := prog_11_method_84_code
def yX9_askOf : MethodName := ⟨RX9, "askOf", "(I)I"⟩
abbrev cX9_ask : ByteArray := prog_11_method_85_code
def yX9_ask : MethodName := ⟨RX9, "ask", "(I)I"⟩
abbrev cX9_chanceOf : ByteArray := prog_11_method_86_code
def yX9_chanceOf : MethodName := ⟨RX9, "chanceOf", "(IIII)J"⟩
abbrev cX9_chance : ByteArray := prog_11_method_87_code
def yX9_chance : MethodName := ⟨RX9, "chance", "(IIII)J"⟩
abbrev cX9_weeksOf : ByteArray := prog_11_method_88_code
def yX9_weeksOf : MethodName := ⟨RX9, "weeksOf", "(III)I"⟩
abbrev cX9_weeks : ByteArray := prog_11_method_89_code
def yX9_weeks : MethodName := ⟨RX9, "weeks", "(III)I"⟩
abbrev cX9_meets : ByteArray := prog_11_method_90_code
def yX9_meets : MethodName := ⟨RX9, "meets", "(I)I"⟩
abbrev cX9_isSheet : ByteArray := prog_11_method_91_code
def yX9_isSheet : MethodName := ⟨RX9, "isSheet", "(I)Z"⟩
abbrev cX9_sheet : ByteArray := prog_11_method_92_code
def yX9_sheet : MethodName := ⟨RX9, "sheet", "(III)I"⟩
abbrev cX9_lose : ByteArray := prog_11_method_93_code
def yX9_lose : MethodName := ⟨RX9, "lose", "(I)I"⟩
abbrev cX9_lacks : ByteArray := prog_11_method_94_code
def yX9_lacks : MethodName := ⟨RX9, "lacks", "(III)I"⟩
abbrev cX9_keep : ByteArray := prog_11_method_95_code
def yX9_keep : MethodName := ⟨RX9, "keep", "(III)V"⟩
abbrev cX9_put : ByteArray := prog_11_method_96_code
def yX9_put : MethodName := ⟨RX9, "put", "(IIII)I"⟩
abbrev cX9_get : ByteArray := prog_11_method_97_code
def yX9_get : MethodName := ⟨RX9, "get", "(III)I"⟩
abbrev cX9_copy : ByteArray := prog_11_method_98_code
def yX9_copy : MethodName := ⟨RX9, "copy", "(IIIII)I"⟩
abbrev cX9_write : ByteArray := prog_11_method_99_code
def yX9_write : MethodName := ⟨RX9, "write", "(II)I"⟩
abbrev cX9_sumOf : ByteArray := prog_11_method_100_code
def yX9_sumOf : MethodName := ⟨RX9, "sumOf", "(I)I"⟩
abbrev cX9_count : ByteArray := prog_11_method_101_code
def yX9_count : MethodName := ⟨RX9, "count", "(I)I"⟩
abbrev cX9_hourDigest : ByteArray := prog_11_method_102_code
def yX9_hourDigest : MethodName := ⟨RX9, "hourDigest", "(JII)J"⟩
abbrev cX9_personDigest : ByteArray := prog_11_method_103_code
def yX9_personDigest : MethodName := ⟨RX9, "personDigest", "(JI)J"⟩
abbrev cX9_digest : ByteArray := prog_11_method_104_code
def yX9_digest : MethodName := ⟨RX9, "digest", "()J"⟩
def RJ6 : String := "java/lang/Integer"
abbrev cJ6_bitCount_0f7a4 : ByteArray := prog_12_method_49_code
def yJ6_bitCount_0f7a4 : MethodName := ⟨RJ6, "bitCount", "(I)I"⟩
def RJ9 : String := "java/lang/Math"
abbrev cJ9_max_7cf53 : ByteArray := prog_13_method_65_code
def yJ9_max_7cf53 : MethodName := ⟨RJ9, "max", "(II)I"⟩
abbrev cJ9_min_7cf53 : ByteArray := prog_13_method_69_code
def yJ9_min_7cf53 : MethodName := ⟨RJ9, "min", "(II)I"⟩
def RJ10 : String := "java/lang/System"
def RJ7 : String := "java/util/Arrays"
abbrev cJ7_fill_d0a16 : ByteArray := prog_15_method_101_code
def yJ7_fill_d0a16 : MethodName := ⟨RJ7, "fill", "([JJ)V"⟩
abbrev cJ7_fill_53178 : ByteArray := prog_15_method_103_code
def yJ7_fill_53178 : MethodName := ⟨RJ7, "fill", "([II)V"⟩
def RL : String := "DollsAheadLaw"
abbrev cL_law : ByteArray := code
abbrev vwCl : List vw_C := [(RX0, TX0, 9), (RX1, TX1, 4), (RX2, TX2, 1), (RX3, TX3, 9), (RX4, TX4, 3), (RX5, TX5, 4), (RX7, TX7, 14), (RX8, TX8, 17), (RX9, TX9, 37)]
theorem zq_in0 : ∀ w ∈ wsX00, w ∈ lw_tbl := by decide +kernel
theorem zq_in1 : ∀ w ∈ wsX10, w ∈ lw_tbl := by decide +kernel
theorem zq_in2 : ∀ w ∈ wsX20, w ∈ lw_tbl := by decide +kernel
theorem zq_in3 : ∀ w ∈ wsX30, w ∈ lw_tbl := by decide +kernel
theorem zq_in4 : ∀ w ∈ wsX40, w ∈ lw_tbl := by decide +kernel
theorem zq_in5 : ∀ w ∈ wsX50, w ∈ lw_tbl := by decide +kernel
theorem zq_in7 : ∀ w ∈ wsX70, w ∈ lw_tbl := by decide +kernel
theorem zq_in8 : ∀ w ∈ wsX80, w ∈ lw_tbl := by decide +kernel
theorem zq_in9 : ∀ w ∈ wsX90, w ∈ lw_tbl := by decide +kernel
/-! the world: which cells there are (0 an object of a class with its fields: 0 an int, 1 a reference that may change, n + 2 the cell n for good; 1 ints, 2 longs, 3 booleans, 4 references; 5 the script) -/
def zq_shape : List (Nat × Nat × List Nat) := [(0, 7, [3, 8, 13, 17, 21, 22, 26, 35, 42, 49, 50, 51, 0, 0, 0, 0, 0]), (0, 0, [4, 0, 0, 0, 0, 0, 5, 6, 7]), (1, 35, []), (1, 12, []), (1, 12, []), (1, 8, []), (0, 3, [9, 0, 0, 0, 0, 0, 10, 11, 12]), (1, 35, []), (1, 8, []), (1, 8, []), (1, 8, []), (0, 1, [14, 15, 16, 0]), (1, 9, []), (1, 9, []), (1, 9, []), (0, 1, [18, 19, 20, 0]), (1, 9, []), (1, 9, []), (1, 9, []), (0, 2, [0]), (0, 5, [23, 24, 25, 0]), (1, 8, []), (1, 8, []), (1, 8, []), (4, 4, [25, 27, 29, 31]), (0, 4, [28, 0, 0]), (1, 60, []), (0, 4, [30, 0, 0]), (1, 60, []), (0, 4, [32, 0, 0]), (1, 60, []), (0, 4, [34, 0, 0]), (1, 60, []), (0, 6, [3, 8, 36, 37, 38, 39, 40, 41, 1, 0, 0, 0, 0, 0]), (1, 192, []), (1, 24, []), (1, 24, []), (1, 24, []), (1, 576, []), (1, 9, []), (0, 6, [3, 8, 43, 44, 45, 46, 47, 48, 1, 0, 0, 0, 0, 0]), (1, 192, []), (1, 24, []), (1, 24, []), (1, 24, []), (1, 576, []), (1, 9, []), (1, 192, []), (1, 8, []), (2, 8, []), (0, 8, [53, 54, 0, 55, 56, 0, 57, 58, 59, 0, 0, 60, 61, 62, 0, 0, 63, 64, 65, 0, 0, 0, 66, 67, 68, 69, 0, 70, 71, 72, 73, 74, 75, 76, 77, 78, 0]), (1, 2, []), (1, 70, []), (1, 13, []), (1, 13, []), (1, 9, []), (1, 9, []), (1, 9, []), (1, 9, []), (1, 9, []), (1, 9, []), (1, 9, []), (1, 9, []), (1, 9, []), (1, 24, []), (1, 1536, []), (1, 192, []), (1, 2, []), (1, 8, []), (1, 8, []), (1, 8, []), (1, 192, []), (3, 4, []), (1, 4, []), (1, 4, []), (1, 240, []), (1, 60, []), (5, 0, [])]
abbrev zq_nC : Nat := 77
end
section
/-! ===== an abstract machine over the fixed world: its state is a table of numbers; each instruction is a function; each is held against the machine by one row of the kit ===== -/
abbrev zq_Lo : Type := List (Nat × Value)
abbrev zq_Me : Type := (Nat → Nat → Int32) × (Nat → Nat → Int64) × (Nat → Nat → Nat) × (Nat × (Nat → Int32))
abbrev zq_Rs : Type := List Prop × Nat × zq_Lo × List Value × zq_Me
abbrev zq_Op : Type := zq_Lo → List Value → zq_Me → Option zq_Rs
abbrev zq_G : Type := va_G × (Nat → ClassId) × (Nat → Nat) × (Nat × (Nat → Int32))
def zq_ad (g : zq_G) (k : Nat) : Nat := g.2.2.1 k
def zq_cA (g : zq_G) (k : Nat) : ClassId := g.2.1 k
def zq_W : List Cond := lw_tbl.filter goodWord
theorem zq_inW {w : Cond} (h : w ∈ lw_tbl) (hg : goodWord w = true) : w ∈ zq_W := List.mem_filter.mpr ⟨h, hg⟩
def zq_sh (a : Nat) : Nat × Nat × List Nat := zq_shape.getD a (9, 0, [])
def zq_cv (g : zq_G) (v : Value) : Value := match v with
  | .ref k => .ref (zq_ad g k)
  | w => w
def zq_fv (a j code : Nat) (μ : zq_Me) : Value := match code with
  | 0 => .int (μ.1 a j)
  | 1 => .ref (μ.2.2.1 a j)
  | n + 2 => .ref n
def zq_fvs (a : Nat) (μ : zq_Me) : Nat → List Nat → List Value
  | _, [] => []
  | j, c :: r => zq_fv a j c μ :: zq_fvs a μ (j + 1) r
def zq_ce (g : zq_G) (μ : zq_Me) (a : Nat) : va_E := match zq_sh a with
  | (0, ci, cs) => .inr (ci, (zq_fvs a μ 0 cs).map (zq_cv g))
  | (1, n, _) => .inl (zq_cA g 0, (n, .inl (μ.1 a)))
  | (2, n, _) => .inl (zq_cA g 1, (n, .inr (.inl (μ.2.1 a))))
  | (3, n, _) => .inl (zq_cA g 2, (n, .inl (μ.1 a)))
  | (_, n, cs) => .inl (zq_cA g 3, (n, .inr (.inr (.inr (.inr (fun j => some (zq_ad g (cs.getD j 0))))))))
def zq_ws (g : zq_G) (μ : zq_Me) : va_W := (List.range zq_nC).map (fun a => (zq_ad g a, zq_ce g μ a))
def zq_tys (g : zq_G) : List (ClassId × FieldType) := [(zq_cA g 0, .int), (zq_cA g 1, .long), (zq_cA g 2, .boolean), (zq_cA g 3, .object "DollsAhead$Sheet")]
def zq_A (g : zq_G) : Nat → Prop := fun q => ∃ k, k < zq_nC ∧ q = zq_ad g k
def zq_inj (g : zq_G) : Prop := ∀ i j, i ≤ zq_nC → j ≤ zq_nC → zq_ad g i = zq_ad g j → i = j
theorem zq_at {g : zq_G} {μ : zq_Me} {a : Nat} (h : a < zq_nC) : (zq_ws g μ)[a]? = some (zq_ad g a, zq_ce g μ a) := by
  unfold zq_ws
  rw [List.getElem?_map, List.getElem?_range h]
  rfl
theorem zq_len {g : zq_G} {μ : zq_Me} : (zq_ws g μ).length = zq_nC := by simp [zq_ws]
theorem zq_kind {a : Nat} : (zq_sh a).1 < 5 ∧ a < zq_nC ∨ (zq_sh a).1 = 5 ∧ a = zq_nC ∨ 5 < (zq_sh a).1 := by
  by_cases hl : a < 78
  · have : ∀ b, b < 78 → ((zq_sh b).1 < 5 ∧ b < zq_nC ∨ (zq_sh b).1 = 5 ∧ b = zq_nC ∨ 5 < (zq_sh b).1) := by decide +kernel
    exact this a hl
  · have hn : zq_shape.length = 78 := by decide +kernel
    have h : zq_sh a = (9, 0, []) := by
      unfold zq_sh
      rw [List.getD_eq_getElem?_getD, List.getElem?_eq_none (by omega)]
      rfl
    rw [h]
    exact Or.inr (Or.inr (by decide))
theorem zq_lt {a n : Nat} {x : Nat × List Nat} (h : zq_sh a = (n, x)) (hn : n < 5) : a < zq_nC := by
  rcases zq_kind (a := a) with ⟨-, h2⟩ | ⟨h1, -⟩ | h1
  · exact h2
  · rw [h] at h1; exact absurd h1 (by show ¬ n = 5; omega)
  · rw [h] at h1; exact absurd h1 (by show ¬ 5 < n; omega)
theorem zq_is5 {a : Nat} {x : Nat × List Nat} (h : zq_sh a = (5, x)) : a = zq_nC := by
  rcases zq_kind (a := a) with ⟨h1, -⟩ | ⟨-, h2⟩ | h1
  · rw [h] at h1; exact absurd h1 (by show ¬ 5 < 5; omega)
  · exact h2
  · rw [h] at h1; exact absurd h1 (by show ¬ 5 < 5; omega)
theorem zq_dis {g : zq_G} (h : zq_inj g) (μ : zq_Me) : va_D (zq_A g) (zq_ws g μ) := by
  have key : ∀ (k : Nat) (q : Nat × va_E), (zq_ws g μ)[k]? = some q → k < zq_nC ∧ q.1 = zq_ad g k := by
    intro k q hk
    have hl : k < zq_nC := by
      have h1 := (List.getElem?_eq_some_iff.mp hk).1
      rw [zq_len] at h1
      exact h1
    rw [zq_at hl] at hk
    cases hk
    exact ⟨hl, rfl⟩
  refine ⟨fun i j p q hi hj hpq => ?_, fun k q hk => ?_⟩
  · obtain ⟨a1, a2⟩ := key i p hi
    obtain ⟨b1, b2⟩ := key j q hj
    exact h i j (Nat.le_of_lt a1) (Nat.le_of_lt b1) (by rw [← a2, ← b2]; exact hpq)
  · obtain ⟨a1, a2⟩ := key k q hk
    exact ⟨k, a1, a2⟩
theorem zq_set {g : zq_G} {μ μ' : zq_Me} {a : Nat} {e : va_E} (h1 : zq_ce g μ' a = e) (h2 : ∀ j, j ≠ a → zq_ce g μ' j = zq_ce g μ j) : (zq_ws g μ).set a (zq_ad g a, e) = zq_ws g μ' := by
  apply List.ext_getElem?
  intro k
  by_cases hk : k < zq_nC
  · rw [zq_at hk]
    by_cases hka : a = k
    · subst hka
      rw [List.getElem?_set_self (by rw [zq_len]; exact hk), h1]
    · rw [List.getElem?_set_ne hka, zq_at hk, h2 k (Ne.symm hka)]
  · rw [List.getElem?_eq_none (by rw [List.length_set, zq_len]; omega), List.getElem?_eq_none (by rw [zq_len]; omega)]
def zq_u1 (μ : zq_Me) (a i : Nat) (x : Int32) : zq_Me := (fun b => if b = a then upd (μ.1 a) i x else μ.1 b, μ.2)
def zq_u2 (μ : zq_Me) (a i : Nat) (x : Int64) : zq_Me := (μ.1, fun b => if b = a then vp_updL (μ.2.1 a) i x else μ.2.1 b, μ.2.2)
def zq_u3 (μ : zq_Me) (a i n : Nat) : zq_Me := (μ.1, μ.2.1, fun b => if b = a then (fun j => if j = i then n else μ.2.2.1 a j) else μ.2.2.1 b, μ.2.2.2)
def zq_ur (μ : zq_Me) (a : Nat) (f : Nat → Int32) : zq_Me := (fun b => if b = a then f else μ.1 b, μ.2)
theorem zq_fv_congr {μ μ' : zq_Me} {a : Nat} (h1 : μ.1 a = μ'.1 a) (h3 : μ.2.2.1 a = μ'.2.2.1 a) (j c : Nat) : zq_fv a j c μ = zq_fv a j c μ' := by
  unfold zq_fv
  split
  · rw [h1]
  · rw [h3]
  · rfl
theorem zq_fvs_congr {μ μ' : zq_Me} {a : Nat} (h1 : μ.1 a = μ'.1 a) (h3 : μ.2.2.1 a = μ'.2.2.1 a) : ∀ (cs : List Nat) (j : Nat), zq_fvs a μ j cs = zq_fvs a μ' j cs
  | [], _ => rfl
  | c :: r, j => by
    show zq_fv a j c μ :: zq_fvs a μ (j + 1) r = zq_fv a j c μ' :: zq_fvs a μ' (j + 1) r
    rw [zq_fvs_congr h1 h3 r (j + 1), zq_fv_congr h1 h3]
theorem zq_ce_congr {g : zq_G} {μ μ' : zq_Me} {a : Nat} (h1 : μ.1 a = μ'.1 a) (h2 : μ.2.1 a = μ'.2.1 a) (h3 : μ.2.2.1 a = μ'.2.2.1 a) : zq_ce g μ a = zq_ce g μ' a := by
  unfold zq_ce
  split
  · rw [zq_fvs_congr h1 h3]
  · rw [h1]
  · rw [h2]
  · rw [h1]
  · rfl
theorem zq_fvs_get {μ : zq_Me} {a : Nat} : ∀ (cs : List Nat) (o j : Nat), (zq_fvs a μ o cs)[j]? = (cs[j]?).map (fun c => zq_fv a (o + j) c μ)
  | [], _, _ => by simp [zq_fvs]
  | c :: r, o, 0 => by simp [zq_fvs]
  | c :: r, o, j + 1 => by
    show (zq_fv a o c μ :: zq_fvs a μ (o + 1) r)[j + 1]? = _
    rw [List.getElem?_cons_succ, List.getElem?_cons_succ, zq_fvs_get r (o + 1) j, show o + 1 + j = o + (j + 1) by omega]
theorem zq_fvs_len {μ : zq_Me} {a : Nat} : ∀ (cs : List Nat) (o : Nat), (zq_fvs a μ o cs).length = cs.length
  | [], _ => rfl
  | c :: r, o => by show (zq_fvs a μ (o + 1) r).length + 1 = r.length + 1; rw [zq_fvs_len r (o + 1)]
theorem zq_fvs_set1 {μ : zq_Me} {a j : Nat} {x : Int32} (cs : List Nat) (hj : cs[j]? = some 0) : zq_fvs a (zq_u1 μ a j x) 0 cs = (zq_fvs a μ 0 cs).set j (.int x) := by
  apply List.ext_getElem?
  intro k
  rw [zq_fvs_get]
  by_cases hk : j = k
  · subst hk
    rw [List.getElem?_set_self (by rw [zq_fvs_len]; exact (List.getElem?_eq_some_iff.mp hj).1), hj]
    simp [zq_fv, zq_u1, upd]
  · rw [List.getElem?_set_ne hk, zq_fvs_get]
    cases hc : cs[k]? with
    | none => rfl
    | some c =>
      show some (zq_fv a (0 + k) c _) = some (zq_fv a (0 + k) c _)
      rcases c with _ | _ | n
      · simp [zq_fv, zq_u1, upd, Ne.symm hk]
      · rfl
      · rfl
theorem zq_fvs_set3 {μ : zq_Me} {a j n : Nat} (cs : List Nat) (hj : cs[j]? = some 1) : zq_fvs a (zq_u3 μ a j n) 0 cs = (zq_fvs a μ 0 cs).set j (.ref n) := by
  apply List.ext_getElem?
  intro k
  rw [zq_fvs_get]
  by_cases hk : j = k
  · subst hk
    rw [List.getElem?_set_self (by rw [zq_fvs_len]; exact (List.getElem?_eq_some_iff.mp hj).1), hj]
    simp [zq_fv, zq_u3]
  · rw [List.getElem?_set_ne hk, zq_fvs_get]
    cases hc : cs[k]? with
    | none => rfl
    | some c =>
      show some (zq_fv a (0 + k) c _) = some (zq_fv a (0 + k) c _)
      rcases c with _ | _ | n
      · rfl
      · simp [zq_fv, zq_u3, Ne.symm hk]
      · rfl
/-! the locals: a list by places -/
def zq_lk (i : Nat) : zq_Lo → Option Value
  | [] => none
  | q :: r => bif Nat.beq q.1 i then some q.2 else zq_lk i r
theorem zq_lk_mem {i : Nat} {v : Value} : ∀ {lo : zq_Lo}, zq_lk i lo = some v → (i, v) ∈ lo
  | [], h => by cases h
  | q :: r, h => by
    unfold zq_lk at h
    cases hb : Nat.beq q.1 i with
    | true =>
      rw [hb] at h
      cases h
      have := Nat.eq_of_beq_eq_true hb
      subst this
      exact List.mem_cons_self
    | false =>
      rw [hb] at h
      exact List.mem_cons_of_mem _ (zq_lk_mem h)
def zq_ml (g : zq_G) (lo : zq_Lo) : List (Nat × Value) := lo.map (fun q => (q.1, zq_cv g q.2))
theorem zq_lv {g : zq_G} {ls : Array Slot} {nL i : Nat} {lo : zq_Lo} {v : Value} (h : lv_has ls nL (zq_ml g lo)) (hk : zq_lk i lo = some v) : ls[i]? = some (.val (zq_cv g v)) :=
  h.2.2 (i, zq_cv g v) (List.mem_map.mpr ⟨(i, v), zq_lk_mem hk, rfl⟩)
theorem zq_lv_sub {ls : Array Slot} {nL : Nat} {l l' : List (Nat × Value)} (h : lv_has ls nL l) (hs : ∀ q ∈ l', q ∈ l) : lv_has ls nL l' := ⟨h.1, h.2.1, fun q hq => h.2.2 q (hs q hq)⟩
def zq_ins (i : Nat) (v : Value) : zq_Lo → zq_Lo
  | [] => [(i, v)]
  | q :: r => bif Nat.blt i q.1 then (i, v) :: q :: r else q :: zq_ins i v r
theorem zq_ins_mem {i : Nat} {v : Value} {q : Nat × Value} : ∀ {lo : zq_Lo}, q ∈ zq_ins i v lo → q = (i, v) ∨ q ∈ lo
  | [], h => by
    rcases List.mem_cons.mp h with h | h
    · exact Or.inl h
    · cases h
  | a :: r, h => by
    unfold zq_ins at h
    cases hb : Nat.blt i a.1 with
    | true =>
      rw [hb] at h
      rcases List.mem_cons.mp h with h | h
      · exact Or.inl h
      · exact Or.inr h
    | false =>
      rw [hb] at h
      rcases List.mem_cons.mp h with h | h
      · exact Or.inr (by rw [h]; exact List.mem_cons_self)
      · rcases zq_ins_mem h with h | h
        · exact Or.inl h
        · exact Or.inr (List.mem_cons_of_mem _ h)
def zq_st1 (i : Nat) (v : Value) (lo : zq_Lo) : zq_Lo := zq_ins i v (lo.filter (fun q => !(q.1 == i) && !(q.1 + 1 == i && q.2.category == 2)))
def zq_st2 (i : Nat) (v : Value) (lo : zq_Lo) : zq_Lo := zq_ins i v (lo.filter (fun q => !(q.1 == i) && (!(q.1 == i + 1) && !(q.1 + 1 == i && q.2.category == 2))))
theorem zq_cv_cat (g : zq_G) (v : Value) : (zq_cv g v).category = v.category := by cases v <;> rfl
theorem zq_has1 {g : zq_G} {ls : Array Slot} {nL i : Nat} {lo : zq_Lo} {v : Value} (h : lv_has ls nL ((i, zq_cv g v) :: (zq_ml g lo).filter (fun q => !(q.1 == i) && !(q.1 + 1 == i && q.2.category == 2)))) : lv_has ls nL (zq_ml g (zq_st1 i v lo)) := by
  refine zq_lv_sub h fun q hq => ?_
  obtain ⟨q0, h0, rfl⟩ := List.mem_map.mp hq
  rcases zq_ins_mem h0 with rfl | h1
  · exact List.mem_cons_self
  · obtain ⟨h2, h3⟩ := List.mem_filter.mp h1
    refine List.mem_cons_of_mem _ (List.mem_filter.mpr ⟨List.mem_map.mpr ⟨q0, h2, rfl⟩, ?_⟩)
    dsimp only
    rw [zq_cv_cat]
    exact h3
theorem zq_has2 {g : zq_G} {ls : Array Slot} {nL i : Nat} {lo : zq_Lo} {v : Value} (h : lv_has ls nL ((i, zq_cv g v) :: (zq_ml g lo).filter (fun q => !(q.1 == i) && (!(q.1 == i + 1) && !(q.1 + 1 == i && q.2.category == 2))))) : lv_has ls nL (zq_ml g (zq_st2 i v lo)) := by
  refine zq_lv_sub h fun q hq => ?_
  obtain ⟨q0, h0, rfl⟩ := List.mem_map.mp hq
  rcases zq_ins_mem h0 with rfl | h1
  · exact List.mem_cons_self
  · obtain ⟨h2, h3⟩ := List.mem_filter.mp h1
    refine List.mem_cons_of_mem _ (List.mem_filter.mpr ⟨List.mem_map.mpr ⟨q0, h2, rfl⟩, ?_⟩)
    dsimp only
    rw [zq_cv_cat]
    exact h3
def zq_all : List Prop → Prop
  | [] => True
  | a :: l => a ∧ zq_all l
/-! what holds along a method's walk -/
def zq_Cx (g : zq_G) (cc : ByteArray) (nL : Nat) (own : String) (rf rl : Nat) (R : Room) (p : Program) (s : State) (m : MethodId) (args : Array Value) (c : Code) (cells slots : Nat) : Prop :=
  p.tables.exec = Jvm.exec ∧ c.code = cc ∧ c.maxLocals = nL ∧ s.vm.findClass own = some m.cls ∧ (∀ w ∈ zq_W, w.before args s = true) ∧ va_K g.1 vwCl (zq_tys g) s ∧ va_X (zq_ad g zq_nC) g.2.2.2.1 g.2.2.2.2 s s.heap ∧ zq_ad g zq_nC < s.heap.size ∧ zq_inj g ∧ rf ≤ R.frames ∧ rl ≤ R.locals ∧ cells ≤ R.cells ∧ slots ≤ R.slots
def zq_St (g : zq_G) (s : State) (H : Heap) (locs : List Loc) (nL : Nat) (ls : Array Slot) (lo : zq_Lo) (μ : zq_Me) : Prop :=
  va_P g.1 vwCl (zq_ws g μ) H ∧ va_S (zq_A g) s.heap H locs ∧ lv_has ls nL (zq_ml g lo) ∧ μ.2.2.2 = g.2.2.2
def zq_snd (cc : ByteArray) (nL : Nat) (own : String) (rf rl pc : Nat) (f : zq_Op) : Prop :=
  ∀ (g : zq_G) {p : Program} {l : Launch} {e : Env} {R : Room} {s : State} {m : MethodId} {args : Array Value} {below : List Frame} {meth : Method} {c : Code} {H : Heap} {locs : List Loc} {cells slots : Nat} {Z : State → Prop} {ls : Array Slot} {lo : zq_Lo} {st : List Value} {μ : zq_Me} {P : List Prop} {pc' : Nat} {lo' : zq_Lo} {st' : List Value} {μ' : zq_Me},
    zq_Cx g cc nL own rf rl R p s m args c cells slots → zq_St g s H locs nL ls lo μ → f lo st μ = some (P, pc', lo', st', μ') → zq_all P →
    (∀ (H' : Heap) (locs' : List Loc) (ls' : Array Slot), zq_St g s H' locs' nL ls' lo' μ' → W p l e R s m args below meth c H' locs' cells slots Z (F0 m pc' ls' (st'.map (zq_cv g)))) →
    W p l e R s m args below meth c H locs cells slots Z (F0 m pc ls (st.map (zq_cv g)))
theorem zq_notA {g : zq_G} (h : zq_inj g) : ¬ zq_A g (zq_ad g zq_nC) := by
  rintro ⟨k, h1, h2⟩
  have := h _ _ (Nat.le_refl _) (Nat.le_of_lt h1) h2
  omega
end
section
def zq_push (pc' : Nat) (v : Value) : zq_Op := fun lo st μ => some ([], pc', lo, v :: st, μ)
theorem zq_s_iconst {cc : ByteArray} {nL : Nat} {own : String} {rf rl pc : Nat} {n : Int} {v : Int32} (hdg : decode cc pc = .ok (.iconst n, 1)) (hv : Int32.ofInt n = v) : zq_snd cc nL own rf rl pc (zq_push (pc + 1) (.int v)) := by
  intro g p l e R s m args below meth c H locs cells slots Z ls lo st μ P pc' lo' st' μ' hC hS hf hP k
  obtain ⟨hx, hb, hml, hown, hts, hK, hX, hbl, hJ, hrf, hrl, hce, hsl⟩ := hC
  obtain ⟨hW, hH, hL, hsc⟩ := hS
  cases hf
  exact lv_iconst hx hb hdg hv (k H locs ls ⟨hW, hH, hL, hsc⟩)
theorem zq_s_bipush {cc : ByteArray} {nL : Nat} {own : String} {rf rl pc : Nat} {n : Int} {v : Int32} (hdg : decode cc pc = .ok (.bipush n, 2)) (hv : (Int8.ofInt n).toInt32 = v) : zq_snd cc nL own rf rl pc (zq_push (pc + 2) (.int v)) := by
  intro g p l e R s m args below meth c H locs cells slots Z ls lo st μ P pc' lo' st' μ' hC hS hf hP k
  obtain ⟨hx, hb, hml, hown, hts, hK, hX, hbl, hJ, hrf, hrl, hce, hsl⟩ := hC
  obtain ⟨hW, hH, hL, hsc⟩ := hS
  cases hf
  exact lv_bipush hx hb hdg hv (k H locs ls ⟨hW, hH, hL, hsc⟩)
theorem zq_s_sipush {cc : ByteArray} {nL : Nat} {own : String} {rf rl pc : Nat} {n : Int} {v : Int32} (hdg : decode cc pc = .ok (.sipush n, 3)) (hv : (Int16.ofInt n).toInt32 = v) : zq_snd cc nL own rf rl pc (zq_push (pc + 3) (.int v)) := by
  intro g p l e R s m args below meth c H locs cells slots Z ls lo st μ P pc' lo' st' μ' hC hS hf hP k
  obtain ⟨hx, hb, hml, hown, hts, hK, hX, hbl, hJ, hrf, hrl, hce, hsl⟩ := hC
  obtain ⟨hW, hH, hL, hsc⟩ := hS
  cases hf
  exact lv_sipush hx hb hdg hv (k H locs ls ⟨hW, hH, hL, hsc⟩)
theorem zq_s_lconst {cc : ByteArray} {nL : Nat} {own : String} {rf rl pc : Nat} {n : Fin 2} {v : Int64} (hdg : decode cc pc = .ok (.lconst n, 1)) (hv : Int64.ofNat (n : Nat) = v) : zq_snd cc nL own rf rl pc (zq_push (pc + 1) (.long v)) := by
  intro g p l e R s m args below meth c H locs cells slots Z ls lo st μ P pc' lo' st' μ' hC hS hf hP k
  obtain ⟨hx, hb, hml, hown, hts, hK, hX, hbl, hJ, hrf, hrl, hce, hsl⟩ := hC
  obtain ⟨hW, hH, hL, hsc⟩ := hS
  cases hf
  exact lv_lconst hx hb hdg hv (k H locs ls ⟨hW, hH, hL, hsc⟩)
theorem zq_s_ldc {cc : ByteArray} {nL : Nat} {own : String} {rf rl pc : Nat} {index : Nat} {v : Int32} (hdg : decode cc pc = .ok (.ldc index, 2)) (hw : Cond.constant own index v ∈ zq_W) : zq_snd cc nL own rf rl pc (zq_push (pc + 2) (.int v)) := by
  intro g p l e R s m args below meth c H locs cells slots Z ls lo st μ P pc' lo' st' μ' hC hS hf hP k
  obtain ⟨hx, hb, hml, hown, hts, hK, hX, hbl, hJ, hrf, hrl, hce, hsl⟩ := hC
  obtain ⟨hW, hH, hL, hsc⟩ := hS
  cases hf
  exact lv_ldc hx hb hown (hts _ hw) hdg (k H locs ls ⟨hW, hH, hL, hsc⟩)
theorem zq_s_ldcw {cc : ByteArray} {nL : Nat} {own : String} {rf rl pc : Nat} {index : Nat} {v : Int32} (hdg : decode cc pc = .ok (.ldc_w index, 3)) (hw : Cond.constant own index v ∈ zq_W) : zq_snd cc nL own rf rl pc (zq_push (pc + 3) (.int v)) := by
  intro g p l e R s m args below meth c H locs cells slots Z ls lo st μ P pc' lo' st' μ' hC hS hf hP k
  obtain ⟨hx, hb, hml, hown, hts, hK, hX, hbl, hJ, hrf, hrl, hce, hsl⟩ := hC
  obtain ⟨hW, hH, hL, hsc⟩ := hS
  cases hf
  exact lv_ldcw hx hb hown (hts _ hw) hdg (k H locs ls ⟨hW, hH, hL, hsc⟩)
theorem zq_s_ldc2 {cc : ByteArray} {nL : Nat} {own : String} {rf rl pc : Nat} {index : Nat} {v : Int64} (hdg : decode cc pc = .ok (.ldc2_w index, 3)) (hw : Cond.constantLong own index v ∈ zq_W) : zq_snd cc nL own rf rl pc (zq_push (pc + 3) (.long v)) := by
  intro g p l e R s m args below meth c H locs cells slots Z ls lo st μ P pc' lo' st' μ' hC hS hf hP k
  obtain ⟨hx, hb, hml, hown, hts, hK, hX, hbl, hJ, hrf, hrl, hce, hsl⟩ := hC
  obtain ⟨hW, hH, hL, hsc⟩ := hS
  cases hf
  exact lv_ldc2 hx hb hown (hts _ hw) hdg (k H locs ls ⟨hW, hH, hL, hsc⟩)
theorem zq_s_null {cc : ByteArray} {nL : Nat} {own : String} {rf rl pc : Nat}  (hdg : decode cc pc = .ok (.aconst_null, 1))  : zq_snd cc nL own rf rl pc (zq_push (pc + 1) (.null)) := by
  intro g p l e R s m args below meth c H locs cells slots Z ls lo st μ P pc' lo' st' μ' hC hS hf hP k
  obtain ⟨hx, hb, hml, hown, hts, hK, hX, hbl, hJ, hrf, hrl, hce, hsl⟩ := hC
  obtain ⟨hW, hH, hL, hsc⟩ := hS
  cases hf
  exact lv_null hx hb hdg (k H locs ls ⟨hW, hH, hL, hsc⟩)
def zq_il (pc' i : Nat) : zq_Op := fun lo st μ => match zq_lk i lo with
  | some (.int x) => some ([], pc', lo, .int x :: st, μ)
  | _ => none
def zq_ll (pc' i : Nat) : zq_Op := fun lo st μ => match zq_lk i lo with
  | some (.long x) => some ([], pc', lo, .long x :: st, μ)
  | _ => none
def zq_al (pc' i : Nat) : zq_Op := fun lo st μ => match zq_lk i lo with
  | some (.ref x) => some ([], pc', lo, .ref x :: st, μ)
  | some .null => some ([], pc', lo, .null :: st, μ)
  | _ => none
theorem zq_s_iload_n {cc : ByteArray} {nL : Nat} {own : String} {rf rl pc : Nat} {n : Fin 4} {i : Nat} (hdg : decode cc pc = .ok (.iload_n n, 1)) (hi : (n : Nat) = i) : zq_snd cc nL own rf rl pc (zq_il (pc + 1) i) := by
  intro g p l e R s m args below meth c H locs cells slots Z ls lo st μ P pc' lo' st' μ' hC hS hf hP k
  obtain ⟨hx, hb, hml, hown, hts, hK, hX, hbl, hJ, hrf, hrl, hce, hsl⟩ := hC
  obtain ⟨hW, hH, hL, hsc⟩ := hS
  unfold zq_il at hf
  split at hf
  · rename_i x hk
    cases hf
    exact lv_iload_n hx hb hdg hi (zq_lv hL hk) (k H locs ls ⟨hW, hH, hL, hsc⟩)
  · cases hf
theorem zq_s_iload {cc : ByteArray} {nL : Nat} {own : String} {rf rl pc : Nat} {i : Nat} (hdg : decode cc pc = .ok (.iload i, 2)) : zq_snd cc nL own rf rl pc (zq_il (pc + 2) i) := by
  intro g p l e R s m args below meth c H locs cells slots Z ls lo st μ P pc' lo' st' μ' hC hS hf hP k
  obtain ⟨hx, hb, hml, hown, hts, hK, hX, hbl, hJ, hrf, hrl, hce, hsl⟩ := hC
  obtain ⟨hW, hH, hL, hsc⟩ := hS
  unfold zq_il at hf
  split at hf
  · rename_i x hk
    cases hf
    exact lv_iload hx hb hdg (zq_lv hL hk) (k H locs ls ⟨hW, hH, hL, hsc⟩)
  · cases hf
theorem zq_s_lload_n {cc : ByteArray} {nL : Nat} {own : String} {rf rl pc : Nat} {n : Fin 4} {i : Nat} (hdg : decode cc pc = .ok (.lload_n n, 1)) (hi : (n : Nat) = i) : zq_snd cc nL own rf rl pc (zq_ll (pc + 1) i) := by
  intro g p l e R s m args below meth c H locs cells slots Z ls lo st μ P pc' lo' st' μ' hC hS hf hP k
  obtain ⟨hx, hb, hml, hown, hts, hK, hX, hbl, hJ, hrf, hrl, hce, hsl⟩ := hC
  obtain ⟨hW, hH, hL, hsc⟩ := hS
  unfold zq_ll at hf
  split at hf
  · rename_i x hk
    cases hf
    exact lv_lload_n hx hb hdg hi (zq_lv hL hk) (k H locs ls ⟨hW, hH, hL, hsc⟩)
  · cases hf
theorem zq_s_lload {cc : ByteArray} {nL : Nat} {own : String} {rf rl pc : Nat} {i : Nat} (hdg : decode cc pc = .ok (.lload i, 2)) : zq_snd cc nL own rf rl pc (zq_ll (pc + 2) i) := by
  intro g p l e R s m args below meth c H locs cells slots Z ls lo st μ P pc' lo' st' μ' hC hS hf hP k
  obtain ⟨hx, hb, hml, hown, hts, hK, hX, hbl, hJ, hrf, hrl, hce, hsl⟩ := hC
  obtain ⟨hW, hH, hL, hsc⟩ := hS
  unfold zq_ll at hf
  split at hf
  · rename_i x hk
    cases hf
    exact lv_lload hx hb hdg (zq_lv hL hk) (k H locs ls ⟨hW, hH, hL, hsc⟩)
  · cases hf
theorem zq_s_aload_n {cc : ByteArray} {nL : Nat} {own : String} {rf rl pc : Nat} {n : Fin 4} {i : Nat} (hdg : decode cc pc = .ok (.aload_n n, 1)) (hi : (n : Nat) = i) : zq_snd cc nL own rf rl pc (zq_al (pc + 1) i) := by
  intro g p l e R s m args below meth c H locs cells slots Z ls lo st μ P pc' lo' st' μ' hC hS hf hP k
  obtain ⟨hx, hb, hml, hown, hts, hK, hX, hbl, hJ, hrf, hrl, hce, hsl⟩ := hC
  obtain ⟨hW, hH, hL, hsc⟩ := hS
  unfold zq_al at hf
  split at hf
  · rename_i x hk
    cases hf
    exact lv_aload_n hx hb hdg hi (zq_lv hL hk) (k H locs ls ⟨hW, hH, hL, hsc⟩)
  · rename_i hk
    cases hf
    exact lv_aload_nN hx hb hdg hi (zq_lv hL hk) (k H locs ls ⟨hW, hH, hL, hsc⟩)
  · cases hf
theorem zq_s_aload {cc : ByteArray} {nL : Nat} {own : String} {rf rl pc : Nat} {i : Nat} (hdg : decode cc pc = .ok (.aload i, 2)) : zq_snd cc nL own rf rl pc (zq_al (pc + 2) i) := by
  intro g p l e R s m args below meth c H locs cells slots Z ls lo st μ P pc' lo' st' μ' hC hS hf hP k
  obtain ⟨hx, hb, hml, hown, hts, hK, hX, hbl, hJ, hrf, hrl, hce, hsl⟩ := hC
  obtain ⟨hW, hH, hL, hsc⟩ := hS
  unfold zq_al at hf
  split at hf
  · rename_i x hk
    cases hf
    exact lv_aload hx hb hdg (zq_lv hL hk) (k H locs ls ⟨hW, hH, hL, hsc⟩)
  · rename_i hk
    cases hf
    exact lv_aloadN hx hb hdg (zq_lv hL hk) (k H locs ls ⟨hW, hH, hL, hsc⟩)
  · cases hf
def zq_is (pc' i : Nat) : zq_Op := fun lo st μ => match st with
  | .int x :: r => some ([], pc', zq_st1 i (.int x) lo, r, μ)
  | _ => none
def zq_lst (pc' i : Nat) : zq_Op := fun lo st μ => match st with
  | .long x :: r => some ([], pc', zq_st2 i (.long x) lo, r, μ)
  | _ => none
def zq_as (pc' i : Nat) : zq_Op := fun lo st μ => match st with
  | .ref x :: r => some ([], pc', zq_st1 i (.ref x) lo, r, μ)
  | .null :: r => some ([], pc', zq_st1 i .null lo, r, μ)
  | _ => none
theorem zq_s_istore_n {cc : ByteArray} {nL : Nat} {own : String} {rf rl pc : Nat} {n : Fin 4} {i : Nat} (hdg : decode cc pc = .ok (.istore_n n, 1)) (hi : (n : Nat) = i) (hn : i < nL) : zq_snd cc nL own rf rl pc (zq_is (pc + 1) i) := by
  intro g p l e R s m args below meth c H locs cells slots Z ls lo st μ P pc' lo' st' μ' hC hS hf hP k
  obtain ⟨hx, hb, hml, hown, hts, hK, hX, hbl, hJ, hrf, hrl, hce, hsl⟩ := hC
  obtain ⟨hW, hH, hL, hsc⟩ := hS
  unfold zq_is at hf
  split at hf
  · cases hf
    refine lv_istore_n hx hb hdg hi hL hn rfl (fun ls' h => ?_)
    exact k H locs ls' ⟨hW, hH, zq_has1 (v := .int _) h, hsc⟩
  · cases hf
theorem zq_s_istore {cc : ByteArray} {nL : Nat} {own : String} {rf rl pc : Nat} {i : Nat} (hdg : decode cc pc = .ok (.istore i, 2)) (hn : i < nL) : zq_snd cc nL own rf rl pc (zq_is (pc + 2) i) := by
  intro g p l e R s m args below meth c H locs cells slots Z ls lo st μ P pc' lo' st' μ' hC hS hf hP k
  obtain ⟨hx, hb, hml, hown, hts, hK, hX, hbl, hJ, hrf, hrl, hce, hsl⟩ := hC
  obtain ⟨hW, hH, hL, hsc⟩ := hS
  unfold zq_is at hf
  split at hf
  · cases hf
    refine lv_istore hx hb hdg hL hn rfl (fun ls' h => ?_)
    exact k H locs ls' ⟨hW, hH, zq_has1 (v := .int _) h, hsc⟩
  · cases hf
theorem zq_s_lstore_n {cc : ByteArray} {nL : Nat} {own : String} {rf rl pc : Nat} {n : Fin 4} {i : Nat} (hdg : decode cc pc = .ok (.lstore_n n, 1)) (hi : (n : Nat) = i) (hn : i + 1 < nL) : zq_snd cc nL own rf rl pc (zq_lst (pc + 1) i) := by
  intro g p l e R s m args below meth c H locs cells slots Z ls lo st μ P pc' lo' st' μ' hC hS hf hP k
  obtain ⟨hx, hb, hml, hown, hts, hK, hX, hbl, hJ, hrf, hrl, hce, hsl⟩ := hC
  obtain ⟨hW, hH, hL, hsc⟩ := hS
  unfold zq_lst at hf
  split at hf
  · cases hf
    refine lv_lstore_n hx hb hdg hi hL hn rfl (fun ls' h => ?_)
    exact k H locs ls' ⟨hW, hH, zq_has2 (v := .long _) h, hsc⟩
  · cases hf
theorem zq_s_lstore {cc : ByteArray} {nL : Nat} {own : String} {rf rl pc : Nat} {i : Nat} (hdg : decode cc pc = .ok (.lstore i, 2)) (hn : i + 1 < nL) : zq_snd cc nL own rf rl pc (zq_lst (pc + 2) i) := by
  intro g p l e R s m args below meth c H locs cells slots Z ls lo st μ P pc' lo' st' μ' hC hS hf hP k
  obtain ⟨hx, hb, hml, hown, hts, hK, hX, hbl, hJ, hrf, hrl, hce, hsl⟩ := hC
  obtain ⟨hW, hH, hL, hsc⟩ := hS
  unfold zq_lst at hf
  split at hf
  · cases hf
    refine lv_lstore hx hb hdg hL hn rfl (fun ls' h => ?_)
    exact k H locs ls' ⟨hW, hH, zq_has2 (v := .long _) h, hsc⟩
  · cases hf
theorem zq_s_astore_n {cc : ByteArray} {nL : Nat} {own : String} {rf rl pc : Nat} {n : Fin 4} {i : Nat} (hdg : decode cc pc = .ok (.astore_n n, 1)) (hi : (n : Nat) = i) (hn : i < nL) : zq_snd cc nL own rf rl pc (zq_as (pc + 1) i) := by
  intro g p l e R s m args below meth c H locs cells slots Z ls lo st μ P pc' lo' st' μ' hC hS hf hP k
  obtain ⟨hx, hb, hml, hown, hts, hK, hX, hbl, hJ, hrf, hrl, hce, hsl⟩ := hC
  obtain ⟨hW, hH, hL, hsc⟩ := hS
  unfold zq_as at hf
  split at hf
  · cases hf
    refine lv_astore_n hx hb hdg hi hL hn rfl (fun ls' h => ?_)
    exact k H locs ls' ⟨hW, hH, zq_has1 (v := .ref _) h, hsc⟩
  · cases hf
    refine lv_astore_nN hx hb hdg hi hL hn rfl (fun ls' h => ?_)
    exact k H locs ls' ⟨hW, hH, zq_has1 (v := .null) h, hsc⟩
  · cases hf
theorem zq_s_astore {cc : ByteArray} {nL : Nat} {own : String} {rf rl pc : Nat} {i : Nat} (hdg : decode cc pc = .ok (.astore i, 2)) (hn : i < nL) : zq_snd cc nL own rf rl pc (zq_as (pc + 2) i) := by
  intro g p l e R s m args below meth c H locs cells slots Z ls lo st μ P pc' lo' st' μ' hC hS hf hP k
  obtain ⟨hx, hb, hml, hown, hts, hK, hX, hbl, hJ, hrf, hrl, hce, hsl⟩ := hC
  obtain ⟨hW, hH, hL, hsc⟩ := hS
  unfold zq_as at hf
  split at hf
  · cases hf
    refine lv_astore hx hb hdg hL hn rfl (fun ls' h => ?_)
    exact k H locs ls' ⟨hW, hH, zq_has1 (v := .ref _) h, hsc⟩
  · cases hf
    refine lv_astoreN hx hb hdg hL hn rfl (fun ls' h => ?_)
    exact k H locs ls' ⟨hW, hH, zq_has1 (v := .null) h, hsc⟩
  · cases hf
def zq_inc (pc' i : Nat) (n : Int32) : zq_Op := fun lo st μ => match zq_lk i lo with
  | some (.int x) => some ([], pc', zq_st1 i (.int (x + n)) lo, st, μ)
  | _ => none
theorem zq_s_iinc {cc : ByteArray} {nL : Nat} {own : String} {rf rl pc : Nat} {i : Nat} {n : Int} {v : Int32} (hdg : decode cc pc = .ok (.iinc i n, 3)) (hv : Int32.ofInt n = v) (hn : i < nL) : zq_snd cc nL own rf rl pc (zq_inc (pc + 3) i v) := by
  intro g p l e R s m args below meth c H locs cells slots Z ls lo st μ P pc' lo' st' μ' hC hS hf hP k
  obtain ⟨hx, hb, hml, hown, hts, hK, hX, hbl, hJ, hrf, hrl, hce, hsl⟩ := hC
  obtain ⟨hW, hH, hL, hsc⟩ := hS
  unfold zq_inc at hf
  split at hf
  · rename_i x hk
    cases hf
    subst hv
    have hm : (i, zq_cv g (.int x)) ∈ zq_ml g lo := List.mem_map.mpr ⟨(i, .int x), zq_lk_mem hk, rfl⟩
    obtain ⟨j, hj⟩ := List.getElem?_of_mem hm
    refine lv_iinc hx hb hdg hL hj rfl hn rfl (fun ls' h => ?_)
    exact k H locs ls' ⟨hW, hH, zq_has1 (v := .int _) h, hsc⟩
  · cases hf
def zq_i2 (pc' : Nat) (f : Int32 → Int32 → Int32) : zq_Op := fun lo st μ => match st with
  | .int y :: .int x :: r => some ([], pc', lo, .int (f x y) :: r, μ)
  | _ => none
def zq_i2c (pc' : Nat) (f : Int32 → Int32 → Int32) : zq_Op := fun lo st μ => match st with
  | .int y :: .int x :: r => some ([¬ y = 0], pc', lo, .int (f x y) :: r, μ)
  | _ => none
def zq_i1 (pc' : Nat) (f : Int32 → Int32) : zq_Op := fun lo st μ => match st with
  | .int x :: r => some ([], pc', lo, .int (f x) :: r, μ)
  | _ => none
def zq_l2 (pc' : Nat) (f : Int64 → Int64 → Int64) : zq_Op := fun lo st μ => match st with
  | .long y :: .long x :: r => some ([], pc', lo, .long (f x y) :: r, μ)
  | _ => none
def zq_l2c (pc' : Nat) (f : Int64 → Int64 → Int64) : zq_Op := fun lo st μ => match st with
  | .long y :: .long x :: r => some ([¬ y = 0], pc', lo, .long (f x y) :: r, μ)
  | _ => none
def zq_lsf (pc' : Nat) (f : Int64 → Int32 → Int64) : zq_Op := fun lo st μ => match st with
  | .int y :: .long x :: r => some ([], pc', lo, .long (f x y) :: r, μ)
  | _ => none
def zq_i2l (pc' : Nat) : zq_Op := fun lo st μ => match st with
  | .int x :: r => some ([], pc', lo, .long x.toInt64 :: r, μ)
  | _ => none
def zq_lcmp (pc' : Nat) : zq_Op := fun lo st μ => match st with
  | .long y :: .long x :: r => some ([], pc', lo, .int (lg_cmp x y) :: r, μ)
  | _ => none
def zq_dup (pc' : Nat) : zq_Op := fun lo st μ => match st with
  | .int x :: r => some ([], pc', lo, .int x :: .int x :: r, μ)
  | .ref x :: r => some ([], pc', lo, .ref x :: .ref x :: r, μ)
  | _ => none
def zq_dup2 (pc' : Nat) : zq_Op := fun lo st μ => match st with
  | .int x :: .ref a :: r => some ([], pc', lo, .int x :: .ref a :: .int x :: .ref a :: r, μ)
  | _ => none
theorem zq_s_iadd {cc : ByteArray} {nL : Nat} {own : String} {rf rl pc : Nat}  (hdg : decode cc pc = .ok (.iadd, 1))  : zq_snd cc nL own rf rl pc (zq_i2 (pc + 1) (fun x y => x + y)) := by
  intro g p l e R s m args below meth c H locs cells slots Z ls lo st μ P pc' lo' st' μ' hC hS hf hP k
  obtain ⟨hx, hb, hml, hown, hts, hK, hX, hbl, hJ, hrf, hrl, hce, hsl⟩ := hC
  obtain ⟨hW, hH, hL, hsc⟩ := hS
  unfold zq_i2 at hf
  split at hf
  · cases hf
    exact lv_iadd hx hb hdg (k H locs ls ⟨hW, hH, hL, hsc⟩)
  · cases hf
theorem zq_s_isub {cc : ByteArray} {nL : Nat} {own : String} {rf rl pc : Nat}  (hdg : decode cc pc = .ok (.isub, 1))  : zq_snd cc nL own rf rl pc (zq_i2 (pc + 1) (fun x y => x - y)) := by
  intro g p l e R s m args below meth c H locs cells slots Z ls lo st μ P pc' lo' st' μ' hC hS hf hP k
  obtain ⟨hx, hb, hml, hown, hts, hK, hX, hbl, hJ, hrf, hrl, hce, hsl⟩ := hC
  obtain ⟨hW, hH, hL, hsc⟩ := hS
  unfold zq_i2 at hf
  split at hf
  · cases hf
    exact lv_isub hx hb hdg (k H locs ls ⟨hW, hH, hL, hsc⟩)
  · cases hf
theorem zq_s_imul {cc : ByteArray} {nL : Nat} {own : String} {rf rl pc : Nat}  (hdg : decode cc pc = .ok (.imul, 1))  : zq_snd cc nL own rf rl pc (zq_i2 (pc + 1) (fun x y => x * y)) := by
  intro g p l e R s m args below meth c H locs cells slots Z ls lo st μ P pc' lo' st' μ' hC hS hf hP k
  obtain ⟨hx, hb, hml, hown, hts, hK, hX, hbl, hJ, hrf, hrl, hce, hsl⟩ := hC
  obtain ⟨hW, hH, hL, hsc⟩ := hS
  unfold zq_i2 at hf
  split at hf
  · cases hf
    exact lv_imul hx hb hdg (k H locs ls ⟨hW, hH, hL, hsc⟩)
  · cases hf
theorem zq_s_iand {cc : ByteArray} {nL : Nat} {own : String} {rf rl pc : Nat}  (hdg : decode cc pc = .ok (.iand, 1))  : zq_snd cc nL own rf rl pc (zq_i2 (pc + 1) (fun x y => x &&& y)) := by
  intro g p l e R s m args below meth c H locs cells slots Z ls lo st μ P pc' lo' st' μ' hC hS hf hP k
  obtain ⟨hx, hb, hml, hown, hts, hK, hX, hbl, hJ, hrf, hrl, hce, hsl⟩ := hC
  obtain ⟨hW, hH, hL, hsc⟩ := hS
  unfold zq_i2 at hf
  split at hf
  · cases hf
    exact lv_iand hx hb hdg (k H locs ls ⟨hW, hH, hL, hsc⟩)
  · cases hf
theorem zq_s_ior {cc : ByteArray} {nL : Nat} {own : String} {rf rl pc : Nat}  (hdg : decode cc pc = .ok (.ior, 1))  : zq_snd cc nL own rf rl pc (zq_i2 (pc + 1) (fun x y => x ||| y)) := by
  intro g p l e R s m args below meth c H locs cells slots Z ls lo st μ P pc' lo' st' μ' hC hS hf hP k
  obtain ⟨hx, hb, hml, hown, hts, hK, hX, hbl, hJ, hrf, hrl, hce, hsl⟩ := hC
  obtain ⟨hW, hH, hL, hsc⟩ := hS
  unfold zq_i2 at hf
  split at hf
  · cases hf
    exact lv_ior hx hb hdg (k H locs ls ⟨hW, hH, hL, hsc⟩)
  · cases hf
theorem zq_s_ixor {cc : ByteArray} {nL : Nat} {own : String} {rf rl pc : Nat}  (hdg : decode cc pc = .ok (.ixor, 1))  : zq_snd cc nL own rf rl pc (zq_i2 (pc + 1) (fun x y => x ^^^ y)) := by
  intro g p l e R s m args below meth c H locs cells slots Z ls lo st μ P pc' lo' st' μ' hC hS hf hP k
  obtain ⟨hx, hb, hml, hown, hts, hK, hX, hbl, hJ, hrf, hrl, hce, hsl⟩ := hC
  obtain ⟨hW, hH, hL, hsc⟩ := hS
  unfold zq_i2 at hf
  split at hf
  · cases hf
    exact lv_ixor hx hb hdg (k H locs ls ⟨hW, hH, hL, hsc⟩)
  · cases hf
theorem zq_s_ishl {cc : ByteArray} {nL : Nat} {own : String} {rf rl pc : Nat}  (hdg : decode cc pc = .ok (.ishl, 1))  : zq_snd cc nL own rf rl pc (zq_i2 (pc + 1) (fun x y => x <<< (y &&& 31))) := by
  intro g p l e R s m args below meth c H locs cells slots Z ls lo st μ P pc' lo' st' μ' hC hS hf hP k
  obtain ⟨hx, hb, hml, hown, hts, hK, hX, hbl, hJ, hrf, hrl, hce, hsl⟩ := hC
  obtain ⟨hW, hH, hL, hsc⟩ := hS
  unfold zq_i2 at hf
  split at hf
  · cases hf
    exact lv_ishl hx hb hdg (k H locs ls ⟨hW, hH, hL, hsc⟩)
  · cases hf
theorem zq_s_ishr {cc : ByteArray} {nL : Nat} {own : String} {rf rl pc : Nat}  (hdg : decode cc pc = .ok (.ishr, 1))  : zq_snd cc nL own rf rl pc (zq_i2 (pc + 1) (fun x y => x >>> (y &&& 31))) := by
  intro g p l e R s m args below meth c H locs cells slots Z ls lo st μ P pc' lo' st' μ' hC hS hf hP k
  obtain ⟨hx, hb, hml, hown, hts, hK, hX, hbl, hJ, hrf, hrl, hce, hsl⟩ := hC
  obtain ⟨hW, hH, hL, hsc⟩ := hS
  unfold zq_i2 at hf
  split at hf
  · cases hf
    exact lv_ishr hx hb hdg (k H locs ls ⟨hW, hH, hL, hsc⟩)
  · cases hf
def zq_ush (x y : Int32) : Int32 := (x.toUInt32 >>> (y.toUInt32 &&& Int32.toUInt32 31)).toInt32
theorem zq_s_iushr {cc : ByteArray} {nL : Nat} {own : String} {rf rl pc : Nat}  (hdg : decode cc pc = .ok (.iushr, 1))  : zq_snd cc nL own rf rl pc (zq_i2 (pc + 1) zq_ush) := by
  intro g p l e R s m args below meth c H locs cells slots Z ls lo st μ P pc' lo' st' μ' hC hS hf hP k
  obtain ⟨hx, hb, hml, hown, hts, hK, hX, hbl, hJ, hrf, hrl, hce, hsl⟩ := hC
  obtain ⟨hW, hH, hL, hsc⟩ := hS
  unfold zq_i2 at hf
  split at hf
  · cases hf
    exact lv_iushr hx hb hdg rfl (k H locs ls ⟨hW, hH, hL, hsc⟩)
  · cases hf
theorem zq_s_idiv {cc : ByteArray} {nL : Nat} {own : String} {rf rl pc : Nat}  (hdg : decode cc pc = .ok (.idiv, 1)) : zq_snd cc nL own rf rl pc (zq_i2c (pc + 1) (fun x y => x / y)) := by
  intro g p l e R s m args below meth c H locs cells slots Z ls lo st μ P pc' lo' st' μ' hC hS hf hP k
  obtain ⟨hx, hb, hml, hown, hts, hK, hX, hbl, hJ, hrf, hrl, hce, hsl⟩ := hC
  obtain ⟨hW, hH, hL, hsc⟩ := hS
  unfold zq_i2c at hf
  split at hf
  · cases hf
    exact lv_idiv hx hb hdg hP.1 (k H locs ls ⟨hW, hH, hL, hsc⟩)
  · cases hf
theorem zq_s_irem {cc : ByteArray} {nL : Nat} {own : String} {rf rl pc : Nat}  (hdg : decode cc pc = .ok (.irem, 1)) : zq_snd cc nL own rf rl pc (zq_i2c (pc + 1) (fun x y => x - x / y * y)) := by
  intro g p l e R s m args below meth c H locs cells slots Z ls lo st μ P pc' lo' st' μ' hC hS hf hP k
  obtain ⟨hx, hb, hml, hown, hts, hK, hX, hbl, hJ, hrf, hrl, hce, hsl⟩ := hC
  obtain ⟨hW, hH, hL, hsc⟩ := hS
  unfold zq_i2c at hf
  split at hf
  · cases hf
    exact lv_irem hx hb hdg hP.1 (k H locs ls ⟨hW, hH, hL, hsc⟩)
  · cases hf
theorem zq_s_ldiv {cc : ByteArray} {nL : Nat} {own : String} {rf rl pc : Nat}  (hdg : decode cc pc = .ok (.ldiv, 1)) : zq_snd cc nL own rf rl pc (zq_l2c (pc + 1) (fun x y => x / y)) := by
  intro g p l e R s m args below meth c H locs cells slots Z ls lo st μ P pc' lo' st' μ' hC hS hf hP k
  obtain ⟨hx, hb, hml, hown, hts, hK, hX, hbl, hJ, hrf, hrl, hce, hsl⟩ := hC
  obtain ⟨hW, hH, hL, hsc⟩ := hS
  unfold zq_l2c at hf
  split at hf
  · cases hf
    exact lv_ldiv hx hb hdg hP.1 (k H locs ls ⟨hW, hH, hL, hsc⟩)
  · cases hf
theorem zq_s_lrem {cc : ByteArray} {nL : Nat} {own : String} {rf rl pc : Nat}  (hdg : decode cc pc = .ok (.lrem, 1)) : zq_snd cc nL own rf rl pc (zq_l2c (pc + 1) (fun x y => x - x / y * y)) := by
  intro g p l e R s m args below meth c H locs cells slots Z ls lo st μ P pc' lo' st' μ' hC hS hf hP k
  obtain ⟨hx, hb, hml, hown, hts, hK, hX, hbl, hJ, hrf, hrl, hce, hsl⟩ := hC
  obtain ⟨hW, hH, hL, hsc⟩ := hS
  unfold zq_l2c at hf
  split at hf
  · cases hf
    exact lv_lrem hx hb hdg hP.1 (k H locs ls ⟨hW, hH, hL, hsc⟩)
  · cases hf
theorem zq_s_ladd {cc : ByteArray} {nL : Nat} {own : String} {rf rl pc : Nat}  (hdg : decode cc pc = .ok (.ladd, 1))  : zq_snd cc nL own rf rl pc (zq_l2 (pc + 1) (fun x y => x + y)) := by
  intro g p l e R s m args below meth c H locs cells slots Z ls lo st μ P pc' lo' st' μ' hC hS hf hP k
  obtain ⟨hx, hb, hml, hown, hts, hK, hX, hbl, hJ, hrf, hrl, hce, hsl⟩ := hC
  obtain ⟨hW, hH, hL, hsc⟩ := hS
  unfold zq_l2 at hf
  split at hf
  · cases hf
    exact lv_ladd hx hb hdg (k H locs ls ⟨hW, hH, hL, hsc⟩)
  · cases hf
theorem zq_s_lsub {cc : ByteArray} {nL : Nat} {own : String} {rf rl pc : Nat}  (hdg : decode cc pc = .ok (.lsub, 1))  : zq_snd cc nL own rf rl pc (zq_l2 (pc + 1) (fun x y => x - y)) := by
  intro g p l e R s m args below meth c H locs cells slots Z ls lo st μ P pc' lo' st' μ' hC hS hf hP k
  obtain ⟨hx, hb, hml, hown, hts, hK, hX, hbl, hJ, hrf, hrl, hce, hsl⟩ := hC
  obtain ⟨hW, hH, hL, hsc⟩ := hS
  unfold zq_l2 at hf
  split at hf
  · cases hf
    exact lv_lsub hx hb hdg (k H locs ls ⟨hW, hH, hL, hsc⟩)
  · cases hf
theorem zq_s_lmul {cc : ByteArray} {nL : Nat} {own : String} {rf rl pc : Nat}  (hdg : decode cc pc = .ok (.lmul, 1))  : zq_snd cc nL own rf rl pc (zq_l2 (pc + 1) (fun x y => x * y)) := by
  intro g p l e R s m args below meth c H locs cells slots Z ls lo st μ P pc' lo' st' μ' hC hS hf hP k
  obtain ⟨hx, hb, hml, hown, hts, hK, hX, hbl, hJ, hrf, hrl, hce, hsl⟩ := hC
  obtain ⟨hW, hH, hL, hsc⟩ := hS
  unfold zq_l2 at hf
  split at hf
  · cases hf
    exact lv_lmul hx hb hdg (k H locs ls ⟨hW, hH, hL, hsc⟩)
  · cases hf
theorem zq_s_land {cc : ByteArray} {nL : Nat} {own : String} {rf rl pc : Nat}  (hdg : decode cc pc = .ok (.land, 1))  : zq_snd cc nL own rf rl pc (zq_l2 (pc + 1) (fun x y => x &&& y)) := by
  intro g p l e R s m args below meth c H locs cells slots Z ls lo st μ P pc' lo' st' μ' hC hS hf hP k
  obtain ⟨hx, hb, hml, hown, hts, hK, hX, hbl, hJ, hrf, hrl, hce, hsl⟩ := hC
  obtain ⟨hW, hH, hL, hsc⟩ := hS
  unfold zq_l2 at hf
  split at hf
  · cases hf
    exact lv_land hx hb hdg (k H locs ls ⟨hW, hH, hL, hsc⟩)
  · cases hf
theorem zq_s_lshl {cc : ByteArray} {nL : Nat} {own : String} {rf rl pc : Nat}  (hdg : decode cc pc = .ok (.lshl, 1))  : zq_snd cc nL own rf rl pc (zq_lsf (pc + 1) (fun x y => x <<< (y.toInt64 &&& 63))) := by
  intro g p l e R s m args below meth c H locs cells slots Z ls lo st μ P pc' lo' st' μ' hC hS hf hP k
  obtain ⟨hx, hb, hml, hown, hts, hK, hX, hbl, hJ, hrf, hrl, hce, hsl⟩ := hC
  obtain ⟨hW, hH, hL, hsc⟩ := hS
  unfold zq_lsf at hf
  split at hf
  · cases hf
    exact lv_lshl hx hb hdg rfl (k H locs ls ⟨hW, hH, hL, hsc⟩)
  · cases hf
theorem zq_s_lshr {cc : ByteArray} {nL : Nat} {own : String} {rf rl pc : Nat}  (hdg : decode cc pc = .ok (.lshr, 1))  : zq_snd cc nL own rf rl pc (zq_lsf (pc + 1) (fun x y => x >>> (y.toInt64 &&& 63))) := by
  intro g p l e R s m args below meth c H locs cells slots Z ls lo st μ P pc' lo' st' μ' hC hS hf hP k
  obtain ⟨hx, hb, hml, hown, hts, hK, hX, hbl, hJ, hrf, hrl, hce, hsl⟩ := hC
  obtain ⟨hW, hH, hL, hsc⟩ := hS
  unfold zq_lsf at hf
  split at hf
  · cases hf
    exact lv_lshr hx hb hdg rfl (k H locs ls ⟨hW, hH, hL, hsc⟩)
  · cases hf
theorem zq_s_i2l {cc : ByteArray} {nL : Nat} {own : String} {rf rl pc : Nat}  (hdg : decode cc pc = .ok (.i2l, 1))  : zq_snd cc nL own rf rl pc (zq_i2l (pc + 1) ) := by
  intro g p l e R s m args below meth c H locs cells slots Z ls lo st μ P pc' lo' st' μ' hC hS hf hP k
  obtain ⟨hx, hb, hml, hown, hts, hK, hX, hbl, hJ, hrf, hrl, hce, hsl⟩ := hC
  obtain ⟨hW, hH, hL, hsc⟩ := hS
  unfold zq_i2l at hf
  split at hf
  · cases hf
    exact lv_i2l hx hb hdg rfl (k H locs ls ⟨hW, hH, hL, hsc⟩)
  · cases hf
theorem zq_s_i2b {cc : ByteArray} {nL : Nat} {own : String} {rf rl pc : Nat}  (hdg : decode cc pc = .ok (.i2b, 1))  : zq_snd cc nL own rf rl pc (zq_i1 (pc + 1) (fun x => x.toInt8.toInt32)) := by
  intro g p l e R s m args below meth c H locs cells slots Z ls lo st μ P pc' lo' st' μ' hC hS hf hP k
  obtain ⟨hx, hb, hml, hown, hts, hK, hX, hbl, hJ, hrf, hrl, hce, hsl⟩ := hC
  obtain ⟨hW, hH, hL, hsc⟩ := hS
  unfold zq_i1 at hf
  split at hf
  · cases hf
    exact lv_i2b hx hb hdg rfl (k H locs ls ⟨hW, hH, hL, hsc⟩)
  · cases hf
theorem zq_s_i2s {cc : ByteArray} {nL : Nat} {own : String} {rf rl pc : Nat}  (hdg : decode cc pc = .ok (.i2s, 1))  : zq_snd cc nL own rf rl pc (zq_i1 (pc + 1) (fun x => x.toInt16.toInt32)) := by
  intro g p l e R s m args below meth c H locs cells slots Z ls lo st μ P pc' lo' st' μ' hC hS hf hP k
  obtain ⟨hx, hb, hml, hown, hts, hK, hX, hbl, hJ, hrf, hrl, hce, hsl⟩ := hC
  obtain ⟨hW, hH, hL, hsc⟩ := hS
  unfold zq_i1 at hf
  split at hf
  · cases hf
    exact lv_i2s hx hb hdg rfl (k H locs ls ⟨hW, hH, hL, hsc⟩)
  · cases hf
theorem zq_s_lcmp {cc : ByteArray} {nL : Nat} {own : String} {rf rl pc : Nat}  (hdg : decode cc pc = .ok (.lcmp, 1))  : zq_snd cc nL own rf rl pc (zq_lcmp (pc + 1) ) := by
  intro g p l e R s m args below meth c H locs cells slots Z ls lo st μ P pc' lo' st' μ' hC hS hf hP k
  obtain ⟨hx, hb, hml, hown, hts, hK, hX, hbl, hJ, hrf, hrl, hce, hsl⟩ := hC
  obtain ⟨hW, hH, hL, hsc⟩ := hS
  unfold zq_lcmp at hf
  split at hf
  · cases hf
    exact W.lcmp hx hb hdg (k H locs ls ⟨hW, hH, hL, hsc⟩)
  · cases hf
theorem zq_s_dup {cc : ByteArray} {nL : Nat} {own : String} {rf rl pc : Nat}  (hdg : decode cc pc = .ok (.dup, 1)) : zq_snd cc nL own rf rl pc (zq_dup (pc + 1)) := by
  intro g p l e R s m args below meth c H locs cells slots Z ls lo st μ P pc' lo' st' μ' hC hS hf hP k
  obtain ⟨hx, hb, hml, hown, hts, hK, hX, hbl, hJ, hrf, hrl, hce, hsl⟩ := hC
  obtain ⟨hW, hH, hL, hsc⟩ := hS
  unfold zq_dup at hf
  split at hf
  · cases hf
    exact lv_dup hx hb hdg rfl (k H locs ls ⟨hW, hH, hL, hsc⟩)
  · cases hf
    exact lv_dup hx hb hdg rfl (k H locs ls ⟨hW, hH, hL, hsc⟩)
  · cases hf
theorem zq_s_dup2 {cc : ByteArray} {nL : Nat} {own : String} {rf rl pc : Nat}  (hdg : decode cc pc = .ok (.dup2, 1))  : zq_snd cc nL own rf rl pc (zq_dup2 (pc + 1) ) := by
  intro g p l e R s m args below meth c H locs cells slots Z ls lo st μ P pc' lo' st' μ' hC hS hf hP k
  obtain ⟨hx, hb, hml, hown, hts, hK, hX, hbl, hJ, hrf, hrl, hce, hsl⟩ := hC
  obtain ⟨hW, hH, hL, hsc⟩ := hS
  unfold zq_dup2 at hf
  split at hf
  · cases hf
    exact lv_dup2_11 hx hb hdg rfl rfl (k H locs ls ⟨hW, hH, hL, hsc⟩)
  · cases hf
def zq_if_eq (pc' tgt : Nat) : zq_Op := fun lo st μ => match st with
  | .int x :: r => some ([], if x = 0 then tgt else pc', lo, r, μ)
  | _ => none
def zq_ic_eq (pc' tgt : Nat) : zq_Op := fun lo st μ => match st with
  | .int y :: .int x :: r => some ([], if x = y then tgt else pc', lo, r, μ)
  | _ => none
theorem zq_s_if_eq {cc : ByteArray} {nL : Nat} {own : String} {rf rl pc : Nat} {off : Int} {tgt : Nat} (hdg : decode cc pc = .ok (.ifCond .eq off, 3)) (ht : (pc : Int) + off = (tgt : Int)) : zq_snd cc nL own rf rl pc (zq_if_eq (pc + 3) tgt) := by
  intro g p l e R s m args below meth c H locs cells slots Z ls lo st μ P pc' lo' st' μ' hC hS hf hP k
  obtain ⟨hx, hb, hml, hown, hts, hK, hX, hbl, hJ, hrf, hrl, hce, hsl⟩ := hC
  obtain ⟨hW, hH, hL, hsc⟩ := hS
  unfold zq_if_eq at hf
  split at hf
  · cases hf
    have k := k H locs ls ⟨hW, hH, hL, hsc⟩
    refine lv_if_eq hx hb hdg ht (fun hq => ?_) (fun hq => ?_)
    · rw [if_pos hq] at k
      exact k
    · rw [if_neg hq] at k
      exact k
  · cases hf
theorem zq_s_ic_eq {cc : ByteArray} {nL : Nat} {own : String} {rf rl pc : Nat} {off : Int} {tgt : Nat} (hdg : decode cc pc = .ok (.if_icmp .eq off, 3)) (ht : (pc : Int) + off = (tgt : Int)) : zq_snd cc nL own rf rl pc (zq_ic_eq (pc + 3) tgt) := by
  intro g p l e R s m args below meth c H locs cells slots Z ls lo st μ P pc' lo' st' μ' hC hS hf hP k
  obtain ⟨hx, hb, hml, hown, hts, hK, hX, hbl, hJ, hrf, hrl, hce, hsl⟩ := hC
  obtain ⟨hW, hH, hL, hsc⟩ := hS
  unfold zq_ic_eq at hf
  split at hf
  · cases hf
    have k := k H locs ls ⟨hW, hH, hL, hsc⟩
    refine lv_icmp_eq hx hb hdg ht (fun hq => ?_) (fun hq => ?_)
    · rw [if_pos hq] at k
      exact k
    · rw [if_neg hq] at k
      exact k
  · cases hf
def zq_if_ne (pc' tgt : Nat) : zq_Op := fun lo st μ => match st with
  | .int x :: r => some ([], if ¬ x = 0 then tgt else pc', lo, r, μ)
  | _ => none
def zq_ic_ne (pc' tgt : Nat) : zq_Op := fun lo st μ => match st with
  | .int y :: .int x :: r => some ([], if ¬ x = y then tgt else pc', lo, r, μ)
  | _ => none
theorem zq_s_if_ne {cc : ByteArray} {nL : Nat} {own : String} {rf rl pc : Nat} {off : Int} {tgt : Nat} (hdg : decode cc pc = .ok (.ifCond .ne off, 3)) (ht : (pc : Int) + off = (tgt : Int)) : zq_snd cc nL own rf rl pc (zq_if_ne (pc + 3) tgt) := by
  intro g p l e R s m args below meth c H locs cells slots Z ls lo st μ P pc' lo' st' μ' hC hS hf hP k
  obtain ⟨hx, hb, hml, hown, hts, hK, hX, hbl, hJ, hrf, hrl, hce, hsl⟩ := hC
  obtain ⟨hW, hH, hL, hsc⟩ := hS
  unfold zq_if_ne at hf
  split at hf
  · cases hf
    have k := k H locs ls ⟨hW, hH, hL, hsc⟩
    refine lv_if_ne hx hb hdg ht (fun hq => ?_) (fun hq => ?_)
    · rw [if_pos hq] at k
      exact k
    · rw [if_neg (fun h => h hq)] at k
      exact k
  · cases hf
theorem zq_s_ic_ne {cc : ByteArray} {nL : Nat} {own : String} {rf rl pc : Nat} {off : Int} {tgt : Nat} (hdg : decode cc pc = .ok (.if_icmp .ne off, 3)) (ht : (pc : Int) + off = (tgt : Int)) : zq_snd cc nL own rf rl pc (zq_ic_ne (pc + 3) tgt) := by
  intro g p l e R s m args below meth c H locs cells slots Z ls lo st μ P pc' lo' st' μ' hC hS hf hP k
  obtain ⟨hx, hb, hml, hown, hts, hK, hX, hbl, hJ, hrf, hrl, hce, hsl⟩ := hC
  obtain ⟨hW, hH, hL, hsc⟩ := hS
  unfold zq_ic_ne at hf
  split at hf
  · cases hf
    have k := k H locs ls ⟨hW, hH, hL, hsc⟩
    refine lv_icmp_ne hx hb hdg ht (fun hq => ?_) (fun hq => ?_)
    · rw [if_pos hq] at k
      exact k
    · rw [if_neg (fun h => h hq)] at k
      exact k
  · cases hf
def zq_if_lt (pc' tgt : Nat) : zq_Op := fun lo st μ => match st with
  | .int x :: r => some ([], if x < 0 then tgt else pc', lo, r, μ)
  | _ => none
def zq_ic_lt (pc' tgt : Nat) : zq_Op := fun lo st μ => match st with
  | .int y :: .int x :: r => some ([], if x < y then tgt else pc', lo, r, μ)
  | _ => none
theorem zq_s_if_lt {cc : ByteArray} {nL : Nat} {own : String} {rf rl pc : Nat} {off : Int} {tgt : Nat} (hdg : decode cc pc = .ok (.ifCond .lt off, 3)) (ht : (pc : Int) + off = (tgt : Int)) : zq_snd cc nL own rf rl pc (zq_if_lt (pc + 3) tgt) := by
  intro g p l e R s m args below meth c H locs cells slots Z ls lo st μ P pc' lo' st' μ' hC hS hf hP k
  obtain ⟨hx, hb, hml, hown, hts, hK, hX, hbl, hJ, hrf, hrl, hce, hsl⟩ := hC
  obtain ⟨hW, hH, hL, hsc⟩ := hS
  unfold zq_if_lt at hf
  split at hf
  · cases hf
    have k := k H locs ls ⟨hW, hH, hL, hsc⟩
    refine lv_if_lt hx hb hdg ht (fun hq => ?_) (fun hq => ?_)
    · rw [if_pos hq] at k
      exact k
    · rw [if_neg hq] at k
      exact k
  · cases hf
theorem zq_s_ic_lt {cc : ByteArray} {nL : Nat} {own : String} {rf rl pc : Nat} {off : Int} {tgt : Nat} (hdg : decode cc pc = .ok (.if_icmp .lt off, 3)) (ht : (pc : Int) + off = (tgt : Int)) : zq_snd cc nL own rf rl pc (zq_ic_lt (pc + 3) tgt) := by
  intro g p l e R s m args below meth c H locs cells slots Z ls lo st μ P pc' lo' st' μ' hC hS hf hP k
  obtain ⟨hx, hb, hml, hown, hts, hK, hX, hbl, hJ, hrf, hrl, hce, hsl⟩ := hC
  obtain ⟨hW, hH, hL, hsc⟩ := hS
  unfold zq_ic_lt at hf
  split at hf
  · cases hf
    have k := k H locs ls ⟨hW, hH, hL, hsc⟩
    refine lv_icmp_lt hx hb hdg ht (fun hq => ?_) (fun hq => ?_)
    · rw [if_pos hq] at k
      exact k
    · rw [if_neg hq] at k
      exact k
  · cases hf
def zq_if_ge (pc' tgt : Nat) : zq_Op := fun lo st μ => match st with
  | .int x :: r => some ([], if 0 ≤ x then tgt else pc', lo, r, μ)
  | _ => none
def zq_ic_ge (pc' tgt : Nat) : zq_Op := fun lo st μ => match st with
  | .int y :: .int x :: r => some ([], if y ≤ x then tgt else pc', lo, r, μ)
  | _ => none
theorem zq_s_if_ge {cc : ByteArray} {nL : Nat} {own : String} {rf rl pc : Nat} {off : Int} {tgt : Nat} (hdg : decode cc pc = .ok (.ifCond .ge off, 3)) (ht : (pc : Int) + off = (tgt : Int)) : zq_snd cc nL own rf rl pc (zq_if_ge (pc + 3) tgt) := by
  intro g p l e R s m args below meth c H locs cells slots Z ls lo st μ P pc' lo' st' μ' hC hS hf hP k
  obtain ⟨hx, hb, hml, hown, hts, hK, hX, hbl, hJ, hrf, hrl, hce, hsl⟩ := hC
  obtain ⟨hW, hH, hL, hsc⟩ := hS
  unfold zq_if_ge at hf
  split at hf
  · cases hf
    have k := k H locs ls ⟨hW, hH, hL, hsc⟩
    refine lv_if_ge hx hb hdg ht (fun hq => ?_) (fun hq => ?_)
    · rw [if_pos hq] at k
      exact k
    · rw [if_neg hq] at k
      exact k
  · cases hf
theorem zq_s_ic_ge {cc : ByteArray} {nL : Nat} {own : String} {rf rl pc : Nat} {off : Int} {tgt : Nat} (hdg : decode cc pc = .ok (.if_icmp .ge off, 3)) (ht : (pc : Int) + off = (tgt : Int)) : zq_snd cc nL own rf rl pc (zq_ic_ge (pc + 3) tgt) := by
  intro g p l e R s m args below meth c H locs cells slots Z ls lo st μ P pc' lo' st' μ' hC hS hf hP k
  obtain ⟨hx, hb, hml, hown, hts, hK, hX, hbl, hJ, hrf, hrl, hce, hsl⟩ := hC
  obtain ⟨hW, hH, hL, hsc⟩ := hS
  unfold zq_ic_ge at hf
  split at hf
  · cases hf
    have k := k H locs ls ⟨hW, hH, hL, hsc⟩
    refine lv_icmp_ge hx hb hdg ht (fun hq => ?_) (fun hq => ?_)
    · rw [if_pos hq] at k
      exact k
    · rw [if_neg hq] at k
      exact k
  · cases hf
def zq_if_gt (pc' tgt : Nat) : zq_Op := fun lo st μ => match st with
  | .int x :: r => some ([], if 0 < x then tgt else pc', lo, r, μ)
  | _ => none
def zq_ic_gt (pc' tgt : Nat) : zq_Op := fun lo st μ => match st with
  | .int y :: .int x :: r => some ([], if y < x then tgt else pc', lo, r, μ)
  | _ => none
theorem zq_s_if_gt {cc : ByteArray} {nL : Nat} {own : String} {rf rl pc : Nat} {off : Int} {tgt : Nat} (hdg : decode cc pc = .ok (.ifCond .gt off, 3)) (ht : (pc : Int) + off = (tgt : Int)) : zq_snd cc nL own rf rl pc (zq_if_gt (pc + 3) tgt) := by
  intro g p l e R s m args below meth c H locs cells slots Z ls lo st μ P pc' lo' st' μ' hC hS hf hP k
  obtain ⟨hx, hb, hml, hown, hts, hK, hX, hbl, hJ, hrf, hrl, hce, hsl⟩ := hC
  obtain ⟨hW, hH, hL, hsc⟩ := hS
  unfold zq_if_gt at hf
  split at hf
  · cases hf
    have k := k H locs ls ⟨hW, hH, hL, hsc⟩
    refine lv_if_gt hx hb hdg ht (fun hq => ?_) (fun hq => ?_)
    · rw [if_pos hq] at k
      exact k
    · rw [if_neg hq] at k
      exact k
  · cases hf
theorem zq_s_ic_gt {cc : ByteArray} {nL : Nat} {own : String} {rf rl pc : Nat} {off : Int} {tgt : Nat} (hdg : decode cc pc = .ok (.if_icmp .gt off, 3)) (ht : (pc : Int) + off = (tgt : Int)) : zq_snd cc nL own rf rl pc (zq_ic_gt (pc + 3) tgt) := by
  intro g p l e R s m args below meth c H locs cells slots Z ls lo st μ P pc' lo' st' μ' hC hS hf hP k
  obtain ⟨hx, hb, hml, hown, hts, hK, hX, hbl, hJ, hrf, hrl, hce, hsl⟩ := hC
  obtain ⟨hW, hH, hL, hsc⟩ := hS
  unfold zq_ic_gt at hf
  split at hf
  · cases hf
    have k := k H locs ls ⟨hW, hH, hL, hsc⟩
    refine lv_icmp_gt hx hb hdg ht (fun hq => ?_) (fun hq => ?_)
    · rw [if_pos hq] at k
      exact k
    · rw [if_neg hq] at k
      exact k
  · cases hf
def zq_if_le (pc' tgt : Nat) : zq_Op := fun lo st μ => match st with
  | .int x :: r => some ([], if x ≤ 0 then tgt else pc', lo, r, μ)
  | _ => none
def zq_ic_le (pc' tgt : Nat) : zq_Op := fun lo st μ => match st with
  | .int y :: .int x :: r => some ([], if x ≤ y then tgt else pc', lo, r, μ)
  | _ => none
theorem zq_s_if_le {cc : ByteArray} {nL : Nat} {own : String} {rf rl pc : Nat} {off : Int} {tgt : Nat} (hdg : decode cc pc = .ok (.ifCond .le off, 3)) (ht : (pc : Int) + off = (tgt : Int)) : zq_snd cc nL own rf rl pc (zq_if_le (pc + 3) tgt) := by
  intro g p l e R s m args below meth c H locs cells slots Z ls lo st μ P pc' lo' st' μ' hC hS hf hP k
  obtain ⟨hx, hb, hml, hown, hts, hK, hX, hbl, hJ, hrf, hrl, hce, hsl⟩ := hC
  obtain ⟨hW, hH, hL, hsc⟩ := hS
  unfold zq_if_le at hf
  split at hf
  · cases hf
    have k := k H locs ls ⟨hW, hH, hL, hsc⟩
    refine lv_if_le hx hb hdg ht (fun hq => ?_) (fun hq => ?_)
    · rw [if_pos hq] at k
      exact k
    · rw [if_neg hq] at k
      exact k
  · cases hf
theorem zq_s_ic_le {cc : ByteArray} {nL : Nat} {own : String} {rf rl pc : Nat} {off : Int} {tgt : Nat} (hdg : decode cc pc = .ok (.if_icmp .le off, 3)) (ht : (pc : Int) + off = (tgt : Int)) : zq_snd cc nL own rf rl pc (zq_ic_le (pc + 3) tgt) := by
  intro g p l e R s m args below meth c H locs cells slots Z ls lo st μ P pc' lo' st' μ' hC hS hf hP k
  obtain ⟨hx, hb, hml, hown, hts, hK, hX, hbl, hJ, hrf, hrl, hce, hsl⟩ := hC
  obtain ⟨hW, hH, hL, hsc⟩ := hS
  unfold zq_ic_le at hf
  split at hf
  · cases hf
    have k := k H locs ls ⟨hW, hH, hL, hsc⟩
    refine lv_icmp_le hx hb hdg ht (fun hq => ?_) (fun hq => ?_)
    · rw [if_pos hq] at k
      exact k
    · rw [if_neg hq] at k
      exact k
  · cases hf
def zq_ifnull (pc' tgt : Nat) : zq_Op := fun lo st μ => match st with
  | .ref _ :: r => some ([], pc', lo, r, μ)
  | .null :: r => some ([], tgt, lo, r, μ)
  | _ => none
def zq_goto (tgt : Nat) : zq_Op := fun lo st μ => some ([], tgt, lo, st, μ)
theorem zq_s_ifnull {cc : ByteArray} {nL : Nat} {own : String} {rf rl pc : Nat} {off : Int} {tgt : Nat} (hdg : decode cc pc = .ok (.ifnull off, 3)) (ht : (pc : Int) + off = (tgt : Int)) : zq_snd cc nL own rf rl pc (zq_ifnull (pc + 3) tgt) := by
  intro g p l e R s m args below meth c H locs cells slots Z ls lo st μ P pc' lo' st' μ' hC hS hf hP k
  obtain ⟨hx, hb, hml, hown, hts, hK, hX, hbl, hJ, hrf, hrl, hce, hsl⟩ := hC
  obtain ⟨hW, hH, hL, hsc⟩ := hS
  unfold zq_ifnull at hf
  split at hf
  · cases hf
    exact lv_ifnull hx hb hdg (k H locs ls ⟨hW, hH, hL, hsc⟩)
  · cases hf
    exact lv_ifnullN hx hb hdg ht (k H locs ls ⟨hW, hH, hL, hsc⟩)
  · cases hf
theorem zq_s_ifnonnull {cc : ByteArray} {nL : Nat} {own : String} {rf rl pc : Nat} {off : Int} {tgt : Nat} (hdg : decode cc pc = .ok (.ifnonnull off, 3)) (ht : (pc : Int) + off = (tgt : Int)) : zq_snd cc nL own rf rl pc (zq_ifnull tgt (pc + 3)) := by
  intro g p l e R s m args below meth c H locs cells slots Z ls lo st μ P pc' lo' st' μ' hC hS hf hP k
  obtain ⟨hx, hb, hml, hown, hts, hK, hX, hbl, hJ, hrf, hrl, hce, hsl⟩ := hC
  obtain ⟨hW, hH, hL, hsc⟩ := hS
  unfold zq_ifnull at hf
  split at hf
  · cases hf
    exact lv_ifnonnull hx hb hdg ht (k H locs ls ⟨hW, hH, hL, hsc⟩)
  · cases hf
    exact lv_ifnonnullN hx hb hdg (k H locs ls ⟨hW, hH, hL, hsc⟩)
  · cases hf
theorem zq_s_goto {cc : ByteArray} {nL : Nat} {own : String} {rf rl pc : Nat} {off : Int} {tgt : Nat} (hdg : decode cc pc = .ok (.goto off, 3)) (ht : (pc : Int) + off = (tgt : Int)) : zq_snd cc nL own rf rl pc (zq_goto tgt) := by
  intro g p l e R s m args below meth c H locs cells slots Z ls lo st μ P pc' lo' st' μ' hC hS hf hP k
  obtain ⟨hx, hb, hml, hown, hts, hK, hX, hbl, hJ, hrf, hrl, hce, hsl⟩ := hC
  obtain ⟨hW, hH, hL, hsc⟩ := hS
  cases hf
  exact lv_goto hx hb hdg ht (k H locs ls ⟨hW, hH, hL, hsc⟩)
def zq_tgt (lo hi : Int) (d : Nat) (tg : List Nat) (x : Int32) : Nat := if x.toInt < lo ∨ hi < x.toInt then d else tg.getD (x.toInt - lo).toNat d
def zq_tsw (lo hi : Int) (d : Nat) (tg : List Nat) : zq_Op := fun l st μ => match st with
  | .int x :: r => some ([], zq_tgt lo hi d tg x, l, r, μ)
  | _ => none
theorem zq_s_tsw {cc : ByteArray} {nL : Nat} {own : String} {rf rl pc : Nat} {dflt lw hi : Int} {offs : Array Int} {len d : Nat} {tg : List Nat} (hdg : decode cc pc = .ok (.tableswitch dflt lw hi offs, len)) (hd : (pc : Int) + dflt = (d : Int)) (hn : hi - lw < tg.length) (ht : ∀ n, n < tg.length → ∃ off, offs[n]? = some off ∧ (pc : Int) + off = (tg.getD n d : Int)) : zq_snd cc nL own rf rl pc (zq_tsw lw hi d tg) := by
  intro g p l e R s m args below meth c H locs cells slots Z ls lo st μ P pc' lo' st' μ' hC hS hf hP k
  obtain ⟨hx, hb, hml, hown, hts, hK, hX, hbl, hJ, hrf, hrl, hce, hsl⟩ := hC
  obtain ⟨hW, hH, hL, hsc⟩ := hS
  unfold zq_tsw at hf
  split at hf
  · rename_i x r
    cases hf
    have k := k H locs ls ⟨hW, hH, hL, hsc⟩
    by_cases hq : x.toInt < lw ∨ hi < x.toInt
    · unfold zq_tgt at k
      rw [if_pos hq] at k
      exact lv_tableOut hx hb hdg hq hd k
    · unfold zq_tgt at k
      rw [if_neg hq] at k
      obtain ⟨off, h1, h2⟩ := ht (x.toInt - lw).toNat (by omega)
      exact lv_tableIn hx hb hdg (fun h => hq (Or.inl h)) (fun h => hq (Or.inr h)) h1 h2 k
  · cases hf
def zq_l3 (a1 a2 a3 : Int32) (t1 t2 t3 d : Nat) : zq_Op := fun l st μ => match st with
  | .int x :: r => some ([], if x = a1 then t1 else if x = a2 then t2 else if x = a3 then t3 else d, l, r, μ)
  | _ => none
theorem zq_s_l3 {cc : ByteArray} {nL : Nat} {own : String} {rf rl pc : Nat} {dflt : Int} {ps : Array (Int × Int)} {len d : Nat} {a1 a2 a3 : Int32} {b1 b2 b3 o1 o2 o3 : Int} {t1 t2 t3 : Nat} (hdg : decode cc pc = .ok (.lookupswitch dflt ps, len)) (hp : (ps.toList.zip (ps.toList.drop 1)).all (fun (a, next) => a.1 < next.1) = true) (hl : ps.toList = [(b1, o1), (b2, o2), (b3, o3)]) (h1 : a1.toInt = b1 ∧ a2.toInt = b2 ∧ a3.toInt = b3) (hd : (pc : Int) + dflt = (d : Int) ∧ (pc : Int) + o1 = (t1 : Int) ∧ (pc : Int) + o2 = (t2 : Int) ∧ (pc : Int) + o3 = (t3 : Int)) : zq_snd cc nL own rf rl pc (zq_l3 a1 a2 a3 t1 t2 t3 d) := by
  intro g p l e R s m args below meth c H locs cells slots Z ls lo st μ P pc' lo' st' μ' hC hS hf hP k
  obtain ⟨hx, hb, hml, hown, hts, hK, hX, hbl, hJ, hrf, hrl, hce, hsl⟩ := hC
  obtain ⟨hW, hH, hL, hsc⟩ := hS
  unfold zq_l3 at hf
  split at hf
  · rename_i x r
    cases hf
    have k := k H locs ls ⟨hW, hH, hL, hsc⟩
    obtain ⟨e1, e2, e3⟩ := h1
    obtain ⟨d0, d1, d2, d3⟩ := hd
    by_cases q1 : x = a1
    · rw [if_pos q1] at k
      exact lv_lookup hx hb hdg hp (off := o1) (by rw [hl, q1, ← e1]; simp [Op.lookupswitch.offset]) d1 k
    · rw [if_neg q1] at k
      by_cases q2 : x = a2
      · rw [if_pos q2] at k
        exact lv_lookup hx hb hdg hp (off := o2) (by rw [hl, lv_osw q1 e1, q2, ← e2]; simp [Op.lookupswitch.offset]) d2 k
      · rw [if_neg q2] at k
        by_cases q3 : x = a3
        · rw [if_pos q3] at k
          exact lv_lookup hx hb hdg hp (off := o3) (by rw [hl, lv_osw q1 e1, lv_osw q2 e2, q3, ← e3]; simp [Op.lookupswitch.offset]) d3 k
        · rw [if_neg q3] at k
          exact lv_lookup hx hb hdg hp (off := dflt) (by rw [hl, lv_osw q1 e1, lv_osw q2 e2, lv_osw q3 e3]; simp [Op.lookupswitch.offset]) d0 k
  · cases hf
def zq_asc (ci : Nat) : List (Nat × Nat) → Option Nat
  | [] => none
  | q :: r => bif Nat.beq q.1 ci then some q.2 else zq_asc ci r
theorem zq_asc_mem {ci j : Nat} : ∀ {cj : List (Nat × Nat)}, zq_asc ci cj = some j → (ci, j) ∈ cj
  | [], h => by cases h
  | q :: r, h => by
    unfold zq_asc at h
    cases hb : Nat.beq q.1 ci with
    | true =>
      rw [hb] at h
      cases h
      have := Nat.eq_of_beq_eq_true hb
      subst this
      exact List.mem_cons_self
    | false =>
      rw [hb] at h
      exact List.mem_cons_of_mem _ (zq_asc_mem h)
def zq_fcode (a : Nat) (cj : List (Nat × Nat)) : Option (Nat × Nat) := match zq_sh a with
  | (0, ci, cs) => match zq_asc ci cj with
    | some j => match cs[j]? with
      | some code => some (j, code)
      | none => none
    | none => none
  | _ => none
theorem zq_fcode_spec {a j code : Nat} {cj : List (Nat × Nat)} (h : zq_fcode a cj = some (j, code)) : ∃ (ci : Nat) (cs : List Nat), zq_sh a = (0, ci, cs) ∧ (ci, j) ∈ cj ∧ cs[j]? = some code := by
  unfold zq_fcode at h
  split at h
  · rename_i ci cs he
    split at h
    · rename_i j' hj
      split at h
      · rename_i code' hc
        cases h
        exact ⟨ci, cs, he, zq_asc_mem hj, hc⟩
      · cases h
    · cases h
  · cases h
def zq_fok (own : String) (index ci j : Nat) : Prop := ∃ (ref C : String) (T : u_T) (N : Nat), vwCl[ci]? = some (C, T, N) ∧ j < N ∧ (∀ w ∈ u_ws C T N, w ∈ zq_W) ∧ Cond.fieldLink own index ref (T j).2.1 (T j).2.2.1 ∈ zq_W ∧ (ref = (T j).1 ∨ Cond.sameField ref (T j).1 (T j).2.1 (T j).2.2.1 ∈ zq_W)
def zq_wok (own : String) (index ci j : Nat) (ty : FieldType) : Prop := ∃ (C : String) (T : u_T) (N : Nat) (ty0 : Nat → FieldType), vwCl[ci]? = some (C, T, N) ∧ j < N ∧ (∀ w ∈ u_ws C T N, w ∈ zq_W) ∧ Cond.fieldLink own index (T j).1 (T j).2.1 (T j).2.2.1 ∈ zq_W ∧ (∀ k, k < N → parseFieldDescriptor (T k).2.2.1 = some (ty0 k)) ∧ (∀ a, a < N → ∀ b, b < N → a ≠ b → (T a).2.1 ≠ (T b).2.1) ∧ (T j).2.2.2 = false ∧ parseFieldDescriptor (T j).2.2.1 = some ty
theorem zq_ce0 {g : zq_G} {μ : zq_Me} {a ci : Nat} {cs : List Nat} (h : zq_sh a = (0, ci, cs)) : zq_ce g μ a = .inr (ci, (zq_fvs a μ 0 cs).map (zq_cv g)) := by unfold zq_ce; rw [h]; rfl
theorem zq_ce1 {g : zq_G} {μ : zq_Me} {a n : Nat} {cs : List Nat} (h : zq_sh a = (1, n, cs)) : zq_ce g μ a = .inl (zq_cA g 0, (n, .inl (μ.1 a))) := by unfold zq_ce; rw [h]; rfl
theorem zq_ce2 {g : zq_G} {μ : zq_Me} {a n : Nat} {cs : List Nat} (h : zq_sh a = (2, n, cs)) : zq_ce g μ a = .inl (zq_cA g 1, (n, .inr (.inl (μ.2.1 a)))) := by unfold zq_ce; rw [h]; rfl
theorem zq_ce3 {g : zq_G} {μ : zq_Me} {a n : Nat} {cs : List Nat} (h : zq_sh a = (3, n, cs)) : zq_ce g μ a = .inl (zq_cA g 2, (n, .inl (μ.1 a))) := by unfold zq_ce; rw [h]; rfl
theorem zq_ce4 {g : zq_G} {μ : zq_Me} {a n : Nat} {cs : List Nat} (h : zq_sh a = (4, n, cs)) : zq_ce g μ a = .inl (zq_cA g 3, (n, .inr (.inr (.inr (.inr (fun j => some (zq_ad g (cs.getD j 0)))))))) := by unfold zq_ce; rw [h]; rfl
theorem zq_row {g : zq_G} {μ : zq_Me} {a : Nat} {e : va_E} (hl : a < zq_nC) (h : zq_ce g μ a = e) : (zq_ws g μ)[a]? = some (zq_ad g a, e) := by rw [zq_at hl, h]
def zq_getf (pc' : Nat) (cj : List (Nat × Nat)) : zq_Op := fun lo st μ => match st with
  | .ref a :: r => match zq_fcode a cj with
    | some (j, code) => some ([], pc', lo, zq_fv a j code μ :: r, μ)
    | none => none
  | _ => none
theorem zq_s_getf {cc : ByteArray} {nL : Nat} {own : String} {rf rl pc : Nat} {index : Nat} {cj : List (Nat × Nat)} (hdg : decode cc pc = .ok (.getfield index, 3)) (hok : ∀ q ∈ cj, zq_fok own index q.1 q.2) : zq_snd cc nL own rf rl pc (zq_getf (pc + 3) cj) := by
  intro g p l e R s m args below meth c H locs cells slots Z ls lo st μ P pc' lo' st' μ' hC hS hf hP k
  obtain ⟨hx, hb, hml, hown, hts, hK, hX, hbl, hJ, hrf, hrl, hce, hsl⟩ := hC
  obtain ⟨hW, hH, hL, hsc⟩ := hS
  unfold zq_getf at hf
  split at hf
  · rename_i a r
    split at hf
    · rename_i j code hq
      cases hf
      obtain ⟨ci, cs, h1, h2, h3⟩ := zq_fcode_spec hq
      obtain ⟨ref, C, T, N, q1, q2, q3, q4, q5⟩ := hok _ h2
      have hv : ((zq_fvs a μ 0 cs).map (zq_cv g))[j]? = some (zq_cv g (zq_fv a j code μ)) := by
        rw [List.getElem?_map, zq_fvs_get, h3, Nat.zero_add]
        rfl
      refine va_get (D := g.1) (ref := ref) hx hb hts q3 hown hK hW a (zq_row (zq_lt h1 (by decide)) (zq_ce0 h1)) q1 j q2 (hts _ q4) (fun x hx9 => ?_) hv hdg (k H locs ls ⟨hW, hH, hL, hsc⟩)
      rcases q5 with q5 | q5
      · rw [q5]; exact hx9
      · exact u_same (hts _ q5) x hx9
    · cases hf
  · cases hf
def zq_puti (pc' : Nat) (bz : Bool) (cj : List (Nat × Nat)) : zq_Op := fun lo st μ => match st with
  | .int x :: .ref a :: r => match zq_fcode a cj with
    | some (j, 0) => some (bif bz then [x = 0 ∨ x = 1] else [], pc', lo, r, zq_u1 μ a j x)
    | _ => none
  | _ => none
def zq_putr (pc' : Nat) (cj : List (Nat × Nat)) : zq_Op := fun lo st μ => match st with
  | .ref n :: .ref a :: r => match zq_fcode a cj with
    | some (j, 1) => some ([], pc', lo, r, zq_u3 μ a j n)
    | _ => none
  | _ => none
theorem zq_u1_o {g : zq_G} {μ : zq_Me} {a i : Nat} {x : Int32} : ∀ j, j ≠ a → zq_ce g (zq_u1 μ a i x) j = zq_ce g μ j := fun j hj => zq_ce_congr (by simp [zq_u1, hj]) rfl rfl
theorem zq_u2_o {g : zq_G} {μ : zq_Me} {a i : Nat} {x : Int64} : ∀ j, j ≠ a → zq_ce g (zq_u2 μ a i x) j = zq_ce g μ j := fun j hj => zq_ce_congr rfl (by simp [zq_u2, hj]) rfl
theorem zq_u3_o {g : zq_G} {μ : zq_Me} {a i n : Nat} : ∀ j, j ≠ a → zq_ce g (zq_u3 μ a i n) j = zq_ce g μ j := fun j hj => zq_ce_congr rfl rfl (by simp [zq_u3, hj])
theorem zq_ur_o {g : zq_G} {μ : zq_Me} {a : Nat} {f : Nat → Int32} : ∀ j, j ≠ a → zq_ce g (zq_ur μ a f) j = zq_ce g μ j := fun j hj => zq_ce_congr (by simp [zq_ur, hj]) rfl rfl
theorem zq_s_puti {cc : ByteArray} {nL : Nat} {own : String} {rf rl pc : Nat} {index : Nat} {bz : Bool} {cj : List (Nat × Nat)} {ty : FieldType} (hdg : decode cc pc = .ok (.putfield index, 3)) (hok : ∀ q ∈ cj, zq_wok own index q.1 q.2 ty) (hty : ∀ x : Int32, (bz = true → x = 0 ∨ x = 1) → narrow ty (.int x) = .int x ∧ fits ty (.int x) = true) : zq_snd cc nL own rf rl pc (zq_puti (pc + 3) bz cj) := by
  intro g p l e R s m args below meth c H locs cells slots Z ls lo st μ P pc' lo' st' μ' hC hS hf hP k
  obtain ⟨hx, hb, hml, hown, hts, hK, hX, hbl, hJ, hrf, hrl, hce, hsl⟩ := hC
  obtain ⟨hW, hH, hL, hsc⟩ := hS
  unfold zq_puti at hf
  split at hf
  · rename_i x a r
    split at hf
    · rename_i j hq
      cases hf
      obtain ⟨ci, cs, h1, h2, h3⟩ := zq_fcode_spec hq
      obtain ⟨C, T, N, ty0, q1, q2, q3, q4, q5, q6, q7, q8⟩ := hok _ h2
      obtain ⟨n1, n2⟩ := hty x (fun hb9 => by rw [hb9] at hP; exact hP.1)
      refine va_put (D := g.1) (ty := ty) hx hb hts q3 ty0 q5 q6 hown hK hW (zq_dis hJ μ) hH a (zq_row (zq_lt h1 (by decide)) (zq_ce0 h1)) q1 j q2 (hts _ q4) (fun _ h9 => h9) q7 q8 n1 n2 (by rw [List.length_map, zq_fvs_len]; exact (List.getElem?_eq_some_iff.mp h3).1) hdg (fun H1 locs1 hP1 _ hS1 => ?_)
      rw [zq_set (μ' := zq_u1 μ a j x) (by rw [zq_ce0 h1, zq_fvs_set1 cs h3, List.map_set]) zq_u1_o] at hP1
      exact k H1 locs1 ls ⟨hP1, hS1, hL, hsc⟩
    · cases hf
  · cases hf
theorem zq_s_putr {cc : ByteArray} {nL : Nat} {own : String} {rf rl pc : Nat} {index : Nat} {cj : List (Nat × Nat)} {C0 : String} (hdg : decode cc pc = .ok (.putfield index, 3)) (hok : ∀ q ∈ cj, zq_wok own index q.1 q.2 (.object C0)) : zq_snd cc nL own rf rl pc (zq_putr (pc + 3) cj) := by
  intro g p l e R s m args below meth c H locs cells slots Z ls lo st μ P pc' lo' st' μ' hC hS hf hP k
  obtain ⟨hx, hb, hml, hown, hts, hK, hX, hbl, hJ, hrf, hrl, hce, hsl⟩ := hC
  obtain ⟨hW, hH, hL, hsc⟩ := hS
  unfold zq_putr at hf
  split at hf
  · rename_i n a r
    split at hf
    · rename_i j hq
      cases hf
      obtain ⟨ci, cs, h1, h2, h3⟩ := zq_fcode_spec hq
      obtain ⟨C, T, N, ty0, q1, q2, q3, q4, q5, q6, q7, q8⟩ := hok _ h2
      refine va_put (D := g.1) (ty := .object C0) hx hb hts q3 ty0 q5 q6 hown hK hW (zq_dis hJ μ) hH a (zq_row (zq_lt h1 (by decide)) (zq_ce0 h1)) q1 j q2 (hts _ q4) (fun _ h9 => h9) q7 q8 rfl rfl (by rw [List.length_map, zq_fvs_len]; exact (List.getElem?_eq_some_iff.mp h3).1) hdg (fun H1 locs1 hP1 _ hS1 => ?_)
      rw [zq_set (μ' := zq_u3 μ a j n) (by rw [zq_ce0 h1, zq_fvs_set3 cs h3, List.map_set]) zq_u3_o] at hP1
      exact k H1 locs1 ls ⟨hP1, hS1, hL, hsc⟩
    · cases hf
  · cases hf
def zq_iald (pc' : Nat) : zq_Op := fun lo st μ => match st with
  | .int i :: .ref a :: r => match zq_sh a with
    | (1, n, _) => some ([vp_in i n], pc', lo, .int (μ.1 a i.toNatClampNeg) :: r, μ)
    | (5, _, _) => some ([vp_in i μ.2.2.2.1], pc', lo, .int (μ.2.2.2.2 i.toNatClampNeg) :: r, μ)
    | _ => none
  | _ => none
def zq_iast (pc' : Nat) : zq_Op := fun lo st μ => match st with
  | .int x :: .int i :: .ref a :: r => match zq_sh a with
    | (1, n, _) => some ([vp_in i n], pc', lo, r, zq_u1 μ a i.toNatClampNeg x)
    | _ => none
  | _ => none
def zq_lald (pc' : Nat) : zq_Op := fun lo st μ => match st with
  | .int i :: .ref a :: r => match zq_sh a with
    | (2, n, _) => some ([vp_in i n], pc', lo, .long (μ.2.1 a i.toNatClampNeg) :: r, μ)
    | _ => none
  | _ => none
def zq_last (pc' : Nat) : zq_Op := fun lo st μ => match st with
  | .long x :: .int i :: .ref a :: r => match zq_sh a with
    | (2, n, _) => some ([vp_in i n], pc', lo, r, zq_u2 μ a i.toNatClampNeg x)
    | _ => none
  | _ => none
def zq_zald (pc' : Nat) : zq_Op := fun lo st μ => match st with
  | .int i :: .ref a :: r => match zq_sh a with
    | (3, n, _) => some ([vp_in i n], pc', lo, .int (μ.1 a i.toNatClampNeg) :: r, μ)
    | _ => none
  | _ => none
def zq_zast (pc' : Nat) : zq_Op := fun lo st μ => match st with
  | .int x :: .int i :: .ref a :: r => match zq_sh a with
    | (3, n, _) => some ([vp_in i n], pc', lo, r, zq_u1 μ a i.toNatClampNeg (vp_nar .boolean x))
    | _ => none
  | _ => none
def zq_aald (pc' : Nat) : zq_Op := fun lo st μ => match st with
  | .int i :: .ref a :: r => match zq_sh a with
    | (4, n, cs) => some ([vp_in i n], pc', lo, .ref (cs.getD i.toNatClampNeg 0) :: r, μ)
    | _ => none
  | _ => none
def zq_alen (pc' : Nat) : zq_Op := fun lo st μ => match st with
  | .ref a :: r => match zq_sh a with
    | (1, n, _) => some ([], pc', lo, .int (Int32.ofNat n) :: r, μ)
    | (2, n, _) => some ([], pc', lo, .int (Int32.ofNat n) :: r, μ)
    | (5, _, _) => some ([], pc', lo, .int (Int32.ofNat μ.2.2.2.1) :: r, μ)
    | _ => none
  | _ => none
theorem zq_u1_ce {g : zq_G} {μ : zq_Me} {a n i : Nat} {cs : List Nat} {x : Int32} (h : zq_sh a = (1, n, cs)) : zq_ce g (zq_u1 μ a i x) a = .inl (zq_cA g 0, (n, .inl (upd (μ.1 a) i x))) := by rw [zq_ce1 h]; simp [zq_u1]
theorem zq_u1_ce3 {g : zq_G} {μ : zq_Me} {a n i : Nat} {cs : List Nat} {x : Int32} (h : zq_sh a = (3, n, cs)) : zq_ce g (zq_u1 μ a i x) a = .inl (zq_cA g 2, (n, .inl (upd (μ.1 a) i x))) := by rw [zq_ce3 h]; simp [zq_u1]
theorem zq_u2_ce {g : zq_G} {μ : zq_Me} {a n i : Nat} {cs : List Nat} {x : Int64} (h : zq_sh a = (2, n, cs)) : zq_ce g (zq_u2 μ a i x) a = .inl (zq_cA g 1, (n, .inr (.inl (vp_updL (μ.2.1 a) i x)))) := by rw [zq_ce2 h]; simp [zq_u2]
theorem zq_ur_ce {g : zq_G} {μ : zq_Me} {a n : Nat} {cs : List Nat} {f : Nat → Int32} (h : zq_sh a = (1, n, cs)) : zq_ce g (zq_ur μ a f) a = .inl (zq_cA g 0, (n, .inl f)) := by rw [zq_ce1 h]; simp [zq_ur]
theorem zq_s_iald {cc : ByteArray} {nL : Nat} {own : String} {rf rl pc : Nat}  (hdg : decode cc pc = .ok (.iaload, 1)) : zq_snd cc nL own rf rl pc (zq_iald (pc + 1)) := by
  intro g p l e R s m args below meth c H locs cells slots Z ls lo st μ P pc' lo' st' μ' hC hS hf hP k
  obtain ⟨hx, hb, hml, hown, hts, hK, hX, hbl, hJ, hrf, hrl, hce, hsl⟩ := hC
  obtain ⟨hW, hH, hL, hsc⟩ := hS
  unfold zq_iald at hf
  split at hf
  · rename_i i a r
    split at hf
    · rename_i n cs he
      cases hf
      exact va_iald (D := g.1) hx hb hK hW a 0 (zq_row (zq_lt he (by decide)) (zq_ce1 he)) rfl hP.1 hdg (k H locs ls ⟨hW, hH, hL, hsc⟩)
    · rename_i n cs he
      cases hf
      have ha := zq_is5 he
      subst ha
      have k := k H locs ls ⟨hW, hH, hL, hsc⟩
      rw [hsc] at k hP
      exact va_sld hx hb hX hbl (zq_notA hJ) hH hP.1 hdg k
    · cases hf
  · cases hf
theorem zq_s_iast {cc : ByteArray} {nL : Nat} {own : String} {rf rl pc : Nat}  (hdg : decode cc pc = .ok (.iastore, 1)) : zq_snd cc nL own rf rl pc (zq_iast (pc + 1)) := by
  intro g p l e R s m args below meth c H locs cells slots Z ls lo st μ P pc' lo' st' μ' hC hS hf hP k
  obtain ⟨hx, hb, hml, hown, hts, hK, hX, hbl, hJ, hrf, hrl, hce, hsl⟩ := hC
  obtain ⟨hW, hH, hL, hsc⟩ := hS
  unfold zq_iast at hf
  split at hf
  · rename_i x i a r
    split at hf
    · rename_i n cs he
      cases hf
      refine va_iast (D := g.1) hx hb hK hW (zq_dis hJ μ) hH a 0 (zq_row (zq_lt he (by decide)) (zq_ce1 he)) rfl hP.1 hdg (fun H1 locs1 hP1 _ hS1 => ?_)
      rw [zq_set (zq_u1_ce he) zq_u1_o] at hP1
      exact k H1 locs1 ls ⟨hP1, hS1, hL, hsc⟩
    · cases hf
  · cases hf
theorem zq_s_last {cc : ByteArray} {nL : Nat} {own : String} {rf rl pc : Nat}  (hdg : decode cc pc = .ok (.lastore, 1)) : zq_snd cc nL own rf rl pc (zq_last (pc + 1)) := by
  intro g p l e R s m args below meth c H locs cells slots Z ls lo st μ P pc' lo' st' μ' hC hS hf hP k
  obtain ⟨hx, hb, hml, hown, hts, hK, hX, hbl, hJ, hrf, hrl, hce, hsl⟩ := hC
  obtain ⟨hW, hH, hL, hsc⟩ := hS
  unfold zq_last at hf
  split at hf
  · rename_i x i a r
    split at hf
    · rename_i n cs he
      cases hf
      refine va_last (D := g.1) hx hb hK hW (zq_dis hJ μ) hH a 1 (zq_row (zq_lt he (by decide)) (zq_ce2 he)) rfl hP.1 hdg (fun H1 locs1 hP1 _ hS1 => ?_)
      rw [zq_set (zq_u2_ce he) zq_u2_o] at hP1
      exact k H1 locs1 ls ⟨hP1, hS1, hL, hsc⟩
    · cases hf
  · cases hf
theorem zq_s_zast {cc : ByteArray} {nL : Nat} {own : String} {rf rl pc : Nat}  (hdg : decode cc pc = .ok (.bastore, 1)) : zq_snd cc nL own rf rl pc (zq_zast (pc + 1)) := by
  intro g p l e R s m args below meth c H locs cells slots Z ls lo st μ P pc' lo' st' μ' hC hS hf hP k
  obtain ⟨hx, hb, hml, hown, hts, hK, hX, hbl, hJ, hrf, hrl, hce, hsl⟩ := hC
  obtain ⟨hW, hH, hL, hsc⟩ := hS
  unfold zq_zast at hf
  split at hf
  · rename_i x i a r
    split at hf
    · rename_i n cs he
      cases hf
      refine va_zast (D := g.1) hx hb hK hW (zq_dis hJ μ) hH a 2 (zq_row (zq_lt he (by decide)) (zq_ce3 he)) rfl hP.1 hdg (fun H1 locs1 hP1 _ hS1 => ?_)
      rw [zq_set (zq_u1_ce3 he) zq_u1_o] at hP1
      exact k H1 locs1 ls ⟨hP1, hS1, hL, hsc⟩
    · cases hf
  · cases hf
theorem zq_s_lald {cc : ByteArray} {nL : Nat} {own : String} {rf rl pc : Nat}  (hdg : decode cc pc = .ok (.laload, 1)) : zq_snd cc nL own rf rl pc (zq_lald (pc + 1)) := by
  intro g p l e R s m args below meth c H locs cells slots Z ls lo st μ P pc' lo' st' μ' hC hS hf hP k
  obtain ⟨hx, hb, hml, hown, hts, hK, hX, hbl, hJ, hrf, hrl, hce, hsl⟩ := hC
  obtain ⟨hW, hH, hL, hsc⟩ := hS
  unfold zq_lald at hf
  split at hf
  · rename_i i a r
    split at hf
    · rename_i n cs he
      cases hf
      exact va_lald (D := g.1) hx hb hK hW a 1 (zq_row (zq_lt he (by decide)) (zq_ce2 he)) rfl hP.1 hdg (k H locs ls ⟨hW, hH, hL, hsc⟩)
    · cases hf
  · cases hf
theorem zq_s_zald {cc : ByteArray} {nL : Nat} {own : String} {rf rl pc : Nat}  (hdg : decode cc pc = .ok (.baload, 1)) : zq_snd cc nL own rf rl pc (zq_zald (pc + 1)) := by
  intro g p l e R s m args below meth c H locs cells slots Z ls lo st μ P pc' lo' st' μ' hC hS hf hP k
  obtain ⟨hx, hb, hml, hown, hts, hK, hX, hbl, hJ, hrf, hrl, hce, hsl⟩ := hC
  obtain ⟨hW, hH, hL, hsc⟩ := hS
  unfold zq_zald at hf
  split at hf
  · rename_i i a r
    split at hf
    · rename_i n cs he
      cases hf
      exact va_zald (D := g.1) hx hb hK hW a 2 (zq_row (zq_lt he (by decide)) (zq_ce3 he)) rfl hP.1 hdg (k H locs ls ⟨hW, hH, hL, hsc⟩)
    · cases hf
  · cases hf
theorem zq_s_aald {cc : ByteArray} {nL : Nat} {own : String} {rf rl pc : Nat}  (hdg : decode cc pc = .ok (.aaload, 1)) : zq_snd cc nL own rf rl pc (zq_aald (pc + 1)) := by
  intro g p l e R s m args below meth c H locs cells slots Z ls lo st μ P pc' lo' st' μ' hC hS hf hP k
  obtain ⟨hx, hb, hml, hown, hts, hK, hX, hbl, hJ, hrf, hrl, hce, hsl⟩ := hC
  obtain ⟨hW, hH, hL, hsc⟩ := hS
  unfold zq_aald at hf
  split at hf
  · rename_i i a r
    split at hf
    · rename_i n cs he
      cases hf
      exact va_aldq (D := g.1) hx hb hK hW a 3 (zq_row (zq_lt he (by decide)) (zq_ce4 he)) rfl hP.1 hdg (k H locs ls ⟨hW, hH, hL, hsc⟩)
    · cases hf
  · cases hf
theorem zq_s_alen {cc : ByteArray} {nL : Nat} {own : String} {rf rl pc : Nat}  (hdg : decode cc pc = .ok (.arraylength, 1)) : zq_snd cc nL own rf rl pc (zq_alen (pc + 1)) := by
  intro g p l e R s m args below meth c H locs cells slots Z ls lo st μ P pc' lo' st' μ' hC hS hf hP k
  obtain ⟨hx, hb, hml, hown, hts, hK, hX, hbl, hJ, hrf, hrl, hce, hsl⟩ := hC
  obtain ⟨hW, hH, hL, hsc⟩ := hS
  unfold zq_alen at hf
  split at hf
  · rename_i a r
    split at hf
    · rename_i n cs he
      cases hf
      exact va_alen (D := g.1) hx hb hK hW a 0 (zq_row (zq_lt he (by decide)) (zq_ce1 he)) rfl rfl hdg (k H locs ls ⟨hW, hH, hL, hsc⟩)
    · rename_i n cs he
      cases hf
      exact va_alen (D := g.1) hx hb hK hW a 1 (zq_row (zq_lt he (by decide)) (zq_ce2 he)) rfl rfl hdg (k H locs ls ⟨hW, hH, hL, hsc⟩)
    · rename_i n cs he
      cases hf
      have ha := zq_is5 he
      subst ha
      have k := k H locs ls ⟨hW, hH, hL, hsc⟩
      rw [hsc] at k
      exact va_slen hx hb hX hbl (zq_notA hJ) hH hdg k
    · cases hf
  · cases hf
def zq_cats (r : List Value) : Nat := (r.map fun v => v.category).sum
theorem zq_cats_map (g : zq_G) (r : List Value) : ((r.map (zq_cv g)).map fun v => v.category).sum = zq_cats r := by
  unfold zq_cats
  rw [List.map_map]
  congr 1
  apply List.map_congr_left
  intro v _
  exact zq_cv_cat g v
def zq_mm (pc' : Nat) (f : Int32 → Int32 → Int32) : zq_Op := fun lo st μ => match st with
  | .int y :: .int x :: r => bif Nat.ble (zq_cats r) 8 then some ([], pc', lo, .int (f x y) :: r, μ) else none
  | _ => none
def zq_copy (pc' : Nat) : zq_Op := fun lo st μ => match st with
  | .int n :: .int dp :: .ref b :: .int sp :: .ref a :: r => match zq_sh a, zq_sh b with
    | (1, n0, _), (1, n1, _) => bif Nat.ble (zq_cats r) 8 then some ([¬ sp < 0 ∧ ¬ dp < 0 ∧ ¬ n < 0 ∧ sp.toNatClampNeg + n.toNatClampNeg ≤ n0 ∧ dp.toNatClampNeg + n.toNatClampNeg ≤ n1], pc', lo, r, zq_ur μ b (va_cpy (μ.1 a) (μ.1 b) sp.toNatClampNeg dp.toNatClampNeg n.toNatClampNeg)) else none
    | _, _ => none
  | _ => none
theorem zq_s_mmax {cc : ByteArray} {nL : Nat} {own : String} {rf rl pc : Nat} {index : Nat} (hdg : decode cc pc = .ok (.invokestatic index, 3)) (h1 : Cond.methodLink own index Lib.Math.max.name ∈ zq_W) (h2 : Cond.static Lib.Math.max.name ∈ zq_W) (h3 : Cond.initialized "java/lang/Math" ∈ zq_W) (h4 : Cond.code Lib.Math.max.name Lib.Math.max.code 2 (some .int) ∈ zq_W) (h5 : 1 ≤ rf) (h6 : 21 ≤ rl) : zq_snd cc nL own rf rl pc (zq_mm (pc + 3) (fun x y => if x < y then y else x)) := by
  intro g p l e R s m args below meth c H locs cells slots Z ls lo st μ P pc' lo' st' μ' hC hS hf hP k
  obtain ⟨hx, hb, hml, hown, hts, hK, hX, hbl, hJ, hrf, hrl, hce, hsl⟩ := hC
  obtain ⟨hW, hH, hL, hsc⟩ := hS
  unfold zq_mm at hf
  split at hf
  · rename_i y x r
    cases hb9 : Nat.ble (zq_cats r) 8 with
    | false => rw [hb9] at hf; cases hf
    | true =>
      rw [hb9] at hf
      cases hf
      have h9 := Nat.le_of_ble_eq_true hb9
      exact va_mmax hx hb (hml.trans hL.1.symm) hown (hts _ h1) (hts _ h2) (hts _ h3) (hts _ h4) (by omega) (by rw [zq_cats_map]; omega) hce hsl hdg (k H locs ls ⟨hW, hH, hL, hsc⟩)
  · cases hf
theorem zq_s_mmin {cc : ByteArray} {nL : Nat} {own : String} {rf rl pc : Nat} {index : Nat} (hdg : decode cc pc = .ok (.invokestatic index, 3)) (h1 : Cond.methodLink own index Lib.Math.min.name ∈ zq_W) (h2 : Cond.static Lib.Math.min.name ∈ zq_W) (h3 : Cond.initialized "java/lang/Math" ∈ zq_W) (h4 : Cond.code Lib.Math.min.name Lib.Math.min.code 2 (some .int) ∈ zq_W) (h5 : 1 ≤ rf) (h6 : 21 ≤ rl) : zq_snd cc nL own rf rl pc (zq_mm (pc + 3) (fun x y => if y < x then y else x)) := by
  intro g p l e R s m args below meth c H locs cells slots Z ls lo st μ P pc' lo' st' μ' hC hS hf hP k
  obtain ⟨hx, hb, hml, hown, hts, hK, hX, hbl, hJ, hrf, hrl, hce, hsl⟩ := hC
  obtain ⟨hW, hH, hL, hsc⟩ := hS
  unfold zq_mm at hf
  split at hf
  · rename_i y x r
    cases hb9 : Nat.ble (zq_cats r) 8 with
    | false => rw [hb9] at hf; cases hf
    | true =>
      rw [hb9] at hf
      cases hf
      have h9 := Nat.le_of_ble_eq_true hb9
      exact va_mmin hx hb (hml.trans hL.1.symm) hown (hts _ h1) (hts _ h2) (hts _ h3) (hts _ h4) (by omega) (by rw [zq_cats_map]; omega) hce hsl hdg (k H locs ls ⟨hW, hH, hL, hsc⟩)
  · cases hf
theorem zq_s_copy {cc : ByteArray} {nL : Nat} {own : String} {rf rl pc : Nat} {index : Nat} (hdg : decode cc pc = .ok (.invokestatic index, 3)) (h1 : Cond.methodLink own index arraycopyName ∈ zq_W) (h2 : Cond.native arraycopyName ∈ zq_W) (h3 : Cond.static arraycopyName ∈ zq_W) (h4 : Cond.initialized "java/lang/System" ∈ zq_W) (h5 : 1 ≤ rf) (h6 : 8 + (nativeFrameWords "java/lang/System" "arraycopy" 5 + 11) ≤ rl) : zq_snd cc nL own rf rl pc (zq_copy (pc + 3)) := by
  intro g p l e R s m args below meth c H locs cells slots Z ls lo st μ P pc' lo' st' μ' hC hS hf hP k
  obtain ⟨hx, hb, hml, hown, hts, hK, hX, hbl, hJ, hrf, hrl, hce, hsl⟩ := hC
  obtain ⟨hW, hH, hL, hsc⟩ := hS
  unfold zq_copy at hf
  split at hf
  · rename_i n dp b sp a r
    split at hf
    · rename_i n0 cs0 n1 cs1 ha hb0
      cases hb9 : Nat.ble (zq_cats r) 8 with
      | false => rw [hb9] at hf; cases hf
      | true =>
        rw [hb9] at hf
        cases hf
        have h9 := Nat.le_of_ble_eq_true hb9
        obtain ⟨⟨g1, g2, g3, g4, g5⟩, -⟩ := hP
        refine va_copyi (D := g.1) hx hb (hml.trans hL.1.symm) hown (hts _ h1) (hts _ h2) (hts _ h3) (hts _ h4) hK hW (zq_dis hJ μ) hH a b 0 0 (zq_row (zq_lt ha (by decide)) (zq_ce1 ha)) (zq_row (zq_lt hb0 (by decide)) (zq_ce1 hb0)) rfl rfl rfl g1 g2 g3 g4 g5 (fun _ _ => rfl) (by omega) (by rw [zq_cats_map]; omega) hdg (fun H1 locs1 hP1 _ hS1 => ?_)
        rw [zq_set (zq_ur_ce hb0) zq_ur_o] at hP1
        exact k H1 locs1 ls ⟨hP1, hS1, hL, hsc⟩
    · cases hf
  · cases hf
end
section
/-! ===== calls: a callee's contract out of its walk; a call by the callee's contract ===== -/
def zq_Wd (g : zq_G) (μ : zq_Me) (U : State) : Prop := va_P g.1 vwCl (zq_ws g μ) U.heap ∧ va_K g.1 vwCl (zq_tys g) U ∧ va_X (zq_ad g zq_nC) g.2.2.2.1 g.2.2.2.2 U U.heap ∧ zq_ad g zq_nC < U.heap.size ∧ zq_inj g ∧ μ.2.2.2 = g.2.2.2
def zq_Qc (g : zq_G) (Q1 : Option Value → zq_Me → Prop) : Array Value → State → Outcome → State → Prop := fun _ st oc t => (∃ (v : Option Value) (μ' : zq_Me), oc = .returned (v.map (zq_cv g)) ∧ Q1 v μ' ∧ va_P g.1 vwCl (zq_ws g μ') t.heap ∧ μ'.2.2.2 = g.2.2.2) ∧ va_F (zq_A g) st t
def zq_Mt (g : zq_G) (l : Launch) (y : MethodName) (bytes : ByteArray) (maxL : Nat) (ret : Option FieldType) (rm : Room) (as : List Value) (μ : zq_Me) (Q1 : Option Value → zq_Me → Prop) : Prop :=
  Met l y (Cond.code y bytes maxL ret :: zq_W) rm (va_Pc (as.map (zq_cv g)) (zq_Wd g μ)) (zq_Qc g Q1) 0 0 (zq_A g)
def zq_rv (recv : Option Nat) (as : List Value) : Prop := match recv with
  | none => True
  | some ci => ∃ (a : Nat) (as' : List Value) (cs : List Nat), as = .ref a :: as' ∧ zq_sh a = (0, ci, cs)
def zq_sndc (cc : ByteArray) (nL : Nat) (own : String) (rf rl pc n : Nat) (recv : Option Nat) (y : MethodName) (bytes : ByteArray) (maxL : Nat) (ret : Option FieldType) (rm : Room) : Prop :=
  ∀ (g : zq_G) {p : Program} {l : Launch} {e : Env} {R : Room} {s : State} {m : MethodId} {args : Array Value} {below : List Frame} {meth : Method} {c : Code} {H : Heap} {locs : List Loc} {cells slots : Nat} {Z : State → Prop} {ls : Array Slot} {lo : zq_Lo} {as rest : List Value} {μ : zq_Me} {Q1 : Option Value → zq_Me → Prop},
    zq_Cx g cc nL own rf rl R p s m args c cells slots → zq_St g s H locs nL ls lo μ → as.length = n → zq_rv recv as → zq_cats rest ≤ 8 → zq_Mt g l y bytes maxL ret rm as μ Q1 →
    (∀ (v : Option Value) (μ' : zq_Me) (H' : Heap) (locs' : List Loc), Q1 v μ' → zq_St g s H' locs' nL ls lo μ' → W p l e R s m args below meth c H' locs' cells slots Z (F0 m (pc + 3) ls ((v.toList ++ rest).map (zq_cv g)))) →
    W p l e R s m args below meth c H locs cells slots Z (F0 m pc ls ((as.reverse ++ rest).map (zq_cv g)))
theorem zq_good {ws : List Cond} (h : ∀ w ∈ ws, w ∈ zq_W) : GoodIn zq_W ws := fun w hw => ⟨h w hw, good_of_word (List.mem_filter.mp (h w hw)).2⟩
theorem zq_blind {g : zq_G} {av : List Value} {μ : zq_Me} : FrameBlind (va_Pc av (zq_Wd g μ)) := by
  intro a U h mk q
  obtain ⟨q0, q1, q2, q3, q4, q5⟩ := q
  exact ⟨q0, q1, va_K.moved (u := U) (U := U.calling h mk a) (Vm.Alike.refl U.vm) q2, va_X.moved (u := U) (U := U.calling h mk a) (Vm.Alike.refl U.vm) q3, q4, q5⟩
section ZQC
variable {p : Program} {l : Launch} {e : Env} {R : Room} {s : State} {m : MethodId} {args : Array Value} {below : List Frame} {meth : Method} {c : Code} {H : Heap} {locs : List Loc} {cells slots : Nat} {Z : State → Prop}
theorem zq_callg {g : zq_G} {pc : Nat} {ls : Array Slot} {st0 rest : List Value} {Q1 : Option Value → zq_Me → Prop} {a : Array Value} (hr : va_Run p l e R s m args below meth c H locs cells slots 0 0 (F0 m pc ls st0) rest (zq_Qc g Q1 a) (zq_A g)) (hS : va_S (zq_A g) s.heap H locs)
    (kk : ∀ (v : Option Value) (μ' : zq_Me) (H1 : Heap) (locs1 : List Loc), Q1 v μ' → va_P g.1 vwCl (zq_ws g μ') H1 → μ'.2.2.2 = g.2.2.2 → va_S (zq_A g) s.heap H1 locs1 → W p l e R s m args below meth c H1 locs1 cells slots Z (F0 m (pc + 3) ls ((v.map (zq_cv g)).toList ++ rest))) : W p l e R s m args below meth c H locs cells slots Z (F0 m pc ls st0) := by
  intro T hT X
  obtain ⟨v, st₀, t, T', L, h0, X', hL, e1, e2, ⟨⟨v', μ', hv, hq, hp, hs⟩, hz, hk⟩, st⟩ := hr T hT X
  cases hv
  rw [h0] at hz hk
  obtain ⟨t2, a1, b1⟩ := kk v' μ' T'.heap (locs ++ L) hq (by rw [e1]; exact hp) hs
    ⟨Nat.le_trans hS.1 (by rw [e1]; exact hz), fun q h1 h2 => by rw [e1, hk q (Nat.lt_of_lt_of_le h1 hS.1) h2]; exact hS.2.1 q h1 h2, fun q hq => by
      rcases List.mem_append.mp hq with h | h
      · exact hS.2.2 q h
      · exact hL q h⟩ T' rfl X'
  exact ⟨t2, st t2 a1, b1⟩
theorem zq_wd {g : zq_G} {cc : ByteArray} {nL rf rl : Nat} {own : String} {ls : Array Slot} {lo : zq_Lo} {μ : zq_Me} (hC : zq_Cx g cc nL own rf rl R p s m args c cells slots) (hS : zq_St g s H locs nL ls lo μ) (U : State) (hU : U.heap = H) (hW : s.WarmedH U.vm) : zq_Wd g μ U := by
  obtain ⟨hx, hb, hml, hown, hts, hK, hX, hbl, hJ, hrf, hrl, hce, hsl⟩ := hC
  obtain ⟨hP, hH, hL, hsc⟩ := hS
  have hq : H[zq_ad g zq_nC]? = s.heap[zq_ad g zq_nC]? := hH.2.1 _ hbl (zq_notA hJ)
  exact ⟨by rw [hU]; exact hP, va_K.moved hW.alike hK, va_X.moved hW.alike (hX.kept (by rw [hU]; exact hq)), by rw [hU]; exact Nat.lt_of_lt_of_le hbl hH.1, hJ, hsc⟩
end ZQC
theorem zq_optmap (g : zq_G) (v : Option Value) (rest : List Value) : (v.map (zq_cv g)).toList ++ rest.map (zq_cv g) = (v.toList ++ rest).map (zq_cv g) := by cases v <;> rfl
theorem zq_s_callS {cc : ByteArray} {nL : Nat} {own : String} {rf rl pc n index maxL : Nat} {y : MethodName} {bytes : ByteArray} {ret : Option FieldType} {rm : Room} (hdg : decode cc pc = .ok (.invokestatic index, 3)) (h1 : Cond.methodLink own index y ∈ zq_W) (h2 : Cond.static y ∈ zq_W) (h3 : Cond.initialized y.cls ∈ zq_W) (h4 : Cond.code y bytes maxL ret ∈ zq_W)
    (hd : y.cls ≠ "java/lang/invoke/MethodHandle" ∧ y.cls ≠ "java/lang/invoke/VarHandle" ∧ (parseMethodDescriptor y.desc).map (fun d => d.parameters.length) = some n) (hR : rm.frames + 1 ≤ rf ∧ 8 + (maxL + 11) + rm.locals ≤ rl) (hz : rm.cells = 0 ∧ rm.slots = 0) : zq_sndc cc nL own rf rl pc n none y bytes maxL ret rm := by
  intro g p l e R s m args below meth c H locs cells slots Z ls lo as rest μ Q1 hC hS hn hr hw hM k
  have hC0 := hC
  obtain ⟨hx, hb, hml, hown, hts, hK, hX, hbl, hJ, hrf, hrl, hce, hsl⟩ := hC
  have hS0 := hS
  obtain ⟨hP, hH, hL, hsc⟩ := hS
  have hG : GoodIn zq_W (va_wsS own index y (Cond.code y bytes maxL ret :: zq_W)) := zq_good (by
    intro w hw
    simp only [va_wsS, List.cons_append, List.nil_append, List.mem_cons] at hw
    rcases hw with rfl | rfl | rfl | rfl | hw
    · exact h1
    · exact h2
    · exact h3
    · exact h4
    · exact hw)
  refine zq_callg (a := (as.map (zq_cv g)).toArray) (rest := rest.map (zq_cv g)) (va_runS (As := as.map (zq_cv g)) (n := n) ⟨hx, hb, hml, hown, hts⟩ hM (va_cwS n hts hG rfl hz.1 hz.2 hd ⟨by omega, by omega⟩) ⟨zq_blind, fun U hU hW => ⟨rfl, zq_wd hC0 hS0 U hU hW⟩⟩ rfl (by rw [List.length_map]; exact hn) hL.1 (by show (as.reverse ++ rest).map (zq_cv g) = _; rw [List.map_append, List.map_reverse]) (lv_room (by rw [zq_cats_map]; exact hw)) hdg ⟨hce, hsl⟩) hH (fun v μ' H1 locs1 q1 q2 q3 q4 => ?_)
  rw [zq_optmap]
  exact k v μ' H1 locs1 q1 ⟨q2, q4, hL, q3⟩
theorem zq_recv {g : zq_G} {s : State} {H : Heap} {μ : zq_Me} {a ci : Nat} {cs : List Nat} {q : vw_C} (hK : va_K g.1 vwCl (zq_tys g) s) (hP : va_P g.1 vwCl (zq_ws g μ) H) (h : zq_sh a = (0, ci, cs)) (hc : vwCl[ci]? = some q) : ∃ cell : Cell, H[zq_ad g a]? = some cell ∧ cell.vm.isStatics = false ∧ s.vm.findClass q.1 = some cell.cls :=
  va_recv hK hP hc (zq_row (zq_lt h (by decide)) (zq_ce0 h))
theorem zq_s_callV {cc : ByteArray} {nL : Nat} {own : String} {rf rl pc n index maxL ci : Nat} {y : MethodName} {bytes : ByteArray} {ret : Option FieldType} {rm : Room} {q : vw_C} (hdg : decode cc pc = .ok (.invokevirtual index, 3)) (hc : vwCl[ci]? = some q) (h1 : Cond.methodLink own index y ∈ zq_W) (h2 : Cond.instanceMethod y ∈ zq_W) (h3 : Cond.selects q.1 y y ∈ zq_W) (h5 : Cond.initialized q.1 ∈ zq_W) (h4 : Cond.code y bytes maxL ret ∈ zq_W)
    (hd : y.cls = q.1 ∧ y.cls ≠ "java/lang/invoke/MethodHandle" ∧ y.cls ≠ "java/lang/invoke/VarHandle" ∧ (parseMethodDescriptor y.desc).map (fun d => d.parameters.length) = some n) (hR : rm.frames + 1 ≤ rf ∧ 8 + (maxL + 11) + rm.locals ≤ rl) (hz : rm.cells = 0 ∧ rm.slots = 0) : zq_sndc cc nL own rf rl pc (n + 1) (some ci) y bytes maxL ret rm := by
  intro g p l e R s m args below meth c H locs cells slots Z ls lo as rest μ Q1 hC hS hn hr hw hM k
  obtain ⟨a, as', cs, rfl, hsh⟩ := hr
  have hC0 := hC
  obtain ⟨hx, hb, hml, hown, hts, hK, hX, hbl, hJ, hrf, hrl, hce, hsl⟩ := hC
  have hS0 := hS
  obtain ⟨hP, hH, hL, hsc⟩ := hS
  have hG : GoodIn zq_W (wsV own index q.1 y (Cond.code y bytes maxL ret :: zq_W)) := zq_good (by
    intro w hw
    simp only [wsV, List.cons_append, List.nil_append, List.mem_cons] at hw
    rcases hw with rfl | rfl | rfl | rfl | rfl | hw
    · exact h1
    · exact h2
    · exact h3
    · exact h5
    · exact h4
    · exact hw)
  refine zq_callg (a := (Value.ref (zq_ad g a) :: as'.map (zq_cv g)).toArray) (rest := rest.map (zq_cv g)) (va_runV (As := as'.map (zq_cv g)) (n := n) (b := zq_ad g a) ⟨hx, hb, hml, hown, hts⟩ hM (cwV n hts hG rfl hz.1 hz.2 hd ⟨by omega, by omega⟩) ⟨zq_blind, zq_recv hK hP hsh hc, fun U hU hW => ⟨rfl, zq_wd hC0 hS0 U hU hW⟩⟩ rfl (by rw [List.length_map]; simpa using hn) hL.1 (by show ((Value.ref a :: as').reverse ++ rest).map (zq_cv g) = _; rw [List.map_append, List.map_reverse, List.map_cons, List.reverse_cons, List.append_assoc]; rfl) (lv_room (by rw [zq_cats_map]; exact hw)) hdg ⟨hce, hsl⟩) hH (fun v μ' H1 locs1 q1 q2 q3 q4 => ?_)
  rw [zq_optmap]
  exact k v μ' H1 locs1 q1 ⟨q2, q4, hL, q3⟩
theorem zq_s_callU {cc : ByteArray} {nL : Nat} {own owner : String} {rf rl pc n index maxL ci : Nat} {x y : MethodName} {bytes : ByteArray} {ret : Option FieldType} {rm : Room} {q : vw_C} (hdg : decode cc pc = .ok (.invokevirtual index, 3)) (hc : vwCl[ci]? = some q) (h1 : Cond.methodLink own index x ∈ zq_W) (h2 : Cond.sameMethod x.cls owner x.name x.desc ∈ zq_W) (h3 : Cond.selects q.1 x y ∈ zq_W) (h5 : Cond.instanceMethod y ∈ zq_W) (h6 : Cond.initialized y.cls ∈ zq_W) (h4 : Cond.code y bytes maxL ret ∈ zq_W)
    (hyx : y = ⟨owner, x.name, x.desc⟩ ∨ Cond.declares ⟨owner, x.name, x.desc⟩ ∈ zq_W) (hd : owner ≠ "java/lang/invoke/MethodHandle" ∧ owner ≠ "java/lang/invoke/VarHandle" ∧ (parseMethodDescriptor x.desc).map (fun d => d.parameters.length) = some n) (hR : rm.frames + 1 ≤ rf ∧ 8 + (maxL + 11) + rm.locals ≤ rl) (hz : rm.cells = 0 ∧ rm.slots = 0) : zq_sndc cc nL own rf rl pc (n + 1) (some ci) y bytes maxL ret rm := by
  intro g p l e R s m args below meth c H locs cells slots Z ls lo as rest μ Q1 hC hS hn hr hw hM k
  obtain ⟨a, as', cs, rfl, hsh⟩ := hr
  have hC0 := hC
  obtain ⟨hx, hb, hml, hown, hts, hK, hX, hbl, hJ, hrf, hrl, hce, hsl⟩ := hC
  have hS0 := hS
  obtain ⟨hP, hH, hL, hsc⟩ := hS
  have hG : GoodIn zq_W (va_wsU own index q.1 owner x y (Cond.code y bytes maxL ret :: zq_W)) := zq_good (by
    intro w hw
    simp only [va_wsU, List.cons_append, List.nil_append, List.mem_cons] at hw
    rcases hw with rfl | rfl | rfl | rfl | rfl | rfl | hw
    · exact h1
    · exact h2
    · exact h3
    · exact h5
    · exact h6
    · exact h4
    · exact hw)
  have hCU : va_CU R s args own q.1 owner index x y bytes maxL ret (Cond.code y bytes maxL ret :: zq_W) rm 0 0 n := by
    rcases hyx with hyx | hyx
    · exact va_cwU n hts hG rfl hz.1 hz.2 hyx hd ⟨by omega, by omega⟩
    · exact va_cwA n hts hG rfl hz.1 hz.2 (va_Nw.of rfl (hts _ hyx)) hd ⟨by omega, by omega⟩
  refine zq_callg (a := (Value.ref (zq_ad g a) :: as'.map (zq_cv g)).toArray) (rest := rest.map (zq_cv g)) (va_runU (As := as'.map (zq_cv g)) (n := n) (b := zq_ad g a) ⟨hx, hb, hml, hown, hts⟩ hM hCU ⟨zq_blind, zq_recv hK hP hsh hc, fun U hU hW => ⟨rfl, zq_wd hC0 hS0 U hU hW⟩⟩ rfl (by rw [List.length_map]; simpa using hn) hL.1 (by show ((Value.ref a :: as').reverse ++ rest).map (zq_cv g) = _; rw [List.map_append, List.map_reverse, List.map_cons, List.reverse_cons, List.append_assoc]; rfl) (lv_room (by rw [zq_cats_map]; exact hw)) hdg ⟨hce, hsl⟩) hH (fun v μ' H1 locs1 q1 q2 q3 q4 => ?_)
  rw [zq_optmap]
  exact k v μ' H1 locs1 q1 ⟨q2, q4, hL, q3⟩
end
