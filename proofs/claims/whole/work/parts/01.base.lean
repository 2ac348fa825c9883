-- ===== PART A: goes FIRST, ahead of the names: the tables' words, and 'selects' of the private methods out of them =====
/-- a private method of a class that the tables say can be made, by its rows of tables_1 -/
def lw_okq (q : MethodName × Nat) : Prop := (q.1.cls ≠ "java/lang/invoke/MethodHandle" ∧ q.1.cls ≠ "java/lang/invoke/VarHandle") ∧ Cond.instantiable q.1.cls q.2 ∈ tables_1 ∧ Cond.privateMethod q.1 ∈ tables_1 ∧ Cond.instanceMethod q.1 ∈ tables_1
theorem lw_p0 : lw_okq (⟨"DollsAhead", "textOf", "(I)LDollsAhead$Text;"⟩, 17) := ⟨⟨by decide +kernel, by decide +kernel⟩, List.mem_of_getElem? (i := 16) (by decide +kernel), List.mem_of_getElem? (i := 301) (by decide +kernel), List.mem_of_getElem? (i := 302) (by decide +kernel)⟩
theorem lw_p1 : lw_okq (⟨"DollsAhead$People", "sortAt", "(I)I"⟩, 9) := ⟨⟨by decide +kernel, by decide +kernel⟩, List.mem_of_getElem? (i := 88) (by decide +kernel), List.mem_of_getElem? (i := 344) (by decide +kernel), List.mem_of_getElem? (i := 345) (by decide +kernel)⟩
theorem lw_p2 : lw_okq (⟨"DollsAhead", "textChanged", "()V"⟩, 17) := ⟨⟨by decide +kernel, by decide +kernel⟩, List.mem_of_getElem? (i := 16) (by decide +kernel), List.mem_of_getElem? (i := 369) (by decide +kernel), List.mem_of_getElem? (i := 370) (by decide +kernel)⟩
theorem lw_p3 : lw_okq (⟨"DollsAhead", "changed", "()V"⟩, 17) := ⟨⟨by decide +kernel, by decide +kernel⟩, List.mem_of_getElem? (i := 16) (by decide +kernel), List.mem_of_getElem? (i := 377) (by decide +kernel), List.mem_of_getElem? (i := 378) (by decide +kernel)⟩
theorem lw_p4 : lw_okq (⟨"DollsAhead", "isPerson", "(I)Z"⟩, 17) := ⟨⟨by decide +kernel, by decide +kernel⟩, List.mem_of_getElem? (i := 16) (by decide +kernel), List.mem_of_getElem? (i := 407) (by decide +kernel), List.mem_of_getElem? (i := 408) (by decide +kernel)⟩
theorem lw_p5 : lw_okq (⟨"DollsAhead", "refuse", "(I)I"⟩, 17) := ⟨⟨by decide +kernel, by decide +kernel⟩, List.mem_of_getElem? (i := 16) (by decide +kernel), List.mem_of_getElem? (i := 444) (by decide +kernel), List.mem_of_getElem? (i := 445) (by decide +kernel)⟩
theorem lw_p6 : lw_okq (⟨"DollsAhead", "weekAsTold", "()LDollsAhead$Week;"⟩, 17) := ⟨⟨by decide +kernel, by decide +kernel⟩, List.mem_of_getElem? (i := 16) (by decide +kernel), List.mem_of_getElem? (i := 453) (by decide +kernel), List.mem_of_getElem? (i := 454) (by decide +kernel)⟩
theorem lw_p7 : lw_okq (⟨"DollsAhead$Week", "layHours", "()V"⟩, 14) := ⟨⟨by decide +kernel, by decide +kernel⟩, List.mem_of_getElem? (i := 191) (by decide +kernel), List.mem_of_getElem? (i := 461) (by decide +kernel), List.mem_of_getElem? (i := 462) (by decide +kernel)⟩
theorem lw_p8 : lw_okq (⟨"DollsAhead$Week", "layTables", "()V"⟩, 14) := ⟨⟨by decide +kernel, by decide +kernel⟩, List.mem_of_getElem? (i := 191) (by decide +kernel), List.mem_of_getElem? (i := 465) (by decide +kernel), List.mem_of_getElem? (i := 466) (by decide +kernel)⟩
theorem lw_p9 : lw_okq (⟨"DollsAhead$Week", "sortOf", "(I)I"⟩, 14) := ⟨⟨by decide +kernel, by decide +kernel⟩, List.mem_of_getElem? (i := 191) (by decide +kernel), List.mem_of_getElem? (i := 477) (by decide +kernel), List.mem_of_getElem? (i := 478) (by decide +kernel)⟩
theorem lw_p10 : lw_okq (⟨"DollsAhead$Week", "walk", "(II)V"⟩, 14) := ⟨⟨by decide +kernel, by decide +kernel⟩, List.mem_of_getElem? (i := 191) (by decide +kernel), List.mem_of_getElem? (i := 481) (by decide +kernel), List.mem_of_getElem? (i := 482) (by decide +kernel)⟩
theorem lw_p11 : lw_okq (⟨"DollsAhead$Week", "bedOf", "(I)I"⟩, 14) := ⟨⟨by decide +kernel, by decide +kernel⟩, List.mem_of_getElem? (i := 191) (by decide +kernel), List.mem_of_getElem? (i := 485) (by decide +kernel), List.mem_of_getElem? (i := 486) (by decide +kernel)⟩
theorem lw_p12 : lw_okq (⟨"DollsAhead", "sparedRow", "()I"⟩, 17) := ⟨⟨by decide +kernel, by decide +kernel⟩, List.mem_of_getElem? (i := 16) (by decide +kernel), List.mem_of_getElem? (i := 602) (by decide +kernel), List.mem_of_getElem? (i := 603) (by decide +kernel)⟩
theorem lw_p13 : lw_okq (⟨"DollsAhead", "nobodyAloneWithout", "(I)Z"⟩, 17) := ⟨⟨by decide +kernel, by decide +kernel⟩, List.mem_of_getElem? (i := 16) (by decide +kernel), List.mem_of_getElem? (i := 606) (by decide +kernel), List.mem_of_getElem? (i := 607) (by decide +kernel)⟩
theorem lw_p14 : lw_okq (⟨"DollsAhead", "sortsThatFit", "(I)I"⟩, 17) := ⟨⟨by decide +kernel, by decide +kernel⟩, List.mem_of_getElem? (i := 16) (by decide +kernel), List.mem_of_getElem? (i := 639) (by decide +kernel), List.mem_of_getElem? (i := 640) (by decide +kernel)⟩
theorem lw_p15 : lw_okq (⟨"DollsAhead", "bedsThatFit", "(I)I"⟩, 17) := ⟨⟨by decide +kernel, by decide +kernel⟩, List.mem_of_getElem? (i := 16) (by decide +kernel), List.mem_of_getElem? (i := 643) (by decide +kernel), List.mem_of_getElem? (i := 644) (by decide +kernel)⟩
def lw_privs_1 : List (MethodName × Nat) := [(⟨"DollsAhead", "textOf", "(I)LDollsAhead$Text;"⟩, 17), (⟨"DollsAhead$People", "sortAt", "(I)I"⟩, 9), (⟨"DollsAhead", "textChanged", "()V"⟩, 17), (⟨"DollsAhead", "changed", "()V"⟩, 17), (⟨"DollsAhead", "isPerson", "(I)Z"⟩, 17), (⟨"DollsAhead", "refuse", "(I)I"⟩, 17), (⟨"DollsAhead", "weekAsTold", "()LDollsAhead$Week;"⟩, 17), (⟨"DollsAhead$Week", "layHours", "()V"⟩, 14), (⟨"DollsAhead$Week", "layTables", "()V"⟩, 14), (⟨"DollsAhead$Week", "sortOf", "(I)I"⟩, 14), (⟨"DollsAhead$Week", "walk", "(II)V"⟩, 14), (⟨"DollsAhead$Week", "bedOf", "(I)I"⟩, 14), (⟨"DollsAhead", "sparedRow", "()I"⟩, 17), (⟨"DollsAhead", "nobodyAloneWithout", "(I)Z"⟩, 17), (⟨"DollsAhead", "sortsThatFit", "(I)I"⟩, 17), (⟨"DollsAhead", "bedsThatFit", "(I)I"⟩, 17)]
theorem lw_r1 : ∀ q ∈ lw_privs_1, lw_okq q := List.forall_mem_cons.mpr ⟨lw_p0, List.forall_mem_cons.mpr ⟨lw_p1, List.forall_mem_cons.mpr ⟨lw_p2, List.forall_mem_cons.mpr ⟨lw_p3, List.forall_mem_cons.mpr ⟨lw_p4, List.forall_mem_cons.mpr ⟨lw_p5, List.forall_mem_cons.mpr ⟨lw_p6, List.forall_mem_cons.mpr ⟨lw_p7, List.forall_mem_cons.mpr ⟨lw_p8, List.forall_mem_cons.mpr ⟨lw_p9, List.forall_mem_cons.mpr ⟨lw_p10, List.forall_mem_cons.mpr ⟨lw_p11, List.forall_mem_cons.mpr ⟨lw_p12, List.forall_mem_cons.mpr ⟨lw_p13, List.forall_mem_cons.mpr ⟨lw_p14, List.forall_mem_cons.mpr ⟨lw_p15, fun _ h => absurd h List.not_mem_nil⟩⟩⟩⟩⟩⟩⟩⟩⟩⟩⟩⟩⟩⟩⟩⟩
theorem lw_p16 : lw_okq (⟨"DollsAhead", "mostBedsInOneRoom", "(II)I"⟩, 17) := ⟨⟨by decide +kernel, by decide +kernel⟩, List.mem_of_getElem? (i := 16) (by decide +kernel), List.mem_of_getElem? (i := 651) (by decide +kernel), List.mem_of_getElem? (i := 652) (by decide +kernel)⟩
theorem lw_p17 : lw_okq (⟨"DollsAhead", "weighOdds", "(II)V"⟩, 17) := ⟨⟨by decide +kernel, by decide +kernel⟩, List.mem_of_getElem? (i := 16) (by decide +kernel), List.mem_of_getElem? (i := 662) (by decide +kernel), List.mem_of_getElem? (i := 663) (by decide +kernel)⟩
theorem lw_p18 : lw_okq (⟨"DollsAhead", "weightOf", "(II)J"⟩, 17) := ⟨⟨by decide +kernel, by decide +kernel⟩, List.mem_of_getElem? (i := 16) (by decide +kernel), List.mem_of_getElem? (i := 669) (by decide +kernel), List.mem_of_getElem? (i := 670) (by decide +kernel)⟩
theorem lw_p19 : lw_okq (⟨"DollsAhead", "addOdds", "(IJ)V"⟩, 17) := ⟨⟨by decide +kernel, by decide +kernel⟩, List.mem_of_getElem? (i := 16) (by decide +kernel), List.mem_of_getElem? (i := 673) (by decide +kernel), List.mem_of_getElem? (i := 674) (by decide +kernel)⟩
theorem lw_p20 : lw_okq (⟨"DollsAhead", "refusalOfItem", "(III)I"⟩, 17) := ⟨⟨by decide +kernel, by decide +kernel⟩, List.mem_of_getElem? (i := 16) (by decide +kernel), List.mem_of_getElem? (i := 706) (by decide +kernel), List.mem_of_getElem? (i := 707) (by decide +kernel)⟩
theorem lw_p21 : lw_okq (⟨"DollsAhead", "emptyHoursOfAll", "()I"⟩, 17) := ⟨⟨by decide +kernel, by decide +kernel⟩, List.mem_of_getElem? (i := 16) (by decide +kernel), List.mem_of_getElem? (i := 740) (by decide +kernel), List.mem_of_getElem? (i := 741) (by decide +kernel)⟩
theorem lw_p22 : lw_okq (⟨"DollsAhead", "mixStays", "(JI)J"⟩, 17) := ⟨⟨by decide +kernel, by decide +kernel⟩, List.mem_of_getElem? (i := 16) (by decide +kernel), List.mem_of_getElem? (i := 758) (by decide +kernel), List.mem_of_getElem? (i := 759) (by decide +kernel)⟩
theorem lw_p23 : lw_okq (⟨"DollsAhead", "mixGuesses", "(JI)J"⟩, 17) := ⟨⟨by decide +kernel, by decide +kernel⟩, List.mem_of_getElem? (i := 16) (by decide +kernel), List.mem_of_getElem? (i := 764) (by decide +kernel), List.mem_of_getElem? (i := 765) (by decide +kernel)⟩
theorem lw_p24 : lw_okq (⟨"DollsAheadModel", "faultOf", "(I)I"⟩, 37) := ⟨⟨by decide +kernel, by decide +kernel⟩, List.mem_of_getElem? (i := 780) (by decide +kernel), List.mem_of_getElem? (i := 921) (by decide +kernel), List.mem_of_getElem? (i := 922) (by decide +kernel)⟩
theorem lw_p25 : lw_okq (⟨"DollsAheadModel", "readsParts", "(I)I"⟩, 37) := ⟨⟨by decide +kernel, by decide +kernel⟩, List.mem_of_getElem? (i := 780) (by decide +kernel), List.mem_of_getElem? (i := 925) (by decide +kernel), List.mem_of_getElem? (i := 926) (by decide +kernel)⟩
theorem lw_p26 : lw_okq (⟨"DollsAheadModel", "readsDoor", "(II)I"⟩, 37) := ⟨⟨by decide +kernel, by decide +kernel⟩, List.mem_of_getElem? (i := 780) (by decide +kernel), List.mem_of_getElem? (i := 929) (by decide +kernel), List.mem_of_getElem? (i := 930) (by decide +kernel)⟩
theorem lw_p27 : lw_okq (⟨"DollsAheadModel", "byteAt", "(II)I"⟩, 37) := ⟨⟨by decide +kernel, by decide +kernel⟩, List.mem_of_getElem? (i := 780) (by decide +kernel), List.mem_of_getElem? (i := 933) (by decide +kernel), List.mem_of_getElem? (i := 934) (by decide +kernel)⟩
theorem lw_p28 : lw_okq (⟨"DollsAheadModel", "readsPerson", "(II)I"⟩, 37) := ⟨⟨by decide +kernel, by decide +kernel⟩, List.mem_of_getElem? (i := 780) (by decide +kernel), List.mem_of_getElem? (i := 940) (by decide +kernel), List.mem_of_getElem? (i := 941) (by decide +kernel)⟩
theorem lw_p29 : lw_okq (⟨"DollsAheadModel", "isDoor", "(I)Z"⟩, 37) := ⟨⟨by decide +kernel, by decide +kernel⟩, List.mem_of_getElem? (i := 780) (by decide +kernel), List.mem_of_getElem? (i := 948) (by decide +kernel), List.mem_of_getElem? (i := 949) (by decide +kernel)⟩
theorem lw_p30 : lw_okq (⟨"DollsAheadModel", "reads", "()V"⟩, 37) := ⟨⟨by decide +kernel, by decide +kernel⟩, List.mem_of_getElem? (i := 780) (by decide +kernel), List.mem_of_getElem? (i := 952) (by decide +kernel), List.mem_of_getElem? (i := 953) (by decide +kernel)⟩
theorem lw_p31 : lw_okq (⟨"DollsAheadModel", "doorOf", "(II)I"⟩, 37) := ⟨⟨by decide +kernel, by decide +kernel⟩, List.mem_of_getElem? (i := 780) (by decide +kernel), List.mem_of_getElem? (i := 959) (by decide +kernel), List.mem_of_getElem? (i := 960) (by decide +kernel)⟩
def lw_privs_2 : List (MethodName × Nat) := [(⟨"DollsAhead", "mostBedsInOneRoom", "(II)I"⟩, 17), (⟨"DollsAhead", "weighOdds", "(II)V"⟩, 17), (⟨"DollsAhead", "weightOf", "(II)J"⟩, 17), (⟨"DollsAhead", "addOdds", "(IJ)V"⟩, 17), (⟨"DollsAhead", "refusalOfItem", "(III)I"⟩, 17), (⟨"DollsAhead", "emptyHoursOfAll", "()I"⟩, 17), (⟨"DollsAhead", "mixStays", "(JI)J"⟩, 17), (⟨"DollsAhead", "mixGuesses", "(JI)J"⟩, 17), (⟨"DollsAheadModel", "faultOf", "(I)I"⟩, 37), (⟨"DollsAheadModel", "readsParts", "(I)I"⟩, 37), (⟨"DollsAheadModel", "readsDoor", "(II)I"⟩, 37), (⟨"DollsAheadModel", "byteAt", "(II)I"⟩, 37), (⟨"DollsAheadModel", "readsPerson", "(II)I"⟩, 37), (⟨"DollsAheadModel", "isDoor", "(I)Z"⟩, 37), (⟨"DollsAheadModel", "reads", "()V"⟩, 37), (⟨"DollsAheadModel", "doorOf", "(II)I"⟩, 37)]
theorem lw_r2 : ∀ q ∈ lw_privs_2, lw_okq q := List.forall_mem_cons.mpr ⟨lw_p16, List.forall_mem_cons.mpr ⟨lw_p17, List.forall_mem_cons.mpr ⟨lw_p18, List.forall_mem_cons.mpr ⟨lw_p19, List.forall_mem_cons.mpr ⟨lw_p20, List.forall_mem_cons.mpr ⟨lw_p21, List.forall_mem_cons.mpr ⟨lw_p22, List.forall_mem_cons.mpr ⟨lw_p23, List.forall_mem_cons.mpr ⟨lw_p24, List.forall_mem_cons.mpr ⟨lw_p25, List.forall_mem_cons.mpr ⟨lw_p26, List.forall_mem_cons.mpr ⟨lw_p27, List.forall_mem_cons.mpr ⟨lw_p28, List.forall_mem_cons.mpr ⟨lw_p29, List.forall_mem_cons.mpr ⟨lw_p30, List.forall_mem_cons.mpr ⟨lw_p31, fun _ h => absurd h List.not_mem_nil⟩⟩⟩⟩⟩⟩⟩⟩⟩⟩⟩⟩⟩⟩⟩⟩
theorem lw_p32 : lw_okq (⟨"DollsAheadModel", "isPerson", "(I)Z"⟩, 37) := ⟨⟨by decide +kernel, by decide +kernel⟩, List.mem_of_getElem? (i := 780) (by decide +kernel), List.mem_of_getElem? (i := 967) (by decide +kernel), List.mem_of_getElem? (i := 968) (by decide +kernel)⟩
theorem lw_p33 : lw_okq (⟨"DollsAheadModel", "personOf", "(II)I"⟩, 37) := ⟨⟨by decide +kernel, by decide +kernel⟩, List.mem_of_getElem? (i := 780) (by decide +kernel), List.mem_of_getElem? (i := 974) (by decide +kernel), List.mem_of_getElem? (i := 975) (by decide +kernel)⟩
theorem lw_p34 : lw_okq (⟨"DollsAheadModel", "meets", "(I)I"⟩, 37) := ⟨⟨by decide +kernel, by decide +kernel⟩, List.mem_of_getElem? (i := 780) (by decide +kernel), List.mem_of_getElem? (i := 1000) (by decide +kernel), List.mem_of_getElem? (i := 1001) (by decide +kernel)⟩
theorem lw_p35 : lw_okq (⟨"DollsAheadModel", "atOf", "(III)I"⟩, 37) := ⟨⟨by decide +kernel, by decide +kernel⟩, List.mem_of_getElem? (i := 780) (by decide +kernel), List.mem_of_getElem? (i := 1009) (by decide +kernel), List.mem_of_getElem? (i := 1010) (by decide +kernel)⟩
theorem lw_p36 : lw_okq (⟨"DollsAheadModel", "runsTold", "()V"⟩, 37) := ⟨⟨by decide +kernel, by decide +kernel⟩, List.mem_of_getElem? (i := 780) (by decide +kernel), List.mem_of_getElem? (i := 1013) (by decide +kernel), List.mem_of_getElem? (i := 1014) (by decide +kernel)⟩
theorem lw_p37 : lw_okq (⟨"DollsAheadModel", "asTold", "()V"⟩, 37) := ⟨⟨by decide +kernel, by decide +kernel⟩, List.mem_of_getElem? (i := 780) (by decide +kernel), List.mem_of_getElem? (i := 1017) (by decide +kernel), List.mem_of_getElem? (i := 1018) (by decide +kernel)⟩
theorem lw_p38 : lw_okq (⟨"DollsAheadModel", "runs", "()V"⟩, 37) := ⟨⟨by decide +kernel, by decide +kernel⟩, List.mem_of_getElem? (i := 780) (by decide +kernel), List.mem_of_getElem? (i := 1021) (by decide +kernel), List.mem_of_getElem? (i := 1022) (by decide +kernel)⟩
theorem lw_p39 : lw_okq (⟨"DollsAheadModel", "befalls", "(I)V"⟩, 37) := ⟨⟨by decide +kernel, by decide +kernel⟩, List.mem_of_getElem? (i := 780) (by decide +kernel), List.mem_of_getElem? (i := 1025) (by decide +kernel), List.mem_of_getElem? (i := 1026) (by decide +kernel)⟩
theorem lw_p40 : lw_okq (⟨"DollsAheadModel", "measures", "(I)V"⟩, 37) := ⟨⟨by decide +kernel, by decide +kernel⟩, List.mem_of_getElem? (i := 780) (by decide +kernel), List.mem_of_getElem? (i := 1032) (by decide +kernel), List.mem_of_getElem? (i := 1033) (by decide +kernel)⟩
theorem lw_p41 : lw_okq (⟨"DollsAheadModel", "nears", "(IIII)V"⟩, 37) := ⟨⟨by decide +kernel, by decide +kernel⟩, List.mem_of_getElem? (i := 780) (by decide +kernel), List.mem_of_getElem? (i := 1036) (by decide +kernel), List.mem_of_getElem? (i := 1037) (by decide +kernel)⟩
theorem lw_p42 : lw_okq (⟨"DollsAheadModel", "leastChild", "()I"⟩, 37) := ⟨⟨by decide +kernel, by decide +kernel⟩, List.mem_of_getElem? (i := 780) (by decide +kernel), List.mem_of_getElem? (i := 1040) (by decide +kernel), List.mem_of_getElem? (i := 1041) (by decide +kernel)⟩
theorem lw_p43 : lw_okq (⟨"DollsAheadModel", "goesThrough", "(II)V"⟩, 37) := ⟨⟨by decide +kernel, by decide +kernel⟩, List.mem_of_getElem? (i := 780) (by decide +kernel), List.mem_of_getElem? (i := 1044) (by decide +kernel), List.mem_of_getElem? (i := 1045) (by decide +kernel)⟩
theorem lw_p44 : lw_okq (⟨"DollsAheadModel", "step", "(III)I"⟩, 37) := ⟨⟨by decide +kernel, by decide +kernel⟩, List.mem_of_getElem? (i := 780) (by decide +kernel), List.mem_of_getElem? (i := 1048) (by decide +kernel), List.mem_of_getElem? (i := 1049) (by decide +kernel)⟩
theorem lw_p45 : lw_okq (⟨"DollsAheadModel", "isBeside", "(III)Z"⟩, 37) := ⟨⟨by decide +kernel, by decide +kernel⟩, List.mem_of_getElem? (i := 780) (by decide +kernel), List.mem_of_getElem? (i := 1052) (by decide +kernel), List.mem_of_getElem? (i := 1053) (by decide +kernel)⟩
theorem lw_p46 : lw_okq (⟨"DollsAheadModel", "roomOf", "(II)I"⟩, 37) := ⟨⟨by decide +kernel, by decide +kernel⟩, List.mem_of_getElem? (i := 780) (by decide +kernel), List.mem_of_getElem? (i := 1060) (by decide +kernel), List.mem_of_getElem? (i := 1061) (by decide +kernel)⟩
theorem lw_p47 : lw_okq (⟨"DollsAheadModel", "inRoom", "(II)I"⟩, 37) := ⟨⟨by decide +kernel, by decide +kernel⟩, List.mem_of_getElem? (i := 780) (by decide +kernel), List.mem_of_getElem? (i := 1064) (by decide +kernel), List.mem_of_getElem? (i := 1065) (by decide +kernel)⟩
def lw_privs_3 : List (MethodName × Nat) := [(⟨"DollsAheadModel", "isPerson", "(I)Z"⟩, 37), (⟨"DollsAheadModel", "personOf", "(II)I"⟩, 37), (⟨"DollsAheadModel", "meets", "(I)I"⟩, 37), (⟨"DollsAheadModel", "atOf", "(III)I"⟩, 37), (⟨"DollsAheadModel", "runsTold", "()V"⟩, 37), (⟨"DollsAheadModel", "asTold", "()V"⟩, 37), (⟨"DollsAheadModel", "runs", "()V"⟩, 37), (⟨"DollsAheadModel", "befalls", "(I)V"⟩, 37), (⟨"DollsAheadModel", "measures", "(I)V"⟩, 37), (⟨"DollsAheadModel", "nears", "(IIII)V"⟩, 37), (⟨"DollsAheadModel", "leastChild", "()I"⟩, 37), (⟨"DollsAheadModel", "goesThrough", "(II)V"⟩, 37), (⟨"DollsAheadModel", "step", "(III)I"⟩, 37), (⟨"DollsAheadModel", "isBeside", "(III)Z"⟩, 37), (⟨"DollsAheadModel", "roomOf", "(II)I"⟩, 37), (⟨"DollsAheadModel", "inRoom", "(II)I"⟩, 37)]
theorem lw_r3 : ∀ q ∈ lw_privs_3, lw_okq q := List.forall_mem_cons.mpr ⟨lw_p32, List.forall_mem_cons.mpr ⟨lw_p33, List.forall_mem_cons.mpr ⟨lw_p34, List.forall_mem_cons.mpr ⟨lw_p35, List.forall_mem_cons.mpr ⟨lw_p36, List.forall_mem_cons.mpr ⟨lw_p37, List.forall_mem_cons.mpr ⟨lw_p38, List.forall_mem_cons.mpr ⟨lw_p39, List.forall_mem_cons.mpr ⟨lw_p40, List.forall_mem_cons.mpr ⟨lw_p41, List.forall_mem_cons.mpr ⟨lw_p42, List.forall_mem_cons.mpr ⟨lw_p43, List.forall_mem_cons.mpr ⟨lw_p44, List.forall_mem_cons.mpr ⟨lw_p45, List.forall_mem_cons.mpr ⟨lw_p46, List.forall_mem_cons.mpr ⟨lw_p47, fun _ h => absurd h List.not_mem_nil⟩⟩⟩⟩⟩⟩⟩⟩⟩⟩⟩⟩⟩⟩⟩⟩
theorem lw_p48 : lw_okq (⟨"DollsAheadModel", "farOf", "(III)I"⟩, 37) := ⟨⟨by decide +kernel, by decide +kernel⟩, List.mem_of_getElem? (i := 780) (by decide +kernel), List.mem_of_getElem? (i := 1072) (by decide +kernel), List.mem_of_getElem? (i := 1073) (by decide +kernel)⟩
theorem lw_p49 : lw_okq (⟨"DollsAheadModel", "metOf", "(II)I"⟩, 37) := ⟨⟨by decide +kernel, by decide +kernel⟩, List.mem_of_getElem? (i := 780) (by decide +kernel), List.mem_of_getElem? (i := 1080) (by decide +kernel), List.mem_of_getElem? (i := 1081) (by decide +kernel)⟩
theorem lw_p50 : lw_okq (⟨"DollsAheadModel", "emptyOf", "(I)I"⟩, 37) := ⟨⟨by decide +kernel, by decide +kernel⟩, List.mem_of_getElem? (i := 780) (by decide +kernel), List.mem_of_getElem? (i := 1088) (by decide +kernel), List.mem_of_getElem? (i := 1089) (by decide +kernel)⟩
theorem lw_p51 : lw_okq (⟨"DollsAheadModel", "emptyNow", "(I)I"⟩, 37) := ⟨⟨by decide +kernel, by decide +kernel⟩, List.mem_of_getElem? (i := 780) (by decide +kernel), List.mem_of_getElem? (i := 1092) (by decide +kernel), List.mem_of_getElem? (i := 1093) (by decide +kernel)⟩
theorem lw_p52 : lw_okq (⟨"DollsAheadModel", "foundOf", "(I)I"⟩, 37) := ⟨⟨by decide +kernel, by decide +kernel⟩, List.mem_of_getElem? (i := 780) (by decide +kernel), List.mem_of_getElem? (i := 1100) (by decide +kernel), List.mem_of_getElem? (i := 1101) (by decide +kernel)⟩
theorem lw_p53 : lw_okq (⟨"DollsAheadModel", "foundNow", "(I)I"⟩, 37) := ⟨⟨by decide +kernel, by decide +kernel⟩, List.mem_of_getElem? (i := 780) (by decide +kernel), List.mem_of_getElem? (i := 1104) (by decide +kernel), List.mem_of_getElem? (i := 1105) (by decide +kernel)⟩
theorem lw_p54 : lw_okq (⟨"DollsAheadModel", "crowdOf", "(I)I"⟩, 37) := ⟨⟨by decide +kernel, by decide +kernel⟩, List.mem_of_getElem? (i := 780) (by decide +kernel), List.mem_of_getElem? (i := 1112) (by decide +kernel), List.mem_of_getElem? (i := 1113) (by decide +kernel)⟩
theorem lw_p55 : lw_okq (⟨"DollsAheadModel", "many", "(I)I"⟩, 37) := ⟨⟨by decide +kernel, by decide +kernel⟩, List.mem_of_getElem? (i := 780) (by decide +kernel), List.mem_of_getElem? (i := 1116) (by decide +kernel), List.mem_of_getElem? (i := 1117) (by decide +kernel)⟩
theorem lw_p56 : lw_okq (⟨"DollsAheadModel", "aloneOf", "()I"⟩, 37) := ⟨⟨by decide +kernel, by decide +kernel⟩, List.mem_of_getElem? (i := 780) (by decide +kernel), List.mem_of_getElem? (i := 1124) (by decide +kernel), List.mem_of_getElem? (i := 1125) (by decide +kernel)⟩
theorem lw_p57 : lw_okq (⟨"DollsAheadModel", "aloneNow", "()I"⟩, 37) := ⟨⟨by decide +kernel, by decide +kernel⟩, List.mem_of_getElem? (i := 780) (by decide +kernel), List.mem_of_getElem? (i := 1128) (by decide +kernel), List.mem_of_getElem? (i := 1129) (by decide +kernel)⟩
theorem lw_p58 : lw_okq (⟨"DollsAheadModel", "isByItself", "(II)Z"⟩, 37) := ⟨⟨by decide +kernel, by decide +kernel⟩, List.mem_of_getElem? (i := 780) (by decide +kernel), List.mem_of_getElem? (i := 1132) (by decide +kernel), List.mem_of_getElem? (i := 1133) (by decide +kernel)⟩
theorem lw_p59 : lw_okq (⟨"DollsAheadModel", "sleepOf", "(II)I"⟩, 37) := ⟨⟨by decide +kernel, by decide +kernel⟩, List.mem_of_getElem? (i := 780) (by decide +kernel), List.mem_of_getElem? (i := 1140) (by decide +kernel), List.mem_of_getElem? (i := 1141) (by decide +kernel)⟩
theorem lw_p60 : lw_okq (⟨"DollsAheadModel", "hoursByItself", "(I)I"⟩, 37) := ⟨⟨by decide +kernel, by decide +kernel⟩, List.mem_of_getElem? (i := 780) (by decide +kernel), List.mem_of_getElem? (i := 1144) (by decide +kernel), List.mem_of_getElem? (i := 1145) (by decide +kernel)⟩
theorem lw_p61 : lw_okq (⟨"DollsAheadModel", "niceOf", "(II)I"⟩, 37) := ⟨⟨by decide +kernel, by decide +kernel⟩, List.mem_of_getElem? (i := 780) (by decide +kernel), List.mem_of_getElem? (i := 1152) (by decide +kernel), List.mem_of_getElem? (i := 1153) (by decide +kernel)⟩
theorem lw_p62 : lw_okq (⟨"DollsAheadModel", "mostAt", "(I)I"⟩, 37) := ⟨⟨by decide +kernel, by decide +kernel⟩, List.mem_of_getElem? (i := 780) (by decide +kernel), List.mem_of_getElem? (i := 1156) (by decide +kernel), List.mem_of_getElem? (i := 1157) (by decide +kernel)⟩
theorem lw_p63 : lw_okq (⟨"DollsAheadModel", "lensOf", "(I)I"⟩, 37) := ⟨⟨by decide +kernel, by decide +kernel⟩, List.mem_of_getElem? (i := 780) (by decide +kernel), List.mem_of_getElem? (i := 1164) (by decide +kernel), List.mem_of_getElem? (i := 1165) (by decide +kernel)⟩
def lw_privs_4 : List (MethodName × Nat) := [(⟨"DollsAheadModel", "farOf", "(III)I"⟩, 37), (⟨"DollsAheadModel", "metOf", "(II)I"⟩, 37), (⟨"DollsAheadModel", "emptyOf", "(I)I"⟩, 37), (⟨"DollsAheadModel", "emptyNow", "(I)I"⟩, 37), (⟨"DollsAheadModel", "foundOf", "(I)I"⟩, 37), (⟨"DollsAheadModel", "foundNow", "(I)I"⟩, 37), (⟨"DollsAheadModel", "crowdOf", "(I)I"⟩, 37), (⟨"DollsAheadModel", "many", "(I)I"⟩, 37), (⟨"DollsAheadModel", "aloneOf", "()I"⟩, 37), (⟨"DollsAheadModel", "aloneNow", "()I"⟩, 37), (⟨"DollsAheadModel", "isByItself", "(II)Z"⟩, 37), (⟨"DollsAheadModel", "sleepOf", "(II)I"⟩, 37), (⟨"DollsAheadModel", "hoursByItself", "(I)I"⟩, 37), (⟨"DollsAheadModel", "niceOf", "(II)I"⟩, 37), (⟨"DollsAheadModel", "mostAt", "(I)I"⟩, 37), (⟨"DollsAheadModel", "lensOf", "(I)I"⟩, 37)]
theorem lw_r4 : ∀ q ∈ lw_privs_4, lw_okq q := List.forall_mem_cons.mpr ⟨lw_p48, List.forall_mem_cons.mpr ⟨lw_p49, List.forall_mem_cons.mpr ⟨lw_p50, List.forall_mem_cons.mpr ⟨lw_p51, List.forall_mem_cons.mpr ⟨lw_p52, List.forall_mem_cons.mpr ⟨lw_p53, List.forall_mem_cons.mpr ⟨lw_p54, List.forall_mem_cons.mpr ⟨lw_p55, List.forall_mem_cons.mpr ⟨lw_p56, List.forall_mem_cons.mpr ⟨lw_p57, List.forall_mem_cons.mpr ⟨lw_p58, List.forall_mem_cons.mpr ⟨lw_p59, List.forall_mem_cons.mpr ⟨lw_p60, List.forall_mem_cons.mpr ⟨lw_p61, List.forall_mem_cons.mpr ⟨lw_p62, List.forall_mem_cons.mpr ⟨lw_p63, fun _ h => absurd h List.not_mem_nil⟩⟩⟩⟩⟩⟩⟩⟩⟩⟩⟩⟩⟩⟩⟩⟩
theorem lw_p64 : lw_okq (⟨"DollsAheadModel", "spareBy", "()I"⟩, 37) := ⟨⟨by decide +kernel, by decide +kernel⟩, List.mem_of_getElem? (i := 780) (by decide +kernel), List.mem_of_getElem? (i := 1172) (by decide +kernel), List.mem_of_getElem? (i := 1173) (by decide +kernel)⟩
theorem lw_p65 : lw_okq (⟨"DollsAheadModel", "isSpared", "(I)Z"⟩, 37) := ⟨⟨by decide +kernel, by decide +kernel⟩, List.mem_of_getElem? (i := 780) (by decide +kernel), List.mem_of_getElem? (i := 1176) (by decide +kernel), List.mem_of_getElem? (i := 1177) (by decide +kernel)⟩
theorem lw_p66 : lw_okq (⟨"DollsAheadModel", "ofRow", "(II)I"⟩, 37) := ⟨⟨by decide +kernel, by decide +kernel⟩, List.mem_of_getElem? (i := 780) (by decide +kernel), List.mem_of_getElem? (i := 1180) (by decide +kernel), List.mem_of_getElem? (i := 1181) (by decide +kernel)⟩
theorem lw_p67 : lw_okq (⟨"DollsAheadModel", "neverNow", "()I"⟩, 37) := ⟨⟨by decide +kernel, by decide +kernel⟩, List.mem_of_getElem? (i := 780) (by decide +kernel), List.mem_of_getElem? (i := 1196) (by decide +kernel), List.mem_of_getElem? (i := 1197) (by decide +kernel)⟩
theorem lw_p68 : lw_okq (⟨"DollsAheadModel", "isSeen", "()Z"⟩, 37) := ⟨⟨by decide +kernel, by decide +kernel⟩, List.mem_of_getElem? (i := 780) (by decide +kernel), List.mem_of_getElem? (i := 1200) (by decide +kernel), List.mem_of_getElem? (i := 1201) (by decide +kernel)⟩
theorem lw_p69 : lw_okq (⟨"DollsAheadModel", "sortsBy", "(I)I"⟩, 37) := ⟨⟨by decide +kernel, by decide +kernel⟩, List.mem_of_getElem? (i := 780) (by decide +kernel), List.mem_of_getElem? (i := 1208) (by decide +kernel), List.mem_of_getElem? (i := 1209) (by decide +kernel)⟩
theorem lw_p70 : lw_okq (⟨"DollsAheadModel", "bedsBy", "(I)I"⟩, 37) := ⟨⟨by decide +kernel, by decide +kernel⟩, List.mem_of_getElem? (i := 780) (by decide +kernel), List.mem_of_getElem? (i := 1212) (by decide +kernel), List.mem_of_getElem? (i := 1213) (by decide +kernel)⟩
theorem lw_p71 : lw_okq (⟨"DollsAheadModel", "askOf", "(I)I"⟩, 37) := ⟨⟨by decide +kernel, by decide +kernel⟩, List.mem_of_getElem? (i := 780) (by decide +kernel), List.mem_of_getElem? (i := 1220) (by decide +kernel), List.mem_of_getElem? (i := 1221) (by decide +kernel)⟩
theorem lw_p72 : lw_okq (⟨"DollsAheadModel", "chanceOf", "(IIII)J"⟩, 37) := ⟨⟨by decide +kernel, by decide +kernel⟩, List.mem_of_getElem? (i := 780) (by decide +kernel), List.mem_of_getElem? (i := 1228) (by decide +kernel), List.mem_of_getElem? (i := 1229) (by decide +kernel)⟩
theorem lw_p73 : lw_okq (⟨"DollsAheadModel", "weeksOf", "(III)I"⟩, 37) := ⟨⟨by decide +kernel, by decide +kernel⟩, List.mem_of_getElem? (i := 780) (by decide +kernel), List.mem_of_getElem? (i := 1243) (by decide +kernel), List.mem_of_getElem? (i := 1244) (by decide +kernel)⟩
theorem lw_p74 : lw_okq (⟨"DollsAheadModel", "lacks", "(III)I"⟩, 37) := ⟨⟨by decide +kernel, by decide +kernel⟩, List.mem_of_getElem? (i := 780) (by decide +kernel), List.mem_of_getElem? (i := 1260) (by decide +kernel), List.mem_of_getElem? (i := 1261) (by decide +kernel)⟩
theorem lw_p75 : lw_okq (⟨"DollsAheadModel", "keep", "(III)V"⟩, 37) := ⟨⟨by decide +kernel, by decide +kernel⟩, List.mem_of_getElem? (i := 780) (by decide +kernel), List.mem_of_getElem? (i := 1264) (by decide +kernel), List.mem_of_getElem? (i := 1265) (by decide +kernel)⟩
theorem lw_p76 : lw_okq (⟨"DollsAheadModel", "sumOf", "(I)I"⟩, 37) := ⟨⟨by decide +kernel, by decide +kernel⟩, List.mem_of_getElem? (i := 780) (by decide +kernel), List.mem_of_getElem? (i := 1285) (by decide +kernel), List.mem_of_getElem? (i := 1286) (by decide +kernel)⟩
theorem lw_p77 : lw_okq (⟨"DollsAheadModel", "personDigest", "(JI)J"⟩, 37) := ⟨⟨by decide +kernel, by decide +kernel⟩, List.mem_of_getElem? (i := 780) (by decide +kernel), List.mem_of_getElem? (i := 1296) (by decide +kernel), List.mem_of_getElem? (i := 1297) (by decide +kernel)⟩
theorem lw_p78 : lw_okq (⟨"DollsAheadModel", "hourDigest", "(JII)J"⟩, 37) := ⟨⟨by decide +kernel, by decide +kernel⟩, List.mem_of_getElem? (i := 780) (by decide +kernel), List.mem_of_getElem? (i := 1300) (by decide +kernel), List.mem_of_getElem? (i := 1301) (by decide +kernel)⟩
def lw_privs_5 : List (MethodName × Nat) := [(⟨"DollsAheadModel", "spareBy", "()I"⟩, 37), (⟨"DollsAheadModel", "isSpared", "(I)Z"⟩, 37), (⟨"DollsAheadModel", "ofRow", "(II)I"⟩, 37), (⟨"DollsAheadModel", "neverNow", "()I"⟩, 37), (⟨"DollsAheadModel", "isSeen", "()Z"⟩, 37), (⟨"DollsAheadModel", "sortsBy", "(I)I"⟩, 37), (⟨"DollsAheadModel", "bedsBy", "(I)I"⟩, 37), (⟨"DollsAheadModel", "askOf", "(I)I"⟩, 37), (⟨"DollsAheadModel", "chanceOf", "(IIII)J"⟩, 37), (⟨"DollsAheadModel", "weeksOf", "(III)I"⟩, 37), (⟨"DollsAheadModel", "lacks", "(III)I"⟩, 37), (⟨"DollsAheadModel", "keep", "(III)V"⟩, 37), (⟨"DollsAheadModel", "sumOf", "(I)I"⟩, 37), (⟨"DollsAheadModel", "personDigest", "(JI)J"⟩, 37), (⟨"DollsAheadModel", "hourDigest", "(JII)J"⟩, 37)]
theorem lw_r5 : ∀ q ∈ lw_privs_5, lw_okq q := List.forall_mem_cons.mpr ⟨lw_p64, List.forall_mem_cons.mpr ⟨lw_p65, List.forall_mem_cons.mpr ⟨lw_p66, List.forall_mem_cons.mpr ⟨lw_p67, List.forall_mem_cons.mpr ⟨lw_p68, List.forall_mem_cons.mpr ⟨lw_p69, List.forall_mem_cons.mpr ⟨lw_p70, List.forall_mem_cons.mpr ⟨lw_p71, List.forall_mem_cons.mpr ⟨lw_p72, List.forall_mem_cons.mpr ⟨lw_p73, List.forall_mem_cons.mpr ⟨lw_p74, List.forall_mem_cons.mpr ⟨lw_p75, List.forall_mem_cons.mpr ⟨lw_p76, List.forall_mem_cons.mpr ⟨lw_p77, List.forall_mem_cons.mpr ⟨lw_p78, fun _ h => absurd h List.not_mem_nil⟩⟩⟩⟩⟩⟩⟩⟩⟩⟩⟩⟩⟩⟩⟩
def lw_privs : List (MethodName × Nat) := lw_privs_1 ++ (lw_privs_2 ++ (lw_privs_3 ++ (lw_privs_4 ++ (lw_privs_5))))
def lw_tbl : List Cond := k2_sels lw_privs ++ tables_1
theorem lw_privs_ok : ∀ q ∈ lw_privs, lw_okq q := by
  show ∀ q ∈ lw_privs_1 ++ (lw_privs_2 ++ (lw_privs_3 ++ (lw_privs_4 ++ (lw_privs_5)))), lw_okq q
  exact List.forall_mem_append.mpr ⟨lw_r1, List.forall_mem_append.mpr ⟨lw_r2, List.forall_mem_append.mpr ⟨lw_r3, List.forall_mem_append.mpr ⟨lw_r4, lw_r5⟩⟩⟩⟩
def RX0 : String := "DollsAhead$Doors"
def TX0 : u_T := fun k => match k with
  | 0 => ("DollsAhead$Text", "bytes", "[I", true)
  | 1 => ("DollsAhead$Text", "limit", "I", true)
  | 2 => ("DollsAhead$Text", "part", "I", true)
  | 3 => ("DollsAhead$Text", "size", "I", false)
  | 4 => ("DollsAhead$Text", "faultPlace", "I", false)
  | 5 => ("DollsAhead$Text", "many", "I", false)
  | 6 => ("DollsAhead$Doors", "ones", "[I", true)
  | 7 => ("DollsAhead$Doors", "others", "[I", true)
  | _ => ("DollsAhead$Doors", "beside", "[I", true)
def tyX0 : Nat → FieldType := fun k => match k with
  | 0 => .array .int
  | 1 => .int
  | 2 => .int
  | 3 => .int
  | 4 => .int
  | 5 => .int
  | 6 => .array .int
  | 7 => .array .int
  | _ => .array .int
abbrev wsX00 : List Cond := u_ws RX0 TX0 9
theorem nmX0 : ∀ a, a < 9 → ∀ b, b < 9 → a ≠ b → (TX0 a).2.1 ≠ (TX0 b).2.1 := by decide +kernel
theorem tyX0_ok : ∀ k, k < 9 → parseFieldDescriptor (TX0 k).2.2.1 = some (tyX0 k) := by decide +kernel
abbrev cX0_init : ByteArray := prog_2_method_1_code
def yX0_init : MethodName := ⟨RX0, "<init>", "()V"⟩
abbrev cX0_fits : ByteArray := prog_2_method_2_code
def yX0_fits : MethodName := ⟨RX0, "fits", "(II)Z"⟩
abbrev cX0_readThings : ByteArray := prog_2_method_3_code
def yX0_readThings : MethodName := ⟨RX0, "readThings", "()V"⟩
abbrev cX0_openAllBut : ByteArray := prog_2_method_4_code
def yX0_openAllBut : MethodName := ⟨RX0, "openAllBut", "(I)V"⟩
abbrev cX0_fillStepsTo : ByteArray := prog_2_method_5_code
def yX0_fillStepsTo : MethodName := ⟨RX0, "fillStepsTo", "(I[II)V"⟩
def RX1 : String := "DollsAhead$Events"
def TX1 : u_T := fun k => match k with
  | 0 => ("DollsAhead$Events", "kinds", "[I", true)
  | 1 => ("DollsAhead$Events", "hours", "[I", true)
  | 2 => ("DollsAhead$Events", "numbers", "[I", true)
  | _ => ("DollsAhead$Events", "size", "I", false)
def tyX1 : Nat → FieldType := fun k => match k with
  | 0 => .array .int
  | 1 => .array .int
  | 2 => .array .int
  | _ => .int
abbrev wsX10 : List Cond := u_ws RX1 TX1 4
theorem nmX1 : ∀ a, a < 4 → ∀ b, b < 4 → a ≠ b → (TX1 a).2.1 ≠ (TX1 b).2.1 := by decide +kernel
theorem tyX1_ok : ∀ k, k < 4 → parseFieldDescriptor (TX1 k).2.2.1 = some (tyX1 k) := by decide +kernel
abbrev cX1_init : ByteArray := prog_3_method_1_code
def yX1_init : MethodName := ⟨RX1, "<init>", "()V"⟩
abbrev cX1_add : ByteArray := prog_3_method_2_code
def yX1_add : MethodName := ⟨RX1, "add", "(III)V"⟩
abbrev cX1_become : ByteArray := prog_3_method_3_code
def yX1_become : MethodName := ⟨RX1, "become", "(LDollsAhead$Events;)V"⟩
def RX2 : String := "DollsAhead$Lots"
def TX2 : u_T := fun k => match k with
  | _ => ("DollsAhead$Lots", "seed", "I", false)
def tyX2 : Nat → FieldType := fun k => match k with
  | _ => .int
abbrev wsX20 : List Cond := u_ws RX2 TX2 1
theorem nmX2 : ∀ a, a < 1 → ∀ b, b < 1 → a ≠ b → (TX2 a).2.1 ≠ (TX2 b).2.1 := by decide +kernel
theorem tyX2_ok : ∀ k, k < 1 → parseFieldDescriptor (TX2 k).2.2.1 = some (tyX2 k) := by decide +kernel
abbrev cX2_init : ByteArray := prog_4_method_1_code
def yX2_init : MethodName := ⟨RX2, "<init>", "()V"⟩
abbrev cX2_draw : ByteArray := prog_4_method_2_code
def yX2_draw : MethodName := ⟨RX2, "draw", "(I)I"⟩
def RX3 : String := "DollsAhead$People"
def TX3 : u_T := fun k => match k with
  | 0 => ("DollsAhead$Text", "bytes", "[I", true)
  | 1 => ("DollsAhead$Text", "limit", "I", true)
  | 2 => ("DollsAhead$Text", "part", "I", true)
  | 3 => ("DollsAhead$Text", "size", "I", false)
  | 4 => ("DollsAhead$Text", "faultPlace", "I", false)
  | 5 => ("DollsAhead$Text", "many", "I", false)
  | 6 => ("DollsAhead$People", "sorts", "[I", true)
  | 7 => ("DollsAhead$People", "starts", "[I", true)
  | _ => ("DollsAhead$People", "beds", "[I", true)
def tyX3 : Nat → FieldType := fun k => match k with
  | 0 => .array .int
  | 1 => .int
  | 2 => .int
  | 3 => .int
  | 4 => .int
  | 5 => .int
  | 6 => .array .int
  | 7 => .array .int
  | _ => .array .int
abbrev wsX30 : List Cond := u_ws RX3 TX3 9
theorem nmX3 : ∀ a, a < 9 → ∀ b, b < 9 → a ≠ b → (TX3 a).2.1 ≠ (TX3 b).2.1 := by decide +kernel
theorem tyX3_ok : ∀ k, k < 9 → parseFieldDescriptor (TX3 k).2.2.1 = some (tyX3 k) := by decide +kernel
abbrev cX3_init : ByteArray := prog_5_method_1_code
def yX3_init : MethodName := ⟨RX3, "<init>", "()V"⟩
abbrev cX3_fits : ByteArray := prog_5_method_2_code
def yX3_fits : MethodName := ⟨RX3, "fits", "(II)Z"⟩
abbrev cX3_readThings : ByteArray := prog_5_method_3_code
def yX3_readThings : MethodName := ⟨RX3, "readThings", "()V"⟩
abbrev cX3_sortAt : ByteArray := prog_5_method_4_code
def yX3_sortAt : MethodName := ⟨RX3, "sortAt", "(I)I"⟩
def RX4 : String := "DollsAhead$Sheet"
def TX4 : u_T := fun k => match k with
  | 0 => ("DollsAhead$Sheet", "items", "[I", true)
  | 1 => ("DollsAhead$Sheet", "form", "I", false)
  | _ => ("DollsAhead$Sheet", "size", "I", false)
def tyX4 : Nat → FieldType := fun k => match k with
  | 0 => .array .int
  | 1 => .int
  | _ => .int
abbrev wsX40 : List Cond := u_ws RX4 TX4 3
theorem nmX4 : ∀ a, a < 3 → ∀ b, b < 3 → a ≠ b → (TX4 a).2.1 ≠ (TX4 b).2.1 := by decide +kernel
theorem tyX4_ok : ∀ k, k < 3 → parseFieldDescriptor (TX4 k).2.2.1 = some (tyX4 k) := by decide +kernel
abbrev cX4_init : ByteArray := prog_6_method_1_code
def yX4_init : MethodName := ⟨RX4, "<init>", "()V"⟩
abbrev cX4_isLost : ByteArray := prog_6_method_2_code
def yX4_isLost : MethodName := ⟨RX4, "isLost", "()Z"⟩
abbrev cX4_become : ByteArray := prog_6_method_3_code
def yX4_become : MethodName := ⟨RX4, "become", "(II)V"⟩
abbrev cX4_holds : ByteArray := prog_6_method_4_code
def yX4_holds : MethodName := ⟨RX4, "holds", "(II)Z"⟩
abbrev cX4_lay : ByteArray := prog_6_method_5_code
def yX4_lay : MethodName := ⟨RX4, "lay", "(II)V"⟩
def RX5 : String := "DollsAhead$Sights"
def TX5 : u_T := fun k => match k with
  | 0 => ("DollsAhead$Sights", "hours", "[I", true)
  | 1 => ("DollsAhead$Sights", "persons", "[I", true)
  | 2 => ("DollsAhead$Sights", "rooms", "[I", true)
  | _ => ("DollsAhead$Sights", "size", "I", false)
def tyX5 : Nat → FieldType := fun k => match k with
  | 0 => .array .int
  | 1 => .array .int
  | 2 => .array .int
  | _ => .int
abbrev wsX50 : List Cond := u_ws RX5 TX5 4
theorem nmX5 : ∀ a, a < 4 → ∀ b, b < 4 → a ≠ b → (TX5 a).2.1 ≠ (TX5 b).2.1 := by decide +kernel
theorem tyX5_ok : ∀ k, k < 4 → parseFieldDescriptor (TX5 k).2.2.1 = some (tyX5 k) := by decide +kernel
abbrev cX5_init : ByteArray := prog_7_method_1_code
def yX5_init : MethodName := ⟨RX5, "<init>", "()V"⟩
abbrev cX5_add : ByteArray := prog_7_method_2_code
def yX5_add : MethodName := ⟨RX5, "add", "(III)V"⟩
abbrev cX5_allIn : ByteArray := prog_7_method_3_code
def yX5_allIn : MethodName := ⟨RX5, "allIn", "(LDollsAhead$Week;)Z"⟩
def RX6 : String := "DollsAhead$Text"
abbrev cX6_init : ByteArray := prog_8_method_1_code
def yX6_init : MethodName := ⟨RX6, "<init>", "(II)V"⟩
abbrev cX6_isFull : ByteArray := prog_8_method_4_code
def yX6_isFull : MethodName := ⟨RX6, "isFull", "()Z"⟩
abbrev cX6_add : ByteArray := prog_8_method_5_code
def yX6_add : MethodName := ⟨RX6, "add", "(I)V"⟩
abbrev cX6_shorten : ByteArray := prog_8_method_6_code
def yX6_shorten : MethodName := ⟨RX6, "shorten", "(I)V"⟩
abbrev cX6_isFigure : ByteArray := prog_8_method_7_code
def yX6_isFigure : MethodName := ⟨RX6, "isFigure", "(I)Z"⟩
abbrev cX6_figure : ByteArray := prog_8_method_8_code
def yX6_figure : MethodName := ⟨RX6, "figure", "(I)I"⟩
abbrev cX6_understand : ByteArray := prog_8_method_9_code
def yX6_understand : MethodName := ⟨RX6, "understand", "()V"⟩
abbrev cX6_firstFault : ByteArray := prog_8_method_10_code
def yX6_firstFault : MethodName := ⟨RX6, "firstFault", "()I"⟩
def RX7 : String := "DollsAhead$Week"
def TX7 : u_T := fun k => match k with
  | 0 => ("DollsAhead$Week", "doors", "LDollsAhead$Doors;", true)
  | 1 => ("DollsAhead$Week", "people", "LDollsAhead$People;", true)
  | 2 => ("DollsAhead$Week", "where", "[I", true)
  | 3 => ("DollsAhead$Week", "hams", "[I", true)
  | 4 => ("DollsAhead$Week", "shuts", "[I", true)
  | 5 => ("DollsAhead$Week", "tables", "[I", true)
  | 6 => ("DollsAhead$Week", "steps", "[I", true)
  | 7 => ("DollsAhead$Week", "shutInSpan", "[I", true)
  | 8 => ("DollsAhead$Week", "events", "LDollsAhead$Events;", false)
  | 9 => ("DollsAhead$Week", "without", "I", false)
  | 10 => ("DollsAhead$Week", "lead", "I", false)
  | 11 => ("DollsAhead$Week", "who", "I", false)
  | 12 => ("DollsAhead$Week", "sortOfWho", "I", false)
  | _ => ("DollsAhead$Week", "bedOfWho", "I", false)
def tyX7 : Nat → FieldType := fun k => match k with
  | 0 => .object "DollsAhead$Doors"
  | 1 => .object "DollsAhead$People"
  | 2 => .array .int
  | 3 => .array .int
  | 4 => .array .int
  | 5 => .array .int
  | 6 => .array .int
  | 7 => .array .int
  | 8 => .object "DollsAhead$Events"
  | 9 => .int
  | 10 => .int
  | 11 => .int
  | 12 => .int
  | _ => .int
abbrev wsX70 : List Cond := u_ws RX7 TX7 14
theorem nmX7 : ∀ a, a < 14 → ∀ b, b < 14 → a ≠ b → (TX7 a).2.1 ≠ (TX7 b).2.1 := by decide +kernel
theorem tyX7_ok : ∀ k, k < 14 → parseFieldDescriptor (TX7 k).2.2.1 = some (tyX7 k) := by decide +kernel
abbrev cX7_init : ByteArray := prog_9_method_1_code
def yX7_init : MethodName := ⟨RX7, "<init>", "(LDollsAhead$Doors;LDollsAhead$People;LDollsAhead$Events;)V"⟩
abbrev cX7_forgetSteps : ByteArray := prog_9_method_2_code
def yX7_forgetSteps : MethodName := ⟨RX7, "forgetSteps", "()V"⟩
abbrev cX7_suppose : ByteArray := prog_9_method_3_code
def yX7_suppose : MethodName := ⟨RX7, "suppose", "(III)V"⟩
abbrev cX7_runWith : ByteArray := prog_9_method_4_code
def yX7_runWith : MethodName := ⟨RX7, "runWith", "(LDollsAhead$Events;II)V"⟩
abbrev cX7_layHours : ByteArray := prog_9_method_5_code
def yX7_layHours : MethodName := ⟨RX7, "layHours", "()V"⟩
abbrev cX7_layTables : ByteArray := prog_9_method_6_code
def yX7_layTables : MethodName := ⟨RX7, "layTables", "()V"⟩
abbrev cX7_walk : ByteArray := prog_9_method_7_code
def yX7_walk : MethodName := ⟨RX7, "walk", "(II)V"⟩
abbrev cX7_sortOf : ByteArray := prog_9_method_8_code
def yX7_sortOf : MethodName := ⟨RX7, "sortOf", "(I)I"⟩
abbrev cX7_bedOf : ByteArray := prog_9_method_9_code
def yX7_bedOf : MethodName := ⟨RX7, "bedOf", "(I)I"⟩
abbrev cX7_roomOf : ByteArray := prog_9_method_10_code
def yX7_roomOf : MethodName := ⟨RX7, "roomOf", "(II)I"⟩
abbrev cX7_whoIn : ByteArray := prog_9_method_11_code
def yX7_whoIn : MethodName := ⟨RX7, "whoIn", "(II)I"⟩
abbrev cX7_doorsBetween : ByteArray := prog_9_method_12_code
def yX7_doorsBetween : MethodName := ⟨RX7, "doorsBetween", "(III)I"⟩
abbrev cX7_emptyHours : ByteArray := prog_9_method_13_code
def yX7_emptyHours : MethodName := ⟨RX7, "emptyHours", "(I)I"⟩
abbrev cX7_aloneBehind : ByteArray := prog_9_method_14_code
def yX7_aloneBehind : MethodName := ⟨RX7, "aloneBehind", "(I)I"⟩
abbrev cX7_hoursAlone : ByteArray := prog_9_method_15_code
def yX7_hoursAlone : MethodName := ⟨RX7, "hoursAlone", "(I)I"⟩
abbrev cX7_mostIn : ByteArray := prog_9_method_16_code
def yX7_mostIn : MethodName := ⟨RX7, "mostIn", "(I)I"⟩
abbrev cX7_firstRoomOf : ByteArray := prog_9_method_17_code
def yX7_firstRoomOf : MethodName := ⟨RX7, "firstRoomOf", "(II)I"⟩
abbrev cX7_findingHour : ByteArray := prog_9_method_18_code
def yX7_findingHour : MethodName := ⟨RX7, "findingHour", "()I"⟩
abbrev cX7_finder : ByteArray := prog_9_method_19_code
def yX7_finder : MethodName := ⟨RX7, "finder", "(I)I"⟩
abbrev cX7_childWith : ByteArray := prog_9_method_20_code
def yX7_childWith : MethodName := ⟨RX7, "childWith", "(II)I"⟩
def RX8 : String := "DollsAhead"
def TX8 : u_T := fun k => match k with
  | 0 => ("DollsAhead", "doors", "LDollsAhead$Doors;", true)
  | 1 => ("DollsAhead", "people", "LDollsAhead$People;", true)
  | 2 => ("DollsAhead", "told", "LDollsAhead$Events;", true)
  | 3 => ("DollsAhead", "supposed", "LDollsAhead$Events;", true)
  | 4 => ("DollsAhead", "lots", "LDollsAhead$Lots;", true)
  | 5 => ("DollsAhead", "sights", "LDollsAhead$Sights;", true)
  | 6 => ("DollsAhead", "sheets", "[LDollsAhead$Sheet;", true)
  | 7 => ("DollsAhead", "now", "LDollsAhead$Week;", true)
  | 8 => ("DollsAhead", "trial", "LDollsAhead$Week;", true)
  | 9 => ("DollsAhead", "paths", "[I", true)
  | 10 => ("DollsAhead", "crowds", "[I", true)
  | 11 => ("DollsAhead", "odds", "[J", true)
  | 12 => ("DollsAhead", "lead", "I", false)
  | 13 => ("DollsAhead", "finding", "I", false)
  | 14 => ("DollsAhead", "nowStands", "Z", false)
  | 15 => ("DollsAhead", "oddsSixteenths", "I", false)
  | _ => ("DollsAhead", "oddsHour", "I", false)
def tyX8 : Nat → FieldType := fun k => match k with
  | 0 => .object "DollsAhead$Doors"
  | 1 => .object "DollsAhead$People"
  | 2 => .object "DollsAhead$Events"
  | 3 => .object "DollsAhead$Events"
  | 4 => .object "DollsAhead$Lots"
  | 5 => .object "DollsAhead$Sights"
  | 6 => .array (.object "DollsAhead$Sheet")
  | 7 => .object "DollsAhead$Week"
  | 8 => .object "DollsAhead$Week"
  | 9 => .array .int
  | 10 => .array .int
  | 11 => .array .long
  | 12 => .int
  | 13 => .int
  | 14 => .boolean
  | 15 => .int
  | _ => .int
abbrev wsX80 : List Cond := u_ws RX8 TX8 17
theorem nmX8 : ∀ a, a < 17 → ∀ b, b < 17 → a ≠ b → (TX8 a).2.1 ≠ (TX8 b).2.1 := by decide +kernel
theorem tyX8_ok : ∀ k, k < 17 → parseFieldDescriptor (TX8 k).2.2.1 = some (tyX8 k) := by decide +kernel
abbrev cX8_init : ByteArray := prog_1_method_1_code
def yX8_init : MethodName := ⟨RX8, "<init>", "()V"⟩
abbrev cX8_type : ByteArray := prog_1_method_2_code
def yX8_type : MethodName := ⟨RX8, "type", "(II)I"⟩
abbrev cX8_wipe : ByteArray := prog_1_method_3_code
def yX8_wipe : MethodName := ⟨RX8, "wipe", "(I)I"⟩
abbrev cX8_undo : ByteArray := prog_1_method_4_code
def yX8_undo : MethodName := ⟨RX8, "undo", "(I)I"⟩
abbrev cX8_fault : ByteArray := prog_1_method_5_code
def yX8_fault : MethodName := ⟨RX8, "fault", "(I)I"⟩
abbrev cX8_door : ByteArray := prog_1_method_6_code
def yX8_door : MethodName := ⟨RX8, "door", "(II)I"⟩
abbrev cX8_person : ByteArray := prog_1_method_7_code
def yX8_person : MethodName := ⟨RX8, "person", "(II)I"⟩
abbrev cX8_ahead : ByteArray := prog_1_method_8_code
def yX8_ahead : MethodName := ⟨RX8, "ahead", "(I)I"⟩
abbrev cX8_event : ByteArray := prog_1_method_9_code
def yX8_event : MethodName := ⟨RX8, "event", "(III)I"⟩
abbrev cX8_back : ByteArray := prog_1_method_10_code
def yX8_back : MethodName := ⟨RX8, "back", "()I"⟩
abbrev cX8_read : ByteArray := prog_1_method_11_code
def yX8_read : MethodName := ⟨RX8, "read", "(I)I"⟩
abbrev cX8_at : ByteArray := prog_1_method_12_code
def yX8_at : MethodName := ⟨RX8, "at", "(III)I"⟩
abbrev cX8_room : ByteArray := prog_1_method_13_code
def yX8_room : MethodName := ⟨RX8, "room", "(II)I"⟩
abbrev cX8_far : ByteArray := prog_1_method_14_code
def yX8_far : MethodName := ⟨RX8, "far", "(III)I"⟩
abbrev cX8_meet : ByteArray := prog_1_method_15_code
def yX8_meet : MethodName := ⟨RX8, "meet", "(II)I"⟩
abbrev cX8_empty : ByteArray := prog_1_method_16_code
def yX8_empty : MethodName := ⟨RX8, "empty", "(I)I"⟩
abbrev cX8_found : ByteArray := prog_1_method_17_code
def yX8_found : MethodName := ⟨RX8, "found", "(I)I"⟩
abbrev cX8_crowd : ByteArray := prog_1_method_18_code
def yX8_crowd : MethodName := ⟨RX8, "crowd", "(I)I"⟩
abbrev cX8_alone : ByteArray := prog_1_method_19_code
def yX8_alone : MethodName := ⟨RX8, "alone", "()I"⟩
abbrev cX8_sleep : ByteArray := prog_1_method_20_code
def yX8_sleep : MethodName := ⟨RX8, "sleep", "(II)I"⟩
abbrev cX8_nice : ByteArray := prog_1_method_21_code
def yX8_nice : MethodName := ⟨RX8, "nice", "(II)I"⟩
abbrev cX8_lens : ByteArray := prog_1_method_22_code
def yX8_lens : MethodName := ⟨RX8, "lens", "(I)I"⟩
abbrev cX8_spare : ByteArray := prog_1_method_23_code
def yX8_spare : MethodName := ⟨RX8, "spare", "(I)I"⟩
abbrev cX8_seen : ByteArray := prog_1_method_24_code
def yX8_seen : MethodName := ⟨RX8, "seen", "(III)I"⟩
abbrev cX8_forget : ByteArray := prog_1_method_25_code
def yX8_forget : MethodName := ⟨RX8, "forget", "()I"⟩
abbrev cX8_never : ByteArray := prog_1_method_26_code
def yX8_never : MethodName := ⟨RX8, "never", "()I"⟩
abbrev cX8_was : ByteArray := prog_1_method_27_code
def yX8_was : MethodName := ⟨RX8, "was", "(II)I"⟩
abbrev cX8_ask : ByteArray := prog_1_method_28_code
def yX8_ask : MethodName := ⟨RX8, "ask", "(I)I"⟩
abbrev cX8_chance : ByteArray := prog_1_method_29_code
def yX8_chance : MethodName := ⟨RX8, "chance", "(IIII)J"⟩
abbrev cX8_weeks : ByteArray := prog_1_method_30_code
def yX8_weeks : MethodName := ⟨RX8, "weeks", "(III)I"⟩
abbrev cX8_sheet : ByteArray := prog_1_method_31_code
def yX8_sheet : MethodName := ⟨RX8, "sheet", "(III)I"⟩
abbrev cX8_lose : ByteArray := prog_1_method_32_code
def yX8_lose : MethodName := ⟨RX8, "lose", "(I)I"⟩
abbrev cX8_put : ByteArray := prog_1_method_33_code
def yX8_put : MethodName := ⟨RX8, "put", "(IIII)I"⟩
abbrev cX8_get : ByteArray := prog_1_method_34_code
def yX8_get : MethodName := ⟨RX8, "get", "(III)I"⟩
abbrev cX8_copy : ByteArray := prog_1_method_35_code
def yX8_copy : MethodName := ⟨RX8, "copy", "(IIIII)I"⟩
abbrev cX8_write : ByteArray := prog_1_method_36_code
def yX8_write : MethodName := ⟨RX8, "write", "(II)I"⟩
abbrev cX8_count : ByteArray := prog_1_method_37_code
def yX8_count : MethodName := ⟨RX8, "count", "(I)I"⟩
abbrev cX8_digest : ByteArray := prog_1_method_38_code
def yX8_digest : MethodName := ⟨RX8, "digest", "()J"⟩
abbrev cX8_mix : ByteArray := prog_1_method_39_code
def yX8_mix : MethodName := ⟨RX8, "mix", "(JJ)J"⟩
abbrev cX8_mixStays : ByteArray := prog_1_method_40_code
def yX8_mixStays : MethodName := ⟨RX8, "mixStays", "(JI)J"⟩
abbrev cX8_mixGuesses : ByteArray := prog_1_method_41_code
def yX8_mixGuesses : MethodName := ⟨RX8, "mixGuesses", "(JI)J"⟩
abbrev cX8_within : ByteArray := prog_1_method_42_code
def yX8_within : MethodName := ⟨RX8, "within", "(III)Z"⟩
abbrev cX8_isHour : ByteArray := prog_1_method_43_code
def yX8_isHour : MethodName := ⟨RX8, "isHour", "(I)Z"⟩
abbrev cX8_isRoom : ByteArray := prog_1_method_44_code
def yX8_isRoom : MethodName := ⟨RX8, "isRoom", "(I)Z"⟩
abbrev cX8_isSheet : ByteArray := prog_1_method_45_code
def yX8_isSheet : MethodName := ⟨RX8, "isSheet", "(I)Z"⟩
abbrev cX8_isForm : ByteArray := prog_1_method_46_code
def yX8_isForm : MethodName := ⟨RX8, "isForm", "(I)Z"⟩
abbrev cX8_isEvent : ByteArray := prog_1_method_47_code
def yX8_isEvent : MethodName := ⟨RX8, "isEvent", "(III)Z"⟩
abbrev cX8_isPerson : ByteArray := prog_1_method_48_code
def yX8_isPerson : MethodName := ⟨RX8, "isPerson", "(I)Z"⟩
abbrev cX8_textOf : ByteArray := prog_1_method_49_code
def yX8_textOf : MethodName := ⟨RX8, "textOf", "(I)LDollsAhead$Text;"⟩
abbrev cX8_textChanged : ByteArray := prog_1_method_50_code
def yX8_textChanged : MethodName := ⟨RX8, "textChanged", "()V"⟩
abbrev cX8_changed : ByteArray := prog_1_method_51_code
def yX8_changed : MethodName := ⟨RX8, "changed", "()V"⟩
abbrev cX8_weekAsTold : ByteArray := prog_1_method_52_code
def yX8_weekAsTold : MethodName := ⟨RX8, "weekAsTold", "()LDollsAhead$Week;"⟩
abbrev cX8_emptyHoursOfAll : ByteArray := prog_1_method_53_code
def yX8_emptyHoursOfAll : MethodName := ⟨RX8, "emptyHoursOfAll", "()I"⟩
abbrev cX8_sparedRow : ByteArray := prog_1_method_54_code
def yX8_sparedRow : MethodName := ⟨RX8, "sparedRow", "()I"⟩
abbrev cX8_nobodyAloneWithout : ByteArray := prog_1_method_55_code
def yX8_nobodyAloneWithout : MethodName := ⟨RX8, "nobodyAloneWithout", "(I)Z"⟩
abbrev cX8_placeOfBit : ByteArray := prog_1_method_56_code
def yX8_placeOfBit : MethodName := ⟨RX8, "placeOfBit", "(II)I"⟩
abbrev cX8_sortsThatFit : ByteArray := prog_1_method_57_code
def yX8_sortsThatFit : MethodName := ⟨RX8, "sortsThatFit", "(I)I"⟩
abbrev cX8_bedsThatFit : ByteArray := prog_1_method_58_code
def yX8_bedsThatFit : MethodName := ⟨RX8, "bedsThatFit", "(I)I"⟩
abbrev cX8_mostBedsInOneRoom : ByteArray := prog_1_method_59_code
def yX8_mostBedsInOneRoom : MethodName := ⟨RX8, "mostBedsInOneRoom", "(II)I"⟩
abbrev cX8_weighOdds : ByteArray := prog_1_method_60_code
def yX8_weighOdds : MethodName := ⟨RX8, "weighOdds", "(II)V"⟩
abbrev cX8_weightOf : ByteArray := prog_1_method_61_code
def yX8_weightOf : MethodName := ⟨RX8, "weightOf", "(II)J"⟩
abbrev cX8_addOdds : ByteArray := prog_1_method_62_code
def yX8_addOdds : MethodName := ⟨RX8, "addOdds", "(IJ)V"⟩
abbrev cX8_refuse : ByteArray := prog_1_method_63_code
def yX8_refuse : MethodName := ⟨RX8, "refuse", "(I)I"⟩
abbrev cX8_refusalOfItem : ByteArray := prog_1_method_64_code
def yX8_refusalOfItem : MethodName := ⟨RX8, "refusalOfItem", "(III)I"⟩
def RX9 : String := "DollsAheadModel"
def TX9 : u_T := fun k => match k with
  | 0 => ("DollsAheadModel", "typed", "[I", true)
  | 1 => ("DollsAheadModel", "texts", "[I", true)
  | 2 => ("DollsAheadModel", "doors", "I", false)
  | 3 => ("DollsAheadModel", "ones", "[I", true)
  | 4 => ("DollsAheadModel", "others", "[I", true)
  | 5 => ("DollsAheadModel", "people", "I", false)
  | 6 => ("DollsAheadModel", "sorts", "[I", true)
  | 7 => ("DollsAheadModel", "rooms", "[I", true)
  | 8 => ("DollsAheadModel", "beds", "[I", true)
  | 9 => ("DollsAheadModel", "aheadTold", "I", false)
  | 10 => ("DollsAheadModel", "events", "I", false)
  | 11 => ("DollsAheadModel", "eventKind", "[I", true)
  | 12 => ("DollsAheadModel", "eventHour", "[I", true)
  | 13 => ("DollsAheadModel", "eventNumber", "[I", true)
  | 14 => ("DollsAheadModel", "aheadNow", "I", false)
  | 15 => ("DollsAheadModel", "eventsNow", "I", false)
  | 16 => ("DollsAheadModel", "kindNow", "[I", true)
  | 17 => ("DollsAheadModel", "hourNow", "[I", true)
  | 18 => ("DollsAheadModel", "numberNow", "[I", true)
  | 19 => ("DollsAheadModel", "notEvents", "I", false)
  | 20 => ("DollsAheadModel", "ham", "I", false)
  | 21 => ("DollsAheadModel", "shutBits", "I", false)
  | 22 => ("DollsAheadModel", "hamAt", "[I", true)
  | 23 => ("DollsAheadModel", "farAt", "[I", true)
  | 24 => ("DollsAheadModel", "roomAt", "[I", true)
  | 25 => ("DollsAheadModel", "planRow", "[I", true)
  | 26 => ("DollsAheadModel", "seens", "I", false)
  | 27 => ("DollsAheadModel", "seenHour", "[I", true)
  | 28 => ("DollsAheadModel", "seenWho", "[I", true)
  | 29 => ("DollsAheadModel", "seenRoom", "[I", true)
  | 30 => ("DollsAheadModel", "roomBy", "[I", true)
  | 31 => ("DollsAheadModel", "isThere", "[Z", true)
  | 32 => ("DollsAheadModel", "forms", "[I", true)
  | 33 => ("DollsAheadModel", "sizes", "[I", true)
  | 34 => ("DollsAheadModel", "items", "[I", true)
  | 35 => ("DollsAheadModel", "moved", "[I", true)
  | _ => ("DollsAheadModel", "finding", "I", false)
def tyX9 : Nat → FieldType := fun k => match k with
  | 0 => .array .int
  | 1 => .array .int
  | 2 => .int
  | 3 => .array .int
  | 4 => .array .int
  | 5 => .int
  | 6 => .array .int
  | 7 => .array .int
  | 8 => .array .int
  | 9 => .int
  | 10 => .int
  | 11 => .array .int
  | 12 => .array .int
  | 13 => .array .int
  | 14 => .int
  | 15 => .int
  | 16 => .array .int
  | 17 => .array .int
  | 18 => .array .int
  | 19 => .int
  | 20 => .int
  | 21 => .int
  | 22 => .array .int
  | 23 => .array .int
  | 24 => .array .int
  | 25 => .array .int
  | 26 => .int
  | 27 => .array .int
  | 28 => .array .int
  | 29 => .array .int
  | 30 => .array .int
  | 31 => .array .boolean
  | 32 => .array .int
  | 33 => .array .int
  | 34 => .array .int
  | 35 => .array .int
  | _ => .int
abbrev wsX90 : List Cond := u_ws RX9 TX9 37
theorem nmX9 : ∀ a, a < 37 → ∀ b, b < 37 → a ≠ b → (TX9 a).2.1 ≠ (TX9 b).2.1 := by decide +kernel
theorem tyX9_ok : ∀ k, k < 37 → parseFieldDescriptor (TX9 k).2.2.1 = some (tyX9 k) := by decide +kernel
abbrev cX9_init : ByteArray := prog_11_method_1_code
def yX9_init : MethodName := ⟨RX9, "<init>", "()V"⟩
abbrev cX9_in : ByteArray := prog_11_method_3_code
def yX9_in : MethodName := ⟨RX9, "in", "(III)Z"⟩
abbrev cX9_isIn : ByteArray := prog_11_method_4_code
def yX9_isIn : MethodName := ⟨RX9, "isIn", "(II)Z"⟩
abbrev cX9_no : ByteArray := prog_11_method_5_code
def yX9_no : MethodName := ⟨RX9, "no", "(I)J"⟩
abbrev cX9_lowest : ByteArray := prog_11_method_6_code
def yX9_lowest : MethodName := ⟨RX9, "lowest", "(JJI)J"⟩
abbrev cX9_isText : ByteArray := prog_11_method_7_code
def yX9_isText : MethodName := ⟨RX9, "isText", "(I)Z"⟩
abbrev cX9_isHour : ByteArray := prog_11_method_8_code
def yX9_isHour : MethodName := ⟨RX9, "isHour", "(I)Z"⟩
abbrev cX9_isTwo : ByteArray := prog_11_method_9_code
def yX9_isTwo : MethodName := ⟨RX9, "isTwo", "(I)Z"⟩
abbrev cX9_isThree : ByteArray := prog_11_method_10_code
def yX9_isThree : MethodName := ⟨RX9, "isThree", "(I)Z"⟩
abbrev cX9_isEight : ByteArray := prog_11_method_11_code
def yX9_isEight : MethodName := ⟨RX9, "isEight", "(I)Z"⟩
abbrev cX9_type : ByteArray := prog_11_method_12_code
def yX9_type : MethodName := ⟨RX9, "type", "(II)I"⟩
abbrev cX9_wipe : ByteArray := prog_11_method_13_code
def yX9_wipe : MethodName := ⟨RX9, "wipe", "(I)I"⟩
abbrev cX9_undo : ByteArray := prog_11_method_14_code
def yX9_undo : MethodName := ⟨RX9, "undo", "(I)I"⟩
abbrev cX9_byteAt : ByteArray := prog_11_method_15_code
def yX9_byteAt : MethodName := ⟨RX9, "byteAt", "(II)I"⟩
abbrev cX9_readsDoor : ByteArray := prog_11_method_16_code
def yX9_readsDoor : MethodName := ⟨RX9, "readsDoor", "(II)I"⟩
abbrev cX9_readsPerson : ByteArray := prog_11_method_17_code
def yX9_readsPerson : MethodName := ⟨RX9, "readsPerson", "(II)I"⟩
abbrev cX9_readsParts : ByteArray := prog_11_method_18_code
def yX9_readsParts : MethodName := ⟨RX9, "readsParts", "(I)I"⟩
abbrev cX9_faultOf : ByteArray := prog_11_method_19_code
def yX9_faultOf : MethodName := ⟨RX9, "faultOf", "(I)I"⟩
abbrev cX9_reads : ByteArray := prog_11_method_20_code
def yX9_reads : MethodName := ⟨RX9, "reads", "()V"⟩
abbrev cX9_fault : ByteArray := prog_11_method_21_code
def yX9_fault : MethodName := ⟨RX9, "fault", "(I)I"⟩
abbrev cX9_isDoor : ByteArray := prog_11_method_22_code
def yX9_isDoor : MethodName := ⟨RX9, "isDoor", "(I)Z"⟩
abbrev cX9_isPerson : ByteArray := prog_11_method_23_code
def yX9_isPerson : MethodName := ⟨RX9, "isPerson", "(I)Z"⟩
abbrev cX9_doorOf : ByteArray := prog_11_method_24_code
def yX9_doorOf : MethodName := ⟨RX9, "doorOf", "(II)I"⟩
abbrev cX9_door : ByteArray := prog_11_method_25_code
def yX9_door : MethodName := ⟨RX9, "door", "(II)I"⟩
abbrev cX9_personOf : ByteArray := prog_11_method_26_code
def yX9_personOf : MethodName := ⟨RX9, "personOf", "(II)I"⟩
abbrev cX9_person : ByteArray := prog_11_method_27_code
def yX9_person : MethodName := ⟨RX9, "person", "(II)I"⟩
abbrev cX9_ahead : ByteArray := prog_11_method_28_code
def yX9_ahead : MethodName := ⟨RX9, "ahead", "(I)I"⟩
abbrev cX9_event : ByteArray := prog_11_method_29_code
def yX9_event : MethodName := ⟨RX9, "event", "(III)I"⟩
abbrev cX9_back : ByteArray := prog_11_method_30_code
def yX9_back : MethodName := ⟨RX9, "back", "()I"⟩
abbrev cX9_read : ByteArray := prog_11_method_31_code
def yX9_read : MethodName := ⟨RX9, "read", "(I)I"⟩
abbrev cX9_asTold : ByteArray := prog_11_method_32_code
def yX9_asTold : MethodName := ⟨RX9, "asTold", "()V"⟩
abbrev cX9_befalls : ByteArray := prog_11_method_33_code
def yX9_befalls : MethodName := ⟨RX9, "befalls", "(I)V"⟩
abbrev cX9_nears : ByteArray := prog_11_method_34_code
def yX9_nears : MethodName := ⟨RX9, "nears", "(IIII)V"⟩
abbrev cX9_measures : ByteArray := prog_11_method_35_code
def yX9_measures : MethodName := ⟨RX9, "measures", "(I)V"⟩
abbrev cX9_isBeside : ByteArray := prog_11_method_36_code
def yX9_isBeside : MethodName := ⟨RX9, "isBeside", "(III)Z"⟩
abbrev cX9_step : ByteArray := prog_11_method_37_code
def yX9_step : MethodName := ⟨RX9, "step", "(III)I"⟩
abbrev cX9_leastChild : ByteArray := prog_11_method_38_code
def yX9_leastChild : MethodName := ⟨RX9, "leastChild", "()I"⟩
abbrev cX9_goesThrough : ByteArray := prog_11_method_39_code
def yX9_goesThrough : MethodName := ⟨RX9, "goesThrough", "(II)V"⟩
abbrev cX9_runs : ByteArray := prog_11_method_40_code
def yX9_runs : MethodName := ⟨RX9, "runs", "()V"⟩
abbrev cX9_runsTold : ByteArray := prog_11_method_41_code
def yX9_runsTold : MethodName := ⟨RX9, "runsTold", "()V"⟩
abbrev cX9_atOf : ByteArray := prog_11_method_42_code
def yX9_atOf : MethodName := ⟨RX9, "atOf", "(III)I"⟩
abbrev cX9_at : ByteArray := prog_11_method_43_code
def yX9_at : MethodName := ⟨RX9, "at", "(III)I"⟩
abbrev cX9_inRoom : ByteArray := prog_11_method_44_code
def yX9_inRoom : MethodName := ⟨RX9, "inRoom", "(II)I"⟩
abbrev cX9_roomOf : ByteArray := prog_11_method_45_code
def yX9_roomOf : MethodName := ⟨RX9, "roomOf", "(II)I"⟩
abbrev cX9_room : ByteArray := prog_11_method_46_code
def yX9_room : MethodName := ⟨RX9, "room", "(II)I"⟩
abbrev cX9_farOf : ByteArray := prog_11_method_47_code
def yX9_farOf : MethodName := ⟨RX9, "farOf", "(III)I"⟩
abbrev cX9_far : ByteArray := prog_11_method_48_code
def yX9_far : MethodName := ⟨RX9, "far", "(III)I"⟩
abbrev cX9_metOf : ByteArray := prog_11_method_49_code
def yX9_metOf : MethodName := ⟨RX9, "metOf", "(II)I"⟩
abbrev cX9_meet : ByteArray := prog_11_method_50_code
def yX9_meet : MethodName := ⟨RX9, "meet", "(II)I"⟩
abbrev cX9_emptyNow : ByteArray := prog_11_method_51_code
def yX9_emptyNow : MethodName := ⟨RX9, "emptyNow", "(I)I"⟩
abbrev cX9_emptyOf : ByteArray := prog_11_method_52_code
def yX9_emptyOf : MethodName := ⟨RX9, "emptyOf", "(I)I"⟩
abbrev cX9_empty : ByteArray := prog_11_method_53_code
def yX9_empty : MethodName := ⟨RX9, "empty", "(I)I"⟩
abbrev cX9_foundNow : ByteArray := prog_11_method_54_code
def yX9_foundNow : MethodName := ⟨RX9, "foundNow", "(I)I"⟩
abbrev cX9_foundOf : ByteArray := prog_11_method_55_code
def yX9_foundOf : MethodName := ⟨RX9, "foundOf", "(I)I"⟩
abbrev cX9_found : ByteArray := prog_11_method_56_code
def yX9_found : MethodName := ⟨RX9, "found", "(I)I"⟩
abbrev cX9_many : ByteArray := prog_11_method_57_code
def yX9_many : MethodName := ⟨RX9, "many", "(I)I"⟩
abbrev cX9_crowdOf : ByteArray := prog_11_method_58_code
def yX9_crowdOf : MethodName := ⟨RX9, "crowdOf", "(I)I"⟩
abbrev cX9_crowd : ByteArray := prog_11_method_59_code
def yX9_crowd : MethodName := ⟨RX9, "crowd", "(I)I"⟩
abbrev cX9_isByItself : ByteArray := prog_11_method_60_code
def yX9_isByItself : MethodName := ⟨RX9, "isByItself", "(II)Z"⟩
abbrev cX9_aloneNow : ByteArray := prog_11_method_61_code
def yX9_aloneNow : MethodName := ⟨RX9, "aloneNow", "()I"⟩
abbrev cX9_aloneOf : ByteArray := prog_11_method_62_code
def yX9_aloneOf : MethodName := ⟨RX9, "aloneOf", "()I"⟩
abbrev cX9_alone : ByteArray := prog_11_method_63_code
def yX9_alone : MethodName := ⟨RX9, "alone", "()I"⟩
abbrev cX9_hoursByItself : ByteArray := prog_11_method_64_code
def yX9_hoursByItself : MethodName := ⟨RX9, "hoursByItself", "(I)I"⟩
abbrev cX9_sleepOf : ByteArray := prog_11_method_65_code
def yX9_sleepOf : MethodName := ⟨RX9, "sleepOf", "(II)I"⟩
abbrev cX9_sleep : ByteArray := prog_11_method_66_code
def yX9_sleep : MethodName := ⟨RX9, "sleep", "(II)I"⟩
abbrev cX9_mostAt : ByteArray := prog_11_method_67_code
def yX9_mostAt : MethodName := ⟨RX9, "mostAt", "(I)I"⟩
abbrev cX9_niceOf : ByteArray := prog_11_method_68_code
def yX9_niceOf : MethodName := ⟨RX9, "niceOf", "(II)I"⟩
abbrev cX9_nice : ByteArray := prog_11_method_69_code
def yX9_nice : MethodName := ⟨RX9, "nice", "(II)I"⟩
abbrev cX9_lensOf : ByteArray := prog_11_method_70_code
def yX9_lensOf : MethodName := ⟨RX9, "lensOf", "(I)I"⟩
abbrev cX9_lens : ByteArray := prog_11_method_71_code
def yX9_lens : MethodName := ⟨RX9, "lens", "(I)I"⟩
abbrev cX9_isSpared : ByteArray := prog_11_method_72_code
def yX9_isSpared : MethodName := ⟨RX9, "isSpared", "(I)Z"⟩
abbrev cX9_spareBy : ByteArray := prog_11_method_73_code
def yX9_spareBy : MethodName := ⟨RX9, "spareBy", "()I"⟩
abbrev cX9_ofRow : ByteArray := prog_11_method_74_code
def yX9_ofRow : MethodName := ⟨RX9, "ofRow", "(II)I"⟩
abbrev cX9_spare : ByteArray := prog_11_method_75_code
def yX9_spare : MethodName := ⟨RX9, "spare", "(I)I"⟩
abbrev cX9_seen : ByteArray := prog_11_method_76_code
def yX9_seen : MethodName := ⟨RX9, "seen", "(III)I"⟩
abbrev cX9_forget : ByteArray := prog_11_method_77_code
def yX9_forget : MethodName := ⟨RX9, "forget", "()I"⟩
abbrev cX9_isSeen : ByteArray := prog_11_method_78_code
def yX9_isSeen : MethodName := ⟨RX9, "isSeen", "()Z"⟩
abbrev cX9_neverNow : ByteArray := prog_11_method_79_code
def yX9_neverNow : MethodName := ⟨RX9, "neverNow", "()I"⟩
abbrev cX9_never : ByteArray := prog_11_method_80_code
def yX9_never : MethodName := ⟨RX9, "never", "()I"⟩
abbrev cX9_sortsBy : ByteArray := prog_11_method_81_code
def yX9_sortsBy : MethodName := ⟨RX9, "sortsBy", "(I)I"⟩
abbrev cX9_bedsBy : ByteArray := prog_11_method_82_code
def yX9_bedsBy : MethodName := ⟨RX9, "bedsBy", "(I)I"⟩
abbrev cX9_was : ByteArray := prog_11_method_83_code
def yX9_was : MethodName := ⟨RX9, "was", "(II)I"⟩
abbrev cX9_askOf : ByteArray := prog_11_method_84_code
def yX9_askOf : MethodName := ⟨RX9, "askOf", "(I)I"⟩
abbrev cX9_ask : ByteArray := prog_11_method_85_code
def yX9_ask : MethodName := ⟨RX9, "ask", "(I)I"⟩
abbrev cX9_chanceOf : ByteArray := prog_11_method_86_code
def yX9_chanceOf : MethodName := ⟨RX9, "chanceOf", "(IIII)J"⟩
abbrev cX9_chance : ByteArray := prog_11_method_87_code
def yX9_chance : MethodName := ⟨RX9, "chance", "(IIII)J"⟩
abbrev cX9_weeksOf : ByteArray := prog_11_method_88_code
def yX9_weeksOf : MethodName := ⟨RX9, "weeksOf", "(III)I"⟩
abbrev cX9_weeks : ByteArray := prog_11_method_89_code
def yX9_weeks : MethodName := ⟨RX9, "weeks", "(III)I"⟩
abbrev cX9_meets : ByteArray := prog_11_method_90_code
def yX9_meets : MethodName := ⟨RX9, "meets", "(I)I"⟩
abbrev cX9_isSheet : ByteArray := prog_11_method_91_code
def yX9_isSheet : MethodName := ⟨RX9, "isSheet", "(I)Z"⟩
abbrev cX9_sheet : ByteArray := prog_11_method_92_code
def yX9_sheet : MethodName := ⟨RX9, "sheet", "(III)I"⟩
abbrev cX9_lose : ByteArray := prog_11_method_93_code
def yX9_lose : MethodName := ⟨RX9, "lose", "(I)I"⟩
abbrev cX9_lacks : ByteArray := prog_11_method_94_code
def yX9_lacks : MethodName := ⟨RX9, "lacks", "(III)I"⟩
abbrev cX9_keep : ByteArray := prog_11_method_95_code
def yX9_keep : MethodName := ⟨RX9, "keep", "(III)V"⟩
abbrev cX9_put : ByteArray := prog_11_method_96_code
def yX9_put : MethodName := ⟨RX9, "put", "(IIII)I"⟩
abbrev cX9_get : ByteArray := prog_11_method_97_code
def yX9_get : MethodName := ⟨RX9, "get", "(III)I"⟩
abbrev cX9_copy : ByteArray := prog_11_method_98_code
def yX9_copy : MethodName := ⟨RX9, "copy", "(IIIII)I"⟩
abbrev cX9_write : ByteArray := prog_11_method_99_code
def yX9_write : MethodName := ⟨RX9, "write", "(II)I"⟩
abbrev cX9_sumOf : ByteArray := prog_11_method_100_code
def yX9_sumOf : MethodName := ⟨RX9, "sumOf", "(I)I"⟩
abbrev cX9_count : ByteArray := prog_11_method_101_code
def yX9_count : MethodName := ⟨RX9, "count", "(I)I"⟩
abbrev cX9_hourDigest : ByteArray := prog_11_method_102_code
def yX9_hourDigest : MethodName := ⟨RX9, "hourDigest", "(JII)J"⟩
abbrev cX9_personDigest : ByteArray := prog_11_method_103_code
def yX9_personDigest : MethodName := ⟨RX9, "personDigest", "(JI)J"⟩
abbrev cX9_digest : ByteArray := prog_11_method_104_code
def yX9_digest : MethodName := ⟨RX9, "digest", "()J"⟩
def RJ6 : String := "java/lang/Integer"
abbrev cJ6_bitCount_0f7a4 : ByteArray := prog_12_method_49_code
def yJ6_bitCount_0f7a4 : MethodName := ⟨RJ6, "bitCount", "(I)I"⟩
def RJ9 : String := "java/lang/Math"
abbrev cJ9_max_7cf53 : ByteArray := prog_13_method_65_code
def yJ9_max_7cf53 : MethodName := ⟨RJ9, "max", "(II)I"⟩
abbrev cJ9_min_7cf53 : ByteArray := prog_13_method_69_code
def yJ9_min_7cf53 : MethodName := ⟨RJ9, "min", "(II)I"⟩
def RJ10 : String := "java/lang/System"
def RJ7 : String := "java/util/Arrays"
abbrev cJ7_fill_d0a16 : ByteArray := prog_15_method_101_code
def yJ7_fill_d0a16 : MethodName := ⟨RJ7, "fill", "([JJ)V"⟩
abbrev cJ7_fill_53178 : ByteArray := prog_15_method_103_code
def yJ7_fill_53178 : MethodName := ⟨RJ7, "fill", "([II)V"⟩
def RL : String := "DollsAheadLaw"
abbrev cL_law : ByteArray := code
abbrev vwCl : List vw_C := [(RX0, TX0, 9), (RX1, TX1, 4), (RX2, TX2, 1), (RX3, TX3, 9), (RX4, TX4, 3), (RX5, TX5, 4), (RX7, TX7, 14), (RX8, TX8, 17), (RX9, TX9, 37)]
theorem zq_in0 : ∀ w ∈ wsX00, w ∈ lw_tbl := by decide +kernel
theorem zq_in1 : ∀ w ∈ wsX10, w ∈ lw_tbl := by decide +kernel
theorem zq_in2 : ∀ w ∈ wsX20, w ∈ lw_tbl := by decide +kernel
theorem zq_in3 : ∀ w ∈ wsX30, w ∈ lw_tbl := by decide +kernel
theorem zq_in4 : ∀ w ∈ wsX40, w ∈ lw_tbl := by decide +kernel
theorem zq_in5 : ∀ w ∈ wsX50, w ∈ lw_tbl := by decide +kernel
theorem zq_in7 : ∀ w ∈ wsX70, w ∈ lw_tbl := by decide +kernel
theorem zq_in8 : ∀ w ∈ wsX80, w ∈ lw_tbl := by decide +kernel
theorem zq_in9 : ∀ w ∈ wsX90, w ∈ lw_tbl := by decide +kernel
/-! the world: which cells there are (0 an object of a class with its fields: 0 an int, 1 a reference that may change, n + 2 the cell n for good; 1 ints, 2 longs, 3 booleans, 4 references; 5 the script) -/
def zq_shape : List (Nat × Nat × List Nat) := [(0, 7, [3, 8, 13, 17, 21, 22, 26, 35, 42, 49, 50, 51, 0, 0, 0, 0, 0]), (0, 0, [4, 0, 0, 0, 0, 0, 5, 6, 7]), (1, 35, []), (1, 12, []), (1, 12, []), (1, 8, []), (0, 3, [9, 0, 0, 0, 0, 0, 10, 11, 12]), (1, 35, []), (1, 8, []), (1, 8, []), (1, 8, []), (0, 1, [14, 15, 16, 0]), (1, 9, []), (1, 9, []), (1, 9, []), (0, 1, [18, 19, 20, 0]), (1, 9, []), (1, 9, []), (1, 9, []), (0, 2, [0]), (0, 5, [23, 24, 25, 0]), (1, 8, []), (1, 8, []), (1, 8, []), (4, 4, [25, 27, 29, 31]), (0, 4, [28, 0, 0]), (1, 60, []), (0, 4, [30, 0, 0]), (1, 60, []), (0, 4, [32, 0, 0]), (1, 60, []), (0, 4, [34, 0, 0]), (1, 60, []), (0, 6, [3, 8, 36, 37, 38, 39, 40, 41, 1, 0, 0, 0, 0, 0]), (1, 192, []), (1, 24, []), (1, 24, []), (1, 24, []), (1, 576, []), (1, 9, []), (0, 6, [3, 8, 43, 44, 45, 46, 47, 48, 1, 0, 0, 0, 0, 0]), (1, 192, []), (1, 24, []), (1, 24, []), (1, 24, []), (1, 576, []), (1, 9, []), (1, 192, []), (1, 8, []), (2, 8, []), (0, 8, [53, 54, 0, 55, 56, 0, 57, 58, 59, 0, 0, 60, 61, 62, 0, 0, 63, 64, 65, 0, 0, 0, 66, 67, 68, 69, 0, 70, 71, 72, 73, 74, 75, 76, 77, 78, 0]), (1, 2, []), (1, 70, []), (1, 13, []), (1, 13, []), (1, 9, []), (1, 9, []), (1, 9, []), (1, 9, []), (1, 9, []), (1, 9, []), (1, 9, []), (1, 9, []), (1, 9, []), (1, 24, []), (1, 1536, []), (1, 192, []), (1, 2, []), (1, 8, []), (1, 8, []), (1, 8, []), (1, 192, []), (3, 4, []), (1, 4, []), (1, 4, []), (1, 240, []), (1, 60, []), (5, 0, [])]
abbrev zq_nC : Nat := 77
