section
-- ===== PART A: goes FIRST, ahead of the names: the tables' words, and 'selects' of the private methods out of them =====
/-- a private method of a class that the tables say can be made, by its rows of tables_1 -/
def lw_okq (q : MethodName × Nat) : Prop := (q.1.cls ≠ "java/lang/invoke/MethodHandle" ∧ q.1.cls ≠ "java/lang/invoke/VarHandle") ∧ Cond.instantiable q.1.cls q.2 ∈ tables_1 ∧ Cond.privateMethod q.1 ∈ tables_1 ∧ Cond.instanceMethod q.1 ∈ tables_1
theorem lw_p0 : lw_okq (⟨"SlipSearch$History", "dropOldest", "()V"⟩, 2) := ⟨⟨by decide +kernel, by decide +kernel⟩, List.mem_of_getElem? (i := 54) (by decide +kernel), List.mem_of_getElem? (i := 198) (by decide +kernel), List.mem_of_getElem? (i := 199) (by decide +kernel)⟩
theorem lw_p1 : lw_okq (⟨"SlipSearch$Search", "openColumns", "(LSlipSearch$State;LSlipSearch$Pattern;)V"⟩, 8) := ⟨⟨by decide +kernel, by decide +kernel⟩, List.mem_of_getElem? (i := 115) (by decide +kernel), List.mem_of_getElem? (i := 247) (by decide +kernel), List.mem_of_getElem? (i := 248) (by decide +kernel)⟩
theorem lw_p2 : lw_okq (⟨"SlipSearch$Search", "noteEnd", "(LSlipSearch$State;LSlipSearch$Pattern;I)V"⟩, 8) := ⟨⟨by decide +kernel, by decide +kernel⟩, List.mem_of_getElem? (i := 115) (by decide +kernel), List.mem_of_getElem? (i := 255) (by decide +kernel), List.mem_of_getElem? (i := 256) (by decide +kernel)⟩
theorem lw_p3 : lw_okq (⟨"SlipSearch$Search", "fewestInColumns", "(LSlipSearch$State;LSlipSearch$Pattern;)I"⟩, 8) := ⟨⟨by decide +kernel, by decide +kernel⟩, List.mem_of_getElem? (i := 115) (by decide +kernel), List.mem_of_getElem? (i := 259) (by decide +kernel), List.mem_of_getElem? (i := 260) (by decide +kernel)⟩
theorem lw_p4 : lw_okq (⟨"SlipSearch$Search", "stepColumns", "(LSlipSearch$State;LSlipSearch$Pattern;I)V"⟩, 8) := ⟨⟨by decide +kernel, by decide +kernel⟩, List.mem_of_getElem? (i := 115) (by decide +kernel), List.mem_of_getElem? (i := 263) (by decide +kernel), List.mem_of_getElem? (i := 264) (by decide +kernel)⟩
theorem lw_p5 : lw_okq (⟨"SlipSearch$Search", "noteBeginning", "(LSlipSearch$Pattern;I)V"⟩, 8) := ⟨⟨by decide +kernel, by decide +kernel⟩, List.mem_of_getElem? (i := 115) (by decide +kernel), List.mem_of_getElem? (i := 284) (by decide +kernel), List.mem_of_getElem? (i := 285) (by decide +kernel)⟩
theorem lw_p6 : lw_okq (⟨"SlipSearch$Search", "stepKeys", "(LSlipSearch$State;LSlipSearch$Pattern;I)V"⟩, 8) := ⟨⟨by decide +kernel, by decide +kernel⟩, List.mem_of_getElem? (i := 115) (by decide +kernel), List.mem_of_getElem? (i := 288) (by decide +kernel), List.mem_of_getElem? (i := 289) (by decide +kernel)⟩
theorem lw_p7 : lw_okq (⟨"SlipSearch$PatternReader", "accepts", "(C)Z"⟩, 7) := ⟨⟨by decide +kernel, by decide +kernel⟩, List.mem_of_getElem? (i := 86) (by decide +kernel), List.mem_of_getElem? (i := 318) (by decide +kernel), List.mem_of_getElem? (i := 319) (by decide +kernel)⟩
theorem lw_p8 : lw_okq (⟨"SlipSearch$PatternReader", "acceptsBeginning", "(C)Z"⟩, 7) := ⟨⟨by decide +kernel, by decide +kernel⟩, List.mem_of_getElem? (i := 86) (by decide +kernel), List.mem_of_getElem? (i := 322) (by decide +kernel), List.mem_of_getElem? (i := 323) (by decide +kernel)⟩
theorem lw_p9 : lw_okq (⟨"SlipSearch$PatternReader", "acceptsPlace", "(C)Z"⟩, 7) := ⟨⟨by decide +kernel, by decide +kernel⟩, List.mem_of_getElem? (i := 86) (by decide +kernel), List.mem_of_getElem? (i := 326) (by decide +kernel), List.mem_of_getElem? (i := 327) (by decide +kernel)⟩
theorem lw_p10 : lw_okq (⟨"SlipSearch$PatternReader", "addPlace", "(I)V"⟩, 7) := ⟨⟨by decide +kernel, by decide +kernel⟩, List.mem_of_getElem? (i := 86) (by decide +kernel), List.mem_of_getElem? (i := 331) (by decide +kernel), List.mem_of_getElem? (i := 332) (by decide +kernel)⟩
theorem lw_p11 : lw_okq (⟨"SlipSearch$PatternReader", "acceptsFirstOfSet", "(C)Z"⟩, 7) := ⟨⟨by decide +kernel, by decide +kernel⟩, List.mem_of_getElem? (i := 86) (by decide +kernel), List.mem_of_getElem? (i := 337) (by decide +kernel), List.mem_of_getElem? (i := 338) (by decide +kernel)⟩
theorem lw_p12 : lw_okq (⟨"SlipSearch$PatternReader", "acceptsLetterOfSet", "(C)Z"⟩, 7) := ⟨⟨by decide +kernel, by decide +kernel⟩, List.mem_of_getElem? (i := 86) (by decide +kernel), List.mem_of_getElem? (i := 341) (by decide +kernel), List.mem_of_getElem? (i := 342) (by decide +kernel)⟩
theorem lw_p13 : lw_okq (⟨"SlipSearch$PatternReader", "acceptsRestOfSet", "(C)Z"⟩, 7) := ⟨⟨by decide +kernel, by decide +kernel⟩, List.mem_of_getElem? (i := 86) (by decide +kernel), List.mem_of_getElem? (i := 345) (by decide +kernel), List.mem_of_getElem? (i := 346) (by decide +kernel)⟩
theorem lw_p14 : lw_okq (⟨"SlipSearch$Way", "stepWays", "(LSlipSearch$State;LSlipSearch$Pattern;I)V"⟩, 1) := ⟨⟨by decide +kernel, by decide +kernel⟩, List.mem_of_getElem? (i := 149) (by decide +kernel), List.mem_of_getElem? (i := 491) (by decide +kernel), List.mem_of_getElem? (i := 492) (by decide +kernel)⟩
theorem lw_p15 : lw_okq (⟨"SlipSearch", "countAllEnds", "()I"⟩, 8) := ⟨⟨by decide +kernel, by decide +kernel⟩, List.mem_of_getElem? (i := 15) (by decide +kernel), List.mem_of_getElem? (i := 523) (by decide +kernel), List.mem_of_getElem? (i := 524) (by decide +kernel)⟩
def lw_privs_1 : List (MethodName × Nat) := [(⟨"SlipSearch$History", "dropOldest", "()V"⟩, 2), (⟨"SlipSearch$Search", "openColumns", "(LSlipSearch$State;LSlipSearch$Pattern;)V"⟩, 8), (⟨"SlipSearch$Search", "noteEnd", "(LSlipSearch$State;LSlipSearch$Pattern;I)V"⟩, 8), (⟨"SlipSearch$Search", "fewestInColumns", "(LSlipSearch$State;LSlipSearch$Pattern;)I"⟩, 8), (⟨"SlipSearch$Search", "stepColumns", "(LSlipSearch$State;LSlipSearch$Pattern;I)V"⟩, 8), (⟨"SlipSearch$Search", "noteBeginning", "(LSlipSearch$Pattern;I)V"⟩, 8), (⟨"SlipSearch$Search", "stepKeys", "(LSlipSearch$State;LSlipSearch$Pattern;I)V"⟩, 8), (⟨"SlipSearch$PatternReader", "accepts", "(C)Z"⟩, 7), (⟨"SlipSearch$PatternReader", "acceptsBeginning", "(C)Z"⟩, 7), (⟨"SlipSearch$PatternReader", "acceptsPlace", "(C)Z"⟩, 7), (⟨"SlipSearch$PatternReader", "addPlace", "(I)V"⟩, 7), (⟨"SlipSearch$PatternReader", "acceptsFirstOfSet", "(C)Z"⟩, 7), (⟨"SlipSearch$PatternReader", "acceptsLetterOfSet", "(C)Z"⟩, 7), (⟨"SlipSearch$PatternReader", "acceptsRestOfSet", "(C)Z"⟩, 7), (⟨"SlipSearch$Way", "stepWays", "(LSlipSearch$State;LSlipSearch$Pattern;I)V"⟩, 1), (⟨"SlipSearch", "countAllEnds", "()I"⟩, 8)]
theorem lw_r1 : ∀ q ∈ lw_privs_1, lw_okq q := List.forall_mem_cons.mpr ⟨lw_p0, List.forall_mem_cons.mpr ⟨lw_p1, List.forall_mem_cons.mpr ⟨lw_p2, List.forall_mem_cons.mpr ⟨lw_p3, List.forall_mem_cons.mpr ⟨lw_p4, List.forall_mem_cons.mpr ⟨lw_p5, List.forall_mem_cons.mpr ⟨lw_p6, List.forall_mem_cons.mpr ⟨lw_p7, List.forall_mem_cons.mpr ⟨lw_p8, List.forall_mem_cons.mpr ⟨lw_p9, List.forall_mem_cons.mpr ⟨lw_p10, List.forall_mem_cons.mpr ⟨lw_p11, List.forall_mem_cons.mpr ⟨lw_p12, List.forall_mem_cons.mpr ⟨lw_p13, List.forall_mem_cons.mpr ⟨lw_p14, List.forall_mem_cons.mpr ⟨lw_p15, fun _ h => absurd h List.not_mem_nil⟩⟩⟩⟩⟩⟩⟩⟩⟩⟩⟩⟩⟩⟩⟩⟩
theorem lw_p16 : lw_okq (⟨"SlipSearch", "countPlacesWithEnds", "()I"⟩, 8) := ⟨⟨by decide +kernel, by decide +kernel⟩, List.mem_of_getElem? (i := 15) (by decide +kernel), List.mem_of_getElem? (i := 527) (by decide +kernel), List.mem_of_getElem? (i := 528) (by decide +kernel)⟩
theorem lw_p17 : lw_okq (⟨"SlipSearchModel", "remember", "()V"⟩, 21) := ⟨⟨by decide +kernel, by decide +kernel⟩, List.mem_of_getElem? (i := 547) (by decide +kernel), List.mem_of_getElem? (i := 629) (by decide +kernel), List.mem_of_getElem? (i := 630) (by decide +kernel)⟩
theorem lw_p18 : lw_okq (⟨"SlipSearchModel", "writes", "(I)V"⟩, 21) := ⟨⟨by decide +kernel, by decide +kernel⟩, List.mem_of_getElem? (i := 547) (by decide +kernel), List.mem_of_getElem? (i := 633) (by decide +kernel), List.mem_of_getElem? (i := 634) (by decide +kernel)⟩
theorem lw_p19 : lw_okq (⟨"SlipSearchModel", "acted", "(I)I"⟩, 21) := ⟨⟨by decide +kernel, by decide +kernel⟩, List.mem_of_getElem? (i := 547) (by decide +kernel), List.mem_of_getElem? (i := 637) (by decide +kernel), List.mem_of_getElem? (i := 638) (by decide +kernel)⟩
theorem lw_p20 : lw_okq (⟨"SlipSearchModel", "isPattern", "(I)Z"⟩, 21) := ⟨⟨by decide +kernel, by decide +kernel⟩, List.mem_of_getElem? (i := 547) (by decide +kernel), List.mem_of_getElem? (i := 654) (by decide +kernel), List.mem_of_getElem? (i := 655) (by decide +kernel)⟩
theorem lw_p21 : lw_okq (⟨"SlipSearchModel", "findsEnds", "(IZ)V"⟩, 21) := ⟨⟨by decide +kernel, by decide +kernel⟩, List.mem_of_getElem? (i := 547) (by decide +kernel), List.mem_of_getElem? (i := 658) (by decide +kernel), List.mem_of_getElem? (i := 659) (by decide +kernel)⟩
theorem lw_p22 : lw_okq (⟨"SlipSearchModel", "finds", "(I)V"⟩, 21) := ⟨⟨by decide +kernel, by decide +kernel⟩, List.mem_of_getElem? (i := 547) (by decide +kernel), List.mem_of_getElem? (i := 662) (by decide +kernel), List.mem_of_getElem? (i := 663) (by decide +kernel)⟩
theorem lw_p23 : lw_okq (⟨"SlipSearchModel", "places", "(I)I"⟩, 21) := ⟨⟨by decide +kernel, by decide +kernel⟩, List.mem_of_getElem? (i := 547) (by decide +kernel), List.mem_of_getElem? (i := 666) (by decide +kernel), List.mem_of_getElem? (i := 667) (by decide +kernel)⟩
theorem lw_p24 : lw_okq (⟨"SlipSearchModel", "mayBegin", "(II)Z"⟩, 21) := ⟨⟨by decide +kernel, by decide +kernel⟩, List.mem_of_getElem? (i := 547) (by decide +kernel), List.mem_of_getElem? (i := 670) (by decide +kernel), List.mem_of_getElem? (i := 671) (by decide +kernel)⟩
theorem lw_p25 : lw_okq (⟨"SlipSearchModel", "tries", "(III)V"⟩, 21) := ⟨⟨by decide +kernel, by decide +kernel⟩, List.mem_of_getElem? (i := 547) (by decide +kernel), List.mem_of_getElem? (i := 674) (by decide +kernel), List.mem_of_getElem? (i := 675) (by decide +kernel)⟩
theorem lw_p26 : lw_okq (⟨"SlipSearchModel", "isTaken", "(III)Z"⟩, 21) := ⟨⟨by decide +kernel, by decide +kernel⟩, List.mem_of_getElem? (i := 547) (by decide +kernel), List.mem_of_getElem? (i := 678) (by decide +kernel), List.mem_of_getElem? (i := 679) (by decide +kernel)⟩
theorem lw_p27 : lw_okq (⟨"SlipSearchModel", "taking", "(II)I"⟩, 21) := ⟨⟨by decide +kernel, by decide +kernel⟩, List.mem_of_getElem? (i := 547) (by decide +kernel), List.mem_of_getElem? (i := 682) (by decide +kernel), List.mem_of_getElem? (i := 683) (by decide +kernel)⟩
theorem lw_p28 : lw_okq (⟨"SlipSearchModel", "beginOf", "(II)I"⟩, 21) := ⟨⟨by decide +kernel, by decide +kernel⟩, List.mem_of_getElem? (i := 547) (by decide +kernel), List.mem_of_getElem? (i := 686) (by decide +kernel), List.mem_of_getElem? (i := 687) (by decide +kernel)⟩
theorem lw_p29 : lw_okq (⟨"SlipSearchModel", "fault", "()I"⟩, 21) := ⟨⟨by decide +kernel, by decide +kernel⟩, List.mem_of_getElem? (i := 547) (by decide +kernel), List.mem_of_getElem? (i := 702) (by decide +kernel), List.mem_of_getElem? (i := 703) (by decide +kernel)⟩
theorem lw_p30 : lw_okq (⟨"SlipSearchModel", "takesOne", "(I)Z"⟩, 21) := ⟨⟨by decide +kernel, by decide +kernel⟩, List.mem_of_getElem? (i := 547) (by decide +kernel), List.mem_of_getElem? (i := 706) (by decide +kernel), List.mem_of_getElem? (i := 707) (by decide +kernel)⟩
theorem lw_p31 : lw_okq (⟨"SlipSearchModel", "isHere", "(II)Z"⟩, 21) := ⟨⟨by decide +kernel, by decide +kernel⟩, List.mem_of_getElem? (i := 547) (by decide +kernel), List.mem_of_getElem? (i := 710) (by decide +kernel), List.mem_of_getElem? (i := 711) (by decide +kernel)⟩
def lw_privs_2 : List (MethodName × Nat) := [(⟨"SlipSearch", "countPlacesWithEnds", "()I"⟩, 8), (⟨"SlipSearchModel", "remember", "()V"⟩, 21), (⟨"SlipSearchModel", "writes", "(I)V"⟩, 21), (⟨"SlipSearchModel", "acted", "(I)I"⟩, 21), (⟨"SlipSearchModel", "isPattern", "(I)Z"⟩, 21), (⟨"SlipSearchModel", "findsEnds", "(IZ)V"⟩, 21), (⟨"SlipSearchModel", "finds", "(I)V"⟩, 21), (⟨"SlipSearchModel", "places", "(I)I"⟩, 21), (⟨"SlipSearchModel", "mayBegin", "(II)Z"⟩, 21), (⟨"SlipSearchModel", "tries", "(III)V"⟩, 21), (⟨"SlipSearchModel", "isTaken", "(III)Z"⟩, 21), (⟨"SlipSearchModel", "taking", "(II)I"⟩, 21), (⟨"SlipSearchModel", "beginOf", "(II)I"⟩, 21), (⟨"SlipSearchModel", "fault", "()I"⟩, 21), (⟨"SlipSearchModel", "takesOne", "(I)Z"⟩, 21), (⟨"SlipSearchModel", "isHere", "(II)Z"⟩, 21)]
theorem lw_r2 : ∀ q ∈ lw_privs_2, lw_okq q := List.forall_mem_cons.mpr ⟨lw_p16, List.forall_mem_cons.mpr ⟨lw_p17, List.forall_mem_cons.mpr ⟨lw_p18, List.forall_mem_cons.mpr ⟨lw_p19, List.forall_mem_cons.mpr ⟨lw_p20, List.forall_mem_cons.mpr ⟨lw_p21, List.forall_mem_cons.mpr ⟨lw_p22, List.forall_mem_cons.mpr ⟨lw_p23, List.forall_mem_cons.mpr ⟨lw_p24, List.forall_mem_cons.mpr ⟨lw_p25, List.forall_mem_cons.mpr ⟨lw_p26, List.forall_mem_cons.mpr ⟨lw_p27, List.forall_mem_cons.mpr ⟨lw_p28, List.forall_mem_cons.mpr ⟨lw_p29, List.forall_mem_cons.mpr ⟨lw_p30, List.forall_mem_cons.mpr ⟨lw_p31, fun _ h => absurd h List.not_mem_nil⟩⟩⟩⟩⟩⟩⟩⟩⟩⟩⟩⟩⟩⟩⟩⟩
theorem lw_p32 : lw_okq (⟨"SlipSearchModel", "readsPlace", "()Z"⟩, 21) := ⟨⟨by decide +kernel, by decide +kernel⟩, List.mem_of_getElem? (i := 547) (by decide +kernel), List.mem_of_getElem? (i := 714) (by decide +kernel), List.mem_of_getElem? (i := 715) (by decide +kernel)⟩
theorem lw_p33 : lw_okq (⟨"SlipSearchModel", "readsSet", "()Z"⟩, 21) := ⟨⟨by decide +kernel, by decide +kernel⟩, List.mem_of_getElem? (i := 547) (by decide +kernel), List.mem_of_getElem? (i := 718) (by decide +kernel), List.mem_of_getElem? (i := 719) (by decide +kernel)⟩
theorem lw_p34 : lw_okq (⟨"SlipSearchModel", "reads", "(I)V"⟩, 21) := ⟨⟨by decide +kernel, by decide +kernel⟩, List.mem_of_getElem? (i := 547) (by decide +kernel), List.mem_of_getElem? (i := 723) (by decide +kernel), List.mem_of_getElem? (i := 724) (by decide +kernel)⟩
theorem lw_p35 : lw_okq (⟨"SlipSearchModel", "manyEnds", "(IZ)I"⟩, 21) := ⟨⟨by decide +kernel, by decide +kernel⟩, List.mem_of_getElem? (i := 547) (by decide +kernel), List.mem_of_getElem? (i := 758) (by decide +kernel), List.mem_of_getElem? (i := 759) (by decide +kernel)⟩
theorem lw_p36 : lw_okq (⟨"SlipSearchModel", "fewestSlips", "(I)I"⟩, 21) := ⟨⟨by decide +kernel, by decide +kernel⟩, List.mem_of_getElem? (i := 547) (by decide +kernel), List.mem_of_getElem? (i := 762) (by decide +kernel), List.mem_of_getElem? (i := 763) (by decide +kernel)⟩
theorem lw_p37 : lw_okq (⟨"SlipSearchModel", "bestRank", "(I)I"⟩, 21) := ⟨⟨by decide +kernel, by decide +kernel⟩, List.mem_of_getElem? (i := 547) (by decide +kernel), List.mem_of_getElem? (i := 766) (by decide +kernel), List.mem_of_getElem? (i := 767) (by decide +kernel)⟩
theorem lw_p38 : lw_okq (⟨"SlipSearchModel", "slipsOf", "(II)I"⟩, 21) := ⟨⟨by decide +kernel, by decide +kernel⟩, List.mem_of_getElem? (i := 547) (by decide +kernel), List.mem_of_getElem? (i := 770) (by decide +kernel), List.mem_of_getElem? (i := 771) (by decide +kernel)⟩
theorem lw_p39 : lw_okq (⟨"SlipSearchModel", "firstBest", "(I)I"⟩, 21) := ⟨⟨by decide +kernel, by decide +kernel⟩, List.mem_of_getElem? (i := 547) (by decide +kernel), List.mem_of_getElem? (i := 774) (by decide +kernel), List.mem_of_getElem? (i := 775) (by decide +kernel)⟩
theorem lw_p40 : lw_okq (⟨"SlipSearchModel", "wildPlaces", "(I)I"⟩, 21) := ⟨⟨by decide +kernel, by decide +kernel⟩, List.mem_of_getElem? (i := 547) (by decide +kernel), List.mem_of_getElem? (i := 778) (by decide +kernel), List.mem_of_getElem? (i := 779) (by decide +kernel)⟩
theorem lw_p41 : lw_okq (⟨"SlipSearchModel", "isPlain", "(I)Z"⟩, 21) := ⟨⟨by decide +kernel, by decide +kernel⟩, List.mem_of_getElem? (i := 547) (by decide +kernel), List.mem_of_getElem? (i := 782) (by decide +kernel), List.mem_of_getElem? (i := 783) (by decide +kernel)⟩
theorem lw_p42 : lw_okq (⟨"SlipSearchModel", "fits", "(III)V"⟩, 21) := ⟨⟨by decide +kernel, by decide +kernel⟩, List.mem_of_getElem? (i := 547) (by decide +kernel), List.mem_of_getElem? (i := 809) (by decide +kernel), List.mem_of_getElem? (i := 810) (by decide +kernel)⟩
theorem lw_p43 : lw_okq (⟨"SlipSearchModel", "goesBack", "(III)V"⟩, 21) := ⟨⟨by decide +kernel, by decide +kernel⟩, List.mem_of_getElem? (i := 547) (by decide +kernel), List.mem_of_getElem? (i := 813) (by decide +kernel), List.mem_of_getElem? (i := 814) (by decide +kernel)⟩
theorem lw_p44 : lw_okq (⟨"SlipSearchModel", "densityOf", "(I)D"⟩, 21) := ⟨⟨by decide +kernel, by decide +kernel⟩, List.mem_of_getElem? (i := 547) (by decide +kernel), List.mem_of_getElem? (i := 821) (by decide +kernel), List.mem_of_getElem? (i := 822) (by decide +kernel)⟩
theorem lw_p45 : lw_okq (⟨"SlipSearchModel", "allEnds", "()I"⟩, 21) := ⟨⟨by decide +kernel, by decide +kernel⟩, List.mem_of_getElem? (i := 547) (by decide +kernel), List.mem_of_getElem? (i := 844) (by decide +kernel), List.mem_of_getElem? (i := 845) (by decide +kernel)⟩
theorem lw_p46 : lw_okq (⟨"SlipSearchModel", "placesOfEnds", "()I"⟩, 21) := ⟨⟨by decide +kernel, by decide +kernel⟩, List.mem_of_getElem? (i := 547) (by decide +kernel), List.mem_of_getElem? (i := 848) (by decide +kernel), List.mem_of_getElem? (i := 849) (by decide +kernel)⟩
theorem lw_p47 : lw_okq (⟨"SlipSearchModel", "blanks", "()I"⟩, 21) := ⟨⟨by decide +kernel, by decide +kernel⟩, List.mem_of_getElem? (i := 547) (by decide +kernel), List.mem_of_getElem? (i := 852) (by decide +kernel), List.mem_of_getElem? (i := 853) (by decide +kernel)⟩
def lw_privs_3 : List (MethodName × Nat) := [(⟨"SlipSearchModel", "readsPlace", "()Z"⟩, 21), (⟨"SlipSearchModel", "readsSet", "()Z"⟩, 21), (⟨"SlipSearchModel", "reads", "(I)V"⟩, 21), (⟨"SlipSearchModel", "manyEnds", "(IZ)I"⟩, 21), (⟨"SlipSearchModel", "fewestSlips", "(I)I"⟩, 21), (⟨"SlipSearchModel", "bestRank", "(I)I"⟩, 21), (⟨"SlipSearchModel", "slipsOf", "(II)I"⟩, 21), (⟨"SlipSearchModel", "firstBest", "(I)I"⟩, 21), (⟨"SlipSearchModel", "wildPlaces", "(I)I"⟩, 21), (⟨"SlipSearchModel", "isPlain", "(I)Z"⟩, 21), (⟨"SlipSearchModel", "fits", "(III)V"⟩, 21), (⟨"SlipSearchModel", "goesBack", "(III)V"⟩, 21), (⟨"SlipSearchModel", "densityOf", "(I)D"⟩, 21), (⟨"SlipSearchModel", "allEnds", "()I"⟩, 21), (⟨"SlipSearchModel", "placesOfEnds", "()I"⟩, 21), (⟨"SlipSearchModel", "blanks", "()I"⟩, 21)]
theorem lw_r3 : ∀ q ∈ lw_privs_3, lw_okq q := List.forall_mem_cons.mpr ⟨lw_p32, List.forall_mem_cons.mpr ⟨lw_p33, List.forall_mem_cons.mpr ⟨lw_p34, List.forall_mem_cons.mpr ⟨lw_p35, List.forall_mem_cons.mpr ⟨lw_p36, List.forall_mem_cons.mpr ⟨lw_p37, List.forall_mem_cons.mpr ⟨lw_p38, List.forall_mem_cons.mpr ⟨lw_p39, List.forall_mem_cons.mpr ⟨lw_p40, List.forall_mem_cons.mpr ⟨lw_p41, List.forall_mem_cons.mpr ⟨lw_p42, List.forall_mem_cons.mpr ⟨lw_p43, List.forall_mem_cons.mpr ⟨lw_p44, List.forall_mem_cons.mpr ⟨lw_p45, List.forall_mem_cons.mpr ⟨lw_p46, List.forall_mem_cons.mpr ⟨lw_p47, fun _ h => absurd h List.not_mem_nil⟩⟩⟩⟩⟩⟩⟩⟩⟩⟩⟩⟩⟩⟩⟩⟩
def lw_privs : List (MethodName × Nat) := lw_privs_1 ++ (lw_privs_2 ++ (lw_privs_3))
def lw_tbl : List Cond := k2_sels lw_privs ++ tables_1
theorem lw_privs_ok : ∀ q ∈ lw_privs, lw_okq q := by
  show ∀ q ∈ lw_privs_1 ++ (lw_privs_2 ++ (lw_privs_3)), lw_okq q
  exact List.forall_mem_append.mpr ⟨lw_r1, List.forall_mem_append.mpr ⟨lw_r2, lw_r3⟩⟩
/-- the streams that the claim lets the run draw from -/
abbrev lw_cs : List Choice := [Jvm.Choice.named "NaN.bits"]
theorem lw_bits : nanBits ∈ lw_cs := by first | decide | exact List.mem_cons_self | simp [lw_cs, nanBits]
end
section
/-! ===== BEGIN words of one list among another's, by their places ===== -/
theorem goodIn_r {big : List Cond} (ws : List Cond) (ps : List Nat) (hp : ws = ps.filterMap (fun i => big[i]?)) (h : ws.all goodWord = true) : GoodIn big ws := by
  intro w hw
  have h1 := List.all_eq_true.mp h w hw
  rw [hp] at hw
  obtain ⟨i, -, hi⟩ := List.mem_filterMap.mp hw
  have hm : w ∈ big := by first | exact List.mem_of_getElem? hi | exact List.getElem?_mem hi
  exact ⟨hm, good_of_word h1⟩
theorem goodIn_app {big a b : List Cond} (ha : GoodIn big a) (hb : GoodIn big b) : GoodIn big (a ++ b) := fun w h => (List.mem_append.mp h).elim (ha w) (hb w)
theorem goodIn_ca {big a b : List Cond} {c : Cond} (ha : GoodIn big (c :: a)) (hb : GoodIn big b) : GoodIn big (c :: (a ++ b)) := fun w h => (List.mem_cons.mp h).elim (fun e => ha w (List.mem_cons.mpr (Or.inl e))) (fun h => (List.mem_append.mp h).elim (fun h => ha w (List.mem_cons.mpr (Or.inr h))) (hb w))
theorem goodIn_sub {big ws : List Cond} (hm : ∀ w ∈ ws, w ∈ big) (h : ws.all goodWord = true) : GoodIn big ws := fun w hw => ⟨hm w hw, good_of_word (List.all_eq_true.mp h w hw)⟩
/-! ===== END ===== -/

/-! ===== BEGIN printed: names, fields, word lists, decode rows ===== -/
def RX0 : String := "SlipSearch$History"
def TX0 : u_T := fun k => match k with
  | 0 => ("SlipSearch$History", "states", "[LSlipSearch$State;", true)
  | _ => ("SlipSearch$History", "count", "I", false)
def tyX0 : Nat → FieldType := fun k => match k with
  | 0 => .array (.object "SlipSearch$State")
  | _ => .int
abbrev wsX00 : List Cond := u_ws RX0 TX0 2
theorem nmX0 : ∀ a, a < 2 → ∀ b, b < 2 → a ≠ b → (TX0 a).2.1 ≠ (TX0 b).2.1 := by decide +kernel
theorem tyX0_ok : ∀ k, k < 2 → parseFieldDescriptor (TX0 k).2.2.1 = some (tyX0 k) := by decide +kernel
abbrev cX0_init : ByteArray := prog_2_method_1_code
def yX0_init : MethodName := ⟨RX0, "<init>", "()V"⟩
abbrev cX0_record : ByteArray := prog_2_method_2_code
def yX0_record : MethodName := ⟨RX0, "record", "(LSlipSearch$State;)V"⟩
abbrev cX0_dropOldest : ByteArray := prog_2_method_3_code
def yX0_dropOldest : MethodName := ⟨RX0, "dropOldest", "()V"⟩
abbrev cX0_takeLatestInto : ByteArray := prog_2_method_4_code
def yX0_takeLatestInto : MethodName := ⟨RX0, "takeLatestInto", "(LSlipSearch$State;)V"⟩
def RX1 : String := "SlipSearch$Pad"
def TX1 : u_T := fun k => match k with
  | 0 => ("SlipSearch$Pad", "typed", "[C", true)
  | _ => ("SlipSearch$Pad", "length", "I", false)
def tyX1 : Nat → FieldType := fun k => match k with
  | 0 => .array .char
  | _ => .int
abbrev wsX10 : List Cond := u_ws RX1 TX1 2
theorem nmX1 : ∀ a, a < 2 → ∀ b, b < 2 → a ≠ b → (TX1 a).2.1 ≠ (TX1 b).2.1 := by decide +kernel
theorem tyX1_ok : ∀ k, k < 2 → parseFieldDescriptor (TX1 k).2.2.1 = some (tyX1 k) := by decide +kernel
abbrev cX1_init : ByteArray := prog_3_method_1_code
def yX1_init : MethodName := ⟨RX1, "<init>", "()V"⟩
abbrev cX1_append : ByteArray := prog_3_method_2_code
def yX1_append : MethodName := ⟨RX1, "append", "(C)V"⟩
abbrev cX1_signAt : ByteArray := prog_3_method_3_code
def yX1_signAt : MethodName := ⟨RX1, "signAt", "(I)C"⟩
abbrev cX1_canBeWritten : ByteArray := prog_3_method_4_code
def yX1_canBeWritten : MethodName := ⟨RX1, "canBeWritten", "()Z"⟩
def RX2 : String := "SlipSearch$Pattern"
def TX2 : u_T := fun k => match k with
  | 0 => ("SlipSearch$Pattern", "places", "[I", true)
  | 1 => ("SlipSearch$Pattern", "placeCount", "I", true)
  | 2 => ("SlipSearch$Pattern", "bound", "Z", true)
  | _ => ("SlipSearch$Pattern", "placesTaking", "[J", true)
def tyX2 : Nat → FieldType := fun k => match k with
  | 0 => .array .int
  | 1 => .int
  | 2 => .boolean
  | _ => .array .long
abbrev wsX20 : List Cond := u_ws RX2 TX2 4
theorem nmX2 : ∀ a, a < 4 → ∀ b, b < 4 → a ≠ b → (TX2 a).2.1 ≠ (TX2 b).2.1 := by decide +kernel
theorem tyX2_ok : ∀ k, k < 4 → parseFieldDescriptor (TX2 k).2.2.1 = some (tyX2 k) := by decide +kernel
abbrev cX2_init : ByteArray := prog_4_method_1_code
def yX2_init : MethodName := ⟨RX2, "<init>", "([IIZ)V"⟩
abbrev cX2_signsOf : ByteArray := prog_4_method_2_code
def yX2_signsOf : MethodName := ⟨RX2, "signsOf", "(I)I"⟩
abbrev cX2_placesThatTake : ByteArray := prog_4_method_3_code
def yX2_placesThatTake : MethodName := ⟨RX2, "placesThatTake", "(C)J"⟩
abbrev cX2_countWild : ByteArray := prog_4_method_4_code
def yX2_countWild : MethodName := ⟨RX2, "countWild", "()I"⟩
abbrev cX2_isPlain : ByteArray := prog_4_method_5_code
def yX2_isPlain : MethodName := ⟨RX2, "isPlain", "()Z"⟩
def RX3 : String := "SlipSearch$PatternReader"
def TX3 : u_T := fun k => match k with
  | 0 => ("SlipSearch$PatternReader", "places", "[I", true)
  | 1 => ("SlipSearch$PatternReader", "placeCount", "I", false)
  | 2 => ("SlipSearch$PatternReader", "bound", "Z", false)
  | 3 => ("SlipSearch$PatternReader", "mode", "I", false)
  | 4 => ("SlipSearch$PatternReader", "turned", "Z", false)
  | 5 => ("SlipSearch$PatternReader", "set", "I", false)
  | _ => ("SlipSearch$PatternReader", "lastOfSet", "C", false)
def tyX3 : Nat → FieldType := fun k => match k with
  | 0 => .array .int
  | 1 => .int
  | 2 => .boolean
  | 3 => .int
  | 4 => .boolean
  | 5 => .int
  | _ => .char
abbrev wsX30 : List Cond := u_ws RX3 TX3 7
theorem nmX3 : ∀ a, a < 7 → ∀ b, b < 7 → a ≠ b → (TX3 a).2.1 ≠ (TX3 b).2.1 := by decide +kernel
theorem tyX3_ok : ∀ k, k < 7 → parseFieldDescriptor (TX3 k).2.2.1 = some (tyX3 k) := by decide +kernel
abbrev cX3_init : ByteArray := prog_5_method_1_code
def yX3_init : MethodName := ⟨RX3, "<init>", "()V"⟩
abbrev cX3_readFault : ByteArray := prog_5_method_2_code
def yX3_readFault : MethodName := ⟨RX3, "readFault", "(LSlipSearch$Pad;)I"⟩
abbrev cX3_makePattern : ByteArray := prog_5_method_3_code
def yX3_makePattern : MethodName := ⟨RX3, "makePattern", "()LSlipSearch$Pattern;"⟩
abbrev cX3_accepts : ByteArray := prog_5_method_4_code
def yX3_accepts : MethodName := ⟨RX3, "accepts", "(C)Z"⟩
abbrev cX3_acceptsBeginning : ByteArray := prog_5_method_5_code
def yX3_acceptsBeginning : MethodName := ⟨RX3, "acceptsBeginning", "(C)Z"⟩
abbrev cX3_acceptsPlace : ByteArray := prog_5_method_6_code
def yX3_acceptsPlace : MethodName := ⟨RX3, "acceptsPlace", "(C)Z"⟩
abbrev cX3_acceptsFirstOfSet : ByteArray := prog_5_method_7_code
def yX3_acceptsFirstOfSet : MethodName := ⟨RX3, "acceptsFirstOfSet", "(C)Z"⟩
abbrev cX3_acceptsLetterOfSet : ByteArray := prog_5_method_8_code
def yX3_acceptsLetterOfSet : MethodName := ⟨RX3, "acceptsLetterOfSet", "(C)Z"⟩
abbrev cX3_acceptsRestOfSet : ByteArray := prog_5_method_9_code
def yX3_acceptsRestOfSet : MethodName := ⟨RX3, "acceptsRestOfSet", "(C)Z"⟩
abbrev cX3_addPlace : ByteArray := prog_5_method_10_code
def yX3_addPlace : MethodName := ⟨RX3, "addPlace", "(I)V"⟩
def RX4 : String := "SlipSearch$Search"
def TX4 : u_T := fun k => match k with
  | 0 => ("SlipSearch$Search", "columns", "[J", true)
  | 1 => ("SlipSearch$Search", "keys", "[I", true)
  | 2 => ("SlipSearch$Search", "slipsAt", "[I", true)
  | 3 => ("SlipSearch$Search", "beginningAt", "[I", true)
  | 4 => ("SlipSearch$Search", "marked", "[Z", true)
  | 5 => ("SlipSearch$Search", "oldText", "[C", true)
  | 6 => ("SlipSearch$Search", "ends", "[I", true)
  | _ => ("SlipSearch$Search", "listed", "I", false)
def tyX4 : Nat → FieldType := fun k => match k with
  | 0 => .array .long
  | 1 => .array .int
  | 2 => .array .int
  | 3 => .array .int
  | 4 => .array .boolean
  | 5 => .array .char
  | 6 => .array .int
  | _ => .int
abbrev wsX40 : List Cond := u_ws RX4 TX4 8
theorem nmX4 : ∀ a, a < 8 → ∀ b, b < 8 → a ≠ b → (TX4 a).2.1 ≠ (TX4 b).2.1 := by decide +kernel
theorem tyX4_ok : ∀ k, k < 8 → parseFieldDescriptor (TX4 k).2.2.1 = some (tyX4 k) := by decide +kernel
abbrev cX4_init : ByteArray := prog_6_method_1_code
def yX4_init : MethodName := ⟨RX4, "<init>", "()V"⟩
abbrev cX4_findEnds : ByteArray := prog_6_method_2_code
def yX4_findEnds : MethodName := ⟨RX4, "findEnds", "(LSlipSearch$State;LSlipSearch$Pattern;)V"⟩
abbrev cX4_findAlone : ByteArray := prog_6_method_3_code
def yX4_findAlone : MethodName := ⟨RX4, "findAlone", "(LSlipSearch$State;LSlipSearch$Pattern;)V"⟩
abbrev cX4_columnAt : ByteArray := prog_6_method_4_code
def yX4_columnAt : MethodName := ⟨RX4, "columnAt", "(LSlipSearch$State;LSlipSearch$Pattern;II)J"⟩
abbrev cX4_columnMask : ByteArray := prog_6_method_5_code
def yX4_columnMask : MethodName := ⟨RX4, "columnMask", "(LSlipSearch$Pattern;)J"⟩
abbrev cX4_openColumns : ByteArray := prog_6_method_6_code
def yX4_openColumns : MethodName := ⟨RX4, "openColumns", "(LSlipSearch$State;LSlipSearch$Pattern;)V"⟩
abbrev cX4_stepColumns : ByteArray := prog_6_method_7_code
def yX4_stepColumns : MethodName := ⟨RX4, "stepColumns", "(LSlipSearch$State;LSlipSearch$Pattern;I)V"⟩
abbrev cX4_noteEnd : ByteArray := prog_6_method_8_code
def yX4_noteEnd : MethodName := ⟨RX4, "noteEnd", "(LSlipSearch$State;LSlipSearch$Pattern;I)V"⟩
abbrev cX4_fewestInColumns : ByteArray := prog_6_method_9_code
def yX4_fewestInColumns : MethodName := ⟨RX4, "fewestInColumns", "(LSlipSearch$State;LSlipSearch$Pattern;)I"⟩
abbrev cX4_findBeginnings : ByteArray := prog_6_method_10_code
def yX4_findBeginnings : MethodName := ⟨RX4, "findBeginnings", "(LSlipSearch$State;LSlipSearch$Pattern;)V"⟩
abbrev cX4_stepKeys : ByteArray := prog_6_method_11_code
def yX4_stepKeys : MethodName := ⟨RX4, "stepKeys", "(LSlipSearch$State;LSlipSearch$Pattern;I)V"⟩
abbrev cX4_noteBeginning : ByteArray := prog_6_method_12_code
def yX4_noteBeginning : MethodName := ⟨RX4, "noteBeginning", "(LSlipSearch$Pattern;I)V"⟩
abbrev cX4_tell : ByteArray := prog_6_method_13_code
def yX4_tell : MethodName := ⟨RX4, "tell", "(II)I"⟩
abbrev cX4_fewestSlips : ByteArray := prog_6_method_14_code
def yX4_fewestSlips : MethodName := ⟨RX4, "fewestSlips", "()I"⟩
abbrev cX4_firstWithFewest : ByteArray := prog_6_method_15_code
def yX4_firstWithFewest : MethodName := ⟨RX4, "firstWithFewest", "()I"⟩
abbrev cX4_sumOfShares : ByteArray := prog_6_method_16_code
def yX4_sumOfShares : MethodName := ⟨RX4, "sumOfShares", "()D"⟩
abbrev cX4_lengthWithParts : ByteArray := prog_6_method_17_code
def yX4_lengthWithParts : MethodName := ⟨RX4, "lengthWithParts", "(I)I"⟩
abbrev cX4_putLetterForParts : ByteArray := prog_6_method_18_code
def yX4_putLetterForParts : MethodName := ⟨RX4, "putLetterForParts", "(LSlipSearch$State;C)V"⟩
abbrev cX4_clearMarks : ByteArray := prog_6_method_19_code
def yX4_clearMarks : MethodName := ⟨RX4, "clearMarks", "()V"⟩
abbrev cX4_markEnds : ByteArray := prog_6_method_20_code
def yX4_markEnds : MethodName := ⟨RX4, "markEnds", "()V"⟩
abbrev cX4_countMarks : ByteArray := prog_6_method_21_code
def yX4_countMarks : MethodName := ⟨RX4, "countMarks", "()I"⟩
def RX5 : String := "SlipSearch$State"
def TX5 : u_T := fun k => match k with
  | 0 => ("SlipSearch$State", "text", "[C", true)
  | 1 => ("SlipSearch$State", "length", "I", false)
  | 2 => ("SlipSearch$State", "patterns", "[LSlipSearch$Pattern;", true)
  | 3 => ("SlipSearch$State", "patternCount", "I", false)
  | _ => ("SlipSearch$State", "mostSlips", "I", false)
def tyX5 : Nat → FieldType := fun k => match k with
  | 0 => .array .char
  | 1 => .int
  | 2 => .array (.object "SlipSearch$Pattern")
  | 3 => .int
  | _ => .int
abbrev wsX50 : List Cond := u_ws RX5 TX5 5
theorem nmX5 : ∀ a, a < 5 → ∀ b, b < 5 → a ≠ b → (TX5 a).2.1 ≠ (TX5 b).2.1 := by decide +kernel
theorem tyX5_ok : ∀ k, k < 5 → parseFieldDescriptor (TX5 k).2.2.1 = some (tyX5 k) := by decide +kernel
abbrev cX5_init : ByteArray := prog_7_method_1_code
def yX5_init : MethodName := ⟨RX5, "<init>", "()V"⟩
abbrev cX5_copyFrom : ByteArray := prog_7_method_2_code
def yX5_copyFrom : MethodName := ⟨RX5, "copyFrom", "(LSlipSearch$State;)V"⟩
abbrev cX5_signAt : ByteArray := prog_7_method_3_code
def yX5_signAt : MethodName := ⟨RX5, "signAt", "(I)C"⟩
abbrev cX5_append : ByteArray := prog_7_method_4_code
def yX5_append : MethodName := ⟨RX5, "append", "(C)V"⟩
abbrev cX5_countBlanks : ByteArray := prog_7_method_5_code
def yX5_countBlanks : MethodName := ⟨RX5, "countBlanks", "()I"⟩
abbrev cX5_patternOrNull : ByteArray := prog_7_method_6_code
def yX5_patternOrNull : MethodName := ⟨RX5, "patternOrNull", "(I)LSlipSearch$Pattern;"⟩
abbrev cX5_addLast : ByteArray := prog_7_method_7_code
def yX5_addLast : MethodName := ⟨RX5, "addLast", "(LSlipSearch$Pattern;)V"⟩
abbrev cX5_removeNumber : ByteArray := prog_7_method_8_code
def yX5_removeNumber : MethodName := ⟨RX5, "removeNumber", "(I)V"⟩
abbrev cX5_mayBegin : ByteArray := prog_7_method_9_code
def yX5_mayBegin : MethodName := ⟨RX5, "mayBegin", "(LSlipSearch$Pattern;I)Z"⟩
def RX6 : String := "SlipSearch$Way"
def TX6 : u_T := fun k => match k with
  | _ => ("SlipSearch$Way", "ways", "[I", true)
def tyX6 : Nat → FieldType := fun k => match k with
  | _ => .array .int
abbrev wsX60 : List Cond := u_ws RX6 TX6 1
theorem nmX6 : ∀ a, a < 1 → ∀ b, b < 1 → a ≠ b → (TX6 a).2.1 ≠ (TX6 b).2.1 := by decide +kernel
theorem tyX6_ok : ∀ k, k < 1 → parseFieldDescriptor (TX6 k).2.2.1 = some (tyX6 k) := by decide +kernel
abbrev cX6_init : ByteArray := prog_8_method_1_code
def yX6_init : MethodName := ⟨RX6, "<init>", "()V"⟩
abbrev cX6_countSlips : ByteArray := prog_8_method_2_code
def yX6_countSlips : MethodName := ⟨RX6, "countSlips", "(LSlipSearch$State;LSlipSearch$Pattern;III)I"⟩
abbrev cX6_stepWays : ByteArray := prog_8_method_3_code
def yX6_stepWays : MethodName := ⟨RX6, "stepWays", "(LSlipSearch$State;LSlipSearch$Pattern;I)V"⟩
abbrev cX6_firstOfFewest : ByteArray := prog_8_method_4_code
def yX6_firstOfFewest : MethodName := ⟨RX6, "firstOfFewest", "(II)I"⟩
def RX7 : String := "SlipSearch"
def TX7 : u_T := fun k => match k with
  | 0 => ("SlipSearch", "now", "LSlipSearch$State;", true)
  | 1 => ("SlipSearch", "snapshot", "LSlipSearch$State;", true)
  | 2 => ("SlipSearch", "hasSnapshot", "Z", false)
  | 3 => ("SlipSearch", "history", "LSlipSearch$History;", true)
  | 4 => ("SlipSearch", "pad", "LSlipSearch$Pad;", true)
  | 5 => ("SlipSearch", "reader", "LSlipSearch$PatternReader;", true)
  | 6 => ("SlipSearch", "search", "LSlipSearch$Search;", true)
  | _ => ("SlipSearch", "way", "LSlipSearch$Way;", true)
def tyX7 : Nat → FieldType := fun k => match k with
  | 0 => .object "SlipSearch$State"
  | 1 => .object "SlipSearch$State"
  | 2 => .boolean
  | 3 => .object "SlipSearch$History"
  | 4 => .object "SlipSearch$Pad"
  | 5 => .object "SlipSearch$PatternReader"
  | 6 => .object "SlipSearch$Search"
  | _ => .object "SlipSearch$Way"
abbrev wsX70 : List Cond := u_ws RX7 TX7 8
theorem nmX7 : ∀ a, a < 8 → ∀ b, b < 8 → a ≠ b → (TX7 a).2.1 ≠ (TX7 b).2.1 := by decide +kernel
theorem tyX7_ok : ∀ k, k < 8 → parseFieldDescriptor (TX7 k).2.2.1 = some (tyX7 k) := by decide +kernel
abbrev cX7_init : ByteArray := prog_1_method_1_code
def yX7_init : MethodName := ⟨RX7, "<init>", "()V"⟩
abbrev cX7_write : ByteArray := prog_1_method_2_code
def yX7_write : MethodName := ⟨RX7, "write", "(C)I"⟩
abbrev cX7_writePad : ByteArray := prog_1_method_3_code
def yX7_writePad : MethodName := ⟨RX7, "writePad", "()I"⟩
abbrev cX7_cut : ByteArray := prog_1_method_4_code
def yX7_cut : MethodName := ⟨RX7, "cut", "(I)I"⟩
abbrev cX7_replace : ByteArray := prog_1_method_5_code
def yX7_replace : MethodName := ⟨RX7, "replace", "(IC)I"⟩
abbrev cX7_addPattern : ByteArray := prog_1_method_6_code
def yX7_addPattern : MethodName := ⟨RX7, "addPattern", "()I"⟩
abbrev cX7_removePattern : ByteArray := prog_1_method_7_code
def yX7_removePattern : MethodName := ⟨RX7, "removePattern", "(I)I"⟩
abbrev cX7_setSlips : ByteArray := prog_1_method_8_code
def yX7_setSlips : MethodName := ⟨RX7, "setSlips", "(I)I"⟩
abbrev cX7_type : ByteArray := prog_1_method_9_code
def yX7_type : MethodName := ⟨RX7, "type", "(C)I"⟩
abbrev cX7_clearPad : ByteArray := prog_1_method_10_code
def yX7_clearPad : MethodName := ⟨RX7, "clearPad", "()I"⟩
abbrev cX7_undo : ByteArray := prog_1_method_11_code
def yX7_undo : MethodName := ⟨RX7, "undo", "()I"⟩
abbrev cX7_keep : ByteArray := prog_1_method_12_code
def yX7_keep : MethodName := ⟨RX7, "keep", "()I"⟩
abbrev cX7_restore : ByteArray := prog_1_method_13_code
def yX7_restore : MethodName := ⟨RX7, "restore", "()I"⟩
abbrev cX7_at : ByteArray := prog_1_method_14_code
def yX7_at : MethodName := ⟨RX7, "at", "(I)I"⟩
abbrev cX7_pattern : ByteArray := prog_1_method_15_code
def yX7_pattern : MethodName := ⟨RX7, "pattern", "(II)I"⟩
abbrev cX7_takes : ByteArray := prog_1_method_16_code
def yX7_takes : MethodName := ⟨RX7, "takes", "(II)I"⟩
abbrev cX7_end : ByteArray := prog_1_method_17_code
def yX7_end : MethodName := ⟨RX7, "end", "(IIZI)I"⟩
abbrev cX7_column : ByteArray := prog_1_method_18_code
def yX7_column : MethodName := ⟨RX7, "column", "(III)J"⟩
abbrev cX7_slips : ByteArray := prog_1_method_19_code
def yX7_slips : MethodName := ⟨RX7, "slips", "(IIII)I"⟩
abbrev cX7_density : ByteArray := prog_1_method_20_code
def yX7_density : MethodName := ⟨RX7, "density", "(I)D"⟩
abbrev cX7_densityBits : ByteArray := prog_1_method_21_code
def yX7_densityBits : MethodName := ⟨RX7, "densityBits", "(I)I"⟩
abbrev cX7_count : ByteArray := prog_1_method_22_code
def yX7_count : MethodName := ⟨RX7, "count", "(I)I"⟩
abbrev cX7_countAllEnds : ByteArray := prog_1_method_23_code
def yX7_countAllEnds : MethodName := ⟨RX7, "countAllEnds", "()I"⟩
abbrev cX7_countPlacesWithEnds : ByteArray := prog_1_method_24_code
def yX7_countPlacesWithEnds : MethodName := ⟨RX7, "countPlacesWithEnds", "()I"⟩
abbrev cX7_isLetter : ByteArray := prog_1_method_25_code
def yX7_isLetter : MethodName := ⟨RX7, "isLetter", "(C)Z"⟩
abbrev cX7_isSign : ByteArray := prog_1_method_26_code
def yX7_isSign : MethodName := ⟨RX7, "isSign", "(C)Z"⟩
abbrev cX7_bitsOfFloat : ByteArray := prog_1_method_27_code
def yX7_bitsOfFloat : MethodName := ⟨RX7, "bitsOfFloat", "(F)I"⟩
def RX8 : String := "SlipSearchModel"
def TX8 : u_T := fun k => match k with
  | 0 => ("SlipSearchModel", "all", "[I", true)
  | 1 => ("SlipSearchModel", "kept", "[I", true)
  | 2 => ("SlipSearchModel", "history", "[I", true)
  | 3 => ("SlipSearchModel", "historyLong", "I", false)
  | 4 => ("SlipSearchModel", "snapshot", "[I", true)
  | 5 => ("SlipSearchModel", "isTaken", "I", false)
  | 6 => ("SlipSearchModel", "fewest", "[I", true)
  | 7 => ("SlipSearchModel", "begin", "[I", true)
  | 8 => ("SlipSearchModel", "endAt", "[I", true)
  | 9 => ("SlipSearchModel", "ends", "I", false)
  | 10 => ("SlipSearchModel", "pad", "[I", true)
  | 11 => ("SlipSearchModel", "padLong", "I", false)
  | 12 => ("SlipSearchModel", "spot", "I", false)
  | 13 => ("SlipSearchModel", "readBound", "I", false)
  | 14 => ("SlipSearchModel", "readPlaces", "I", false)
  | 15 => ("SlipSearchModel", "readTakes", "[I", true)
  | 16 => ("SlipSearchModel", "part", "[I", true)
  | 17 => ("SlipSearchModel", "putIn", "I", false)
  | 18 => ("SlipSearchModel", "leftOut", "I", false)
  | 19 => ("SlipSearchModel", "exchanged", "I", false)
  | _ => ("SlipSearchModel", "isEnd", "[I", true)
def tyX8 : Nat → FieldType := fun k => match k with
  | 0 => .array .int
  | 1 => .array .int
  | 2 => .array .int
  | 3 => .int
  | 4 => .array .int
  | 5 => .int
  | 6 => .array .int
  | 7 => .array .int
  | 8 => .array .int
  | 9 => .int
  | 10 => .array .int
  | 11 => .int
  | 12 => .int
  | 13 => .int
  | 14 => .int
  | 15 => .array .int
  | 16 => .array .int
  | 17 => .int
  | 18 => .int
  | 19 => .int
  | _ => .array .int
abbrev wsX80 : List Cond := u_ws RX8 TX8 21
theorem nmX8 : ∀ a, a < 21 → ∀ b, b < 21 → a ≠ b → (TX8 a).2.1 ≠ (TX8 b).2.1 := by decide +kernel
theorem tyX8_ok : ∀ k, k < 21 → parseFieldDescriptor (TX8 k).2.2.1 = some (tyX8 k) := by decide +kernel
abbrev cX8_init : ByteArray := prog_10_method_1_code
def yX8_init : MethodName := ⟨RX8, "<init>", "()V"⟩
abbrev cX8_in : ByteArray := prog_10_method_3_code
def yX8_in : MethodName := ⟨RX8, "in", "(JJJ)Z"⟩
abbrev cX8_remember : ByteArray := prog_10_method_4_code
def yX8_remember : MethodName := ⟨RX8, "remember", "()V"⟩
abbrev cX8_acted : ByteArray := prog_10_method_5_code
def yX8_acted : MethodName := ⟨RX8, "acted", "(I)I"⟩
abbrev cX8_isPattern : ByteArray := prog_10_method_6_code
def yX8_isPattern : MethodName := ⟨RX8, "isPattern", "(I)Z"⟩
abbrev cX8_places : ByteArray := prog_10_method_7_code
def yX8_places : MethodName := ⟨RX8, "places", "(I)I"⟩
abbrev cX8_taking : ByteArray := prog_10_method_8_code
def yX8_taking : MethodName := ⟨RX8, "taking", "(II)I"⟩
abbrev cX8_isTaken : ByteArray := prog_10_method_9_code
def yX8_isTaken : MethodName := ⟨RX8, "isTaken", "(III)Z"⟩
abbrev cX8_bits : ByteArray := prog_10_method_10_code
def yX8_bits : MethodName := ⟨RX8, "bits", "(I)I"⟩
abbrev cX8_mayBegin : ByteArray := prog_10_method_11_code
def yX8_mayBegin : MethodName := ⟨RX8, "mayBegin", "(II)Z"⟩
abbrev cX8_tries : ByteArray := prog_10_method_12_code
def yX8_tries : MethodName := ⟨RX8, "tries", "(III)V"⟩
abbrev cX8_finds : ByteArray := prog_10_method_13_code
def yX8_finds : MethodName := ⟨RX8, "finds", "(I)V"⟩
abbrev cX8_findsEnds : ByteArray := prog_10_method_14_code
def yX8_findsEnds : MethodName := ⟨RX8, "findsEnds", "(IZ)V"⟩
abbrev cX8_slipsOf : ByteArray := prog_10_method_15_code
def yX8_slipsOf : MethodName := ⟨RX8, "slipsOf", "(II)I"⟩
abbrev cX8_beginOf : ByteArray := prog_10_method_16_code
def yX8_beginOf : MethodName := ⟨RX8, "beginOf", "(II)I"⟩
abbrev cX8_coded : ByteArray := prog_10_method_17_code
def yX8_coded : MethodName := ⟨RX8, "coded", "(I)I"⟩
abbrev cX8_writes : ByteArray := prog_10_method_18_code
def yX8_writes : MethodName := ⟨RX8, "writes", "(I)V"⟩
abbrev cX8_write : ByteArray := prog_10_method_19_code
def yX8_write : MethodName := ⟨RX8, "write", "(C)I"⟩
abbrev cX8_writePad : ByteArray := prog_10_method_20_code
def yX8_writePad : MethodName := ⟨RX8, "writePad", "()I"⟩
abbrev cX8_cut : ByteArray := prog_10_method_21_code
def yX8_cut : MethodName := ⟨RX8, "cut", "(I)I"⟩
abbrev cX8_replace : ByteArray := prog_10_method_22_code
def yX8_replace : MethodName := ⟨RX8, "replace", "(IC)I"⟩
abbrev cX8_type : ByteArray := prog_10_method_23_code
def yX8_type : MethodName := ⟨RX8, "type", "(C)I"⟩
abbrev cX8_clearPad : ByteArray := prog_10_method_24_code
def yX8_clearPad : MethodName := ⟨RX8, "clearPad", "()I"⟩
abbrev cX8_isHere : ByteArray := prog_10_method_25_code
def yX8_isHere : MethodName := ⟨RX8, "isHere", "(II)Z"⟩
abbrev cX8_takesOne : ByteArray := prog_10_method_26_code
def yX8_takesOne : MethodName := ⟨RX8, "takesOne", "(I)Z"⟩
abbrev cX8_reads : ByteArray := prog_10_method_27_code
def yX8_reads : MethodName := ⟨RX8, "reads", "(I)V"⟩
abbrev cX8_readsSet : ByteArray := prog_10_method_28_code
def yX8_readsSet : MethodName := ⟨RX8, "readsSet", "()Z"⟩
abbrev cX8_readsPlace : ByteArray := prog_10_method_29_code
def yX8_readsPlace : MethodName := ⟨RX8, "readsPlace", "()Z"⟩
abbrev cX8_fault : ByteArray := prog_10_method_30_code
def yX8_fault : MethodName := ⟨RX8, "fault", "()I"⟩
abbrev cX8_addPattern : ByteArray := prog_10_method_31_code
def yX8_addPattern : MethodName := ⟨RX8, "addPattern", "()I"⟩
abbrev cX8_removePattern : ByteArray := prog_10_method_32_code
def yX8_removePattern : MethodName := ⟨RX8, "removePattern", "(I)I"⟩
abbrev cX8_setSlips : ByteArray := prog_10_method_33_code
def yX8_setSlips : MethodName := ⟨RX8, "setSlips", "(I)I"⟩
abbrev cX8_undo : ByteArray := prog_10_method_34_code
def yX8_undo : MethodName := ⟨RX8, "undo", "()I"⟩
abbrev cX8_keep : ByteArray := prog_10_method_35_code
def yX8_keep : MethodName := ⟨RX8, "keep", "()I"⟩
abbrev cX8_restore : ByteArray := prog_10_method_36_code
def yX8_restore : MethodName := ⟨RX8, "restore", "()I"⟩
abbrev cX8_at : ByteArray := prog_10_method_37_code
def yX8_at : MethodName := ⟨RX8, "at", "(I)I"⟩
abbrev cX8_manyEnds : ByteArray := prog_10_method_38_code
def yX8_manyEnds : MethodName := ⟨RX8, "manyEnds", "(IZ)I"⟩
abbrev cX8_bestRank : ByteArray := prog_10_method_39_code
def yX8_bestRank : MethodName := ⟨RX8, "bestRank", "(I)I"⟩
abbrev cX8_fewestSlips : ByteArray := prog_10_method_40_code
def yX8_fewestSlips : MethodName := ⟨RX8, "fewestSlips", "(I)I"⟩
abbrev cX8_firstBest : ByteArray := prog_10_method_41_code
def yX8_firstBest : MethodName := ⟨RX8, "firstBest", "(I)I"⟩
abbrev cX8_wildPlaces : ByteArray := prog_10_method_42_code
def yX8_wildPlaces : MethodName := ⟨RX8, "wildPlaces", "(I)I"⟩
abbrev cX8_isPlain : ByteArray := prog_10_method_43_code
def yX8_isPlain : MethodName := ⟨RX8, "isPlain", "(I)Z"⟩
abbrev cX8_pattern : ByteArray := prog_10_method_44_code
def yX8_pattern : MethodName := ⟨RX8, "pattern", "(II)I"⟩
abbrev cX8_takes : ByteArray := prog_10_method_45_code
def yX8_takes : MethodName := ⟨RX8, "takes", "(II)I"⟩
abbrev cX8_end : ByteArray := prog_10_method_46_code
def yX8_end : MethodName := ⟨RX8, "end", "(IIZI)I"⟩
abbrev cX8_column : ByteArray := prog_10_method_47_code
def yX8_column : MethodName := ⟨RX8, "column", "(III)J"⟩
abbrev cX8_fits : ByteArray := prog_10_method_48_code
def yX8_fits : MethodName := ⟨RX8, "fits", "(III)V"⟩
abbrev cX8_goesBack : ByteArray := prog_10_method_49_code
def yX8_goesBack : MethodName := ⟨RX8, "goesBack", "(III)V"⟩
abbrev cX8_slips : ByteArray := prog_10_method_50_code
def yX8_slips : MethodName := ⟨RX8, "slips", "(IIII)I"⟩
abbrev cX8_densityOf : ByteArray := prog_10_method_51_code
def yX8_densityOf : MethodName := ⟨RX8, "densityOf", "(I)D"⟩
abbrev cX8_density : ByteArray := prog_10_method_52_code
def yX8_density : MethodName := ⟨RX8, "density", "(I)D"⟩
abbrev cX8_densityBits : ByteArray := prog_10_method_53_code
def yX8_densityBits : MethodName := ⟨RX8, "densityBits", "(I)I"⟩
abbrev cX8_allEnds : ByteArray := prog_10_method_54_code
def yX8_allEnds : MethodName := ⟨RX8, "allEnds", "()I"⟩
abbrev cX8_placesOfEnds : ByteArray := prog_10_method_55_code
def yX8_placesOfEnds : MethodName := ⟨RX8, "placesOfEnds", "()I"⟩
abbrev cX8_blanks : ByteArray := prog_10_method_56_code
def yX8_blanks : MethodName := ⟨RX8, "blanks", "()I"⟩
abbrev cX8_count : ByteArray := prog_10_method_57_code
def yX8_count : MethodName := ⟨RX8, "count", "(I)I"⟩
def RJxf58ca : String := "java/lang/Float"
def TJxf58ca : u_T := fun k => match k with
  | _ => ("", "", "", false)
def tyJxf58ca : Nat → FieldType := fun k => match k with
  | _ => .int
abbrev wsJxf58ca0 : List Cond := u_ws RJxf58ca TJxf58ca 0
theorem nmJxf58ca : ∀ a, a < 0 → ∀ b, b < 0 → a ≠ b → (TJxf58ca a).2.1 ≠ (TJxf58ca b).2.1 := by decide +kernel
theorem tyJxf58ca_ok : ∀ k, k < 0 → parseFieldDescriptor (TJxf58ca k).2.2.1 = some (tyJxf58ca k) := by decide +kernel
abbrev cJxf58ca_isNaN_12338 : ByteArray := prog_11_method_6_code
def yJxf58ca_isNaN_12338 : MethodName := ⟨RJxf58ca, "isNaN", "(F)Z"⟩
abbrev cJxf58ca_floatToIntBits_5c35a : ByteArray := prog_11_method_24_code
def yJxf58ca_floatToIntBits_5c35a : MethodName := ⟨RJxf58ca, "floatToIntBits", "(F)I"⟩
def RJ6 : String := "java/lang/Integer"
def TJ6 : u_T := fun k => match k with
  | _ => ("", "", "", false)
def tyJ6 : Nat → FieldType := fun k => match k with
  | _ => .int
abbrev wsJ60 : List Cond := u_ws RJ6 TJ6 0
theorem nmJ6 : ∀ a, a < 0 → ∀ b, b < 0 → a ≠ b → (TJ6 a).2.1 ≠ (TJ6 b).2.1 := by decide +kernel
theorem tyJ6_ok : ∀ k, k < 0 → parseFieldDescriptor (TJ6 k).2.2.1 = some (tyJ6 k) := by decide +kernel
abbrev cJ6_bitCount_0f7a4 : ByteArray := prog_12_method_49_code
def yJ6_bitCount_0f7a4 : MethodName := ⟨RJ6, "bitCount", "(I)I"⟩
def RJ9 : String := "java/lang/Math"
def TJ9 : u_T := fun k => match k with
  | _ => ("", "", "", false)
def tyJ9 : Nat → FieldType := fun k => match k with
  | _ => .int
abbrev wsJ90 : List Cond := u_ws RJ9 TJ9 0
theorem nmJ9 : ∀ a, a < 0 → ∀ b, b < 0 → a ≠ b → (TJ9 a).2.1 ≠ (TJ9 b).2.1 := by decide +kernel
theorem tyJ9_ok : ∀ k, k < 0 → parseFieldDescriptor (TJ9 k).2.2.1 = some (tyJ9 k) := by decide +kernel
abbrev cJ9_min_7cf53 : ByteArray := prog_13_method_69_code
def yJ9_min_7cf53 : MethodName := ⟨RJ9, "min", "(II)I"⟩
def RJ10 : String := "java/lang/System"
def TJ10 : u_T := fun k => match k with
  | _ => ("", "", "", false)
def tyJ10 : Nat → FieldType := fun k => match k with
  | _ => .int
abbrev wsJ100 : List Cond := u_ws RJ10 TJ10 0
theorem nmJ10 : ∀ a, a < 0 → ∀ b, b < 0 → a ≠ b → (TJ10 a).2.1 ≠ (TJ10 b).2.1 := by decide +kernel
theorem tyJ10_ok : ∀ k, k < 0 → parseFieldDescriptor (TJ10 k).2.2.1 = some (tyJ10 k) := by decide +kernel
def RL : String := "SlipSearchLaw"
abbrev cL_law : ByteArray := code
def yL_law : MethodName := ⟨RL, "law", "([I)Z"⟩
def wsX5_init : List Cond := .code yX5_init cX5_init 1 none :: ([.methodLink RX5 3 objectInit, .instanceMethod objectInit, .code objectInit ⟨#[0xb1]⟩ 1 none, .arrayClass .char, .fieldLink RX5 9 "SlipSearch$State" "text" "[C", .fieldLink RX5 15 "SlipSearch$State" "length" "I", .classLink RX5 19 RX2, .fieldLink RX5 21 "SlipSearch$State" "patterns" "[LSlipSearch$Pattern;", .fieldLink RX5 25 "SlipSearch$State" "patternCount" "I", .fieldLink RX5 28 "SlipSearch$State" "mostSlips" "I"] ++ wsX50)
def wsX0_init : List Cond := .code yX0_init cX0_init 2 none :: ([.methodLink RX0 3 objectInit, .instanceMethod objectInit, .code objectInit ⟨#[0xb1]⟩ 1 none, .classLink RX0 9 RX5, .fieldLink RX0 11 "SlipSearch$History" "states" "[LSlipSearch$State;", .fieldLink RX0 17 "SlipSearch$History" "count" "I", .instantiable RX5 5, .initialized RX5, .instanceMethod yX5_init, .code yX5_init cX5_init 1 none, .methodLink RX5 3 objectInit, .arrayClass .char, .fieldLink RX5 9 "SlipSearch$State" "text" "[C", .fieldLink RX5 15 "SlipSearch$State" "length" "I", .classLink RX5 19 RX2, .fieldLink RX5 21 "SlipSearch$State" "patterns" "[LSlipSearch$Pattern;", .fieldLink RX5 25 "SlipSearch$State" "patternCount" "I", .fieldLink RX5 28 "SlipSearch$State" "mostSlips" "I"] ++ wsX00 ++ wsX50)
def wsX0_dropOldest : List Cond := .code yX0_dropOldest cX0_dropOldest 3 none :: ([.fieldLink RX0 11 "SlipSearch$History" "states" "[LSlipSearch$State;", .fieldLink RX0 17 "SlipSearch$History" "count" "I"] ++ wsX00)
def wsX5_copyFrom : List Cond := .code yX5_copyFrom cX5_copyFrom 3 none :: ([.fieldLink RX5 9 "SlipSearch$State" "text" "[C", .methodLink RX5 31 arraycopyName, .native arraycopyName, .static arraycopyName, .initialized "java/lang/System", .fieldLink RX5 15 "SlipSearch$State" "length" "I", .fieldLink RX5 21 "SlipSearch$State" "patterns" "[LSlipSearch$Pattern;", .fieldLink RX5 25 "SlipSearch$State" "patternCount" "I", .fieldLink RX5 28 "SlipSearch$State" "mostSlips" "I"] ++ wsX50)
def wsX0_record : List Cond := .code yX0_record cX0_record 2 none :: ([.fieldLink RX0 17 "SlipSearch$History" "count" "I", .fieldLink RX0 11 "SlipSearch$History" "states" "[LSlipSearch$State;", .methodLink RX0 22 yX0_dropOldest, .instanceMethod yX0_dropOldest, .selects RX0 yX0_dropOldest yX0_dropOldest, .initialized RX0, .code yX0_dropOldest cX0_dropOldest 3 none, .methodLink RX0 25 yX5_copyFrom, .instanceMethod yX5_copyFrom, .selects RX5 yX5_copyFrom yX5_copyFrom, .initialized RX5, .code yX5_copyFrom cX5_copyFrom 3 none, .fieldLink RX5 9 "SlipSearch$State" "text" "[C", .methodLink RX5 31 arraycopyName, .native arraycopyName, .static arraycopyName, .initialized "java/lang/System", .fieldLink RX5 15 "SlipSearch$State" "length" "I", .fieldLink RX5 21 "SlipSearch$State" "patterns" "[LSlipSearch$Pattern;", .fieldLink RX5 25 "SlipSearch$State" "patternCount" "I", .fieldLink RX5 28 "SlipSearch$State" "mostSlips" "I"] ++ wsX00 ++ wsX50)
def wsX0_takeLatestInto : List Cond := .code yX0_takeLatestInto cX0_takeLatestInto 2 none :: ([.fieldLink RX0 17 "SlipSearch$History" "count" "I", .fieldLink RX0 11 "SlipSearch$History" "states" "[LSlipSearch$State;", .methodLink RX0 25 yX5_copyFrom, .instanceMethod yX5_copyFrom, .selects RX5 yX5_copyFrom yX5_copyFrom, .initialized RX5, .code yX5_copyFrom cX5_copyFrom 3 none, .fieldLink RX5 9 "SlipSearch$State" "text" "[C", .methodLink RX5 31 arraycopyName, .native arraycopyName, .static arraycopyName, .initialized "java/lang/System", .fieldLink RX5 15 "SlipSearch$State" "length" "I", .fieldLink RX5 21 "SlipSearch$State" "patterns" "[LSlipSearch$Pattern;", .fieldLink RX5 25 "SlipSearch$State" "patternCount" "I", .fieldLink RX5 28 "SlipSearch$State" "mostSlips" "I"] ++ wsX00 ++ wsX50)
def wsX1_init : List Cond := .code yX1_init cX1_init 1 none :: ([.methodLink RX1 3 objectInit, .instanceMethod objectInit, .code objectInit ⟨#[0xb1]⟩ 1 none, .arrayClass .char, .fieldLink RX1 9 "SlipSearch$Pad" "typed" "[C", .fieldLink RX1 15 "SlipSearch$Pad" "length" "I"] ++ wsX10)
def wsX1_append : List Cond := .code yX1_append cX1_append 2 none :: ([.fieldLink RX1 15 "SlipSearch$Pad" "length" "I", .fieldLink RX1 9 "SlipSearch$Pad" "typed" "[C"] ++ wsX10)
def wsX1_signAt : List Cond := .code yX1_signAt cX1_signAt 2 (some .char) :: ([.fieldLink RX1 9 "SlipSearch$Pad" "typed" "[C"] ++ wsX10)
def wsX7_isLetter : List Cond := .code yX7_isLetter cX7_isLetter 1 (some .boolean) :: ([])
def wsX1_canBeWritten : List Cond := .code yX1_canBeWritten cX1_canBeWritten 2 (some .boolean) :: ([.fieldLink RX1 15 "SlipSearch$Pad" "length" "I", .methodLink RX1 19 yX1_signAt, .instanceMethod yX1_signAt, .selects RX1 yX1_signAt yX1_signAt, .initialized RX1, .code yX1_signAt cX1_signAt 2 (some .char), .fieldLink RX1 9 "SlipSearch$Pad" "typed" "[C", .static yX7_isLetter, .initialized RX7, .code yX7_isLetter cX7_isLetter 1 (some .boolean)] ++ wsX10)
def wsX2_init : List Cond := .code yX2_init cX2_init 7 none :: ([.methodLink RX2 3 objectInit, .instanceMethod objectInit, .code objectInit ⟨#[0xb1]⟩ 1 none, .arrayClass .int, .fieldLink RX2 9 "SlipSearch$Pattern" "places" "[I", .arrayClass .long, .fieldLink RX2 15 "SlipSearch$Pattern" "placesTaking" "[J", .fieldLink RX2 19 "SlipSearch$Pattern" "placeCount" "I", .fieldLink RX2 23 "SlipSearch$Pattern" "bound" "Z"] ++ wsX20)
def wsX2_signsOf : List Cond := .code yX2_signsOf cX2_signsOf 2 (some .int) :: ([.fieldLink RX2 9 "SlipSearch$Pattern" "places" "[I"] ++ wsX20)
def wsX2_placesThatTake : List Cond := .code yX2_placesThatTake cX2_placesThatTake 3 (some .long) :: ([.fieldLink RX2 15 "SlipSearch$Pattern" "placesTaking" "[J"] ++ wsX20)
def wsX2_countWild : List Cond := .code yX2_countWild cX2_countWild 3 (some .int) :: ([.fieldLink RX2 19 "SlipSearch$Pattern" "placeCount" "I", .constant RX2 31 (134217727), .methodLink RX2 27 yX2_signsOf, .instanceMethod yX2_signsOf, .selects RX2 yX2_signsOf yX2_signsOf, .initialized RX2, .code yX2_signsOf cX2_signsOf 2 (some .int), .fieldLink RX2 9 "SlipSearch$Pattern" "places" "[I"] ++ wsX20)
def wsJ6_bitCount_0f7a4 : List Cond := .code yJ6_bitCount_0f7a4 cJ6_bitCount_0f7a4 1 (some .int) :: ([.constant RJ6 265 (1431655765), .constant RJ6 266 (858993459), .constant RJ6 267 (252645135)])
def wsX2_isPlain : List Cond := .code yX2_isPlain cX2_isPlain 2 (some .boolean) :: ([.fieldLink RX2 19 "SlipSearch$Pattern" "placeCount" "I", .methodLink RX2 27 yX2_signsOf, .instanceMethod yX2_signsOf, .selects RX2 yX2_signsOf yX2_signsOf, .initialized RX2, .code yX2_signsOf cX2_signsOf 2 (some .int), .fieldLink RX2 9 "SlipSearch$Pattern" "places" "[I", .methodLink RX2 32 yJ6_bitCount_0f7a4, .static yJ6_bitCount_0f7a4, .initialized RJ6, .code yJ6_bitCount_0f7a4 cJ6_bitCount_0f7a4 1 (some .int), .constant RJ6 265 (1431655765), .constant RJ6 266 (858993459), .constant RJ6 267 (252645135)] ++ wsX20)
def wsX3_init : List Cond := .code yX3_init cX3_init 1 none :: ([.methodLink RX3 3 objectInit, .instanceMethod objectInit, .code objectInit ⟨#[0xb1]⟩ 1 none, .arrayClass .int, .fieldLink RX3 9 "SlipSearch$PatternReader" "places" "[I", .fieldLink RX3 15 "SlipSearch$PatternReader" "placeCount" "I", .fieldLink RX3 19 "SlipSearch$PatternReader" "bound" "Z", .fieldLink RX3 23 "SlipSearch$PatternReader" "mode" "I", .fieldLink RX3 26 "SlipSearch$PatternReader" "turned" "Z", .fieldLink RX3 29 "SlipSearch$PatternReader" "set" "I", .fieldLink RX3 32 "SlipSearch$PatternReader" "lastOfSet" "C"] ++ wsX30)
def wsX3_addPlace : List Cond := .code yX3_addPlace cX3_addPlace 2 none :: ([.fieldLink RX3 15 "SlipSearch$PatternReader" "placeCount" "I", .fieldLink RX3 9 "SlipSearch$PatternReader" "places" "[I", .fieldLink RX3 23 "SlipSearch$PatternReader" "mode" "I"] ++ wsX30)
def wsX3_acceptsPlace : List Cond := .code yX3_acceptsPlace cX3_acceptsPlace 2 (some .boolean) :: ([.fieldLink RX3 29 "SlipSearch$PatternReader" "set" "I", .fieldLink RX3 26 "SlipSearch$PatternReader" "turned" "Z", .fieldLink RX3 23 "SlipSearch$PatternReader" "mode" "I", .constant RX3 76 (134217727), .constant RX3 77 (67108864), .static yX7_isLetter, .initialized RX7, .code yX7_isLetter cX7_isLetter 1 (some .boolean), .methodLink RX3 72 yX3_addPlace, .instanceMethod yX3_addPlace, .selects RX3 yX3_addPlace yX3_addPlace, .initialized RX3, .code yX3_addPlace cX3_addPlace 2 none, .fieldLink RX3 15 "SlipSearch$PatternReader" "placeCount" "I", .fieldLink RX3 9 "SlipSearch$PatternReader" "places" "[I"] ++ wsX30)
def wsX3_acceptsBeginning : List Cond := .code yX3_acceptsBeginning cX3_acceptsBeginning 2 (some .boolean) :: ([.fieldLink RX3 19 "SlipSearch$PatternReader" "bound" "Z", .fieldLink RX3 23 "SlipSearch$PatternReader" "mode" "I", .methodLink RX3 57 yX3_acceptsPlace, .instanceMethod yX3_acceptsPlace, .selects RX3 yX3_acceptsPlace yX3_acceptsPlace, .initialized RX3, .code yX3_acceptsPlace cX3_acceptsPlace 2 (some .boolean), .fieldLink RX3 29 "SlipSearch$PatternReader" "set" "I", .fieldLink RX3 26 "SlipSearch$PatternReader" "turned" "Z", .constant RX3 76 (134217727), .constant RX3 77 (67108864), .static yX7_isLetter, .initialized RX7, .code yX7_isLetter cX7_isLetter 1 (some .boolean), .methodLink RX3 72 yX3_addPlace, .instanceMethod yX3_addPlace, .selects RX3 yX3_addPlace yX3_addPlace, .code yX3_addPlace cX3_addPlace 2 none, .fieldLink RX3 15 "SlipSearch$PatternReader" "placeCount" "I", .fieldLink RX3 9 "SlipSearch$PatternReader" "places" "[I"] ++ wsX30)
def wsX3_acceptsLetterOfSet : List Cond := .code yX3_acceptsLetterOfSet cX3_acceptsLetterOfSet 2 (some .boolean) :: ([.fieldLink RX3 29 "SlipSearch$PatternReader" "set" "I", .fieldLink RX3 32 "SlipSearch$PatternReader" "lastOfSet" "C", .fieldLink RX3 23 "SlipSearch$PatternReader" "mode" "I", .static yX7_isLetter, .initialized RX7, .code yX7_isLetter cX7_isLetter 1 (some .boolean)] ++ wsX30)
def wsX3_acceptsFirstOfSet : List Cond := .code yX3_acceptsFirstOfSet cX3_acceptsFirstOfSet 2 (some .boolean) :: ([.fieldLink RX3 26 "SlipSearch$PatternReader" "turned" "Z", .fieldLink RX3 23 "SlipSearch$PatternReader" "mode" "I", .methodLink RX3 63 yX3_acceptsLetterOfSet, .instanceMethod yX3_acceptsLetterOfSet, .selects RX3 yX3_acceptsLetterOfSet yX3_acceptsLetterOfSet, .initialized RX3, .code yX3_acceptsLetterOfSet cX3_acceptsLetterOfSet 2 (some .boolean), .fieldLink RX3 29 "SlipSearch$PatternReader" "set" "I", .fieldLink RX3 32 "SlipSearch$PatternReader" "lastOfSet" "C", .static yX7_isLetter, .initialized RX7, .code yX7_isLetter cX7_isLetter 1 (some .boolean)] ++ wsX30)
def wsX3_acceptsRestOfSet : List Cond := .code yX3_acceptsRestOfSet cX3_acceptsRestOfSet 2 (some .boolean) :: ([.fieldLink RX3 26 "SlipSearch$PatternReader" "turned" "Z", .constant RX3 78 (67108863), .fieldLink RX3 29 "SlipSearch$PatternReader" "set" "I", .methodLink RX3 63 yX3_acceptsLetterOfSet, .instanceMethod yX3_acceptsLetterOfSet, .selects RX3 yX3_acceptsLetterOfSet yX3_acceptsLetterOfSet, .initialized RX3, .code yX3_acceptsLetterOfSet cX3_acceptsLetterOfSet 2 (some .boolean), .fieldLink RX3 32 "SlipSearch$PatternReader" "lastOfSet" "C", .fieldLink RX3 23 "SlipSearch$PatternReader" "mode" "I", .static yX7_isLetter, .initialized RX7, .code yX7_isLetter cX7_isLetter 1 (some .boolean), .methodLink RX3 72 yX3_addPlace, .instanceMethod yX3_addPlace, .selects RX3 yX3_addPlace yX3_addPlace, .code yX3_addPlace cX3_addPlace 2 none, .fieldLink RX3 15 "SlipSearch$PatternReader" "placeCount" "I", .fieldLink RX3 9 "SlipSearch$PatternReader" "places" "[I"] ++ wsX30)
def wsX3_accepts_r1 : List Cond := [Cond.fieldLink RX3 23 "SlipSearch$PatternReader" "mode" "I", Cond.methodLink RX3 54 yX3_acceptsBeginning, Cond.instanceMethod yX3_acceptsBeginning, Cond.selects RX3 yX3_acceptsBeginning yX3_acceptsBeginning, Cond.initialized RX3, Cond.code yX3_acceptsBeginning cX3_acceptsBeginning 2 (some .boolean), Cond.fieldLink RX3 19 "SlipSearch$PatternReader" "bound" "Z", Cond.methodLink RX3 57 yX3_acceptsPlace, Cond.instanceMethod yX3_acceptsPlace, Cond.selects RX3 yX3_acceptsPlace yX3_acceptsPlace, Cond.code yX3_acceptsPlace cX3_acceptsPlace 2 (some .boolean), Cond.fieldLink RX3 29 "SlipSearch$PatternReader" "set" "I", Cond.fieldLink RX3 26 "SlipSearch$PatternReader" "turned" "Z", Cond.constant RX3 76 (134217727), Cond.constant RX3 77 (67108864), Cond.static yX7_isLetter, Cond.initialized RX7, Cond.code yX7_isLetter cX7_isLetter 1 (some .boolean), Cond.methodLink RX3 72 yX3_addPlace, Cond.instanceMethod yX3_addPlace, Cond.selects RX3 yX3_addPlace yX3_addPlace, Cond.code yX3_addPlace cX3_addPlace 2 none, Cond.fieldLink RX3 15 "SlipSearch$PatternReader" "placeCount" "I", Cond.fieldLink RX3 9 "SlipSearch$PatternReader" "places" "[I"]
def wsX3_accepts_r2 : List Cond := [Cond.methodLink RX3 60 yX3_acceptsFirstOfSet, Cond.instanceMethod yX3_acceptsFirstOfSet, Cond.selects RX3 yX3_acceptsFirstOfSet yX3_acceptsFirstOfSet, Cond.code yX3_acceptsFirstOfSet cX3_acceptsFirstOfSet 2 (some .boolean), Cond.methodLink RX3 63 yX3_acceptsLetterOfSet, Cond.instanceMethod yX3_acceptsLetterOfSet, Cond.selects RX3 yX3_acceptsLetterOfSet yX3_acceptsLetterOfSet, Cond.code yX3_acceptsLetterOfSet cX3_acceptsLetterOfSet 2 (some .boolean), Cond.fieldLink RX3 32 "SlipSearch$PatternReader" "lastOfSet" "C", Cond.methodLink RX3 66 yX3_acceptsRestOfSet, Cond.instanceMethod yX3_acceptsRestOfSet, Cond.selects RX3 yX3_acceptsRestOfSet yX3_acceptsRestOfSet, Cond.code yX3_acceptsRestOfSet cX3_acceptsRestOfSet 2 (some .boolean), Cond.constant RX3 78 (67108863)]
def wsX3_accepts : List Cond := .code yX3_accepts cX3_accepts 2 (some .boolean) :: ((wsX3_accepts_r1 ++ wsX3_accepts_r2) ++ wsX30)
def wsX3_readFault_r1 : List Cond := [Cond.fieldLink RX3 15 "SlipSearch$PatternReader" "placeCount" "I", Cond.fieldLink RX3 19 "SlipSearch$PatternReader" "bound" "Z", Cond.fieldLink RX3 23 "SlipSearch$PatternReader" "mode" "I", Cond.methodLink RX3 41 yX1_signAt, Cond.instanceMethod yX1_signAt, Cond.selects RX1 yX1_signAt yX1_signAt, Cond.initialized RX1, Cond.code yX1_signAt cX1_signAt 2 (some .char), Cond.fieldLink RX1 9 "SlipSearch$Pad" "typed" "[C", Cond.methodLink RX3 45 yX3_accepts, Cond.instanceMethod yX3_accepts, Cond.selects RX3 yX3_accepts yX3_accepts, Cond.initialized RX3, Cond.code yX3_accepts cX3_accepts 2 (some .boolean), Cond.methodLink RX3 54 yX3_acceptsBeginning, Cond.instanceMethod yX3_acceptsBeginning, Cond.selects RX3 yX3_acceptsBeginning yX3_acceptsBeginning, Cond.code yX3_acceptsBeginning cX3_acceptsBeginning 2 (some .boolean), Cond.methodLink RX3 57 yX3_acceptsPlace, Cond.instanceMethod yX3_acceptsPlace, Cond.selects RX3 yX3_acceptsPlace yX3_acceptsPlace, Cond.code yX3_acceptsPlace cX3_acceptsPlace 2 (some .boolean), Cond.fieldLink RX3 29 "SlipSearch$PatternReader" "set" "I", Cond.fieldLink RX3 26 "SlipSearch$PatternReader" "turned" "Z"]
def wsX3_readFault_r2 : List Cond := [Cond.constant RX3 76 (134217727), Cond.constant RX3 77 (67108864), Cond.static yX7_isLetter, Cond.initialized RX7, Cond.code yX7_isLetter cX7_isLetter 1 (some .boolean), Cond.methodLink RX3 72 yX3_addPlace, Cond.instanceMethod yX3_addPlace, Cond.selects RX3 yX3_addPlace yX3_addPlace, Cond.code yX3_addPlace cX3_addPlace 2 none, Cond.fieldLink RX3 9 "SlipSearch$PatternReader" "places" "[I", Cond.methodLink RX3 60 yX3_acceptsFirstOfSet, Cond.instanceMethod yX3_acceptsFirstOfSet, Cond.selects RX3 yX3_acceptsFirstOfSet yX3_acceptsFirstOfSet, Cond.code yX3_acceptsFirstOfSet cX3_acceptsFirstOfSet 2 (some .boolean), Cond.methodLink RX3 63 yX3_acceptsLetterOfSet, Cond.instanceMethod yX3_acceptsLetterOfSet, Cond.selects RX3 yX3_acceptsLetterOfSet yX3_acceptsLetterOfSet, Cond.code yX3_acceptsLetterOfSet cX3_acceptsLetterOfSet 2 (some .boolean), Cond.fieldLink RX3 32 "SlipSearch$PatternReader" "lastOfSet" "C", Cond.methodLink RX3 66 yX3_acceptsRestOfSet, Cond.instanceMethod yX3_acceptsRestOfSet, Cond.selects RX3 yX3_acceptsRestOfSet yX3_acceptsRestOfSet, Cond.code yX3_acceptsRestOfSet cX3_acceptsRestOfSet 2 (some .boolean), Cond.constant RX3 78 (67108863)]
def wsX3_readFault : List Cond := .code yX3_readFault cX3_readFault 3 (some .int) :: ((wsX3_readFault_r1 ++ wsX3_readFault_r2) ++ wsX30 ++ wsX10)
def wsX3_makePattern : List Cond := .code yX3_makePattern cX3_makePattern 1 (some (.object "SlipSearch$Pattern")) :: ([.classLink RX3 49 RX2, .instantiable RX2 4, .initialized RX2, .fieldLink RX3 9 "SlipSearch$PatternReader" "places" "[I", .fieldLink RX3 15 "SlipSearch$PatternReader" "placeCount" "I", .fieldLink RX3 19 "SlipSearch$PatternReader" "bound" "Z", .methodLink RX3 51 yX2_init, .instanceMethod yX2_init, .code yX2_init cX2_init 7 none, .methodLink RX2 3 objectInit, .instanceMethod objectInit, .code objectInit ⟨#[0xb1]⟩ 1 none, .arrayClass .int, .fieldLink RX2 9 "SlipSearch$Pattern" "places" "[I", .arrayClass .long, .fieldLink RX2 15 "SlipSearch$Pattern" "placesTaking" "[J", .fieldLink RX2 19 "SlipSearch$Pattern" "placeCount" "I", .fieldLink RX2 23 "SlipSearch$Pattern" "bound" "Z"] ++ wsX20 ++ wsX30)
def wsX4_init : List Cond := .code yX4_init cX4_init 1 none :: ([.methodLink RX4 3 objectInit, .instanceMethod objectInit, .code objectInit ⟨#[0xb1]⟩ 1 none, .arrayClass .long, .fieldLink RX4 9 "SlipSearch$Search" "columns" "[J", .arrayClass .int, .fieldLink RX4 15 "SlipSearch$Search" "keys" "[I", .fieldLink RX4 19 "SlipSearch$Search" "slipsAt" "[I", .fieldLink RX4 22 "SlipSearch$Search" "beginningAt" "[I", .arrayClass .boolean, .fieldLink RX4 25 "SlipSearch$Search" "marked" "[Z", .arrayClass .char, .fieldLink RX4 29 "SlipSearch$Search" "oldText" "[C", .fieldLink RX4 33 "SlipSearch$Search" "ends" "[I", .fieldLink RX4 36 "SlipSearch$Search" "listed" "I"] ++ wsX40)
def wsX4_columnMask : List Cond := .code yX4_columnMask cX4_columnMask 1 (some .long) :: ([.constantLong RX4 66 (2)] ++ wsX20)
def wsX4_openColumns : List Cond := .code yX4_openColumns cX4_openColumns 6 none :: ([.fieldLink RX4 9 "SlipSearch$Search" "columns" "[J", .methodLink RX4 76 yX4_columnMask, .static yX4_columnMask, .initialized RX4, .code yX4_columnMask cX4_columnMask 1 (some .long), .constantLong RX4 66 (2)] ++ wsX50 ++ wsX40 ++ wsX20)
def wsX4_fewestInColumns : List Cond := .code yX4_fewestInColumns cX4_fewestInColumns 4 (some .int) :: ([.fieldLink RX4 9 "SlipSearch$Search" "columns" "[J"] ++ wsX50 ++ wsX40 ++ wsX20)
def wsX4_noteEnd : List Cond := .code yX4_noteEnd cX4_noteEnd 4 none :: ([.fieldLink RX4 19 "SlipSearch$Search" "slipsAt" "[I", .fieldLink RX4 36 "SlipSearch$Search" "listed" "I", .fieldLink RX4 33 "SlipSearch$Search" "ends" "[I", .methodLink RX4 92 yX4_fewestInColumns, .instanceMethod yX4_fewestInColumns, .selects RX4 yX4_fewestInColumns yX4_fewestInColumns, .initialized RX4, .code yX4_fewestInColumns cX4_fewestInColumns 4 (some .int), .fieldLink RX4 9 "SlipSearch$Search" "columns" "[J"] ++ wsX40 ++ wsX50 ++ wsX20)
def wsX5_signAt : List Cond := .code yX5_signAt cX5_signAt 2 (some .char) :: ([.fieldLink RX5 9 "SlipSearch$State" "text" "[C"] ++ wsX50)
def wsX5_mayBegin : List Cond := .code yX5_mayBegin cX5_mayBegin 3 (some .boolean) :: ([.methodLink RX5 37 yX5_signAt, .instanceMethod yX5_signAt, .selects RX5 yX5_signAt yX5_signAt, .initialized RX5, .code yX5_signAt cX5_signAt 2 (some .char), .fieldLink RX5 9 "SlipSearch$State" "text" "[C"] ++ wsX20 ++ wsX50)
def wsX4_stepColumns : List Cond := .code yX4_stepColumns cX4_stepColumns 23 none :: ([.fieldLink RX4 9 "SlipSearch$Search" "columns" "[J", .methodLink RX4 80 yX5_signAt, .instanceMethod yX5_signAt, .selects RX5 yX5_signAt yX5_signAt, .initialized RX5, .code yX5_signAt cX5_signAt 2 (some .char), .fieldLink RX5 9 "SlipSearch$State" "text" "[C", .methodLink RX4 84 yX2_placesThatTake, .instanceMethod yX2_placesThatTake, .selects RX2 yX2_placesThatTake yX2_placesThatTake, .initialized RX2, .code yX2_placesThatTake cX2_placesThatTake 3 (some .long), .fieldLink RX2 15 "SlipSearch$Pattern" "placesTaking" "[J", .methodLink RX4 88 yX5_mayBegin, .instanceMethod yX5_mayBegin, .selects RX5 yX5_mayBegin yX5_mayBegin, .code yX5_mayBegin cX5_mayBegin 3 (some .boolean), .methodLink RX5 37 yX5_signAt, .methodLink RX4 76 yX4_columnMask, .static yX4_columnMask, .initialized RX4, .code yX4_columnMask cX4_columnMask 1 (some .long), .constantLong RX4 66 (2)] ++ wsX50 ++ wsX40 ++ wsX20)
def wsX4_findEnds_r1 : List Cond := [Cond.fieldLink RX4 36 "SlipSearch$Search" "listed" "I", Cond.methodLink RX4 40 yX4_openColumns, Cond.instanceMethod yX4_openColumns, Cond.selects RX4 yX4_openColumns yX4_openColumns, Cond.initialized RX4, Cond.code yX4_openColumns cX4_openColumns 6 none, Cond.fieldLink RX4 9 "SlipSearch$Search" "columns" "[J", Cond.methodLink RX4 76 yX4_columnMask, Cond.static yX4_columnMask, Cond.code yX4_columnMask cX4_columnMask 1 (some .long), Cond.constantLong RX4 66 (2), Cond.methodLink RX4 44 yX4_noteEnd, Cond.instanceMethod yX4_noteEnd, Cond.selects RX4 yX4_noteEnd yX4_noteEnd, Cond.code yX4_noteEnd cX4_noteEnd 4 none, Cond.fieldLink RX4 19 "SlipSearch$Search" "slipsAt" "[I", Cond.fieldLink RX4 33 "SlipSearch$Search" "ends" "[I", Cond.methodLink RX4 92 yX4_fewestInColumns, Cond.instanceMethod yX4_fewestInColumns, Cond.selects RX4 yX4_fewestInColumns yX4_fewestInColumns, Cond.code yX4_fewestInColumns cX4_fewestInColumns 4 (some .int), Cond.methodLink RX4 53 yX4_stepColumns, Cond.instanceMethod yX4_stepColumns, Cond.selects RX4 yX4_stepColumns yX4_stepColumns]
def wsX4_findEnds_r2 : List Cond := [Cond.code yX4_stepColumns cX4_stepColumns 23 none, Cond.methodLink RX4 80 yX5_signAt, Cond.instanceMethod yX5_signAt, Cond.selects RX5 yX5_signAt yX5_signAt, Cond.initialized RX5, Cond.code yX5_signAt cX5_signAt 2 (some .char), Cond.fieldLink RX5 9 "SlipSearch$State" "text" "[C", Cond.methodLink RX4 84 yX2_placesThatTake, Cond.instanceMethod yX2_placesThatTake, Cond.selects RX2 yX2_placesThatTake yX2_placesThatTake, Cond.initialized RX2, Cond.code yX2_placesThatTake cX2_placesThatTake 3 (some .long), Cond.fieldLink RX2 15 "SlipSearch$Pattern" "placesTaking" "[J", Cond.methodLink RX4 88 yX5_mayBegin, Cond.instanceMethod yX5_mayBegin, Cond.selects RX5 yX5_mayBegin yX5_mayBegin, Cond.code yX5_mayBegin cX5_mayBegin 3 (some .boolean), Cond.methodLink RX5 37 yX5_signAt]
def wsX4_findEnds : List Cond := .code yX4_findEnds cX4_findEnds 4 none :: ((wsX4_findEnds_r1 ++ wsX4_findEnds_r2) ++ wsX40 ++ wsX50 ++ wsX20)
def wsX4_noteBeginning : List Cond := .code yX4_noteBeginning cX4_noteBeginning 4 none :: ([.fieldLink RX4 22 "SlipSearch$Search" "beginningAt" "[I", .fieldLink RX4 15 "SlipSearch$Search" "keys" "[I"] ++ wsX20 ++ wsX40)
def wsX4_stepKeys : List Cond := .code yX4_stepKeys cX4_stepKeys 12 none :: ([.fieldLink RX4 15 "SlipSearch$Search" "keys" "[I", .methodLink RX4 103 Lib.Math.min.name, .static Lib.Math.min.name, .initialized "java/lang/Math", .code Lib.Math.min.name Lib.Math.min.code 2 (some .int), .methodLink RX4 80 yX5_signAt, .instanceMethod yX5_signAt, .selects RX5 yX5_signAt yX5_signAt, .initialized RX5, .code yX5_signAt cX5_signAt 2 (some .char), .fieldLink RX5 9 "SlipSearch$State" "text" "[C", .methodLink RX4 84 yX2_placesThatTake, .instanceMethod yX2_placesThatTake, .selects RX2 yX2_placesThatTake yX2_placesThatTake, .initialized RX2, .code yX2_placesThatTake cX2_placesThatTake 3 (some .long), .fieldLink RX2 15 "SlipSearch$Pattern" "placesTaking" "[J", .methodLink RX4 88 yX5_mayBegin, .instanceMethod yX5_mayBegin, .selects RX5 yX5_mayBegin yX5_mayBegin, .code yX5_mayBegin cX5_mayBegin 3 (some .boolean), .methodLink RX5 37 yX5_signAt] ++ wsX40 ++ wsX20 ++ wsX50)
def wsX4_findBeginnings_r1 : List Cond := [Cond.fieldLink RX4 15 "SlipSearch$Search" "keys" "[I", Cond.methodLink RX4 96 yX4_noteBeginning, Cond.instanceMethod yX4_noteBeginning, Cond.selects RX4 yX4_noteBeginning yX4_noteBeginning, Cond.initialized RX4, Cond.code yX4_noteBeginning cX4_noteBeginning 4 none, Cond.fieldLink RX4 22 "SlipSearch$Search" "beginningAt" "[I", Cond.methodLink RX4 100 yX4_stepKeys, Cond.instanceMethod yX4_stepKeys, Cond.selects RX4 yX4_stepKeys yX4_stepKeys, Cond.code yX4_stepKeys cX4_stepKeys 12 none, Cond.methodLink RX4 103 Lib.Math.min.name, Cond.static Lib.Math.min.name, Cond.initialized "java/lang/Math", Cond.code Lib.Math.min.name Lib.Math.min.code 2 (some .int), Cond.methodLink RX4 80 yX5_signAt, Cond.instanceMethod yX5_signAt, Cond.selects RX5 yX5_signAt yX5_signAt, Cond.initialized RX5, Cond.code yX5_signAt cX5_signAt 2 (some .char), Cond.fieldLink RX5 9 "SlipSearch$State" "text" "[C", Cond.methodLink RX4 84 yX2_placesThatTake, Cond.instanceMethod yX2_placesThatTake, Cond.selects RX2 yX2_placesThatTake yX2_placesThatTake]
def wsX4_findBeginnings_r2 : List Cond := [Cond.initialized RX2, Cond.code yX2_placesThatTake cX2_placesThatTake 3 (some .long), Cond.fieldLink RX2 15 "SlipSearch$Pattern" "placesTaking" "[J", Cond.methodLink RX4 88 yX5_mayBegin, Cond.instanceMethod yX5_mayBegin, Cond.selects RX5 yX5_mayBegin yX5_mayBegin, Cond.code yX5_mayBegin cX5_mayBegin 3 (some .boolean), Cond.methodLink RX5 37 yX5_signAt]
def wsX4_findBeginnings : List Cond := .code yX4_findBeginnings cX4_findBeginnings 4 none :: ((wsX4_findBeginnings_r1 ++ wsX4_findBeginnings_r2) ++ wsX40 ++ wsX50 ++ wsX20)
def wsX4_tell : List Cond := .code yX4_tell cX4_tell 4 (some .int) :: ([.fieldLink RX4 36 "SlipSearch$Search" "listed" "I", .fieldLink RX4 33 "SlipSearch$Search" "ends" "[I", .fieldLink RX4 19 "SlipSearch$Search" "slipsAt" "[I", .fieldLink RX4 22 "SlipSearch$Search" "beginningAt" "[I"] ++ wsX40)
def wsX4_findAlone_r1 : List Cond := [Cond.fieldLink RX4 36 "SlipSearch$Search" "listed" "I", Cond.fieldLink RX4 33 "SlipSearch$Search" "ends" "[I", Cond.methodLink RX4 56 yX4_findEnds, Cond.instanceMethod yX4_findEnds, Cond.selects RX4 yX4_findEnds yX4_findEnds, Cond.initialized RX4, Cond.code yX4_findEnds cX4_findEnds 4 none, Cond.methodLink RX4 40 yX4_openColumns, Cond.instanceMethod yX4_openColumns, Cond.selects RX4 yX4_openColumns yX4_openColumns, Cond.code yX4_openColumns cX4_openColumns 6 none, Cond.fieldLink RX4 9 "SlipSearch$Search" "columns" "[J", Cond.methodLink RX4 76 yX4_columnMask, Cond.static yX4_columnMask, Cond.code yX4_columnMask cX4_columnMask 1 (some .long), Cond.constantLong RX4 66 (2), Cond.methodLink RX4 44 yX4_noteEnd, Cond.instanceMethod yX4_noteEnd, Cond.selects RX4 yX4_noteEnd yX4_noteEnd, Cond.code yX4_noteEnd cX4_noteEnd 4 none, Cond.fieldLink RX4 19 "SlipSearch$Search" "slipsAt" "[I", Cond.methodLink RX4 92 yX4_fewestInColumns, Cond.instanceMethod yX4_fewestInColumns, Cond.selects RX4 yX4_fewestInColumns yX4_fewestInColumns]
def wsX4_findAlone_r2 : List Cond := [Cond.code yX4_fewestInColumns cX4_fewestInColumns 4 (some .int), Cond.methodLink RX4 53 yX4_stepColumns, Cond.instanceMethod yX4_stepColumns, Cond.selects RX4 yX4_stepColumns yX4_stepColumns, Cond.code yX4_stepColumns cX4_stepColumns 23 none, Cond.methodLink RX4 80 yX5_signAt, Cond.instanceMethod yX5_signAt, Cond.selects RX5 yX5_signAt yX5_signAt, Cond.initialized RX5, Cond.code yX5_signAt cX5_signAt 2 (some .char), Cond.fieldLink RX5 9 "SlipSearch$State" "text" "[C", Cond.methodLink RX4 84 yX2_placesThatTake, Cond.instanceMethod yX2_placesThatTake, Cond.selects RX2 yX2_placesThatTake yX2_placesThatTake, Cond.initialized RX2, Cond.code yX2_placesThatTake cX2_placesThatTake 3 (some .long), Cond.fieldLink RX2 15 "SlipSearch$Pattern" "placesTaking" "[J", Cond.methodLink RX4 88 yX5_mayBegin, Cond.instanceMethod yX5_mayBegin, Cond.selects RX5 yX5_mayBegin yX5_mayBegin, Cond.code yX5_mayBegin cX5_mayBegin 3 (some .boolean), Cond.methodLink RX5 37 yX5_signAt, Cond.methodLink RX4 59 yX4_findBeginnings, Cond.instanceMethod yX4_findBeginnings]
def wsX4_findAlone_r3 : List Cond := [Cond.selects RX4 yX4_findBeginnings yX4_findBeginnings, Cond.code yX4_findBeginnings cX4_findBeginnings 4 none, Cond.fieldLink RX4 15 "SlipSearch$Search" "keys" "[I", Cond.methodLink RX4 96 yX4_noteBeginning, Cond.instanceMethod yX4_noteBeginning, Cond.selects RX4 yX4_noteBeginning yX4_noteBeginning, Cond.code yX4_noteBeginning cX4_noteBeginning 4 none, Cond.fieldLink RX4 22 "SlipSearch$Search" "beginningAt" "[I", Cond.methodLink RX4 100 yX4_stepKeys, Cond.instanceMethod yX4_stepKeys, Cond.selects RX4 yX4_stepKeys yX4_stepKeys, Cond.code yX4_stepKeys cX4_stepKeys 12 none, Cond.methodLink RX4 103 Lib.Math.min.name, Cond.static Lib.Math.min.name, Cond.initialized "java/lang/Math", Cond.code Lib.Math.min.name Lib.Math.min.code 2 (some .int), Cond.methodLink RX4 62 yX4_tell, Cond.instanceMethod yX4_tell, Cond.selects RX4 yX4_tell yX4_tell, Cond.code yX4_tell cX4_tell 4 (some .int)]
def wsX4_findAlone : List Cond := .code yX4_findAlone cX4_findAlone 7 none :: ((wsX4_findAlone_r1 ++ (wsX4_findAlone_r2 ++ wsX4_findAlone_r3)) ++ wsX40 ++ wsX50 ++ wsX20)
def wsX4_columnAt_r1 : List Cond := [Cond.fieldLink RX4 9 "SlipSearch$Search" "columns" "[J", Cond.methodLink RX4 40 yX4_openColumns, Cond.instanceMethod yX4_openColumns, Cond.selects RX4 yX4_openColumns yX4_openColumns, Cond.initialized RX4, Cond.code yX4_openColumns cX4_openColumns 6 none, Cond.methodLink RX4 76 yX4_columnMask, Cond.static yX4_columnMask, Cond.code yX4_columnMask cX4_columnMask 1 (some .long), Cond.constantLong RX4 66 (2), Cond.methodLink RX4 53 yX4_stepColumns, Cond.instanceMethod yX4_stepColumns, Cond.selects RX4 yX4_stepColumns yX4_stepColumns, Cond.code yX4_stepColumns cX4_stepColumns 23 none, Cond.methodLink RX4 80 yX5_signAt, Cond.instanceMethod yX5_signAt, Cond.selects RX5 yX5_signAt yX5_signAt, Cond.initialized RX5, Cond.code yX5_signAt cX5_signAt 2 (some .char), Cond.fieldLink RX5 9 "SlipSearch$State" "text" "[C", Cond.methodLink RX4 84 yX2_placesThatTake, Cond.instanceMethod yX2_placesThatTake, Cond.selects RX2 yX2_placesThatTake yX2_placesThatTake, Cond.initialized RX2]
def wsX4_columnAt_r2 : List Cond := [Cond.code yX2_placesThatTake cX2_placesThatTake 3 (some .long), Cond.fieldLink RX2 15 "SlipSearch$Pattern" "placesTaking" "[J", Cond.methodLink RX4 88 yX5_mayBegin, Cond.instanceMethod yX5_mayBegin, Cond.selects RX5 yX5_mayBegin yX5_mayBegin, Cond.code yX5_mayBegin cX5_mayBegin 3 (some .boolean), Cond.methodLink RX5 37 yX5_signAt]
def wsX4_columnAt : List Cond := .code yX4_columnAt cX4_columnAt 6 (some .long) :: ((wsX4_columnAt_r1 ++ wsX4_columnAt_r2) ++ wsX40 ++ wsX50 ++ wsX20)
def wsX4_fewestSlips : List Cond := .code yX4_fewestSlips cX4_fewestSlips 4 (some .int) :: ([.fieldLink RX4 36 "SlipSearch$Search" "listed" "I", .methodLink RX4 62 yX4_tell, .instanceMethod yX4_tell, .selects RX4 yX4_tell yX4_tell, .initialized RX4, .code yX4_tell cX4_tell 4 (some .int), .fieldLink RX4 33 "SlipSearch$Search" "ends" "[I", .fieldLink RX4 19 "SlipSearch$Search" "slipsAt" "[I", .fieldLink RX4 22 "SlipSearch$Search" "beginningAt" "[I"] ++ wsX40)
def wsX4_firstWithFewest : List Cond := .code yX4_firstWithFewest cX4_firstWithFewest 3 (some .int) :: ([.fieldLink RX4 36 "SlipSearch$Search" "listed" "I", .methodLink RX4 108 yX4_fewestSlips, .instanceMethod yX4_fewestSlips, .selects RX4 yX4_fewestSlips yX4_fewestSlips, .initialized RX4, .code yX4_fewestSlips cX4_fewestSlips 4 (some .int), .methodLink RX4 62 yX4_tell, .instanceMethod yX4_tell, .selects RX4 yX4_tell yX4_tell, .code yX4_tell cX4_tell 4 (some .int), .fieldLink RX4 33 "SlipSearch$Search" "ends" "[I", .fieldLink RX4 19 "SlipSearch$Search" "slipsAt" "[I", .fieldLink RX4 22 "SlipSearch$Search" "beginningAt" "[I"] ++ wsX40)
def wsX4_sumOfShares : List Cond := .code yX4_sumOfShares cX4_sumOfShares 5 (some .double) :: ([.fieldLink RX4 36 "SlipSearch$Search" "listed" "I", .methodLink RX4 62 yX4_tell, .instanceMethod yX4_tell, .selects RX4 yX4_tell yX4_tell, .initialized RX4, .code yX4_tell cX4_tell 4 (some .int), .fieldLink RX4 33 "SlipSearch$Search" "ends" "[I", .fieldLink RX4 19 "SlipSearch$Search" "slipsAt" "[I", .fieldLink RX4 22 "SlipSearch$Search" "beginningAt" "[I"] ++ wsX40)
def wsX4_lengthWithParts : List Cond := .code yX4_lengthWithParts cX4_lengthWithParts 4 (some .int) :: ([.fieldLink RX4 36 "SlipSearch$Search" "listed" "I", .methodLink RX4 62 yX4_tell, .instanceMethod yX4_tell, .selects RX4 yX4_tell yX4_tell, .initialized RX4, .code yX4_tell cX4_tell 4 (some .int), .fieldLink RX4 33 "SlipSearch$Search" "ends" "[I", .fieldLink RX4 19 "SlipSearch$Search" "slipsAt" "[I", .fieldLink RX4 22 "SlipSearch$Search" "beginningAt" "[I"] ++ wsX40)
def wsX5_append : List Cond := .code yX5_append cX5_append 2 none :: ([.fieldLink RX5 15 "SlipSearch$State" "length" "I", .fieldLink RX5 9 "SlipSearch$State" "text" "[C"] ++ wsX50)
def wsX4_putLetterForParts : List Cond := .code yX4_putLetterForParts cX4_putLetterForParts 9 none :: ([.fieldLink RX4 29 "SlipSearch$Search" "oldText" "[C", .methodLink RX4 115 arraycopyName, .native arraycopyName, .static arraycopyName, .initialized "java/lang/System", .fieldLink RX4 36 "SlipSearch$Search" "listed" "I", .methodLink RX4 62 yX4_tell, .instanceMethod yX4_tell, .selects RX4 yX4_tell yX4_tell, .initialized RX4, .code yX4_tell cX4_tell 4 (some .int), .fieldLink RX4 33 "SlipSearch$Search" "ends" "[I", .fieldLink RX4 19 "SlipSearch$Search" "slipsAt" "[I", .fieldLink RX4 22 "SlipSearch$Search" "beginningAt" "[I", .methodLink RX4 121 yX5_append, .instanceMethod yX5_append, .selects RX5 yX5_append yX5_append, .initialized RX5, .code yX5_append cX5_append 2 none, .fieldLink RX5 15 "SlipSearch$State" "length" "I", .fieldLink RX5 9 "SlipSearch$State" "text" "[C"] ++ wsX50 ++ wsX40)
def wsX4_clearMarks : List Cond := .code yX4_clearMarks cX4_clearMarks 2 none :: ([.fieldLink RX4 25 "SlipSearch$Search" "marked" "[Z"] ++ wsX40)
def wsX4_markEnds : List Cond := .code yX4_markEnds cX4_markEnds 3 none :: ([.fieldLink RX4 36 "SlipSearch$Search" "listed" "I", .fieldLink RX4 25 "SlipSearch$Search" "marked" "[Z", .methodLink RX4 62 yX4_tell, .instanceMethod yX4_tell, .selects RX4 yX4_tell yX4_tell, .initialized RX4, .code yX4_tell cX4_tell 4 (some .int), .fieldLink RX4 33 "SlipSearch$Search" "ends" "[I", .fieldLink RX4 19 "SlipSearch$Search" "slipsAt" "[I", .fieldLink RX4 22 "SlipSearch$Search" "beginningAt" "[I"] ++ wsX40)
def wsX4_countMarks : List Cond := .code yX4_countMarks cX4_countMarks 3 (some .int) :: ([.fieldLink RX4 25 "SlipSearch$Search" "marked" "[Z"] ++ wsX40)
def wsX5_countBlanks : List Cond := .code yX5_countBlanks cX5_countBlanks 3 (some .int) :: ([.fieldLink RX5 15 "SlipSearch$State" "length" "I", .methodLink RX5 37 yX5_signAt, .instanceMethod yX5_signAt, .selects RX5 yX5_signAt yX5_signAt, .initialized RX5, .code yX5_signAt cX5_signAt 2 (some .char), .fieldLink RX5 9 "SlipSearch$State" "text" "[C"] ++ wsX50)
def wsX5_patternOrNull : List Cond := .code yX5_patternOrNull cX5_patternOrNull 2 (some (.object "SlipSearch$Pattern")) :: ([.fieldLink RX5 25 "SlipSearch$State" "patternCount" "I", .fieldLink RX5 21 "SlipSearch$State" "patterns" "[LSlipSearch$Pattern;"] ++ wsX50)
def wsX5_addLast : List Cond := .code yX5_addLast cX5_addLast 2 none :: ([.fieldLink RX5 25 "SlipSearch$State" "patternCount" "I", .fieldLink RX5 21 "SlipSearch$State" "patterns" "[LSlipSearch$Pattern;"] ++ wsX50)
def wsX5_removeNumber : List Cond := .code yX5_removeNumber cX5_removeNumber 3 none :: ([.fieldLink RX5 21 "SlipSearch$State" "patterns" "[LSlipSearch$Pattern;", .fieldLink RX5 25 "SlipSearch$State" "patternCount" "I"] ++ wsX50)
def wsX6_init : List Cond := .code yX6_init cX6_init 1 none :: ([.methodLink RX6 5 objectInit, .instanceMethod objectInit, .code objectInit ⟨#[0xb1]⟩ 1 none, .arrayClass .int, .fieldLink RX6 11 "SlipSearch$Way" "ways" "[I"] ++ wsX60)
def wsX6_firstOfFewest : List Cond := .code yX6_firstOfFewest cX6_firstOfFewest 2 (some .int) :: ([])
def wsX6_stepWays : List Cond := .code yX6_stepWays cX6_stepWays 12 none :: ([.fieldLink RX6 11 "SlipSearch$Way" "ways" "[I", .constant RX6 36 (2113536), .constant RX6 37 (2097153), .constant RX6 15 (2097280), .methodLink RX6 26 yX5_signAt, .instanceMethod yX5_signAt, .selects RX5 yX5_signAt yX5_signAt, .initialized RX5, .code yX5_signAt cX5_signAt 2 (some .char), .fieldLink RX5 9 "SlipSearch$State" "text" "[C", .methodLink RX6 32 yX2_placesThatTake, .instanceMethod yX2_placesThatTake, .selects RX2 yX2_placesThatTake yX2_placesThatTake, .initialized RX2, .code yX2_placesThatTake cX2_placesThatTake 3 (some .long), .fieldLink RX2 15 "SlipSearch$Pattern" "placesTaking" "[J", .methodLink RX6 38 yX6_firstOfFewest, .static yX6_firstOfFewest, .initialized RX6, .code yX6_firstOfFewest cX6_firstOfFewest 2 (some .int)] ++ wsX60 ++ wsX20 ++ wsX50)
def wsX6_countSlips : List Cond := .code yX6_countSlips cX6_countSlips 8 (some .int) :: ([.fieldLink RX6 11 "SlipSearch$Way" "ways" "[I", .constant RX6 15 (2097280), .methodLink RX6 16 yX6_stepWays, .instanceMethod yX6_stepWays, .selects RX6 yX6_stepWays yX6_stepWays, .initialized RX6, .code yX6_stepWays cX6_stepWays 12 none, .constant RX6 36 (2113536), .constant RX6 37 (2097153), .methodLink RX6 26 yX5_signAt, .instanceMethod yX5_signAt, .selects RX5 yX5_signAt yX5_signAt, .initialized RX5, .code yX5_signAt cX5_signAt 2 (some .char), .fieldLink RX5 9 "SlipSearch$State" "text" "[C", .methodLink RX6 32 yX2_placesThatTake, .instanceMethod yX2_placesThatTake, .selects RX2 yX2_placesThatTake yX2_placesThatTake, .initialized RX2, .code yX2_placesThatTake cX2_placesThatTake 3 (some .long), .fieldLink RX2 15 "SlipSearch$Pattern" "placesTaking" "[J", .methodLink RX6 38 yX6_firstOfFewest, .static yX6_firstOfFewest, .code yX6_firstOfFewest cX6_firstOfFewest 2 (some .int)] ++ wsX60 ++ wsX20 ++ wsX50)
def wsX7_init_r1 : List Cond := [Cond.methodLink RX7 3 objectInit, Cond.instanceMethod objectInit, Cond.code objectInit ⟨#[0xb1]⟩ 1 none, Cond.classLink RX7 9 RX5, Cond.instantiable RX5 5, Cond.initialized RX5, Cond.fieldLink RX7 12 "SlipSearch" "now" "LSlipSearch$State;", Cond.fieldLink RX7 16 "SlipSearch" "snapshot" "LSlipSearch$State;", Cond.fieldLink RX7 19 "SlipSearch" "hasSnapshot" "Z", Cond.classLink RX7 23 RX0, Cond.instantiable RX0 2, Cond.initialized RX0, Cond.fieldLink RX7 26 "SlipSearch" "history" "LSlipSearch$History;", Cond.classLink RX7 30 RX1, Cond.instantiable RX1 2, Cond.initialized RX1, Cond.fieldLink RX7 33 "SlipSearch" "pad" "LSlipSearch$Pad;", Cond.classLink RX7 37 RX3, Cond.instantiable RX3 7, Cond.initialized RX3, Cond.fieldLink RX7 40 "SlipSearch" "reader" "LSlipSearch$PatternReader;", Cond.classLink RX7 44 RX4, Cond.instantiable RX4 8, Cond.initialized RX4]
def wsX7_init_r2 : List Cond := [Cond.fieldLink RX7 47 "SlipSearch" "search" "LSlipSearch$Search;", Cond.classLink RX7 51 RX6, Cond.instantiable RX6 1, Cond.initialized RX6, Cond.fieldLink RX7 54 "SlipSearch" "way" "LSlipSearch$Way;", Cond.instanceMethod yX5_init, Cond.code yX5_init cX5_init 1 none, Cond.methodLink RX5 3 objectInit, Cond.arrayClass .char, Cond.fieldLink RX5 9 "SlipSearch$State" "text" "[C", Cond.fieldLink RX5 15 "SlipSearch$State" "length" "I", Cond.classLink RX5 19 RX2, Cond.fieldLink RX5 21 "SlipSearch$State" "patterns" "[LSlipSearch$Pattern;", Cond.fieldLink RX5 25 "SlipSearch$State" "patternCount" "I", Cond.fieldLink RX5 28 "SlipSearch$State" "mostSlips" "I", Cond.methodLink RX7 25 yX0_init, Cond.instanceMethod yX0_init, Cond.code yX0_init cX0_init 2 none, Cond.methodLink RX0 3 objectInit, Cond.classLink RX0 9 RX5, Cond.fieldLink RX0 11 "SlipSearch$History" "states" "[LSlipSearch$State;", Cond.fieldLink RX0 17 "SlipSearch$History" "count" "I", Cond.instanceMethod yX1_init, Cond.code yX1_init cX1_init 1 none]
def wsX7_init_r3 : List Cond := [Cond.methodLink RX1 3 objectInit, Cond.fieldLink RX1 9 "SlipSearch$Pad" "typed" "[C", Cond.fieldLink RX1 15 "SlipSearch$Pad" "length" "I", Cond.instanceMethod yX3_init, Cond.code yX3_init cX3_init 1 none, Cond.methodLink RX3 3 objectInit, Cond.arrayClass .int, Cond.fieldLink RX3 9 "SlipSearch$PatternReader" "places" "[I", Cond.fieldLink RX3 15 "SlipSearch$PatternReader" "placeCount" "I", Cond.fieldLink RX3 19 "SlipSearch$PatternReader" "bound" "Z", Cond.fieldLink RX3 23 "SlipSearch$PatternReader" "mode" "I", Cond.fieldLink RX3 26 "SlipSearch$PatternReader" "turned" "Z", Cond.fieldLink RX3 29 "SlipSearch$PatternReader" "set" "I", Cond.fieldLink RX3 32 "SlipSearch$PatternReader" "lastOfSet" "C", Cond.instanceMethod yX4_init, Cond.code yX4_init cX4_init 1 none, Cond.methodLink RX4 3 objectInit, Cond.arrayClass .long, Cond.fieldLink RX4 9 "SlipSearch$Search" "columns" "[J", Cond.fieldLink RX4 15 "SlipSearch$Search" "keys" "[I", Cond.fieldLink RX4 19 "SlipSearch$Search" "slipsAt" "[I", Cond.fieldLink RX4 22 "SlipSearch$Search" "beginningAt" "[I", Cond.arrayClass .boolean, Cond.fieldLink RX4 25 "SlipSearch$Search" "marked" "[Z"]
def wsX7_init_r4 : List Cond := [Cond.fieldLink RX4 29 "SlipSearch$Search" "oldText" "[C", Cond.fieldLink RX4 33 "SlipSearch$Search" "ends" "[I", Cond.fieldLink RX4 36 "SlipSearch$Search" "listed" "I", Cond.instanceMethod yX6_init, Cond.code yX6_init cX6_init 1 none, Cond.methodLink RX6 5 objectInit, Cond.fieldLink RX6 11 "SlipSearch$Way" "ways" "[I"]
def wsX7_init : List Cond := .code yX7_init cX7_init 1 none :: ((wsX7_init_r1 ++ (wsX7_init_r2 ++ (wsX7_init_r3 ++ wsX7_init_r4))) ++ wsX50 ++ wsX70 ++ wsX00 ++ wsX10 ++ wsX30 ++ wsX40 ++ wsX60)
def wsX7_isSign : List Cond := .code yX7_isSign cX7_isSign 1 (some .boolean) :: ([.methodLink RX7 87 yX7_isLetter, .static yX7_isLetter, .initialized RX7, .code yX7_isLetter cX7_isLetter 1 (some .boolean)])
def wsX7_write_r1 : List Cond := [Cond.fieldLink RX7 12 "SlipSearch" "now" "LSlipSearch$State;", Cond.fieldLink RX7 26 "SlipSearch" "history" "LSlipSearch$History;", Cond.methodLink RX7 58 yX7_isSign, Cond.static yX7_isSign, Cond.initialized RX7, Cond.code yX7_isSign cX7_isSign 1 (some .boolean), Cond.methodLink RX7 87 yX7_isLetter, Cond.static yX7_isLetter, Cond.code yX7_isLetter cX7_isLetter 1 (some .boolean), Cond.methodLink RX7 66 yX0_record, Cond.instanceMethod yX0_record, Cond.selects RX0 yX0_record yX0_record, Cond.initialized RX0, Cond.code yX0_record cX0_record 2 none, Cond.fieldLink RX0 17 "SlipSearch$History" "count" "I", Cond.fieldLink RX0 11 "SlipSearch$History" "states" "[LSlipSearch$State;", Cond.methodLink RX0 22 yX0_dropOldest, Cond.instanceMethod yX0_dropOldest, Cond.selects RX0 yX0_dropOldest yX0_dropOldest, Cond.code yX0_dropOldest cX0_dropOldest 3 none, Cond.methodLink RX0 25 yX5_copyFrom, Cond.instanceMethod yX5_copyFrom, Cond.selects RX5 yX5_copyFrom yX5_copyFrom, Cond.initialized RX5]
def wsX7_write_r2 : List Cond := [Cond.code yX5_copyFrom cX5_copyFrom 3 none, Cond.fieldLink RX5 9 "SlipSearch$State" "text" "[C", Cond.methodLink RX5 31 arraycopyName, Cond.native arraycopyName, Cond.static arraycopyName, Cond.initialized "java/lang/System", Cond.fieldLink RX5 15 "SlipSearch$State" "length" "I", Cond.fieldLink RX5 21 "SlipSearch$State" "patterns" "[LSlipSearch$Pattern;", Cond.fieldLink RX5 25 "SlipSearch$State" "patternCount" "I", Cond.fieldLink RX5 28 "SlipSearch$State" "mostSlips" "I", Cond.methodLink RX7 70 yX5_append, Cond.instanceMethod yX5_append, Cond.selects RX5 yX5_append yX5_append, Cond.code yX5_append cX5_append 2 none]
def wsX7_write : List Cond := .code yX7_write cX7_write 2 (some .int) :: ((wsX7_write_r1 ++ wsX7_write_r2) ++ wsX70 ++ wsX50 ++ wsX00)
def wsX7_writePad_r1 : List Cond := [Cond.fieldLink RX7 33 "SlipSearch" "pad" "LSlipSearch$Pad;", Cond.fieldLink RX7 12 "SlipSearch" "now" "LSlipSearch$State;", Cond.fieldLink RX7 26 "SlipSearch" "history" "LSlipSearch$History;", Cond.methodLink RX7 74 yX1_canBeWritten, Cond.instanceMethod yX1_canBeWritten, Cond.selects RX1 yX1_canBeWritten yX1_canBeWritten, Cond.initialized RX1, Cond.code yX1_canBeWritten cX1_canBeWritten 2 (some .boolean), Cond.fieldLink RX1 15 "SlipSearch$Pad" "length" "I", Cond.methodLink RX1 19 yX1_signAt, Cond.instanceMethod yX1_signAt, Cond.selects RX1 yX1_signAt yX1_signAt, Cond.code yX1_signAt cX1_signAt 2 (some .char), Cond.fieldLink RX1 9 "SlipSearch$Pad" "typed" "[C", Cond.static yX7_isLetter, Cond.initialized RX7, Cond.code yX7_isLetter cX7_isLetter 1 (some .boolean), Cond.methodLink RX7 66 yX0_record, Cond.instanceMethod yX0_record, Cond.selects RX0 yX0_record yX0_record, Cond.initialized RX0, Cond.code yX0_record cX0_record 2 none, Cond.fieldLink RX0 17 "SlipSearch$History" "count" "I", Cond.fieldLink RX0 11 "SlipSearch$History" "states" "[LSlipSearch$State;"]
def wsX7_writePad_r2 : List Cond := [Cond.methodLink RX0 22 yX0_dropOldest, Cond.instanceMethod yX0_dropOldest, Cond.selects RX0 yX0_dropOldest yX0_dropOldest, Cond.code yX0_dropOldest cX0_dropOldest 3 none, Cond.methodLink RX0 25 yX5_copyFrom, Cond.instanceMethod yX5_copyFrom, Cond.selects RX5 yX5_copyFrom yX5_copyFrom, Cond.initialized RX5, Cond.code yX5_copyFrom cX5_copyFrom 3 none, Cond.fieldLink RX5 9 "SlipSearch$State" "text" "[C", Cond.methodLink RX5 31 arraycopyName, Cond.native arraycopyName, Cond.static arraycopyName, Cond.initialized "java/lang/System", Cond.fieldLink RX5 15 "SlipSearch$State" "length" "I", Cond.fieldLink RX5 21 "SlipSearch$State" "patterns" "[LSlipSearch$Pattern;", Cond.fieldLink RX5 25 "SlipSearch$State" "patternCount" "I", Cond.fieldLink RX5 28 "SlipSearch$State" "mostSlips" "I", Cond.methodLink RX7 79 yX1_signAt, Cond.methodLink RX7 70 yX5_append, Cond.instanceMethod yX5_append, Cond.selects RX5 yX5_append yX5_append, Cond.code yX5_append cX5_append 2 none]
def wsX7_writePad : List Cond := .code yX7_writePad cX7_writePad 3 (some .int) :: ((wsX7_writePad_r1 ++ wsX7_writePad_r2) ++ wsX70 ++ wsX50 ++ wsX10 ++ wsX00)
def wsX7_cut_r1 : List Cond := [Cond.fieldLink RX7 12 "SlipSearch" "now" "LSlipSearch$State;", Cond.fieldLink RX7 26 "SlipSearch" "history" "LSlipSearch$History;", Cond.methodLink RX7 66 yX0_record, Cond.instanceMethod yX0_record, Cond.selects RX0 yX0_record yX0_record, Cond.initialized RX0, Cond.code yX0_record cX0_record 2 none, Cond.fieldLink RX0 17 "SlipSearch$History" "count" "I", Cond.fieldLink RX0 11 "SlipSearch$History" "states" "[LSlipSearch$State;", Cond.methodLink RX0 22 yX0_dropOldest, Cond.instanceMethod yX0_dropOldest, Cond.selects RX0 yX0_dropOldest yX0_dropOldest, Cond.code yX0_dropOldest cX0_dropOldest 3 none, Cond.methodLink RX0 25 yX5_copyFrom, Cond.instanceMethod yX5_copyFrom, Cond.selects RX5 yX5_copyFrom yX5_copyFrom, Cond.initialized RX5, Cond.code yX5_copyFrom cX5_copyFrom 3 none, Cond.fieldLink RX5 9 "SlipSearch$State" "text" "[C", Cond.methodLink RX5 31 arraycopyName, Cond.native arraycopyName, Cond.static arraycopyName, Cond.initialized "java/lang/System", Cond.fieldLink RX5 15 "SlipSearch$State" "length" "I"]
def wsX7_cut_r2 : List Cond := [Cond.fieldLink RX5 21 "SlipSearch$State" "patterns" "[LSlipSearch$Pattern;", Cond.fieldLink RX5 25 "SlipSearch$State" "patternCount" "I", Cond.fieldLink RX5 28 "SlipSearch$State" "mostSlips" "I"]
def wsX7_cut : List Cond := .code yX7_cut cX7_cut 2 (some .int) :: ((wsX7_cut_r1 ++ wsX7_cut_r2) ++ wsX70 ++ wsX50 ++ wsX00)
def wsX7_replace_r1 : List Cond := [Cond.fieldLink RX7 12 "SlipSearch" "now" "LSlipSearch$State;", Cond.fieldLink RX7 47 "SlipSearch" "search" "LSlipSearch$Search;", Cond.fieldLink RX7 26 "SlipSearch" "history" "LSlipSearch$History;", Cond.methodLink RX7 83 yX5_patternOrNull, Cond.instanceMethod yX5_patternOrNull, Cond.selects RX5 yX5_patternOrNull yX5_patternOrNull, Cond.initialized RX5, Cond.code yX5_patternOrNull cX5_patternOrNull 2 (some (.object "SlipSearch$Pattern")), Cond.fieldLink RX5 25 "SlipSearch$State" "patternCount" "I", Cond.fieldLink RX5 21 "SlipSearch$State" "patterns" "[LSlipSearch$Pattern;", Cond.methodLink RX7 87 yX7_isLetter, Cond.static yX7_isLetter, Cond.initialized RX7, Cond.code yX7_isLetter cX7_isLetter 1 (some .boolean), Cond.methodLink RX7 90 yX4_findAlone, Cond.instanceMethod yX4_findAlone, Cond.selects RX4 yX4_findAlone yX4_findAlone, Cond.initialized RX4, Cond.code yX4_findAlone cX4_findAlone 7 none, Cond.fieldLink RX4 36 "SlipSearch$Search" "listed" "I", Cond.fieldLink RX4 33 "SlipSearch$Search" "ends" "[I", Cond.methodLink RX4 56 yX4_findEnds, Cond.instanceMethod yX4_findEnds, Cond.selects RX4 yX4_findEnds yX4_findEnds]
def wsX7_replace_r2 : List Cond := [Cond.code yX4_findEnds cX4_findEnds 4 none, Cond.methodLink RX4 40 yX4_openColumns, Cond.instanceMethod yX4_openColumns, Cond.selects RX4 yX4_openColumns yX4_openColumns, Cond.code yX4_openColumns cX4_openColumns 6 none, Cond.fieldLink RX4 9 "SlipSearch$Search" "columns" "[J", Cond.methodLink RX4 76 yX4_columnMask, Cond.static yX4_columnMask, Cond.code yX4_columnMask cX4_columnMask 1 (some .long), Cond.constantLong RX4 66 (2), Cond.methodLink RX4 44 yX4_noteEnd, Cond.instanceMethod yX4_noteEnd, Cond.selects RX4 yX4_noteEnd yX4_noteEnd, Cond.code yX4_noteEnd cX4_noteEnd 4 none, Cond.fieldLink RX4 19 "SlipSearch$Search" "slipsAt" "[I", Cond.methodLink RX4 92 yX4_fewestInColumns, Cond.instanceMethod yX4_fewestInColumns, Cond.selects RX4 yX4_fewestInColumns yX4_fewestInColumns, Cond.code yX4_fewestInColumns cX4_fewestInColumns 4 (some .int), Cond.methodLink RX4 53 yX4_stepColumns, Cond.instanceMethod yX4_stepColumns, Cond.selects RX4 yX4_stepColumns yX4_stepColumns, Cond.code yX4_stepColumns cX4_stepColumns 23 none, Cond.methodLink RX4 80 yX5_signAt]
def wsX7_replace_r3 : List Cond := [Cond.instanceMethod yX5_signAt, Cond.selects RX5 yX5_signAt yX5_signAt, Cond.code yX5_signAt cX5_signAt 2 (some .char), Cond.fieldLink RX5 9 "SlipSearch$State" "text" "[C", Cond.methodLink RX4 84 yX2_placesThatTake, Cond.instanceMethod yX2_placesThatTake, Cond.selects RX2 yX2_placesThatTake yX2_placesThatTake, Cond.initialized RX2, Cond.code yX2_placesThatTake cX2_placesThatTake 3 (some .long), Cond.fieldLink RX2 15 "SlipSearch$Pattern" "placesTaking" "[J", Cond.methodLink RX4 88 yX5_mayBegin, Cond.instanceMethod yX5_mayBegin, Cond.selects RX5 yX5_mayBegin yX5_mayBegin, Cond.code yX5_mayBegin cX5_mayBegin 3 (some .boolean), Cond.methodLink RX5 37 yX5_signAt, Cond.methodLink RX4 59 yX4_findBeginnings, Cond.instanceMethod yX4_findBeginnings, Cond.selects RX4 yX4_findBeginnings yX4_findBeginnings, Cond.code yX4_findBeginnings cX4_findBeginnings 4 none, Cond.fieldLink RX4 15 "SlipSearch$Search" "keys" "[I", Cond.methodLink RX4 96 yX4_noteBeginning, Cond.instanceMethod yX4_noteBeginning, Cond.selects RX4 yX4_noteBeginning yX4_noteBeginning, Cond.code yX4_noteBeginning cX4_noteBeginning 4 none]
def wsX7_replace_r4 : List Cond := [Cond.fieldLink RX4 22 "SlipSearch$Search" "beginningAt" "[I", Cond.methodLink RX4 100 yX4_stepKeys, Cond.instanceMethod yX4_stepKeys, Cond.selects RX4 yX4_stepKeys yX4_stepKeys, Cond.code yX4_stepKeys cX4_stepKeys 12 none, Cond.methodLink RX4 103 Lib.Math.min.name, Cond.static Lib.Math.min.name, Cond.initialized "java/lang/Math", Cond.code Lib.Math.min.name Lib.Math.min.code 2 (some .int), Cond.methodLink RX4 62 yX4_tell, Cond.instanceMethod yX4_tell, Cond.selects RX4 yX4_tell yX4_tell, Cond.code yX4_tell cX4_tell 4 (some .int), Cond.methodLink RX7 97 yX4_lengthWithParts, Cond.instanceMethod yX4_lengthWithParts, Cond.selects RX4 yX4_lengthWithParts yX4_lengthWithParts, Cond.code yX4_lengthWithParts cX4_lengthWithParts 4 (some .int), Cond.methodLink RX7 66 yX0_record, Cond.instanceMethod yX0_record, Cond.selects RX0 yX0_record yX0_record, Cond.initialized RX0, Cond.code yX0_record cX0_record 2 none, Cond.fieldLink RX0 17 "SlipSearch$History" "count" "I", Cond.fieldLink RX0 11 "SlipSearch$History" "states" "[LSlipSearch$State;"]
def wsX7_replace_r5 : List Cond := [Cond.methodLink RX0 22 yX0_dropOldest, Cond.instanceMethod yX0_dropOldest, Cond.selects RX0 yX0_dropOldest yX0_dropOldest, Cond.code yX0_dropOldest cX0_dropOldest 3 none, Cond.methodLink RX0 25 yX5_copyFrom, Cond.instanceMethod yX5_copyFrom, Cond.selects RX5 yX5_copyFrom yX5_copyFrom, Cond.code yX5_copyFrom cX5_copyFrom 3 none, Cond.methodLink RX5 31 arraycopyName, Cond.native arraycopyName, Cond.static arraycopyName, Cond.initialized "java/lang/System", Cond.fieldLink RX5 15 "SlipSearch$State" "length" "I", Cond.fieldLink RX5 28 "SlipSearch$State" "mostSlips" "I", Cond.methodLink RX7 101 yX4_putLetterForParts, Cond.instanceMethod yX4_putLetterForParts, Cond.selects RX4 yX4_putLetterForParts yX4_putLetterForParts, Cond.code yX4_putLetterForParts cX4_putLetterForParts 9 none, Cond.fieldLink RX4 29 "SlipSearch$Search" "oldText" "[C", Cond.methodLink RX4 115 arraycopyName, Cond.methodLink RX4 121 yX5_append, Cond.instanceMethod yX5_append, Cond.selects RX5 yX5_append yX5_append, Cond.code yX5_append cX5_append 2 none]
def wsX7_replace : List Cond := .code yX7_replace cX7_replace 4 (some .int) :: ((wsX7_replace_r1 ++ (wsX7_replace_r2 ++ (wsX7_replace_r3 ++ (wsX7_replace_r4 ++ wsX7_replace_r5)))) ++ wsX70 ++ wsX40 ++ wsX50 ++ wsX20 ++ wsX00)
def wsX7_addPattern_r1 : List Cond := [Cond.fieldLink RX7 40 "SlipSearch" "reader" "LSlipSearch$PatternReader;", Cond.fieldLink RX7 33 "SlipSearch" "pad" "LSlipSearch$Pad;", Cond.fieldLink RX7 12 "SlipSearch" "now" "LSlipSearch$State;", Cond.fieldLink RX7 26 "SlipSearch" "history" "LSlipSearch$History;", Cond.methodLink RX7 105 yX3_readFault, Cond.instanceMethod yX3_readFault, Cond.selects RX3 yX3_readFault yX3_readFault, Cond.initialized RX3, Cond.code yX3_readFault cX3_readFault 3 (some .int), Cond.fieldLink RX3 15 "SlipSearch$PatternReader" "placeCount" "I", Cond.fieldLink RX3 19 "SlipSearch$PatternReader" "bound" "Z", Cond.fieldLink RX3 23 "SlipSearch$PatternReader" "mode" "I", Cond.methodLink RX3 41 yX1_signAt, Cond.instanceMethod yX1_signAt, Cond.selects RX1 yX1_signAt yX1_signAt, Cond.initialized RX1, Cond.code yX1_signAt cX1_signAt 2 (some .char), Cond.fieldLink RX1 9 "SlipSearch$Pad" "typed" "[C", Cond.methodLink RX3 45 yX3_accepts, Cond.instanceMethod yX3_accepts, Cond.selects RX3 yX3_accepts yX3_accepts, Cond.code yX3_accepts cX3_accepts 2 (some .boolean), Cond.methodLink RX3 54 yX3_acceptsBeginning, Cond.instanceMethod yX3_acceptsBeginning]
def wsX7_addPattern_r2 : List Cond := [Cond.selects RX3 yX3_acceptsBeginning yX3_acceptsBeginning, Cond.code yX3_acceptsBeginning cX3_acceptsBeginning 2 (some .boolean), Cond.methodLink RX3 57 yX3_acceptsPlace, Cond.instanceMethod yX3_acceptsPlace, Cond.selects RX3 yX3_acceptsPlace yX3_acceptsPlace, Cond.code yX3_acceptsPlace cX3_acceptsPlace 2 (some .boolean), Cond.fieldLink RX3 29 "SlipSearch$PatternReader" "set" "I", Cond.fieldLink RX3 26 "SlipSearch$PatternReader" "turned" "Z", Cond.constant RX3 76 (134217727), Cond.constant RX3 77 (67108864), Cond.static yX7_isLetter, Cond.initialized RX7, Cond.code yX7_isLetter cX7_isLetter 1 (some .boolean), Cond.methodLink RX3 72 yX3_addPlace, Cond.instanceMethod yX3_addPlace, Cond.selects RX3 yX3_addPlace yX3_addPlace, Cond.code yX3_addPlace cX3_addPlace 2 none, Cond.fieldLink RX3 9 "SlipSearch$PatternReader" "places" "[I", Cond.methodLink RX3 60 yX3_acceptsFirstOfSet, Cond.instanceMethod yX3_acceptsFirstOfSet, Cond.selects RX3 yX3_acceptsFirstOfSet yX3_acceptsFirstOfSet, Cond.code yX3_acceptsFirstOfSet cX3_acceptsFirstOfSet 2 (some .boolean), Cond.methodLink RX3 63 yX3_acceptsLetterOfSet, Cond.instanceMethod yX3_acceptsLetterOfSet]
def wsX7_addPattern_r3 : List Cond := [Cond.selects RX3 yX3_acceptsLetterOfSet yX3_acceptsLetterOfSet, Cond.code yX3_acceptsLetterOfSet cX3_acceptsLetterOfSet 2 (some .boolean), Cond.fieldLink RX3 32 "SlipSearch$PatternReader" "lastOfSet" "C", Cond.methodLink RX3 66 yX3_acceptsRestOfSet, Cond.instanceMethod yX3_acceptsRestOfSet, Cond.selects RX3 yX3_acceptsRestOfSet yX3_acceptsRestOfSet, Cond.code yX3_acceptsRestOfSet cX3_acceptsRestOfSet 2 (some .boolean), Cond.constant RX3 78 (67108863), Cond.methodLink RX7 66 yX0_record, Cond.instanceMethod yX0_record, Cond.selects RX0 yX0_record yX0_record, Cond.initialized RX0, Cond.code yX0_record cX0_record 2 none, Cond.fieldLink RX0 17 "SlipSearch$History" "count" "I", Cond.fieldLink RX0 11 "SlipSearch$History" "states" "[LSlipSearch$State;", Cond.methodLink RX0 22 yX0_dropOldest, Cond.instanceMethod yX0_dropOldest, Cond.selects RX0 yX0_dropOldest yX0_dropOldest, Cond.code yX0_dropOldest cX0_dropOldest 3 none, Cond.methodLink RX0 25 yX5_copyFrom, Cond.instanceMethod yX5_copyFrom, Cond.selects RX5 yX5_copyFrom yX5_copyFrom, Cond.initialized RX5, Cond.code yX5_copyFrom cX5_copyFrom 3 none]
def wsX7_addPattern_r4 : List Cond := [Cond.fieldLink RX5 9 "SlipSearch$State" "text" "[C", Cond.methodLink RX5 31 arraycopyName, Cond.native arraycopyName, Cond.static arraycopyName, Cond.initialized "java/lang/System", Cond.fieldLink RX5 15 "SlipSearch$State" "length" "I", Cond.fieldLink RX5 21 "SlipSearch$State" "patterns" "[LSlipSearch$Pattern;", Cond.fieldLink RX5 25 "SlipSearch$State" "patternCount" "I", Cond.fieldLink RX5 28 "SlipSearch$State" "mostSlips" "I", Cond.methodLink RX7 112 yX3_makePattern, Cond.instanceMethod yX3_makePattern, Cond.selects RX3 yX3_makePattern yX3_makePattern, Cond.code yX3_makePattern cX3_makePattern 1 (some (.object "SlipSearch$Pattern")), Cond.classLink RX3 49 RX2, Cond.instantiable RX2 4, Cond.initialized RX2, Cond.methodLink RX3 51 yX2_init, Cond.instanceMethod yX2_init, Cond.code yX2_init cX2_init 7 none, Cond.methodLink RX2 3 objectInit, Cond.instanceMethod objectInit, Cond.code objectInit ⟨#[0xb1]⟩ 1 none, Cond.arrayClass .int, Cond.fieldLink RX2 9 "SlipSearch$Pattern" "places" "[I"]
def wsX7_addPattern_r5 : List Cond := [Cond.arrayClass .long, Cond.fieldLink RX2 15 "SlipSearch$Pattern" "placesTaking" "[J", Cond.fieldLink RX2 19 "SlipSearch$Pattern" "placeCount" "I", Cond.fieldLink RX2 23 "SlipSearch$Pattern" "bound" "Z", Cond.methodLink RX7 116 yX5_addLast, Cond.instanceMethod yX5_addLast, Cond.selects RX5 yX5_addLast yX5_addLast, Cond.code yX5_addLast cX5_addLast 2 none]
def wsX7_addPattern : List Cond := .code yX7_addPattern cX7_addPattern 2 (some .int) :: ((wsX7_addPattern_r1 ++ (wsX7_addPattern_r2 ++ (wsX7_addPattern_r3 ++ (wsX7_addPattern_r4 ++ wsX7_addPattern_r5)))) ++ wsX70 ++ wsX50 ++ wsX30 ++ wsX10 ++ wsX00 ++ wsX20)
def wsX7_removePattern_r1 : List Cond := [Cond.fieldLink RX7 12 "SlipSearch" "now" "LSlipSearch$State;", Cond.fieldLink RX7 26 "SlipSearch" "history" "LSlipSearch$History;", Cond.methodLink RX7 83 yX5_patternOrNull, Cond.instanceMethod yX5_patternOrNull, Cond.selects RX5 yX5_patternOrNull yX5_patternOrNull, Cond.initialized RX5, Cond.code yX5_patternOrNull cX5_patternOrNull 2 (some (.object "SlipSearch$Pattern")), Cond.fieldLink RX5 25 "SlipSearch$State" "patternCount" "I", Cond.fieldLink RX5 21 "SlipSearch$State" "patterns" "[LSlipSearch$Pattern;", Cond.methodLink RX7 66 yX0_record, Cond.instanceMethod yX0_record, Cond.selects RX0 yX0_record yX0_record, Cond.initialized RX0, Cond.code yX0_record cX0_record 2 none, Cond.fieldLink RX0 17 "SlipSearch$History" "count" "I", Cond.fieldLink RX0 11 "SlipSearch$History" "states" "[LSlipSearch$State;", Cond.methodLink RX0 22 yX0_dropOldest, Cond.instanceMethod yX0_dropOldest, Cond.selects RX0 yX0_dropOldest yX0_dropOldest, Cond.code yX0_dropOldest cX0_dropOldest 3 none, Cond.methodLink RX0 25 yX5_copyFrom, Cond.instanceMethod yX5_copyFrom, Cond.selects RX5 yX5_copyFrom yX5_copyFrom, Cond.code yX5_copyFrom cX5_copyFrom 3 none]
def wsX7_removePattern_r2 : List Cond := [Cond.fieldLink RX5 9 "SlipSearch$State" "text" "[C", Cond.methodLink RX5 31 arraycopyName, Cond.native arraycopyName, Cond.static arraycopyName, Cond.initialized "java/lang/System", Cond.fieldLink RX5 15 "SlipSearch$State" "length" "I", Cond.fieldLink RX5 28 "SlipSearch$State" "mostSlips" "I", Cond.methodLink RX7 120 yX5_removeNumber, Cond.instanceMethod yX5_removeNumber, Cond.selects RX5 yX5_removeNumber yX5_removeNumber, Cond.code yX5_removeNumber cX5_removeNumber 3 none]
def wsX7_removePattern : List Cond := .code yX7_removePattern cX7_removePattern 2 (some .int) :: ((wsX7_removePattern_r1 ++ wsX7_removePattern_r2) ++ wsX70 ++ wsX50 ++ wsX00)
def wsX7_setSlips_r1 : List Cond := [Cond.fieldLink RX7 12 "SlipSearch" "now" "LSlipSearch$State;", Cond.fieldLink RX7 26 "SlipSearch" "history" "LSlipSearch$History;", Cond.methodLink RX7 66 yX0_record, Cond.instanceMethod yX0_record, Cond.selects RX0 yX0_record yX0_record, Cond.initialized RX0, Cond.code yX0_record cX0_record 2 none, Cond.fieldLink RX0 17 "SlipSearch$History" "count" "I", Cond.fieldLink RX0 11 "SlipSearch$History" "states" "[LSlipSearch$State;", Cond.methodLink RX0 22 yX0_dropOldest, Cond.instanceMethod yX0_dropOldest, Cond.selects RX0 yX0_dropOldest yX0_dropOldest, Cond.code yX0_dropOldest cX0_dropOldest 3 none, Cond.methodLink RX0 25 yX5_copyFrom, Cond.instanceMethod yX5_copyFrom, Cond.selects RX5 yX5_copyFrom yX5_copyFrom, Cond.initialized RX5, Cond.code yX5_copyFrom cX5_copyFrom 3 none, Cond.fieldLink RX5 9 "SlipSearch$State" "text" "[C", Cond.methodLink RX5 31 arraycopyName, Cond.native arraycopyName, Cond.static arraycopyName, Cond.initialized "java/lang/System", Cond.fieldLink RX5 15 "SlipSearch$State" "length" "I"]
def wsX7_setSlips_r2 : List Cond := [Cond.fieldLink RX5 21 "SlipSearch$State" "patterns" "[LSlipSearch$Pattern;", Cond.fieldLink RX5 25 "SlipSearch$State" "patternCount" "I", Cond.fieldLink RX5 28 "SlipSearch$State" "mostSlips" "I"]
def wsX7_setSlips : List Cond := .code yX7_setSlips cX7_setSlips 3 (some .int) :: ((wsX7_setSlips_r1 ++ wsX7_setSlips_r2) ++ wsX70 ++ wsX50 ++ wsX00)
def wsX7_type : List Cond := .code yX7_type cX7_type 2 (some .int) :: ([.fieldLink RX7 33 "SlipSearch" "pad" "LSlipSearch$Pad;", .methodLink RX7 127 yX1_append, .instanceMethod yX1_append, .selects RX1 yX1_append yX1_append, .initialized RX1, .code yX1_append cX1_append 2 none, .fieldLink RX1 15 "SlipSearch$Pad" "length" "I", .fieldLink RX1 9 "SlipSearch$Pad" "typed" "[C"] ++ wsX70 ++ wsX10)
def wsX7_clearPad : List Cond := .code yX7_clearPad cX7_clearPad 2 (some .int) :: ([.fieldLink RX7 33 "SlipSearch" "pad" "LSlipSearch$Pad;"] ++ wsX70 ++ wsX10)
def wsX7_undo : List Cond := .code yX7_undo cX7_undo 1 (some .int) :: ([.fieldLink RX7 26 "SlipSearch" "history" "LSlipSearch$History;", .fieldLink RX7 12 "SlipSearch" "now" "LSlipSearch$State;", .methodLink RX7 131 yX0_takeLatestInto, .instanceMethod yX0_takeLatestInto, .selects RX0 yX0_takeLatestInto yX0_takeLatestInto, .initialized RX0, .code yX0_takeLatestInto cX0_takeLatestInto 2 none, .fieldLink RX0 17 "SlipSearch$History" "count" "I", .fieldLink RX0 11 "SlipSearch$History" "states" "[LSlipSearch$State;", .methodLink RX0 25 yX5_copyFrom, .instanceMethod yX5_copyFrom, .selects RX5 yX5_copyFrom yX5_copyFrom, .initialized RX5, .code yX5_copyFrom cX5_copyFrom 3 none, .fieldLink RX5 9 "SlipSearch$State" "text" "[C", .methodLink RX5 31 arraycopyName, .native arraycopyName, .static arraycopyName, .initialized "java/lang/System", .fieldLink RX5 15 "SlipSearch$State" "length" "I", .fieldLink RX5 21 "SlipSearch$State" "patterns" "[LSlipSearch$Pattern;", .fieldLink RX5 25 "SlipSearch$State" "patternCount" "I", .fieldLink RX5 28 "SlipSearch$State" "mostSlips" "I"] ++ wsX70 ++ wsX00 ++ wsX50)
def wsX7_keep : List Cond := .code yX7_keep cX7_keep 1 (some .int) :: ([.fieldLink RX7 16 "SlipSearch" "snapshot" "LSlipSearch$State;", .fieldLink RX7 12 "SlipSearch" "now" "LSlipSearch$State;", .fieldLink RX7 19 "SlipSearch" "hasSnapshot" "Z", .methodLink RX7 134 yX5_copyFrom, .instanceMethod yX5_copyFrom, .selects RX5 yX5_copyFrom yX5_copyFrom, .initialized RX5, .code yX5_copyFrom cX5_copyFrom 3 none, .fieldLink RX5 9 "SlipSearch$State" "text" "[C", .methodLink RX5 31 arraycopyName, .native arraycopyName, .static arraycopyName, .initialized "java/lang/System", .fieldLink RX5 15 "SlipSearch$State" "length" "I", .fieldLink RX5 21 "SlipSearch$State" "patterns" "[LSlipSearch$Pattern;", .fieldLink RX5 25 "SlipSearch$State" "patternCount" "I", .fieldLink RX5 28 "SlipSearch$State" "mostSlips" "I"] ++ wsX70 ++ wsX50)
def wsX7_restore_r1 : List Cond := [Cond.fieldLink RX7 19 "SlipSearch" "hasSnapshot" "Z", Cond.fieldLink RX7 26 "SlipSearch" "history" "LSlipSearch$History;", Cond.fieldLink RX7 12 "SlipSearch" "now" "LSlipSearch$State;", Cond.fieldLink RX7 16 "SlipSearch" "snapshot" "LSlipSearch$State;", Cond.methodLink RX7 66 yX0_record, Cond.instanceMethod yX0_record, Cond.selects RX0 yX0_record yX0_record, Cond.initialized RX0, Cond.code yX0_record cX0_record 2 none, Cond.fieldLink RX0 17 "SlipSearch$History" "count" "I", Cond.fieldLink RX0 11 "SlipSearch$History" "states" "[LSlipSearch$State;", Cond.methodLink RX0 22 yX0_dropOldest, Cond.instanceMethod yX0_dropOldest, Cond.selects RX0 yX0_dropOldest yX0_dropOldest, Cond.code yX0_dropOldest cX0_dropOldest 3 none, Cond.methodLink RX0 25 yX5_copyFrom, Cond.instanceMethod yX5_copyFrom, Cond.selects RX5 yX5_copyFrom yX5_copyFrom, Cond.initialized RX5, Cond.code yX5_copyFrom cX5_copyFrom 3 none, Cond.fieldLink RX5 9 "SlipSearch$State" "text" "[C", Cond.methodLink RX5 31 arraycopyName, Cond.native arraycopyName, Cond.static arraycopyName]
def wsX7_restore_r2 : List Cond := [Cond.initialized "java/lang/System", Cond.fieldLink RX5 15 "SlipSearch$State" "length" "I", Cond.fieldLink RX5 21 "SlipSearch$State" "patterns" "[LSlipSearch$Pattern;", Cond.fieldLink RX5 25 "SlipSearch$State" "patternCount" "I", Cond.fieldLink RX5 28 "SlipSearch$State" "mostSlips" "I", Cond.methodLink RX7 134 yX5_copyFrom]
def wsX7_restore : List Cond := .code yX7_restore cX7_restore 1 (some .int) :: ((wsX7_restore_r1 ++ wsX7_restore_r2) ++ wsX70 ++ wsX50 ++ wsX00)
def wsX7_at : List Cond := .code yX7_at cX7_at 2 (some .int) :: ([.fieldLink RX7 12 "SlipSearch" "now" "LSlipSearch$State;", .methodLink RX7 137 yX5_signAt, .instanceMethod yX5_signAt, .selects RX5 yX5_signAt yX5_signAt, .initialized RX5, .code yX5_signAt cX5_signAt 2 (some .char), .fieldLink RX5 9 "SlipSearch$State" "text" "[C"] ++ wsX70 ++ wsX50)
def wsX7_pattern_r1 : List Cond := [Cond.fieldLink RX7 12 "SlipSearch" "now" "LSlipSearch$State;", Cond.fieldLink RX7 47 "SlipSearch" "search" "LSlipSearch$Search;", Cond.methodLink RX7 83 yX5_patternOrNull, Cond.instanceMethod yX5_patternOrNull, Cond.selects RX5 yX5_patternOrNull yX5_patternOrNull, Cond.initialized RX5, Cond.code yX5_patternOrNull cX5_patternOrNull 2 (some (.object "SlipSearch$Pattern")), Cond.fieldLink RX5 25 "SlipSearch$State" "patternCount" "I", Cond.fieldLink RX5 21 "SlipSearch$State" "patterns" "[LSlipSearch$Pattern;", Cond.methodLink RX7 146 yX4_findEnds, Cond.instanceMethod yX4_findEnds, Cond.selects RX4 yX4_findEnds yX4_findEnds, Cond.initialized RX4, Cond.code yX4_findEnds cX4_findEnds 4 none, Cond.fieldLink RX4 36 "SlipSearch$Search" "listed" "I", Cond.methodLink RX4 40 yX4_openColumns, Cond.instanceMethod yX4_openColumns, Cond.selects RX4 yX4_openColumns yX4_openColumns, Cond.code yX4_openColumns cX4_openColumns 6 none, Cond.fieldLink RX4 9 "SlipSearch$Search" "columns" "[J", Cond.methodLink RX4 76 yX4_columnMask, Cond.static yX4_columnMask, Cond.code yX4_columnMask cX4_columnMask 1 (some .long), Cond.constantLong RX4 66 (2)]
def wsX7_pattern_r2 : List Cond := [Cond.methodLink RX4 44 yX4_noteEnd, Cond.instanceMethod yX4_noteEnd, Cond.selects RX4 yX4_noteEnd yX4_noteEnd, Cond.code yX4_noteEnd cX4_noteEnd 4 none, Cond.fieldLink RX4 19 "SlipSearch$Search" "slipsAt" "[I", Cond.fieldLink RX4 33 "SlipSearch$Search" "ends" "[I", Cond.methodLink RX4 92 yX4_fewestInColumns, Cond.instanceMethod yX4_fewestInColumns, Cond.selects RX4 yX4_fewestInColumns yX4_fewestInColumns, Cond.code yX4_fewestInColumns cX4_fewestInColumns 4 (some .int), Cond.methodLink RX4 53 yX4_stepColumns, Cond.instanceMethod yX4_stepColumns, Cond.selects RX4 yX4_stepColumns yX4_stepColumns, Cond.code yX4_stepColumns cX4_stepColumns 23 none, Cond.methodLink RX4 80 yX5_signAt, Cond.instanceMethod yX5_signAt, Cond.selects RX5 yX5_signAt yX5_signAt, Cond.code yX5_signAt cX5_signAt 2 (some .char), Cond.fieldLink RX5 9 "SlipSearch$State" "text" "[C", Cond.methodLink RX4 84 yX2_placesThatTake, Cond.instanceMethod yX2_placesThatTake, Cond.selects RX2 yX2_placesThatTake yX2_placesThatTake, Cond.initialized RX2, Cond.code yX2_placesThatTake cX2_placesThatTake 3 (some .long)]
def wsX7_pattern_r3 : List Cond := [Cond.fieldLink RX2 15 "SlipSearch$Pattern" "placesTaking" "[J", Cond.methodLink RX4 88 yX5_mayBegin, Cond.instanceMethod yX5_mayBegin, Cond.selects RX5 yX5_mayBegin yX5_mayBegin, Cond.code yX5_mayBegin cX5_mayBegin 3 (some .boolean), Cond.methodLink RX5 37 yX5_signAt, Cond.methodLink RX7 90 yX4_findAlone, Cond.instanceMethod yX4_findAlone, Cond.selects RX4 yX4_findAlone yX4_findAlone, Cond.code yX4_findAlone cX4_findAlone 7 none, Cond.methodLink RX4 56 yX4_findEnds, Cond.methodLink RX4 59 yX4_findBeginnings, Cond.instanceMethod yX4_findBeginnings, Cond.selects RX4 yX4_findBeginnings yX4_findBeginnings, Cond.code yX4_findBeginnings cX4_findBeginnings 4 none, Cond.fieldLink RX4 15 "SlipSearch$Search" "keys" "[I", Cond.methodLink RX4 96 yX4_noteBeginning, Cond.instanceMethod yX4_noteBeginning, Cond.selects RX4 yX4_noteBeginning yX4_noteBeginning, Cond.code yX4_noteBeginning cX4_noteBeginning 4 none, Cond.fieldLink RX4 22 "SlipSearch$Search" "beginningAt" "[I", Cond.methodLink RX4 100 yX4_stepKeys, Cond.instanceMethod yX4_stepKeys, Cond.selects RX4 yX4_stepKeys yX4_stepKeys]
def wsX7_pattern_r4 : List Cond := [Cond.code yX4_stepKeys cX4_stepKeys 12 none, Cond.methodLink RX4 103 Lib.Math.min.name, Cond.static Lib.Math.min.name, Cond.initialized "java/lang/Math", Cond.code Lib.Math.min.name Lib.Math.min.code 2 (some .int), Cond.methodLink RX4 62 yX4_tell, Cond.instanceMethod yX4_tell, Cond.selects RX4 yX4_tell yX4_tell, Cond.code yX4_tell cX4_tell 4 (some .int), Cond.methodLink RX7 149 yX4_fewestSlips, Cond.instanceMethod yX4_fewestSlips, Cond.selects RX4 yX4_fewestSlips yX4_fewestSlips, Cond.code yX4_fewestSlips cX4_fewestSlips 4 (some .int), Cond.methodLink RX7 153 yX4_firstWithFewest, Cond.instanceMethod yX4_firstWithFewest, Cond.selects RX4 yX4_firstWithFewest yX4_firstWithFewest, Cond.code yX4_firstWithFewest cX4_firstWithFewest 3 (some .int), Cond.methodLink RX4 108 yX4_fewestSlips, Cond.methodLink RX7 156 yX2_countWild, Cond.instanceMethod yX2_countWild, Cond.selects RX2 yX2_countWild yX2_countWild, Cond.code yX2_countWild cX2_countWild 3 (some .int), Cond.fieldLink RX2 19 "SlipSearch$Pattern" "placeCount" "I", Cond.constant RX2 31 (134217727)]
def wsX7_pattern_r5 : List Cond := [Cond.methodLink RX2 27 yX2_signsOf, Cond.instanceMethod yX2_signsOf, Cond.selects RX2 yX2_signsOf yX2_signsOf, Cond.code yX2_signsOf cX2_signsOf 2 (some .int), Cond.fieldLink RX2 9 "SlipSearch$Pattern" "places" "[I", Cond.methodLink RX7 159 yX2_isPlain, Cond.instanceMethod yX2_isPlain, Cond.selects RX2 yX2_isPlain yX2_isPlain, Cond.code yX2_isPlain cX2_isPlain 2 (some .boolean), Cond.methodLink RX2 32 yJ6_bitCount_0f7a4, Cond.static yJ6_bitCount_0f7a4, Cond.initialized RJ6, Cond.code yJ6_bitCount_0f7a4 cJ6_bitCount_0f7a4 1 (some .int), Cond.constant RJ6 265 (1431655765), Cond.constant RJ6 266 (858993459), Cond.constant RJ6 267 (252645135)]
def wsX7_pattern : List Cond := .code yX7_pattern cX7_pattern 4 (some .int) :: ((wsX7_pattern_r1 ++ (wsX7_pattern_r2 ++ (wsX7_pattern_r3 ++ (wsX7_pattern_r4 ++ wsX7_pattern_r5)))) ++ wsX70 ++ wsX20 ++ wsX40 ++ wsX50)
def wsX7_takes : List Cond := .code yX7_takes cX7_takes 4 (some .int) :: ([.fieldLink RX7 12 "SlipSearch" "now" "LSlipSearch$State;", .methodLink RX7 83 yX5_patternOrNull, .instanceMethod yX5_patternOrNull, .selects RX5 yX5_patternOrNull yX5_patternOrNull, .initialized RX5, .code yX5_patternOrNull cX5_patternOrNull 2 (some (.object "SlipSearch$Pattern")), .fieldLink RX5 25 "SlipSearch$State" "patternCount" "I", .fieldLink RX5 21 "SlipSearch$State" "patterns" "[LSlipSearch$Pattern;", .methodLink RX7 162 yX2_signsOf, .instanceMethod yX2_signsOf, .selects RX2 yX2_signsOf yX2_signsOf, .initialized RX2, .code yX2_signsOf cX2_signsOf 2 (some .int), .fieldLink RX2 9 "SlipSearch$Pattern" "places" "[I"] ++ wsX70 ++ wsX20 ++ wsX50)
def wsX7_end_r1 : List Cond := [Cond.fieldLink RX7 12 "SlipSearch" "now" "LSlipSearch$State;", Cond.fieldLink RX7 47 "SlipSearch" "search" "LSlipSearch$Search;", Cond.methodLink RX7 83 yX5_patternOrNull, Cond.instanceMethod yX5_patternOrNull, Cond.selects RX5 yX5_patternOrNull yX5_patternOrNull, Cond.initialized RX5, Cond.code yX5_patternOrNull cX5_patternOrNull 2 (some (.object "SlipSearch$Pattern")), Cond.fieldLink RX5 25 "SlipSearch$State" "patternCount" "I", Cond.fieldLink RX5 21 "SlipSearch$State" "patterns" "[LSlipSearch$Pattern;", Cond.methodLink RX7 90 yX4_findAlone, Cond.instanceMethod yX4_findAlone, Cond.selects RX4 yX4_findAlone yX4_findAlone, Cond.initialized RX4, Cond.code yX4_findAlone cX4_findAlone 7 none, Cond.fieldLink RX4 36 "SlipSearch$Search" "listed" "I", Cond.fieldLink RX4 33 "SlipSearch$Search" "ends" "[I", Cond.methodLink RX4 56 yX4_findEnds, Cond.instanceMethod yX4_findEnds, Cond.selects RX4 yX4_findEnds yX4_findEnds, Cond.code yX4_findEnds cX4_findEnds 4 none, Cond.methodLink RX4 40 yX4_openColumns, Cond.instanceMethod yX4_openColumns, Cond.selects RX4 yX4_openColumns yX4_openColumns, Cond.code yX4_openColumns cX4_openColumns 6 none]
def wsX7_end_r2 : List Cond := [Cond.fieldLink RX4 9 "SlipSearch$Search" "columns" "[J", Cond.methodLink RX4 76 yX4_columnMask, Cond.static yX4_columnMask, Cond.code yX4_columnMask cX4_columnMask 1 (some .long), Cond.constantLong RX4 66 (2), Cond.methodLink RX4 44 yX4_noteEnd, Cond.instanceMethod yX4_noteEnd, Cond.selects RX4 yX4_noteEnd yX4_noteEnd, Cond.code yX4_noteEnd cX4_noteEnd 4 none, Cond.fieldLink RX4 19 "SlipSearch$Search" "slipsAt" "[I", Cond.methodLink RX4 92 yX4_fewestInColumns, Cond.instanceMethod yX4_fewestInColumns, Cond.selects RX4 yX4_fewestInColumns yX4_fewestInColumns, Cond.code yX4_fewestInColumns cX4_fewestInColumns 4 (some .int), Cond.methodLink RX4 53 yX4_stepColumns, Cond.instanceMethod yX4_stepColumns, Cond.selects RX4 yX4_stepColumns yX4_stepColumns, Cond.code yX4_stepColumns cX4_stepColumns 23 none, Cond.methodLink RX4 80 yX5_signAt, Cond.instanceMethod yX5_signAt, Cond.selects RX5 yX5_signAt yX5_signAt, Cond.code yX5_signAt cX5_signAt 2 (some .char), Cond.fieldLink RX5 9 "SlipSearch$State" "text" "[C", Cond.methodLink RX4 84 yX2_placesThatTake]
def wsX7_end_r3 : List Cond := [Cond.instanceMethod yX2_placesThatTake, Cond.selects RX2 yX2_placesThatTake yX2_placesThatTake, Cond.initialized RX2, Cond.code yX2_placesThatTake cX2_placesThatTake 3 (some .long), Cond.fieldLink RX2 15 "SlipSearch$Pattern" "placesTaking" "[J", Cond.methodLink RX4 88 yX5_mayBegin, Cond.instanceMethod yX5_mayBegin, Cond.selects RX5 yX5_mayBegin yX5_mayBegin, Cond.code yX5_mayBegin cX5_mayBegin 3 (some .boolean), Cond.methodLink RX5 37 yX5_signAt, Cond.methodLink RX4 59 yX4_findBeginnings, Cond.instanceMethod yX4_findBeginnings, Cond.selects RX4 yX4_findBeginnings yX4_findBeginnings, Cond.code yX4_findBeginnings cX4_findBeginnings 4 none, Cond.fieldLink RX4 15 "SlipSearch$Search" "keys" "[I", Cond.methodLink RX4 96 yX4_noteBeginning, Cond.instanceMethod yX4_noteBeginning, Cond.selects RX4 yX4_noteBeginning yX4_noteBeginning, Cond.code yX4_noteBeginning cX4_noteBeginning 4 none, Cond.fieldLink RX4 22 "SlipSearch$Search" "beginningAt" "[I", Cond.methodLink RX4 100 yX4_stepKeys, Cond.instanceMethod yX4_stepKeys, Cond.selects RX4 yX4_stepKeys yX4_stepKeys, Cond.code yX4_stepKeys cX4_stepKeys 12 none]
def wsX7_end_r4 : List Cond := [Cond.methodLink RX4 103 Lib.Math.min.name, Cond.static Lib.Math.min.name, Cond.initialized "java/lang/Math", Cond.code Lib.Math.min.name Lib.Math.min.code 2 (some .int), Cond.methodLink RX4 62 yX4_tell, Cond.instanceMethod yX4_tell, Cond.selects RX4 yX4_tell yX4_tell, Cond.code yX4_tell cX4_tell 4 (some .int), Cond.methodLink RX7 146 yX4_findEnds, Cond.methodLink RX7 165 yX4_findBeginnings, Cond.methodLink RX7 168 yX4_tell]
def wsX7_end : List Cond := .code yX7_end cX7_end 6 (some .int) :: ((wsX7_end_r1 ++ (wsX7_end_r2 ++ (wsX7_end_r3 ++ wsX7_end_r4))) ++ wsX70 ++ wsX40 ++ wsX50 ++ wsX20)
def wsX7_column_r1 : List Cond := [Cond.fieldLink RX7 12 "SlipSearch" "now" "LSlipSearch$State;", Cond.constantLong RX7 172 (-1), Cond.constantLong RX7 174 (-2), Cond.fieldLink RX7 47 "SlipSearch" "search" "LSlipSearch$Search;", Cond.methodLink RX7 83 yX5_patternOrNull, Cond.instanceMethod yX5_patternOrNull, Cond.selects RX5 yX5_patternOrNull yX5_patternOrNull, Cond.initialized RX5, Cond.code yX5_patternOrNull cX5_patternOrNull 2 (some (.object "SlipSearch$Pattern")), Cond.fieldLink RX5 25 "SlipSearch$State" "patternCount" "I", Cond.fieldLink RX5 21 "SlipSearch$State" "patterns" "[LSlipSearch$Pattern;", Cond.methodLink RX7 176 yX4_columnAt, Cond.instanceMethod yX4_columnAt, Cond.selects RX4 yX4_columnAt yX4_columnAt, Cond.initialized RX4, Cond.code yX4_columnAt cX4_columnAt 6 (some .long), Cond.fieldLink RX4 9 "SlipSearch$Search" "columns" "[J", Cond.methodLink RX4 40 yX4_openColumns, Cond.instanceMethod yX4_openColumns, Cond.selects RX4 yX4_openColumns yX4_openColumns, Cond.code yX4_openColumns cX4_openColumns 6 none, Cond.methodLink RX4 76 yX4_columnMask, Cond.static yX4_columnMask, Cond.code yX4_columnMask cX4_columnMask 1 (some .long)]
def wsX7_column_r2 : List Cond := [Cond.constantLong RX4 66 (2), Cond.methodLink RX4 53 yX4_stepColumns, Cond.instanceMethod yX4_stepColumns, Cond.selects RX4 yX4_stepColumns yX4_stepColumns, Cond.code yX4_stepColumns cX4_stepColumns 23 none, Cond.methodLink RX4 80 yX5_signAt, Cond.instanceMethod yX5_signAt, Cond.selects RX5 yX5_signAt yX5_signAt, Cond.code yX5_signAt cX5_signAt 2 (some .char), Cond.fieldLink RX5 9 "SlipSearch$State" "text" "[C", Cond.methodLink RX4 84 yX2_placesThatTake, Cond.instanceMethod yX2_placesThatTake, Cond.selects RX2 yX2_placesThatTake yX2_placesThatTake, Cond.initialized RX2, Cond.code yX2_placesThatTake cX2_placesThatTake 3 (some .long), Cond.fieldLink RX2 15 "SlipSearch$Pattern" "placesTaking" "[J", Cond.methodLink RX4 88 yX5_mayBegin, Cond.instanceMethod yX5_mayBegin, Cond.selects RX5 yX5_mayBegin yX5_mayBegin, Cond.code yX5_mayBegin cX5_mayBegin 3 (some .boolean), Cond.methodLink RX5 37 yX5_signAt]
def wsX7_column : List Cond := .code yX7_column cX7_column 5 (some .long) :: ((wsX7_column_r1 ++ wsX7_column_r2) ++ wsX70 ++ wsX50 ++ wsX40 ++ wsX20)
def wsX7_slips_r1 : List Cond := [Cond.fieldLink RX7 12 "SlipSearch" "now" "LSlipSearch$State;", Cond.fieldLink RX7 54 "SlipSearch" "way" "LSlipSearch$Way;", Cond.methodLink RX7 83 yX5_patternOrNull, Cond.instanceMethod yX5_patternOrNull, Cond.selects RX5 yX5_patternOrNull yX5_patternOrNull, Cond.initialized RX5, Cond.code yX5_patternOrNull cX5_patternOrNull 2 (some (.object "SlipSearch$Pattern")), Cond.fieldLink RX5 25 "SlipSearch$State" "patternCount" "I", Cond.fieldLink RX5 21 "SlipSearch$State" "patterns" "[LSlipSearch$Pattern;", Cond.methodLink RX7 180 yX6_countSlips, Cond.instanceMethod yX6_countSlips, Cond.selects RX6 yX6_countSlips yX6_countSlips, Cond.initialized RX6, Cond.code yX6_countSlips cX6_countSlips 8 (some .int), Cond.fieldLink RX6 11 "SlipSearch$Way" "ways" "[I", Cond.constant RX6 15 (2097280), Cond.methodLink RX6 16 yX6_stepWays, Cond.instanceMethod yX6_stepWays, Cond.selects RX6 yX6_stepWays yX6_stepWays, Cond.code yX6_stepWays cX6_stepWays 12 none, Cond.constant RX6 36 (2113536), Cond.constant RX6 37 (2097153), Cond.methodLink RX6 26 yX5_signAt, Cond.instanceMethod yX5_signAt]
def wsX7_slips_r2 : List Cond := [Cond.selects RX5 yX5_signAt yX5_signAt, Cond.code yX5_signAt cX5_signAt 2 (some .char), Cond.fieldLink RX5 9 "SlipSearch$State" "text" "[C", Cond.methodLink RX6 32 yX2_placesThatTake, Cond.instanceMethod yX2_placesThatTake, Cond.selects RX2 yX2_placesThatTake yX2_placesThatTake, Cond.initialized RX2, Cond.code yX2_placesThatTake cX2_placesThatTake 3 (some .long), Cond.fieldLink RX2 15 "SlipSearch$Pattern" "placesTaking" "[J", Cond.methodLink RX6 38 yX6_firstOfFewest, Cond.static yX6_firstOfFewest, Cond.code yX6_firstOfFewest cX6_firstOfFewest 2 (some .int)]
def wsX7_slips : List Cond := .code yX7_slips cX7_slips 6 (some .int) :: ((wsX7_slips_r1 ++ wsX7_slips_r2) ++ wsX70 ++ wsX50 ++ wsX60 ++ wsX20)
def wsX7_density_r1 : List Cond := [Cond.fieldLink RX7 12 "SlipSearch" "now" "LSlipSearch$State;", Cond.constantDouble RX7 184 (13830554455654793216), Cond.fieldLink RX7 47 "SlipSearch" "search" "LSlipSearch$Search;", Cond.methodLink RX7 83 yX5_patternOrNull, Cond.instanceMethod yX5_patternOrNull, Cond.selects RX5 yX5_patternOrNull yX5_patternOrNull, Cond.initialized RX5, Cond.code yX5_patternOrNull cX5_patternOrNull 2 (some (.object "SlipSearch$Pattern")), Cond.fieldLink RX5 25 "SlipSearch$State" "patternCount" "I", Cond.fieldLink RX5 21 "SlipSearch$State" "patterns" "[LSlipSearch$Pattern;", Cond.methodLink RX7 146 yX4_findEnds, Cond.instanceMethod yX4_findEnds, Cond.selects RX4 yX4_findEnds yX4_findEnds, Cond.initialized RX4, Cond.code yX4_findEnds cX4_findEnds 4 none, Cond.fieldLink RX4 36 "SlipSearch$Search" "listed" "I", Cond.methodLink RX4 40 yX4_openColumns, Cond.instanceMethod yX4_openColumns, Cond.selects RX4 yX4_openColumns yX4_openColumns, Cond.code yX4_openColumns cX4_openColumns 6 none, Cond.fieldLink RX4 9 "SlipSearch$Search" "columns" "[J", Cond.methodLink RX4 76 yX4_columnMask, Cond.static yX4_columnMask, Cond.code yX4_columnMask cX4_columnMask 1 (some .long)]
def wsX7_density_r2 : List Cond := [Cond.constantLong RX4 66 (2), Cond.methodLink RX4 44 yX4_noteEnd, Cond.instanceMethod yX4_noteEnd, Cond.selects RX4 yX4_noteEnd yX4_noteEnd, Cond.code yX4_noteEnd cX4_noteEnd 4 none, Cond.fieldLink RX4 19 "SlipSearch$Search" "slipsAt" "[I", Cond.fieldLink RX4 33 "SlipSearch$Search" "ends" "[I", Cond.methodLink RX4 92 yX4_fewestInColumns, Cond.instanceMethod yX4_fewestInColumns, Cond.selects RX4 yX4_fewestInColumns yX4_fewestInColumns, Cond.code yX4_fewestInColumns cX4_fewestInColumns 4 (some .int), Cond.methodLink RX4 53 yX4_stepColumns, Cond.instanceMethod yX4_stepColumns, Cond.selects RX4 yX4_stepColumns yX4_stepColumns, Cond.code yX4_stepColumns cX4_stepColumns 23 none, Cond.methodLink RX4 80 yX5_signAt, Cond.instanceMethod yX5_signAt, Cond.selects RX5 yX5_signAt yX5_signAt, Cond.code yX5_signAt cX5_signAt 2 (some .char), Cond.fieldLink RX5 9 "SlipSearch$State" "text" "[C", Cond.methodLink RX4 84 yX2_placesThatTake, Cond.instanceMethod yX2_placesThatTake, Cond.selects RX2 yX2_placesThatTake yX2_placesThatTake, Cond.initialized RX2]
def wsX7_density_r3 : List Cond := [Cond.code yX2_placesThatTake cX2_placesThatTake 3 (some .long), Cond.fieldLink RX2 15 "SlipSearch$Pattern" "placesTaking" "[J", Cond.methodLink RX4 88 yX5_mayBegin, Cond.instanceMethod yX5_mayBegin, Cond.selects RX5 yX5_mayBegin yX5_mayBegin, Cond.code yX5_mayBegin cX5_mayBegin 3 (some .boolean), Cond.methodLink RX5 37 yX5_signAt, Cond.methodLink RX7 186 yX4_sumOfShares, Cond.instanceMethod yX4_sumOfShares, Cond.selects RX4 yX4_sumOfShares yX4_sumOfShares, Cond.code yX4_sumOfShares cX4_sumOfShares 5 (some .double), Cond.methodLink RX4 62 yX4_tell, Cond.instanceMethod yX4_tell, Cond.selects RX4 yX4_tell yX4_tell, Cond.code yX4_tell cX4_tell 4 (some .int), Cond.fieldLink RX4 22 "SlipSearch$Search" "beginningAt" "[I"]
def wsX7_density : List Cond := .code yX7_density cX7_density 3 (some .double) :: ((wsX7_density_r1 ++ (wsX7_density_r2 ++ wsX7_density_r3)) ++ wsX70 ++ wsX50 ++ wsX40 ++ wsX20)
def wsX7_bitsOfFloat : List Cond := .code yX7_bitsOfFloat cX7_bitsOfFloat 3 (some .int) :: ([.constantFloat RX7 212 (1258291200)])
def wsX7_densityBits_r1 : List Cond := [Cond.fieldLink RX7 12 "SlipSearch" "now" "LSlipSearch$State;", Cond.fieldLink RX7 47 "SlipSearch" "search" "LSlipSearch$Search;", Cond.methodLink RX7 83 yX5_patternOrNull, Cond.instanceMethod yX5_patternOrNull, Cond.selects RX5 yX5_patternOrNull yX5_patternOrNull, Cond.initialized RX5, Cond.code yX5_patternOrNull cX5_patternOrNull 2 (some (.object "SlipSearch$Pattern")), Cond.fieldLink RX5 25 "SlipSearch$State" "patternCount" "I", Cond.fieldLink RX5 21 "SlipSearch$State" "patterns" "[LSlipSearch$Pattern;", Cond.methodLink RX7 146 yX4_findEnds, Cond.instanceMethod yX4_findEnds, Cond.selects RX4 yX4_findEnds yX4_findEnds, Cond.initialized RX4, Cond.code yX4_findEnds cX4_findEnds 4 none, Cond.fieldLink RX4 36 "SlipSearch$Search" "listed" "I", Cond.methodLink RX4 40 yX4_openColumns, Cond.instanceMethod yX4_openColumns, Cond.selects RX4 yX4_openColumns yX4_openColumns, Cond.code yX4_openColumns cX4_openColumns 6 none, Cond.fieldLink RX4 9 "SlipSearch$Search" "columns" "[J", Cond.methodLink RX4 76 yX4_columnMask, Cond.static yX4_columnMask, Cond.code yX4_columnMask cX4_columnMask 1 (some .long), Cond.constantLong RX4 66 (2)]
def wsX7_densityBits_r2 : List Cond := [Cond.methodLink RX4 44 yX4_noteEnd, Cond.instanceMethod yX4_noteEnd, Cond.selects RX4 yX4_noteEnd yX4_noteEnd, Cond.code yX4_noteEnd cX4_noteEnd 4 none, Cond.fieldLink RX4 19 "SlipSearch$Search" "slipsAt" "[I", Cond.fieldLink RX4 33 "SlipSearch$Search" "ends" "[I", Cond.methodLink RX4 92 yX4_fewestInColumns, Cond.instanceMethod yX4_fewestInColumns, Cond.selects RX4 yX4_fewestInColumns yX4_fewestInColumns, Cond.code yX4_fewestInColumns cX4_fewestInColumns 4 (some .int), Cond.methodLink RX4 53 yX4_stepColumns, Cond.instanceMethod yX4_stepColumns, Cond.selects RX4 yX4_stepColumns yX4_stepColumns, Cond.code yX4_stepColumns cX4_stepColumns 23 none, Cond.methodLink RX4 80 yX5_signAt, Cond.instanceMethod yX5_signAt, Cond.selects RX5 yX5_signAt yX5_signAt, Cond.code yX5_signAt cX5_signAt 2 (some .char), Cond.fieldLink RX5 9 "SlipSearch$State" "text" "[C", Cond.methodLink RX4 84 yX2_placesThatTake, Cond.instanceMethod yX2_placesThatTake, Cond.selects RX2 yX2_placesThatTake yX2_placesThatTake, Cond.initialized RX2, Cond.code yX2_placesThatTake cX2_placesThatTake 3 (some .long)]
def wsX7_densityBits_r3 : List Cond := [Cond.fieldLink RX2 15 "SlipSearch$Pattern" "placesTaking" "[J", Cond.methodLink RX4 88 yX5_mayBegin, Cond.instanceMethod yX5_mayBegin, Cond.selects RX5 yX5_mayBegin yX5_mayBegin, Cond.code yX5_mayBegin cX5_mayBegin 3 (some .boolean), Cond.methodLink RX5 37 yX5_signAt, Cond.methodLink RX7 186 yX4_sumOfShares, Cond.instanceMethod yX4_sumOfShares, Cond.selects RX4 yX4_sumOfShares yX4_sumOfShares, Cond.code yX4_sumOfShares cX4_sumOfShares 5 (some .double), Cond.methodLink RX4 62 yX4_tell, Cond.instanceMethod yX4_tell, Cond.selects RX4 yX4_tell yX4_tell, Cond.code yX4_tell cX4_tell 4 (some .int), Cond.fieldLink RX4 22 "SlipSearch$Search" "beginningAt" "[I", Cond.methodLink RX7 190 yX7_bitsOfFloat, Cond.static yX7_bitsOfFloat, Cond.initialized RX7, Cond.code yX7_bitsOfFloat cX7_bitsOfFloat 3 (some .int), Cond.constantFloat RX7 212 (1258291200)]
def wsX7_densityBits : List Cond := .code yX7_densityBits cX7_densityBits 3 (some .int) :: ((wsX7_densityBits_r1 ++ (wsX7_densityBits_r2 ++ wsX7_densityBits_r3)) ++ wsX70 ++ wsX50 ++ wsX40 ++ wsX20)
def wsX7_countAllEnds_r1 : List Cond := [Cond.fieldLink RX7 12 "SlipSearch" "now" "LSlipSearch$State;", Cond.fieldLink RX7 47 "SlipSearch" "search" "LSlipSearch$Search;", Cond.methodLink RX7 83 yX5_patternOrNull, Cond.instanceMethod yX5_patternOrNull, Cond.selects RX5 yX5_patternOrNull yX5_patternOrNull, Cond.initialized RX5, Cond.code yX5_patternOrNull cX5_patternOrNull 2 (some (.object "SlipSearch$Pattern")), Cond.fieldLink RX5 25 "SlipSearch$State" "patternCount" "I", Cond.fieldLink RX5 21 "SlipSearch$State" "patterns" "[LSlipSearch$Pattern;", Cond.methodLink RX7 146 yX4_findEnds, Cond.instanceMethod yX4_findEnds, Cond.selects RX4 yX4_findEnds yX4_findEnds, Cond.initialized RX4, Cond.code yX4_findEnds cX4_findEnds 4 none, Cond.fieldLink RX4 36 "SlipSearch$Search" "listed" "I", Cond.methodLink RX4 40 yX4_openColumns, Cond.instanceMethod yX4_openColumns, Cond.selects RX4 yX4_openColumns yX4_openColumns, Cond.code yX4_openColumns cX4_openColumns 6 none, Cond.fieldLink RX4 9 "SlipSearch$Search" "columns" "[J", Cond.methodLink RX4 76 yX4_columnMask, Cond.static yX4_columnMask, Cond.code yX4_columnMask cX4_columnMask 1 (some .long), Cond.constantLong RX4 66 (2)]
def wsX7_countAllEnds_r2 : List Cond := [Cond.methodLink RX4 44 yX4_noteEnd, Cond.instanceMethod yX4_noteEnd, Cond.selects RX4 yX4_noteEnd yX4_noteEnd, Cond.code yX4_noteEnd cX4_noteEnd 4 none, Cond.fieldLink RX4 19 "SlipSearch$Search" "slipsAt" "[I", Cond.fieldLink RX4 33 "SlipSearch$Search" "ends" "[I", Cond.methodLink RX4 92 yX4_fewestInColumns, Cond.instanceMethod yX4_fewestInColumns, Cond.selects RX4 yX4_fewestInColumns yX4_fewestInColumns, Cond.code yX4_fewestInColumns cX4_fewestInColumns 4 (some .int), Cond.methodLink RX4 53 yX4_stepColumns, Cond.instanceMethod yX4_stepColumns, Cond.selects RX4 yX4_stepColumns yX4_stepColumns, Cond.code yX4_stepColumns cX4_stepColumns 23 none, Cond.methodLink RX4 80 yX5_signAt, Cond.instanceMethod yX5_signAt, Cond.selects RX5 yX5_signAt yX5_signAt, Cond.code yX5_signAt cX5_signAt 2 (some .char), Cond.fieldLink RX5 9 "SlipSearch$State" "text" "[C", Cond.methodLink RX4 84 yX2_placesThatTake, Cond.instanceMethod yX2_placesThatTake, Cond.selects RX2 yX2_placesThatTake yX2_placesThatTake, Cond.initialized RX2, Cond.code yX2_placesThatTake cX2_placesThatTake 3 (some .long)]
def wsX7_countAllEnds_r3 : List Cond := [Cond.fieldLink RX2 15 "SlipSearch$Pattern" "placesTaking" "[J", Cond.methodLink RX4 88 yX5_mayBegin, Cond.instanceMethod yX5_mayBegin, Cond.selects RX5 yX5_mayBegin yX5_mayBegin, Cond.code yX5_mayBegin cX5_mayBegin 3 (some .boolean), Cond.methodLink RX5 37 yX5_signAt]
def wsX7_countAllEnds : List Cond := .code yX7_countAllEnds cX7_countAllEnds 4 (some .int) :: ((wsX7_countAllEnds_r1 ++ (wsX7_countAllEnds_r2 ++ wsX7_countAllEnds_r3)) ++ wsX70 ++ wsX40 ++ wsX50 ++ wsX20)
def wsX7_countPlacesWithEnds_r1 : List Cond := [Cond.fieldLink RX7 47 "SlipSearch" "search" "LSlipSearch$Search;", Cond.fieldLink RX7 12 "SlipSearch" "now" "LSlipSearch$State;", Cond.methodLink RX7 203 yX4_clearMarks, Cond.instanceMethod yX4_clearMarks, Cond.selects RX4 yX4_clearMarks yX4_clearMarks, Cond.initialized RX4, Cond.code yX4_clearMarks cX4_clearMarks 2 none, Cond.fieldLink RX4 25 "SlipSearch$Search" "marked" "[Z", Cond.methodLink RX7 83 yX5_patternOrNull, Cond.instanceMethod yX5_patternOrNull, Cond.selects RX5 yX5_patternOrNull yX5_patternOrNull, Cond.initialized RX5, Cond.code yX5_patternOrNull cX5_patternOrNull 2 (some (.object "SlipSearch$Pattern")), Cond.fieldLink RX5 25 "SlipSearch$State" "patternCount" "I", Cond.fieldLink RX5 21 "SlipSearch$State" "patterns" "[LSlipSearch$Pattern;", Cond.methodLink RX7 146 yX4_findEnds, Cond.instanceMethod yX4_findEnds, Cond.selects RX4 yX4_findEnds yX4_findEnds, Cond.code yX4_findEnds cX4_findEnds 4 none, Cond.fieldLink RX4 36 "SlipSearch$Search" "listed" "I", Cond.methodLink RX4 40 yX4_openColumns, Cond.instanceMethod yX4_openColumns, Cond.selects RX4 yX4_openColumns yX4_openColumns, Cond.code yX4_openColumns cX4_openColumns 6 none]
def wsX7_countPlacesWithEnds_r2 : List Cond := [Cond.fieldLink RX4 9 "SlipSearch$Search" "columns" "[J", Cond.methodLink RX4 76 yX4_columnMask, Cond.static yX4_columnMask, Cond.code yX4_columnMask cX4_columnMask 1 (some .long), Cond.constantLong RX4 66 (2), Cond.methodLink RX4 44 yX4_noteEnd, Cond.instanceMethod yX4_noteEnd, Cond.selects RX4 yX4_noteEnd yX4_noteEnd, Cond.code yX4_noteEnd cX4_noteEnd 4 none, Cond.fieldLink RX4 19 "SlipSearch$Search" "slipsAt" "[I", Cond.fieldLink RX4 33 "SlipSearch$Search" "ends" "[I", Cond.methodLink RX4 92 yX4_fewestInColumns, Cond.instanceMethod yX4_fewestInColumns, Cond.selects RX4 yX4_fewestInColumns yX4_fewestInColumns, Cond.code yX4_fewestInColumns cX4_fewestInColumns 4 (some .int), Cond.methodLink RX4 53 yX4_stepColumns, Cond.instanceMethod yX4_stepColumns, Cond.selects RX4 yX4_stepColumns yX4_stepColumns, Cond.code yX4_stepColumns cX4_stepColumns 23 none, Cond.methodLink RX4 80 yX5_signAt, Cond.instanceMethod yX5_signAt, Cond.selects RX5 yX5_signAt yX5_signAt, Cond.code yX5_signAt cX5_signAt 2 (some .char), Cond.fieldLink RX5 9 "SlipSearch$State" "text" "[C"]
def wsX7_countPlacesWithEnds_r3 : List Cond := [Cond.methodLink RX4 84 yX2_placesThatTake, Cond.instanceMethod yX2_placesThatTake, Cond.selects RX2 yX2_placesThatTake yX2_placesThatTake, Cond.initialized RX2, Cond.code yX2_placesThatTake cX2_placesThatTake 3 (some .long), Cond.fieldLink RX2 15 "SlipSearch$Pattern" "placesTaking" "[J", Cond.methodLink RX4 88 yX5_mayBegin, Cond.instanceMethod yX5_mayBegin, Cond.selects RX5 yX5_mayBegin yX5_mayBegin, Cond.code yX5_mayBegin cX5_mayBegin 3 (some .boolean), Cond.methodLink RX5 37 yX5_signAt, Cond.methodLink RX7 206 yX4_markEnds, Cond.instanceMethod yX4_markEnds, Cond.selects RX4 yX4_markEnds yX4_markEnds, Cond.code yX4_markEnds cX4_markEnds 3 none, Cond.methodLink RX4 62 yX4_tell, Cond.instanceMethod yX4_tell, Cond.selects RX4 yX4_tell yX4_tell, Cond.code yX4_tell cX4_tell 4 (some .int), Cond.fieldLink RX4 22 "SlipSearch$Search" "beginningAt" "[I", Cond.methodLink RX7 209 yX4_countMarks, Cond.instanceMethod yX4_countMarks, Cond.selects RX4 yX4_countMarks yX4_countMarks, Cond.code yX4_countMarks cX4_countMarks 3 (some .int)]
def wsX7_countPlacesWithEnds : List Cond := .code yX7_countPlacesWithEnds cX7_countPlacesWithEnds 3 (some .int) :: ((wsX7_countPlacesWithEnds_r1 ++ (wsX7_countPlacesWithEnds_r2 ++ wsX7_countPlacesWithEnds_r3)) ++ wsX70 ++ wsX40 ++ wsX50 ++ wsX20)
def wsX7_count_r1 : List Cond := [Cond.fieldLink RX7 12 "SlipSearch" "now" "LSlipSearch$State;", Cond.fieldLink RX7 26 "SlipSearch" "history" "LSlipSearch$History;", Cond.fieldLink RX7 33 "SlipSearch" "pad" "LSlipSearch$Pad;", Cond.methodLink RX7 194 yX7_countAllEnds, Cond.instanceMethod yX7_countAllEnds, Cond.selects RX7 yX7_countAllEnds yX7_countAllEnds, Cond.initialized RX7, Cond.code yX7_countAllEnds cX7_countAllEnds 4 (some .int), Cond.fieldLink RX7 47 "SlipSearch" "search" "LSlipSearch$Search;", Cond.methodLink RX7 83 yX5_patternOrNull, Cond.instanceMethod yX5_patternOrNull, Cond.selects RX5 yX5_patternOrNull yX5_patternOrNull, Cond.initialized RX5, Cond.code yX5_patternOrNull cX5_patternOrNull 2 (some (.object "SlipSearch$Pattern")), Cond.fieldLink RX5 25 "SlipSearch$State" "patternCount" "I", Cond.fieldLink RX5 21 "SlipSearch$State" "patterns" "[LSlipSearch$Pattern;", Cond.methodLink RX7 146 yX4_findEnds, Cond.instanceMethod yX4_findEnds, Cond.selects RX4 yX4_findEnds yX4_findEnds, Cond.initialized RX4, Cond.code yX4_findEnds cX4_findEnds 4 none, Cond.fieldLink RX4 36 "SlipSearch$Search" "listed" "I", Cond.methodLink RX4 40 yX4_openColumns, Cond.instanceMethod yX4_openColumns]
def wsX7_count_r2 : List Cond := [Cond.selects RX4 yX4_openColumns yX4_openColumns, Cond.code yX4_openColumns cX4_openColumns 6 none, Cond.fieldLink RX4 9 "SlipSearch$Search" "columns" "[J", Cond.methodLink RX4 76 yX4_columnMask, Cond.static yX4_columnMask, Cond.code yX4_columnMask cX4_columnMask 1 (some .long), Cond.constantLong RX4 66 (2), Cond.methodLink RX4 44 yX4_noteEnd, Cond.instanceMethod yX4_noteEnd, Cond.selects RX4 yX4_noteEnd yX4_noteEnd, Cond.code yX4_noteEnd cX4_noteEnd 4 none, Cond.fieldLink RX4 19 "SlipSearch$Search" "slipsAt" "[I", Cond.fieldLink RX4 33 "SlipSearch$Search" "ends" "[I", Cond.methodLink RX4 92 yX4_fewestInColumns, Cond.instanceMethod yX4_fewestInColumns, Cond.selects RX4 yX4_fewestInColumns yX4_fewestInColumns, Cond.code yX4_fewestInColumns cX4_fewestInColumns 4 (some .int), Cond.methodLink RX4 53 yX4_stepColumns, Cond.instanceMethod yX4_stepColumns, Cond.selects RX4 yX4_stepColumns yX4_stepColumns, Cond.code yX4_stepColumns cX4_stepColumns 23 none, Cond.methodLink RX4 80 yX5_signAt, Cond.instanceMethod yX5_signAt, Cond.selects RX5 yX5_signAt yX5_signAt]
def wsX7_count_r3 : List Cond := [Cond.code yX5_signAt cX5_signAt 2 (some .char), Cond.fieldLink RX5 9 "SlipSearch$State" "text" "[C", Cond.methodLink RX4 84 yX2_placesThatTake, Cond.instanceMethod yX2_placesThatTake, Cond.selects RX2 yX2_placesThatTake yX2_placesThatTake, Cond.initialized RX2, Cond.code yX2_placesThatTake cX2_placesThatTake 3 (some .long), Cond.fieldLink RX2 15 "SlipSearch$Pattern" "placesTaking" "[J", Cond.methodLink RX4 88 yX5_mayBegin, Cond.instanceMethod yX5_mayBegin, Cond.selects RX5 yX5_mayBegin yX5_mayBegin, Cond.code yX5_mayBegin cX5_mayBegin 3 (some .boolean), Cond.methodLink RX5 37 yX5_signAt, Cond.methodLink RX7 197 yX7_countPlacesWithEnds, Cond.instanceMethod yX7_countPlacesWithEnds, Cond.selects RX7 yX7_countPlacesWithEnds yX7_countPlacesWithEnds, Cond.code yX7_countPlacesWithEnds cX7_countPlacesWithEnds 3 (some .int), Cond.methodLink RX7 203 yX4_clearMarks, Cond.instanceMethod yX4_clearMarks, Cond.selects RX4 yX4_clearMarks yX4_clearMarks, Cond.code yX4_clearMarks cX4_clearMarks 2 none, Cond.fieldLink RX4 25 "SlipSearch$Search" "marked" "[Z", Cond.methodLink RX7 206 yX4_markEnds, Cond.instanceMethod yX4_markEnds]
def wsX7_count_r4 : List Cond := [Cond.selects RX4 yX4_markEnds yX4_markEnds, Cond.code yX4_markEnds cX4_markEnds 3 none, Cond.methodLink RX4 62 yX4_tell, Cond.instanceMethod yX4_tell, Cond.selects RX4 yX4_tell yX4_tell, Cond.code yX4_tell cX4_tell 4 (some .int), Cond.fieldLink RX4 22 "SlipSearch$Search" "beginningAt" "[I", Cond.methodLink RX7 209 yX4_countMarks, Cond.instanceMethod yX4_countMarks, Cond.selects RX4 yX4_countMarks yX4_countMarks, Cond.code yX4_countMarks cX4_countMarks 3 (some .int), Cond.methodLink RX7 200 yX5_countBlanks, Cond.instanceMethod yX5_countBlanks, Cond.selects RX5 yX5_countBlanks yX5_countBlanks, Cond.code yX5_countBlanks cX5_countBlanks 3 (some .int), Cond.fieldLink RX5 15 "SlipSearch$State" "length" "I"]
def wsX7_count : List Cond := .code yX7_count cX7_count 2 (some .int) :: ((wsX7_count_r1 ++ (wsX7_count_r2 ++ (wsX7_count_r3 ++ wsX7_count_r4))) ++ wsX70 ++ wsX50 ++ wsX00 ++ wsX10 ++ wsX40 ++ wsX20)
def wsX8_init : List Cond := .code yX8_init cX8_init 1 none :: ([.methodLink RX8 1 objectInit, .instanceMethod objectInit, .code objectInit ⟨#[0xb1]⟩ 1 none, .arrayClass .int, .fieldLink RX8 7 "SlipSearchModel" "all" "[I", .fieldLink RX8 13 "SlipSearchModel" "kept" "[I", .fieldLink RX8 16 "SlipSearchModel" "history" "[I", .fieldLink RX8 19 "SlipSearchModel" "snapshot" "[I", .fieldLink RX8 22 "SlipSearchModel" "fewest" "[I", .fieldLink RX8 25 "SlipSearchModel" "begin" "[I", .fieldLink RX8 28 "SlipSearchModel" "endAt" "[I", .fieldLink RX8 31 "SlipSearchModel" "pad" "[I", .fieldLink RX8 34 "SlipSearchModel" "readTakes" "[I", .fieldLink RX8 37 "SlipSearchModel" "part" "[I", .fieldLink RX8 40 "SlipSearchModel" "isEnd" "[I"] ++ wsX80)
def wsX8_in : List Cond := .code yX8_in cX8_in 6 (some .boolean) :: ([])
def wsX8_remember : List Cond := .code yX8_remember cX8_remember 2 none :: ([.fieldLink RX8 13 "SlipSearchModel" "kept" "[I", .fieldLink RX8 7 "SlipSearchModel" "all" "[I"] ++ wsX80)
def wsX8_acted : List Cond := .code yX8_acted cX8_acted 3 (some .int) :: ([.fieldLink RX8 43 "SlipSearchModel" "historyLong" "I", .fieldLink RX8 16 "SlipSearchModel" "history" "[I", .fieldLink RX8 13 "SlipSearchModel" "kept" "[I"] ++ wsX80)
def wsX8_isPattern : List Cond := .code yX8_isPattern cX8_isPattern 2 (some .boolean) :: ([.fieldLink RX8 7 "SlipSearchModel" "all" "[I", .methodLink RX8 47 yX8_in, .static yX8_in, .initialized RX8, .code yX8_in cX8_in 6 (some .boolean)] ++ wsX80)
def wsX8_places : List Cond := .code yX8_places cX8_places 2 (some .int) :: ([.fieldLink RX8 7 "SlipSearchModel" "all" "[I"] ++ wsX80)
def wsX8_taking : List Cond := .code yX8_taking cX8_taking 3 (some .int) :: ([.fieldLink RX8 7 "SlipSearchModel" "all" "[I"] ++ wsX80)
def wsX8_isTaken : List Cond := .code yX8_isTaken cX8_isTaken 4 (some .boolean) :: ([.fieldLink RX8 7 "SlipSearchModel" "all" "[I", .methodLink RX8 51 yX8_taking, .instanceMethod yX8_taking, .selects RX8 yX8_taking yX8_taking, .initialized RX8, .code yX8_taking cX8_taking 3 (some .int)] ++ wsX80)
def wsX8_bits : List Cond := .code yX8_bits cX8_bits 3 (some .int) :: ([])
def wsX8_mayBegin : List Cond := .code yX8_mayBegin cX8_mayBegin 3 (some .boolean) :: ([.fieldLink RX8 7 "SlipSearchModel" "all" "[I"] ++ wsX80)
def wsX8_tries : List Cond := .code yX8_tries cX8_tries 4 none :: ([.fieldLink RX8 22 "SlipSearchModel" "fewest" "[I", .fieldLink RX8 25 "SlipSearchModel" "begin" "[I"] ++ wsX80)
def wsX8_finds : List Cond := .code yX8_finds cX8_finds 5 none :: ([.fieldLink RX8 7 "SlipSearchModel" "all" "[I", .fieldLink RX8 22 "SlipSearchModel" "fewest" "[I", .fieldLink RX8 25 "SlipSearchModel" "begin" "[I", .methodLink RX8 55 yX8_places, .instanceMethod yX8_places, .selects RX8 yX8_places yX8_places, .initialized RX8, .code yX8_places cX8_places 2 (some .int), .methodLink RX8 59 yX8_mayBegin, .instanceMethod yX8_mayBegin, .selects RX8 yX8_mayBegin yX8_mayBegin, .code yX8_mayBegin cX8_mayBegin 3 (some .boolean), .methodLink RX8 63 yX8_tries, .instanceMethod yX8_tries, .selects RX8 yX8_tries yX8_tries, .code yX8_tries cX8_tries 4 none, .methodLink RX8 67 yX8_isTaken, .instanceMethod yX8_isTaken, .selects RX8 yX8_isTaken yX8_isTaken, .code yX8_isTaken cX8_isTaken 4 (some .boolean), .methodLink RX8 51 yX8_taking, .instanceMethod yX8_taking, .selects RX8 yX8_taking yX8_taking, .code yX8_taking cX8_taking 3 (some .int)] ++ wsX80)
def wsX8_findsEnds_r1 : List Cond := [Cond.fieldLink RX8 75 "SlipSearchModel" "ends" "I", Cond.fieldLink RX8 7 "SlipSearchModel" "all" "[I", Cond.fieldLink RX8 22 "SlipSearchModel" "fewest" "[I", Cond.fieldLink RX8 25 "SlipSearchModel" "begin" "[I", Cond.fieldLink RX8 28 "SlipSearchModel" "endAt" "[I", Cond.methodLink RX8 71 yX8_finds, Cond.instanceMethod yX8_finds, Cond.selects RX8 yX8_finds yX8_finds, Cond.initialized RX8, Cond.code yX8_finds cX8_finds 5 none, Cond.methodLink RX8 55 yX8_places, Cond.instanceMethod yX8_places, Cond.selects RX8 yX8_places yX8_places, Cond.code yX8_places cX8_places 2 (some .int), Cond.methodLink RX8 59 yX8_mayBegin, Cond.instanceMethod yX8_mayBegin, Cond.selects RX8 yX8_mayBegin yX8_mayBegin, Cond.code yX8_mayBegin cX8_mayBegin 3 (some .boolean), Cond.methodLink RX8 63 yX8_tries, Cond.instanceMethod yX8_tries, Cond.selects RX8 yX8_tries yX8_tries, Cond.code yX8_tries cX8_tries 4 none, Cond.methodLink RX8 67 yX8_isTaken, Cond.instanceMethod yX8_isTaken]
def wsX8_findsEnds_r2 : List Cond := [Cond.selects RX8 yX8_isTaken yX8_isTaken, Cond.code yX8_isTaken cX8_isTaken 4 (some .boolean), Cond.methodLink RX8 51 yX8_taking, Cond.instanceMethod yX8_taking, Cond.selects RX8 yX8_taking yX8_taking, Cond.code yX8_taking cX8_taking 3 (some .int)]
def wsX8_findsEnds : List Cond := .code yX8_findsEnds cX8_findsEnds 6 none :: ((wsX8_findsEnds_r1 ++ wsX8_findsEnds_r2) ++ wsX80)
def wsX8_slipsOf : List Cond := .code yX8_slipsOf cX8_slipsOf 3 (some .int) :: ([.fieldLink RX8 22 "SlipSearchModel" "fewest" "[I", .fieldLink RX8 28 "SlipSearchModel" "endAt" "[I", .methodLink RX8 55 yX8_places, .instanceMethod yX8_places, .selects RX8 yX8_places yX8_places, .initialized RX8, .code yX8_places cX8_places 2 (some .int), .fieldLink RX8 7 "SlipSearchModel" "all" "[I"] ++ wsX80)
def wsX8_beginOf : List Cond := .code yX8_beginOf cX8_beginOf 3 (some .int) :: ([.fieldLink RX8 25 "SlipSearchModel" "begin" "[I", .fieldLink RX8 28 "SlipSearchModel" "endAt" "[I", .methodLink RX8 55 yX8_places, .instanceMethod yX8_places, .selects RX8 yX8_places yX8_places, .initialized RX8, .code yX8_places cX8_places 2 (some .int), .fieldLink RX8 7 "SlipSearchModel" "all" "[I"] ++ wsX80)
def wsX8_coded : List Cond := .code yX8_coded cX8_coded 1 (some .int) :: ([.constantLong RX8 78 (97), .constantLong RX8 80 (122), .methodLink RX8 47 yX8_in, .static yX8_in, .initialized RX8, .code yX8_in cX8_in 6 (some .boolean)])
def wsX8_writes : List Cond := .code yX8_writes cX8_writes 2 none :: ([.fieldLink RX8 7 "SlipSearchModel" "all" "[I"] ++ wsX80)
def wsX8_write_r1 : List Cond := [Cond.fieldLink RX8 7 "SlipSearchModel" "all" "[I", Cond.methodLink RX8 82 yX8_coded, Cond.static yX8_coded, Cond.initialized RX8, Cond.code yX8_coded cX8_coded 1 (some .int), Cond.constantLong RX8 78 (97), Cond.constantLong RX8 80 (122), Cond.methodLink RX8 47 yX8_in, Cond.static yX8_in, Cond.code yX8_in cX8_in 6 (some .boolean), Cond.methodLink RX8 85 yX8_remember, Cond.instanceMethod yX8_remember, Cond.selects RX8 yX8_remember yX8_remember, Cond.code yX8_remember cX8_remember 2 none, Cond.fieldLink RX8 13 "SlipSearchModel" "kept" "[I", Cond.methodLink RX8 88 yX8_writes, Cond.instanceMethod yX8_writes, Cond.selects RX8 yX8_writes yX8_writes, Cond.code yX8_writes cX8_writes 2 none, Cond.methodLink RX8 91 yX8_acted, Cond.instanceMethod yX8_acted, Cond.selects RX8 yX8_acted yX8_acted, Cond.code yX8_acted cX8_acted 3 (some .int), Cond.fieldLink RX8 43 "SlipSearchModel" "historyLong" "I"]
def wsX8_write_r2 : List Cond := [Cond.fieldLink RX8 16 "SlipSearchModel" "history" "[I"]
def wsX8_write : List Cond := .code yX8_write cX8_write 3 (some .int) :: ((wsX8_write_r1 ++ wsX8_write_r2) ++ wsX80)
def wsX8_writePad : List Cond := .code yX8_writePad cX8_writePad 3 (some .int) :: ([.fieldLink RX8 94 "SlipSearchModel" "padLong" "I", .fieldLink RX8 31 "SlipSearchModel" "pad" "[I", .constantLong RX8 78 (97), .constantLong RX8 80 (122), .fieldLink RX8 7 "SlipSearchModel" "all" "[I", .methodLink RX8 47 yX8_in, .static yX8_in, .initialized RX8, .code yX8_in cX8_in 6 (some .boolean), .methodLink RX8 85 yX8_remember, .instanceMethod yX8_remember, .selects RX8 yX8_remember yX8_remember, .code yX8_remember cX8_remember 2 none, .fieldLink RX8 13 "SlipSearchModel" "kept" "[I", .methodLink RX8 88 yX8_writes, .instanceMethod yX8_writes, .selects RX8 yX8_writes yX8_writes, .code yX8_writes cX8_writes 2 none, .methodLink RX8 91 yX8_acted, .instanceMethod yX8_acted, .selects RX8 yX8_acted yX8_acted, .code yX8_acted cX8_acted 3 (some .int), .fieldLink RX8 43 "SlipSearchModel" "historyLong" "I", .fieldLink RX8 16 "SlipSearchModel" "history" "[I"] ++ wsX80)
def wsX8_cut : List Cond := .code yX8_cut cX8_cut 2 (some .int) :: ([.constantLong RX8 97 (120), .fieldLink RX8 7 "SlipSearchModel" "all" "[I", .methodLink RX8 47 yX8_in, .static yX8_in, .initialized RX8, .code yX8_in cX8_in 6 (some .boolean), .methodLink RX8 85 yX8_remember, .instanceMethod yX8_remember, .selects RX8 yX8_remember yX8_remember, .code yX8_remember cX8_remember 2 none, .fieldLink RX8 13 "SlipSearchModel" "kept" "[I", .methodLink RX8 91 yX8_acted, .instanceMethod yX8_acted, .selects RX8 yX8_acted yX8_acted, .code yX8_acted cX8_acted 3 (some .int), .fieldLink RX8 43 "SlipSearchModel" "historyLong" "I", .fieldLink RX8 16 "SlipSearchModel" "history" "[I"] ++ wsX80)
def wsX8_replace_r1 : List Cond := [Cond.constantLong RX8 78 (97), Cond.constantLong RX8 80 (122), Cond.fieldLink RX8 75 "SlipSearchModel" "ends" "I", Cond.fieldLink RX8 7 "SlipSearchModel" "all" "[I", Cond.fieldLink RX8 28 "SlipSearchModel" "endAt" "[I", Cond.fieldLink RX8 13 "SlipSearchModel" "kept" "[I", Cond.methodLink RX8 99 yX8_isPattern, Cond.instanceMethod yX8_isPattern, Cond.selects RX8 yX8_isPattern yX8_isPattern, Cond.initialized RX8, Cond.code yX8_isPattern cX8_isPattern 2 (some .boolean), Cond.methodLink RX8 47 yX8_in, Cond.static yX8_in, Cond.code yX8_in cX8_in 6 (some .boolean), Cond.methodLink RX8 103 yX8_findsEnds, Cond.instanceMethod yX8_findsEnds, Cond.selects RX8 yX8_findsEnds yX8_findsEnds, Cond.code yX8_findsEnds cX8_findsEnds 6 none, Cond.fieldLink RX8 22 "SlipSearchModel" "fewest" "[I", Cond.fieldLink RX8 25 "SlipSearchModel" "begin" "[I", Cond.methodLink RX8 71 yX8_finds, Cond.instanceMethod yX8_finds, Cond.selects RX8 yX8_finds yX8_finds, Cond.code yX8_finds cX8_finds 5 none]
def wsX8_replace_r2 : List Cond := [Cond.methodLink RX8 55 yX8_places, Cond.instanceMethod yX8_places, Cond.selects RX8 yX8_places yX8_places, Cond.code yX8_places cX8_places 2 (some .int), Cond.methodLink RX8 59 yX8_mayBegin, Cond.instanceMethod yX8_mayBegin, Cond.selects RX8 yX8_mayBegin yX8_mayBegin, Cond.code yX8_mayBegin cX8_mayBegin 3 (some .boolean), Cond.methodLink RX8 63 yX8_tries, Cond.instanceMethod yX8_tries, Cond.selects RX8 yX8_tries yX8_tries, Cond.code yX8_tries cX8_tries 4 none, Cond.methodLink RX8 67 yX8_isTaken, Cond.instanceMethod yX8_isTaken, Cond.selects RX8 yX8_isTaken yX8_isTaken, Cond.code yX8_isTaken cX8_isTaken 4 (some .boolean), Cond.methodLink RX8 51 yX8_taking, Cond.instanceMethod yX8_taking, Cond.selects RX8 yX8_taking yX8_taking, Cond.code yX8_taking cX8_taking 3 (some .int), Cond.methodLink RX8 107 yX8_beginOf, Cond.instanceMethod yX8_beginOf, Cond.selects RX8 yX8_beginOf yX8_beginOf, Cond.code yX8_beginOf cX8_beginOf 3 (some .int)]
def wsX8_replace_r3 : List Cond := [Cond.methodLink RX8 85 yX8_remember, Cond.instanceMethod yX8_remember, Cond.selects RX8 yX8_remember yX8_remember, Cond.code yX8_remember cX8_remember 2 none, Cond.methodLink RX8 88 yX8_writes, Cond.instanceMethod yX8_writes, Cond.selects RX8 yX8_writes yX8_writes, Cond.code yX8_writes cX8_writes 2 none, Cond.methodLink RX8 91 yX8_acted, Cond.instanceMethod yX8_acted, Cond.selects RX8 yX8_acted yX8_acted, Cond.code yX8_acted cX8_acted 3 (some .int), Cond.fieldLink RX8 43 "SlipSearchModel" "historyLong" "I", Cond.fieldLink RX8 16 "SlipSearchModel" "history" "[I"]
def wsX8_replace : List Cond := .code yX8_replace cX8_replace 7 (some .int) :: ((wsX8_replace_r1 ++ (wsX8_replace_r2 ++ wsX8_replace_r3)) ++ wsX80)
def wsX8_type : List Cond := .code yX8_type cX8_type 2 (some .int) :: ([.fieldLink RX8 94 "SlipSearchModel" "padLong" "I", .fieldLink RX8 31 "SlipSearchModel" "pad" "[I"] ++ wsX80)
def wsX8_clearPad : List Cond := .code yX8_clearPad cX8_clearPad 2 (some .int) :: ([.fieldLink RX8 94 "SlipSearchModel" "padLong" "I"] ++ wsX80)
def wsX8_isHere : List Cond := .code yX8_isHere cX8_isHere 3 (some .boolean) :: ([.fieldLink RX8 110 "SlipSearchModel" "spot" "I", .fieldLink RX8 94 "SlipSearchModel" "padLong" "I", .fieldLink RX8 31 "SlipSearchModel" "pad" "[I", .methodLink RX8 47 yX8_in, .static yX8_in, .initialized RX8, .code yX8_in cX8_in 6 (some .boolean)] ++ wsX80)
def wsX8_takesOne : List Cond := .code yX8_takesOne cX8_takesOne 3 (some .boolean) :: ([.fieldLink RX8 110 "SlipSearchModel" "spot" "I", .methodLink RX8 113 yX8_isHere, .instanceMethod yX8_isHere, .selects RX8 yX8_isHere yX8_isHere, .initialized RX8, .code yX8_isHere cX8_isHere 3 (some .boolean), .fieldLink RX8 94 "SlipSearchModel" "padLong" "I", .fieldLink RX8 31 "SlipSearchModel" "pad" "[I", .methodLink RX8 47 yX8_in, .static yX8_in, .code yX8_in cX8_in 6 (some .boolean)] ++ wsX80)
def wsX8_reads : List Cond := .code yX8_reads cX8_reads 2 none :: ([.fieldLink RX8 34 "SlipSearchModel" "readTakes" "[I", .fieldLink RX8 116 "SlipSearchModel" "readPlaces" "I"] ++ wsX80)
def wsX8_readsSet : List Cond := .code yX8_readsSet cX8_readsSet 4 (some .boolean) :: ([.fieldLink RX8 31 "SlipSearchModel" "pad" "[I", .fieldLink RX8 110 "SlipSearchModel" "spot" "I", .constant RX8 122 (67108863), .methodLink RX8 119 yX8_takesOne, .instanceMethod yX8_takesOne, .selects RX8 yX8_takesOne yX8_takesOne, .initialized RX8, .code yX8_takesOne cX8_takesOne 3 (some .boolean), .methodLink RX8 113 yX8_isHere, .instanceMethod yX8_isHere, .selects RX8 yX8_isHere yX8_isHere, .code yX8_isHere cX8_isHere 3 (some .boolean), .fieldLink RX8 94 "SlipSearchModel" "padLong" "I", .methodLink RX8 47 yX8_in, .static yX8_in, .code yX8_in cX8_in 6 (some .boolean), .methodLink RX8 123 yX8_reads, .instanceMethod yX8_reads, .selects RX8 yX8_reads yX8_reads, .code yX8_reads cX8_reads 2 none, .fieldLink RX8 34 "SlipSearchModel" "readTakes" "[I", .fieldLink RX8 116 "SlipSearchModel" "readPlaces" "I"] ++ wsX80)
def wsX8_readsPlace_r1 : List Cond := [Cond.fieldLink RX8 31 "SlipSearchModel" "pad" "[I", Cond.fieldLink RX8 110 "SlipSearchModel" "spot" "I", Cond.constant RX8 130 (134217727), Cond.constant RX8 131 (67108864), Cond.methodLink RX8 119 yX8_takesOne, Cond.instanceMethod yX8_takesOne, Cond.selects RX8 yX8_takesOne yX8_takesOne, Cond.initialized RX8, Cond.code yX8_takesOne cX8_takesOne 3 (some .boolean), Cond.methodLink RX8 113 yX8_isHere, Cond.instanceMethod yX8_isHere, Cond.selects RX8 yX8_isHere yX8_isHere, Cond.code yX8_isHere cX8_isHere 3 (some .boolean), Cond.fieldLink RX8 94 "SlipSearchModel" "padLong" "I", Cond.methodLink RX8 47 yX8_in, Cond.static yX8_in, Cond.code yX8_in cX8_in 6 (some .boolean), Cond.methodLink RX8 126 yX8_readsSet, Cond.instanceMethod yX8_readsSet, Cond.selects RX8 yX8_readsSet yX8_readsSet, Cond.code yX8_readsSet cX8_readsSet 4 (some .boolean), Cond.constant RX8 122 (67108863), Cond.methodLink RX8 123 yX8_reads, Cond.instanceMethod yX8_reads]
def wsX8_readsPlace_r2 : List Cond := [Cond.selects RX8 yX8_reads yX8_reads, Cond.code yX8_reads cX8_reads 2 none, Cond.fieldLink RX8 34 "SlipSearchModel" "readTakes" "[I", Cond.fieldLink RX8 116 "SlipSearchModel" "readPlaces" "I"]
def wsX8_readsPlace : List Cond := .code yX8_readsPlace cX8_readsPlace 1 (some .boolean) :: ((wsX8_readsPlace_r1 ++ wsX8_readsPlace_r2) ++ wsX80)
def wsX8_fault_r1 : List Cond := [Cond.fieldLink RX8 110 "SlipSearchModel" "spot" "I", Cond.fieldLink RX8 116 "SlipSearchModel" "readPlaces" "I", Cond.fieldLink RX8 132 "SlipSearchModel" "readBound" "I", Cond.fieldLink RX8 94 "SlipSearchModel" "padLong" "I", Cond.methodLink RX8 119 yX8_takesOne, Cond.instanceMethod yX8_takesOne, Cond.selects RX8 yX8_takesOne yX8_takesOne, Cond.initialized RX8, Cond.code yX8_takesOne cX8_takesOne 3 (some .boolean), Cond.methodLink RX8 113 yX8_isHere, Cond.instanceMethod yX8_isHere, Cond.selects RX8 yX8_isHere yX8_isHere, Cond.code yX8_isHere cX8_isHere 3 (some .boolean), Cond.fieldLink RX8 31 "SlipSearchModel" "pad" "[I", Cond.methodLink RX8 47 yX8_in, Cond.static yX8_in, Cond.code yX8_in cX8_in 6 (some .boolean), Cond.methodLink RX8 135 yX8_readsPlace, Cond.instanceMethod yX8_readsPlace, Cond.selects RX8 yX8_readsPlace yX8_readsPlace, Cond.code yX8_readsPlace cX8_readsPlace 1 (some .boolean), Cond.constant RX8 130 (134217727), Cond.constant RX8 131 (67108864), Cond.methodLink RX8 126 yX8_readsSet]
def wsX8_fault_r2 : List Cond := [Cond.instanceMethod yX8_readsSet, Cond.selects RX8 yX8_readsSet yX8_readsSet, Cond.code yX8_readsSet cX8_readsSet 4 (some .boolean), Cond.constant RX8 122 (67108863), Cond.methodLink RX8 123 yX8_reads, Cond.instanceMethod yX8_reads, Cond.selects RX8 yX8_reads yX8_reads, Cond.code yX8_reads cX8_reads 2 none, Cond.fieldLink RX8 34 "SlipSearchModel" "readTakes" "[I"]
def wsX8_fault : List Cond := .code yX8_fault cX8_fault 2 (some .int) :: ((wsX8_fault_r1 ++ wsX8_fault_r2) ++ wsX80)
def wsX8_addPattern_r1 : List Cond := [Cond.fieldLink RX8 7 "SlipSearchModel" "all" "[I", Cond.fieldLink RX8 116 "SlipSearchModel" "readPlaces" "I", Cond.fieldLink RX8 132 "SlipSearchModel" "readBound" "I", Cond.fieldLink RX8 34 "SlipSearchModel" "readTakes" "[I", Cond.methodLink RX8 138 yX8_fault, Cond.instanceMethod yX8_fault, Cond.selects RX8 yX8_fault yX8_fault, Cond.initialized RX8, Cond.code yX8_fault cX8_fault 2 (some .int), Cond.fieldLink RX8 110 "SlipSearchModel" "spot" "I", Cond.fieldLink RX8 94 "SlipSearchModel" "padLong" "I", Cond.methodLink RX8 119 yX8_takesOne, Cond.instanceMethod yX8_takesOne, Cond.selects RX8 yX8_takesOne yX8_takesOne, Cond.code yX8_takesOne cX8_takesOne 3 (some .boolean), Cond.methodLink RX8 113 yX8_isHere, Cond.instanceMethod yX8_isHere, Cond.selects RX8 yX8_isHere yX8_isHere, Cond.code yX8_isHere cX8_isHere 3 (some .boolean), Cond.fieldLink RX8 31 "SlipSearchModel" "pad" "[I", Cond.methodLink RX8 47 yX8_in, Cond.static yX8_in, Cond.code yX8_in cX8_in 6 (some .boolean), Cond.methodLink RX8 135 yX8_readsPlace]
def wsX8_addPattern_r2 : List Cond := [Cond.instanceMethod yX8_readsPlace, Cond.selects RX8 yX8_readsPlace yX8_readsPlace, Cond.code yX8_readsPlace cX8_readsPlace 1 (some .boolean), Cond.constant RX8 130 (134217727), Cond.constant RX8 131 (67108864), Cond.methodLink RX8 126 yX8_readsSet, Cond.instanceMethod yX8_readsSet, Cond.selects RX8 yX8_readsSet yX8_readsSet, Cond.code yX8_readsSet cX8_readsSet 4 (some .boolean), Cond.constant RX8 122 (67108863), Cond.methodLink RX8 123 yX8_reads, Cond.instanceMethod yX8_reads, Cond.selects RX8 yX8_reads yX8_reads, Cond.code yX8_reads cX8_reads 2 none, Cond.methodLink RX8 85 yX8_remember, Cond.instanceMethod yX8_remember, Cond.selects RX8 yX8_remember yX8_remember, Cond.code yX8_remember cX8_remember 2 none, Cond.fieldLink RX8 13 "SlipSearchModel" "kept" "[I", Cond.methodLink RX8 91 yX8_acted, Cond.instanceMethod yX8_acted, Cond.selects RX8 yX8_acted yX8_acted, Cond.code yX8_acted cX8_acted 3 (some .int), Cond.fieldLink RX8 43 "SlipSearchModel" "historyLong" "I"]
def wsX8_addPattern_r3 : List Cond := [Cond.fieldLink RX8 16 "SlipSearchModel" "history" "[I"]
def wsX8_addPattern : List Cond := .code yX8_addPattern cX8_addPattern 4 (some .int) :: ((wsX8_addPattern_r1 ++ (wsX8_addPattern_r2 ++ wsX8_addPattern_r3)) ++ wsX80)
def wsX8_removePattern : List Cond := .code yX8_removePattern cX8_removePattern 3 (some .int) :: ([.fieldLink RX8 7 "SlipSearchModel" "all" "[I", .methodLink RX8 99 yX8_isPattern, .instanceMethod yX8_isPattern, .selects RX8 yX8_isPattern yX8_isPattern, .initialized RX8, .code yX8_isPattern cX8_isPattern 2 (some .boolean), .methodLink RX8 47 yX8_in, .static yX8_in, .code yX8_in cX8_in 6 (some .boolean), .methodLink RX8 85 yX8_remember, .instanceMethod yX8_remember, .selects RX8 yX8_remember yX8_remember, .code yX8_remember cX8_remember 2 none, .fieldLink RX8 13 "SlipSearchModel" "kept" "[I", .methodLink RX8 91 yX8_acted, .instanceMethod yX8_acted, .selects RX8 yX8_acted yX8_acted, .code yX8_acted cX8_acted 3 (some .int), .fieldLink RX8 43 "SlipSearchModel" "historyLong" "I", .fieldLink RX8 16 "SlipSearchModel" "history" "[I"] ++ wsX80)
def wsX8_setSlips : List Cond := .code yX8_setSlips cX8_setSlips 3 (some .int) :: ([.constantLong RX8 142 (4), .fieldLink RX8 7 "SlipSearchModel" "all" "[I", .methodLink RX8 47 yX8_in, .static yX8_in, .initialized RX8, .code yX8_in cX8_in 6 (some .boolean), .methodLink RX8 85 yX8_remember, .instanceMethod yX8_remember, .selects RX8 yX8_remember yX8_remember, .code yX8_remember cX8_remember 2 none, .fieldLink RX8 13 "SlipSearchModel" "kept" "[I", .methodLink RX8 91 yX8_acted, .instanceMethod yX8_acted, .selects RX8 yX8_acted yX8_acted, .code yX8_acted cX8_acted 3 (some .int), .fieldLink RX8 43 "SlipSearchModel" "historyLong" "I", .fieldLink RX8 16 "SlipSearchModel" "history" "[I"] ++ wsX80)
def wsX8_undo : List Cond := .code yX8_undo cX8_undo 2 (some .int) :: ([.fieldLink RX8 43 "SlipSearchModel" "historyLong" "I", .fieldLink RX8 7 "SlipSearchModel" "all" "[I", .fieldLink RX8 16 "SlipSearchModel" "history" "[I"] ++ wsX80)
def wsX8_keep : List Cond := .code yX8_keep cX8_keep 2 (some .int) :: ([.fieldLink RX8 19 "SlipSearchModel" "snapshot" "[I", .fieldLink RX8 7 "SlipSearchModel" "all" "[I", .fieldLink RX8 144 "SlipSearchModel" "isTaken" "I"] ++ wsX80)
def wsX8_restore : List Cond := .code yX8_restore cX8_restore 2 (some .int) :: ([.fieldLink RX8 144 "SlipSearchModel" "isTaken" "I", .fieldLink RX8 7 "SlipSearchModel" "all" "[I", .fieldLink RX8 19 "SlipSearchModel" "snapshot" "[I", .methodLink RX8 85 yX8_remember, .instanceMethod yX8_remember, .selects RX8 yX8_remember yX8_remember, .initialized RX8, .code yX8_remember cX8_remember 2 none, .fieldLink RX8 13 "SlipSearchModel" "kept" "[I", .methodLink RX8 91 yX8_acted, .instanceMethod yX8_acted, .selects RX8 yX8_acted yX8_acted, .code yX8_acted cX8_acted 3 (some .int), .fieldLink RX8 43 "SlipSearchModel" "historyLong" "I", .fieldLink RX8 16 "SlipSearchModel" "history" "[I"] ++ wsX80)
def wsX8_at : List Cond := .code yX8_at cX8_at 3 (some .int) :: ([.fieldLink RX8 7 "SlipSearchModel" "all" "[I", .methodLink RX8 47 yX8_in, .static yX8_in, .initialized RX8, .code yX8_in cX8_in 6 (some .boolean)] ++ wsX80)
def wsX8_manyEnds_r1 : List Cond := [Cond.fieldLink RX8 75 "SlipSearchModel" "ends" "I", Cond.methodLink RX8 103 yX8_findsEnds, Cond.instanceMethod yX8_findsEnds, Cond.selects RX8 yX8_findsEnds yX8_findsEnds, Cond.initialized RX8, Cond.code yX8_findsEnds cX8_findsEnds 6 none, Cond.fieldLink RX8 7 "SlipSearchModel" "all" "[I", Cond.fieldLink RX8 22 "SlipSearchModel" "fewest" "[I", Cond.fieldLink RX8 25 "SlipSearchModel" "begin" "[I", Cond.fieldLink RX8 28 "SlipSearchModel" "endAt" "[I", Cond.methodLink RX8 71 yX8_finds, Cond.instanceMethod yX8_finds, Cond.selects RX8 yX8_finds yX8_finds, Cond.code yX8_finds cX8_finds 5 none, Cond.methodLink RX8 55 yX8_places, Cond.instanceMethod yX8_places, Cond.selects RX8 yX8_places yX8_places, Cond.code yX8_places cX8_places 2 (some .int), Cond.methodLink RX8 59 yX8_mayBegin, Cond.instanceMethod yX8_mayBegin, Cond.selects RX8 yX8_mayBegin yX8_mayBegin, Cond.code yX8_mayBegin cX8_mayBegin 3 (some .boolean), Cond.methodLink RX8 63 yX8_tries, Cond.instanceMethod yX8_tries]
def wsX8_manyEnds_r2 : List Cond := [Cond.selects RX8 yX8_tries yX8_tries, Cond.code yX8_tries cX8_tries 4 none, Cond.methodLink RX8 67 yX8_isTaken, Cond.instanceMethod yX8_isTaken, Cond.selects RX8 yX8_isTaken yX8_isTaken, Cond.code yX8_isTaken cX8_isTaken 4 (some .boolean), Cond.methodLink RX8 51 yX8_taking, Cond.instanceMethod yX8_taking, Cond.selects RX8 yX8_taking yX8_taking, Cond.code yX8_taking cX8_taking 3 (some .int)]
def wsX8_manyEnds : List Cond := .code yX8_manyEnds cX8_manyEnds 3 (some .int) :: ((wsX8_manyEnds_r1 ++ wsX8_manyEnds_r2) ++ wsX80)
def wsX8_bestRank_r1 : List Cond := [Cond.fieldLink RX8 75 "SlipSearchModel" "ends" "I", Cond.methodLink RX8 103 yX8_findsEnds, Cond.instanceMethod yX8_findsEnds, Cond.selects RX8 yX8_findsEnds yX8_findsEnds, Cond.initialized RX8, Cond.code yX8_findsEnds cX8_findsEnds 6 none, Cond.fieldLink RX8 7 "SlipSearchModel" "all" "[I", Cond.fieldLink RX8 22 "SlipSearchModel" "fewest" "[I", Cond.fieldLink RX8 25 "SlipSearchModel" "begin" "[I", Cond.fieldLink RX8 28 "SlipSearchModel" "endAt" "[I", Cond.methodLink RX8 71 yX8_finds, Cond.instanceMethod yX8_finds, Cond.selects RX8 yX8_finds yX8_finds, Cond.code yX8_finds cX8_finds 5 none, Cond.methodLink RX8 55 yX8_places, Cond.instanceMethod yX8_places, Cond.selects RX8 yX8_places yX8_places, Cond.code yX8_places cX8_places 2 (some .int), Cond.methodLink RX8 59 yX8_mayBegin, Cond.instanceMethod yX8_mayBegin, Cond.selects RX8 yX8_mayBegin yX8_mayBegin, Cond.code yX8_mayBegin cX8_mayBegin 3 (some .boolean), Cond.methodLink RX8 63 yX8_tries, Cond.instanceMethod yX8_tries]
def wsX8_bestRank_r2 : List Cond := [Cond.selects RX8 yX8_tries yX8_tries, Cond.code yX8_tries cX8_tries 4 none, Cond.methodLink RX8 67 yX8_isTaken, Cond.instanceMethod yX8_isTaken, Cond.selects RX8 yX8_isTaken yX8_isTaken, Cond.code yX8_isTaken cX8_isTaken 4 (some .boolean), Cond.methodLink RX8 51 yX8_taking, Cond.instanceMethod yX8_taking, Cond.selects RX8 yX8_taking yX8_taking, Cond.code yX8_taking cX8_taking 3 (some .int), Cond.methodLink RX8 146 yX8_slipsOf, Cond.instanceMethod yX8_slipsOf, Cond.selects RX8 yX8_slipsOf yX8_slipsOf, Cond.code yX8_slipsOf cX8_slipsOf 3 (some .int)]
def wsX8_bestRank : List Cond := .code yX8_bestRank cX8_bestRank 4 (some .int) :: ((wsX8_bestRank_r1 ++ wsX8_bestRank_r2) ++ wsX80)
def wsX8_fewestSlips_r1 : List Cond := [Cond.methodLink RX8 149 yX8_bestRank, Cond.instanceMethod yX8_bestRank, Cond.selects RX8 yX8_bestRank yX8_bestRank, Cond.initialized RX8, Cond.code yX8_bestRank cX8_bestRank 4 (some .int), Cond.fieldLink RX8 75 "SlipSearchModel" "ends" "I", Cond.methodLink RX8 103 yX8_findsEnds, Cond.instanceMethod yX8_findsEnds, Cond.selects RX8 yX8_findsEnds yX8_findsEnds, Cond.code yX8_findsEnds cX8_findsEnds 6 none, Cond.fieldLink RX8 7 "SlipSearchModel" "all" "[I", Cond.fieldLink RX8 22 "SlipSearchModel" "fewest" "[I", Cond.fieldLink RX8 25 "SlipSearchModel" "begin" "[I", Cond.fieldLink RX8 28 "SlipSearchModel" "endAt" "[I", Cond.methodLink RX8 71 yX8_finds, Cond.instanceMethod yX8_finds, Cond.selects RX8 yX8_finds yX8_finds, Cond.code yX8_finds cX8_finds 5 none, Cond.methodLink RX8 55 yX8_places, Cond.instanceMethod yX8_places, Cond.selects RX8 yX8_places yX8_places, Cond.code yX8_places cX8_places 2 (some .int), Cond.methodLink RX8 59 yX8_mayBegin, Cond.instanceMethod yX8_mayBegin]
def wsX8_fewestSlips_r2 : List Cond := [Cond.selects RX8 yX8_mayBegin yX8_mayBegin, Cond.code yX8_mayBegin cX8_mayBegin 3 (some .boolean), Cond.methodLink RX8 63 yX8_tries, Cond.instanceMethod yX8_tries, Cond.selects RX8 yX8_tries yX8_tries, Cond.code yX8_tries cX8_tries 4 none, Cond.methodLink RX8 67 yX8_isTaken, Cond.instanceMethod yX8_isTaken, Cond.selects RX8 yX8_isTaken yX8_isTaken, Cond.code yX8_isTaken cX8_isTaken 4 (some .boolean), Cond.methodLink RX8 51 yX8_taking, Cond.instanceMethod yX8_taking, Cond.selects RX8 yX8_taking yX8_taking, Cond.code yX8_taking cX8_taking 3 (some .int), Cond.methodLink RX8 146 yX8_slipsOf, Cond.instanceMethod yX8_slipsOf, Cond.selects RX8 yX8_slipsOf yX8_slipsOf, Cond.code yX8_slipsOf cX8_slipsOf 3 (some .int)]
def wsX8_fewestSlips : List Cond := .code yX8_fewestSlips cX8_fewestSlips 3 (some .int) :: ((wsX8_fewestSlips_r1 ++ wsX8_fewestSlips_r2) ++ wsX80)
def wsX8_firstBest_r1 : List Cond := [Cond.fieldLink RX8 28 "SlipSearchModel" "endAt" "[I", Cond.methodLink RX8 149 yX8_bestRank, Cond.instanceMethod yX8_bestRank, Cond.selects RX8 yX8_bestRank yX8_bestRank, Cond.initialized RX8, Cond.code yX8_bestRank cX8_bestRank 4 (some .int), Cond.fieldLink RX8 75 "SlipSearchModel" "ends" "I", Cond.methodLink RX8 103 yX8_findsEnds, Cond.instanceMethod yX8_findsEnds, Cond.selects RX8 yX8_findsEnds yX8_findsEnds, Cond.code yX8_findsEnds cX8_findsEnds 6 none, Cond.fieldLink RX8 7 "SlipSearchModel" "all" "[I", Cond.fieldLink RX8 22 "SlipSearchModel" "fewest" "[I", Cond.fieldLink RX8 25 "SlipSearchModel" "begin" "[I", Cond.methodLink RX8 71 yX8_finds, Cond.instanceMethod yX8_finds, Cond.selects RX8 yX8_finds yX8_finds, Cond.code yX8_finds cX8_finds 5 none, Cond.methodLink RX8 55 yX8_places, Cond.instanceMethod yX8_places, Cond.selects RX8 yX8_places yX8_places, Cond.code yX8_places cX8_places 2 (some .int), Cond.methodLink RX8 59 yX8_mayBegin, Cond.instanceMethod yX8_mayBegin]
def wsX8_firstBest_r2 : List Cond := [Cond.selects RX8 yX8_mayBegin yX8_mayBegin, Cond.code yX8_mayBegin cX8_mayBegin 3 (some .boolean), Cond.methodLink RX8 63 yX8_tries, Cond.instanceMethod yX8_tries, Cond.selects RX8 yX8_tries yX8_tries, Cond.code yX8_tries cX8_tries 4 none, Cond.methodLink RX8 67 yX8_isTaken, Cond.instanceMethod yX8_isTaken, Cond.selects RX8 yX8_isTaken yX8_isTaken, Cond.code yX8_isTaken cX8_isTaken 4 (some .boolean), Cond.methodLink RX8 51 yX8_taking, Cond.instanceMethod yX8_taking, Cond.selects RX8 yX8_taking yX8_taking, Cond.code yX8_taking cX8_taking 3 (some .int), Cond.methodLink RX8 146 yX8_slipsOf, Cond.instanceMethod yX8_slipsOf, Cond.selects RX8 yX8_slipsOf yX8_slipsOf, Cond.code yX8_slipsOf cX8_slipsOf 3 (some .int)]
def wsX8_firstBest : List Cond := .code yX8_firstBest cX8_firstBest 3 (some .int) :: ((wsX8_firstBest_r1 ++ wsX8_firstBest_r2) ++ wsX80)
def wsX8_wildPlaces : List Cond := .code yX8_wildPlaces cX8_wildPlaces 4 (some .int) :: ([.constant RX8 130 (134217727), .methodLink RX8 55 yX8_places, .instanceMethod yX8_places, .selects RX8 yX8_places yX8_places, .initialized RX8, .code yX8_places cX8_places 2 (some .int), .fieldLink RX8 7 "SlipSearchModel" "all" "[I", .methodLink RX8 51 yX8_taking, .instanceMethod yX8_taking, .selects RX8 yX8_taking yX8_taking, .code yX8_taking cX8_taking 3 (some .int)] ++ wsX80)
def wsX8_isPlain : List Cond := .code yX8_isPlain cX8_isPlain 4 (some .boolean) :: ([.methodLink RX8 55 yX8_places, .instanceMethod yX8_places, .selects RX8 yX8_places yX8_places, .initialized RX8, .code yX8_places cX8_places 2 (some .int), .fieldLink RX8 7 "SlipSearchModel" "all" "[I", .methodLink RX8 51 yX8_taking, .instanceMethod yX8_taking, .selects RX8 yX8_taking yX8_taking, .code yX8_taking cX8_taking 3 (some .int), .methodLink RX8 152 yX8_bits, .static yX8_bits, .code yX8_bits cX8_bits 3 (some .int)] ++ wsX80)
def wsX8_pattern_r1 : List Cond := [Cond.fieldLink RX8 7 "SlipSearchModel" "all" "[I", Cond.methodLink RX8 99 yX8_isPattern, Cond.instanceMethod yX8_isPattern, Cond.selects RX8 yX8_isPattern yX8_isPattern, Cond.initialized RX8, Cond.code yX8_isPattern cX8_isPattern 2 (some .boolean), Cond.methodLink RX8 47 yX8_in, Cond.static yX8_in, Cond.code yX8_in cX8_in 6 (some .boolean), Cond.methodLink RX8 155 yX8_manyEnds, Cond.instanceMethod yX8_manyEnds, Cond.selects RX8 yX8_manyEnds yX8_manyEnds, Cond.code yX8_manyEnds cX8_manyEnds 3 (some .int), Cond.fieldLink RX8 75 "SlipSearchModel" "ends" "I", Cond.methodLink RX8 103 yX8_findsEnds, Cond.instanceMethod yX8_findsEnds, Cond.selects RX8 yX8_findsEnds yX8_findsEnds, Cond.code yX8_findsEnds cX8_findsEnds 6 none, Cond.fieldLink RX8 22 "SlipSearchModel" "fewest" "[I", Cond.fieldLink RX8 25 "SlipSearchModel" "begin" "[I", Cond.fieldLink RX8 28 "SlipSearchModel" "endAt" "[I", Cond.methodLink RX8 71 yX8_finds, Cond.instanceMethod yX8_finds, Cond.selects RX8 yX8_finds yX8_finds]
def wsX8_pattern_r2 : List Cond := [Cond.code yX8_finds cX8_finds 5 none, Cond.methodLink RX8 55 yX8_places, Cond.instanceMethod yX8_places, Cond.selects RX8 yX8_places yX8_places, Cond.code yX8_places cX8_places 2 (some .int), Cond.methodLink RX8 59 yX8_mayBegin, Cond.instanceMethod yX8_mayBegin, Cond.selects RX8 yX8_mayBegin yX8_mayBegin, Cond.code yX8_mayBegin cX8_mayBegin 3 (some .boolean), Cond.methodLink RX8 63 yX8_tries, Cond.instanceMethod yX8_tries, Cond.selects RX8 yX8_tries yX8_tries, Cond.code yX8_tries cX8_tries 4 none, Cond.methodLink RX8 67 yX8_isTaken, Cond.instanceMethod yX8_isTaken, Cond.selects RX8 yX8_isTaken yX8_isTaken, Cond.code yX8_isTaken cX8_isTaken 4 (some .boolean), Cond.methodLink RX8 51 yX8_taking, Cond.instanceMethod yX8_taking, Cond.selects RX8 yX8_taking yX8_taking, Cond.code yX8_taking cX8_taking 3 (some .int), Cond.methodLink RX8 159 yX8_fewestSlips, Cond.instanceMethod yX8_fewestSlips, Cond.selects RX8 yX8_fewestSlips yX8_fewestSlips]
def wsX8_pattern_r3 : List Cond := [Cond.code yX8_fewestSlips cX8_fewestSlips 3 (some .int), Cond.methodLink RX8 149 yX8_bestRank, Cond.instanceMethod yX8_bestRank, Cond.selects RX8 yX8_bestRank yX8_bestRank, Cond.code yX8_bestRank cX8_bestRank 4 (some .int), Cond.methodLink RX8 146 yX8_slipsOf, Cond.instanceMethod yX8_slipsOf, Cond.selects RX8 yX8_slipsOf yX8_slipsOf, Cond.code yX8_slipsOf cX8_slipsOf 3 (some .int), Cond.methodLink RX8 162 yX8_firstBest, Cond.instanceMethod yX8_firstBest, Cond.selects RX8 yX8_firstBest yX8_firstBest, Cond.code yX8_firstBest cX8_firstBest 3 (some .int), Cond.methodLink RX8 165 yX8_wildPlaces, Cond.instanceMethod yX8_wildPlaces, Cond.selects RX8 yX8_wildPlaces yX8_wildPlaces, Cond.code yX8_wildPlaces cX8_wildPlaces 4 (some .int), Cond.constant RX8 130 (134217727), Cond.methodLink RX8 168 yX8_isPlain, Cond.instanceMethod yX8_isPlain, Cond.selects RX8 yX8_isPlain yX8_isPlain, Cond.code yX8_isPlain cX8_isPlain 4 (some .boolean), Cond.methodLink RX8 152 yX8_bits, Cond.static yX8_bits]
def wsX8_pattern_r4 : List Cond := [Cond.code yX8_bits cX8_bits 3 (some .int)]
def wsX8_pattern : List Cond := .code yX8_pattern cX8_pattern 3 (some .int) :: ((wsX8_pattern_r1 ++ (wsX8_pattern_r2 ++ (wsX8_pattern_r3 ++ wsX8_pattern_r4))) ++ wsX80)
def wsX8_takes : List Cond := .code yX8_takes cX8_takes 3 (some .int) :: ([.methodLink RX8 99 yX8_isPattern, .instanceMethod yX8_isPattern, .selects RX8 yX8_isPattern yX8_isPattern, .initialized RX8, .code yX8_isPattern cX8_isPattern 2 (some .boolean), .fieldLink RX8 7 "SlipSearchModel" "all" "[I", .methodLink RX8 47 yX8_in, .static yX8_in, .code yX8_in cX8_in 6 (some .boolean), .methodLink RX8 55 yX8_places, .instanceMethod yX8_places, .selects RX8 yX8_places yX8_places, .code yX8_places cX8_places 2 (some .int), .methodLink RX8 51 yX8_taking, .instanceMethod yX8_taking, .selects RX8 yX8_taking yX8_taking, .code yX8_taking cX8_taking 3 (some .int)] ++ wsX80)
def wsX8_end_r1 : List Cond := [Cond.constantLong RX8 171 (2), Cond.fieldLink RX8 75 "SlipSearchModel" "ends" "I", Cond.fieldLink RX8 28 "SlipSearchModel" "endAt" "[I", Cond.methodLink RX8 99 yX8_isPattern, Cond.instanceMethod yX8_isPattern, Cond.selects RX8 yX8_isPattern yX8_isPattern, Cond.initialized RX8, Cond.code yX8_isPattern cX8_isPattern 2 (some .boolean), Cond.fieldLink RX8 7 "SlipSearchModel" "all" "[I", Cond.methodLink RX8 47 yX8_in, Cond.static yX8_in, Cond.code yX8_in cX8_in 6 (some .boolean), Cond.methodLink RX8 103 yX8_findsEnds, Cond.instanceMethod yX8_findsEnds, Cond.selects RX8 yX8_findsEnds yX8_findsEnds, Cond.code yX8_findsEnds cX8_findsEnds 6 none, Cond.fieldLink RX8 22 "SlipSearchModel" "fewest" "[I", Cond.fieldLink RX8 25 "SlipSearchModel" "begin" "[I", Cond.methodLink RX8 71 yX8_finds, Cond.instanceMethod yX8_finds, Cond.selects RX8 yX8_finds yX8_finds, Cond.code yX8_finds cX8_finds 5 none, Cond.methodLink RX8 55 yX8_places, Cond.instanceMethod yX8_places]
def wsX8_end_r2 : List Cond := [Cond.selects RX8 yX8_places yX8_places, Cond.code yX8_places cX8_places 2 (some .int), Cond.methodLink RX8 59 yX8_mayBegin, Cond.instanceMethod yX8_mayBegin, Cond.selects RX8 yX8_mayBegin yX8_mayBegin, Cond.code yX8_mayBegin cX8_mayBegin 3 (some .boolean), Cond.methodLink RX8 63 yX8_tries, Cond.instanceMethod yX8_tries, Cond.selects RX8 yX8_tries yX8_tries, Cond.code yX8_tries cX8_tries 4 none, Cond.methodLink RX8 67 yX8_isTaken, Cond.instanceMethod yX8_isTaken, Cond.selects RX8 yX8_isTaken yX8_isTaken, Cond.code yX8_isTaken cX8_isTaken 4 (some .boolean), Cond.methodLink RX8 51 yX8_taking, Cond.instanceMethod yX8_taking, Cond.selects RX8 yX8_taking yX8_taking, Cond.code yX8_taking cX8_taking 3 (some .int), Cond.methodLink RX8 146 yX8_slipsOf, Cond.instanceMethod yX8_slipsOf, Cond.selects RX8 yX8_slipsOf yX8_slipsOf, Cond.code yX8_slipsOf cX8_slipsOf 3 (some .int), Cond.methodLink RX8 107 yX8_beginOf, Cond.instanceMethod yX8_beginOf]
def wsX8_end_r3 : List Cond := [Cond.selects RX8 yX8_beginOf yX8_beginOf, Cond.code yX8_beginOf cX8_beginOf 3 (some .int)]
def wsX8_end : List Cond := .code yX8_end cX8_end 5 (some .int) :: ((wsX8_end_r1 ++ (wsX8_end_r2 ++ wsX8_end_r3)) ++ wsX80)
def wsX8_column_r1 : List Cond := [Cond.constantLong RX8 173 (-1), Cond.fieldLink RX8 7 "SlipSearchModel" "all" "[I", Cond.constantLong RX8 175 (-2), Cond.fieldLink RX8 22 "SlipSearchModel" "fewest" "[I", Cond.methodLink RX8 99 yX8_isPattern, Cond.instanceMethod yX8_isPattern, Cond.selects RX8 yX8_isPattern yX8_isPattern, Cond.initialized RX8, Cond.code yX8_isPattern cX8_isPattern 2 (some .boolean), Cond.methodLink RX8 47 yX8_in, Cond.static yX8_in, Cond.code yX8_in cX8_in 6 (some .boolean), Cond.methodLink RX8 71 yX8_finds, Cond.instanceMethod yX8_finds, Cond.selects RX8 yX8_finds yX8_finds, Cond.code yX8_finds cX8_finds 5 none, Cond.fieldLink RX8 25 "SlipSearchModel" "begin" "[I", Cond.methodLink RX8 55 yX8_places, Cond.instanceMethod yX8_places, Cond.selects RX8 yX8_places yX8_places, Cond.code yX8_places cX8_places 2 (some .int), Cond.methodLink RX8 59 yX8_mayBegin, Cond.instanceMethod yX8_mayBegin, Cond.selects RX8 yX8_mayBegin yX8_mayBegin]
def wsX8_column_r2 : List Cond := [Cond.code yX8_mayBegin cX8_mayBegin 3 (some .boolean), Cond.methodLink RX8 63 yX8_tries, Cond.instanceMethod yX8_tries, Cond.selects RX8 yX8_tries yX8_tries, Cond.code yX8_tries cX8_tries 4 none, Cond.methodLink RX8 67 yX8_isTaken, Cond.instanceMethod yX8_isTaken, Cond.selects RX8 yX8_isTaken yX8_isTaken, Cond.code yX8_isTaken cX8_isTaken 4 (some .boolean), Cond.methodLink RX8 51 yX8_taking, Cond.instanceMethod yX8_taking, Cond.selects RX8 yX8_taking yX8_taking, Cond.code yX8_taking cX8_taking 3 (some .int)]
def wsX8_column : List Cond := .code yX8_column cX8_column 7 (some .long) :: ((wsX8_column_r1 ++ wsX8_column_r2) ++ wsX80)
def wsX8_fits : List Cond := .code yX8_fits cX8_fits 9 none :: ([.fieldLink RX8 37 "SlipSearchModel" "part" "[I", .methodLink RX8 55 yX8_places, .instanceMethod yX8_places, .selects RX8 yX8_places yX8_places, .initialized RX8, .code yX8_places cX8_places 2 (some .int), .fieldLink RX8 7 "SlipSearchModel" "all" "[I", .methodLink RX8 67 yX8_isTaken, .instanceMethod yX8_isTaken, .selects RX8 yX8_isTaken yX8_isTaken, .code yX8_isTaken cX8_isTaken 4 (some .boolean), .methodLink RX8 51 yX8_taking, .instanceMethod yX8_taking, .selects RX8 yX8_taking yX8_taking, .code yX8_taking cX8_taking 3 (some .int)] ++ wsX80)
def wsX8_goesBack : List Cond := .code yX8_goesBack cX8_goesBack 9 none :: ([.fieldLink RX8 177 "SlipSearchModel" "putIn" "I", .fieldLink RX8 180 "SlipSearchModel" "leftOut" "I", .fieldLink RX8 183 "SlipSearchModel" "exchanged" "I", .fieldLink RX8 37 "SlipSearchModel" "part" "[I", .methodLink RX8 55 yX8_places, .instanceMethod yX8_places, .selects RX8 yX8_places yX8_places, .initialized RX8, .code yX8_places cX8_places 2 (some .int), .fieldLink RX8 7 "SlipSearchModel" "all" "[I", .methodLink RX8 67 yX8_isTaken, .instanceMethod yX8_isTaken, .selects RX8 yX8_isTaken yX8_isTaken, .code yX8_isTaken cX8_isTaken 4 (some .boolean), .methodLink RX8 51 yX8_taking, .instanceMethod yX8_taking, .selects RX8 yX8_taking yX8_taking, .code yX8_taking cX8_taking 3 (some .int)] ++ wsX80)
def wsX8_slips_r1 : List Cond := [Cond.fieldLink RX8 7 "SlipSearchModel" "all" "[I", Cond.constantLong RX8 186 (3), Cond.fieldLink RX8 177 "SlipSearchModel" "putIn" "I", Cond.fieldLink RX8 180 "SlipSearchModel" "leftOut" "I", Cond.fieldLink RX8 183 "SlipSearchModel" "exchanged" "I", Cond.methodLink RX8 99 yX8_isPattern, Cond.instanceMethod yX8_isPattern, Cond.selects RX8 yX8_isPattern yX8_isPattern, Cond.initialized RX8, Cond.code yX8_isPattern cX8_isPattern 2 (some .boolean), Cond.methodLink RX8 47 yX8_in, Cond.static yX8_in, Cond.code yX8_in cX8_in 6 (some .boolean), Cond.methodLink RX8 188 yX8_fits, Cond.instanceMethod yX8_fits, Cond.selects RX8 yX8_fits yX8_fits, Cond.code yX8_fits cX8_fits 9 none, Cond.fieldLink RX8 37 "SlipSearchModel" "part" "[I", Cond.methodLink RX8 55 yX8_places, Cond.instanceMethod yX8_places, Cond.selects RX8 yX8_places yX8_places, Cond.code yX8_places cX8_places 2 (some .int), Cond.methodLink RX8 67 yX8_isTaken, Cond.instanceMethod yX8_isTaken]
def wsX8_slips_r2 : List Cond := [Cond.selects RX8 yX8_isTaken yX8_isTaken, Cond.code yX8_isTaken cX8_isTaken 4 (some .boolean), Cond.methodLink RX8 51 yX8_taking, Cond.instanceMethod yX8_taking, Cond.selects RX8 yX8_taking yX8_taking, Cond.code yX8_taking cX8_taking 3 (some .int), Cond.methodLink RX8 191 yX8_goesBack, Cond.instanceMethod yX8_goesBack, Cond.selects RX8 yX8_goesBack yX8_goesBack, Cond.code yX8_goesBack cX8_goesBack 9 none]
def wsX8_slips : List Cond := .code yX8_slips cX8_slips 5 (some .int) :: ((wsX8_slips_r1 ++ wsX8_slips_r2) ++ wsX80)
def wsX8_densityOf_r1 : List Cond := [Cond.fieldLink RX8 75 "SlipSearchModel" "ends" "I", Cond.fieldLink RX8 7 "SlipSearchModel" "all" "[I", Cond.methodLink RX8 103 yX8_findsEnds, Cond.instanceMethod yX8_findsEnds, Cond.selects RX8 yX8_findsEnds yX8_findsEnds, Cond.initialized RX8, Cond.code yX8_findsEnds cX8_findsEnds 6 none, Cond.fieldLink RX8 22 "SlipSearchModel" "fewest" "[I", Cond.fieldLink RX8 25 "SlipSearchModel" "begin" "[I", Cond.fieldLink RX8 28 "SlipSearchModel" "endAt" "[I", Cond.methodLink RX8 71 yX8_finds, Cond.instanceMethod yX8_finds, Cond.selects RX8 yX8_finds yX8_finds, Cond.code yX8_finds cX8_finds 5 none, Cond.methodLink RX8 55 yX8_places, Cond.instanceMethod yX8_places, Cond.selects RX8 yX8_places yX8_places, Cond.code yX8_places cX8_places 2 (some .int), Cond.methodLink RX8 59 yX8_mayBegin, Cond.instanceMethod yX8_mayBegin, Cond.selects RX8 yX8_mayBegin yX8_mayBegin, Cond.code yX8_mayBegin cX8_mayBegin 3 (some .boolean), Cond.methodLink RX8 63 yX8_tries, Cond.instanceMethod yX8_tries]
def wsX8_densityOf_r2 : List Cond := [Cond.selects RX8 yX8_tries yX8_tries, Cond.code yX8_tries cX8_tries 4 none, Cond.methodLink RX8 67 yX8_isTaken, Cond.instanceMethod yX8_isTaken, Cond.selects RX8 yX8_isTaken yX8_isTaken, Cond.code yX8_isTaken cX8_isTaken 4 (some .boolean), Cond.methodLink RX8 51 yX8_taking, Cond.instanceMethod yX8_taking, Cond.selects RX8 yX8_taking yX8_taking, Cond.code yX8_taking cX8_taking 3 (some .int), Cond.methodLink RX8 146 yX8_slipsOf, Cond.instanceMethod yX8_slipsOf, Cond.selects RX8 yX8_slipsOf yX8_slipsOf, Cond.code yX8_slipsOf cX8_slipsOf 3 (some .int)]
def wsX8_densityOf : List Cond := .code yX8_densityOf cX8_densityOf 5 (some .double) :: ((wsX8_densityOf_r1 ++ wsX8_densityOf_r2) ++ wsX80)
def wsX8_density_r1 : List Cond := [Cond.constantDouble RX8 198 (13830554455654793216), Cond.methodLink RX8 99 yX8_isPattern, Cond.instanceMethod yX8_isPattern, Cond.selects RX8 yX8_isPattern yX8_isPattern, Cond.initialized RX8, Cond.code yX8_isPattern cX8_isPattern 2 (some .boolean), Cond.fieldLink RX8 7 "SlipSearchModel" "all" "[I", Cond.methodLink RX8 47 yX8_in, Cond.static yX8_in, Cond.code yX8_in cX8_in 6 (some .boolean), Cond.methodLink RX8 194 yX8_densityOf, Cond.instanceMethod yX8_densityOf, Cond.selects RX8 yX8_densityOf yX8_densityOf, Cond.code yX8_densityOf cX8_densityOf 5 (some .double), Cond.fieldLink RX8 75 "SlipSearchModel" "ends" "I", Cond.methodLink RX8 103 yX8_findsEnds, Cond.instanceMethod yX8_findsEnds, Cond.selects RX8 yX8_findsEnds yX8_findsEnds, Cond.code yX8_findsEnds cX8_findsEnds 6 none, Cond.fieldLink RX8 22 "SlipSearchModel" "fewest" "[I", Cond.fieldLink RX8 25 "SlipSearchModel" "begin" "[I", Cond.fieldLink RX8 28 "SlipSearchModel" "endAt" "[I", Cond.methodLink RX8 71 yX8_finds, Cond.instanceMethod yX8_finds]
def wsX8_density_r2 : List Cond := [Cond.selects RX8 yX8_finds yX8_finds, Cond.code yX8_finds cX8_finds 5 none, Cond.methodLink RX8 55 yX8_places, Cond.instanceMethod yX8_places, Cond.selects RX8 yX8_places yX8_places, Cond.code yX8_places cX8_places 2 (some .int), Cond.methodLink RX8 59 yX8_mayBegin, Cond.instanceMethod yX8_mayBegin, Cond.selects RX8 yX8_mayBegin yX8_mayBegin, Cond.code yX8_mayBegin cX8_mayBegin 3 (some .boolean), Cond.methodLink RX8 63 yX8_tries, Cond.instanceMethod yX8_tries, Cond.selects RX8 yX8_tries yX8_tries, Cond.code yX8_tries cX8_tries 4 none, Cond.methodLink RX8 67 yX8_isTaken, Cond.instanceMethod yX8_isTaken, Cond.selects RX8 yX8_isTaken yX8_isTaken, Cond.code yX8_isTaken cX8_isTaken 4 (some .boolean), Cond.methodLink RX8 51 yX8_taking, Cond.instanceMethod yX8_taking, Cond.selects RX8 yX8_taking yX8_taking, Cond.code yX8_taking cX8_taking 3 (some .int), Cond.methodLink RX8 146 yX8_slipsOf, Cond.instanceMethod yX8_slipsOf]
def wsX8_density_r3 : List Cond := [Cond.selects RX8 yX8_slipsOf yX8_slipsOf, Cond.code yX8_slipsOf cX8_slipsOf 3 (some .int)]
def wsX8_density : List Cond := .code yX8_density cX8_density 2 (some .double) :: ((wsX8_density_r1 ++ (wsX8_density_r2 ++ wsX8_density_r3)) ++ wsX80)
def wsJxf58ca_isNaN_12338 : List Cond := .code yJxf58ca_isNaN_12338 cJxf58ca_isNaN_12338 1 (some .boolean) :: ([])
def wsJxf58ca_floatToIntBits_5c35a : List Cond := .code yJxf58ca_floatToIntBits_5c35a cJxf58ca_floatToIntBits_5c35a 1 (some .int) :: ([.methodLink RJxf58ca 74 ⟨"java/lang/Float", "floatToRawIntBits", "(F)I"⟩, .native ⟨"java/lang/Float", "floatToRawIntBits", "(F)I"⟩, .static ⟨"java/lang/Float", "floatToRawIntBits", "(F)I"⟩, .initialized "java/lang/Float", .constant RJxf58ca 77 (2143289344), .methodLink RJxf58ca 59 yJxf58ca_isNaN_12338, .static yJxf58ca_isNaN_12338, .initialized RJxf58ca, .code yJxf58ca_isNaN_12338 cJxf58ca_isNaN_12338 1 (some .boolean)])
def wsX8_densityBits_r1 : List Cond := [Cond.methodLink RX8 99 yX8_isPattern, Cond.instanceMethod yX8_isPattern, Cond.selects RX8 yX8_isPattern yX8_isPattern, Cond.initialized RX8, Cond.code yX8_isPattern cX8_isPattern 2 (some .boolean), Cond.fieldLink RX8 7 "SlipSearchModel" "all" "[I", Cond.methodLink RX8 47 yX8_in, Cond.static yX8_in, Cond.code yX8_in cX8_in 6 (some .boolean), Cond.methodLink RX8 194 yX8_densityOf, Cond.instanceMethod yX8_densityOf, Cond.selects RX8 yX8_densityOf yX8_densityOf, Cond.code yX8_densityOf cX8_densityOf 5 (some .double), Cond.fieldLink RX8 75 "SlipSearchModel" "ends" "I", Cond.methodLink RX8 103 yX8_findsEnds, Cond.instanceMethod yX8_findsEnds, Cond.selects RX8 yX8_findsEnds yX8_findsEnds, Cond.code yX8_findsEnds cX8_findsEnds 6 none, Cond.fieldLink RX8 22 "SlipSearchModel" "fewest" "[I", Cond.fieldLink RX8 25 "SlipSearchModel" "begin" "[I", Cond.fieldLink RX8 28 "SlipSearchModel" "endAt" "[I", Cond.methodLink RX8 71 yX8_finds, Cond.instanceMethod yX8_finds, Cond.selects RX8 yX8_finds yX8_finds]
def wsX8_densityBits_r2 : List Cond := [Cond.code yX8_finds cX8_finds 5 none, Cond.methodLink RX8 55 yX8_places, Cond.instanceMethod yX8_places, Cond.selects RX8 yX8_places yX8_places, Cond.code yX8_places cX8_places 2 (some .int), Cond.methodLink RX8 59 yX8_mayBegin, Cond.instanceMethod yX8_mayBegin, Cond.selects RX8 yX8_mayBegin yX8_mayBegin, Cond.code yX8_mayBegin cX8_mayBegin 3 (some .boolean), Cond.methodLink RX8 63 yX8_tries, Cond.instanceMethod yX8_tries, Cond.selects RX8 yX8_tries yX8_tries, Cond.code yX8_tries cX8_tries 4 none, Cond.methodLink RX8 67 yX8_isTaken, Cond.instanceMethod yX8_isTaken, Cond.selects RX8 yX8_isTaken yX8_isTaken, Cond.code yX8_isTaken cX8_isTaken 4 (some .boolean), Cond.methodLink RX8 51 yX8_taking, Cond.instanceMethod yX8_taking, Cond.selects RX8 yX8_taking yX8_taking, Cond.code yX8_taking cX8_taking 3 (some .int), Cond.methodLink RX8 146 yX8_slipsOf, Cond.instanceMethod yX8_slipsOf, Cond.selects RX8 yX8_slipsOf yX8_slipsOf]
def wsX8_densityBits_r3 : List Cond := [Cond.code yX8_slipsOf cX8_slipsOf 3 (some .int), Cond.methodLink RX8 200 yJxf58ca_floatToIntBits_5c35a, Cond.static yJxf58ca_floatToIntBits_5c35a, Cond.initialized RJxf58ca, Cond.code yJxf58ca_floatToIntBits_5c35a cJxf58ca_floatToIntBits_5c35a 1 (some .int), Cond.methodLink RJxf58ca 74 ⟨"java/lang/Float", "floatToRawIntBits", "(F)I"⟩, Cond.native ⟨"java/lang/Float", "floatToRawIntBits", "(F)I"⟩, Cond.static ⟨"java/lang/Float", "floatToRawIntBits", "(F)I"⟩, Cond.initialized "java/lang/Float", Cond.constant RJxf58ca 77 (2143289344), Cond.methodLink RJxf58ca 59 yJxf58ca_isNaN_12338, Cond.static yJxf58ca_isNaN_12338, Cond.code yJxf58ca_isNaN_12338 cJxf58ca_isNaN_12338 1 (some .boolean)]
def wsX8_densityBits : List Cond := .code yX8_densityBits cX8_densityBits 2 (some .int) :: ((wsX8_densityBits_r1 ++ (wsX8_densityBits_r2 ++ wsX8_densityBits_r3)) ++ wsX80)
def wsX8_allEnds_r1 : List Cond := [Cond.fieldLink RX8 7 "SlipSearchModel" "all" "[I", Cond.methodLink RX8 155 yX8_manyEnds, Cond.instanceMethod yX8_manyEnds, Cond.selects RX8 yX8_manyEnds yX8_manyEnds, Cond.initialized RX8, Cond.code yX8_manyEnds cX8_manyEnds 3 (some .int), Cond.fieldLink RX8 75 "SlipSearchModel" "ends" "I", Cond.methodLink RX8 103 yX8_findsEnds, Cond.instanceMethod yX8_findsEnds, Cond.selects RX8 yX8_findsEnds yX8_findsEnds, Cond.code yX8_findsEnds cX8_findsEnds 6 none, Cond.fieldLink RX8 22 "SlipSearchModel" "fewest" "[I", Cond.fieldLink RX8 25 "SlipSearchModel" "begin" "[I", Cond.fieldLink RX8 28 "SlipSearchModel" "endAt" "[I", Cond.methodLink RX8 71 yX8_finds, Cond.instanceMethod yX8_finds, Cond.selects RX8 yX8_finds yX8_finds, Cond.code yX8_finds cX8_finds 5 none, Cond.methodLink RX8 55 yX8_places, Cond.instanceMethod yX8_places, Cond.selects RX8 yX8_places yX8_places, Cond.code yX8_places cX8_places 2 (some .int), Cond.methodLink RX8 59 yX8_mayBegin, Cond.instanceMethod yX8_mayBegin]
def wsX8_allEnds_r2 : List Cond := [Cond.selects RX8 yX8_mayBegin yX8_mayBegin, Cond.code yX8_mayBegin cX8_mayBegin 3 (some .boolean), Cond.methodLink RX8 63 yX8_tries, Cond.instanceMethod yX8_tries, Cond.selects RX8 yX8_tries yX8_tries, Cond.code yX8_tries cX8_tries 4 none, Cond.methodLink RX8 67 yX8_isTaken, Cond.instanceMethod yX8_isTaken, Cond.selects RX8 yX8_isTaken yX8_isTaken, Cond.code yX8_isTaken cX8_isTaken 4 (some .boolean), Cond.methodLink RX8 51 yX8_taking, Cond.instanceMethod yX8_taking, Cond.selects RX8 yX8_taking yX8_taking, Cond.code yX8_taking cX8_taking 3 (some .int)]
def wsX8_allEnds : List Cond := .code yX8_allEnds cX8_allEnds 3 (some .int) :: ((wsX8_allEnds_r1 ++ wsX8_allEnds_r2) ++ wsX80)
def wsX8_placesOfEnds_r1 : List Cond := [Cond.fieldLink RX8 7 "SlipSearchModel" "all" "[I", Cond.fieldLink RX8 40 "SlipSearchModel" "isEnd" "[I", Cond.fieldLink RX8 75 "SlipSearchModel" "ends" "I", Cond.fieldLink RX8 28 "SlipSearchModel" "endAt" "[I", Cond.methodLink RX8 103 yX8_findsEnds, Cond.instanceMethod yX8_findsEnds, Cond.selects RX8 yX8_findsEnds yX8_findsEnds, Cond.initialized RX8, Cond.code yX8_findsEnds cX8_findsEnds 6 none, Cond.fieldLink RX8 22 "SlipSearchModel" "fewest" "[I", Cond.fieldLink RX8 25 "SlipSearchModel" "begin" "[I", Cond.methodLink RX8 71 yX8_finds, Cond.instanceMethod yX8_finds, Cond.selects RX8 yX8_finds yX8_finds, Cond.code yX8_finds cX8_finds 5 none, Cond.methodLink RX8 55 yX8_places, Cond.instanceMethod yX8_places, Cond.selects RX8 yX8_places yX8_places, Cond.code yX8_places cX8_places 2 (some .int), Cond.methodLink RX8 59 yX8_mayBegin, Cond.instanceMethod yX8_mayBegin, Cond.selects RX8 yX8_mayBegin yX8_mayBegin, Cond.code yX8_mayBegin cX8_mayBegin 3 (some .boolean), Cond.methodLink RX8 63 yX8_tries]
def wsX8_placesOfEnds_r2 : List Cond := [Cond.instanceMethod yX8_tries, Cond.selects RX8 yX8_tries yX8_tries, Cond.code yX8_tries cX8_tries 4 none, Cond.methodLink RX8 67 yX8_isTaken, Cond.instanceMethod yX8_isTaken, Cond.selects RX8 yX8_isTaken yX8_isTaken, Cond.code yX8_isTaken cX8_isTaken 4 (some .boolean), Cond.methodLink RX8 51 yX8_taking, Cond.instanceMethod yX8_taking, Cond.selects RX8 yX8_taking yX8_taking, Cond.code yX8_taking cX8_taking 3 (some .int)]
def wsX8_placesOfEnds : List Cond := .code yX8_placesOfEnds cX8_placesOfEnds 3 (some .int) :: ((wsX8_placesOfEnds_r1 ++ wsX8_placesOfEnds_r2) ++ wsX80)
def wsX8_blanks : List Cond := .code yX8_blanks cX8_blanks 3 (some .int) :: ([.fieldLink RX8 7 "SlipSearchModel" "all" "[I"] ++ wsX80)
def wsX8_count_r1 : List Cond := [Cond.fieldLink RX8 7 "SlipSearchModel" "all" "[I", Cond.fieldLink RX8 43 "SlipSearchModel" "historyLong" "I", Cond.fieldLink RX8 94 "SlipSearchModel" "padLong" "I", Cond.methodLink RX8 206 yX8_allEnds, Cond.instanceMethod yX8_allEnds, Cond.selects RX8 yX8_allEnds yX8_allEnds, Cond.initialized RX8, Cond.code yX8_allEnds cX8_allEnds 3 (some .int), Cond.methodLink RX8 155 yX8_manyEnds, Cond.instanceMethod yX8_manyEnds, Cond.selects RX8 yX8_manyEnds yX8_manyEnds, Cond.code yX8_manyEnds cX8_manyEnds 3 (some .int), Cond.fieldLink RX8 75 "SlipSearchModel" "ends" "I", Cond.methodLink RX8 103 yX8_findsEnds, Cond.instanceMethod yX8_findsEnds, Cond.selects RX8 yX8_findsEnds yX8_findsEnds, Cond.code yX8_findsEnds cX8_findsEnds 6 none, Cond.fieldLink RX8 22 "SlipSearchModel" "fewest" "[I", Cond.fieldLink RX8 25 "SlipSearchModel" "begin" "[I", Cond.fieldLink RX8 28 "SlipSearchModel" "endAt" "[I", Cond.methodLink RX8 71 yX8_finds, Cond.instanceMethod yX8_finds, Cond.selects RX8 yX8_finds yX8_finds, Cond.code yX8_finds cX8_finds 5 none]
def wsX8_count_r2 : List Cond := [Cond.methodLink RX8 55 yX8_places, Cond.instanceMethod yX8_places, Cond.selects RX8 yX8_places yX8_places, Cond.code yX8_places cX8_places 2 (some .int), Cond.methodLink RX8 59 yX8_mayBegin, Cond.instanceMethod yX8_mayBegin, Cond.selects RX8 yX8_mayBegin yX8_mayBegin, Cond.code yX8_mayBegin cX8_mayBegin 3 (some .boolean), Cond.methodLink RX8 63 yX8_tries, Cond.instanceMethod yX8_tries, Cond.selects RX8 yX8_tries yX8_tries, Cond.code yX8_tries cX8_tries 4 none, Cond.methodLink RX8 67 yX8_isTaken, Cond.instanceMethod yX8_isTaken, Cond.selects RX8 yX8_isTaken yX8_isTaken, Cond.code yX8_isTaken cX8_isTaken 4 (some .boolean), Cond.methodLink RX8 51 yX8_taking, Cond.instanceMethod yX8_taking, Cond.selects RX8 yX8_taking yX8_taking, Cond.code yX8_taking cX8_taking 3 (some .int), Cond.methodLink RX8 209 yX8_placesOfEnds, Cond.instanceMethod yX8_placesOfEnds, Cond.selects RX8 yX8_placesOfEnds yX8_placesOfEnds, Cond.code yX8_placesOfEnds cX8_placesOfEnds 3 (some .int)]
def wsX8_count_r3 : List Cond := [Cond.fieldLink RX8 40 "SlipSearchModel" "isEnd" "[I", Cond.methodLink RX8 212 yX8_blanks, Cond.instanceMethod yX8_blanks, Cond.selects RX8 yX8_blanks yX8_blanks, Cond.code yX8_blanks cX8_blanks 3 (some .int)]
def wsX8_count : List Cond := .code yX8_count cX8_count 2 (some .int) :: ((wsX8_count_r1 ++ (wsX8_count_r2 ++ wsX8_count_r3)) ++ wsX80)
def wsJ9_min_7cf53 : List Cond := .code yJ9_min_7cf53 cJ9_min_7cf53 2 (some .int) :: ([])
def wsL_law_r1 : List Cond := [Cond.classLink RL 7 RX7, Cond.instantiable RX7 8, Cond.initialized RX7, Cond.classLink RL 10 RX8, Cond.instantiable RX8 21, Cond.initialized RX8, Cond.methodLink RL 9 yX7_init, Cond.instanceMethod yX7_init, Cond.code yX7_init cX7_init 1 none, Cond.methodLink RX7 3 objectInit, Cond.instanceMethod objectInit, Cond.code objectInit ⟨#[0xb1]⟩ 1 none, Cond.classLink RX7 9 RX5, Cond.instantiable RX5 5, Cond.initialized RX5, Cond.fieldLink RX7 12 "SlipSearch" "now" "LSlipSearch$State;", Cond.fieldLink RX7 16 "SlipSearch" "snapshot" "LSlipSearch$State;", Cond.fieldLink RX7 19 "SlipSearch" "hasSnapshot" "Z", Cond.classLink RX7 23 RX0, Cond.instantiable RX0 2, Cond.initialized RX0, Cond.fieldLink RX7 26 "SlipSearch" "history" "LSlipSearch$History;", Cond.classLink RX7 30 RX1, Cond.instantiable RX1 2]
def wsL_law_r2 : List Cond := [Cond.initialized RX1, Cond.fieldLink RX7 33 "SlipSearch" "pad" "LSlipSearch$Pad;", Cond.classLink RX7 37 RX3, Cond.instantiable RX3 7, Cond.initialized RX3, Cond.fieldLink RX7 40 "SlipSearch" "reader" "LSlipSearch$PatternReader;", Cond.classLink RX7 44 RX4, Cond.instantiable RX4 8, Cond.initialized RX4, Cond.fieldLink RX7 47 "SlipSearch" "search" "LSlipSearch$Search;", Cond.classLink RX7 51 RX6, Cond.instantiable RX6 1, Cond.initialized RX6, Cond.fieldLink RX7 54 "SlipSearch" "way" "LSlipSearch$Way;", Cond.instanceMethod yX5_init, Cond.code yX5_init cX5_init 1 none, Cond.methodLink RX5 3 objectInit, Cond.arrayClass .char, Cond.fieldLink RX5 9 "SlipSearch$State" "text" "[C", Cond.fieldLink RX5 15 "SlipSearch$State" "length" "I", Cond.classLink RX5 19 RX2, Cond.fieldLink RX5 21 "SlipSearch$State" "patterns" "[LSlipSearch$Pattern;", Cond.fieldLink RX5 25 "SlipSearch$State" "patternCount" "I", Cond.fieldLink RX5 28 "SlipSearch$State" "mostSlips" "I"]
def wsL_law_r3 : List Cond := [Cond.methodLink RX7 25 yX0_init, Cond.instanceMethod yX0_init, Cond.code yX0_init cX0_init 2 none, Cond.methodLink RX0 3 objectInit, Cond.classLink RX0 9 RX5, Cond.fieldLink RX0 11 "SlipSearch$History" "states" "[LSlipSearch$State;", Cond.fieldLink RX0 17 "SlipSearch$History" "count" "I", Cond.instanceMethod yX1_init, Cond.code yX1_init cX1_init 1 none, Cond.methodLink RX1 3 objectInit, Cond.fieldLink RX1 9 "SlipSearch$Pad" "typed" "[C", Cond.fieldLink RX1 15 "SlipSearch$Pad" "length" "I", Cond.instanceMethod yX3_init, Cond.code yX3_init cX3_init 1 none, Cond.methodLink RX3 3 objectInit, Cond.arrayClass .int, Cond.fieldLink RX3 9 "SlipSearch$PatternReader" "places" "[I", Cond.fieldLink RX3 15 "SlipSearch$PatternReader" "placeCount" "I", Cond.fieldLink RX3 19 "SlipSearch$PatternReader" "bound" "Z", Cond.fieldLink RX3 23 "SlipSearch$PatternReader" "mode" "I", Cond.fieldLink RX3 26 "SlipSearch$PatternReader" "turned" "Z", Cond.fieldLink RX3 29 "SlipSearch$PatternReader" "set" "I", Cond.fieldLink RX3 32 "SlipSearch$PatternReader" "lastOfSet" "C", Cond.instanceMethod yX4_init]
def wsL_law_r4 : List Cond := [Cond.code yX4_init cX4_init 1 none, Cond.methodLink RX4 3 objectInit, Cond.arrayClass .long, Cond.fieldLink RX4 9 "SlipSearch$Search" "columns" "[J", Cond.fieldLink RX4 15 "SlipSearch$Search" "keys" "[I", Cond.fieldLink RX4 19 "SlipSearch$Search" "slipsAt" "[I", Cond.fieldLink RX4 22 "SlipSearch$Search" "beginningAt" "[I", Cond.arrayClass .boolean, Cond.fieldLink RX4 25 "SlipSearch$Search" "marked" "[Z", Cond.fieldLink RX4 29 "SlipSearch$Search" "oldText" "[C", Cond.fieldLink RX4 33 "SlipSearch$Search" "ends" "[I", Cond.fieldLink RX4 36 "SlipSearch$Search" "listed" "I", Cond.instanceMethod yX6_init, Cond.code yX6_init cX6_init 1 none, Cond.methodLink RX6 5 objectInit, Cond.fieldLink RX6 11 "SlipSearch$Way" "ways" "[I", Cond.methodLink RL 12 yX8_init, Cond.instanceMethod yX8_init, Cond.code yX8_init cX8_init 1 none, Cond.methodLink RX8 1 objectInit, Cond.fieldLink RX8 7 "SlipSearchModel" "all" "[I", Cond.fieldLink RX8 13 "SlipSearchModel" "kept" "[I", Cond.fieldLink RX8 16 "SlipSearchModel" "history" "[I", Cond.fieldLink RX8 19 "SlipSearchModel" "snapshot" "[I"]
def wsL_law_r5 : List Cond := [Cond.fieldLink RX8 22 "SlipSearchModel" "fewest" "[I", Cond.fieldLink RX8 25 "SlipSearchModel" "begin" "[I", Cond.fieldLink RX8 28 "SlipSearchModel" "endAt" "[I", Cond.fieldLink RX8 31 "SlipSearchModel" "pad" "[I", Cond.fieldLink RX8 34 "SlipSearchModel" "readTakes" "[I", Cond.fieldLink RX8 37 "SlipSearchModel" "part" "[I", Cond.fieldLink RX8 40 "SlipSearchModel" "isEnd" "[I", Cond.methodLink RL 13 yX7_write, Cond.instanceMethod yX7_write, Cond.selects RX7 yX7_write yX7_write, Cond.code yX7_write cX7_write 2 (some .int), Cond.methodLink RX7 58 yX7_isSign, Cond.static yX7_isSign, Cond.code yX7_isSign cX7_isSign 1 (some .boolean), Cond.methodLink RX7 87 yX7_isLetter, Cond.static yX7_isLetter, Cond.code yX7_isLetter cX7_isLetter 1 (some .boolean), Cond.methodLink RX7 66 yX0_record, Cond.instanceMethod yX0_record, Cond.selects RX0 yX0_record yX0_record, Cond.code yX0_record cX0_record 2 none, Cond.methodLink RX0 22 yX0_dropOldest, Cond.instanceMethod yX0_dropOldest, Cond.selects RX0 yX0_dropOldest yX0_dropOldest]
def wsL_law_r6 : List Cond := [Cond.code yX0_dropOldest cX0_dropOldest 3 none, Cond.methodLink RX0 25 yX5_copyFrom, Cond.instanceMethod yX5_copyFrom, Cond.selects RX5 yX5_copyFrom yX5_copyFrom, Cond.code yX5_copyFrom cX5_copyFrom 3 none, Cond.methodLink RX5 31 arraycopyName, Cond.native arraycopyName, Cond.static arraycopyName, Cond.initialized "java/lang/System", Cond.methodLink RX7 70 yX5_append, Cond.instanceMethod yX5_append, Cond.selects RX5 yX5_append yX5_append, Cond.code yX5_append cX5_append 2 none, Cond.methodLink RL 17 yX8_write, Cond.instanceMethod yX8_write, Cond.selects RX8 yX8_write yX8_write, Cond.code yX8_write cX8_write 3 (some .int), Cond.methodLink RX8 82 yX8_coded, Cond.static yX8_coded, Cond.code yX8_coded cX8_coded 1 (some .int), Cond.constantLong RX8 78 (97), Cond.constantLong RX8 80 (122), Cond.methodLink RX8 47 yX8_in, Cond.static yX8_in]
def wsL_law_r7 : List Cond := [Cond.code yX8_in cX8_in 6 (some .boolean), Cond.methodLink RX8 85 yX8_remember, Cond.instanceMethod yX8_remember, Cond.selects RX8 yX8_remember yX8_remember, Cond.code yX8_remember cX8_remember 2 none, Cond.methodLink RX8 88 yX8_writes, Cond.instanceMethod yX8_writes, Cond.selects RX8 yX8_writes yX8_writes, Cond.code yX8_writes cX8_writes 2 none, Cond.methodLink RX8 91 yX8_acted, Cond.instanceMethod yX8_acted, Cond.selects RX8 yX8_acted yX8_acted, Cond.code yX8_acted cX8_acted 3 (some .int), Cond.fieldLink RX8 43 "SlipSearchModel" "historyLong" "I", Cond.methodLink RL 18 yX7_writePad, Cond.instanceMethod yX7_writePad, Cond.selects RX7 yX7_writePad yX7_writePad, Cond.code yX7_writePad cX7_writePad 3 (some .int), Cond.methodLink RX7 74 yX1_canBeWritten, Cond.instanceMethod yX1_canBeWritten, Cond.selects RX1 yX1_canBeWritten yX1_canBeWritten, Cond.code yX1_canBeWritten cX1_canBeWritten 2 (some .boolean), Cond.methodLink RX1 19 yX1_signAt, Cond.instanceMethod yX1_signAt]
def wsL_law_r8 : List Cond := [Cond.selects RX1 yX1_signAt yX1_signAt, Cond.code yX1_signAt cX1_signAt 2 (some .char), Cond.methodLink RX7 79 yX1_signAt, Cond.methodLink RL 22 yX8_writePad, Cond.instanceMethod yX8_writePad, Cond.selects RX8 yX8_writePad yX8_writePad, Cond.code yX8_writePad cX8_writePad 3 (some .int), Cond.fieldLink RX8 94 "SlipSearchModel" "padLong" "I", Cond.methodLink RL 23 yX7_cut, Cond.instanceMethod yX7_cut, Cond.selects RX7 yX7_cut yX7_cut, Cond.code yX7_cut cX7_cut 2 (some .int), Cond.methodLink RL 27 yX8_cut, Cond.instanceMethod yX8_cut, Cond.selects RX8 yX8_cut yX8_cut, Cond.code yX8_cut cX8_cut 2 (some .int), Cond.constantLong RX8 97 (120), Cond.methodLink RL 28 yX7_replace, Cond.instanceMethod yX7_replace, Cond.selects RX7 yX7_replace yX7_replace, Cond.code yX7_replace cX7_replace 4 (some .int), Cond.methodLink RX7 83 yX5_patternOrNull, Cond.instanceMethod yX5_patternOrNull, Cond.selects RX5 yX5_patternOrNull yX5_patternOrNull]
def wsL_law_r9 : List Cond := [Cond.code yX5_patternOrNull cX5_patternOrNull 2 (some (.object "SlipSearch$Pattern")), Cond.methodLink RX7 90 yX4_findAlone, Cond.instanceMethod yX4_findAlone, Cond.selects RX4 yX4_findAlone yX4_findAlone, Cond.code yX4_findAlone cX4_findAlone 7 none, Cond.methodLink RX4 56 yX4_findEnds, Cond.instanceMethod yX4_findEnds, Cond.selects RX4 yX4_findEnds yX4_findEnds, Cond.code yX4_findEnds cX4_findEnds 4 none, Cond.methodLink RX4 40 yX4_openColumns, Cond.instanceMethod yX4_openColumns, Cond.selects RX4 yX4_openColumns yX4_openColumns, Cond.code yX4_openColumns cX4_openColumns 6 none, Cond.methodLink RX4 76 yX4_columnMask, Cond.static yX4_columnMask, Cond.code yX4_columnMask cX4_columnMask 1 (some .long), Cond.constantLong RX4 66 (2), Cond.methodLink RX4 44 yX4_noteEnd, Cond.instanceMethod yX4_noteEnd, Cond.selects RX4 yX4_noteEnd yX4_noteEnd, Cond.code yX4_noteEnd cX4_noteEnd 4 none, Cond.methodLink RX4 92 yX4_fewestInColumns, Cond.instanceMethod yX4_fewestInColumns, Cond.selects RX4 yX4_fewestInColumns yX4_fewestInColumns]
def wsL_law_r10 : List Cond := [Cond.code yX4_fewestInColumns cX4_fewestInColumns 4 (some .int), Cond.methodLink RX4 53 yX4_stepColumns, Cond.instanceMethod yX4_stepColumns, Cond.selects RX4 yX4_stepColumns yX4_stepColumns, Cond.code yX4_stepColumns cX4_stepColumns 23 none, Cond.methodLink RX4 80 yX5_signAt, Cond.instanceMethod yX5_signAt, Cond.selects RX5 yX5_signAt yX5_signAt, Cond.code yX5_signAt cX5_signAt 2 (some .char), Cond.methodLink RX4 84 yX2_placesThatTake, Cond.instanceMethod yX2_placesThatTake, Cond.selects RX2 yX2_placesThatTake yX2_placesThatTake, Cond.initialized RX2, Cond.code yX2_placesThatTake cX2_placesThatTake 3 (some .long), Cond.fieldLink RX2 15 "SlipSearch$Pattern" "placesTaking" "[J", Cond.methodLink RX4 88 yX5_mayBegin, Cond.instanceMethod yX5_mayBegin, Cond.selects RX5 yX5_mayBegin yX5_mayBegin, Cond.code yX5_mayBegin cX5_mayBegin 3 (some .boolean), Cond.methodLink RX5 37 yX5_signAt, Cond.methodLink RX4 59 yX4_findBeginnings, Cond.instanceMethod yX4_findBeginnings, Cond.selects RX4 yX4_findBeginnings yX4_findBeginnings, Cond.code yX4_findBeginnings cX4_findBeginnings 4 none]
def wsL_law_r11 : List Cond := [Cond.methodLink RX4 96 yX4_noteBeginning, Cond.instanceMethod yX4_noteBeginning, Cond.selects RX4 yX4_noteBeginning yX4_noteBeginning, Cond.code yX4_noteBeginning cX4_noteBeginning 4 none, Cond.methodLink RX4 100 yX4_stepKeys, Cond.instanceMethod yX4_stepKeys, Cond.selects RX4 yX4_stepKeys yX4_stepKeys, Cond.code yX4_stepKeys cX4_stepKeys 12 none, Cond.methodLink RX4 103 Lib.Math.min.name, Cond.static Lib.Math.min.name, Cond.initialized "java/lang/Math", Cond.code Lib.Math.min.name Lib.Math.min.code 2 (some .int), Cond.methodLink RX4 62 yX4_tell, Cond.instanceMethod yX4_tell, Cond.selects RX4 yX4_tell yX4_tell, Cond.code yX4_tell cX4_tell 4 (some .int), Cond.methodLink RX7 97 yX4_lengthWithParts, Cond.instanceMethod yX4_lengthWithParts, Cond.selects RX4 yX4_lengthWithParts yX4_lengthWithParts, Cond.code yX4_lengthWithParts cX4_lengthWithParts 4 (some .int), Cond.methodLink RX7 101 yX4_putLetterForParts, Cond.instanceMethod yX4_putLetterForParts, Cond.selects RX4 yX4_putLetterForParts yX4_putLetterForParts, Cond.code yX4_putLetterForParts cX4_putLetterForParts 9 none]
def wsL_law_r12 : List Cond := [Cond.methodLink RX4 115 arraycopyName, Cond.methodLink RX4 121 yX5_append, Cond.methodLink RL 32 yX8_replace, Cond.instanceMethod yX8_replace, Cond.selects RX8 yX8_replace yX8_replace, Cond.code yX8_replace cX8_replace 7 (some .int), Cond.fieldLink RX8 75 "SlipSearchModel" "ends" "I", Cond.methodLink RX8 99 yX8_isPattern, Cond.instanceMethod yX8_isPattern, Cond.selects RX8 yX8_isPattern yX8_isPattern, Cond.code yX8_isPattern cX8_isPattern 2 (some .boolean), Cond.methodLink RX8 103 yX8_findsEnds, Cond.instanceMethod yX8_findsEnds, Cond.selects RX8 yX8_findsEnds yX8_findsEnds, Cond.code yX8_findsEnds cX8_findsEnds 6 none, Cond.methodLink RX8 71 yX8_finds, Cond.instanceMethod yX8_finds, Cond.selects RX8 yX8_finds yX8_finds, Cond.code yX8_finds cX8_finds 5 none, Cond.methodLink RX8 55 yX8_places, Cond.instanceMethod yX8_places, Cond.selects RX8 yX8_places yX8_places, Cond.code yX8_places cX8_places 2 (some .int), Cond.methodLink RX8 59 yX8_mayBegin]
def wsL_law_r13 : List Cond := [Cond.instanceMethod yX8_mayBegin, Cond.selects RX8 yX8_mayBegin yX8_mayBegin, Cond.code yX8_mayBegin cX8_mayBegin 3 (some .boolean), Cond.methodLink RX8 63 yX8_tries, Cond.instanceMethod yX8_tries, Cond.selects RX8 yX8_tries yX8_tries, Cond.code yX8_tries cX8_tries 4 none, Cond.methodLink RX8 67 yX8_isTaken, Cond.instanceMethod yX8_isTaken, Cond.selects RX8 yX8_isTaken yX8_isTaken, Cond.code yX8_isTaken cX8_isTaken 4 (some .boolean), Cond.methodLink RX8 51 yX8_taking, Cond.instanceMethod yX8_taking, Cond.selects RX8 yX8_taking yX8_taking, Cond.code yX8_taking cX8_taking 3 (some .int), Cond.methodLink RX8 107 yX8_beginOf, Cond.instanceMethod yX8_beginOf, Cond.selects RX8 yX8_beginOf yX8_beginOf, Cond.code yX8_beginOf cX8_beginOf 3 (some .int), Cond.methodLink RL 33 yX7_addPattern, Cond.instanceMethod yX7_addPattern, Cond.selects RX7 yX7_addPattern yX7_addPattern, Cond.code yX7_addPattern cX7_addPattern 2 (some .int), Cond.methodLink RX7 105 yX3_readFault]
def wsL_law_r14 : List Cond := [Cond.instanceMethod yX3_readFault, Cond.selects RX3 yX3_readFault yX3_readFault, Cond.code yX3_readFault cX3_readFault 3 (some .int), Cond.methodLink RX3 41 yX1_signAt, Cond.methodLink RX3 45 yX3_accepts, Cond.instanceMethod yX3_accepts, Cond.selects RX3 yX3_accepts yX3_accepts, Cond.code yX3_accepts cX3_accepts 2 (some .boolean), Cond.methodLink RX3 54 yX3_acceptsBeginning, Cond.instanceMethod yX3_acceptsBeginning, Cond.selects RX3 yX3_acceptsBeginning yX3_acceptsBeginning, Cond.code yX3_acceptsBeginning cX3_acceptsBeginning 2 (some .boolean), Cond.methodLink RX3 57 yX3_acceptsPlace, Cond.instanceMethod yX3_acceptsPlace, Cond.selects RX3 yX3_acceptsPlace yX3_acceptsPlace, Cond.code yX3_acceptsPlace cX3_acceptsPlace 2 (some .boolean), Cond.constant RX3 76 (134217727), Cond.constant RX3 77 (67108864), Cond.methodLink RX3 72 yX3_addPlace, Cond.instanceMethod yX3_addPlace, Cond.selects RX3 yX3_addPlace yX3_addPlace, Cond.code yX3_addPlace cX3_addPlace 2 none, Cond.methodLink RX3 60 yX3_acceptsFirstOfSet, Cond.instanceMethod yX3_acceptsFirstOfSet]
def wsL_law_r15 : List Cond := [Cond.selects RX3 yX3_acceptsFirstOfSet yX3_acceptsFirstOfSet, Cond.code yX3_acceptsFirstOfSet cX3_acceptsFirstOfSet 2 (some .boolean), Cond.methodLink RX3 63 yX3_acceptsLetterOfSet, Cond.instanceMethod yX3_acceptsLetterOfSet, Cond.selects RX3 yX3_acceptsLetterOfSet yX3_acceptsLetterOfSet, Cond.code yX3_acceptsLetterOfSet cX3_acceptsLetterOfSet 2 (some .boolean), Cond.methodLink RX3 66 yX3_acceptsRestOfSet, Cond.instanceMethod yX3_acceptsRestOfSet, Cond.selects RX3 yX3_acceptsRestOfSet yX3_acceptsRestOfSet, Cond.code yX3_acceptsRestOfSet cX3_acceptsRestOfSet 2 (some .boolean), Cond.constant RX3 78 (67108863), Cond.methodLink RX7 112 yX3_makePattern, Cond.instanceMethod yX3_makePattern, Cond.selects RX3 yX3_makePattern yX3_makePattern, Cond.code yX3_makePattern cX3_makePattern 1 (some (.object "SlipSearch$Pattern")), Cond.classLink RX3 49 RX2, Cond.instantiable RX2 4, Cond.methodLink RX3 51 yX2_init, Cond.instanceMethod yX2_init, Cond.code yX2_init cX2_init 7 none, Cond.methodLink RX2 3 objectInit, Cond.fieldLink RX2 9 "SlipSearch$Pattern" "places" "[I", Cond.fieldLink RX2 19 "SlipSearch$Pattern" "placeCount" "I", Cond.fieldLink RX2 23 "SlipSearch$Pattern" "bound" "Z"]
def wsL_law_r16 : List Cond := [Cond.methodLink RX7 116 yX5_addLast, Cond.instanceMethod yX5_addLast, Cond.selects RX5 yX5_addLast yX5_addLast, Cond.code yX5_addLast cX5_addLast 2 none, Cond.methodLink RL 36 yX8_addPattern, Cond.instanceMethod yX8_addPattern, Cond.selects RX8 yX8_addPattern yX8_addPattern, Cond.code yX8_addPattern cX8_addPattern 4 (some .int), Cond.fieldLink RX8 116 "SlipSearchModel" "readPlaces" "I", Cond.fieldLink RX8 132 "SlipSearchModel" "readBound" "I", Cond.methodLink RX8 138 yX8_fault, Cond.instanceMethod yX8_fault, Cond.selects RX8 yX8_fault yX8_fault, Cond.code yX8_fault cX8_fault 2 (some .int), Cond.fieldLink RX8 110 "SlipSearchModel" "spot" "I", Cond.methodLink RX8 119 yX8_takesOne, Cond.instanceMethod yX8_takesOne, Cond.selects RX8 yX8_takesOne yX8_takesOne, Cond.code yX8_takesOne cX8_takesOne 3 (some .boolean), Cond.methodLink RX8 113 yX8_isHere, Cond.instanceMethod yX8_isHere, Cond.selects RX8 yX8_isHere yX8_isHere, Cond.code yX8_isHere cX8_isHere 3 (some .boolean), Cond.methodLink RX8 135 yX8_readsPlace]
def wsL_law_r17 : List Cond := [Cond.instanceMethod yX8_readsPlace, Cond.selects RX8 yX8_readsPlace yX8_readsPlace, Cond.code yX8_readsPlace cX8_readsPlace 1 (some .boolean), Cond.constant RX8 130 (134217727), Cond.constant RX8 131 (67108864), Cond.methodLink RX8 126 yX8_readsSet, Cond.instanceMethod yX8_readsSet, Cond.selects RX8 yX8_readsSet yX8_readsSet, Cond.code yX8_readsSet cX8_readsSet 4 (some .boolean), Cond.constant RX8 122 (67108863), Cond.methodLink RX8 123 yX8_reads, Cond.instanceMethod yX8_reads, Cond.selects RX8 yX8_reads yX8_reads, Cond.code yX8_reads cX8_reads 2 none, Cond.methodLink RL 37 yX7_removePattern, Cond.instanceMethod yX7_removePattern, Cond.selects RX7 yX7_removePattern yX7_removePattern, Cond.code yX7_removePattern cX7_removePattern 2 (some .int), Cond.methodLink RX7 120 yX5_removeNumber, Cond.instanceMethod yX5_removeNumber, Cond.selects RX5 yX5_removeNumber yX5_removeNumber, Cond.code yX5_removeNumber cX5_removeNumber 3 none, Cond.methodLink RL 40 yX8_removePattern, Cond.instanceMethod yX8_removePattern]
def wsL_law_r18 : List Cond := [Cond.selects RX8 yX8_removePattern yX8_removePattern, Cond.code yX8_removePattern cX8_removePattern 3 (some .int), Cond.methodLink RL 41 yX7_setSlips, Cond.instanceMethod yX7_setSlips, Cond.selects RX7 yX7_setSlips yX7_setSlips, Cond.code yX7_setSlips cX7_setSlips 3 (some .int), Cond.methodLink RL 44 yX8_setSlips, Cond.instanceMethod yX8_setSlips, Cond.selects RX8 yX8_setSlips yX8_setSlips, Cond.code yX8_setSlips cX8_setSlips 3 (some .int), Cond.constantLong RX8 142 (4), Cond.methodLink RL 45 yX7_type, Cond.instanceMethod yX7_type, Cond.selects RX7 yX7_type yX7_type, Cond.code yX7_type cX7_type 2 (some .int), Cond.methodLink RX7 127 yX1_append, Cond.instanceMethod yX1_append, Cond.selects RX1 yX1_append yX1_append, Cond.code yX1_append cX1_append 2 none, Cond.methodLink RL 48 yX8_type, Cond.instanceMethod yX8_type, Cond.selects RX8 yX8_type yX8_type, Cond.code yX8_type cX8_type 2 (some .int), Cond.methodLink RL 49 yX7_clearPad]
def wsL_law_r19 : List Cond := [Cond.instanceMethod yX7_clearPad, Cond.selects RX7 yX7_clearPad yX7_clearPad, Cond.code yX7_clearPad cX7_clearPad 2 (some .int), Cond.methodLink RL 52 yX8_clearPad, Cond.instanceMethod yX8_clearPad, Cond.selects RX8 yX8_clearPad yX8_clearPad, Cond.code yX8_clearPad cX8_clearPad 2 (some .int), Cond.methodLink RL 53 yX7_undo, Cond.instanceMethod yX7_undo, Cond.selects RX7 yX7_undo yX7_undo, Cond.code yX7_undo cX7_undo 1 (some .int), Cond.methodLink RX7 131 yX0_takeLatestInto, Cond.instanceMethod yX0_takeLatestInto, Cond.selects RX0 yX0_takeLatestInto yX0_takeLatestInto, Cond.code yX0_takeLatestInto cX0_takeLatestInto 2 none, Cond.methodLink RL 56 yX8_undo, Cond.instanceMethod yX8_undo, Cond.selects RX8 yX8_undo yX8_undo, Cond.code yX8_undo cX8_undo 2 (some .int), Cond.methodLink RL 57 yX7_keep, Cond.instanceMethod yX7_keep, Cond.selects RX7 yX7_keep yX7_keep, Cond.code yX7_keep cX7_keep 1 (some .int), Cond.methodLink RX7 134 yX5_copyFrom]
def wsL_law_r20 : List Cond := [Cond.methodLink RL 60 yX8_keep, Cond.instanceMethod yX8_keep, Cond.selects RX8 yX8_keep yX8_keep, Cond.code yX8_keep cX8_keep 2 (some .int), Cond.fieldLink RX8 144 "SlipSearchModel" "isTaken" "I", Cond.methodLink RL 61 yX7_restore, Cond.instanceMethod yX7_restore, Cond.selects RX7 yX7_restore yX7_restore, Cond.code yX7_restore cX7_restore 1 (some .int), Cond.methodLink RL 64 yX8_restore, Cond.instanceMethod yX8_restore, Cond.selects RX8 yX8_restore yX8_restore, Cond.code yX8_restore cX8_restore 2 (some .int), Cond.methodLink RL 65 yX7_at, Cond.instanceMethod yX7_at, Cond.selects RX7 yX7_at yX7_at, Cond.code yX7_at cX7_at 2 (some .int), Cond.methodLink RX7 137 yX5_signAt, Cond.methodLink RL 68 yX8_at, Cond.instanceMethod yX8_at, Cond.selects RX8 yX8_at yX8_at, Cond.code yX8_at cX8_at 3 (some .int), Cond.methodLink RL 69 yX7_pattern, Cond.instanceMethod yX7_pattern]
def wsL_law_r21 : List Cond := [Cond.selects RX7 yX7_pattern yX7_pattern, Cond.code yX7_pattern cX7_pattern 4 (some .int), Cond.methodLink RX7 146 yX4_findEnds, Cond.methodLink RX7 149 yX4_fewestSlips, Cond.instanceMethod yX4_fewestSlips, Cond.selects RX4 yX4_fewestSlips yX4_fewestSlips, Cond.code yX4_fewestSlips cX4_fewestSlips 4 (some .int), Cond.methodLink RX7 153 yX4_firstWithFewest, Cond.instanceMethod yX4_firstWithFewest, Cond.selects RX4 yX4_firstWithFewest yX4_firstWithFewest, Cond.code yX4_firstWithFewest cX4_firstWithFewest 3 (some .int), Cond.methodLink RX4 108 yX4_fewestSlips, Cond.methodLink RX7 156 yX2_countWild, Cond.instanceMethod yX2_countWild, Cond.selects RX2 yX2_countWild yX2_countWild, Cond.code yX2_countWild cX2_countWild 3 (some .int), Cond.constant RX2 31 (134217727), Cond.methodLink RX2 27 yX2_signsOf, Cond.instanceMethod yX2_signsOf, Cond.selects RX2 yX2_signsOf yX2_signsOf, Cond.code yX2_signsOf cX2_signsOf 2 (some .int), Cond.methodLink RX7 159 yX2_isPlain, Cond.instanceMethod yX2_isPlain, Cond.selects RX2 yX2_isPlain yX2_isPlain]
def wsL_law_r22 : List Cond := [Cond.code yX2_isPlain cX2_isPlain 2 (some .boolean), Cond.methodLink RX2 32 yJ6_bitCount_0f7a4, Cond.static yJ6_bitCount_0f7a4, Cond.initialized RJ6, Cond.code yJ6_bitCount_0f7a4 cJ6_bitCount_0f7a4 1 (some .int), Cond.constant RJ6 265 (1431655765), Cond.constant RJ6 266 (858993459), Cond.constant RJ6 267 (252645135), Cond.methodLink RL 73 yX8_pattern, Cond.instanceMethod yX8_pattern, Cond.selects RX8 yX8_pattern yX8_pattern, Cond.code yX8_pattern cX8_pattern 3 (some .int), Cond.methodLink RX8 155 yX8_manyEnds, Cond.instanceMethod yX8_manyEnds, Cond.selects RX8 yX8_manyEnds yX8_manyEnds, Cond.code yX8_manyEnds cX8_manyEnds 3 (some .int), Cond.methodLink RX8 159 yX8_fewestSlips, Cond.instanceMethod yX8_fewestSlips, Cond.selects RX8 yX8_fewestSlips yX8_fewestSlips, Cond.code yX8_fewestSlips cX8_fewestSlips 3 (some .int), Cond.methodLink RX8 149 yX8_bestRank, Cond.instanceMethod yX8_bestRank, Cond.selects RX8 yX8_bestRank yX8_bestRank, Cond.code yX8_bestRank cX8_bestRank 4 (some .int)]
def wsL_law_r23 : List Cond := [Cond.methodLink RX8 146 yX8_slipsOf, Cond.instanceMethod yX8_slipsOf, Cond.selects RX8 yX8_slipsOf yX8_slipsOf, Cond.code yX8_slipsOf cX8_slipsOf 3 (some .int), Cond.methodLink RX8 162 yX8_firstBest, Cond.instanceMethod yX8_firstBest, Cond.selects RX8 yX8_firstBest yX8_firstBest, Cond.code yX8_firstBest cX8_firstBest 3 (some .int), Cond.methodLink RX8 165 yX8_wildPlaces, Cond.instanceMethod yX8_wildPlaces, Cond.selects RX8 yX8_wildPlaces yX8_wildPlaces, Cond.code yX8_wildPlaces cX8_wildPlaces 4 (some .int), Cond.methodLink RX8 168 yX8_isPlain, Cond.instanceMethod yX8_isPlain, Cond.selects RX8 yX8_isPlain yX8_isPlain, Cond.code yX8_isPlain cX8_isPlain 4 (some .boolean), Cond.methodLink RX8 152 yX8_bits, Cond.static yX8_bits, Cond.code yX8_bits cX8_bits 3 (some .int), Cond.methodLink RL 74 yX7_takes, Cond.instanceMethod yX7_takes, Cond.selects RX7 yX7_takes yX7_takes, Cond.code yX7_takes cX7_takes 4 (some .int), Cond.methodLink RX7 162 yX2_signsOf]
def wsL_law_r24 : List Cond := [Cond.methodLink RL 77 yX8_takes, Cond.instanceMethod yX8_takes, Cond.selects RX8 yX8_takes yX8_takes, Cond.code yX8_takes cX8_takes 3 (some .int), Cond.methodLink RL 78 yX7_end, Cond.instanceMethod yX7_end, Cond.selects RX7 yX7_end yX7_end, Cond.code yX7_end cX7_end 6 (some .int), Cond.methodLink RX7 165 yX4_findBeginnings, Cond.methodLink RX7 168 yX4_tell, Cond.methodLink RL 82 yX8_end, Cond.instanceMethod yX8_end, Cond.selects RX8 yX8_end yX8_end, Cond.code yX8_end cX8_end 5 (some .int), Cond.constantLong RX8 171 (2), Cond.methodLink RL 83 yX7_column, Cond.instanceMethod yX7_column, Cond.selects RX7 yX7_column yX7_column, Cond.code yX7_column cX7_column 5 (some .long), Cond.constantLong RX7 172 (-1), Cond.constantLong RX7 174 (-2), Cond.methodLink RX7 176 yX4_columnAt, Cond.instanceMethod yX4_columnAt, Cond.selects RX4 yX4_columnAt yX4_columnAt]
def wsL_law_r25 : List Cond := [Cond.code yX4_columnAt cX4_columnAt 6 (some .long), Cond.methodLink RL 87 yX8_column, Cond.instanceMethod yX8_column, Cond.selects RX8 yX8_column yX8_column, Cond.code yX8_column cX8_column 7 (some .long), Cond.constantLong RX8 173 (-1), Cond.constantLong RX8 175 (-2), Cond.methodLink RL 88 yX7_slips, Cond.instanceMethod yX7_slips, Cond.selects RX7 yX7_slips yX7_slips, Cond.code yX7_slips cX7_slips 6 (some .int), Cond.methodLink RX7 180 yX6_countSlips, Cond.instanceMethod yX6_countSlips, Cond.selects RX6 yX6_countSlips yX6_countSlips, Cond.code yX6_countSlips cX6_countSlips 8 (some .int), Cond.constant RX6 15 (2097280), Cond.methodLink RX6 16 yX6_stepWays, Cond.instanceMethod yX6_stepWays, Cond.selects RX6 yX6_stepWays yX6_stepWays, Cond.code yX6_stepWays cX6_stepWays 12 none, Cond.constant RX6 36 (2113536), Cond.constant RX6 37 (2097153), Cond.methodLink RX6 26 yX5_signAt, Cond.methodLink RX6 32 yX2_placesThatTake]
def wsL_law_r26 : List Cond := [Cond.methodLink RX6 38 yX6_firstOfFewest, Cond.static yX6_firstOfFewest, Cond.code yX6_firstOfFewest cX6_firstOfFewest 2 (some .int), Cond.methodLink RL 92 yX8_slips, Cond.instanceMethod yX8_slips, Cond.selects RX8 yX8_slips yX8_slips, Cond.code yX8_slips cX8_slips 5 (some .int), Cond.constantLong RX8 186 (3), Cond.fieldLink RX8 177 "SlipSearchModel" "putIn" "I", Cond.fieldLink RX8 180 "SlipSearchModel" "leftOut" "I", Cond.fieldLink RX8 183 "SlipSearchModel" "exchanged" "I", Cond.methodLink RX8 188 yX8_fits, Cond.instanceMethod yX8_fits, Cond.selects RX8 yX8_fits yX8_fits, Cond.code yX8_fits cX8_fits 9 none, Cond.methodLink RX8 191 yX8_goesBack, Cond.instanceMethod yX8_goesBack, Cond.selects RX8 yX8_goesBack yX8_goesBack, Cond.code yX8_goesBack cX8_goesBack 9 none, Cond.methodLink RL 93 yX7_density, Cond.instanceMethod yX7_density, Cond.selects RX7 yX7_density yX7_density, Cond.code yX7_density cX7_density 3 (some .double), Cond.constantDouble RX7 184 (13830554455654793216)]
def wsL_law_r27 : List Cond := [Cond.methodLink RX7 186 yX4_sumOfShares, Cond.instanceMethod yX4_sumOfShares, Cond.selects RX4 yX4_sumOfShares yX4_sumOfShares, Cond.code yX4_sumOfShares cX4_sumOfShares 5 (some .double), Cond.methodLink RL 97 yX8_density, Cond.instanceMethod yX8_density, Cond.selects RX8 yX8_density yX8_density, Cond.code yX8_density cX8_density 2 (some .double), Cond.constantDouble RX8 198 (13830554455654793216), Cond.methodLink RX8 194 yX8_densityOf, Cond.instanceMethod yX8_densityOf, Cond.selects RX8 yX8_densityOf yX8_densityOf, Cond.code yX8_densityOf cX8_densityOf 5 (some .double), Cond.methodLink RL 98 yX7_densityBits, Cond.instanceMethod yX7_densityBits, Cond.selects RX7 yX7_densityBits yX7_densityBits, Cond.code yX7_densityBits cX7_densityBits 3 (some .int), Cond.methodLink RX7 190 yX7_bitsOfFloat, Cond.static yX7_bitsOfFloat, Cond.code yX7_bitsOfFloat cX7_bitsOfFloat 3 (some .int), Cond.constantFloat RX7 212 (1258291200), Cond.methodLink RL 101 yX8_densityBits, Cond.instanceMethod yX8_densityBits, Cond.selects RX8 yX8_densityBits yX8_densityBits]
def wsL_law_r28 : List Cond := [Cond.code yX8_densityBits cX8_densityBits 2 (some .int), Cond.methodLink RX8 200 yJxf58ca_floatToIntBits_5c35a, Cond.static yJxf58ca_floatToIntBits_5c35a, Cond.initialized RJxf58ca, Cond.code yJxf58ca_floatToIntBits_5c35a cJxf58ca_floatToIntBits_5c35a 1 (some .int), Cond.methodLink RJxf58ca 74 ⟨"java/lang/Float", "floatToRawIntBits", "(F)I"⟩, Cond.native ⟨"java/lang/Float", "floatToRawIntBits", "(F)I"⟩, Cond.static ⟨"java/lang/Float", "floatToRawIntBits", "(F)I"⟩, Cond.initialized "java/lang/Float", Cond.constant RJxf58ca 77 (2143289344), Cond.methodLink RJxf58ca 59 yJxf58ca_isNaN_12338, Cond.static yJxf58ca_isNaN_12338, Cond.code yJxf58ca_isNaN_12338 cJxf58ca_isNaN_12338 1 (some .boolean), Cond.methodLink RL 102 yX7_count, Cond.instanceMethod yX7_count, Cond.selects RX7 yX7_count yX7_count, Cond.code yX7_count cX7_count 2 (some .int), Cond.methodLink RX7 194 yX7_countAllEnds, Cond.instanceMethod yX7_countAllEnds, Cond.selects RX7 yX7_countAllEnds yX7_countAllEnds, Cond.code yX7_countAllEnds cX7_countAllEnds 4 (some .int), Cond.methodLink RX7 197 yX7_countPlacesWithEnds, Cond.instanceMethod yX7_countPlacesWithEnds, Cond.selects RX7 yX7_countPlacesWithEnds yX7_countPlacesWithEnds]
def wsL_law_r29 : List Cond := [Cond.code yX7_countPlacesWithEnds cX7_countPlacesWithEnds 3 (some .int), Cond.methodLink RX7 203 yX4_clearMarks, Cond.instanceMethod yX4_clearMarks, Cond.selects RX4 yX4_clearMarks yX4_clearMarks, Cond.code yX4_clearMarks cX4_clearMarks 2 none, Cond.methodLink RX7 206 yX4_markEnds, Cond.instanceMethod yX4_markEnds, Cond.selects RX4 yX4_markEnds yX4_markEnds, Cond.code yX4_markEnds cX4_markEnds 3 none, Cond.methodLink RX7 209 yX4_countMarks, Cond.instanceMethod yX4_countMarks, Cond.selects RX4 yX4_countMarks yX4_countMarks, Cond.code yX4_countMarks cX4_countMarks 3 (some .int), Cond.methodLink RX7 200 yX5_countBlanks, Cond.instanceMethod yX5_countBlanks, Cond.selects RX5 yX5_countBlanks yX5_countBlanks, Cond.code yX5_countBlanks cX5_countBlanks 3 (some .int), Cond.methodLink RL 105 yX8_count, Cond.instanceMethod yX8_count, Cond.selects RX8 yX8_count yX8_count, Cond.code yX8_count cX8_count 2 (some .int), Cond.methodLink RX8 206 yX8_allEnds, Cond.instanceMethod yX8_allEnds, Cond.selects RX8 yX8_allEnds yX8_allEnds]
def wsL_law_r30 : List Cond := [Cond.code yX8_allEnds cX8_allEnds 3 (some .int), Cond.methodLink RX8 209 yX8_placesOfEnds, Cond.instanceMethod yX8_placesOfEnds, Cond.selects RX8 yX8_placesOfEnds yX8_placesOfEnds, Cond.code yX8_placesOfEnds cX8_placesOfEnds 3 (some .int), Cond.methodLink RX8 212 yX8_blanks, Cond.instanceMethod yX8_blanks, Cond.selects RX8 yX8_blanks yX8_blanks, Cond.code yX8_blanks cX8_blanks 3 (some .int)]
def wsL_law : List Cond := (wsL_law_r1 ++ (wsL_law_r2 ++ (wsL_law_r3 ++ (wsL_law_r4 ++ (wsL_law_r5 ++ (wsL_law_r6 ++ (wsL_law_r7 ++ (wsL_law_r8 ++ (wsL_law_r9 ++ (wsL_law_r10 ++ (wsL_law_r11 ++ (wsL_law_r12 ++ (wsL_law_r13 ++ (wsL_law_r14 ++ (wsL_law_r15 ++ (wsL_law_r16 ++ (wsL_law_r17 ++ (wsL_law_r18 ++ (wsL_law_r19 ++ (wsL_law_r20 ++ (wsL_law_r21 ++ (wsL_law_r22 ++ (wsL_law_r23 ++ (wsL_law_r24 ++ (wsL_law_r25 ++ (wsL_law_r26 ++ (wsL_law_r27 ++ (wsL_law_r28 ++ (wsL_law_r29 ++ wsL_law_r30))))))))))))))))))))))))))))) ++ wsX70 ++ wsX80 ++ wsX50 ++ wsX00 ++ wsX10 ++ wsX30 ++ wsX40 ++ wsX60 ++ wsX20 ++ ([] : List Cond)
set_option maxRecDepth 20000 in
theorem ggX0_init_X5_init : GoodIn wsX0_init wsX5_init := goodIn_r _ [10, 11, 2, 3, 12, 13, 14, 15, 16, 17, 18, 21, 22, 23, 24, 25] (by decide +kernel) (by decide +kernel)
set_option maxRecDepth 20000 in
theorem gX0_init_X5_init_n21 : GoodIn wsX0_init (wsX5_init) := ggX0_init_X5_init
abbrev vwCl : List vw_C := [(RX0, TX0, 2), (RX1, TX1, 2), (RX2, TX2, 4), (RX3, TX3, 7), (RX4, TX4, 8), (RX5, TX5, 5), (RX6, TX6, 1), (RX7, TX7, 8), (RX8, TX8, 21)]
end
section
theorem dX0_init_0 : decode cX0_init 0 = .ok (.aload_n 0, 1) := by decide +kernel
theorem dX0_init_1 : decode cX0_init 1 = .ok (.invokespecial 3, 3) := by decide +kernel
theorem dX0_init_4 : decode cX0_init 4 = .ok (.aload_n 0, 1) := by decide +kernel
theorem dX0_init_5 : decode cX0_init 5 = .ok (.iconst 4, 1) := by decide +kernel
theorem dX0_init_6 : decode cX0_init 6 = .ok (.anewarray 9, 3) := by decide +kernel
theorem dX0_init_9 : decode cX0_init 9 = .ok (.putfield 11, 3) := by decide +kernel
theorem dX0_init_12 : decode cX0_init 12 = .ok (.aload_n 0, 1) := by decide +kernel
theorem dX0_init_13 : decode cX0_init 13 = .ok (.iconst 0, 1) := by decide +kernel
theorem dX0_init_14 : decode cX0_init 14 = .ok (.putfield 17, 3) := by decide +kernel
theorem dX0_init_17 : decode cX0_init 17 = .ok (.iconst 0, 1) := by decide +kernel
theorem dX0_init_18 : decode cX0_init 18 = .ok (.istore_n 1, 1) := by decide +kernel
theorem dX0_init_19 : decode cX0_init 19 = .ok (.iload_n 1, 1) := by decide +kernel
theorem dX0_init_20 : decode cX0_init 20 = .ok (.iconst 4, 1) := by decide +kernel
theorem dX0_init_21 : decode cX0_init 21 = .ok (.if_icmp .ge 22, 3) := by decide +kernel
theorem dX0_init_24 : decode cX0_init 24 = .ok (.aload_n 0, 1) := by decide +kernel
theorem dX0_init_25 : decode cX0_init 25 = .ok (.getfield 11, 3) := by decide +kernel
theorem dX0_init_28 : decode cX0_init 28 = .ok (.iload_n 1, 1) := by decide +kernel
theorem dX0_init_29 : decode cX0_init 29 = .ok (.new 9, 3) := by decide +kernel
theorem dX0_init_32 : decode cX0_init 32 = .ok (.dup, 1) := by decide +kernel
theorem dX0_init_33 : decode cX0_init 33 = .ok (.invokespecial 21, 3) := by decide +kernel
theorem dX0_init_36 : decode cX0_init 36 = .ok (.aastore, 1) := by decide +kernel
theorem dX0_init_37 : decode cX0_init 37 = .ok (.iinc 1 1, 3) := by decide +kernel
theorem dX0_init_40 : decode cX0_init 40 = .ok (.goto (-21), 3) := by decide +kernel
theorem dX0_init_43 : decode cX0_init 43 = .ok (.return_, 1) := by decide +kernel
set_option maxRecDepth 20000 in
theorem ggX0_record_X0_dropOldest : GoodIn wsX0_record wsX0_dropOldest := goodIn_r _ [7, 2, 1, 22, 23] (by decide +kernel) (by decide +kernel)
set_option maxRecDepth 20000 in
theorem gX0_record_X0_dropOldest : GoodIn wsX0_record (wsV RX0 22 RX0 yX0_dropOldest wsX0_dropOldest) := goodIn_app (goodIn_of _ (by decide +kernel)) ggX0_record_X0_dropOldest
set_option maxRecDepth 20000 in
theorem ggX0_record_X5_copyFrom : GoodIn wsX0_record wsX5_copyFrom := goodIn_r _ [12, 13, 14, 15, 16, 17, 18, 19, 20, 21, 24, 25, 26, 27, 28] (by decide +kernel) (by decide +kernel)
set_option maxRecDepth 20000 in
theorem gX0_record_X5_copyFrom : GoodIn wsX0_record (wsV RX0 25 RX5 yX5_copyFrom wsX5_copyFrom) := goodIn_app (goodIn_of _ (by decide +kernel)) ggX0_record_X5_copyFrom
theorem dX0_record_0 : decode cX0_record 0 = .ok (.aload_n 0, 1) := by decide +kernel
theorem dX0_record_1 : decode cX0_record 1 = .ok (.getfield 17, 3) := by decide +kernel
theorem dX0_record_4 : decode cX0_record 4 = .ok (.iconst 4, 1) := by decide +kernel
theorem dX0_record_5 : decode cX0_record 5 = .ok (.if_icmp .lt 7, 3) := by decide +kernel
theorem dX0_record_8 : decode cX0_record 8 = .ok (.aload_n 0, 1) := by decide +kernel
theorem dX0_record_9 : decode cX0_record 9 = .ok (.invokevirtual 22, 3) := by decide +kernel
theorem dX0_record_12 : decode cX0_record 12 = .ok (.aload_n 0, 1) := by decide +kernel
theorem dX0_record_13 : decode cX0_record 13 = .ok (.getfield 17, 3) := by decide +kernel
theorem dX0_record_16 : decode cX0_record 16 = .ok (.ifCond .lt 34, 3) := by decide +kernel
theorem dX0_record_19 : decode cX0_record 19 = .ok (.aload_n 0, 1) := by decide +kernel
theorem dX0_record_20 : decode cX0_record 20 = .ok (.getfield 17, 3) := by decide +kernel
theorem dX0_record_23 : decode cX0_record 23 = .ok (.iconst 4, 1) := by decide +kernel
theorem dX0_record_24 : decode cX0_record 24 = .ok (.if_icmp .ge 26, 3) := by decide +kernel
theorem dX0_record_27 : decode cX0_record 27 = .ok (.aload_n 0, 1) := by decide +kernel
theorem dX0_record_28 : decode cX0_record 28 = .ok (.getfield 11, 3) := by decide +kernel
theorem dX0_record_31 : decode cX0_record 31 = .ok (.aload_n 0, 1) := by decide +kernel
theorem dX0_record_32 : decode cX0_record 32 = .ok (.getfield 17, 3) := by decide +kernel
theorem dX0_record_35 : decode cX0_record 35 = .ok (.aaload, 1) := by decide +kernel
theorem dX0_record_36 : decode cX0_record 36 = .ok (.aload_n 1, 1) := by decide +kernel
theorem dX0_record_37 : decode cX0_record 37 = .ok (.invokevirtual 25, 3) := by decide +kernel
theorem dX0_record_40 : decode cX0_record 40 = .ok (.aload_n 0, 1) := by decide +kernel
theorem dX0_record_41 : decode cX0_record 41 = .ok (.dup, 1) := by decide +kernel
theorem dX0_record_42 : decode cX0_record 42 = .ok (.getfield 17, 3) := by decide +kernel
theorem dX0_record_45 : decode cX0_record 45 = .ok (.iconst 1, 1) := by decide +kernel
theorem dX0_record_46 : decode cX0_record 46 = .ok (.iadd, 1) := by decide +kernel
theorem dX0_record_47 : decode cX0_record 47 = .ok (.putfield 17, 3) := by decide +kernel
theorem dX0_record_50 : decode cX0_record 50 = .ok (.return_, 1) := by decide +kernel
theorem dX0_dropOldest_0 : decode cX0_dropOldest 0 = .ok (.aload_n 0, 1) := by decide +kernel
theorem dX0_dropOldest_1 : decode cX0_dropOldest 1 = .ok (.getfield 11, 3) := by decide +kernel
theorem dX0_dropOldest_4 : decode cX0_dropOldest 4 = .ok (.iconst 0, 1) := by decide +kernel
theorem dX0_dropOldest_5 : decode cX0_dropOldest 5 = .ok (.aaload, 1) := by decide +kernel
theorem dX0_dropOldest_6 : decode cX0_dropOldest 6 = .ok (.astore_n 1, 1) := by decide +kernel
theorem dX0_dropOldest_7 : decode cX0_dropOldest 7 = .ok (.iconst 0, 1) := by decide +kernel
theorem dX0_dropOldest_8 : decode cX0_dropOldest 8 = .ok (.istore_n 2, 1) := by decide +kernel
theorem dX0_dropOldest_9 : decode cX0_dropOldest 9 = .ok (.iload_n 2, 1) := by decide +kernel
theorem dX0_dropOldest_10 : decode cX0_dropOldest 10 = .ok (.iconst 1, 1) := by decide +kernel
theorem dX0_dropOldest_11 : decode cX0_dropOldest 11 = .ok (.iadd, 1) := by decide +kernel
theorem dX0_dropOldest_12 : decode cX0_dropOldest 12 = .ok (.iconst 4, 1) := by decide +kernel
theorem dX0_dropOldest_13 : decode cX0_dropOldest 13 = .ok (.if_icmp .ge 23, 3) := by decide +kernel
theorem dX0_dropOldest_16 : decode cX0_dropOldest 16 = .ok (.aload_n 0, 1) := by decide +kernel
theorem dX0_dropOldest_17 : decode cX0_dropOldest 17 = .ok (.getfield 11, 3) := by decide +kernel
theorem dX0_dropOldest_20 : decode cX0_dropOldest 20 = .ok (.iload_n 2, 1) := by decide +kernel
theorem dX0_dropOldest_21 : decode cX0_dropOldest 21 = .ok (.aload_n 0, 1) := by decide +kernel
theorem dX0_dropOldest_22 : decode cX0_dropOldest 22 = .ok (.getfield 11, 3) := by decide +kernel
theorem dX0_dropOldest_25 : decode cX0_dropOldest 25 = .ok (.iload_n 2, 1) := by decide +kernel
theorem dX0_dropOldest_26 : decode cX0_dropOldest 26 = .ok (.iconst 1, 1) := by decide +kernel
theorem dX0_dropOldest_27 : decode cX0_dropOldest 27 = .ok (.iadd, 1) := by decide +kernel
theorem dX0_dropOldest_28 : decode cX0_dropOldest 28 = .ok (.aaload, 1) := by decide +kernel
theorem dX0_dropOldest_29 : decode cX0_dropOldest 29 = .ok (.aastore, 1) := by decide +kernel
theorem dX0_dropOldest_30 : decode cX0_dropOldest 30 = .ok (.iinc 2 1, 3) := by decide +kernel
theorem dX0_dropOldest_33 : decode cX0_dropOldest 33 = .ok (.goto (-24), 3) := by decide +kernel
theorem dX0_dropOldest_36 : decode cX0_dropOldest 36 = .ok (.aload_n 0, 1) := by decide +kernel
theorem dX0_dropOldest_37 : decode cX0_dropOldest 37 = .ok (.getfield 11, 3) := by decide +kernel
theorem dX0_dropOldest_40 : decode cX0_dropOldest 40 = .ok (.iconst 3, 1) := by decide +kernel
theorem dX0_dropOldest_41 : decode cX0_dropOldest 41 = .ok (.aload_n 1, 1) := by decide +kernel
theorem dX0_dropOldest_42 : decode cX0_dropOldest 42 = .ok (.aastore, 1) := by decide +kernel
theorem dX0_dropOldest_43 : decode cX0_dropOldest 43 = .ok (.aload_n 0, 1) := by decide +kernel
theorem dX0_dropOldest_44 : decode cX0_dropOldest 44 = .ok (.iconst 3, 1) := by decide +kernel
theorem dX0_dropOldest_45 : decode cX0_dropOldest 45 = .ok (.putfield 17, 3) := by decide +kernel
theorem dX0_dropOldest_48 : decode cX0_dropOldest 48 = .ok (.return_, 1) := by decide +kernel
set_option maxRecDepth 20000 in
theorem ggX0_takeLatestInto_X5_copyFrom : GoodIn wsX0_takeLatestInto wsX5_copyFrom := goodIn_r _ [7, 8, 9, 10, 11, 12, 13, 14, 15, 16, 19, 20, 21, 22, 23] (by decide +kernel) (by decide +kernel)
set_option maxRecDepth 20000 in
theorem gX0_takeLatestInto_X5_copyFrom : GoodIn wsX0_takeLatestInto (wsV RX0 25 RX5 yX5_copyFrom wsX5_copyFrom) := goodIn_app (goodIn_of _ (by decide +kernel)) ggX0_takeLatestInto_X5_copyFrom
theorem dX0_takeLatestInto_0 : decode cX0_takeLatestInto 0 = .ok (.aload_n 0, 1) := by decide +kernel
theorem dX0_takeLatestInto_1 : decode cX0_takeLatestInto 1 = .ok (.getfield 17, 3) := by decide +kernel
theorem dX0_takeLatestInto_4 : decode cX0_takeLatestInto 4 = .ok (.iconst 1, 1) := by decide +kernel
theorem dX0_takeLatestInto_5 : decode cX0_takeLatestInto 5 = .ok (.if_icmp .lt 34, 3) := by decide +kernel
theorem dX0_takeLatestInto_8 : decode cX0_takeLatestInto 8 = .ok (.aload_n 0, 1) := by decide +kernel
theorem dX0_takeLatestInto_9 : decode cX0_takeLatestInto 9 = .ok (.getfield 17, 3) := by decide +kernel
theorem dX0_takeLatestInto_12 : decode cX0_takeLatestInto 12 = .ok (.iconst 4, 1) := by decide +kernel
theorem dX0_takeLatestInto_13 : decode cX0_takeLatestInto 13 = .ok (.if_icmp .gt 26, 3) := by decide +kernel
theorem dX0_takeLatestInto_16 : decode cX0_takeLatestInto 16 = .ok (.aload_n 0, 1) := by decide +kernel
theorem dX0_takeLatestInto_17 : decode cX0_takeLatestInto 17 = .ok (.dup, 1) := by decide +kernel
theorem dX0_takeLatestInto_18 : decode cX0_takeLatestInto 18 = .ok (.getfield 17, 3) := by decide +kernel
theorem dX0_takeLatestInto_21 : decode cX0_takeLatestInto 21 = .ok (.iconst 1, 1) := by decide +kernel
theorem dX0_takeLatestInto_22 : decode cX0_takeLatestInto 22 = .ok (.isub, 1) := by decide +kernel
theorem dX0_takeLatestInto_23 : decode cX0_takeLatestInto 23 = .ok (.putfield 17, 3) := by decide +kernel
theorem dX0_takeLatestInto_26 : decode cX0_takeLatestInto 26 = .ok (.aload_n 1, 1) := by decide +kernel
theorem dX0_takeLatestInto_27 : decode cX0_takeLatestInto 27 = .ok (.aload_n 0, 1) := by decide +kernel
theorem dX0_takeLatestInto_28 : decode cX0_takeLatestInto 28 = .ok (.getfield 11, 3) := by decide +kernel
theorem dX0_takeLatestInto_31 : decode cX0_takeLatestInto 31 = .ok (.aload_n 0, 1) := by decide +kernel
theorem dX0_takeLatestInto_32 : decode cX0_takeLatestInto 32 = .ok (.getfield 17, 3) := by decide +kernel
theorem dX0_takeLatestInto_35 : decode cX0_takeLatestInto 35 = .ok (.aaload, 1) := by decide +kernel
theorem dX0_takeLatestInto_36 : decode cX0_takeLatestInto 36 = .ok (.invokevirtual 25, 3) := by decide +kernel
theorem dX0_takeLatestInto_39 : decode cX0_takeLatestInto 39 = .ok (.return_, 1) := by decide +kernel
theorem dX1_init_0 : decode cX1_init 0 = .ok (.aload_n 0, 1) := by decide +kernel
theorem dX1_init_1 : decode cX1_init 1 = .ok (.invokespecial 3, 3) := by decide +kernel
theorem dX1_init_4 : decode cX1_init 4 = .ok (.aload_n 0, 1) := by decide +kernel
theorem dX1_init_5 : decode cX1_init 5 = .ok (.bipush 60, 2) := by decide +kernel
theorem dX1_init_7 : decode cX1_init 7 = .ok (.newarray .char, 2) := by decide +kernel
theorem dX1_init_9 : decode cX1_init 9 = .ok (.putfield 9, 3) := by decide +kernel
theorem dX1_init_12 : decode cX1_init 12 = .ok (.aload_n 0, 1) := by decide +kernel
theorem dX1_init_13 : decode cX1_init 13 = .ok (.iconst 0, 1) := by decide +kernel
theorem dX1_init_14 : decode cX1_init 14 = .ok (.putfield 15, 3) := by decide +kernel
theorem dX1_init_17 : decode cX1_init 17 = .ok (.return_, 1) := by decide +kernel
theorem dX1_append_0 : decode cX1_append 0 = .ok (.aload_n 0, 1) := by decide +kernel
theorem dX1_append_1 : decode cX1_append 1 = .ok (.getfield 15, 3) := by decide +kernel
theorem dX1_append_4 : decode cX1_append 4 = .ok (.ifCond .lt 32, 3) := by decide +kernel
theorem dX1_append_7 : decode cX1_append 7 = .ok (.aload_n 0, 1) := by decide +kernel
theorem dX1_append_8 : decode cX1_append 8 = .ok (.getfield 15, 3) := by decide +kernel
theorem dX1_append_11 : decode cX1_append 11 = .ok (.bipush 60, 2) := by decide +kernel
theorem dX1_append_13 : decode cX1_append 13 = .ok (.if_icmp .ge 23, 3) := by decide +kernel
theorem dX1_append_16 : decode cX1_append 16 = .ok (.aload_n 0, 1) := by decide +kernel
theorem dX1_append_17 : decode cX1_append 17 = .ok (.getfield 9, 3) := by decide +kernel
theorem dX1_append_20 : decode cX1_append 20 = .ok (.aload_n 0, 1) := by decide +kernel
theorem dX1_append_21 : decode cX1_append 21 = .ok (.getfield 15, 3) := by decide +kernel
theorem dX1_append_24 : decode cX1_append 24 = .ok (.iload_n 1, 1) := by decide +kernel
theorem dX1_append_25 : decode cX1_append 25 = .ok (.castore, 1) := by decide +kernel
theorem dX1_append_26 : decode cX1_append 26 = .ok (.aload_n 0, 1) := by decide +kernel
theorem dX1_append_27 : decode cX1_append 27 = .ok (.dup, 1) := by decide +kernel
theorem dX1_append_28 : decode cX1_append 28 = .ok (.getfield 15, 3) := by decide +kernel
theorem dX1_append_31 : decode cX1_append 31 = .ok (.iconst 1, 1) := by decide +kernel
theorem dX1_append_32 : decode cX1_append 32 = .ok (.iadd, 1) := by decide +kernel
theorem dX1_append_33 : decode cX1_append 33 = .ok (.putfield 15, 3) := by decide +kernel
theorem dX1_append_36 : decode cX1_append 36 = .ok (.return_, 1) := by decide +kernel
theorem dX1_signAt_0 : decode cX1_signAt 0 = .ok (.iload_n 1, 1) := by decide +kernel
theorem dX1_signAt_1 : decode cX1_signAt 1 = .ok (.ifCond .lt 18, 3) := by decide +kernel
theorem dX1_signAt_4 : decode cX1_signAt 4 = .ok (.iload_n 1, 1) := by decide +kernel
theorem dX1_signAt_5 : decode cX1_signAt 5 = .ok (.bipush 60, 2) := by decide +kernel
theorem dX1_signAt_7 : decode cX1_signAt 7 = .ok (.if_icmp .ge 12, 3) := by decide +kernel
theorem dX1_signAt_10 : decode cX1_signAt 10 = .ok (.aload_n 0, 1) := by decide +kernel
theorem dX1_signAt_11 : decode cX1_signAt 11 = .ok (.getfield 9, 3) := by decide +kernel
theorem dX1_signAt_14 : decode cX1_signAt 14 = .ok (.iload_n 1, 1) := by decide +kernel
theorem dX1_signAt_15 : decode cX1_signAt 15 = .ok (.caload, 1) := by decide +kernel
theorem dX1_signAt_16 : decode cX1_signAt 16 = .ok (.goto 5, 3) := by decide +kernel
theorem dX1_signAt_19 : decode cX1_signAt 19 = .ok (.bipush 32, 2) := by decide +kernel
theorem dX1_signAt_21 : decode cX1_signAt 21 = .ok (.ireturn, 1) := by decide +kernel
set_option maxRecDepth 20000 in
theorem ggX1_canBeWritten_X1_signAt : GoodIn wsX1_canBeWritten wsX1_signAt := goodIn_r _ [6, 7, 11, 12] (by decide +kernel) (by decide +kernel)
set_option maxRecDepth 20000 in
theorem gX1_canBeWritten_X1_signAt : GoodIn wsX1_canBeWritten (wsV RX1 19 RX1 yX1_signAt wsX1_signAt) := goodIn_app (goodIn_of _ (by decide +kernel)) ggX1_canBeWritten_X1_signAt
set_option maxRecDepth 20000 in
theorem ggX1_canBeWritten_X7_isLetter : GoodIn wsX1_canBeWritten wsX7_isLetter := goodIn_r _ [10] (by decide +kernel) (by decide +kernel)
set_option maxRecDepth 20000 in
theorem gX1_canBeWritten_X7_isLetter_n23 : GoodIn wsX1_canBeWritten (wsX7_isLetter) := ggX1_canBeWritten_X7_isLetter
theorem dX1_canBeWritten_0 : decode cX1_canBeWritten 0 = .ok (.iconst 0, 1) := by decide +kernel
theorem dX1_canBeWritten_1 : decode cX1_canBeWritten 1 = .ok (.istore_n 1, 1) := by decide +kernel
theorem dX1_canBeWritten_2 : decode cX1_canBeWritten 2 = .ok (.iload_n 1, 1) := by decide +kernel
theorem dX1_canBeWritten_3 : decode cX1_canBeWritten 3 = .ok (.aload_n 0, 1) := by decide +kernel
theorem dX1_canBeWritten_4 : decode cX1_canBeWritten 4 = .ok (.getfield 15, 3) := by decide +kernel
theorem dX1_canBeWritten_7 : decode cX1_canBeWritten 7 = .ok (.if_icmp .ge 32, 3) := by decide +kernel
theorem dX1_canBeWritten_10 : decode cX1_canBeWritten 10 = .ok (.aload_n 0, 1) := by decide +kernel
theorem dX1_canBeWritten_11 : decode cX1_canBeWritten 11 = .ok (.iload_n 1, 1) := by decide +kernel
theorem dX1_canBeWritten_12 : decode cX1_canBeWritten 12 = .ok (.invokevirtual 19, 3) := by decide +kernel
theorem dX1_canBeWritten_15 : decode cX1_canBeWritten 15 = .ok (.invokestatic 23, 3) := by decide +kernel
theorem dX1_canBeWritten_18 : decode cX1_canBeWritten 18 = .ok (.ifCond .ne 15, 3) := by decide +kernel
theorem dX1_canBeWritten_21 : decode cX1_canBeWritten 21 = .ok (.aload_n 0, 1) := by decide +kernel
theorem dX1_canBeWritten_22 : decode cX1_canBeWritten 22 = .ok (.iload_n 1, 1) := by decide +kernel
theorem dX1_canBeWritten_23 : decode cX1_canBeWritten 23 = .ok (.invokevirtual 19, 3) := by decide +kernel
theorem dX1_canBeWritten_26 : decode cX1_canBeWritten 26 = .ok (.bipush 95, 2) := by decide +kernel
theorem dX1_canBeWritten_28 : decode cX1_canBeWritten 28 = .ok (.if_icmp .eq 5, 3) := by decide +kernel
theorem dX1_canBeWritten_31 : decode cX1_canBeWritten 31 = .ok (.iconst 0, 1) := by decide +kernel
theorem dX1_canBeWritten_32 : decode cX1_canBeWritten 32 = .ok (.ireturn, 1) := by decide +kernel
theorem dX1_canBeWritten_33 : decode cX1_canBeWritten 33 = .ok (.iinc 1 1, 3) := by decide +kernel
theorem dX1_canBeWritten_36 : decode cX1_canBeWritten 36 = .ok (.goto (-34), 3) := by decide +kernel
theorem dX1_canBeWritten_39 : decode cX1_canBeWritten 39 = .ok (.aload_n 0, 1) := by decide +kernel
theorem dX1_canBeWritten_40 : decode cX1_canBeWritten 40 = .ok (.getfield 15, 3) := by decide +kernel
theorem dX1_canBeWritten_43 : decode cX1_canBeWritten 43 = .ok (.ifCond .le 7, 3) := by decide +kernel
theorem dX1_canBeWritten_46 : decode cX1_canBeWritten 46 = .ok (.iconst 1, 1) := by decide +kernel
theorem dX1_canBeWritten_47 : decode cX1_canBeWritten 47 = .ok (.goto 4, 3) := by decide +kernel
theorem dX1_canBeWritten_50 : decode cX1_canBeWritten 50 = .ok (.iconst 0, 1) := by decide +kernel
theorem dX1_canBeWritten_51 : decode cX1_canBeWritten 51 = .ok (.ireturn, 1) := by decide +kernel
theorem dX2_init_0 : decode cX2_init 0 = .ok (.aload_n 0, 1) := by decide +kernel
theorem dX2_init_1 : decode cX2_init 1 = .ok (.invokespecial 3, 3) := by decide +kernel
theorem dX2_init_4 : decode cX2_init 4 = .ok (.aload_n 0, 1) := by decide +kernel
theorem dX2_init_5 : decode cX2_init 5 = .ok (.bipush 60, 2) := by decide +kernel
theorem dX2_init_7 : decode cX2_init 7 = .ok (.newarray .int, 2) := by decide +kernel
theorem dX2_init_9 : decode cX2_init 9 = .ok (.putfield 9, 3) := by decide +kernel
theorem dX2_init_12 : decode cX2_init 12 = .ok (.aload_n 0, 1) := by decide +kernel
theorem dX2_init_13 : decode cX2_init 13 = .ok (.bipush 27, 2) := by decide +kernel
theorem dX2_init_15 : decode cX2_init 15 = .ok (.newarray .long, 2) := by decide +kernel
theorem dX2_init_17 : decode cX2_init 17 = .ok (.putfield 15, 3) := by decide +kernel
theorem dX2_init_20 : decode cX2_init 20 = .ok (.iconst 0, 1) := by decide +kernel
theorem dX2_init_21 : decode cX2_init 21 = .ok (.istore 4, 2) := by decide +kernel
theorem dX2_init_23 : decode cX2_init 23 = .ok (.iconst 0, 1) := by decide +kernel
theorem dX2_init_24 : decode cX2_init 24 = .ok (.istore 5, 2) := by decide +kernel
theorem dX2_init_26 : decode cX2_init 26 = .ok (.iload 5, 2) := by decide +kernel
theorem dX2_init_28 : decode cX2_init 28 = .ok (.bipush 60, 2) := by decide +kernel
theorem dX2_init_30 : decode cX2_init 30 = .ok (.if_icmp .ge 75, 3) := by decide +kernel
theorem dX2_init_33 : decode cX2_init 33 = .ok (.iload 5, 2) := by decide +kernel
theorem dX2_init_35 : decode cX2_init 35 = .ok (.iload_n 2, 1) := by decide +kernel
theorem dX2_init_36 : decode cX2_init 36 = .ok (.if_icmp .ge 69, 3) := by decide +kernel
theorem dX2_init_39 : decode cX2_init 39 = .ok (.iload 5, 2) := by decide +kernel
theorem dX2_init_41 : decode cX2_init 41 = .ok (.aload_n 1, 1) := by decide +kernel
theorem dX2_init_42 : decode cX2_init 42 = .ok (.arraylength, 1) := by decide +kernel
theorem dX2_init_43 : decode cX2_init 43 = .ok (.if_icmp .ge 62, 3) := by decide +kernel
theorem dX2_init_46 : decode cX2_init 46 = .ok (.aload_n 0, 1) := by decide +kernel
theorem dX2_init_47 : decode cX2_init 47 = .ok (.getfield 9, 3) := by decide +kernel
theorem dX2_init_50 : decode cX2_init 50 = .ok (.iload 5, 2) := by decide +kernel
theorem dX2_init_52 : decode cX2_init 52 = .ok (.aload_n 1, 1) := by decide +kernel
theorem dX2_init_53 : decode cX2_init 53 = .ok (.iload 5, 2) := by decide +kernel
theorem dX2_init_55 : decode cX2_init 55 = .ok (.iaload, 1) := by decide +kernel
theorem dX2_init_56 : decode cX2_init 56 = .ok (.iastore, 1) := by decide +kernel
theorem dX2_init_57 : decode cX2_init 57 = .ok (.iconst 0, 1) := by decide +kernel
theorem dX2_init_58 : decode cX2_init 58 = .ok (.istore 6, 2) := by decide +kernel
theorem dX2_init_60 : decode cX2_init 60 = .ok (.iload 6, 2) := by decide +kernel
theorem dX2_init_62 : decode cX2_init 62 = .ok (.bipush 27, 2) := by decide +kernel
theorem dX2_init_64 : decode cX2_init 64 = .ok (.if_icmp .ge 32, 3) := by decide +kernel
theorem dX2_init_67 : decode cX2_init 67 = .ok (.aload_n 0, 1) := by decide +kernel
theorem dX2_init_68 : decode cX2_init 68 = .ok (.getfield 15, 3) := by decide +kernel
theorem dX2_init_71 : decode cX2_init 71 = .ok (.iload 6, 2) := by decide +kernel
theorem dX2_init_73 : decode cX2_init 73 = .ok (.dup2, 1) := by decide +kernel
theorem dX2_init_74 : decode cX2_init 74 = .ok (.laload, 1) := by decide +kernel
theorem dX2_init_75 : decode cX2_init 75 = .ok (.aload_n 1, 1) := by decide +kernel
theorem dX2_init_76 : decode cX2_init 76 = .ok (.iload 5, 2) := by decide +kernel
theorem dX2_init_78 : decode cX2_init 78 = .ok (.iaload, 1) := by decide +kernel
theorem dX2_init_79 : decode cX2_init 79 = .ok (.iload 6, 2) := by decide +kernel
theorem dX2_init_81 : decode cX2_init 81 = .ok (.ishr, 1) := by decide +kernel
theorem dX2_init_82 : decode cX2_init 82 = .ok (.iconst 1, 1) := by decide +kernel
theorem dX2_init_83 : decode cX2_init 83 = .ok (.iand, 1) := by decide +kernel
theorem dX2_init_84 : decode cX2_init 84 = .ok (.i2l, 1) := by decide +kernel
theorem dX2_init_85 : decode cX2_init 85 = .ok (.iload 5, 2) := by decide +kernel
theorem dX2_init_87 : decode cX2_init 87 = .ok (.lshl, 1) := by decide +kernel
theorem dX2_init_88 : decode cX2_init 88 = .ok (.lor, 1) := by decide +kernel
theorem dX2_init_89 : decode cX2_init 89 = .ok (.lastore, 1) := by decide +kernel
theorem dX2_init_90 : decode cX2_init 90 = .ok (.iinc 6 1, 3) := by decide +kernel
theorem dX2_init_93 : decode cX2_init 93 = .ok (.goto (-33), 3) := by decide +kernel
theorem dX2_init_96 : decode cX2_init 96 = .ok (.iinc 4 1, 3) := by decide +kernel
theorem dX2_init_99 : decode cX2_init 99 = .ok (.iinc 5 1, 3) := by decide +kernel
theorem dX2_init_102 : decode cX2_init 102 = .ok (.goto (-76), 3) := by decide +kernel
theorem dX2_init_105 : decode cX2_init 105 = .ok (.aload_n 0, 1) := by decide +kernel
theorem dX2_init_106 : decode cX2_init 106 = .ok (.iload 4, 2) := by decide +kernel
theorem dX2_init_108 : decode cX2_init 108 = .ok (.putfield 19, 3) := by decide +kernel
theorem dX2_init_111 : decode cX2_init 111 = .ok (.aload_n 0, 1) := by decide +kernel
theorem dX2_init_112 : decode cX2_init 112 = .ok (.iload_n 3, 1) := by decide +kernel
theorem dX2_init_113 : decode cX2_init 113 = .ok (.putfield 23, 3) := by decide +kernel
theorem dX2_init_116 : decode cX2_init 116 = .ok (.return_, 1) := by decide +kernel
theorem dX2_signsOf_0 : decode cX2_signsOf 0 = .ok (.iload_n 1, 1) := by decide +kernel
theorem dX2_signsOf_1 : decode cX2_signsOf 1 = .ok (.ifCond .lt 18, 3) := by decide +kernel
theorem dX2_signsOf_4 : decode cX2_signsOf 4 = .ok (.iload_n 1, 1) := by decide +kernel
theorem dX2_signsOf_5 : decode cX2_signsOf 5 = .ok (.bipush 60, 2) := by decide +kernel
theorem dX2_signsOf_7 : decode cX2_signsOf 7 = .ok (.if_icmp .ge 12, 3) := by decide +kernel
theorem dX2_signsOf_10 : decode cX2_signsOf 10 = .ok (.aload_n 0, 1) := by decide +kernel
theorem dX2_signsOf_11 : decode cX2_signsOf 11 = .ok (.getfield 9, 3) := by decide +kernel
theorem dX2_signsOf_14 : decode cX2_signsOf 14 = .ok (.iload_n 1, 1) := by decide +kernel
theorem dX2_signsOf_15 : decode cX2_signsOf 15 = .ok (.iaload, 1) := by decide +kernel
theorem dX2_signsOf_16 : decode cX2_signsOf 16 = .ok (.goto 4, 3) := by decide +kernel
theorem dX2_signsOf_19 : decode cX2_signsOf 19 = .ok (.iconst 0, 1) := by decide +kernel
theorem dX2_signsOf_20 : decode cX2_signsOf 20 = .ok (.ireturn, 1) := by decide +kernel
theorem dX2_placesThatTake_0 : decode cX2_placesThatTake 0 = .ok (.iload_n 1, 1) := by decide +kernel
theorem dX2_placesThatTake_1 : decode cX2_placesThatTake 1 = .ok (.bipush 32, 2) := by decide +kernel
theorem dX2_placesThatTake_3 : decode cX2_placesThatTake 3 = .ok (.if_icmp .ne 8, 3) := by decide +kernel
theorem dX2_placesThatTake_6 : decode cX2_placesThatTake 6 = .ok (.bipush 26, 2) := by decide +kernel
theorem dX2_placesThatTake_8 : decode cX2_placesThatTake 8 = .ok (.goto 7, 3) := by decide +kernel
theorem dX2_placesThatTake_11 : decode cX2_placesThatTake 11 = .ok (.iload_n 1, 1) := by decide +kernel
theorem dX2_placesThatTake_12 : decode cX2_placesThatTake 12 = .ok (.bipush 97, 2) := by decide +kernel
theorem dX2_placesThatTake_14 : decode cX2_placesThatTake 14 = .ok (.isub, 1) := by decide +kernel
theorem dX2_placesThatTake_15 : decode cX2_placesThatTake 15 = .ok (.istore_n 2, 1) := by decide +kernel
theorem dX2_placesThatTake_16 : decode cX2_placesThatTake 16 = .ok (.iload_n 2, 1) := by decide +kernel
theorem dX2_placesThatTake_17 : decode cX2_placesThatTake 17 = .ok (.ifCond .lt 18, 3) := by decide +kernel
theorem dX2_placesThatTake_20 : decode cX2_placesThatTake 20 = .ok (.iload_n 2, 1) := by decide +kernel
theorem dX2_placesThatTake_21 : decode cX2_placesThatTake 21 = .ok (.bipush 27, 2) := by decide +kernel
theorem dX2_placesThatTake_23 : decode cX2_placesThatTake 23 = .ok (.if_icmp .ge 12, 3) := by decide +kernel
theorem dX2_placesThatTake_26 : decode cX2_placesThatTake 26 = .ok (.aload_n 0, 1) := by decide +kernel
theorem dX2_placesThatTake_27 : decode cX2_placesThatTake 27 = .ok (.getfield 15, 3) := by decide +kernel
theorem dX2_placesThatTake_30 : decode cX2_placesThatTake 30 = .ok (.iload_n 2, 1) := by decide +kernel
theorem dX2_placesThatTake_31 : decode cX2_placesThatTake 31 = .ok (.laload, 1) := by decide +kernel
theorem dX2_placesThatTake_32 : decode cX2_placesThatTake 32 = .ok (.goto 4, 3) := by decide +kernel
theorem dX2_placesThatTake_35 : decode cX2_placesThatTake 35 = .ok (.lconst 0, 1) := by decide +kernel
theorem dX2_placesThatTake_36 : decode cX2_placesThatTake 36 = .ok (.lreturn, 1) := by decide +kernel
set_option maxRecDepth 20000 in
theorem ggX2_countWild_X2_signsOf : GoodIn wsX2_countWild wsX2_signsOf := goodIn_r _ [7, 8, 9, 10, 11, 12] (by decide +kernel) (by decide +kernel)
set_option maxRecDepth 20000 in
theorem gX2_countWild_X2_signsOf : GoodIn wsX2_countWild (wsV RX2 27 RX2 yX2_signsOf wsX2_signsOf) := goodIn_app (goodIn_of _ (by decide +kernel)) ggX2_countWild_X2_signsOf
theorem dX2_countWild_0 : decode cX2_countWild 0 = .ok (.iconst 0, 1) := by decide +kernel
theorem dX2_countWild_1 : decode cX2_countWild 1 = .ok (.istore_n 1, 1) := by decide +kernel
theorem dX2_countWild_2 : decode cX2_countWild 2 = .ok (.iconst 0, 1) := by decide +kernel
theorem dX2_countWild_3 : decode cX2_countWild 3 = .ok (.istore_n 2, 1) := by decide +kernel
theorem dX2_countWild_4 : decode cX2_countWild 4 = .ok (.iload_n 2, 1) := by decide +kernel
theorem dX2_countWild_5 : decode cX2_countWild 5 = .ok (.aload_n 0, 1) := by decide +kernel
theorem dX2_countWild_6 : decode cX2_countWild 6 = .ok (.getfield 19, 3) := by decide +kernel
theorem dX2_countWild_9 : decode cX2_countWild 9 = .ok (.if_icmp .ge 22, 3) := by decide +kernel
theorem dX2_countWild_12 : decode cX2_countWild 12 = .ok (.aload_n 0, 1) := by decide +kernel
theorem dX2_countWild_13 : decode cX2_countWild 13 = .ok (.iload_n 2, 1) := by decide +kernel
theorem dX2_countWild_14 : decode cX2_countWild 14 = .ok (.invokevirtual 27, 3) := by decide +kernel
theorem dX2_countWild_17 : decode cX2_countWild 17 = .ok (.ldc 31, 2) := by decide +kernel
theorem dX2_countWild_19 : decode cX2_countWild 19 = .ok (.if_icmp .ne 6, 3) := by decide +kernel
theorem dX2_countWild_22 : decode cX2_countWild 22 = .ok (.iinc 1 1, 3) := by decide +kernel
theorem dX2_countWild_25 : decode cX2_countWild 25 = .ok (.iinc 2 1, 3) := by decide +kernel
theorem dX2_countWild_28 : decode cX2_countWild 28 = .ok (.goto (-24), 3) := by decide +kernel
theorem dX2_countWild_31 : decode cX2_countWild 31 = .ok (.iload_n 1, 1) := by decide +kernel
theorem dX2_countWild_32 : decode cX2_countWild 32 = .ok (.ireturn, 1) := by decide +kernel
set_option maxRecDepth 20000 in
theorem ggX2_isPlain_X2_signsOf : GoodIn wsX2_isPlain wsX2_signsOf := goodIn_r _ [6, 7, 15, 16, 17, 18] (by decide +kernel) (by decide +kernel)
set_option maxRecDepth 20000 in
theorem gX2_isPlain_X2_signsOf : GoodIn wsX2_isPlain (wsV RX2 27 RX2 yX2_signsOf wsX2_signsOf) := goodIn_app (goodIn_of _ (by decide +kernel)) ggX2_isPlain_X2_signsOf
set_option maxRecDepth 20000 in
theorem ggX2_isPlain_J6_bitCount_0f7a4 : GoodIn wsX2_isPlain wsJ6_bitCount_0f7a4 := goodIn_r _ [11, 12, 13, 14] (by decide +kernel) (by decide +kernel)
set_option maxRecDepth 20000 in
theorem gX2_isPlain_J6_bitCount_0f7a4 : GoodIn wsX2_isPlain (va_wsS RX2 32 yJ6_bitCount_0f7a4 wsJ6_bitCount_0f7a4) := goodIn_app (goodIn_of _ (by decide +kernel)) ggX2_isPlain_J6_bitCount_0f7a4
theorem dX2_isPlain_0 : decode cX2_isPlain 0 = .ok (.iconst 0, 1) := by decide +kernel
theorem dX2_isPlain_1 : decode cX2_isPlain 1 = .ok (.istore_n 1, 1) := by decide +kernel
theorem dX2_isPlain_2 : decode cX2_isPlain 2 = .ok (.iload_n 1, 1) := by decide +kernel
theorem dX2_isPlain_3 : decode cX2_isPlain 3 = .ok (.aload_n 0, 1) := by decide +kernel
theorem dX2_isPlain_4 : decode cX2_isPlain 4 = .ok (.getfield 19, 3) := by decide +kernel
theorem dX2_isPlain_7 : decode cX2_isPlain 7 = .ok (.if_icmp .ge 23, 3) := by decide +kernel
theorem dX2_isPlain_10 : decode cX2_isPlain 10 = .ok (.aload_n 0, 1) := by decide +kernel
theorem dX2_isPlain_11 : decode cX2_isPlain 11 = .ok (.iload_n 1, 1) := by decide +kernel
theorem dX2_isPlain_12 : decode cX2_isPlain 12 = .ok (.invokevirtual 27, 3) := by decide +kernel
theorem dX2_isPlain_15 : decode cX2_isPlain 15 = .ok (.invokestatic 32, 3) := by decide +kernel
theorem dX2_isPlain_18 : decode cX2_isPlain 18 = .ok (.iconst 1, 1) := by decide +kernel
theorem dX2_isPlain_19 : decode cX2_isPlain 19 = .ok (.if_icmp .eq 5, 3) := by decide +kernel
theorem dX2_isPlain_22 : decode cX2_isPlain 22 = .ok (.iconst 0, 1) := by decide +kernel
theorem dX2_isPlain_23 : decode cX2_isPlain 23 = .ok (.ireturn, 1) := by decide +kernel
theorem dX2_isPlain_24 : decode cX2_isPlain 24 = .ok (.iinc 1 1, 3) := by decide +kernel
theorem dX2_isPlain_27 : decode cX2_isPlain 27 = .ok (.goto (-25), 3) := by decide +kernel
theorem dX2_isPlain_30 : decode cX2_isPlain 30 = .ok (.iconst 1, 1) := by decide +kernel
theorem dX2_isPlain_31 : decode cX2_isPlain 31 = .ok (.ireturn, 1) := by decide +kernel
theorem dX3_init_0 : decode cX3_init 0 = .ok (.aload_n 0, 1) := by decide +kernel
theorem dX3_init_1 : decode cX3_init 1 = .ok (.invokespecial 3, 3) := by decide +kernel
theorem dX3_init_4 : decode cX3_init 4 = .ok (.aload_n 0, 1) := by decide +kernel
theorem dX3_init_5 : decode cX3_init 5 = .ok (.bipush 60, 2) := by decide +kernel
theorem dX3_init_7 : decode cX3_init 7 = .ok (.newarray .int, 2) := by decide +kernel
theorem dX3_init_9 : decode cX3_init 9 = .ok (.putfield 9, 3) := by decide +kernel
theorem dX3_init_12 : decode cX3_init 12 = .ok (.aload_n 0, 1) := by decide +kernel
theorem dX3_init_13 : decode cX3_init 13 = .ok (.iconst 0, 1) := by decide +kernel
theorem dX3_init_14 : decode cX3_init 14 = .ok (.putfield 15, 3) := by decide +kernel
theorem dX3_init_17 : decode cX3_init 17 = .ok (.aload_n 0, 1) := by decide +kernel
theorem dX3_init_18 : decode cX3_init 18 = .ok (.iconst 0, 1) := by decide +kernel
theorem dX3_init_19 : decode cX3_init 19 = .ok (.putfield 19, 3) := by decide +kernel
theorem dX3_init_22 : decode cX3_init 22 = .ok (.aload_n 0, 1) := by decide +kernel
theorem dX3_init_23 : decode cX3_init 23 = .ok (.iconst 0, 1) := by decide +kernel
theorem dX3_init_24 : decode cX3_init 24 = .ok (.putfield 23, 3) := by decide +kernel
theorem dX3_init_27 : decode cX3_init 27 = .ok (.aload_n 0, 1) := by decide +kernel
theorem dX3_init_28 : decode cX3_init 28 = .ok (.iconst 0, 1) := by decide +kernel
theorem dX3_init_29 : decode cX3_init 29 = .ok (.putfield 26, 3) := by decide +kernel
theorem dX3_init_32 : decode cX3_init 32 = .ok (.aload_n 0, 1) := by decide +kernel
theorem dX3_init_33 : decode cX3_init 33 = .ok (.iconst 0, 1) := by decide +kernel
theorem dX3_init_34 : decode cX3_init 34 = .ok (.putfield 29, 3) := by decide +kernel
theorem dX3_init_37 : decode cX3_init 37 = .ok (.aload_n 0, 1) := by decide +kernel
theorem dX3_init_38 : decode cX3_init 38 = .ok (.bipush 97, 2) := by decide +kernel
theorem dX3_init_40 : decode cX3_init 40 = .ok (.putfield 32, 3) := by decide +kernel
theorem dX3_init_43 : decode cX3_init 43 = .ok (.return_, 1) := by decide +kernel
set_option maxRecDepth 20000 in
theorem ggX3_readFault_X1_signAt : GoodIn wsX3_readFault wsX1_signAt := goodIn_r _ [8, 9, 56, 57] (by decide +kernel) (by decide +kernel)
set_option maxRecDepth 20000 in
theorem gX3_readFault_X1_signAt : GoodIn wsX3_readFault (wsV RX3 41 RX1 yX1_signAt wsX1_signAt) := goodIn_app (goodIn_of _ (by decide +kernel)) ggX3_readFault_X1_signAt
set_option maxRecDepth 20000 in
theorem ggX3_readFault_X3_accepts : GoodIn wsX3_readFault wsX3_accepts := goodIn_r _ [14, 3, 15, 16, 17, 13, 18, 2, 19, 20, 21, 22, 23, 24, 25, 26, 27, 28, 29, 30, 31, 32, 33, 1, 34, 35, 36, 37, 38, 39, 40, 41, 42, 43, 44, 45, 46, 47, 48, 49, 50, 51, 52, 53, 54, 55] (by decide +kernel) (by decide +kernel)
set_option maxRecDepth 20000 in
theorem gX3_readFault_X3_accepts : GoodIn wsX3_readFault (wsV RX3 45 RX3 yX3_accepts wsX3_accepts) := goodIn_app (goodIn_of _ (by decide +kernel)) ggX3_readFault_X3_accepts
theorem dX3_readFault_0 : decode cX3_readFault 0 = .ok (.aload_n 0, 1) := by decide +kernel
theorem dX3_readFault_1 : decode cX3_readFault 1 = .ok (.iconst 0, 1) := by decide +kernel
theorem dX3_readFault_2 : decode cX3_readFault 2 = .ok (.putfield 15, 3) := by decide +kernel
theorem dX3_readFault_5 : decode cX3_readFault 5 = .ok (.aload_n 0, 1) := by decide +kernel
theorem dX3_readFault_6 : decode cX3_readFault 6 = .ok (.iconst 0, 1) := by decide +kernel
theorem dX3_readFault_7 : decode cX3_readFault 7 = .ok (.putfield 19, 3) := by decide +kernel
theorem dX3_readFault_10 : decode cX3_readFault 10 = .ok (.aload_n 0, 1) := by decide +kernel
theorem dX3_readFault_11 : decode cX3_readFault 11 = .ok (.iconst 0, 1) := by decide +kernel
theorem dX3_readFault_12 : decode cX3_readFault 12 = .ok (.putfield 23, 3) := by decide +kernel
theorem dX3_readFault_15 : decode cX3_readFault 15 = .ok (.iconst 0, 1) := by decide +kernel
theorem dX3_readFault_16 : decode cX3_readFault 16 = .ok (.istore_n 2, 1) := by decide +kernel
theorem dX3_readFault_17 : decode cX3_readFault 17 = .ok (.iload_n 2, 1) := by decide +kernel
theorem dX3_readFault_18 : decode cX3_readFault 18 = .ok (.aload_n 1, 1) := by decide +kernel
theorem dX3_readFault_19 : decode cX3_readFault 19 = .ok (.getfield 36, 3) := by decide +kernel
theorem dX3_readFault_22 : decode cX3_readFault 22 = .ok (.if_icmp .ge 23, 3) := by decide +kernel
theorem dX3_readFault_25 : decode cX3_readFault 25 = .ok (.aload_n 0, 1) := by decide +kernel
theorem dX3_readFault_26 : decode cX3_readFault 26 = .ok (.aload_n 1, 1) := by decide +kernel
theorem dX3_readFault_27 : decode cX3_readFault 27 = .ok (.iload_n 2, 1) := by decide +kernel
theorem dX3_readFault_28 : decode cX3_readFault 28 = .ok (.invokevirtual 41, 3) := by decide +kernel
theorem dX3_readFault_31 : decode cX3_readFault 31 = .ok (.invokevirtual 45, 3) := by decide +kernel
theorem dX3_readFault_34 : decode cX3_readFault 34 = .ok (.ifCond .ne 5, 3) := by decide +kernel
theorem dX3_readFault_37 : decode cX3_readFault 37 = .ok (.iload_n 2, 1) := by decide +kernel
theorem dX3_readFault_38 : decode cX3_readFault 38 = .ok (.ireturn, 1) := by decide +kernel
theorem dX3_readFault_39 : decode cX3_readFault 39 = .ok (.iinc 2 1, 3) := by decide +kernel
theorem dX3_readFault_42 : decode cX3_readFault 42 = .ok (.goto (-25), 3) := by decide +kernel
theorem dX3_readFault_45 : decode cX3_readFault 45 = .ok (.aload_n 0, 1) := by decide +kernel
theorem dX3_readFault_46 : decode cX3_readFault 46 = .ok (.getfield 23, 3) := by decide +kernel
theorem dX3_readFault_49 : decode cX3_readFault 49 = .ok (.iconst 1, 1) := by decide +kernel
theorem dX3_readFault_50 : decode cX3_readFault 50 = .ok (.if_icmp .ne 14, 3) := by decide +kernel
theorem dX3_readFault_53 : decode cX3_readFault 53 = .ok (.aload_n 0, 1) := by decide +kernel
theorem dX3_readFault_54 : decode cX3_readFault 54 = .ok (.getfield 15, 3) := by decide +kernel
theorem dX3_readFault_57 : decode cX3_readFault 57 = .ok (.ifCond .le 7, 3) := by decide +kernel
theorem dX3_readFault_60 : decode cX3_readFault 60 = .ok (.iconst (-1), 1) := by decide +kernel
theorem dX3_readFault_61 : decode cX3_readFault 61 = .ok (.goto 7, 3) := by decide +kernel
theorem dX3_readFault_64 : decode cX3_readFault 64 = .ok (.aload_n 1, 1) := by decide +kernel
theorem dX3_readFault_65 : decode cX3_readFault 65 = .ok (.getfield 36, 3) := by decide +kernel
theorem dX3_readFault_68 : decode cX3_readFault 68 = .ok (.ireturn, 1) := by decide +kernel
set_option maxRecDepth 20000 in
theorem ggX3_makePattern_X2_init : GoodIn wsX3_makePattern wsX2_init := goodIn_r _ [9, 10, 11, 12, 13, 14, 15, 16, 17, 18, 19, 20, 21, 22] (by decide +kernel) (by decide +kernel)
set_option maxRecDepth 20000 in
theorem gX3_makePattern_X2_init : GoodIn wsX3_makePattern (wsX2_init) := ggX3_makePattern_X2_init
theorem dX3_makePattern_0 : decode cX3_makePattern 0 = .ok (.new 49, 3) := by decide +kernel
theorem dX3_makePattern_3 : decode cX3_makePattern 3 = .ok (.dup, 1) := by decide +kernel
theorem dX3_makePattern_4 : decode cX3_makePattern 4 = .ok (.aload_n 0, 1) := by decide +kernel
theorem dX3_makePattern_5 : decode cX3_makePattern 5 = .ok (.getfield 9, 3) := by decide +kernel
theorem dX3_makePattern_8 : decode cX3_makePattern 8 = .ok (.aload_n 0, 1) := by decide +kernel
theorem dX3_makePattern_9 : decode cX3_makePattern 9 = .ok (.getfield 15, 3) := by decide +kernel
theorem dX3_makePattern_12 : decode cX3_makePattern 12 = .ok (.aload_n 0, 1) := by decide +kernel
theorem dX3_makePattern_13 : decode cX3_makePattern 13 = .ok (.getfield 19, 3) := by decide +kernel
theorem dX3_makePattern_16 : decode cX3_makePattern 16 = .ok (.invokespecial 51, 3) := by decide +kernel
theorem dX3_makePattern_19 : decode cX3_makePattern 19 = .ok (.areturn, 1) := by decide +kernel
set_option maxRecDepth 20000 in
theorem ggX3_accepts_X3_acceptsBeginning : GoodIn wsX3_accepts wsX3_acceptsBeginning := goodIn_r _ [6, 7, 1, 8, 9, 10, 5, 11, 12, 13, 14, 15, 16, 17, 18, 19, 20, 21, 22, 23, 24, 39, 40, 41, 42, 43, 44, 45] (by decide +kernel) (by decide +kernel)
set_option maxRecDepth 20000 in
theorem gX3_accepts_X3_acceptsBeginning : GoodIn wsX3_accepts (wsV RX3 54 RX3 yX3_acceptsBeginning wsX3_acceptsBeginning) := goodIn_app (goodIn_of _ (by decide +kernel)) ggX3_accepts_X3_acceptsBeginning
set_option maxRecDepth 20000 in
theorem ggX3_accepts_X3_acceptsPlace : GoodIn wsX3_accepts wsX3_acceptsPlace := goodIn_r _ [11, 12, 13, 1, 14, 15, 16, 17, 18, 19, 20, 21, 5, 22, 23, 24, 39, 40, 41, 42, 43, 44, 45] (by decide +kernel) (by decide +kernel)
set_option maxRecDepth 20000 in
theorem gX3_accepts_X3_acceptsPlace : GoodIn wsX3_accepts (wsV RX3 57 RX3 yX3_acceptsPlace wsX3_acceptsPlace) := goodIn_app (goodIn_of _ (by decide +kernel)) ggX3_accepts_X3_acceptsPlace
set_option maxRecDepth 20000 in
theorem ggX3_accepts_X3_acceptsFirstOfSet : GoodIn wsX3_accepts wsX3_acceptsFirstOfSet := goodIn_r _ [28, 13, 1, 29, 30, 31, 5, 32, 12, 33, 16, 17, 18, 39, 40, 41, 42, 43, 44, 45] (by decide +kernel) (by decide +kernel)
set_option maxRecDepth 20000 in
theorem gX3_accepts_X3_acceptsFirstOfSet : GoodIn wsX3_accepts (wsV RX3 60 RX3 yX3_acceptsFirstOfSet wsX3_acceptsFirstOfSet) := goodIn_app (goodIn_of _ (by decide +kernel)) ggX3_accepts_X3_acceptsFirstOfSet
set_option maxRecDepth 20000 in
theorem ggX3_accepts_X3_acceptsLetterOfSet : GoodIn wsX3_accepts wsX3_acceptsLetterOfSet := goodIn_r _ [32, 12, 33, 1, 16, 17, 18, 39, 40, 41, 42, 43, 44, 45] (by decide +kernel) (by decide +kernel)
set_option maxRecDepth 20000 in
theorem gX3_accepts_X3_acceptsLetterOfSet : GoodIn wsX3_accepts (wsV RX3 63 RX3 yX3_acceptsLetterOfSet wsX3_acceptsLetterOfSet) := goodIn_app (goodIn_of _ (by decide +kernel)) ggX3_accepts_X3_acceptsLetterOfSet
set_option maxRecDepth 20000 in
theorem ggX3_accepts_X3_acceptsRestOfSet : GoodIn wsX3_accepts wsX3_acceptsRestOfSet := goodIn_r _ [37, 13, 38, 12, 29, 30, 31, 5, 32, 33, 1, 16, 17, 18, 19, 20, 21, 22, 23, 24, 39, 40, 41, 42, 43, 44, 45] (by decide +kernel) (by decide +kernel)
set_option maxRecDepth 20000 in
theorem gX3_accepts_X3_acceptsRestOfSet : GoodIn wsX3_accepts (wsV RX3 66 RX3 yX3_acceptsRestOfSet wsX3_acceptsRestOfSet) := goodIn_app (goodIn_of _ (by decide +kernel)) ggX3_accepts_X3_acceptsRestOfSet
theorem dX3_accepts_0 : decode cX3_accepts 0 = .ok (.aload_n 0, 1) := by decide +kernel
theorem dX3_accepts_1 : decode cX3_accepts 1 = .ok (.getfield 23, 3) := by decide +kernel
theorem dX3_accepts_4 : decode cX3_accepts 4 = .ok (.tableswitch 56 0 3 #[32, 38, 44, 50], 32) := by decide +kernel
theorem dX3_accepts_36 : decode cX3_accepts 36 = .ok (.aload_n 0, 1) := by decide +kernel
theorem dX3_accepts_37 : decode cX3_accepts 37 = .ok (.iload_n 1, 1) := by decide +kernel
theorem dX3_accepts_38 : decode cX3_accepts 38 = .ok (.invokevirtual 54, 3) := by decide +kernel
theorem dX3_accepts_41 : decode cX3_accepts 41 = .ok (.ireturn, 1) := by decide +kernel
theorem dX3_accepts_42 : decode cX3_accepts 42 = .ok (.aload_n 0, 1) := by decide +kernel
theorem dX3_accepts_43 : decode cX3_accepts 43 = .ok (.iload_n 1, 1) := by decide +kernel
theorem dX3_accepts_44 : decode cX3_accepts 44 = .ok (.invokevirtual 57, 3) := by decide +kernel
theorem dX3_accepts_47 : decode cX3_accepts 47 = .ok (.ireturn, 1) := by decide +kernel
theorem dX3_accepts_48 : decode cX3_accepts 48 = .ok (.aload_n 0, 1) := by decide +kernel
theorem dX3_accepts_49 : decode cX3_accepts 49 = .ok (.iload_n 1, 1) := by decide +kernel
theorem dX3_accepts_50 : decode cX3_accepts 50 = .ok (.invokevirtual 60, 3) := by decide +kernel
theorem dX3_accepts_53 : decode cX3_accepts 53 = .ok (.ireturn, 1) := by decide +kernel
theorem dX3_accepts_54 : decode cX3_accepts 54 = .ok (.aload_n 0, 1) := by decide +kernel
theorem dX3_accepts_55 : decode cX3_accepts 55 = .ok (.iload_n 1, 1) := by decide +kernel
theorem dX3_accepts_56 : decode cX3_accepts 56 = .ok (.invokevirtual 63, 3) := by decide +kernel
theorem dX3_accepts_59 : decode cX3_accepts 59 = .ok (.ireturn, 1) := by decide +kernel
theorem dX3_accepts_60 : decode cX3_accepts 60 = .ok (.aload_n 0, 1) := by decide +kernel
theorem dX3_accepts_61 : decode cX3_accepts 61 = .ok (.iload_n 1, 1) := by decide +kernel
theorem dX3_accepts_62 : decode cX3_accepts 62 = .ok (.invokevirtual 66, 3) := by decide +kernel
theorem dX3_accepts_65 : decode cX3_accepts 65 = .ok (.ireturn, 1) := by decide +kernel
set_option maxRecDepth 20000 in
theorem ggX3_acceptsBeginning_X3_acceptsPlace : GoodIn wsX3_acceptsBeginning wsX3_acceptsPlace := goodIn_r _ [7, 8, 9, 2, 10, 11, 12, 13, 14, 15, 16, 17, 6, 18, 19, 20, 21, 22, 23, 24, 25, 26, 27] (by decide +kernel) (by decide +kernel)
set_option maxRecDepth 20000 in
theorem gX3_acceptsBeginning_X3_acceptsPlace : GoodIn wsX3_acceptsBeginning (wsV RX3 57 RX3 yX3_acceptsPlace wsX3_acceptsPlace) := goodIn_app (goodIn_of _ (by decide +kernel)) ggX3_acceptsBeginning_X3_acceptsPlace
theorem dX3_acceptsBeginning_0 : decode cX3_acceptsBeginning 0 = .ok (.iload_n 1, 1) := by decide +kernel
theorem dX3_acceptsBeginning_1 : decode cX3_acceptsBeginning 1 = .ok (.bipush 94, 2) := by decide +kernel
theorem dX3_acceptsBeginning_3 : decode cX3_acceptsBeginning 3 = .ok (.if_icmp .eq 9, 3) := by decide +kernel
theorem dX3_acceptsBeginning_6 : decode cX3_acceptsBeginning 6 = .ok (.aload_n 0, 1) := by decide +kernel
theorem dX3_acceptsBeginning_7 : decode cX3_acceptsBeginning 7 = .ok (.iload_n 1, 1) := by decide +kernel
theorem dX3_acceptsBeginning_8 : decode cX3_acceptsBeginning 8 = .ok (.invokevirtual 57, 3) := by decide +kernel
theorem dX3_acceptsBeginning_11 : decode cX3_acceptsBeginning 11 = .ok (.ireturn, 1) := by decide +kernel
theorem dX3_acceptsBeginning_12 : decode cX3_acceptsBeginning 12 = .ok (.aload_n 0, 1) := by decide +kernel
theorem dX3_acceptsBeginning_13 : decode cX3_acceptsBeginning 13 = .ok (.iconst 1, 1) := by decide +kernel
theorem dX3_acceptsBeginning_14 : decode cX3_acceptsBeginning 14 = .ok (.putfield 19, 3) := by decide +kernel
theorem dX3_acceptsBeginning_17 : decode cX3_acceptsBeginning 17 = .ok (.aload_n 0, 1) := by decide +kernel
theorem dX3_acceptsBeginning_18 : decode cX3_acceptsBeginning 18 = .ok (.iconst 1, 1) := by decide +kernel
theorem dX3_acceptsBeginning_19 : decode cX3_acceptsBeginning 19 = .ok (.putfield 23, 3) := by decide +kernel
theorem dX3_acceptsBeginning_22 : decode cX3_acceptsBeginning 22 = .ok (.iconst 1, 1) := by decide +kernel
theorem dX3_acceptsBeginning_23 : decode cX3_acceptsBeginning 23 = .ok (.ireturn, 1) := by decide +kernel
set_option maxRecDepth 20000 in
theorem ggX3_acceptsPlace_X7_isLetter : GoodIn wsX3_acceptsPlace wsX7_isLetter := goodIn_r _ [8] (by decide +kernel) (by decide +kernel)
set_option maxRecDepth 20000 in
theorem gX3_acceptsPlace_X7_isLetter_n69 : GoodIn wsX3_acceptsPlace (wsX7_isLetter) := ggX3_acceptsPlace_X7_isLetter
set_option maxRecDepth 20000 in
theorem ggX3_acceptsPlace_X3_addPlace : GoodIn wsX3_acceptsPlace wsX3_addPlace := goodIn_r _ [13, 14, 15, 3, 16, 17, 18, 19, 20, 21, 22] (by decide +kernel) (by decide +kernel)
set_option maxRecDepth 20000 in
theorem gX3_acceptsPlace_X3_addPlace : GoodIn wsX3_acceptsPlace (wsV RX3 72 RX3 yX3_addPlace wsX3_addPlace) := goodIn_app (goodIn_of _ (by decide +kernel)) ggX3_acceptsPlace_X3_addPlace
theorem dX3_acceptsPlace_0 : decode cX3_acceptsPlace 0 = .ok (.iload_n 1, 1) := by decide +kernel
theorem dX3_acceptsPlace_1 : decode cX3_acceptsPlace 1 = .ok (.bipush 91, 2) := by decide +kernel
theorem dX3_acceptsPlace_3 : decode cX3_acceptsPlace 3 = .ok (.if_icmp .ne 20, 3) := by decide +kernel
theorem dX3_acceptsPlace_6 : decode cX3_acceptsPlace 6 = .ok (.aload_n 0, 1) := by decide +kernel
theorem dX3_acceptsPlace_7 : decode cX3_acceptsPlace 7 = .ok (.iconst 0, 1) := by decide +kernel
theorem dX3_acceptsPlace_8 : decode cX3_acceptsPlace 8 = .ok (.putfield 29, 3) := by decide +kernel
theorem dX3_acceptsPlace_11 : decode cX3_acceptsPlace 11 = .ok (.aload_n 0, 1) := by decide +kernel
theorem dX3_acceptsPlace_12 : decode cX3_acceptsPlace 12 = .ok (.iconst 0, 1) := by decide +kernel
theorem dX3_acceptsPlace_13 : decode cX3_acceptsPlace 13 = .ok (.putfield 26, 3) := by decide +kernel
theorem dX3_acceptsPlace_16 : decode cX3_acceptsPlace 16 = .ok (.aload_n 0, 1) := by decide +kernel
theorem dX3_acceptsPlace_17 : decode cX3_acceptsPlace 17 = .ok (.iconst 2, 1) := by decide +kernel
theorem dX3_acceptsPlace_18 : decode cX3_acceptsPlace 18 = .ok (.putfield 23, 3) := by decide +kernel
theorem dX3_acceptsPlace_21 : decode cX3_acceptsPlace 21 = .ok (.iconst 1, 1) := by decide +kernel
theorem dX3_acceptsPlace_22 : decode cX3_acceptsPlace 22 = .ok (.ireturn, 1) := by decide +kernel
theorem dX3_acceptsPlace_23 : decode cX3_acceptsPlace 23 = .ok (.iload_n 1, 1) := by decide +kernel
theorem dX3_acceptsPlace_24 : decode cX3_acceptsPlace 24 = .ok (.invokestatic 69, 3) := by decide +kernel
theorem dX3_acceptsPlace_27 : decode cX3_acceptsPlace 27 = .ok (.ifCond .eq 15, 3) := by decide +kernel
theorem dX3_acceptsPlace_30 : decode cX3_acceptsPlace 30 = .ok (.aload_n 0, 1) := by decide +kernel
theorem dX3_acceptsPlace_31 : decode cX3_acceptsPlace 31 = .ok (.iconst 1, 1) := by decide +kernel
theorem dX3_acceptsPlace_32 : decode cX3_acceptsPlace 32 = .ok (.iload_n 1, 1) := by decide +kernel
theorem dX3_acceptsPlace_33 : decode cX3_acceptsPlace 33 = .ok (.bipush 97, 2) := by decide +kernel
theorem dX3_acceptsPlace_35 : decode cX3_acceptsPlace 35 = .ok (.isub, 1) := by decide +kernel
theorem dX3_acceptsPlace_36 : decode cX3_acceptsPlace 36 = .ok (.ishl, 1) := by decide +kernel
theorem dX3_acceptsPlace_37 : decode cX3_acceptsPlace 37 = .ok (.invokevirtual 72, 3) := by decide +kernel
theorem dX3_acceptsPlace_40 : decode cX3_acceptsPlace 40 = .ok (.iconst 1, 1) := by decide +kernel
theorem dX3_acceptsPlace_41 : decode cX3_acceptsPlace 41 = .ok (.ireturn, 1) := by decide +kernel
theorem dX3_acceptsPlace_42 : decode cX3_acceptsPlace 42 = .ok (.iload_n 1, 1) := by decide +kernel
theorem dX3_acceptsPlace_43 : decode cX3_acceptsPlace 43 = .ok (.bipush 46, 2) := by decide +kernel
theorem dX3_acceptsPlace_45 : decode cX3_acceptsPlace 45 = .ok (.if_icmp .ne 11, 3) := by decide +kernel
theorem dX3_acceptsPlace_48 : decode cX3_acceptsPlace 48 = .ok (.aload_n 0, 1) := by decide +kernel
theorem dX3_acceptsPlace_49 : decode cX3_acceptsPlace 49 = .ok (.ldc 76, 2) := by decide +kernel
theorem dX3_acceptsPlace_51 : decode cX3_acceptsPlace 51 = .ok (.invokevirtual 72, 3) := by decide +kernel
theorem dX3_acceptsPlace_54 : decode cX3_acceptsPlace 54 = .ok (.iconst 1, 1) := by decide +kernel
theorem dX3_acceptsPlace_55 : decode cX3_acceptsPlace 55 = .ok (.ireturn, 1) := by decide +kernel
theorem dX3_acceptsPlace_56 : decode cX3_acceptsPlace 56 = .ok (.iload_n 1, 1) := by decide +kernel
theorem dX3_acceptsPlace_57 : decode cX3_acceptsPlace 57 = .ok (.bipush 95, 2) := by decide +kernel
theorem dX3_acceptsPlace_59 : decode cX3_acceptsPlace 59 = .ok (.if_icmp .ne 11, 3) := by decide +kernel
theorem dX3_acceptsPlace_62 : decode cX3_acceptsPlace 62 = .ok (.aload_n 0, 1) := by decide +kernel
theorem dX3_acceptsPlace_63 : decode cX3_acceptsPlace 63 = .ok (.ldc 77, 2) := by decide +kernel
theorem dX3_acceptsPlace_65 : decode cX3_acceptsPlace 65 = .ok (.invokevirtual 72, 3) := by decide +kernel
theorem dX3_acceptsPlace_68 : decode cX3_acceptsPlace 68 = .ok (.iconst 1, 1) := by decide +kernel
theorem dX3_acceptsPlace_69 : decode cX3_acceptsPlace 69 = .ok (.ireturn, 1) := by decide +kernel
theorem dX3_acceptsPlace_70 : decode cX3_acceptsPlace 70 = .ok (.iconst 0, 1) := by decide +kernel
theorem dX3_acceptsPlace_71 : decode cX3_acceptsPlace 71 = .ok (.ireturn, 1) := by decide +kernel
set_option maxRecDepth 20000 in
theorem ggX3_acceptsFirstOfSet_X3_acceptsLetterOfSet : GoodIn wsX3_acceptsFirstOfSet wsX3_acceptsLetterOfSet := goodIn_r _ [7, 8, 9, 2, 10, 11, 12, 13, 14, 15, 16, 17, 18, 19] (by decide +kernel) (by decide +kernel)
set_option maxRecDepth 20000 in
theorem gX3_acceptsFirstOfSet_X3_acceptsLetterOfSet : GoodIn wsX3_acceptsFirstOfSet (wsV RX3 63 RX3 yX3_acceptsLetterOfSet wsX3_acceptsLetterOfSet) := goodIn_app (goodIn_of _ (by decide +kernel)) ggX3_acceptsFirstOfSet_X3_acceptsLetterOfSet
theorem dX3_acceptsFirstOfSet_0 : decode cX3_acceptsFirstOfSet 0 = .ok (.iload_n 1, 1) := by decide +kernel
theorem dX3_acceptsFirstOfSet_1 : decode cX3_acceptsFirstOfSet 1 = .ok (.bipush 45, 2) := by decide +kernel
theorem dX3_acceptsFirstOfSet_3 : decode cX3_acceptsFirstOfSet 3 = .ok (.if_icmp .eq 9, 3) := by decide +kernel
theorem dX3_acceptsFirstOfSet_6 : decode cX3_acceptsFirstOfSet 6 = .ok (.aload_n 0, 1) := by decide +kernel
theorem dX3_acceptsFirstOfSet_7 : decode cX3_acceptsFirstOfSet 7 = .ok (.iload_n 1, 1) := by decide +kernel
theorem dX3_acceptsFirstOfSet_8 : decode cX3_acceptsFirstOfSet 8 = .ok (.invokevirtual 63, 3) := by decide +kernel
theorem dX3_acceptsFirstOfSet_11 : decode cX3_acceptsFirstOfSet 11 = .ok (.ireturn, 1) := by decide +kernel
theorem dX3_acceptsFirstOfSet_12 : decode cX3_acceptsFirstOfSet 12 = .ok (.aload_n 0, 1) := by decide +kernel
theorem dX3_acceptsFirstOfSet_13 : decode cX3_acceptsFirstOfSet 13 = .ok (.iconst 1, 1) := by decide +kernel
theorem dX3_acceptsFirstOfSet_14 : decode cX3_acceptsFirstOfSet 14 = .ok (.putfield 26, 3) := by decide +kernel
theorem dX3_acceptsFirstOfSet_17 : decode cX3_acceptsFirstOfSet 17 = .ok (.aload_n 0, 1) := by decide +kernel
theorem dX3_acceptsFirstOfSet_18 : decode cX3_acceptsFirstOfSet 18 = .ok (.iconst 3, 1) := by decide +kernel
theorem dX3_acceptsFirstOfSet_19 : decode cX3_acceptsFirstOfSet 19 = .ok (.putfield 23, 3) := by decide +kernel
theorem dX3_acceptsFirstOfSet_22 : decode cX3_acceptsFirstOfSet 22 = .ok (.iconst 1, 1) := by decide +kernel
theorem dX3_acceptsFirstOfSet_23 : decode cX3_acceptsFirstOfSet 23 = .ok (.ireturn, 1) := by decide +kernel
set_option maxRecDepth 20000 in
theorem ggX3_acceptsLetterOfSet_X7_isLetter : GoodIn wsX3_acceptsLetterOfSet wsX7_isLetter := goodIn_r _ [6] (by decide +kernel) (by decide +kernel)
set_option maxRecDepth 20000 in
theorem gX3_acceptsLetterOfSet_X7_isLetter_n69 : GoodIn wsX3_acceptsLetterOfSet (wsX7_isLetter) := ggX3_acceptsLetterOfSet_X7_isLetter
theorem dX3_acceptsLetterOfSet_0 : decode cX3_acceptsLetterOfSet 0 = .ok (.iload_n 1, 1) := by decide +kernel
theorem dX3_acceptsLetterOfSet_1 : decode cX3_acceptsLetterOfSet 1 = .ok (.invokestatic 69, 3) := by decide +kernel
theorem dX3_acceptsLetterOfSet_4 : decode cX3_acceptsLetterOfSet 4 = .ok (.ifCond .eq 18, 3) := by decide +kernel
theorem dX3_acceptsLetterOfSet_7 : decode cX3_acceptsLetterOfSet 7 = .ok (.aload_n 0, 1) := by decide +kernel
theorem dX3_acceptsLetterOfSet_8 : decode cX3_acceptsLetterOfSet 8 = .ok (.getfield 29, 3) := by decide +kernel
theorem dX3_acceptsLetterOfSet_11 : decode cX3_acceptsLetterOfSet 11 = .ok (.ifCond .eq 13, 3) := by decide +kernel
theorem dX3_acceptsLetterOfSet_14 : decode cX3_acceptsLetterOfSet 14 = .ok (.iload_n 1, 1) := by decide +kernel
theorem dX3_acceptsLetterOfSet_15 : decode cX3_acceptsLetterOfSet 15 = .ok (.aload_n 0, 1) := by decide +kernel
theorem dX3_acceptsLetterOfSet_16 : decode cX3_acceptsLetterOfSet 16 = .ok (.getfield 32, 3) := by decide +kernel
theorem dX3_acceptsLetterOfSet_19 : decode cX3_acceptsLetterOfSet 19 = .ok (.if_icmp .gt 5, 3) := by decide +kernel
theorem dX3_acceptsLetterOfSet_22 : decode cX3_acceptsLetterOfSet 22 = .ok (.iconst 0, 1) := by decide +kernel
theorem dX3_acceptsLetterOfSet_23 : decode cX3_acceptsLetterOfSet 23 = .ok (.ireturn, 1) := by decide +kernel
theorem dX3_acceptsLetterOfSet_24 : decode cX3_acceptsLetterOfSet 24 = .ok (.aload_n 0, 1) := by decide +kernel
theorem dX3_acceptsLetterOfSet_25 : decode cX3_acceptsLetterOfSet 25 = .ok (.dup, 1) := by decide +kernel
theorem dX3_acceptsLetterOfSet_26 : decode cX3_acceptsLetterOfSet 26 = .ok (.getfield 29, 3) := by decide +kernel
theorem dX3_acceptsLetterOfSet_29 : decode cX3_acceptsLetterOfSet 29 = .ok (.iconst 1, 1) := by decide +kernel
theorem dX3_acceptsLetterOfSet_30 : decode cX3_acceptsLetterOfSet 30 = .ok (.iload_n 1, 1) := by decide +kernel
theorem dX3_acceptsLetterOfSet_31 : decode cX3_acceptsLetterOfSet 31 = .ok (.bipush 97, 2) := by decide +kernel
theorem dX3_acceptsLetterOfSet_33 : decode cX3_acceptsLetterOfSet 33 = .ok (.isub, 1) := by decide +kernel
theorem dX3_acceptsLetterOfSet_34 : decode cX3_acceptsLetterOfSet 34 = .ok (.ishl, 1) := by decide +kernel
theorem dX3_acceptsLetterOfSet_35 : decode cX3_acceptsLetterOfSet 35 = .ok (.ior, 1) := by decide +kernel
theorem dX3_acceptsLetterOfSet_36 : decode cX3_acceptsLetterOfSet 36 = .ok (.putfield 29, 3) := by decide +kernel
theorem dX3_acceptsLetterOfSet_39 : decode cX3_acceptsLetterOfSet 39 = .ok (.aload_n 0, 1) := by decide +kernel
theorem dX3_acceptsLetterOfSet_40 : decode cX3_acceptsLetterOfSet 40 = .ok (.iload_n 1, 1) := by decide +kernel
theorem dX3_acceptsLetterOfSet_41 : decode cX3_acceptsLetterOfSet 41 = .ok (.putfield 32, 3) := by decide +kernel
theorem dX3_acceptsLetterOfSet_44 : decode cX3_acceptsLetterOfSet 44 = .ok (.aload_n 0, 1) := by decide +kernel
theorem dX3_acceptsLetterOfSet_45 : decode cX3_acceptsLetterOfSet 45 = .ok (.iconst 4, 1) := by decide +kernel
theorem dX3_acceptsLetterOfSet_46 : decode cX3_acceptsLetterOfSet 46 = .ok (.putfield 23, 3) := by decide +kernel
theorem dX3_acceptsLetterOfSet_49 : decode cX3_acceptsLetterOfSet 49 = .ok (.iconst 1, 1) := by decide +kernel
theorem dX3_acceptsLetterOfSet_50 : decode cX3_acceptsLetterOfSet 50 = .ok (.ireturn, 1) := by decide +kernel
set_option maxRecDepth 20000 in
theorem ggX3_acceptsRestOfSet_X3_acceptsLetterOfSet : GoodIn wsX3_acceptsRestOfSet wsX3_acceptsLetterOfSet := goodIn_r _ [8, 3, 9, 10, 11, 12, 13, 20, 21, 22, 23, 24, 25, 26] (by decide +kernel) (by decide +kernel)
set_option maxRecDepth 20000 in
theorem gX3_acceptsRestOfSet_X3_acceptsLetterOfSet : GoodIn wsX3_acceptsRestOfSet (wsV RX3 63 RX3 yX3_acceptsLetterOfSet wsX3_acceptsLetterOfSet) := goodIn_app (goodIn_of _ (by decide +kernel)) ggX3_acceptsRestOfSet_X3_acceptsLetterOfSet
set_option maxRecDepth 20000 in
theorem ggX3_acceptsRestOfSet_X3_addPlace : GoodIn wsX3_acceptsRestOfSet wsX3_addPlace := goodIn_r _ [17, 18, 19, 10, 20, 21, 22, 23, 24, 25, 26] (by decide +kernel) (by decide +kernel)
set_option maxRecDepth 20000 in
theorem gX3_acceptsRestOfSet_X3_addPlace : GoodIn wsX3_acceptsRestOfSet (wsV RX3 72 RX3 yX3_addPlace wsX3_addPlace) := goodIn_app (goodIn_of _ (by decide +kernel)) ggX3_acceptsRestOfSet_X3_addPlace
theorem dX3_acceptsRestOfSet_0 : decode cX3_acceptsRestOfSet 0 = .ok (.iload_n 1, 1) := by decide +kernel
theorem dX3_acceptsRestOfSet_1 : decode cX3_acceptsRestOfSet 1 = .ok (.bipush 93, 2) := by decide +kernel
theorem dX3_acceptsRestOfSet_3 : decode cX3_acceptsRestOfSet 3 = .ok (.if_icmp .eq 9, 3) := by decide +kernel
theorem dX3_acceptsRestOfSet_6 : decode cX3_acceptsRestOfSet 6 = .ok (.aload_n 0, 1) := by decide +kernel
theorem dX3_acceptsRestOfSet_7 : decode cX3_acceptsRestOfSet 7 = .ok (.iload_n 1, 1) := by decide +kernel
theorem dX3_acceptsRestOfSet_8 : decode cX3_acceptsRestOfSet 8 = .ok (.invokevirtual 63, 3) := by decide +kernel
theorem dX3_acceptsRestOfSet_11 : decode cX3_acceptsRestOfSet 11 = .ok (.ireturn, 1) := by decide +kernel
theorem dX3_acceptsRestOfSet_12 : decode cX3_acceptsRestOfSet 12 = .ok (.aload_n 0, 1) := by decide +kernel
theorem dX3_acceptsRestOfSet_13 : decode cX3_acceptsRestOfSet 13 = .ok (.aload_n 0, 1) := by decide +kernel
theorem dX3_acceptsRestOfSet_14 : decode cX3_acceptsRestOfSet 14 = .ok (.getfield 26, 3) := by decide +kernel
theorem dX3_acceptsRestOfSet_17 : decode cX3_acceptsRestOfSet 17 = .ok (.ifCond .eq 15, 3) := by decide +kernel
theorem dX3_acceptsRestOfSet_20 : decode cX3_acceptsRestOfSet 20 = .ok (.ldc 78, 2) := by decide +kernel
theorem dX3_acceptsRestOfSet_22 : decode cX3_acceptsRestOfSet 22 = .ok (.aload_n 0, 1) := by decide +kernel
theorem dX3_acceptsRestOfSet_23 : decode cX3_acceptsRestOfSet 23 = .ok (.getfield 29, 3) := by decide +kernel
theorem dX3_acceptsRestOfSet_26 : decode cX3_acceptsRestOfSet 26 = .ok (.iconst (-1), 1) := by decide +kernel
theorem dX3_acceptsRestOfSet_27 : decode cX3_acceptsRestOfSet 27 = .ok (.ixor, 1) := by decide +kernel
theorem dX3_acceptsRestOfSet_28 : decode cX3_acceptsRestOfSet 28 = .ok (.iand, 1) := by decide +kernel
theorem dX3_acceptsRestOfSet_29 : decode cX3_acceptsRestOfSet 29 = .ok (.goto 7, 3) := by decide +kernel
theorem dX3_acceptsRestOfSet_32 : decode cX3_acceptsRestOfSet 32 = .ok (.aload_n 0, 1) := by decide +kernel
theorem dX3_acceptsRestOfSet_33 : decode cX3_acceptsRestOfSet 33 = .ok (.getfield 29, 3) := by decide +kernel
theorem dX3_acceptsRestOfSet_36 : decode cX3_acceptsRestOfSet 36 = .ok (.invokevirtual 72, 3) := by decide +kernel
theorem dX3_acceptsRestOfSet_39 : decode cX3_acceptsRestOfSet 39 = .ok (.iconst 1, 1) := by decide +kernel
theorem dX3_acceptsRestOfSet_40 : decode cX3_acceptsRestOfSet 40 = .ok (.ireturn, 1) := by decide +kernel
theorem dX3_addPlace_0 : decode cX3_addPlace 0 = .ok (.aload_n 0, 1) := by decide +kernel
theorem dX3_addPlace_1 : decode cX3_addPlace 1 = .ok (.getfield 15, 3) := by decide +kernel
theorem dX3_addPlace_4 : decode cX3_addPlace 4 = .ok (.ifCond .lt 32, 3) := by decide +kernel
theorem dX3_addPlace_7 : decode cX3_addPlace 7 = .ok (.aload_n 0, 1) := by decide +kernel
theorem dX3_addPlace_8 : decode cX3_addPlace 8 = .ok (.getfield 15, 3) := by decide +kernel
theorem dX3_addPlace_11 : decode cX3_addPlace 11 = .ok (.bipush 60, 2) := by decide +kernel
theorem dX3_addPlace_13 : decode cX3_addPlace 13 = .ok (.if_icmp .ge 23, 3) := by decide +kernel
theorem dX3_addPlace_16 : decode cX3_addPlace 16 = .ok (.aload_n 0, 1) := by decide +kernel
theorem dX3_addPlace_17 : decode cX3_addPlace 17 = .ok (.getfield 9, 3) := by decide +kernel
theorem dX3_addPlace_20 : decode cX3_addPlace 20 = .ok (.aload_n 0, 1) := by decide +kernel
theorem dX3_addPlace_21 : decode cX3_addPlace 21 = .ok (.getfield 15, 3) := by decide +kernel
theorem dX3_addPlace_24 : decode cX3_addPlace 24 = .ok (.iload_n 1, 1) := by decide +kernel
theorem dX3_addPlace_25 : decode cX3_addPlace 25 = .ok (.iastore, 1) := by decide +kernel
theorem dX3_addPlace_26 : decode cX3_addPlace 26 = .ok (.aload_n 0, 1) := by decide +kernel
theorem dX3_addPlace_27 : decode cX3_addPlace 27 = .ok (.dup, 1) := by decide +kernel
theorem dX3_addPlace_28 : decode cX3_addPlace 28 = .ok (.getfield 15, 3) := by decide +kernel
theorem dX3_addPlace_31 : decode cX3_addPlace 31 = .ok (.iconst 1, 1) := by decide +kernel
theorem dX3_addPlace_32 : decode cX3_addPlace 32 = .ok (.iadd, 1) := by decide +kernel
theorem dX3_addPlace_33 : decode cX3_addPlace 33 = .ok (.putfield 15, 3) := by decide +kernel
theorem dX3_addPlace_36 : decode cX3_addPlace 36 = .ok (.aload_n 0, 1) := by decide +kernel
theorem dX3_addPlace_37 : decode cX3_addPlace 37 = .ok (.iconst 1, 1) := by decide +kernel
theorem dX3_addPlace_38 : decode cX3_addPlace 38 = .ok (.putfield 23, 3) := by decide +kernel
theorem dX3_addPlace_41 : decode cX3_addPlace 41 = .ok (.return_, 1) := by decide +kernel
theorem dX4_init_0 : decode cX4_init 0 = .ok (.aload_n 0, 1) := by decide +kernel
theorem dX4_init_1 : decode cX4_init 1 = .ok (.invokespecial 3, 3) := by decide +kernel
theorem dX4_init_4 : decode cX4_init 4 = .ok (.aload_n 0, 1) := by decide +kernel
theorem dX4_init_5 : decode cX4_init 5 = .ok (.iconst 5, 1) := by decide +kernel
theorem dX4_init_6 : decode cX4_init 6 = .ok (.newarray .long, 2) := by decide +kernel
theorem dX4_init_8 : decode cX4_init 8 = .ok (.putfield 9, 3) := by decide +kernel
theorem dX4_init_11 : decode cX4_init 11 = .ok (.aload_n 0, 1) := by decide +kernel
theorem dX4_init_12 : decode cX4_init 12 = .ok (.bipush 61, 2) := by decide +kernel
theorem dX4_init_14 : decode cX4_init 14 = .ok (.newarray .int, 2) := by decide +kernel
theorem dX4_init_16 : decode cX4_init 16 = .ok (.putfield 15, 3) := by decide +kernel
theorem dX4_init_19 : decode cX4_init 19 = .ok (.aload_n 0, 1) := by decide +kernel
theorem dX4_init_20 : decode cX4_init 20 = .ok (.bipush 121, 2) := by decide +kernel
theorem dX4_init_22 : decode cX4_init 22 = .ok (.newarray .int, 2) := by decide +kernel
theorem dX4_init_24 : decode cX4_init 24 = .ok (.putfield 19, 3) := by decide +kernel
theorem dX4_init_27 : decode cX4_init 27 = .ok (.aload_n 0, 1) := by decide +kernel
theorem dX4_init_28 : decode cX4_init 28 = .ok (.bipush 121, 2) := by decide +kernel
theorem dX4_init_30 : decode cX4_init 30 = .ok (.newarray .int, 2) := by decide +kernel
theorem dX4_init_32 : decode cX4_init 32 = .ok (.putfield 22, 3) := by decide +kernel
theorem dX4_init_35 : decode cX4_init 35 = .ok (.aload_n 0, 1) := by decide +kernel
theorem dX4_init_36 : decode cX4_init 36 = .ok (.bipush 121, 2) := by decide +kernel
theorem dX4_init_38 : decode cX4_init 38 = .ok (.newarray .boolean, 2) := by decide +kernel
theorem dX4_init_40 : decode cX4_init 40 = .ok (.putfield 25, 3) := by decide +kernel
theorem dX4_init_43 : decode cX4_init 43 = .ok (.aload_n 0, 1) := by decide +kernel
theorem dX4_init_44 : decode cX4_init 44 = .ok (.bipush 120, 2) := by decide +kernel
theorem dX4_init_46 : decode cX4_init 46 = .ok (.newarray .char, 2) := by decide +kernel
theorem dX4_init_48 : decode cX4_init 48 = .ok (.putfield 29, 3) := by decide +kernel
theorem dX4_init_51 : decode cX4_init 51 = .ok (.aload_n 0, 1) := by decide +kernel
theorem dX4_init_52 : decode cX4_init 52 = .ok (.bipush 121, 2) := by decide +kernel
theorem dX4_init_54 : decode cX4_init 54 = .ok (.newarray .int, 2) := by decide +kernel
theorem dX4_init_56 : decode cX4_init 56 = .ok (.putfield 33, 3) := by decide +kernel
theorem dX4_init_59 : decode cX4_init 59 = .ok (.aload_n 0, 1) := by decide +kernel
theorem dX4_init_60 : decode cX4_init 60 = .ok (.iconst 0, 1) := by decide +kernel
theorem dX4_init_61 : decode cX4_init 61 = .ok (.putfield 36, 3) := by decide +kernel
theorem dX4_init_64 : decode cX4_init 64 = .ok (.return_, 1) := by decide +kernel
set_option maxRecDepth 20000 in
theorem ggX4_findEnds_X4_openColumns : GoodIn wsX4_findEnds wsX4_openColumns := goodIn_r _ [6, 7, 8, 9, 5, 10, 11, 51, 52, 53, 54, 55, 43, 44, 45, 46, 47, 48, 49, 50, 56, 57, 58, 59] (by decide +kernel) (by decide +kernel)
set_option maxRecDepth 20000 in
theorem gX4_findEnds_X4_openColumns : GoodIn wsX4_findEnds (wsV RX4 40 RX4 yX4_openColumns wsX4_openColumns) := goodIn_app (goodIn_of _ (by decide +kernel)) ggX4_findEnds_X4_openColumns
set_option maxRecDepth 20000 in
theorem ggX4_findEnds_X4_noteEnd : GoodIn wsX4_findEnds wsX4_noteEnd := goodIn_r _ [15, 16, 1, 17, 18, 19, 20, 5, 21, 7, 43, 44, 45, 46, 47, 48, 49, 50, 51, 52, 53, 54, 55, 56, 57, 58, 59] (by decide +kernel) (by decide +kernel)
set_option maxRecDepth 20000 in
theorem gX4_findEnds_X4_noteEnd : GoodIn wsX4_findEnds (wsV RX4 44 RX4 yX4_noteEnd wsX4_noteEnd) := goodIn_app (goodIn_of _ (by decide +kernel)) ggX4_findEnds_X4_noteEnd
set_option maxRecDepth 20000 in
theorem ggX4_findEnds_X4_stepColumns : GoodIn wsX4_findEnds wsX4_stepColumns := goodIn_r _ [25, 7, 26, 27, 28, 29, 30, 31, 32, 33, 34, 35, 36, 37, 38, 39, 40, 41, 42, 8, 9, 5, 10, 11, 51, 52, 53, 54, 55, 43, 44, 45, 46, 47, 48, 49, 50, 56, 57, 58, 59] (by decide +kernel) (by decide +kernel)
set_option maxRecDepth 20000 in
theorem gX4_findEnds_X4_stepColumns : GoodIn wsX4_findEnds (wsV RX4 53 RX4 yX4_stepColumns wsX4_stepColumns) := goodIn_app (goodIn_of _ (by decide +kernel)) ggX4_findEnds_X4_stepColumns
theorem dX4_findEnds_0 : decode cX4_findEnds 0 = .ok (.aload_n 0, 1) := by decide +kernel
theorem dX4_findEnds_1 : decode cX4_findEnds 1 = .ok (.iconst 0, 1) := by decide +kernel
theorem dX4_findEnds_2 : decode cX4_findEnds 2 = .ok (.putfield 36, 3) := by decide +kernel
theorem dX4_findEnds_5 : decode cX4_findEnds 5 = .ok (.aload_n 0, 1) := by decide +kernel
theorem dX4_findEnds_6 : decode cX4_findEnds 6 = .ok (.aload_n 1, 1) := by decide +kernel
theorem dX4_findEnds_7 : decode cX4_findEnds 7 = .ok (.aload_n 2, 1) := by decide +kernel
theorem dX4_findEnds_8 : decode cX4_findEnds 8 = .ok (.invokevirtual 40, 3) := by decide +kernel
theorem dX4_findEnds_11 : decode cX4_findEnds 11 = .ok (.aload_n 0, 1) := by decide +kernel
theorem dX4_findEnds_12 : decode cX4_findEnds 12 = .ok (.aload_n 1, 1) := by decide +kernel
theorem dX4_findEnds_13 : decode cX4_findEnds 13 = .ok (.aload_n 2, 1) := by decide +kernel
theorem dX4_findEnds_14 : decode cX4_findEnds 14 = .ok (.iconst 0, 1) := by decide +kernel
theorem dX4_findEnds_15 : decode cX4_findEnds 15 = .ok (.invokevirtual 44, 3) := by decide +kernel
theorem dX4_findEnds_18 : decode cX4_findEnds 18 = .ok (.iconst 1, 1) := by decide +kernel
theorem dX4_findEnds_19 : decode cX4_findEnds 19 = .ok (.istore_n 3, 1) := by decide +kernel
theorem dX4_findEnds_20 : decode cX4_findEnds 20 = .ok (.iload_n 3, 1) := by decide +kernel
theorem dX4_findEnds_21 : decode cX4_findEnds 21 = .ok (.aload_n 1, 1) := by decide +kernel
theorem dX4_findEnds_22 : decode cX4_findEnds 22 = .ok (.getfield 48, 3) := by decide +kernel
theorem dX4_findEnds_25 : decode cX4_findEnds 25 = .ok (.if_icmp .gt 29, 3) := by decide +kernel
theorem dX4_findEnds_28 : decode cX4_findEnds 28 = .ok (.iload_n 3, 1) := by decide +kernel
theorem dX4_findEnds_29 : decode cX4_findEnds 29 = .ok (.bipush 120, 2) := by decide +kernel
theorem dX4_findEnds_31 : decode cX4_findEnds 31 = .ok (.if_icmp .gt 23, 3) := by decide +kernel
theorem dX4_findEnds_34 : decode cX4_findEnds 34 = .ok (.aload_n 0, 1) := by decide +kernel
theorem dX4_findEnds_35 : decode cX4_findEnds 35 = .ok (.aload_n 1, 1) := by decide +kernel
theorem dX4_findEnds_36 : decode cX4_findEnds 36 = .ok (.aload_n 2, 1) := by decide +kernel
theorem dX4_findEnds_37 : decode cX4_findEnds 37 = .ok (.iload_n 3, 1) := by decide +kernel
theorem dX4_findEnds_38 : decode cX4_findEnds 38 = .ok (.invokevirtual 53, 3) := by decide +kernel
theorem dX4_findEnds_41 : decode cX4_findEnds 41 = .ok (.aload_n 0, 1) := by decide +kernel
theorem dX4_findEnds_42 : decode cX4_findEnds 42 = .ok (.aload_n 1, 1) := by decide +kernel
theorem dX4_findEnds_43 : decode cX4_findEnds 43 = .ok (.aload_n 2, 1) := by decide +kernel
theorem dX4_findEnds_44 : decode cX4_findEnds 44 = .ok (.iload_n 3, 1) := by decide +kernel
theorem dX4_findEnds_45 : decode cX4_findEnds 45 = .ok (.invokevirtual 44, 3) := by decide +kernel
theorem dX4_findEnds_48 : decode cX4_findEnds 48 = .ok (.iinc 3 1, 3) := by decide +kernel
theorem dX4_findEnds_51 : decode cX4_findEnds 51 = .ok (.goto (-31), 3) := by decide +kernel
theorem dX4_findEnds_54 : decode cX4_findEnds 54 = .ok (.return_, 1) := by decide +kernel
set_option maxRecDepth 20000 in
theorem ggX4_findAlone_X4_findEnds : GoodIn wsX4_findAlone wsX4_findEnds := goodIn_r _ [7, 1, 8, 9, 10, 6, 11, 12, 13, 14, 15, 16, 17, 18, 19, 20, 21, 2, 22, 23, 24, 25, 26, 27, 28, 29, 30, 31, 32, 33, 34, 35, 36, 37, 38, 39, 40, 41, 42, 43, 44, 45, 46, 69, 70, 71, 72, 73, 74, 75, 76, 77, 78, 79, 80, 81, 82, 83, 84, 85] (by decide +kernel) (by decide +kernel)
set_option maxRecDepth 20000 in
theorem gX4_findAlone_X4_findEnds : GoodIn wsX4_findAlone (wsV RX4 56 RX4 yX4_findEnds wsX4_findEnds) := goodIn_app (goodIn_of _ (by decide +kernel)) ggX4_findAlone_X4_findEnds
set_option maxRecDepth 20000 in
theorem ggX4_findAlone_X4_findBeginnings : GoodIn wsX4_findAlone wsX4_findBeginnings := goodIn_r _ [50, 51, 52, 53, 54, 6, 55, 56, 57, 58, 59, 60, 61, 62, 63, 64, 30, 31, 32, 33, 34, 35, 36, 37, 38, 39, 40, 41, 42, 43, 44, 45, 46, 69, 70, 71, 72, 73, 74, 75, 76, 77, 78, 79, 80, 81, 82, 83, 84, 85] (by decide +kernel) (by decide +kernel)
set_option maxRecDepth 20000 in
theorem gX4_findAlone_X4_findBeginnings : GoodIn wsX4_findAlone (wsV RX4 59 RX4 yX4_findBeginnings wsX4_findBeginnings) := goodIn_app (goodIn_of _ (by decide +kernel)) ggX4_findAlone_X4_findBeginnings
set_option maxRecDepth 20000 in
theorem ggX4_findAlone_X4_tell : GoodIn wsX4_findAlone wsX4_tell := goodIn_r _ [68, 1, 2, 21, 56, 69, 70, 71, 72, 73, 74, 75, 76] (by decide +kernel) (by decide +kernel)
set_option maxRecDepth 20000 in
theorem gX4_findAlone_X4_tell : GoodIn wsX4_findAlone (wsV RX4 62 RX4 yX4_tell wsX4_tell) := goodIn_app (goodIn_of _ (by decide +kernel)) ggX4_findAlone_X4_tell
theorem dX4_findAlone_0 : decode cX4_findAlone 0 = .ok (.aload_n 0, 1) := by decide +kernel
theorem dX4_findAlone_1 : decode cX4_findAlone 1 = .ok (.aload_n 1, 1) := by decide +kernel
theorem dX4_findAlone_2 : decode cX4_findAlone 2 = .ok (.aload_n 2, 1) := by decide +kernel
theorem dX4_findAlone_3 : decode cX4_findAlone 3 = .ok (.invokevirtual 56, 3) := by decide +kernel
theorem dX4_findAlone_6 : decode cX4_findAlone 6 = .ok (.aload_n 0, 1) := by decide +kernel
theorem dX4_findAlone_7 : decode cX4_findAlone 7 = .ok (.aload_n 1, 1) := by decide +kernel
theorem dX4_findAlone_8 : decode cX4_findAlone 8 = .ok (.aload_n 2, 1) := by decide +kernel
theorem dX4_findAlone_9 : decode cX4_findAlone 9 = .ok (.invokevirtual 59, 3) := by decide +kernel
theorem dX4_findAlone_12 : decode cX4_findAlone 12 = .ok (.iconst 0, 1) := by decide +kernel
theorem dX4_findAlone_13 : decode cX4_findAlone 13 = .ok (.istore_n 3, 1) := by decide +kernel
theorem dX4_findAlone_14 : decode cX4_findAlone 14 = .ok (.iconst 0, 1) := by decide +kernel
theorem dX4_findAlone_15 : decode cX4_findAlone 15 = .ok (.istore 4, 2) := by decide +kernel
theorem dX4_findAlone_17 : decode cX4_findAlone 17 = .ok (.iconst 0, 1) := by decide +kernel
theorem dX4_findAlone_18 : decode cX4_findAlone 18 = .ok (.istore 5, 2) := by decide +kernel
theorem dX4_findAlone_20 : decode cX4_findAlone 20 = .ok (.iload 5, 2) := by decide +kernel
theorem dX4_findAlone_22 : decode cX4_findAlone 22 = .ok (.aload_n 0, 1) := by decide +kernel
theorem dX4_findAlone_23 : decode cX4_findAlone 23 = .ok (.getfield 36, 3) := by decide +kernel
theorem dX4_findAlone_26 : decode cX4_findAlone 26 = .ok (.if_icmp .ge 51, 3) := by decide +kernel
theorem dX4_findAlone_29 : decode cX4_findAlone 29 = .ok (.aload_n 0, 1) := by decide +kernel
theorem dX4_findAlone_30 : decode cX4_findAlone 30 = .ok (.iload 5, 2) := by decide +kernel
theorem dX4_findAlone_32 : decode cX4_findAlone 32 = .ok (.iconst 0, 1) := by decide +kernel
theorem dX4_findAlone_33 : decode cX4_findAlone 33 = .ok (.invokevirtual 62, 3) := by decide +kernel
theorem dX4_findAlone_36 : decode cX4_findAlone 36 = .ok (.istore 6, 2) := by decide +kernel
theorem dX4_findAlone_38 : decode cX4_findAlone 38 = .ok (.aload_n 0, 1) := by decide +kernel
theorem dX4_findAlone_39 : decode cX4_findAlone 39 = .ok (.iload 5, 2) := by decide +kernel
theorem dX4_findAlone_41 : decode cX4_findAlone 41 = .ok (.iconst 2, 1) := by decide +kernel
theorem dX4_findAlone_42 : decode cX4_findAlone 42 = .ok (.invokevirtual 62, 3) := by decide +kernel
theorem dX4_findAlone_45 : decode cX4_findAlone 45 = .ok (.iload 4, 2) := by decide +kernel
theorem dX4_findAlone_47 : decode cX4_findAlone 47 = .ok (.if_icmp .lt 24, 3) := by decide +kernel
theorem dX4_findAlone_50 : decode cX4_findAlone 50 = .ok (.iload_n 3, 1) := by decide +kernel
theorem dX4_findAlone_51 : decode cX4_findAlone 51 = .ok (.bipush 120, 2) := by decide +kernel
theorem dX4_findAlone_53 : decode cX4_findAlone 53 = .ok (.if_icmp .gt 18, 3) := by decide +kernel
theorem dX4_findAlone_56 : decode cX4_findAlone 56 = .ok (.aload_n 0, 1) := by decide +kernel
theorem dX4_findAlone_57 : decode cX4_findAlone 57 = .ok (.getfield 33, 3) := by decide +kernel
theorem dX4_findAlone_60 : decode cX4_findAlone 60 = .ok (.iload_n 3, 1) := by decide +kernel
theorem dX4_findAlone_61 : decode cX4_findAlone 61 = .ok (.iload 6, 2) := by decide +kernel
theorem dX4_findAlone_63 : decode cX4_findAlone 63 = .ok (.iastore, 1) := by decide +kernel
theorem dX4_findAlone_64 : decode cX4_findAlone 64 = .ok (.iinc 3 1, 3) := by decide +kernel
theorem dX4_findAlone_67 : decode cX4_findAlone 67 = .ok (.iload 6, 2) := by decide +kernel
theorem dX4_findAlone_69 : decode cX4_findAlone 69 = .ok (.istore 4, 2) := by decide +kernel
theorem dX4_findAlone_71 : decode cX4_findAlone 71 = .ok (.iinc 5 1, 3) := by decide +kernel
theorem dX4_findAlone_74 : decode cX4_findAlone 74 = .ok (.goto (-54), 3) := by decide +kernel
theorem dX4_findAlone_77 : decode cX4_findAlone 77 = .ok (.aload_n 0, 1) := by decide +kernel
theorem dX4_findAlone_78 : decode cX4_findAlone 78 = .ok (.iload_n 3, 1) := by decide +kernel
theorem dX4_findAlone_79 : decode cX4_findAlone 79 = .ok (.putfield 36, 3) := by decide +kernel
theorem dX4_findAlone_82 : decode cX4_findAlone 82 = .ok (.return_, 1) := by decide +kernel
set_option maxRecDepth 20000 in
theorem ggX4_columnAt_X4_openColumns : GoodIn wsX4_columnAt wsX4_openColumns := goodIn_r _ [6, 1, 7, 8, 5, 9, 10, 40, 41, 42, 43, 44, 32, 33, 34, 35, 36, 37, 38, 39, 45, 46, 47, 48] (by decide +kernel) (by decide +kernel)
set_option maxRecDepth 20000 in
theorem gX4_columnAt_X4_openColumns : GoodIn wsX4_columnAt (wsV RX4 40 RX4 yX4_openColumns wsX4_openColumns) := goodIn_app (goodIn_of _ (by decide +kernel)) ggX4_columnAt_X4_openColumns
set_option maxRecDepth 20000 in
theorem ggX4_columnAt_X4_stepColumns : GoodIn wsX4_columnAt wsX4_stepColumns := goodIn_r _ [14, 1, 15, 16, 17, 18, 19, 20, 21, 22, 23, 24, 25, 26, 27, 28, 29, 30, 31, 7, 8, 5, 9, 10, 40, 41, 42, 43, 44, 32, 33, 34, 35, 36, 37, 38, 39, 45, 46, 47, 48] (by decide +kernel) (by decide +kernel)
set_option maxRecDepth 20000 in
theorem gX4_columnAt_X4_stepColumns : GoodIn wsX4_columnAt (wsV RX4 53 RX4 yX4_stepColumns wsX4_stepColumns) := goodIn_app (goodIn_of _ (by decide +kernel)) ggX4_columnAt_X4_stepColumns
theorem dX4_columnAt_0 : decode cX4_columnAt 0 = .ok (.aload_n 0, 1) := by decide +kernel
theorem dX4_columnAt_1 : decode cX4_columnAt 1 = .ok (.aload_n 1, 1) := by decide +kernel
theorem dX4_columnAt_2 : decode cX4_columnAt 2 = .ok (.aload_n 2, 1) := by decide +kernel
theorem dX4_columnAt_3 : decode cX4_columnAt 3 = .ok (.invokevirtual 40, 3) := by decide +kernel
theorem dX4_columnAt_6 : decode cX4_columnAt 6 = .ok (.iconst 1, 1) := by decide +kernel
theorem dX4_columnAt_7 : decode cX4_columnAt 7 = .ok (.istore 5, 2) := by decide +kernel
theorem dX4_columnAt_9 : decode cX4_columnAt 9 = .ok (.iload 5, 2) := by decide +kernel
theorem dX4_columnAt_11 : decode cX4_columnAt 11 = .ok (.iload 4, 2) := by decide +kernel
theorem dX4_columnAt_13 : decode cX4_columnAt 13 = .ok (.if_icmp .gt 24, 3) := by decide +kernel
theorem dX4_columnAt_16 : decode cX4_columnAt 16 = .ok (.iload 5, 2) := by decide +kernel
theorem dX4_columnAt_18 : decode cX4_columnAt 18 = .ok (.bipush 120, 2) := by decide +kernel
theorem dX4_columnAt_20 : decode cX4_columnAt 20 = .ok (.if_icmp .gt 17, 3) := by decide +kernel
theorem dX4_columnAt_23 : decode cX4_columnAt 23 = .ok (.aload_n 0, 1) := by decide +kernel
theorem dX4_columnAt_24 : decode cX4_columnAt 24 = .ok (.aload_n 1, 1) := by decide +kernel
theorem dX4_columnAt_25 : decode cX4_columnAt 25 = .ok (.aload_n 2, 1) := by decide +kernel
theorem dX4_columnAt_26 : decode cX4_columnAt 26 = .ok (.iload 5, 2) := by decide +kernel
theorem dX4_columnAt_28 : decode cX4_columnAt 28 = .ok (.invokevirtual 53, 3) := by decide +kernel
theorem dX4_columnAt_31 : decode cX4_columnAt 31 = .ok (.iinc 5 1, 3) := by decide +kernel
theorem dX4_columnAt_34 : decode cX4_columnAt 34 = .ok (.goto (-25), 3) := by decide +kernel
theorem dX4_columnAt_37 : decode cX4_columnAt 37 = .ok (.iload_n 3, 1) := by decide +kernel
theorem dX4_columnAt_38 : decode cX4_columnAt 38 = .ok (.ifCond .lt 19, 3) := by decide +kernel
theorem dX4_columnAt_41 : decode cX4_columnAt 41 = .ok (.iload_n 3, 1) := by decide +kernel
theorem dX4_columnAt_42 : decode cX4_columnAt 42 = .ok (.iconst 4, 1) := by decide +kernel
theorem dX4_columnAt_43 : decode cX4_columnAt 43 = .ok (.if_icmp .gt 14, 3) := by decide +kernel
theorem dX4_columnAt_46 : decode cX4_columnAt 46 = .ok (.aload_n 0, 1) := by decide +kernel
theorem dX4_columnAt_47 : decode cX4_columnAt 47 = .ok (.getfield 9, 3) := by decide +kernel
theorem dX4_columnAt_50 : decode cX4_columnAt 50 = .ok (.iload_n 3, 1) := by decide +kernel
theorem dX4_columnAt_51 : decode cX4_columnAt 51 = .ok (.laload, 1) := by decide +kernel
theorem dX4_columnAt_52 : decode cX4_columnAt 52 = .ok (.iconst 1, 1) := by decide +kernel
theorem dX4_columnAt_53 : decode cX4_columnAt 53 = .ok (.lushr, 1) := by decide +kernel
theorem dX4_columnAt_54 : decode cX4_columnAt 54 = .ok (.goto 4, 3) := by decide +kernel
theorem dX4_columnAt_57 : decode cX4_columnAt 57 = .ok (.lconst 0, 1) := by decide +kernel
theorem dX4_columnAt_58 : decode cX4_columnAt 58 = .ok (.lreturn, 1) := by decide +kernel
theorem dX4_columnMask_0 : decode cX4_columnMask 0 = .ok (.ldc2_w 66, 3) := by decide +kernel
theorem dX4_columnMask_3 : decode cX4_columnMask 3 = .ok (.aload_n 0, 1) := by decide +kernel
theorem dX4_columnMask_4 : decode cX4_columnMask 4 = .ok (.getfield 68, 3) := by decide +kernel
theorem dX4_columnMask_7 : decode cX4_columnMask 7 = .ok (.lshl, 1) := by decide +kernel
theorem dX4_columnMask_8 : decode cX4_columnMask 8 = .ok (.lconst 1, 1) := by decide +kernel
theorem dX4_columnMask_9 : decode cX4_columnMask 9 = .ok (.lsub, 1) := by decide +kernel
theorem dX4_columnMask_10 : decode cX4_columnMask 10 = .ok (.lreturn, 1) := by decide +kernel
set_option maxRecDepth 20000 in
theorem ggX4_openColumns_X4_columnMask : GoodIn wsX4_openColumns wsX4_columnMask := goodIn_r _ [5, 6, 20, 21, 22, 23] (by decide +kernel) (by decide +kernel)
set_option maxRecDepth 20000 in
theorem gX4_openColumns_X4_columnMask : GoodIn wsX4_openColumns (va_wsS RX4 76 yX4_columnMask wsX4_columnMask) := goodIn_app (goodIn_of _ (by decide +kernel)) ggX4_openColumns_X4_columnMask
theorem dX4_openColumns_0 : decode cX4_openColumns 0 = .ok (.lconst 1, 1) := by decide +kernel
theorem dX4_openColumns_1 : decode cX4_openColumns 1 = .ok (.lstore_n 3, 1) := by decide +kernel
theorem dX4_openColumns_2 : decode cX4_openColumns 2 = .ok (.iconst 0, 1) := by decide +kernel
theorem dX4_openColumns_3 : decode cX4_openColumns 3 = .ok (.istore 5, 2) := by decide +kernel
theorem dX4_openColumns_5 : decode cX4_openColumns 5 = .ok (.iload 5, 2) := by decide +kernel
theorem dX4_openColumns_7 : decode cX4_openColumns 7 = .ok (.iconst 4, 1) := by decide +kernel
theorem dX4_openColumns_8 : decode cX4_openColumns 8 = .ok (.if_icmp .gt 37, 3) := by decide +kernel
theorem dX4_openColumns_11 : decode cX4_openColumns 11 = .ok (.iload 5, 2) := by decide +kernel
theorem dX4_openColumns_13 : decode cX4_openColumns 13 = .ok (.aload_n 1, 1) := by decide +kernel
theorem dX4_openColumns_14 : decode cX4_openColumns 14 = .ok (.getfield 73, 3) := by decide +kernel
theorem dX4_openColumns_17 : decode cX4_openColumns 17 = .ok (.if_icmp .gt 28, 3) := by decide +kernel
theorem dX4_openColumns_20 : decode cX4_openColumns 20 = .ok (.aload_n 0, 1) := by decide +kernel
theorem dX4_openColumns_21 : decode cX4_openColumns 21 = .ok (.getfield 9, 3) := by decide +kernel
theorem dX4_openColumns_24 : decode cX4_openColumns 24 = .ok (.iload 5, 2) := by decide +kernel
theorem dX4_openColumns_26 : decode cX4_openColumns 26 = .ok (.lload_n 3, 1) := by decide +kernel
theorem dX4_openColumns_27 : decode cX4_openColumns 27 = .ok (.aload_n 2, 1) := by decide +kernel
theorem dX4_openColumns_28 : decode cX4_openColumns 28 = .ok (.invokestatic 76, 3) := by decide +kernel
theorem dX4_openColumns_31 : decode cX4_openColumns 31 = .ok (.land, 1) := by decide +kernel
theorem dX4_openColumns_32 : decode cX4_openColumns 32 = .ok (.lastore, 1) := by decide +kernel
theorem dX4_openColumns_33 : decode cX4_openColumns 33 = .ok (.lload_n 3, 1) := by decide +kernel
theorem dX4_openColumns_34 : decode cX4_openColumns 34 = .ok (.iconst 1, 1) := by decide +kernel
theorem dX4_openColumns_35 : decode cX4_openColumns 35 = .ok (.lshl, 1) := by decide +kernel
theorem dX4_openColumns_36 : decode cX4_openColumns 36 = .ok (.lconst 1, 1) := by decide +kernel
theorem dX4_openColumns_37 : decode cX4_openColumns 37 = .ok (.lor, 1) := by decide +kernel
theorem dX4_openColumns_38 : decode cX4_openColumns 38 = .ok (.lstore_n 3, 1) := by decide +kernel
theorem dX4_openColumns_39 : decode cX4_openColumns 39 = .ok (.iinc 5 1, 3) := by decide +kernel
theorem dX4_openColumns_42 : decode cX4_openColumns 42 = .ok (.goto (-37), 3) := by decide +kernel
theorem dX4_openColumns_45 : decode cX4_openColumns 45 = .ok (.return_, 1) := by decide +kernel
set_option maxRecDepth 20000 in
theorem ggX4_stepColumns_X5_signAt : GoodIn wsX4_stepColumns wsX5_signAt := goodIn_r _ [6, 7, 24, 25, 26, 27, 28] (by decide +kernel) (by decide +kernel)
set_option maxRecDepth 20000 in
theorem gX4_stepColumns_X5_signAt : GoodIn wsX4_stepColumns (wsV RX4 80 RX5 yX5_signAt wsX5_signAt) := goodIn_app (goodIn_of _ (by decide +kernel)) ggX4_stepColumns_X5_signAt
set_option maxRecDepth 20000 in
theorem ggX4_stepColumns_X2_placesThatTake : GoodIn wsX4_stepColumns wsX2_placesThatTake := goodIn_r _ [12, 13, 37, 38, 39, 40] (by decide +kernel) (by decide +kernel)
set_option maxRecDepth 20000 in
theorem gX4_stepColumns_X2_placesThatTake : GoodIn wsX4_stepColumns (wsV RX4 84 RX2 yX2_placesThatTake wsX2_placesThatTake) := goodIn_app (goodIn_of _ (by decide +kernel)) ggX4_stepColumns_X2_placesThatTake
set_option maxRecDepth 20000 in
theorem ggX4_stepColumns_X5_mayBegin : GoodIn wsX4_stepColumns wsX5_mayBegin := goodIn_r _ [17, 18, 3, 4, 5, 6, 7, 37, 38, 39, 40, 24, 25, 26, 27, 28] (by decide +kernel) (by decide +kernel)
set_option maxRecDepth 20000 in
theorem gX4_stepColumns_X5_mayBegin : GoodIn wsX4_stepColumns (wsV RX4 88 RX5 yX5_mayBegin wsX5_mayBegin) := goodIn_app (goodIn_of _ (by decide +kernel)) ggX4_stepColumns_X5_mayBegin
set_option maxRecDepth 20000 in
theorem ggX4_stepColumns_X4_columnMask : GoodIn wsX4_stepColumns wsX4_columnMask := goodIn_r _ [22, 23, 37, 38, 39, 40] (by decide +kernel) (by decide +kernel)
set_option maxRecDepth 20000 in
theorem gX4_stepColumns_X4_columnMask : GoodIn wsX4_stepColumns (va_wsS RX4 76 yX4_columnMask wsX4_columnMask) := goodIn_app (goodIn_of _ (by decide +kernel)) ggX4_stepColumns_X4_columnMask
theorem dX4_stepColumns_0 : decode cX4_stepColumns 0 = .ok (.aload_n 2, 1) := by decide +kernel
theorem dX4_stepColumns_1 : decode cX4_stepColumns 1 = .ok (.aload_n 1, 1) := by decide +kernel
theorem dX4_stepColumns_2 : decode cX4_stepColumns 2 = .ok (.iload_n 3, 1) := by decide +kernel
theorem dX4_stepColumns_3 : decode cX4_stepColumns 3 = .ok (.iconst 1, 1) := by decide +kernel
theorem dX4_stepColumns_4 : decode cX4_stepColumns 4 = .ok (.isub, 1) := by decide +kernel
theorem dX4_stepColumns_5 : decode cX4_stepColumns 5 = .ok (.invokevirtual 80, 3) := by decide +kernel
theorem dX4_stepColumns_8 : decode cX4_stepColumns 8 = .ok (.invokevirtual 84, 3) := by decide +kernel
theorem dX4_stepColumns_11 : decode cX4_stepColumns 11 = .ok (.lstore 4, 2) := by decide +kernel
theorem dX4_stepColumns_13 : decode cX4_stepColumns 13 = .ok (.aload_n 1, 1) := by decide +kernel
theorem dX4_stepColumns_14 : decode cX4_stepColumns 14 = .ok (.aload_n 2, 1) := by decide +kernel
theorem dX4_stepColumns_15 : decode cX4_stepColumns 15 = .ok (.iload_n 3, 1) := by decide +kernel
theorem dX4_stepColumns_16 : decode cX4_stepColumns 16 = .ok (.invokevirtual 88, 3) := by decide +kernel
theorem dX4_stepColumns_19 : decode cX4_stepColumns 19 = .ok (.ifCond .eq 7, 3) := by decide +kernel
theorem dX4_stepColumns_22 : decode cX4_stepColumns 22 = .ok (.lconst 1, 1) := by decide +kernel
theorem dX4_stepColumns_23 : decode cX4_stepColumns 23 = .ok (.goto 4, 3) := by decide +kernel
theorem dX4_stepColumns_26 : decode cX4_stepColumns 26 = .ok (.lconst 0, 1) := by decide +kernel
theorem dX4_stepColumns_27 : decode cX4_stepColumns 27 = .ok (.lstore 6, 2) := by decide +kernel
theorem dX4_stepColumns_29 : decode cX4_stepColumns 29 = .ok (.aload_n 2, 1) := by decide +kernel
theorem dX4_stepColumns_30 : decode cX4_stepColumns 30 = .ok (.invokestatic 76, 3) := by decide +kernel
theorem dX4_stepColumns_33 : decode cX4_stepColumns 33 = .ok (.lstore 8, 2) := by decide +kernel
theorem dX4_stepColumns_35 : decode cX4_stepColumns 35 = .ok (.lconst 0, 1) := by decide +kernel
theorem dX4_stepColumns_36 : decode cX4_stepColumns 36 = .ok (.lstore 10, 2) := by decide +kernel
theorem dX4_stepColumns_38 : decode cX4_stepColumns 38 = .ok (.lconst 0, 1) := by decide +kernel
theorem dX4_stepColumns_39 : decode cX4_stepColumns 39 = .ok (.lstore 12, 2) := by decide +kernel
theorem dX4_stepColumns_41 : decode cX4_stepColumns 41 = .ok (.iconst 0, 1) := by decide +kernel
theorem dX4_stepColumns_42 : decode cX4_stepColumns 42 = .ok (.istore 14, 2) := by decide +kernel
theorem dX4_stepColumns_44 : decode cX4_stepColumns 44 = .ok (.iload 14, 2) := by decide +kernel
theorem dX4_stepColumns_46 : decode cX4_stepColumns 46 = .ok (.iconst 4, 1) := by decide +kernel
theorem dX4_stepColumns_47 : decode cX4_stepColumns 47 = .ok (.if_icmp .gt 85, 3) := by decide +kernel
theorem dX4_stepColumns_50 : decode cX4_stepColumns 50 = .ok (.iload 14, 2) := by decide +kernel
theorem dX4_stepColumns_52 : decode cX4_stepColumns 52 = .ok (.aload_n 1, 1) := by decide +kernel
theorem dX4_stepColumns_53 : decode cX4_stepColumns 53 = .ok (.getfield 73, 3) := by decide +kernel
theorem dX4_stepColumns_56 : decode cX4_stepColumns 56 = .ok (.if_icmp .gt 76, 3) := by decide +kernel
theorem dX4_stepColumns_59 : decode cX4_stepColumns 59 = .ok (.aload_n 0, 1) := by decide +kernel
theorem dX4_stepColumns_60 : decode cX4_stepColumns 60 = .ok (.getfield 9, 3) := by decide +kernel
theorem dX4_stepColumns_63 : decode cX4_stepColumns 63 = .ok (.iload 14, 2) := by decide +kernel
theorem dX4_stepColumns_65 : decode cX4_stepColumns 65 = .ok (.laload, 1) := by decide +kernel
theorem dX4_stepColumns_66 : decode cX4_stepColumns 66 = .ok (.lstore 15, 2) := by decide +kernel
theorem dX4_stepColumns_68 : decode cX4_stepColumns 68 = .ok (.lload 15, 2) := by decide +kernel
theorem dX4_stepColumns_70 : decode cX4_stepColumns 70 = .ok (.lload 4, 2) := by decide +kernel
theorem dX4_stepColumns_72 : decode cX4_stepColumns 72 = .ok (.land, 1) := by decide +kernel
theorem dX4_stepColumns_73 : decode cX4_stepColumns 73 = .ok (.iconst 1, 1) := by decide +kernel
theorem dX4_stepColumns_74 : decode cX4_stepColumns 74 = .ok (.lshl, 1) := by decide +kernel
theorem dX4_stepColumns_75 : decode cX4_stepColumns 75 = .ok (.lstore 17, 2) := by decide +kernel
theorem dX4_stepColumns_77 : decode cX4_stepColumns 77 = .ok (.lload 10, 2) := by decide +kernel
theorem dX4_stepColumns_79 : decode cX4_stepColumns 79 = .ok (.iconst 1, 1) := by decide +kernel
theorem dX4_stepColumns_80 : decode cX4_stepColumns 80 = .ok (.lshl, 1) := by decide +kernel
theorem dX4_stepColumns_81 : decode cX4_stepColumns 81 = .ok (.lstore 19, 2) := by decide +kernel
theorem dX4_stepColumns_83 : decode cX4_stepColumns 83 = .ok (.lload 12, 2) := by decide +kernel
theorem dX4_stepColumns_85 : decode cX4_stepColumns 85 = .ok (.iconst 1, 1) := by decide +kernel
theorem dX4_stepColumns_86 : decode cX4_stepColumns 86 = .ok (.lshl, 1) := by decide +kernel
theorem dX4_stepColumns_87 : decode cX4_stepColumns 87 = .ok (.lstore 21, 2) := by decide +kernel
theorem dX4_stepColumns_89 : decode cX4_stepColumns 89 = .ok (.aload_n 0, 1) := by decide +kernel
theorem dX4_stepColumns_90 : decode cX4_stepColumns 90 = .ok (.getfield 9, 3) := by decide +kernel
theorem dX4_stepColumns_93 : decode cX4_stepColumns 93 = .ok (.iload 14, 2) := by decide +kernel
theorem dX4_stepColumns_95 : decode cX4_stepColumns 95 = .ok (.lload 6, 2) := by decide +kernel
theorem dX4_stepColumns_97 : decode cX4_stepColumns 97 = .ok (.lload 17, 2) := by decide +kernel
theorem dX4_stepColumns_99 : decode cX4_stepColumns 99 = .ok (.lor, 1) := by decide +kernel
theorem dX4_stepColumns_100 : decode cX4_stepColumns 100 = .ok (.lload 19, 2) := by decide +kernel
theorem dX4_stepColumns_102 : decode cX4_stepColumns 102 = .ok (.lor, 1) := by decide +kernel
theorem dX4_stepColumns_103 : decode cX4_stepColumns 103 = .ok (.lload 10, 2) := by decide +kernel
theorem dX4_stepColumns_105 : decode cX4_stepColumns 105 = .ok (.lor, 1) := by decide +kernel
theorem dX4_stepColumns_106 : decode cX4_stepColumns 106 = .ok (.lload 21, 2) := by decide +kernel
theorem dX4_stepColumns_108 : decode cX4_stepColumns 108 = .ok (.lor, 1) := by decide +kernel
theorem dX4_stepColumns_109 : decode cX4_stepColumns 109 = .ok (.lload 8, 2) := by decide +kernel
theorem dX4_stepColumns_111 : decode cX4_stepColumns 111 = .ok (.land, 1) := by decide +kernel
theorem dX4_stepColumns_112 : decode cX4_stepColumns 112 = .ok (.lastore, 1) := by decide +kernel
theorem dX4_stepColumns_113 : decode cX4_stepColumns 113 = .ok (.lload 15, 2) := by decide +kernel
theorem dX4_stepColumns_115 : decode cX4_stepColumns 115 = .ok (.lstore 10, 2) := by decide +kernel
theorem dX4_stepColumns_117 : decode cX4_stepColumns 117 = .ok (.aload_n 0, 1) := by decide +kernel
theorem dX4_stepColumns_118 : decode cX4_stepColumns 118 = .ok (.getfield 9, 3) := by decide +kernel
theorem dX4_stepColumns_121 : decode cX4_stepColumns 121 = .ok (.iload 14, 2) := by decide +kernel
theorem dX4_stepColumns_123 : decode cX4_stepColumns 123 = .ok (.laload, 1) := by decide +kernel
theorem dX4_stepColumns_124 : decode cX4_stepColumns 124 = .ok (.lstore 12, 2) := by decide +kernel
theorem dX4_stepColumns_126 : decode cX4_stepColumns 126 = .ok (.iinc 14 1, 3) := by decide +kernel
theorem dX4_stepColumns_129 : decode cX4_stepColumns 129 = .ok (.goto (-85), 3) := by decide +kernel
theorem dX4_stepColumns_132 : decode cX4_stepColumns 132 = .ok (.return_, 1) := by decide +kernel
set_option maxRecDepth 20000 in
theorem ggX4_noteEnd_X4_fewestInColumns : GoodIn wsX4_noteEnd wsX4_fewestInColumns := goodIn_r _ [8, 9, 18, 19, 20, 21, 22, 10, 11, 12, 13, 14, 15, 16, 17, 23, 24, 25, 26] (by decide +kernel) (by decide +kernel)
set_option maxRecDepth 20000 in
theorem gX4_noteEnd_X4_fewestInColumns : GoodIn wsX4_noteEnd (wsV RX4 92 RX4 yX4_fewestInColumns wsX4_fewestInColumns) := goodIn_app (goodIn_of _ (by decide +kernel)) ggX4_noteEnd_X4_fewestInColumns
theorem dX4_noteEnd_0 : decode cX4_noteEnd 0 = .ok (.iload_n 3, 1) := by decide +kernel
theorem dX4_noteEnd_1 : decode cX4_noteEnd 1 = .ok (.ifCond .lt 9, 3) := by decide +kernel
theorem dX4_noteEnd_4 : decode cX4_noteEnd 4 = .ok (.iload_n 3, 1) := by decide +kernel
theorem dX4_noteEnd_5 : decode cX4_noteEnd 5 = .ok (.bipush 120, 2) := by decide +kernel
theorem dX4_noteEnd_7 : decode cX4_noteEnd 7 = .ok (.if_icmp .le 4, 3) := by decide +kernel
theorem dX4_noteEnd_10 : decode cX4_noteEnd 10 = .ok (.return_, 1) := by decide +kernel
theorem dX4_noteEnd_11 : decode cX4_noteEnd 11 = .ok (.aload_n 0, 1) := by decide +kernel
theorem dX4_noteEnd_12 : decode cX4_noteEnd 12 = .ok (.getfield 19, 3) := by decide +kernel
theorem dX4_noteEnd_15 : decode cX4_noteEnd 15 = .ok (.iload_n 3, 1) := by decide +kernel
theorem dX4_noteEnd_16 : decode cX4_noteEnd 16 = .ok (.aload_n 0, 1) := by decide +kernel
theorem dX4_noteEnd_17 : decode cX4_noteEnd 17 = .ok (.aload_n 1, 1) := by decide +kernel
theorem dX4_noteEnd_18 : decode cX4_noteEnd 18 = .ok (.aload_n 2, 1) := by decide +kernel
theorem dX4_noteEnd_19 : decode cX4_noteEnd 19 = .ok (.invokevirtual 92, 3) := by decide +kernel
theorem dX4_noteEnd_22 : decode cX4_noteEnd 22 = .ok (.iastore, 1) := by decide +kernel
theorem dX4_noteEnd_23 : decode cX4_noteEnd 23 = .ok (.aload_n 0, 1) := by decide +kernel
theorem dX4_noteEnd_24 : decode cX4_noteEnd 24 = .ok (.getfield 19, 3) := by decide +kernel
theorem dX4_noteEnd_27 : decode cX4_noteEnd 27 = .ok (.iload_n 3, 1) := by decide +kernel
theorem dX4_noteEnd_28 : decode cX4_noteEnd 28 = .ok (.iaload, 1) := by decide +kernel
theorem dX4_noteEnd_29 : decode cX4_noteEnd 29 = .ok (.iconst (-1), 1) := by decide +kernel
theorem dX4_noteEnd_30 : decode cX4_noteEnd 30 = .ok (.if_icmp .eq 39, 3) := by decide +kernel
theorem dX4_noteEnd_33 : decode cX4_noteEnd 33 = .ok (.aload_n 0, 1) := by decide +kernel
theorem dX4_noteEnd_34 : decode cX4_noteEnd 34 = .ok (.getfield 36, 3) := by decide +kernel
theorem dX4_noteEnd_37 : decode cX4_noteEnd 37 = .ok (.ifCond .lt 32, 3) := by decide +kernel
theorem dX4_noteEnd_40 : decode cX4_noteEnd 40 = .ok (.aload_n 0, 1) := by decide +kernel
theorem dX4_noteEnd_41 : decode cX4_noteEnd 41 = .ok (.getfield 36, 3) := by decide +kernel
theorem dX4_noteEnd_44 : decode cX4_noteEnd 44 = .ok (.bipush 120, 2) := by decide +kernel
theorem dX4_noteEnd_46 : decode cX4_noteEnd 46 = .ok (.if_icmp .gt 23, 3) := by decide +kernel
theorem dX4_noteEnd_49 : decode cX4_noteEnd 49 = .ok (.aload_n 0, 1) := by decide +kernel
theorem dX4_noteEnd_50 : decode cX4_noteEnd 50 = .ok (.getfield 33, 3) := by decide +kernel
theorem dX4_noteEnd_53 : decode cX4_noteEnd 53 = .ok (.aload_n 0, 1) := by decide +kernel
theorem dX4_noteEnd_54 : decode cX4_noteEnd 54 = .ok (.getfield 36, 3) := by decide +kernel
theorem dX4_noteEnd_57 : decode cX4_noteEnd 57 = .ok (.iload_n 3, 1) := by decide +kernel
theorem dX4_noteEnd_58 : decode cX4_noteEnd 58 = .ok (.iastore, 1) := by decide +kernel
theorem dX4_noteEnd_59 : decode cX4_noteEnd 59 = .ok (.aload_n 0, 1) := by decide +kernel
theorem dX4_noteEnd_60 : decode cX4_noteEnd 60 = .ok (.dup, 1) := by decide +kernel
theorem dX4_noteEnd_61 : decode cX4_noteEnd 61 = .ok (.getfield 36, 3) := by decide +kernel
theorem dX4_noteEnd_64 : decode cX4_noteEnd 64 = .ok (.iconst 1, 1) := by decide +kernel
theorem dX4_noteEnd_65 : decode cX4_noteEnd 65 = .ok (.iadd, 1) := by decide +kernel
theorem dX4_noteEnd_66 : decode cX4_noteEnd 66 = .ok (.putfield 36, 3) := by decide +kernel
theorem dX4_noteEnd_69 : decode cX4_noteEnd 69 = .ok (.return_, 1) := by decide +kernel
theorem dX4_fewestInColumns_0 : decode cX4_fewestInColumns 0 = .ok (.iconst 0, 1) := by decide +kernel
theorem dX4_fewestInColumns_1 : decode cX4_fewestInColumns 1 = .ok (.istore_n 3, 1) := by decide +kernel
theorem dX4_fewestInColumns_2 : decode cX4_fewestInColumns 2 = .ok (.iload_n 3, 1) := by decide +kernel
theorem dX4_fewestInColumns_3 : decode cX4_fewestInColumns 3 = .ok (.iconst 4, 1) := by decide +kernel
theorem dX4_fewestInColumns_4 : decode cX4_fewestInColumns 4 = .ok (.if_icmp .gt 37, 3) := by decide +kernel
theorem dX4_fewestInColumns_7 : decode cX4_fewestInColumns 7 = .ok (.iload_n 3, 1) := by decide +kernel
theorem dX4_fewestInColumns_8 : decode cX4_fewestInColumns 8 = .ok (.aload_n 1, 1) := by decide +kernel
theorem dX4_fewestInColumns_9 : decode cX4_fewestInColumns 9 = .ok (.getfield 73, 3) := by decide +kernel
theorem dX4_fewestInColumns_12 : decode cX4_fewestInColumns 12 = .ok (.if_icmp .gt 29, 3) := by decide +kernel
theorem dX4_fewestInColumns_15 : decode cX4_fewestInColumns 15 = .ok (.aload_n 0, 1) := by decide +kernel
theorem dX4_fewestInColumns_16 : decode cX4_fewestInColumns 16 = .ok (.getfield 9, 3) := by decide +kernel
theorem dX4_fewestInColumns_19 : decode cX4_fewestInColumns 19 = .ok (.iload_n 3, 1) := by decide +kernel
theorem dX4_fewestInColumns_20 : decode cX4_fewestInColumns 20 = .ok (.laload, 1) := by decide +kernel
theorem dX4_fewestInColumns_21 : decode cX4_fewestInColumns 21 = .ok (.aload_n 2, 1) := by decide +kernel
theorem dX4_fewestInColumns_22 : decode cX4_fewestInColumns 22 = .ok (.getfield 68, 3) := by decide +kernel
theorem dX4_fewestInColumns_25 : decode cX4_fewestInColumns 25 = .ok (.lushr, 1) := by decide +kernel
theorem dX4_fewestInColumns_26 : decode cX4_fewestInColumns 26 = .ok (.lconst 1, 1) := by decide +kernel
theorem dX4_fewestInColumns_27 : decode cX4_fewestInColumns 27 = .ok (.land, 1) := by decide +kernel
theorem dX4_fewestInColumns_28 : decode cX4_fewestInColumns 28 = .ok (.lconst 0, 1) := by decide +kernel
theorem dX4_fewestInColumns_29 : decode cX4_fewestInColumns 29 = .ok (.lcmp, 1) := by decide +kernel
theorem dX4_fewestInColumns_30 : decode cX4_fewestInColumns 30 = .ok (.ifCond .eq 5, 3) := by decide +kernel
theorem dX4_fewestInColumns_33 : decode cX4_fewestInColumns 33 = .ok (.iload_n 3, 1) := by decide +kernel
theorem dX4_fewestInColumns_34 : decode cX4_fewestInColumns 34 = .ok (.ireturn, 1) := by decide +kernel
theorem dX4_fewestInColumns_35 : decode cX4_fewestInColumns 35 = .ok (.iinc 3 1, 3) := by decide +kernel
theorem dX4_fewestInColumns_38 : decode cX4_fewestInColumns 38 = .ok (.goto (-36), 3) := by decide +kernel
theorem dX4_fewestInColumns_41 : decode cX4_fewestInColumns 41 = .ok (.iconst (-1), 1) := by decide +kernel
theorem dX4_fewestInColumns_42 : decode cX4_fewestInColumns 42 = .ok (.ireturn, 1) := by decide +kernel
set_option maxRecDepth 20000 in
theorem ggX4_findBeginnings_X4_noteBeginning : GoodIn wsX4_findBeginnings wsX4_noteBeginning := goodIn_r _ [6, 7, 1, 46, 47, 48, 49, 33, 34, 35, 36, 37, 38, 39, 40] (by decide +kernel) (by decide +kernel)
set_option maxRecDepth 20000 in
theorem gX4_findBeginnings_X4_noteBeginning : GoodIn wsX4_findBeginnings (wsV RX4 96 RX4 yX4_noteBeginning wsX4_noteBeginning) := goodIn_app (goodIn_of _ (by decide +kernel)) ggX4_findBeginnings_X4_noteBeginning
set_option maxRecDepth 20000 in
theorem ggX4_findBeginnings_X4_stepKeys : GoodIn wsX4_findBeginnings wsX4_stepKeys := goodIn_r _ [11, 1, 12, 13, 14, 15, 16, 17, 18, 19, 20, 21, 22, 23, 24, 25, 26, 27, 28, 29, 30, 31, 32, 33, 34, 35, 36, 37, 38, 39, 40, 46, 47, 48, 49, 41, 42, 43, 44, 45] (by decide +kernel) (by decide +kernel)
set_option maxRecDepth 20000 in
theorem gX4_findBeginnings_X4_stepKeys : GoodIn wsX4_findBeginnings (wsV RX4 100 RX4 yX4_stepKeys wsX4_stepKeys) := goodIn_app (goodIn_of _ (by decide +kernel)) ggX4_findBeginnings_X4_stepKeys
theorem dX4_findBeginnings_0 : decode cX4_findBeginnings 0 = .ok (.aload_n 0, 1) := by decide +kernel
theorem dX4_findBeginnings_1 : decode cX4_findBeginnings 1 = .ok (.getfield 15, 3) := by decide +kernel
theorem dX4_findBeginnings_4 : decode cX4_findBeginnings 4 = .ok (.iconst 0, 1) := by decide +kernel
theorem dX4_findBeginnings_5 : decode cX4_findBeginnings 5 = .ok (.bipush 127, 2) := by decide +kernel
theorem dX4_findBeginnings_7 : decode cX4_findBeginnings 7 = .ok (.iastore, 1) := by decide +kernel
theorem dX4_findBeginnings_8 : decode cX4_findBeginnings 8 = .ok (.iconst 1, 1) := by decide +kernel
theorem dX4_findBeginnings_9 : decode cX4_findBeginnings 9 = .ok (.istore_n 3, 1) := by decide +kernel
theorem dX4_findBeginnings_10 : decode cX4_findBeginnings 10 = .ok (.iload_n 3, 1) := by decide +kernel
theorem dX4_findBeginnings_11 : decode cX4_findBeginnings 11 = .ok (.bipush 60, 2) := by decide +kernel
theorem dX4_findBeginnings_13 : decode cX4_findBeginnings 13 = .ok (.if_icmp .gt 27, 3) := by decide +kernel
theorem dX4_findBeginnings_16 : decode cX4_findBeginnings 16 = .ok (.aload_n 0, 1) := by decide +kernel
theorem dX4_findBeginnings_17 : decode cX4_findBeginnings 17 = .ok (.getfield 15, 3) := by decide +kernel
theorem dX4_findBeginnings_20 : decode cX4_findBeginnings 20 = .ok (.iload_n 3, 1) := by decide +kernel
theorem dX4_findBeginnings_21 : decode cX4_findBeginnings 21 = .ok (.aload_n 0, 1) := by decide +kernel
theorem dX4_findBeginnings_22 : decode cX4_findBeginnings 22 = .ok (.getfield 15, 3) := by decide +kernel
theorem dX4_findBeginnings_25 : decode cX4_findBeginnings 25 = .ok (.iload_n 3, 1) := by decide +kernel
theorem dX4_findBeginnings_26 : decode cX4_findBeginnings 26 = .ok (.iconst 1, 1) := by decide +kernel
theorem dX4_findBeginnings_27 : decode cX4_findBeginnings 27 = .ok (.isub, 1) := by decide +kernel
theorem dX4_findBeginnings_28 : decode cX4_findBeginnings 28 = .ok (.iaload, 1) := by decide +kernel
theorem dX4_findBeginnings_29 : decode cX4_findBeginnings 29 = .ok (.sipush 128, 3) := by decide +kernel
theorem dX4_findBeginnings_32 : decode cX4_findBeginnings 32 = .ok (.iadd, 1) := by decide +kernel
theorem dX4_findBeginnings_33 : decode cX4_findBeginnings 33 = .ok (.iastore, 1) := by decide +kernel
theorem dX4_findBeginnings_34 : decode cX4_findBeginnings 34 = .ok (.iinc 3 1, 3) := by decide +kernel
theorem dX4_findBeginnings_37 : decode cX4_findBeginnings 37 = .ok (.goto (-27), 3) := by decide +kernel
theorem dX4_findBeginnings_40 : decode cX4_findBeginnings 40 = .ok (.aload_n 0, 1) := by decide +kernel
theorem dX4_findBeginnings_41 : decode cX4_findBeginnings 41 = .ok (.aload_n 2, 1) := by decide +kernel
theorem dX4_findBeginnings_42 : decode cX4_findBeginnings 42 = .ok (.iconst 0, 1) := by decide +kernel
theorem dX4_findBeginnings_43 : decode cX4_findBeginnings 43 = .ok (.invokevirtual 96, 3) := by decide +kernel
theorem dX4_findBeginnings_46 : decode cX4_findBeginnings 46 = .ok (.iconst 1, 1) := by decide +kernel
theorem dX4_findBeginnings_47 : decode cX4_findBeginnings 47 = .ok (.istore_n 3, 1) := by decide +kernel
theorem dX4_findBeginnings_48 : decode cX4_findBeginnings 48 = .ok (.iload_n 3, 1) := by decide +kernel
theorem dX4_findBeginnings_49 : decode cX4_findBeginnings 49 = .ok (.aload_n 1, 1) := by decide +kernel
theorem dX4_findBeginnings_50 : decode cX4_findBeginnings 50 = .ok (.getfield 48, 3) := by decide +kernel
theorem dX4_findBeginnings_53 : decode cX4_findBeginnings 53 = .ok (.if_icmp .gt 28, 3) := by decide +kernel
theorem dX4_findBeginnings_56 : decode cX4_findBeginnings 56 = .ok (.iload_n 3, 1) := by decide +kernel
theorem dX4_findBeginnings_57 : decode cX4_findBeginnings 57 = .ok (.bipush 120, 2) := by decide +kernel
theorem dX4_findBeginnings_59 : decode cX4_findBeginnings 59 = .ok (.if_icmp .gt 22, 3) := by decide +kernel
theorem dX4_findBeginnings_62 : decode cX4_findBeginnings 62 = .ok (.aload_n 0, 1) := by decide +kernel
theorem dX4_findBeginnings_63 : decode cX4_findBeginnings 63 = .ok (.aload_n 1, 1) := by decide +kernel
theorem dX4_findBeginnings_64 : decode cX4_findBeginnings 64 = .ok (.aload_n 2, 1) := by decide +kernel
theorem dX4_findBeginnings_65 : decode cX4_findBeginnings 65 = .ok (.iload_n 3, 1) := by decide +kernel
theorem dX4_findBeginnings_66 : decode cX4_findBeginnings 66 = .ok (.invokevirtual 100, 3) := by decide +kernel
theorem dX4_findBeginnings_69 : decode cX4_findBeginnings 69 = .ok (.aload_n 0, 1) := by decide +kernel
theorem dX4_findBeginnings_70 : decode cX4_findBeginnings 70 = .ok (.aload_n 2, 1) := by decide +kernel
theorem dX4_findBeginnings_71 : decode cX4_findBeginnings 71 = .ok (.iload_n 3, 1) := by decide +kernel
theorem dX4_findBeginnings_72 : decode cX4_findBeginnings 72 = .ok (.invokevirtual 96, 3) := by decide +kernel
theorem dX4_findBeginnings_75 : decode cX4_findBeginnings 75 = .ok (.iinc 3 1, 3) := by decide +kernel
theorem dX4_findBeginnings_78 : decode cX4_findBeginnings 78 = .ok (.goto (-30), 3) := by decide +kernel
theorem dX4_findBeginnings_81 : decode cX4_findBeginnings 81 = .ok (.return_, 1) := by decide +kernel
set_option maxRecDepth 20000 in
theorem ggX4_stepKeys_X5_signAt : GoodIn wsX4_stepKeys wsX5_signAt := goodIn_r _ [10, 11, 35, 36, 37, 38, 39] (by decide +kernel) (by decide +kernel)
set_option maxRecDepth 20000 in
theorem gX4_stepKeys_X5_signAt : GoodIn wsX4_stepKeys (wsV RX4 80 RX5 yX5_signAt wsX5_signAt) := goodIn_app (goodIn_of _ (by decide +kernel)) ggX4_stepKeys_X5_signAt
set_option maxRecDepth 20000 in
theorem ggX4_stepKeys_X2_placesThatTake : GoodIn wsX4_stepKeys wsX2_placesThatTake := goodIn_r _ [16, 17, 31, 32, 33, 34] (by decide +kernel) (by decide +kernel)
set_option maxRecDepth 20000 in
theorem gX4_stepKeys_X2_placesThatTake : GoodIn wsX4_stepKeys (wsV RX4 84 RX2 yX2_placesThatTake wsX2_placesThatTake) := goodIn_app (goodIn_of _ (by decide +kernel)) ggX4_stepKeys_X2_placesThatTake
set_option maxRecDepth 20000 in
theorem ggX4_stepKeys_X5_mayBegin : GoodIn wsX4_stepKeys wsX5_mayBegin := goodIn_r _ [21, 22, 7, 8, 9, 10, 11, 31, 32, 33, 34, 35, 36, 37, 38, 39] (by decide +kernel) (by decide +kernel)
set_option maxRecDepth 20000 in
theorem gX4_stepKeys_X5_mayBegin : GoodIn wsX4_stepKeys (wsV RX4 88 RX5 yX5_mayBegin wsX5_mayBegin) := goodIn_app (goodIn_of _ (by decide +kernel)) ggX4_stepKeys_X5_mayBegin
theorem dX4_stepKeys_0 : decode cX4_stepKeys 0 = .ok (.aload_n 2, 1) := by decide +kernel
theorem dX4_stepKeys_1 : decode cX4_stepKeys 1 = .ok (.aload_n 1, 1) := by decide +kernel
theorem dX4_stepKeys_2 : decode cX4_stepKeys 2 = .ok (.iload_n 3, 1) := by decide +kernel
theorem dX4_stepKeys_3 : decode cX4_stepKeys 3 = .ok (.iconst 1, 1) := by decide +kernel
theorem dX4_stepKeys_4 : decode cX4_stepKeys 4 = .ok (.isub, 1) := by decide +kernel
theorem dX4_stepKeys_5 : decode cX4_stepKeys 5 = .ok (.invokevirtual 80, 3) := by decide +kernel
theorem dX4_stepKeys_8 : decode cX4_stepKeys 8 = .ok (.invokevirtual 84, 3) := by decide +kernel
theorem dX4_stepKeys_11 : decode cX4_stepKeys 11 = .ok (.lstore 4, 2) := by decide +kernel
theorem dX4_stepKeys_13 : decode cX4_stepKeys 13 = .ok (.aload_n 0, 1) := by decide +kernel
theorem dX4_stepKeys_14 : decode cX4_stepKeys 14 = .ok (.getfield 15, 3) := by decide +kernel
theorem dX4_stepKeys_17 : decode cX4_stepKeys 17 = .ok (.iconst 0, 1) := by decide +kernel
theorem dX4_stepKeys_18 : decode cX4_stepKeys 18 = .ok (.iaload, 1) := by decide +kernel
theorem dX4_stepKeys_19 : decode cX4_stepKeys 19 = .ok (.istore 6, 2) := by decide +kernel
theorem dX4_stepKeys_21 : decode cX4_stepKeys 21 = .ok (.aload_n 0, 1) := by decide +kernel
theorem dX4_stepKeys_22 : decode cX4_stepKeys 22 = .ok (.getfield 15, 3) := by decide +kernel
theorem dX4_stepKeys_25 : decode cX4_stepKeys 25 = .ok (.iconst 0, 1) := by decide +kernel
theorem dX4_stepKeys_26 : decode cX4_stepKeys 26 = .ok (.aload_n 1, 1) := by decide +kernel
theorem dX4_stepKeys_27 : decode cX4_stepKeys 27 = .ok (.aload_n 2, 1) := by decide +kernel
theorem dX4_stepKeys_28 : decode cX4_stepKeys 28 = .ok (.iload_n 3, 1) := by decide +kernel
theorem dX4_stepKeys_29 : decode cX4_stepKeys 29 = .ok (.invokevirtual 88, 3) := by decide +kernel
theorem dX4_stepKeys_32 : decode cX4_stepKeys 32 = .ok (.ifCond .eq 10, 3) := by decide +kernel
theorem dX4_stepKeys_35 : decode cX4_stepKeys 35 = .ok (.bipush 127, 2) := by decide +kernel
theorem dX4_stepKeys_37 : decode cX4_stepKeys 37 = .ok (.iload_n 3, 1) := by decide +kernel
theorem dX4_stepKeys_38 : decode cX4_stepKeys 38 = .ok (.isub, 1) := by decide +kernel
theorem dX4_stepKeys_39 : decode cX4_stepKeys 39 = .ok (.goto 13, 3) := by decide +kernel
theorem dX4_stepKeys_42 : decode cX4_stepKeys 42 = .ok (.aload_n 0, 1) := by decide +kernel
theorem dX4_stepKeys_43 : decode cX4_stepKeys 43 = .ok (.getfield 15, 3) := by decide +kernel
theorem dX4_stepKeys_46 : decode cX4_stepKeys 46 = .ok (.iconst 0, 1) := by decide +kernel
theorem dX4_stepKeys_47 : decode cX4_stepKeys 47 = .ok (.iaload, 1) := by decide +kernel
theorem dX4_stepKeys_48 : decode cX4_stepKeys 48 = .ok (.sipush 128, 3) := by decide +kernel
theorem dX4_stepKeys_51 : decode cX4_stepKeys 51 = .ok (.iadd, 1) := by decide +kernel
theorem dX4_stepKeys_52 : decode cX4_stepKeys 52 = .ok (.iastore, 1) := by decide +kernel
theorem dX4_stepKeys_53 : decode cX4_stepKeys 53 = .ok (.iconst 1, 1) := by decide +kernel
theorem dX4_stepKeys_54 : decode cX4_stepKeys 54 = .ok (.istore 7, 2) := by decide +kernel
theorem dX4_stepKeys_56 : decode cX4_stepKeys 56 = .ok (.iload 7, 2) := by decide +kernel
theorem dX4_stepKeys_58 : decode cX4_stepKeys 58 = .ok (.bipush 60, 2) := by decide +kernel
theorem dX4_stepKeys_60 : decode cX4_stepKeys 60 = .ok (.if_icmp .gt 113, 3) := by decide +kernel
theorem dX4_stepKeys_63 : decode cX4_stepKeys 63 = .ok (.iload 7, 2) := by decide +kernel
theorem dX4_stepKeys_65 : decode cX4_stepKeys 65 = .ok (.aload_n 2, 1) := by decide +kernel
theorem dX4_stepKeys_66 : decode cX4_stepKeys 66 = .ok (.getfield 68, 3) := by decide +kernel
theorem dX4_stepKeys_69 : decode cX4_stepKeys 69 = .ok (.if_icmp .gt 104, 3) := by decide +kernel
theorem dX4_stepKeys_72 : decode cX4_stepKeys 72 = .ok (.lload 4, 2) := by decide +kernel
theorem dX4_stepKeys_74 : decode cX4_stepKeys 74 = .ok (.iload 7, 2) := by decide +kernel
theorem dX4_stepKeys_76 : decode cX4_stepKeys 76 = .ok (.iconst 1, 1) := by decide +kernel
theorem dX4_stepKeys_77 : decode cX4_stepKeys 77 = .ok (.isub, 1) := by decide +kernel
theorem dX4_stepKeys_78 : decode cX4_stepKeys 78 = .ok (.lushr, 1) := by decide +kernel
theorem dX4_stepKeys_79 : decode cX4_stepKeys 79 = .ok (.lconst 1, 1) := by decide +kernel
theorem dX4_stepKeys_80 : decode cX4_stepKeys 80 = .ok (.land, 1) := by decide +kernel
theorem dX4_stepKeys_81 : decode cX4_stepKeys 81 = .ok (.lconst 0, 1) := by decide +kernel
theorem dX4_stepKeys_82 : decode cX4_stepKeys 82 = .ok (.lcmp, 1) := by decide +kernel
theorem dX4_stepKeys_83 : decode cX4_stepKeys 83 = .ok (.ifCond .eq 7, 3) := by decide +kernel
theorem dX4_stepKeys_86 : decode cX4_stepKeys 86 = .ok (.iconst 1, 1) := by decide +kernel
theorem dX4_stepKeys_87 : decode cX4_stepKeys 87 = .ok (.goto 4, 3) := by decide +kernel
theorem dX4_stepKeys_90 : decode cX4_stepKeys 90 = .ok (.iconst 0, 1) := by decide +kernel
theorem dX4_stepKeys_91 : decode cX4_stepKeys 91 = .ok (.istore 8, 2) := by decide +kernel
theorem dX4_stepKeys_93 : decode cX4_stepKeys 93 = .ok (.aload_n 0, 1) := by decide +kernel
theorem dX4_stepKeys_94 : decode cX4_stepKeys 94 = .ok (.getfield 15, 3) := by decide +kernel
theorem dX4_stepKeys_97 : decode cX4_stepKeys 97 = .ok (.iload 7, 2) := by decide +kernel
theorem dX4_stepKeys_99 : decode cX4_stepKeys 99 = .ok (.iaload, 1) := by decide +kernel
theorem dX4_stepKeys_100 : decode cX4_stepKeys 100 = .ok (.sipush 128, 3) := by decide +kernel
theorem dX4_stepKeys_103 : decode cX4_stepKeys 103 = .ok (.iadd, 1) := by decide +kernel
theorem dX4_stepKeys_104 : decode cX4_stepKeys 104 = .ok (.istore 9, 2) := by decide +kernel
theorem dX4_stepKeys_106 : decode cX4_stepKeys 106 = .ok (.aload_n 0, 1) := by decide +kernel
theorem dX4_stepKeys_107 : decode cX4_stepKeys 107 = .ok (.getfield 15, 3) := by decide +kernel
theorem dX4_stepKeys_110 : decode cX4_stepKeys 110 = .ok (.iload 7, 2) := by decide +kernel
theorem dX4_stepKeys_112 : decode cX4_stepKeys 112 = .ok (.iconst 1, 1) := by decide +kernel
theorem dX4_stepKeys_113 : decode cX4_stepKeys 113 = .ok (.isub, 1) := by decide +kernel
theorem dX4_stepKeys_114 : decode cX4_stepKeys 114 = .ok (.iaload, 1) := by decide +kernel
theorem dX4_stepKeys_115 : decode cX4_stepKeys 115 = .ok (.sipush 128, 3) := by decide +kernel
theorem dX4_stepKeys_118 : decode cX4_stepKeys 118 = .ok (.iadd, 1) := by decide +kernel
theorem dX4_stepKeys_119 : decode cX4_stepKeys 119 = .ok (.istore 10, 2) := by decide +kernel
theorem dX4_stepKeys_121 : decode cX4_stepKeys 121 = .ok (.iload 8, 2) := by decide +kernel
theorem dX4_stepKeys_123 : decode cX4_stepKeys 123 = .ok (.ifCond .eq 8, 3) := by decide +kernel
theorem dX4_stepKeys_126 : decode cX4_stepKeys 126 = .ok (.iload 6, 2) := by decide +kernel
theorem dX4_stepKeys_128 : decode cX4_stepKeys 128 = .ok (.goto 9, 3) := by decide +kernel
theorem dX4_stepKeys_131 : decode cX4_stepKeys 131 = .ok (.iload 6, 2) := by decide +kernel
theorem dX4_stepKeys_133 : decode cX4_stepKeys 133 = .ok (.sipush 128, 3) := by decide +kernel
theorem dX4_stepKeys_136 : decode cX4_stepKeys 136 = .ok (.iadd, 1) := by decide +kernel
theorem dX4_stepKeys_137 : decode cX4_stepKeys 137 = .ok (.istore 11, 2) := by decide +kernel
theorem dX4_stepKeys_139 : decode cX4_stepKeys 139 = .ok (.aload_n 0, 1) := by decide +kernel
theorem dX4_stepKeys_140 : decode cX4_stepKeys 140 = .ok (.getfield 15, 3) := by decide +kernel
theorem dX4_stepKeys_143 : decode cX4_stepKeys 143 = .ok (.iload 7, 2) := by decide +kernel
theorem dX4_stepKeys_145 : decode cX4_stepKeys 145 = .ok (.iaload, 1) := by decide +kernel
theorem dX4_stepKeys_146 : decode cX4_stepKeys 146 = .ok (.istore 6, 2) := by decide +kernel
theorem dX4_stepKeys_148 : decode cX4_stepKeys 148 = .ok (.aload_n 0, 1) := by decide +kernel
theorem dX4_stepKeys_149 : decode cX4_stepKeys 149 = .ok (.getfield 15, 3) := by decide +kernel
theorem dX4_stepKeys_152 : decode cX4_stepKeys 152 = .ok (.iload 7, 2) := by decide +kernel
theorem dX4_stepKeys_154 : decode cX4_stepKeys 154 = .ok (.iload 11, 2) := by decide +kernel
theorem dX4_stepKeys_156 : decode cX4_stepKeys 156 = .ok (.iload 9, 2) := by decide +kernel
theorem dX4_stepKeys_158 : decode cX4_stepKeys 158 = .ok (.iload 10, 2) := by decide +kernel
theorem dX4_stepKeys_160 : decode cX4_stepKeys 160 = .ok (.invokestatic 103, 3) := by decide +kernel
theorem dX4_stepKeys_163 : decode cX4_stepKeys 163 = .ok (.invokestatic 103, 3) := by decide +kernel
theorem dX4_stepKeys_166 : decode cX4_stepKeys 166 = .ok (.iastore, 1) := by decide +kernel
theorem dX4_stepKeys_167 : decode cX4_stepKeys 167 = .ok (.iinc 7 1, 3) := by decide +kernel
theorem dX4_stepKeys_170 : decode cX4_stepKeys 170 = .ok (.goto (-114), 3) := by decide +kernel
theorem dX4_stepKeys_173 : decode cX4_stepKeys 173 = .ok (.return_, 1) := by decide +kernel
theorem dX4_noteBeginning_0 : decode cX4_noteBeginning 0 = .ok (.aload_n 1, 1) := by decide +kernel
theorem dX4_noteBeginning_1 : decode cX4_noteBeginning 1 = .ok (.getfield 68, 3) := by decide +kernel
theorem dX4_noteBeginning_4 : decode cX4_noteBeginning 4 = .ok (.istore_n 3, 1) := by decide +kernel
theorem dX4_noteBeginning_5 : decode cX4_noteBeginning 5 = .ok (.iload_n 3, 1) := by decide +kernel
theorem dX4_noteBeginning_6 : decode cX4_noteBeginning 6 = .ok (.ifCond .lt 38, 3) := by decide +kernel
theorem dX4_noteBeginning_9 : decode cX4_noteBeginning 9 = .ok (.iload_n 3, 1) := by decide +kernel
theorem dX4_noteBeginning_10 : decode cX4_noteBeginning 10 = .ok (.bipush 60, 2) := by decide +kernel
theorem dX4_noteBeginning_12 : decode cX4_noteBeginning 12 = .ok (.if_icmp .gt 32, 3) := by decide +kernel
theorem dX4_noteBeginning_15 : decode cX4_noteBeginning 15 = .ok (.iload_n 2, 1) := by decide +kernel
theorem dX4_noteBeginning_16 : decode cX4_noteBeginning 16 = .ok (.ifCond .lt 28, 3) := by decide +kernel
theorem dX4_noteBeginning_19 : decode cX4_noteBeginning 19 = .ok (.iload_n 2, 1) := by decide +kernel
theorem dX4_noteBeginning_20 : decode cX4_noteBeginning 20 = .ok (.bipush 120, 2) := by decide +kernel
theorem dX4_noteBeginning_22 : decode cX4_noteBeginning 22 = .ok (.if_icmp .gt 22, 3) := by decide +kernel
theorem dX4_noteBeginning_25 : decode cX4_noteBeginning 25 = .ok (.aload_n 0, 1) := by decide +kernel
theorem dX4_noteBeginning_26 : decode cX4_noteBeginning 26 = .ok (.getfield 22, 3) := by decide +kernel
theorem dX4_noteBeginning_29 : decode cX4_noteBeginning 29 = .ok (.iload_n 2, 1) := by decide +kernel
theorem dX4_noteBeginning_30 : decode cX4_noteBeginning 30 = .ok (.bipush 127, 2) := by decide +kernel
theorem dX4_noteBeginning_32 : decode cX4_noteBeginning 32 = .ok (.aload_n 0, 1) := by decide +kernel
theorem dX4_noteBeginning_33 : decode cX4_noteBeginning 33 = .ok (.getfield 15, 3) := by decide +kernel
theorem dX4_noteBeginning_36 : decode cX4_noteBeginning 36 = .ok (.iload_n 3, 1) := by decide +kernel
theorem dX4_noteBeginning_37 : decode cX4_noteBeginning 37 = .ok (.iaload, 1) := by decide +kernel
theorem dX4_noteBeginning_38 : decode cX4_noteBeginning 38 = .ok (.sipush 128, 3) := by decide +kernel
theorem dX4_noteBeginning_41 : decode cX4_noteBeginning 41 = .ok (.irem, 1) := by decide +kernel
theorem dX4_noteBeginning_42 : decode cX4_noteBeginning 42 = .ok (.isub, 1) := by decide +kernel
theorem dX4_noteBeginning_43 : decode cX4_noteBeginning 43 = .ok (.iastore, 1) := by decide +kernel
theorem dX4_noteBeginning_44 : decode cX4_noteBeginning 44 = .ok (.return_, 1) := by decide +kernel
theorem dX4_tell_0 : decode cX4_tell 0 = .ok (.iload_n 1, 1) := by decide +kernel
theorem dX4_tell_1 : decode cX4_tell 1 = .ok (.ifCond .lt 17, 3) := by decide +kernel
theorem dX4_tell_4 : decode cX4_tell 4 = .ok (.iload_n 1, 1) := by decide +kernel
theorem dX4_tell_5 : decode cX4_tell 5 = .ok (.aload_n 0, 1) := by decide +kernel
theorem dX4_tell_6 : decode cX4_tell 6 = .ok (.getfield 36, 3) := by decide +kernel
theorem dX4_tell_9 : decode cX4_tell 9 = .ok (.if_icmp .ge 9, 3) := by decide +kernel
theorem dX4_tell_12 : decode cX4_tell 12 = .ok (.iload_n 1, 1) := by decide +kernel
theorem dX4_tell_13 : decode cX4_tell 13 = .ok (.bipush 120, 2) := by decide +kernel
theorem dX4_tell_15 : decode cX4_tell 15 = .ok (.if_icmp .le 6, 3) := by decide +kernel
theorem dX4_tell_18 : decode cX4_tell 18 = .ok (.bipush (-5), 2) := by decide +kernel
theorem dX4_tell_20 : decode cX4_tell 20 = .ok (.ireturn, 1) := by decide +kernel
theorem dX4_tell_21 : decode cX4_tell 21 = .ok (.aload_n 0, 1) := by decide +kernel
theorem dX4_tell_22 : decode cX4_tell 22 = .ok (.getfield 33, 3) := by decide +kernel
theorem dX4_tell_25 : decode cX4_tell 25 = .ok (.iload_n 1, 1) := by decide +kernel
theorem dX4_tell_26 : decode cX4_tell 26 = .ok (.iaload, 1) := by decide +kernel
theorem dX4_tell_27 : decode cX4_tell 27 = .ok (.istore_n 3, 1) := by decide +kernel
theorem dX4_tell_28 : decode cX4_tell 28 = .ok (.iload_n 2, 1) := by decide +kernel
theorem dX4_tell_29 : decode cX4_tell 29 = .ok (.ifCond .eq 13, 3) := by decide +kernel
theorem dX4_tell_32 : decode cX4_tell 32 = .ok (.iload_n 3, 1) := by decide +kernel
theorem dX4_tell_33 : decode cX4_tell 33 = .ok (.ifCond .lt 9, 3) := by decide +kernel
theorem dX4_tell_36 : decode cX4_tell 36 = .ok (.iload_n 3, 1) := by decide +kernel
theorem dX4_tell_37 : decode cX4_tell 37 = .ok (.bipush 120, 2) := by decide +kernel
theorem dX4_tell_39 : decode cX4_tell 39 = .ok (.if_icmp .le 5, 3) := by decide +kernel
theorem dX4_tell_42 : decode cX4_tell 42 = .ok (.iload_n 3, 1) := by decide +kernel
theorem dX4_tell_43 : decode cX4_tell 43 = .ok (.ireturn, 1) := by decide +kernel
theorem dX4_tell_44 : decode cX4_tell 44 = .ok (.iload_n 2, 1) := by decide +kernel
theorem dX4_tell_45 : decode cX4_tell 45 = .ok (.iconst 1, 1) := by decide +kernel
theorem dX4_tell_46 : decode cX4_tell 46 = .ok (.if_icmp .ne 12, 3) := by decide +kernel
theorem dX4_tell_49 : decode cX4_tell 49 = .ok (.aload_n 0, 1) := by decide +kernel
theorem dX4_tell_50 : decode cX4_tell 50 = .ok (.getfield 19, 3) := by decide +kernel
theorem dX4_tell_53 : decode cX4_tell 53 = .ok (.iload_n 3, 1) := by decide +kernel
theorem dX4_tell_54 : decode cX4_tell 54 = .ok (.iaload, 1) := by decide +kernel
theorem dX4_tell_55 : decode cX4_tell 55 = .ok (.goto 9, 3) := by decide +kernel
theorem dX4_tell_58 : decode cX4_tell 58 = .ok (.aload_n 0, 1) := by decide +kernel
theorem dX4_tell_59 : decode cX4_tell 59 = .ok (.getfield 22, 3) := by decide +kernel
theorem dX4_tell_62 : decode cX4_tell 62 = .ok (.iload_n 3, 1) := by decide +kernel
theorem dX4_tell_63 : decode cX4_tell 63 = .ok (.iaload, 1) := by decide +kernel
theorem dX4_tell_64 : decode cX4_tell 64 = .ok (.ireturn, 1) := by decide +kernel
set_option maxRecDepth 20000 in
theorem ggX4_fewestSlips_X4_tell : GoodIn wsX4_fewestSlips wsX4_tell := goodIn_r _ [6, 1, 7, 8, 9, 10, 11, 12, 13, 14, 15, 16, 17] (by decide +kernel) (by decide +kernel)
set_option maxRecDepth 20000 in
theorem gX4_fewestSlips_X4_tell : GoodIn wsX4_fewestSlips (wsV RX4 62 RX4 yX4_tell wsX4_tell) := goodIn_app (goodIn_of _ (by decide +kernel)) ggX4_fewestSlips_X4_tell
theorem dX4_fewestSlips_0 : decode cX4_fewestSlips 0 = .ok (.bipush (-5), 2) := by decide +kernel
theorem dX4_fewestSlips_2 : decode cX4_fewestSlips 2 = .ok (.istore_n 1, 1) := by decide +kernel
theorem dX4_fewestSlips_3 : decode cX4_fewestSlips 3 = .ok (.iconst 0, 1) := by decide +kernel
theorem dX4_fewestSlips_4 : decode cX4_fewestSlips 4 = .ok (.istore_n 2, 1) := by decide +kernel
theorem dX4_fewestSlips_5 : decode cX4_fewestSlips 5 = .ok (.iload_n 2, 1) := by decide +kernel
theorem dX4_fewestSlips_6 : decode cX4_fewestSlips 6 = .ok (.aload_n 0, 1) := by decide +kernel
theorem dX4_fewestSlips_7 : decode cX4_fewestSlips 7 = .ok (.getfield 36, 3) := by decide +kernel
theorem dX4_fewestSlips_10 : decode cX4_fewestSlips 10 = .ok (.if_icmp .ge 29, 3) := by decide +kernel
theorem dX4_fewestSlips_13 : decode cX4_fewestSlips 13 = .ok (.aload_n 0, 1) := by decide +kernel
theorem dX4_fewestSlips_14 : decode cX4_fewestSlips 14 = .ok (.iload_n 2, 1) := by decide +kernel
theorem dX4_fewestSlips_15 : decode cX4_fewestSlips 15 = .ok (.iconst 1, 1) := by decide +kernel
theorem dX4_fewestSlips_16 : decode cX4_fewestSlips 16 = .ok (.invokevirtual 62, 3) := by decide +kernel
theorem dX4_fewestSlips_19 : decode cX4_fewestSlips 19 = .ok (.istore_n 3, 1) := by decide +kernel
theorem dX4_fewestSlips_20 : decode cX4_fewestSlips 20 = .ok (.iload_n 1, 1) := by decide +kernel
theorem dX4_fewestSlips_21 : decode cX4_fewestSlips 21 = .ok (.bipush (-5), 2) := by decide +kernel
theorem dX4_fewestSlips_23 : decode cX4_fewestSlips 23 = .ok (.if_icmp .eq 8, 3) := by decide +kernel
theorem dX4_fewestSlips_26 : decode cX4_fewestSlips 26 = .ok (.iload_n 3, 1) := by decide +kernel
theorem dX4_fewestSlips_27 : decode cX4_fewestSlips 27 = .ok (.iload_n 1, 1) := by decide +kernel
theorem dX4_fewestSlips_28 : decode cX4_fewestSlips 28 = .ok (.if_icmp .ge 5, 3) := by decide +kernel
theorem dX4_fewestSlips_31 : decode cX4_fewestSlips 31 = .ok (.iload_n 3, 1) := by decide +kernel
theorem dX4_fewestSlips_32 : decode cX4_fewestSlips 32 = .ok (.istore_n 1, 1) := by decide +kernel
theorem dX4_fewestSlips_33 : decode cX4_fewestSlips 33 = .ok (.iinc 2 1, 3) := by decide +kernel
theorem dX4_fewestSlips_36 : decode cX4_fewestSlips 36 = .ok (.goto (-31), 3) := by decide +kernel
theorem dX4_fewestSlips_39 : decode cX4_fewestSlips 39 = .ok (.iload_n 1, 1) := by decide +kernel
theorem dX4_fewestSlips_40 : decode cX4_fewestSlips 40 = .ok (.ireturn, 1) := by decide +kernel
set_option maxRecDepth 20000 in
theorem ggX4_firstWithFewest_X4_fewestSlips : GoodIn wsX4_firstWithFewest wsX4_fewestSlips := goodIn_r _ [6, 1, 7, 8, 9, 5, 10, 11, 12, 13, 14, 15, 16, 17, 18, 19, 20, 21] (by decide +kernel) (by decide +kernel)
set_option maxRecDepth 20000 in
theorem gX4_firstWithFewest_X4_fewestSlips : GoodIn wsX4_firstWithFewest (wsV RX4 108 RX4 yX4_fewestSlips wsX4_fewestSlips) := goodIn_app (goodIn_of _ (by decide +kernel)) ggX4_firstWithFewest_X4_fewestSlips
set_option maxRecDepth 20000 in
theorem ggX4_firstWithFewest_X4_tell : GoodIn wsX4_firstWithFewest wsX4_tell := goodIn_r _ [10, 1, 11, 12, 13, 14, 15, 16, 17, 18, 19, 20, 21] (by decide +kernel) (by decide +kernel)
set_option maxRecDepth 20000 in
theorem gX4_firstWithFewest_X4_tell : GoodIn wsX4_firstWithFewest (wsV RX4 62 RX4 yX4_tell wsX4_tell) := goodIn_app (goodIn_of _ (by decide +kernel)) ggX4_firstWithFewest_X4_tell
theorem dX4_firstWithFewest_0 : decode cX4_firstWithFewest 0 = .ok (.aload_n 0, 1) := by decide +kernel
theorem dX4_firstWithFewest_1 : decode cX4_firstWithFewest 1 = .ok (.invokevirtual 108, 3) := by decide +kernel
theorem dX4_firstWithFewest_4 : decode cX4_firstWithFewest 4 = .ok (.istore_n 1, 1) := by decide +kernel
theorem dX4_firstWithFewest_5 : decode cX4_firstWithFewest 5 = .ok (.iconst 0, 1) := by decide +kernel
theorem dX4_firstWithFewest_6 : decode cX4_firstWithFewest 6 = .ok (.istore_n 2, 1) := by decide +kernel
theorem dX4_firstWithFewest_7 : decode cX4_firstWithFewest 7 = .ok (.iload_n 2, 1) := by decide +kernel
theorem dX4_firstWithFewest_8 : decode cX4_firstWithFewest 8 = .ok (.aload_n 0, 1) := by decide +kernel
theorem dX4_firstWithFewest_9 : decode cX4_firstWithFewest 9 = .ok (.getfield 36, 3) := by decide +kernel
theorem dX4_firstWithFewest_12 : decode cX4_firstWithFewest 12 = .ok (.if_icmp .ge 26, 3) := by decide +kernel
theorem dX4_firstWithFewest_15 : decode cX4_firstWithFewest 15 = .ok (.aload_n 0, 1) := by decide +kernel
theorem dX4_firstWithFewest_16 : decode cX4_firstWithFewest 16 = .ok (.iload_n 2, 1) := by decide +kernel
theorem dX4_firstWithFewest_17 : decode cX4_firstWithFewest 17 = .ok (.iconst 1, 1) := by decide +kernel
theorem dX4_firstWithFewest_18 : decode cX4_firstWithFewest 18 = .ok (.invokevirtual 62, 3) := by decide +kernel
theorem dX4_firstWithFewest_21 : decode cX4_firstWithFewest 21 = .ok (.iload_n 1, 1) := by decide +kernel
theorem dX4_firstWithFewest_22 : decode cX4_firstWithFewest 22 = .ok (.if_icmp .ne 10, 3) := by decide +kernel
theorem dX4_firstWithFewest_25 : decode cX4_firstWithFewest 25 = .ok (.aload_n 0, 1) := by decide +kernel
theorem dX4_firstWithFewest_26 : decode cX4_firstWithFewest 26 = .ok (.iload_n 2, 1) := by decide +kernel
theorem dX4_firstWithFewest_27 : decode cX4_firstWithFewest 27 = .ok (.iconst 0, 1) := by decide +kernel
theorem dX4_firstWithFewest_28 : decode cX4_firstWithFewest 28 = .ok (.invokevirtual 62, 3) := by decide +kernel
theorem dX4_firstWithFewest_31 : decode cX4_firstWithFewest 31 = .ok (.ireturn, 1) := by decide +kernel
theorem dX4_firstWithFewest_32 : decode cX4_firstWithFewest 32 = .ok (.iinc 2 1, 3) := by decide +kernel
theorem dX4_firstWithFewest_35 : decode cX4_firstWithFewest 35 = .ok (.goto (-28), 3) := by decide +kernel
theorem dX4_firstWithFewest_38 : decode cX4_firstWithFewest 38 = .ok (.bipush (-5), 2) := by decide +kernel
theorem dX4_firstWithFewest_40 : decode cX4_firstWithFewest 40 = .ok (.ireturn, 1) := by decide +kernel
set_option maxRecDepth 20000 in
theorem ggX4_sumOfShares_X4_tell : GoodIn wsX4_sumOfShares wsX4_tell := goodIn_r _ [6, 1, 7, 8, 9, 10, 11, 12, 13, 14, 15, 16, 17] (by decide +kernel) (by decide +kernel)
set_option maxRecDepth 20000 in
theorem gX4_sumOfShares_X4_tell : GoodIn wsX4_sumOfShares (wsV RX4 62 RX4 yX4_tell wsX4_tell) := goodIn_app (goodIn_of _ (by decide +kernel)) ggX4_sumOfShares_X4_tell
theorem dX4_sumOfShares_0 : decode cX4_sumOfShares 0 = .ok (.dconst 0, 1) := by decide +kernel
theorem dX4_sumOfShares_1 : decode cX4_sumOfShares 1 = .ok (.dstore_n 1, 1) := by decide +kernel
theorem dX4_sumOfShares_2 : decode cX4_sumOfShares 2 = .ok (.iconst 0, 1) := by decide +kernel
theorem dX4_sumOfShares_3 : decode cX4_sumOfShares 3 = .ok (.istore_n 3, 1) := by decide +kernel
theorem dX4_sumOfShares_4 : decode cX4_sumOfShares 4 = .ok (.iload_n 3, 1) := by decide +kernel
theorem dX4_sumOfShares_5 : decode cX4_sumOfShares 5 = .ok (.aload_n 0, 1) := by decide +kernel
theorem dX4_sumOfShares_6 : decode cX4_sumOfShares 6 = .ok (.getfield 36, 3) := by decide +kernel
theorem dX4_sumOfShares_9 : decode cX4_sumOfShares 9 = .ok (.if_icmp .ge 32, 3) := by decide +kernel
theorem dX4_sumOfShares_12 : decode cX4_sumOfShares 12 = .ok (.iconst 1, 1) := by decide +kernel
theorem dX4_sumOfShares_13 : decode cX4_sumOfShares 13 = .ok (.aload_n 0, 1) := by decide +kernel
theorem dX4_sumOfShares_14 : decode cX4_sumOfShares 14 = .ok (.iload_n 3, 1) := by decide +kernel
theorem dX4_sumOfShares_15 : decode cX4_sumOfShares 15 = .ok (.iconst 1, 1) := by decide +kernel
theorem dX4_sumOfShares_16 : decode cX4_sumOfShares 16 = .ok (.invokevirtual 62, 3) := by decide +kernel
theorem dX4_sumOfShares_19 : decode cX4_sumOfShares 19 = .ok (.iadd, 1) := by decide +kernel
theorem dX4_sumOfShares_20 : decode cX4_sumOfShares 20 = .ok (.istore 4, 2) := by decide +kernel
theorem dX4_sumOfShares_22 : decode cX4_sumOfShares 22 = .ok (.iload 4, 2) := by decide +kernel
theorem dX4_sumOfShares_24 : decode cX4_sumOfShares 24 = .ok (.ifCond .le 11, 3) := by decide +kernel
theorem dX4_sumOfShares_27 : decode cX4_sumOfShares 27 = .ok (.dload_n 1, 1) := by decide +kernel
theorem dX4_sumOfShares_28 : decode cX4_sumOfShares 28 = .ok (.dconst 1, 1) := by decide +kernel
theorem dX4_sumOfShares_29 : decode cX4_sumOfShares 29 = .ok (.iload 4, 2) := by decide +kernel
theorem dX4_sumOfShares_31 : decode cX4_sumOfShares 31 = .ok (.i2d, 1) := by decide +kernel
theorem dX4_sumOfShares_32 : decode cX4_sumOfShares 32 = .ok (.ddiv, 1) := by decide +kernel
theorem dX4_sumOfShares_33 : decode cX4_sumOfShares 33 = .ok (.dadd, 1) := by decide +kernel
theorem dX4_sumOfShares_34 : decode cX4_sumOfShares 34 = .ok (.dstore_n 1, 1) := by decide +kernel
theorem dX4_sumOfShares_35 : decode cX4_sumOfShares 35 = .ok (.iinc 3 1, 3) := by decide +kernel
theorem dX4_sumOfShares_38 : decode cX4_sumOfShares 38 = .ok (.goto (-34), 3) := by decide +kernel
theorem dX4_sumOfShares_41 : decode cX4_sumOfShares 41 = .ok (.dload_n 1, 1) := by decide +kernel
theorem dX4_sumOfShares_42 : decode cX4_sumOfShares 42 = .ok (.dreturn, 1) := by decide +kernel
set_option maxRecDepth 20000 in
theorem ggX4_lengthWithParts_X4_tell : GoodIn wsX4_lengthWithParts wsX4_tell := goodIn_r _ [6, 1, 7, 8, 9, 10, 11, 12, 13, 14, 15, 16, 17] (by decide +kernel) (by decide +kernel)
set_option maxRecDepth 20000 in
theorem gX4_lengthWithParts_X4_tell : GoodIn wsX4_lengthWithParts (wsV RX4 62 RX4 yX4_tell wsX4_tell) := goodIn_app (goodIn_of _ (by decide +kernel)) ggX4_lengthWithParts_X4_tell
theorem dX4_lengthWithParts_0 : decode cX4_lengthWithParts 0 = .ok (.iload_n 1, 1) := by decide +kernel
theorem dX4_lengthWithParts_1 : decode cX4_lengthWithParts 1 = .ok (.istore_n 2, 1) := by decide +kernel
theorem dX4_lengthWithParts_2 : decode cX4_lengthWithParts 2 = .ok (.iconst 0, 1) := by decide +kernel
theorem dX4_lengthWithParts_3 : decode cX4_lengthWithParts 3 = .ok (.istore_n 3, 1) := by decide +kernel
theorem dX4_lengthWithParts_4 : decode cX4_lengthWithParts 4 = .ok (.iload_n 3, 1) := by decide +kernel
theorem dX4_lengthWithParts_5 : decode cX4_lengthWithParts 5 = .ok (.aload_n 0, 1) := by decide +kernel
theorem dX4_lengthWithParts_6 : decode cX4_lengthWithParts 6 = .ok (.getfield 36, 3) := by decide +kernel
theorem dX4_lengthWithParts_9 : decode cX4_lengthWithParts 9 = .ok (.if_icmp .ge 27, 3) := by decide +kernel
theorem dX4_lengthWithParts_12 : decode cX4_lengthWithParts 12 = .ok (.iload_n 2, 1) := by decide +kernel
theorem dX4_lengthWithParts_13 : decode cX4_lengthWithParts 13 = .ok (.iconst 1, 1) := by decide +kernel
theorem dX4_lengthWithParts_14 : decode cX4_lengthWithParts 14 = .ok (.aload_n 0, 1) := by decide +kernel
theorem dX4_lengthWithParts_15 : decode cX4_lengthWithParts 15 = .ok (.iload_n 3, 1) := by decide +kernel
theorem dX4_lengthWithParts_16 : decode cX4_lengthWithParts 16 = .ok (.iconst 0, 1) := by decide +kernel
theorem dX4_lengthWithParts_17 : decode cX4_lengthWithParts 17 = .ok (.invokevirtual 62, 3) := by decide +kernel
theorem dX4_lengthWithParts_20 : decode cX4_lengthWithParts 20 = .ok (.aload_n 0, 1) := by decide +kernel
theorem dX4_lengthWithParts_21 : decode cX4_lengthWithParts 21 = .ok (.iload_n 3, 1) := by decide +kernel
theorem dX4_lengthWithParts_22 : decode cX4_lengthWithParts 22 = .ok (.iconst 2, 1) := by decide +kernel
theorem dX4_lengthWithParts_23 : decode cX4_lengthWithParts 23 = .ok (.invokevirtual 62, 3) := by decide +kernel
theorem dX4_lengthWithParts_26 : decode cX4_lengthWithParts 26 = .ok (.isub, 1) := by decide +kernel
theorem dX4_lengthWithParts_27 : decode cX4_lengthWithParts 27 = .ok (.isub, 1) := by decide +kernel
theorem dX4_lengthWithParts_28 : decode cX4_lengthWithParts 28 = .ok (.iadd, 1) := by decide +kernel
theorem dX4_lengthWithParts_29 : decode cX4_lengthWithParts 29 = .ok (.istore_n 2, 1) := by decide +kernel
theorem dX4_lengthWithParts_30 : decode cX4_lengthWithParts 30 = .ok (.iinc 3 1, 3) := by decide +kernel
theorem dX4_lengthWithParts_33 : decode cX4_lengthWithParts 33 = .ok (.goto (-29), 3) := by decide +kernel
theorem dX4_lengthWithParts_36 : decode cX4_lengthWithParts 36 = .ok (.iload_n 2, 1) := by decide +kernel
theorem dX4_lengthWithParts_37 : decode cX4_lengthWithParts 37 = .ok (.ireturn, 1) := by decide +kernel
set_option maxRecDepth 20000 in
theorem ggX4_putLetterForParts_X4_tell : GoodIn wsX4_putLetterForParts wsX4_tell := goodIn_r _ [11, 6, 12, 13, 14, 27, 28, 29, 30, 31, 32, 33, 34] (by decide +kernel) (by decide +kernel)
set_option maxRecDepth 20000 in
theorem gX4_putLetterForParts_X4_tell : GoodIn wsX4_putLetterForParts (wsV RX4 62 RX4 yX4_tell wsX4_tell) := goodIn_app (goodIn_of _ (by decide +kernel)) ggX4_putLetterForParts_X4_tell
set_option maxRecDepth 20000 in
theorem ggX4_putLetterForParts_X5_append : GoodIn wsX4_putLetterForParts wsX5_append := goodIn_r _ [19, 20, 21, 22, 23, 24, 25, 26] (by decide +kernel) (by decide +kernel)
set_option maxRecDepth 20000 in
theorem gX4_putLetterForParts_X5_append : GoodIn wsX4_putLetterForParts (wsV RX4 121 RX5 yX5_append wsX5_append) := goodIn_app (goodIn_of _ (by decide +kernel)) ggX4_putLetterForParts_X5_append
theorem dX4_putLetterForParts_0 : decode cX4_putLetterForParts 0 = .ok (.aload_n 1, 1) := by decide +kernel
theorem dX4_putLetterForParts_1 : decode cX4_putLetterForParts 1 = .ok (.getfield 112, 3) := by decide +kernel
theorem dX4_putLetterForParts_4 : decode cX4_putLetterForParts 4 = .ok (.iconst 0, 1) := by decide +kernel
theorem dX4_putLetterForParts_5 : decode cX4_putLetterForParts 5 = .ok (.aload_n 0, 1) := by decide +kernel
theorem dX4_putLetterForParts_6 : decode cX4_putLetterForParts 6 = .ok (.getfield 29, 3) := by decide +kernel
theorem dX4_putLetterForParts_9 : decode cX4_putLetterForParts 9 = .ok (.iconst 0, 1) := by decide +kernel
theorem dX4_putLetterForParts_10 : decode cX4_putLetterForParts 10 = .ok (.bipush 120, 2) := by decide +kernel
theorem dX4_putLetterForParts_12 : decode cX4_putLetterForParts 12 = .ok (.invokestatic 115, 3) := by decide +kernel
theorem dX4_putLetterForParts_15 : decode cX4_putLetterForParts 15 = .ok (.aload_n 1, 1) := by decide +kernel
theorem dX4_putLetterForParts_16 : decode cX4_putLetterForParts 16 = .ok (.getfield 48, 3) := by decide +kernel
theorem dX4_putLetterForParts_19 : decode cX4_putLetterForParts 19 = .ok (.istore_n 3, 1) := by decide +kernel
theorem dX4_putLetterForParts_20 : decode cX4_putLetterForParts 20 = .ok (.iconst 0, 1) := by decide +kernel
theorem dX4_putLetterForParts_21 : decode cX4_putLetterForParts 21 = .ok (.istore 4, 2) := by decide +kernel
theorem dX4_putLetterForParts_23 : decode cX4_putLetterForParts 23 = .ok (.aload_n 1, 1) := by decide +kernel
theorem dX4_putLetterForParts_24 : decode cX4_putLetterForParts 24 = .ok (.iconst 0, 1) := by decide +kernel
theorem dX4_putLetterForParts_25 : decode cX4_putLetterForParts 25 = .ok (.putfield 48, 3) := by decide +kernel
theorem dX4_putLetterForParts_28 : decode cX4_putLetterForParts 28 = .ok (.iconst 0, 1) := by decide +kernel
theorem dX4_putLetterForParts_29 : decode cX4_putLetterForParts 29 = .ok (.istore 5, 2) := by decide +kernel
theorem dX4_putLetterForParts_31 : decode cX4_putLetterForParts 31 = .ok (.iload 5, 2) := by decide +kernel
theorem dX4_putLetterForParts_33 : decode cX4_putLetterForParts 33 = .ok (.aload_n 0, 1) := by decide +kernel
theorem dX4_putLetterForParts_34 : decode cX4_putLetterForParts 34 = .ok (.getfield 36, 3) := by decide +kernel
theorem dX4_putLetterForParts_37 : decode cX4_putLetterForParts 37 = .ok (.if_icmp .gt 102, 3) := by decide +kernel
theorem dX4_putLetterForParts_40 : decode cX4_putLetterForParts 40 = .ok (.iload 5, 2) := by decide +kernel
theorem dX4_putLetterForParts_42 : decode cX4_putLetterForParts 42 = .ok (.aload_n 0, 1) := by decide +kernel
theorem dX4_putLetterForParts_43 : decode cX4_putLetterForParts 43 = .ok (.getfield 36, 3) := by decide +kernel
theorem dX4_putLetterForParts_46 : decode cX4_putLetterForParts 46 = .ok (.if_icmp .ge 7, 3) := by decide +kernel
theorem dX4_putLetterForParts_49 : decode cX4_putLetterForParts 49 = .ok (.iconst 1, 1) := by decide +kernel
theorem dX4_putLetterForParts_50 : decode cX4_putLetterForParts 50 = .ok (.goto 4, 3) := by decide +kernel
theorem dX4_putLetterForParts_53 : decode cX4_putLetterForParts 53 = .ok (.iconst 0, 1) := by decide +kernel
theorem dX4_putLetterForParts_54 : decode cX4_putLetterForParts 54 = .ok (.istore 6, 2) := by decide +kernel
theorem dX4_putLetterForParts_56 : decode cX4_putLetterForParts 56 = .ok (.iload 6, 2) := by decide +kernel
theorem dX4_putLetterForParts_58 : decode cX4_putLetterForParts 58 = .ok (.ifCond .eq 13, 3) := by decide +kernel
theorem dX4_putLetterForParts_61 : decode cX4_putLetterForParts 61 = .ok (.aload_n 0, 1) := by decide +kernel
theorem dX4_putLetterForParts_62 : decode cX4_putLetterForParts 62 = .ok (.iload 5, 2) := by decide +kernel
theorem dX4_putLetterForParts_64 : decode cX4_putLetterForParts 64 = .ok (.iconst 2, 1) := by decide +kernel
theorem dX4_putLetterForParts_65 : decode cX4_putLetterForParts 65 = .ok (.invokevirtual 62, 3) := by decide +kernel
theorem dX4_putLetterForParts_68 : decode cX4_putLetterForParts 68 = .ok (.goto 4, 3) := by decide +kernel
theorem dX4_putLetterForParts_71 : decode cX4_putLetterForParts 71 = .ok (.iload_n 3, 1) := by decide +kernel
theorem dX4_putLetterForParts_72 : decode cX4_putLetterForParts 72 = .ok (.istore 7, 2) := by decide +kernel
theorem dX4_putLetterForParts_74 : decode cX4_putLetterForParts 74 = .ok (.iload 4, 2) := by decide +kernel
theorem dX4_putLetterForParts_76 : decode cX4_putLetterForParts 76 = .ok (.istore 8, 2) := by decide +kernel
theorem dX4_putLetterForParts_78 : decode cX4_putLetterForParts 78 = .ok (.iload 8, 2) := by decide +kernel
theorem dX4_putLetterForParts_80 : decode cX4_putLetterForParts 80 = .ok (.ifCond .lt 34, 3) := by decide +kernel
theorem dX4_putLetterForParts_83 : decode cX4_putLetterForParts 83 = .ok (.iload 8, 2) := by decide +kernel
theorem dX4_putLetterForParts_85 : decode cX4_putLetterForParts 85 = .ok (.iload 7, 2) := by decide +kernel
theorem dX4_putLetterForParts_87 : decode cX4_putLetterForParts 87 = .ok (.if_icmp .ge 27, 3) := by decide +kernel
theorem dX4_putLetterForParts_90 : decode cX4_putLetterForParts 90 = .ok (.iload 8, 2) := by decide +kernel
theorem dX4_putLetterForParts_92 : decode cX4_putLetterForParts 92 = .ok (.bipush 120, 2) := by decide +kernel
theorem dX4_putLetterForParts_94 : decode cX4_putLetterForParts 94 = .ok (.if_icmp .ge 20, 3) := by decide +kernel
theorem dX4_putLetterForParts_97 : decode cX4_putLetterForParts 97 = .ok (.aload_n 1, 1) := by decide +kernel
theorem dX4_putLetterForParts_98 : decode cX4_putLetterForParts 98 = .ok (.aload_n 0, 1) := by decide +kernel
theorem dX4_putLetterForParts_99 : decode cX4_putLetterForParts 99 = .ok (.getfield 29, 3) := by decide +kernel
theorem dX4_putLetterForParts_102 : decode cX4_putLetterForParts 102 = .ok (.iload 8, 2) := by decide +kernel
theorem dX4_putLetterForParts_104 : decode cX4_putLetterForParts 104 = .ok (.caload, 1) := by decide +kernel
theorem dX4_putLetterForParts_105 : decode cX4_putLetterForParts 105 = .ok (.invokevirtual 121, 3) := by decide +kernel
theorem dX4_putLetterForParts_108 : decode cX4_putLetterForParts 108 = .ok (.iinc 8 1, 3) := by decide +kernel
theorem dX4_putLetterForParts_111 : decode cX4_putLetterForParts 111 = .ok (.goto (-33), 3) := by decide +kernel
theorem dX4_putLetterForParts_114 : decode cX4_putLetterForParts 114 = .ok (.iload 6, 2) := by decide +kernel
theorem dX4_putLetterForParts_116 : decode cX4_putLetterForParts 116 = .ok (.ifCond .eq 17, 3) := by decide +kernel
theorem dX4_putLetterForParts_119 : decode cX4_putLetterForParts 119 = .ok (.aload_n 1, 1) := by decide +kernel
theorem dX4_putLetterForParts_120 : decode cX4_putLetterForParts 120 = .ok (.iload_n 2, 1) := by decide +kernel
theorem dX4_putLetterForParts_121 : decode cX4_putLetterForParts 121 = .ok (.invokevirtual 121, 3) := by decide +kernel
theorem dX4_putLetterForParts_124 : decode cX4_putLetterForParts 124 = .ok (.aload_n 0, 1) := by decide +kernel
theorem dX4_putLetterForParts_125 : decode cX4_putLetterForParts 125 = .ok (.iload 5, 2) := by decide +kernel
theorem dX4_putLetterForParts_127 : decode cX4_putLetterForParts 127 = .ok (.iconst 0, 1) := by decide +kernel
theorem dX4_putLetterForParts_128 : decode cX4_putLetterForParts 128 = .ok (.invokevirtual 62, 3) := by decide +kernel
theorem dX4_putLetterForParts_131 : decode cX4_putLetterForParts 131 = .ok (.istore 4, 2) := by decide +kernel
theorem dX4_putLetterForParts_133 : decode cX4_putLetterForParts 133 = .ok (.iinc 5 1, 3) := by decide +kernel
theorem dX4_putLetterForParts_136 : decode cX4_putLetterForParts 136 = .ok (.goto (-105), 3) := by decide +kernel
theorem dX4_putLetterForParts_139 : decode cX4_putLetterForParts 139 = .ok (.return_, 1) := by decide +kernel
theorem dX4_clearMarks_0 : decode cX4_clearMarks 0 = .ok (.iconst 0, 1) := by decide +kernel
theorem dX4_clearMarks_1 : decode cX4_clearMarks 1 = .ok (.istore_n 1, 1) := by decide +kernel
theorem dX4_clearMarks_2 : decode cX4_clearMarks 2 = .ok (.iload_n 1, 1) := by decide +kernel
theorem dX4_clearMarks_3 : decode cX4_clearMarks 3 = .ok (.bipush 120, 2) := by decide +kernel
theorem dX4_clearMarks_5 : decode cX4_clearMarks 5 = .ok (.if_icmp .gt 16, 3) := by decide +kernel
theorem dX4_clearMarks_8 : decode cX4_clearMarks 8 = .ok (.aload_n 0, 1) := by decide +kernel
theorem dX4_clearMarks_9 : decode cX4_clearMarks 9 = .ok (.getfield 25, 3) := by decide +kernel
theorem dX4_clearMarks_12 : decode cX4_clearMarks 12 = .ok (.iload_n 1, 1) := by decide +kernel
theorem dX4_clearMarks_13 : decode cX4_clearMarks 13 = .ok (.iconst 0, 1) := by decide +kernel
theorem dX4_clearMarks_14 : decode cX4_clearMarks 14 = .ok (.bastore, 1) := by decide +kernel
theorem dX4_clearMarks_15 : decode cX4_clearMarks 15 = .ok (.iinc 1 1, 3) := by decide +kernel
theorem dX4_clearMarks_18 : decode cX4_clearMarks 18 = .ok (.goto (-16), 3) := by decide +kernel
theorem dX4_clearMarks_21 : decode cX4_clearMarks 21 = .ok (.return_, 1) := by decide +kernel
set_option maxRecDepth 20000 in
theorem ggX4_markEnds_X4_tell : GoodIn wsX4_markEnds wsX4_tell := goodIn_r _ [7, 1, 8, 9, 10, 11, 12, 13, 14, 15, 16, 17, 18] (by decide +kernel) (by decide +kernel)
set_option maxRecDepth 20000 in
theorem gX4_markEnds_X4_tell : GoodIn wsX4_markEnds (wsV RX4 62 RX4 yX4_tell wsX4_tell) := goodIn_app (goodIn_of _ (by decide +kernel)) ggX4_markEnds_X4_tell
theorem dX4_markEnds_0 : decode cX4_markEnds 0 = .ok (.iconst 0, 1) := by decide +kernel
theorem dX4_markEnds_1 : decode cX4_markEnds 1 = .ok (.istore_n 1, 1) := by decide +kernel
theorem dX4_markEnds_2 : decode cX4_markEnds 2 = .ok (.iload_n 1, 1) := by decide +kernel
theorem dX4_markEnds_3 : decode cX4_markEnds 3 = .ok (.aload_n 0, 1) := by decide +kernel
theorem dX4_markEnds_4 : decode cX4_markEnds 4 = .ok (.getfield 36, 3) := by decide +kernel
theorem dX4_markEnds_7 : decode cX4_markEnds 7 = .ok (.if_icmp .ge 33, 3) := by decide +kernel
theorem dX4_markEnds_10 : decode cX4_markEnds 10 = .ok (.aload_n 0, 1) := by decide +kernel
theorem dX4_markEnds_11 : decode cX4_markEnds 11 = .ok (.iload_n 1, 1) := by decide +kernel
theorem dX4_markEnds_12 : decode cX4_markEnds 12 = .ok (.iconst 0, 1) := by decide +kernel
theorem dX4_markEnds_13 : decode cX4_markEnds 13 = .ok (.invokevirtual 62, 3) := by decide +kernel
theorem dX4_markEnds_16 : decode cX4_markEnds 16 = .ok (.istore_n 2, 1) := by decide +kernel
theorem dX4_markEnds_17 : decode cX4_markEnds 17 = .ok (.iload_n 2, 1) := by decide +kernel
theorem dX4_markEnds_18 : decode cX4_markEnds 18 = .ok (.ifCond .lt 16, 3) := by decide +kernel
theorem dX4_markEnds_21 : decode cX4_markEnds 21 = .ok (.iload_n 2, 1) := by decide +kernel
theorem dX4_markEnds_22 : decode cX4_markEnds 22 = .ok (.bipush 120, 2) := by decide +kernel
theorem dX4_markEnds_24 : decode cX4_markEnds 24 = .ok (.if_icmp .gt 10, 3) := by decide +kernel
theorem dX4_markEnds_27 : decode cX4_markEnds 27 = .ok (.aload_n 0, 1) := by decide +kernel
theorem dX4_markEnds_28 : decode cX4_markEnds 28 = .ok (.getfield 25, 3) := by decide +kernel
theorem dX4_markEnds_31 : decode cX4_markEnds 31 = .ok (.iload_n 2, 1) := by decide +kernel
theorem dX4_markEnds_32 : decode cX4_markEnds 32 = .ok (.iconst 1, 1) := by decide +kernel
theorem dX4_markEnds_33 : decode cX4_markEnds 33 = .ok (.bastore, 1) := by decide +kernel
theorem dX4_markEnds_34 : decode cX4_markEnds 34 = .ok (.iinc 1 1, 3) := by decide +kernel
theorem dX4_markEnds_37 : decode cX4_markEnds 37 = .ok (.goto (-35), 3) := by decide +kernel
theorem dX4_markEnds_40 : decode cX4_markEnds 40 = .ok (.return_, 1) := by decide +kernel
theorem dX4_countMarks_0 : decode cX4_countMarks 0 = .ok (.iconst 0, 1) := by decide +kernel
theorem dX4_countMarks_1 : decode cX4_countMarks 1 = .ok (.istore_n 1, 1) := by decide +kernel
theorem dX4_countMarks_2 : decode cX4_countMarks 2 = .ok (.iconst 0, 1) := by decide +kernel
theorem dX4_countMarks_3 : decode cX4_countMarks 3 = .ok (.istore_n 2, 1) := by decide +kernel
theorem dX4_countMarks_4 : decode cX4_countMarks 4 = .ok (.iload_n 2, 1) := by decide +kernel
theorem dX4_countMarks_5 : decode cX4_countMarks 5 = .ok (.bipush 120, 2) := by decide +kernel
theorem dX4_countMarks_7 : decode cX4_countMarks 7 = .ok (.if_icmp .gt 21, 3) := by decide +kernel
theorem dX4_countMarks_10 : decode cX4_countMarks 10 = .ok (.aload_n 0, 1) := by decide +kernel
theorem dX4_countMarks_11 : decode cX4_countMarks 11 = .ok (.getfield 25, 3) := by decide +kernel
theorem dX4_countMarks_14 : decode cX4_countMarks 14 = .ok (.iload_n 2, 1) := by decide +kernel
theorem dX4_countMarks_15 : decode cX4_countMarks 15 = .ok (.baload, 1) := by decide +kernel
theorem dX4_countMarks_16 : decode cX4_countMarks 16 = .ok (.ifCond .eq 6, 3) := by decide +kernel
theorem dX4_countMarks_19 : decode cX4_countMarks 19 = .ok (.iinc 1 1, 3) := by decide +kernel
theorem dX4_countMarks_22 : decode cX4_countMarks 22 = .ok (.iinc 2 1, 3) := by decide +kernel
theorem dX4_countMarks_25 : decode cX4_countMarks 25 = .ok (.goto (-21), 3) := by decide +kernel
theorem dX4_countMarks_28 : decode cX4_countMarks 28 = .ok (.iload_n 1, 1) := by decide +kernel
theorem dX4_countMarks_29 : decode cX4_countMarks 29 = .ok (.ireturn, 1) := by decide +kernel
theorem dX5_init_0 : decode cX5_init 0 = .ok (.aload_n 0, 1) := by decide +kernel
theorem dX5_init_1 : decode cX5_init 1 = .ok (.invokespecial 3, 3) := by decide +kernel
theorem dX5_init_4 : decode cX5_init 4 = .ok (.aload_n 0, 1) := by decide +kernel
theorem dX5_init_5 : decode cX5_init 5 = .ok (.bipush 120, 2) := by decide +kernel
theorem dX5_init_7 : decode cX5_init 7 = .ok (.newarray .char, 2) := by decide +kernel
theorem dX5_init_9 : decode cX5_init 9 = .ok (.putfield 9, 3) := by decide +kernel
theorem dX5_init_12 : decode cX5_init 12 = .ok (.aload_n 0, 1) := by decide +kernel
theorem dX5_init_13 : decode cX5_init 13 = .ok (.iconst 0, 1) := by decide +kernel
theorem dX5_init_14 : decode cX5_init 14 = .ok (.putfield 15, 3) := by decide +kernel
theorem dX5_init_17 : decode cX5_init 17 = .ok (.aload_n 0, 1) := by decide +kernel
theorem dX5_init_18 : decode cX5_init 18 = .ok (.bipush 6, 2) := by decide +kernel
theorem dX5_init_20 : decode cX5_init 20 = .ok (.anewarray 19, 3) := by decide +kernel
theorem dX5_init_23 : decode cX5_init 23 = .ok (.putfield 21, 3) := by decide +kernel
theorem dX5_init_26 : decode cX5_init 26 = .ok (.aload_n 0, 1) := by decide +kernel
theorem dX5_init_27 : decode cX5_init 27 = .ok (.iconst 0, 1) := by decide +kernel
theorem dX5_init_28 : decode cX5_init 28 = .ok (.putfield 25, 3) := by decide +kernel
theorem dX5_init_31 : decode cX5_init 31 = .ok (.aload_n 0, 1) := by decide +kernel
theorem dX5_init_32 : decode cX5_init 32 = .ok (.iconst 1, 1) := by decide +kernel
theorem dX5_init_33 : decode cX5_init 33 = .ok (.putfield 28, 3) := by decide +kernel
theorem dX5_init_36 : decode cX5_init 36 = .ok (.return_, 1) := by decide +kernel
theorem dX5_copyFrom_0 : decode cX5_copyFrom 0 = .ok (.aload_n 1, 1) := by decide +kernel
theorem dX5_copyFrom_1 : decode cX5_copyFrom 1 = .ok (.getfield 9, 3) := by decide +kernel
theorem dX5_copyFrom_4 : decode cX5_copyFrom 4 = .ok (.iconst 0, 1) := by decide +kernel
theorem dX5_copyFrom_5 : decode cX5_copyFrom 5 = .ok (.aload_n 0, 1) := by decide +kernel
theorem dX5_copyFrom_6 : decode cX5_copyFrom 6 = .ok (.getfield 9, 3) := by decide +kernel
theorem dX5_copyFrom_9 : decode cX5_copyFrom 9 = .ok (.iconst 0, 1) := by decide +kernel
theorem dX5_copyFrom_10 : decode cX5_copyFrom 10 = .ok (.bipush 120, 2) := by decide +kernel
theorem dX5_copyFrom_12 : decode cX5_copyFrom 12 = .ok (.invokestatic 31, 3) := by decide +kernel
theorem dX5_copyFrom_15 : decode cX5_copyFrom 15 = .ok (.aload_n 0, 1) := by decide +kernel
theorem dX5_copyFrom_16 : decode cX5_copyFrom 16 = .ok (.aload_n 1, 1) := by decide +kernel
theorem dX5_copyFrom_17 : decode cX5_copyFrom 17 = .ok (.getfield 15, 3) := by decide +kernel
theorem dX5_copyFrom_20 : decode cX5_copyFrom 20 = .ok (.putfield 15, 3) := by decide +kernel
theorem dX5_copyFrom_23 : decode cX5_copyFrom 23 = .ok (.iconst 0, 1) := by decide +kernel
theorem dX5_copyFrom_24 : decode cX5_copyFrom 24 = .ok (.istore_n 2, 1) := by decide +kernel
theorem dX5_copyFrom_25 : decode cX5_copyFrom 25 = .ok (.iload_n 2, 1) := by decide +kernel
theorem dX5_copyFrom_26 : decode cX5_copyFrom 26 = .ok (.bipush 6, 2) := by decide +kernel
theorem dX5_copyFrom_28 : decode cX5_copyFrom 28 = .ok (.if_icmp .ge 21, 3) := by decide +kernel
theorem dX5_copyFrom_31 : decode cX5_copyFrom 31 = .ok (.aload_n 0, 1) := by decide +kernel
theorem dX5_copyFrom_32 : decode cX5_copyFrom 32 = .ok (.getfield 21, 3) := by decide +kernel
theorem dX5_copyFrom_35 : decode cX5_copyFrom 35 = .ok (.iload_n 2, 1) := by decide +kernel
theorem dX5_copyFrom_36 : decode cX5_copyFrom 36 = .ok (.aload_n 1, 1) := by decide +kernel
theorem dX5_copyFrom_37 : decode cX5_copyFrom 37 = .ok (.getfield 21, 3) := by decide +kernel
theorem dX5_copyFrom_40 : decode cX5_copyFrom 40 = .ok (.iload_n 2, 1) := by decide +kernel
theorem dX5_copyFrom_41 : decode cX5_copyFrom 41 = .ok (.aaload, 1) := by decide +kernel
theorem dX5_copyFrom_42 : decode cX5_copyFrom 42 = .ok (.aastore, 1) := by decide +kernel
theorem dX5_copyFrom_43 : decode cX5_copyFrom 43 = .ok (.iinc 2 1, 3) := by decide +kernel
theorem dX5_copyFrom_46 : decode cX5_copyFrom 46 = .ok (.goto (-21), 3) := by decide +kernel
theorem dX5_copyFrom_49 : decode cX5_copyFrom 49 = .ok (.aload_n 0, 1) := by decide +kernel
theorem dX5_copyFrom_50 : decode cX5_copyFrom 50 = .ok (.aload_n 1, 1) := by decide +kernel
theorem dX5_copyFrom_51 : decode cX5_copyFrom 51 = .ok (.getfield 25, 3) := by decide +kernel
theorem dX5_copyFrom_54 : decode cX5_copyFrom 54 = .ok (.putfield 25, 3) := by decide +kernel
theorem dX5_copyFrom_57 : decode cX5_copyFrom 57 = .ok (.aload_n 0, 1) := by decide +kernel
theorem dX5_copyFrom_58 : decode cX5_copyFrom 58 = .ok (.aload_n 1, 1) := by decide +kernel
theorem dX5_copyFrom_59 : decode cX5_copyFrom 59 = .ok (.getfield 28, 3) := by decide +kernel
theorem dX5_copyFrom_62 : decode cX5_copyFrom 62 = .ok (.putfield 28, 3) := by decide +kernel
theorem dX5_copyFrom_65 : decode cX5_copyFrom 65 = .ok (.return_, 1) := by decide +kernel
theorem dX5_signAt_0 : decode cX5_signAt 0 = .ok (.iload_n 1, 1) := by decide +kernel
theorem dX5_signAt_1 : decode cX5_signAt 1 = .ok (.ifCond .lt 18, 3) := by decide +kernel
theorem dX5_signAt_4 : decode cX5_signAt 4 = .ok (.iload_n 1, 1) := by decide +kernel
theorem dX5_signAt_5 : decode cX5_signAt 5 = .ok (.bipush 120, 2) := by decide +kernel
theorem dX5_signAt_7 : decode cX5_signAt 7 = .ok (.if_icmp .ge 12, 3) := by decide +kernel
theorem dX5_signAt_10 : decode cX5_signAt 10 = .ok (.aload_n 0, 1) := by decide +kernel
theorem dX5_signAt_11 : decode cX5_signAt 11 = .ok (.getfield 9, 3) := by decide +kernel
theorem dX5_signAt_14 : decode cX5_signAt 14 = .ok (.iload_n 1, 1) := by decide +kernel
theorem dX5_signAt_15 : decode cX5_signAt 15 = .ok (.caload, 1) := by decide +kernel
theorem dX5_signAt_16 : decode cX5_signAt 16 = .ok (.goto 5, 3) := by decide +kernel
theorem dX5_signAt_19 : decode cX5_signAt 19 = .ok (.bipush 32, 2) := by decide +kernel
theorem dX5_signAt_21 : decode cX5_signAt 21 = .ok (.ireturn, 1) := by decide +kernel
theorem dX5_append_0 : decode cX5_append 0 = .ok (.aload_n 0, 1) := by decide +kernel
theorem dX5_append_1 : decode cX5_append 1 = .ok (.getfield 15, 3) := by decide +kernel
theorem dX5_append_4 : decode cX5_append 4 = .ok (.ifCond .lt 32, 3) := by decide +kernel
theorem dX5_append_7 : decode cX5_append 7 = .ok (.aload_n 0, 1) := by decide +kernel
theorem dX5_append_8 : decode cX5_append 8 = .ok (.getfield 15, 3) := by decide +kernel
theorem dX5_append_11 : decode cX5_append 11 = .ok (.bipush 120, 2) := by decide +kernel
theorem dX5_append_13 : decode cX5_append 13 = .ok (.if_icmp .ge 23, 3) := by decide +kernel
theorem dX5_append_16 : decode cX5_append 16 = .ok (.aload_n 0, 1) := by decide +kernel
theorem dX5_append_17 : decode cX5_append 17 = .ok (.getfield 9, 3) := by decide +kernel
theorem dX5_append_20 : decode cX5_append 20 = .ok (.aload_n 0, 1) := by decide +kernel
theorem dX5_append_21 : decode cX5_append 21 = .ok (.getfield 15, 3) := by decide +kernel
theorem dX5_append_24 : decode cX5_append 24 = .ok (.iload_n 1, 1) := by decide +kernel
theorem dX5_append_25 : decode cX5_append 25 = .ok (.castore, 1) := by decide +kernel
theorem dX5_append_26 : decode cX5_append 26 = .ok (.aload_n 0, 1) := by decide +kernel
theorem dX5_append_27 : decode cX5_append 27 = .ok (.dup, 1) := by decide +kernel
theorem dX5_append_28 : decode cX5_append 28 = .ok (.getfield 15, 3) := by decide +kernel
theorem dX5_append_31 : decode cX5_append 31 = .ok (.iconst 1, 1) := by decide +kernel
theorem dX5_append_32 : decode cX5_append 32 = .ok (.iadd, 1) := by decide +kernel
theorem dX5_append_33 : decode cX5_append 33 = .ok (.putfield 15, 3) := by decide +kernel
theorem dX5_append_36 : decode cX5_append 36 = .ok (.return_, 1) := by decide +kernel
set_option maxRecDepth 20000 in
theorem ggX5_countBlanks_X5_signAt : GoodIn wsX5_countBlanks wsX5_signAt := goodIn_r _ [6, 7, 8, 9, 10, 11, 12] (by decide +kernel) (by decide +kernel)
set_option maxRecDepth 20000 in
theorem gX5_countBlanks_X5_signAt : GoodIn wsX5_countBlanks (wsV RX5 37 RX5 yX5_signAt wsX5_signAt) := goodIn_app (goodIn_of _ (by decide +kernel)) ggX5_countBlanks_X5_signAt
theorem dX5_countBlanks_0 : decode cX5_countBlanks 0 = .ok (.iconst 0, 1) := by decide +kernel
theorem dX5_countBlanks_1 : decode cX5_countBlanks 1 = .ok (.istore_n 1, 1) := by decide +kernel
theorem dX5_countBlanks_2 : decode cX5_countBlanks 2 = .ok (.iconst 0, 1) := by decide +kernel
theorem dX5_countBlanks_3 : decode cX5_countBlanks 3 = .ok (.istore_n 2, 1) := by decide +kernel
theorem dX5_countBlanks_4 : decode cX5_countBlanks 4 = .ok (.iload_n 2, 1) := by decide +kernel
theorem dX5_countBlanks_5 : decode cX5_countBlanks 5 = .ok (.aload_n 0, 1) := by decide +kernel
theorem dX5_countBlanks_6 : decode cX5_countBlanks 6 = .ok (.getfield 15, 3) := by decide +kernel
theorem dX5_countBlanks_9 : decode cX5_countBlanks 9 = .ok (.if_icmp .ge 22, 3) := by decide +kernel
theorem dX5_countBlanks_12 : decode cX5_countBlanks 12 = .ok (.aload_n 0, 1) := by decide +kernel
theorem dX5_countBlanks_13 : decode cX5_countBlanks 13 = .ok (.iload_n 2, 1) := by decide +kernel
theorem dX5_countBlanks_14 : decode cX5_countBlanks 14 = .ok (.invokevirtual 37, 3) := by decide +kernel
theorem dX5_countBlanks_17 : decode cX5_countBlanks 17 = .ok (.bipush 32, 2) := by decide +kernel
theorem dX5_countBlanks_19 : decode cX5_countBlanks 19 = .ok (.if_icmp .ne 6, 3) := by decide +kernel
theorem dX5_countBlanks_22 : decode cX5_countBlanks 22 = .ok (.iinc 1 1, 3) := by decide +kernel
theorem dX5_countBlanks_25 : decode cX5_countBlanks 25 = .ok (.iinc 2 1, 3) := by decide +kernel
theorem dX5_countBlanks_28 : decode cX5_countBlanks 28 = .ok (.goto (-24), 3) := by decide +kernel
theorem dX5_countBlanks_31 : decode cX5_countBlanks 31 = .ok (.iload_n 1, 1) := by decide +kernel
theorem dX5_countBlanks_32 : decode cX5_countBlanks 32 = .ok (.ireturn, 1) := by decide +kernel
theorem dX5_patternOrNull_0 : decode cX5_patternOrNull 0 = .ok (.iload_n 1, 1) := by decide +kernel
theorem dX5_patternOrNull_1 : decode cX5_patternOrNull 1 = .ok (.ifCond .lt 17, 3) := by decide +kernel
theorem dX5_patternOrNull_4 : decode cX5_patternOrNull 4 = .ok (.iload_n 1, 1) := by decide +kernel
theorem dX5_patternOrNull_5 : decode cX5_patternOrNull 5 = .ok (.aload_n 0, 1) := by decide +kernel
theorem dX5_patternOrNull_6 : decode cX5_patternOrNull 6 = .ok (.getfield 25, 3) := by decide +kernel
theorem dX5_patternOrNull_9 : decode cX5_patternOrNull 9 = .ok (.if_icmp .ge 9, 3) := by decide +kernel
theorem dX5_patternOrNull_12 : decode cX5_patternOrNull 12 = .ok (.iload_n 1, 1) := by decide +kernel
theorem dX5_patternOrNull_13 : decode cX5_patternOrNull 13 = .ok (.bipush 6, 2) := by decide +kernel
theorem dX5_patternOrNull_15 : decode cX5_patternOrNull 15 = .ok (.if_icmp .lt 5, 3) := by decide +kernel
theorem dX5_patternOrNull_18 : decode cX5_patternOrNull 18 = .ok (.aconst_null, 1) := by decide +kernel
theorem dX5_patternOrNull_19 : decode cX5_patternOrNull 19 = .ok (.areturn, 1) := by decide +kernel
theorem dX5_patternOrNull_20 : decode cX5_patternOrNull 20 = .ok (.aload_n 0, 1) := by decide +kernel
theorem dX5_patternOrNull_21 : decode cX5_patternOrNull 21 = .ok (.getfield 21, 3) := by decide +kernel
theorem dX5_patternOrNull_24 : decode cX5_patternOrNull 24 = .ok (.iload_n 1, 1) := by decide +kernel
theorem dX5_patternOrNull_25 : decode cX5_patternOrNull 25 = .ok (.aaload, 1) := by decide +kernel
theorem dX5_patternOrNull_26 : decode cX5_patternOrNull 26 = .ok (.areturn, 1) := by decide +kernel
theorem dX5_addLast_0 : decode cX5_addLast 0 = .ok (.aload_n 0, 1) := by decide +kernel
theorem dX5_addLast_1 : decode cX5_addLast 1 = .ok (.getfield 25, 3) := by decide +kernel
theorem dX5_addLast_4 : decode cX5_addLast 4 = .ok (.ifCond .lt 32, 3) := by decide +kernel
theorem dX5_addLast_7 : decode cX5_addLast 7 = .ok (.aload_n 0, 1) := by decide +kernel
theorem dX5_addLast_8 : decode cX5_addLast 8 = .ok (.getfield 25, 3) := by decide +kernel
theorem dX5_addLast_11 : decode cX5_addLast 11 = .ok (.bipush 6, 2) := by decide +kernel
theorem dX5_addLast_13 : decode cX5_addLast 13 = .ok (.if_icmp .ge 23, 3) := by decide +kernel
theorem dX5_addLast_16 : decode cX5_addLast 16 = .ok (.aload_n 0, 1) := by decide +kernel
theorem dX5_addLast_17 : decode cX5_addLast 17 = .ok (.getfield 21, 3) := by decide +kernel
theorem dX5_addLast_20 : decode cX5_addLast 20 = .ok (.aload_n 0, 1) := by decide +kernel
theorem dX5_addLast_21 : decode cX5_addLast 21 = .ok (.getfield 25, 3) := by decide +kernel
theorem dX5_addLast_24 : decode cX5_addLast 24 = .ok (.aload_n 1, 1) := by decide +kernel
theorem dX5_addLast_25 : decode cX5_addLast 25 = .ok (.aastore, 1) := by decide +kernel
theorem dX5_addLast_26 : decode cX5_addLast 26 = .ok (.aload_n 0, 1) := by decide +kernel
theorem dX5_addLast_27 : decode cX5_addLast 27 = .ok (.dup, 1) := by decide +kernel
theorem dX5_addLast_28 : decode cX5_addLast 28 = .ok (.getfield 25, 3) := by decide +kernel
theorem dX5_addLast_31 : decode cX5_addLast 31 = .ok (.iconst 1, 1) := by decide +kernel
theorem dX5_addLast_32 : decode cX5_addLast 32 = .ok (.iadd, 1) := by decide +kernel
theorem dX5_addLast_33 : decode cX5_addLast 33 = .ok (.putfield 25, 3) := by decide +kernel
theorem dX5_addLast_36 : decode cX5_addLast 36 = .ok (.return_, 1) := by decide +kernel
theorem dX5_removeNumber_0 : decode cX5_removeNumber 0 = .ok (.iconst 0, 1) := by decide +kernel
theorem dX5_removeNumber_1 : decode cX5_removeNumber 1 = .ok (.istore_n 2, 1) := by decide +kernel
theorem dX5_removeNumber_2 : decode cX5_removeNumber 2 = .ok (.iload_n 2, 1) := by decide +kernel
theorem dX5_removeNumber_3 : decode cX5_removeNumber 3 = .ok (.iconst 1, 1) := by decide +kernel
theorem dX5_removeNumber_4 : decode cX5_removeNumber 4 = .ok (.iadd, 1) := by decide +kernel
theorem dX5_removeNumber_5 : decode cX5_removeNumber 5 = .ok (.bipush 6, 2) := by decide +kernel
theorem dX5_removeNumber_7 : decode cX5_removeNumber 7 = .ok (.if_icmp .ge 28, 3) := by decide +kernel
theorem dX5_removeNumber_10 : decode cX5_removeNumber 10 = .ok (.iload_n 2, 1) := by decide +kernel
theorem dX5_removeNumber_11 : decode cX5_removeNumber 11 = .ok (.iload_n 1, 1) := by decide +kernel
theorem dX5_removeNumber_12 : decode cX5_removeNumber 12 = .ok (.if_icmp .lt 17, 3) := by decide +kernel
theorem dX5_removeNumber_15 : decode cX5_removeNumber 15 = .ok (.aload_n 0, 1) := by decide +kernel
theorem dX5_removeNumber_16 : decode cX5_removeNumber 16 = .ok (.getfield 21, 3) := by decide +kernel
theorem dX5_removeNumber_19 : decode cX5_removeNumber 19 = .ok (.iload_n 2, 1) := by decide +kernel
theorem dX5_removeNumber_20 : decode cX5_removeNumber 20 = .ok (.aload_n 0, 1) := by decide +kernel
theorem dX5_removeNumber_21 : decode cX5_removeNumber 21 = .ok (.getfield 21, 3) := by decide +kernel
theorem dX5_removeNumber_24 : decode cX5_removeNumber 24 = .ok (.iload_n 2, 1) := by decide +kernel
theorem dX5_removeNumber_25 : decode cX5_removeNumber 25 = .ok (.iconst 1, 1) := by decide +kernel
theorem dX5_removeNumber_26 : decode cX5_removeNumber 26 = .ok (.iadd, 1) := by decide +kernel
theorem dX5_removeNumber_27 : decode cX5_removeNumber 27 = .ok (.aaload, 1) := by decide +kernel
theorem dX5_removeNumber_28 : decode cX5_removeNumber 28 = .ok (.aastore, 1) := by decide +kernel
theorem dX5_removeNumber_29 : decode cX5_removeNumber 29 = .ok (.iinc 2 1, 3) := by decide +kernel
theorem dX5_removeNumber_32 : decode cX5_removeNumber 32 = .ok (.goto (-30), 3) := by decide +kernel
theorem dX5_removeNumber_35 : decode cX5_removeNumber 35 = .ok (.aload_n 0, 1) := by decide +kernel
theorem dX5_removeNumber_36 : decode cX5_removeNumber 36 = .ok (.getfield 21, 3) := by decide +kernel
theorem dX5_removeNumber_39 : decode cX5_removeNumber 39 = .ok (.iconst 5, 1) := by decide +kernel
theorem dX5_removeNumber_40 : decode cX5_removeNumber 40 = .ok (.aconst_null, 1) := by decide +kernel
theorem dX5_removeNumber_41 : decode cX5_removeNumber 41 = .ok (.aastore, 1) := by decide +kernel
theorem dX5_removeNumber_42 : decode cX5_removeNumber 42 = .ok (.aload_n 0, 1) := by decide +kernel
theorem dX5_removeNumber_43 : decode cX5_removeNumber 43 = .ok (.dup, 1) := by decide +kernel
theorem dX5_removeNumber_44 : decode cX5_removeNumber 44 = .ok (.getfield 25, 3) := by decide +kernel
theorem dX5_removeNumber_47 : decode cX5_removeNumber 47 = .ok (.iconst 1, 1) := by decide +kernel
theorem dX5_removeNumber_48 : decode cX5_removeNumber 48 = .ok (.isub, 1) := by decide +kernel
theorem dX5_removeNumber_49 : decode cX5_removeNumber 49 = .ok (.putfield 25, 3) := by decide +kernel
theorem dX5_removeNumber_52 : decode cX5_removeNumber 52 = .ok (.return_, 1) := by decide +kernel
set_option maxRecDepth 20000 in
theorem ggX5_mayBegin_X5_signAt : GoodIn wsX5_mayBegin wsX5_signAt := goodIn_r _ [5, 6, 11, 12, 13, 14, 15] (by decide +kernel) (by decide +kernel)
set_option maxRecDepth 20000 in
theorem gX5_mayBegin_X5_signAt : GoodIn wsX5_mayBegin (wsV RX5 37 RX5 yX5_signAt wsX5_signAt) := goodIn_app (goodIn_of _ (by decide +kernel)) ggX5_mayBegin_X5_signAt
theorem dX5_mayBegin_0 : decode cX5_mayBegin 0 = .ok (.aload_n 1, 1) := by decide +kernel
theorem dX5_mayBegin_1 : decode cX5_mayBegin 1 = .ok (.getfield 41, 3) := by decide +kernel
theorem dX5_mayBegin_4 : decode cX5_mayBegin 4 = .ok (.ifCond .eq 19, 3) := by decide +kernel
theorem dX5_mayBegin_7 : decode cX5_mayBegin 7 = .ok (.iload_n 2, 1) := by decide +kernel
theorem dX5_mayBegin_8 : decode cX5_mayBegin 8 = .ok (.ifCond .eq 15, 3) := by decide +kernel
theorem dX5_mayBegin_11 : decode cX5_mayBegin 11 = .ok (.aload_n 0, 1) := by decide +kernel
theorem dX5_mayBegin_12 : decode cX5_mayBegin 12 = .ok (.iload_n 2, 1) := by decide +kernel
theorem dX5_mayBegin_13 : decode cX5_mayBegin 13 = .ok (.iconst 1, 1) := by decide +kernel
theorem dX5_mayBegin_14 : decode cX5_mayBegin 14 = .ok (.isub, 1) := by decide +kernel
theorem dX5_mayBegin_15 : decode cX5_mayBegin 15 = .ok (.invokevirtual 37, 3) := by decide +kernel
theorem dX5_mayBegin_18 : decode cX5_mayBegin 18 = .ok (.bipush 32, 2) := by decide +kernel
theorem dX5_mayBegin_20 : decode cX5_mayBegin 20 = .ok (.if_icmp .ne 7, 3) := by decide +kernel
theorem dX5_mayBegin_23 : decode cX5_mayBegin 23 = .ok (.iconst 1, 1) := by decide +kernel
theorem dX5_mayBegin_24 : decode cX5_mayBegin 24 = .ok (.goto 4, 3) := by decide +kernel
theorem dX5_mayBegin_27 : decode cX5_mayBegin 27 = .ok (.iconst 0, 1) := by decide +kernel
theorem dX5_mayBegin_28 : decode cX5_mayBegin 28 = .ok (.ireturn, 1) := by decide +kernel
theorem dX6_init_0 : decode cX6_init 0 = .ok (.aload_n 0, 1) := by decide +kernel
theorem dX6_init_1 : decode cX6_init 1 = .ok (.invokespecial 5, 3) := by decide +kernel
theorem dX6_init_4 : decode cX6_init 4 = .ok (.aload_n 0, 1) := by decide +kernel
theorem dX6_init_5 : decode cX6_init 5 = .ok (.bipush 61, 2) := by decide +kernel
theorem dX6_init_7 : decode cX6_init 7 = .ok (.newarray .int, 2) := by decide +kernel
theorem dX6_init_9 : decode cX6_init 9 = .ok (.putfield 11, 3) := by decide +kernel
theorem dX6_init_12 : decode cX6_init 12 = .ok (.return_, 1) := by decide +kernel
set_option maxRecDepth 20000 in
theorem ggX6_countSlips_X6_stepWays : GoodIn wsX6_countSlips wsX6_stepWays := goodIn_r _ [7, 1, 8, 9, 2, 10, 11, 12, 13, 14, 15, 16, 17, 18, 19, 20, 21, 22, 23, 6, 24, 25, 26, 27, 28, 29, 30, 31, 32, 33, 34] (by decide +kernel) (by decide +kernel)
set_option maxRecDepth 20000 in
theorem gX6_countSlips_X6_stepWays : GoodIn wsX6_countSlips (wsV RX6 16 RX6 yX6_stepWays wsX6_stepWays) := goodIn_app (goodIn_of _ (by decide +kernel)) ggX6_countSlips_X6_stepWays
theorem dX6_countSlips_0 : decode cX6_countSlips 0 = .ok (.aload_n 0, 1) := by decide +kernel
theorem dX6_countSlips_1 : decode cX6_countSlips 1 = .ok (.getfield 11, 3) := by decide +kernel
theorem dX6_countSlips_4 : decode cX6_countSlips 4 = .ok (.iconst 0, 1) := by decide +kernel
theorem dX6_countSlips_5 : decode cX6_countSlips 5 = .ok (.iconst 0, 1) := by decide +kernel
theorem dX6_countSlips_6 : decode cX6_countSlips 6 = .ok (.iastore, 1) := by decide +kernel
theorem dX6_countSlips_7 : decode cX6_countSlips 7 = .ok (.iconst 1, 1) := by decide +kernel
theorem dX6_countSlips_8 : decode cX6_countSlips 8 = .ok (.istore 6, 2) := by decide +kernel
theorem dX6_countSlips_10 : decode cX6_countSlips 10 = .ok (.iload 6, 2) := by decide +kernel
theorem dX6_countSlips_12 : decode cX6_countSlips 12 = .ok (.bipush 60, 2) := by decide +kernel
theorem dX6_countSlips_14 : decode cX6_countSlips 14 = .ok (.if_icmp .gt 28, 3) := by decide +kernel
theorem dX6_countSlips_17 : decode cX6_countSlips 17 = .ok (.aload_n 0, 1) := by decide +kernel
theorem dX6_countSlips_18 : decode cX6_countSlips 18 = .ok (.getfield 11, 3) := by decide +kernel
theorem dX6_countSlips_21 : decode cX6_countSlips 21 = .ok (.iload 6, 2) := by decide +kernel
theorem dX6_countSlips_23 : decode cX6_countSlips 23 = .ok (.aload_n 0, 1) := by decide +kernel
theorem dX6_countSlips_24 : decode cX6_countSlips 24 = .ok (.getfield 11, 3) := by decide +kernel
theorem dX6_countSlips_27 : decode cX6_countSlips 27 = .ok (.iload 6, 2) := by decide +kernel
theorem dX6_countSlips_29 : decode cX6_countSlips 29 = .ok (.iconst 1, 1) := by decide +kernel
theorem dX6_countSlips_30 : decode cX6_countSlips 30 = .ok (.isub, 1) := by decide +kernel
theorem dX6_countSlips_31 : decode cX6_countSlips 31 = .ok (.iaload, 1) := by decide +kernel
theorem dX6_countSlips_32 : decode cX6_countSlips 32 = .ok (.ldc 15, 2) := by decide +kernel
theorem dX6_countSlips_34 : decode cX6_countSlips 34 = .ok (.iadd, 1) := by decide +kernel
theorem dX6_countSlips_35 : decode cX6_countSlips 35 = .ok (.iastore, 1) := by decide +kernel
theorem dX6_countSlips_36 : decode cX6_countSlips 36 = .ok (.iinc 6 1, 3) := by decide +kernel
theorem dX6_countSlips_39 : decode cX6_countSlips 39 = .ok (.goto (-29), 3) := by decide +kernel
theorem dX6_countSlips_42 : decode cX6_countSlips 42 = .ok (.iload_n 3, 1) := by decide +kernel
theorem dX6_countSlips_43 : decode cX6_countSlips 43 = .ok (.iconst 1, 1) := by decide +kernel
theorem dX6_countSlips_44 : decode cX6_countSlips 44 = .ok (.iadd, 1) := by decide +kernel
theorem dX6_countSlips_45 : decode cX6_countSlips 45 = .ok (.istore 6, 2) := by decide +kernel
theorem dX6_countSlips_47 : decode cX6_countSlips 47 = .ok (.iload 6, 2) := by decide +kernel
theorem dX6_countSlips_49 : decode cX6_countSlips 49 = .ok (.iload 4, 2) := by decide +kernel
theorem dX6_countSlips_51 : decode cX6_countSlips 51 = .ok (.if_icmp .gt 24, 3) := by decide +kernel
theorem dX6_countSlips_54 : decode cX6_countSlips 54 = .ok (.iload 6, 2) := by decide +kernel
theorem dX6_countSlips_56 : decode cX6_countSlips 56 = .ok (.bipush 120, 2) := by decide +kernel
theorem dX6_countSlips_58 : decode cX6_countSlips 58 = .ok (.if_icmp .gt 17, 3) := by decide +kernel
theorem dX6_countSlips_61 : decode cX6_countSlips 61 = .ok (.aload_n 0, 1) := by decide +kernel
theorem dX6_countSlips_62 : decode cX6_countSlips 62 = .ok (.aload_n 1, 1) := by decide +kernel
theorem dX6_countSlips_63 : decode cX6_countSlips 63 = .ok (.aload_n 2, 1) := by decide +kernel
theorem dX6_countSlips_64 : decode cX6_countSlips 64 = .ok (.iload 6, 2) := by decide +kernel
theorem dX6_countSlips_66 : decode cX6_countSlips 66 = .ok (.invokevirtual 16, 3) := by decide +kernel
theorem dX6_countSlips_69 : decode cX6_countSlips 69 = .ok (.iinc 6 1, 3) := by decide +kernel
theorem dX6_countSlips_72 : decode cX6_countSlips 72 = .ok (.goto (-25), 3) := by decide +kernel
theorem dX6_countSlips_75 : decode cX6_countSlips 75 = .ok (.aload_n 2, 1) := by decide +kernel
theorem dX6_countSlips_76 : decode cX6_countSlips 76 = .ok (.getfield 20, 3) := by decide +kernel
theorem dX6_countSlips_79 : decode cX6_countSlips 79 = .ok (.istore 6, 2) := by decide +kernel
theorem dX6_countSlips_81 : decode cX6_countSlips 81 = .ok (.iload 6, 2) := by decide +kernel
theorem dX6_countSlips_83 : decode cX6_countSlips 83 = .ok (.ifCond .lt 20, 3) := by decide +kernel
theorem dX6_countSlips_86 : decode cX6_countSlips 86 = .ok (.iload 6, 2) := by decide +kernel
theorem dX6_countSlips_88 : decode cX6_countSlips 88 = .ok (.bipush 60, 2) := by decide +kernel
theorem dX6_countSlips_90 : decode cX6_countSlips 90 = .ok (.if_icmp .gt 13, 3) := by decide +kernel
theorem dX6_countSlips_93 : decode cX6_countSlips 93 = .ok (.aload_n 0, 1) := by decide +kernel
theorem dX6_countSlips_94 : decode cX6_countSlips 94 = .ok (.getfield 11, 3) := by decide +kernel
theorem dX6_countSlips_97 : decode cX6_countSlips 97 = .ok (.iload 6, 2) := by decide +kernel
theorem dX6_countSlips_99 : decode cX6_countSlips 99 = .ok (.iaload, 1) := by decide +kernel
theorem dX6_countSlips_100 : decode cX6_countSlips 100 = .ok (.goto 4, 3) := by decide +kernel
theorem dX6_countSlips_103 : decode cX6_countSlips 103 = .ok (.iconst 0, 1) := by decide +kernel
theorem dX6_countSlips_104 : decode cX6_countSlips 104 = .ok (.istore 7, 2) := by decide +kernel
theorem dX6_countSlips_106 : decode cX6_countSlips 106 = .ok (.iload 7, 2) := by decide +kernel
theorem dX6_countSlips_108 : decode cX6_countSlips 108 = .ok (.iconst 3, 1) := by decide +kernel
theorem dX6_countSlips_109 : decode cX6_countSlips 109 = .ok (.iload 5, 2) := by decide +kernel
theorem dX6_countSlips_111 : decode cX6_countSlips 111 = .ok (.isub, 1) := by decide +kernel
theorem dX6_countSlips_112 : decode cX6_countSlips 112 = .ok (.bipush 7, 2) := by decide +kernel
theorem dX6_countSlips_114 : decode cX6_countSlips 114 = .ok (.imul, 1) := by decide +kernel
theorem dX6_countSlips_115 : decode cX6_countSlips 115 = .ok (.ishr, 1) := by decide +kernel
theorem dX6_countSlips_116 : decode cX6_countSlips 116 = .ok (.bipush 127, 2) := by decide +kernel
theorem dX6_countSlips_118 : decode cX6_countSlips 118 = .ok (.iand, 1) := by decide +kernel
theorem dX6_countSlips_119 : decode cX6_countSlips 119 = .ok (.ireturn, 1) := by decide +kernel
set_option maxRecDepth 20000 in
theorem ggX6_stepWays_X5_signAt : GoodIn wsX6_stepWays wsX5_signAt := goodIn_r _ [9, 10, 26, 27, 28, 29, 30] (by decide +kernel) (by decide +kernel)
set_option maxRecDepth 20000 in
theorem gX6_stepWays_X5_signAt : GoodIn wsX6_stepWays (wsV RX6 26 RX5 yX5_signAt wsX5_signAt) := goodIn_app (goodIn_of _ (by decide +kernel)) ggX6_stepWays_X5_signAt
set_option maxRecDepth 20000 in
theorem ggX6_stepWays_X2_placesThatTake : GoodIn wsX6_stepWays wsX2_placesThatTake := goodIn_r _ [15, 16, 22, 23, 24, 25] (by decide +kernel) (by decide +kernel)
set_option maxRecDepth 20000 in
theorem gX6_stepWays_X2_placesThatTake : GoodIn wsX6_stepWays (wsV RX6 32 RX2 yX2_placesThatTake wsX2_placesThatTake) := goodIn_app (goodIn_of _ (by decide +kernel)) ggX6_stepWays_X2_placesThatTake
set_option maxRecDepth 20000 in
theorem ggX6_stepWays_X6_firstOfFewest : GoodIn wsX6_stepWays wsX6_firstOfFewest := goodIn_r _ [20] (by decide +kernel) (by decide +kernel)
set_option maxRecDepth 20000 in
theorem gX6_stepWays_X6_firstOfFewest : GoodIn wsX6_stepWays (va_wsS RX6 38 yX6_firstOfFewest wsX6_firstOfFewest) := goodIn_app (goodIn_of _ (by decide +kernel)) ggX6_stepWays_X6_firstOfFewest
theorem dX6_stepWays_0 : decode cX6_stepWays 0 = .ok (.aload_n 2, 1) := by decide +kernel
theorem dX6_stepWays_1 : decode cX6_stepWays 1 = .ok (.aload_n 1, 1) := by decide +kernel
theorem dX6_stepWays_2 : decode cX6_stepWays 2 = .ok (.iload_n 3, 1) := by decide +kernel
theorem dX6_stepWays_3 : decode cX6_stepWays 3 = .ok (.iconst 1, 1) := by decide +kernel
theorem dX6_stepWays_4 : decode cX6_stepWays 4 = .ok (.isub, 1) := by decide +kernel
theorem dX6_stepWays_5 : decode cX6_stepWays 5 = .ok (.invokevirtual 26, 3) := by decide +kernel
theorem dX6_stepWays_8 : decode cX6_stepWays 8 = .ok (.invokevirtual 32, 3) := by decide +kernel
theorem dX6_stepWays_11 : decode cX6_stepWays 11 = .ok (.lstore 4, 2) := by decide +kernel
theorem dX6_stepWays_13 : decode cX6_stepWays 13 = .ok (.aload_n 0, 1) := by decide +kernel
theorem dX6_stepWays_14 : decode cX6_stepWays 14 = .ok (.getfield 11, 3) := by decide +kernel
theorem dX6_stepWays_17 : decode cX6_stepWays 17 = .ok (.iconst 0, 1) := by decide +kernel
theorem dX6_stepWays_18 : decode cX6_stepWays 18 = .ok (.iaload, 1) := by decide +kernel
theorem dX6_stepWays_19 : decode cX6_stepWays 19 = .ok (.istore 6, 2) := by decide +kernel
theorem dX6_stepWays_21 : decode cX6_stepWays 21 = .ok (.aload_n 0, 1) := by decide +kernel
theorem dX6_stepWays_22 : decode cX6_stepWays 22 = .ok (.getfield 11, 3) := by decide +kernel
theorem dX6_stepWays_25 : decode cX6_stepWays 25 = .ok (.iconst 0, 1) := by decide +kernel
theorem dX6_stepWays_26 : decode cX6_stepWays 26 = .ok (.aload_n 0, 1) := by decide +kernel
theorem dX6_stepWays_27 : decode cX6_stepWays 27 = .ok (.getfield 11, 3) := by decide +kernel
theorem dX6_stepWays_30 : decode cX6_stepWays 30 = .ok (.iconst 0, 1) := by decide +kernel
theorem dX6_stepWays_31 : decode cX6_stepWays 31 = .ok (.iaload, 1) := by decide +kernel
theorem dX6_stepWays_32 : decode cX6_stepWays 32 = .ok (.ldc 36, 2) := by decide +kernel
theorem dX6_stepWays_34 : decode cX6_stepWays 34 = .ok (.iadd, 1) := by decide +kernel
theorem dX6_stepWays_35 : decode cX6_stepWays 35 = .ok (.iastore, 1) := by decide +kernel
theorem dX6_stepWays_36 : decode cX6_stepWays 36 = .ok (.iconst 1, 1) := by decide +kernel
theorem dX6_stepWays_37 : decode cX6_stepWays 37 = .ok (.istore 7, 2) := by decide +kernel
theorem dX6_stepWays_39 : decode cX6_stepWays 39 = .ok (.iload 7, 2) := by decide +kernel
theorem dX6_stepWays_41 : decode cX6_stepWays 41 = .ok (.bipush 60, 2) := by decide +kernel
theorem dX6_stepWays_43 : decode cX6_stepWays 43 = .ok (.if_icmp .gt 110, 3) := by decide +kernel
theorem dX6_stepWays_46 : decode cX6_stepWays 46 = .ok (.iload 7, 2) := by decide +kernel
theorem dX6_stepWays_48 : decode cX6_stepWays 48 = .ok (.aload_n 2, 1) := by decide +kernel
theorem dX6_stepWays_49 : decode cX6_stepWays 49 = .ok (.getfield 20, 3) := by decide +kernel
theorem dX6_stepWays_52 : decode cX6_stepWays 52 = .ok (.if_icmp .gt 101, 3) := by decide +kernel
theorem dX6_stepWays_55 : decode cX6_stepWays 55 = .ok (.lload 4, 2) := by decide +kernel
theorem dX6_stepWays_57 : decode cX6_stepWays 57 = .ok (.iload 7, 2) := by decide +kernel
theorem dX6_stepWays_59 : decode cX6_stepWays 59 = .ok (.iconst 1, 1) := by decide +kernel
theorem dX6_stepWays_60 : decode cX6_stepWays 60 = .ok (.isub, 1) := by decide +kernel
theorem dX6_stepWays_61 : decode cX6_stepWays 61 = .ok (.lushr, 1) := by decide +kernel
theorem dX6_stepWays_62 : decode cX6_stepWays 62 = .ok (.lconst 1, 1) := by decide +kernel
theorem dX6_stepWays_63 : decode cX6_stepWays 63 = .ok (.land, 1) := by decide +kernel
theorem dX6_stepWays_64 : decode cX6_stepWays 64 = .ok (.lconst 0, 1) := by decide +kernel
theorem dX6_stepWays_65 : decode cX6_stepWays 65 = .ok (.lcmp, 1) := by decide +kernel
theorem dX6_stepWays_66 : decode cX6_stepWays 66 = .ok (.ifCond .eq 7, 3) := by decide +kernel
theorem dX6_stepWays_69 : decode cX6_stepWays 69 = .ok (.iconst 1, 1) := by decide +kernel
theorem dX6_stepWays_70 : decode cX6_stepWays 70 = .ok (.goto 4, 3) := by decide +kernel
theorem dX6_stepWays_73 : decode cX6_stepWays 73 = .ok (.iconst 0, 1) := by decide +kernel
theorem dX6_stepWays_74 : decode cX6_stepWays 74 = .ok (.istore 8, 2) := by decide +kernel
theorem dX6_stepWays_76 : decode cX6_stepWays 76 = .ok (.iload 8, 2) := by decide +kernel
theorem dX6_stepWays_78 : decode cX6_stepWays 78 = .ok (.ifCond .eq 8, 3) := by decide +kernel
theorem dX6_stepWays_81 : decode cX6_stepWays 81 = .ok (.iload 6, 2) := by decide +kernel
theorem dX6_stepWays_83 : decode cX6_stepWays 83 = .ok (.goto 8, 3) := by decide +kernel
theorem dX6_stepWays_86 : decode cX6_stepWays 86 = .ok (.iload 6, 2) := by decide +kernel
theorem dX6_stepWays_88 : decode cX6_stepWays 88 = .ok (.ldc 37, 2) := by decide +kernel
theorem dX6_stepWays_90 : decode cX6_stepWays 90 = .ok (.iadd, 1) := by decide +kernel
theorem dX6_stepWays_91 : decode cX6_stepWays 91 = .ok (.istore 9, 2) := by decide +kernel
theorem dX6_stepWays_93 : decode cX6_stepWays 93 = .ok (.aload_n 0, 1) := by decide +kernel
theorem dX6_stepWays_94 : decode cX6_stepWays 94 = .ok (.getfield 11, 3) := by decide +kernel
theorem dX6_stepWays_97 : decode cX6_stepWays 97 = .ok (.iload 7, 2) := by decide +kernel
theorem dX6_stepWays_99 : decode cX6_stepWays 99 = .ok (.iaload, 1) := by decide +kernel
theorem dX6_stepWays_100 : decode cX6_stepWays 100 = .ok (.ldc 36, 2) := by decide +kernel
theorem dX6_stepWays_102 : decode cX6_stepWays 102 = .ok (.iadd, 1) := by decide +kernel
theorem dX6_stepWays_103 : decode cX6_stepWays 103 = .ok (.istore 10, 2) := by decide +kernel
theorem dX6_stepWays_105 : decode cX6_stepWays 105 = .ok (.aload_n 0, 1) := by decide +kernel
theorem dX6_stepWays_106 : decode cX6_stepWays 106 = .ok (.getfield 11, 3) := by decide +kernel
theorem dX6_stepWays_109 : decode cX6_stepWays 109 = .ok (.iload 7, 2) := by decide +kernel
theorem dX6_stepWays_111 : decode cX6_stepWays 111 = .ok (.iconst 1, 1) := by decide +kernel
theorem dX6_stepWays_112 : decode cX6_stepWays 112 = .ok (.isub, 1) := by decide +kernel
theorem dX6_stepWays_113 : decode cX6_stepWays 113 = .ok (.iaload, 1) := by decide +kernel
theorem dX6_stepWays_114 : decode cX6_stepWays 114 = .ok (.ldc 15, 2) := by decide +kernel
theorem dX6_stepWays_116 : decode cX6_stepWays 116 = .ok (.iadd, 1) := by decide +kernel
theorem dX6_stepWays_117 : decode cX6_stepWays 117 = .ok (.istore 11, 2) := by decide +kernel
theorem dX6_stepWays_119 : decode cX6_stepWays 119 = .ok (.aload_n 0, 1) := by decide +kernel
theorem dX6_stepWays_120 : decode cX6_stepWays 120 = .ok (.getfield 11, 3) := by decide +kernel
theorem dX6_stepWays_123 : decode cX6_stepWays 123 = .ok (.iload 7, 2) := by decide +kernel
theorem dX6_stepWays_125 : decode cX6_stepWays 125 = .ok (.iaload, 1) := by decide +kernel
theorem dX6_stepWays_126 : decode cX6_stepWays 126 = .ok (.istore 6, 2) := by decide +kernel
theorem dX6_stepWays_128 : decode cX6_stepWays 128 = .ok (.aload_n 0, 1) := by decide +kernel
theorem dX6_stepWays_129 : decode cX6_stepWays 129 = .ok (.getfield 11, 3) := by decide +kernel
theorem dX6_stepWays_132 : decode cX6_stepWays 132 = .ok (.iload 7, 2) := by decide +kernel
theorem dX6_stepWays_134 : decode cX6_stepWays 134 = .ok (.iload 9, 2) := by decide +kernel
theorem dX6_stepWays_136 : decode cX6_stepWays 136 = .ok (.iload 10, 2) := by decide +kernel
theorem dX6_stepWays_138 : decode cX6_stepWays 138 = .ok (.invokestatic 38, 3) := by decide +kernel
theorem dX6_stepWays_141 : decode cX6_stepWays 141 = .ok (.iload 11, 2) := by decide +kernel
theorem dX6_stepWays_143 : decode cX6_stepWays 143 = .ok (.invokestatic 38, 3) := by decide +kernel
theorem dX6_stepWays_146 : decode cX6_stepWays 146 = .ok (.iastore, 1) := by decide +kernel
theorem dX6_stepWays_147 : decode cX6_stepWays 147 = .ok (.iinc 7 1, 3) := by decide +kernel
theorem dX6_stepWays_150 : decode cX6_stepWays 150 = .ok (.goto (-111), 3) := by decide +kernel
theorem dX6_stepWays_153 : decode cX6_stepWays 153 = .ok (.return_, 1) := by decide +kernel
theorem dX6_firstOfFewest_0 : decode cX6_firstOfFewest 0 = .ok (.iload_n 1, 1) := by decide +kernel
theorem dX6_firstOfFewest_1 : decode cX6_firstOfFewest 1 = .ok (.bipush 21, 2) := by decide +kernel
theorem dX6_firstOfFewest_3 : decode cX6_firstOfFewest 3 = .ok (.ishr, 1) := by decide +kernel
theorem dX6_firstOfFewest_4 : decode cX6_firstOfFewest 4 = .ok (.iload_n 0, 1) := by decide +kernel
theorem dX6_firstOfFewest_5 : decode cX6_firstOfFewest 5 = .ok (.bipush 21, 2) := by decide +kernel
theorem dX6_firstOfFewest_7 : decode cX6_firstOfFewest 7 = .ok (.ishr, 1) := by decide +kernel
theorem dX6_firstOfFewest_8 : decode cX6_firstOfFewest 8 = .ok (.if_icmp .ge 7, 3) := by decide +kernel
theorem dX6_firstOfFewest_11 : decode cX6_firstOfFewest 11 = .ok (.iload_n 1, 1) := by decide +kernel
theorem dX6_firstOfFewest_12 : decode cX6_firstOfFewest 12 = .ok (.goto 4, 3) := by decide +kernel
theorem dX6_firstOfFewest_15 : decode cX6_firstOfFewest 15 = .ok (.iload_n 0, 1) := by decide +kernel
theorem dX6_firstOfFewest_16 : decode cX6_firstOfFewest 16 = .ok (.ireturn, 1) := by decide +kernel
set_option maxRecDepth 20000 in
theorem ggX7_init_X5_init : GoodIn wsX7_init wsX5_init := goodIn_r _ [31, 32, 2, 3, 33, 34, 35, 36, 37, 38, 39, 80, 81, 82, 83, 84] (by decide +kernel) (by decide +kernel)
set_option maxRecDepth 20000 in
theorem gX7_init_X5_init_n11 : GoodIn wsX7_init (wsX5_init) := ggX7_init_X5_init
set_option maxRecDepth 20000 in
theorem ggX7_init_X0_init : GoodIn wsX7_init wsX0_init := goodIn_r _ [42, 43, 2, 3, 44, 45, 46, 5, 6, 30, 31, 32, 33, 34, 35, 36, 37, 38, 39, 93, 94, 80, 81, 82, 83, 84] (by decide +kernel) (by decide +kernel)
set_option maxRecDepth 20000 in
theorem gX7_init_X0_init : GoodIn wsX7_init (wsX0_init) := ggX7_init_X0_init
set_option maxRecDepth 20000 in
theorem ggX7_init_X1_init : GoodIn wsX7_init wsX1_init := goodIn_r _ [48, 49, 2, 3, 33, 50, 51, 95, 96] (by decide +kernel) (by decide +kernel)
set_option maxRecDepth 20000 in
theorem gX7_init_X1_init_n32 : GoodIn wsX7_init (wsX1_init) := ggX7_init_X1_init
set_option maxRecDepth 20000 in
theorem ggX7_init_X3_init : GoodIn wsX7_init wsX3_init := goodIn_r _ [53, 54, 2, 3, 55, 56, 57, 58, 59, 60, 61, 62, 97, 98, 99, 100, 101, 102, 103] (by decide +kernel) (by decide +kernel)
set_option maxRecDepth 20000 in
theorem gX7_init_X3_init_n39 : GoodIn wsX7_init (wsX3_init) := ggX7_init_X3_init
set_option maxRecDepth 20000 in
theorem ggX7_init_X4_init : GoodIn wsX7_init wsX4_init := goodIn_r _ [64, 65, 2, 3, 66, 67, 55, 68, 69, 70, 71, 72, 33, 73, 74, 75, 104, 105, 106, 107, 108, 109, 110, 111] (by decide +kernel) (by decide +kernel)
set_option maxRecDepth 20000 in
theorem gX7_init_X4_init_n46 : GoodIn wsX7_init (wsX4_init) := ggX7_init_X4_init
set_option maxRecDepth 20000 in
theorem ggX7_init_X6_init : GoodIn wsX7_init wsX6_init := goodIn_r _ [77, 78, 2, 3, 55, 79, 112] (by decide +kernel) (by decide +kernel)
set_option maxRecDepth 20000 in
theorem gX7_init_X6_init_n53 : GoodIn wsX7_init (wsX6_init) := ggX7_init_X6_init
theorem dX7_init_0 : decode cX7_init 0 = .ok (.aload_n 0, 1) := by decide +kernel
theorem dX7_init_1 : decode cX7_init 1 = .ok (.invokespecial 3, 3) := by decide +kernel
theorem dX7_init_4 : decode cX7_init 4 = .ok (.aload_n 0, 1) := by decide +kernel
theorem dX7_init_5 : decode cX7_init 5 = .ok (.new 9, 3) := by decide +kernel
theorem dX7_init_8 : decode cX7_init 8 = .ok (.dup, 1) := by decide +kernel
theorem dX7_init_9 : decode cX7_init 9 = .ok (.invokespecial 11, 3) := by decide +kernel
theorem dX7_init_12 : decode cX7_init 12 = .ok (.putfield 12, 3) := by decide +kernel
theorem dX7_init_15 : decode cX7_init 15 = .ok (.aload_n 0, 1) := by decide +kernel
theorem dX7_init_16 : decode cX7_init 16 = .ok (.new 9, 3) := by decide +kernel
theorem dX7_init_19 : decode cX7_init 19 = .ok (.dup, 1) := by decide +kernel
theorem dX7_init_20 : decode cX7_init 20 = .ok (.invokespecial 11, 3) := by decide +kernel
theorem dX7_init_23 : decode cX7_init 23 = .ok (.putfield 16, 3) := by decide +kernel
theorem dX7_init_26 : decode cX7_init 26 = .ok (.aload_n 0, 1) := by decide +kernel
theorem dX7_init_27 : decode cX7_init 27 = .ok (.iconst 0, 1) := by decide +kernel
theorem dX7_init_28 : decode cX7_init 28 = .ok (.putfield 19, 3) := by decide +kernel
theorem dX7_init_31 : decode cX7_init 31 = .ok (.aload_n 0, 1) := by decide +kernel
theorem dX7_init_32 : decode cX7_init 32 = .ok (.new 23, 3) := by decide +kernel
theorem dX7_init_35 : decode cX7_init 35 = .ok (.dup, 1) := by decide +kernel
theorem dX7_init_36 : decode cX7_init 36 = .ok (.invokespecial 25, 3) := by decide +kernel
theorem dX7_init_39 : decode cX7_init 39 = .ok (.putfield 26, 3) := by decide +kernel
theorem dX7_init_42 : decode cX7_init 42 = .ok (.aload_n 0, 1) := by decide +kernel
theorem dX7_init_43 : decode cX7_init 43 = .ok (.new 30, 3) := by decide +kernel
theorem dX7_init_46 : decode cX7_init 46 = .ok (.dup, 1) := by decide +kernel
theorem dX7_init_47 : decode cX7_init 47 = .ok (.invokespecial 32, 3) := by decide +kernel
theorem dX7_init_50 : decode cX7_init 50 = .ok (.putfield 33, 3) := by decide +kernel
theorem dX7_init_53 : decode cX7_init 53 = .ok (.aload_n 0, 1) := by decide +kernel
theorem dX7_init_54 : decode cX7_init 54 = .ok (.new 37, 3) := by decide +kernel
theorem dX7_init_57 : decode cX7_init 57 = .ok (.dup, 1) := by decide +kernel
theorem dX7_init_58 : decode cX7_init 58 = .ok (.invokespecial 39, 3) := by decide +kernel
theorem dX7_init_61 : decode cX7_init 61 = .ok (.putfield 40, 3) := by decide +kernel
theorem dX7_init_64 : decode cX7_init 64 = .ok (.aload_n 0, 1) := by decide +kernel
theorem dX7_init_65 : decode cX7_init 65 = .ok (.new 44, 3) := by decide +kernel
theorem dX7_init_68 : decode cX7_init 68 = .ok (.dup, 1) := by decide +kernel
theorem dX7_init_69 : decode cX7_init 69 = .ok (.invokespecial 46, 3) := by decide +kernel
theorem dX7_init_72 : decode cX7_init 72 = .ok (.putfield 47, 3) := by decide +kernel
theorem dX7_init_75 : decode cX7_init 75 = .ok (.aload_n 0, 1) := by decide +kernel
theorem dX7_init_76 : decode cX7_init 76 = .ok (.new 51, 3) := by decide +kernel
theorem dX7_init_79 : decode cX7_init 79 = .ok (.dup, 1) := by decide +kernel
theorem dX7_init_80 : decode cX7_init 80 = .ok (.invokespecial 53, 3) := by decide +kernel
theorem dX7_init_83 : decode cX7_init 83 = .ok (.putfield 54, 3) := by decide +kernel
theorem dX7_init_86 : decode cX7_init 86 = .ok (.return_, 1) := by decide +kernel
set_option maxRecDepth 20000 in
theorem ggX7_write_X7_isSign : GoodIn wsX7_write wsX7_isSign := goodIn_r _ [6, 7, 8, 5, 9] (by decide +kernel) (by decide +kernel)
set_option maxRecDepth 20000 in
theorem gX7_write_X7_isSign : GoodIn wsX7_write (va_wsS RX7 58 yX7_isSign wsX7_isSign) := goodIn_app (goodIn_of _ (by decide +kernel)) ggX7_write_X7_isSign
set_option maxRecDepth 20000 in
theorem ggX7_write_X0_record : GoodIn wsX7_write wsX0_record := goodIn_r _ [14, 15, 16, 17, 18, 19, 13, 20, 21, 22, 23, 24, 25, 26, 27, 28, 29, 30, 31, 32, 33, 34, 52, 53, 47, 48, 49, 50, 51] (by decide +kernel) (by decide +kernel)
set_option maxRecDepth 20000 in
theorem gX7_write_X0_record : GoodIn wsX7_write (wsV RX7 66 RX0 yX0_record wsX0_record) := goodIn_app (goodIn_of _ (by decide +kernel)) ggX7_write_X0_record
set_option maxRecDepth 20000 in
theorem ggX7_write_X5_append : GoodIn wsX7_write wsX5_append := goodIn_r _ [38, 31, 26, 47, 48, 49, 50, 51] (by decide +kernel) (by decide +kernel)
set_option maxRecDepth 20000 in
theorem gX7_write_X5_append : GoodIn wsX7_write (wsV RX7 70 RX5 yX5_append wsX5_append) := goodIn_app (goodIn_of _ (by decide +kernel)) ggX7_write_X5_append
theorem dX7_write_0 : decode cX7_write 0 = .ok (.iload_n 1, 1) := by decide +kernel
end
section
theorem dX7_write_1 : decode cX7_write 1 = .ok (.invokestatic 58, 3) := by decide +kernel
theorem dX7_write_4 : decode cX7_write 4 = .ok (.ifCond .ne 6, 3) := by decide +kernel
theorem dX7_write_7 : decode cX7_write 7 = .ok (.bipush (-2), 2) := by decide +kernel
theorem dX7_write_9 : decode cX7_write 9 = .ok (.ireturn, 1) := by decide +kernel
theorem dX7_write_10 : decode cX7_write 10 = .ok (.aload_n 0, 1) := by decide +kernel
theorem dX7_write_11 : decode cX7_write 11 = .ok (.getfield 12, 3) := by decide +kernel
theorem dX7_write_14 : decode cX7_write 14 = .ok (.getfield 62, 3) := by decide +kernel
theorem dX7_write_17 : decode cX7_write 17 = .ok (.bipush 120, 2) := by decide +kernel
theorem dX7_write_19 : decode cX7_write 19 = .ok (.if_icmp .lt 6, 3) := by decide +kernel
theorem dX7_write_22 : decode cX7_write 22 = .ok (.bipush (-3), 2) := by decide +kernel
theorem dX7_write_24 : decode cX7_write 24 = .ok (.ireturn, 1) := by decide +kernel
theorem dX7_write_25 : decode cX7_write 25 = .ok (.aload_n 0, 1) := by decide +kernel
theorem dX7_write_26 : decode cX7_write 26 = .ok (.getfield 26, 3) := by decide +kernel
theorem dX7_write_29 : decode cX7_write 29 = .ok (.aload_n 0, 1) := by decide +kernel
theorem dX7_write_30 : decode cX7_write 30 = .ok (.getfield 12, 3) := by decide +kernel
theorem dX7_write_33 : decode cX7_write 33 = .ok (.invokevirtual 66, 3) := by decide +kernel
theorem dX7_write_36 : decode cX7_write 36 = .ok (.aload_n 0, 1) := by decide +kernel
theorem dX7_write_37 : decode cX7_write 37 = .ok (.getfield 12, 3) := by decide +kernel
theorem dX7_write_40 : decode cX7_write 40 = .ok (.iload_n 1, 1) := by decide +kernel
theorem dX7_write_41 : decode cX7_write 41 = .ok (.invokevirtual 70, 3) := by decide +kernel
theorem dX7_write_44 : decode cX7_write 44 = .ok (.aload_n 0, 1) := by decide +kernel
theorem dX7_write_45 : decode cX7_write 45 = .ok (.getfield 12, 3) := by decide +kernel
theorem dX7_write_48 : decode cX7_write 48 = .ok (.getfield 62, 3) := by decide +kernel
theorem dX7_write_51 : decode cX7_write 51 = .ok (.ireturn, 1) := by decide +kernel
set_option maxRecDepth 20000 in
theorem ggX7_writePad_X1_canBeWritten : GoodIn wsX7_writePad wsX1_canBeWritten := goodIn_r _ [8, 9, 10, 11, 12, 7, 13, 14, 15, 16, 17, 61, 62] (by decide +kernel) (by decide +kernel)
set_option maxRecDepth 20000 in
theorem gX7_writePad_X1_canBeWritten : GoodIn wsX7_writePad (wsV RX7 74 RX1 yX1_canBeWritten wsX1_canBeWritten) := goodIn_app (goodIn_of _ (by decide +kernel)) ggX7_writePad_X1_canBeWritten
set_option maxRecDepth 20000 in
theorem ggX7_writePad_X0_record : GoodIn wsX7_writePad wsX0_record := goodIn_r _ [22, 23, 24, 25, 26, 27, 21, 28, 29, 30, 31, 32, 33, 34, 35, 36, 37, 38, 39, 40, 41, 42, 63, 64, 56, 57, 58, 59, 60] (by decide +kernel) (by decide +kernel)
set_option maxRecDepth 20000 in
theorem gX7_writePad_X0_record : GoodIn wsX7_writePad (wsV RX7 66 RX0 yX0_record wsX0_record) := goodIn_app (goodIn_of _ (by decide +kernel)) ggX7_writePad_X0_record
set_option maxRecDepth 20000 in
theorem ggX7_writePad_X1_signAt : GoodIn wsX7_writePad wsX1_signAt := goodIn_r _ [13, 14, 61, 62] (by decide +kernel) (by decide +kernel)
set_option maxRecDepth 20000 in
theorem gX7_writePad_X1_signAt : GoodIn wsX7_writePad (wsV RX7 79 RX1 yX1_signAt wsX1_signAt) := goodIn_app (goodIn_of _ (by decide +kernel)) ggX7_writePad_X1_signAt
set_option maxRecDepth 20000 in
theorem ggX7_writePad_X5_append : GoodIn wsX7_writePad wsX5_append := goodIn_r _ [47, 39, 34, 56, 57, 58, 59, 60] (by decide +kernel) (by decide +kernel)
set_option maxRecDepth 20000 in
theorem gX7_writePad_X5_append : GoodIn wsX7_writePad (wsV RX7 70 RX5 yX5_append wsX5_append) := goodIn_app (goodIn_of _ (by decide +kernel)) ggX7_writePad_X5_append
theorem dX7_writePad_0 : decode cX7_writePad 0 = .ok (.aload_n 0, 1) := by decide +kernel
theorem dX7_writePad_1 : decode cX7_writePad 1 = .ok (.getfield 33, 3) := by decide +kernel
theorem dX7_writePad_4 : decode cX7_writePad 4 = .ok (.invokevirtual 74, 3) := by decide +kernel
theorem dX7_writePad_7 : decode cX7_writePad 7 = .ok (.ifCond .ne 6, 3) := by decide +kernel
theorem dX7_writePad_10 : decode cX7_writePad 10 = .ok (.bipush (-2), 2) := by decide +kernel
theorem dX7_writePad_12 : decode cX7_writePad 12 = .ok (.ireturn, 1) := by decide +kernel
theorem dX7_writePad_13 : decode cX7_writePad 13 = .ok (.aload_n 0, 1) := by decide +kernel
theorem dX7_writePad_14 : decode cX7_writePad 14 = .ok (.getfield 12, 3) := by decide +kernel
theorem dX7_writePad_17 : decode cX7_writePad 17 = .ok (.getfield 62, 3) := by decide +kernel
theorem dX7_writePad_20 : decode cX7_writePad 20 = .ok (.aload_n 0, 1) := by decide +kernel
theorem dX7_writePad_21 : decode cX7_writePad 21 = .ok (.getfield 33, 3) := by decide +kernel
theorem dX7_writePad_24 : decode cX7_writePad 24 = .ok (.getfield 78, 3) := by decide +kernel
theorem dX7_writePad_27 : decode cX7_writePad 27 = .ok (.iadd, 1) := by decide +kernel
theorem dX7_writePad_28 : decode cX7_writePad 28 = .ok (.bipush 120, 2) := by decide +kernel
theorem dX7_writePad_30 : decode cX7_writePad 30 = .ok (.if_icmp .le 6, 3) := by decide +kernel
theorem dX7_writePad_33 : decode cX7_writePad 33 = .ok (.bipush (-3), 2) := by decide +kernel
theorem dX7_writePad_35 : decode cX7_writePad 35 = .ok (.ireturn, 1) := by decide +kernel
theorem dX7_writePad_36 : decode cX7_writePad 36 = .ok (.aload_n 0, 1) := by decide +kernel
theorem dX7_writePad_37 : decode cX7_writePad 37 = .ok (.getfield 26, 3) := by decide +kernel
theorem dX7_writePad_40 : decode cX7_writePad 40 = .ok (.aload_n 0, 1) := by decide +kernel
theorem dX7_writePad_41 : decode cX7_writePad 41 = .ok (.getfield 12, 3) := by decide +kernel
theorem dX7_writePad_44 : decode cX7_writePad 44 = .ok (.invokevirtual 66, 3) := by decide +kernel
theorem dX7_writePad_47 : decode cX7_writePad 47 = .ok (.iconst 0, 1) := by decide +kernel
theorem dX7_writePad_48 : decode cX7_writePad 48 = .ok (.istore_n 1, 1) := by decide +kernel
theorem dX7_writePad_49 : decode cX7_writePad 49 = .ok (.iload_n 1, 1) := by decide +kernel
theorem dX7_writePad_50 : decode cX7_writePad 50 = .ok (.aload_n 0, 1) := by decide +kernel
theorem dX7_writePad_51 : decode cX7_writePad 51 = .ok (.getfield 33, 3) := by decide +kernel
theorem dX7_writePad_54 : decode cX7_writePad 54 = .ok (.getfield 78, 3) := by decide +kernel
theorem dX7_writePad_57 : decode cX7_writePad 57 = .ok (.if_icmp .ge 37, 3) := by decide +kernel
theorem dX7_writePad_60 : decode cX7_writePad 60 = .ok (.aload_n 0, 1) := by decide +kernel
theorem dX7_writePad_61 : decode cX7_writePad 61 = .ok (.getfield 33, 3) := by decide +kernel
theorem dX7_writePad_64 : decode cX7_writePad 64 = .ok (.iload_n 1, 1) := by decide +kernel
theorem dX7_writePad_65 : decode cX7_writePad 65 = .ok (.invokevirtual 79, 3) := by decide +kernel
theorem dX7_writePad_68 : decode cX7_writePad 68 = .ok (.istore_n 2, 1) := by decide +kernel
theorem dX7_writePad_69 : decode cX7_writePad 69 = .ok (.aload_n 0, 1) := by decide +kernel
theorem dX7_writePad_70 : decode cX7_writePad 70 = .ok (.getfield 12, 3) := by decide +kernel
theorem dX7_writePad_73 : decode cX7_writePad 73 = .ok (.iload_n 2, 1) := by decide +kernel
theorem dX7_writePad_74 : decode cX7_writePad 74 = .ok (.bipush 95, 2) := by decide +kernel
theorem dX7_writePad_76 : decode cX7_writePad 76 = .ok (.if_icmp .ne 8, 3) := by decide +kernel
theorem dX7_writePad_79 : decode cX7_writePad 79 = .ok (.bipush 32, 2) := by decide +kernel
theorem dX7_writePad_81 : decode cX7_writePad 81 = .ok (.goto 4, 3) := by decide +kernel
theorem dX7_writePad_84 : decode cX7_writePad 84 = .ok (.iload_n 2, 1) := by decide +kernel
theorem dX7_writePad_85 : decode cX7_writePad 85 = .ok (.invokevirtual 70, 3) := by decide +kernel
theorem dX7_writePad_88 : decode cX7_writePad 88 = .ok (.iinc 1 1, 3) := by decide +kernel
theorem dX7_writePad_91 : decode cX7_writePad 91 = .ok (.goto (-42), 3) := by decide +kernel
theorem dX7_writePad_94 : decode cX7_writePad 94 = .ok (.aload_n 0, 1) := by decide +kernel
theorem dX7_writePad_95 : decode cX7_writePad 95 = .ok (.getfield 12, 3) := by decide +kernel
theorem dX7_writePad_98 : decode cX7_writePad 98 = .ok (.getfield 62, 3) := by decide +kernel
theorem dX7_writePad_101 : decode cX7_writePad 101 = .ok (.ireturn, 1) := by decide +kernel
set_option maxRecDepth 20000 in
theorem ggX7_cut_X0_record : GoodIn wsX7_cut wsX0_record := goodIn_r _ [7, 8, 9, 10, 11, 12, 6, 13, 14, 15, 16, 17, 18, 19, 20, 21, 22, 23, 24, 25, 26, 27, 41, 42, 36, 37, 38, 39, 40] (by decide +kernel) (by decide +kernel)
set_option maxRecDepth 20000 in
theorem gX7_cut_X0_record : GoodIn wsX7_cut (wsV RX7 66 RX0 yX0_record wsX0_record) := goodIn_app (goodIn_of _ (by decide +kernel)) ggX7_cut_X0_record
theorem dX7_cut_0 : decode cX7_cut 0 = .ok (.iload_n 1, 1) := by decide +kernel
theorem dX7_cut_1 : decode cX7_cut 1 = .ok (.iconst 1, 1) := by decide +kernel
theorem dX7_cut_2 : decode cX7_cut 2 = .ok (.if_icmp .lt 9, 3) := by decide +kernel
theorem dX7_cut_5 : decode cX7_cut 5 = .ok (.iload_n 1, 1) := by decide +kernel
theorem dX7_cut_6 : decode cX7_cut 6 = .ok (.bipush 120, 2) := by decide +kernel
theorem dX7_cut_8 : decode cX7_cut 8 = .ok (.if_icmp .le 6, 3) := by decide +kernel
theorem dX7_cut_11 : decode cX7_cut 11 = .ok (.bipush (-2), 2) := by decide +kernel
theorem dX7_cut_13 : decode cX7_cut 13 = .ok (.ireturn, 1) := by decide +kernel
theorem dX7_cut_14 : decode cX7_cut 14 = .ok (.iload_n 1, 1) := by decide +kernel
theorem dX7_cut_15 : decode cX7_cut 15 = .ok (.aload_n 0, 1) := by decide +kernel
theorem dX7_cut_16 : decode cX7_cut 16 = .ok (.getfield 12, 3) := by decide +kernel
theorem dX7_cut_19 : decode cX7_cut 19 = .ok (.getfield 62, 3) := by decide +kernel
theorem dX7_cut_22 : decode cX7_cut 22 = .ok (.if_icmp .le 6, 3) := by decide +kernel
theorem dX7_cut_25 : decode cX7_cut 25 = .ok (.bipush (-4), 2) := by decide +kernel
theorem dX7_cut_27 : decode cX7_cut 27 = .ok (.ireturn, 1) := by decide +kernel
theorem dX7_cut_28 : decode cX7_cut 28 = .ok (.aload_n 0, 1) := by decide +kernel
theorem dX7_cut_29 : decode cX7_cut 29 = .ok (.getfield 26, 3) := by decide +kernel
theorem dX7_cut_32 : decode cX7_cut 32 = .ok (.aload_n 0, 1) := by decide +kernel
theorem dX7_cut_33 : decode cX7_cut 33 = .ok (.getfield 12, 3) := by decide +kernel
theorem dX7_cut_36 : decode cX7_cut 36 = .ok (.invokevirtual 66, 3) := by decide +kernel
theorem dX7_cut_39 : decode cX7_cut 39 = .ok (.aload_n 0, 1) := by decide +kernel
theorem dX7_cut_40 : decode cX7_cut 40 = .ok (.getfield 12, 3) := by decide +kernel
theorem dX7_cut_43 : decode cX7_cut 43 = .ok (.dup, 1) := by decide +kernel
theorem dX7_cut_44 : decode cX7_cut 44 = .ok (.getfield 62, 3) := by decide +kernel
theorem dX7_cut_47 : decode cX7_cut 47 = .ok (.iload_n 1, 1) := by decide +kernel
theorem dX7_cut_48 : decode cX7_cut 48 = .ok (.isub, 1) := by decide +kernel
theorem dX7_cut_49 : decode cX7_cut 49 = .ok (.putfield 62, 3) := by decide +kernel
theorem dX7_cut_52 : decode cX7_cut 52 = .ok (.aload_n 0, 1) := by decide +kernel
theorem dX7_cut_53 : decode cX7_cut 53 = .ok (.getfield 12, 3) := by decide +kernel
theorem dX7_cut_56 : decode cX7_cut 56 = .ok (.getfield 62, 3) := by decide +kernel
theorem dX7_cut_59 : decode cX7_cut 59 = .ok (.ireturn, 1) := by decide +kernel
set_option maxRecDepth 20000 in
theorem ggX7_replace_X5_patternOrNull : GoodIn wsX7_replace wsX5_patternOrNull := goodIn_r _ [8, 9, 10, 137, 138, 139, 140, 141] (by decide +kernel) (by decide +kernel)
set_option maxRecDepth 20000 in
theorem gX7_replace_X5_patternOrNull : GoodIn wsX7_replace (wsV RX7 83 RX5 yX5_patternOrNull wsX5_patternOrNull) := goodIn_app (goodIn_of _ (by decide +kernel)) ggX7_replace_X5_patternOrNull
set_option maxRecDepth 20000 in
theorem ggX7_replace_X7_isLetter : GoodIn wsX7_replace wsX7_isLetter := goodIn_r _ [14] (by decide +kernel) (by decide +kernel)
set_option maxRecDepth 20000 in
theorem gX7_replace_X7_isLetter : GoodIn wsX7_replace (va_wsS RX7 87 yX7_isLetter wsX7_isLetter) := goodIn_app (goodIn_of _ (by decide +kernel)) ggX7_replace_X7_isLetter
set_option maxRecDepth 20000 in
theorem ggX7_replace_X4_findAlone : GoodIn wsX7_replace wsX4_findAlone := goodIn_r _ [19, 20, 21, 22, 23, 24, 18, 25, 26, 27, 28, 29, 30, 31, 32, 33, 34, 35, 36, 37, 38, 39, 40, 41, 42, 43, 44, 45, 46, 47, 48, 49, 50, 7, 51, 52, 53, 54, 55, 56, 57, 58, 59, 60, 61, 62, 63, 64, 65, 66, 67, 68, 69, 70, 71, 72, 73, 74, 75, 76, 77, 78, 79, 80, 81, 82, 83, 84, 85, 129, 130, 131, 132, 133, 134, 135, 136, 137, 138, 139, 140, 141, 142, 143, 144, 145] (by decide +kernel) (by decide +kernel)
set_option maxRecDepth 20000 in
theorem gX7_replace_X4_findAlone : GoodIn wsX7_replace (wsV RX7 90 RX4 yX4_findAlone wsX4_findAlone) := goodIn_app (goodIn_of _ (by decide +kernel)) ggX7_replace_X4_findAlone
set_option maxRecDepth 20000 in
theorem ggX7_replace_X4_lengthWithParts : GoodIn wsX7_replace wsX4_lengthWithParts := goodIn_r _ [89, 20, 82, 83, 84, 18, 85, 21, 39, 73, 129, 130, 131, 132, 133, 134, 135, 136] (by decide +kernel) (by decide +kernel)
set_option maxRecDepth 20000 in
theorem gX7_replace_X4_lengthWithParts : GoodIn wsX7_replace (wsV RX7 97 RX4 yX4_lengthWithParts wsX4_lengthWithParts) := goodIn_app (goodIn_of _ (by decide +kernel)) ggX7_replace_X4_lengthWithParts
set_option maxRecDepth 20000 in
theorem ggX7_replace_X0_record : GoodIn wsX7_replace wsX0_record := goodIn_r _ [94, 95, 96, 97, 98, 99, 93, 100, 101, 102, 103, 7, 104, 52, 105, 106, 107, 108, 109, 10, 9, 110, 146, 147, 137, 138, 139, 140, 141] (by decide +kernel) (by decide +kernel)
set_option maxRecDepth 20000 in
theorem gX7_replace_X0_record : GoodIn wsX7_replace (wsV RX7 66 RX0 yX0_record wsX0_record) := goodIn_app (goodIn_of _ (by decide +kernel)) ggX7_replace_X0_record
set_option maxRecDepth 20000 in
theorem ggX7_replace_X4_putLetterForParts : GoodIn wsX7_replace wsX4_putLetterForParts := goodIn_r _ [114, 115, 116, 106, 107, 108, 20, 82, 83, 84, 18, 85, 21, 39, 73, 117, 118, 119, 7, 120, 109, 52, 137, 138, 139, 140, 141, 129, 130, 131, 132, 133, 134, 135, 136] (by decide +kernel) (by decide +kernel)
set_option maxRecDepth 20000 in
theorem gX7_replace_X4_putLetterForParts : GoodIn wsX7_replace (wsV RX7 101 RX4 yX4_putLetterForParts wsX4_putLetterForParts) := goodIn_app (goodIn_of _ (by decide +kernel)) ggX7_replace_X4_putLetterForParts
theorem dX7_replace_0 : decode cX7_replace 0 = .ok (.aload_n 0, 1) := by decide +kernel
theorem dX7_replace_1 : decode cX7_replace 1 = .ok (.getfield 12, 3) := by decide +kernel
theorem dX7_replace_4 : decode cX7_replace 4 = .ok (.iload_n 1, 1) := by decide +kernel
theorem dX7_replace_5 : decode cX7_replace 5 = .ok (.invokevirtual 83, 3) := by decide +kernel
theorem dX7_replace_8 : decode cX7_replace 8 = .ok (.astore_n 3, 1) := by decide +kernel
theorem dX7_replace_9 : decode cX7_replace 9 = .ok (.aload_n 3, 1) := by decide +kernel
theorem dX7_replace_10 : decode cX7_replace 10 = .ok (.ifnonnull 5, 3) := by decide +kernel
theorem dX7_replace_13 : decode cX7_replace 13 = .ok (.iconst (-1), 1) := by decide +kernel
theorem dX7_replace_14 : decode cX7_replace 14 = .ok (.ireturn, 1) := by decide +kernel
theorem dX7_replace_15 : decode cX7_replace 15 = .ok (.iload_n 2, 1) := by decide +kernel
theorem dX7_replace_16 : decode cX7_replace 16 = .ok (.invokestatic 87, 3) := by decide +kernel
theorem dX7_replace_19 : decode cX7_replace 19 = .ok (.ifCond .ne 6, 3) := by decide +kernel
theorem dX7_replace_22 : decode cX7_replace 22 = .ok (.bipush (-2), 2) := by decide +kernel
theorem dX7_replace_24 : decode cX7_replace 24 = .ok (.ireturn, 1) := by decide +kernel
theorem dX7_replace_25 : decode cX7_replace 25 = .ok (.aload_n 0, 1) := by decide +kernel
theorem dX7_replace_26 : decode cX7_replace 26 = .ok (.getfield 47, 3) := by decide +kernel
theorem dX7_replace_29 : decode cX7_replace 29 = .ok (.aload_n 0, 1) := by decide +kernel
theorem dX7_replace_30 : decode cX7_replace 30 = .ok (.getfield 12, 3) := by decide +kernel
theorem dX7_replace_33 : decode cX7_replace 33 = .ok (.aload_n 3, 1) := by decide +kernel
theorem dX7_replace_34 : decode cX7_replace 34 = .ok (.invokevirtual 90, 3) := by decide +kernel
theorem dX7_replace_37 : decode cX7_replace 37 = .ok (.aload_n 0, 1) := by decide +kernel
theorem dX7_replace_38 : decode cX7_replace 38 = .ok (.getfield 47, 3) := by decide +kernel
theorem dX7_replace_41 : decode cX7_replace 41 = .ok (.getfield 94, 3) := by decide +kernel
theorem dX7_replace_44 : decode cX7_replace 44 = .ok (.ifCond .ne 6, 3) := by decide +kernel
theorem dX7_replace_47 : decode cX7_replace 47 = .ok (.bipush (-5), 2) := by decide +kernel
theorem dX7_replace_49 : decode cX7_replace 49 = .ok (.ireturn, 1) := by decide +kernel
theorem dX7_replace_50 : decode cX7_replace 50 = .ok (.aload_n 0, 1) := by decide +kernel
theorem dX7_replace_51 : decode cX7_replace 51 = .ok (.getfield 47, 3) := by decide +kernel
theorem dX7_replace_54 : decode cX7_replace 54 = .ok (.aload_n 0, 1) := by decide +kernel
theorem dX7_replace_55 : decode cX7_replace 55 = .ok (.getfield 12, 3) := by decide +kernel
theorem dX7_replace_58 : decode cX7_replace 58 = .ok (.getfield 62, 3) := by decide +kernel
theorem dX7_replace_61 : decode cX7_replace 61 = .ok (.invokevirtual 97, 3) := by decide +kernel
theorem dX7_replace_64 : decode cX7_replace 64 = .ok (.bipush 120, 2) := by decide +kernel
theorem dX7_replace_66 : decode cX7_replace 66 = .ok (.if_icmp .le 6, 3) := by decide +kernel
theorem dX7_replace_69 : decode cX7_replace 69 = .ok (.bipush (-3), 2) := by decide +kernel
theorem dX7_replace_71 : decode cX7_replace 71 = .ok (.ireturn, 1) := by decide +kernel
theorem dX7_replace_72 : decode cX7_replace 72 = .ok (.aload_n 0, 1) := by decide +kernel
theorem dX7_replace_73 : decode cX7_replace 73 = .ok (.getfield 26, 3) := by decide +kernel
theorem dX7_replace_76 : decode cX7_replace 76 = .ok (.aload_n 0, 1) := by decide +kernel
theorem dX7_replace_77 : decode cX7_replace 77 = .ok (.getfield 12, 3) := by decide +kernel
theorem dX7_replace_80 : decode cX7_replace 80 = .ok (.invokevirtual 66, 3) := by decide +kernel
theorem dX7_replace_83 : decode cX7_replace 83 = .ok (.aload_n 0, 1) := by decide +kernel
theorem dX7_replace_84 : decode cX7_replace 84 = .ok (.getfield 47, 3) := by decide +kernel
theorem dX7_replace_87 : decode cX7_replace 87 = .ok (.aload_n 0, 1) := by decide +kernel
theorem dX7_replace_88 : decode cX7_replace 88 = .ok (.getfield 12, 3) := by decide +kernel
theorem dX7_replace_91 : decode cX7_replace 91 = .ok (.iload_n 2, 1) := by decide +kernel
theorem dX7_replace_92 : decode cX7_replace 92 = .ok (.invokevirtual 101, 3) := by decide +kernel
theorem dX7_replace_95 : decode cX7_replace 95 = .ok (.aload_n 0, 1) := by decide +kernel
theorem dX7_replace_96 : decode cX7_replace 96 = .ok (.getfield 47, 3) := by decide +kernel
theorem dX7_replace_99 : decode cX7_replace 99 = .ok (.getfield 94, 3) := by decide +kernel
theorem dX7_replace_102 : decode cX7_replace 102 = .ok (.ireturn, 1) := by decide +kernel
set_option maxRecDepth 20000 in
theorem ggX7_addPattern_X3_readFault : GoodIn wsX7_addPattern wsX3_readFault := goodIn_r _ [9, 10, 11, 12, 13, 14, 15, 16, 17, 18, 19, 20, 21, 8, 22, 23, 24, 25, 26, 27, 28, 29, 30, 31, 32, 33, 34, 35, 36, 37, 38, 39, 40, 41, 42, 43, 44, 45, 46, 47, 48, 49, 50, 51, 52, 53, 54, 55, 56, 118, 119, 120, 121, 122, 123, 124, 125, 126] (by decide +kernel) (by decide +kernel)
set_option maxRecDepth 20000 in
theorem gX7_addPattern_X3_readFault : GoodIn wsX7_addPattern (wsV RX7 105 RX3 yX3_readFault wsX3_readFault) := goodIn_app (goodIn_of _ (by decide +kernel)) ggX7_addPattern_X3_readFault
set_option maxRecDepth 20000 in
theorem ggX7_addPattern_X0_record : GoodIn wsX7_addPattern wsX0_record := goodIn_r _ [61, 62, 63, 64, 65, 66, 60, 67, 68, 69, 70, 71, 72, 73, 74, 75, 76, 77, 78, 79, 80, 81, 127, 128, 113, 114, 115, 116, 117] (by decide +kernel) (by decide +kernel)
set_option maxRecDepth 20000 in
theorem gX7_addPattern_X0_record : GoodIn wsX7_addPattern (wsV RX7 66 RX0 yX0_record wsX0_record) := goodIn_app (goodIn_of _ (by decide +kernel)) ggX7_addPattern_X0_record
set_option maxRecDepth 20000 in
theorem ggX7_addPattern_X3_makePattern : GoodIn wsX7_addPattern wsX3_makePattern := goodIn_r _ [85, 86, 87, 88, 42, 10, 11, 89, 90, 91, 92, 93, 94, 95, 96, 97, 98, 99, 100, 129, 130, 131, 132, 118, 119, 120, 121, 122, 123, 124] (by decide +kernel) (by decide +kernel)
set_option maxRecDepth 20000 in
theorem gX7_addPattern_X3_makePattern : GoodIn wsX7_addPattern (wsV RX7 112 RX3 yX3_makePattern wsX3_makePattern) := goodIn_app (goodIn_of _ (by decide +kernel)) ggX7_addPattern_X3_makePattern
set_option maxRecDepth 20000 in
theorem ggX7_addPattern_X5_addLast : GoodIn wsX7_addPattern wsX5_addLast := goodIn_r _ [104, 80, 79, 113, 114, 115, 116, 117] (by decide +kernel) (by decide +kernel)
set_option maxRecDepth 20000 in
theorem gX7_addPattern_X5_addLast : GoodIn wsX7_addPattern (wsV RX7 116 RX5 yX5_addLast wsX5_addLast) := goodIn_app (goodIn_of _ (by decide +kernel)) ggX7_addPattern_X5_addLast
theorem dX7_addPattern_0 : decode cX7_addPattern 0 = .ok (.aload_n 0, 1) := by decide +kernel
theorem dX7_addPattern_1 : decode cX7_addPattern 1 = .ok (.getfield 40, 3) := by decide +kernel
theorem dX7_addPattern_4 : decode cX7_addPattern 4 = .ok (.aload_n 0, 1) := by decide +kernel
theorem dX7_addPattern_5 : decode cX7_addPattern 5 = .ok (.getfield 33, 3) := by decide +kernel
theorem dX7_addPattern_8 : decode cX7_addPattern 8 = .ok (.invokevirtual 105, 3) := by decide +kernel
theorem dX7_addPattern_11 : decode cX7_addPattern 11 = .ok (.istore_n 1, 1) := by decide +kernel
theorem dX7_addPattern_12 : decode cX7_addPattern 12 = .ok (.iload_n 1, 1) := by decide +kernel
theorem dX7_addPattern_13 : decode cX7_addPattern 13 = .ok (.iconst (-1), 1) := by decide +kernel
theorem dX7_addPattern_14 : decode cX7_addPattern 14 = .ok (.if_icmp .eq 8, 3) := by decide +kernel
theorem dX7_addPattern_17 : decode cX7_addPattern 17 = .ok (.bipush (-100), 2) := by decide +kernel
theorem dX7_addPattern_19 : decode cX7_addPattern 19 = .ok (.iload_n 1, 1) := by decide +kernel
theorem dX7_addPattern_20 : decode cX7_addPattern 20 = .ok (.isub, 1) := by decide +kernel
theorem dX7_addPattern_21 : decode cX7_addPattern 21 = .ok (.ireturn, 1) := by decide +kernel
theorem dX7_addPattern_22 : decode cX7_addPattern 22 = .ok (.aload_n 0, 1) := by decide +kernel
theorem dX7_addPattern_23 : decode cX7_addPattern 23 = .ok (.getfield 12, 3) := by decide +kernel
theorem dX7_addPattern_26 : decode cX7_addPattern 26 = .ok (.getfield 109, 3) := by decide +kernel
theorem dX7_addPattern_29 : decode cX7_addPattern 29 = .ok (.bipush 6, 2) := by decide +kernel
theorem dX7_addPattern_31 : decode cX7_addPattern 31 = .ok (.if_icmp .lt 6, 3) := by decide +kernel
theorem dX7_addPattern_34 : decode cX7_addPattern 34 = .ok (.bipush (-3), 2) := by decide +kernel
theorem dX7_addPattern_36 : decode cX7_addPattern 36 = .ok (.ireturn, 1) := by decide +kernel
theorem dX7_addPattern_37 : decode cX7_addPattern 37 = .ok (.aload_n 0, 1) := by decide +kernel
theorem dX7_addPattern_38 : decode cX7_addPattern 38 = .ok (.getfield 26, 3) := by decide +kernel
theorem dX7_addPattern_41 : decode cX7_addPattern 41 = .ok (.aload_n 0, 1) := by decide +kernel
theorem dX7_addPattern_42 : decode cX7_addPattern 42 = .ok (.getfield 12, 3) := by decide +kernel
theorem dX7_addPattern_45 : decode cX7_addPattern 45 = .ok (.invokevirtual 66, 3) := by decide +kernel
theorem dX7_addPattern_48 : decode cX7_addPattern 48 = .ok (.aload_n 0, 1) := by decide +kernel
theorem dX7_addPattern_49 : decode cX7_addPattern 49 = .ok (.getfield 12, 3) := by decide +kernel
theorem dX7_addPattern_52 : decode cX7_addPattern 52 = .ok (.aload_n 0, 1) := by decide +kernel
theorem dX7_addPattern_53 : decode cX7_addPattern 53 = .ok (.getfield 40, 3) := by decide +kernel
theorem dX7_addPattern_56 : decode cX7_addPattern 56 = .ok (.invokevirtual 112, 3) := by decide +kernel
theorem dX7_addPattern_59 : decode cX7_addPattern 59 = .ok (.invokevirtual 116, 3) := by decide +kernel
theorem dX7_addPattern_62 : decode cX7_addPattern 62 = .ok (.aload_n 0, 1) := by decide +kernel
theorem dX7_addPattern_63 : decode cX7_addPattern 63 = .ok (.getfield 12, 3) := by decide +kernel
theorem dX7_addPattern_66 : decode cX7_addPattern 66 = .ok (.getfield 109, 3) := by decide +kernel
theorem dX7_addPattern_69 : decode cX7_addPattern 69 = .ok (.iconst 1, 1) := by decide +kernel
theorem dX7_addPattern_70 : decode cX7_addPattern 70 = .ok (.isub, 1) := by decide +kernel
theorem dX7_addPattern_71 : decode cX7_addPattern 71 = .ok (.ireturn, 1) := by decide +kernel
set_option maxRecDepth 20000 in
theorem ggX7_removePattern_X5_patternOrNull : GoodIn wsX7_removePattern wsX5_patternOrNull := goodIn_r _ [7, 8, 9, 44, 45, 46, 47, 48] (by decide +kernel) (by decide +kernel)
set_option maxRecDepth 20000 in
theorem gX7_removePattern_X5_patternOrNull : GoodIn wsX7_removePattern (wsV RX7 83 RX5 yX5_patternOrNull wsX5_patternOrNull) := goodIn_app (goodIn_of _ (by decide +kernel)) ggX7_removePattern_X5_patternOrNull
set_option maxRecDepth 20000 in
theorem ggX7_removePattern_X0_record : GoodIn wsX7_removePattern wsX0_record := goodIn_r _ [14, 15, 16, 17, 18, 19, 13, 20, 21, 22, 23, 6, 24, 25, 26, 27, 28, 29, 30, 9, 8, 31, 49, 50, 44, 45, 46, 47, 48] (by decide +kernel) (by decide +kernel)
set_option maxRecDepth 20000 in
theorem gX7_removePattern_X0_record : GoodIn wsX7_removePattern (wsV RX7 66 RX0 yX0_record wsX0_record) := goodIn_app (goodIn_of _ (by decide +kernel)) ggX7_removePattern_X0_record
set_option maxRecDepth 20000 in
theorem ggX7_removePattern_X5_removeNumber : GoodIn wsX7_removePattern wsX5_removeNumber := goodIn_r _ [35, 9, 8, 44, 45, 46, 47, 48] (by decide +kernel) (by decide +kernel)
set_option maxRecDepth 20000 in
theorem gX7_removePattern_X5_removeNumber : GoodIn wsX7_removePattern (wsV RX7 120 RX5 yX5_removeNumber wsX5_removeNumber) := goodIn_app (goodIn_of _ (by decide +kernel)) ggX7_removePattern_X5_removeNumber
theorem dX7_removePattern_0 : decode cX7_removePattern 0 = .ok (.aload_n 0, 1) := by decide +kernel
theorem dX7_removePattern_1 : decode cX7_removePattern 1 = .ok (.getfield 12, 3) := by decide +kernel
theorem dX7_removePattern_4 : decode cX7_removePattern 4 = .ok (.iload_n 1, 1) := by decide +kernel
theorem dX7_removePattern_5 : decode cX7_removePattern 5 = .ok (.invokevirtual 83, 3) := by decide +kernel
theorem dX7_removePattern_8 : decode cX7_removePattern 8 = .ok (.ifnonnull 5, 3) := by decide +kernel
theorem dX7_removePattern_11 : decode cX7_removePattern 11 = .ok (.iconst (-1), 1) := by decide +kernel
theorem dX7_removePattern_12 : decode cX7_removePattern 12 = .ok (.ireturn, 1) := by decide +kernel
theorem dX7_removePattern_13 : decode cX7_removePattern 13 = .ok (.aload_n 0, 1) := by decide +kernel
theorem dX7_removePattern_14 : decode cX7_removePattern 14 = .ok (.getfield 26, 3) := by decide +kernel
theorem dX7_removePattern_17 : decode cX7_removePattern 17 = .ok (.aload_n 0, 1) := by decide +kernel
theorem dX7_removePattern_18 : decode cX7_removePattern 18 = .ok (.getfield 12, 3) := by decide +kernel
theorem dX7_removePattern_21 : decode cX7_removePattern 21 = .ok (.invokevirtual 66, 3) := by decide +kernel
theorem dX7_removePattern_24 : decode cX7_removePattern 24 = .ok (.aload_n 0, 1) := by decide +kernel
theorem dX7_removePattern_25 : decode cX7_removePattern 25 = .ok (.getfield 12, 3) := by decide +kernel
theorem dX7_removePattern_28 : decode cX7_removePattern 28 = .ok (.iload_n 1, 1) := by decide +kernel
theorem dX7_removePattern_29 : decode cX7_removePattern 29 = .ok (.invokevirtual 120, 3) := by decide +kernel
theorem dX7_removePattern_32 : decode cX7_removePattern 32 = .ok (.aload_n 0, 1) := by decide +kernel
theorem dX7_removePattern_33 : decode cX7_removePattern 33 = .ok (.getfield 12, 3) := by decide +kernel
theorem dX7_removePattern_36 : decode cX7_removePattern 36 = .ok (.getfield 109, 3) := by decide +kernel
theorem dX7_removePattern_39 : decode cX7_removePattern 39 = .ok (.ireturn, 1) := by decide +kernel
set_option maxRecDepth 20000 in
theorem ggX7_setSlips_X0_record : GoodIn wsX7_setSlips wsX0_record := goodIn_r _ [7, 8, 9, 10, 11, 12, 6, 13, 14, 15, 16, 17, 18, 19, 20, 21, 22, 23, 24, 25, 26, 27, 41, 42, 36, 37, 38, 39, 40] (by decide +kernel) (by decide +kernel)
set_option maxRecDepth 20000 in
theorem gX7_setSlips_X0_record : GoodIn wsX7_setSlips (wsV RX7 66 RX0 yX0_record wsX0_record) := goodIn_app (goodIn_of _ (by decide +kernel)) ggX7_setSlips_X0_record
theorem dX7_setSlips_0 : decode cX7_setSlips 0 = .ok (.iload_n 1, 1) := by decide +kernel
theorem dX7_setSlips_1 : decode cX7_setSlips 1 = .ok (.ifCond .lt 8, 3) := by decide +kernel
theorem dX7_setSlips_4 : decode cX7_setSlips 4 = .ok (.iload_n 1, 1) := by decide +kernel
theorem dX7_setSlips_5 : decode cX7_setSlips 5 = .ok (.iconst 4, 1) := by decide +kernel
theorem dX7_setSlips_6 : decode cX7_setSlips 6 = .ok (.if_icmp .le 6, 3) := by decide +kernel
theorem dX7_setSlips_9 : decode cX7_setSlips 9 = .ok (.bipush (-2), 2) := by decide +kernel
theorem dX7_setSlips_11 : decode cX7_setSlips 11 = .ok (.ireturn, 1) := by decide +kernel
theorem dX7_setSlips_12 : decode cX7_setSlips 12 = .ok (.aload_n 0, 1) := by decide +kernel
theorem dX7_setSlips_13 : decode cX7_setSlips 13 = .ok (.getfield 12, 3) := by decide +kernel
theorem dX7_setSlips_16 : decode cX7_setSlips 16 = .ok (.getfield 124, 3) := by decide +kernel
theorem dX7_setSlips_19 : decode cX7_setSlips 19 = .ok (.istore_n 2, 1) := by decide +kernel
theorem dX7_setSlips_20 : decode cX7_setSlips 20 = .ok (.iload_n 1, 1) := by decide +kernel
theorem dX7_setSlips_21 : decode cX7_setSlips 21 = .ok (.iload_n 2, 1) := by decide +kernel
theorem dX7_setSlips_22 : decode cX7_setSlips 22 = .ok (.if_icmp .ne 6, 3) := by decide +kernel
theorem dX7_setSlips_25 : decode cX7_setSlips 25 = .ok (.bipush (-5), 2) := by decide +kernel
theorem dX7_setSlips_27 : decode cX7_setSlips 27 = .ok (.ireturn, 1) := by decide +kernel
theorem dX7_setSlips_28 : decode cX7_setSlips 28 = .ok (.aload_n 0, 1) := by decide +kernel
theorem dX7_setSlips_29 : decode cX7_setSlips 29 = .ok (.getfield 26, 3) := by decide +kernel
theorem dX7_setSlips_32 : decode cX7_setSlips 32 = .ok (.aload_n 0, 1) := by decide +kernel
theorem dX7_setSlips_33 : decode cX7_setSlips 33 = .ok (.getfield 12, 3) := by decide +kernel
theorem dX7_setSlips_36 : decode cX7_setSlips 36 = .ok (.invokevirtual 66, 3) := by decide +kernel
theorem dX7_setSlips_39 : decode cX7_setSlips 39 = .ok (.aload_n 0, 1) := by decide +kernel
theorem dX7_setSlips_40 : decode cX7_setSlips 40 = .ok (.getfield 12, 3) := by decide +kernel
theorem dX7_setSlips_43 : decode cX7_setSlips 43 = .ok (.iload_n 1, 1) := by decide +kernel
theorem dX7_setSlips_44 : decode cX7_setSlips 44 = .ok (.putfield 124, 3) := by decide +kernel
theorem dX7_setSlips_47 : decode cX7_setSlips 47 = .ok (.iload_n 2, 1) := by decide +kernel
theorem dX7_setSlips_48 : decode cX7_setSlips 48 = .ok (.ireturn, 1) := by decide +kernel
set_option maxRecDepth 20000 in
theorem ggX7_type_X1_append : GoodIn wsX7_type wsX1_append := goodIn_r _ [6, 7, 8, 17, 18] (by decide +kernel) (by decide +kernel)
set_option maxRecDepth 20000 in
theorem gX7_type_X1_append : GoodIn wsX7_type (wsV RX7 127 RX1 yX1_append wsX1_append) := goodIn_app (goodIn_of _ (by decide +kernel)) ggX7_type_X1_append
theorem dX7_type_0 : decode cX7_type 0 = .ok (.aload_n 0, 1) := by decide +kernel
theorem dX7_type_1 : decode cX7_type 1 = .ok (.getfield 33, 3) := by decide +kernel
theorem dX7_type_4 : decode cX7_type 4 = .ok (.getfield 78, 3) := by decide +kernel
theorem dX7_type_7 : decode cX7_type 7 = .ok (.bipush 60, 2) := by decide +kernel
theorem dX7_type_9 : decode cX7_type 9 = .ok (.if_icmp .lt 6, 3) := by decide +kernel
theorem dX7_type_12 : decode cX7_type 12 = .ok (.bipush (-3), 2) := by decide +kernel
theorem dX7_type_14 : decode cX7_type 14 = .ok (.ireturn, 1) := by decide +kernel
theorem dX7_type_15 : decode cX7_type 15 = .ok (.aload_n 0, 1) := by decide +kernel
theorem dX7_type_16 : decode cX7_type 16 = .ok (.getfield 33, 3) := by decide +kernel
theorem dX7_type_19 : decode cX7_type 19 = .ok (.iload_n 1, 1) := by decide +kernel
theorem dX7_type_20 : decode cX7_type 20 = .ok (.invokevirtual 127, 3) := by decide +kernel
theorem dX7_type_23 : decode cX7_type 23 = .ok (.aload_n 0, 1) := by decide +kernel
theorem dX7_type_24 : decode cX7_type 24 = .ok (.getfield 33, 3) := by decide +kernel
theorem dX7_type_27 : decode cX7_type 27 = .ok (.getfield 78, 3) := by decide +kernel
theorem dX7_type_30 : decode cX7_type 30 = .ok (.ireturn, 1) := by decide +kernel
theorem dX7_clearPad_0 : decode cX7_clearPad 0 = .ok (.aload_n 0, 1) := by decide +kernel
theorem dX7_clearPad_1 : decode cX7_clearPad 1 = .ok (.getfield 33, 3) := by decide +kernel
theorem dX7_clearPad_4 : decode cX7_clearPad 4 = .ok (.getfield 78, 3) := by decide +kernel
theorem dX7_clearPad_7 : decode cX7_clearPad 7 = .ok (.istore_n 1, 1) := by decide +kernel
theorem dX7_clearPad_8 : decode cX7_clearPad 8 = .ok (.aload_n 0, 1) := by decide +kernel
theorem dX7_clearPad_9 : decode cX7_clearPad 9 = .ok (.getfield 33, 3) := by decide +kernel
theorem dX7_clearPad_12 : decode cX7_clearPad 12 = .ok (.iconst 0, 1) := by decide +kernel
theorem dX7_clearPad_13 : decode cX7_clearPad 13 = .ok (.putfield 78, 3) := by decide +kernel
theorem dX7_clearPad_16 : decode cX7_clearPad 16 = .ok (.iload_n 1, 1) := by decide +kernel
theorem dX7_clearPad_17 : decode cX7_clearPad 17 = .ok (.ireturn, 1) := by decide +kernel
set_option maxRecDepth 20000 in
theorem ggX7_undo_X0_takeLatestInto : GoodIn wsX7_undo wsX0_takeLatestInto := goodIn_r _ [7, 8, 9, 10, 11, 12, 13, 14, 15, 16, 17, 18, 19, 20, 21, 22, 23, 32, 33, 34, 35, 36, 37, 38] (by decide +kernel) (by decide +kernel)
set_option maxRecDepth 20000 in
theorem gX7_undo_X0_takeLatestInto : GoodIn wsX7_undo (wsV RX7 131 RX0 yX0_takeLatestInto wsX0_takeLatestInto) := goodIn_app (goodIn_of _ (by decide +kernel)) ggX7_undo_X0_takeLatestInto
theorem dX7_undo_0 : decode cX7_undo 0 = .ok (.aload_n 0, 1) := by decide +kernel
theorem dX7_undo_1 : decode cX7_undo 1 = .ok (.getfield 26, 3) := by decide +kernel
theorem dX7_undo_4 : decode cX7_undo 4 = .ok (.getfield 128, 3) := by decide +kernel
theorem dX7_undo_7 : decode cX7_undo 7 = .ok (.ifCond .ne 6, 3) := by decide +kernel
theorem dX7_undo_10 : decode cX7_undo 10 = .ok (.bipush (-5), 2) := by decide +kernel
theorem dX7_undo_12 : decode cX7_undo 12 = .ok (.ireturn, 1) := by decide +kernel
theorem dX7_undo_13 : decode cX7_undo 13 = .ok (.aload_n 0, 1) := by decide +kernel
theorem dX7_undo_14 : decode cX7_undo 14 = .ok (.getfield 26, 3) := by decide +kernel
theorem dX7_undo_17 : decode cX7_undo 17 = .ok (.aload_n 0, 1) := by decide +kernel
theorem dX7_undo_18 : decode cX7_undo 18 = .ok (.getfield 12, 3) := by decide +kernel
theorem dX7_undo_21 : decode cX7_undo 21 = .ok (.invokevirtual 131, 3) := by decide +kernel
theorem dX7_undo_24 : decode cX7_undo 24 = .ok (.aload_n 0, 1) := by decide +kernel
theorem dX7_undo_25 : decode cX7_undo 25 = .ok (.getfield 26, 3) := by decide +kernel
theorem dX7_undo_28 : decode cX7_undo 28 = .ok (.getfield 128, 3) := by decide +kernel
theorem dX7_undo_31 : decode cX7_undo 31 = .ok (.ireturn, 1) := by decide +kernel
set_option maxRecDepth 20000 in
theorem ggX7_keep_X5_copyFrom : GoodIn wsX7_keep wsX5_copyFrom := goodIn_r _ [8, 9, 10, 11, 12, 13, 14, 15, 16, 17, 26, 27, 28, 29, 30] (by decide +kernel) (by decide +kernel)
set_option maxRecDepth 20000 in
theorem gX7_keep_X5_copyFrom : GoodIn wsX7_keep (wsV RX7 134 RX5 yX5_copyFrom wsX5_copyFrom) := goodIn_app (goodIn_of _ (by decide +kernel)) ggX7_keep_X5_copyFrom
theorem dX7_keep_0 : decode cX7_keep 0 = .ok (.aload_n 0, 1) := by decide +kernel
theorem dX7_keep_1 : decode cX7_keep 1 = .ok (.getfield 16, 3) := by decide +kernel
theorem dX7_keep_4 : decode cX7_keep 4 = .ok (.aload_n 0, 1) := by decide +kernel
theorem dX7_keep_5 : decode cX7_keep 5 = .ok (.getfield 12, 3) := by decide +kernel
theorem dX7_keep_8 : decode cX7_keep 8 = .ok (.invokevirtual 134, 3) := by decide +kernel
theorem dX7_keep_11 : decode cX7_keep 11 = .ok (.aload_n 0, 1) := by decide +kernel
theorem dX7_keep_12 : decode cX7_keep 12 = .ok (.iconst 1, 1) := by decide +kernel
theorem dX7_keep_13 : decode cX7_keep 13 = .ok (.putfield 19, 3) := by decide +kernel
theorem dX7_keep_16 : decode cX7_keep 16 = .ok (.aload_n 0, 1) := by decide +kernel
theorem dX7_keep_17 : decode cX7_keep 17 = .ok (.getfield 12, 3) := by decide +kernel
theorem dX7_keep_20 : decode cX7_keep 20 = .ok (.getfield 62, 3) := by decide +kernel
theorem dX7_keep_23 : decode cX7_keep 23 = .ok (.ireturn, 1) := by decide +kernel
set_option maxRecDepth 20000 in
theorem ggX7_restore_X0_record : GoodIn wsX7_restore wsX0_record := goodIn_r _ [9, 10, 11, 12, 13, 14, 8, 15, 16, 17, 18, 19, 20, 21, 22, 23, 24, 25, 26, 27, 28, 29, 44, 45, 39, 40, 41, 42, 43] (by decide +kernel) (by decide +kernel)
set_option maxRecDepth 20000 in
theorem gX7_restore_X0_record : GoodIn wsX7_restore (wsV RX7 66 RX0 yX0_record wsX0_record) := goodIn_app (goodIn_of _ (by decide +kernel)) ggX7_restore_X0_record
set_option maxRecDepth 20000 in
theorem ggX7_restore_X5_copyFrom : GoodIn wsX7_restore wsX5_copyFrom := goodIn_r _ [20, 21, 22, 23, 24, 25, 26, 27, 28, 29, 39, 40, 41, 42, 43] (by decide +kernel) (by decide +kernel)
set_option maxRecDepth 20000 in
theorem gX7_restore_X5_copyFrom : GoodIn wsX7_restore (wsV RX7 134 RX5 yX5_copyFrom wsX5_copyFrom) := goodIn_app (goodIn_of _ (by decide +kernel)) ggX7_restore_X5_copyFrom
theorem dX7_restore_0 : decode cX7_restore 0 = .ok (.aload_n 0, 1) := by decide +kernel
theorem dX7_restore_1 : decode cX7_restore 1 = .ok (.getfield 19, 3) := by decide +kernel
theorem dX7_restore_4 : decode cX7_restore 4 = .ok (.ifCond .ne 6, 3) := by decide +kernel
theorem dX7_restore_7 : decode cX7_restore 7 = .ok (.bipush (-5), 2) := by decide +kernel
theorem dX7_restore_9 : decode cX7_restore 9 = .ok (.ireturn, 1) := by decide +kernel
theorem dX7_restore_10 : decode cX7_restore 10 = .ok (.aload_n 0, 1) := by decide +kernel
theorem dX7_restore_11 : decode cX7_restore 11 = .ok (.getfield 26, 3) := by decide +kernel
theorem dX7_restore_14 : decode cX7_restore 14 = .ok (.aload_n 0, 1) := by decide +kernel
theorem dX7_restore_15 : decode cX7_restore 15 = .ok (.getfield 12, 3) := by decide +kernel
theorem dX7_restore_18 : decode cX7_restore 18 = .ok (.invokevirtual 66, 3) := by decide +kernel
theorem dX7_restore_21 : decode cX7_restore 21 = .ok (.aload_n 0, 1) := by decide +kernel
theorem dX7_restore_22 : decode cX7_restore 22 = .ok (.getfield 12, 3) := by decide +kernel
theorem dX7_restore_25 : decode cX7_restore 25 = .ok (.aload_n 0, 1) := by decide +kernel
theorem dX7_restore_26 : decode cX7_restore 26 = .ok (.getfield 16, 3) := by decide +kernel
theorem dX7_restore_29 : decode cX7_restore 29 = .ok (.invokevirtual 134, 3) := by decide +kernel
theorem dX7_restore_32 : decode cX7_restore 32 = .ok (.aload_n 0, 1) := by decide +kernel
theorem dX7_restore_33 : decode cX7_restore 33 = .ok (.getfield 12, 3) := by decide +kernel
theorem dX7_restore_36 : decode cX7_restore 36 = .ok (.getfield 62, 3) := by decide +kernel
theorem dX7_restore_39 : decode cX7_restore 39 = .ok (.ireturn, 1) := by decide +kernel
set_option maxRecDepth 20000 in
theorem ggX7_at_X5_signAt : GoodIn wsX7_at wsX5_signAt := goodIn_r _ [6, 7, 16, 17, 18, 19, 20] (by decide +kernel) (by decide +kernel)
set_option maxRecDepth 20000 in
theorem gX7_at_X5_signAt : GoodIn wsX7_at (wsV RX7 137 RX5 yX5_signAt wsX5_signAt) := goodIn_app (goodIn_of _ (by decide +kernel)) ggX7_at_X5_signAt
theorem dX7_at_0 : decode cX7_at 0 = .ok (.iload_n 1, 1) := by decide +kernel
theorem dX7_at_1 : decode cX7_at 1 = .ok (.ifCond .lt 14, 3) := by decide +kernel
theorem dX7_at_4 : decode cX7_at 4 = .ok (.iload_n 1, 1) := by decide +kernel
theorem dX7_at_5 : decode cX7_at 5 = .ok (.aload_n 0, 1) := by decide +kernel
theorem dX7_at_6 : decode cX7_at 6 = .ok (.getfield 12, 3) := by decide +kernel
theorem dX7_at_9 : decode cX7_at 9 = .ok (.getfield 62, 3) := by decide +kernel
theorem dX7_at_12 : decode cX7_at 12 = .ok (.if_icmp .lt 5, 3) := by decide +kernel
theorem dX7_at_15 : decode cX7_at 15 = .ok (.iconst (-1), 1) := by decide +kernel
theorem dX7_at_16 : decode cX7_at 16 = .ok (.ireturn, 1) := by decide +kernel
theorem dX7_at_17 : decode cX7_at 17 = .ok (.aload_n 0, 1) := by decide +kernel
theorem dX7_at_18 : decode cX7_at 18 = .ok (.getfield 12, 3) := by decide +kernel
theorem dX7_at_21 : decode cX7_at 21 = .ok (.iload_n 1, 1) := by decide +kernel
theorem dX7_at_22 : decode cX7_at 22 = .ok (.invokevirtual 137, 3) := by decide +kernel
theorem dX7_at_25 : decode cX7_at 25 = .ok (.ireturn, 1) := by decide +kernel
set_option maxRecDepth 20000 in
theorem ggX7_pattern_X5_patternOrNull : GoodIn wsX7_pattern wsX5_patternOrNull := goodIn_r _ [7, 8, 9, 133, 134, 135, 136, 137] (by decide +kernel) (by decide +kernel)
set_option maxRecDepth 20000 in
theorem gX7_pattern_X5_patternOrNull : GoodIn wsX7_pattern (wsV RX7 83 RX5 yX5_patternOrNull wsX5_patternOrNull) := goodIn_app (goodIn_of _ (by decide +kernel)) ggX7_pattern_X5_patternOrNull
set_option maxRecDepth 20000 in
theorem ggX7_pattern_X4_findEnds : GoodIn wsX7_pattern wsX4_findEnds := goodIn_r _ [14, 15, 16, 17, 18, 13, 19, 20, 21, 22, 23, 24, 25, 26, 27, 28, 29, 30, 31, 32, 33, 34, 35, 36, 37, 38, 39, 40, 41, 6, 42, 43, 44, 45, 46, 47, 48, 49, 50, 51, 52, 53, 54, 125, 126, 127, 128, 129, 130, 131, 132, 133, 134, 135, 136, 137, 121, 122, 123, 124] (by decide +kernel) (by decide +kernel)
set_option maxRecDepth 20000 in
theorem gX7_pattern_X4_findEnds : GoodIn wsX7_pattern (wsV RX7 146 RX4 yX4_findEnds wsX4_findEnds) := goodIn_app (goodIn_of _ (by decide +kernel)) ggX7_pattern_X4_findEnds
set_option maxRecDepth 20000 in
theorem ggX7_pattern_X4_findAlone : GoodIn wsX7_pattern wsX4_findAlone := goodIn_r _ [58, 15, 30, 59, 11, 12, 13, 14, 16, 17, 18, 19, 20, 21, 22, 23, 24, 25, 26, 27, 28, 29, 31, 32, 33, 34, 35, 36, 37, 38, 39, 40, 41, 6, 42, 43, 44, 45, 46, 47, 48, 49, 50, 51, 52, 53, 54, 60, 61, 62, 63, 64, 65, 66, 67, 68, 69, 70, 71, 72, 73, 74, 75, 76, 77, 78, 79, 80, 81, 125, 126, 127, 128, 129, 130, 131, 132, 133, 134, 135, 136, 137, 121, 122, 123, 124] (by decide +kernel) (by decide +kernel)
set_option maxRecDepth 20000 in
theorem gX7_pattern_X4_findAlone : GoodIn wsX7_pattern (wsV RX7 90 RX4 yX4_findAlone wsX4_findAlone) := goodIn_app (goodIn_of _ (by decide +kernel)) ggX7_pattern_X4_findAlone
set_option maxRecDepth 20000 in
theorem ggX7_pattern_X4_fewestSlips : GoodIn wsX7_pattern wsX4_fewestSlips := goodIn_r _ [85, 15, 78, 79, 80, 13, 81, 30, 29, 69, 125, 126, 127, 128, 129, 130, 131, 132] (by decide +kernel) (by decide +kernel)
set_option maxRecDepth 20000 in
theorem gX7_pattern_X4_fewestSlips : GoodIn wsX7_pattern (wsV RX7 149 RX4 yX4_fewestSlips wsX4_fewestSlips) := goodIn_app (goodIn_of _ (by decide +kernel)) ggX7_pattern_X4_fewestSlips
set_option maxRecDepth 20000 in
theorem ggX7_pattern_X4_firstWithFewest : GoodIn wsX7_pattern wsX4_firstWithFewest := goodIn_r _ [89, 15, 90, 83, 84, 13, 85, 78, 79, 80, 81, 30, 29, 69, 125, 126, 127, 128, 129, 130, 131, 132] (by decide +kernel) (by decide +kernel)
set_option maxRecDepth 20000 in
theorem gX7_pattern_X4_firstWithFewest : GoodIn wsX7_pattern (wsV RX7 153 RX4 yX4_firstWithFewest wsX4_firstWithFewest) := goodIn_app (goodIn_of _ (by decide +kernel)) ggX7_pattern_X4_firstWithFewest
set_option maxRecDepth 20000 in
theorem ggX7_pattern_X2_countWild : GoodIn wsX7_pattern wsX2_countWild := goodIn_r _ [94, 95, 96, 97, 98, 99, 47, 100, 101, 121, 122, 123, 124] (by decide +kernel) (by decide +kernel)
set_option maxRecDepth 20000 in
theorem gX7_pattern_X2_countWild : GoodIn wsX7_pattern (wsV RX7 156 RX2 yX2_countWild wsX2_countWild) := goodIn_app (goodIn_of _ (by decide +kernel)) ggX7_pattern_X2_countWild
set_option maxRecDepth 20000 in
theorem ggX7_pattern_X2_isPlain : GoodIn wsX7_pattern wsX2_isPlain := goodIn_r _ [105, 95, 97, 98, 99, 47, 100, 101, 106, 107, 108, 109, 110, 111, 112, 121, 122, 123, 124] (by decide +kernel) (by decide +kernel)
set_option maxRecDepth 20000 in
theorem gX7_pattern_X2_isPlain : GoodIn wsX7_pattern (wsV RX7 159 RX2 yX2_isPlain wsX2_isPlain) := goodIn_app (goodIn_of _ (by decide +kernel)) ggX7_pattern_X2_isPlain
theorem dX7_pattern_0 : decode cX7_pattern 0 = .ok (.aload_n 0, 1) := by decide +kernel
theorem dX7_pattern_1 : decode cX7_pattern 1 = .ok (.getfield 12, 3) := by decide +kernel
theorem dX7_pattern_4 : decode cX7_pattern 4 = .ok (.iload_n 1, 1) := by decide +kernel
theorem dX7_pattern_5 : decode cX7_pattern 5 = .ok (.invokevirtual 83, 3) := by decide +kernel
theorem dX7_pattern_8 : decode cX7_pattern 8 = .ok (.astore_n 3, 1) := by decide +kernel
theorem dX7_pattern_9 : decode cX7_pattern 9 = .ok (.aload_n 3, 1) := by decide +kernel
theorem dX7_pattern_10 : decode cX7_pattern 10 = .ok (.ifnonnull 5, 3) := by decide +kernel
theorem dX7_pattern_13 : decode cX7_pattern 13 = .ok (.iconst (-1), 1) := by decide +kernel
theorem dX7_pattern_14 : decode cX7_pattern 14 = .ok (.ireturn, 1) := by decide +kernel
theorem dX7_pattern_15 : decode cX7_pattern 15 = .ok (.iload_n 2, 1) := by decide +kernel
theorem dX7_pattern_16 : decode cX7_pattern 16 = .ok (.tableswitch 164 0 7 #[48, 53, 66, 86, 106, 126, 146, 151], 48) := by decide +kernel
theorem dX7_pattern_64 : decode cX7_pattern 64 = .ok (.aload_n 3, 1) := by decide +kernel
theorem dX7_pattern_65 : decode cX7_pattern 65 = .ok (.getfield 138, 3) := by decide +kernel
theorem dX7_pattern_68 : decode cX7_pattern 68 = .ok (.ireturn, 1) := by decide +kernel
theorem dX7_pattern_69 : decode cX7_pattern 69 = .ok (.aload_n 3, 1) := by decide +kernel
theorem dX7_pattern_70 : decode cX7_pattern 70 = .ok (.getfield 143, 3) := by decide +kernel
theorem dX7_pattern_73 : decode cX7_pattern 73 = .ok (.ifCond .eq 7, 3) := by decide +kernel
theorem dX7_pattern_76 : decode cX7_pattern 76 = .ok (.iconst 1, 1) := by decide +kernel
theorem dX7_pattern_77 : decode cX7_pattern 77 = .ok (.goto 4, 3) := by decide +kernel
theorem dX7_pattern_80 : decode cX7_pattern 80 = .ok (.iconst 0, 1) := by decide +kernel
theorem dX7_pattern_81 : decode cX7_pattern 81 = .ok (.ireturn, 1) := by decide +kernel
theorem dX7_pattern_82 : decode cX7_pattern 82 = .ok (.aload_n 0, 1) := by decide +kernel
theorem dX7_pattern_83 : decode cX7_pattern 83 = .ok (.getfield 47, 3) := by decide +kernel
theorem dX7_pattern_86 : decode cX7_pattern 86 = .ok (.aload_n 0, 1) := by decide +kernel
theorem dX7_pattern_87 : decode cX7_pattern 87 = .ok (.getfield 12, 3) := by decide +kernel
theorem dX7_pattern_90 : decode cX7_pattern 90 = .ok (.aload_n 3, 1) := by decide +kernel
theorem dX7_pattern_91 : decode cX7_pattern 91 = .ok (.invokevirtual 146, 3) := by decide +kernel
theorem dX7_pattern_94 : decode cX7_pattern 94 = .ok (.aload_n 0, 1) := by decide +kernel
theorem dX7_pattern_95 : decode cX7_pattern 95 = .ok (.getfield 47, 3) := by decide +kernel
theorem dX7_pattern_98 : decode cX7_pattern 98 = .ok (.getfield 94, 3) := by decide +kernel
theorem dX7_pattern_101 : decode cX7_pattern 101 = .ok (.ireturn, 1) := by decide +kernel
theorem dX7_pattern_102 : decode cX7_pattern 102 = .ok (.aload_n 0, 1) := by decide +kernel
theorem dX7_pattern_103 : decode cX7_pattern 103 = .ok (.getfield 47, 3) := by decide +kernel
theorem dX7_pattern_106 : decode cX7_pattern 106 = .ok (.aload_n 0, 1) := by decide +kernel
theorem dX7_pattern_107 : decode cX7_pattern 107 = .ok (.getfield 12, 3) := by decide +kernel
theorem dX7_pattern_110 : decode cX7_pattern 110 = .ok (.aload_n 3, 1) := by decide +kernel
theorem dX7_pattern_111 : decode cX7_pattern 111 = .ok (.invokevirtual 90, 3) := by decide +kernel
theorem dX7_pattern_114 : decode cX7_pattern 114 = .ok (.aload_n 0, 1) := by decide +kernel
theorem dX7_pattern_115 : decode cX7_pattern 115 = .ok (.getfield 47, 3) := by decide +kernel
theorem dX7_pattern_118 : decode cX7_pattern 118 = .ok (.getfield 94, 3) := by decide +kernel
theorem dX7_pattern_121 : decode cX7_pattern 121 = .ok (.ireturn, 1) := by decide +kernel
theorem dX7_pattern_122 : decode cX7_pattern 122 = .ok (.aload_n 0, 1) := by decide +kernel
theorem dX7_pattern_123 : decode cX7_pattern 123 = .ok (.getfield 47, 3) := by decide +kernel
theorem dX7_pattern_126 : decode cX7_pattern 126 = .ok (.aload_n 0, 1) := by decide +kernel
theorem dX7_pattern_127 : decode cX7_pattern 127 = .ok (.getfield 12, 3) := by decide +kernel
theorem dX7_pattern_130 : decode cX7_pattern 130 = .ok (.aload_n 3, 1) := by decide +kernel
theorem dX7_pattern_131 : decode cX7_pattern 131 = .ok (.invokevirtual 146, 3) := by decide +kernel
theorem dX7_pattern_134 : decode cX7_pattern 134 = .ok (.aload_n 0, 1) := by decide +kernel
theorem dX7_pattern_135 : decode cX7_pattern 135 = .ok (.getfield 47, 3) := by decide +kernel
theorem dX7_pattern_138 : decode cX7_pattern 138 = .ok (.invokevirtual 149, 3) := by decide +kernel
theorem dX7_pattern_141 : decode cX7_pattern 141 = .ok (.ireturn, 1) := by decide +kernel
theorem dX7_pattern_142 : decode cX7_pattern 142 = .ok (.aload_n 0, 1) := by decide +kernel
theorem dX7_pattern_143 : decode cX7_pattern 143 = .ok (.getfield 47, 3) := by decide +kernel
theorem dX7_pattern_146 : decode cX7_pattern 146 = .ok (.aload_n 0, 1) := by decide +kernel
theorem dX7_pattern_147 : decode cX7_pattern 147 = .ok (.getfield 12, 3) := by decide +kernel
theorem dX7_pattern_150 : decode cX7_pattern 150 = .ok (.aload_n 3, 1) := by decide +kernel
theorem dX7_pattern_151 : decode cX7_pattern 151 = .ok (.invokevirtual 146, 3) := by decide +kernel
theorem dX7_pattern_154 : decode cX7_pattern 154 = .ok (.aload_n 0, 1) := by decide +kernel
theorem dX7_pattern_155 : decode cX7_pattern 155 = .ok (.getfield 47, 3) := by decide +kernel
theorem dX7_pattern_158 : decode cX7_pattern 158 = .ok (.invokevirtual 153, 3) := by decide +kernel
theorem dX7_pattern_161 : decode cX7_pattern 161 = .ok (.ireturn, 1) := by decide +kernel
theorem dX7_pattern_162 : decode cX7_pattern 162 = .ok (.aload_n 3, 1) := by decide +kernel
theorem dX7_pattern_163 : decode cX7_pattern 163 = .ok (.invokevirtual 156, 3) := by decide +kernel
theorem dX7_pattern_166 : decode cX7_pattern 166 = .ok (.ireturn, 1) := by decide +kernel
theorem dX7_pattern_167 : decode cX7_pattern 167 = .ok (.aload_n 3, 1) := by decide +kernel
theorem dX7_pattern_168 : decode cX7_pattern 168 = .ok (.invokevirtual 159, 3) := by decide +kernel
theorem dX7_pattern_171 : decode cX7_pattern 171 = .ok (.ifCond .eq 7, 3) := by decide +kernel
theorem dX7_pattern_174 : decode cX7_pattern 174 = .ok (.iconst 1, 1) := by decide +kernel
theorem dX7_pattern_175 : decode cX7_pattern 175 = .ok (.goto 4, 3) := by decide +kernel
theorem dX7_pattern_178 : decode cX7_pattern 178 = .ok (.iconst 0, 1) := by decide +kernel
theorem dX7_pattern_179 : decode cX7_pattern 179 = .ok (.ireturn, 1) := by decide +kernel
theorem dX7_pattern_180 : decode cX7_pattern 180 = .ok (.bipush (-2), 2) := by decide +kernel
theorem dX7_pattern_182 : decode cX7_pattern 182 = .ok (.ireturn, 1) := by decide +kernel
set_option maxRecDepth 20000 in
theorem ggX7_takes_X5_patternOrNull : GoodIn wsX7_takes wsX5_patternOrNull := goodIn_r _ [6, 7, 8, 27, 28, 29, 30, 31] (by decide +kernel) (by decide +kernel)
set_option maxRecDepth 20000 in
theorem gX7_takes_X5_patternOrNull : GoodIn wsX7_takes (wsV RX7 83 RX5 yX5_patternOrNull wsX5_patternOrNull) := goodIn_app (goodIn_of _ (by decide +kernel)) ggX7_takes_X5_patternOrNull
set_option maxRecDepth 20000 in
theorem ggX7_takes_X2_signsOf : GoodIn wsX7_takes wsX2_signsOf := goodIn_r _ [13, 14, 23, 24, 25, 26] (by decide +kernel) (by decide +kernel)
set_option maxRecDepth 20000 in
theorem gX7_takes_X2_signsOf : GoodIn wsX7_takes (wsV RX7 162 RX2 yX2_signsOf wsX2_signsOf) := goodIn_app (goodIn_of _ (by decide +kernel)) ggX7_takes_X2_signsOf
theorem dX7_takes_0 : decode cX7_takes 0 = .ok (.aload_n 0, 1) := by decide +kernel
theorem dX7_takes_1 : decode cX7_takes 1 = .ok (.getfield 12, 3) := by decide +kernel
theorem dX7_takes_4 : decode cX7_takes 4 = .ok (.iload_n 1, 1) := by decide +kernel
theorem dX7_takes_5 : decode cX7_takes 5 = .ok (.invokevirtual 83, 3) := by decide +kernel
theorem dX7_takes_8 : decode cX7_takes 8 = .ok (.astore_n 3, 1) := by decide +kernel
theorem dX7_takes_9 : decode cX7_takes 9 = .ok (.aload_n 3, 1) := by decide +kernel
theorem dX7_takes_10 : decode cX7_takes 10 = .ok (.ifnull 15, 3) := by decide +kernel
theorem dX7_takes_13 : decode cX7_takes 13 = .ok (.iload_n 2, 1) := by decide +kernel
theorem dX7_takes_14 : decode cX7_takes 14 = .ok (.ifCond .lt 11, 3) := by decide +kernel
theorem dX7_takes_17 : decode cX7_takes 17 = .ok (.iload_n 2, 1) := by decide +kernel
theorem dX7_takes_18 : decode cX7_takes 18 = .ok (.aload_n 3, 1) := by decide +kernel
theorem dX7_takes_19 : decode cX7_takes 19 = .ok (.getfield 138, 3) := by decide +kernel
theorem dX7_takes_22 : decode cX7_takes 22 = .ok (.if_icmp .lt 5, 3) := by decide +kernel
theorem dX7_takes_25 : decode cX7_takes 25 = .ok (.iconst (-1), 1) := by decide +kernel
theorem dX7_takes_26 : decode cX7_takes 26 = .ok (.ireturn, 1) := by decide +kernel
theorem dX7_takes_27 : decode cX7_takes 27 = .ok (.aload_n 3, 1) := by decide +kernel
theorem dX7_takes_28 : decode cX7_takes 28 = .ok (.iload_n 2, 1) := by decide +kernel
theorem dX7_takes_29 : decode cX7_takes 29 = .ok (.invokevirtual 162, 3) := by decide +kernel
theorem dX7_takes_32 : decode cX7_takes 32 = .ok (.ireturn, 1) := by decide +kernel
set_option maxRecDepth 20000 in
theorem ggX7_end_X5_patternOrNull : GoodIn wsX7_end wsX5_patternOrNull := goodIn_r _ [7, 8, 9, 100, 101, 102, 103, 104] (by decide +kernel) (by decide +kernel)
set_option maxRecDepth 20000 in
theorem gX7_end_X5_patternOrNull : GoodIn wsX7_end (wsV RX7 83 RX5 yX5_patternOrNull wsX5_patternOrNull) := goodIn_app (goodIn_of _ (by decide +kernel)) ggX7_end_X5_patternOrNull
set_option maxRecDepth 20000 in
theorem ggX7_end_X4_findAlone : GoodIn wsX7_end wsX4_findAlone := goodIn_r _ [14, 15, 16, 17, 18, 19, 13, 20, 21, 22, 23, 24, 25, 26, 27, 28, 29, 30, 31, 32, 33, 34, 35, 36, 37, 38, 39, 40, 41, 42, 43, 44, 45, 6, 46, 47, 48, 49, 50, 51, 52, 53, 54, 55, 56, 57, 58, 59, 60, 61, 62, 63, 64, 65, 66, 67, 68, 69, 70, 71, 72, 73, 74, 75, 76, 77, 78, 79, 80, 92, 93, 94, 95, 96, 97, 98, 99, 100, 101, 102, 103, 104, 105, 106, 107, 108] (by decide +kernel) (by decide +kernel)
set_option maxRecDepth 20000 in
theorem gX7_end_X4_findAlone : GoodIn wsX7_end (wsV RX7 90 RX4 yX4_findAlone wsX4_findAlone) := goodIn_app (goodIn_of _ (by decide +kernel)) ggX7_end_X4_findAlone
set_option maxRecDepth 20000 in
theorem ggX7_end_X4_findEnds : GoodIn wsX7_end wsX4_findEnds := goodIn_r _ [20, 15, 21, 22, 23, 13, 24, 25, 26, 27, 28, 29, 30, 31, 32, 33, 34, 16, 35, 36, 37, 38, 39, 40, 41, 42, 43, 44, 45, 6, 46, 47, 48, 49, 50, 51, 52, 53, 54, 55, 56, 57, 58, 92, 93, 94, 95, 96, 97, 98, 99, 100, 101, 102, 103, 104, 105, 106, 107, 108] (by decide +kernel) (by decide +kernel)
set_option maxRecDepth 20000 in
theorem gX7_end_X4_findEnds : GoodIn wsX7_end (wsV RX7 146 RX4 yX4_findEnds wsX4_findEnds) := goodIn_app (goodIn_of _ (by decide +kernel)) ggX7_end_X4_findEnds
set_option maxRecDepth 20000 in
theorem ggX7_end_X4_findBeginnings : GoodIn wsX7_end wsX4_findBeginnings := goodIn_r _ [62, 63, 64, 65, 66, 13, 67, 68, 69, 70, 71, 72, 73, 74, 75, 76, 43, 44, 45, 6, 46, 47, 48, 49, 50, 51, 52, 53, 54, 55, 56, 57, 58, 92, 93, 94, 95, 96, 97, 98, 99, 100, 101, 102, 103, 104, 105, 106, 107, 108] (by decide +kernel) (by decide +kernel)
set_option maxRecDepth 20000 in
theorem gX7_end_X4_findBeginnings : GoodIn wsX7_end (wsV RX7 165 RX4 yX4_findBeginnings wsX4_findBeginnings) := goodIn_app (goodIn_of _ (by decide +kernel)) ggX7_end_X4_findBeginnings
set_option maxRecDepth 20000 in
theorem ggX7_end_X4_tell : GoodIn wsX7_end wsX4_tell := goodIn_r _ [80, 15, 16, 34, 68, 92, 93, 94, 95, 96, 97, 98, 99] (by decide +kernel) (by decide +kernel)
set_option maxRecDepth 20000 in
theorem gX7_end_X4_tell : GoodIn wsX7_end (wsV RX7 168 RX4 yX4_tell wsX4_tell) := goodIn_app (goodIn_of _ (by decide +kernel)) ggX7_end_X4_tell
theorem dX7_end_0 : decode cX7_end 0 = .ok (.aload_n 0, 1) := by decide +kernel
theorem dX7_end_1 : decode cX7_end 1 = .ok (.getfield 12, 3) := by decide +kernel
theorem dX7_end_4 : decode cX7_end 4 = .ok (.iload_n 1, 1) := by decide +kernel
theorem dX7_end_5 : decode cX7_end 5 = .ok (.invokevirtual 83, 3) := by decide +kernel
theorem dX7_end_8 : decode cX7_end 8 = .ok (.astore 5, 2) := by decide +kernel
theorem dX7_end_10 : decode cX7_end 10 = .ok (.aload 5, 2) := by decide +kernel
theorem dX7_end_12 : decode cX7_end 12 = .ok (.ifnonnull 5, 3) := by decide +kernel
theorem dX7_end_15 : decode cX7_end 15 = .ok (.iconst (-1), 1) := by decide +kernel
theorem dX7_end_16 : decode cX7_end 16 = .ok (.ireturn, 1) := by decide +kernel
theorem dX7_end_17 : decode cX7_end 17 = .ok (.iload_n 2, 1) := by decide +kernel
theorem dX7_end_18 : decode cX7_end 18 = .ok (.ifCond .lt 14, 3) := by decide +kernel
theorem dX7_end_21 : decode cX7_end 21 = .ok (.iload 4, 2) := by decide +kernel
theorem dX7_end_23 : decode cX7_end 23 = .ok (.ifCond .lt 9, 3) := by decide +kernel
theorem dX7_end_26 : decode cX7_end 26 = .ok (.iload 4, 2) := by decide +kernel
theorem dX7_end_28 : decode cX7_end 28 = .ok (.iconst 2, 1) := by decide +kernel
theorem dX7_end_29 : decode cX7_end 29 = .ok (.if_icmp .le 6, 3) := by decide +kernel
theorem dX7_end_32 : decode cX7_end 32 = .ok (.bipush (-2), 2) := by decide +kernel
theorem dX7_end_34 : decode cX7_end 34 = .ok (.ireturn, 1) := by decide +kernel
theorem dX7_end_35 : decode cX7_end 35 = .ok (.iload_n 3, 1) := by decide +kernel
theorem dX7_end_36 : decode cX7_end 36 = .ok (.ifCond .eq 19, 3) := by decide +kernel
theorem dX7_end_39 : decode cX7_end 39 = .ok (.aload_n 0, 1) := by decide +kernel
theorem dX7_end_40 : decode cX7_end 40 = .ok (.getfield 47, 3) := by decide +kernel
theorem dX7_end_43 : decode cX7_end 43 = .ok (.aload_n 0, 1) := by decide +kernel
theorem dX7_end_44 : decode cX7_end 44 = .ok (.getfield 12, 3) := by decide +kernel
theorem dX7_end_47 : decode cX7_end 47 = .ok (.aload 5, 2) := by decide +kernel
theorem dX7_end_49 : decode cX7_end 49 = .ok (.invokevirtual 90, 3) := by decide +kernel
theorem dX7_end_52 : decode cX7_end 52 = .ok (.goto 16, 3) := by decide +kernel
theorem dX7_end_55 : decode cX7_end 55 = .ok (.aload_n 0, 1) := by decide +kernel
theorem dX7_end_56 : decode cX7_end 56 = .ok (.getfield 47, 3) := by decide +kernel
theorem dX7_end_59 : decode cX7_end 59 = .ok (.aload_n 0, 1) := by decide +kernel
theorem dX7_end_60 : decode cX7_end 60 = .ok (.getfield 12, 3) := by decide +kernel
theorem dX7_end_63 : decode cX7_end 63 = .ok (.aload 5, 2) := by decide +kernel
theorem dX7_end_65 : decode cX7_end 65 = .ok (.invokevirtual 146, 3) := by decide +kernel
theorem dX7_end_68 : decode cX7_end 68 = .ok (.iload_n 2, 1) := by decide +kernel
theorem dX7_end_69 : decode cX7_end 69 = .ok (.aload_n 0, 1) := by decide +kernel
theorem dX7_end_70 : decode cX7_end 70 = .ok (.getfield 47, 3) := by decide +kernel
theorem dX7_end_73 : decode cX7_end 73 = .ok (.getfield 94, 3) := by decide +kernel
theorem dX7_end_76 : decode cX7_end 76 = .ok (.if_icmp .lt 6, 3) := by decide +kernel
theorem dX7_end_79 : decode cX7_end 79 = .ok (.bipush (-5), 2) := by decide +kernel
theorem dX7_end_81 : decode cX7_end 81 = .ok (.ireturn, 1) := by decide +kernel
theorem dX7_end_82 : decode cX7_end 82 = .ok (.iload 4, 2) := by decide +kernel
theorem dX7_end_84 : decode cX7_end 84 = .ok (.iconst 2, 1) := by decide +kernel
theorem dX7_end_85 : decode cX7_end 85 = .ok (.if_icmp .ne 20, 3) := by decide +kernel
theorem dX7_end_88 : decode cX7_end 88 = .ok (.iload_n 3, 1) := by decide +kernel
theorem dX7_end_89 : decode cX7_end 89 = .ok (.ifCond .ne 16, 3) := by decide +kernel
theorem dX7_end_92 : decode cX7_end 92 = .ok (.aload_n 0, 1) := by decide +kernel
theorem dX7_end_93 : decode cX7_end 93 = .ok (.getfield 47, 3) := by decide +kernel
theorem dX7_end_96 : decode cX7_end 96 = .ok (.aload_n 0, 1) := by decide +kernel
theorem dX7_end_97 : decode cX7_end 97 = .ok (.getfield 12, 3) := by decide +kernel
theorem dX7_end_100 : decode cX7_end 100 = .ok (.aload 5, 2) := by decide +kernel
theorem dX7_end_102 : decode cX7_end 102 = .ok (.invokevirtual 165, 3) := by decide +kernel
theorem dX7_end_105 : decode cX7_end 105 = .ok (.aload_n 0, 1) := by decide +kernel
theorem dX7_end_106 : decode cX7_end 106 = .ok (.getfield 47, 3) := by decide +kernel
theorem dX7_end_109 : decode cX7_end 109 = .ok (.iload_n 2, 1) := by decide +kernel
theorem dX7_end_110 : decode cX7_end 110 = .ok (.iload 4, 2) := by decide +kernel
theorem dX7_end_112 : decode cX7_end 112 = .ok (.invokevirtual 168, 3) := by decide +kernel
theorem dX7_end_115 : decode cX7_end 115 = .ok (.ireturn, 1) := by decide +kernel
set_option maxRecDepth 20000 in
theorem ggX7_column_X5_patternOrNull : GoodIn wsX7_column wsX5_patternOrNull := goodIn_r _ [9, 10, 11, 54, 55, 56, 57, 58] (by decide +kernel) (by decide +kernel)
set_option maxRecDepth 20000 in
theorem gX7_column_X5_patternOrNull : GoodIn wsX7_column (wsV RX7 83 RX5 yX5_patternOrNull wsX5_patternOrNull) := goodIn_app (goodIn_of _ (by decide +kernel)) ggX7_column_X5_patternOrNull
set_option maxRecDepth 20000 in
theorem ggX7_column_X4_columnAt : GoodIn wsX7_column wsX4_columnAt := goodIn_r _ [16, 17, 18, 19, 20, 15, 21, 22, 23, 24, 25, 26, 27, 28, 29, 30, 31, 32, 8, 33, 34, 35, 36, 37, 38, 39, 40, 41, 42, 43, 44, 45, 59, 60, 61, 62, 63, 64, 65, 66, 54, 55, 56, 57, 58, 67, 68, 69, 70] (by decide +kernel) (by decide +kernel)
set_option maxRecDepth 20000 in
theorem gX7_column_X4_columnAt : GoodIn wsX7_column (wsV RX7 176 RX4 yX4_columnAt wsX4_columnAt) := goodIn_app (goodIn_of _ (by decide +kernel)) ggX7_column_X4_columnAt
theorem dX7_column_0 : decode cX7_column 0 = .ok (.aload_n 0, 1) := by decide +kernel
theorem dX7_column_1 : decode cX7_column 1 = .ok (.getfield 12, 3) := by decide +kernel
theorem dX7_column_4 : decode cX7_column 4 = .ok (.iload_n 1, 1) := by decide +kernel
theorem dX7_column_5 : decode cX7_column 5 = .ok (.invokevirtual 83, 3) := by decide +kernel
theorem dX7_column_8 : decode cX7_column 8 = .ok (.astore 4, 2) := by decide +kernel
theorem dX7_column_10 : decode cX7_column 10 = .ok (.aload 4, 2) := by decide +kernel
theorem dX7_column_12 : decode cX7_column 12 = .ok (.ifnonnull 7, 3) := by decide +kernel
theorem dX7_column_15 : decode cX7_column 15 = .ok (.ldc2_w 172, 3) := by decide +kernel
theorem dX7_column_18 : decode cX7_column 18 = .ok (.lreturn, 1) := by decide +kernel
theorem dX7_column_19 : decode cX7_column 19 = .ok (.iload_n 2, 1) := by decide +kernel
theorem dX7_column_20 : decode cX7_column 20 = .ok (.ifCond .lt 29, 3) := by decide +kernel
theorem dX7_column_23 : decode cX7_column 23 = .ok (.iload_n 2, 1) := by decide +kernel
theorem dX7_column_24 : decode cX7_column 24 = .ok (.aload_n 0, 1) := by decide +kernel
theorem dX7_column_25 : decode cX7_column 25 = .ok (.getfield 12, 3) := by decide +kernel
theorem dX7_column_28 : decode cX7_column 28 = .ok (.getfield 124, 3) := by decide +kernel
theorem dX7_column_31 : decode cX7_column 31 = .ok (.if_icmp .gt 18, 3) := by decide +kernel
theorem dX7_column_34 : decode cX7_column 34 = .ok (.iload_n 3, 1) := by decide +kernel
theorem dX7_column_35 : decode cX7_column 35 = .ok (.ifCond .lt 14, 3) := by decide +kernel
theorem dX7_column_38 : decode cX7_column 38 = .ok (.iload_n 3, 1) := by decide +kernel
theorem dX7_column_39 : decode cX7_column 39 = .ok (.aload_n 0, 1) := by decide +kernel
theorem dX7_column_40 : decode cX7_column 40 = .ok (.getfield 12, 3) := by decide +kernel
theorem dX7_column_43 : decode cX7_column 43 = .ok (.getfield 62, 3) := by decide +kernel
theorem dX7_column_46 : decode cX7_column 46 = .ok (.if_icmp .le 7, 3) := by decide +kernel
theorem dX7_column_49 : decode cX7_column 49 = .ok (.ldc2_w 174, 3) := by decide +kernel
theorem dX7_column_52 : decode cX7_column 52 = .ok (.lreturn, 1) := by decide +kernel
theorem dX7_column_53 : decode cX7_column 53 = .ok (.aload_n 0, 1) := by decide +kernel
theorem dX7_column_54 : decode cX7_column 54 = .ok (.getfield 47, 3) := by decide +kernel
theorem dX7_column_57 : decode cX7_column 57 = .ok (.aload_n 0, 1) := by decide +kernel
theorem dX7_column_58 : decode cX7_column 58 = .ok (.getfield 12, 3) := by decide +kernel
theorem dX7_column_61 : decode cX7_column 61 = .ok (.aload 4, 2) := by decide +kernel
theorem dX7_column_63 : decode cX7_column 63 = .ok (.iload_n 2, 1) := by decide +kernel
theorem dX7_column_64 : decode cX7_column 64 = .ok (.iload_n 3, 1) := by decide +kernel
theorem dX7_column_65 : decode cX7_column 65 = .ok (.invokevirtual 176, 3) := by decide +kernel
theorem dX7_column_68 : decode cX7_column 68 = .ok (.lreturn, 1) := by decide +kernel
set_option maxRecDepth 20000 in
theorem ggX7_slips_X5_patternOrNull : GoodIn wsX7_slips wsX5_patternOrNull := goodIn_r _ [7, 8, 9, 45, 46, 47, 48, 49] (by decide +kernel) (by decide +kernel)
set_option maxRecDepth 20000 in
theorem gX7_slips_X5_patternOrNull : GoodIn wsX7_slips (wsV RX7 83 RX5 yX5_patternOrNull wsX5_patternOrNull) := goodIn_app (goodIn_of _ (by decide +kernel)) ggX7_slips_X5_patternOrNull
set_option maxRecDepth 20000 in
theorem ggX7_slips_X6_countSlips : GoodIn wsX7_slips wsX6_countSlips := goodIn_r _ [14, 15, 16, 17, 18, 19, 13, 20, 21, 22, 23, 24, 25, 6, 26, 27, 28, 29, 30, 31, 32, 33, 34, 35, 36, 50, 51, 52, 53, 54, 45, 46, 47, 48, 49] (by decide +kernel) (by decide +kernel)
set_option maxRecDepth 20000 in
theorem gX7_slips_X6_countSlips : GoodIn wsX7_slips (wsV RX7 180 RX6 yX6_countSlips wsX6_countSlips) := goodIn_app (goodIn_of _ (by decide +kernel)) ggX7_slips_X6_countSlips
theorem dX7_slips_0 : decode cX7_slips 0 = .ok (.aload_n 0, 1) := by decide +kernel
theorem dX7_slips_1 : decode cX7_slips 1 = .ok (.getfield 12, 3) := by decide +kernel
theorem dX7_slips_4 : decode cX7_slips 4 = .ok (.iload_n 1, 1) := by decide +kernel
theorem dX7_slips_5 : decode cX7_slips 5 = .ok (.invokevirtual 83, 3) := by decide +kernel
theorem dX7_slips_8 : decode cX7_slips 8 = .ok (.astore 5, 2) := by decide +kernel
theorem dX7_slips_10 : decode cX7_slips 10 = .ok (.aload 5, 2) := by decide +kernel
theorem dX7_slips_12 : decode cX7_slips 12 = .ok (.ifnonnull 5, 3) := by decide +kernel
theorem dX7_slips_15 : decode cX7_slips 15 = .ok (.iconst (-1), 1) := by decide +kernel
theorem dX7_slips_16 : decode cX7_slips 16 = .ok (.ireturn, 1) := by decide +kernel
theorem dX7_slips_17 : decode cX7_slips 17 = .ok (.iload_n 2, 1) := by decide +kernel
theorem dX7_slips_18 : decode cX7_slips 18 = .ok (.ifCond .lt 30, 3) := by decide +kernel
theorem dX7_slips_21 : decode cX7_slips 21 = .ok (.iload_n 3, 1) := by decide +kernel
theorem dX7_slips_22 : decode cX7_slips 22 = .ok (.iload_n 2, 1) := by decide +kernel
theorem dX7_slips_23 : decode cX7_slips 23 = .ok (.if_icmp .lt 25, 3) := by decide +kernel
theorem dX7_slips_26 : decode cX7_slips 26 = .ok (.iload_n 3, 1) := by decide +kernel
theorem dX7_slips_27 : decode cX7_slips 27 = .ok (.aload_n 0, 1) := by decide +kernel
theorem dX7_slips_28 : decode cX7_slips 28 = .ok (.getfield 12, 3) := by decide +kernel
theorem dX7_slips_31 : decode cX7_slips 31 = .ok (.getfield 62, 3) := by decide +kernel
theorem dX7_slips_34 : decode cX7_slips 34 = .ok (.if_icmp .gt 14, 3) := by decide +kernel
theorem dX7_slips_37 : decode cX7_slips 37 = .ok (.iload 4, 2) := by decide +kernel
theorem dX7_slips_39 : decode cX7_slips 39 = .ok (.ifCond .lt 9, 3) := by decide +kernel
theorem dX7_slips_42 : decode cX7_slips 42 = .ok (.iload 4, 2) := by decide +kernel
theorem dX7_slips_44 : decode cX7_slips 44 = .ok (.iconst 3, 1) := by decide +kernel
theorem dX7_slips_45 : decode cX7_slips 45 = .ok (.if_icmp .le 6, 3) := by decide +kernel
theorem dX7_slips_48 : decode cX7_slips 48 = .ok (.bipush (-2), 2) := by decide +kernel
theorem dX7_slips_50 : decode cX7_slips 50 = .ok (.ireturn, 1) := by decide +kernel
theorem dX7_slips_51 : decode cX7_slips 51 = .ok (.aload_n 0, 1) := by decide +kernel
theorem dX7_slips_52 : decode cX7_slips 52 = .ok (.getfield 54, 3) := by decide +kernel
theorem dX7_slips_55 : decode cX7_slips 55 = .ok (.aload_n 0, 1) := by decide +kernel
theorem dX7_slips_56 : decode cX7_slips 56 = .ok (.getfield 12, 3) := by decide +kernel
theorem dX7_slips_59 : decode cX7_slips 59 = .ok (.aload 5, 2) := by decide +kernel
theorem dX7_slips_61 : decode cX7_slips 61 = .ok (.iload_n 2, 1) := by decide +kernel
theorem dX7_slips_62 : decode cX7_slips 62 = .ok (.iload_n 3, 1) := by decide +kernel
theorem dX7_slips_63 : decode cX7_slips 63 = .ok (.iload 4, 2) := by decide +kernel
theorem dX7_slips_65 : decode cX7_slips 65 = .ok (.invokevirtual 180, 3) := by decide +kernel
theorem dX7_slips_68 : decode cX7_slips 68 = .ok (.ireturn, 1) := by decide +kernel
set_option maxRecDepth 20000 in
theorem ggX7_density_X5_patternOrNull : GoodIn wsX7_density wsX5_patternOrNull := goodIn_r _ [8, 9, 10, 73, 74, 75, 76, 77] (by decide +kernel) (by decide +kernel)
set_option maxRecDepth 20000 in
theorem gX7_density_X5_patternOrNull : GoodIn wsX7_density (wsV RX7 83 RX5 yX5_patternOrNull wsX5_patternOrNull) := goodIn_app (goodIn_of _ (by decide +kernel)) ggX7_density_X5_patternOrNull
set_option maxRecDepth 20000 in
theorem ggX7_density_X4_findEnds : GoodIn wsX7_density wsX4_findEnds := goodIn_r _ [15, 16, 17, 18, 19, 14, 20, 21, 22, 23, 24, 25, 26, 27, 28, 29, 30, 31, 32, 33, 34, 35, 36, 37, 38, 39, 40, 41, 42, 7, 43, 44, 45, 46, 47, 48, 49, 50, 51, 52, 53, 54, 55, 78, 79, 80, 81, 82, 83, 84, 85, 73, 74, 75, 76, 77, 86, 87, 88, 89] (by decide +kernel) (by decide +kernel)
set_option maxRecDepth 20000 in
theorem gX7_density_X4_findEnds : GoodIn wsX7_density (wsV RX7 146 RX4 yX4_findEnds wsX4_findEnds) := goodIn_app (goodIn_of _ (by decide +kernel)) ggX7_density_X4_findEnds
set_option maxRecDepth 20000 in
theorem ggX7_density_X4_sumOfShares : GoodIn wsX7_density wsX4_sumOfShares := goodIn_r _ [59, 16, 60, 61, 62, 14, 63, 31, 30, 64, 78, 79, 80, 81, 82, 83, 84, 85] (by decide +kernel) (by decide +kernel)
set_option maxRecDepth 20000 in
theorem gX7_density_X4_sumOfShares : GoodIn wsX7_density (wsV RX7 186 RX4 yX4_sumOfShares wsX4_sumOfShares) := goodIn_app (goodIn_of _ (by decide +kernel)) ggX7_density_X4_sumOfShares
theorem dX7_density_0 : decode cX7_density 0 = .ok (.aload_n 0, 1) := by decide +kernel
theorem dX7_density_1 : decode cX7_density 1 = .ok (.getfield 12, 3) := by decide +kernel
theorem dX7_density_4 : decode cX7_density 4 = .ok (.iload_n 1, 1) := by decide +kernel
theorem dX7_density_5 : decode cX7_density 5 = .ok (.invokevirtual 83, 3) := by decide +kernel
theorem dX7_density_8 : decode cX7_density 8 = .ok (.astore_n 2, 1) := by decide +kernel
theorem dX7_density_9 : decode cX7_density 9 = .ok (.aload_n 2, 1) := by decide +kernel
theorem dX7_density_10 : decode cX7_density 10 = .ok (.ifnonnull 7, 3) := by decide +kernel
theorem dX7_density_13 : decode cX7_density 13 = .ok (.ldc2_w 184, 3) := by decide +kernel
theorem dX7_density_16 : decode cX7_density 16 = .ok (.dreturn, 1) := by decide +kernel
theorem dX7_density_17 : decode cX7_density 17 = .ok (.aload_n 0, 1) := by decide +kernel
theorem dX7_density_18 : decode cX7_density 18 = .ok (.getfield 47, 3) := by decide +kernel
theorem dX7_density_21 : decode cX7_density 21 = .ok (.aload_n 0, 1) := by decide +kernel
theorem dX7_density_22 : decode cX7_density 22 = .ok (.getfield 12, 3) := by decide +kernel
theorem dX7_density_25 : decode cX7_density 25 = .ok (.aload_n 2, 1) := by decide +kernel
theorem dX7_density_26 : decode cX7_density 26 = .ok (.invokevirtual 146, 3) := by decide +kernel
theorem dX7_density_29 : decode cX7_density 29 = .ok (.aload_n 0, 1) := by decide +kernel
theorem dX7_density_30 : decode cX7_density 30 = .ok (.getfield 47, 3) := by decide +kernel
theorem dX7_density_33 : decode cX7_density 33 = .ok (.invokevirtual 186, 3) := by decide +kernel
theorem dX7_density_36 : decode cX7_density 36 = .ok (.aload_n 0, 1) := by decide +kernel
theorem dX7_density_37 : decode cX7_density 37 = .ok (.getfield 12, 3) := by decide +kernel
theorem dX7_density_40 : decode cX7_density 40 = .ok (.getfield 62, 3) := by decide +kernel
theorem dX7_density_43 : decode cX7_density 43 = .ok (.iconst 1, 1) := by decide +kernel
theorem dX7_density_44 : decode cX7_density 44 = .ok (.iadd, 1) := by decide +kernel
theorem dX7_density_45 : decode cX7_density 45 = .ok (.i2d, 1) := by decide +kernel
theorem dX7_density_46 : decode cX7_density 46 = .ok (.ddiv, 1) := by decide +kernel
theorem dX7_density_47 : decode cX7_density 47 = .ok (.dreturn, 1) := by decide +kernel
set_option maxRecDepth 20000 in
theorem ggX7_densityBits_X5_patternOrNull : GoodIn wsX7_densityBits wsX5_patternOrNull := goodIn_r _ [7, 8, 9, 77, 78, 79, 80, 81] (by decide +kernel) (by decide +kernel)
set_option maxRecDepth 20000 in
theorem gX7_densityBits_X5_patternOrNull : GoodIn wsX7_densityBits (wsV RX7 83 RX5 yX5_patternOrNull wsX5_patternOrNull) := goodIn_app (goodIn_of _ (by decide +kernel)) ggX7_densityBits_X5_patternOrNull
set_option maxRecDepth 20000 in
theorem ggX7_densityBits_X4_findEnds : GoodIn wsX7_densityBits wsX4_findEnds := goodIn_r _ [14, 15, 16, 17, 18, 13, 19, 20, 21, 22, 23, 24, 25, 26, 27, 28, 29, 30, 31, 32, 33, 34, 35, 36, 37, 38, 39, 40, 41, 6, 42, 43, 44, 45, 46, 47, 48, 49, 50, 51, 52, 53, 54, 82, 83, 84, 85, 86, 87, 88, 89, 77, 78, 79, 80, 81, 90, 91, 92, 93] (by decide +kernel) (by decide +kernel)
set_option maxRecDepth 20000 in
theorem gX7_densityBits_X4_findEnds : GoodIn wsX7_densityBits (wsV RX7 146 RX4 yX4_findEnds wsX4_findEnds) := goodIn_app (goodIn_of _ (by decide +kernel)) ggX7_densityBits_X4_findEnds
set_option maxRecDepth 20000 in
theorem ggX7_densityBits_X4_sumOfShares : GoodIn wsX7_densityBits wsX4_sumOfShares := goodIn_r _ [58, 15, 59, 60, 61, 13, 62, 30, 29, 63, 82, 83, 84, 85, 86, 87, 88, 89] (by decide +kernel) (by decide +kernel)
set_option maxRecDepth 20000 in
theorem gX7_densityBits_X4_sumOfShares : GoodIn wsX7_densityBits (wsV RX7 186 RX4 yX4_sumOfShares wsX4_sumOfShares) := goodIn_app (goodIn_of _ (by decide +kernel)) ggX7_densityBits_X4_sumOfShares
set_option maxRecDepth 20000 in
theorem ggX7_densityBits_X7_bitsOfFloat : GoodIn wsX7_densityBits wsX7_bitsOfFloat := goodIn_r _ [67, 68] (by decide +kernel) (by decide +kernel)
set_option maxRecDepth 20000 in
theorem gX7_densityBits_X7_bitsOfFloat : GoodIn wsX7_densityBits (va_wsS RX7 190 yX7_bitsOfFloat wsX7_bitsOfFloat) := goodIn_app (goodIn_of _ (by decide +kernel)) ggX7_densityBits_X7_bitsOfFloat
theorem dX7_densityBits_0 : decode cX7_densityBits 0 = .ok (.aload_n 0, 1) := by decide +kernel
theorem dX7_densityBits_1 : decode cX7_densityBits 1 = .ok (.getfield 12, 3) := by decide +kernel
theorem dX7_densityBits_4 : decode cX7_densityBits 4 = .ok (.iload_n 1, 1) := by decide +kernel
theorem dX7_densityBits_5 : decode cX7_densityBits 5 = .ok (.invokevirtual 83, 3) := by decide +kernel
theorem dX7_densityBits_8 : decode cX7_densityBits 8 = .ok (.astore_n 2, 1) := by decide +kernel
theorem dX7_densityBits_9 : decode cX7_densityBits 9 = .ok (.aload_n 2, 1) := by decide +kernel
theorem dX7_densityBits_10 : decode cX7_densityBits 10 = .ok (.ifnonnull 5, 3) := by decide +kernel
theorem dX7_densityBits_13 : decode cX7_densityBits 13 = .ok (.iconst (-1), 1) := by decide +kernel
theorem dX7_densityBits_14 : decode cX7_densityBits 14 = .ok (.ireturn, 1) := by decide +kernel
theorem dX7_densityBits_15 : decode cX7_densityBits 15 = .ok (.aload_n 0, 1) := by decide +kernel
theorem dX7_densityBits_16 : decode cX7_densityBits 16 = .ok (.getfield 47, 3) := by decide +kernel
theorem dX7_densityBits_19 : decode cX7_densityBits 19 = .ok (.aload_n 0, 1) := by decide +kernel
theorem dX7_densityBits_20 : decode cX7_densityBits 20 = .ok (.getfield 12, 3) := by decide +kernel
theorem dX7_densityBits_23 : decode cX7_densityBits 23 = .ok (.aload_n 2, 1) := by decide +kernel
theorem dX7_densityBits_24 : decode cX7_densityBits 24 = .ok (.invokevirtual 146, 3) := by decide +kernel
theorem dX7_densityBits_27 : decode cX7_densityBits 27 = .ok (.aload_n 0, 1) := by decide +kernel
theorem dX7_densityBits_28 : decode cX7_densityBits 28 = .ok (.getfield 47, 3) := by decide +kernel
theorem dX7_densityBits_31 : decode cX7_densityBits 31 = .ok (.invokevirtual 186, 3) := by decide +kernel
theorem dX7_densityBits_34 : decode cX7_densityBits 34 = .ok (.aload_n 0, 1) := by decide +kernel
theorem dX7_densityBits_35 : decode cX7_densityBits 35 = .ok (.getfield 12, 3) := by decide +kernel
theorem dX7_densityBits_38 : decode cX7_densityBits 38 = .ok (.getfield 62, 3) := by decide +kernel
theorem dX7_densityBits_41 : decode cX7_densityBits 41 = .ok (.iconst 1, 1) := by decide +kernel
theorem dX7_densityBits_42 : decode cX7_densityBits 42 = .ok (.iadd, 1) := by decide +kernel
theorem dX7_densityBits_43 : decode cX7_densityBits 43 = .ok (.i2d, 1) := by decide +kernel
theorem dX7_densityBits_44 : decode cX7_densityBits 44 = .ok (.ddiv, 1) := by decide +kernel
theorem dX7_densityBits_45 : decode cX7_densityBits 45 = .ok (.d2f, 1) := by decide +kernel
theorem dX7_densityBits_46 : decode cX7_densityBits 46 = .ok (.invokestatic 190, 3) := by decide +kernel
theorem dX7_densityBits_49 : decode cX7_densityBits 49 = .ok (.ireturn, 1) := by decide +kernel
set_option maxRecDepth 20000 in
theorem ggX7_count_X7_countAllEnds : GoodIn wsX7_count wsX7_countAllEnds := goodIn_r _ [8, 1, 9, 10, 11, 12, 13, 14, 15, 16, 17, 18, 19, 20, 21, 22, 23, 24, 25, 26, 27, 28, 29, 30, 31, 32, 33, 34, 35, 36, 37, 38, 39, 40, 41, 42, 43, 44, 45, 46, 47, 48, 49, 50, 51, 52, 53, 54, 55, 56, 57, 58, 59, 60, 61, 89, 90, 91, 92, 93, 94, 95, 96, 106, 107, 108, 109, 110, 111, 112, 113, 97, 98, 99, 100, 101, 114, 115, 116, 117] (by decide +kernel) (by decide +kernel)
set_option maxRecDepth 20000 in
theorem gX7_count_X7_countAllEnds : GoodIn wsX7_count (wsV RX7 194 RX7 yX7_countAllEnds wsX7_countAllEnds) := goodIn_app (goodIn_of _ (by decide +kernel)) ggX7_count_X7_countAllEnds
set_option maxRecDepth 20000 in
theorem ggX7_count_X7_countPlacesWithEnds : GoodIn wsX7_count wsX7_countPlacesWithEnds := goodIn_r _ [65, 9, 1, 66, 67, 68, 20, 69, 70, 10, 11, 12, 13, 14, 15, 16, 17, 18, 19, 21, 22, 23, 24, 25, 26, 27, 28, 29, 30, 31, 32, 33, 34, 35, 36, 37, 38, 39, 40, 41, 42, 43, 44, 45, 46, 47, 48, 49, 50, 51, 52, 53, 54, 55, 56, 57, 58, 59, 60, 61, 71, 72, 73, 74, 75, 76, 77, 78, 79, 80, 81, 82, 83, 89, 90, 91, 92, 93, 94, 95, 96, 106, 107, 108, 109, 110, 111, 112, 113, 97, 98, 99, 100, 101, 114, 115, 116, 117] (by decide +kernel) (by decide +kernel)
set_option maxRecDepth 20000 in
theorem gX7_count_X7_countPlacesWithEnds : GoodIn wsX7_count (wsV RX7 197 RX7 yX7_countPlacesWithEnds wsX7_countPlacesWithEnds) := goodIn_app (goodIn_of _ (by decide +kernel)) ggX7_count_X7_countPlacesWithEnds
set_option maxRecDepth 20000 in
theorem ggX7_count_X5_countBlanks : GoodIn wsX7_count wsX5_countBlanks := goodIn_r _ [87, 88, 61, 47, 48, 13, 49, 50, 97, 98, 99, 100, 101] (by decide +kernel) (by decide +kernel)
set_option maxRecDepth 20000 in
theorem gX7_count_X5_countBlanks : GoodIn wsX7_count (wsV RX7 200 RX5 yX5_countBlanks wsX5_countBlanks) := goodIn_app (goodIn_of _ (by decide +kernel)) ggX7_count_X5_countBlanks
theorem dX7_count_0 : decode cX7_count 0 = .ok (.iload_n 1, 1) := by decide +kernel
theorem dX7_count_1 : decode cX7_count 1 = .ok (.tableswitch 105 0 7 #[47, 55, 63, 71, 76, 81, 89, 97], 47) := by decide +kernel
theorem dX7_count_48 : decode cX7_count 48 = .ok (.aload_n 0, 1) := by decide +kernel
theorem dX7_count_49 : decode cX7_count 49 = .ok (.getfield 12, 3) := by decide +kernel
theorem dX7_count_52 : decode cX7_count 52 = .ok (.getfield 62, 3) := by decide +kernel
theorem dX7_count_55 : decode cX7_count 55 = .ok (.ireturn, 1) := by decide +kernel
theorem dX7_count_56 : decode cX7_count 56 = .ok (.aload_n 0, 1) := by decide +kernel
theorem dX7_count_57 : decode cX7_count 57 = .ok (.getfield 12, 3) := by decide +kernel
theorem dX7_count_60 : decode cX7_count 60 = .ok (.getfield 109, 3) := by decide +kernel
theorem dX7_count_63 : decode cX7_count 63 = .ok (.ireturn, 1) := by decide +kernel
theorem dX7_count_64 : decode cX7_count 64 = .ok (.aload_n 0, 1) := by decide +kernel
theorem dX7_count_65 : decode cX7_count 65 = .ok (.getfield 12, 3) := by decide +kernel
theorem dX7_count_68 : decode cX7_count 68 = .ok (.getfield 124, 3) := by decide +kernel
theorem dX7_count_71 : decode cX7_count 71 = .ok (.ireturn, 1) := by decide +kernel
theorem dX7_count_72 : decode cX7_count 72 = .ok (.aload_n 0, 1) := by decide +kernel
theorem dX7_count_73 : decode cX7_count 73 = .ok (.invokevirtual 194, 3) := by decide +kernel
theorem dX7_count_76 : decode cX7_count 76 = .ok (.ireturn, 1) := by decide +kernel
theorem dX7_count_77 : decode cX7_count 77 = .ok (.aload_n 0, 1) := by decide +kernel
theorem dX7_count_78 : decode cX7_count 78 = .ok (.invokevirtual 197, 3) := by decide +kernel
theorem dX7_count_81 : decode cX7_count 81 = .ok (.ireturn, 1) := by decide +kernel
theorem dX7_count_82 : decode cX7_count 82 = .ok (.aload_n 0, 1) := by decide +kernel
theorem dX7_count_83 : decode cX7_count 83 = .ok (.getfield 12, 3) := by decide +kernel
theorem dX7_count_86 : decode cX7_count 86 = .ok (.invokevirtual 200, 3) := by decide +kernel
theorem dX7_count_89 : decode cX7_count 89 = .ok (.ireturn, 1) := by decide +kernel
theorem dX7_count_90 : decode cX7_count 90 = .ok (.aload_n 0, 1) := by decide +kernel
theorem dX7_count_91 : decode cX7_count 91 = .ok (.getfield 26, 3) := by decide +kernel
theorem dX7_count_94 : decode cX7_count 94 = .ok (.getfield 128, 3) := by decide +kernel
theorem dX7_count_97 : decode cX7_count 97 = .ok (.ireturn, 1) := by decide +kernel
theorem dX7_count_98 : decode cX7_count 98 = .ok (.aload_n 0, 1) := by decide +kernel
theorem dX7_count_99 : decode cX7_count 99 = .ok (.getfield 33, 3) := by decide +kernel
theorem dX7_count_102 : decode cX7_count 102 = .ok (.getfield 78, 3) := by decide +kernel
theorem dX7_count_105 : decode cX7_count 105 = .ok (.ireturn, 1) := by decide +kernel
theorem dX7_count_106 : decode cX7_count 106 = .ok (.bipush (-2), 2) := by decide +kernel
theorem dX7_count_108 : decode cX7_count 108 = .ok (.ireturn, 1) := by decide +kernel
set_option maxRecDepth 20000 in
theorem ggX7_countAllEnds_X5_patternOrNull : GoodIn wsX7_countAllEnds wsX5_patternOrNull := goodIn_r _ [7, 8, 9, 71, 72, 73, 74, 75] (by decide +kernel) (by decide +kernel)
set_option maxRecDepth 20000 in
theorem gX7_countAllEnds_X5_patternOrNull : GoodIn wsX7_countAllEnds (wsV RX7 83 RX5 yX5_patternOrNull wsX5_patternOrNull) := goodIn_app (goodIn_of _ (by decide +kernel)) ggX7_countAllEnds_X5_patternOrNull
set_option maxRecDepth 20000 in
theorem ggX7_countAllEnds_X4_findEnds : GoodIn wsX7_countAllEnds wsX4_findEnds := goodIn_r _ [14, 15, 16, 17, 18, 13, 19, 20, 21, 22, 23, 24, 25, 26, 27, 28, 29, 30, 31, 32, 33, 34, 35, 36, 37, 38, 39, 40, 41, 6, 42, 43, 44, 45, 46, 47, 48, 49, 50, 51, 52, 53, 54, 63, 64, 65, 66, 67, 68, 69, 70, 71, 72, 73, 74, 75, 76, 77, 78, 79] (by decide +kernel) (by decide +kernel)
set_option maxRecDepth 20000 in
theorem gX7_countAllEnds_X4_findEnds : GoodIn wsX7_countAllEnds (wsV RX7 146 RX4 yX4_findEnds wsX4_findEnds) := goodIn_app (goodIn_of _ (by decide +kernel)) ggX7_countAllEnds_X4_findEnds
theorem dX7_countAllEnds_0 : decode cX7_countAllEnds 0 = .ok (.iconst 0, 1) := by decide +kernel
theorem dX7_countAllEnds_1 : decode cX7_countAllEnds 1 = .ok (.istore_n 1, 1) := by decide +kernel
theorem dX7_countAllEnds_2 : decode cX7_countAllEnds 2 = .ok (.iconst 0, 1) := by decide +kernel
theorem dX7_countAllEnds_3 : decode cX7_countAllEnds 3 = .ok (.istore_n 2, 1) := by decide +kernel
theorem dX7_countAllEnds_4 : decode cX7_countAllEnds 4 = .ok (.iload_n 2, 1) := by decide +kernel
theorem dX7_countAllEnds_5 : decode cX7_countAllEnds 5 = .ok (.bipush 6, 2) := by decide +kernel
theorem dX7_countAllEnds_7 : decode cX7_countAllEnds 7 = .ok (.if_icmp .ge 44, 3) := by decide +kernel
theorem dX7_countAllEnds_10 : decode cX7_countAllEnds 10 = .ok (.aload_n 0, 1) := by decide +kernel
theorem dX7_countAllEnds_11 : decode cX7_countAllEnds 11 = .ok (.getfield 12, 3) := by decide +kernel
theorem dX7_countAllEnds_14 : decode cX7_countAllEnds 14 = .ok (.iload_n 2, 1) := by decide +kernel
theorem dX7_countAllEnds_15 : decode cX7_countAllEnds 15 = .ok (.invokevirtual 83, 3) := by decide +kernel
theorem dX7_countAllEnds_18 : decode cX7_countAllEnds 18 = .ok (.astore_n 3, 1) := by decide +kernel
theorem dX7_countAllEnds_19 : decode cX7_countAllEnds 19 = .ok (.aload_n 3, 1) := by decide +kernel
theorem dX7_countAllEnds_20 : decode cX7_countAllEnds 20 = .ok (.ifnull 25, 3) := by decide +kernel
theorem dX7_countAllEnds_23 : decode cX7_countAllEnds 23 = .ok (.aload_n 0, 1) := by decide +kernel
theorem dX7_countAllEnds_24 : decode cX7_countAllEnds 24 = .ok (.getfield 47, 3) := by decide +kernel
theorem dX7_countAllEnds_27 : decode cX7_countAllEnds 27 = .ok (.aload_n 0, 1) := by decide +kernel
theorem dX7_countAllEnds_28 : decode cX7_countAllEnds 28 = .ok (.getfield 12, 3) := by decide +kernel
theorem dX7_countAllEnds_31 : decode cX7_countAllEnds 31 = .ok (.aload_n 3, 1) := by decide +kernel
theorem dX7_countAllEnds_32 : decode cX7_countAllEnds 32 = .ok (.invokevirtual 146, 3) := by decide +kernel
theorem dX7_countAllEnds_35 : decode cX7_countAllEnds 35 = .ok (.iload_n 1, 1) := by decide +kernel
theorem dX7_countAllEnds_36 : decode cX7_countAllEnds 36 = .ok (.aload_n 0, 1) := by decide +kernel
theorem dX7_countAllEnds_37 : decode cX7_countAllEnds 37 = .ok (.getfield 47, 3) := by decide +kernel
theorem dX7_countAllEnds_40 : decode cX7_countAllEnds 40 = .ok (.getfield 94, 3) := by decide +kernel
theorem dX7_countAllEnds_43 : decode cX7_countAllEnds 43 = .ok (.iadd, 1) := by decide +kernel
theorem dX7_countAllEnds_44 : decode cX7_countAllEnds 44 = .ok (.istore_n 1, 1) := by decide +kernel
theorem dX7_countAllEnds_45 : decode cX7_countAllEnds 45 = .ok (.iinc 2 1, 3) := by decide +kernel
theorem dX7_countAllEnds_48 : decode cX7_countAllEnds 48 = .ok (.goto (-44), 3) := by decide +kernel
theorem dX7_countAllEnds_51 : decode cX7_countAllEnds 51 = .ok (.iload_n 1, 1) := by decide +kernel
theorem dX7_countAllEnds_52 : decode cX7_countAllEnds 52 = .ok (.ireturn, 1) := by decide +kernel
set_option maxRecDepth 20000 in
theorem ggX7_countPlacesWithEnds_X4_clearMarks : GoodIn wsX7_countPlacesWithEnds wsX4_clearMarks := goodIn_r _ [7, 8, 81, 82, 83, 84, 85, 86, 87, 88] (by decide +kernel) (by decide +kernel)
set_option maxRecDepth 20000 in
theorem gX7_countPlacesWithEnds_X4_clearMarks : GoodIn wsX7_countPlacesWithEnds (wsV RX7 203 RX4 yX4_clearMarks wsX4_clearMarks) := goodIn_app (goodIn_of _ (by decide +kernel)) ggX7_countPlacesWithEnds_X4_clearMarks
set_option maxRecDepth 20000 in
theorem ggX7_countPlacesWithEnds_X5_patternOrNull : GoodIn wsX7_countPlacesWithEnds wsX5_patternOrNull := goodIn_r _ [13, 14, 15, 89, 90, 91, 92, 93] (by decide +kernel) (by decide +kernel)
set_option maxRecDepth 20000 in
theorem gX7_countPlacesWithEnds_X5_patternOrNull : GoodIn wsX7_countPlacesWithEnds (wsV RX7 83 RX5 yX5_patternOrNull wsX5_patternOrNull) := goodIn_app (goodIn_of _ (by decide +kernel)) ggX7_countPlacesWithEnds_X5_patternOrNull
set_option maxRecDepth 20000 in
theorem ggX7_countPlacesWithEnds_X4_findEnds : GoodIn wsX7_countPlacesWithEnds wsX4_findEnds := goodIn_r _ [19, 20, 21, 22, 23, 6, 24, 25, 26, 27, 28, 29, 30, 31, 32, 33, 34, 35, 36, 37, 38, 39, 40, 41, 42, 43, 44, 45, 46, 12, 47, 48, 49, 50, 51, 52, 53, 54, 55, 56, 57, 58, 59, 81, 82, 83, 84, 85, 86, 87, 88, 89, 90, 91, 92, 93, 94, 95, 96, 97] (by decide +kernel) (by decide +kernel)
set_option maxRecDepth 20000 in
theorem gX7_countPlacesWithEnds_X4_findEnds : GoodIn wsX7_countPlacesWithEnds (wsV RX7 146 RX4 yX4_findEnds wsX4_findEnds) := goodIn_app (goodIn_of _ (by decide +kernel)) ggX7_countPlacesWithEnds_X4_findEnds
set_option maxRecDepth 20000 in
theorem ggX7_countPlacesWithEnds_X4_markEnds : GoodIn wsX7_countPlacesWithEnds wsX4_markEnds := goodIn_r _ [63, 20, 8, 64, 65, 66, 6, 67, 35, 34, 68, 81, 82, 83, 84, 85, 86, 87, 88] (by decide +kernel) (by decide +kernel)
set_option maxRecDepth 20000 in
theorem gX7_countPlacesWithEnds_X4_markEnds : GoodIn wsX7_countPlacesWithEnds (wsV RX7 206 RX4 yX4_markEnds wsX4_markEnds) := goodIn_app (goodIn_of _ (by decide +kernel)) ggX7_countPlacesWithEnds_X4_markEnds
set_option maxRecDepth 20000 in
theorem ggX7_countPlacesWithEnds_X4_countMarks : GoodIn wsX7_countPlacesWithEnds wsX4_countMarks := goodIn_r _ [72, 8, 81, 82, 83, 84, 85, 86, 87, 88] (by decide +kernel) (by decide +kernel)
set_option maxRecDepth 20000 in
theorem gX7_countPlacesWithEnds_X4_countMarks : GoodIn wsX7_countPlacesWithEnds (wsV RX7 209 RX4 yX4_countMarks wsX4_countMarks) := goodIn_app (goodIn_of _ (by decide +kernel)) ggX7_countPlacesWithEnds_X4_countMarks
theorem dX7_countPlacesWithEnds_0 : decode cX7_countPlacesWithEnds 0 = .ok (.aload_n 0, 1) := by decide +kernel
theorem dX7_countPlacesWithEnds_1 : decode cX7_countPlacesWithEnds 1 = .ok (.getfield 47, 3) := by decide +kernel
theorem dX7_countPlacesWithEnds_4 : decode cX7_countPlacesWithEnds 4 = .ok (.invokevirtual 203, 3) := by decide +kernel
theorem dX7_countPlacesWithEnds_7 : decode cX7_countPlacesWithEnds 7 = .ok (.iconst 0, 1) := by decide +kernel
theorem dX7_countPlacesWithEnds_8 : decode cX7_countPlacesWithEnds 8 = .ok (.istore_n 1, 1) := by decide +kernel
theorem dX7_countPlacesWithEnds_9 : decode cX7_countPlacesWithEnds 9 = .ok (.iload_n 1, 1) := by decide +kernel
theorem dX7_countPlacesWithEnds_10 : decode cX7_countPlacesWithEnds 10 = .ok (.bipush 6, 2) := by decide +kernel
theorem dX7_countPlacesWithEnds_12 : decode cX7_countPlacesWithEnds 12 = .ok (.if_icmp .ge 41, 3) := by decide +kernel
theorem dX7_countPlacesWithEnds_15 : decode cX7_countPlacesWithEnds 15 = .ok (.aload_n 0, 1) := by decide +kernel
theorem dX7_countPlacesWithEnds_16 : decode cX7_countPlacesWithEnds 16 = .ok (.getfield 12, 3) := by decide +kernel
theorem dX7_countPlacesWithEnds_19 : decode cX7_countPlacesWithEnds 19 = .ok (.iload_n 1, 1) := by decide +kernel
theorem dX7_countPlacesWithEnds_20 : decode cX7_countPlacesWithEnds 20 = .ok (.invokevirtual 83, 3) := by decide +kernel
theorem dX7_countPlacesWithEnds_23 : decode cX7_countPlacesWithEnds 23 = .ok (.astore_n 2, 1) := by decide +kernel
theorem dX7_countPlacesWithEnds_24 : decode cX7_countPlacesWithEnds 24 = .ok (.aload_n 2, 1) := by decide +kernel
theorem dX7_countPlacesWithEnds_25 : decode cX7_countPlacesWithEnds 25 = .ok (.ifnull 22, 3) := by decide +kernel
theorem dX7_countPlacesWithEnds_28 : decode cX7_countPlacesWithEnds 28 = .ok (.aload_n 0, 1) := by decide +kernel
theorem dX7_countPlacesWithEnds_29 : decode cX7_countPlacesWithEnds 29 = .ok (.getfield 47, 3) := by decide +kernel
theorem dX7_countPlacesWithEnds_32 : decode cX7_countPlacesWithEnds 32 = .ok (.aload_n 0, 1) := by decide +kernel
theorem dX7_countPlacesWithEnds_33 : decode cX7_countPlacesWithEnds 33 = .ok (.getfield 12, 3) := by decide +kernel
theorem dX7_countPlacesWithEnds_36 : decode cX7_countPlacesWithEnds 36 = .ok (.aload_n 2, 1) := by decide +kernel
theorem dX7_countPlacesWithEnds_37 : decode cX7_countPlacesWithEnds 37 = .ok (.invokevirtual 146, 3) := by decide +kernel
theorem dX7_countPlacesWithEnds_40 : decode cX7_countPlacesWithEnds 40 = .ok (.aload_n 0, 1) := by decide +kernel
theorem dX7_countPlacesWithEnds_41 : decode cX7_countPlacesWithEnds 41 = .ok (.getfield 47, 3) := by decide +kernel
theorem dX7_countPlacesWithEnds_44 : decode cX7_countPlacesWithEnds 44 = .ok (.invokevirtual 206, 3) := by decide +kernel
theorem dX7_countPlacesWithEnds_47 : decode cX7_countPlacesWithEnds 47 = .ok (.iinc 1 1, 3) := by decide +kernel
theorem dX7_countPlacesWithEnds_50 : decode cX7_countPlacesWithEnds 50 = .ok (.goto (-41), 3) := by decide +kernel
theorem dX7_countPlacesWithEnds_53 : decode cX7_countPlacesWithEnds 53 = .ok (.aload_n 0, 1) := by decide +kernel
theorem dX7_countPlacesWithEnds_54 : decode cX7_countPlacesWithEnds 54 = .ok (.getfield 47, 3) := by decide +kernel
theorem dX7_countPlacesWithEnds_57 : decode cX7_countPlacesWithEnds 57 = .ok (.invokevirtual 209, 3) := by decide +kernel
theorem dX7_countPlacesWithEnds_60 : decode cX7_countPlacesWithEnds 60 = .ok (.ireturn, 1) := by decide +kernel
theorem dX7_isLetter_0 : decode cX7_isLetter 0 = .ok (.iload_n 0, 1) := by decide +kernel
theorem dX7_isLetter_1 : decode cX7_isLetter 1 = .ok (.bipush 97, 2) := by decide +kernel
theorem dX7_isLetter_3 : decode cX7_isLetter 3 = .ok (.if_icmp .lt 13, 3) := by decide +kernel
theorem dX7_isLetter_6 : decode cX7_isLetter 6 = .ok (.iload_n 0, 1) := by decide +kernel
theorem dX7_isLetter_7 : decode cX7_isLetter 7 = .ok (.bipush 122, 2) := by decide +kernel
theorem dX7_isLetter_9 : decode cX7_isLetter 9 = .ok (.if_icmp .gt 7, 3) := by decide +kernel
theorem dX7_isLetter_12 : decode cX7_isLetter 12 = .ok (.iconst 1, 1) := by decide +kernel
theorem dX7_isLetter_13 : decode cX7_isLetter 13 = .ok (.goto 4, 3) := by decide +kernel
theorem dX7_isLetter_16 : decode cX7_isLetter 16 = .ok (.iconst 0, 1) := by decide +kernel
theorem dX7_isLetter_17 : decode cX7_isLetter 17 = .ok (.ireturn, 1) := by decide +kernel
set_option maxRecDepth 20000 in
theorem ggX7_isSign_X7_isLetter : GoodIn wsX7_isSign wsX7_isLetter := goodIn_r _ [4] (by decide +kernel) (by decide +kernel)
set_option maxRecDepth 20000 in
theorem gX7_isSign_X7_isLetter : GoodIn wsX7_isSign (va_wsS RX7 87 yX7_isLetter wsX7_isLetter) := goodIn_app (goodIn_of _ (by decide +kernel)) ggX7_isSign_X7_isLetter
theorem dX7_isSign_0 : decode cX7_isSign 0 = .ok (.iload_n 0, 1) := by decide +kernel
theorem dX7_isSign_1 : decode cX7_isSign 1 = .ok (.invokestatic 87, 3) := by decide +kernel
theorem dX7_isSign_4 : decode cX7_isSign 4 = .ok (.ifCond .ne 9, 3) := by decide +kernel
theorem dX7_isSign_7 : decode cX7_isSign 7 = .ok (.iload_n 0, 1) := by decide +kernel
theorem dX7_isSign_8 : decode cX7_isSign 8 = .ok (.bipush 32, 2) := by decide +kernel
theorem dX7_isSign_10 : decode cX7_isSign 10 = .ok (.if_icmp .ne 7, 3) := by decide +kernel
theorem dX7_isSign_13 : decode cX7_isSign 13 = .ok (.iconst 1, 1) := by decide +kernel
theorem dX7_isSign_14 : decode cX7_isSign 14 = .ok (.goto 4, 3) := by decide +kernel
theorem dX7_isSign_17 : decode cX7_isSign 17 = .ok (.iconst 0, 1) := by decide +kernel
theorem dX7_isSign_18 : decode cX7_isSign 18 = .ok (.ireturn, 1) := by decide +kernel
theorem dX7_bitsOfFloat_0 : decode cX7_bitsOfFloat 0 = .ok (.fload_n 0, 1) := by decide +kernel
theorem dX7_bitsOfFloat_1 : decode cX7_bitsOfFloat 1 = .ok (.fconst 0, 1) := by decide +kernel
theorem dX7_bitsOfFloat_2 : decode cX7_bitsOfFloat 2 = .ok (.fcmp .g, 1) := by decide +kernel
theorem dX7_bitsOfFloat_3 : decode cX7_bitsOfFloat 3 = .ok (.ifCond .gt 5, 3) := by decide +kernel
theorem dX7_bitsOfFloat_6 : decode cX7_bitsOfFloat 6 = .ok (.iconst 0, 1) := by decide +kernel
theorem dX7_bitsOfFloat_7 : decode cX7_bitsOfFloat 7 = .ok (.ireturn, 1) := by decide +kernel
theorem dX7_bitsOfFloat_8 : decode cX7_bitsOfFloat 8 = .ok (.fload_n 0, 1) := by decide +kernel
theorem dX7_bitsOfFloat_9 : decode cX7_bitsOfFloat 9 = .ok (.fstore_n 1, 1) := by decide +kernel
theorem dX7_bitsOfFloat_10 : decode cX7_bitsOfFloat 10 = .ok (.bipush 127, 2) := by decide +kernel
theorem dX7_bitsOfFloat_12 : decode cX7_bitsOfFloat 12 = .ok (.istore_n 2, 1) := by decide +kernel
theorem dX7_bitsOfFloat_13 : decode cX7_bitsOfFloat 13 = .ok (.fload_n 1, 1) := by decide +kernel
theorem dX7_bitsOfFloat_14 : decode cX7_bitsOfFloat 14 = .ok (.fconst 1, 1) := by decide +kernel
theorem dX7_bitsOfFloat_15 : decode cX7_bitsOfFloat 15 = .ok (.fcmp .g, 1) := by decide +kernel
theorem dX7_bitsOfFloat_16 : decode cX7_bitsOfFloat 16 = .ok (.ifCond .ge 18, 3) := by decide +kernel
theorem dX7_bitsOfFloat_19 : decode cX7_bitsOfFloat 19 = .ok (.iload_n 2, 1) := by decide +kernel
theorem dX7_bitsOfFloat_20 : decode cX7_bitsOfFloat 20 = .ok (.iconst 1, 1) := by decide +kernel
theorem dX7_bitsOfFloat_21 : decode cX7_bitsOfFloat 21 = .ok (.if_icmp .le 13, 3) := by decide +kernel
theorem dX7_bitsOfFloat_24 : decode cX7_bitsOfFloat 24 = .ok (.fload_n 1, 1) := by decide +kernel
theorem dX7_bitsOfFloat_25 : decode cX7_bitsOfFloat 25 = .ok (.fconst 2, 1) := by decide +kernel
theorem dX7_bitsOfFloat_26 : decode cX7_bitsOfFloat 26 = .ok (.fmul, 1) := by decide +kernel
theorem dX7_bitsOfFloat_27 : decode cX7_bitsOfFloat 27 = .ok (.fstore_n 1, 1) := by decide +kernel
theorem dX7_bitsOfFloat_28 : decode cX7_bitsOfFloat 28 = .ok (.iinc 2 (-1), 3) := by decide +kernel
theorem dX7_bitsOfFloat_31 : decode cX7_bitsOfFloat 31 = .ok (.goto (-18), 3) := by decide +kernel
theorem dX7_bitsOfFloat_34 : decode cX7_bitsOfFloat 34 = .ok (.iload_n 2, 1) := by decide +kernel
theorem dX7_bitsOfFloat_35 : decode cX7_bitsOfFloat 35 = .ok (.bipush 23, 2) := by decide +kernel
theorem dX7_bitsOfFloat_37 : decode cX7_bitsOfFloat 37 = .ok (.ishl, 1) := by decide +kernel
theorem dX7_bitsOfFloat_38 : decode cX7_bitsOfFloat 38 = .ok (.fload_n 1, 1) := by decide +kernel
theorem dX7_bitsOfFloat_39 : decode cX7_bitsOfFloat 39 = .ok (.fconst 1, 1) := by decide +kernel
theorem dX7_bitsOfFloat_40 : decode cX7_bitsOfFloat 40 = .ok (.fsub, 1) := by decide +kernel
theorem dX7_bitsOfFloat_41 : decode cX7_bitsOfFloat 41 = .ok (.ldc 212, 2) := by decide +kernel
theorem dX7_bitsOfFloat_43 : decode cX7_bitsOfFloat 43 = .ok (.fmul, 1) := by decide +kernel
theorem dX7_bitsOfFloat_44 : decode cX7_bitsOfFloat 44 = .ok (.f2i, 1) := by decide +kernel
theorem dX7_bitsOfFloat_45 : decode cX7_bitsOfFloat 45 = .ok (.iadd, 1) := by decide +kernel
theorem dX7_bitsOfFloat_46 : decode cX7_bitsOfFloat 46 = .ok (.ireturn, 1) := by decide +kernel
theorem dX8_init_0 : decode cX8_init 0 = .ok (.aload_n 0, 1) := by decide +kernel
theorem dX8_init_1 : decode cX8_init 1 = .ok (.invokespecial 1, 3) := by decide +kernel
theorem dX8_init_4 : decode cX8_init 4 = .ok (.aload_n 0, 1) := by decide +kernel
theorem dX8_init_5 : decode cX8_init 5 = .ok (.sipush 496, 3) := by decide +kernel
theorem dX8_init_8 : decode cX8_init 8 = .ok (.newarray .int, 2) := by decide +kernel
theorem dX8_init_10 : decode cX8_init 10 = .ok (.putfield 7, 3) := by decide +kernel
theorem dX8_init_13 : decode cX8_init 13 = .ok (.aload_n 0, 1) := by decide +kernel
theorem dX8_init_14 : decode cX8_init 14 = .ok (.sipush 496, 3) := by decide +kernel
theorem dX8_init_17 : decode cX8_init 17 = .ok (.newarray .int, 2) := by decide +kernel
theorem dX8_init_19 : decode cX8_init 19 = .ok (.putfield 13, 3) := by decide +kernel
theorem dX8_init_22 : decode cX8_init 22 = .ok (.aload_n 0, 1) := by decide +kernel
theorem dX8_init_23 : decode cX8_init 23 = .ok (.sipush 1984, 3) := by decide +kernel
theorem dX8_init_26 : decode cX8_init 26 = .ok (.newarray .int, 2) := by decide +kernel
theorem dX8_init_28 : decode cX8_init 28 = .ok (.putfield 16, 3) := by decide +kernel
theorem dX8_init_31 : decode cX8_init 31 = .ok (.aload_n 0, 1) := by decide +kernel
theorem dX8_init_32 : decode cX8_init 32 = .ok (.sipush 496, 3) := by decide +kernel
theorem dX8_init_35 : decode cX8_init 35 = .ok (.newarray .int, 2) := by decide +kernel
theorem dX8_init_37 : decode cX8_init 37 = .ok (.putfield 19, 3) := by decide +kernel
theorem dX8_init_40 : decode cX8_init 40 = .ok (.aload_n 0, 1) := by decide +kernel
theorem dX8_init_41 : decode cX8_init 41 = .ok (.sipush 7381, 3) := by decide +kernel
theorem dX8_init_44 : decode cX8_init 44 = .ok (.newarray .int, 2) := by decide +kernel
theorem dX8_init_46 : decode cX8_init 46 = .ok (.putfield 22, 3) := by decide +kernel
theorem dX8_init_49 : decode cX8_init 49 = .ok (.aload_n 0, 1) := by decide +kernel
theorem dX8_init_50 : decode cX8_init 50 = .ok (.sipush 7381, 3) := by decide +kernel
theorem dX8_init_53 : decode cX8_init 53 = .ok (.newarray .int, 2) := by decide +kernel
theorem dX8_init_55 : decode cX8_init 55 = .ok (.putfield 25, 3) := by decide +kernel
theorem dX8_init_58 : decode cX8_init 58 = .ok (.aload_n 0, 1) := by decide +kernel
theorem dX8_init_59 : decode cX8_init 59 = .ok (.bipush 121, 2) := by decide +kernel
theorem dX8_init_61 : decode cX8_init 61 = .ok (.newarray .int, 2) := by decide +kernel
theorem dX8_init_63 : decode cX8_init 63 = .ok (.putfield 28, 3) := by decide +kernel
theorem dX8_init_66 : decode cX8_init 66 = .ok (.aload_n 0, 1) := by decide +kernel
theorem dX8_init_67 : decode cX8_init 67 = .ok (.bipush 60, 2) := by decide +kernel
theorem dX8_init_69 : decode cX8_init 69 = .ok (.newarray .int, 2) := by decide +kernel
theorem dX8_init_71 : decode cX8_init 71 = .ok (.putfield 31, 3) := by decide +kernel
theorem dX8_init_74 : decode cX8_init 74 = .ok (.aload_n 0, 1) := by decide +kernel
theorem dX8_init_75 : decode cX8_init 75 = .ok (.bipush 60, 2) := by decide +kernel
theorem dX8_init_77 : decode cX8_init 77 = .ok (.newarray .int, 2) := by decide +kernel
theorem dX8_init_79 : decode cX8_init 79 = .ok (.putfield 34, 3) := by decide +kernel
theorem dX8_init_82 : decode cX8_init 82 = .ok (.aload_n 0, 1) := by decide +kernel
theorem dX8_init_83 : decode cX8_init 83 = .ok (.sipush 7381, 3) := by decide +kernel
theorem dX8_init_86 : decode cX8_init 86 = .ok (.newarray .int, 2) := by decide +kernel
theorem dX8_init_88 : decode cX8_init 88 = .ok (.putfield 37, 3) := by decide +kernel
theorem dX8_init_91 : decode cX8_init 91 = .ok (.aload_n 0, 1) := by decide +kernel
theorem dX8_init_92 : decode cX8_init 92 = .ok (.bipush 121, 2) := by decide +kernel
theorem dX8_init_94 : decode cX8_init 94 = .ok (.newarray .int, 2) := by decide +kernel
theorem dX8_init_96 : decode cX8_init 96 = .ok (.putfield 40, 3) := by decide +kernel
theorem dX8_init_99 : decode cX8_init 99 = .ok (.aload_n 0, 1) := by decide +kernel
theorem dX8_init_100 : decode cX8_init 100 = .ok (.getfield 7, 3) := by decide +kernel
theorem dX8_init_103 : decode cX8_init 103 = .ok (.iconst 2, 1) := by decide +kernel
theorem dX8_init_104 : decode cX8_init 104 = .ok (.iconst 1, 1) := by decide +kernel
theorem dX8_init_105 : decode cX8_init 105 = .ok (.iastore, 1) := by decide +kernel
theorem dX8_init_106 : decode cX8_init 106 = .ok (.return_, 1) := by decide +kernel
theorem dX8_in_0 : decode cX8_in 0 = .ok (.lload_n 0, 1) := by decide +kernel
theorem dX8_in_1 : decode cX8_in 1 = .ok (.lload_n 2, 1) := by decide +kernel
theorem dX8_in_2 : decode cX8_in 2 = .ok (.lcmp, 1) := by decide +kernel
theorem dX8_in_3 : decode cX8_in 3 = .ok (.ifCond .lt 14, 3) := by decide +kernel
theorem dX8_in_6 : decode cX8_in 6 = .ok (.lload_n 0, 1) := by decide +kernel
theorem dX8_in_7 : decode cX8_in 7 = .ok (.lload 4, 2) := by decide +kernel
theorem dX8_in_9 : decode cX8_in 9 = .ok (.lcmp, 1) := by decide +kernel
theorem dX8_in_10 : decode cX8_in 10 = .ok (.ifCond .gt 7, 3) := by decide +kernel
theorem dX8_in_13 : decode cX8_in 13 = .ok (.iconst 1, 1) := by decide +kernel
theorem dX8_in_14 : decode cX8_in 14 = .ok (.goto 4, 3) := by decide +kernel
theorem dX8_in_17 : decode cX8_in 17 = .ok (.iconst 0, 1) := by decide +kernel
theorem dX8_in_18 : decode cX8_in 18 = .ok (.ireturn, 1) := by decide +kernel
theorem dX8_remember_0 : decode cX8_remember 0 = .ok (.iconst 0, 1) := by decide +kernel
theorem dX8_remember_1 : decode cX8_remember 1 = .ok (.istore_n 1, 1) := by decide +kernel
theorem dX8_remember_2 : decode cX8_remember 2 = .ok (.iload_n 1, 1) := by decide +kernel
theorem dX8_remember_3 : decode cX8_remember 3 = .ok (.sipush 496, 3) := by decide +kernel
theorem dX8_remember_6 : decode cX8_remember 6 = .ok (.if_icmp .ge 21, 3) := by decide +kernel
theorem dX8_remember_9 : decode cX8_remember 9 = .ok (.aload_n 0, 1) := by decide +kernel
theorem dX8_remember_10 : decode cX8_remember 10 = .ok (.getfield 13, 3) := by decide +kernel
theorem dX8_remember_13 : decode cX8_remember 13 = .ok (.iload_n 1, 1) := by decide +kernel
theorem dX8_remember_14 : decode cX8_remember 14 = .ok (.aload_n 0, 1) := by decide +kernel
theorem dX8_remember_15 : decode cX8_remember 15 = .ok (.getfield 7, 3) := by decide +kernel
theorem dX8_remember_18 : decode cX8_remember 18 = .ok (.iload_n 1, 1) := by decide +kernel
theorem dX8_remember_19 : decode cX8_remember 19 = .ok (.iaload, 1) := by decide +kernel
theorem dX8_remember_20 : decode cX8_remember 20 = .ok (.iastore, 1) := by decide +kernel
theorem dX8_remember_21 : decode cX8_remember 21 = .ok (.iinc 1 1, 3) := by decide +kernel
theorem dX8_remember_24 : decode cX8_remember 24 = .ok (.goto (-22), 3) := by decide +kernel
theorem dX8_remember_27 : decode cX8_remember 27 = .ok (.return_, 1) := by decide +kernel
theorem dX8_acted_0 : decode cX8_acted 0 = .ok (.aload_n 0, 1) := by decide +kernel
theorem dX8_acted_1 : decode cX8_acted 1 = .ok (.getfield 43, 3) := by decide +kernel
theorem dX8_acted_4 : decode cX8_acted 4 = .ok (.iconst 4, 1) := by decide +kernel
theorem dX8_acted_5 : decode cX8_acted 5 = .ok (.if_icmp .ne 44, 3) := by decide +kernel
theorem dX8_acted_8 : decode cX8_acted 8 = .ok (.iconst 0, 1) := by decide +kernel
theorem dX8_acted_9 : decode cX8_acted 9 = .ok (.istore_n 2, 1) := by decide +kernel
theorem dX8_acted_10 : decode cX8_acted 10 = .ok (.iload_n 2, 1) := by decide +kernel
theorem dX8_acted_11 : decode cX8_acted 11 = .ok (.sipush 1488, 3) := by decide +kernel
theorem dX8_acted_14 : decode cX8_acted 14 = .ok (.if_icmp .ge 25, 3) := by decide +kernel
theorem dX8_acted_17 : decode cX8_acted 17 = .ok (.aload_n 0, 1) := by decide +kernel
theorem dX8_acted_18 : decode cX8_acted 18 = .ok (.getfield 16, 3) := by decide +kernel
theorem dX8_acted_21 : decode cX8_acted 21 = .ok (.iload_n 2, 1) := by decide +kernel
theorem dX8_acted_22 : decode cX8_acted 22 = .ok (.aload_n 0, 1) := by decide +kernel
theorem dX8_acted_23 : decode cX8_acted 23 = .ok (.getfield 16, 3) := by decide +kernel
theorem dX8_acted_26 : decode cX8_acted 26 = .ok (.iload_n 2, 1) := by decide +kernel
theorem dX8_acted_27 : decode cX8_acted 27 = .ok (.sipush 496, 3) := by decide +kernel
theorem dX8_acted_30 : decode cX8_acted 30 = .ok (.iadd, 1) := by decide +kernel
theorem dX8_acted_31 : decode cX8_acted 31 = .ok (.iaload, 1) := by decide +kernel
theorem dX8_acted_32 : decode cX8_acted 32 = .ok (.iastore, 1) := by decide +kernel
theorem dX8_acted_33 : decode cX8_acted 33 = .ok (.iinc 2 1, 3) := by decide +kernel
theorem dX8_acted_36 : decode cX8_acted 36 = .ok (.goto (-26), 3) := by decide +kernel
theorem dX8_acted_39 : decode cX8_acted 39 = .ok (.aload_n 0, 1) := by decide +kernel
theorem dX8_acted_40 : decode cX8_acted 40 = .ok (.dup, 1) := by decide +kernel
theorem dX8_acted_41 : decode cX8_acted 41 = .ok (.getfield 43, 3) := by decide +kernel
theorem dX8_acted_44 : decode cX8_acted 44 = .ok (.iconst 1, 1) := by decide +kernel
theorem dX8_acted_45 : decode cX8_acted 45 = .ok (.isub, 1) := by decide +kernel
theorem dX8_acted_46 : decode cX8_acted 46 = .ok (.putfield 43, 3) := by decide +kernel
theorem dX8_acted_49 : decode cX8_acted 49 = .ok (.iconst 0, 1) := by decide +kernel
theorem dX8_acted_50 : decode cX8_acted 50 = .ok (.istore_n 2, 1) := by decide +kernel
theorem dX8_acted_51 : decode cX8_acted 51 = .ok (.iload_n 2, 1) := by decide +kernel
theorem dX8_acted_52 : decode cX8_acted 52 = .ok (.sipush 496, 3) := by decide +kernel
theorem dX8_acted_55 : decode cX8_acted 55 = .ok (.if_icmp .ge 30, 3) := by decide +kernel
theorem dX8_acted_58 : decode cX8_acted 58 = .ok (.aload_n 0, 1) := by decide +kernel
theorem dX8_acted_59 : decode cX8_acted 59 = .ok (.getfield 16, 3) := by decide +kernel
theorem dX8_acted_62 : decode cX8_acted 62 = .ok (.sipush 496, 3) := by decide +kernel
theorem dX8_acted_65 : decode cX8_acted 65 = .ok (.aload_n 0, 1) := by decide +kernel
theorem dX8_acted_66 : decode cX8_acted 66 = .ok (.getfield 43, 3) := by decide +kernel
theorem dX8_acted_69 : decode cX8_acted 69 = .ok (.imul, 1) := by decide +kernel
theorem dX8_acted_70 : decode cX8_acted 70 = .ok (.iload_n 2, 1) := by decide +kernel
theorem dX8_acted_71 : decode cX8_acted 71 = .ok (.iadd, 1) := by decide +kernel
theorem dX8_acted_72 : decode cX8_acted 72 = .ok (.aload_n 0, 1) := by decide +kernel
theorem dX8_acted_73 : decode cX8_acted 73 = .ok (.getfield 13, 3) := by decide +kernel
theorem dX8_acted_76 : decode cX8_acted 76 = .ok (.iload_n 2, 1) := by decide +kernel
theorem dX8_acted_77 : decode cX8_acted 77 = .ok (.iaload, 1) := by decide +kernel
theorem dX8_acted_78 : decode cX8_acted 78 = .ok (.iastore, 1) := by decide +kernel
theorem dX8_acted_79 : decode cX8_acted 79 = .ok (.iinc 2 1, 3) := by decide +kernel
theorem dX8_acted_82 : decode cX8_acted 82 = .ok (.goto (-31), 3) := by decide +kernel
theorem dX8_acted_85 : decode cX8_acted 85 = .ok (.aload_n 0, 1) := by decide +kernel
theorem dX8_acted_86 : decode cX8_acted 86 = .ok (.dup, 1) := by decide +kernel
theorem dX8_acted_87 : decode cX8_acted 87 = .ok (.getfield 43, 3) := by decide +kernel
theorem dX8_acted_90 : decode cX8_acted 90 = .ok (.iconst 1, 1) := by decide +kernel
theorem dX8_acted_91 : decode cX8_acted 91 = .ok (.iadd, 1) := by decide +kernel
theorem dX8_acted_92 : decode cX8_acted 92 = .ok (.putfield 43, 3) := by decide +kernel
theorem dX8_acted_95 : decode cX8_acted 95 = .ok (.iload_n 1, 1) := by decide +kernel
theorem dX8_acted_96 : decode cX8_acted 96 = .ok (.ireturn, 1) := by decide +kernel
set_option maxRecDepth 20000 in
theorem ggX8_isPattern_X8_in : GoodIn wsX8_isPattern wsX8_in := goodIn_r _ [5] (by decide +kernel) (by decide +kernel)
set_option maxRecDepth 20000 in
theorem gX8_isPattern_X8_in : GoodIn wsX8_isPattern (va_wsS RX8 47 yX8_in wsX8_in) := goodIn_app (goodIn_of _ (by decide +kernel)) ggX8_isPattern_X8_in
theorem dX8_isPattern_0 : decode cX8_isPattern 0 = .ok (.iload_n 1, 1) := by decide +kernel
theorem dX8_isPattern_1 : decode cX8_isPattern 1 = .ok (.i2l, 1) := by decide +kernel
theorem dX8_isPattern_2 : decode cX8_isPattern 2 = .ok (.lconst 0, 1) := by decide +kernel
theorem dX8_isPattern_3 : decode cX8_isPattern 3 = .ok (.aload_n 0, 1) := by decide +kernel
theorem dX8_isPattern_4 : decode cX8_isPattern 4 = .ok (.getfield 7, 3) := by decide +kernel
theorem dX8_isPattern_7 : decode cX8_isPattern 7 = .ok (.iconst 1, 1) := by decide +kernel
theorem dX8_isPattern_8 : decode cX8_isPattern 8 = .ok (.iaload, 1) := by decide +kernel
theorem dX8_isPattern_9 : decode cX8_isPattern 9 = .ok (.i2l, 1) := by decide +kernel
theorem dX8_isPattern_10 : decode cX8_isPattern 10 = .ok (.lconst 1, 1) := by decide +kernel
theorem dX8_isPattern_11 : decode cX8_isPattern 11 = .ok (.lsub, 1) := by decide +kernel
theorem dX8_isPattern_12 : decode cX8_isPattern 12 = .ok (.invokestatic 47, 3) := by decide +kernel
theorem dX8_isPattern_15 : decode cX8_isPattern 15 = .ok (.ireturn, 1) := by decide +kernel
theorem dX8_places_0 : decode cX8_places 0 = .ok (.aload_n 0, 1) := by decide +kernel
theorem dX8_places_1 : decode cX8_places 1 = .ok (.getfield 7, 3) := by decide +kernel
theorem dX8_places_4 : decode cX8_places 4 = .ok (.bipush 123, 2) := by decide +kernel
theorem dX8_places_6 : decode cX8_places 6 = .ok (.bipush 62, 2) := by decide +kernel
theorem dX8_places_8 : decode cX8_places 8 = .ok (.iload_n 1, 1) := by decide +kernel
theorem dX8_places_9 : decode cX8_places 9 = .ok (.imul, 1) := by decide +kernel
theorem dX8_places_10 : decode cX8_places 10 = .ok (.iadd, 1) := by decide +kernel
theorem dX8_places_11 : decode cX8_places 11 = .ok (.iaload, 1) := by decide +kernel
theorem dX8_places_12 : decode cX8_places 12 = .ok (.ireturn, 1) := by decide +kernel
theorem dX8_taking_0 : decode cX8_taking 0 = .ok (.aload_n 0, 1) := by decide +kernel
theorem dX8_taking_1 : decode cX8_taking 1 = .ok (.getfield 7, 3) := by decide +kernel
theorem dX8_taking_4 : decode cX8_taking 4 = .ok (.bipush 123, 2) := by decide +kernel
theorem dX8_taking_6 : decode cX8_taking 6 = .ok (.bipush 62, 2) := by decide +kernel
theorem dX8_taking_8 : decode cX8_taking 8 = .ok (.iload_n 1, 1) := by decide +kernel
theorem dX8_taking_9 : decode cX8_taking 9 = .ok (.imul, 1) := by decide +kernel
theorem dX8_taking_10 : decode cX8_taking 10 = .ok (.iadd, 1) := by decide +kernel
theorem dX8_taking_11 : decode cX8_taking 11 = .ok (.iconst 2, 1) := by decide +kernel
theorem dX8_taking_12 : decode cX8_taking 12 = .ok (.iadd, 1) := by decide +kernel
theorem dX8_taking_13 : decode cX8_taking 13 = .ok (.iload_n 2, 1) := by decide +kernel
theorem dX8_taking_14 : decode cX8_taking 14 = .ok (.iadd, 1) := by decide +kernel
theorem dX8_taking_15 : decode cX8_taking 15 = .ok (.iaload, 1) := by decide +kernel
theorem dX8_taking_16 : decode cX8_taking 16 = .ok (.ireturn, 1) := by decide +kernel
set_option maxRecDepth 20000 in
theorem ggX8_isTaken_X8_taking : GoodIn wsX8_isTaken wsX8_taking := goodIn_r _ [6, 1, 7, 8, 9, 10, 11, 12, 13, 14, 15, 16, 17, 18, 19, 20, 21, 22, 23, 24, 25, 26, 27] (by decide +kernel) (by decide +kernel)
set_option maxRecDepth 20000 in
theorem gX8_isTaken_X8_taking : GoodIn wsX8_isTaken (wsV RX8 51 RX8 yX8_taking wsX8_taking) := goodIn_app (goodIn_of _ (by decide +kernel)) ggX8_isTaken_X8_taking
theorem dX8_isTaken_0 : decode cX8_isTaken 0 = .ok (.aload_n 0, 1) := by decide +kernel
theorem dX8_isTaken_1 : decode cX8_isTaken 1 = .ok (.iload_n 1, 1) := by decide +kernel
theorem dX8_isTaken_2 : decode cX8_isTaken 2 = .ok (.iload_n 2, 1) := by decide +kernel
theorem dX8_isTaken_3 : decode cX8_isTaken 3 = .ok (.invokevirtual 51, 3) := by decide +kernel
theorem dX8_isTaken_6 : decode cX8_isTaken 6 = .ok (.aload_n 0, 1) := by decide +kernel
theorem dX8_isTaken_7 : decode cX8_isTaken 7 = .ok (.getfield 7, 3) := by decide +kernel
theorem dX8_isTaken_10 : decode cX8_isTaken 10 = .ok (.iconst 3, 1) := by decide +kernel
theorem dX8_isTaken_11 : decode cX8_isTaken 11 = .ok (.iload_n 3, 1) := by decide +kernel
theorem dX8_isTaken_12 : decode cX8_isTaken 12 = .ok (.iadd, 1) := by decide +kernel
theorem dX8_isTaken_13 : decode cX8_isTaken 13 = .ok (.iaload, 1) := by decide +kernel
theorem dX8_isTaken_14 : decode cX8_isTaken 14 = .ok (.ishr, 1) := by decide +kernel
theorem dX8_isTaken_15 : decode cX8_isTaken 15 = .ok (.iconst 1, 1) := by decide +kernel
theorem dX8_isTaken_16 : decode cX8_isTaken 16 = .ok (.iand, 1) := by decide +kernel
theorem dX8_isTaken_17 : decode cX8_isTaken 17 = .ok (.iconst 1, 1) := by decide +kernel
theorem dX8_isTaken_18 : decode cX8_isTaken 18 = .ok (.if_icmp .ne 7, 3) := by decide +kernel
theorem dX8_isTaken_21 : decode cX8_isTaken 21 = .ok (.iconst 1, 1) := by decide +kernel
theorem dX8_isTaken_22 : decode cX8_isTaken 22 = .ok (.goto 4, 3) := by decide +kernel
theorem dX8_isTaken_25 : decode cX8_isTaken 25 = .ok (.iconst 0, 1) := by decide +kernel
theorem dX8_isTaken_26 : decode cX8_isTaken 26 = .ok (.ireturn, 1) := by decide +kernel
theorem dX8_bits_0 : decode cX8_bits 0 = .ok (.iconst 0, 1) := by decide +kernel
theorem dX8_bits_1 : decode cX8_bits 1 = .ok (.istore_n 1, 1) := by decide +kernel
theorem dX8_bits_2 : decode cX8_bits 2 = .ok (.iload_n 0, 1) := by decide +kernel
theorem dX8_bits_3 : decode cX8_bits 3 = .ok (.istore_n 2, 1) := by decide +kernel
theorem dX8_bits_4 : decode cX8_bits 4 = .ok (.iload_n 2, 1) := by decide +kernel
theorem dX8_bits_5 : decode cX8_bits 5 = .ok (.ifCond .eq 15, 3) := by decide +kernel
theorem dX8_bits_8 : decode cX8_bits 8 = .ok (.iinc 1 1, 3) := by decide +kernel
theorem dX8_bits_11 : decode cX8_bits 11 = .ok (.iload_n 2, 1) := by decide +kernel
theorem dX8_bits_12 : decode cX8_bits 12 = .ok (.iload_n 2, 1) := by decide +kernel
theorem dX8_bits_13 : decode cX8_bits 13 = .ok (.iconst 1, 1) := by decide +kernel
theorem dX8_bits_14 : decode cX8_bits 14 = .ok (.isub, 1) := by decide +kernel
theorem dX8_bits_15 : decode cX8_bits 15 = .ok (.iand, 1) := by decide +kernel
theorem dX8_bits_16 : decode cX8_bits 16 = .ok (.istore_n 2, 1) := by decide +kernel
theorem dX8_bits_17 : decode cX8_bits 17 = .ok (.goto (-13), 3) := by decide +kernel
theorem dX8_bits_20 : decode cX8_bits 20 = .ok (.iload_n 1, 1) := by decide +kernel
theorem dX8_bits_21 : decode cX8_bits 21 = .ok (.ireturn, 1) := by decide +kernel
theorem dX8_mayBegin_0 : decode cX8_mayBegin 0 = .ok (.aload_n 0, 1) := by decide +kernel
theorem dX8_mayBegin_1 : decode cX8_mayBegin 1 = .ok (.getfield 7, 3) := by decide +kernel
theorem dX8_mayBegin_4 : decode cX8_mayBegin 4 = .ok (.bipush 123, 2) := by decide +kernel
theorem dX8_mayBegin_6 : decode cX8_mayBegin 6 = .ok (.bipush 62, 2) := by decide +kernel
theorem dX8_mayBegin_8 : decode cX8_mayBegin 8 = .ok (.iload_n 1, 1) := by decide +kernel
theorem dX8_mayBegin_9 : decode cX8_mayBegin 9 = .ok (.imul, 1) := by decide +kernel
theorem dX8_mayBegin_10 : decode cX8_mayBegin 10 = .ok (.iadd, 1) := by decide +kernel
theorem dX8_mayBegin_11 : decode cX8_mayBegin 11 = .ok (.iconst 1, 1) := by decide +kernel
theorem dX8_mayBegin_12 : decode cX8_mayBegin 12 = .ok (.iadd, 1) := by decide +kernel
theorem dX8_mayBegin_13 : decode cX8_mayBegin 13 = .ok (.iaload, 1) := by decide +kernel
theorem dX8_mayBegin_14 : decode cX8_mayBegin 14 = .ok (.ifCond .eq 22, 3) := by decide +kernel
theorem dX8_mayBegin_17 : decode cX8_mayBegin 17 = .ok (.iload_n 2, 1) := by decide +kernel
theorem dX8_mayBegin_18 : decode cX8_mayBegin 18 = .ok (.ifCond .eq 18, 3) := by decide +kernel
theorem dX8_mayBegin_21 : decode cX8_mayBegin 21 = .ok (.aload_n 0, 1) := by decide +kernel
theorem dX8_mayBegin_22 : decode cX8_mayBegin 22 = .ok (.getfield 7, 3) := by decide +kernel
theorem dX8_mayBegin_25 : decode cX8_mayBegin 25 = .ok (.iconst 3, 1) := by decide +kernel
theorem dX8_mayBegin_26 : decode cX8_mayBegin 26 = .ok (.iload_n 2, 1) := by decide +kernel
theorem dX8_mayBegin_27 : decode cX8_mayBegin 27 = .ok (.iadd, 1) := by decide +kernel
theorem dX8_mayBegin_28 : decode cX8_mayBegin 28 = .ok (.iconst 1, 1) := by decide +kernel
theorem dX8_mayBegin_29 : decode cX8_mayBegin 29 = .ok (.isub, 1) := by decide +kernel
theorem dX8_mayBegin_30 : decode cX8_mayBegin 30 = .ok (.iaload, 1) := by decide +kernel
theorem dX8_mayBegin_31 : decode cX8_mayBegin 31 = .ok (.bipush 26, 2) := by decide +kernel
theorem dX8_mayBegin_33 : decode cX8_mayBegin 33 = .ok (.if_icmp .ne 7, 3) := by decide +kernel
theorem dX8_mayBegin_36 : decode cX8_mayBegin 36 = .ok (.iconst 1, 1) := by decide +kernel
theorem dX8_mayBegin_37 : decode cX8_mayBegin 37 = .ok (.goto 4, 3) := by decide +kernel
theorem dX8_mayBegin_40 : decode cX8_mayBegin 40 = .ok (.iconst 0, 1) := by decide +kernel
theorem dX8_mayBegin_41 : decode cX8_mayBegin 41 = .ok (.ireturn, 1) := by decide +kernel
theorem dX8_tries_0 : decode cX8_tries 0 = .ok (.iload_n 2, 1) := by decide +kernel
theorem dX8_tries_1 : decode cX8_tries 1 = .ok (.aload_n 0, 1) := by decide +kernel
theorem dX8_tries_2 : decode cX8_tries 2 = .ok (.getfield 22, 3) := by decide +kernel
theorem dX8_tries_5 : decode cX8_tries 5 = .ok (.iload_n 1, 1) := by decide +kernel
theorem dX8_tries_6 : decode cX8_tries 6 = .ok (.iaload, 1) := by decide +kernel
theorem dX8_tries_7 : decode cX8_tries 7 = .ok (.if_icmp .lt 23, 3) := by decide +kernel
theorem dX8_tries_10 : decode cX8_tries 10 = .ok (.iload_n 2, 1) := by decide +kernel
theorem dX8_tries_11 : decode cX8_tries 11 = .ok (.aload_n 0, 1) := by decide +kernel
theorem dX8_tries_12 : decode cX8_tries 12 = .ok (.getfield 22, 3) := by decide +kernel
theorem dX8_tries_15 : decode cX8_tries 15 = .ok (.iload_n 1, 1) := by decide +kernel
theorem dX8_tries_16 : decode cX8_tries 16 = .ok (.iaload, 1) := by decide +kernel
theorem dX8_tries_17 : decode cX8_tries 17 = .ok (.if_icmp .ne 27, 3) := by decide +kernel
theorem dX8_tries_20 : decode cX8_tries 20 = .ok (.iload_n 3, 1) := by decide +kernel
theorem dX8_tries_21 : decode cX8_tries 21 = .ok (.aload_n 0, 1) := by decide +kernel
theorem dX8_tries_22 : decode cX8_tries 22 = .ok (.getfield 25, 3) := by decide +kernel
theorem dX8_tries_25 : decode cX8_tries 25 = .ok (.iload_n 1, 1) := by decide +kernel
theorem dX8_tries_26 : decode cX8_tries 26 = .ok (.iaload, 1) := by decide +kernel
theorem dX8_tries_27 : decode cX8_tries 27 = .ok (.if_icmp .le 17, 3) := by decide +kernel
theorem dX8_tries_30 : decode cX8_tries 30 = .ok (.aload_n 0, 1) := by decide +kernel
theorem dX8_tries_31 : decode cX8_tries 31 = .ok (.getfield 22, 3) := by decide +kernel
theorem dX8_tries_34 : decode cX8_tries 34 = .ok (.iload_n 1, 1) := by decide +kernel
theorem dX8_tries_35 : decode cX8_tries 35 = .ok (.iload_n 2, 1) := by decide +kernel
theorem dX8_tries_36 : decode cX8_tries 36 = .ok (.iastore, 1) := by decide +kernel
theorem dX8_tries_37 : decode cX8_tries 37 = .ok (.aload_n 0, 1) := by decide +kernel
theorem dX8_tries_38 : decode cX8_tries 38 = .ok (.getfield 25, 3) := by decide +kernel
theorem dX8_tries_41 : decode cX8_tries 41 = .ok (.iload_n 1, 1) := by decide +kernel
theorem dX8_tries_42 : decode cX8_tries 42 = .ok (.iload_n 3, 1) := by decide +kernel
theorem dX8_tries_43 : decode cX8_tries 43 = .ok (.iastore, 1) := by decide +kernel
theorem dX8_tries_44 : decode cX8_tries 44 = .ok (.return_, 1) := by decide +kernel
set_option maxRecDepth 20000 in
theorem ggX8_finds_X8_places : GoodIn wsX8_finds wsX8_places := goodIn_r _ [8, 1, 25, 26, 27, 28, 29, 30, 31, 32, 33, 34, 35, 36, 37, 38, 39, 40, 41, 42, 43, 44, 45] (by decide +kernel) (by decide +kernel)
set_option maxRecDepth 20000 in
theorem gX8_finds_X8_places : GoodIn wsX8_finds (wsV RX8 55 RX8 yX8_places wsX8_places) := goodIn_app (goodIn_of _ (by decide +kernel)) ggX8_finds_X8_places
set_option maxRecDepth 20000 in
theorem ggX8_finds_X8_mayBegin : GoodIn wsX8_finds wsX8_mayBegin := goodIn_r _ [12, 1, 25, 26, 27, 28, 29, 30, 31, 32, 33, 34, 35, 36, 37, 38, 39, 40, 41, 42, 43, 44, 45] (by decide +kernel) (by decide +kernel)
set_option maxRecDepth 20000 in
theorem gX8_finds_X8_mayBegin : GoodIn wsX8_finds (wsV RX8 59 RX8 yX8_mayBegin wsX8_mayBegin) := goodIn_app (goodIn_of _ (by decide +kernel)) ggX8_finds_X8_mayBegin
set_option maxRecDepth 20000 in
theorem ggX8_finds_X8_tries : GoodIn wsX8_finds wsX8_tries := goodIn_r _ [16, 2, 3, 25, 26, 27, 28, 29, 30, 31, 32, 33, 34, 35, 36, 37, 38, 39, 40, 41, 42, 43, 44, 45] (by decide +kernel) (by decide +kernel)
set_option maxRecDepth 20000 in
theorem gX8_finds_X8_tries : GoodIn wsX8_finds (wsV RX8 63 RX8 yX8_tries wsX8_tries) := goodIn_app (goodIn_of _ (by decide +kernel)) ggX8_finds_X8_tries
set_option maxRecDepth 20000 in
theorem ggX8_finds_X8_isTaken : GoodIn wsX8_finds wsX8_isTaken := goodIn_r _ [20, 1, 21, 22, 23, 7, 24, 25, 26, 27, 28, 29, 30, 31, 32, 33, 34, 35, 36, 37, 38, 39, 40, 41, 42, 43, 44, 45] (by decide +kernel) (by decide +kernel)
set_option maxRecDepth 20000 in
theorem gX8_finds_X8_isTaken : GoodIn wsX8_finds (wsV RX8 67 RX8 yX8_isTaken wsX8_isTaken) := goodIn_app (goodIn_of _ (by decide +kernel)) ggX8_finds_X8_isTaken
theorem dX8_finds_0 : decode cX8_finds 0 = .ok (.iconst 0, 1) := by decide +kernel
theorem dX8_finds_1 : decode cX8_finds 1 = .ok (.istore_n 2, 1) := by decide +kernel
theorem dX8_finds_2 : decode cX8_finds 2 = .ok (.iload_n 2, 1) := by decide +kernel
theorem dX8_finds_3 : decode cX8_finds 3 = .ok (.aload_n 0, 1) := by decide +kernel
theorem dX8_finds_4 : decode cX8_finds 4 = .ok (.iload_n 1, 1) := by decide +kernel
theorem dX8_finds_5 : decode cX8_finds 5 = .ok (.invokevirtual 55, 3) := by decide +kernel
theorem dX8_finds_8 : decode cX8_finds 8 = .ok (.if_icmp .gt 195, 3) := by decide +kernel
theorem dX8_finds_11 : decode cX8_finds 11 = .ok (.iconst 0, 1) := by decide +kernel
theorem dX8_finds_12 : decode cX8_finds 12 = .ok (.istore_n 3, 1) := by decide +kernel
theorem dX8_finds_13 : decode cX8_finds 13 = .ok (.iload_n 3, 1) := by decide +kernel
theorem dX8_finds_14 : decode cX8_finds 14 = .ok (.aload_n 0, 1) := by decide +kernel
theorem dX8_finds_15 : decode cX8_finds 15 = .ok (.getfield 7, 3) := by decide +kernel
theorem dX8_finds_18 : decode cX8_finds 18 = .ok (.iconst 0, 1) := by decide +kernel
theorem dX8_finds_19 : decode cX8_finds 19 = .ok (.iaload, 1) := by decide +kernel
theorem dX8_finds_20 : decode cX8_finds 20 = .ok (.if_icmp .gt 177, 3) := by decide +kernel
theorem dX8_finds_23 : decode cX8_finds 23 = .ok (.bipush 121, 2) := by decide +kernel
theorem dX8_finds_25 : decode cX8_finds 25 = .ok (.iload_n 2, 1) := by decide +kernel
theorem dX8_finds_26 : decode cX8_finds 26 = .ok (.imul, 1) := by decide +kernel
theorem dX8_finds_27 : decode cX8_finds 27 = .ok (.iload_n 3, 1) := by decide +kernel
theorem dX8_finds_28 : decode cX8_finds 28 = .ok (.iadd, 1) := by decide +kernel
theorem dX8_finds_29 : decode cX8_finds 29 = .ok (.istore 4, 2) := by decide +kernel
theorem dX8_finds_31 : decode cX8_finds 31 = .ok (.aload_n 0, 1) := by decide +kernel
theorem dX8_finds_32 : decode cX8_finds 32 = .ok (.getfield 22, 3) := by decide +kernel
theorem dX8_finds_35 : decode cX8_finds 35 = .ok (.iload 4, 2) := by decide +kernel
theorem dX8_finds_37 : decode cX8_finds 37 = .ok (.sipush 1000, 3) := by decide +kernel
theorem dX8_finds_40 : decode cX8_finds 40 = .ok (.iastore, 1) := by decide +kernel
theorem dX8_finds_41 : decode cX8_finds 41 = .ok (.aload_n 0, 1) := by decide +kernel
theorem dX8_finds_42 : decode cX8_finds 42 = .ok (.getfield 25, 3) := by decide +kernel
theorem dX8_finds_45 : decode cX8_finds 45 = .ok (.iload 4, 2) := by decide +kernel
theorem dX8_finds_47 : decode cX8_finds 47 = .ok (.bipush (-5), 2) := by decide +kernel
theorem dX8_finds_49 : decode cX8_finds 49 = .ok (.iastore, 1) := by decide +kernel
theorem dX8_finds_50 : decode cX8_finds 50 = .ok (.iload_n 2, 1) := by decide +kernel
theorem dX8_finds_51 : decode cX8_finds 51 = .ok (.ifCond .ne 20, 3) := by decide +kernel
theorem dX8_finds_54 : decode cX8_finds 54 = .ok (.aload_n 0, 1) := by decide +kernel
theorem dX8_finds_55 : decode cX8_finds 55 = .ok (.iload_n 1, 1) := by decide +kernel
theorem dX8_finds_56 : decode cX8_finds 56 = .ok (.iload_n 3, 1) := by decide +kernel
theorem dX8_finds_57 : decode cX8_finds 57 = .ok (.invokevirtual 59, 3) := by decide +kernel
theorem dX8_finds_60 : decode cX8_finds 60 = .ok (.ifCond .eq 11, 3) := by decide +kernel
theorem dX8_finds_63 : decode cX8_finds 63 = .ok (.aload_n 0, 1) := by decide +kernel
theorem dX8_finds_64 : decode cX8_finds 64 = .ok (.iload 4, 2) := by decide +kernel
theorem dX8_finds_66 : decode cX8_finds 66 = .ok (.iconst 0, 1) := by decide +kernel
theorem dX8_finds_67 : decode cX8_finds 67 = .ok (.iload_n 3, 1) := by decide +kernel
theorem dX8_finds_68 : decode cX8_finds 68 = .ok (.invokevirtual 63, 3) := by decide +kernel
theorem dX8_finds_71 : decode cX8_finds 71 = .ok (.iload_n 3, 1) := by decide +kernel
theorem dX8_finds_72 : decode cX8_finds 72 = .ok (.ifCond .le 29, 3) := by decide +kernel
theorem dX8_finds_75 : decode cX8_finds 75 = .ok (.aload_n 0, 1) := by decide +kernel
theorem dX8_finds_76 : decode cX8_finds 76 = .ok (.iload 4, 2) := by decide +kernel
theorem dX8_finds_78 : decode cX8_finds 78 = .ok (.aload_n 0, 1) := by decide +kernel
theorem dX8_finds_79 : decode cX8_finds 79 = .ok (.getfield 22, 3) := by decide +kernel
theorem dX8_finds_82 : decode cX8_finds 82 = .ok (.iload 4, 2) := by decide +kernel
theorem dX8_finds_84 : decode cX8_finds 84 = .ok (.iconst 1, 1) := by decide +kernel
theorem dX8_finds_85 : decode cX8_finds 85 = .ok (.isub, 1) := by decide +kernel
theorem dX8_finds_86 : decode cX8_finds 86 = .ok (.iaload, 1) := by decide +kernel
theorem dX8_finds_87 : decode cX8_finds 87 = .ok (.iconst 1, 1) := by decide +kernel
theorem dX8_finds_88 : decode cX8_finds 88 = .ok (.iadd, 1) := by decide +kernel
theorem dX8_finds_89 : decode cX8_finds 89 = .ok (.aload_n 0, 1) := by decide +kernel
theorem dX8_finds_90 : decode cX8_finds 90 = .ok (.getfield 25, 3) := by decide +kernel
theorem dX8_finds_93 : decode cX8_finds 93 = .ok (.iload 4, 2) := by decide +kernel
theorem dX8_finds_95 : decode cX8_finds 95 = .ok (.iconst 1, 1) := by decide +kernel
theorem dX8_finds_96 : decode cX8_finds 96 = .ok (.isub, 1) := by decide +kernel
theorem dX8_finds_97 : decode cX8_finds 97 = .ok (.iaload, 1) := by decide +kernel
theorem dX8_finds_98 : decode cX8_finds 98 = .ok (.invokevirtual 63, 3) := by decide +kernel
theorem dX8_finds_101 : decode cX8_finds 101 = .ok (.iload_n 2, 1) := by decide +kernel
theorem dX8_finds_102 : decode cX8_finds 102 = .ok (.ifCond .le 31, 3) := by decide +kernel
theorem dX8_finds_105 : decode cX8_finds 105 = .ok (.aload_n 0, 1) := by decide +kernel
theorem dX8_finds_106 : decode cX8_finds 106 = .ok (.iload 4, 2) := by decide +kernel
theorem dX8_finds_108 : decode cX8_finds 108 = .ok (.aload_n 0, 1) := by decide +kernel
theorem dX8_finds_109 : decode cX8_finds 109 = .ok (.getfield 22, 3) := by decide +kernel
theorem dX8_finds_112 : decode cX8_finds 112 = .ok (.iload 4, 2) := by decide +kernel
theorem dX8_finds_114 : decode cX8_finds 114 = .ok (.bipush 121, 2) := by decide +kernel
theorem dX8_finds_116 : decode cX8_finds 116 = .ok (.isub, 1) := by decide +kernel
theorem dX8_finds_117 : decode cX8_finds 117 = .ok (.iaload, 1) := by decide +kernel
theorem dX8_finds_118 : decode cX8_finds 118 = .ok (.iconst 1, 1) := by decide +kernel
theorem dX8_finds_119 : decode cX8_finds 119 = .ok (.iadd, 1) := by decide +kernel
theorem dX8_finds_120 : decode cX8_finds 120 = .ok (.aload_n 0, 1) := by decide +kernel
theorem dX8_finds_121 : decode cX8_finds 121 = .ok (.getfield 25, 3) := by decide +kernel
theorem dX8_finds_124 : decode cX8_finds 124 = .ok (.iload 4, 2) := by decide +kernel
theorem dX8_finds_126 : decode cX8_finds 126 = .ok (.bipush 121, 2) := by decide +kernel
theorem dX8_finds_128 : decode cX8_finds 128 = .ok (.isub, 1) := by decide +kernel
theorem dX8_finds_129 : decode cX8_finds 129 = .ok (.iaload, 1) := by decide +kernel
theorem dX8_finds_130 : decode cX8_finds 130 = .ok (.invokevirtual 63, 3) := by decide +kernel
theorem dX8_finds_133 : decode cX8_finds 133 = .ok (.iload_n 2, 1) := by decide +kernel
theorem dX8_finds_134 : decode cX8_finds 134 = .ok (.ifCond .le 57, 3) := by decide +kernel
theorem dX8_finds_137 : decode cX8_finds 137 = .ok (.iload_n 3, 1) := by decide +kernel
theorem dX8_finds_138 : decode cX8_finds 138 = .ok (.ifCond .le 53, 3) := by decide +kernel
theorem dX8_finds_141 : decode cX8_finds 141 = .ok (.aload_n 0, 1) := by decide +kernel
theorem dX8_finds_142 : decode cX8_finds 142 = .ok (.iload 4, 2) := by decide +kernel
theorem dX8_finds_144 : decode cX8_finds 144 = .ok (.aload_n 0, 1) := by decide +kernel
theorem dX8_finds_145 : decode cX8_finds 145 = .ok (.getfield 22, 3) := by decide +kernel
theorem dX8_finds_148 : decode cX8_finds 148 = .ok (.iload 4, 2) := by decide +kernel
theorem dX8_finds_150 : decode cX8_finds 150 = .ok (.bipush 121, 2) := by decide +kernel
theorem dX8_finds_152 : decode cX8_finds 152 = .ok (.isub, 1) := by decide +kernel
theorem dX8_finds_153 : decode cX8_finds 153 = .ok (.iconst 1, 1) := by decide +kernel
theorem dX8_finds_154 : decode cX8_finds 154 = .ok (.isub, 1) := by decide +kernel
theorem dX8_finds_155 : decode cX8_finds 155 = .ok (.iaload, 1) := by decide +kernel
theorem dX8_finds_156 : decode cX8_finds 156 = .ok (.aload_n 0, 1) := by decide +kernel
theorem dX8_finds_157 : decode cX8_finds 157 = .ok (.iload_n 1, 1) := by decide +kernel
theorem dX8_finds_158 : decode cX8_finds 158 = .ok (.iload_n 2, 1) := by decide +kernel
theorem dX8_finds_159 : decode cX8_finds 159 = .ok (.iconst 1, 1) := by decide +kernel
theorem dX8_finds_160 : decode cX8_finds 160 = .ok (.isub, 1) := by decide +kernel
theorem dX8_finds_161 : decode cX8_finds 161 = .ok (.iload_n 3, 1) := by decide +kernel
theorem dX8_finds_162 : decode cX8_finds 162 = .ok (.iconst 1, 1) := by decide +kernel
theorem dX8_finds_163 : decode cX8_finds 163 = .ok (.isub, 1) := by decide +kernel
theorem dX8_finds_164 : decode cX8_finds 164 = .ok (.invokevirtual 67, 3) := by decide +kernel
theorem dX8_finds_167 : decode cX8_finds 167 = .ok (.ifCond .eq 7, 3) := by decide +kernel
theorem dX8_finds_170 : decode cX8_finds 170 = .ok (.iconst 0, 1) := by decide +kernel
theorem dX8_finds_171 : decode cX8_finds 171 = .ok (.goto 4, 3) := by decide +kernel
theorem dX8_finds_174 : decode cX8_finds 174 = .ok (.iconst 1, 1) := by decide +kernel
theorem dX8_finds_175 : decode cX8_finds 175 = .ok (.iadd, 1) := by decide +kernel
theorem dX8_finds_176 : decode cX8_finds 176 = .ok (.aload_n 0, 1) := by decide +kernel
theorem dX8_finds_177 : decode cX8_finds 177 = .ok (.getfield 25, 3) := by decide +kernel
theorem dX8_finds_180 : decode cX8_finds 180 = .ok (.iload 4, 2) := by decide +kernel
theorem dX8_finds_182 : decode cX8_finds 182 = .ok (.bipush 121, 2) := by decide +kernel
theorem dX8_finds_184 : decode cX8_finds 184 = .ok (.isub, 1) := by decide +kernel
theorem dX8_finds_185 : decode cX8_finds 185 = .ok (.iconst 1, 1) := by decide +kernel
theorem dX8_finds_186 : decode cX8_finds 186 = .ok (.isub, 1) := by decide +kernel
theorem dX8_finds_187 : decode cX8_finds 187 = .ok (.iaload, 1) := by decide +kernel
theorem dX8_finds_188 : decode cX8_finds 188 = .ok (.invokevirtual 63, 3) := by decide +kernel
theorem dX8_finds_191 : decode cX8_finds 191 = .ok (.iinc 3 1, 3) := by decide +kernel
theorem dX8_finds_194 : decode cX8_finds 194 = .ok (.goto (-181), 3) := by decide +kernel
theorem dX8_finds_197 : decode cX8_finds 197 = .ok (.iinc 2 1, 3) := by decide +kernel
theorem dX8_finds_200 : decode cX8_finds 200 = .ok (.goto (-198), 3) := by decide +kernel
theorem dX8_finds_203 : decode cX8_finds 203 = .ok (.return_, 1) := by decide +kernel
set_option maxRecDepth 20000 in
theorem ggX8_findsEnds_X8_finds : GoodIn wsX8_findsEnds wsX8_finds := goodIn_r _ [10, 2, 3, 4, 11, 12, 13, 9, 14, 15, 16, 17, 18, 19, 20, 21, 22, 23, 24, 25, 26, 27, 28, 29, 30, 31, 32, 33, 34, 35, 36, 37, 38, 39, 40, 41, 42, 43, 44, 45, 46, 47, 48, 49, 50, 51] (by decide +kernel) (by decide +kernel)
set_option maxRecDepth 20000 in
theorem gX8_findsEnds_X8_finds : GoodIn wsX8_findsEnds (wsV RX8 71 RX8 yX8_finds wsX8_finds) := goodIn_app (goodIn_of _ (by decide +kernel)) ggX8_findsEnds_X8_finds
set_option maxRecDepth 20000 in
theorem ggX8_findsEnds_X8_places : GoodIn wsX8_findsEnds wsX8_places := goodIn_r _ [14, 2, 31, 32, 33, 34, 35, 36, 37, 38, 39, 40, 41, 42, 43, 44, 45, 46, 47, 48, 49, 50, 51] (by decide +kernel) (by decide +kernel)
set_option maxRecDepth 20000 in
theorem gX8_findsEnds_X8_places : GoodIn wsX8_findsEnds (wsV RX8 55 RX8 yX8_places wsX8_places) := goodIn_app (goodIn_of _ (by decide +kernel)) ggX8_findsEnds_X8_places
theorem dX8_findsEnds_0 : decode cX8_findsEnds 0 = .ok (.aload_n 0, 1) := by decide +kernel
theorem dX8_findsEnds_1 : decode cX8_findsEnds 1 = .ok (.iload_n 1, 1) := by decide +kernel
theorem dX8_findsEnds_2 : decode cX8_findsEnds 2 = .ok (.invokevirtual 71, 3) := by decide +kernel
theorem dX8_findsEnds_5 : decode cX8_findsEnds 5 = .ok (.aload_n 0, 1) := by decide +kernel
theorem dX8_findsEnds_6 : decode cX8_findsEnds 6 = .ok (.iconst 0, 1) := by decide +kernel
theorem dX8_findsEnds_7 : decode cX8_findsEnds 7 = .ok (.putfield 75, 3) := by decide +kernel
theorem dX8_findsEnds_10 : decode cX8_findsEnds 10 = .ok (.bipush 121, 2) := by decide +kernel
theorem dX8_findsEnds_12 : decode cX8_findsEnds 12 = .ok (.aload_n 0, 1) := by decide +kernel
theorem dX8_findsEnds_13 : decode cX8_findsEnds 13 = .ok (.iload_n 1, 1) := by decide +kernel
theorem dX8_findsEnds_14 : decode cX8_findsEnds 14 = .ok (.invokevirtual 55, 3) := by decide +kernel
theorem dX8_findsEnds_17 : decode cX8_findsEnds 17 = .ok (.imul, 1) := by decide +kernel
theorem dX8_findsEnds_18 : decode cX8_findsEnds 18 = .ok (.istore_n 3, 1) := by decide +kernel
theorem dX8_findsEnds_19 : decode cX8_findsEnds 19 = .ok (.iconst 0, 1) := by decide +kernel
theorem dX8_findsEnds_20 : decode cX8_findsEnds 20 = .ok (.istore 4, 2) := by decide +kernel
theorem dX8_findsEnds_22 : decode cX8_findsEnds 22 = .ok (.iload 4, 2) := by decide +kernel
theorem dX8_findsEnds_24 : decode cX8_findsEnds 24 = .ok (.aload_n 0, 1) := by decide +kernel
theorem dX8_findsEnds_25 : decode cX8_findsEnds 25 = .ok (.getfield 7, 3) := by decide +kernel
theorem dX8_findsEnds_28 : decode cX8_findsEnds 28 = .ok (.iconst 0, 1) := by decide +kernel
theorem dX8_findsEnds_29 : decode cX8_findsEnds 29 = .ok (.iaload, 1) := by decide +kernel
theorem dX8_findsEnds_30 : decode cX8_findsEnds 30 = .ok (.if_icmp .gt 94, 3) := by decide +kernel
theorem dX8_findsEnds_33 : decode cX8_findsEnds 33 = .ok (.aload_n 0, 1) := by decide +kernel
theorem dX8_findsEnds_34 : decode cX8_findsEnds 34 = .ok (.getfield 22, 3) := by decide +kernel
theorem dX8_findsEnds_37 : decode cX8_findsEnds 37 = .ok (.iload_n 3, 1) := by decide +kernel
theorem dX8_findsEnds_38 : decode cX8_findsEnds 38 = .ok (.iload 4, 2) := by decide +kernel
theorem dX8_findsEnds_40 : decode cX8_findsEnds 40 = .ok (.iadd, 1) := by decide +kernel
theorem dX8_findsEnds_41 : decode cX8_findsEnds 41 = .ok (.iaload, 1) := by decide +kernel
theorem dX8_findsEnds_42 : decode cX8_findsEnds 42 = .ok (.aload_n 0, 1) := by decide +kernel
theorem dX8_findsEnds_43 : decode cX8_findsEnds 43 = .ok (.getfield 7, 3) := by decide +kernel
theorem dX8_findsEnds_46 : decode cX8_findsEnds 46 = .ok (.iconst 2, 1) := by decide +kernel
theorem dX8_findsEnds_47 : decode cX8_findsEnds 47 = .ok (.iaload, 1) := by decide +kernel
theorem dX8_findsEnds_48 : decode cX8_findsEnds 48 = .ok (.if_icmp .gt 7, 3) := by decide +kernel
theorem dX8_findsEnds_51 : decode cX8_findsEnds 51 = .ok (.iconst 1, 1) := by decide +kernel
theorem dX8_findsEnds_52 : decode cX8_findsEnds 52 = .ok (.goto 4, 3) := by decide +kernel
theorem dX8_findsEnds_55 : decode cX8_findsEnds 55 = .ok (.iconst 0, 1) := by decide +kernel
theorem dX8_findsEnds_56 : decode cX8_findsEnds 56 = .ok (.istore 5, 2) := by decide +kernel
theorem dX8_findsEnds_58 : decode cX8_findsEnds 58 = .ok (.iload 5, 2) := by decide +kernel
theorem dX8_findsEnds_60 : decode cX8_findsEnds 60 = .ok (.ifCond .eq 58, 3) := by decide +kernel
theorem dX8_findsEnds_63 : decode cX8_findsEnds 63 = .ok (.iload_n 2, 1) := by decide +kernel
theorem dX8_findsEnds_64 : decode cX8_findsEnds 64 = .ok (.ifCond .eq 33, 3) := by decide +kernel
theorem dX8_findsEnds_67 : decode cX8_findsEnds 67 = .ok (.aload_n 0, 1) := by decide +kernel
theorem dX8_findsEnds_68 : decode cX8_findsEnds 68 = .ok (.getfield 75, 3) := by decide +kernel
theorem dX8_findsEnds_71 : decode cX8_findsEnds 71 = .ok (.ifCond .eq 26, 3) := by decide +kernel
theorem dX8_findsEnds_74 : decode cX8_findsEnds 74 = .ok (.aload_n 0, 1) := by decide +kernel
theorem dX8_findsEnds_75 : decode cX8_findsEnds 75 = .ok (.getfield 25, 3) := by decide +kernel
theorem dX8_findsEnds_78 : decode cX8_findsEnds 78 = .ok (.iload_n 3, 1) := by decide +kernel
theorem dX8_findsEnds_79 : decode cX8_findsEnds 79 = .ok (.iload 4, 2) := by decide +kernel
theorem dX8_findsEnds_81 : decode cX8_findsEnds 81 = .ok (.iadd, 1) := by decide +kernel
theorem dX8_findsEnds_82 : decode cX8_findsEnds 82 = .ok (.iaload, 1) := by decide +kernel
theorem dX8_findsEnds_83 : decode cX8_findsEnds 83 = .ok (.aload_n 0, 1) := by decide +kernel
theorem dX8_findsEnds_84 : decode cX8_findsEnds 84 = .ok (.getfield 28, 3) := by decide +kernel
theorem dX8_findsEnds_87 : decode cX8_findsEnds 87 = .ok (.aload_n 0, 1) := by decide +kernel
theorem dX8_findsEnds_88 : decode cX8_findsEnds 88 = .ok (.getfield 75, 3) := by decide +kernel
theorem dX8_findsEnds_91 : decode cX8_findsEnds 91 = .ok (.iconst 1, 1) := by decide +kernel
theorem dX8_findsEnds_92 : decode cX8_findsEnds 92 = .ok (.isub, 1) := by decide +kernel
theorem dX8_findsEnds_93 : decode cX8_findsEnds 93 = .ok (.iaload, 1) := by decide +kernel
theorem dX8_findsEnds_94 : decode cX8_findsEnds 94 = .ok (.if_icmp .lt 24, 3) := by decide +kernel
theorem dX8_findsEnds_97 : decode cX8_findsEnds 97 = .ok (.aload_n 0, 1) := by decide +kernel
theorem dX8_findsEnds_98 : decode cX8_findsEnds 98 = .ok (.getfield 28, 3) := by decide +kernel
theorem dX8_findsEnds_101 : decode cX8_findsEnds 101 = .ok (.aload_n 0, 1) := by decide +kernel
theorem dX8_findsEnds_102 : decode cX8_findsEnds 102 = .ok (.getfield 75, 3) := by decide +kernel
theorem dX8_findsEnds_105 : decode cX8_findsEnds 105 = .ok (.iload 4, 2) := by decide +kernel
theorem dX8_findsEnds_107 : decode cX8_findsEnds 107 = .ok (.iastore, 1) := by decide +kernel
theorem dX8_findsEnds_108 : decode cX8_findsEnds 108 = .ok (.aload_n 0, 1) := by decide +kernel
theorem dX8_findsEnds_109 : decode cX8_findsEnds 109 = .ok (.dup, 1) := by decide +kernel
theorem dX8_findsEnds_110 : decode cX8_findsEnds 110 = .ok (.getfield 75, 3) := by decide +kernel
theorem dX8_findsEnds_113 : decode cX8_findsEnds 113 = .ok (.iconst 1, 1) := by decide +kernel
theorem dX8_findsEnds_114 : decode cX8_findsEnds 114 = .ok (.iadd, 1) := by decide +kernel
theorem dX8_findsEnds_115 : decode cX8_findsEnds 115 = .ok (.putfield 75, 3) := by decide +kernel
theorem dX8_findsEnds_118 : decode cX8_findsEnds 118 = .ok (.iinc 4 1, 3) := by decide +kernel
theorem dX8_findsEnds_121 : decode cX8_findsEnds 121 = .ok (.goto (-99), 3) := by decide +kernel
theorem dX8_findsEnds_124 : decode cX8_findsEnds 124 = .ok (.return_, 1) := by decide +kernel
set_option maxRecDepth 20000 in
theorem ggX8_slipsOf_X8_places : GoodIn wsX8_slipsOf wsX8_places := goodIn_r _ [7, 8, 9, 10, 11, 12, 13, 14, 15, 16, 17, 18, 19, 20, 21, 22, 23, 24, 25, 26, 27, 28, 29] (by decide +kernel) (by decide +kernel)
set_option maxRecDepth 20000 in
theorem gX8_slipsOf_X8_places : GoodIn wsX8_slipsOf (wsV RX8 55 RX8 yX8_places wsX8_places) := goodIn_app (goodIn_of _ (by decide +kernel)) ggX8_slipsOf_X8_places
theorem dX8_slipsOf_0 : decode cX8_slipsOf 0 = .ok (.aload_n 0, 1) := by decide +kernel
theorem dX8_slipsOf_1 : decode cX8_slipsOf 1 = .ok (.getfield 22, 3) := by decide +kernel
theorem dX8_slipsOf_4 : decode cX8_slipsOf 4 = .ok (.bipush 121, 2) := by decide +kernel
theorem dX8_slipsOf_6 : decode cX8_slipsOf 6 = .ok (.aload_n 0, 1) := by decide +kernel
theorem dX8_slipsOf_7 : decode cX8_slipsOf 7 = .ok (.iload_n 1, 1) := by decide +kernel
theorem dX8_slipsOf_8 : decode cX8_slipsOf 8 = .ok (.invokevirtual 55, 3) := by decide +kernel
theorem dX8_slipsOf_11 : decode cX8_slipsOf 11 = .ok (.imul, 1) := by decide +kernel
theorem dX8_slipsOf_12 : decode cX8_slipsOf 12 = .ok (.aload_n 0, 1) := by decide +kernel
theorem dX8_slipsOf_13 : decode cX8_slipsOf 13 = .ok (.getfield 28, 3) := by decide +kernel
theorem dX8_slipsOf_16 : decode cX8_slipsOf 16 = .ok (.iload_n 2, 1) := by decide +kernel
theorem dX8_slipsOf_17 : decode cX8_slipsOf 17 = .ok (.iaload, 1) := by decide +kernel
theorem dX8_slipsOf_18 : decode cX8_slipsOf 18 = .ok (.iadd, 1) := by decide +kernel
theorem dX8_slipsOf_19 : decode cX8_slipsOf 19 = .ok (.iaload, 1) := by decide +kernel
theorem dX8_slipsOf_20 : decode cX8_slipsOf 20 = .ok (.ireturn, 1) := by decide +kernel
set_option maxRecDepth 20000 in
theorem ggX8_beginOf_X8_places : GoodIn wsX8_beginOf wsX8_places := goodIn_r _ [7, 8, 9, 10, 11, 12, 13, 14, 15, 16, 17, 18, 19, 20, 21, 22, 23, 24, 25, 26, 27, 28, 29] (by decide +kernel) (by decide +kernel)
set_option maxRecDepth 20000 in
theorem gX8_beginOf_X8_places : GoodIn wsX8_beginOf (wsV RX8 55 RX8 yX8_places wsX8_places) := goodIn_app (goodIn_of _ (by decide +kernel)) ggX8_beginOf_X8_places
theorem dX8_beginOf_0 : decode cX8_beginOf 0 = .ok (.aload_n 0, 1) := by decide +kernel
theorem dX8_beginOf_1 : decode cX8_beginOf 1 = .ok (.getfield 25, 3) := by decide +kernel
theorem dX8_beginOf_4 : decode cX8_beginOf 4 = .ok (.bipush 121, 2) := by decide +kernel
theorem dX8_beginOf_6 : decode cX8_beginOf 6 = .ok (.aload_n 0, 1) := by decide +kernel
theorem dX8_beginOf_7 : decode cX8_beginOf 7 = .ok (.iload_n 1, 1) := by decide +kernel
theorem dX8_beginOf_8 : decode cX8_beginOf 8 = .ok (.invokevirtual 55, 3) := by decide +kernel
theorem dX8_beginOf_11 : decode cX8_beginOf 11 = .ok (.imul, 1) := by decide +kernel
theorem dX8_beginOf_12 : decode cX8_beginOf 12 = .ok (.aload_n 0, 1) := by decide +kernel
theorem dX8_beginOf_13 : decode cX8_beginOf 13 = .ok (.getfield 28, 3) := by decide +kernel
theorem dX8_beginOf_16 : decode cX8_beginOf 16 = .ok (.iload_n 2, 1) := by decide +kernel
theorem dX8_beginOf_17 : decode cX8_beginOf 17 = .ok (.iaload, 1) := by decide +kernel
theorem dX8_beginOf_18 : decode cX8_beginOf 18 = .ok (.iadd, 1) := by decide +kernel
theorem dX8_beginOf_19 : decode cX8_beginOf 19 = .ok (.iaload, 1) := by decide +kernel
theorem dX8_beginOf_20 : decode cX8_beginOf 20 = .ok (.ireturn, 1) := by decide +kernel
set_option maxRecDepth 20000 in
theorem ggX8_coded_X8_in : GoodIn wsX8_coded wsX8_in := goodIn_r _ [6] (by decide +kernel) (by decide +kernel)
set_option maxRecDepth 20000 in
theorem gX8_coded_X8_in : GoodIn wsX8_coded (va_wsS RX8 47 yX8_in wsX8_in) := goodIn_app (goodIn_of _ (by decide +kernel)) ggX8_coded_X8_in
theorem dX8_coded_0 : decode cX8_coded 0 = .ok (.iload_n 0, 1) := by decide +kernel
theorem dX8_coded_1 : decode cX8_coded 1 = .ok (.bipush 32, 2) := by decide +kernel
theorem dX8_coded_3 : decode cX8_coded 3 = .ok (.if_icmp .ne 8, 3) := by decide +kernel
theorem dX8_coded_6 : decode cX8_coded 6 = .ok (.bipush 26, 2) := by decide +kernel
theorem dX8_coded_8 : decode cX8_coded 8 = .ok (.goto 26, 3) := by decide +kernel
theorem dX8_coded_11 : decode cX8_coded 11 = .ok (.iload_n 0, 1) := by decide +kernel
theorem dX8_coded_12 : decode cX8_coded 12 = .ok (.i2l, 1) := by decide +kernel
theorem dX8_coded_13 : decode cX8_coded 13 = .ok (.ldc2_w 78, 3) := by decide +kernel
theorem dX8_coded_16 : decode cX8_coded 16 = .ok (.ldc2_w 80, 3) := by decide +kernel
theorem dX8_coded_19 : decode cX8_coded 19 = .ok (.invokestatic 47, 3) := by decide +kernel
theorem dX8_coded_22 : decode cX8_coded 22 = .ok (.ifCond .eq 10, 3) := by decide +kernel
theorem dX8_coded_25 : decode cX8_coded 25 = .ok (.iload_n 0, 1) := by decide +kernel
theorem dX8_coded_26 : decode cX8_coded 26 = .ok (.bipush 97, 2) := by decide +kernel
theorem dX8_coded_28 : decode cX8_coded 28 = .ok (.isub, 1) := by decide +kernel
theorem dX8_coded_29 : decode cX8_coded 29 = .ok (.goto 5, 3) := by decide +kernel
theorem dX8_coded_32 : decode cX8_coded 32 = .ok (.bipush (-5), 2) := by decide +kernel
theorem dX8_coded_34 : decode cX8_coded 34 = .ok (.ireturn, 1) := by decide +kernel
theorem dX8_writes_0 : decode cX8_writes 0 = .ok (.aload_n 0, 1) := by decide +kernel
theorem dX8_writes_1 : decode cX8_writes 1 = .ok (.getfield 7, 3) := by decide +kernel
theorem dX8_writes_4 : decode cX8_writes 4 = .ok (.iconst 3, 1) := by decide +kernel
theorem dX8_writes_5 : decode cX8_writes 5 = .ok (.aload_n 0, 1) := by decide +kernel
theorem dX8_writes_6 : decode cX8_writes 6 = .ok (.getfield 7, 3) := by decide +kernel
theorem dX8_writes_9 : decode cX8_writes 9 = .ok (.iconst 0, 1) := by decide +kernel
theorem dX8_writes_10 : decode cX8_writes 10 = .ok (.iaload, 1) := by decide +kernel
theorem dX8_writes_11 : decode cX8_writes 11 = .ok (.iadd, 1) := by decide +kernel
theorem dX8_writes_12 : decode cX8_writes 12 = .ok (.iload_n 1, 1) := by decide +kernel
theorem dX8_writes_13 : decode cX8_writes 13 = .ok (.iastore, 1) := by decide +kernel
theorem dX8_writes_14 : decode cX8_writes 14 = .ok (.aload_n 0, 1) := by decide +kernel
theorem dX8_writes_15 : decode cX8_writes 15 = .ok (.getfield 7, 3) := by decide +kernel
theorem dX8_writes_18 : decode cX8_writes 18 = .ok (.iconst 0, 1) := by decide +kernel
theorem dX8_writes_19 : decode cX8_writes 19 = .ok (.dup2, 1) := by decide +kernel
theorem dX8_writes_20 : decode cX8_writes 20 = .ok (.iaload, 1) := by decide +kernel
theorem dX8_writes_21 : decode cX8_writes 21 = .ok (.iconst 1, 1) := by decide +kernel
theorem dX8_writes_22 : decode cX8_writes 22 = .ok (.iadd, 1) := by decide +kernel
theorem dX8_writes_23 : decode cX8_writes 23 = .ok (.iastore, 1) := by decide +kernel
theorem dX8_writes_24 : decode cX8_writes 24 = .ok (.return_, 1) := by decide +kernel
set_option maxRecDepth 20000 in
theorem ggX8_write_X8_coded : GoodIn wsX8_write wsX8_coded := goodIn_r _ [5, 6, 7, 8, 9, 4, 10] (by decide +kernel) (by decide +kernel)
set_option maxRecDepth 20000 in
theorem gX8_write_X8_coded : GoodIn wsX8_write (va_wsS RX8 82 yX8_coded wsX8_coded) := goodIn_app (goodIn_of _ (by decide +kernel)) ggX8_write_X8_coded
set_option maxRecDepth 20000 in
theorem ggX8_write_X8_remember : GoodIn wsX8_write wsX8_remember := goodIn_r _ [14, 15, 1, 26, 27, 28, 29, 30, 31, 32, 33, 34, 35, 36, 37, 38, 39, 40, 41, 42, 43, 44, 45, 46] (by decide +kernel) (by decide +kernel)
set_option maxRecDepth 20000 in
theorem gX8_write_X8_remember : GoodIn wsX8_write (wsV RX8 85 RX8 yX8_remember wsX8_remember) := goodIn_app (goodIn_of _ (by decide +kernel)) ggX8_write_X8_remember
set_option maxRecDepth 20000 in
theorem ggX8_write_X8_writes : GoodIn wsX8_write wsX8_writes := goodIn_r _ [19, 1, 26, 27, 28, 29, 30, 31, 32, 33, 34, 35, 36, 37, 38, 39, 40, 41, 42, 43, 44, 45, 46] (by decide +kernel) (by decide +kernel)
set_option maxRecDepth 20000 in
theorem gX8_write_X8_writes : GoodIn wsX8_write (wsV RX8 88 RX8 yX8_writes wsX8_writes) := goodIn_app (goodIn_of _ (by decide +kernel)) ggX8_write_X8_writes
set_option maxRecDepth 20000 in
theorem ggX8_write_X8_acted : GoodIn wsX8_write wsX8_acted := goodIn_r _ [23, 24, 25, 15, 26, 27, 28, 29, 30, 31, 32, 33, 34, 35, 36, 37, 38, 39, 40, 41, 42, 43, 44, 45, 46] (by decide +kernel) (by decide +kernel)
set_option maxRecDepth 20000 in
theorem gX8_write_X8_acted : GoodIn wsX8_write (wsV RX8 91 RX8 yX8_acted wsX8_acted) := goodIn_app (goodIn_of _ (by decide +kernel)) ggX8_write_X8_acted
theorem dX8_write_0 : decode cX8_write 0 = .ok (.iload_n 1, 1) := by decide +kernel
theorem dX8_write_1 : decode cX8_write 1 = .ok (.invokestatic 82, 3) := by decide +kernel
theorem dX8_write_4 : decode cX8_write 4 = .ok (.istore_n 2, 1) := by decide +kernel
theorem dX8_write_5 : decode cX8_write 5 = .ok (.iload_n 2, 1) := by decide +kernel
theorem dX8_write_6 : decode cX8_write 6 = .ok (.bipush (-5), 2) := by decide +kernel
theorem dX8_write_8 : decode cX8_write 8 = .ok (.if_icmp .ne 6, 3) := by decide +kernel
theorem dX8_write_11 : decode cX8_write 11 = .ok (.bipush (-2), 2) := by decide +kernel
theorem dX8_write_13 : decode cX8_write 13 = .ok (.ireturn, 1) := by decide +kernel
theorem dX8_write_14 : decode cX8_write 14 = .ok (.aload_n 0, 1) := by decide +kernel
theorem dX8_write_15 : decode cX8_write 15 = .ok (.getfield 7, 3) := by decide +kernel
theorem dX8_write_18 : decode cX8_write 18 = .ok (.iconst 0, 1) := by decide +kernel
theorem dX8_write_19 : decode cX8_write 19 = .ok (.iaload, 1) := by decide +kernel
theorem dX8_write_20 : decode cX8_write 20 = .ok (.bipush 120, 2) := by decide +kernel
theorem dX8_write_22 : decode cX8_write 22 = .ok (.if_icmp .ne 6, 3) := by decide +kernel
theorem dX8_write_25 : decode cX8_write 25 = .ok (.bipush (-3), 2) := by decide +kernel
theorem dX8_write_27 : decode cX8_write 27 = .ok (.ireturn, 1) := by decide +kernel
theorem dX8_write_28 : decode cX8_write 28 = .ok (.aload_n 0, 1) := by decide +kernel
theorem dX8_write_29 : decode cX8_write 29 = .ok (.invokevirtual 85, 3) := by decide +kernel
theorem dX8_write_32 : decode cX8_write 32 = .ok (.aload_n 0, 1) := by decide +kernel
theorem dX8_write_33 : decode cX8_write 33 = .ok (.iload_n 2, 1) := by decide +kernel
theorem dX8_write_34 : decode cX8_write 34 = .ok (.invokevirtual 88, 3) := by decide +kernel
theorem dX8_write_37 : decode cX8_write 37 = .ok (.aload_n 0, 1) := by decide +kernel
theorem dX8_write_38 : decode cX8_write 38 = .ok (.aload_n 0, 1) := by decide +kernel
theorem dX8_write_39 : decode cX8_write 39 = .ok (.getfield 7, 3) := by decide +kernel
theorem dX8_write_42 : decode cX8_write 42 = .ok (.iconst 0, 1) := by decide +kernel
theorem dX8_write_43 : decode cX8_write 43 = .ok (.iaload, 1) := by decide +kernel
theorem dX8_write_44 : decode cX8_write 44 = .ok (.invokevirtual 91, 3) := by decide +kernel
theorem dX8_write_47 : decode cX8_write 47 = .ok (.ireturn, 1) := by decide +kernel
set_option maxRecDepth 20000 in
theorem ggX8_writePad_X8_in : GoodIn wsX8_writePad wsX8_in := goodIn_r _ [9] (by decide +kernel) (by decide +kernel)
set_option maxRecDepth 20000 in
theorem gX8_writePad_X8_in : GoodIn wsX8_writePad (va_wsS RX8 47 yX8_in wsX8_in) := goodIn_app (goodIn_of _ (by decide +kernel)) ggX8_writePad_X8_in
set_option maxRecDepth 20000 in
theorem ggX8_writePad_X8_remember : GoodIn wsX8_writePad wsX8_remember := goodIn_r _ [13, 14, 5, 25, 26, 27, 28, 29, 30, 31, 32, 33, 34, 35, 36, 37, 38, 39, 40, 41, 42, 43, 44, 45] (by decide +kernel) (by decide +kernel)
set_option maxRecDepth 20000 in
theorem gX8_writePad_X8_remember : GoodIn wsX8_writePad (wsV RX8 85 RX8 yX8_remember wsX8_remember) := goodIn_app (goodIn_of _ (by decide +kernel)) ggX8_writePad_X8_remember
set_option maxRecDepth 20000 in
theorem ggX8_writePad_X8_writes : GoodIn wsX8_writePad wsX8_writes := goodIn_r _ [18, 5, 25, 26, 27, 28, 29, 30, 31, 32, 33, 34, 35, 36, 37, 38, 39, 40, 41, 42, 43, 44, 45] (by decide +kernel) (by decide +kernel)
set_option maxRecDepth 20000 in
theorem gX8_writePad_X8_writes : GoodIn wsX8_writePad (wsV RX8 88 RX8 yX8_writes wsX8_writes) := goodIn_app (goodIn_of _ (by decide +kernel)) ggX8_writePad_X8_writes
set_option maxRecDepth 20000 in
theorem ggX8_writePad_X8_acted : GoodIn wsX8_writePad wsX8_acted := goodIn_r _ [22, 23, 24, 14, 25, 26, 27, 28, 29, 30, 31, 32, 33, 34, 35, 36, 37, 38, 39, 40, 41, 42, 43, 44, 45] (by decide +kernel) (by decide +kernel)
set_option maxRecDepth 20000 in
theorem gX8_writePad_X8_acted : GoodIn wsX8_writePad (wsV RX8 91 RX8 yX8_acted wsX8_acted) := goodIn_app (goodIn_of _ (by decide +kernel)) ggX8_writePad_X8_acted
theorem dX8_writePad_0 : decode cX8_writePad 0 = .ok (.aload_n 0, 1) := by decide +kernel
theorem dX8_writePad_1 : decode cX8_writePad 1 = .ok (.getfield 94, 3) := by decide +kernel
theorem dX8_writePad_4 : decode cX8_writePad 4 = .ok (.ifCond .le 7, 3) := by decide +kernel
theorem dX8_writePad_7 : decode cX8_writePad 7 = .ok (.iconst 1, 1) := by decide +kernel
theorem dX8_writePad_8 : decode cX8_writePad 8 = .ok (.goto 4, 3) := by decide +kernel
theorem dX8_writePad_11 : decode cX8_writePad 11 = .ok (.iconst 0, 1) := by decide +kernel
theorem dX8_writePad_12 : decode cX8_writePad 12 = .ok (.istore_n 1, 1) := by decide +kernel
theorem dX8_writePad_13 : decode cX8_writePad 13 = .ok (.iconst 0, 1) := by decide +kernel
theorem dX8_writePad_14 : decode cX8_writePad 14 = .ok (.istore_n 2, 1) := by decide +kernel
theorem dX8_writePad_15 : decode cX8_writePad 15 = .ok (.iload_n 2, 1) := by decide +kernel
theorem dX8_writePad_16 : decode cX8_writePad 16 = .ok (.aload_n 0, 1) := by decide +kernel
theorem dX8_writePad_17 : decode cX8_writePad 17 = .ok (.getfield 94, 3) := by decide +kernel
theorem dX8_writePad_20 : decode cX8_writePad 20 = .ok (.if_icmp .ge 49, 3) := by decide +kernel
theorem dX8_writePad_23 : decode cX8_writePad 23 = .ok (.iload_n 1, 1) := by decide +kernel
theorem dX8_writePad_24 : decode cX8_writePad 24 = .ok (.ifCond .eq 37, 3) := by decide +kernel
theorem dX8_writePad_27 : decode cX8_writePad 27 = .ok (.aload_n 0, 1) := by decide +kernel
theorem dX8_writePad_28 : decode cX8_writePad 28 = .ok (.getfield 31, 3) := by decide +kernel
theorem dX8_writePad_31 : decode cX8_writePad 31 = .ok (.iload_n 2, 1) := by decide +kernel
theorem dX8_writePad_32 : decode cX8_writePad 32 = .ok (.iaload, 1) := by decide +kernel
theorem dX8_writePad_33 : decode cX8_writePad 33 = .ok (.bipush 95, 2) := by decide +kernel
theorem dX8_writePad_35 : decode cX8_writePad 35 = .ok (.if_icmp .eq 22, 3) := by decide +kernel
theorem dX8_writePad_38 : decode cX8_writePad 38 = .ok (.aload_n 0, 1) := by decide +kernel
theorem dX8_writePad_39 : decode cX8_writePad 39 = .ok (.getfield 31, 3) := by decide +kernel
theorem dX8_writePad_42 : decode cX8_writePad 42 = .ok (.iload_n 2, 1) := by decide +kernel
theorem dX8_writePad_43 : decode cX8_writePad 43 = .ok (.iaload, 1) := by decide +kernel
theorem dX8_writePad_44 : decode cX8_writePad 44 = .ok (.i2l, 1) := by decide +kernel
theorem dX8_writePad_45 : decode cX8_writePad 45 = .ok (.ldc2_w 78, 3) := by decide +kernel
theorem dX8_writePad_48 : decode cX8_writePad 48 = .ok (.ldc2_w 80, 3) := by decide +kernel
theorem dX8_writePad_51 : decode cX8_writePad 51 = .ok (.invokestatic 47, 3) := by decide +kernel
theorem dX8_writePad_54 : decode cX8_writePad 54 = .ok (.ifCond .eq 7, 3) := by decide +kernel
theorem dX8_writePad_57 : decode cX8_writePad 57 = .ok (.iconst 1, 1) := by decide +kernel
theorem dX8_writePad_58 : decode cX8_writePad 58 = .ok (.goto 4, 3) := by decide +kernel
theorem dX8_writePad_61 : decode cX8_writePad 61 = .ok (.iconst 0, 1) := by decide +kernel
theorem dX8_writePad_62 : decode cX8_writePad 62 = .ok (.istore_n 1, 1) := by decide +kernel
theorem dX8_writePad_63 : decode cX8_writePad 63 = .ok (.iinc 2 1, 3) := by decide +kernel
theorem dX8_writePad_66 : decode cX8_writePad 66 = .ok (.goto (-51), 3) := by decide +kernel
theorem dX8_writePad_69 : decode cX8_writePad 69 = .ok (.iload_n 1, 1) := by decide +kernel
theorem dX8_writePad_70 : decode cX8_writePad 70 = .ok (.ifCond .ne 6, 3) := by decide +kernel
theorem dX8_writePad_73 : decode cX8_writePad 73 = .ok (.bipush (-2), 2) := by decide +kernel
theorem dX8_writePad_75 : decode cX8_writePad 75 = .ok (.ireturn, 1) := by decide +kernel
theorem dX8_writePad_76 : decode cX8_writePad 76 = .ok (.aload_n 0, 1) := by decide +kernel
theorem dX8_writePad_77 : decode cX8_writePad 77 = .ok (.getfield 7, 3) := by decide +kernel
theorem dX8_writePad_80 : decode cX8_writePad 80 = .ok (.iconst 0, 1) := by decide +kernel
theorem dX8_writePad_81 : decode cX8_writePad 81 = .ok (.iaload, 1) := by decide +kernel
theorem dX8_writePad_82 : decode cX8_writePad 82 = .ok (.aload_n 0, 1) := by decide +kernel
theorem dX8_writePad_83 : decode cX8_writePad 83 = .ok (.getfield 94, 3) := by decide +kernel
theorem dX8_writePad_86 : decode cX8_writePad 86 = .ok (.iadd, 1) := by decide +kernel
theorem dX8_writePad_87 : decode cX8_writePad 87 = .ok (.bipush 120, 2) := by decide +kernel
theorem dX8_writePad_89 : decode cX8_writePad 89 = .ok (.if_icmp .le 6, 3) := by decide +kernel
theorem dX8_writePad_92 : decode cX8_writePad 92 = .ok (.bipush (-3), 2) := by decide +kernel
theorem dX8_writePad_94 : decode cX8_writePad 94 = .ok (.ireturn, 1) := by decide +kernel
theorem dX8_writePad_95 : decode cX8_writePad 95 = .ok (.aload_n 0, 1) := by decide +kernel
theorem dX8_writePad_96 : decode cX8_writePad 96 = .ok (.invokevirtual 85, 3) := by decide +kernel
theorem dX8_writePad_99 : decode cX8_writePad 99 = .ok (.iconst 0, 1) := by decide +kernel
theorem dX8_writePad_100 : decode cX8_writePad 100 = .ok (.istore_n 2, 1) := by decide +kernel
theorem dX8_writePad_101 : decode cX8_writePad 101 = .ok (.iload_n 2, 1) := by decide +kernel
theorem dX8_writePad_102 : decode cX8_writePad 102 = .ok (.aload_n 0, 1) := by decide +kernel
theorem dX8_writePad_103 : decode cX8_writePad 103 = .ok (.getfield 94, 3) := by decide +kernel
theorem dX8_writePad_106 : decode cX8_writePad 106 = .ok (.if_icmp .ge 38, 3) := by decide +kernel
theorem dX8_writePad_109 : decode cX8_writePad 109 = .ok (.aload_n 0, 1) := by decide +kernel
theorem dX8_writePad_110 : decode cX8_writePad 110 = .ok (.aload_n 0, 1) := by decide +kernel
theorem dX8_writePad_111 : decode cX8_writePad 111 = .ok (.getfield 31, 3) := by decide +kernel
theorem dX8_writePad_114 : decode cX8_writePad 114 = .ok (.iload_n 2, 1) := by decide +kernel
theorem dX8_writePad_115 : decode cX8_writePad 115 = .ok (.iaload, 1) := by decide +kernel
theorem dX8_writePad_116 : decode cX8_writePad 116 = .ok (.bipush 95, 2) := by decide +kernel
theorem dX8_writePad_118 : decode cX8_writePad 118 = .ok (.if_icmp .ne 8, 3) := by decide +kernel
theorem dX8_writePad_121 : decode cX8_writePad 121 = .ok (.bipush 26, 2) := by decide +kernel
theorem dX8_writePad_123 : decode cX8_writePad 123 = .ok (.goto 12, 3) := by decide +kernel
theorem dX8_writePad_126 : decode cX8_writePad 126 = .ok (.aload_n 0, 1) := by decide +kernel
theorem dX8_writePad_127 : decode cX8_writePad 127 = .ok (.getfield 31, 3) := by decide +kernel
theorem dX8_writePad_130 : decode cX8_writePad 130 = .ok (.iload_n 2, 1) := by decide +kernel
theorem dX8_writePad_131 : decode cX8_writePad 131 = .ok (.iaload, 1) := by decide +kernel
theorem dX8_writePad_132 : decode cX8_writePad 132 = .ok (.bipush 97, 2) := by decide +kernel
theorem dX8_writePad_134 : decode cX8_writePad 134 = .ok (.isub, 1) := by decide +kernel
theorem dX8_writePad_135 : decode cX8_writePad 135 = .ok (.invokevirtual 88, 3) := by decide +kernel
theorem dX8_writePad_138 : decode cX8_writePad 138 = .ok (.iinc 2 1, 3) := by decide +kernel
theorem dX8_writePad_141 : decode cX8_writePad 141 = .ok (.goto (-40), 3) := by decide +kernel
theorem dX8_writePad_144 : decode cX8_writePad 144 = .ok (.aload_n 0, 1) := by decide +kernel
theorem dX8_writePad_145 : decode cX8_writePad 145 = .ok (.aload_n 0, 1) := by decide +kernel
theorem dX8_writePad_146 : decode cX8_writePad 146 = .ok (.getfield 7, 3) := by decide +kernel
theorem dX8_writePad_149 : decode cX8_writePad 149 = .ok (.iconst 0, 1) := by decide +kernel
theorem dX8_writePad_150 : decode cX8_writePad 150 = .ok (.iaload, 1) := by decide +kernel
theorem dX8_writePad_151 : decode cX8_writePad 151 = .ok (.invokevirtual 91, 3) := by decide +kernel
theorem dX8_writePad_154 : decode cX8_writePad 154 = .ok (.ireturn, 1) := by decide +kernel
set_option maxRecDepth 20000 in
theorem ggX8_cut_X8_in : GoodIn wsX8_cut wsX8_in := goodIn_r _ [6] (by decide +kernel) (by decide +kernel)
set_option maxRecDepth 20000 in
theorem gX8_cut_X8_in : GoodIn wsX8_cut (va_wsS RX8 47 yX8_in wsX8_in) := goodIn_app (goodIn_of _ (by decide +kernel)) ggX8_cut_X8_in
set_option maxRecDepth 20000 in
theorem ggX8_cut_X8_remember : GoodIn wsX8_cut wsX8_remember := goodIn_r _ [10, 11, 2, 18, 19, 20, 21, 22, 23, 24, 25, 26, 27, 28, 29, 30, 31, 32, 33, 34, 35, 36, 37, 38] (by decide +kernel) (by decide +kernel)
set_option maxRecDepth 20000 in
theorem gX8_cut_X8_remember : GoodIn wsX8_cut (wsV RX8 85 RX8 yX8_remember wsX8_remember) := goodIn_app (goodIn_of _ (by decide +kernel)) ggX8_cut_X8_remember
set_option maxRecDepth 20000 in
theorem ggX8_cut_X8_acted : GoodIn wsX8_cut wsX8_acted := goodIn_r _ [15, 16, 17, 11, 18, 19, 20, 21, 22, 23, 24, 25, 26, 27, 28, 29, 30, 31, 32, 33, 34, 35, 36, 37, 38] (by decide +kernel) (by decide +kernel)
set_option maxRecDepth 20000 in
theorem gX8_cut_X8_acted : GoodIn wsX8_cut (wsV RX8 91 RX8 yX8_acted wsX8_acted) := goodIn_app (goodIn_of _ (by decide +kernel)) ggX8_cut_X8_acted
theorem dX8_cut_0 : decode cX8_cut 0 = .ok (.iload_n 1, 1) := by decide +kernel
theorem dX8_cut_1 : decode cX8_cut 1 = .ok (.i2l, 1) := by decide +kernel
theorem dX8_cut_2 : decode cX8_cut 2 = .ok (.lconst 1, 1) := by decide +kernel
theorem dX8_cut_3 : decode cX8_cut 3 = .ok (.ldc2_w 97, 3) := by decide +kernel
theorem dX8_cut_6 : decode cX8_cut 6 = .ok (.invokestatic 47, 3) := by decide +kernel
theorem dX8_cut_9 : decode cX8_cut 9 = .ok (.ifCond .ne 6, 3) := by decide +kernel
theorem dX8_cut_12 : decode cX8_cut 12 = .ok (.bipush (-2), 2) := by decide +kernel
theorem dX8_cut_14 : decode cX8_cut 14 = .ok (.ireturn, 1) := by decide +kernel
theorem dX8_cut_15 : decode cX8_cut 15 = .ok (.iload_n 1, 1) := by decide +kernel
theorem dX8_cut_16 : decode cX8_cut 16 = .ok (.aload_n 0, 1) := by decide +kernel
theorem dX8_cut_17 : decode cX8_cut 17 = .ok (.getfield 7, 3) := by decide +kernel
theorem dX8_cut_20 : decode cX8_cut 20 = .ok (.iconst 0, 1) := by decide +kernel
theorem dX8_cut_21 : decode cX8_cut 21 = .ok (.iaload, 1) := by decide +kernel
theorem dX8_cut_22 : decode cX8_cut 22 = .ok (.if_icmp .le 6, 3) := by decide +kernel
theorem dX8_cut_25 : decode cX8_cut 25 = .ok (.bipush (-4), 2) := by decide +kernel
theorem dX8_cut_27 : decode cX8_cut 27 = .ok (.ireturn, 1) := by decide +kernel
theorem dX8_cut_28 : decode cX8_cut 28 = .ok (.aload_n 0, 1) := by decide +kernel
theorem dX8_cut_29 : decode cX8_cut 29 = .ok (.invokevirtual 85, 3) := by decide +kernel
theorem dX8_cut_32 : decode cX8_cut 32 = .ok (.aload_n 0, 1) := by decide +kernel
theorem dX8_cut_33 : decode cX8_cut 33 = .ok (.getfield 7, 3) := by decide +kernel
theorem dX8_cut_36 : decode cX8_cut 36 = .ok (.iconst 0, 1) := by decide +kernel
theorem dX8_cut_37 : decode cX8_cut 37 = .ok (.dup2, 1) := by decide +kernel
theorem dX8_cut_38 : decode cX8_cut 38 = .ok (.iaload, 1) := by decide +kernel
theorem dX8_cut_39 : decode cX8_cut 39 = .ok (.iload_n 1, 1) := by decide +kernel
theorem dX8_cut_40 : decode cX8_cut 40 = .ok (.isub, 1) := by decide +kernel
theorem dX8_cut_41 : decode cX8_cut 41 = .ok (.iastore, 1) := by decide +kernel
theorem dX8_cut_42 : decode cX8_cut 42 = .ok (.aload_n 0, 1) := by decide +kernel
theorem dX8_cut_43 : decode cX8_cut 43 = .ok (.aload_n 0, 1) := by decide +kernel
theorem dX8_cut_44 : decode cX8_cut 44 = .ok (.getfield 7, 3) := by decide +kernel
theorem dX8_cut_47 : decode cX8_cut 47 = .ok (.iconst 0, 1) := by decide +kernel
theorem dX8_cut_48 : decode cX8_cut 48 = .ok (.iaload, 1) := by decide +kernel
theorem dX8_cut_49 : decode cX8_cut 49 = .ok (.invokevirtual 91, 3) := by decide +kernel
theorem dX8_cut_52 : decode cX8_cut 52 = .ok (.ireturn, 1) := by decide +kernel
set_option maxRecDepth 20000 in
theorem ggX8_replace_X8_isPattern : GoodIn wsX8_replace wsX8_isPattern := goodIn_r _ [11, 4, 12, 13, 10, 14, 63, 64, 65, 66, 67, 68, 69, 70, 71, 72, 73, 74, 75, 76, 77, 78, 79, 80, 81, 82, 83] (by decide +kernel) (by decide +kernel)
set_option maxRecDepth 20000 in
theorem gX8_replace_X8_isPattern : GoodIn wsX8_replace (wsV RX8 99 RX8 yX8_isPattern wsX8_isPattern) := goodIn_app (goodIn_of _ (by decide +kernel)) ggX8_replace_X8_isPattern
set_option maxRecDepth 20000 in
theorem ggX8_replace_X8_in : GoodIn wsX8_replace wsX8_in := goodIn_r _ [14] (by decide +kernel) (by decide +kernel)
set_option maxRecDepth 20000 in
theorem gX8_replace_X8_in : GoodIn wsX8_replace (va_wsS RX8 47 yX8_in wsX8_in) := goodIn_app (goodIn_of _ (by decide +kernel)) ggX8_replace_X8_in
set_option maxRecDepth 20000 in
theorem ggX8_replace_X8_findsEnds : GoodIn wsX8_replace wsX8_findsEnds := goodIn_r _ [18, 3, 4, 19, 20, 5, 21, 22, 23, 10, 24, 25, 26, 27, 28, 29, 30, 31, 32, 33, 34, 35, 36, 37, 38, 39, 40, 41, 42, 43, 44, 63, 64, 65, 66, 67, 68, 69, 70, 71, 72, 73, 74, 75, 76, 77, 78, 79, 80, 81, 82, 83] (by decide +kernel) (by decide +kernel)
set_option maxRecDepth 20000 in
theorem gX8_replace_X8_findsEnds : GoodIn wsX8_replace (wsV RX8 103 RX8 yX8_findsEnds wsX8_findsEnds) := goodIn_app (goodIn_of _ (by decide +kernel)) ggX8_replace_X8_findsEnds
set_option maxRecDepth 20000 in
theorem ggX8_replace_X8_beginOf : GoodIn wsX8_replace wsX8_beginOf := goodIn_r _ [48, 20, 5, 25, 26, 27, 10, 28, 4, 63, 64, 65, 66, 67, 68, 69, 70, 71, 72, 73, 74, 75, 76, 77, 78, 79, 80, 81, 82, 83] (by decide +kernel) (by decide +kernel)
set_option maxRecDepth 20000 in
theorem gX8_replace_X8_beginOf : GoodIn wsX8_replace (wsV RX8 107 RX8 yX8_beginOf wsX8_beginOf) := goodIn_app (goodIn_of _ (by decide +kernel)) ggX8_replace_X8_beginOf
set_option maxRecDepth 20000 in
theorem ggX8_replace_X8_remember : GoodIn wsX8_replace wsX8_remember := goodIn_r _ [52, 6, 4, 63, 64, 65, 66, 67, 68, 69, 70, 71, 72, 73, 74, 75, 76, 77, 78, 79, 80, 81, 82, 83] (by decide +kernel) (by decide +kernel)
set_option maxRecDepth 20000 in
theorem gX8_replace_X8_remember : GoodIn wsX8_replace (wsV RX8 85 RX8 yX8_remember wsX8_remember) := goodIn_app (goodIn_of _ (by decide +kernel)) ggX8_replace_X8_remember
set_option maxRecDepth 20000 in
theorem ggX8_replace_X8_writes : GoodIn wsX8_replace wsX8_writes := goodIn_r _ [56, 4, 63, 64, 65, 66, 67, 68, 69, 70, 71, 72, 73, 74, 75, 76, 77, 78, 79, 80, 81, 82, 83] (by decide +kernel) (by decide +kernel)
set_option maxRecDepth 20000 in
theorem gX8_replace_X8_writes : GoodIn wsX8_replace (wsV RX8 88 RX8 yX8_writes wsX8_writes) := goodIn_app (goodIn_of _ (by decide +kernel)) ggX8_replace_X8_writes
set_option maxRecDepth 20000 in
theorem ggX8_replace_X8_acted : GoodIn wsX8_replace wsX8_acted := goodIn_r _ [60, 61, 62, 6, 63, 64, 65, 66, 67, 68, 69, 70, 71, 72, 73, 74, 75, 76, 77, 78, 79, 80, 81, 82, 83] (by decide +kernel) (by decide +kernel)
set_option maxRecDepth 20000 in
theorem gX8_replace_X8_acted : GoodIn wsX8_replace (wsV RX8 91 RX8 yX8_acted wsX8_acted) := goodIn_app (goodIn_of _ (by decide +kernel)) ggX8_replace_X8_acted
theorem dX8_replace_0 : decode cX8_replace 0 = .ok (.aload_n 0, 1) := by decide +kernel
theorem dX8_replace_1 : decode cX8_replace 1 = .ok (.iload_n 1, 1) := by decide +kernel
theorem dX8_replace_2 : decode cX8_replace 2 = .ok (.invokevirtual 99, 3) := by decide +kernel
theorem dX8_replace_5 : decode cX8_replace 5 = .ok (.ifCond .ne 5, 3) := by decide +kernel
theorem dX8_replace_8 : decode cX8_replace 8 = .ok (.iconst (-1), 1) := by decide +kernel
theorem dX8_replace_9 : decode cX8_replace 9 = .ok (.ireturn, 1) := by decide +kernel
theorem dX8_replace_10 : decode cX8_replace 10 = .ok (.iload_n 2, 1) := by decide +kernel
theorem dX8_replace_11 : decode cX8_replace 11 = .ok (.i2l, 1) := by decide +kernel
theorem dX8_replace_12 : decode cX8_replace 12 = .ok (.ldc2_w 78, 3) := by decide +kernel
theorem dX8_replace_15 : decode cX8_replace 15 = .ok (.ldc2_w 80, 3) := by decide +kernel
theorem dX8_replace_18 : decode cX8_replace 18 = .ok (.invokestatic 47, 3) := by decide +kernel
theorem dX8_replace_21 : decode cX8_replace 21 = .ok (.ifCond .ne 6, 3) := by decide +kernel
theorem dX8_replace_24 : decode cX8_replace 24 = .ok (.bipush (-2), 2) := by decide +kernel
theorem dX8_replace_26 : decode cX8_replace 26 = .ok (.ireturn, 1) := by decide +kernel
theorem dX8_replace_27 : decode cX8_replace 27 = .ok (.aload_n 0, 1) := by decide +kernel
theorem dX8_replace_28 : decode cX8_replace 28 = .ok (.iload_n 1, 1) := by decide +kernel
theorem dX8_replace_29 : decode cX8_replace 29 = .ok (.iconst 1, 1) := by decide +kernel
theorem dX8_replace_30 : decode cX8_replace 30 = .ok (.invokevirtual 103, 3) := by decide +kernel
theorem dX8_replace_33 : decode cX8_replace 33 = .ok (.aload_n 0, 1) := by decide +kernel
theorem dX8_replace_34 : decode cX8_replace 34 = .ok (.getfield 75, 3) := by decide +kernel
theorem dX8_replace_37 : decode cX8_replace 37 = .ok (.ifCond .ne 6, 3) := by decide +kernel
theorem dX8_replace_40 : decode cX8_replace 40 = .ok (.bipush (-5), 2) := by decide +kernel
theorem dX8_replace_42 : decode cX8_replace 42 = .ok (.ireturn, 1) := by decide +kernel
theorem dX8_replace_43 : decode cX8_replace 43 = .ok (.aload_n 0, 1) := by decide +kernel
theorem dX8_replace_44 : decode cX8_replace 44 = .ok (.getfield 7, 3) := by decide +kernel
theorem dX8_replace_47 : decode cX8_replace 47 = .ok (.iconst 0, 1) := by decide +kernel
theorem dX8_replace_48 : decode cX8_replace 48 = .ok (.iaload, 1) := by decide +kernel
theorem dX8_replace_49 : decode cX8_replace 49 = .ok (.istore_n 3, 1) := by decide +kernel
theorem dX8_replace_50 : decode cX8_replace 50 = .ok (.iconst 0, 1) := by decide +kernel
theorem dX8_replace_51 : decode cX8_replace 51 = .ok (.istore 4, 2) := by decide +kernel
theorem dX8_replace_53 : decode cX8_replace 53 = .ok (.iload 4, 2) := by decide +kernel
theorem dX8_replace_55 : decode cX8_replace 55 = .ok (.aload_n 0, 1) := by decide +kernel
theorem dX8_replace_56 : decode cX8_replace 56 = .ok (.getfield 75, 3) := by decide +kernel
theorem dX8_replace_59 : decode cX8_replace 59 = .ok (.if_icmp .ge 29, 3) := by decide +kernel
theorem dX8_replace_62 : decode cX8_replace 62 = .ok (.iload_n 3, 1) := by decide +kernel
theorem dX8_replace_63 : decode cX8_replace 63 = .ok (.iconst 1, 1) := by decide +kernel
theorem dX8_replace_64 : decode cX8_replace 64 = .ok (.aload_n 0, 1) := by decide +kernel
theorem dX8_replace_65 : decode cX8_replace 65 = .ok (.getfield 28, 3) := by decide +kernel
theorem dX8_replace_68 : decode cX8_replace 68 = .ok (.iload 4, 2) := by decide +kernel
theorem dX8_replace_70 : decode cX8_replace 70 = .ok (.iaload, 1) := by decide +kernel
theorem dX8_replace_71 : decode cX8_replace 71 = .ok (.isub, 1) := by decide +kernel
theorem dX8_replace_72 : decode cX8_replace 72 = .ok (.aload_n 0, 1) := by decide +kernel
theorem dX8_replace_73 : decode cX8_replace 73 = .ok (.iload_n 1, 1) := by decide +kernel
theorem dX8_replace_74 : decode cX8_replace 74 = .ok (.iload 4, 2) := by decide +kernel
theorem dX8_replace_76 : decode cX8_replace 76 = .ok (.invokevirtual 107, 3) := by decide +kernel
theorem dX8_replace_79 : decode cX8_replace 79 = .ok (.iadd, 1) := by decide +kernel
theorem dX8_replace_80 : decode cX8_replace 80 = .ok (.iadd, 1) := by decide +kernel
theorem dX8_replace_81 : decode cX8_replace 81 = .ok (.istore_n 3, 1) := by decide +kernel
theorem dX8_replace_82 : decode cX8_replace 82 = .ok (.iinc 4 1, 3) := by decide +kernel
theorem dX8_replace_85 : decode cX8_replace 85 = .ok (.goto (-32), 3) := by decide +kernel
theorem dX8_replace_88 : decode cX8_replace 88 = .ok (.iload_n 3, 1) := by decide +kernel
theorem dX8_replace_89 : decode cX8_replace 89 = .ok (.bipush 120, 2) := by decide +kernel
theorem dX8_replace_91 : decode cX8_replace 91 = .ok (.if_icmp .le 6, 3) := by decide +kernel
theorem dX8_replace_94 : decode cX8_replace 94 = .ok (.bipush (-3), 2) := by decide +kernel
theorem dX8_replace_96 : decode cX8_replace 96 = .ok (.ireturn, 1) := by decide +kernel
theorem dX8_replace_97 : decode cX8_replace 97 = .ok (.aload_n 0, 1) := by decide +kernel
theorem dX8_replace_98 : decode cX8_replace 98 = .ok (.invokevirtual 85, 3) := by decide +kernel
theorem dX8_replace_101 : decode cX8_replace 101 = .ok (.aload_n 0, 1) := by decide +kernel
theorem dX8_replace_102 : decode cX8_replace 102 = .ok (.getfield 7, 3) := by decide +kernel
theorem dX8_replace_105 : decode cX8_replace 105 = .ok (.iconst 0, 1) := by decide +kernel
theorem dX8_replace_106 : decode cX8_replace 106 = .ok (.iconst 0, 1) := by decide +kernel
theorem dX8_replace_107 : decode cX8_replace 107 = .ok (.iastore, 1) := by decide +kernel
theorem dX8_replace_108 : decode cX8_replace 108 = .ok (.iconst 0, 1) := by decide +kernel
theorem dX8_replace_109 : decode cX8_replace 109 = .ok (.istore 4, 2) := by decide +kernel
theorem dX8_replace_111 : decode cX8_replace 111 = .ok (.iconst 0, 1) := by decide +kernel
theorem dX8_replace_112 : decode cX8_replace 112 = .ok (.istore 5, 2) := by decide +kernel
theorem dX8_replace_114 : decode cX8_replace 114 = .ok (.iload 5, 2) := by decide +kernel
theorem dX8_replace_116 : decode cX8_replace 116 = .ok (.aload_n 0, 1) := by decide +kernel
theorem dX8_replace_117 : decode cX8_replace 117 = .ok (.getfield 75, 3) := by decide +kernel
theorem dX8_replace_120 : decode cX8_replace 120 = .ok (.if_icmp .ge 61, 3) := by decide +kernel
theorem dX8_replace_123 : decode cX8_replace 123 = .ok (.iload 4, 2) := by decide +kernel
theorem dX8_replace_125 : decode cX8_replace 125 = .ok (.istore 6, 2) := by decide +kernel
theorem dX8_replace_127 : decode cX8_replace 127 = .ok (.iload 6, 2) := by decide +kernel
theorem dX8_replace_129 : decode cX8_replace 129 = .ok (.aload_n 0, 1) := by decide +kernel
theorem dX8_replace_130 : decode cX8_replace 130 = .ok (.iload_n 1, 1) := by decide +kernel
theorem dX8_replace_131 : decode cX8_replace 131 = .ok (.iload 5, 2) := by decide +kernel
theorem dX8_replace_133 : decode cX8_replace 133 = .ok (.invokevirtual 107, 3) := by decide +kernel
theorem dX8_replace_136 : decode cX8_replace 136 = .ok (.if_icmp .ge 22, 3) := by decide +kernel
theorem dX8_replace_139 : decode cX8_replace 139 = .ok (.aload_n 0, 1) := by decide +kernel
theorem dX8_replace_140 : decode cX8_replace 140 = .ok (.aload_n 0, 1) := by decide +kernel
theorem dX8_replace_141 : decode cX8_replace 141 = .ok (.getfield 13, 3) := by decide +kernel
theorem dX8_replace_144 : decode cX8_replace 144 = .ok (.iconst 3, 1) := by decide +kernel
theorem dX8_replace_145 : decode cX8_replace 145 = .ok (.iload 6, 2) := by decide +kernel
theorem dX8_replace_147 : decode cX8_replace 147 = .ok (.iadd, 1) := by decide +kernel
theorem dX8_replace_148 : decode cX8_replace 148 = .ok (.iaload, 1) := by decide +kernel
theorem dX8_replace_149 : decode cX8_replace 149 = .ok (.invokevirtual 88, 3) := by decide +kernel
theorem dX8_replace_152 : decode cX8_replace 152 = .ok (.iinc 6 1, 3) := by decide +kernel
theorem dX8_replace_155 : decode cX8_replace 155 = .ok (.goto (-28), 3) := by decide +kernel
theorem dX8_replace_158 : decode cX8_replace 158 = .ok (.aload_n 0, 1) := by decide +kernel
theorem dX8_replace_159 : decode cX8_replace 159 = .ok (.iload_n 2, 1) := by decide +kernel
theorem dX8_replace_160 : decode cX8_replace 160 = .ok (.bipush 97, 2) := by decide +kernel
theorem dX8_replace_162 : decode cX8_replace 162 = .ok (.isub, 1) := by decide +kernel
theorem dX8_replace_163 : decode cX8_replace 163 = .ok (.invokevirtual 88, 3) := by decide +kernel
theorem dX8_replace_166 : decode cX8_replace 166 = .ok (.aload_n 0, 1) := by decide +kernel
theorem dX8_replace_167 : decode cX8_replace 167 = .ok (.getfield 28, 3) := by decide +kernel
theorem dX8_replace_170 : decode cX8_replace 170 = .ok (.iload 5, 2) := by decide +kernel
theorem dX8_replace_172 : decode cX8_replace 172 = .ok (.iaload, 1) := by decide +kernel
theorem dX8_replace_173 : decode cX8_replace 173 = .ok (.istore 4, 2) := by decide +kernel
theorem dX8_replace_175 : decode cX8_replace 175 = .ok (.iinc 5 1, 3) := by decide +kernel
theorem dX8_replace_178 : decode cX8_replace 178 = .ok (.goto (-64), 3) := by decide +kernel
theorem dX8_replace_181 : decode cX8_replace 181 = .ok (.iload 4, 2) := by decide +kernel
theorem dX8_replace_183 : decode cX8_replace 183 = .ok (.istore 5, 2) := by decide +kernel
theorem dX8_replace_185 : decode cX8_replace 185 = .ok (.iload 5, 2) := by decide +kernel
theorem dX8_replace_187 : decode cX8_replace 187 = .ok (.aload_n 0, 1) := by decide +kernel
theorem dX8_replace_188 : decode cX8_replace 188 = .ok (.getfield 13, 3) := by decide +kernel
theorem dX8_replace_191 : decode cX8_replace 191 = .ok (.iconst 0, 1) := by decide +kernel
theorem dX8_replace_192 : decode cX8_replace 192 = .ok (.iaload, 1) := by decide +kernel
theorem dX8_replace_193 : decode cX8_replace 193 = .ok (.if_icmp .ge 22, 3) := by decide +kernel
theorem dX8_replace_196 : decode cX8_replace 196 = .ok (.aload_n 0, 1) := by decide +kernel
theorem dX8_replace_197 : decode cX8_replace 197 = .ok (.aload_n 0, 1) := by decide +kernel
theorem dX8_replace_198 : decode cX8_replace 198 = .ok (.getfield 13, 3) := by decide +kernel
theorem dX8_replace_201 : decode cX8_replace 201 = .ok (.iconst 3, 1) := by decide +kernel
theorem dX8_replace_202 : decode cX8_replace 202 = .ok (.iload 5, 2) := by decide +kernel
theorem dX8_replace_204 : decode cX8_replace 204 = .ok (.iadd, 1) := by decide +kernel
theorem dX8_replace_205 : decode cX8_replace 205 = .ok (.iaload, 1) := by decide +kernel
theorem dX8_replace_206 : decode cX8_replace 206 = .ok (.invokevirtual 88, 3) := by decide +kernel
theorem dX8_replace_209 : decode cX8_replace 209 = .ok (.iinc 5 1, 3) := by decide +kernel
theorem dX8_replace_212 : decode cX8_replace 212 = .ok (.goto (-27), 3) := by decide +kernel
theorem dX8_replace_215 : decode cX8_replace 215 = .ok (.aload_n 0, 1) := by decide +kernel
theorem dX8_replace_216 : decode cX8_replace 216 = .ok (.aload_n 0, 1) := by decide +kernel
theorem dX8_replace_217 : decode cX8_replace 217 = .ok (.getfield 75, 3) := by decide +kernel
theorem dX8_replace_220 : decode cX8_replace 220 = .ok (.invokevirtual 91, 3) := by decide +kernel
theorem dX8_replace_223 : decode cX8_replace 223 = .ok (.ireturn, 1) := by decide +kernel
theorem dX8_type_0 : decode cX8_type 0 = .ok (.aload_n 0, 1) := by decide +kernel
theorem dX8_type_1 : decode cX8_type 1 = .ok (.getfield 94, 3) := by decide +kernel
theorem dX8_type_4 : decode cX8_type 4 = .ok (.bipush 60, 2) := by decide +kernel
theorem dX8_type_6 : decode cX8_type 6 = .ok (.if_icmp .ne 6, 3) := by decide +kernel
theorem dX8_type_9 : decode cX8_type 9 = .ok (.bipush (-3), 2) := by decide +kernel
theorem dX8_type_11 : decode cX8_type 11 = .ok (.ireturn, 1) := by decide +kernel
theorem dX8_type_12 : decode cX8_type 12 = .ok (.aload_n 0, 1) := by decide +kernel
theorem dX8_type_13 : decode cX8_type 13 = .ok (.getfield 31, 3) := by decide +kernel
theorem dX8_type_16 : decode cX8_type 16 = .ok (.aload_n 0, 1) := by decide +kernel
theorem dX8_type_17 : decode cX8_type 17 = .ok (.getfield 94, 3) := by decide +kernel
theorem dX8_type_20 : decode cX8_type 20 = .ok (.iload_n 1, 1) := by decide +kernel
theorem dX8_type_21 : decode cX8_type 21 = .ok (.iastore, 1) := by decide +kernel
theorem dX8_type_22 : decode cX8_type 22 = .ok (.aload_n 0, 1) := by decide +kernel
theorem dX8_type_23 : decode cX8_type 23 = .ok (.dup, 1) := by decide +kernel
theorem dX8_type_24 : decode cX8_type 24 = .ok (.getfield 94, 3) := by decide +kernel
theorem dX8_type_27 : decode cX8_type 27 = .ok (.iconst 1, 1) := by decide +kernel
theorem dX8_type_28 : decode cX8_type 28 = .ok (.iadd, 1) := by decide +kernel
theorem dX8_type_29 : decode cX8_type 29 = .ok (.putfield 94, 3) := by decide +kernel
theorem dX8_type_32 : decode cX8_type 32 = .ok (.aload_n 0, 1) := by decide +kernel
theorem dX8_type_33 : decode cX8_type 33 = .ok (.getfield 94, 3) := by decide +kernel
theorem dX8_type_36 : decode cX8_type 36 = .ok (.ireturn, 1) := by decide +kernel
theorem dX8_clearPad_0 : decode cX8_clearPad 0 = .ok (.aload_n 0, 1) := by decide +kernel
theorem dX8_clearPad_1 : decode cX8_clearPad 1 = .ok (.getfield 94, 3) := by decide +kernel
theorem dX8_clearPad_4 : decode cX8_clearPad 4 = .ok (.istore_n 1, 1) := by decide +kernel
theorem dX8_clearPad_5 : decode cX8_clearPad 5 = .ok (.aload_n 0, 1) := by decide +kernel
theorem dX8_clearPad_6 : decode cX8_clearPad 6 = .ok (.iconst 0, 1) := by decide +kernel
theorem dX8_clearPad_7 : decode cX8_clearPad 7 = .ok (.putfield 94, 3) := by decide +kernel
theorem dX8_clearPad_10 : decode cX8_clearPad 10 = .ok (.iload_n 1, 1) := by decide +kernel
theorem dX8_clearPad_11 : decode cX8_clearPad 11 = .ok (.ireturn, 1) := by decide +kernel
set_option maxRecDepth 20000 in
theorem ggX8_isHere_X8_in : GoodIn wsX8_isHere wsX8_in := goodIn_r _ [7] (by decide +kernel) (by decide +kernel)
set_option maxRecDepth 20000 in
theorem gX8_isHere_X8_in : GoodIn wsX8_isHere (va_wsS RX8 47 yX8_in wsX8_in) := goodIn_app (goodIn_of _ (by decide +kernel)) ggX8_isHere_X8_in
theorem dX8_isHere_0 : decode cX8_isHere 0 = .ok (.aload_n 0, 1) := by decide +kernel
theorem dX8_isHere_1 : decode cX8_isHere 1 = .ok (.getfield 110, 3) := by decide +kernel
theorem dX8_isHere_4 : decode cX8_isHere 4 = .ok (.aload_n 0, 1) := by decide +kernel
theorem dX8_isHere_5 : decode cX8_isHere 5 = .ok (.getfield 94, 3) := by decide +kernel
theorem dX8_isHere_8 : decode cX8_isHere 8 = .ok (.if_icmp .ge 27, 3) := by decide +kernel
theorem dX8_isHere_11 : decode cX8_isHere 11 = .ok (.aload_n 0, 1) := by decide +kernel
theorem dX8_isHere_12 : decode cX8_isHere 12 = .ok (.getfield 31, 3) := by decide +kernel
theorem dX8_isHere_15 : decode cX8_isHere 15 = .ok (.aload_n 0, 1) := by decide +kernel
theorem dX8_isHere_16 : decode cX8_isHere 16 = .ok (.getfield 110, 3) := by decide +kernel
theorem dX8_isHere_19 : decode cX8_isHere 19 = .ok (.iaload, 1) := by decide +kernel
theorem dX8_isHere_20 : decode cX8_isHere 20 = .ok (.i2l, 1) := by decide +kernel
theorem dX8_isHere_21 : decode cX8_isHere 21 = .ok (.iload_n 1, 1) := by decide +kernel
theorem dX8_isHere_22 : decode cX8_isHere 22 = .ok (.i2l, 1) := by decide +kernel
theorem dX8_isHere_23 : decode cX8_isHere 23 = .ok (.iload_n 2, 1) := by decide +kernel
theorem dX8_isHere_24 : decode cX8_isHere 24 = .ok (.i2l, 1) := by decide +kernel
theorem dX8_isHere_25 : decode cX8_isHere 25 = .ok (.invokestatic 47, 3) := by decide +kernel
theorem dX8_isHere_28 : decode cX8_isHere 28 = .ok (.ifCond .eq 7, 3) := by decide +kernel
theorem dX8_isHere_31 : decode cX8_isHere 31 = .ok (.iconst 1, 1) := by decide +kernel
theorem dX8_isHere_32 : decode cX8_isHere 32 = .ok (.goto 4, 3) := by decide +kernel
theorem dX8_isHere_35 : decode cX8_isHere 35 = .ok (.iconst 0, 1) := by decide +kernel
theorem dX8_isHere_36 : decode cX8_isHere 36 = .ok (.ireturn, 1) := by decide +kernel
set_option maxRecDepth 20000 in
theorem ggX8_takesOne_X8_isHere : GoodIn wsX8_takesOne wsX8_isHere := goodIn_r _ [6, 1, 7, 8, 9, 10, 5, 11, 12, 13, 14, 15, 16, 17, 18, 19, 20, 21, 22, 23, 24, 25, 26, 27, 28, 29, 30, 31, 32] (by decide +kernel) (by decide +kernel)
set_option maxRecDepth 20000 in
theorem gX8_takesOne_X8_isHere : GoodIn wsX8_takesOne (wsV RX8 113 RX8 yX8_isHere wsX8_isHere) := goodIn_app (goodIn_of _ (by decide +kernel)) ggX8_takesOne_X8_isHere
theorem dX8_takesOne_0 : decode cX8_takesOne 0 = .ok (.aload_n 0, 1) := by decide +kernel
theorem dX8_takesOne_1 : decode cX8_takesOne 1 = .ok (.iload_n 1, 1) := by decide +kernel
theorem dX8_takesOne_2 : decode cX8_takesOne 2 = .ok (.iload_n 1, 1) := by decide +kernel
theorem dX8_takesOne_3 : decode cX8_takesOne 3 = .ok (.invokevirtual 113, 3) := by decide +kernel
theorem dX8_takesOne_6 : decode cX8_takesOne 6 = .ok (.istore_n 2, 1) := by decide +kernel
theorem dX8_takesOne_7 : decode cX8_takesOne 7 = .ok (.aload_n 0, 1) := by decide +kernel
theorem dX8_takesOne_8 : decode cX8_takesOne 8 = .ok (.dup, 1) := by decide +kernel
theorem dX8_takesOne_9 : decode cX8_takesOne 9 = .ok (.getfield 110, 3) := by decide +kernel
theorem dX8_takesOne_12 : decode cX8_takesOne 12 = .ok (.iload_n 2, 1) := by decide +kernel
theorem dX8_takesOne_13 : decode cX8_takesOne 13 = .ok (.ifCond .eq 7, 3) := by decide +kernel
theorem dX8_takesOne_16 : decode cX8_takesOne 16 = .ok (.iconst 1, 1) := by decide +kernel
theorem dX8_takesOne_17 : decode cX8_takesOne 17 = .ok (.goto 4, 3) := by decide +kernel
theorem dX8_takesOne_20 : decode cX8_takesOne 20 = .ok (.iconst 0, 1) := by decide +kernel
theorem dX8_takesOne_21 : decode cX8_takesOne 21 = .ok (.iadd, 1) := by decide +kernel
theorem dX8_takesOne_22 : decode cX8_takesOne 22 = .ok (.putfield 110, 3) := by decide +kernel
theorem dX8_takesOne_25 : decode cX8_takesOne 25 = .ok (.iload_n 2, 1) := by decide +kernel
theorem dX8_takesOne_26 : decode cX8_takesOne 26 = .ok (.ireturn, 1) := by decide +kernel
theorem dX8_reads_0 : decode cX8_reads 0 = .ok (.aload_n 0, 1) := by decide +kernel
theorem dX8_reads_1 : decode cX8_reads 1 = .ok (.getfield 34, 3) := by decide +kernel
theorem dX8_reads_4 : decode cX8_reads 4 = .ok (.aload_n 0, 1) := by decide +kernel
theorem dX8_reads_5 : decode cX8_reads 5 = .ok (.getfield 116, 3) := by decide +kernel
theorem dX8_reads_8 : decode cX8_reads 8 = .ok (.iload_n 1, 1) := by decide +kernel
theorem dX8_reads_9 : decode cX8_reads 9 = .ok (.iastore, 1) := by decide +kernel
theorem dX8_reads_10 : decode cX8_reads 10 = .ok (.aload_n 0, 1) := by decide +kernel
theorem dX8_reads_11 : decode cX8_reads 11 = .ok (.dup, 1) := by decide +kernel
theorem dX8_reads_12 : decode cX8_reads 12 = .ok (.getfield 116, 3) := by decide +kernel
theorem dX8_reads_15 : decode cX8_reads 15 = .ok (.iconst 1, 1) := by decide +kernel
theorem dX8_reads_16 : decode cX8_reads 16 = .ok (.iadd, 1) := by decide +kernel
theorem dX8_reads_17 : decode cX8_reads 17 = .ok (.putfield 116, 3) := by decide +kernel
theorem dX8_reads_20 : decode cX8_reads 20 = .ok (.return_, 1) := by decide +kernel
set_option maxRecDepth 20000 in
theorem ggX8_readsSet_X8_takesOne : GoodIn wsX8_readsSet wsX8_takesOne := goodIn_r _ [8, 2, 9, 10, 11, 7, 12, 13, 1, 14, 15, 16, 23, 24, 25, 26, 27, 28, 29, 30, 31, 32, 33, 34, 35, 36, 37, 38, 39, 40, 41, 42, 43] (by decide +kernel) (by decide +kernel)
set_option maxRecDepth 20000 in
theorem gX8_readsSet_X8_takesOne : GoodIn wsX8_readsSet (wsV RX8 119 RX8 yX8_takesOne wsX8_takesOne) := goodIn_app (goodIn_of _ (by decide +kernel)) ggX8_readsSet_X8_takesOne
set_option maxRecDepth 20000 in
theorem ggX8_readsSet_X8_isHere : GoodIn wsX8_readsSet wsX8_isHere := goodIn_r _ [12, 2, 13, 1, 14, 15, 7, 16, 23, 24, 25, 26, 27, 28, 29, 30, 31, 32, 33, 34, 35, 36, 37, 38, 39, 40, 41, 42, 43] (by decide +kernel) (by decide +kernel)
set_option maxRecDepth 20000 in
theorem gX8_readsSet_X8_isHere : GoodIn wsX8_readsSet (wsV RX8 113 RX8 yX8_isHere wsX8_isHere) := goodIn_app (goodIn_of _ (by decide +kernel)) ggX8_readsSet_X8_isHere
set_option maxRecDepth 20000 in
theorem ggX8_readsSet_X8_reads : GoodIn wsX8_readsSet wsX8_reads := goodIn_r _ [20, 21, 22, 23, 24, 25, 26, 27, 28, 29, 30, 31, 32, 33, 34, 35, 36, 37, 38, 39, 40, 41, 42, 43] (by decide +kernel) (by decide +kernel)
set_option maxRecDepth 20000 in
theorem gX8_readsSet_X8_reads : GoodIn wsX8_readsSet (wsV RX8 123 RX8 yX8_reads wsX8_reads) := goodIn_app (goodIn_of _ (by decide +kernel)) ggX8_readsSet_X8_reads
theorem dX8_readsSet_0 : decode cX8_readsSet 0 = .ok (.aload_n 0, 1) := by decide +kernel
theorem dX8_readsSet_1 : decode cX8_readsSet 1 = .ok (.bipush 45, 2) := by decide +kernel
theorem dX8_readsSet_3 : decode cX8_readsSet 3 = .ok (.invokevirtual 119, 3) := by decide +kernel
theorem dX8_readsSet_6 : decode cX8_readsSet 6 = .ok (.istore_n 1, 1) := by decide +kernel
theorem dX8_readsSet_7 : decode cX8_readsSet 7 = .ok (.iconst 0, 1) := by decide +kernel
theorem dX8_readsSet_8 : decode cX8_readsSet 8 = .ok (.istore_n 2, 1) := by decide +kernel
theorem dX8_readsSet_9 : decode cX8_readsSet 9 = .ok (.bipush 97, 2) := by decide +kernel
theorem dX8_readsSet_11 : decode cX8_readsSet 11 = .ok (.istore_n 3, 1) := by decide +kernel
theorem dX8_readsSet_12 : decode cX8_readsSet 12 = .ok (.aload_n 0, 1) := by decide +kernel
theorem dX8_readsSet_13 : decode cX8_readsSet 13 = .ok (.iload_n 3, 1) := by decide +kernel
theorem dX8_readsSet_14 : decode cX8_readsSet 14 = .ok (.bipush 122, 2) := by decide +kernel
theorem dX8_readsSet_16 : decode cX8_readsSet 16 = .ok (.invokevirtual 113, 3) := by decide +kernel
theorem dX8_readsSet_19 : decode cX8_readsSet 19 = .ok (.ifCond .eq 45, 3) := by decide +kernel
theorem dX8_readsSet_22 : decode cX8_readsSet 22 = .ok (.iload_n 2, 1) := by decide +kernel
theorem dX8_readsSet_23 : decode cX8_readsSet 23 = .ok (.iconst 1, 1) := by decide +kernel
theorem dX8_readsSet_24 : decode cX8_readsSet 24 = .ok (.aload_n 0, 1) := by decide +kernel
theorem dX8_readsSet_25 : decode cX8_readsSet 25 = .ok (.getfield 31, 3) := by decide +kernel
theorem dX8_readsSet_28 : decode cX8_readsSet 28 = .ok (.aload_n 0, 1) := by decide +kernel
theorem dX8_readsSet_29 : decode cX8_readsSet 29 = .ok (.getfield 110, 3) := by decide +kernel
theorem dX8_readsSet_32 : decode cX8_readsSet 32 = .ok (.iaload, 1) := by decide +kernel
theorem dX8_readsSet_33 : decode cX8_readsSet 33 = .ok (.bipush 97, 2) := by decide +kernel
theorem dX8_readsSet_35 : decode cX8_readsSet 35 = .ok (.isub, 1) := by decide +kernel
theorem dX8_readsSet_36 : decode cX8_readsSet 36 = .ok (.ishl, 1) := by decide +kernel
theorem dX8_readsSet_37 : decode cX8_readsSet 37 = .ok (.ior, 1) := by decide +kernel
theorem dX8_readsSet_38 : decode cX8_readsSet 38 = .ok (.istore_n 2, 1) := by decide +kernel
theorem dX8_readsSet_39 : decode cX8_readsSet 39 = .ok (.aload_n 0, 1) := by decide +kernel
theorem dX8_readsSet_40 : decode cX8_readsSet 40 = .ok (.getfield 31, 3) := by decide +kernel
theorem dX8_readsSet_43 : decode cX8_readsSet 43 = .ok (.aload_n 0, 1) := by decide +kernel
theorem dX8_readsSet_44 : decode cX8_readsSet 44 = .ok (.getfield 110, 3) := by decide +kernel
theorem dX8_readsSet_47 : decode cX8_readsSet 47 = .ok (.iaload, 1) := by decide +kernel
theorem dX8_readsSet_48 : decode cX8_readsSet 48 = .ok (.iconst 1, 1) := by decide +kernel
theorem dX8_readsSet_49 : decode cX8_readsSet 49 = .ok (.iadd, 1) := by decide +kernel
theorem dX8_readsSet_50 : decode cX8_readsSet 50 = .ok (.istore_n 3, 1) := by decide +kernel
theorem dX8_readsSet_51 : decode cX8_readsSet 51 = .ok (.aload_n 0, 1) := by decide +kernel
theorem dX8_readsSet_52 : decode cX8_readsSet 52 = .ok (.dup, 1) := by decide +kernel
theorem dX8_readsSet_53 : decode cX8_readsSet 53 = .ok (.getfield 110, 3) := by decide +kernel
theorem dX8_readsSet_56 : decode cX8_readsSet 56 = .ok (.iconst 1, 1) := by decide +kernel
theorem dX8_readsSet_57 : decode cX8_readsSet 57 = .ok (.iadd, 1) := by decide +kernel
theorem dX8_readsSet_58 : decode cX8_readsSet 58 = .ok (.putfield 110, 3) := by decide +kernel
theorem dX8_readsSet_61 : decode cX8_readsSet 61 = .ok (.goto (-49), 3) := by decide +kernel
theorem dX8_readsSet_64 : decode cX8_readsSet 64 = .ok (.iload_n 2, 1) := by decide +kernel
theorem dX8_readsSet_65 : decode cX8_readsSet 65 = .ok (.ifCond .eq 12, 3) := by decide +kernel
theorem dX8_readsSet_68 : decode cX8_readsSet 68 = .ok (.aload_n 0, 1) := by decide +kernel
theorem dX8_readsSet_69 : decode cX8_readsSet 69 = .ok (.bipush 93, 2) := by decide +kernel
theorem dX8_readsSet_71 : decode cX8_readsSet 71 = .ok (.invokevirtual 119, 3) := by decide +kernel
theorem dX8_readsSet_74 : decode cX8_readsSet 74 = .ok (.ifCond .ne 5, 3) := by decide +kernel
theorem dX8_readsSet_77 : decode cX8_readsSet 77 = .ok (.iconst 0, 1) := by decide +kernel
theorem dX8_readsSet_78 : decode cX8_readsSet 78 = .ok (.ireturn, 1) := by decide +kernel
theorem dX8_readsSet_79 : decode cX8_readsSet 79 = .ok (.aload_n 0, 1) := by decide +kernel
theorem dX8_readsSet_80 : decode cX8_readsSet 80 = .ok (.iload_n 1, 1) := by decide +kernel
theorem dX8_readsSet_81 : decode cX8_readsSet 81 = .ok (.ifCond .eq 12, 3) := by decide +kernel
theorem dX8_readsSet_84 : decode cX8_readsSet 84 = .ok (.ldc 122, 2) := by decide +kernel
theorem dX8_readsSet_86 : decode cX8_readsSet 86 = .ok (.iload_n 2, 1) := by decide +kernel
theorem dX8_readsSet_87 : decode cX8_readsSet 87 = .ok (.iconst (-1), 1) := by decide +kernel
theorem dX8_readsSet_88 : decode cX8_readsSet 88 = .ok (.ixor, 1) := by decide +kernel
theorem dX8_readsSet_89 : decode cX8_readsSet 89 = .ok (.iand, 1) := by decide +kernel
theorem dX8_readsSet_90 : decode cX8_readsSet 90 = .ok (.goto 4, 3) := by decide +kernel
theorem dX8_readsSet_93 : decode cX8_readsSet 93 = .ok (.iload_n 2, 1) := by decide +kernel
theorem dX8_readsSet_94 : decode cX8_readsSet 94 = .ok (.invokevirtual 123, 3) := by decide +kernel
theorem dX8_readsSet_97 : decode cX8_readsSet 97 = .ok (.iconst 1, 1) := by decide +kernel
theorem dX8_readsSet_98 : decode cX8_readsSet 98 = .ok (.ireturn, 1) := by decide +kernel
set_option maxRecDepth 20000 in
theorem ggX8_readsPlace_X8_takesOne : GoodIn wsX8_readsPlace wsX8_takesOne := goodIn_r _ [9, 2, 10, 11, 12, 8, 13, 14, 1, 15, 16, 17, 29, 30, 31, 32, 33, 34, 35, 36, 37, 38, 39, 40, 41, 42, 43, 44, 45, 46, 47, 48, 49] (by decide +kernel) (by decide +kernel)
set_option maxRecDepth 20000 in
theorem gX8_readsPlace_X8_takesOne : GoodIn wsX8_readsPlace (wsV RX8 119 RX8 yX8_takesOne wsX8_takesOne) := goodIn_app (goodIn_of _ (by decide +kernel)) ggX8_readsPlace_X8_takesOne
set_option maxRecDepth 20000 in
theorem ggX8_readsPlace_X8_readsSet : GoodIn wsX8_readsPlace wsX8_readsSet := goodIn_r _ [21, 1, 2, 22, 5, 6, 7, 8, 9, 10, 11, 12, 13, 14, 15, 16, 17, 23, 24, 25, 26, 27, 28, 29, 30, 31, 32, 33, 34, 35, 36, 37, 38, 39, 40, 41, 42, 43, 44, 45, 46, 47, 48, 49] (by decide +kernel) (by decide +kernel)
set_option maxRecDepth 20000 in
theorem gX8_readsPlace_X8_readsSet : GoodIn wsX8_readsPlace (wsV RX8 126 RX8 yX8_readsSet wsX8_readsSet) := goodIn_app (goodIn_of _ (by decide +kernel)) ggX8_readsPlace_X8_readsSet
set_option maxRecDepth 20000 in
theorem ggX8_readsPlace_X8_isHere : GoodIn wsX8_readsPlace wsX8_isHere := goodIn_r _ [13, 2, 14, 1, 15, 16, 8, 17, 29, 30, 31, 32, 33, 34, 35, 36, 37, 38, 39, 40, 41, 42, 43, 44, 45, 46, 47, 48, 49] (by decide +kernel) (by decide +kernel)
set_option maxRecDepth 20000 in
theorem gX8_readsPlace_X8_isHere : GoodIn wsX8_readsPlace (wsV RX8 113 RX8 yX8_isHere wsX8_isHere) := goodIn_app (goodIn_of _ (by decide +kernel)) ggX8_readsPlace_X8_isHere
set_option maxRecDepth 20000 in
theorem ggX8_readsPlace_X8_reads : GoodIn wsX8_readsPlace wsX8_reads := goodIn_r _ [26, 27, 28, 29, 30, 31, 32, 33, 34, 35, 36, 37, 38, 39, 40, 41, 42, 43, 44, 45, 46, 47, 48, 49] (by decide +kernel) (by decide +kernel)
set_option maxRecDepth 20000 in
theorem gX8_readsPlace_X8_reads : GoodIn wsX8_readsPlace (wsV RX8 123 RX8 yX8_reads wsX8_reads) := goodIn_app (goodIn_of _ (by decide +kernel)) ggX8_readsPlace_X8_reads
theorem dX8_readsPlace_0 : decode cX8_readsPlace 0 = .ok (.aload_n 0, 1) := by decide +kernel
theorem dX8_readsPlace_1 : decode cX8_readsPlace 1 = .ok (.bipush 91, 2) := by decide +kernel
theorem dX8_readsPlace_3 : decode cX8_readsPlace 3 = .ok (.invokevirtual 119, 3) := by decide +kernel
theorem dX8_readsPlace_6 : decode cX8_readsPlace 6 = .ok (.ifCond .eq 8, 3) := by decide +kernel
theorem dX8_readsPlace_9 : decode cX8_readsPlace 9 = .ok (.aload_n 0, 1) := by decide +kernel
theorem dX8_readsPlace_10 : decode cX8_readsPlace 10 = .ok (.invokevirtual 126, 3) := by decide +kernel
theorem dX8_readsPlace_13 : decode cX8_readsPlace 13 = .ok (.ireturn, 1) := by decide +kernel
theorem dX8_readsPlace_14 : decode cX8_readsPlace 14 = .ok (.aload_n 0, 1) := by decide +kernel
theorem dX8_readsPlace_15 : decode cX8_readsPlace 15 = .ok (.bipush 97, 2) := by decide +kernel
theorem dX8_readsPlace_17 : decode cX8_readsPlace 17 = .ok (.bipush 122, 2) := by decide +kernel
theorem dX8_readsPlace_19 : decode cX8_readsPlace 19 = .ok (.invokevirtual 113, 3) := by decide +kernel
theorem dX8_readsPlace_22 : decode cX8_readsPlace 22 = .ok (.ifCond .eq 33, 3) := by decide +kernel
theorem dX8_readsPlace_25 : decode cX8_readsPlace 25 = .ok (.aload_n 0, 1) := by decide +kernel
theorem dX8_readsPlace_26 : decode cX8_readsPlace 26 = .ok (.iconst 1, 1) := by decide +kernel
theorem dX8_readsPlace_27 : decode cX8_readsPlace 27 = .ok (.aload_n 0, 1) := by decide +kernel
theorem dX8_readsPlace_28 : decode cX8_readsPlace 28 = .ok (.getfield 31, 3) := by decide +kernel
theorem dX8_readsPlace_31 : decode cX8_readsPlace 31 = .ok (.aload_n 0, 1) := by decide +kernel
theorem dX8_readsPlace_32 : decode cX8_readsPlace 32 = .ok (.getfield 110, 3) := by decide +kernel
theorem dX8_readsPlace_35 : decode cX8_readsPlace 35 = .ok (.iaload, 1) := by decide +kernel
theorem dX8_readsPlace_36 : decode cX8_readsPlace 36 = .ok (.bipush 97, 2) := by decide +kernel
theorem dX8_readsPlace_38 : decode cX8_readsPlace 38 = .ok (.isub, 1) := by decide +kernel
theorem dX8_readsPlace_39 : decode cX8_readsPlace 39 = .ok (.ishl, 1) := by decide +kernel
theorem dX8_readsPlace_40 : decode cX8_readsPlace 40 = .ok (.invokevirtual 123, 3) := by decide +kernel
theorem dX8_readsPlace_43 : decode cX8_readsPlace 43 = .ok (.aload_n 0, 1) := by decide +kernel
theorem dX8_readsPlace_44 : decode cX8_readsPlace 44 = .ok (.dup, 1) := by decide +kernel
theorem dX8_readsPlace_45 : decode cX8_readsPlace 45 = .ok (.getfield 110, 3) := by decide +kernel
theorem dX8_readsPlace_48 : decode cX8_readsPlace 48 = .ok (.iconst 1, 1) := by decide +kernel
theorem dX8_readsPlace_49 : decode cX8_readsPlace 49 = .ok (.iadd, 1) := by decide +kernel
theorem dX8_readsPlace_50 : decode cX8_readsPlace 50 = .ok (.putfield 110, 3) := by decide +kernel
theorem dX8_readsPlace_53 : decode cX8_readsPlace 53 = .ok (.iconst 1, 1) := by decide +kernel
theorem dX8_readsPlace_54 : decode cX8_readsPlace 54 = .ok (.ireturn, 1) := by decide +kernel
theorem dX8_readsPlace_55 : decode cX8_readsPlace 55 = .ok (.aload_n 0, 1) := by decide +kernel
theorem dX8_readsPlace_56 : decode cX8_readsPlace 56 = .ok (.bipush 46, 2) := by decide +kernel
theorem dX8_readsPlace_58 : decode cX8_readsPlace 58 = .ok (.invokevirtual 119, 3) := by decide +kernel
theorem dX8_readsPlace_61 : decode cX8_readsPlace 61 = .ok (.ifCond .eq 11, 3) := by decide +kernel
theorem dX8_readsPlace_64 : decode cX8_readsPlace 64 = .ok (.aload_n 0, 1) := by decide +kernel
theorem dX8_readsPlace_65 : decode cX8_readsPlace 65 = .ok (.ldc 130, 2) := by decide +kernel
theorem dX8_readsPlace_67 : decode cX8_readsPlace 67 = .ok (.invokevirtual 123, 3) := by decide +kernel
theorem dX8_readsPlace_70 : decode cX8_readsPlace 70 = .ok (.iconst 1, 1) := by decide +kernel
theorem dX8_readsPlace_71 : decode cX8_readsPlace 71 = .ok (.ireturn, 1) := by decide +kernel
theorem dX8_readsPlace_72 : decode cX8_readsPlace 72 = .ok (.aload_n 0, 1) := by decide +kernel
theorem dX8_readsPlace_73 : decode cX8_readsPlace 73 = .ok (.bipush 95, 2) := by decide +kernel
theorem dX8_readsPlace_75 : decode cX8_readsPlace 75 = .ok (.invokevirtual 119, 3) := by decide +kernel
theorem dX8_readsPlace_78 : decode cX8_readsPlace 78 = .ok (.ifCond .eq 11, 3) := by decide +kernel
theorem dX8_readsPlace_81 : decode cX8_readsPlace 81 = .ok (.aload_n 0, 1) := by decide +kernel
theorem dX8_readsPlace_82 : decode cX8_readsPlace 82 = .ok (.ldc 131, 2) := by decide +kernel
theorem dX8_readsPlace_84 : decode cX8_readsPlace 84 = .ok (.invokevirtual 123, 3) := by decide +kernel
theorem dX8_readsPlace_87 : decode cX8_readsPlace 87 = .ok (.iconst 1, 1) := by decide +kernel
theorem dX8_readsPlace_88 : decode cX8_readsPlace 88 = .ok (.ireturn, 1) := by decide +kernel
theorem dX8_readsPlace_89 : decode cX8_readsPlace 89 = .ok (.iconst 0, 1) := by decide +kernel
theorem dX8_readsPlace_90 : decode cX8_readsPlace 90 = .ok (.ireturn, 1) := by decide +kernel
set_option maxRecDepth 20000 in
theorem ggX8_fault_X8_takesOne : GoodIn wsX8_fault wsX8_takesOne := goodIn_r _ [9, 1, 10, 11, 12, 8, 13, 4, 14, 15, 16, 17, 34, 35, 36, 37, 38, 39, 40, 41, 42, 43, 44, 45, 46, 47, 48, 49, 50, 51, 52, 53, 54] (by decide +kernel) (by decide +kernel)
set_option maxRecDepth 20000 in
theorem gX8_fault_X8_takesOne : GoodIn wsX8_fault (wsV RX8 119 RX8 yX8_takesOne wsX8_takesOne) := goodIn_app (goodIn_of _ (by decide +kernel)) ggX8_fault_X8_takesOne
set_option maxRecDepth 20000 in
theorem ggX8_fault_X8_readsPlace : GoodIn wsX8_fault wsX8_readsPlace := goodIn_r _ [21, 14, 1, 22, 23, 5, 6, 7, 8, 9, 10, 11, 12, 13, 4, 15, 16, 17, 24, 25, 26, 27, 28, 29, 30, 31, 32, 33, 2, 34, 35, 36, 37, 38, 39, 40, 41, 42, 43, 44, 45, 46, 47, 48, 49, 50, 51, 52, 53, 54] (by decide +kernel) (by decide +kernel)
set_option maxRecDepth 20000 in
theorem gX8_fault_X8_readsPlace : GoodIn wsX8_fault (wsV RX8 135 RX8 yX8_readsPlace wsX8_readsPlace) := goodIn_app (goodIn_of _ (by decide +kernel)) ggX8_fault_X8_readsPlace
theorem dX8_fault_0 : decode cX8_fault 0 = .ok (.aload_n 0, 1) := by decide +kernel
theorem dX8_fault_1 : decode cX8_fault 1 = .ok (.iconst 0, 1) := by decide +kernel
theorem dX8_fault_2 : decode cX8_fault 2 = .ok (.putfield 110, 3) := by decide +kernel
theorem dX8_fault_5 : decode cX8_fault 5 = .ok (.aload_n 0, 1) := by decide +kernel
theorem dX8_fault_6 : decode cX8_fault 6 = .ok (.iconst 0, 1) := by decide +kernel
theorem dX8_fault_7 : decode cX8_fault 7 = .ok (.putfield 116, 3) := by decide +kernel
theorem dX8_fault_10 : decode cX8_fault 10 = .ok (.aload_n 0, 1) := by decide +kernel
theorem dX8_fault_11 : decode cX8_fault 11 = .ok (.aload_n 0, 1) := by decide +kernel
theorem dX8_fault_12 : decode cX8_fault 12 = .ok (.bipush 94, 2) := by decide +kernel
theorem dX8_fault_14 : decode cX8_fault 14 = .ok (.invokevirtual 119, 3) := by decide +kernel
theorem dX8_fault_17 : decode cX8_fault 17 = .ok (.ifCond .eq 7, 3) := by decide +kernel
theorem dX8_fault_20 : decode cX8_fault 20 = .ok (.iconst 1, 1) := by decide +kernel
theorem dX8_fault_21 : decode cX8_fault 21 = .ok (.goto 4, 3) := by decide +kernel
theorem dX8_fault_24 : decode cX8_fault 24 = .ok (.iconst 0, 1) := by decide +kernel
theorem dX8_fault_25 : decode cX8_fault 25 = .ok (.putfield 132, 3) := by decide +kernel
theorem dX8_fault_28 : decode cX8_fault 28 = .ok (.aload_n 0, 1) := by decide +kernel
theorem dX8_fault_29 : decode cX8_fault 29 = .ok (.invokevirtual 135, 3) := by decide +kernel
theorem dX8_fault_32 : decode cX8_fault 32 = .ok (.istore_n 1, 1) := by decide +kernel
theorem dX8_fault_33 : decode cX8_fault 33 = .ok (.iload_n 1, 1) := by decide +kernel
theorem dX8_fault_34 : decode cX8_fault 34 = .ok (.ifCond .eq 22, 3) := by decide +kernel
theorem dX8_fault_37 : decode cX8_fault 37 = .ok (.aload_n 0, 1) := by decide +kernel
theorem dX8_fault_38 : decode cX8_fault 38 = .ok (.getfield 110, 3) := by decide +kernel
theorem dX8_fault_41 : decode cX8_fault 41 = .ok (.aload_n 0, 1) := by decide +kernel
theorem dX8_fault_42 : decode cX8_fault 42 = .ok (.getfield 94, 3) := by decide +kernel
theorem dX8_fault_45 : decode cX8_fault 45 = .ok (.if_icmp .ge 11, 3) := by decide +kernel
theorem dX8_fault_48 : decode cX8_fault 48 = .ok (.aload_n 0, 1) := by decide +kernel
theorem dX8_fault_49 : decode cX8_fault 49 = .ok (.invokevirtual 135, 3) := by decide +kernel
theorem dX8_fault_52 : decode cX8_fault 52 = .ok (.istore_n 1, 1) := by decide +kernel
theorem dX8_fault_53 : decode cX8_fault 53 = .ok (.goto (-20), 3) := by decide +kernel
theorem dX8_fault_56 : decode cX8_fault 56 = .ok (.iload_n 1, 1) := by decide +kernel
theorem dX8_fault_57 : decode cX8_fault 57 = .ok (.ifCond .eq 8, 3) := by decide +kernel
theorem dX8_fault_60 : decode cX8_fault 60 = .ok (.bipush (-5), 2) := by decide +kernel
theorem dX8_fault_62 : decode cX8_fault 62 = .ok (.goto 7, 3) := by decide +kernel
theorem dX8_fault_65 : decode cX8_fault 65 = .ok (.aload_n 0, 1) := by decide +kernel
theorem dX8_fault_66 : decode cX8_fault 66 = .ok (.getfield 110, 3) := by decide +kernel
theorem dX8_fault_69 : decode cX8_fault 69 = .ok (.ireturn, 1) := by decide +kernel
set_option maxRecDepth 20000 in
theorem ggX8_addPattern_X8_fault : GoodIn wsX8_addPattern wsX8_fault := goodIn_r _ [9, 10, 2, 3, 11, 12, 13, 14, 8, 15, 16, 17, 18, 19, 20, 21, 22, 23, 24, 25, 26, 27, 28, 29, 30, 31, 32, 33, 34, 35, 36, 37, 38, 4, 50, 51, 52, 53, 54, 55, 56, 57, 58, 59, 60, 61, 62, 63, 64, 65, 66, 67, 68, 69, 70] (by decide +kernel) (by decide +kernel)
set_option maxRecDepth 20000 in
theorem gX8_addPattern_X8_fault : GoodIn wsX8_addPattern (wsV RX8 138 RX8 yX8_fault wsX8_fault) := goodIn_app (goodIn_of _ (by decide +kernel)) ggX8_addPattern_X8_fault
set_option maxRecDepth 20000 in
theorem ggX8_addPattern_X8_remember : GoodIn wsX8_addPattern wsX8_remember := goodIn_r _ [42, 43, 1, 50, 51, 52, 53, 54, 55, 56, 57, 58, 59, 60, 61, 62, 63, 64, 65, 66, 67, 68, 69, 70] (by decide +kernel) (by decide +kernel)
set_option maxRecDepth 20000 in
theorem gX8_addPattern_X8_remember : GoodIn wsX8_addPattern (wsV RX8 85 RX8 yX8_remember wsX8_remember) := goodIn_app (goodIn_of _ (by decide +kernel)) ggX8_addPattern_X8_remember
set_option maxRecDepth 20000 in
theorem ggX8_addPattern_X8_acted : GoodIn wsX8_addPattern wsX8_acted := goodIn_r _ [47, 48, 49, 43, 50, 51, 52, 53, 54, 55, 56, 57, 58, 59, 60, 61, 62, 63, 64, 65, 66, 67, 68, 69, 70] (by decide +kernel) (by decide +kernel)
set_option maxRecDepth 20000 in
theorem gX8_addPattern_X8_acted : GoodIn wsX8_addPattern (wsV RX8 91 RX8 yX8_acted wsX8_acted) := goodIn_app (goodIn_of _ (by decide +kernel)) ggX8_addPattern_X8_acted
theorem dX8_addPattern_0 : decode cX8_addPattern 0 = .ok (.aload_n 0, 1) := by decide +kernel
theorem dX8_addPattern_1 : decode cX8_addPattern 1 = .ok (.invokevirtual 138, 3) := by decide +kernel
theorem dX8_addPattern_4 : decode cX8_addPattern 4 = .ok (.istore_n 1, 1) := by decide +kernel
theorem dX8_addPattern_5 : decode cX8_addPattern 5 = .ok (.iload_n 1, 1) := by decide +kernel
theorem dX8_addPattern_6 : decode cX8_addPattern 6 = .ok (.bipush (-5), 2) := by decide +kernel
theorem dX8_addPattern_8 : decode cX8_addPattern 8 = .ok (.if_icmp .eq 8, 3) := by decide +kernel
theorem dX8_addPattern_11 : decode cX8_addPattern 11 = .ok (.bipush (-100), 2) := by decide +kernel
theorem dX8_addPattern_13 : decode cX8_addPattern 13 = .ok (.iload_n 1, 1) := by decide +kernel
theorem dX8_addPattern_14 : decode cX8_addPattern 14 = .ok (.isub, 1) := by decide +kernel
theorem dX8_addPattern_15 : decode cX8_addPattern 15 = .ok (.ireturn, 1) := by decide +kernel
theorem dX8_addPattern_16 : decode cX8_addPattern 16 = .ok (.aload_n 0, 1) := by decide +kernel
theorem dX8_addPattern_17 : decode cX8_addPattern 17 = .ok (.getfield 7, 3) := by decide +kernel
theorem dX8_addPattern_20 : decode cX8_addPattern 20 = .ok (.iconst 1, 1) := by decide +kernel
theorem dX8_addPattern_21 : decode cX8_addPattern 21 = .ok (.iaload, 1) := by decide +kernel
theorem dX8_addPattern_22 : decode cX8_addPattern 22 = .ok (.bipush 6, 2) := by decide +kernel
theorem dX8_addPattern_24 : decode cX8_addPattern 24 = .ok (.if_icmp .ne 6, 3) := by decide +kernel
theorem dX8_addPattern_27 : decode cX8_addPattern 27 = .ok (.bipush (-3), 2) := by decide +kernel
theorem dX8_addPattern_29 : decode cX8_addPattern 29 = .ok (.ireturn, 1) := by decide +kernel
end
section
theorem dX8_addPattern_30 : decode cX8_addPattern 30 = .ok (.aload_n 0, 1) := by decide +kernel
theorem dX8_addPattern_31 : decode cX8_addPattern 31 = .ok (.invokevirtual 85, 3) := by decide +kernel
theorem dX8_addPattern_34 : decode cX8_addPattern 34 = .ok (.bipush 123, 2) := by decide +kernel
theorem dX8_addPattern_36 : decode cX8_addPattern 36 = .ok (.bipush 62, 2) := by decide +kernel
theorem dX8_addPattern_38 : decode cX8_addPattern 38 = .ok (.aload_n 0, 1) := by decide +kernel
theorem dX8_addPattern_39 : decode cX8_addPattern 39 = .ok (.getfield 7, 3) := by decide +kernel
theorem dX8_addPattern_42 : decode cX8_addPattern 42 = .ok (.iconst 1, 1) := by decide +kernel
theorem dX8_addPattern_43 : decode cX8_addPattern 43 = .ok (.iaload, 1) := by decide +kernel
theorem dX8_addPattern_44 : decode cX8_addPattern 44 = .ok (.imul, 1) := by decide +kernel
theorem dX8_addPattern_45 : decode cX8_addPattern 45 = .ok (.iadd, 1) := by decide +kernel
theorem dX8_addPattern_46 : decode cX8_addPattern 46 = .ok (.istore_n 2, 1) := by decide +kernel
theorem dX8_addPattern_47 : decode cX8_addPattern 47 = .ok (.aload_n 0, 1) := by decide +kernel
theorem dX8_addPattern_48 : decode cX8_addPattern 48 = .ok (.getfield 7, 3) := by decide +kernel
theorem dX8_addPattern_51 : decode cX8_addPattern 51 = .ok (.iload_n 2, 1) := by decide +kernel
theorem dX8_addPattern_52 : decode cX8_addPattern 52 = .ok (.aload_n 0, 1) := by decide +kernel
theorem dX8_addPattern_53 : decode cX8_addPattern 53 = .ok (.getfield 116, 3) := by decide +kernel
theorem dX8_addPattern_56 : decode cX8_addPattern 56 = .ok (.iastore, 1) := by decide +kernel
theorem dX8_addPattern_57 : decode cX8_addPattern 57 = .ok (.aload_n 0, 1) := by decide +kernel
theorem dX8_addPattern_58 : decode cX8_addPattern 58 = .ok (.getfield 7, 3) := by decide +kernel
theorem dX8_addPattern_61 : decode cX8_addPattern 61 = .ok (.iload_n 2, 1) := by decide +kernel
theorem dX8_addPattern_62 : decode cX8_addPattern 62 = .ok (.iconst 1, 1) := by decide +kernel
theorem dX8_addPattern_63 : decode cX8_addPattern 63 = .ok (.iadd, 1) := by decide +kernel
theorem dX8_addPattern_64 : decode cX8_addPattern 64 = .ok (.aload_n 0, 1) := by decide +kernel
theorem dX8_addPattern_65 : decode cX8_addPattern 65 = .ok (.getfield 132, 3) := by decide +kernel
theorem dX8_addPattern_68 : decode cX8_addPattern 68 = .ok (.iastore, 1) := by decide +kernel
theorem dX8_addPattern_69 : decode cX8_addPattern 69 = .ok (.iconst 0, 1) := by decide +kernel
theorem dX8_addPattern_70 : decode cX8_addPattern 70 = .ok (.istore_n 3, 1) := by decide +kernel
theorem dX8_addPattern_71 : decode cX8_addPattern 71 = .ok (.iload_n 3, 1) := by decide +kernel
theorem dX8_addPattern_72 : decode cX8_addPattern 72 = .ok (.aload_n 0, 1) := by decide +kernel
theorem dX8_addPattern_73 : decode cX8_addPattern 73 = .ok (.getfield 116, 3) := by decide +kernel
theorem dX8_addPattern_76 : decode cX8_addPattern 76 = .ok (.if_icmp .ge 25, 3) := by decide +kernel
theorem dX8_addPattern_79 : decode cX8_addPattern 79 = .ok (.aload_n 0, 1) := by decide +kernel
theorem dX8_addPattern_80 : decode cX8_addPattern 80 = .ok (.getfield 7, 3) := by decide +kernel
theorem dX8_addPattern_83 : decode cX8_addPattern 83 = .ok (.iload_n 2, 1) := by decide +kernel
theorem dX8_addPattern_84 : decode cX8_addPattern 84 = .ok (.iconst 2, 1) := by decide +kernel
theorem dX8_addPattern_85 : decode cX8_addPattern 85 = .ok (.iadd, 1) := by decide +kernel
theorem dX8_addPattern_86 : decode cX8_addPattern 86 = .ok (.iload_n 3, 1) := by decide +kernel
theorem dX8_addPattern_87 : decode cX8_addPattern 87 = .ok (.iadd, 1) := by decide +kernel
theorem dX8_addPattern_88 : decode cX8_addPattern 88 = .ok (.aload_n 0, 1) := by decide +kernel
theorem dX8_addPattern_89 : decode cX8_addPattern 89 = .ok (.getfield 34, 3) := by decide +kernel
theorem dX8_addPattern_92 : decode cX8_addPattern 92 = .ok (.iload_n 3, 1) := by decide +kernel
theorem dX8_addPattern_93 : decode cX8_addPattern 93 = .ok (.iaload, 1) := by decide +kernel
theorem dX8_addPattern_94 : decode cX8_addPattern 94 = .ok (.iastore, 1) := by decide +kernel
theorem dX8_addPattern_95 : decode cX8_addPattern 95 = .ok (.iinc 3 1, 3) := by decide +kernel
theorem dX8_addPattern_98 : decode cX8_addPattern 98 = .ok (.goto (-27), 3) := by decide +kernel
theorem dX8_addPattern_101 : decode cX8_addPattern 101 = .ok (.aload_n 0, 1) := by decide +kernel
theorem dX8_addPattern_102 : decode cX8_addPattern 102 = .ok (.getfield 7, 3) := by decide +kernel
theorem dX8_addPattern_105 : decode cX8_addPattern 105 = .ok (.iconst 1, 1) := by decide +kernel
theorem dX8_addPattern_106 : decode cX8_addPattern 106 = .ok (.dup2, 1) := by decide +kernel
theorem dX8_addPattern_107 : decode cX8_addPattern 107 = .ok (.iaload, 1) := by decide +kernel
theorem dX8_addPattern_108 : decode cX8_addPattern 108 = .ok (.iconst 1, 1) := by decide +kernel
theorem dX8_addPattern_109 : decode cX8_addPattern 109 = .ok (.iadd, 1) := by decide +kernel
theorem dX8_addPattern_110 : decode cX8_addPattern 110 = .ok (.iastore, 1) := by decide +kernel
theorem dX8_addPattern_111 : decode cX8_addPattern 111 = .ok (.aload_n 0, 1) := by decide +kernel
theorem dX8_addPattern_112 : decode cX8_addPattern 112 = .ok (.aload_n 0, 1) := by decide +kernel
theorem dX8_addPattern_113 : decode cX8_addPattern 113 = .ok (.getfield 7, 3) := by decide +kernel
theorem dX8_addPattern_116 : decode cX8_addPattern 116 = .ok (.iconst 1, 1) := by decide +kernel
theorem dX8_addPattern_117 : decode cX8_addPattern 117 = .ok (.iaload, 1) := by decide +kernel
theorem dX8_addPattern_118 : decode cX8_addPattern 118 = .ok (.iconst 1, 1) := by decide +kernel
theorem dX8_addPattern_119 : decode cX8_addPattern 119 = .ok (.isub, 1) := by decide +kernel
theorem dX8_addPattern_120 : decode cX8_addPattern 120 = .ok (.invokevirtual 91, 3) := by decide +kernel
theorem dX8_addPattern_123 : decode cX8_addPattern 123 = .ok (.ireturn, 1) := by decide +kernel
set_option maxRecDepth 20000 in
theorem ggX8_removePattern_X8_isPattern : GoodIn wsX8_removePattern wsX8_isPattern := goodIn_r _ [6, 1, 7, 8, 5, 9, 21, 22, 23, 24, 25, 26, 27, 28, 29, 30, 31, 32, 33, 34, 35, 36, 37, 38, 39, 40, 41] (by decide +kernel) (by decide +kernel)
set_option maxRecDepth 20000 in
theorem gX8_removePattern_X8_isPattern : GoodIn wsX8_removePattern (wsV RX8 99 RX8 yX8_isPattern wsX8_isPattern) := goodIn_app (goodIn_of _ (by decide +kernel)) ggX8_removePattern_X8_isPattern
set_option maxRecDepth 20000 in
theorem ggX8_removePattern_X8_remember : GoodIn wsX8_removePattern wsX8_remember := goodIn_r _ [13, 14, 1, 21, 22, 23, 24, 25, 26, 27, 28, 29, 30, 31, 32, 33, 34, 35, 36, 37, 38, 39, 40, 41] (by decide +kernel) (by decide +kernel)
set_option maxRecDepth 20000 in
theorem gX8_removePattern_X8_remember : GoodIn wsX8_removePattern (wsV RX8 85 RX8 yX8_remember wsX8_remember) := goodIn_app (goodIn_of _ (by decide +kernel)) ggX8_removePattern_X8_remember
set_option maxRecDepth 20000 in
theorem ggX8_removePattern_X8_acted : GoodIn wsX8_removePattern wsX8_acted := goodIn_r _ [18, 19, 20, 14, 21, 22, 23, 24, 25, 26, 27, 28, 29, 30, 31, 32, 33, 34, 35, 36, 37, 38, 39, 40, 41] (by decide +kernel) (by decide +kernel)
set_option maxRecDepth 20000 in
theorem gX8_removePattern_X8_acted : GoodIn wsX8_removePattern (wsV RX8 91 RX8 yX8_acted wsX8_acted) := goodIn_app (goodIn_of _ (by decide +kernel)) ggX8_removePattern_X8_acted
theorem dX8_removePattern_0 : decode cX8_removePattern 0 = .ok (.aload_n 0, 1) := by decide +kernel
theorem dX8_removePattern_1 : decode cX8_removePattern 1 = .ok (.iload_n 1, 1) := by decide +kernel
theorem dX8_removePattern_2 : decode cX8_removePattern 2 = .ok (.invokevirtual 99, 3) := by decide +kernel
theorem dX8_removePattern_5 : decode cX8_removePattern 5 = .ok (.ifCond .ne 5, 3) := by decide +kernel
theorem dX8_removePattern_8 : decode cX8_removePattern 8 = .ok (.iconst (-1), 1) := by decide +kernel
theorem dX8_removePattern_9 : decode cX8_removePattern 9 = .ok (.ireturn, 1) := by decide +kernel
theorem dX8_removePattern_10 : decode cX8_removePattern 10 = .ok (.aload_n 0, 1) := by decide +kernel
theorem dX8_removePattern_11 : decode cX8_removePattern 11 = .ok (.invokevirtual 85, 3) := by decide +kernel
theorem dX8_removePattern_14 : decode cX8_removePattern 14 = .ok (.aload_n 0, 1) := by decide +kernel
theorem dX8_removePattern_15 : decode cX8_removePattern 15 = .ok (.getfield 7, 3) := by decide +kernel
theorem dX8_removePattern_18 : decode cX8_removePattern 18 = .ok (.iconst 1, 1) := by decide +kernel
theorem dX8_removePattern_19 : decode cX8_removePattern 19 = .ok (.dup2, 1) := by decide +kernel
theorem dX8_removePattern_20 : decode cX8_removePattern 20 = .ok (.iaload, 1) := by decide +kernel
theorem dX8_removePattern_21 : decode cX8_removePattern 21 = .ok (.iconst 1, 1) := by decide +kernel
theorem dX8_removePattern_22 : decode cX8_removePattern 22 = .ok (.isub, 1) := by decide +kernel
theorem dX8_removePattern_23 : decode cX8_removePattern 23 = .ok (.iastore, 1) := by decide +kernel
theorem dX8_removePattern_24 : decode cX8_removePattern 24 = .ok (.bipush 62, 2) := by decide +kernel
theorem dX8_removePattern_26 : decode cX8_removePattern 26 = .ok (.iload_n 1, 1) := by decide +kernel
theorem dX8_removePattern_27 : decode cX8_removePattern 27 = .ok (.imul, 1) := by decide +kernel
theorem dX8_removePattern_28 : decode cX8_removePattern 28 = .ok (.istore_n 2, 1) := by decide +kernel
theorem dX8_removePattern_29 : decode cX8_removePattern 29 = .ok (.iload_n 2, 1) := by decide +kernel
theorem dX8_removePattern_30 : decode cX8_removePattern 30 = .ok (.bipush 62, 2) := by decide +kernel
theorem dX8_removePattern_32 : decode cX8_removePattern 32 = .ok (.aload_n 0, 1) := by decide +kernel
theorem dX8_removePattern_33 : decode cX8_removePattern 33 = .ok (.getfield 7, 3) := by decide +kernel
theorem dX8_removePattern_36 : decode cX8_removePattern 36 = .ok (.iconst 1, 1) := by decide +kernel
theorem dX8_removePattern_37 : decode cX8_removePattern 37 = .ok (.iaload, 1) := by decide +kernel
theorem dX8_removePattern_38 : decode cX8_removePattern 38 = .ok (.imul, 1) := by decide +kernel
theorem dX8_removePattern_39 : decode cX8_removePattern 39 = .ok (.if_icmp .ge 30, 3) := by decide +kernel
theorem dX8_removePattern_42 : decode cX8_removePattern 42 = .ok (.aload_n 0, 1) := by decide +kernel
theorem dX8_removePattern_43 : decode cX8_removePattern 43 = .ok (.getfield 7, 3) := by decide +kernel
theorem dX8_removePattern_46 : decode cX8_removePattern 46 = .ok (.bipush 123, 2) := by decide +kernel
theorem dX8_removePattern_48 : decode cX8_removePattern 48 = .ok (.iload_n 2, 1) := by decide +kernel
theorem dX8_removePattern_49 : decode cX8_removePattern 49 = .ok (.iadd, 1) := by decide +kernel
theorem dX8_removePattern_50 : decode cX8_removePattern 50 = .ok (.aload_n 0, 1) := by decide +kernel
theorem dX8_removePattern_51 : decode cX8_removePattern 51 = .ok (.getfield 7, 3) := by decide +kernel
theorem dX8_removePattern_54 : decode cX8_removePattern 54 = .ok (.bipush 123, 2) := by decide +kernel
theorem dX8_removePattern_56 : decode cX8_removePattern 56 = .ok (.iload_n 2, 1) := by decide +kernel
theorem dX8_removePattern_57 : decode cX8_removePattern 57 = .ok (.iadd, 1) := by decide +kernel
theorem dX8_removePattern_58 : decode cX8_removePattern 58 = .ok (.bipush 62, 2) := by decide +kernel
theorem dX8_removePattern_60 : decode cX8_removePattern 60 = .ok (.iadd, 1) := by decide +kernel
theorem dX8_removePattern_61 : decode cX8_removePattern 61 = .ok (.iaload, 1) := by decide +kernel
theorem dX8_removePattern_62 : decode cX8_removePattern 62 = .ok (.iastore, 1) := by decide +kernel
theorem dX8_removePattern_63 : decode cX8_removePattern 63 = .ok (.iinc 2 1, 3) := by decide +kernel
theorem dX8_removePattern_66 : decode cX8_removePattern 66 = .ok (.goto (-37), 3) := by decide +kernel
theorem dX8_removePattern_69 : decode cX8_removePattern 69 = .ok (.aload_n 0, 1) := by decide +kernel
theorem dX8_removePattern_70 : decode cX8_removePattern 70 = .ok (.aload_n 0, 1) := by decide +kernel
theorem dX8_removePattern_71 : decode cX8_removePattern 71 = .ok (.getfield 7, 3) := by decide +kernel
theorem dX8_removePattern_74 : decode cX8_removePattern 74 = .ok (.iconst 1, 1) := by decide +kernel
theorem dX8_removePattern_75 : decode cX8_removePattern 75 = .ok (.iaload, 1) := by decide +kernel
theorem dX8_removePattern_76 : decode cX8_removePattern 76 = .ok (.invokevirtual 91, 3) := by decide +kernel
theorem dX8_removePattern_79 : decode cX8_removePattern 79 = .ok (.ireturn, 1) := by decide +kernel
set_option maxRecDepth 20000 in
theorem ggX8_setSlips_X8_in : GoodIn wsX8_setSlips wsX8_in := goodIn_r _ [6] (by decide +kernel) (by decide +kernel)
set_option maxRecDepth 20000 in
theorem gX8_setSlips_X8_in : GoodIn wsX8_setSlips (va_wsS RX8 47 yX8_in wsX8_in) := goodIn_app (goodIn_of _ (by decide +kernel)) ggX8_setSlips_X8_in
set_option maxRecDepth 20000 in
theorem ggX8_setSlips_X8_remember : GoodIn wsX8_setSlips wsX8_remember := goodIn_r _ [10, 11, 2, 18, 19, 20, 21, 22, 23, 24, 25, 26, 27, 28, 29, 30, 31, 32, 33, 34, 35, 36, 37, 38] (by decide +kernel) (by decide +kernel)
set_option maxRecDepth 20000 in
theorem gX8_setSlips_X8_remember : GoodIn wsX8_setSlips (wsV RX8 85 RX8 yX8_remember wsX8_remember) := goodIn_app (goodIn_of _ (by decide +kernel)) ggX8_setSlips_X8_remember
set_option maxRecDepth 20000 in
theorem ggX8_setSlips_X8_acted : GoodIn wsX8_setSlips wsX8_acted := goodIn_r _ [15, 16, 17, 11, 18, 19, 20, 21, 22, 23, 24, 25, 26, 27, 28, 29, 30, 31, 32, 33, 34, 35, 36, 37, 38] (by decide +kernel) (by decide +kernel)
set_option maxRecDepth 20000 in
theorem gX8_setSlips_X8_acted : GoodIn wsX8_setSlips (wsV RX8 91 RX8 yX8_acted wsX8_acted) := goodIn_app (goodIn_of _ (by decide +kernel)) ggX8_setSlips_X8_acted
theorem dX8_setSlips_0 : decode cX8_setSlips 0 = .ok (.iload_n 1, 1) := by decide +kernel
theorem dX8_setSlips_1 : decode cX8_setSlips 1 = .ok (.i2l, 1) := by decide +kernel
theorem dX8_setSlips_2 : decode cX8_setSlips 2 = .ok (.lconst 0, 1) := by decide +kernel
theorem dX8_setSlips_3 : decode cX8_setSlips 3 = .ok (.ldc2_w 142, 3) := by decide +kernel
theorem dX8_setSlips_6 : decode cX8_setSlips 6 = .ok (.invokestatic 47, 3) := by decide +kernel
theorem dX8_setSlips_9 : decode cX8_setSlips 9 = .ok (.ifCond .ne 6, 3) := by decide +kernel
theorem dX8_setSlips_12 : decode cX8_setSlips 12 = .ok (.bipush (-2), 2) := by decide +kernel
theorem dX8_setSlips_14 : decode cX8_setSlips 14 = .ok (.ireturn, 1) := by decide +kernel
theorem dX8_setSlips_15 : decode cX8_setSlips 15 = .ok (.aload_n 0, 1) := by decide +kernel
theorem dX8_setSlips_16 : decode cX8_setSlips 16 = .ok (.getfield 7, 3) := by decide +kernel
theorem dX8_setSlips_19 : decode cX8_setSlips 19 = .ok (.iconst 2, 1) := by decide +kernel
theorem dX8_setSlips_20 : decode cX8_setSlips 20 = .ok (.iaload, 1) := by decide +kernel
theorem dX8_setSlips_21 : decode cX8_setSlips 21 = .ok (.istore_n 2, 1) := by decide +kernel
theorem dX8_setSlips_22 : decode cX8_setSlips 22 = .ok (.iload_n 2, 1) := by decide +kernel
theorem dX8_setSlips_23 : decode cX8_setSlips 23 = .ok (.iload_n 1, 1) := by decide +kernel
theorem dX8_setSlips_24 : decode cX8_setSlips 24 = .ok (.if_icmp .ne 6, 3) := by decide +kernel
theorem dX8_setSlips_27 : decode cX8_setSlips 27 = .ok (.bipush (-5), 2) := by decide +kernel
theorem dX8_setSlips_29 : decode cX8_setSlips 29 = .ok (.ireturn, 1) := by decide +kernel
theorem dX8_setSlips_30 : decode cX8_setSlips 30 = .ok (.aload_n 0, 1) := by decide +kernel
theorem dX8_setSlips_31 : decode cX8_setSlips 31 = .ok (.invokevirtual 85, 3) := by decide +kernel
theorem dX8_setSlips_34 : decode cX8_setSlips 34 = .ok (.aload_n 0, 1) := by decide +kernel
theorem dX8_setSlips_35 : decode cX8_setSlips 35 = .ok (.getfield 7, 3) := by decide +kernel
theorem dX8_setSlips_38 : decode cX8_setSlips 38 = .ok (.iconst 2, 1) := by decide +kernel
theorem dX8_setSlips_39 : decode cX8_setSlips 39 = .ok (.iload_n 1, 1) := by decide +kernel
theorem dX8_setSlips_40 : decode cX8_setSlips 40 = .ok (.iastore, 1) := by decide +kernel
theorem dX8_setSlips_41 : decode cX8_setSlips 41 = .ok (.aload_n 0, 1) := by decide +kernel
theorem dX8_setSlips_42 : decode cX8_setSlips 42 = .ok (.iload_n 2, 1) := by decide +kernel
theorem dX8_setSlips_43 : decode cX8_setSlips 43 = .ok (.invokevirtual 91, 3) := by decide +kernel
theorem dX8_setSlips_46 : decode cX8_setSlips 46 = .ok (.ireturn, 1) := by decide +kernel
theorem dX8_undo_0 : decode cX8_undo 0 = .ok (.aload_n 0, 1) := by decide +kernel
theorem dX8_undo_1 : decode cX8_undo 1 = .ok (.getfield 43, 3) := by decide +kernel
theorem dX8_undo_4 : decode cX8_undo 4 = .ok (.ifCond .ne 6, 3) := by decide +kernel
theorem dX8_undo_7 : decode cX8_undo 7 = .ok (.bipush (-5), 2) := by decide +kernel
theorem dX8_undo_9 : decode cX8_undo 9 = .ok (.ireturn, 1) := by decide +kernel
theorem dX8_undo_10 : decode cX8_undo 10 = .ok (.aload_n 0, 1) := by decide +kernel
theorem dX8_undo_11 : decode cX8_undo 11 = .ok (.dup, 1) := by decide +kernel
theorem dX8_undo_12 : decode cX8_undo 12 = .ok (.getfield 43, 3) := by decide +kernel
theorem dX8_undo_15 : decode cX8_undo 15 = .ok (.iconst 1, 1) := by decide +kernel
theorem dX8_undo_16 : decode cX8_undo 16 = .ok (.isub, 1) := by decide +kernel
theorem dX8_undo_17 : decode cX8_undo 17 = .ok (.putfield 43, 3) := by decide +kernel
theorem dX8_undo_20 : decode cX8_undo 20 = .ok (.iconst 0, 1) := by decide +kernel
theorem dX8_undo_21 : decode cX8_undo 21 = .ok (.istore_n 1, 1) := by decide +kernel
theorem dX8_undo_22 : decode cX8_undo 22 = .ok (.iload_n 1, 1) := by decide +kernel
theorem dX8_undo_23 : decode cX8_undo 23 = .ok (.sipush 496, 3) := by decide +kernel
theorem dX8_undo_26 : decode cX8_undo 26 = .ok (.if_icmp .ge 30, 3) := by decide +kernel
theorem dX8_undo_29 : decode cX8_undo 29 = .ok (.aload_n 0, 1) := by decide +kernel
theorem dX8_undo_30 : decode cX8_undo 30 = .ok (.getfield 7, 3) := by decide +kernel
theorem dX8_undo_33 : decode cX8_undo 33 = .ok (.iload_n 1, 1) := by decide +kernel
theorem dX8_undo_34 : decode cX8_undo 34 = .ok (.aload_n 0, 1) := by decide +kernel
theorem dX8_undo_35 : decode cX8_undo 35 = .ok (.getfield 16, 3) := by decide +kernel
theorem dX8_undo_38 : decode cX8_undo 38 = .ok (.sipush 496, 3) := by decide +kernel
theorem dX8_undo_41 : decode cX8_undo 41 = .ok (.aload_n 0, 1) := by decide +kernel
theorem dX8_undo_42 : decode cX8_undo 42 = .ok (.getfield 43, 3) := by decide +kernel
theorem dX8_undo_45 : decode cX8_undo 45 = .ok (.imul, 1) := by decide +kernel
theorem dX8_undo_46 : decode cX8_undo 46 = .ok (.iload_n 1, 1) := by decide +kernel
theorem dX8_undo_47 : decode cX8_undo 47 = .ok (.iadd, 1) := by decide +kernel
theorem dX8_undo_48 : decode cX8_undo 48 = .ok (.iaload, 1) := by decide +kernel
theorem dX8_undo_49 : decode cX8_undo 49 = .ok (.iastore, 1) := by decide +kernel
theorem dX8_undo_50 : decode cX8_undo 50 = .ok (.iinc 1 1, 3) := by decide +kernel
theorem dX8_undo_53 : decode cX8_undo 53 = .ok (.goto (-31), 3) := by decide +kernel
theorem dX8_undo_56 : decode cX8_undo 56 = .ok (.aload_n 0, 1) := by decide +kernel
theorem dX8_undo_57 : decode cX8_undo 57 = .ok (.getfield 43, 3) := by decide +kernel
theorem dX8_undo_60 : decode cX8_undo 60 = .ok (.ireturn, 1) := by decide +kernel
theorem dX8_keep_0 : decode cX8_keep 0 = .ok (.iconst 0, 1) := by decide +kernel
theorem dX8_keep_1 : decode cX8_keep 1 = .ok (.istore_n 1, 1) := by decide +kernel
theorem dX8_keep_2 : decode cX8_keep 2 = .ok (.iload_n 1, 1) := by decide +kernel
theorem dX8_keep_3 : decode cX8_keep 3 = .ok (.sipush 496, 3) := by decide +kernel
theorem dX8_keep_6 : decode cX8_keep 6 = .ok (.if_icmp .ge 21, 3) := by decide +kernel
theorem dX8_keep_9 : decode cX8_keep 9 = .ok (.aload_n 0, 1) := by decide +kernel
theorem dX8_keep_10 : decode cX8_keep 10 = .ok (.getfield 19, 3) := by decide +kernel
theorem dX8_keep_13 : decode cX8_keep 13 = .ok (.iload_n 1, 1) := by decide +kernel
theorem dX8_keep_14 : decode cX8_keep 14 = .ok (.aload_n 0, 1) := by decide +kernel
theorem dX8_keep_15 : decode cX8_keep 15 = .ok (.getfield 7, 3) := by decide +kernel
theorem dX8_keep_18 : decode cX8_keep 18 = .ok (.iload_n 1, 1) := by decide +kernel
theorem dX8_keep_19 : decode cX8_keep 19 = .ok (.iaload, 1) := by decide +kernel
theorem dX8_keep_20 : decode cX8_keep 20 = .ok (.iastore, 1) := by decide +kernel
theorem dX8_keep_21 : decode cX8_keep 21 = .ok (.iinc 1 1, 3) := by decide +kernel
theorem dX8_keep_24 : decode cX8_keep 24 = .ok (.goto (-22), 3) := by decide +kernel
theorem dX8_keep_27 : decode cX8_keep 27 = .ok (.aload_n 0, 1) := by decide +kernel
theorem dX8_keep_28 : decode cX8_keep 28 = .ok (.iconst 1, 1) := by decide +kernel
theorem dX8_keep_29 : decode cX8_keep 29 = .ok (.putfield 144, 3) := by decide +kernel
theorem dX8_keep_32 : decode cX8_keep 32 = .ok (.aload_n 0, 1) := by decide +kernel
theorem dX8_keep_33 : decode cX8_keep 33 = .ok (.getfield 7, 3) := by decide +kernel
theorem dX8_keep_36 : decode cX8_keep 36 = .ok (.iconst 0, 1) := by decide +kernel
theorem dX8_keep_37 : decode cX8_keep 37 = .ok (.iaload, 1) := by decide +kernel
theorem dX8_keep_38 : decode cX8_keep 38 = .ok (.ireturn, 1) := by decide +kernel
set_option maxRecDepth 20000 in
theorem ggX8_restore_X8_remember : GoodIn wsX8_restore wsX8_remember := goodIn_r _ [8, 9, 2, 16, 17, 18, 19, 20, 21, 22, 23, 24, 25, 26, 27, 28, 29, 30, 31, 32, 33, 34, 35, 36] (by decide +kernel) (by decide +kernel)
set_option maxRecDepth 20000 in
theorem gX8_restore_X8_remember : GoodIn wsX8_restore (wsV RX8 85 RX8 yX8_remember wsX8_remember) := goodIn_app (goodIn_of _ (by decide +kernel)) ggX8_restore_X8_remember
set_option maxRecDepth 20000 in
theorem ggX8_restore_X8_acted : GoodIn wsX8_restore wsX8_acted := goodIn_r _ [13, 14, 15, 9, 16, 17, 18, 19, 20, 21, 22, 23, 24, 25, 26, 27, 28, 29, 30, 31, 32, 33, 34, 35, 36] (by decide +kernel) (by decide +kernel)
set_option maxRecDepth 20000 in
theorem gX8_restore_X8_acted : GoodIn wsX8_restore (wsV RX8 91 RX8 yX8_acted wsX8_acted) := goodIn_app (goodIn_of _ (by decide +kernel)) ggX8_restore_X8_acted
theorem dX8_restore_0 : decode cX8_restore 0 = .ok (.aload_n 0, 1) := by decide +kernel
theorem dX8_restore_1 : decode cX8_restore 1 = .ok (.getfield 144, 3) := by decide +kernel
theorem dX8_restore_4 : decode cX8_restore 4 = .ok (.ifCond .ne 6, 3) := by decide +kernel
theorem dX8_restore_7 : decode cX8_restore 7 = .ok (.bipush (-5), 2) := by decide +kernel
theorem dX8_restore_9 : decode cX8_restore 9 = .ok (.ireturn, 1) := by decide +kernel
theorem dX8_restore_10 : decode cX8_restore 10 = .ok (.aload_n 0, 1) := by decide +kernel
theorem dX8_restore_11 : decode cX8_restore 11 = .ok (.invokevirtual 85, 3) := by decide +kernel
theorem dX8_restore_14 : decode cX8_restore 14 = .ok (.iconst 0, 1) := by decide +kernel
theorem dX8_restore_15 : decode cX8_restore 15 = .ok (.istore_n 1, 1) := by decide +kernel
theorem dX8_restore_16 : decode cX8_restore 16 = .ok (.iload_n 1, 1) := by decide +kernel
theorem dX8_restore_17 : decode cX8_restore 17 = .ok (.sipush 496, 3) := by decide +kernel
theorem dX8_restore_20 : decode cX8_restore 20 = .ok (.if_icmp .ge 21, 3) := by decide +kernel
theorem dX8_restore_23 : decode cX8_restore 23 = .ok (.aload_n 0, 1) := by decide +kernel
theorem dX8_restore_24 : decode cX8_restore 24 = .ok (.getfield 7, 3) := by decide +kernel
theorem dX8_restore_27 : decode cX8_restore 27 = .ok (.iload_n 1, 1) := by decide +kernel
theorem dX8_restore_28 : decode cX8_restore 28 = .ok (.aload_n 0, 1) := by decide +kernel
theorem dX8_restore_29 : decode cX8_restore 29 = .ok (.getfield 19, 3) := by decide +kernel
theorem dX8_restore_32 : decode cX8_restore 32 = .ok (.iload_n 1, 1) := by decide +kernel
theorem dX8_restore_33 : decode cX8_restore 33 = .ok (.iaload, 1) := by decide +kernel
theorem dX8_restore_34 : decode cX8_restore 34 = .ok (.iastore, 1) := by decide +kernel
theorem dX8_restore_35 : decode cX8_restore 35 = .ok (.iinc 1 1, 3) := by decide +kernel
theorem dX8_restore_38 : decode cX8_restore 38 = .ok (.goto (-22), 3) := by decide +kernel
theorem dX8_restore_41 : decode cX8_restore 41 = .ok (.aload_n 0, 1) := by decide +kernel
theorem dX8_restore_42 : decode cX8_restore 42 = .ok (.aload_n 0, 1) := by decide +kernel
theorem dX8_restore_43 : decode cX8_restore 43 = .ok (.getfield 7, 3) := by decide +kernel
theorem dX8_restore_46 : decode cX8_restore 46 = .ok (.iconst 0, 1) := by decide +kernel
theorem dX8_restore_47 : decode cX8_restore 47 = .ok (.iaload, 1) := by decide +kernel
theorem dX8_restore_48 : decode cX8_restore 48 = .ok (.invokevirtual 91, 3) := by decide +kernel
theorem dX8_restore_51 : decode cX8_restore 51 = .ok (.ireturn, 1) := by decide +kernel
set_option maxRecDepth 20000 in
theorem ggX8_at_X8_in : GoodIn wsX8_at wsX8_in := goodIn_r _ [5] (by decide +kernel) (by decide +kernel)
set_option maxRecDepth 20000 in
theorem gX8_at_X8_in : GoodIn wsX8_at (va_wsS RX8 47 yX8_in wsX8_in) := goodIn_app (goodIn_of _ (by decide +kernel)) ggX8_at_X8_in
theorem dX8_at_0 : decode cX8_at 0 = .ok (.iload_n 1, 1) := by decide +kernel
theorem dX8_at_1 : decode cX8_at 1 = .ok (.i2l, 1) := by decide +kernel
theorem dX8_at_2 : decode cX8_at 2 = .ok (.lconst 0, 1) := by decide +kernel
theorem dX8_at_3 : decode cX8_at 3 = .ok (.aload_n 0, 1) := by decide +kernel
theorem dX8_at_4 : decode cX8_at 4 = .ok (.getfield 7, 3) := by decide +kernel
theorem dX8_at_7 : decode cX8_at 7 = .ok (.iconst 0, 1) := by decide +kernel
theorem dX8_at_8 : decode cX8_at 8 = .ok (.iaload, 1) := by decide +kernel
theorem dX8_at_9 : decode cX8_at 9 = .ok (.i2l, 1) := by decide +kernel
theorem dX8_at_10 : decode cX8_at 10 = .ok (.lconst 1, 1) := by decide +kernel
theorem dX8_at_11 : decode cX8_at 11 = .ok (.lsub, 1) := by decide +kernel
theorem dX8_at_12 : decode cX8_at 12 = .ok (.invokestatic 47, 3) := by decide +kernel
theorem dX8_at_15 : decode cX8_at 15 = .ok (.ifCond .ne 5, 3) := by decide +kernel
theorem dX8_at_18 : decode cX8_at 18 = .ok (.iconst (-1), 1) := by decide +kernel
theorem dX8_at_19 : decode cX8_at 19 = .ok (.ireturn, 1) := by decide +kernel
theorem dX8_at_20 : decode cX8_at 20 = .ok (.aload_n 0, 1) := by decide +kernel
theorem dX8_at_21 : decode cX8_at 21 = .ok (.getfield 7, 3) := by decide +kernel
theorem dX8_at_24 : decode cX8_at 24 = .ok (.iconst 3, 1) := by decide +kernel
theorem dX8_at_25 : decode cX8_at 25 = .ok (.iload_n 1, 1) := by decide +kernel
theorem dX8_at_26 : decode cX8_at 26 = .ok (.iadd, 1) := by decide +kernel
theorem dX8_at_27 : decode cX8_at 27 = .ok (.iaload, 1) := by decide +kernel
theorem dX8_at_28 : decode cX8_at 28 = .ok (.istore_n 2, 1) := by decide +kernel
theorem dX8_at_29 : decode cX8_at 29 = .ok (.iload_n 2, 1) := by decide +kernel
theorem dX8_at_30 : decode cX8_at 30 = .ok (.bipush 26, 2) := by decide +kernel
theorem dX8_at_32 : decode cX8_at 32 = .ok (.if_icmp .ne 8, 3) := by decide +kernel
theorem dX8_at_35 : decode cX8_at 35 = .ok (.bipush 32, 2) := by decide +kernel
theorem dX8_at_37 : decode cX8_at 37 = .ok (.goto 7, 3) := by decide +kernel
theorem dX8_at_40 : decode cX8_at 40 = .ok (.bipush 97, 2) := by decide +kernel
theorem dX8_at_42 : decode cX8_at 42 = .ok (.iload_n 2, 1) := by decide +kernel
theorem dX8_at_43 : decode cX8_at 43 = .ok (.iadd, 1) := by decide +kernel
theorem dX8_at_44 : decode cX8_at 44 = .ok (.ireturn, 1) := by decide +kernel
set_option maxRecDepth 20000 in
theorem ggX8_manyEnds_X8_findsEnds : GoodIn wsX8_manyEnds wsX8_findsEnds := goodIn_r _ [6, 1, 7, 8, 9, 10, 11, 12, 13, 5, 14, 15, 16, 17, 18, 19, 20, 21, 22, 23, 24, 25, 26, 27, 28, 29, 30, 31, 32, 33, 34, 35, 36, 37, 38, 39, 40, 41, 42, 43, 44, 45, 46, 47, 48, 49, 50, 51, 52, 53, 54, 55] (by decide +kernel) (by decide +kernel)
set_option maxRecDepth 20000 in
theorem gX8_manyEnds_X8_findsEnds : GoodIn wsX8_manyEnds (wsV RX8 103 RX8 yX8_findsEnds wsX8_findsEnds) := goodIn_app (goodIn_of _ (by decide +kernel)) ggX8_manyEnds_X8_findsEnds
theorem dX8_manyEnds_0 : decode cX8_manyEnds 0 = .ok (.aload_n 0, 1) := by decide +kernel
theorem dX8_manyEnds_1 : decode cX8_manyEnds 1 = .ok (.iload_n 1, 1) := by decide +kernel
theorem dX8_manyEnds_2 : decode cX8_manyEnds 2 = .ok (.iload_n 2, 1) := by decide +kernel
theorem dX8_manyEnds_3 : decode cX8_manyEnds 3 = .ok (.invokevirtual 103, 3) := by decide +kernel
theorem dX8_manyEnds_6 : decode cX8_manyEnds 6 = .ok (.aload_n 0, 1) := by decide +kernel
theorem dX8_manyEnds_7 : decode cX8_manyEnds 7 = .ok (.getfield 75, 3) := by decide +kernel
theorem dX8_manyEnds_10 : decode cX8_manyEnds 10 = .ok (.ireturn, 1) := by decide +kernel
set_option maxRecDepth 20000 in
theorem ggX8_bestRank_X8_findsEnds : GoodIn wsX8_bestRank wsX8_findsEnds := goodIn_r _ [6, 1, 7, 8, 9, 10, 11, 12, 13, 5, 14, 15, 16, 17, 18, 19, 20, 21, 22, 23, 24, 25, 26, 27, 28, 29, 30, 31, 32, 33, 34, 39, 40, 41, 42, 43, 44, 45, 46, 47, 48, 49, 50, 51, 52, 53, 54, 55, 56, 57, 58, 59] (by decide +kernel) (by decide +kernel)
set_option maxRecDepth 20000 in
theorem gX8_bestRank_X8_findsEnds : GoodIn wsX8_bestRank (wsV RX8 103 RX8 yX8_findsEnds wsX8_findsEnds) := goodIn_app (goodIn_of _ (by decide +kernel)) ggX8_bestRank_X8_findsEnds
set_option maxRecDepth 20000 in
theorem ggX8_bestRank_X8_slipsOf : GoodIn wsX8_bestRank wsX8_slipsOf := goodIn_r _ [38, 8, 10, 15, 16, 17, 5, 18, 7, 39, 40, 41, 42, 43, 44, 45, 46, 47, 48, 49, 50, 51, 52, 53, 54, 55, 56, 57, 58, 59] (by decide +kernel) (by decide +kernel)
set_option maxRecDepth 20000 in
theorem gX8_bestRank_X8_slipsOf : GoodIn wsX8_bestRank (wsV RX8 146 RX8 yX8_slipsOf wsX8_slipsOf) := goodIn_app (goodIn_of _ (by decide +kernel)) ggX8_bestRank_X8_slipsOf
theorem dX8_bestRank_0 : decode cX8_bestRank 0 = .ok (.aload_n 0, 1) := by decide +kernel
theorem dX8_bestRank_1 : decode cX8_bestRank 1 = .ok (.iload_n 1, 1) := by decide +kernel
theorem dX8_bestRank_2 : decode cX8_bestRank 2 = .ok (.iconst 0, 1) := by decide +kernel
theorem dX8_bestRank_3 : decode cX8_bestRank 3 = .ok (.invokevirtual 103, 3) := by decide +kernel
theorem dX8_bestRank_6 : decode cX8_bestRank 6 = .ok (.bipush (-5), 2) := by decide +kernel
theorem dX8_bestRank_8 : decode cX8_bestRank 8 = .ok (.istore_n 2, 1) := by decide +kernel
theorem dX8_bestRank_9 : decode cX8_bestRank 9 = .ok (.iconst 0, 1) := by decide +kernel
theorem dX8_bestRank_10 : decode cX8_bestRank 10 = .ok (.istore_n 3, 1) := by decide +kernel
theorem dX8_bestRank_11 : decode cX8_bestRank 11 = .ok (.iload_n 3, 1) := by decide +kernel
theorem dX8_bestRank_12 : decode cX8_bestRank 12 = .ok (.aload_n 0, 1) := by decide +kernel
theorem dX8_bestRank_13 : decode cX8_bestRank 13 = .ok (.getfield 75, 3) := by decide +kernel
theorem dX8_bestRank_16 : decode cX8_bestRank 16 = .ok (.if_icmp .ge 36, 3) := by decide +kernel
theorem dX8_bestRank_19 : decode cX8_bestRank 19 = .ok (.iload_n 2, 1) := by decide +kernel
theorem dX8_bestRank_20 : decode cX8_bestRank 20 = .ok (.bipush (-5), 2) := by decide +kernel
theorem dX8_bestRank_22 : decode cX8_bestRank 22 = .ok (.if_icmp .eq 18, 3) := by decide +kernel
theorem dX8_bestRank_25 : decode cX8_bestRank 25 = .ok (.aload_n 0, 1) := by decide +kernel
theorem dX8_bestRank_26 : decode cX8_bestRank 26 = .ok (.iload_n 1, 1) := by decide +kernel
theorem dX8_bestRank_27 : decode cX8_bestRank 27 = .ok (.iload_n 3, 1) := by decide +kernel
theorem dX8_bestRank_28 : decode cX8_bestRank 28 = .ok (.invokevirtual 146, 3) := by decide +kernel
theorem dX8_bestRank_31 : decode cX8_bestRank 31 = .ok (.aload_n 0, 1) := by decide +kernel
theorem dX8_bestRank_32 : decode cX8_bestRank 32 = .ok (.iload_n 1, 1) := by decide +kernel
theorem dX8_bestRank_33 : decode cX8_bestRank 33 = .ok (.iload_n 2, 1) := by decide +kernel
theorem dX8_bestRank_34 : decode cX8_bestRank 34 = .ok (.invokevirtual 146, 3) := by decide +kernel
theorem dX8_bestRank_37 : decode cX8_bestRank 37 = .ok (.if_icmp .ge 7, 3) := by decide +kernel
theorem dX8_bestRank_40 : decode cX8_bestRank 40 = .ok (.iload_n 3, 1) := by decide +kernel
theorem dX8_bestRank_41 : decode cX8_bestRank 41 = .ok (.goto 4, 3) := by decide +kernel
theorem dX8_bestRank_44 : decode cX8_bestRank 44 = .ok (.iload_n 2, 1) := by decide +kernel
theorem dX8_bestRank_45 : decode cX8_bestRank 45 = .ok (.istore_n 2, 1) := by decide +kernel
theorem dX8_bestRank_46 : decode cX8_bestRank 46 = .ok (.iinc 3 1, 3) := by decide +kernel
theorem dX8_bestRank_49 : decode cX8_bestRank 49 = .ok (.goto (-38), 3) := by decide +kernel
theorem dX8_bestRank_52 : decode cX8_bestRank 52 = .ok (.iload_n 2, 1) := by decide +kernel
theorem dX8_bestRank_53 : decode cX8_bestRank 53 = .ok (.ireturn, 1) := by decide +kernel
set_option maxRecDepth 20000 in
theorem ggX8_fewestSlips_X8_bestRank : GoodIn wsX8_fewestSlips wsX8_bestRank := goodIn_r _ [5, 6, 7, 8, 9, 4, 10, 11, 12, 13, 14, 15, 16, 17, 18, 19, 20, 21, 22, 23, 24, 25, 26, 27, 28, 29, 30, 31, 32, 33, 34, 35, 36, 37, 38, 39, 40, 41, 42, 43, 44, 45, 46, 47, 48, 49, 50, 51, 52, 53, 54, 55, 56, 57, 58, 59, 60, 61, 62, 63] (by decide +kernel) (by decide +kernel)
set_option maxRecDepth 20000 in
theorem gX8_fewestSlips_X8_bestRank : GoodIn wsX8_fewestSlips (wsV RX8 149 RX8 yX8_bestRank wsX8_bestRank) := goodIn_app (goodIn_of _ (by decide +kernel)) ggX8_fewestSlips_X8_bestRank
set_option maxRecDepth 20000 in
theorem ggX8_fewestSlips_X8_slipsOf : GoodIn wsX8_fewestSlips wsX8_slipsOf := goodIn_r _ [42, 12, 14, 19, 20, 21, 4, 22, 11, 43, 44, 45, 46, 47, 48, 49, 50, 51, 52, 53, 54, 55, 56, 57, 58, 59, 60, 61, 62, 63] (by decide +kernel) (by decide +kernel)
set_option maxRecDepth 20000 in
theorem gX8_fewestSlips_X8_slipsOf : GoodIn wsX8_fewestSlips (wsV RX8 146 RX8 yX8_slipsOf wsX8_slipsOf) := goodIn_app (goodIn_of _ (by decide +kernel)) ggX8_fewestSlips_X8_slipsOf
theorem dX8_fewestSlips_0 : decode cX8_fewestSlips 0 = .ok (.aload_n 0, 1) := by decide +kernel
theorem dX8_fewestSlips_1 : decode cX8_fewestSlips 1 = .ok (.iload_n 1, 1) := by decide +kernel
theorem dX8_fewestSlips_2 : decode cX8_fewestSlips 2 = .ok (.invokevirtual 149, 3) := by decide +kernel
theorem dX8_fewestSlips_5 : decode cX8_fewestSlips 5 = .ok (.istore_n 2, 1) := by decide +kernel
theorem dX8_fewestSlips_6 : decode cX8_fewestSlips 6 = .ok (.iload_n 2, 1) := by decide +kernel
theorem dX8_fewestSlips_7 : decode cX8_fewestSlips 7 = .ok (.bipush (-5), 2) := by decide +kernel
theorem dX8_fewestSlips_9 : decode cX8_fewestSlips 9 = .ok (.if_icmp .ne 8, 3) := by decide +kernel
theorem dX8_fewestSlips_12 : decode cX8_fewestSlips 12 = .ok (.bipush (-5), 2) := by decide +kernel
theorem dX8_fewestSlips_14 : decode cX8_fewestSlips 14 = .ok (.goto 9, 3) := by decide +kernel
theorem dX8_fewestSlips_17 : decode cX8_fewestSlips 17 = .ok (.aload_n 0, 1) := by decide +kernel
theorem dX8_fewestSlips_18 : decode cX8_fewestSlips 18 = .ok (.iload_n 1, 1) := by decide +kernel
theorem dX8_fewestSlips_19 : decode cX8_fewestSlips 19 = .ok (.iload_n 2, 1) := by decide +kernel
theorem dX8_fewestSlips_20 : decode cX8_fewestSlips 20 = .ok (.invokevirtual 146, 3) := by decide +kernel
theorem dX8_fewestSlips_23 : decode cX8_fewestSlips 23 = .ok (.ireturn, 1) := by decide +kernel
set_option maxRecDepth 20000 in
theorem ggX8_firstBest_X8_bestRank : GoodIn wsX8_firstBest wsX8_bestRank := goodIn_r _ [6, 7, 8, 9, 10, 5, 11, 12, 13, 14, 1, 15, 16, 17, 18, 19, 20, 21, 22, 23, 24, 25, 26, 27, 28, 29, 30, 31, 32, 33, 34, 35, 36, 37, 38, 39, 40, 41, 42, 43, 44, 45, 46, 47, 48, 49, 50, 51, 52, 53, 54, 55, 56, 57, 58, 59, 60, 61, 62, 63] (by decide +kernel) (by decide +kernel)
set_option maxRecDepth 20000 in
theorem gX8_firstBest_X8_bestRank : GoodIn wsX8_firstBest (wsV RX8 149 RX8 yX8_bestRank wsX8_bestRank) := goodIn_app (goodIn_of _ (by decide +kernel)) ggX8_firstBest_X8_bestRank
theorem dX8_firstBest_0 : decode cX8_firstBest 0 = .ok (.aload_n 0, 1) := by decide +kernel
theorem dX8_firstBest_1 : decode cX8_firstBest 1 = .ok (.iload_n 1, 1) := by decide +kernel
theorem dX8_firstBest_2 : decode cX8_firstBest 2 = .ok (.invokevirtual 149, 3) := by decide +kernel
theorem dX8_firstBest_5 : decode cX8_firstBest 5 = .ok (.istore_n 2, 1) := by decide +kernel
theorem dX8_firstBest_6 : decode cX8_firstBest 6 = .ok (.iload_n 2, 1) := by decide +kernel
theorem dX8_firstBest_7 : decode cX8_firstBest 7 = .ok (.bipush (-5), 2) := by decide +kernel
theorem dX8_firstBest_9 : decode cX8_firstBest 9 = .ok (.if_icmp .ne 8, 3) := by decide +kernel
theorem dX8_firstBest_12 : decode cX8_firstBest 12 = .ok (.bipush (-5), 2) := by decide +kernel
theorem dX8_firstBest_14 : decode cX8_firstBest 14 = .ok (.goto 9, 3) := by decide +kernel
theorem dX8_firstBest_17 : decode cX8_firstBest 17 = .ok (.aload_n 0, 1) := by decide +kernel
theorem dX8_firstBest_18 : decode cX8_firstBest 18 = .ok (.getfield 28, 3) := by decide +kernel
theorem dX8_firstBest_21 : decode cX8_firstBest 21 = .ok (.iload_n 2, 1) := by decide +kernel
theorem dX8_firstBest_22 : decode cX8_firstBest 22 = .ok (.iaload, 1) := by decide +kernel
theorem dX8_firstBest_23 : decode cX8_firstBest 23 = .ok (.ireturn, 1) := by decide +kernel
set_option maxRecDepth 20000 in
theorem ggX8_wildPlaces_X8_places : GoodIn wsX8_wildPlaces wsX8_places := goodIn_r _ [6, 7, 12, 13, 14, 15, 16, 17, 18, 19, 20, 21, 22, 23, 24, 25, 26, 27, 28, 29, 30, 31, 32] (by decide +kernel) (by decide +kernel)
set_option maxRecDepth 20000 in
theorem gX8_wildPlaces_X8_places : GoodIn wsX8_wildPlaces (wsV RX8 55 RX8 yX8_places wsX8_places) := goodIn_app (goodIn_of _ (by decide +kernel)) ggX8_wildPlaces_X8_places
set_option maxRecDepth 20000 in
theorem ggX8_wildPlaces_X8_taking : GoodIn wsX8_wildPlaces wsX8_taking := goodIn_r _ [11, 7, 12, 13, 14, 15, 16, 17, 18, 19, 20, 21, 22, 23, 24, 25, 26, 27, 28, 29, 30, 31, 32] (by decide +kernel) (by decide +kernel)
set_option maxRecDepth 20000 in
theorem gX8_wildPlaces_X8_taking : GoodIn wsX8_wildPlaces (wsV RX8 51 RX8 yX8_taking wsX8_taking) := goodIn_app (goodIn_of _ (by decide +kernel)) ggX8_wildPlaces_X8_taking
theorem dX8_wildPlaces_0 : decode cX8_wildPlaces 0 = .ok (.iconst 0, 1) := by decide +kernel
theorem dX8_wildPlaces_1 : decode cX8_wildPlaces 1 = .ok (.istore_n 2, 1) := by decide +kernel
theorem dX8_wildPlaces_2 : decode cX8_wildPlaces 2 = .ok (.iconst 0, 1) := by decide +kernel
theorem dX8_wildPlaces_3 : decode cX8_wildPlaces 3 = .ok (.istore_n 3, 1) := by decide +kernel
theorem dX8_wildPlaces_4 : decode cX8_wildPlaces 4 = .ok (.iload_n 3, 1) := by decide +kernel
theorem dX8_wildPlaces_5 : decode cX8_wildPlaces 5 = .ok (.aload_n 0, 1) := by decide +kernel
theorem dX8_wildPlaces_6 : decode cX8_wildPlaces 6 = .ok (.iload_n 1, 1) := by decide +kernel
theorem dX8_wildPlaces_7 : decode cX8_wildPlaces 7 = .ok (.invokevirtual 55, 3) := by decide +kernel
theorem dX8_wildPlaces_10 : decode cX8_wildPlaces 10 = .ok (.if_icmp .ge 28, 3) := by decide +kernel
theorem dX8_wildPlaces_13 : decode cX8_wildPlaces 13 = .ok (.iload_n 2, 1) := by decide +kernel
theorem dX8_wildPlaces_14 : decode cX8_wildPlaces 14 = .ok (.aload_n 0, 1) := by decide +kernel
theorem dX8_wildPlaces_15 : decode cX8_wildPlaces 15 = .ok (.iload_n 1, 1) := by decide +kernel
theorem dX8_wildPlaces_16 : decode cX8_wildPlaces 16 = .ok (.iload_n 3, 1) := by decide +kernel
theorem dX8_wildPlaces_17 : decode cX8_wildPlaces 17 = .ok (.invokevirtual 51, 3) := by decide +kernel
theorem dX8_wildPlaces_20 : decode cX8_wildPlaces 20 = .ok (.ldc 130, 2) := by decide +kernel
theorem dX8_wildPlaces_22 : decode cX8_wildPlaces 22 = .ok (.if_icmp .ne 7, 3) := by decide +kernel
theorem dX8_wildPlaces_25 : decode cX8_wildPlaces 25 = .ok (.iconst 1, 1) := by decide +kernel
theorem dX8_wildPlaces_26 : decode cX8_wildPlaces 26 = .ok (.goto 4, 3) := by decide +kernel
theorem dX8_wildPlaces_29 : decode cX8_wildPlaces 29 = .ok (.iconst 0, 1) := by decide +kernel
theorem dX8_wildPlaces_30 : decode cX8_wildPlaces 30 = .ok (.iadd, 1) := by decide +kernel
theorem dX8_wildPlaces_31 : decode cX8_wildPlaces 31 = .ok (.istore_n 2, 1) := by decide +kernel
theorem dX8_wildPlaces_32 : decode cX8_wildPlaces 32 = .ok (.iinc 3 1, 3) := by decide +kernel
theorem dX8_wildPlaces_35 : decode cX8_wildPlaces 35 = .ok (.goto (-31), 3) := by decide +kernel
theorem dX8_wildPlaces_38 : decode cX8_wildPlaces 38 = .ok (.iload_n 2, 1) := by decide +kernel
theorem dX8_wildPlaces_39 : decode cX8_wildPlaces 39 = .ok (.ireturn, 1) := by decide +kernel
set_option maxRecDepth 20000 in
theorem ggX8_isPlain_X8_places : GoodIn wsX8_isPlain wsX8_places := goodIn_r _ [5, 6, 14, 15, 16, 17, 18, 19, 20, 21, 22, 23, 24, 25, 26, 27, 28, 29, 30, 31, 32, 33, 34] (by decide +kernel) (by decide +kernel)
set_option maxRecDepth 20000 in
theorem gX8_isPlain_X8_places : GoodIn wsX8_isPlain (wsV RX8 55 RX8 yX8_places wsX8_places) := goodIn_app (goodIn_of _ (by decide +kernel)) ggX8_isPlain_X8_places
set_option maxRecDepth 20000 in
theorem ggX8_isPlain_X8_taking : GoodIn wsX8_isPlain wsX8_taking := goodIn_r _ [10, 6, 14, 15, 16, 17, 18, 19, 20, 21, 22, 23, 24, 25, 26, 27, 28, 29, 30, 31, 32, 33, 34] (by decide +kernel) (by decide +kernel)
set_option maxRecDepth 20000 in
theorem gX8_isPlain_X8_taking : GoodIn wsX8_isPlain (wsV RX8 51 RX8 yX8_taking wsX8_taking) := goodIn_app (goodIn_of _ (by decide +kernel)) ggX8_isPlain_X8_taking
set_option maxRecDepth 20000 in
theorem ggX8_isPlain_X8_bits : GoodIn wsX8_isPlain wsX8_bits := goodIn_r _ [13] (by decide +kernel) (by decide +kernel)
set_option maxRecDepth 20000 in
theorem gX8_isPlain_X8_bits : GoodIn wsX8_isPlain (va_wsS RX8 152 yX8_bits wsX8_bits) := goodIn_app (goodIn_of _ (by decide +kernel)) ggX8_isPlain_X8_bits
theorem dX8_isPlain_0 : decode cX8_isPlain 0 = .ok (.iconst 1, 1) := by decide +kernel
theorem dX8_isPlain_1 : decode cX8_isPlain 1 = .ok (.istore_n 2, 1) := by decide +kernel
theorem dX8_isPlain_2 : decode cX8_isPlain 2 = .ok (.iconst 0, 1) := by decide +kernel
theorem dX8_isPlain_3 : decode cX8_isPlain 3 = .ok (.istore_n 3, 1) := by decide +kernel
theorem dX8_isPlain_4 : decode cX8_isPlain 4 = .ok (.iload_n 3, 1) := by decide +kernel
theorem dX8_isPlain_5 : decode cX8_isPlain 5 = .ok (.aload_n 0, 1) := by decide +kernel
theorem dX8_isPlain_6 : decode cX8_isPlain 6 = .ok (.iload_n 1, 1) := by decide +kernel
theorem dX8_isPlain_7 : decode cX8_isPlain 7 = .ok (.invokevirtual 55, 3) := by decide +kernel
theorem dX8_isPlain_10 : decode cX8_isPlain 10 = .ok (.if_icmp .ge 32, 3) := by decide +kernel
theorem dX8_isPlain_13 : decode cX8_isPlain 13 = .ok (.iload_n 2, 1) := by decide +kernel
theorem dX8_isPlain_14 : decode cX8_isPlain 14 = .ok (.ifCond .eq 20, 3) := by decide +kernel
theorem dX8_isPlain_17 : decode cX8_isPlain 17 = .ok (.aload_n 0, 1) := by decide +kernel
theorem dX8_isPlain_18 : decode cX8_isPlain 18 = .ok (.iload_n 1, 1) := by decide +kernel
theorem dX8_isPlain_19 : decode cX8_isPlain 19 = .ok (.iload_n 3, 1) := by decide +kernel
theorem dX8_isPlain_20 : decode cX8_isPlain 20 = .ok (.invokevirtual 51, 3) := by decide +kernel
theorem dX8_isPlain_23 : decode cX8_isPlain 23 = .ok (.invokestatic 152, 3) := by decide +kernel
theorem dX8_isPlain_26 : decode cX8_isPlain 26 = .ok (.iconst 1, 1) := by decide +kernel
theorem dX8_isPlain_27 : decode cX8_isPlain 27 = .ok (.if_icmp .ne 7, 3) := by decide +kernel
theorem dX8_isPlain_30 : decode cX8_isPlain 30 = .ok (.iconst 1, 1) := by decide +kernel
theorem dX8_isPlain_31 : decode cX8_isPlain 31 = .ok (.goto 4, 3) := by decide +kernel
theorem dX8_isPlain_34 : decode cX8_isPlain 34 = .ok (.iconst 0, 1) := by decide +kernel
theorem dX8_isPlain_35 : decode cX8_isPlain 35 = .ok (.istore_n 2, 1) := by decide +kernel
theorem dX8_isPlain_36 : decode cX8_isPlain 36 = .ok (.iinc 3 1, 3) := by decide +kernel
theorem dX8_isPlain_39 : decode cX8_isPlain 39 = .ok (.goto (-35), 3) := by decide +kernel
theorem dX8_isPlain_42 : decode cX8_isPlain 42 = .ok (.iload_n 2, 1) := by decide +kernel
theorem dX8_isPlain_43 : decode cX8_isPlain 43 = .ok (.ireturn, 1) := by decide +kernel
set_option maxRecDepth 20000 in
theorem ggX8_pattern_X8_isPattern : GoodIn wsX8_pattern wsX8_isPattern := goodIn_r _ [6, 1, 7, 8, 5, 9, 74, 75, 76, 77, 78, 79, 80, 81, 82, 83, 84, 85, 86, 87, 88, 89, 90, 91, 92, 93, 94] (by decide +kernel) (by decide +kernel)
set_option maxRecDepth 20000 in
theorem gX8_pattern_X8_isPattern : GoodIn wsX8_pattern (wsV RX8 99 RX8 yX8_isPattern wsX8_isPattern) := goodIn_app (goodIn_of _ (by decide +kernel)) ggX8_pattern_X8_isPattern
set_option maxRecDepth 20000 in
theorem ggX8_pattern_X8_manyEnds : GoodIn wsX8_pattern wsX8_manyEnds := goodIn_r _ [13, 14, 15, 16, 17, 5, 18, 1, 19, 20, 21, 22, 23, 24, 25, 26, 27, 28, 29, 30, 31, 32, 33, 34, 35, 36, 37, 38, 39, 40, 41, 42, 43, 44, 45, 74, 75, 76, 77, 78, 79, 80, 81, 82, 83, 84, 85, 86, 87, 88, 89, 90, 91, 92, 93, 94] (by decide +kernel) (by decide +kernel)
set_option maxRecDepth 20000 in
theorem gX8_pattern_X8_manyEnds : GoodIn wsX8_pattern (wsV RX8 155 RX8 yX8_manyEnds wsX8_manyEnds) := goodIn_app (goodIn_of _ (by decide +kernel)) ggX8_pattern_X8_manyEnds
set_option maxRecDepth 20000 in
theorem ggX8_pattern_X8_fewestSlips : GoodIn wsX8_pattern wsX8_fewestSlips := goodIn_r _ [49, 50, 51, 52, 5, 53, 14, 15, 16, 17, 18, 1, 19, 20, 21, 22, 23, 24, 25, 26, 27, 28, 29, 30, 31, 32, 33, 34, 35, 36, 37, 38, 39, 40, 41, 42, 43, 44, 45, 54, 55, 56, 57, 74, 75, 76, 77, 78, 79, 80, 81, 82, 83, 84, 85, 86, 87, 88, 89, 90, 91, 92, 93, 94] (by decide +kernel) (by decide +kernel)
set_option maxRecDepth 20000 in
theorem gX8_pattern_X8_fewestSlips : GoodIn wsX8_pattern (wsV RX8 159 RX8 yX8_fewestSlips wsX8_fewestSlips) := goodIn_app (goodIn_of _ (by decide +kernel)) ggX8_pattern_X8_fewestSlips
set_option maxRecDepth 20000 in
theorem ggX8_pattern_X8_firstBest : GoodIn wsX8_pattern wsX8_firstBest := goodIn_r _ [61, 21, 50, 51, 52, 5, 53, 14, 15, 16, 17, 18, 1, 19, 20, 22, 23, 24, 25, 26, 27, 28, 29, 30, 31, 32, 33, 34, 35, 36, 37, 38, 39, 40, 41, 42, 43, 44, 45, 54, 55, 56, 57, 74, 75, 76, 77, 78, 79, 80, 81, 82, 83, 84, 85, 86, 87, 88, 89, 90, 91, 92, 93, 94] (by decide +kernel) (by decide +kernel)
set_option maxRecDepth 20000 in
theorem gX8_pattern_X8_firstBest : GoodIn wsX8_pattern (wsV RX8 162 RX8 yX8_firstBest wsX8_firstBest) := goodIn_app (goodIn_of _ (by decide +kernel)) ggX8_pattern_X8_firstBest
set_option maxRecDepth 20000 in
theorem ggX8_pattern_X8_wildPlaces : GoodIn wsX8_pattern wsX8_wildPlaces := goodIn_r _ [65, 66, 26, 27, 28, 5, 29, 1, 42, 43, 44, 45, 74, 75, 76, 77, 78, 79, 80, 81, 82, 83, 84, 85, 86, 87, 88, 89, 90, 91, 92, 93, 94] (by decide +kernel) (by decide +kernel)
set_option maxRecDepth 20000 in
theorem gX8_pattern_X8_wildPlaces : GoodIn wsX8_pattern (wsV RX8 165 RX8 yX8_wildPlaces wsX8_wildPlaces) := goodIn_app (goodIn_of _ (by decide +kernel)) ggX8_pattern_X8_wildPlaces
set_option maxRecDepth 20000 in
theorem ggX8_pattern_X8_isPlain : GoodIn wsX8_pattern wsX8_isPlain := goodIn_r _ [70, 26, 27, 28, 5, 29, 1, 42, 43, 44, 45, 71, 72, 73, 74, 75, 76, 77, 78, 79, 80, 81, 82, 83, 84, 85, 86, 87, 88, 89, 90, 91, 92, 93, 94] (by decide +kernel) (by decide +kernel)
set_option maxRecDepth 20000 in
theorem gX8_pattern_X8_isPlain : GoodIn wsX8_pattern (wsV RX8 168 RX8 yX8_isPlain wsX8_isPlain) := goodIn_app (goodIn_of _ (by decide +kernel)) ggX8_pattern_X8_isPlain
theorem dX8_pattern_0 : decode cX8_pattern 0 = .ok (.aload_n 0, 1) := by decide +kernel
theorem dX8_pattern_1 : decode cX8_pattern 1 = .ok (.iload_n 1, 1) := by decide +kernel
theorem dX8_pattern_2 : decode cX8_pattern 2 = .ok (.invokevirtual 99, 3) := by decide +kernel
theorem dX8_pattern_5 : decode cX8_pattern 5 = .ok (.ifCond .ne 5, 3) := by decide +kernel
theorem dX8_pattern_8 : decode cX8_pattern 8 = .ok (.iconst (-1), 1) := by decide +kernel
theorem dX8_pattern_9 : decode cX8_pattern 9 = .ok (.ireturn, 1) := by decide +kernel
theorem dX8_pattern_10 : decode cX8_pattern 10 = .ok (.iload_n 2, 1) := by decide +kernel
theorem dX8_pattern_11 : decode cX8_pattern 11 = .ok (.tableswitch 106 0 7 #[45, 45, 60, 67, 74, 80, 86, 92], 45) := by decide +kernel
theorem dX8_pattern_56 : decode cX8_pattern 56 = .ok (.aload_n 0, 1) := by decide +kernel
theorem dX8_pattern_57 : decode cX8_pattern 57 = .ok (.getfield 7, 3) := by decide +kernel
theorem dX8_pattern_60 : decode cX8_pattern 60 = .ok (.bipush 123, 2) := by decide +kernel
theorem dX8_pattern_62 : decode cX8_pattern 62 = .ok (.bipush 62, 2) := by decide +kernel
theorem dX8_pattern_64 : decode cX8_pattern 64 = .ok (.iload_n 1, 1) := by decide +kernel
theorem dX8_pattern_65 : decode cX8_pattern 65 = .ok (.imul, 1) := by decide +kernel
theorem dX8_pattern_66 : decode cX8_pattern 66 = .ok (.iadd, 1) := by decide +kernel
theorem dX8_pattern_67 : decode cX8_pattern 67 = .ok (.iload_n 2, 1) := by decide +kernel
theorem dX8_pattern_68 : decode cX8_pattern 68 = .ok (.iadd, 1) := by decide +kernel
theorem dX8_pattern_69 : decode cX8_pattern 69 = .ok (.iaload, 1) := by decide +kernel
theorem dX8_pattern_70 : decode cX8_pattern 70 = .ok (.ireturn, 1) := by decide +kernel
theorem dX8_pattern_71 : decode cX8_pattern 71 = .ok (.aload_n 0, 1) := by decide +kernel
theorem dX8_pattern_72 : decode cX8_pattern 72 = .ok (.iload_n 1, 1) := by decide +kernel
theorem dX8_pattern_73 : decode cX8_pattern 73 = .ok (.iconst 0, 1) := by decide +kernel
theorem dX8_pattern_74 : decode cX8_pattern 74 = .ok (.invokevirtual 155, 3) := by decide +kernel
theorem dX8_pattern_77 : decode cX8_pattern 77 = .ok (.ireturn, 1) := by decide +kernel
theorem dX8_pattern_78 : decode cX8_pattern 78 = .ok (.aload_n 0, 1) := by decide +kernel
theorem dX8_pattern_79 : decode cX8_pattern 79 = .ok (.iload_n 1, 1) := by decide +kernel
theorem dX8_pattern_80 : decode cX8_pattern 80 = .ok (.iconst 1, 1) := by decide +kernel
theorem dX8_pattern_81 : decode cX8_pattern 81 = .ok (.invokevirtual 155, 3) := by decide +kernel
theorem dX8_pattern_84 : decode cX8_pattern 84 = .ok (.ireturn, 1) := by decide +kernel
theorem dX8_pattern_85 : decode cX8_pattern 85 = .ok (.aload_n 0, 1) := by decide +kernel
theorem dX8_pattern_86 : decode cX8_pattern 86 = .ok (.iload_n 1, 1) := by decide +kernel
theorem dX8_pattern_87 : decode cX8_pattern 87 = .ok (.invokevirtual 159, 3) := by decide +kernel
theorem dX8_pattern_90 : decode cX8_pattern 90 = .ok (.ireturn, 1) := by decide +kernel
theorem dX8_pattern_91 : decode cX8_pattern 91 = .ok (.aload_n 0, 1) := by decide +kernel
theorem dX8_pattern_92 : decode cX8_pattern 92 = .ok (.iload_n 1, 1) := by decide +kernel
theorem dX8_pattern_93 : decode cX8_pattern 93 = .ok (.invokevirtual 162, 3) := by decide +kernel
theorem dX8_pattern_96 : decode cX8_pattern 96 = .ok (.ireturn, 1) := by decide +kernel
theorem dX8_pattern_97 : decode cX8_pattern 97 = .ok (.aload_n 0, 1) := by decide +kernel
theorem dX8_pattern_98 : decode cX8_pattern 98 = .ok (.iload_n 1, 1) := by decide +kernel
theorem dX8_pattern_99 : decode cX8_pattern 99 = .ok (.invokevirtual 165, 3) := by decide +kernel
theorem dX8_pattern_102 : decode cX8_pattern 102 = .ok (.ireturn, 1) := by decide +kernel
theorem dX8_pattern_103 : decode cX8_pattern 103 = .ok (.aload_n 0, 1) := by decide +kernel
theorem dX8_pattern_104 : decode cX8_pattern 104 = .ok (.iload_n 1, 1) := by decide +kernel
theorem dX8_pattern_105 : decode cX8_pattern 105 = .ok (.invokevirtual 168, 3) := by decide +kernel
theorem dX8_pattern_108 : decode cX8_pattern 108 = .ok (.ifCond .eq 7, 3) := by decide +kernel
theorem dX8_pattern_111 : decode cX8_pattern 111 = .ok (.iconst 1, 1) := by decide +kernel
theorem dX8_pattern_112 : decode cX8_pattern 112 = .ok (.goto 4, 3) := by decide +kernel
theorem dX8_pattern_115 : decode cX8_pattern 115 = .ok (.iconst 0, 1) := by decide +kernel
theorem dX8_pattern_116 : decode cX8_pattern 116 = .ok (.ireturn, 1) := by decide +kernel
theorem dX8_pattern_117 : decode cX8_pattern 117 = .ok (.bipush (-2), 2) := by decide +kernel
theorem dX8_pattern_119 : decode cX8_pattern 119 = .ok (.ireturn, 1) := by decide +kernel
set_option maxRecDepth 20000 in
theorem ggX8_takes_X8_isPattern : GoodIn wsX8_takes wsX8_isPattern := goodIn_r _ [5, 6, 7, 8, 4, 9, 18, 19, 20, 21, 22, 23, 24, 25, 26, 27, 28, 29, 30, 31, 32, 33, 34, 35, 36, 37, 38] (by decide +kernel) (by decide +kernel)
set_option maxRecDepth 20000 in
theorem gX8_takes_X8_isPattern : GoodIn wsX8_takes (wsV RX8 99 RX8 yX8_isPattern wsX8_isPattern) := goodIn_app (goodIn_of _ (by decide +kernel)) ggX8_takes_X8_isPattern
set_option maxRecDepth 20000 in
theorem ggX8_takes_X8_places : GoodIn wsX8_takes wsX8_places := goodIn_r _ [13, 6, 18, 19, 20, 21, 22, 23, 24, 25, 26, 27, 28, 29, 30, 31, 32, 33, 34, 35, 36, 37, 38] (by decide +kernel) (by decide +kernel)
set_option maxRecDepth 20000 in
theorem gX8_takes_X8_places : GoodIn wsX8_takes (wsV RX8 55 RX8 yX8_places wsX8_places) := goodIn_app (goodIn_of _ (by decide +kernel)) ggX8_takes_X8_places
set_option maxRecDepth 20000 in
theorem ggX8_takes_X8_in : GoodIn wsX8_takes wsX8_in := goodIn_r _ [9] (by decide +kernel) (by decide +kernel)
set_option maxRecDepth 20000 in
theorem gX8_takes_X8_in : GoodIn wsX8_takes (va_wsS RX8 47 yX8_in wsX8_in) := goodIn_app (goodIn_of _ (by decide +kernel)) ggX8_takes_X8_in
set_option maxRecDepth 20000 in
theorem ggX8_takes_X8_taking : GoodIn wsX8_takes wsX8_taking := goodIn_r _ [17, 6, 18, 19, 20, 21, 22, 23, 24, 25, 26, 27, 28, 29, 30, 31, 32, 33, 34, 35, 36, 37, 38] (by decide +kernel) (by decide +kernel)
set_option maxRecDepth 20000 in
theorem gX8_takes_X8_taking : GoodIn wsX8_takes (wsV RX8 51 RX8 yX8_taking wsX8_taking) := goodIn_app (goodIn_of _ (by decide +kernel)) ggX8_takes_X8_taking
theorem dX8_takes_0 : decode cX8_takes 0 = .ok (.aload_n 0, 1) := by decide +kernel
theorem dX8_takes_1 : decode cX8_takes 1 = .ok (.iload_n 1, 1) := by decide +kernel
theorem dX8_takes_2 : decode cX8_takes 2 = .ok (.invokevirtual 99, 3) := by decide +kernel
theorem dX8_takes_5 : decode cX8_takes 5 = .ok (.ifCond .eq 29, 3) := by decide +kernel
theorem dX8_takes_8 : decode cX8_takes 8 = .ok (.iload_n 2, 1) := by decide +kernel
theorem dX8_takes_9 : decode cX8_takes 9 = .ok (.i2l, 1) := by decide +kernel
theorem dX8_takes_10 : decode cX8_takes 10 = .ok (.lconst 0, 1) := by decide +kernel
theorem dX8_takes_11 : decode cX8_takes 11 = .ok (.aload_n 0, 1) := by decide +kernel
theorem dX8_takes_12 : decode cX8_takes 12 = .ok (.iload_n 1, 1) := by decide +kernel
theorem dX8_takes_13 : decode cX8_takes 13 = .ok (.invokevirtual 55, 3) := by decide +kernel
theorem dX8_takes_16 : decode cX8_takes 16 = .ok (.i2l, 1) := by decide +kernel
theorem dX8_takes_17 : decode cX8_takes 17 = .ok (.lconst 1, 1) := by decide +kernel
theorem dX8_takes_18 : decode cX8_takes 18 = .ok (.lsub, 1) := by decide +kernel
theorem dX8_takes_19 : decode cX8_takes 19 = .ok (.invokestatic 47, 3) := by decide +kernel
theorem dX8_takes_22 : decode cX8_takes 22 = .ok (.ifCond .eq 12, 3) := by decide +kernel
theorem dX8_takes_25 : decode cX8_takes 25 = .ok (.aload_n 0, 1) := by decide +kernel
theorem dX8_takes_26 : decode cX8_takes 26 = .ok (.iload_n 1, 1) := by decide +kernel
theorem dX8_takes_27 : decode cX8_takes 27 = .ok (.iload_n 2, 1) := by decide +kernel
theorem dX8_takes_28 : decode cX8_takes 28 = .ok (.invokevirtual 51, 3) := by decide +kernel
theorem dX8_takes_31 : decode cX8_takes 31 = .ok (.goto 4, 3) := by decide +kernel
theorem dX8_takes_34 : decode cX8_takes 34 = .ok (.iconst (-1), 1) := by decide +kernel
theorem dX8_takes_35 : decode cX8_takes 35 = .ok (.ireturn, 1) := by decide +kernel
set_option maxRecDepth 20000 in
theorem ggX8_end_X8_isPattern : GoodIn wsX8_end wsX8_isPattern := goodIn_r _ [8, 9, 10, 11, 7, 12, 51, 52, 53, 54, 55, 56, 57, 58, 59, 60, 61, 62, 63, 64, 65, 66, 67, 68, 69, 70, 71] (by decide +kernel) (by decide +kernel)
set_option maxRecDepth 20000 in
theorem gX8_end_X8_isPattern : GoodIn wsX8_end (wsV RX8 99 RX8 yX8_isPattern wsX8_isPattern) := goodIn_app (goodIn_of _ (by decide +kernel)) ggX8_end_X8_isPattern
set_option maxRecDepth 20000 in
theorem ggX8_end_X8_in : GoodIn wsX8_end wsX8_in := goodIn_r _ [12] (by decide +kernel) (by decide +kernel)
set_option maxRecDepth 20000 in
theorem gX8_end_X8_in : GoodIn wsX8_end (va_wsS RX8 47 yX8_in wsX8_in) := goodIn_app (goodIn_of _ (by decide +kernel)) ggX8_end_X8_in
set_option maxRecDepth 20000 in
theorem ggX8_end_X8_findsEnds : GoodIn wsX8_end wsX8_findsEnds := goodIn_r _ [16, 2, 9, 17, 18, 3, 19, 20, 21, 7, 22, 23, 24, 25, 26, 27, 28, 29, 30, 31, 32, 33, 34, 35, 36, 37, 38, 39, 40, 41, 42, 51, 52, 53, 54, 55, 56, 57, 58, 59, 60, 61, 62, 63, 64, 65, 66, 67, 68, 69, 70, 71] (by decide +kernel) (by decide +kernel)
set_option maxRecDepth 20000 in
theorem gX8_end_X8_findsEnds : GoodIn wsX8_end (wsV RX8 103 RX8 yX8_findsEnds wsX8_findsEnds) := goodIn_app (goodIn_of _ (by decide +kernel)) ggX8_end_X8_findsEnds
set_option maxRecDepth 20000 in
theorem ggX8_end_X8_slipsOf : GoodIn wsX8_end wsX8_slipsOf := goodIn_r _ [46, 17, 3, 23, 24, 25, 7, 26, 9, 51, 52, 53, 54, 55, 56, 57, 58, 59, 60, 61, 62, 63, 64, 65, 66, 67, 68, 69, 70, 71] (by decide +kernel) (by decide +kernel)
set_option maxRecDepth 20000 in
theorem gX8_end_X8_slipsOf : GoodIn wsX8_end (wsV RX8 146 RX8 yX8_slipsOf wsX8_slipsOf) := goodIn_app (goodIn_of _ (by decide +kernel)) ggX8_end_X8_slipsOf
set_option maxRecDepth 20000 in
theorem ggX8_end_X8_beginOf : GoodIn wsX8_end wsX8_beginOf := goodIn_r _ [50, 18, 3, 23, 24, 25, 7, 26, 9, 51, 52, 53, 54, 55, 56, 57, 58, 59, 60, 61, 62, 63, 64, 65, 66, 67, 68, 69, 70, 71] (by decide +kernel) (by decide +kernel)
set_option maxRecDepth 20000 in
theorem gX8_end_X8_beginOf : GoodIn wsX8_end (wsV RX8 107 RX8 yX8_beginOf wsX8_beginOf) := goodIn_app (goodIn_of _ (by decide +kernel)) ggX8_end_X8_beginOf
theorem dX8_end_0 : decode cX8_end 0 = .ok (.aload_n 0, 1) := by decide +kernel
theorem dX8_end_1 : decode cX8_end 1 = .ok (.iload_n 1, 1) := by decide +kernel
theorem dX8_end_2 : decode cX8_end 2 = .ok (.invokevirtual 99, 3) := by decide +kernel
theorem dX8_end_5 : decode cX8_end 5 = .ok (.ifCond .ne 5, 3) := by decide +kernel
theorem dX8_end_8 : decode cX8_end 8 = .ok (.iconst (-1), 1) := by decide +kernel
theorem dX8_end_9 : decode cX8_end 9 = .ok (.ireturn, 1) := by decide +kernel
theorem dX8_end_10 : decode cX8_end 10 = .ok (.iload_n 2, 1) := by decide +kernel
theorem dX8_end_11 : decode cX8_end 11 = .ok (.ifCond .lt 16, 3) := by decide +kernel
theorem dX8_end_14 : decode cX8_end 14 = .ok (.iload 4, 2) := by decide +kernel
theorem dX8_end_16 : decode cX8_end 16 = .ok (.i2l, 1) := by decide +kernel
theorem dX8_end_17 : decode cX8_end 17 = .ok (.lconst 0, 1) := by decide +kernel
theorem dX8_end_18 : decode cX8_end 18 = .ok (.ldc2_w 171, 3) := by decide +kernel
theorem dX8_end_21 : decode cX8_end 21 = .ok (.invokestatic 47, 3) := by decide +kernel
theorem dX8_end_24 : decode cX8_end 24 = .ok (.ifCond .ne 6, 3) := by decide +kernel
theorem dX8_end_27 : decode cX8_end 27 = .ok (.bipush (-2), 2) := by decide +kernel
theorem dX8_end_29 : decode cX8_end 29 = .ok (.ireturn, 1) := by decide +kernel
theorem dX8_end_30 : decode cX8_end 30 = .ok (.aload_n 0, 1) := by decide +kernel
theorem dX8_end_31 : decode cX8_end 31 = .ok (.iload_n 1, 1) := by decide +kernel
theorem dX8_end_32 : decode cX8_end 32 = .ok (.iload_n 3, 1) := by decide +kernel
theorem dX8_end_33 : decode cX8_end 33 = .ok (.invokevirtual 103, 3) := by decide +kernel
theorem dX8_end_36 : decode cX8_end 36 = .ok (.iload_n 2, 1) := by decide +kernel
theorem dX8_end_37 : decode cX8_end 37 = .ok (.aload_n 0, 1) := by decide +kernel
theorem dX8_end_38 : decode cX8_end 38 = .ok (.getfield 75, 3) := by decide +kernel
theorem dX8_end_41 : decode cX8_end 41 = .ok (.if_icmp .lt 6, 3) := by decide +kernel
theorem dX8_end_44 : decode cX8_end 44 = .ok (.bipush (-5), 2) := by decide +kernel
theorem dX8_end_46 : decode cX8_end 46 = .ok (.ireturn, 1) := by decide +kernel
theorem dX8_end_47 : decode cX8_end 47 = .ok (.iload 4, 2) := by decide +kernel
theorem dX8_end_49 : decode cX8_end 49 = .ok (.ifCond .ne 12, 3) := by decide +kernel
theorem dX8_end_52 : decode cX8_end 52 = .ok (.aload_n 0, 1) := by decide +kernel
theorem dX8_end_53 : decode cX8_end 53 = .ok (.getfield 28, 3) := by decide +kernel
theorem dX8_end_56 : decode cX8_end 56 = .ok (.iload_n 2, 1) := by decide +kernel
theorem dX8_end_57 : decode cX8_end 57 = .ok (.iaload, 1) := by decide +kernel
theorem dX8_end_58 : decode cX8_end 58 = .ok (.goto 24, 3) := by decide +kernel
theorem dX8_end_61 : decode cX8_end 61 = .ok (.iload 4, 2) := by decide +kernel
theorem dX8_end_63 : decode cX8_end 63 = .ok (.iconst 1, 1) := by decide +kernel
theorem dX8_end_64 : decode cX8_end 64 = .ok (.if_icmp .ne 12, 3) := by decide +kernel
theorem dX8_end_67 : decode cX8_end 67 = .ok (.aload_n 0, 1) := by decide +kernel
theorem dX8_end_68 : decode cX8_end 68 = .ok (.iload_n 1, 1) := by decide +kernel
theorem dX8_end_69 : decode cX8_end 69 = .ok (.iload_n 2, 1) := by decide +kernel
theorem dX8_end_70 : decode cX8_end 70 = .ok (.invokevirtual 146, 3) := by decide +kernel
theorem dX8_end_73 : decode cX8_end 73 = .ok (.goto 9, 3) := by decide +kernel
theorem dX8_end_76 : decode cX8_end 76 = .ok (.aload_n 0, 1) := by decide +kernel
theorem dX8_end_77 : decode cX8_end 77 = .ok (.iload_n 1, 1) := by decide +kernel
theorem dX8_end_78 : decode cX8_end 78 = .ok (.iload_n 2, 1) := by decide +kernel
theorem dX8_end_79 : decode cX8_end 79 = .ok (.invokevirtual 107, 3) := by decide +kernel
theorem dX8_end_82 : decode cX8_end 82 = .ok (.ireturn, 1) := by decide +kernel
set_option maxRecDepth 20000 in
theorem ggX8_column_X8_isPattern : GoodIn wsX8_column wsX8_isPattern := goodIn_r _ [9, 2, 10, 11, 8, 12, 38, 39, 40, 41, 42, 43, 44, 45, 46, 47, 48, 49, 50, 51, 52, 53, 54, 55, 56, 57, 58] (by decide +kernel) (by decide +kernel)
set_option maxRecDepth 20000 in
theorem gX8_column_X8_isPattern : GoodIn wsX8_column (wsV RX8 99 RX8 yX8_isPattern wsX8_isPattern) := goodIn_app (goodIn_of _ (by decide +kernel)) ggX8_column_X8_isPattern
set_option maxRecDepth 20000 in
theorem ggX8_column_X8_in : GoodIn wsX8_column wsX8_in := goodIn_r _ [12] (by decide +kernel) (by decide +kernel)
set_option maxRecDepth 20000 in
theorem gX8_column_X8_in : GoodIn wsX8_column (va_wsS RX8 47 yX8_in wsX8_in) := goodIn_app (goodIn_of _ (by decide +kernel)) ggX8_column_X8_in
set_option maxRecDepth 20000 in
theorem ggX8_column_X8_finds : GoodIn wsX8_column wsX8_finds := goodIn_r _ [16, 2, 4, 17, 18, 19, 20, 8, 21, 22, 23, 24, 25, 26, 27, 28, 29, 30, 31, 32, 33, 34, 35, 36, 37, 38, 39, 40, 41, 42, 43, 44, 45, 46, 47, 48, 49, 50, 51, 52, 53, 54, 55, 56, 57, 58] (by decide +kernel) (by decide +kernel)
set_option maxRecDepth 20000 in
theorem gX8_column_X8_finds : GoodIn wsX8_column (wsV RX8 71 RX8 yX8_finds wsX8_finds) := goodIn_app (goodIn_of _ (by decide +kernel)) ggX8_column_X8_finds
set_option maxRecDepth 20000 in
theorem ggX8_column_X8_places : GoodIn wsX8_column wsX8_places := goodIn_r _ [21, 2, 38, 39, 40, 41, 42, 43, 44, 45, 46, 47, 48, 49, 50, 51, 52, 53, 54, 55, 56, 57, 58] (by decide +kernel) (by decide +kernel)
set_option maxRecDepth 20000 in
theorem gX8_column_X8_places : GoodIn wsX8_column (wsV RX8 55 RX8 yX8_places wsX8_places) := goodIn_app (goodIn_of _ (by decide +kernel)) ggX8_column_X8_places
theorem dX8_column_0 : decode cX8_column 0 = .ok (.aload_n 0, 1) := by decide +kernel
theorem dX8_column_1 : decode cX8_column 1 = .ok (.iload_n 1, 1) := by decide +kernel
theorem dX8_column_2 : decode cX8_column 2 = .ok (.invokevirtual 99, 3) := by decide +kernel
theorem dX8_column_5 : decode cX8_column 5 = .ok (.ifCond .ne 7, 3) := by decide +kernel
theorem dX8_column_8 : decode cX8_column 8 = .ok (.ldc2_w 173, 3) := by decide +kernel
theorem dX8_column_11 : decode cX8_column 11 = .ok (.lreturn, 1) := by decide +kernel
theorem dX8_column_12 : decode cX8_column 12 = .ok (.iload_n 2, 1) := by decide +kernel
theorem dX8_column_13 : decode cX8_column 13 = .ok (.i2l, 1) := by decide +kernel
theorem dX8_column_14 : decode cX8_column 14 = .ok (.lconst 0, 1) := by decide +kernel
theorem dX8_column_15 : decode cX8_column 15 = .ok (.aload_n 0, 1) := by decide +kernel
theorem dX8_column_16 : decode cX8_column 16 = .ok (.getfield 7, 3) := by decide +kernel
theorem dX8_column_19 : decode cX8_column 19 = .ok (.iconst 2, 1) := by decide +kernel
theorem dX8_column_20 : decode cX8_column 20 = .ok (.iaload, 1) := by decide +kernel
theorem dX8_column_21 : decode cX8_column 21 = .ok (.i2l, 1) := by decide +kernel
theorem dX8_column_22 : decode cX8_column 22 = .ok (.invokestatic 47, 3) := by decide +kernel
theorem dX8_column_25 : decode cX8_column 25 = .ok (.ifCond .eq 19, 3) := by decide +kernel
theorem dX8_column_28 : decode cX8_column 28 = .ok (.iload_n 3, 1) := by decide +kernel
theorem dX8_column_29 : decode cX8_column 29 = .ok (.i2l, 1) := by decide +kernel
theorem dX8_column_30 : decode cX8_column 30 = .ok (.lconst 0, 1) := by decide +kernel
theorem dX8_column_31 : decode cX8_column 31 = .ok (.aload_n 0, 1) := by decide +kernel
theorem dX8_column_32 : decode cX8_column 32 = .ok (.getfield 7, 3) := by decide +kernel
theorem dX8_column_35 : decode cX8_column 35 = .ok (.iconst 0, 1) := by decide +kernel
theorem dX8_column_36 : decode cX8_column 36 = .ok (.iaload, 1) := by decide +kernel
theorem dX8_column_37 : decode cX8_column 37 = .ok (.i2l, 1) := by decide +kernel
theorem dX8_column_38 : decode cX8_column 38 = .ok (.invokestatic 47, 3) := by decide +kernel
theorem dX8_column_41 : decode cX8_column 41 = .ok (.ifCond .ne 7, 3) := by decide +kernel
theorem dX8_column_44 : decode cX8_column 44 = .ok (.ldc2_w 175, 3) := by decide +kernel
theorem dX8_column_47 : decode cX8_column 47 = .ok (.lreturn, 1) := by decide +kernel
theorem dX8_column_48 : decode cX8_column 48 = .ok (.aload_n 0, 1) := by decide +kernel
theorem dX8_column_49 : decode cX8_column 49 = .ok (.iload_n 1, 1) := by decide +kernel
theorem dX8_column_50 : decode cX8_column 50 = .ok (.invokevirtual 71, 3) := by decide +kernel
theorem dX8_column_53 : decode cX8_column 53 = .ok (.lconst 0, 1) := by decide +kernel
theorem dX8_column_54 : decode cX8_column 54 = .ok (.lstore 4, 2) := by decide +kernel
theorem dX8_column_56 : decode cX8_column 56 = .ok (.iconst 0, 1) := by decide +kernel
theorem dX8_column_57 : decode cX8_column 57 = .ok (.istore 6, 2) := by decide +kernel
theorem dX8_column_59 : decode cX8_column 59 = .ok (.iload 6, 2) := by decide +kernel
theorem dX8_column_61 : decode cX8_column 61 = .ok (.aload_n 0, 1) := by decide +kernel
theorem dX8_column_62 : decode cX8_column 62 = .ok (.iload_n 1, 1) := by decide +kernel
theorem dX8_column_63 : decode cX8_column 63 = .ok (.invokevirtual 55, 3) := by decide +kernel
theorem dX8_column_66 : decode cX8_column 66 = .ok (.if_icmp .ge 40, 3) := by decide +kernel
theorem dX8_column_69 : decode cX8_column 69 = .ok (.lload 4, 2) := by decide +kernel
theorem dX8_column_71 : decode cX8_column 71 = .ok (.aload_n 0, 1) := by decide +kernel
theorem dX8_column_72 : decode cX8_column 72 = .ok (.getfield 22, 3) := by decide +kernel
theorem dX8_column_75 : decode cX8_column 75 = .ok (.bipush 121, 2) := by decide +kernel
theorem dX8_column_77 : decode cX8_column 77 = .ok (.iload 6, 2) := by decide +kernel
theorem dX8_column_79 : decode cX8_column 79 = .ok (.iconst 1, 1) := by decide +kernel
theorem dX8_column_80 : decode cX8_column 80 = .ok (.iadd, 1) := by decide +kernel
theorem dX8_column_81 : decode cX8_column 81 = .ok (.imul, 1) := by decide +kernel
theorem dX8_column_82 : decode cX8_column 82 = .ok (.iload_n 3, 1) := by decide +kernel
theorem dX8_column_83 : decode cX8_column 83 = .ok (.iadd, 1) := by decide +kernel
theorem dX8_column_84 : decode cX8_column 84 = .ok (.iaload, 1) := by decide +kernel
theorem dX8_column_85 : decode cX8_column 85 = .ok (.iload_n 2, 1) := by decide +kernel
theorem dX8_column_86 : decode cX8_column 86 = .ok (.if_icmp .gt 10, 3) := by decide +kernel
theorem dX8_column_89 : decode cX8_column 89 = .ok (.lconst 1, 1) := by decide +kernel
theorem dX8_column_90 : decode cX8_column 90 = .ok (.iload 6, 2) := by decide +kernel
theorem dX8_column_92 : decode cX8_column 92 = .ok (.lshl, 1) := by decide +kernel
theorem dX8_column_93 : decode cX8_column 93 = .ok (.goto 4, 3) := by decide +kernel
theorem dX8_column_96 : decode cX8_column 96 = .ok (.lconst 0, 1) := by decide +kernel
theorem dX8_column_97 : decode cX8_column 97 = .ok (.lor, 1) := by decide +kernel
theorem dX8_column_98 : decode cX8_column 98 = .ok (.lstore 4, 2) := by decide +kernel
theorem dX8_column_100 : decode cX8_column 100 = .ok (.iinc 6 1, 3) := by decide +kernel
theorem dX8_column_103 : decode cX8_column 103 = .ok (.goto (-44), 3) := by decide +kernel
theorem dX8_column_106 : decode cX8_column 106 = .ok (.lload 4, 2) := by decide +kernel
theorem dX8_column_108 : decode cX8_column 108 = .ok (.lreturn, 1) := by decide +kernel
set_option maxRecDepth 20000 in
theorem ggX8_fits_X8_places : GoodIn wsX8_fits wsX8_places := goodIn_r _ [6, 7, 16, 17, 18, 19, 20, 21, 22, 23, 24, 25, 26, 27, 28, 29, 30, 31, 32, 33, 34, 35, 36] (by decide +kernel) (by decide +kernel)
set_option maxRecDepth 20000 in
theorem gX8_fits_X8_places : GoodIn wsX8_fits (wsV RX8 55 RX8 yX8_places wsX8_places) := goodIn_app (goodIn_of _ (by decide +kernel)) ggX8_fits_X8_places
set_option maxRecDepth 20000 in
theorem ggX8_fits_X8_isTaken : GoodIn wsX8_fits wsX8_isTaken := goodIn_r _ [11, 7, 12, 13, 14, 5, 15, 16, 17, 18, 19, 20, 21, 22, 23, 24, 25, 26, 27, 28, 29, 30, 31, 32, 33, 34, 35, 36] (by decide +kernel) (by decide +kernel)
set_option maxRecDepth 20000 in
theorem gX8_fits_X8_isTaken : GoodIn wsX8_fits (wsV RX8 67 RX8 yX8_isTaken wsX8_isTaken) := goodIn_app (goodIn_of _ (by decide +kernel)) ggX8_fits_X8_isTaken
theorem dX8_fits_0 : decode cX8_fits 0 = .ok (.iconst 0, 1) := by decide +kernel
theorem dX8_fits_1 : decode cX8_fits 1 = .ok (.istore 4, 2) := by decide +kernel
theorem dX8_fits_3 : decode cX8_fits 3 = .ok (.iload 4, 2) := by decide +kernel
theorem dX8_fits_5 : decode cX8_fits 5 = .ok (.aload_n 0, 1) := by decide +kernel
theorem dX8_fits_6 : decode cX8_fits 6 = .ok (.iload_n 1, 1) := by decide +kernel
theorem dX8_fits_7 : decode cX8_fits 7 = .ok (.invokevirtual 55, 3) := by decide +kernel
theorem dX8_fits_10 : decode cX8_fits 10 = .ok (.if_icmp .gt 231, 3) := by decide +kernel
theorem dX8_fits_13 : decode cX8_fits 13 = .ok (.iconst 0, 1) := by decide +kernel
theorem dX8_fits_14 : decode cX8_fits 14 = .ok (.istore 5, 2) := by decide +kernel
theorem dX8_fits_16 : decode cX8_fits 16 = .ok (.iload 5, 2) := by decide +kernel
theorem dX8_fits_18 : decode cX8_fits 18 = .ok (.iload_n 3, 1) := by decide +kernel
theorem dX8_fits_19 : decode cX8_fits 19 = .ok (.iload_n 2, 1) := by decide +kernel
theorem dX8_fits_20 : decode cX8_fits 20 = .ok (.isub, 1) := by decide +kernel
theorem dX8_fits_21 : decode cX8_fits 21 = .ok (.if_icmp .gt 214, 3) := by decide +kernel
theorem dX8_fits_24 : decode cX8_fits 24 = .ok (.bipush 121, 2) := by decide +kernel
theorem dX8_fits_26 : decode cX8_fits 26 = .ok (.iload 4, 2) := by decide +kernel
theorem dX8_fits_28 : decode cX8_fits 28 = .ok (.imul, 1) := by decide +kernel
theorem dX8_fits_29 : decode cX8_fits 29 = .ok (.iload 5, 2) := by decide +kernel
theorem dX8_fits_31 : decode cX8_fits 31 = .ok (.iadd, 1) := by decide +kernel
theorem dX8_fits_32 : decode cX8_fits 32 = .ok (.istore 6, 2) := by decide +kernel
theorem dX8_fits_34 : decode cX8_fits 34 = .ok (.iload 4, 2) := by decide +kernel
theorem dX8_fits_36 : decode cX8_fits 36 = .ok (.ifCond .ne 12, 3) := by decide +kernel
theorem dX8_fits_39 : decode cX8_fits 39 = .ok (.iload 5, 2) := by decide +kernel
theorem dX8_fits_41 : decode cX8_fits 41 = .ok (.ifCond .ne 7, 3) := by decide +kernel
theorem dX8_fits_44 : decode cX8_fits 44 = .ok (.iconst 0, 1) := by decide +kernel
theorem dX8_fits_45 : decode cX8_fits 45 = .ok (.goto 6, 3) := by decide +kernel
theorem dX8_fits_48 : decode cX8_fits 48 = .ok (.sipush 1000, 3) := by decide +kernel
theorem dX8_fits_51 : decode cX8_fits 51 = .ok (.istore 7, 2) := by decide +kernel
theorem dX8_fits_53 : decode cX8_fits 53 = .ok (.iload 5, 2) := by decide +kernel
theorem dX8_fits_55 : decode cX8_fits 55 = .ok (.ifCond .le 33, 3) := by decide +kernel
theorem dX8_fits_58 : decode cX8_fits 58 = .ok (.aload_n 0, 1) := by decide +kernel
theorem dX8_fits_59 : decode cX8_fits 59 = .ok (.getfield 37, 3) := by decide +kernel
theorem dX8_fits_62 : decode cX8_fits 62 = .ok (.iload 6, 2) := by decide +kernel
theorem dX8_fits_64 : decode cX8_fits 64 = .ok (.iconst 1, 1) := by decide +kernel
theorem dX8_fits_65 : decode cX8_fits 65 = .ok (.isub, 1) := by decide +kernel
theorem dX8_fits_66 : decode cX8_fits 66 = .ok (.iaload, 1) := by decide +kernel
theorem dX8_fits_67 : decode cX8_fits 67 = .ok (.iconst 1, 1) := by decide +kernel
theorem dX8_fits_68 : decode cX8_fits 68 = .ok (.iadd, 1) := by decide +kernel
theorem dX8_fits_69 : decode cX8_fits 69 = .ok (.iload 7, 2) := by decide +kernel
theorem dX8_fits_71 : decode cX8_fits 71 = .ok (.if_icmp .ge 17, 3) := by decide +kernel
theorem dX8_fits_74 : decode cX8_fits 74 = .ok (.aload_n 0, 1) := by decide +kernel
theorem dX8_fits_75 : decode cX8_fits 75 = .ok (.getfield 37, 3) := by decide +kernel
theorem dX8_fits_78 : decode cX8_fits 78 = .ok (.iload 6, 2) := by decide +kernel
theorem dX8_fits_80 : decode cX8_fits 80 = .ok (.iconst 1, 1) := by decide +kernel
theorem dX8_fits_81 : decode cX8_fits 81 = .ok (.isub, 1) := by decide +kernel
theorem dX8_fits_82 : decode cX8_fits 82 = .ok (.iaload, 1) := by decide +kernel
theorem dX8_fits_83 : decode cX8_fits 83 = .ok (.iconst 1, 1) := by decide +kernel
theorem dX8_fits_84 : decode cX8_fits 84 = .ok (.iadd, 1) := by decide +kernel
theorem dX8_fits_85 : decode cX8_fits 85 = .ok (.goto 5, 3) := by decide +kernel
theorem dX8_fits_88 : decode cX8_fits 88 = .ok (.iload 7, 2) := by decide +kernel
theorem dX8_fits_90 : decode cX8_fits 90 = .ok (.istore 7, 2) := by decide +kernel
theorem dX8_fits_92 : decode cX8_fits 92 = .ok (.iload 4, 2) := by decide +kernel
theorem dX8_fits_94 : decode cX8_fits 94 = .ok (.ifCond .le 35, 3) := by decide +kernel
theorem dX8_fits_97 : decode cX8_fits 97 = .ok (.aload_n 0, 1) := by decide +kernel
theorem dX8_fits_98 : decode cX8_fits 98 = .ok (.getfield 37, 3) := by decide +kernel
theorem dX8_fits_101 : decode cX8_fits 101 = .ok (.iload 6, 2) := by decide +kernel
theorem dX8_fits_103 : decode cX8_fits 103 = .ok (.bipush 121, 2) := by decide +kernel
theorem dX8_fits_105 : decode cX8_fits 105 = .ok (.isub, 1) := by decide +kernel
theorem dX8_fits_106 : decode cX8_fits 106 = .ok (.iaload, 1) := by decide +kernel
theorem dX8_fits_107 : decode cX8_fits 107 = .ok (.iconst 1, 1) := by decide +kernel
theorem dX8_fits_108 : decode cX8_fits 108 = .ok (.iadd, 1) := by decide +kernel
theorem dX8_fits_109 : decode cX8_fits 109 = .ok (.iload 7, 2) := by decide +kernel
theorem dX8_fits_111 : decode cX8_fits 111 = .ok (.if_icmp .ge 18, 3) := by decide +kernel
theorem dX8_fits_114 : decode cX8_fits 114 = .ok (.aload_n 0, 1) := by decide +kernel
theorem dX8_fits_115 : decode cX8_fits 115 = .ok (.getfield 37, 3) := by decide +kernel
theorem dX8_fits_118 : decode cX8_fits 118 = .ok (.iload 6, 2) := by decide +kernel
theorem dX8_fits_120 : decode cX8_fits 120 = .ok (.bipush 121, 2) := by decide +kernel
theorem dX8_fits_122 : decode cX8_fits 122 = .ok (.isub, 1) := by decide +kernel
theorem dX8_fits_123 : decode cX8_fits 123 = .ok (.iaload, 1) := by decide +kernel
theorem dX8_fits_124 : decode cX8_fits 124 = .ok (.iconst 1, 1) := by decide +kernel
theorem dX8_fits_125 : decode cX8_fits 125 = .ok (.iadd, 1) := by decide +kernel
theorem dX8_fits_126 : decode cX8_fits 126 = .ok (.goto 5, 3) := by decide +kernel
theorem dX8_fits_129 : decode cX8_fits 129 = .ok (.iload 7, 2) := by decide +kernel
theorem dX8_fits_131 : decode cX8_fits 131 = .ok (.istore 7, 2) := by decide +kernel
theorem dX8_fits_133 : decode cX8_fits 133 = .ok (.iload 4, 2) := by decide +kernel
theorem dX8_fits_135 : decode cX8_fits 135 = .ok (.ifCond .le 30, 3) := by decide +kernel
theorem dX8_fits_138 : decode cX8_fits 138 = .ok (.iload 5, 2) := by decide +kernel
theorem dX8_fits_140 : decode cX8_fits 140 = .ok (.ifCond .le 25, 3) := by decide +kernel
theorem dX8_fits_143 : decode cX8_fits 143 = .ok (.aload_n 0, 1) := by decide +kernel
theorem dX8_fits_144 : decode cX8_fits 144 = .ok (.iload_n 1, 1) := by decide +kernel
theorem dX8_fits_145 : decode cX8_fits 145 = .ok (.iload 4, 2) := by decide +kernel
theorem dX8_fits_147 : decode cX8_fits 147 = .ok (.iconst 1, 1) := by decide +kernel
theorem dX8_fits_148 : decode cX8_fits 148 = .ok (.isub, 1) := by decide +kernel
theorem dX8_fits_149 : decode cX8_fits 149 = .ok (.iload_n 2, 1) := by decide +kernel
theorem dX8_fits_150 : decode cX8_fits 150 = .ok (.iload 5, 2) := by decide +kernel
theorem dX8_fits_152 : decode cX8_fits 152 = .ok (.iadd, 1) := by decide +kernel
theorem dX8_fits_153 : decode cX8_fits 153 = .ok (.iconst 1, 1) := by decide +kernel
theorem dX8_fits_154 : decode cX8_fits 154 = .ok (.isub, 1) := by decide +kernel
theorem dX8_fits_155 : decode cX8_fits 155 = .ok (.invokevirtual 67, 3) := by decide +kernel
theorem dX8_fits_158 : decode cX8_fits 158 = .ok (.ifCond .eq 7, 3) := by decide +kernel
theorem dX8_fits_161 : decode cX8_fits 161 = .ok (.iconst 0, 1) := by decide +kernel
theorem dX8_fits_162 : decode cX8_fits 162 = .ok (.goto 4, 3) := by decide +kernel
theorem dX8_fits_165 : decode cX8_fits 165 = .ok (.iconst 1, 1) := by decide +kernel
theorem dX8_fits_166 : decode cX8_fits 166 = .ok (.istore 8, 2) := by decide +kernel
theorem dX8_fits_168 : decode cX8_fits 168 = .ok (.iload 4, 2) := by decide +kernel
theorem dX8_fits_170 : decode cX8_fits 170 = .ok (.ifCond .le 46, 3) := by decide +kernel
theorem dX8_fits_173 : decode cX8_fits 173 = .ok (.iload 5, 2) := by decide +kernel
theorem dX8_fits_175 : decode cX8_fits 175 = .ok (.ifCond .le 41, 3) := by decide +kernel
theorem dX8_fits_178 : decode cX8_fits 178 = .ok (.aload_n 0, 1) := by decide +kernel
theorem dX8_fits_179 : decode cX8_fits 179 = .ok (.getfield 37, 3) := by decide +kernel
theorem dX8_fits_182 : decode cX8_fits 182 = .ok (.iload 6, 2) := by decide +kernel
theorem dX8_fits_184 : decode cX8_fits 184 = .ok (.bipush 121, 2) := by decide +kernel
theorem dX8_fits_186 : decode cX8_fits 186 = .ok (.isub, 1) := by decide +kernel
theorem dX8_fits_187 : decode cX8_fits 187 = .ok (.iconst 1, 1) := by decide +kernel
theorem dX8_fits_188 : decode cX8_fits 188 = .ok (.isub, 1) := by decide +kernel
theorem dX8_fits_189 : decode cX8_fits 189 = .ok (.iaload, 1) := by decide +kernel
theorem dX8_fits_190 : decode cX8_fits 190 = .ok (.iload 8, 2) := by decide +kernel
theorem dX8_fits_192 : decode cX8_fits 192 = .ok (.iadd, 1) := by decide +kernel
theorem dX8_fits_193 : decode cX8_fits 193 = .ok (.iload 7, 2) := by decide +kernel
theorem dX8_fits_195 : decode cX8_fits 195 = .ok (.if_icmp .ge 21, 3) := by decide +kernel
theorem dX8_fits_198 : decode cX8_fits 198 = .ok (.aload_n 0, 1) := by decide +kernel
theorem dX8_fits_199 : decode cX8_fits 199 = .ok (.getfield 37, 3) := by decide +kernel
theorem dX8_fits_202 : decode cX8_fits 202 = .ok (.iload 6, 2) := by decide +kernel
theorem dX8_fits_204 : decode cX8_fits 204 = .ok (.bipush 121, 2) := by decide +kernel
theorem dX8_fits_206 : decode cX8_fits 206 = .ok (.isub, 1) := by decide +kernel
theorem dX8_fits_207 : decode cX8_fits 207 = .ok (.iconst 1, 1) := by decide +kernel
theorem dX8_fits_208 : decode cX8_fits 208 = .ok (.isub, 1) := by decide +kernel
theorem dX8_fits_209 : decode cX8_fits 209 = .ok (.iaload, 1) := by decide +kernel
theorem dX8_fits_210 : decode cX8_fits 210 = .ok (.iload 8, 2) := by decide +kernel
theorem dX8_fits_212 : decode cX8_fits 212 = .ok (.iadd, 1) := by decide +kernel
theorem dX8_fits_213 : decode cX8_fits 213 = .ok (.goto 5, 3) := by decide +kernel
theorem dX8_fits_216 : decode cX8_fits 216 = .ok (.iload 7, 2) := by decide +kernel
theorem dX8_fits_218 : decode cX8_fits 218 = .ok (.istore 7, 2) := by decide +kernel
theorem dX8_fits_220 : decode cX8_fits 220 = .ok (.aload_n 0, 1) := by decide +kernel
theorem dX8_fits_221 : decode cX8_fits 221 = .ok (.getfield 37, 3) := by decide +kernel
theorem dX8_fits_224 : decode cX8_fits 224 = .ok (.iload 6, 2) := by decide +kernel
theorem dX8_fits_226 : decode cX8_fits 226 = .ok (.iload 7, 2) := by decide +kernel
theorem dX8_fits_228 : decode cX8_fits 228 = .ok (.iastore, 1) := by decide +kernel
theorem dX8_fits_229 : decode cX8_fits 229 = .ok (.iinc 5 1, 3) := by decide +kernel
theorem dX8_fits_232 : decode cX8_fits 232 = .ok (.goto (-216), 3) := by decide +kernel
theorem dX8_fits_235 : decode cX8_fits 235 = .ok (.iinc 4 1, 3) := by decide +kernel
theorem dX8_fits_238 : decode cX8_fits 238 = .ok (.goto (-235), 3) := by decide +kernel
theorem dX8_fits_241 : decode cX8_fits 241 = .ok (.return_, 1) := by decide +kernel
set_option maxRecDepth 20000 in
theorem ggX8_goesBack_X8_places : GoodIn wsX8_goesBack wsX8_places := goodIn_r _ [9, 10, 19, 20, 21, 22, 23, 24, 25, 26, 27, 28, 29, 30, 31, 32, 33, 34, 35, 36, 37, 38, 39] (by decide +kernel) (by decide +kernel)
set_option maxRecDepth 20000 in
theorem gX8_goesBack_X8_places : GoodIn wsX8_goesBack (wsV RX8 55 RX8 yX8_places wsX8_places) := goodIn_app (goodIn_of _ (by decide +kernel)) ggX8_goesBack_X8_places
set_option maxRecDepth 20000 in
theorem ggX8_goesBack_X8_isTaken : GoodIn wsX8_goesBack wsX8_isTaken := goodIn_r _ [14, 10, 15, 16, 17, 8, 18, 19, 20, 21, 22, 23, 24, 25, 26, 27, 28, 29, 30, 31, 32, 33, 34, 35, 36, 37, 38, 39] (by decide +kernel) (by decide +kernel)
set_option maxRecDepth 20000 in
theorem gX8_goesBack_X8_isTaken : GoodIn wsX8_goesBack (wsV RX8 67 RX8 yX8_isTaken wsX8_isTaken) := goodIn_app (goodIn_of _ (by decide +kernel)) ggX8_goesBack_X8_isTaken
theorem dX8_goesBack_0 : decode cX8_goesBack 0 = .ok (.aload_n 0, 1) := by decide +kernel
theorem dX8_goesBack_1 : decode cX8_goesBack 1 = .ok (.iconst 0, 1) := by decide +kernel
theorem dX8_goesBack_2 : decode cX8_goesBack 2 = .ok (.putfield 177, 3) := by decide +kernel
theorem dX8_goesBack_5 : decode cX8_goesBack 5 = .ok (.aload_n 0, 1) := by decide +kernel
theorem dX8_goesBack_6 : decode cX8_goesBack 6 = .ok (.iconst 0, 1) := by decide +kernel
theorem dX8_goesBack_7 : decode cX8_goesBack 7 = .ok (.putfield 180, 3) := by decide +kernel
theorem dX8_goesBack_10 : decode cX8_goesBack 10 = .ok (.aload_n 0, 1) := by decide +kernel
theorem dX8_goesBack_11 : decode cX8_goesBack 11 = .ok (.iconst 0, 1) := by decide +kernel
theorem dX8_goesBack_12 : decode cX8_goesBack 12 = .ok (.putfield 183, 3) := by decide +kernel
theorem dX8_goesBack_15 : decode cX8_goesBack 15 = .ok (.aload_n 0, 1) := by decide +kernel
theorem dX8_goesBack_16 : decode cX8_goesBack 16 = .ok (.iload_n 1, 1) := by decide +kernel
theorem dX8_goesBack_17 : decode cX8_goesBack 17 = .ok (.invokevirtual 55, 3) := by decide +kernel
theorem dX8_goesBack_20 : decode cX8_goesBack 20 = .ok (.istore 4, 2) := by decide +kernel
theorem dX8_goesBack_22 : decode cX8_goesBack 22 = .ok (.iload_n 3, 1) := by decide +kernel
theorem dX8_goesBack_23 : decode cX8_goesBack 23 = .ok (.iload_n 2, 1) := by decide +kernel
theorem dX8_goesBack_24 : decode cX8_goesBack 24 = .ok (.isub, 1) := by decide +kernel
theorem dX8_goesBack_25 : decode cX8_goesBack 25 = .ok (.istore 5, 2) := by decide +kernel
theorem dX8_goesBack_27 : decode cX8_goesBack 27 = .ok (.iload 4, 2) := by decide +kernel
theorem dX8_goesBack_29 : decode cX8_goesBack 29 = .ok (.ifCond .gt 8, 3) := by decide +kernel
theorem dX8_goesBack_32 : decode cX8_goesBack 32 = .ok (.iload 5, 2) := by decide +kernel
theorem dX8_goesBack_34 : decode cX8_goesBack 34 = .ok (.ifCond .le 207, 3) := by decide +kernel
theorem dX8_goesBack_37 : decode cX8_goesBack 37 = .ok (.bipush 121, 2) := by decide +kernel
theorem dX8_goesBack_39 : decode cX8_goesBack 39 = .ok (.iload 4, 2) := by decide +kernel
theorem dX8_goesBack_41 : decode cX8_goesBack 41 = .ok (.imul, 1) := by decide +kernel
theorem dX8_goesBack_42 : decode cX8_goesBack 42 = .ok (.iload 5, 2) := by decide +kernel
theorem dX8_goesBack_44 : decode cX8_goesBack 44 = .ok (.iadd, 1) := by decide +kernel
theorem dX8_goesBack_45 : decode cX8_goesBack 45 = .ok (.istore 6, 2) := by decide +kernel
theorem dX8_goesBack_47 : decode cX8_goesBack 47 = .ok (.iload 4, 2) := by decide +kernel
theorem dX8_goesBack_49 : decode cX8_goesBack 49 = .ok (.ifCond .le 12, 3) := by decide +kernel
theorem dX8_goesBack_52 : decode cX8_goesBack 52 = .ok (.iload 5, 2) := by decide +kernel
theorem dX8_goesBack_54 : decode cX8_goesBack 54 = .ok (.ifCond .le 7, 3) := by decide +kernel
theorem dX8_goesBack_57 : decode cX8_goesBack 57 = .ok (.iconst 1, 1) := by decide +kernel
theorem dX8_goesBack_58 : decode cX8_goesBack 58 = .ok (.goto 4, 3) := by decide +kernel
theorem dX8_goesBack_61 : decode cX8_goesBack 61 = .ok (.iconst 0, 1) := by decide +kernel
theorem dX8_goesBack_62 : decode cX8_goesBack 62 = .ok (.istore 7, 2) := by decide +kernel
theorem dX8_goesBack_64 : decode cX8_goesBack 64 = .ok (.iload 7, 2) := by decide +kernel
theorem dX8_goesBack_66 : decode cX8_goesBack 66 = .ok (.ifCond .eq 25, 3) := by decide +kernel
theorem dX8_goesBack_69 : decode cX8_goesBack 69 = .ok (.aload_n 0, 1) := by decide +kernel
theorem dX8_goesBack_70 : decode cX8_goesBack 70 = .ok (.iload_n 1, 1) := by decide +kernel
theorem dX8_goesBack_71 : decode cX8_goesBack 71 = .ok (.iload 4, 2) := by decide +kernel
theorem dX8_goesBack_73 : decode cX8_goesBack 73 = .ok (.iconst 1, 1) := by decide +kernel
theorem dX8_goesBack_74 : decode cX8_goesBack 74 = .ok (.isub, 1) := by decide +kernel
theorem dX8_goesBack_75 : decode cX8_goesBack 75 = .ok (.iload_n 2, 1) := by decide +kernel
theorem dX8_goesBack_76 : decode cX8_goesBack 76 = .ok (.iload 5, 2) := by decide +kernel
theorem dX8_goesBack_78 : decode cX8_goesBack 78 = .ok (.iadd, 1) := by decide +kernel
theorem dX8_goesBack_79 : decode cX8_goesBack 79 = .ok (.iconst 1, 1) := by decide +kernel
theorem dX8_goesBack_80 : decode cX8_goesBack 80 = .ok (.isub, 1) := by decide +kernel
theorem dX8_goesBack_81 : decode cX8_goesBack 81 = .ok (.invokevirtual 67, 3) := by decide +kernel
theorem dX8_goesBack_84 : decode cX8_goesBack 84 = .ok (.ifCond .eq 7, 3) := by decide +kernel
theorem dX8_goesBack_87 : decode cX8_goesBack 87 = .ok (.iconst 1, 1) := by decide +kernel
theorem dX8_goesBack_88 : decode cX8_goesBack 88 = .ok (.goto 4, 3) := by decide +kernel
theorem dX8_goesBack_91 : decode cX8_goesBack 91 = .ok (.iconst 0, 1) := by decide +kernel
theorem dX8_goesBack_92 : decode cX8_goesBack 92 = .ok (.istore 8, 2) := by decide +kernel
theorem dX8_goesBack_94 : decode cX8_goesBack 94 = .ok (.iload 8, 2) := by decide +kernel
theorem dX8_goesBack_96 : decode cX8_goesBack 96 = .ok (.ifCond .eq 34, 3) := by decide +kernel
theorem dX8_goesBack_99 : decode cX8_goesBack 99 = .ok (.aload_n 0, 1) := by decide +kernel
theorem dX8_goesBack_100 : decode cX8_goesBack 100 = .ok (.getfield 37, 3) := by decide +kernel
theorem dX8_goesBack_103 : decode cX8_goesBack 103 = .ok (.iload 6, 2) := by decide +kernel
theorem dX8_goesBack_105 : decode cX8_goesBack 105 = .ok (.iaload, 1) := by decide +kernel
theorem dX8_goesBack_106 : decode cX8_goesBack 106 = .ok (.aload_n 0, 1) := by decide +kernel
theorem dX8_goesBack_107 : decode cX8_goesBack 107 = .ok (.getfield 37, 3) := by decide +kernel
theorem dX8_goesBack_110 : decode cX8_goesBack 110 = .ok (.iload 6, 2) := by decide +kernel
theorem dX8_goesBack_112 : decode cX8_goesBack 112 = .ok (.bipush 121, 2) := by decide +kernel
theorem dX8_goesBack_114 : decode cX8_goesBack 114 = .ok (.isub, 1) := by decide +kernel
theorem dX8_goesBack_115 : decode cX8_goesBack 115 = .ok (.iconst 1, 1) := by decide +kernel
theorem dX8_goesBack_116 : decode cX8_goesBack 116 = .ok (.isub, 1) := by decide +kernel
theorem dX8_goesBack_117 : decode cX8_goesBack 117 = .ok (.iaload, 1) := by decide +kernel
theorem dX8_goesBack_118 : decode cX8_goesBack 118 = .ok (.if_icmp .ne 12, 3) := by decide +kernel
theorem dX8_goesBack_121 : decode cX8_goesBack 121 = .ok (.iinc 4 (-1), 3) := by decide +kernel
theorem dX8_goesBack_124 : decode cX8_goesBack 124 = .ok (.iinc 5 (-1), 3) := by decide +kernel
theorem dX8_goesBack_127 : decode cX8_goesBack 127 = .ok (.goto 111, 3) := by decide +kernel
theorem dX8_goesBack_130 : decode cX8_goesBack 130 = .ok (.iload 7, 2) := by decide +kernel
theorem dX8_goesBack_132 : decode cX8_goesBack 132 = .ok (.ifCond .eq 51, 3) := by decide +kernel
theorem dX8_goesBack_135 : decode cX8_goesBack 135 = .ok (.iload 8, 2) := by decide +kernel
theorem dX8_goesBack_137 : decode cX8_goesBack 137 = .ok (.ifCond .ne 46, 3) := by decide +kernel
theorem dX8_goesBack_140 : decode cX8_goesBack 140 = .ok (.aload_n 0, 1) := by decide +kernel
theorem dX8_goesBack_141 : decode cX8_goesBack 141 = .ok (.getfield 37, 3) := by decide +kernel
theorem dX8_goesBack_144 : decode cX8_goesBack 144 = .ok (.iload 6, 2) := by decide +kernel
theorem dX8_goesBack_146 : decode cX8_goesBack 146 = .ok (.iaload, 1) := by decide +kernel
theorem dX8_goesBack_147 : decode cX8_goesBack 147 = .ok (.aload_n 0, 1) := by decide +kernel
theorem dX8_goesBack_148 : decode cX8_goesBack 148 = .ok (.getfield 37, 3) := by decide +kernel
theorem dX8_goesBack_151 : decode cX8_goesBack 151 = .ok (.iload 6, 2) := by decide +kernel
theorem dX8_goesBack_153 : decode cX8_goesBack 153 = .ok (.bipush 121, 2) := by decide +kernel
theorem dX8_goesBack_155 : decode cX8_goesBack 155 = .ok (.isub, 1) := by decide +kernel
theorem dX8_goesBack_156 : decode cX8_goesBack 156 = .ok (.iconst 1, 1) := by decide +kernel
theorem dX8_goesBack_157 : decode cX8_goesBack 157 = .ok (.isub, 1) := by decide +kernel
theorem dX8_goesBack_158 : decode cX8_goesBack 158 = .ok (.iaload, 1) := by decide +kernel
theorem dX8_goesBack_159 : decode cX8_goesBack 159 = .ok (.iconst 1, 1) := by decide +kernel
theorem dX8_goesBack_160 : decode cX8_goesBack 160 = .ok (.iadd, 1) := by decide +kernel
theorem dX8_goesBack_161 : decode cX8_goesBack 161 = .ok (.if_icmp .ne 22, 3) := by decide +kernel
theorem dX8_goesBack_164 : decode cX8_goesBack 164 = .ok (.aload_n 0, 1) := by decide +kernel
theorem dX8_goesBack_165 : decode cX8_goesBack 165 = .ok (.dup, 1) := by decide +kernel
theorem dX8_goesBack_166 : decode cX8_goesBack 166 = .ok (.getfield 183, 3) := by decide +kernel
theorem dX8_goesBack_169 : decode cX8_goesBack 169 = .ok (.iconst 1, 1) := by decide +kernel
theorem dX8_goesBack_170 : decode cX8_goesBack 170 = .ok (.iadd, 1) := by decide +kernel
theorem dX8_goesBack_171 : decode cX8_goesBack 171 = .ok (.putfield 183, 3) := by decide +kernel
theorem dX8_goesBack_174 : decode cX8_goesBack 174 = .ok (.iinc 4 (-1), 3) := by decide +kernel
theorem dX8_goesBack_177 : decode cX8_goesBack 177 = .ok (.iinc 5 (-1), 3) := by decide +kernel
theorem dX8_goesBack_180 : decode cX8_goesBack 180 = .ok (.goto 58, 3) := by decide +kernel
theorem dX8_goesBack_183 : decode cX8_goesBack 183 = .ok (.iload 5, 2) := by decide +kernel
theorem dX8_goesBack_185 : decode cX8_goesBack 185 = .ok (.ifCond .le 40, 3) := by decide +kernel
theorem dX8_goesBack_188 : decode cX8_goesBack 188 = .ok (.aload_n 0, 1) := by decide +kernel
theorem dX8_goesBack_189 : decode cX8_goesBack 189 = .ok (.getfield 37, 3) := by decide +kernel
theorem dX8_goesBack_192 : decode cX8_goesBack 192 = .ok (.iload 6, 2) := by decide +kernel
theorem dX8_goesBack_194 : decode cX8_goesBack 194 = .ok (.iaload, 1) := by decide +kernel
theorem dX8_goesBack_195 : decode cX8_goesBack 195 = .ok (.aload_n 0, 1) := by decide +kernel
theorem dX8_goesBack_196 : decode cX8_goesBack 196 = .ok (.getfield 37, 3) := by decide +kernel
theorem dX8_goesBack_199 : decode cX8_goesBack 199 = .ok (.iload 6, 2) := by decide +kernel
theorem dX8_goesBack_201 : decode cX8_goesBack 201 = .ok (.iconst 1, 1) := by decide +kernel
theorem dX8_goesBack_202 : decode cX8_goesBack 202 = .ok (.isub, 1) := by decide +kernel
theorem dX8_goesBack_203 : decode cX8_goesBack 203 = .ok (.iaload, 1) := by decide +kernel
theorem dX8_goesBack_204 : decode cX8_goesBack 204 = .ok (.iconst 1, 1) := by decide +kernel
theorem dX8_goesBack_205 : decode cX8_goesBack 205 = .ok (.iadd, 1) := by decide +kernel
theorem dX8_goesBack_206 : decode cX8_goesBack 206 = .ok (.if_icmp .ne 19, 3) := by decide +kernel
theorem dX8_goesBack_209 : decode cX8_goesBack 209 = .ok (.aload_n 0, 1) := by decide +kernel
theorem dX8_goesBack_210 : decode cX8_goesBack 210 = .ok (.dup, 1) := by decide +kernel
theorem dX8_goesBack_211 : decode cX8_goesBack 211 = .ok (.getfield 177, 3) := by decide +kernel
theorem dX8_goesBack_214 : decode cX8_goesBack 214 = .ok (.iconst 1, 1) := by decide +kernel
theorem dX8_goesBack_215 : decode cX8_goesBack 215 = .ok (.iadd, 1) := by decide +kernel
theorem dX8_goesBack_216 : decode cX8_goesBack 216 = .ok (.putfield 177, 3) := by decide +kernel
theorem dX8_goesBack_219 : decode cX8_goesBack 219 = .ok (.iinc 5 (-1), 3) := by decide +kernel
theorem dX8_goesBack_222 : decode cX8_goesBack 222 = .ok (.goto 16, 3) := by decide +kernel
theorem dX8_goesBack_225 : decode cX8_goesBack 225 = .ok (.aload_n 0, 1) := by decide +kernel
theorem dX8_goesBack_226 : decode cX8_goesBack 226 = .ok (.dup, 1) := by decide +kernel
theorem dX8_goesBack_227 : decode cX8_goesBack 227 = .ok (.getfield 180, 3) := by decide +kernel
theorem dX8_goesBack_230 : decode cX8_goesBack 230 = .ok (.iconst 1, 1) := by decide +kernel
theorem dX8_goesBack_231 : decode cX8_goesBack 231 = .ok (.iadd, 1) := by decide +kernel
theorem dX8_goesBack_232 : decode cX8_goesBack 232 = .ok (.putfield 180, 3) := by decide +kernel
theorem dX8_goesBack_235 : decode cX8_goesBack 235 = .ok (.iinc 4 (-1), 3) := by decide +kernel
theorem dX8_goesBack_238 : decode cX8_goesBack 238 = .ok (.goto (-211), 3) := by decide +kernel
theorem dX8_goesBack_241 : decode cX8_goesBack 241 = .ok (.return_, 1) := by decide +kernel
set_option maxRecDepth 20000 in
theorem ggX8_slips_X8_isPattern : GoodIn wsX8_slips wsX8_isPattern := goodIn_r _ [10, 1, 11, 12, 9, 13, 35, 36, 37, 38, 39, 40, 41, 42, 43, 44, 45, 46, 47, 48, 49, 50, 51, 52, 53, 54, 55] (by decide +kernel) (by decide +kernel)
set_option maxRecDepth 20000 in
theorem gX8_slips_X8_isPattern : GoodIn wsX8_slips (wsV RX8 99 RX8 yX8_isPattern wsX8_isPattern) := goodIn_app (goodIn_of _ (by decide +kernel)) ggX8_slips_X8_isPattern
set_option maxRecDepth 20000 in
theorem ggX8_slips_X8_in : GoodIn wsX8_slips wsX8_in := goodIn_r _ [13] (by decide +kernel) (by decide +kernel)
set_option maxRecDepth 20000 in
theorem gX8_slips_X8_in : GoodIn wsX8_slips (va_wsS RX8 47 yX8_in wsX8_in) := goodIn_app (goodIn_of _ (by decide +kernel)) ggX8_slips_X8_in
set_option maxRecDepth 20000 in
theorem ggX8_slips_X8_fits : GoodIn wsX8_slips wsX8_fits := goodIn_r _ [17, 18, 19, 20, 21, 9, 22, 1, 23, 24, 25, 26, 27, 28, 29, 30, 35, 36, 37, 38, 39, 40, 41, 42, 43, 44, 45, 46, 47, 48, 49, 50, 51, 52, 53, 54, 55] (by decide +kernel) (by decide +kernel)
set_option maxRecDepth 20000 in
theorem gX8_slips_X8_fits : GoodIn wsX8_slips (wsV RX8 188 RX8 yX8_fits wsX8_fits) := goodIn_app (goodIn_of _ (by decide +kernel)) ggX8_slips_X8_fits
set_option maxRecDepth 20000 in
theorem ggX8_slips_X8_goesBack : GoodIn wsX8_slips wsX8_goesBack := goodIn_r _ [34, 3, 4, 5, 18, 19, 20, 21, 9, 22, 1, 23, 24, 25, 26, 27, 28, 29, 30, 35, 36, 37, 38, 39, 40, 41, 42, 43, 44, 45, 46, 47, 48, 49, 50, 51, 52, 53, 54, 55] (by decide +kernel) (by decide +kernel)
set_option maxRecDepth 20000 in
theorem gX8_slips_X8_goesBack : GoodIn wsX8_slips (wsV RX8 191 RX8 yX8_goesBack wsX8_goesBack) := goodIn_app (goodIn_of _ (by decide +kernel)) ggX8_slips_X8_goesBack
theorem dX8_slips_0 : decode cX8_slips 0 = .ok (.aload_n 0, 1) := by decide +kernel
theorem dX8_slips_1 : decode cX8_slips 1 = .ok (.iload_n 1, 1) := by decide +kernel
theorem dX8_slips_2 : decode cX8_slips 2 = .ok (.invokevirtual 99, 3) := by decide +kernel
theorem dX8_slips_5 : decode cX8_slips 5 = .ok (.ifCond .ne 5, 3) := by decide +kernel
theorem dX8_slips_8 : decode cX8_slips 8 = .ok (.iconst (-1), 1) := by decide +kernel
theorem dX8_slips_9 : decode cX8_slips 9 = .ok (.ireturn, 1) := by decide +kernel
theorem dX8_slips_10 : decode cX8_slips 10 = .ok (.iload_n 2, 1) := by decide +kernel
theorem dX8_slips_11 : decode cX8_slips 11 = .ok (.i2l, 1) := by decide +kernel
theorem dX8_slips_12 : decode cX8_slips 12 = .ok (.lconst 0, 1) := by decide +kernel
theorem dX8_slips_13 : decode cX8_slips 13 = .ok (.aload_n 0, 1) := by decide +kernel
theorem dX8_slips_14 : decode cX8_slips 14 = .ok (.getfield 7, 3) := by decide +kernel
theorem dX8_slips_17 : decode cX8_slips 17 = .ok (.iconst 0, 1) := by decide +kernel
theorem dX8_slips_18 : decode cX8_slips 18 = .ok (.iaload, 1) := by decide +kernel
theorem dX8_slips_19 : decode cX8_slips 19 = .ok (.i2l, 1) := by decide +kernel
theorem dX8_slips_20 : decode cX8_slips 20 = .ok (.invokestatic 47, 3) := by decide +kernel
theorem dX8_slips_23 : decode cX8_slips 23 = .ok (.ifCond .eq 33, 3) := by decide +kernel
theorem dX8_slips_26 : decode cX8_slips 26 = .ok (.iload_n 3, 1) := by decide +kernel
theorem dX8_slips_27 : decode cX8_slips 27 = .ok (.i2l, 1) := by decide +kernel
theorem dX8_slips_28 : decode cX8_slips 28 = .ok (.iload_n 2, 1) := by decide +kernel
theorem dX8_slips_29 : decode cX8_slips 29 = .ok (.i2l, 1) := by decide +kernel
theorem dX8_slips_30 : decode cX8_slips 30 = .ok (.aload_n 0, 1) := by decide +kernel
theorem dX8_slips_31 : decode cX8_slips 31 = .ok (.getfield 7, 3) := by decide +kernel
theorem dX8_slips_34 : decode cX8_slips 34 = .ok (.iconst 0, 1) := by decide +kernel
theorem dX8_slips_35 : decode cX8_slips 35 = .ok (.iaload, 1) := by decide +kernel
theorem dX8_slips_36 : decode cX8_slips 36 = .ok (.i2l, 1) := by decide +kernel
theorem dX8_slips_37 : decode cX8_slips 37 = .ok (.invokestatic 47, 3) := by decide +kernel
theorem dX8_slips_40 : decode cX8_slips 40 = .ok (.ifCond .eq 16, 3) := by decide +kernel
theorem dX8_slips_43 : decode cX8_slips 43 = .ok (.iload 4, 2) := by decide +kernel
theorem dX8_slips_45 : decode cX8_slips 45 = .ok (.i2l, 1) := by decide +kernel
theorem dX8_slips_46 : decode cX8_slips 46 = .ok (.lconst 0, 1) := by decide +kernel
theorem dX8_slips_47 : decode cX8_slips 47 = .ok (.ldc2_w 186, 3) := by decide +kernel
theorem dX8_slips_50 : decode cX8_slips 50 = .ok (.invokestatic 47, 3) := by decide +kernel
theorem dX8_slips_53 : decode cX8_slips 53 = .ok (.ifCond .ne 6, 3) := by decide +kernel
theorem dX8_slips_56 : decode cX8_slips 56 = .ok (.bipush (-2), 2) := by decide +kernel
theorem dX8_slips_58 : decode cX8_slips 58 = .ok (.ireturn, 1) := by decide +kernel
theorem dX8_slips_59 : decode cX8_slips 59 = .ok (.aload_n 0, 1) := by decide +kernel
theorem dX8_slips_60 : decode cX8_slips 60 = .ok (.iload_n 1, 1) := by decide +kernel
theorem dX8_slips_61 : decode cX8_slips 61 = .ok (.iload_n 2, 1) := by decide +kernel
theorem dX8_slips_62 : decode cX8_slips 62 = .ok (.iload_n 3, 1) := by decide +kernel
theorem dX8_slips_63 : decode cX8_slips 63 = .ok (.invokevirtual 188, 3) := by decide +kernel
theorem dX8_slips_66 : decode cX8_slips 66 = .ok (.aload_n 0, 1) := by decide +kernel
theorem dX8_slips_67 : decode cX8_slips 67 = .ok (.iload_n 1, 1) := by decide +kernel
theorem dX8_slips_68 : decode cX8_slips 68 = .ok (.iload_n 2, 1) := by decide +kernel
theorem dX8_slips_69 : decode cX8_slips 69 = .ok (.iload_n 3, 1) := by decide +kernel
theorem dX8_slips_70 : decode cX8_slips 70 = .ok (.invokevirtual 191, 3) := by decide +kernel
theorem dX8_slips_73 : decode cX8_slips 73 = .ok (.iload 4, 2) := by decide +kernel
theorem dX8_slips_75 : decode cX8_slips 75 = .ok (.ifCond .ne 20, 3) := by decide +kernel
theorem dX8_slips_78 : decode cX8_slips 78 = .ok (.aload_n 0, 1) := by decide +kernel
theorem dX8_slips_79 : decode cX8_slips 79 = .ok (.getfield 177, 3) := by decide +kernel
theorem dX8_slips_82 : decode cX8_slips 82 = .ok (.aload_n 0, 1) := by decide +kernel
theorem dX8_slips_83 : decode cX8_slips 83 = .ok (.getfield 180, 3) := by decide +kernel
theorem dX8_slips_86 : decode cX8_slips 86 = .ok (.iadd, 1) := by decide +kernel
theorem dX8_slips_87 : decode cX8_slips 87 = .ok (.aload_n 0, 1) := by decide +kernel
theorem dX8_slips_88 : decode cX8_slips 88 = .ok (.getfield 183, 3) := by decide +kernel
theorem dX8_slips_91 : decode cX8_slips 91 = .ok (.iadd, 1) := by decide +kernel
theorem dX8_slips_92 : decode cX8_slips 92 = .ok (.goto 33, 3) := by decide +kernel
theorem dX8_slips_95 : decode cX8_slips 95 = .ok (.iload 4, 2) := by decide +kernel
theorem dX8_slips_97 : decode cX8_slips 97 = .ok (.iconst 1, 1) := by decide +kernel
theorem dX8_slips_98 : decode cX8_slips 98 = .ok (.if_icmp .ne 10, 3) := by decide +kernel
theorem dX8_slips_101 : decode cX8_slips 101 = .ok (.aload_n 0, 1) := by decide +kernel
theorem dX8_slips_102 : decode cX8_slips 102 = .ok (.getfield 177, 3) := by decide +kernel
theorem dX8_slips_105 : decode cX8_slips 105 = .ok (.goto 20, 3) := by decide +kernel
theorem dX8_slips_108 : decode cX8_slips 108 = .ok (.iload 4, 2) := by decide +kernel
theorem dX8_slips_110 : decode cX8_slips 110 = .ok (.iconst 2, 1) := by decide +kernel
theorem dX8_slips_111 : decode cX8_slips 111 = .ok (.if_icmp .ne 10, 3) := by decide +kernel
theorem dX8_slips_114 : decode cX8_slips 114 = .ok (.aload_n 0, 1) := by decide +kernel
theorem dX8_slips_115 : decode cX8_slips 115 = .ok (.getfield 180, 3) := by decide +kernel
theorem dX8_slips_118 : decode cX8_slips 118 = .ok (.goto 7, 3) := by decide +kernel
theorem dX8_slips_121 : decode cX8_slips 121 = .ok (.aload_n 0, 1) := by decide +kernel
theorem dX8_slips_122 : decode cX8_slips 122 = .ok (.getfield 183, 3) := by decide +kernel
theorem dX8_slips_125 : decode cX8_slips 125 = .ok (.ireturn, 1) := by decide +kernel
set_option maxRecDepth 20000 in
theorem ggX8_densityOf_X8_findsEnds : GoodIn wsX8_densityOf wsX8_findsEnds := goodIn_r _ [7, 1, 2, 8, 9, 10, 11, 12, 13, 6, 14, 15, 16, 17, 18, 19, 20, 21, 22, 23, 24, 25, 26, 27, 28, 29, 30, 31, 32, 33, 34, 39, 40, 41, 42, 43, 44, 45, 46, 47, 48, 49, 50, 51, 52, 53, 54, 55, 56, 57, 58, 59] (by decide +kernel) (by decide +kernel)
set_option maxRecDepth 20000 in
theorem gX8_densityOf_X8_findsEnds : GoodIn wsX8_densityOf (wsV RX8 103 RX8 yX8_findsEnds wsX8_findsEnds) := goodIn_app (goodIn_of _ (by decide +kernel)) ggX8_densityOf_X8_findsEnds
set_option maxRecDepth 20000 in
theorem ggX8_densityOf_X8_slipsOf : GoodIn wsX8_densityOf wsX8_slipsOf := goodIn_r _ [38, 8, 10, 15, 16, 17, 6, 18, 2, 39, 40, 41, 42, 43, 44, 45, 46, 47, 48, 49, 50, 51, 52, 53, 54, 55, 56, 57, 58, 59] (by decide +kernel) (by decide +kernel)
set_option maxRecDepth 20000 in
theorem gX8_densityOf_X8_slipsOf : GoodIn wsX8_densityOf (wsV RX8 146 RX8 yX8_slipsOf wsX8_slipsOf) := goodIn_app (goodIn_of _ (by decide +kernel)) ggX8_densityOf_X8_slipsOf
theorem dX8_densityOf_0 : decode cX8_densityOf 0 = .ok (.aload_n 0, 1) := by decide +kernel
theorem dX8_densityOf_1 : decode cX8_densityOf 1 = .ok (.iload_n 1, 1) := by decide +kernel
theorem dX8_densityOf_2 : decode cX8_densityOf 2 = .ok (.iconst 0, 1) := by decide +kernel
theorem dX8_densityOf_3 : decode cX8_densityOf 3 = .ok (.invokevirtual 103, 3) := by decide +kernel
theorem dX8_densityOf_6 : decode cX8_densityOf 6 = .ok (.dconst 0, 1) := by decide +kernel
theorem dX8_densityOf_7 : decode cX8_densityOf 7 = .ok (.dstore_n 2, 1) := by decide +kernel
theorem dX8_densityOf_8 : decode cX8_densityOf 8 = .ok (.iconst 0, 1) := by decide +kernel
theorem dX8_densityOf_9 : decode cX8_densityOf 9 = .ok (.istore 4, 2) := by decide +kernel
theorem dX8_densityOf_11 : decode cX8_densityOf 11 = .ok (.iload 4, 2) := by decide +kernel
theorem dX8_densityOf_13 : decode cX8_densityOf 13 = .ok (.aload_n 0, 1) := by decide +kernel
theorem dX8_densityOf_14 : decode cX8_densityOf 14 = .ok (.getfield 75, 3) := by decide +kernel
theorem dX8_densityOf_17 : decode cX8_densityOf 17 = .ok (.if_icmp .ge 24, 3) := by decide +kernel
theorem dX8_densityOf_20 : decode cX8_densityOf 20 = .ok (.dload_n 2, 1) := by decide +kernel
theorem dX8_densityOf_21 : decode cX8_densityOf 21 = .ok (.dconst 1, 1) := by decide +kernel
theorem dX8_densityOf_22 : decode cX8_densityOf 22 = .ok (.iconst 1, 1) := by decide +kernel
theorem dX8_densityOf_23 : decode cX8_densityOf 23 = .ok (.aload_n 0, 1) := by decide +kernel
theorem dX8_densityOf_24 : decode cX8_densityOf 24 = .ok (.iload_n 1, 1) := by decide +kernel
theorem dX8_densityOf_25 : decode cX8_densityOf 25 = .ok (.iload 4, 2) := by decide +kernel
theorem dX8_densityOf_27 : decode cX8_densityOf 27 = .ok (.invokevirtual 146, 3) := by decide +kernel
theorem dX8_densityOf_30 : decode cX8_densityOf 30 = .ok (.iadd, 1) := by decide +kernel
theorem dX8_densityOf_31 : decode cX8_densityOf 31 = .ok (.i2d, 1) := by decide +kernel
theorem dX8_densityOf_32 : decode cX8_densityOf 32 = .ok (.ddiv, 1) := by decide +kernel
theorem dX8_densityOf_33 : decode cX8_densityOf 33 = .ok (.dadd, 1) := by decide +kernel
theorem dX8_densityOf_34 : decode cX8_densityOf 34 = .ok (.dstore_n 2, 1) := by decide +kernel
theorem dX8_densityOf_35 : decode cX8_densityOf 35 = .ok (.iinc 4 1, 3) := by decide +kernel
theorem dX8_densityOf_38 : decode cX8_densityOf 38 = .ok (.goto (-27), 3) := by decide +kernel
theorem dX8_densityOf_41 : decode cX8_densityOf 41 = .ok (.dload_n 2, 1) := by decide +kernel
theorem dX8_densityOf_42 : decode cX8_densityOf 42 = .ok (.aload_n 0, 1) := by decide +kernel
theorem dX8_densityOf_43 : decode cX8_densityOf 43 = .ok (.getfield 7, 3) := by decide +kernel
theorem dX8_densityOf_46 : decode cX8_densityOf 46 = .ok (.iconst 0, 1) := by decide +kernel
theorem dX8_densityOf_47 : decode cX8_densityOf 47 = .ok (.iaload, 1) := by decide +kernel
theorem dX8_densityOf_48 : decode cX8_densityOf 48 = .ok (.iconst 1, 1) := by decide +kernel
theorem dX8_densityOf_49 : decode cX8_densityOf 49 = .ok (.iadd, 1) := by decide +kernel
theorem dX8_densityOf_50 : decode cX8_densityOf 50 = .ok (.i2d, 1) := by decide +kernel
theorem dX8_densityOf_51 : decode cX8_densityOf 51 = .ok (.ddiv, 1) := by decide +kernel
theorem dX8_densityOf_52 : decode cX8_densityOf 52 = .ok (.dreturn, 1) := by decide +kernel
set_option maxRecDepth 20000 in
theorem ggX8_density_X8_isPattern : GoodIn wsX8_density wsX8_isPattern := goodIn_r _ [6, 7, 8, 9, 5, 10, 51, 52, 53, 54, 55, 56, 57, 58, 59, 60, 61, 62, 63, 64, 65, 66, 67, 68, 69, 70, 71] (by decide +kernel) (by decide +kernel)
set_option maxRecDepth 20000 in
theorem gX8_density_X8_isPattern : GoodIn wsX8_density (wsV RX8 99 RX8 yX8_isPattern wsX8_isPattern) := goodIn_app (goodIn_of _ (by decide +kernel)) ggX8_density_X8_isPattern
set_option maxRecDepth 20000 in
theorem ggX8_density_X8_densityOf : GoodIn wsX8_density wsX8_densityOf := goodIn_r _ [14, 15, 7, 16, 17, 18, 5, 19, 20, 21, 22, 23, 24, 25, 26, 27, 28, 29, 30, 31, 32, 33, 34, 35, 36, 37, 38, 39, 40, 41, 42, 43, 44, 45, 46, 47, 48, 49, 50, 51, 52, 53, 54, 55, 56, 57, 58, 59, 60, 61, 62, 63, 64, 65, 66, 67, 68, 69, 70, 71] (by decide +kernel) (by decide +kernel)
set_option maxRecDepth 20000 in
theorem gX8_density_X8_densityOf : GoodIn wsX8_density (wsV RX8 194 RX8 yX8_densityOf wsX8_densityOf) := goodIn_app (goodIn_of _ (by decide +kernel)) ggX8_density_X8_densityOf
theorem dX8_density_0 : decode cX8_density 0 = .ok (.aload_n 0, 1) := by decide +kernel
theorem dX8_density_1 : decode cX8_density 1 = .ok (.iload_n 1, 1) := by decide +kernel
theorem dX8_density_2 : decode cX8_density 2 = .ok (.invokevirtual 99, 3) := by decide +kernel
theorem dX8_density_5 : decode cX8_density 5 = .ok (.ifCond .eq 11, 3) := by decide +kernel
theorem dX8_density_8 : decode cX8_density 8 = .ok (.aload_n 0, 1) := by decide +kernel
theorem dX8_density_9 : decode cX8_density 9 = .ok (.iload_n 1, 1) := by decide +kernel
theorem dX8_density_10 : decode cX8_density 10 = .ok (.invokevirtual 194, 3) := by decide +kernel
theorem dX8_density_13 : decode cX8_density 13 = .ok (.goto 6, 3) := by decide +kernel
theorem dX8_density_16 : decode cX8_density 16 = .ok (.ldc2_w 198, 3) := by decide +kernel
theorem dX8_density_19 : decode cX8_density 19 = .ok (.dreturn, 1) := by decide +kernel
set_option maxRecDepth 20000 in
theorem ggX8_densityBits_X8_isPattern : GoodIn wsX8_densityBits wsX8_isPattern := goodIn_r _ [5, 6, 7, 8, 4, 9, 62, 63, 64, 65, 66, 67, 68, 69, 70, 71, 72, 73, 74, 75, 76, 77, 78, 79, 80, 81, 82] (by decide +kernel) (by decide +kernel)
set_option maxRecDepth 20000 in
theorem gX8_densityBits_X8_isPattern : GoodIn wsX8_densityBits (wsV RX8 99 RX8 yX8_isPattern wsX8_isPattern) := goodIn_app (goodIn_of _ (by decide +kernel)) ggX8_densityBits_X8_isPattern
set_option maxRecDepth 20000 in
theorem ggX8_densityBits_X8_densityOf : GoodIn wsX8_densityBits wsX8_densityOf := goodIn_r _ [13, 14, 6, 15, 16, 17, 4, 18, 19, 20, 21, 22, 23, 24, 25, 26, 27, 28, 29, 30, 31, 32, 33, 34, 35, 36, 37, 38, 39, 40, 41, 42, 43, 44, 45, 46, 47, 48, 49, 62, 63, 64, 65, 66, 67, 68, 69, 70, 71, 72, 73, 74, 75, 76, 77, 78, 79, 80, 81, 82] (by decide +kernel) (by decide +kernel)
set_option maxRecDepth 20000 in
theorem gX8_densityBits_X8_densityOf : GoodIn wsX8_densityBits (wsV RX8 194 RX8 yX8_densityOf wsX8_densityOf) := goodIn_app (goodIn_of _ (by decide +kernel)) ggX8_densityBits_X8_densityOf
set_option maxRecDepth 20000 in
theorem ggX8_densityBits_Jxf58ca_floatToIntBits_5c35a : GoodIn wsX8_densityBits wsJxf58ca_floatToIntBits_5c35a := goodIn_r _ [53, 54, 55, 56, 57, 58, 59, 60, 52, 61] (by decide +kernel) (by decide +kernel)
set_option maxRecDepth 20000 in
theorem gX8_densityBits_Jxf58ca_floatToIntBits_5c35a : GoodIn wsX8_densityBits (va_wsS RX8 200 yJxf58ca_floatToIntBits_5c35a wsJxf58ca_floatToIntBits_5c35a) := goodIn_app (goodIn_of _ (by decide +kernel)) ggX8_densityBits_Jxf58ca_floatToIntBits_5c35a
theorem dX8_densityBits_0 : decode cX8_densityBits 0 = .ok (.aload_n 0, 1) := by decide +kernel
theorem dX8_densityBits_1 : decode cX8_densityBits 1 = .ok (.iload_n 1, 1) := by decide +kernel
theorem dX8_densityBits_2 : decode cX8_densityBits 2 = .ok (.invokevirtual 99, 3) := by decide +kernel
theorem dX8_densityBits_5 : decode cX8_densityBits 5 = .ok (.ifCond .eq 15, 3) := by decide +kernel
theorem dX8_densityBits_8 : decode cX8_densityBits 8 = .ok (.aload_n 0, 1) := by decide +kernel
theorem dX8_densityBits_9 : decode cX8_densityBits 9 = .ok (.iload_n 1, 1) := by decide +kernel
theorem dX8_densityBits_10 : decode cX8_densityBits 10 = .ok (.invokevirtual 194, 3) := by decide +kernel
theorem dX8_densityBits_13 : decode cX8_densityBits 13 = .ok (.d2f, 1) := by decide +kernel
theorem dX8_densityBits_14 : decode cX8_densityBits 14 = .ok (.invokestatic 200, 3) := by decide +kernel
theorem dX8_densityBits_17 : decode cX8_densityBits 17 = .ok (.goto 4, 3) := by decide +kernel
theorem dX8_densityBits_20 : decode cX8_densityBits 20 = .ok (.iconst (-1), 1) := by decide +kernel
theorem dX8_densityBits_21 : decode cX8_densityBits 21 = .ok (.ireturn, 1) := by decide +kernel
set_option maxRecDepth 20000 in
theorem ggX8_allEnds_X8_manyEnds : GoodIn wsX8_allEnds wsX8_manyEnds := goodIn_r _ [6, 7, 8, 9, 10, 5, 11, 1, 12, 13, 14, 15, 16, 17, 18, 19, 20, 21, 22, 23, 24, 25, 26, 27, 28, 29, 30, 31, 32, 33, 34, 35, 36, 37, 38, 39, 40, 41, 42, 43, 44, 45, 46, 47, 48, 49, 50, 51, 52, 53, 54, 55, 56, 57, 58, 59] (by decide +kernel) (by decide +kernel)
set_option maxRecDepth 20000 in
theorem gX8_allEnds_X8_manyEnds : GoodIn wsX8_allEnds (wsV RX8 155 RX8 yX8_manyEnds wsX8_manyEnds) := goodIn_app (goodIn_of _ (by decide +kernel)) ggX8_allEnds_X8_manyEnds
theorem dX8_allEnds_0 : decode cX8_allEnds 0 = .ok (.iconst 0, 1) := by decide +kernel
theorem dX8_allEnds_1 : decode cX8_allEnds 1 = .ok (.istore_n 1, 1) := by decide +kernel
theorem dX8_allEnds_2 : decode cX8_allEnds 2 = .ok (.iconst 0, 1) := by decide +kernel
theorem dX8_allEnds_3 : decode cX8_allEnds 3 = .ok (.istore_n 2, 1) := by decide +kernel
theorem dX8_allEnds_4 : decode cX8_allEnds 4 = .ok (.iload_n 2, 1) := by decide +kernel
theorem dX8_allEnds_5 : decode cX8_allEnds 5 = .ok (.aload_n 0, 1) := by decide +kernel
theorem dX8_allEnds_6 : decode cX8_allEnds 6 = .ok (.getfield 7, 3) := by decide +kernel
theorem dX8_allEnds_9 : decode cX8_allEnds 9 = .ok (.iconst 1, 1) := by decide +kernel
theorem dX8_allEnds_10 : decode cX8_allEnds 10 = .ok (.iaload, 1) := by decide +kernel
theorem dX8_allEnds_11 : decode cX8_allEnds 11 = .ok (.if_icmp .ge 18, 3) := by decide +kernel
theorem dX8_allEnds_14 : decode cX8_allEnds 14 = .ok (.iload_n 1, 1) := by decide +kernel
theorem dX8_allEnds_15 : decode cX8_allEnds 15 = .ok (.aload_n 0, 1) := by decide +kernel
theorem dX8_allEnds_16 : decode cX8_allEnds 16 = .ok (.iload_n 2, 1) := by decide +kernel
theorem dX8_allEnds_17 : decode cX8_allEnds 17 = .ok (.iconst 0, 1) := by decide +kernel
theorem dX8_allEnds_18 : decode cX8_allEnds 18 = .ok (.invokevirtual 155, 3) := by decide +kernel
theorem dX8_allEnds_21 : decode cX8_allEnds 21 = .ok (.iadd, 1) := by decide +kernel
theorem dX8_allEnds_22 : decode cX8_allEnds 22 = .ok (.istore_n 1, 1) := by decide +kernel
theorem dX8_allEnds_23 : decode cX8_allEnds 23 = .ok (.iinc 2 1, 3) := by decide +kernel
theorem dX8_allEnds_26 : decode cX8_allEnds 26 = .ok (.goto (-22), 3) := by decide +kernel
theorem dX8_allEnds_29 : decode cX8_allEnds 29 = .ok (.iload_n 1, 1) := by decide +kernel
theorem dX8_allEnds_30 : decode cX8_allEnds 30 = .ok (.ireturn, 1) := by decide +kernel
set_option maxRecDepth 20000 in
theorem ggX8_placesOfEnds_X8_findsEnds : GoodIn wsX8_placesOfEnds wsX8_findsEnds := goodIn_r _ [9, 3, 1, 10, 11, 4, 12, 13, 14, 8, 15, 16, 17, 18, 19, 20, 21, 22, 23, 24, 25, 26, 27, 28, 29, 30, 31, 32, 33, 34, 35, 36, 37, 38, 39, 40, 41, 42, 43, 44, 45, 46, 47, 48, 49, 50, 51, 52, 53, 54, 55, 56] (by decide +kernel) (by decide +kernel)
set_option maxRecDepth 20000 in
theorem gX8_placesOfEnds_X8_findsEnds : GoodIn wsX8_placesOfEnds (wsV RX8 103 RX8 yX8_findsEnds wsX8_findsEnds) := goodIn_app (goodIn_of _ (by decide +kernel)) ggX8_placesOfEnds_X8_findsEnds
theorem dX8_placesOfEnds_0 : decode cX8_placesOfEnds 0 = .ok (.iconst 0, 1) := by decide +kernel
theorem dX8_placesOfEnds_1 : decode cX8_placesOfEnds 1 = .ok (.istore_n 1, 1) := by decide +kernel
theorem dX8_placesOfEnds_2 : decode cX8_placesOfEnds 2 = .ok (.iload_n 1, 1) := by decide +kernel
theorem dX8_placesOfEnds_3 : decode cX8_placesOfEnds 3 = .ok (.aload_n 0, 1) := by decide +kernel
theorem dX8_placesOfEnds_4 : decode cX8_placesOfEnds 4 = .ok (.getfield 7, 3) := by decide +kernel
theorem dX8_placesOfEnds_7 : decode cX8_placesOfEnds 7 = .ok (.iconst 0, 1) := by decide +kernel
theorem dX8_placesOfEnds_8 : decode cX8_placesOfEnds 8 = .ok (.iaload, 1) := by decide +kernel
theorem dX8_placesOfEnds_9 : decode cX8_placesOfEnds 9 = .ok (.if_icmp .gt 16, 3) := by decide +kernel
theorem dX8_placesOfEnds_12 : decode cX8_placesOfEnds 12 = .ok (.aload_n 0, 1) := by decide +kernel
theorem dX8_placesOfEnds_13 : decode cX8_placesOfEnds 13 = .ok (.getfield 40, 3) := by decide +kernel
theorem dX8_placesOfEnds_16 : decode cX8_placesOfEnds 16 = .ok (.iload_n 1, 1) := by decide +kernel
theorem dX8_placesOfEnds_17 : decode cX8_placesOfEnds 17 = .ok (.iconst 0, 1) := by decide +kernel
theorem dX8_placesOfEnds_18 : decode cX8_placesOfEnds 18 = .ok (.iastore, 1) := by decide +kernel
theorem dX8_placesOfEnds_19 : decode cX8_placesOfEnds 19 = .ok (.iinc 1 1, 3) := by decide +kernel
theorem dX8_placesOfEnds_22 : decode cX8_placesOfEnds 22 = .ok (.goto (-20), 3) := by decide +kernel
theorem dX8_placesOfEnds_25 : decode cX8_placesOfEnds 25 = .ok (.iconst 0, 1) := by decide +kernel
theorem dX8_placesOfEnds_26 : decode cX8_placesOfEnds 26 = .ok (.istore_n 1, 1) := by decide +kernel
theorem dX8_placesOfEnds_27 : decode cX8_placesOfEnds 27 = .ok (.iload_n 1, 1) := by decide +kernel
theorem dX8_placesOfEnds_28 : decode cX8_placesOfEnds 28 = .ok (.aload_n 0, 1) := by decide +kernel
theorem dX8_placesOfEnds_29 : decode cX8_placesOfEnds 29 = .ok (.getfield 7, 3) := by decide +kernel
theorem dX8_placesOfEnds_32 : decode cX8_placesOfEnds 32 = .ok (.iconst 1, 1) := by decide +kernel
theorem dX8_placesOfEnds_33 : decode cX8_placesOfEnds 33 = .ok (.iaload, 1) := by decide +kernel
theorem dX8_placesOfEnds_34 : decode cX8_placesOfEnds 34 = .ok (.if_icmp .ge 43, 3) := by decide +kernel
theorem dX8_placesOfEnds_37 : decode cX8_placesOfEnds 37 = .ok (.aload_n 0, 1) := by decide +kernel
theorem dX8_placesOfEnds_38 : decode cX8_placesOfEnds 38 = .ok (.iload_n 1, 1) := by decide +kernel
theorem dX8_placesOfEnds_39 : decode cX8_placesOfEnds 39 = .ok (.iconst 0, 1) := by decide +kernel
theorem dX8_placesOfEnds_40 : decode cX8_placesOfEnds 40 = .ok (.invokevirtual 103, 3) := by decide +kernel
theorem dX8_placesOfEnds_43 : decode cX8_placesOfEnds 43 = .ok (.iconst 0, 1) := by decide +kernel
theorem dX8_placesOfEnds_44 : decode cX8_placesOfEnds 44 = .ok (.istore_n 2, 1) := by decide +kernel
theorem dX8_placesOfEnds_45 : decode cX8_placesOfEnds 45 = .ok (.iload_n 2, 1) := by decide +kernel
theorem dX8_placesOfEnds_46 : decode cX8_placesOfEnds 46 = .ok (.aload_n 0, 1) := by decide +kernel
theorem dX8_placesOfEnds_47 : decode cX8_placesOfEnds 47 = .ok (.getfield 75, 3) := by decide +kernel
theorem dX8_placesOfEnds_50 : decode cX8_placesOfEnds 50 = .ok (.if_icmp .ge 21, 3) := by decide +kernel
theorem dX8_placesOfEnds_53 : decode cX8_placesOfEnds 53 = .ok (.aload_n 0, 1) := by decide +kernel
theorem dX8_placesOfEnds_54 : decode cX8_placesOfEnds 54 = .ok (.getfield 40, 3) := by decide +kernel
theorem dX8_placesOfEnds_57 : decode cX8_placesOfEnds 57 = .ok (.aload_n 0, 1) := by decide +kernel
theorem dX8_placesOfEnds_58 : decode cX8_placesOfEnds 58 = .ok (.getfield 28, 3) := by decide +kernel
theorem dX8_placesOfEnds_61 : decode cX8_placesOfEnds 61 = .ok (.iload_n 2, 1) := by decide +kernel
theorem dX8_placesOfEnds_62 : decode cX8_placesOfEnds 62 = .ok (.iaload, 1) := by decide +kernel
theorem dX8_placesOfEnds_63 : decode cX8_placesOfEnds 63 = .ok (.iconst 1, 1) := by decide +kernel
theorem dX8_placesOfEnds_64 : decode cX8_placesOfEnds 64 = .ok (.iastore, 1) := by decide +kernel
theorem dX8_placesOfEnds_65 : decode cX8_placesOfEnds 65 = .ok (.iinc 2 1, 3) := by decide +kernel
theorem dX8_placesOfEnds_68 : decode cX8_placesOfEnds 68 = .ok (.goto (-23), 3) := by decide +kernel
theorem dX8_placesOfEnds_71 : decode cX8_placesOfEnds 71 = .ok (.iinc 1 1, 3) := by decide +kernel
theorem dX8_placesOfEnds_74 : decode cX8_placesOfEnds 74 = .ok (.goto (-47), 3) := by decide +kernel
theorem dX8_placesOfEnds_77 : decode cX8_placesOfEnds 77 = .ok (.iconst 0, 1) := by decide +kernel
theorem dX8_placesOfEnds_78 : decode cX8_placesOfEnds 78 = .ok (.istore_n 1, 1) := by decide +kernel
theorem dX8_placesOfEnds_79 : decode cX8_placesOfEnds 79 = .ok (.iconst 0, 1) := by decide +kernel
theorem dX8_placesOfEnds_80 : decode cX8_placesOfEnds 80 = .ok (.istore_n 2, 1) := by decide +kernel
theorem dX8_placesOfEnds_81 : decode cX8_placesOfEnds 81 = .ok (.iload_n 2, 1) := by decide +kernel
theorem dX8_placesOfEnds_82 : decode cX8_placesOfEnds 82 = .ok (.aload_n 0, 1) := by decide +kernel
theorem dX8_placesOfEnds_83 : decode cX8_placesOfEnds 83 = .ok (.getfield 7, 3) := by decide +kernel
theorem dX8_placesOfEnds_86 : decode cX8_placesOfEnds 86 = .ok (.iconst 0, 1) := by decide +kernel
theorem dX8_placesOfEnds_87 : decode cX8_placesOfEnds 87 = .ok (.iaload, 1) := by decide +kernel
theorem dX8_placesOfEnds_88 : decode cX8_placesOfEnds 88 = .ok (.if_icmp .gt 18, 3) := by decide +kernel
theorem dX8_placesOfEnds_91 : decode cX8_placesOfEnds 91 = .ok (.iload_n 1, 1) := by decide +kernel
theorem dX8_placesOfEnds_92 : decode cX8_placesOfEnds 92 = .ok (.aload_n 0, 1) := by decide +kernel
theorem dX8_placesOfEnds_93 : decode cX8_placesOfEnds 93 = .ok (.getfield 40, 3) := by decide +kernel
theorem dX8_placesOfEnds_96 : decode cX8_placesOfEnds 96 = .ok (.iload_n 2, 1) := by decide +kernel
theorem dX8_placesOfEnds_97 : decode cX8_placesOfEnds 97 = .ok (.iaload, 1) := by decide +kernel
theorem dX8_placesOfEnds_98 : decode cX8_placesOfEnds 98 = .ok (.iadd, 1) := by decide +kernel
theorem dX8_placesOfEnds_99 : decode cX8_placesOfEnds 99 = .ok (.istore_n 1, 1) := by decide +kernel
theorem dX8_placesOfEnds_100 : decode cX8_placesOfEnds 100 = .ok (.iinc 2 1, 3) := by decide +kernel
theorem dX8_placesOfEnds_103 : decode cX8_placesOfEnds 103 = .ok (.goto (-22), 3) := by decide +kernel
theorem dX8_placesOfEnds_106 : decode cX8_placesOfEnds 106 = .ok (.iload_n 1, 1) := by decide +kernel
theorem dX8_placesOfEnds_107 : decode cX8_placesOfEnds 107 = .ok (.ireturn, 1) := by decide +kernel
theorem dX8_blanks_0 : decode cX8_blanks 0 = .ok (.iconst 0, 1) := by decide +kernel
theorem dX8_blanks_1 : decode cX8_blanks 1 = .ok (.istore_n 1, 1) := by decide +kernel
theorem dX8_blanks_2 : decode cX8_blanks 2 = .ok (.iconst 0, 1) := by decide +kernel
theorem dX8_blanks_3 : decode cX8_blanks 3 = .ok (.istore_n 2, 1) := by decide +kernel
theorem dX8_blanks_4 : decode cX8_blanks 4 = .ok (.iload_n 2, 1) := by decide +kernel
theorem dX8_blanks_5 : decode cX8_blanks 5 = .ok (.aload_n 0, 1) := by decide +kernel
theorem dX8_blanks_6 : decode cX8_blanks 6 = .ok (.getfield 7, 3) := by decide +kernel
theorem dX8_blanks_9 : decode cX8_blanks 9 = .ok (.iconst 0, 1) := by decide +kernel
theorem dX8_blanks_10 : decode cX8_blanks 10 = .ok (.iaload, 1) := by decide +kernel
theorem dX8_blanks_11 : decode cX8_blanks 11 = .ok (.if_icmp .ge 30, 3) := by decide +kernel
theorem dX8_blanks_14 : decode cX8_blanks 14 = .ok (.iload_n 1, 1) := by decide +kernel
theorem dX8_blanks_15 : decode cX8_blanks 15 = .ok (.aload_n 0, 1) := by decide +kernel
theorem dX8_blanks_16 : decode cX8_blanks 16 = .ok (.getfield 7, 3) := by decide +kernel
theorem dX8_blanks_19 : decode cX8_blanks 19 = .ok (.iconst 3, 1) := by decide +kernel
theorem dX8_blanks_20 : decode cX8_blanks 20 = .ok (.iload_n 2, 1) := by decide +kernel
theorem dX8_blanks_21 : decode cX8_blanks 21 = .ok (.iadd, 1) := by decide +kernel
theorem dX8_blanks_22 : decode cX8_blanks 22 = .ok (.iaload, 1) := by decide +kernel
theorem dX8_blanks_23 : decode cX8_blanks 23 = .ok (.bipush 26, 2) := by decide +kernel
theorem dX8_blanks_25 : decode cX8_blanks 25 = .ok (.if_icmp .ne 7, 3) := by decide +kernel
theorem dX8_blanks_28 : decode cX8_blanks 28 = .ok (.iconst 1, 1) := by decide +kernel
theorem dX8_blanks_29 : decode cX8_blanks 29 = .ok (.goto 4, 3) := by decide +kernel
theorem dX8_blanks_32 : decode cX8_blanks 32 = .ok (.iconst 0, 1) := by decide +kernel
theorem dX8_blanks_33 : decode cX8_blanks 33 = .ok (.iadd, 1) := by decide +kernel
theorem dX8_blanks_34 : decode cX8_blanks 34 = .ok (.istore_n 1, 1) := by decide +kernel
theorem dX8_blanks_35 : decode cX8_blanks 35 = .ok (.iinc 2 1, 3) := by decide +kernel
theorem dX8_blanks_38 : decode cX8_blanks 38 = .ok (.goto (-34), 3) := by decide +kernel
theorem dX8_blanks_41 : decode cX8_blanks 41 = .ok (.iload_n 1, 1) := by decide +kernel
theorem dX8_blanks_42 : decode cX8_blanks 42 = .ok (.ireturn, 1) := by decide +kernel
set_option maxRecDepth 20000 in
theorem ggX8_count_X8_allEnds : GoodIn wsX8_count wsX8_allEnds := goodIn_r _ [8, 1, 9, 10, 11, 7, 12, 13, 14, 15, 16, 17, 18, 19, 20, 21, 22, 23, 24, 25, 26, 27, 28, 29, 30, 31, 32, 33, 34, 35, 36, 37, 38, 39, 40, 41, 42, 43, 44, 54, 55, 56, 57, 58, 59, 60, 61, 62, 63, 64, 65, 66, 67, 68, 69, 70, 71, 72, 73, 74] (by decide +kernel) (by decide +kernel)
set_option maxRecDepth 20000 in
theorem gX8_count_X8_allEnds : GoodIn wsX8_count (wsV RX8 206 RX8 yX8_allEnds wsX8_allEnds) := goodIn_app (goodIn_of _ (by decide +kernel)) ggX8_count_X8_allEnds
set_option maxRecDepth 20000 in
theorem ggX8_count_X8_placesOfEnds : GoodIn wsX8_count wsX8_placesOfEnds := goodIn_r _ [48, 1, 49, 13, 20, 14, 15, 16, 7, 17, 18, 19, 21, 22, 23, 24, 25, 26, 27, 28, 29, 30, 31, 32, 33, 34, 35, 36, 37, 38, 39, 40, 41, 42, 43, 44, 54, 55, 56, 57, 58, 59, 60, 61, 62, 63, 64, 65, 66, 67, 68, 69, 70, 71, 72, 73, 74] (by decide +kernel) (by decide +kernel)
set_option maxRecDepth 20000 in
theorem gX8_count_X8_placesOfEnds : GoodIn wsX8_count (wsV RX8 209 RX8 yX8_placesOfEnds wsX8_placesOfEnds) := goodIn_app (goodIn_of _ (by decide +kernel)) ggX8_count_X8_placesOfEnds
set_option maxRecDepth 20000 in
theorem ggX8_count_X8_blanks : GoodIn wsX8_count wsX8_blanks := goodIn_r _ [53, 1, 54, 55, 56, 57, 58, 59, 60, 61, 62, 63, 64, 65, 66, 67, 68, 69, 70, 71, 72, 73, 74] (by decide +kernel) (by decide +kernel)
set_option maxRecDepth 20000 in
theorem gX8_count_X8_blanks : GoodIn wsX8_count (wsV RX8 212 RX8 yX8_blanks wsX8_blanks) := goodIn_app (goodIn_of _ (by decide +kernel)) ggX8_count_X8_blanks
theorem dX8_count_0 : decode cX8_count 0 = .ok (.iload_n 1, 1) := by decide +kernel
theorem dX8_count_1 : decode cX8_count 1 = .ok (.tableswitch 93 0 7 #[47, 54, 61, 68, 73, 78, 83, 88], 47) := by decide +kernel
theorem dX8_count_48 : decode cX8_count 48 = .ok (.aload_n 0, 1) := by decide +kernel
theorem dX8_count_49 : decode cX8_count 49 = .ok (.getfield 7, 3) := by decide +kernel
theorem dX8_count_52 : decode cX8_count 52 = .ok (.iconst 0, 1) := by decide +kernel
theorem dX8_count_53 : decode cX8_count 53 = .ok (.iaload, 1) := by decide +kernel
theorem dX8_count_54 : decode cX8_count 54 = .ok (.ireturn, 1) := by decide +kernel
theorem dX8_count_55 : decode cX8_count 55 = .ok (.aload_n 0, 1) := by decide +kernel
theorem dX8_count_56 : decode cX8_count 56 = .ok (.getfield 7, 3) := by decide +kernel
theorem dX8_count_59 : decode cX8_count 59 = .ok (.iconst 1, 1) := by decide +kernel
theorem dX8_count_60 : decode cX8_count 60 = .ok (.iaload, 1) := by decide +kernel
theorem dX8_count_61 : decode cX8_count 61 = .ok (.ireturn, 1) := by decide +kernel
theorem dX8_count_62 : decode cX8_count 62 = .ok (.aload_n 0, 1) := by decide +kernel
theorem dX8_count_63 : decode cX8_count 63 = .ok (.getfield 7, 3) := by decide +kernel
theorem dX8_count_66 : decode cX8_count 66 = .ok (.iconst 2, 1) := by decide +kernel
theorem dX8_count_67 : decode cX8_count 67 = .ok (.iaload, 1) := by decide +kernel
theorem dX8_count_68 : decode cX8_count 68 = .ok (.ireturn, 1) := by decide +kernel
theorem dX8_count_69 : decode cX8_count 69 = .ok (.aload_n 0, 1) := by decide +kernel
theorem dX8_count_70 : decode cX8_count 70 = .ok (.invokevirtual 206, 3) := by decide +kernel
theorem dX8_count_73 : decode cX8_count 73 = .ok (.ireturn, 1) := by decide +kernel
theorem dX8_count_74 : decode cX8_count 74 = .ok (.aload_n 0, 1) := by decide +kernel
theorem dX8_count_75 : decode cX8_count 75 = .ok (.invokevirtual 209, 3) := by decide +kernel
theorem dX8_count_78 : decode cX8_count 78 = .ok (.ireturn, 1) := by decide +kernel
theorem dX8_count_79 : decode cX8_count 79 = .ok (.aload_n 0, 1) := by decide +kernel
theorem dX8_count_80 : decode cX8_count 80 = .ok (.invokevirtual 212, 3) := by decide +kernel
theorem dX8_count_83 : decode cX8_count 83 = .ok (.ireturn, 1) := by decide +kernel
theorem dX8_count_84 : decode cX8_count 84 = .ok (.aload_n 0, 1) := by decide +kernel
theorem dX8_count_85 : decode cX8_count 85 = .ok (.getfield 43, 3) := by decide +kernel
theorem dX8_count_88 : decode cX8_count 88 = .ok (.ireturn, 1) := by decide +kernel
theorem dX8_count_89 : decode cX8_count 89 = .ok (.aload_n 0, 1) := by decide +kernel
theorem dX8_count_90 : decode cX8_count 90 = .ok (.getfield 94, 3) := by decide +kernel
theorem dX8_count_93 : decode cX8_count 93 = .ok (.ireturn, 1) := by decide +kernel
theorem dX8_count_94 : decode cX8_count 94 = .ok (.bipush (-2), 2) := by decide +kernel
theorem dX8_count_96 : decode cX8_count 96 = .ok (.ireturn, 1) := by decide +kernel
theorem dJxf58ca_isNaN_12338_0 : decode cJxf58ca_isNaN_12338 0 = .ok (.fload_n 0, 1) := by decide +kernel
theorem dJxf58ca_isNaN_12338_1 : decode cJxf58ca_isNaN_12338 1 = .ok (.fload_n 0, 1) := by decide +kernel
theorem dJxf58ca_isNaN_12338_2 : decode cJxf58ca_isNaN_12338 2 = .ok (.fcmp .l, 1) := by decide +kernel
theorem dJxf58ca_isNaN_12338_3 : decode cJxf58ca_isNaN_12338 3 = .ok (.ifCond .eq 7, 3) := by decide +kernel
theorem dJxf58ca_isNaN_12338_6 : decode cJxf58ca_isNaN_12338 6 = .ok (.iconst 1, 1) := by decide +kernel
theorem dJxf58ca_isNaN_12338_7 : decode cJxf58ca_isNaN_12338 7 = .ok (.goto 4, 3) := by decide +kernel
theorem dJxf58ca_isNaN_12338_10 : decode cJxf58ca_isNaN_12338 10 = .ok (.iconst 0, 1) := by decide +kernel
theorem dJxf58ca_isNaN_12338_11 : decode cJxf58ca_isNaN_12338 11 = .ok (.ireturn, 1) := by decide +kernel
set_option maxRecDepth 20000 in
theorem ggJxf58ca_floatToIntBits_5c35a_Jxf58ca_isNaN_12338 : GoodIn wsJxf58ca_floatToIntBits_5c35a wsJxf58ca_isNaN_12338 := goodIn_r _ [9] (by decide +kernel) (by decide +kernel)
set_option maxRecDepth 20000 in
theorem gJxf58ca_floatToIntBits_5c35a_Jxf58ca_isNaN_12338 : GoodIn wsJxf58ca_floatToIntBits_5c35a (va_wsS RJxf58ca 59 yJxf58ca_isNaN_12338 wsJxf58ca_isNaN_12338) := goodIn_app (goodIn_of _ (by decide +kernel)) ggJxf58ca_floatToIntBits_5c35a_Jxf58ca_isNaN_12338
theorem dJxf58ca_floatToIntBits_5c35a_0 : decode cJxf58ca_floatToIntBits_5c35a 0 = .ok (.fload_n 0, 1) := by decide +kernel
theorem dJxf58ca_floatToIntBits_5c35a_1 : decode cJxf58ca_floatToIntBits_5c35a 1 = .ok (.invokestatic 59, 3) := by decide +kernel
theorem dJxf58ca_floatToIntBits_5c35a_4 : decode cJxf58ca_floatToIntBits_5c35a 4 = .ok (.ifCond .ne 8, 3) := by decide +kernel
theorem dJxf58ca_floatToIntBits_5c35a_7 : decode cJxf58ca_floatToIntBits_5c35a 7 = .ok (.fload_n 0, 1) := by decide +kernel
theorem dJxf58ca_floatToIntBits_5c35a_8 : decode cJxf58ca_floatToIntBits_5c35a 8 = .ok (.invokestatic 74, 3) := by decide +kernel
theorem dJxf58ca_floatToIntBits_5c35a_11 : decode cJxf58ca_floatToIntBits_5c35a 11 = .ok (.ireturn, 1) := by decide +kernel
theorem dJxf58ca_floatToIntBits_5c35a_12 : decode cJxf58ca_floatToIntBits_5c35a 12 = .ok (.ldc 77, 2) := by decide +kernel
theorem dJxf58ca_floatToIntBits_5c35a_14 : decode cJxf58ca_floatToIntBits_5c35a 14 = .ok (.ireturn, 1) := by decide +kernel
theorem dJ6_bitCount_0f7a4_0 : decode cJ6_bitCount_0f7a4 0 = .ok (.iload_n 0, 1) := by decide +kernel
theorem dJ6_bitCount_0f7a4_1 : decode cJ6_bitCount_0f7a4 1 = .ok (.iload_n 0, 1) := by decide +kernel
theorem dJ6_bitCount_0f7a4_2 : decode cJ6_bitCount_0f7a4 2 = .ok (.iconst 1, 1) := by decide +kernel
theorem dJ6_bitCount_0f7a4_3 : decode cJ6_bitCount_0f7a4 3 = .ok (.iushr, 1) := by decide +kernel
theorem dJ6_bitCount_0f7a4_4 : decode cJ6_bitCount_0f7a4 4 = .ok (.ldc_w 265, 3) := by decide +kernel
theorem dJ6_bitCount_0f7a4_7 : decode cJ6_bitCount_0f7a4 7 = .ok (.iand, 1) := by decide +kernel
theorem dJ6_bitCount_0f7a4_8 : decode cJ6_bitCount_0f7a4 8 = .ok (.isub, 1) := by decide +kernel
theorem dJ6_bitCount_0f7a4_9 : decode cJ6_bitCount_0f7a4 9 = .ok (.istore_n 0, 1) := by decide +kernel
theorem dJ6_bitCount_0f7a4_10 : decode cJ6_bitCount_0f7a4 10 = .ok (.iload_n 0, 1) := by decide +kernel
theorem dJ6_bitCount_0f7a4_11 : decode cJ6_bitCount_0f7a4 11 = .ok (.ldc_w 266, 3) := by decide +kernel
theorem dJ6_bitCount_0f7a4_14 : decode cJ6_bitCount_0f7a4 14 = .ok (.iand, 1) := by decide +kernel
theorem dJ6_bitCount_0f7a4_15 : decode cJ6_bitCount_0f7a4 15 = .ok (.iload_n 0, 1) := by decide +kernel
theorem dJ6_bitCount_0f7a4_16 : decode cJ6_bitCount_0f7a4 16 = .ok (.iconst 2, 1) := by decide +kernel
theorem dJ6_bitCount_0f7a4_17 : decode cJ6_bitCount_0f7a4 17 = .ok (.iushr, 1) := by decide +kernel
theorem dJ6_bitCount_0f7a4_18 : decode cJ6_bitCount_0f7a4 18 = .ok (.ldc_w 266, 3) := by decide +kernel
theorem dJ6_bitCount_0f7a4_21 : decode cJ6_bitCount_0f7a4 21 = .ok (.iand, 1) := by decide +kernel
theorem dJ6_bitCount_0f7a4_22 : decode cJ6_bitCount_0f7a4 22 = .ok (.iadd, 1) := by decide +kernel
theorem dJ6_bitCount_0f7a4_23 : decode cJ6_bitCount_0f7a4 23 = .ok (.istore_n 0, 1) := by decide +kernel
theorem dJ6_bitCount_0f7a4_24 : decode cJ6_bitCount_0f7a4 24 = .ok (.iload_n 0, 1) := by decide +kernel
theorem dJ6_bitCount_0f7a4_25 : decode cJ6_bitCount_0f7a4 25 = .ok (.iload_n 0, 1) := by decide +kernel
theorem dJ6_bitCount_0f7a4_26 : decode cJ6_bitCount_0f7a4 26 = .ok (.iconst 4, 1) := by decide +kernel
theorem dJ6_bitCount_0f7a4_27 : decode cJ6_bitCount_0f7a4 27 = .ok (.iushr, 1) := by decide +kernel
theorem dJ6_bitCount_0f7a4_28 : decode cJ6_bitCount_0f7a4 28 = .ok (.iadd, 1) := by decide +kernel
theorem dJ6_bitCount_0f7a4_29 : decode cJ6_bitCount_0f7a4 29 = .ok (.ldc_w 267, 3) := by decide +kernel
theorem dJ6_bitCount_0f7a4_32 : decode cJ6_bitCount_0f7a4 32 = .ok (.iand, 1) := by decide +kernel
theorem dJ6_bitCount_0f7a4_33 : decode cJ6_bitCount_0f7a4 33 = .ok (.istore_n 0, 1) := by decide +kernel
theorem dJ6_bitCount_0f7a4_34 : decode cJ6_bitCount_0f7a4 34 = .ok (.iload_n 0, 1) := by decide +kernel
theorem dJ6_bitCount_0f7a4_35 : decode cJ6_bitCount_0f7a4 35 = .ok (.iload_n 0, 1) := by decide +kernel
theorem dJ6_bitCount_0f7a4_36 : decode cJ6_bitCount_0f7a4 36 = .ok (.bipush 8, 2) := by decide +kernel
theorem dJ6_bitCount_0f7a4_38 : decode cJ6_bitCount_0f7a4 38 = .ok (.iushr, 1) := by decide +kernel
theorem dJ6_bitCount_0f7a4_39 : decode cJ6_bitCount_0f7a4 39 = .ok (.iadd, 1) := by decide +kernel
theorem dJ6_bitCount_0f7a4_40 : decode cJ6_bitCount_0f7a4 40 = .ok (.istore_n 0, 1) := by decide +kernel
theorem dJ6_bitCount_0f7a4_41 : decode cJ6_bitCount_0f7a4 41 = .ok (.iload_n 0, 1) := by decide +kernel
theorem dJ6_bitCount_0f7a4_42 : decode cJ6_bitCount_0f7a4 42 = .ok (.iload_n 0, 1) := by decide +kernel
theorem dJ6_bitCount_0f7a4_43 : decode cJ6_bitCount_0f7a4 43 = .ok (.bipush 16, 2) := by decide +kernel
theorem dJ6_bitCount_0f7a4_45 : decode cJ6_bitCount_0f7a4 45 = .ok (.iushr, 1) := by decide +kernel
theorem dJ6_bitCount_0f7a4_46 : decode cJ6_bitCount_0f7a4 46 = .ok (.iadd, 1) := by decide +kernel
theorem dJ6_bitCount_0f7a4_47 : decode cJ6_bitCount_0f7a4 47 = .ok (.istore_n 0, 1) := by decide +kernel
theorem dJ6_bitCount_0f7a4_48 : decode cJ6_bitCount_0f7a4 48 = .ok (.iload_n 0, 1) := by decide +kernel
theorem dJ6_bitCount_0f7a4_49 : decode cJ6_bitCount_0f7a4 49 = .ok (.bipush 63, 2) := by decide +kernel
theorem dJ6_bitCount_0f7a4_51 : decode cJ6_bitCount_0f7a4 51 = .ok (.iand, 1) := by decide +kernel
theorem dJ6_bitCount_0f7a4_52 : decode cJ6_bitCount_0f7a4 52 = .ok (.ireturn, 1) := by decide +kernel
theorem dJ9_min_7cf53_0 : decode cJ9_min_7cf53 0 = .ok (.iload_n 0, 1) := by decide +kernel
theorem dJ9_min_7cf53_1 : decode cJ9_min_7cf53 1 = .ok (.iload_n 1, 1) := by decide +kernel
theorem dJ9_min_7cf53_2 : decode cJ9_min_7cf53 2 = .ok (.if_icmp .gt 7, 3) := by decide +kernel
theorem dJ9_min_7cf53_5 : decode cJ9_min_7cf53 5 = .ok (.iload_n 0, 1) := by decide +kernel
theorem dJ9_min_7cf53_6 : decode cJ9_min_7cf53 6 = .ok (.goto 4, 3) := by decide +kernel
theorem dJ9_min_7cf53_9 : decode cJ9_min_7cf53 9 = .ok (.iload_n 1, 1) := by decide +kernel
theorem dJ9_min_7cf53_10 : decode cJ9_min_7cf53 10 = .ok (.ireturn, 1) := by decide +kernel
set_option maxRecDepth 20000 in
theorem ggL_law_X7_init : GoodIn wsL_law wsX7_init := goodIn_r _ [8, 9, 10, 11, 12, 13, 14, 15, 16, 17, 18, 19, 20, 21, 22, 23, 24, 25, 26, 27, 28, 29, 30, 31, 32, 33, 34, 35, 36, 37, 38, 39, 40, 41, 42, 43, 44, 45, 46, 47, 48, 49, 50, 51, 52, 53, 54, 55, 56, 57, 58, 59, 60, 61, 62, 63, 64, 65, 66, 67, 68, 69, 70, 71, 72, 73, 74, 75, 76, 77, 78, 79, 80, 81, 82, 83, 84, 85, 86, 87, 734, 735, 736, 737, 738, 705, 706, 707, 708, 709, 710, 711, 712, 739, 740, 741, 742, 743, 744, 745, 746, 747, 748, 749, 750, 751, 752, 753, 754, 755, 756, 757, 758] (by decide +kernel) (by decide +kernel)
set_option maxRecDepth 20000 in
theorem gL_law_X7_init : GoodIn wsL_law (wsX7_init) := ggL_law_X7_init
set_option maxRecDepth 20000 in
theorem ggL_law_X8_init : GoodIn wsL_law wsX8_init := goodIn_r _ [90, 91, 10, 11, 63, 92, 93, 94, 95, 96, 97, 98, 99, 100, 101, 102, 713, 714, 715, 716, 717, 718, 719, 720, 721, 722, 723, 724, 725, 726, 727, 728, 729, 730, 731, 732, 733] (by decide +kernel) (by decide +kernel)
set_option maxRecDepth 20000 in
theorem gL_law_X8_init : GoodIn wsL_law (wsX8_init) := ggL_law_X8_init
set_option maxRecDepth 20000 in
theorem ggL_law_X7_write : GoodIn wsL_law wsX7_write := goodIn_r _ [106, 15, 21, 107, 108, 2, 109, 110, 111, 112, 113, 114, 115, 20, 116, 54, 53, 117, 118, 119, 120, 121, 122, 123, 14, 124, 42, 125, 126, 127, 128, 43, 45, 46, 47, 129, 130, 131, 132, 705, 706, 707, 708, 709, 710, 711, 712, 734, 735, 736, 737, 738, 739, 740] (by decide +kernel) (by decide +kernel)
set_option maxRecDepth 20000 in
theorem gL_law_X7_write : GoodIn wsL_law (wsV RL 13 RX7 yX7_write wsX7_write) := goodIn_app (goodIn_of _ (by decide +kernel)) ggL_law_X7_write
set_option maxRecDepth 20000 in
theorem ggL_law_X8_write : GoodIn wsL_law wsX8_write := goodIn_r _ [136, 92, 137, 138, 5, 139, 140, 141, 142, 143, 144, 145, 146, 147, 148, 93, 149, 150, 151, 152, 153, 154, 155, 156, 157, 94, 713, 714, 715, 716, 717, 718, 719, 720, 721, 722, 723, 724, 725, 726, 727, 728, 729, 730, 731, 732, 733] (by decide +kernel) (by decide +kernel)
set_option maxRecDepth 20000 in
theorem gL_law_X8_write : GoodIn wsL_law (wsV RL 17 RX8 yX8_write wsX8_write) := goodIn_app (goodIn_of _ (by decide +kernel)) ggL_law_X8_write
set_option maxRecDepth 20000 in
theorem ggL_law_X7_writePad : GoodIn wsL_law wsX7_writePad := goodIn_r _ [161, 25, 15, 21, 162, 163, 164, 24, 165, 59, 166, 167, 168, 169, 58, 111, 2, 112, 113, 114, 115, 20, 116, 54, 53, 117, 118, 119, 120, 121, 122, 123, 14, 124, 42, 125, 126, 127, 128, 43, 45, 46, 47, 170, 129, 130, 131, 132, 705, 706, 707, 708, 709, 710, 711, 712, 734, 735, 736, 737, 738, 741, 742, 739, 740] (by decide +kernel) (by decide +kernel)
set_option maxRecDepth 20000 in
theorem gL_law_X7_writePad : GoodIn wsL_law (wsV RL 18 RX7 yX7_writePad wsX7_writePad) := goodIn_app (goodIn_of _ (by decide +kernel)) ggL_law_X7_writePad
set_option maxRecDepth 20000 in
theorem ggL_law_X8_writePad : GoodIn wsL_law wsX8_writePad := goodIn_r _ [174, 175, 99, 140, 141, 92, 142, 143, 5, 144, 145, 146, 147, 148, 93, 149, 150, 151, 152, 153, 154, 155, 156, 157, 94, 713, 714, 715, 716, 717, 718, 719, 720, 721, 722, 723, 724, 725, 726, 727, 728, 729, 730, 731, 732, 733] (by decide +kernel) (by decide +kernel)
set_option maxRecDepth 20000 in
theorem gL_law_X8_writePad : GoodIn wsL_law (wsV RL 22 RX8 yX8_writePad wsX8_writePad) := goodIn_app (goodIn_of _ (by decide +kernel)) ggL_law_X8_writePad
set_option maxRecDepth 20000 in
theorem ggL_law_X7_cut : GoodIn wsL_law wsX7_cut := goodIn_r _ [179, 15, 21, 113, 114, 115, 20, 116, 54, 53, 117, 118, 119, 120, 121, 122, 123, 14, 124, 42, 125, 126, 127, 128, 43, 45, 46, 47, 705, 706, 707, 708, 709, 710, 711, 712, 734, 735, 736, 737, 738, 739, 740] (by decide +kernel) (by decide +kernel)
set_option maxRecDepth 20000 in
theorem gL_law_X7_cut : GoodIn wsL_law (wsV RL 23 RX7 yX7_cut wsX7_cut) := goodIn_app (goodIn_of _ (by decide +kernel)) ggL_law_X7_cut
set_option maxRecDepth 20000 in
theorem ggL_law_X8_cut : GoodIn wsL_law wsX8_cut := goodIn_r _ [183, 184, 92, 142, 143, 5, 144, 145, 146, 147, 148, 93, 153, 154, 155, 156, 157, 94, 713, 714, 715, 716, 717, 718, 719, 720, 721, 722, 723, 724, 725, 726, 727, 728, 729, 730, 731, 732, 733] (by decide +kernel) (by decide +kernel)
set_option maxRecDepth 20000 in
theorem gL_law_X8_cut : GoodIn wsL_law (wsV RL 27 RX8 yX8_cut wsX8_cut) := goodIn_app (goodIn_of _ (by decide +kernel)) ggL_law_X8_cut
set_option maxRecDepth 20000 in
theorem ggL_law_X7_replace : GoodIn wsL_law wsX7_replace := goodIn_r _ [188, 15, 33, 21, 189, 190, 191, 14, 192, 46, 45, 110, 111, 2, 112, 193, 194, 195, 32, 196, 83, 82, 197, 198, 199, 200, 201, 202, 203, 204, 75, 205, 206, 207, 208, 209, 210, 211, 212, 77, 213, 214, 215, 216, 217, 218, 219, 220, 221, 222, 223, 224, 42, 225, 226, 227, 228, 229, 230, 231, 232, 233, 234, 235, 236, 237, 238, 239, 76, 240, 241, 242, 243, 78, 244, 245, 246, 247, 248, 249, 250, 251, 252, 253, 254, 255, 256, 257, 258, 259, 113, 114, 115, 20, 116, 54, 53, 117, 118, 119, 120, 121, 122, 123, 124, 125, 126, 127, 128, 43, 47, 260, 261, 262, 263, 81, 264, 265, 130, 131, 132, 705, 706, 707, 708, 709, 710, 711, 712, 750, 751, 752, 753, 754, 755, 756, 757, 734, 735, 736, 737, 738, 759, 760, 761, 762, 739, 740] (by decide +kernel) (by decide +kernel)
set_option maxRecDepth 20000 in
theorem gL_law_X7_replace : GoodIn wsL_law (wsV RL 28 RX7 yX7_replace wsX7_replace) := goodIn_app (goodIn_of _ (by decide +kernel)) ggL_law_X7_replace
set_option maxRecDepth 20000 in
theorem ggL_law_X8_replace : GoodIn wsL_law wsX8_replace := goodIn_r _ [269, 140, 141, 270, 92, 98, 93, 271, 272, 273, 5, 274, 142, 143, 144, 275, 276, 277, 278, 96, 97, 279, 280, 281, 282, 283, 284, 285, 286, 287, 288, 289, 290, 291, 292, 293, 294, 295, 296, 297, 298, 299, 300, 301, 302, 303, 304, 305, 306, 145, 146, 147, 148, 149, 150, 151, 152, 153, 154, 155, 156, 157, 94, 713, 714, 715, 716, 717, 718, 719, 720, 721, 722, 723, 724, 725, 726, 727, 728, 729, 730, 731, 732, 733] (by decide +kernel) (by decide +kernel)
set_option maxRecDepth 20000 in
theorem gL_law_X8_replace : GoodIn wsL_law (wsV RL 32 RX8 yX8_replace wsX8_replace) := goodIn_app (goodIn_of _ (by decide +kernel)) ggL_law_X8_replace
set_option maxRecDepth 20000 in
theorem ggL_law_X7_addPattern : GoodIn wsL_law wsX7_addPattern := goodIn_r _ [310, 29, 25, 15, 21, 311, 312, 313, 28, 314, 65, 66, 67, 315, 167, 168, 24, 169, 58, 316, 317, 318, 319, 320, 321, 322, 323, 324, 325, 326, 327, 69, 68, 328, 329, 111, 2, 112, 330, 331, 332, 333, 64, 334, 335, 336, 337, 338, 339, 340, 341, 70, 342, 343, 344, 345, 346, 113, 114, 115, 20, 116, 54, 53, 117, 118, 119, 120, 121, 122, 123, 14, 124, 42, 125, 126, 127, 128, 43, 45, 46, 47, 347, 348, 349, 350, 351, 352, 228, 353, 354, 355, 356, 10, 11, 63, 357, 74, 230, 358, 359, 360, 361, 362, 363, 705, 706, 707, 708, 709, 710, 711, 712, 734, 735, 736, 737, 738, 743, 744, 745, 746, 747, 748, 749, 741, 742, 739, 740, 759, 760, 761, 762] (by decide +kernel) (by decide +kernel)
set_option maxRecDepth 20000 in
theorem gL_law_X7_addPattern : GoodIn wsL_law (wsV RL 33 RX7 yX7_addPattern wsX7_addPattern) := goodIn_app (goodIn_of _ (by decide +kernel)) ggL_law_X7_addPattern
set_option maxRecDepth 20000 in
theorem ggL_law_X8_addPattern : GoodIn wsL_law wsX8_addPattern := goodIn_r _ [367, 92, 368, 369, 100, 370, 371, 372, 5, 373, 374, 175, 375, 376, 377, 378, 379, 380, 381, 382, 99, 142, 143, 144, 383, 384, 385, 386, 387, 388, 389, 390, 391, 392, 393, 394, 395, 396, 397, 145, 146, 147, 148, 93, 153, 154, 155, 156, 157, 94, 713, 714, 715, 716, 717, 718, 719, 720, 721, 722, 723, 724, 725, 726, 727, 728, 729, 730, 731, 732, 733] (by decide +kernel) (by decide +kernel)
set_option maxRecDepth 20000 in
theorem gL_law_X8_addPattern : GoodIn wsL_law (wsV RL 36 RX8 yX8_addPattern wsX8_addPattern) := goodIn_app (goodIn_of _ (by decide +kernel)) ggL_law_X8_addPattern
set_option maxRecDepth 20000 in
theorem ggL_law_X7_removePattern : GoodIn wsL_law wsX7_removePattern := goodIn_r _ [401, 15, 21, 189, 190, 191, 14, 192, 46, 45, 113, 114, 115, 20, 116, 54, 53, 117, 118, 119, 120, 121, 122, 123, 124, 42, 125, 126, 127, 128, 43, 47, 402, 403, 404, 405, 705, 706, 707, 708, 709, 710, 711, 712, 734, 735, 736, 737, 738, 739, 740] (by decide +kernel) (by decide +kernel)
set_option maxRecDepth 20000 in
theorem gL_law_X7_removePattern : GoodIn wsL_law (wsV RL 37 RX7 yX7_removePattern wsX7_removePattern) := goodIn_app (goodIn_of _ (by decide +kernel)) ggL_law_X7_removePattern
set_option maxRecDepth 20000 in
theorem ggL_law_X8_removePattern : GoodIn wsL_law wsX8_removePattern := goodIn_r _ [409, 92, 271, 272, 273, 5, 274, 142, 143, 144, 145, 146, 147, 148, 93, 153, 154, 155, 156, 157, 94, 713, 714, 715, 716, 717, 718, 719, 720, 721, 722, 723, 724, 725, 726, 727, 728, 729, 730, 731, 732, 733] (by decide +kernel) (by decide +kernel)
set_option maxRecDepth 20000 in
theorem gL_law_X8_removePattern : GoodIn wsL_law (wsV RL 40 RX8 yX8_removePattern wsX8_removePattern) := goodIn_app (goodIn_of _ (by decide +kernel)) ggL_law_X8_removePattern
set_option maxRecDepth 20000 in
theorem ggL_law_X7_setSlips : GoodIn wsL_law wsX7_setSlips := goodIn_r _ [413, 15, 21, 113, 114, 115, 20, 116, 54, 53, 117, 118, 119, 120, 121, 122, 123, 14, 124, 42, 125, 126, 127, 128, 43, 45, 46, 47, 705, 706, 707, 708, 709, 710, 711, 712, 734, 735, 736, 737, 738, 739, 740] (by decide +kernel) (by decide +kernel)
set_option maxRecDepth 20000 in
theorem gL_law_X7_setSlips : GoodIn wsL_law (wsV RL 41 RX7 yX7_setSlips wsX7_setSlips) := goodIn_app (goodIn_of _ (by decide +kernel)) ggL_law_X7_setSlips
set_option maxRecDepth 20000 in
theorem ggL_law_X8_setSlips : GoodIn wsL_law wsX8_setSlips := goodIn_r _ [417, 418, 92, 142, 143, 5, 144, 145, 146, 147, 148, 93, 153, 154, 155, 156, 157, 94, 713, 714, 715, 716, 717, 718, 719, 720, 721, 722, 723, 724, 725, 726, 727, 728, 729, 730, 731, 732, 733] (by decide +kernel) (by decide +kernel)
set_option maxRecDepth 20000 in
theorem gL_law_X8_setSlips : GoodIn wsL_law (wsV RL 44 RX8 yX8_setSlips wsX8_setSlips) := goodIn_app (goodIn_of _ (by decide +kernel)) ggL_law_X8_setSlips
set_option maxRecDepth 20000 in
theorem ggL_law_X7_type : GoodIn wsL_law wsX7_type := goodIn_r _ [422, 25, 423, 424, 425, 24, 426, 59, 58, 705, 706, 707, 708, 709, 710, 711, 712, 741, 742] (by decide +kernel) (by decide +kernel)
set_option maxRecDepth 20000 in
theorem gL_law_X7_type : GoodIn wsL_law (wsV RL 45 RX7 yX7_type wsX7_type) := goodIn_app (goodIn_of _ (by decide +kernel)) ggL_law_X7_type
set_option maxRecDepth 20000 in
theorem ggL_law_X8_type : GoodIn wsL_law wsX8_type := goodIn_r _ [430, 175, 99, 713, 714, 715, 716, 717, 718, 719, 720, 721, 722, 723, 724, 725, 726, 727, 728, 729, 730, 731, 732, 733] (by decide +kernel) (by decide +kernel)
set_option maxRecDepth 20000 in
theorem gL_law_X8_type : GoodIn wsL_law (wsV RL 48 RX8 yX8_type wsX8_type) := goodIn_app (goodIn_of _ (by decide +kernel)) ggL_law_X8_type
set_option maxRecDepth 20000 in
theorem ggL_law_X7_clearPad : GoodIn wsL_law wsX7_clearPad := goodIn_r _ [434, 25, 705, 706, 707, 708, 709, 710, 711, 712, 741, 742] (by decide +kernel) (by decide +kernel)
set_option maxRecDepth 20000 in
theorem gL_law_X7_clearPad : GoodIn wsL_law (wsV RL 49 RX7 yX7_clearPad wsX7_clearPad) := goodIn_app (goodIn_of _ (by decide +kernel)) ggL_law_X7_clearPad
set_option maxRecDepth 20000 in
theorem ggL_law_X8_clearPad : GoodIn wsL_law wsX8_clearPad := goodIn_r _ [438, 175, 713, 714, 715, 716, 717, 718, 719, 720, 721, 722, 723, 724, 725, 726, 727, 728, 729, 730, 731, 732, 733] (by decide +kernel) (by decide +kernel)
set_option maxRecDepth 20000 in
theorem gL_law_X8_clearPad : GoodIn wsL_law (wsV RL 52 RX8 yX8_clearPad wsX8_clearPad) := goodIn_app (goodIn_of _ (by decide +kernel)) ggL_law_X8_clearPad
set_option maxRecDepth 20000 in
theorem ggL_law_X7_undo : GoodIn wsL_law wsX7_undo := goodIn_r _ [442, 21, 15, 443, 444, 445, 20, 446, 54, 53, 121, 122, 123, 14, 124, 42, 125, 126, 127, 128, 43, 45, 46, 47, 705, 706, 707, 708, 709, 710, 711, 712, 739, 740, 734, 735, 736, 737, 738] (by decide +kernel) (by decide +kernel)
set_option maxRecDepth 20000 in
theorem gL_law_X7_undo : GoodIn wsL_law (wsV RL 53 RX7 yX7_undo wsX7_undo) := goodIn_app (goodIn_of _ (by decide +kernel)) ggL_law_X7_undo
set_option maxRecDepth 20000 in
theorem ggL_law_X8_undo : GoodIn wsL_law wsX8_undo := goodIn_r _ [450, 157, 92, 94, 713, 714, 715, 716, 717, 718, 719, 720, 721, 722, 723, 724, 725, 726, 727, 728, 729, 730, 731, 732, 733] (by decide +kernel) (by decide +kernel)
set_option maxRecDepth 20000 in
theorem gL_law_X8_undo : GoodIn wsL_law (wsV RL 56 RX8 yX8_undo wsX8_undo) := goodIn_app (goodIn_of _ (by decide +kernel)) ggL_law_X8_undo
set_option maxRecDepth 20000 in
theorem ggL_law_X7_keep : GoodIn wsL_law wsX7_keep := goodIn_r _ [454, 16, 15, 17, 455, 122, 123, 14, 124, 42, 125, 126, 127, 128, 43, 45, 46, 47, 705, 706, 707, 708, 709, 710, 711, 712, 734, 735, 736, 737, 738] (by decide +kernel) (by decide +kernel)
set_option maxRecDepth 20000 in
theorem gL_law_X7_keep : GoodIn wsL_law (wsV RL 57 RX7 yX7_keep wsX7_keep) := goodIn_app (goodIn_of _ (by decide +kernel)) ggL_law_X7_keep
set_option maxRecDepth 20000 in
theorem ggL_law_X8_keep : GoodIn wsL_law wsX8_keep := goodIn_r _ [459, 95, 92, 460, 713, 714, 715, 716, 717, 718, 719, 720, 721, 722, 723, 724, 725, 726, 727, 728, 729, 730, 731, 732, 733] (by decide +kernel) (by decide +kernel)
set_option maxRecDepth 20000 in
theorem gL_law_X8_keep : GoodIn wsL_law (wsV RL 60 RX8 yX8_keep wsX8_keep) := goodIn_app (goodIn_of _ (by decide +kernel)) ggL_law_X8_keep
set_option maxRecDepth 20000 in
theorem ggL_law_X7_restore : GoodIn wsL_law wsX7_restore := goodIn_r _ [464, 17, 21, 15, 16, 113, 114, 115, 20, 116, 54, 53, 117, 118, 119, 120, 121, 122, 123, 14, 124, 42, 125, 126, 127, 128, 43, 45, 46, 47, 455, 705, 706, 707, 708, 709, 710, 711, 712, 734, 735, 736, 737, 738, 739, 740] (by decide +kernel) (by decide +kernel)
set_option maxRecDepth 20000 in
theorem gL_law_X7_restore : GoodIn wsL_law (wsV RL 61 RX7 yX7_restore wsX7_restore) := goodIn_app (goodIn_of _ (by decide +kernel)) ggL_law_X7_restore
set_option maxRecDepth 20000 in
theorem ggL_law_X8_restore : GoodIn wsL_law wsX8_restore := goodIn_r _ [468, 460, 92, 95, 145, 146, 147, 5, 148, 93, 153, 154, 155, 156, 157, 94, 713, 714, 715, 716, 717, 718, 719, 720, 721, 722, 723, 724, 725, 726, 727, 728, 729, 730, 731, 732, 733] (by decide +kernel) (by decide +kernel)
set_option maxRecDepth 20000 in
theorem gL_law_X8_restore : GoodIn wsL_law (wsV RL 64 RX8 yX8_restore wsX8_restore) := goodIn_app (goodIn_of _ (by decide +kernel)) ggL_law_X8_restore
set_option maxRecDepth 20000 in
theorem ggL_law_X7_at : GoodIn wsL_law wsX7_at := goodIn_r _ [472, 15, 473, 222, 223, 14, 224, 42, 705, 706, 707, 708, 709, 710, 711, 712, 734, 735, 736, 737, 738] (by decide +kernel) (by decide +kernel)
set_option maxRecDepth 20000 in
theorem gL_law_X7_at : GoodIn wsL_law (wsV RL 65 RX7 yX7_at wsX7_at) := goodIn_app (goodIn_of _ (by decide +kernel)) ggL_law_X7_at
set_option maxRecDepth 20000 in
theorem ggL_law_X8_at : GoodIn wsL_law wsX8_at := goodIn_r _ [477, 92, 142, 143, 5, 144, 713, 714, 715, 716, 717, 718, 719, 720, 721, 722, 723, 724, 725, 726, 727, 728, 729, 730, 731, 732, 733] (by decide +kernel) (by decide +kernel)
set_option maxRecDepth 20000 in
theorem gL_law_X8_at : GoodIn wsL_law (wsV RL 68 RX8 yX8_at wsX8_at) := goodIn_app (goodIn_of _ (by decide +kernel)) ggL_law_X8_at
set_option maxRecDepth 20000 in
theorem ggL_law_X7_pattern : GoodIn wsL_law wsX7_pattern := goodIn_r _ [481, 15, 33, 189, 190, 191, 14, 192, 46, 45, 482, 198, 199, 32, 200, 83, 201, 202, 203, 204, 75, 205, 206, 207, 208, 209, 210, 211, 212, 77, 82, 213, 214, 215, 216, 217, 218, 219, 220, 221, 222, 223, 224, 42, 225, 226, 227, 228, 229, 230, 231, 232, 233, 234, 235, 193, 194, 195, 196, 197, 236, 237, 238, 239, 76, 240, 241, 242, 243, 78, 244, 245, 246, 247, 248, 249, 250, 251, 252, 253, 254, 255, 483, 484, 485, 486, 487, 488, 489, 490, 491, 492, 493, 494, 495, 358, 496, 497, 498, 499, 500, 357, 501, 502, 503, 504, 505, 506, 507, 508, 509, 510, 511, 705, 706, 707, 708, 709, 710, 711, 712, 759, 760, 761, 762, 750, 751, 752, 753, 754, 755, 756, 757, 734, 735, 736, 737, 738] (by decide +kernel) (by decide +kernel)
set_option maxRecDepth 20000 in
theorem gL_law_X7_pattern : GoodIn wsL_law (wsV RL 69 RX7 yX7_pattern wsX7_pattern) := goodIn_app (goodIn_of _ (by decide +kernel)) ggL_law_X7_pattern
set_option maxRecDepth 20000 in
theorem ggL_law_X8_pattern : GoodIn wsL_law wsX8_pattern := goodIn_r _ [515, 92, 271, 272, 273, 5, 274, 142, 143, 144, 516, 517, 518, 519, 270, 275, 276, 277, 278, 96, 97, 98, 279, 280, 281, 282, 283, 284, 285, 286, 287, 288, 289, 290, 291, 292, 293, 294, 295, 296, 297, 298, 299, 300, 301, 302, 520, 521, 522, 523, 524, 525, 526, 527, 528, 529, 530, 531, 532, 533, 534, 535, 536, 537, 538, 539, 387, 540, 541, 542, 543, 544, 545, 546, 713, 714, 715, 716, 717, 718, 719, 720, 721, 722, 723, 724, 725, 726, 727, 728, 729, 730, 731, 732, 733] (by decide +kernel) (by decide +kernel)
set_option maxRecDepth 20000 in
theorem gL_law_X8_pattern : GoodIn wsL_law (wsV RL 73 RX8 yX8_pattern wsX8_pattern) := goodIn_app (goodIn_of _ (by decide +kernel)) ggL_law_X8_pattern
set_option maxRecDepth 20000 in
theorem ggL_law_X7_takes : GoodIn wsL_law wsX7_takes := goodIn_r _ [550, 15, 189, 190, 191, 14, 192, 46, 45, 551, 498, 499, 228, 500, 357, 705, 706, 707, 708, 709, 710, 711, 712, 759, 760, 761, 762, 734, 735, 736, 737, 738] (by decide +kernel) (by decide +kernel)
set_option maxRecDepth 20000 in
theorem gL_law_X7_takes : GoodIn wsL_law (wsV RL 74 RX7 yX7_takes wsX7_takes) := goodIn_app (goodIn_of _ (by decide +kernel)) ggL_law_X7_takes
set_option maxRecDepth 20000 in
theorem ggL_law_X8_takes : GoodIn wsL_law wsX8_takes := goodIn_r _ [555, 271, 272, 273, 5, 274, 92, 142, 143, 144, 283, 284, 285, 286, 299, 300, 301, 302, 713, 714, 715, 716, 717, 718, 719, 720, 721, 722, 723, 724, 725, 726, 727, 728, 729, 730, 731, 732, 733] (by decide +kernel) (by decide +kernel)
set_option maxRecDepth 20000 in
theorem gL_law_X8_takes : GoodIn wsL_law (wsV RL 77 RX8 yX8_takes wsX8_takes) := goodIn_app (goodIn_of _ (by decide +kernel)) ggL_law_X8_takes
set_option maxRecDepth 20000 in
theorem ggL_law_X7_end : GoodIn wsL_law wsX7_end := goodIn_r _ [559, 15, 33, 189, 190, 191, 14, 192, 46, 45, 193, 194, 195, 32, 196, 83, 82, 197, 198, 199, 200, 201, 202, 203, 204, 75, 205, 206, 207, 208, 209, 210, 211, 212, 77, 213, 214, 215, 216, 217, 218, 219, 220, 221, 222, 223, 224, 42, 225, 226, 227, 228, 229, 230, 231, 232, 233, 234, 235, 236, 237, 238, 239, 76, 240, 241, 242, 243, 78, 244, 245, 246, 247, 248, 249, 250, 251, 252, 253, 254, 255, 482, 560, 561, 705, 706, 707, 708, 709, 710, 711, 712, 750, 751, 752, 753, 754, 755, 756, 757, 734, 735, 736, 737, 738, 759, 760, 761, 762] (by decide +kernel) (by decide +kernel)
set_option maxRecDepth 20000 in
theorem gL_law_X7_end : GoodIn wsL_law (wsV RL 78 RX7 yX7_end wsX7_end) := goodIn_app (goodIn_of _ (by decide +kernel)) ggL_law_X7_end
set_option maxRecDepth 20000 in
theorem ggL_law_X8_end : GoodIn wsL_law wsX8_end := goodIn_r _ [565, 566, 270, 98, 271, 272, 273, 5, 274, 92, 142, 143, 144, 275, 276, 277, 278, 96, 97, 279, 280, 281, 282, 283, 284, 285, 286, 287, 288, 289, 290, 291, 292, 293, 294, 295, 296, 297, 298, 299, 300, 301, 302, 528, 529, 530, 531, 303, 304, 305, 306, 713, 714, 715, 716, 717, 718, 719, 720, 721, 722, 723, 724, 725, 726, 727, 728, 729, 730, 731, 732, 733] (by decide +kernel) (by decide +kernel)
set_option maxRecDepth 20000 in
theorem gL_law_X8_end : GoodIn wsL_law (wsV RL 82 RX8 yX8_end wsX8_end) := goodIn_app (goodIn_of _ (by decide +kernel)) ggL_law_X8_end
set_option maxRecDepth 20000 in
theorem ggL_law_X7_column : GoodIn wsL_law wsX7_column := goodIn_r _ [570, 15, 571, 572, 33, 189, 190, 191, 14, 192, 46, 45, 573, 574, 575, 32, 576, 75, 201, 202, 203, 204, 205, 206, 207, 208, 217, 218, 219, 220, 221, 222, 223, 224, 42, 225, 226, 227, 228, 229, 230, 231, 232, 233, 234, 235, 705, 706, 707, 708, 709, 710, 711, 712, 734, 735, 736, 737, 738, 750, 751, 752, 753, 754, 755, 756, 757, 759, 760, 761, 762] (by decide +kernel) (by decide +kernel)
set_option maxRecDepth 20000 in
theorem gL_law_X7_column : GoodIn wsL_law (wsV RL 83 RX7 yX7_column wsX7_column) := goodIn_app (goodIn_of _ (by decide +kernel)) ggL_law_X7_column
set_option maxRecDepth 20000 in
theorem ggL_law_X8_column : GoodIn wsL_law wsX8_column := goodIn_r _ [580, 581, 92, 582, 96, 271, 272, 273, 5, 274, 142, 143, 144, 279, 280, 281, 282, 97, 283, 284, 285, 286, 287, 288, 289, 290, 291, 292, 293, 294, 295, 296, 297, 298, 299, 300, 301, 302, 713, 714, 715, 716, 717, 718, 719, 720, 721, 722, 723, 724, 725, 726, 727, 728, 729, 730, 731, 732, 733] (by decide +kernel) (by decide +kernel)
set_option maxRecDepth 20000 in
theorem gL_law_X8_column : GoodIn wsL_law (wsV RL 87 RX8 yX8_column wsX8_column) := goodIn_app (goodIn_of _ (by decide +kernel)) ggL_law_X8_column
set_option maxRecDepth 20000 in
theorem ggL_law_X7_slips : GoodIn wsL_law wsX7_slips := goodIn_r _ [586, 15, 37, 189, 190, 191, 14, 192, 46, 45, 587, 588, 589, 36, 590, 87, 591, 592, 593, 594, 595, 596, 597, 598, 222, 223, 224, 42, 599, 226, 227, 228, 229, 230, 600, 601, 602, 705, 706, 707, 708, 709, 710, 711, 712, 734, 735, 736, 737, 738, 758, 759, 760, 761, 762] (by decide +kernel) (by decide +kernel)
set_option maxRecDepth 20000 in
theorem gL_law_X7_slips : GoodIn wsL_law (wsV RL 88 RX7 yX7_slips wsX7_slips) := goodIn_app (goodIn_of _ (by decide +kernel)) ggL_law_X7_slips
set_option maxRecDepth 20000 in
theorem ggL_law_X8_slips : GoodIn wsL_law wsX8_slips := goodIn_r _ [606, 92, 607, 608, 609, 610, 271, 272, 273, 5, 274, 142, 143, 144, 611, 612, 613, 614, 101, 283, 284, 285, 286, 295, 296, 297, 298, 299, 300, 301, 302, 615, 616, 617, 618, 713, 714, 715, 716, 717, 718, 719, 720, 721, 722, 723, 724, 725, 726, 727, 728, 729, 730, 731, 732, 733] (by decide +kernel) (by decide +kernel)
set_option maxRecDepth 20000 in
theorem gL_law_X8_slips : GoodIn wsL_law (wsV RL 92 RX8 yX8_slips wsX8_slips) := goodIn_app (goodIn_of _ (by decide +kernel)) ggL_law_X8_slips
set_option maxRecDepth 20000 in
theorem ggL_law_X7_density : GoodIn wsL_law wsX7_density := goodIn_r _ [622, 15, 623, 33, 189, 190, 191, 14, 192, 46, 45, 482, 198, 199, 32, 200, 83, 201, 202, 203, 204, 75, 205, 206, 207, 208, 209, 210, 211, 212, 77, 82, 213, 214, 215, 216, 217, 218, 219, 220, 221, 222, 223, 224, 42, 225, 226, 227, 228, 229, 230, 231, 232, 233, 234, 235, 624, 625, 626, 627, 252, 253, 254, 255, 78, 705, 706, 707, 708, 709, 710, 711, 712, 734, 735, 736, 737, 738, 750, 751, 752, 753, 754, 755, 756, 757, 759, 760, 761, 762] (by decide +kernel) (by decide +kernel)
set_option maxRecDepth 20000 in
theorem gL_law_X7_density : GoodIn wsL_law (wsV RL 93 RX7 yX7_density wsX7_density) := goodIn_app (goodIn_of _ (by decide +kernel)) ggL_law_X7_density
set_option maxRecDepth 20000 in
theorem ggL_law_X8_density : GoodIn wsL_law wsX8_density := goodIn_r _ [631, 632, 271, 272, 273, 5, 274, 92, 142, 143, 144, 633, 634, 635, 636, 270, 275, 276, 277, 278, 96, 97, 98, 279, 280, 281, 282, 283, 284, 285, 286, 287, 288, 289, 290, 291, 292, 293, 294, 295, 296, 297, 298, 299, 300, 301, 302, 528, 529, 530, 531, 713, 714, 715, 716, 717, 718, 719, 720, 721, 722, 723, 724, 725, 726, 727, 728, 729, 730, 731, 732, 733] (by decide +kernel) (by decide +kernel)
set_option maxRecDepth 20000 in
theorem gL_law_X8_density : GoodIn wsL_law (wsV RL 97 RX8 yX8_density wsX8_density) := goodIn_app (goodIn_of _ (by decide +kernel)) ggL_law_X8_density
set_option maxRecDepth 20000 in
theorem ggL_law_X7_densityBits : GoodIn wsL_law wsX7_densityBits := goodIn_r _ [640, 15, 33, 189, 190, 191, 14, 192, 46, 45, 482, 198, 199, 32, 200, 83, 201, 202, 203, 204, 75, 205, 206, 207, 208, 209, 210, 211, 212, 77, 82, 213, 214, 215, 216, 217, 218, 219, 220, 221, 222, 223, 224, 42, 225, 226, 227, 228, 229, 230, 231, 232, 233, 234, 235, 624, 625, 626, 627, 252, 253, 254, 255, 78, 641, 642, 2, 643, 644, 705, 706, 707, 708, 709, 710, 711, 712, 734, 735, 736, 737, 738, 750, 751, 752, 753, 754, 755, 756, 757, 759, 760, 761, 762] (by decide +kernel) (by decide +kernel)
set_option maxRecDepth 20000 in
theorem gL_law_X7_densityBits : GoodIn wsL_law (wsV RL 98 RX7 yX7_densityBits wsX7_densityBits) := goodIn_app (goodIn_of _ (by decide +kernel)) ggL_law_X7_densityBits
set_option maxRecDepth 20000 in
theorem ggL_law_X8_densityBits : GoodIn wsL_law wsX8_densityBits := goodIn_r _ [648, 271, 272, 273, 5, 274, 92, 142, 143, 144, 633, 634, 635, 636, 270, 275, 276, 277, 278, 96, 97, 98, 279, 280, 281, 282, 283, 284, 285, 286, 287, 288, 289, 290, 291, 292, 293, 294, 295, 296, 297, 298, 299, 300, 301, 302, 528, 529, 530, 531, 649, 650, 651, 652, 653, 654, 655, 656, 657, 658, 659, 660, 713, 714, 715, 716, 717, 718, 719, 720, 721, 722, 723, 724, 725, 726, 727, 728, 729, 730, 731, 732, 733] (by decide +kernel) (by decide +kernel)
set_option maxRecDepth 20000 in
theorem gL_law_X8_densityBits : GoodIn wsL_law (wsV RL 101 RX8 yX8_densityBits wsX8_densityBits) := goodIn_app (goodIn_of _ (by decide +kernel)) ggL_law_X8_densityBits
set_option maxRecDepth 20000 in
theorem ggL_law_X7_count : GoodIn wsL_law wsX7_count := goodIn_r _ [664, 15, 21, 25, 665, 666, 667, 2, 668, 33, 189, 190, 191, 14, 192, 46, 45, 482, 198, 199, 32, 200, 83, 201, 202, 203, 204, 75, 205, 206, 207, 208, 209, 210, 211, 212, 77, 82, 213, 214, 215, 216, 217, 218, 219, 220, 221, 222, 223, 224, 42, 225, 226, 227, 228, 229, 230, 231, 232, 233, 234, 235, 669, 670, 671, 672, 673, 674, 675, 676, 80, 677, 678, 679, 680, 252, 253, 254, 255, 78, 681, 682, 683, 684, 685, 686, 687, 688, 43, 705, 706, 707, 708, 709, 710, 711, 712, 734, 735, 736, 737, 738, 739, 740, 741, 742, 750, 751, 752, 753, 754, 755, 756, 757, 759, 760, 761, 762] (by decide +kernel) (by decide +kernel)
set_option maxRecDepth 20000 in
theorem gL_law_X7_count : GoodIn wsL_law (wsV RL 102 RX7 yX7_count wsX7_count) := goodIn_app (goodIn_of _ (by decide +kernel)) ggL_law_X7_count
set_option maxRecDepth 20000 in
theorem ggL_law_X8_count : GoodIn wsL_law wsX8_count := goodIn_r _ [692, 92, 157, 175, 693, 694, 695, 5, 696, 516, 517, 518, 519, 270, 275, 276, 277, 278, 96, 97, 98, 279, 280, 281, 282, 283, 284, 285, 286, 287, 288, 289, 290, 291, 292, 293, 294, 295, 296, 297, 298, 299, 300, 301, 302, 697, 698, 699, 700, 102, 701, 702, 703, 704, 713, 714, 715, 716, 717, 718, 719, 720, 721, 722, 723, 724, 725, 726, 727, 728, 729, 730, 731, 732, 733] (by decide +kernel) (by decide +kernel)
set_option maxRecDepth 20000 in
theorem gL_law_X8_count : GoodIn wsL_law (wsV RL 105 RX8 yX8_count wsX8_count) := goodIn_app (goodIn_of _ (by decide +kernel)) ggL_law_X8_count
theorem dL_law_0 : decode cL_law 0 = .ok (.new 7, 3) := by decide +kernel
theorem dL_law_3 : decode cL_law 3 = .ok (.dup, 1) := by decide +kernel
theorem dL_law_4 : decode cL_law 4 = .ok (.invokespecial 9, 3) := by decide +kernel
theorem dL_law_7 : decode cL_law 7 = .ok (.astore_n 1, 1) := by decide +kernel
theorem dL_law_8 : decode cL_law 8 = .ok (.new 10, 3) := by decide +kernel
theorem dL_law_11 : decode cL_law 11 = .ok (.dup, 1) := by decide +kernel
theorem dL_law_12 : decode cL_law 12 = .ok (.invokespecial 12, 3) := by decide +kernel
theorem dL_law_15 : decode cL_law 15 = .ok (.astore_n 2, 1) := by decide +kernel
theorem dL_law_16 : decode cL_law 16 = .ok (.iconst 0, 1) := by decide +kernel
theorem dL_law_17 : decode cL_law 17 = .ok (.istore_n 3, 1) := by decide +kernel
theorem dL_law_18 : decode cL_law 18 = .ok (.iload_n 3, 1) := by decide +kernel
theorem dL_law_19 : decode cL_law 19 = .ok (.aload_n 0, 1) := by decide +kernel
theorem dL_law_20 : decode cL_law 20 = .ok (.arraylength, 1) := by decide +kernel
theorem dL_law_21 : decode cL_law 21 = .ok (.iconst 5, 1) := by decide +kernel
theorem dL_law_22 : decode cL_law 22 = .ok (.isub, 1) := by decide +kernel
theorem dL_law_23 : decode cL_law 23 = .ok (.if_icmp .gt 699, 3) := by decide +kernel
theorem dL_law_26 : decode cL_law 26 = .ok (.aload_n 0, 1) := by decide +kernel
theorem dL_law_27 : decode cL_law 27 = .ok (.iload_n 3, 1) := by decide +kernel
theorem dL_law_28 : decode cL_law 28 = .ok (.iaload, 1) := by decide +kernel
theorem dL_law_29 : decode cL_law 29 = .ok (.bipush 31, 2) := by decide +kernel
theorem dL_law_31 : decode cL_law 31 = .ok (.iand, 1) := by decide +kernel
theorem dL_law_32 : decode cL_law 32 = .ok (.tableswitch 684 0 20 #[100, 125, 138, 161, 196, 209, 232, 255, 280, 293, 306, 319, 332, 355, 388, 421, 490, 534, 587, 638, 661], 100) := by decide +kernel
theorem dL_law_132 : decode cL_law 132 = .ok (.aload_n 1, 1) := by decide +kernel
theorem dL_law_133 : decode cL_law 133 = .ok (.aload_n 0, 1) := by decide +kernel
theorem dL_law_134 : decode cL_law 134 = .ok (.iload_n 3, 1) := by decide +kernel
theorem dL_law_135 : decode cL_law 135 = .ok (.iconst 1, 1) := by decide +kernel
theorem dL_law_136 : decode cL_law 136 = .ok (.iadd, 1) := by decide +kernel
theorem dL_law_137 : decode cL_law 137 = .ok (.iaload, 1) := by decide +kernel
theorem dL_law_138 : decode cL_law 138 = .ok (.i2c, 1) := by decide +kernel
theorem dL_law_139 : decode cL_law 139 = .ok (.invokevirtual 13, 3) := by decide +kernel
theorem dL_law_142 : decode cL_law 142 = .ok (.aload_n 2, 1) := by decide +kernel
theorem dL_law_143 : decode cL_law 143 = .ok (.aload_n 0, 1) := by decide +kernel
theorem dL_law_144 : decode cL_law 144 = .ok (.iload_n 3, 1) := by decide +kernel
theorem dL_law_145 : decode cL_law 145 = .ok (.iconst 1, 1) := by decide +kernel
theorem dL_law_146 : decode cL_law 146 = .ok (.iadd, 1) := by decide +kernel
theorem dL_law_147 : decode cL_law 147 = .ok (.iaload, 1) := by decide +kernel
theorem dL_law_148 : decode cL_law 148 = .ok (.i2c, 1) := by decide +kernel
theorem dL_law_149 : decode cL_law 149 = .ok (.invokevirtual 17, 3) := by decide +kernel
theorem dL_law_152 : decode cL_law 152 = .ok (.if_icmp .eq 564, 3) := by decide +kernel
theorem dL_law_155 : decode cL_law 155 = .ok (.iconst 0, 1) := by decide +kernel
theorem dL_law_156 : decode cL_law 156 = .ok (.ireturn, 1) := by decide +kernel
theorem dL_law_157 : decode cL_law 157 = .ok (.aload_n 1, 1) := by decide +kernel
theorem dL_law_158 : decode cL_law 158 = .ok (.invokevirtual 18, 3) := by decide +kernel
theorem dL_law_161 : decode cL_law 161 = .ok (.aload_n 2, 1) := by decide +kernel
theorem dL_law_162 : decode cL_law 162 = .ok (.invokevirtual 22, 3) := by decide +kernel
theorem dL_law_165 : decode cL_law 165 = .ok (.if_icmp .eq 551, 3) := by decide +kernel
theorem dL_law_168 : decode cL_law 168 = .ok (.iconst 0, 1) := by decide +kernel
theorem dL_law_169 : decode cL_law 169 = .ok (.ireturn, 1) := by decide +kernel
theorem dL_law_170 : decode cL_law 170 = .ok (.aload_n 1, 1) := by decide +kernel
theorem dL_law_171 : decode cL_law 171 = .ok (.aload_n 0, 1) := by decide +kernel
theorem dL_law_172 : decode cL_law 172 = .ok (.iload_n 3, 1) := by decide +kernel
theorem dL_law_173 : decode cL_law 173 = .ok (.iconst 1, 1) := by decide +kernel
theorem dL_law_174 : decode cL_law 174 = .ok (.iadd, 1) := by decide +kernel
theorem dL_law_175 : decode cL_law 175 = .ok (.iaload, 1) := by decide +kernel
theorem dL_law_176 : decode cL_law 176 = .ok (.invokevirtual 23, 3) := by decide +kernel
theorem dL_law_179 : decode cL_law 179 = .ok (.aload_n 2, 1) := by decide +kernel
theorem dL_law_180 : decode cL_law 180 = .ok (.aload_n 0, 1) := by decide +kernel
theorem dL_law_181 : decode cL_law 181 = .ok (.iload_n 3, 1) := by decide +kernel
theorem dL_law_182 : decode cL_law 182 = .ok (.iconst 1, 1) := by decide +kernel
theorem dL_law_183 : decode cL_law 183 = .ok (.iadd, 1) := by decide +kernel
theorem dL_law_184 : decode cL_law 184 = .ok (.iaload, 1) := by decide +kernel
theorem dL_law_185 : decode cL_law 185 = .ok (.invokevirtual 27, 3) := by decide +kernel
theorem dL_law_188 : decode cL_law 188 = .ok (.if_icmp .eq 528, 3) := by decide +kernel
theorem dL_law_191 : decode cL_law 191 = .ok (.iconst 0, 1) := by decide +kernel
theorem dL_law_192 : decode cL_law 192 = .ok (.ireturn, 1) := by decide +kernel
theorem dL_law_193 : decode cL_law 193 = .ok (.aload_n 1, 1) := by decide +kernel
theorem dL_law_194 : decode cL_law 194 = .ok (.aload_n 0, 1) := by decide +kernel
theorem dL_law_195 : decode cL_law 195 = .ok (.iload_n 3, 1) := by decide +kernel
theorem dL_law_196 : decode cL_law 196 = .ok (.iconst 1, 1) := by decide +kernel
theorem dL_law_197 : decode cL_law 197 = .ok (.iadd, 1) := by decide +kernel
theorem dL_law_198 : decode cL_law 198 = .ok (.iaload, 1) := by decide +kernel
theorem dL_law_199 : decode cL_law 199 = .ok (.aload_n 0, 1) := by decide +kernel
theorem dL_law_200 : decode cL_law 200 = .ok (.iload_n 3, 1) := by decide +kernel
theorem dL_law_201 : decode cL_law 201 = .ok (.iconst 2, 1) := by decide +kernel
theorem dL_law_202 : decode cL_law 202 = .ok (.iadd, 1) := by decide +kernel
theorem dL_law_203 : decode cL_law 203 = .ok (.iaload, 1) := by decide +kernel
theorem dL_law_204 : decode cL_law 204 = .ok (.i2c, 1) := by decide +kernel
theorem dL_law_205 : decode cL_law 205 = .ok (.invokevirtual 28, 3) := by decide +kernel
theorem dL_law_208 : decode cL_law 208 = .ok (.aload_n 2, 1) := by decide +kernel
theorem dL_law_209 : decode cL_law 209 = .ok (.aload_n 0, 1) := by decide +kernel
theorem dL_law_210 : decode cL_law 210 = .ok (.iload_n 3, 1) := by decide +kernel
theorem dL_law_211 : decode cL_law 211 = .ok (.iconst 1, 1) := by decide +kernel
theorem dL_law_212 : decode cL_law 212 = .ok (.iadd, 1) := by decide +kernel
theorem dL_law_213 : decode cL_law 213 = .ok (.iaload, 1) := by decide +kernel
theorem dL_law_214 : decode cL_law 214 = .ok (.aload_n 0, 1) := by decide +kernel
theorem dL_law_215 : decode cL_law 215 = .ok (.iload_n 3, 1) := by decide +kernel
theorem dL_law_216 : decode cL_law 216 = .ok (.iconst 2, 1) := by decide +kernel
theorem dL_law_217 : decode cL_law 217 = .ok (.iadd, 1) := by decide +kernel
theorem dL_law_218 : decode cL_law 218 = .ok (.iaload, 1) := by decide +kernel
theorem dL_law_219 : decode cL_law 219 = .ok (.i2c, 1) := by decide +kernel
theorem dL_law_220 : decode cL_law 220 = .ok (.invokevirtual 32, 3) := by decide +kernel
theorem dL_law_223 : decode cL_law 223 = .ok (.if_icmp .eq 493, 3) := by decide +kernel
theorem dL_law_226 : decode cL_law 226 = .ok (.iconst 0, 1) := by decide +kernel
theorem dL_law_227 : decode cL_law 227 = .ok (.ireturn, 1) := by decide +kernel
theorem dL_law_228 : decode cL_law 228 = .ok (.aload_n 1, 1) := by decide +kernel
theorem dL_law_229 : decode cL_law 229 = .ok (.invokevirtual 33, 3) := by decide +kernel
theorem dL_law_232 : decode cL_law 232 = .ok (.aload_n 2, 1) := by decide +kernel
theorem dL_law_233 : decode cL_law 233 = .ok (.invokevirtual 36, 3) := by decide +kernel
theorem dL_law_236 : decode cL_law 236 = .ok (.if_icmp .eq 480, 3) := by decide +kernel
theorem dL_law_239 : decode cL_law 239 = .ok (.iconst 0, 1) := by decide +kernel
theorem dL_law_240 : decode cL_law 240 = .ok (.ireturn, 1) := by decide +kernel
theorem dL_law_241 : decode cL_law 241 = .ok (.aload_n 1, 1) := by decide +kernel
theorem dL_law_242 : decode cL_law 242 = .ok (.aload_n 0, 1) := by decide +kernel
theorem dL_law_243 : decode cL_law 243 = .ok (.iload_n 3, 1) := by decide +kernel
theorem dL_law_244 : decode cL_law 244 = .ok (.iconst 1, 1) := by decide +kernel
theorem dL_law_245 : decode cL_law 245 = .ok (.iadd, 1) := by decide +kernel
theorem dL_law_246 : decode cL_law 246 = .ok (.iaload, 1) := by decide +kernel
theorem dL_law_247 : decode cL_law 247 = .ok (.invokevirtual 37, 3) := by decide +kernel
theorem dL_law_250 : decode cL_law 250 = .ok (.aload_n 2, 1) := by decide +kernel
theorem dL_law_251 : decode cL_law 251 = .ok (.aload_n 0, 1) := by decide +kernel
theorem dL_law_252 : decode cL_law 252 = .ok (.iload_n 3, 1) := by decide +kernel
theorem dL_law_253 : decode cL_law 253 = .ok (.iconst 1, 1) := by decide +kernel
theorem dL_law_254 : decode cL_law 254 = .ok (.iadd, 1) := by decide +kernel
theorem dL_law_255 : decode cL_law 255 = .ok (.iaload, 1) := by decide +kernel
theorem dL_law_256 : decode cL_law 256 = .ok (.invokevirtual 40, 3) := by decide +kernel
theorem dL_law_259 : decode cL_law 259 = .ok (.if_icmp .eq 457, 3) := by decide +kernel
theorem dL_law_262 : decode cL_law 262 = .ok (.iconst 0, 1) := by decide +kernel
theorem dL_law_263 : decode cL_law 263 = .ok (.ireturn, 1) := by decide +kernel
theorem dL_law_264 : decode cL_law 264 = .ok (.aload_n 1, 1) := by decide +kernel
theorem dL_law_265 : decode cL_law 265 = .ok (.aload_n 0, 1) := by decide +kernel
theorem dL_law_266 : decode cL_law 266 = .ok (.iload_n 3, 1) := by decide +kernel
theorem dL_law_267 : decode cL_law 267 = .ok (.iconst 1, 1) := by decide +kernel
theorem dL_law_268 : decode cL_law 268 = .ok (.iadd, 1) := by decide +kernel
theorem dL_law_269 : decode cL_law 269 = .ok (.iaload, 1) := by decide +kernel
theorem dL_law_270 : decode cL_law 270 = .ok (.invokevirtual 41, 3) := by decide +kernel
theorem dL_law_273 : decode cL_law 273 = .ok (.aload_n 2, 1) := by decide +kernel
theorem dL_law_274 : decode cL_law 274 = .ok (.aload_n 0, 1) := by decide +kernel
theorem dL_law_275 : decode cL_law 275 = .ok (.iload_n 3, 1) := by decide +kernel
theorem dL_law_276 : decode cL_law 276 = .ok (.iconst 1, 1) := by decide +kernel
theorem dL_law_277 : decode cL_law 277 = .ok (.iadd, 1) := by decide +kernel
theorem dL_law_278 : decode cL_law 278 = .ok (.iaload, 1) := by decide +kernel
theorem dL_law_279 : decode cL_law 279 = .ok (.invokevirtual 44, 3) := by decide +kernel
theorem dL_law_282 : decode cL_law 282 = .ok (.if_icmp .eq 434, 3) := by decide +kernel
theorem dL_law_285 : decode cL_law 285 = .ok (.iconst 0, 1) := by decide +kernel
theorem dL_law_286 : decode cL_law 286 = .ok (.ireturn, 1) := by decide +kernel
theorem dL_law_287 : decode cL_law 287 = .ok (.aload_n 1, 1) := by decide +kernel
theorem dL_law_288 : decode cL_law 288 = .ok (.aload_n 0, 1) := by decide +kernel
theorem dL_law_289 : decode cL_law 289 = .ok (.iload_n 3, 1) := by decide +kernel
theorem dL_law_290 : decode cL_law 290 = .ok (.iconst 1, 1) := by decide +kernel
theorem dL_law_291 : decode cL_law 291 = .ok (.iadd, 1) := by decide +kernel
theorem dL_law_292 : decode cL_law 292 = .ok (.iaload, 1) := by decide +kernel
theorem dL_law_293 : decode cL_law 293 = .ok (.i2c, 1) := by decide +kernel
theorem dL_law_294 : decode cL_law 294 = .ok (.invokevirtual 45, 3) := by decide +kernel
theorem dL_law_297 : decode cL_law 297 = .ok (.aload_n 2, 1) := by decide +kernel
theorem dL_law_298 : decode cL_law 298 = .ok (.aload_n 0, 1) := by decide +kernel
theorem dL_law_299 : decode cL_law 299 = .ok (.iload_n 3, 1) := by decide +kernel
theorem dL_law_300 : decode cL_law 300 = .ok (.iconst 1, 1) := by decide +kernel
theorem dL_law_301 : decode cL_law 301 = .ok (.iadd, 1) := by decide +kernel
theorem dL_law_302 : decode cL_law 302 = .ok (.iaload, 1) := by decide +kernel
theorem dL_law_303 : decode cL_law 303 = .ok (.i2c, 1) := by decide +kernel
theorem dL_law_304 : decode cL_law 304 = .ok (.invokevirtual 48, 3) := by decide +kernel
theorem dL_law_307 : decode cL_law 307 = .ok (.if_icmp .eq 409, 3) := by decide +kernel
theorem dL_law_310 : decode cL_law 310 = .ok (.iconst 0, 1) := by decide +kernel
theorem dL_law_311 : decode cL_law 311 = .ok (.ireturn, 1) := by decide +kernel
theorem dL_law_312 : decode cL_law 312 = .ok (.aload_n 1, 1) := by decide +kernel
theorem dL_law_313 : decode cL_law 313 = .ok (.invokevirtual 49, 3) := by decide +kernel
theorem dL_law_316 : decode cL_law 316 = .ok (.aload_n 2, 1) := by decide +kernel
theorem dL_law_317 : decode cL_law 317 = .ok (.invokevirtual 52, 3) := by decide +kernel
theorem dL_law_320 : decode cL_law 320 = .ok (.if_icmp .eq 396, 3) := by decide +kernel
theorem dL_law_323 : decode cL_law 323 = .ok (.iconst 0, 1) := by decide +kernel
theorem dL_law_324 : decode cL_law 324 = .ok (.ireturn, 1) := by decide +kernel
theorem dL_law_325 : decode cL_law 325 = .ok (.aload_n 1, 1) := by decide +kernel
theorem dL_law_326 : decode cL_law 326 = .ok (.invokevirtual 53, 3) := by decide +kernel
theorem dL_law_329 : decode cL_law 329 = .ok (.aload_n 2, 1) := by decide +kernel
theorem dL_law_330 : decode cL_law 330 = .ok (.invokevirtual 56, 3) := by decide +kernel
theorem dL_law_333 : decode cL_law 333 = .ok (.if_icmp .eq 383, 3) := by decide +kernel
theorem dL_law_336 : decode cL_law 336 = .ok (.iconst 0, 1) := by decide +kernel
theorem dL_law_337 : decode cL_law 337 = .ok (.ireturn, 1) := by decide +kernel
theorem dL_law_338 : decode cL_law 338 = .ok (.aload_n 1, 1) := by decide +kernel
theorem dL_law_339 : decode cL_law 339 = .ok (.invokevirtual 57, 3) := by decide +kernel
theorem dL_law_342 : decode cL_law 342 = .ok (.aload_n 2, 1) := by decide +kernel
theorem dL_law_343 : decode cL_law 343 = .ok (.invokevirtual 60, 3) := by decide +kernel
theorem dL_law_346 : decode cL_law 346 = .ok (.if_icmp .eq 370, 3) := by decide +kernel
theorem dL_law_349 : decode cL_law 349 = .ok (.iconst 0, 1) := by decide +kernel
theorem dL_law_350 : decode cL_law 350 = .ok (.ireturn, 1) := by decide +kernel
theorem dL_law_351 : decode cL_law 351 = .ok (.aload_n 1, 1) := by decide +kernel
theorem dL_law_352 : decode cL_law 352 = .ok (.invokevirtual 61, 3) := by decide +kernel
theorem dL_law_355 : decode cL_law 355 = .ok (.aload_n 2, 1) := by decide +kernel
theorem dL_law_356 : decode cL_law 356 = .ok (.invokevirtual 64, 3) := by decide +kernel
theorem dL_law_359 : decode cL_law 359 = .ok (.if_icmp .eq 357, 3) := by decide +kernel
theorem dL_law_362 : decode cL_law 362 = .ok (.iconst 0, 1) := by decide +kernel
theorem dL_law_363 : decode cL_law 363 = .ok (.ireturn, 1) := by decide +kernel
theorem dL_law_364 : decode cL_law 364 = .ok (.aload_n 1, 1) := by decide +kernel
theorem dL_law_365 : decode cL_law 365 = .ok (.aload_n 0, 1) := by decide +kernel
theorem dL_law_366 : decode cL_law 366 = .ok (.iload_n 3, 1) := by decide +kernel
theorem dL_law_367 : decode cL_law 367 = .ok (.iconst 1, 1) := by decide +kernel
theorem dL_law_368 : decode cL_law 368 = .ok (.iadd, 1) := by decide +kernel
theorem dL_law_369 : decode cL_law 369 = .ok (.iaload, 1) := by decide +kernel
theorem dL_law_370 : decode cL_law 370 = .ok (.invokevirtual 65, 3) := by decide +kernel
theorem dL_law_373 : decode cL_law 373 = .ok (.aload_n 2, 1) := by decide +kernel
theorem dL_law_374 : decode cL_law 374 = .ok (.aload_n 0, 1) := by decide +kernel
theorem dL_law_375 : decode cL_law 375 = .ok (.iload_n 3, 1) := by decide +kernel
theorem dL_law_376 : decode cL_law 376 = .ok (.iconst 1, 1) := by decide +kernel
theorem dL_law_377 : decode cL_law 377 = .ok (.iadd, 1) := by decide +kernel
theorem dL_law_378 : decode cL_law 378 = .ok (.iaload, 1) := by decide +kernel
theorem dL_law_379 : decode cL_law 379 = .ok (.invokevirtual 68, 3) := by decide +kernel
theorem dL_law_382 : decode cL_law 382 = .ok (.if_icmp .eq 334, 3) := by decide +kernel
theorem dL_law_385 : decode cL_law 385 = .ok (.iconst 0, 1) := by decide +kernel
theorem dL_law_386 : decode cL_law 386 = .ok (.ireturn, 1) := by decide +kernel
theorem dL_law_387 : decode cL_law 387 = .ok (.aload_n 1, 1) := by decide +kernel
theorem dL_law_388 : decode cL_law 388 = .ok (.aload_n 0, 1) := by decide +kernel
theorem dL_law_389 : decode cL_law 389 = .ok (.iload_n 3, 1) := by decide +kernel
theorem dL_law_390 : decode cL_law 390 = .ok (.iconst 1, 1) := by decide +kernel
theorem dL_law_391 : decode cL_law 391 = .ok (.iadd, 1) := by decide +kernel
theorem dL_law_392 : decode cL_law 392 = .ok (.iaload, 1) := by decide +kernel
theorem dL_law_393 : decode cL_law 393 = .ok (.aload_n 0, 1) := by decide +kernel
theorem dL_law_394 : decode cL_law 394 = .ok (.iload_n 3, 1) := by decide +kernel
theorem dL_law_395 : decode cL_law 395 = .ok (.iconst 2, 1) := by decide +kernel
theorem dL_law_396 : decode cL_law 396 = .ok (.iadd, 1) := by decide +kernel
theorem dL_law_397 : decode cL_law 397 = .ok (.iaload, 1) := by decide +kernel
theorem dL_law_398 : decode cL_law 398 = .ok (.invokevirtual 69, 3) := by decide +kernel
theorem dL_law_401 : decode cL_law 401 = .ok (.aload_n 2, 1) := by decide +kernel
theorem dL_law_402 : decode cL_law 402 = .ok (.aload_n 0, 1) := by decide +kernel
theorem dL_law_403 : decode cL_law 403 = .ok (.iload_n 3, 1) := by decide +kernel
theorem dL_law_404 : decode cL_law 404 = .ok (.iconst 1, 1) := by decide +kernel
theorem dL_law_405 : decode cL_law 405 = .ok (.iadd, 1) := by decide +kernel
theorem dL_law_406 : decode cL_law 406 = .ok (.iaload, 1) := by decide +kernel
theorem dL_law_407 : decode cL_law 407 = .ok (.aload_n 0, 1) := by decide +kernel
theorem dL_law_408 : decode cL_law 408 = .ok (.iload_n 3, 1) := by decide +kernel
theorem dL_law_409 : decode cL_law 409 = .ok (.iconst 2, 1) := by decide +kernel
theorem dL_law_410 : decode cL_law 410 = .ok (.iadd, 1) := by decide +kernel
theorem dL_law_411 : decode cL_law 411 = .ok (.iaload, 1) := by decide +kernel
theorem dL_law_412 : decode cL_law 412 = .ok (.invokevirtual 73, 3) := by decide +kernel
theorem dL_law_415 : decode cL_law 415 = .ok (.if_icmp .eq 301, 3) := by decide +kernel
theorem dL_law_418 : decode cL_law 418 = .ok (.iconst 0, 1) := by decide +kernel
theorem dL_law_419 : decode cL_law 419 = .ok (.ireturn, 1) := by decide +kernel
theorem dL_law_420 : decode cL_law 420 = .ok (.aload_n 1, 1) := by decide +kernel
theorem dL_law_421 : decode cL_law 421 = .ok (.aload_n 0, 1) := by decide +kernel
theorem dL_law_422 : decode cL_law 422 = .ok (.iload_n 3, 1) := by decide +kernel
theorem dL_law_423 : decode cL_law 423 = .ok (.iconst 1, 1) := by decide +kernel
theorem dL_law_424 : decode cL_law 424 = .ok (.iadd, 1) := by decide +kernel
theorem dL_law_425 : decode cL_law 425 = .ok (.iaload, 1) := by decide +kernel
theorem dL_law_426 : decode cL_law 426 = .ok (.aload_n 0, 1) := by decide +kernel
theorem dL_law_427 : decode cL_law 427 = .ok (.iload_n 3, 1) := by decide +kernel
theorem dL_law_428 : decode cL_law 428 = .ok (.iconst 2, 1) := by decide +kernel
theorem dL_law_429 : decode cL_law 429 = .ok (.iadd, 1) := by decide +kernel
theorem dL_law_430 : decode cL_law 430 = .ok (.iaload, 1) := by decide +kernel
theorem dL_law_431 : decode cL_law 431 = .ok (.invokevirtual 74, 3) := by decide +kernel
theorem dL_law_434 : decode cL_law 434 = .ok (.aload_n 2, 1) := by decide +kernel
theorem dL_law_435 : decode cL_law 435 = .ok (.aload_n 0, 1) := by decide +kernel
theorem dL_law_436 : decode cL_law 436 = .ok (.iload_n 3, 1) := by decide +kernel
theorem dL_law_437 : decode cL_law 437 = .ok (.iconst 1, 1) := by decide +kernel
theorem dL_law_438 : decode cL_law 438 = .ok (.iadd, 1) := by decide +kernel
theorem dL_law_439 : decode cL_law 439 = .ok (.iaload, 1) := by decide +kernel
theorem dL_law_440 : decode cL_law 440 = .ok (.aload_n 0, 1) := by decide +kernel
theorem dL_law_441 : decode cL_law 441 = .ok (.iload_n 3, 1) := by decide +kernel
theorem dL_law_442 : decode cL_law 442 = .ok (.iconst 2, 1) := by decide +kernel
theorem dL_law_443 : decode cL_law 443 = .ok (.iadd, 1) := by decide +kernel
theorem dL_law_444 : decode cL_law 444 = .ok (.iaload, 1) := by decide +kernel
theorem dL_law_445 : decode cL_law 445 = .ok (.invokevirtual 77, 3) := by decide +kernel
theorem dL_law_448 : decode cL_law 448 = .ok (.if_icmp .eq 268, 3) := by decide +kernel
theorem dL_law_451 : decode cL_law 451 = .ok (.iconst 0, 1) := by decide +kernel
theorem dL_law_452 : decode cL_law 452 = .ok (.ireturn, 1) := by decide +kernel
theorem dL_law_453 : decode cL_law 453 = .ok (.aload_n 1, 1) := by decide +kernel
theorem dL_law_454 : decode cL_law 454 = .ok (.aload_n 0, 1) := by decide +kernel
theorem dL_law_455 : decode cL_law 455 = .ok (.iload_n 3, 1) := by decide +kernel
theorem dL_law_456 : decode cL_law 456 = .ok (.iconst 1, 1) := by decide +kernel
theorem dL_law_457 : decode cL_law 457 = .ok (.iadd, 1) := by decide +kernel
theorem dL_law_458 : decode cL_law 458 = .ok (.iaload, 1) := by decide +kernel
theorem dL_law_459 : decode cL_law 459 = .ok (.aload_n 0, 1) := by decide +kernel
theorem dL_law_460 : decode cL_law 460 = .ok (.iload_n 3, 1) := by decide +kernel
theorem dL_law_461 : decode cL_law 461 = .ok (.iconst 2, 1) := by decide +kernel
theorem dL_law_462 : decode cL_law 462 = .ok (.iadd, 1) := by decide +kernel
theorem dL_law_463 : decode cL_law 463 = .ok (.iaload, 1) := by decide +kernel
theorem dL_law_464 : decode cL_law 464 = .ok (.aload_n 0, 1) := by decide +kernel
theorem dL_law_465 : decode cL_law 465 = .ok (.iload_n 3, 1) := by decide +kernel
theorem dL_law_466 : decode cL_law 466 = .ok (.iconst 3, 1) := by decide +kernel
theorem dL_law_467 : decode cL_law 467 = .ok (.iadd, 1) := by decide +kernel
theorem dL_law_468 : decode cL_law 468 = .ok (.iaload, 1) := by decide +kernel
theorem dL_law_469 : decode cL_law 469 = .ok (.ifCond .eq 7, 3) := by decide +kernel
theorem dL_law_472 : decode cL_law 472 = .ok (.iconst 1, 1) := by decide +kernel
theorem dL_law_473 : decode cL_law 473 = .ok (.goto 4, 3) := by decide +kernel
theorem dL_law_476 : decode cL_law 476 = .ok (.iconst 0, 1) := by decide +kernel
theorem dL_law_477 : decode cL_law 477 = .ok (.aload_n 0, 1) := by decide +kernel
theorem dL_law_478 : decode cL_law 478 = .ok (.iload_n 3, 1) := by decide +kernel
theorem dL_law_479 : decode cL_law 479 = .ok (.iconst 4, 1) := by decide +kernel
theorem dL_law_480 : decode cL_law 480 = .ok (.iadd, 1) := by decide +kernel
theorem dL_law_481 : decode cL_law 481 = .ok (.iaload, 1) := by decide +kernel
theorem dL_law_482 : decode cL_law 482 = .ok (.invokevirtual 78, 3) := by decide +kernel
theorem dL_law_485 : decode cL_law 485 = .ok (.aload_n 2, 1) := by decide +kernel
theorem dL_law_486 : decode cL_law 486 = .ok (.aload_n 0, 1) := by decide +kernel
theorem dL_law_487 : decode cL_law 487 = .ok (.iload_n 3, 1) := by decide +kernel
theorem dL_law_488 : decode cL_law 488 = .ok (.iconst 1, 1) := by decide +kernel
theorem dL_law_489 : decode cL_law 489 = .ok (.iadd, 1) := by decide +kernel
theorem dL_law_490 : decode cL_law 490 = .ok (.iaload, 1) := by decide +kernel
theorem dL_law_491 : decode cL_law 491 = .ok (.aload_n 0, 1) := by decide +kernel
theorem dL_law_492 : decode cL_law 492 = .ok (.iload_n 3, 1) := by decide +kernel
theorem dL_law_493 : decode cL_law 493 = .ok (.iconst 2, 1) := by decide +kernel
theorem dL_law_494 : decode cL_law 494 = .ok (.iadd, 1) := by decide +kernel
theorem dL_law_495 : decode cL_law 495 = .ok (.iaload, 1) := by decide +kernel
theorem dL_law_496 : decode cL_law 496 = .ok (.aload_n 0, 1) := by decide +kernel
theorem dL_law_497 : decode cL_law 497 = .ok (.iload_n 3, 1) := by decide +kernel
theorem dL_law_498 : decode cL_law 498 = .ok (.iconst 3, 1) := by decide +kernel
theorem dL_law_499 : decode cL_law 499 = .ok (.iadd, 1) := by decide +kernel
theorem dL_law_500 : decode cL_law 500 = .ok (.iaload, 1) := by decide +kernel
theorem dL_law_501 : decode cL_law 501 = .ok (.ifCond .eq 7, 3) := by decide +kernel
theorem dL_law_504 : decode cL_law 504 = .ok (.iconst 1, 1) := by decide +kernel
theorem dL_law_505 : decode cL_law 505 = .ok (.goto 4, 3) := by decide +kernel
theorem dL_law_508 : decode cL_law 508 = .ok (.iconst 0, 1) := by decide +kernel
theorem dL_law_509 : decode cL_law 509 = .ok (.aload_n 0, 1) := by decide +kernel
theorem dL_law_510 : decode cL_law 510 = .ok (.iload_n 3, 1) := by decide +kernel
theorem dL_law_511 : decode cL_law 511 = .ok (.iconst 4, 1) := by decide +kernel
theorem dL_law_512 : decode cL_law 512 = .ok (.iadd, 1) := by decide +kernel
theorem dL_law_513 : decode cL_law 513 = .ok (.iaload, 1) := by decide +kernel
theorem dL_law_514 : decode cL_law 514 = .ok (.invokevirtual 82, 3) := by decide +kernel
theorem dL_law_517 : decode cL_law 517 = .ok (.if_icmp .eq 199, 3) := by decide +kernel
theorem dL_law_520 : decode cL_law 520 = .ok (.iconst 0, 1) := by decide +kernel
theorem dL_law_521 : decode cL_law 521 = .ok (.ireturn, 1) := by decide +kernel
theorem dL_law_522 : decode cL_law 522 = .ok (.aload_n 1, 1) := by decide +kernel
theorem dL_law_523 : decode cL_law 523 = .ok (.aload_n 0, 1) := by decide +kernel
theorem dL_law_524 : decode cL_law 524 = .ok (.iload_n 3, 1) := by decide +kernel
theorem dL_law_525 : decode cL_law 525 = .ok (.iconst 1, 1) := by decide +kernel
theorem dL_law_526 : decode cL_law 526 = .ok (.iadd, 1) := by decide +kernel
theorem dL_law_527 : decode cL_law 527 = .ok (.iaload, 1) := by decide +kernel
theorem dL_law_528 : decode cL_law 528 = .ok (.aload_n 0, 1) := by decide +kernel
theorem dL_law_529 : decode cL_law 529 = .ok (.iload_n 3, 1) := by decide +kernel
theorem dL_law_530 : decode cL_law 530 = .ok (.iconst 2, 1) := by decide +kernel
theorem dL_law_531 : decode cL_law 531 = .ok (.iadd, 1) := by decide +kernel
theorem dL_law_532 : decode cL_law 532 = .ok (.iaload, 1) := by decide +kernel
theorem dL_law_533 : decode cL_law 533 = .ok (.aload_n 0, 1) := by decide +kernel
theorem dL_law_534 : decode cL_law 534 = .ok (.iload_n 3, 1) := by decide +kernel
theorem dL_law_535 : decode cL_law 535 = .ok (.iconst 3, 1) := by decide +kernel
theorem dL_law_536 : decode cL_law 536 = .ok (.iadd, 1) := by decide +kernel
theorem dL_law_537 : decode cL_law 537 = .ok (.iaload, 1) := by decide +kernel
theorem dL_law_538 : decode cL_law 538 = .ok (.invokevirtual 83, 3) := by decide +kernel
theorem dL_law_541 : decode cL_law 541 = .ok (.aload_n 2, 1) := by decide +kernel
theorem dL_law_542 : decode cL_law 542 = .ok (.aload_n 0, 1) := by decide +kernel
theorem dL_law_543 : decode cL_law 543 = .ok (.iload_n 3, 1) := by decide +kernel
theorem dL_law_544 : decode cL_law 544 = .ok (.iconst 1, 1) := by decide +kernel
theorem dL_law_545 : decode cL_law 545 = .ok (.iadd, 1) := by decide +kernel
theorem dL_law_546 : decode cL_law 546 = .ok (.iaload, 1) := by decide +kernel
theorem dL_law_547 : decode cL_law 547 = .ok (.aload_n 0, 1) := by decide +kernel
theorem dL_law_548 : decode cL_law 548 = .ok (.iload_n 3, 1) := by decide +kernel
theorem dL_law_549 : decode cL_law 549 = .ok (.iconst 2, 1) := by decide +kernel
theorem dL_law_550 : decode cL_law 550 = .ok (.iadd, 1) := by decide +kernel
theorem dL_law_551 : decode cL_law 551 = .ok (.iaload, 1) := by decide +kernel
theorem dL_law_552 : decode cL_law 552 = .ok (.aload_n 0, 1) := by decide +kernel
theorem dL_law_553 : decode cL_law 553 = .ok (.iload_n 3, 1) := by decide +kernel
theorem dL_law_554 : decode cL_law 554 = .ok (.iconst 3, 1) := by decide +kernel
theorem dL_law_555 : decode cL_law 555 = .ok (.iadd, 1) := by decide +kernel
theorem dL_law_556 : decode cL_law 556 = .ok (.iaload, 1) := by decide +kernel
theorem dL_law_557 : decode cL_law 557 = .ok (.invokevirtual 87, 3) := by decide +kernel
theorem dL_law_560 : decode cL_law 560 = .ok (.lcmp, 1) := by decide +kernel
theorem dL_law_561 : decode cL_law 561 = .ok (.ifCond .eq 155, 3) := by decide +kernel
theorem dL_law_564 : decode cL_law 564 = .ok (.iconst 0, 1) := by decide +kernel
theorem dL_law_565 : decode cL_law 565 = .ok (.ireturn, 1) := by decide +kernel
theorem dL_law_566 : decode cL_law 566 = .ok (.aload_n 1, 1) := by decide +kernel
theorem dL_law_567 : decode cL_law 567 = .ok (.aload_n 0, 1) := by decide +kernel
theorem dL_law_568 : decode cL_law 568 = .ok (.iload_n 3, 1) := by decide +kernel
theorem dL_law_569 : decode cL_law 569 = .ok (.iconst 1, 1) := by decide +kernel
theorem dL_law_570 : decode cL_law 570 = .ok (.iadd, 1) := by decide +kernel
theorem dL_law_571 : decode cL_law 571 = .ok (.iaload, 1) := by decide +kernel
theorem dL_law_572 : decode cL_law 572 = .ok (.aload_n 0, 1) := by decide +kernel
theorem dL_law_573 : decode cL_law 573 = .ok (.iload_n 3, 1) := by decide +kernel
theorem dL_law_574 : decode cL_law 574 = .ok (.iconst 2, 1) := by decide +kernel
theorem dL_law_575 : decode cL_law 575 = .ok (.iadd, 1) := by decide +kernel
theorem dL_law_576 : decode cL_law 576 = .ok (.iaload, 1) := by decide +kernel
theorem dL_law_577 : decode cL_law 577 = .ok (.aload_n 0, 1) := by decide +kernel
theorem dL_law_578 : decode cL_law 578 = .ok (.iload_n 3, 1) := by decide +kernel
theorem dL_law_579 : decode cL_law 579 = .ok (.iconst 3, 1) := by decide +kernel
theorem dL_law_580 : decode cL_law 580 = .ok (.iadd, 1) := by decide +kernel
theorem dL_law_581 : decode cL_law 581 = .ok (.iaload, 1) := by decide +kernel
theorem dL_law_582 : decode cL_law 582 = .ok (.aload_n 0, 1) := by decide +kernel
theorem dL_law_583 : decode cL_law 583 = .ok (.iload_n 3, 1) := by decide +kernel
theorem dL_law_584 : decode cL_law 584 = .ok (.iconst 4, 1) := by decide +kernel
theorem dL_law_585 : decode cL_law 585 = .ok (.iadd, 1) := by decide +kernel
theorem dL_law_586 : decode cL_law 586 = .ok (.iaload, 1) := by decide +kernel
theorem dL_law_587 : decode cL_law 587 = .ok (.invokevirtual 88, 3) := by decide +kernel
theorem dL_law_590 : decode cL_law 590 = .ok (.aload_n 2, 1) := by decide +kernel
theorem dL_law_591 : decode cL_law 591 = .ok (.aload_n 0, 1) := by decide +kernel
theorem dL_law_592 : decode cL_law 592 = .ok (.iload_n 3, 1) := by decide +kernel
theorem dL_law_593 : decode cL_law 593 = .ok (.iconst 1, 1) := by decide +kernel
theorem dL_law_594 : decode cL_law 594 = .ok (.iadd, 1) := by decide +kernel
theorem dL_law_595 : decode cL_law 595 = .ok (.iaload, 1) := by decide +kernel
theorem dL_law_596 : decode cL_law 596 = .ok (.aload_n 0, 1) := by decide +kernel
theorem dL_law_597 : decode cL_law 597 = .ok (.iload_n 3, 1) := by decide +kernel
theorem dL_law_598 : decode cL_law 598 = .ok (.iconst 2, 1) := by decide +kernel
theorem dL_law_599 : decode cL_law 599 = .ok (.iadd, 1) := by decide +kernel
theorem dL_law_600 : decode cL_law 600 = .ok (.iaload, 1) := by decide +kernel
theorem dL_law_601 : decode cL_law 601 = .ok (.aload_n 0, 1) := by decide +kernel
theorem dL_law_602 : decode cL_law 602 = .ok (.iload_n 3, 1) := by decide +kernel
theorem dL_law_603 : decode cL_law 603 = .ok (.iconst 3, 1) := by decide +kernel
theorem dL_law_604 : decode cL_law 604 = .ok (.iadd, 1) := by decide +kernel
theorem dL_law_605 : decode cL_law 605 = .ok (.iaload, 1) := by decide +kernel
theorem dL_law_606 : decode cL_law 606 = .ok (.aload_n 0, 1) := by decide +kernel
theorem dL_law_607 : decode cL_law 607 = .ok (.iload_n 3, 1) := by decide +kernel
theorem dL_law_608 : decode cL_law 608 = .ok (.iconst 4, 1) := by decide +kernel
theorem dL_law_609 : decode cL_law 609 = .ok (.iadd, 1) := by decide +kernel
theorem dL_law_610 : decode cL_law 610 = .ok (.iaload, 1) := by decide +kernel
theorem dL_law_611 : decode cL_law 611 = .ok (.invokevirtual 92, 3) := by decide +kernel
theorem dL_law_614 : decode cL_law 614 = .ok (.if_icmp .eq 102, 3) := by decide +kernel
theorem dL_law_617 : decode cL_law 617 = .ok (.iconst 0, 1) := by decide +kernel
theorem dL_law_618 : decode cL_law 618 = .ok (.ireturn, 1) := by decide +kernel
theorem dL_law_619 : decode cL_law 619 = .ok (.aload_n 1, 1) := by decide +kernel
theorem dL_law_620 : decode cL_law 620 = .ok (.aload_n 0, 1) := by decide +kernel
theorem dL_law_621 : decode cL_law 621 = .ok (.iload_n 3, 1) := by decide +kernel
theorem dL_law_622 : decode cL_law 622 = .ok (.iconst 1, 1) := by decide +kernel
theorem dL_law_623 : decode cL_law 623 = .ok (.iadd, 1) := by decide +kernel
theorem dL_law_624 : decode cL_law 624 = .ok (.iaload, 1) := by decide +kernel
theorem dL_law_625 : decode cL_law 625 = .ok (.invokevirtual 93, 3) := by decide +kernel
theorem dL_law_628 : decode cL_law 628 = .ok (.dstore 4, 2) := by decide +kernel
theorem dL_law_630 : decode cL_law 630 = .ok (.aload_n 2, 1) := by decide +kernel
theorem dL_law_631 : decode cL_law 631 = .ok (.aload_n 0, 1) := by decide +kernel
theorem dL_law_632 : decode cL_law 632 = .ok (.iload_n 3, 1) := by decide +kernel
theorem dL_law_633 : decode cL_law 633 = .ok (.iconst 1, 1) := by decide +kernel
theorem dL_law_634 : decode cL_law 634 = .ok (.iadd, 1) := by decide +kernel
theorem dL_law_635 : decode cL_law 635 = .ok (.iaload, 1) := by decide +kernel
theorem dL_law_636 : decode cL_law 636 = .ok (.invokevirtual 97, 3) := by decide +kernel
theorem dL_law_639 : decode cL_law 639 = .ok (.dstore 6, 2) := by decide +kernel
theorem dL_law_641 : decode cL_law 641 = .ok (.dload 4, 2) := by decide +kernel
theorem dL_law_643 : decode cL_law 643 = .ok (.dload 6, 2) := by decide +kernel
theorem dL_law_645 : decode cL_law 645 = .ok (.dcmp .l, 1) := by decide +kernel
theorem dL_law_646 : decode cL_law 646 = .ok (.ifCond .eq 21, 3) := by decide +kernel
theorem dL_law_649 : decode cL_law 649 = .ok (.dload 4, 2) := by decide +kernel
theorem dL_law_651 : decode cL_law 651 = .ok (.dload 4, 2) := by decide +kernel
theorem dL_law_653 : decode cL_law 653 = .ok (.dcmp .l, 1) := by decide +kernel
theorem dL_law_654 : decode cL_law 654 = .ok (.ifCond .eq 11, 3) := by decide +kernel
theorem dL_law_657 : decode cL_law 657 = .ok (.dload 6, 2) := by decide +kernel
theorem dL_law_659 : decode cL_law 659 = .ok (.dload 6, 2) := by decide +kernel
theorem dL_law_661 : decode cL_law 661 = .ok (.dcmp .l, 1) := by decide +kernel
theorem dL_law_662 : decode cL_law 662 = .ok (.ifCond .ne 5, 3) := by decide +kernel
theorem dL_law_665 : decode cL_law 665 = .ok (.iconst 0, 1) := by decide +kernel
theorem dL_law_666 : decode cL_law 666 = .ok (.ireturn, 1) := by decide +kernel
theorem dL_law_667 : decode cL_law 667 = .ok (.goto 49, 3) := by decide +kernel
theorem dL_law_670 : decode cL_law 670 = .ok (.aload_n 1, 1) := by decide +kernel
theorem dL_law_671 : decode cL_law 671 = .ok (.aload_n 0, 1) := by decide +kernel
theorem dL_law_672 : decode cL_law 672 = .ok (.iload_n 3, 1) := by decide +kernel
theorem dL_law_673 : decode cL_law 673 = .ok (.iconst 1, 1) := by decide +kernel
theorem dL_law_674 : decode cL_law 674 = .ok (.iadd, 1) := by decide +kernel
theorem dL_law_675 : decode cL_law 675 = .ok (.iaload, 1) := by decide +kernel
theorem dL_law_676 : decode cL_law 676 = .ok (.invokevirtual 98, 3) := by decide +kernel
theorem dL_law_679 : decode cL_law 679 = .ok (.aload_n 2, 1) := by decide +kernel
theorem dL_law_680 : decode cL_law 680 = .ok (.aload_n 0, 1) := by decide +kernel
theorem dL_law_681 : decode cL_law 681 = .ok (.iload_n 3, 1) := by decide +kernel
theorem dL_law_682 : decode cL_law 682 = .ok (.iconst 1, 1) := by decide +kernel
theorem dL_law_683 : decode cL_law 683 = .ok (.iadd, 1) := by decide +kernel
theorem dL_law_684 : decode cL_law 684 = .ok (.iaload, 1) := by decide +kernel
theorem dL_law_685 : decode cL_law 685 = .ok (.invokevirtual 101, 3) := by decide +kernel
theorem dL_law_688 : decode cL_law 688 = .ok (.if_icmp .eq 28, 3) := by decide +kernel
theorem dL_law_691 : decode cL_law 691 = .ok (.iconst 0, 1) := by decide +kernel
theorem dL_law_692 : decode cL_law 692 = .ok (.ireturn, 1) := by decide +kernel
theorem dL_law_693 : decode cL_law 693 = .ok (.aload_n 1, 1) := by decide +kernel
theorem dL_law_694 : decode cL_law 694 = .ok (.aload_n 0, 1) := by decide +kernel
theorem dL_law_695 : decode cL_law 695 = .ok (.iload_n 3, 1) := by decide +kernel
theorem dL_law_696 : decode cL_law 696 = .ok (.iconst 1, 1) := by decide +kernel
theorem dL_law_697 : decode cL_law 697 = .ok (.iadd, 1) := by decide +kernel
theorem dL_law_698 : decode cL_law 698 = .ok (.iaload, 1) := by decide +kernel
theorem dL_law_699 : decode cL_law 699 = .ok (.invokevirtual 102, 3) := by decide +kernel
theorem dL_law_702 : decode cL_law 702 = .ok (.aload_n 2, 1) := by decide +kernel
theorem dL_law_703 : decode cL_law 703 = .ok (.aload_n 0, 1) := by decide +kernel
theorem dL_law_704 : decode cL_law 704 = .ok (.iload_n 3, 1) := by decide +kernel
theorem dL_law_705 : decode cL_law 705 = .ok (.iconst 1, 1) := by decide +kernel
theorem dL_law_706 : decode cL_law 706 = .ok (.iadd, 1) := by decide +kernel
theorem dL_law_707 : decode cL_law 707 = .ok (.iaload, 1) := by decide +kernel
theorem dL_law_708 : decode cL_law 708 = .ok (.invokevirtual 105, 3) := by decide +kernel
theorem dL_law_711 : decode cL_law 711 = .ok (.if_icmp .eq 5, 3) := by decide +kernel
theorem dL_law_714 : decode cL_law 714 = .ok (.iconst 0, 1) := by decide +kernel
theorem dL_law_715 : decode cL_law 715 = .ok (.ireturn, 1) := by decide +kernel
theorem dL_law_716 : decode cL_law 716 = .ok (.iinc 3 5, 3) := by decide +kernel
theorem dL_law_719 : decode cL_law 719 = .ok (.goto (-701), 3) := by decide +kernel
theorem dL_law_722 : decode cL_law 722 = .ok (.iconst 1, 1) := by decide +kernel
theorem dL_law_723 : decode cL_law 723 = .ok (.ireturn, 1) := by decide +kernel
end
section
theorem zz_end : True := trivial
end
