section
-- ===== PART A: goes FIRST, ahead of the names: the tables' words, and 'selects' of the private methods out of them =====
/-- a private method of a class that the tables say can be made, by its rows of tables_1 -/
def lw_okq (q : MethodName × Nat) : Prop := (q.1.cls ≠ "java/lang/invoke/MethodHandle" ∧ q.1.cls ≠ "java/lang/invoke/VarHandle") ∧ Cond.instantiable q.1.cls q.2 ∈ tables_1 ∧ Cond.privateMethod q.1 ∈ tables_1 ∧ Cond.instanceMethod q.1 ∈ tables_1
theorem lw_p0 : lw_okq (⟨"RiverDays", "makeAnew", "(LRiverDays$Rows;III)I"⟩, 17) := ⟨⟨by decide +kernel, by decide +kernel⟩, List.mem_of_getElem? (i := 16) (by decide +kernel), List.mem_of_getElem? (i := 349) (by decide +kernel), List.mem_of_getElem? (i := 350) (by decide +kernel)⟩
theorem lw_p1 : lw_okq (⟨"RiverDays", "find", "(I)I"⟩, 17) := ⟨⟨by decide +kernel, by decide +kernel⟩, List.mem_of_getElem? (i := 16) (by decide +kernel), List.mem_of_getElem? (i := 357) (by decide +kernel), List.mem_of_getElem? (i := 358) (by decide +kernel)⟩
theorem lw_p2 : lw_okq (⟨"RiverDays", "refusePlace", "(LRiverDays$Rows;II)I"⟩, 17) := ⟨⟨by decide +kernel, by decide +kernel⟩, List.mem_of_getElem? (i := 16) (by decide +kernel), List.mem_of_getElem? (i := 370) (by decide +kernel), List.mem_of_getElem? (i := 371) (by decide +kernel)⟩
theorem lw_p3 : lw_okq (⟨"RiverDays", "refuseMissing", "(LRiverDays$Rows;I)I"⟩, 17) := ⟨⟨by decide +kernel, by decide +kernel⟩, List.mem_of_getElem? (i := 16) (by decide +kernel), List.mem_of_getElem? (i := 374) (by decide +kernel), List.mem_of_getElem? (i := 375) (by decide +kernel)⟩
theorem lw_p4 : lw_okq (⟨"RiverDays", "tell", "(I)I"⟩, 17) := ⟨⟨by decide +kernel, by decide +kernel⟩, List.mem_of_getElem? (i := 16) (by decide +kernel), List.mem_of_getElem? (i := 395) (by decide +kernel), List.mem_of_getElem? (i := 396) (by decide +kernel)⟩
theorem lw_p5 : lw_okq (⟨"RiverDays", "readDraft", "(I)I"⟩, 17) := ⟨⟨by decide +kernel, by decide +kernel⟩, List.mem_of_getElem? (i := 16) (by decide +kernel), List.mem_of_getElem? (i := 452) (by decide +kernel), List.mem_of_getElem? (i := 453) (by decide +kernel)⟩
theorem lw_p6 : lw_okq (⟨"RiverDays$Reader", "takesWeek", "(I[II)Z"⟩, 3) := ⟨⟨by decide +kernel, by decide +kernel⟩, List.mem_of_getElem? (i := 47) (by decide +kernel), List.mem_of_getElem? (i := 472) (by decide +kernel), List.mem_of_getElem? (i := 473) (by decide +kernel)⟩
theorem lw_p7 : lw_okq (⟨"RiverDays$Reader", "skipBlanks", "()V"⟩, 3) := ⟨⟨by decide +kernel, by decide +kernel⟩, List.mem_of_getElem? (i := 47) (by decide +kernel), List.mem_of_getElem? (i := 476) (by decide +kernel), List.mem_of_getElem? (i := 477) (by decide +kernel)⟩
theorem lw_p8 : lw_okq (⟨"RiverDays$Reader", "seen", "()I"⟩, 3) := ⟨⟨by decide +kernel, by decide +kernel⟩, List.mem_of_getElem? (i := 47) (by decide +kernel), List.mem_of_getElem? (i := 480) (by decide +kernel), List.mem_of_getElem? (i := 481) (by decide +kernel)⟩
theorem lw_p9 : lw_okq (⟨"RiverDays$Reader", "seesFigure", "(II)Z"⟩, 3) := ⟨⟨by decide +kernel, by decide +kernel⟩, List.mem_of_getElem? (i := 47) (by decide +kernel), List.mem_of_getElem? (i := 484) (by decide +kernel), List.mem_of_getElem? (i := 485) (by decide +kernel)⟩
theorem lw_p10 : lw_okq (⟨"RiverDays$Reader", "onlyBlanksLeft", "()Z"⟩, 3) := ⟨⟨by decide +kernel, by decide +kernel⟩, List.mem_of_getElem? (i := 47) (by decide +kernel), List.mem_of_getElem? (i := 488) (by decide +kernel), List.mem_of_getElem? (i := 489) (by decide +kernel)⟩
theorem lw_p11 : lw_okq (⟨"RiverDays$Reader", "takesReach", "(LRiverDays$Course;)Z"⟩, 3) := ⟨⟨by decide +kernel, by decide +kernel⟩, List.mem_of_getElem? (i := 47) (by decide +kernel), List.mem_of_getElem? (i := 492) (by decide +kernel), List.mem_of_getElem? (i := 493) (by decide +kernel)⟩
theorem lw_p12 : lw_okq (⟨"RiverDays", "replay", "()V"⟩, 17) := ⟨⟨by decide +kernel, by decide +kernel⟩, List.mem_of_getElem? (i := 16) (by decide +kernel), List.mem_of_getElem? (i := 535) (by decide +kernel), List.mem_of_getElem? (i := 536) (by decide +kernel)⟩
theorem lw_p13 : lw_okq (⟨"RiverDays", "ofReach", "(II)I"⟩, 17) := ⟨⟨by decide +kernel, by decide +kernel⟩, List.mem_of_getElem? (i := 16) (by decide +kernel), List.mem_of_getElem? (i := 583) (by decide +kernel), List.mem_of_getElem? (i := 584) (by decide +kernel)⟩
theorem lw_p14 : lw_okq (⟨"RiverDays", "passTruly", "(I)I"⟩, 17) := ⟨⟨by decide +kernel, by decide +kernel⟩, List.mem_of_getElem? (i := 16) (by decide +kernel), List.mem_of_getElem? (i := 618) (by decide +kernel), List.mem_of_getElem? (i := 619) (by decide +kernel)⟩
theorem lw_p15 : lw_okq (⟨"RiverDays$Aside", "pass", "(LRiverDays$Course;[III)V"⟩, 9) := ⟨⟨by decide +kernel, by decide +kernel⟩, List.mem_of_getElem? (i := 109) (by decide +kernel), List.mem_of_getElem? (i := 660) (by decide +kernel), List.mem_of_getElem? (i := 661) (by decide +kernel)⟩
def lw_privs_1 : List (MethodName × Nat) := [(⟨"RiverDays", "makeAnew", "(LRiverDays$Rows;III)I"⟩, 17), (⟨"RiverDays", "find", "(I)I"⟩, 17), (⟨"RiverDays", "refusePlace", "(LRiverDays$Rows;II)I"⟩, 17), (⟨"RiverDays", "refuseMissing", "(LRiverDays$Rows;I)I"⟩, 17), (⟨"RiverDays", "tell", "(I)I"⟩, 17), (⟨"RiverDays", "readDraft", "(I)I"⟩, 17), (⟨"RiverDays$Reader", "takesWeek", "(I[II)Z"⟩, 3), (⟨"RiverDays$Reader", "skipBlanks", "()V"⟩, 3), (⟨"RiverDays$Reader", "seen", "()I"⟩, 3), (⟨"RiverDays$Reader", "seesFigure", "(II)Z"⟩, 3), (⟨"RiverDays$Reader", "onlyBlanksLeft", "()Z"⟩, 3), (⟨"RiverDays$Reader", "takesReach", "(LRiverDays$Course;)Z"⟩, 3), (⟨"RiverDays", "replay", "()V"⟩, 17), (⟨"RiverDays", "ofReach", "(II)I"⟩, 17), (⟨"RiverDays", "passTruly", "(I)I"⟩, 17), (⟨"RiverDays$Aside", "pass", "(LRiverDays$Course;[III)V"⟩, 9)]
theorem lw_r1 : ∀ q ∈ lw_privs_1, lw_okq q := List.forall_mem_cons.mpr ⟨lw_p0, List.forall_mem_cons.mpr ⟨lw_p1, List.forall_mem_cons.mpr ⟨lw_p2, List.forall_mem_cons.mpr ⟨lw_p3, List.forall_mem_cons.mpr ⟨lw_p4, List.forall_mem_cons.mpr ⟨lw_p5, List.forall_mem_cons.mpr ⟨lw_p6, List.forall_mem_cons.mpr ⟨lw_p7, List.forall_mem_cons.mpr ⟨lw_p8, List.forall_mem_cons.mpr ⟨lw_p9, List.forall_mem_cons.mpr ⟨lw_p10, List.forall_mem_cons.mpr ⟨lw_p11, List.forall_mem_cons.mpr ⟨lw_p12, List.forall_mem_cons.mpr ⟨lw_p13, List.forall_mem_cons.mpr ⟨lw_p14, List.forall_mem_cons.mpr ⟨lw_p15, fun _ h => absurd h List.not_mem_nil⟩⟩⟩⟩⟩⟩⟩⟩⟩⟩⟩⟩⟩⟩⟩⟩
theorem lw_p16 : lw_okq (⟨"RiverDays$Aside", "weekdayOf", "(I)I"⟩, 9) := ⟨⟨by decide +kernel, by decide +kernel⟩, List.mem_of_getElem? (i := 109) (by decide +kernel), List.mem_of_getElem? (i := 664) (by decide +kernel), List.mem_of_getElem? (i := 665) (by decide +kernel)⟩
theorem lw_p17 : lw_okq (⟨"RiverDays", "refusePlan", "(ZII)I"⟩, 17) := ⟨⟨by decide +kernel, by decide +kernel⟩, List.mem_of_getElem? (i := 16) (by decide +kernel), List.mem_of_getElem? (i := 685) (by decide +kernel), List.mem_of_getElem? (i := 686) (by decide +kernel)⟩
theorem lw_p18 : lw_okq (⟨"RiverDays", "refuseWithoutRiver", "(ZI)I"⟩, 17) := ⟨⟨by decide +kernel, by decide +kernel⟩, List.mem_of_getElem? (i := 16) (by decide +kernel), List.mem_of_getElem? (i := 689) (by decide +kernel), List.mem_of_getElem? (i := 690) (by decide +kernel)⟩
theorem lw_p19 : lw_okq (⟨"RiverDays", "followPlan", "(I)V"⟩, 17) := ⟨⟨by decide +kernel, by decide +kernel⟩, List.mem_of_getElem? (i := 16) (by decide +kernel), List.mem_of_getElem? (i := 693) (by decide +kernel), List.mem_of_getElem? (i := 694) (by decide +kernel)⟩
theorem lw_p20 : lw_okq (⟨"RiverDays", "refuseSearch", "(ZII)I"⟩, 17) := ⟨⟨by decide +kernel, by decide +kernel⟩, List.mem_of_getElem? (i := 16) (by decide +kernel), List.mem_of_getElem? (i := 717) (by decide +kernel), List.mem_of_getElem? (i := 718) (by decide +kernel)⟩
theorem lw_p21 : lw_okq (⟨"RiverDays$Hunt", "goDeeper", "(LRiverDays$Course;II)V"⟩, 10) := ⟨⟨by decide +kernel, by decide +kernel⟩, List.mem_of_getElem? (i := 155) (by decide +kernel), List.mem_of_getElem? (i := 728) (by decide +kernel), List.mem_of_getElem? (i := 729) (by decide +kernel)⟩
theorem lw_p22 : lw_okq (⟨"RiverDays$Hunt", "arrive", "(I)V"⟩, 10) := ⟨⟨by decide +kernel, by decide +kernel⟩, List.mem_of_getElem? (i := 155) (by decide +kernel), List.mem_of_getElem? (i := 732) (by decide +kernel), List.mem_of_getElem? (i := 733) (by decide +kernel)⟩
theorem lw_p23 : lw_okq (⟨"RiverDays$Hunt", "fits", "(LRiverDays$Course;I)Z"⟩, 10) := ⟨⟨by decide +kernel, by decide +kernel⟩, List.mem_of_getElem? (i := 155) (by decide +kernel), List.mem_of_getElem? (i := 742) (by decide +kernel), List.mem_of_getElem? (i := 743) (by decide +kernel)⟩
theorem lw_p24 : lw_okq (⟨"RiverDays$Hunt", "gain", "(LRiverDays$Course;I)I"⟩, 10) := ⟨⟨by decide +kernel, by decide +kernel⟩, List.mem_of_getElem? (i := 155) (by decide +kernel), List.mem_of_getElem? (i := 746) (by decide +kernel), List.mem_of_getElem? (i := 747) (by decide +kernel)⟩
theorem lw_p25 : lw_okq (⟨"RiverDays", "groundWithout", "(II)I"⟩, 17) := ⟨⟨by decide +kernel, by decide +kernel⟩, List.mem_of_getElem? (i := 16) (by decide +kernel), List.mem_of_getElem? (i := 770) (by decide +kernel), List.mem_of_getElem? (i := 771) (by decide +kernel)⟩
theorem lw_p26 : lw_okq (⟨"RiverDays$Hunt", "contend", "(LRiverDays$Course;I)I"⟩, 10) := ⟨⟨by decide +kernel, by decide +kernel⟩, List.mem_of_getElem? (i := 155) (by decide +kernel), List.mem_of_getElem? (i := 782) (by decide +kernel), List.mem_of_getElem? (i := 783) (by decide +kernel)⟩
theorem lw_p27 : lw_okq (⟨"RiverDays", "refuseSeas", "(ZI)I"⟩, 17) := ⟨⟨by decide +kernel, by decide +kernel⟩, List.mem_of_getElem? (i := 16) (by decide +kernel), List.mem_of_getElem? (i := 790) (by decide +kernel), List.mem_of_getElem? (i := 791) (by decide +kernel)⟩
theorem lw_p28 : lw_okq (⟨"RiverDays", "tellFraction", "(JJ)V"⟩, 17) := ⟨⟨by decide +kernel, by decide +kernel⟩, List.mem_of_getElem? (i := 16) (by decide +kernel), List.mem_of_getElem? (i := 799) (by decide +kernel), List.mem_of_getElem? (i := 800) (by decide +kernel)⟩
theorem lw_p29 : lw_okq (⟨"RiverDays", "refusePairs", "(II)I"⟩, 17) := ⟨⟨by decide +kernel, by decide +kernel⟩, List.mem_of_getElem? (i := 16) (by decide +kernel), List.mem_of_getElem? (i := 818) (by decide +kernel), List.mem_of_getElem? (i := 819) (by decide +kernel)⟩
theorem lw_p30 : lw_okq (⟨"RiverDays", "agrees", "(IIII)Z"⟩, 17) := ⟨⟨by decide +kernel, by decide +kernel⟩, List.mem_of_getElem? (i := 16) (by decide +kernel), List.mem_of_getElem? (i := 822) (by decide +kernel), List.mem_of_getElem? (i := 823) (by decide +kernel)⟩
theorem lw_p31 : lw_okq (⟨"RiverDays$Breaking", "spread", "(LRiverDays$Course;IJII)V"⟩, 8) := ⟨⟨by decide +kernel, by decide +kernel⟩, List.mem_of_getElem? (i := 201) (by decide +kernel), List.mem_of_getElem? (i := 850) (by decide +kernel), List.mem_of_getElem? (i := 851) (by decide +kernel)⟩
def lw_privs_2 : List (MethodName × Nat) := [(⟨"RiverDays$Aside", "weekdayOf", "(I)I"⟩, 9), (⟨"RiverDays", "refusePlan", "(ZII)I"⟩, 17), (⟨"RiverDays", "refuseWithoutRiver", "(ZI)I"⟩, 17), (⟨"RiverDays", "followPlan", "(I)V"⟩, 17), (⟨"RiverDays", "refuseSearch", "(ZII)I"⟩, 17), (⟨"RiverDays$Hunt", "goDeeper", "(LRiverDays$Course;II)V"⟩, 10), (⟨"RiverDays$Hunt", "arrive", "(I)V"⟩, 10), (⟨"RiverDays$Hunt", "fits", "(LRiverDays$Course;I)Z"⟩, 10), (⟨"RiverDays$Hunt", "gain", "(LRiverDays$Course;I)I"⟩, 10), (⟨"RiverDays", "groundWithout", "(II)I"⟩, 17), (⟨"RiverDays$Hunt", "contend", "(LRiverDays$Course;I)I"⟩, 10), (⟨"RiverDays", "refuseSeas", "(ZI)I"⟩, 17), (⟨"RiverDays", "tellFraction", "(JJ)V"⟩, 17), (⟨"RiverDays", "refusePairs", "(II)I"⟩, 17), (⟨"RiverDays", "agrees", "(IIII)Z"⟩, 17), (⟨"RiverDays$Breaking", "spread", "(LRiverDays$Course;IJII)V"⟩, 8)]
theorem lw_r2 : ∀ q ∈ lw_privs_2, lw_okq q := List.forall_mem_cons.mpr ⟨lw_p16, List.forall_mem_cons.mpr ⟨lw_p17, List.forall_mem_cons.mpr ⟨lw_p18, List.forall_mem_cons.mpr ⟨lw_p19, List.forall_mem_cons.mpr ⟨lw_p20, List.forall_mem_cons.mpr ⟨lw_p21, List.forall_mem_cons.mpr ⟨lw_p22, List.forall_mem_cons.mpr ⟨lw_p23, List.forall_mem_cons.mpr ⟨lw_p24, List.forall_mem_cons.mpr ⟨lw_p25, List.forall_mem_cons.mpr ⟨lw_p26, List.forall_mem_cons.mpr ⟨lw_p27, List.forall_mem_cons.mpr ⟨lw_p28, List.forall_mem_cons.mpr ⟨lw_p29, List.forall_mem_cons.mpr ⟨lw_p30, List.forall_mem_cons.mpr ⟨lw_p31, fun _ h => absurd h List.not_mem_nil⟩⟩⟩⟩⟩⟩⟩⟩⟩⟩⟩⟩⟩⟩⟩⟩
theorem lw_p32 : lw_okq (⟨"RiverDays$Breaking", "weightOf", "(II)J"⟩, 8) := ⟨⟨by decide +kernel, by decide +kernel⟩, List.mem_of_getElem? (i := 201) (by decide +kernel), List.mem_of_getElem? (i := 854) (by decide +kernel), List.mem_of_getElem? (i := 855) (by decide +kernel)⟩
theorem lw_p33 : lw_okq (⟨"RiverDays", "counted", "(I)I"⟩, 17) := ⟨⟨by decide +kernel, by decide +kernel⟩, List.mem_of_getElem? (i := 16) (by decide +kernel), List.mem_of_getElem? (i := 889) (by decide +kernel), List.mem_of_getElem? (i := 890) (by decide +kernel)⟩
theorem lw_p34 : lw_okq (⟨"RiverDays", "keptRivers", "()I"⟩, 17) := ⟨⟨by decide +kernel, by decide +kernel⟩, List.mem_of_getElem? (i := 16) (by decide +kernel), List.mem_of_getElem? (i := 902) (by decide +kernel), List.mem_of_getElem? (i := 903) (by decide +kernel)⟩
theorem lw_p35 : lw_okq (⟨"RiverDaysModel", "meet", "(I)I"⟩, 36) := ⟨⟨by decide +kernel, by decide +kernel⟩, List.mem_of_getElem? (i := 925) (by decide +kernel), List.mem_of_getElem? (i := 1050) (by decide +kernel), List.mem_of_getElem? (i := 1051) (by decide +kernel)⟩
theorem lw_p36 : lw_okq (⟨"RiverDaysModel", "setRow", "(III)V"⟩, 36) := ⟨⟨by decide +kernel, by decide +kernel⟩, List.mem_of_getElem? (i := 925) (by decide +kernel), List.mem_of_getElem? (i := 1054) (by decide +kernel), List.mem_of_getElem? (i := 1055) (by decide +kernel)⟩
theorem lw_p37 : lw_okq (⟨"RiverDaysModel", "askedRow", "(I)I"⟩, 36) := ⟨⟨by decide +kernel, by decide +kernel⟩, List.mem_of_getElem? (i := 925) (by decide +kernel), List.mem_of_getElem? (i := 1062) (by decide +kernel), List.mem_of_getElem? (i := 1063) (by decide +kernel)⟩
theorem lw_p38 : lw_okq (⟨"RiverDaysModel", "rowAt", "(II)I"⟩, 36) := ⟨⟨by decide +kernel, by decide +kernel⟩, List.mem_of_getElem? (i := 925) (by decide +kernel), List.mem_of_getElem? (i := 1066) (by decide +kernel), List.mem_of_getElem? (i := 1067) (by decide +kernel)⟩
theorem lw_p39 : lw_okq (⟨"RiverDaysModel", "ask", "(II)I"⟩, 36) := ⟨⟨by decide +kernel, by decide +kernel⟩, List.mem_of_getElem? (i := 925) (by decide +kernel), List.mem_of_getElem? (i := 1070) (by decide +kernel), List.mem_of_getElem? (i := 1071) (by decide +kernel)⟩
theorem lw_p40 : lw_okq (⟨"RiverDaysModel", "askedText", "(I)I"⟩, 36) := ⟨⟨by decide +kernel, by decide +kernel⟩, List.mem_of_getElem? (i := 925) (by decide +kernel), List.mem_of_getElem? (i := 1102) (by decide +kernel), List.mem_of_getElem? (i := 1103) (by decide +kernel)⟩
theorem lw_p41 : lw_okq (⟨"RiverDaysModel", "goesOn", "(I)I"⟩, 36) := ⟨⟨by decide +kernel, by decide +kernel⟩, List.mem_of_getElem? (i := 925) (by decide +kernel), List.mem_of_getElem? (i := 1110) (by decide +kernel), List.mem_of_getElem? (i := 1111) (by decide +kernel)⟩
theorem lw_p42 : lw_okq (⟨"RiverDaysModel", "readsRiver", "(I)Z"⟩, 36) := ⟨⟨by decide +kernel, by decide +kernel⟩, List.mem_of_getElem? (i := 925) (by decide +kernel), List.mem_of_getElem? (i := 1114) (by decide +kernel), List.mem_of_getElem? (i := 1115) (by decide +kernel)⟩
theorem lw_p43 : lw_okq (⟨"RiverDaysModel", "readsWeek", "(IIII)Z"⟩, 36) := ⟨⟨by decide +kernel, by decide +kernel⟩, List.mem_of_getElem? (i := 925) (by decide +kernel), List.mem_of_getElem? (i := 1118) (by decide +kernel), List.mem_of_getElem? (i := 1119) (by decide +kernel)⟩
theorem lw_p44 : lw_okq (⟨"RiverDaysModel", "skip", "(I)V"⟩, 36) := ⟨⟨by decide +kernel, by decide +kernel⟩, List.mem_of_getElem? (i := 925) (by decide +kernel), List.mem_of_getElem? (i := 1122) (by decide +kernel), List.mem_of_getElem? (i := 1123) (by decide +kernel)⟩
theorem lw_p45 : lw_okq (⟨"RiverDaysModel", "here", "(I)I"⟩, 36) := ⟨⟨by decide +kernel, by decide +kernel⟩, List.mem_of_getElem? (i := 925) (by decide +kernel), List.mem_of_getElem? (i := 1126) (by decide +kernel), List.mem_of_getElem? (i := 1127) (by decide +kernel)⟩
theorem lw_p46 : lw_okq (⟨"RiverDaysModel", "figure", "(I[IIII)Z"⟩, 36) := ⟨⟨by decide +kernel, by decide +kernel⟩, List.mem_of_getElem? (i := 925) (by decide +kernel), List.mem_of_getElem? (i := 1130) (by decide +kernel), List.mem_of_getElem? (i := 1131) (by decide +kernel)⟩
theorem lw_p47 : lw_okq (⟨"RiverDaysModel", "readsReach", "(I)Z"⟩, 36) := ⟨⟨by decide +kernel, by decide +kernel⟩, List.mem_of_getElem? (i := 925) (by decide +kernel), List.mem_of_getElem? (i := 1134) (by decide +kernel), List.mem_of_getElem? (i := 1135) (by decide +kernel)⟩
def lw_privs_3 : List (MethodName × Nat) := [(⟨"RiverDays$Breaking", "weightOf", "(II)J"⟩, 8), (⟨"RiverDays", "counted", "(I)I"⟩, 17), (⟨"RiverDays", "keptRivers", "()I"⟩, 17), (⟨"RiverDaysModel", "meet", "(I)I"⟩, 36), (⟨"RiverDaysModel", "setRow", "(III)V"⟩, 36), (⟨"RiverDaysModel", "askedRow", "(I)I"⟩, 36), (⟨"RiverDaysModel", "rowAt", "(II)I"⟩, 36), (⟨"RiverDaysModel", "ask", "(II)I"⟩, 36), (⟨"RiverDaysModel", "askedText", "(I)I"⟩, 36), (⟨"RiverDaysModel", "goesOn", "(I)I"⟩, 36), (⟨"RiverDaysModel", "readsRiver", "(I)Z"⟩, 36), (⟨"RiverDaysModel", "readsWeek", "(IIII)Z"⟩, 36), (⟨"RiverDaysModel", "skip", "(I)V"⟩, 36), (⟨"RiverDaysModel", "here", "(I)I"⟩, 36), (⟨"RiverDaysModel", "figure", "(I[IIII)Z"⟩, 36), (⟨"RiverDaysModel", "readsReach", "(I)Z"⟩, 36)]
theorem lw_r3 : ∀ q ∈ lw_privs_3, lw_okq q := List.forall_mem_cons.mpr ⟨lw_p32, List.forall_mem_cons.mpr ⟨lw_p33, List.forall_mem_cons.mpr ⟨lw_p34, List.forall_mem_cons.mpr ⟨lw_p35, List.forall_mem_cons.mpr ⟨lw_p36, List.forall_mem_cons.mpr ⟨lw_p37, List.forall_mem_cons.mpr ⟨lw_p38, List.forall_mem_cons.mpr ⟨lw_p39, List.forall_mem_cons.mpr ⟨lw_p40, List.forall_mem_cons.mpr ⟨lw_p41, List.forall_mem_cons.mpr ⟨lw_p42, List.forall_mem_cons.mpr ⟨lw_p43, List.forall_mem_cons.mpr ⟨lw_p44, List.forall_mem_cons.mpr ⟨lw_p45, List.forall_mem_cons.mpr ⟨lw_p46, List.forall_mem_cons.mpr ⟨lw_p47, fun _ h => absurd h List.not_mem_nil⟩⟩⟩⟩⟩⟩⟩⟩⟩⟩⟩⟩⟩⟩⟩⟩
theorem lw_p48 : lw_okq (⟨"RiverDaysModel", "canShut", "(I)Z"⟩, 36) := ⟨⟨by decide +kernel, by decide +kernel⟩, List.mem_of_getElem? (i := 925) (by decide +kernel), List.mem_of_getElem? (i := 1152) (by decide +kernel), List.mem_of_getElem? (i := 1153) (by decide +kernel)⟩
theorem lw_p49 : lw_okq (⟨"RiverDaysModel", "gateSet", "()I"⟩, 36) := ⟨⟨by decide +kernel, by decide +kernel⟩, List.mem_of_getElem? (i := 925) (by decide +kernel), List.mem_of_getElem? (i := 1156) (by decide +kernel), List.mem_of_getElem? (i := 1157) (by decide +kernel)⟩
theorem lw_p50 : lw_okq (⟨"RiverDaysModel", "dayTruly", "(I)I"⟩, 36) := ⟨⟨by decide +kernel, by decide +kernel⟩, List.mem_of_getElem? (i := 925) (by decide +kernel), List.mem_of_getElem? (i := 1160) (by decide +kernel), List.mem_of_getElem? (i := 1161) (by decide +kernel)⟩
theorem lw_p51 : lw_okq (⟨"RiverDaysModel", "write", "([II)V"⟩, 36) := ⟨⟨by decide +kernel, by decide +kernel⟩, List.mem_of_getElem? (i := 925) (by decide +kernel), List.mem_of_getElem? (i := 1164) (by decide +kernel), List.mem_of_getElem? (i := 1165) (by decide +kernel)⟩
theorem lw_p52 : lw_okq (⟨"RiverDaysModel", "pass", "(I)I"⟩, 36) := ⟨⟨by decide +kernel, by decide +kernel⟩, List.mem_of_getElem? (i := 925) (by decide +kernel), List.mem_of_getElem? (i := 1168) (by decide +kernel), List.mem_of_getElem? (i := 1169) (by decide +kernel)⟩
theorem lw_p53 : lw_okq (⟨"RiverDaysModel", "runsFrom", "(II)I"⟩, 36) := ⟨⟨by decide +kernel, by decide +kernel⟩, List.mem_of_getElem? (i := 925) (by decide +kernel), List.mem_of_getElem? (i := 1172) (by decide +kernel), List.mem_of_getElem? (i := 1173) (by decide +kernel)⟩
theorem lw_p54 : lw_okq (⟨"RiverDaysModel", "grindsBy", "(II)Z"⟩, 36) := ⟨⟨by decide +kernel, by decide +kernel⟩, List.mem_of_getElem? (i := 925) (by decide +kernel), List.mem_of_getElem? (i := 1182) (by decide +kernel), List.mem_of_getElem? (i := 1183) (by decide +kernel)⟩
theorem lw_p55 : lw_okq (⟨"RiverDaysModel", "read", "([II)V"⟩, 36) := ⟨⟨by decide +kernel, by decide +kernel⟩, List.mem_of_getElem? (i := 925) (by decide +kernel), List.mem_of_getElem? (i := 1193) (by decide +kernel), List.mem_of_getElem? (i := 1194) (by decide +kernel)⟩
theorem lw_p56 : lw_okq (⟨"RiverDaysModel", "isReach", "(I)Z"⟩, 36) := ⟨⟨by decide +kernel, by decide +kernel⟩, List.mem_of_getElem? (i := 925) (by decide +kernel), List.mem_of_getElem? (i := 1209) (by decide +kernel), List.mem_of_getElem? (i := 1210) (by decide +kernel)⟩
theorem lw_p57 : lw_okq (⟨"RiverDaysModel", "reachOf", "(II)I"⟩, 36) := ⟨⟨by decide +kernel, by decide +kernel⟩, List.mem_of_getElem? (i := 925) (by decide +kernel), List.mem_of_getElem? (i := 1213) (by decide +kernel), List.mem_of_getElem? (i := 1214) (by decide +kernel)⟩
theorem lw_p58 : lw_okq (⟨"RiverDaysModel", "isA", "(II)Z"⟩, 36) := ⟨⟨by decide +kernel, by decide +kernel⟩, List.mem_of_getElem? (i := 925) (by decide +kernel), List.mem_of_getElem? (i := 1221) (by decide +kernel), List.mem_of_getElem? (i := 1222) (by decide +kernel)⟩
theorem lw_p59 : lw_okq (⟨"RiverDaysModel", "begin", "()V"⟩, 36) := ⟨⟨by decide +kernel, by decide +kernel⟩, List.mem_of_getElem? (i := 925) (by decide +kernel), List.mem_of_getElem? (i := 1248) (by decide +kernel), List.mem_of_getElem? (i := 1249) (by decide +kernel)⟩
theorem lw_p60 : lw_okq (⟨"RiverDaysModel", "back", "()V"⟩, 36) := ⟨⟨by decide +kernel, by decide +kernel⟩, List.mem_of_getElem? (i := 925) (by decide +kernel), List.mem_of_getElem? (i := 1252) (by decide +kernel), List.mem_of_getElem? (i := 1253) (by decide +kernel)⟩
theorem lw_p61 : lw_okq (⟨"RiverDaysModel", "askedPlan", "(II)I"⟩, 36) := ⟨⟨by decide +kernel, by decide +kernel⟩, List.mem_of_getElem? (i := 925) (by decide +kernel), List.mem_of_getElem? (i := 1260) (by decide +kernel), List.mem_of_getElem? (i := 1261) (by decide +kernel)⟩
theorem lw_p62 : lw_okq (⟨"RiverDaysModel", "groundMany", "()I"⟩, 36) := ⟨⟨by decide +kernel, by decide +kernel⟩, List.mem_of_getElem? (i := 925) (by decide +kernel), List.mem_of_getElem? (i := 1264) (by decide +kernel), List.mem_of_getElem? (i := 1265) (by decide +kernel)⟩
theorem lw_p63 : lw_okq (⟨"RiverDaysModel", "setSets", "()V"⟩, 36) := ⟨⟨by decide +kernel, by decide +kernel⟩, List.mem_of_getElem? (i := 925) (by decide +kernel), List.mem_of_getElem? (i := 1284) (by decide +kernel), List.mem_of_getElem? (i := 1285) (by decide +kernel)⟩
def lw_privs_4 : List (MethodName × Nat) := [(⟨"RiverDaysModel", "canShut", "(I)Z"⟩, 36), (⟨"RiverDaysModel", "gateSet", "()I"⟩, 36), (⟨"RiverDaysModel", "dayTruly", "(I)I"⟩, 36), (⟨"RiverDaysModel", "write", "([II)V"⟩, 36), (⟨"RiverDaysModel", "pass", "(I)I"⟩, 36), (⟨"RiverDaysModel", "runsFrom", "(II)I"⟩, 36), (⟨"RiverDaysModel", "grindsBy", "(II)Z"⟩, 36), (⟨"RiverDaysModel", "read", "([II)V"⟩, 36), (⟨"RiverDaysModel", "isReach", "(I)Z"⟩, 36), (⟨"RiverDaysModel", "reachOf", "(II)I"⟩, 36), (⟨"RiverDaysModel", "isA", "(II)Z"⟩, 36), (⟨"RiverDaysModel", "begin", "()V"⟩, 36), (⟨"RiverDaysModel", "back", "()V"⟩, 36), (⟨"RiverDaysModel", "askedPlan", "(II)I"⟩, 36), (⟨"RiverDaysModel", "groundMany", "()I"⟩, 36), (⟨"RiverDaysModel", "setSets", "()V"⟩, 36)]
theorem lw_r4 : ∀ q ∈ lw_privs_4, lw_okq q := List.forall_mem_cons.mpr ⟨lw_p48, List.forall_mem_cons.mpr ⟨lw_p49, List.forall_mem_cons.mpr ⟨lw_p50, List.forall_mem_cons.mpr ⟨lw_p51, List.forall_mem_cons.mpr ⟨lw_p52, List.forall_mem_cons.mpr ⟨lw_p53, List.forall_mem_cons.mpr ⟨lw_p54, List.forall_mem_cons.mpr ⟨lw_p55, List.forall_mem_cons.mpr ⟨lw_p56, List.forall_mem_cons.mpr ⟨lw_p57, List.forall_mem_cons.mpr ⟨lw_p58, List.forall_mem_cons.mpr ⟨lw_p59, List.forall_mem_cons.mpr ⟨lw_p60, List.forall_mem_cons.mpr ⟨lw_p61, List.forall_mem_cons.mpr ⟨lw_p62, List.forall_mem_cons.mpr ⟨lw_p63, fun _ h => absurd h List.not_mem_nil⟩⟩⟩⟩⟩⟩⟩⟩⟩⟩⟩⟩⟩⟩⟩⟩
theorem lw_p64 : lw_okq (⟨"RiverDaysModel", "plans", "(I)I"⟩, 36) := ⟨⟨by decide +kernel, by decide +kernel⟩, List.mem_of_getElem? (i := 925) (by decide +kernel), List.mem_of_getElem? (i := 1288) (by decide +kernel), List.mem_of_getElem? (i := 1289) (by decide +kernel)⟩
theorem lw_p65 : lw_okq (⟨"RiverDaysModel", "setOf", "(III)I"⟩, 36) := ⟨⟨by decide +kernel, by decide +kernel⟩, List.mem_of_getElem? (i := 925) (by decide +kernel), List.mem_of_getElem? (i := 1292) (by decide +kernel), List.mem_of_getElem? (i := 1293) (by decide +kernel)⟩
theorem lw_p66 : lw_okq (⟨"RiverDaysModel", "layPlan", "(III)V"⟩, 36) := ⟨⟨by decide +kernel, by decide +kernel⟩, List.mem_of_getElem? (i := 925) (by decide +kernel), List.mem_of_getElem? (i := 1296) (by decide +kernel), List.mem_of_getElem? (i := 1297) (by decide +kernel)⟩
theorem lw_p67 : lw_okq (⟨"RiverDaysModel", "millSet", "()I"⟩, 36) := ⟨⟨by decide +kernel, by decide +kernel⟩, List.mem_of_getElem? (i := 925) (by decide +kernel), List.mem_of_getElem? (i := 1304) (by decide +kernel), List.mem_of_getElem? (i := 1305) (by decide +kernel)⟩
theorem lw_p68 : lw_okq (⟨"RiverDaysModel", "groundBy", "(IIII)I"⟩, 36) := ⟨⟨by decide +kernel, by decide +kernel⟩, List.mem_of_getElem? (i := 925) (by decide +kernel), List.mem_of_getElem? (i := 1324) (by decide +kernel), List.mem_of_getElem? (i := 1325) (by decide +kernel)⟩
theorem lw_p69 : lw_okq (⟨"RiverDaysModel", "askedSea", "(I)I"⟩, 36) := ⟨⟨by decide +kernel, by decide +kernel⟩, List.mem_of_getElem? (i := 925) (by decide +kernel), List.mem_of_getElem? (i := 1332) (by decide +kernel), List.mem_of_getElem? (i := 1333) (by decide +kernel)⟩
theorem lw_p70 : lw_okq (⟨"RiverDaysModel", "comesSo", "(II)Z"⟩, 36) := ⟨⟨by decide +kernel, by decide +kernel⟩, List.mem_of_getElem? (i := 925) (by decide +kernel), List.mem_of_getElem? (i := 1336) (by decide +kernel), List.mem_of_getElem? (i := 1337) (by decide +kernel)⟩
theorem lw_p71 : lw_okq (⟨"RiverDaysModel", "part", "(JJ)I"⟩, 36) := ⟨⟨by decide +kernel, by decide +kernel⟩, List.mem_of_getElem? (i := 925) (by decide +kernel), List.mem_of_getElem? (i := 1340) (by decide +kernel), List.mem_of_getElem? (i := 1341) (by decide +kernel)⟩
theorem lw_p72 : lw_okq (⟨"RiverDaysModel", "askedBook", "(II)I"⟩, 36) := ⟨⟨by decide +kernel, by decide +kernel⟩, List.mem_of_getElem? (i := 925) (by decide +kernel), List.mem_of_getElem? (i := 1352) (by decide +kernel), List.mem_of_getElem? (i := 1353) (by decide +kernel)⟩
theorem lw_p73 : lw_okq (⟨"RiverDaysModel", "isSo", "(IIII)Z"⟩, 36) := ⟨⟨by decide +kernel, by decide +kernel⟩, List.mem_of_getElem? (i := 925) (by decide +kernel), List.mem_of_getElem? (i := 1356) (by decide +kernel), List.mem_of_getElem? (i := 1357) (by decide +kernel)⟩
theorem lw_p74 : lw_okq (⟨"RiverDaysModel", "sums", "(III)I"⟩, 36) := ⟨⟨by decide +kernel, by decide +kernel⟩, List.mem_of_getElem? (i := 925) (by decide +kernel), List.mem_of_getElem? (i := 1368) (by decide +kernel), List.mem_of_getElem? (i := 1369) (by decide +kernel)⟩
theorem lw_p75 : lw_okq (⟨"RiverDaysModel", "shutMany", "(I)I"⟩, 36) := ⟨⟨by decide +kernel, by decide +kernel⟩, List.mem_of_getElem? (i := 925) (by decide +kernel), List.mem_of_getElem? (i := 1372) (by decide +kernel), List.mem_of_getElem? (i := 1373) (by decide +kernel)⟩
theorem lw_p76 : lw_okq (⟨"RiverDaysModel", "tells", "(I)I"⟩, 36) := ⟨⟨by decide +kernel, by decide +kernel⟩, List.mem_of_getElem? (i := 925) (by decide +kernel), List.mem_of_getElem? (i := 1412) (by decide +kernel), List.mem_of_getElem? (i := 1413) (by decide +kernel)⟩
theorem lw_p77 : lw_okq (⟨"RiverDaysModel", "there", "(I)I"⟩, 36) := ⟨⟨by decide +kernel, by decide +kernel⟩, List.mem_of_getElem? (i := 925) (by decide +kernel), List.mem_of_getElem? (i := 1416) (by decide +kernel), List.mem_of_getElem? (i := 1417) (by decide +kernel)⟩
theorem lw_p78 : lw_okq (⟨"RiverDaysModel", "mix", "(I)V"⟩, 36) := ⟨⟨by decide +kernel, by decide +kernel⟩, List.mem_of_getElem? (i := 925) (by decide +kernel), List.mem_of_getElem? (i := 1433) (by decide +kernel), List.mem_of_getElem? (i := 1434) (by decide +kernel)⟩
theorem lw_p79 : lw_okq (⟨"RiverDaysModel", "mixRiver", "()V"⟩, 36) := ⟨⟨by decide +kernel, by decide +kernel⟩, List.mem_of_getElem? (i := 925) (by decide +kernel), List.mem_of_getElem? (i := 1438) (by decide +kernel), List.mem_of_getElem? (i := 1439) (by decide +kernel)⟩
def lw_privs_5 : List (MethodName × Nat) := [(⟨"RiverDaysModel", "plans", "(I)I"⟩, 36), (⟨"RiverDaysModel", "setOf", "(III)I"⟩, 36), (⟨"RiverDaysModel", "layPlan", "(III)V"⟩, 36), (⟨"RiverDaysModel", "millSet", "()I"⟩, 36), (⟨"RiverDaysModel", "groundBy", "(IIII)I"⟩, 36), (⟨"RiverDaysModel", "askedSea", "(I)I"⟩, 36), (⟨"RiverDaysModel", "comesSo", "(II)Z"⟩, 36), (⟨"RiverDaysModel", "part", "(JJ)I"⟩, 36), (⟨"RiverDaysModel", "askedBook", "(II)I"⟩, 36), (⟨"RiverDaysModel", "isSo", "(IIII)Z"⟩, 36), (⟨"RiverDaysModel", "sums", "(III)I"⟩, 36), (⟨"RiverDaysModel", "shutMany", "(I)I"⟩, 36), (⟨"RiverDaysModel", "tells", "(I)I"⟩, 36), (⟨"RiverDaysModel", "there", "(I)I"⟩, 36), (⟨"RiverDaysModel", "mix", "(I)V"⟩, 36), (⟨"RiverDaysModel", "mixRiver", "()V"⟩, 36)]
theorem lw_r5 : ∀ q ∈ lw_privs_5, lw_okq q := List.forall_mem_cons.mpr ⟨lw_p64, List.forall_mem_cons.mpr ⟨lw_p65, List.forall_mem_cons.mpr ⟨lw_p66, List.forall_mem_cons.mpr ⟨lw_p67, List.forall_mem_cons.mpr ⟨lw_p68, List.forall_mem_cons.mpr ⟨lw_p69, List.forall_mem_cons.mpr ⟨lw_p70, List.forall_mem_cons.mpr ⟨lw_p71, List.forall_mem_cons.mpr ⟨lw_p72, List.forall_mem_cons.mpr ⟨lw_p73, List.forall_mem_cons.mpr ⟨lw_p74, List.forall_mem_cons.mpr ⟨lw_p75, List.forall_mem_cons.mpr ⟨lw_p76, List.forall_mem_cons.mpr ⟨lw_p77, List.forall_mem_cons.mpr ⟨lw_p78, List.forall_mem_cons.mpr ⟨lw_p79, fun _ h => absurd h List.not_mem_nil⟩⟩⟩⟩⟩⟩⟩⟩⟩⟩⟩⟩⟩⟩⟩⟩
def lw_privs : List (MethodName × Nat) := lw_privs_1 ++ (lw_privs_2 ++ (lw_privs_3 ++ (lw_privs_4 ++ (lw_privs_5))))
def lw_tbl : List Cond := k2_sels lw_privs ++ tables_1
theorem lw_privs_ok : ∀ q ∈ lw_privs, lw_okq q := by
  show ∀ q ∈ lw_privs_1 ++ (lw_privs_2 ++ (lw_privs_3 ++ (lw_privs_4 ++ (lw_privs_5)))), lw_okq q
  exact List.forall_mem_append.mpr ⟨lw_r1, List.forall_mem_append.mpr ⟨lw_r2, List.forall_mem_append.mpr ⟨lw_r3, List.forall_mem_append.mpr ⟨lw_r4, lw_r5⟩⟩⟩⟩
end
section
/-! ===== BEGIN words of one list among another's, by their places ===== -/
theorem goodIn_r {big : List Cond} (ws : List Cond) (ps : List Nat) (hp : ws = ps.filterMap (fun i => big[i]?)) (h : ws.all goodWord = true) : GoodIn big ws := by
  intro w hw
  have h1 := List.all_eq_true.mp h w hw
  rw [hp] at hw
  obtain ⟨i, -, hi⟩ := List.mem_filterMap.mp hw
  have hm : w ∈ big := by first | exact List.mem_of_getElem? hi | exact List.getElem?_mem hi
  exact ⟨hm, good_of_word h1⟩
theorem goodIn_app {big a b : List Cond} (ha : GoodIn big a) (hb : GoodIn big b) : GoodIn big (a ++ b) := fun w h => (List.mem_append.mp h).elim (ha w) (hb w)
theorem goodIn_ca {big a b : List Cond} {c : Cond} (ha : GoodIn big (c :: a)) (hb : GoodIn big b) : GoodIn big (c :: (a ++ b)) := fun w h => (List.mem_cons.mp h).elim (fun e => ha w (List.mem_cons.mpr (Or.inl e))) (fun h => (List.mem_append.mp h).elim (fun h => ha w (List.mem_cons.mpr (Or.inr h))) (hb w))
theorem goodIn_sub {big ws : List Cond} (hm : ∀ w ∈ ws, w ∈ big) (h : ws.all goodWord = true) : GoodIn big ws := fun w hw => ⟨hm w hw, good_of_word (List.all_eq_true.mp h w hw)⟩
/-! ===== END ===== -/
def RX0 : String := "RiverDays$Aside"
def TX0 : u_T := fun k => match k with
  | 0 => ("RiverDays$Aside", "dryWeekday", "I", false)
  | 1 => ("RiverDays$Aside", "sea", "I", false)
  | 2 => ("RiverDays$Aside", "grinding", "I", false)
  | 3 => ("RiverDays$Aside", "seaInAll", "I", false)
  | 4 => ("RiverDays$Aside", "groundInAll", "I", false)
  | 5 => ("RiverDays$Aside", "seaOf", "[I", true)
  | 6 => ("RiverDays$Aside", "today", "I", false)
  | 7 => ("RiverDays$Aside", "water", "[[I", true)
  | _ => ("RiverDays$Aside", "ran", "[I", true)
def tyX0 : Nat → FieldType := fun k => match k with
  | 0 => .int
  | 1 => .int
  | 2 => .int
  | 3 => .int
  | 4 => .int
  | 5 => .array .int
  | 6 => .int
  | 7 => .array (.array .int)
  | _ => .array .int
abbrev wsX00 : List Cond := u_ws RX0 TX0 9
theorem nmX0 : ∀ a, a < 9 → ∀ b, b < 9 → a ≠ b → (TX0 a).2.1 ≠ (TX0 b).2.1 := by decide +kernel
theorem tyX0_ok : ∀ k, k < 9 → parseFieldDescriptor (TX0 k).2.2.1 = some (tyX0 k) := by decide +kernel
abbrev cX0_init : ByteArray := prog_2_method_1_code
def yX0_init : MethodName := ⟨RX0, "<init>", "()V"⟩
abbrev cX0_begin : ByteArray := prog_2_method_2_code
def yX0_begin : MethodName := ⟨RX0, "begin", "([II)V"⟩
abbrev cX0_passOn : ByteArray := prog_2_method_3_code
def yX0_passOn : MethodName := ⟨RX0, "passOn", "(LRiverDays$Course;II)V"⟩
abbrev cX0_branch : ByteArray := prog_2_method_4_code
def yX0_branch : MethodName := ⟨RX0, "branch", "(LRiverDays$Course;II)V"⟩
abbrev cX0_ownerOf : ByteArray := prog_2_method_5_code
def yX0_ownerOf : MethodName := ⟨RX0, "ownerOf", "(LRiverDays$Course;I)I"⟩
abbrev cX0_waterNow : ByteArray := prog_2_method_6_code
def yX0_waterNow : MethodName := ⟨RX0, "waterNow", "(I)I"⟩
abbrev cX0_weekdayOf : ByteArray := prog_2_method_7_code
def yX0_weekdayOf : MethodName := ⟨RX0, "weekdayOf", "(I)I"⟩
abbrev cX0_pass : ByteArray := prog_2_method_8_code
def yX0_pass : MethodName := ⟨RX0, "pass", "(LRiverDays$Course;[III)V"⟩
def RX1 : String := "RiverDays$Breaking"
def TX1 : u_T := fun k => match k with
  | 0 => ("RiverDays$Breaking", "plan", "[I", true)
  | 1 => ("RiverDays$Breaking", "seaWeighed", "J", false)
  | 2 => ("RiverDays$Breaking", "reached", "J", false)
  | 3 => ("RiverDays$Breaking", "whole", "J", false)
  | 4 => ("RiverDays$Breaking", "days", "I", false)
  | 5 => ("RiverDays$Breaking", "often", "I", false)
  | 6 => ("RiverDays$Breaking", "p", "I", false)
  | _ => ("RiverDays$Breaking", "aside", "LRiverDays$Aside;", true)
def tyX1 : Nat → FieldType := fun k => match k with
  | 0 => .array .int
  | 1 => .long
  | 2 => .long
  | 3 => .long
  | 4 => .int
  | 5 => .int
  | 6 => .int
  | _ => .object "RiverDays$Aside"
abbrev wsX10 : List Cond := u_ws RX1 TX1 8
theorem nmX1 : ∀ a, a < 8 → ∀ b, b < 8 → a ≠ b → (TX1 a).2.1 ≠ (TX1 b).2.1 := by decide +kernel
theorem tyX1_ok : ∀ k, k < 8 → parseFieldDescriptor (TX1 k).2.2.1 = some (tyX1 k) := by decide +kernel
abbrev cX1_init : ByteArray := prog_3_method_1_code
def yX1_init : MethodName := ⟨RX1, "<init>", "()V"⟩
abbrev cX1_weigh : ByteArray := prog_3_method_2_code
def yX1_weigh : MethodName := ⟨RX1, "weigh", "(LRiverDays$Course;[IIIII)V"⟩
abbrev cX1_spread : ByteArray := prog_3_method_3_code
def yX1_spread : MethodName := ⟨RX1, "spread", "(LRiverDays$Course;IJII)V"⟩
abbrev cX1_weightOf : ByteArray := prog_3_method_4_code
def yX1_weightOf : MethodName := ⟨RX1, "weightOf", "(II)J"⟩
abbrev cX1_power : ByteArray := prog_3_method_5_code
def yX1_power : MethodName := ⟨RX1, "power", "(II)J"⟩
def RX2 : String := "RiverDays$Course"
def TX2 : u_T := fun k => match k with
  | 0 => ("RiverDays$Course", "size", "I", false)
  | 1 => ("RiverDays$Course", "gateBits", "I", false)
  | 2 => ("RiverDays$Course", "millBits", "I", false)
  | 3 => ("RiverDays$Course", "setCount", "I", false)
  | 4 => ("RiverDays$Course", "kind", "[I", true)
  | 5 => ("RiverDays$Course", "measure", "[I", true)
  | 6 => ("RiverDays$Course", "spring", "[I", true)
  | 7 => ("RiverDays$Course", "rain", "[I", true)
  | 8 => ("RiverDays$Course", "owner", "[I", true)
  | _ => ("RiverDays$Course", "sets", "[I", true)
def tyX2 : Nat → FieldType := fun k => match k with
  | 0 => .int
  | 1 => .int
  | 2 => .int
  | 3 => .int
  | 4 => .array .int
  | 5 => .array .int
  | 6 => .array .int
  | 7 => .array .int
  | 8 => .array .int
  | _ => .array .int
abbrev wsX20 : List Cond := u_ws RX2 TX2 10
theorem nmX2 : ∀ a, a < 10 → ∀ b, b < 10 → a ≠ b → (TX2 a).2.1 ≠ (TX2 b).2.1 := by decide +kernel
theorem tyX2_ok : ∀ k, k < 10 → parseFieldDescriptor (TX2 k).2.2.1 = some (tyX2 k) := by decide +kernel
abbrev cX2_init : ByteArray := prog_4_method_1_code
def yX2_init : MethodName := ⟨RX2, "<init>", "()V"⟩
abbrev cX2_clear : ByteArray := prog_4_method_2_code
def yX2_clear : MethodName := ⟨RX2, "clear", "()V"⟩
abbrev cX2_hasReach : ByteArray := prog_4_method_3_code
def yX2_hasReach : MethodName := ⟨RX2, "hasReach", "(I)Z"⟩
abbrev cX2_canShut : ByteArray := prog_4_method_4_code
def yX2_canShut : MethodName := ⟨RX2, "canShut", "(I)Z"⟩
abbrev cX2_hasRoomFor : ByteArray := prog_4_method_5_code
def yX2_hasRoomFor : MethodName := ⟨RX2, "hasRoomFor", "(I)Z"⟩
abbrev cX2_add : ByteArray := prog_4_method_6_code
def yX2_add : MethodName := ⟨RX2, "add", "(III)V"⟩
abbrev cX2_listSets : ByteArray := prog_4_method_7_code
def yX2_listSets : MethodName := ⟨RX2, "listSets", "()V"⟩
abbrev cX2_setByLot : ByteArray := prog_4_method_8_code
def yX2_setByLot : MethodName := ⟨RX2, "setByLot", "(I)I"⟩
abbrev cX2_letRun : ByteArray := prog_4_method_9_code
def yX2_letRun : MethodName := ⟨RX2, "letRun", "([I[II)V"⟩
abbrev cX2_takeIn : ByteArray := prog_4_method_10_code
def yX2_takeIn : MethodName := ⟨RX2, "takeIn", "([I[II)V"⟩
abbrev cX2_toSea : ByteArray := prog_4_method_11_code
def yX2_toSea : MethodName := ⟨RX2, "toSea", "([I)I"⟩
abbrev cX2_grindingBy : ByteArray := prog_4_method_12_code
def yX2_grindingBy : MethodName := ⟨RX2, "grindingBy", "([I)I"⟩
def RX3 : String := "RiverDays$Deeds"
def TX3 : u_T := fun k => match k with
  | 0 => ("RiverDays$Deeds", "size", "I", false)
  | 1 => ("RiverDays$Deeds", "shut", "[I", true)
  | _ => ("RiverDays$Deeds", "village", "[I", true)
def tyX3 : Nat → FieldType := fun k => match k with
  | 0 => .int
  | 1 => .array .int
  | _ => .array .int
abbrev wsX30 : List Cond := u_ws RX3 TX3 3
theorem nmX3 : ∀ a, a < 3 → ∀ b, b < 3 → a ≠ b → (TX3 a).2.1 ≠ (TX3 b).2.1 := by decide +kernel
theorem tyX3_ok : ∀ k, k < 3 → parseFieldDescriptor (TX3 k).2.2.1 = some (tyX3 k) := by decide +kernel
abbrev cX3_init : ByteArray := prog_5_method_1_code
def yX3_init : MethodName := ⟨RX3, "<init>", "()V"⟩
abbrev cX3_add : ByteArray := prog_5_method_2_code
def yX3_add : MethodName := ⟨RX3, "add", "(II)V"⟩
abbrev cX3_cutTo : ByteArray := prog_5_method_3_code
def yX3_cutTo : MethodName := ⟨RX3, "cutTo", "(I)V"⟩
abbrev cX3_become : ByteArray := prog_5_method_4_code
def yX3_become : MethodName := ⟨RX3, "become", "(LRiverDays$Deeds;)V"⟩
def RX4 : String := "RiverDays$Flow"
def TX4 : u_T := fun k => match k with
  | 0 => ("RiverDays$Flow", "water", "[I", true)
  | 1 => ("RiverDays$Flow", "ground", "[I", true)
  | 2 => ("RiverDays$Flow", "ranInAll", "[I", true)
  | 3 => ("RiverDays$Flow", "seaOf", "[I", true)
  | _ => ("RiverDays$Flow", "ran", "[I", true)
def tyX4 : Nat → FieldType := fun k => match k with
  | 0 => .array .int
  | 1 => .array .int
  | 2 => .array .int
  | 3 => .array .int
  | _ => .array .int
abbrev wsX40 : List Cond := u_ws RX4 TX4 5
theorem nmX4 : ∀ a, a < 5 → ∀ b, b < 5 → a ≠ b → (TX4 a).2.1 ≠ (TX4 b).2.1 := by decide +kernel
theorem tyX4_ok : ∀ k, k < 5 → parseFieldDescriptor (TX4 k).2.2.1 = some (tyX4 k) := by decide +kernel
abbrev cX4_init : ByteArray := prog_6_method_1_code
def yX4_init : MethodName := ⟨RX4, "<init>", "()V"⟩
abbrev cX4_start : ByteArray := prog_6_method_2_code
def yX4_start : MethodName := ⟨RX4, "start", "(LRiverDays$Course;)V"⟩
abbrev cX4_pass : ByteArray := prog_6_method_3_code
def yX4_pass : MethodName := ⟨RX4, "pass", "(LRiverDays$Course;III)I"⟩
def RX5 : String := "RiverDays$Hunt"
def TX5 : u_T := fun k => match k with
  | 0 => ("RiverDays$Hunt", "due", "[I", true)
  | 1 => ("RiverDays$Hunt", "plan", "[I", true)
  | 2 => ("RiverDays$Hunt", "village", "I", false)
  | 3 => ("RiverDays$Hunt", "days", "I", false)
  | 4 => ("RiverDays$Hunt", "found", "I", false)
  | 5 => ("RiverDays$Hunt", "top", "I", false)
  | 6 => ("RiverDays$Hunt", "common", "I", false)
  | 7 => ("RiverDays$Hunt", "goal", "I", false)
  | 8 => ("RiverDays$Hunt", "tried", "[I", true)
  | _ => ("RiverDays$Hunt", "aside", "LRiverDays$Aside;", true)
def tyX5 : Nat → FieldType := fun k => match k with
  | 0 => .array .int
  | 1 => .array .int
  | 2 => .int
  | 3 => .int
  | 4 => .int
  | 5 => .int
  | 6 => .int
  | 7 => .int
  | 8 => .array .int
  | _ => .object "RiverDays$Aside"
abbrev wsX50 : List Cond := u_ws RX5 TX5 10
theorem nmX5 : ∀ a, a < 10 → ∀ b, b < 10 → a ≠ b → (TX5 a).2.1 ≠ (TX5 b).2.1 := by decide +kernel
theorem tyX5_ok : ∀ k, k < 10 → parseFieldDescriptor (TX5 k).2.2.1 = some (tyX5 k) := by decide +kernel
abbrev cX5_init : ByteArray := prog_7_method_1_code
def yX5_init : MethodName := ⟨RX5, "<init>", "()V"⟩
abbrev cX5_seek : ByteArray := prog_7_method_2_code
def yX5_seek : MethodName := ⟨RX5, "seek", "(LRiverDays$Course;[IIII)V"⟩
abbrev cX5_goDeeper : ByteArray := prog_7_method_3_code
def yX5_goDeeper : MethodName := ⟨RX5, "goDeeper", "(LRiverDays$Course;II)V"⟩
abbrev cX5_fits : ByteArray := prog_7_method_4_code
def yX5_fits : MethodName := ⟨RX5, "fits", "(LRiverDays$Course;I)Z"⟩
abbrev cX5_gain : ByteArray := prog_7_method_5_code
def yX5_gain : MethodName := ⟨RX5, "gain", "(LRiverDays$Course;I)I"⟩
abbrev cX5_arrive : ByteArray := prog_7_method_6_code
def yX5_arrive : MethodName := ⟨RX5, "arrive", "(I)V"⟩
abbrev cX5_shutTogether : ByteArray := prog_7_method_7_code
def yX5_shutTogether : MethodName := ⟨RX5, "shutTogether", "()I"⟩
abbrev cX5_contest : ByteArray := prog_7_method_8_code
def yX5_contest : MethodName := ⟨RX5, "contest", "(LRiverDays$Course;[III)I"⟩
abbrev cX5_contend : ByteArray := prog_7_method_9_code
def yX5_contend : MethodName := ⟨RX5, "contend", "(LRiverDays$Course;I)I"⟩
def RX6 : String := "RiverDays$Kind"
def TX6 : u_T := fun k => match k with
  | _ => ("", "", "", false)
def tyX6 : Nat → FieldType := fun k => match k with
  | _ => .int
abbrev wsX60 : List Cond := u_ws RX6 TX6 0
theorem nmX6 : ∀ a, a < 0 → ∀ b, b < 0 → a ≠ b → (TX6 a).2.1 ≠ (TX6 b).2.1 := by decide +kernel
theorem tyX6_ok : ∀ k, k < 0 → parseFieldDescriptor (TX6 k).2.2.1 = some (tyX6 k) := by decide +kernel
abbrev cX6_byLetter : ByteArray := prog_8_method_2_code
def yX6_byLetter : MethodName := ⟨RX6, "byLetter", "(I)I"⟩
abbrev cX6_isOf : ByteArray := prog_8_method_3_code
def yX6_isOf : MethodName := ⟨RX6, "isOf", "(II)Z"⟩
abbrev cX6_runFrom : ByteArray := prog_8_method_4_code
def yX6_runFrom : MethodName := ⟨RX6, "runFrom", "(IIIZ)I"⟩
abbrev cX6_settle : ByteArray := prog_8_method_5_code
def yX6_settle : MethodName := ⟨RX6, "settle", "(II)I"⟩
abbrev cX6_grindsBy : ByteArray := prog_8_method_6_code
def yX6_grindsBy : MethodName := ⟨RX6, "grindsBy", "(III)Z"⟩
abbrev cX6_signOf : ByteArray := prog_8_method_7_code
def yX6_signOf : MethodName := ⟨RX6, "signOf", "(III)I"⟩
def RX7 : String := "RiverDays$Reader"
def TX7 : u_T := fun k => match k with
  | 0 => ("RiverDays$Reader", "signs", "[I", true)
  | 1 => ("RiverDays$Reader", "size", "I", false)
  | _ => ("RiverDays$Reader", "place", "I", false)
def tyX7 : Nat → FieldType := fun k => match k with
  | 0 => .array .int
  | 1 => .int
  | _ => .int
abbrev wsX70 : List Cond := u_ws RX7 TX7 3
theorem nmX7 : ∀ a, a < 3 → ∀ b, b < 3 → a ≠ b → (TX7 a).2.1 ≠ (TX7 b).2.1 := by decide +kernel
theorem tyX7_ok : ∀ k, k < 3 → parseFieldDescriptor (TX7 k).2.2.1 = some (tyX7 k) := by decide +kernel
abbrev cX7_init : ByteArray := prog_9_method_1_code
def yX7_init : MethodName := ⟨RX7, "<init>", "()V"⟩
abbrev cX7_read : ByteArray := prog_9_method_2_code
def yX7_read : MethodName := ⟨RX7, "read", "(LRiverDays$Rows;ILRiverDays$Course;)I"⟩
abbrev cX7_takesWeek : ByteArray := prog_9_method_3_code
def yX7_takesWeek : MethodName := ⟨RX7, "takesWeek", "(I[II)Z"⟩
abbrev cX7_takesReach : ByteArray := prog_9_method_4_code
def yX7_takesReach : MethodName := ⟨RX7, "takesReach", "(LRiverDays$Course;)Z"⟩
abbrev cX7_onlyBlanksLeft : ByteArray := prog_9_method_5_code
def yX7_onlyBlanksLeft : MethodName := ⟨RX7, "onlyBlanksLeft", "()Z"⟩
abbrev cX7_seen : ByteArray := prog_9_method_6_code
def yX7_seen : MethodName := ⟨RX7, "seen", "()I"⟩
abbrev cX7_seesFigure : ByteArray := prog_9_method_7_code
def yX7_seesFigure : MethodName := ⟨RX7, "seesFigure", "(II)Z"⟩
abbrev cX7_skipBlanks : ByteArray := prog_9_method_8_code
def yX7_skipBlanks : MethodName := ⟨RX7, "skipBlanks", "()V"⟩
def RX8 : String := "RiverDays$Rows"
def TX8 : u_T := fun k => match k with
  | 0 => ("RiverDays$Rows", "limit", "I", true)
  | 1 => ("RiverDays$Rows", "places", "[[I", true)
  | _ => ("RiverDays$Rows", "sizes", "[I", true)
def tyX8 : Nat → FieldType := fun k => match k with
  | 0 => .int
  | 1 => .array (.array .int)
  | _ => .array .int
abbrev wsX80 : List Cond := u_ws RX8 TX8 3
theorem nmX8 : ∀ a, a < 3 → ∀ b, b < 3 → a ≠ b → (TX8 a).2.1 ≠ (TX8 b).2.1 := by decide +kernel
theorem tyX8_ok : ∀ k, k < 3 → parseFieldDescriptor (TX8 k).2.2.1 = some (tyX8 k) := by decide +kernel
abbrev cX8_init : ByteArray := prog_10_method_1_code
def yX8_init : MethodName := ⟨RX8, "<init>", "(II)V"⟩
abbrev cX8_isOne : ByteArray := prog_10_method_2_code
def yX8_isOne : MethodName := ⟨RX8, "isOne", "(I)Z"⟩
abbrev cX8_isThere : ByteArray := prog_10_method_3_code
def yX8_isThere : MethodName := ⟨RX8, "isThere", "(I)Z"⟩
abbrev cX8_sizeOf : ByteArray := prog_10_method_4_code
def yX8_sizeOf : MethodName := ⟨RX8, "sizeOf", "(I)I"⟩
abbrev cX8_holds : ByteArray := prog_10_method_5_code
def yX8_holds : MethodName := ⟨RX8, "holds", "(II)Z"⟩
abbrev cX8_holdsRun : ByteArray := prog_10_method_6_code
def yX8_holdsRun : MethodName := ⟨RX8, "holdsRun", "(III)Z"⟩
abbrev cX8_valueAt : ByteArray := prog_10_method_7_code
def yX8_valueAt : MethodName := ⟨RX8, "valueAt", "(II)I"⟩
abbrev cX8_change : ByteArray := prog_10_method_8_code
def yX8_change : MethodName := ⟨RX8, "change", "(III)V"⟩
abbrev cX8_make : ByteArray := prog_10_method_9_code
def yX8_make : MethodName := ⟨RX8, "make", "(III)V"⟩
abbrev cX8_take : ByteArray := prog_10_method_10_code
def yX8_take : MethodName := ⟨RX8, "take", "(I[II)V"⟩
abbrev cX8_giveTo : ByteArray := prog_10_method_11_code
def yX8_giveTo : MethodName := ⟨RX8, "giveTo", "(I[I)V"⟩
abbrev cX8_drop : ByteArray := prog_10_method_12_code
def yX8_drop : MethodName := ⟨RX8, "drop", "(I)V"⟩
abbrev cX8_transfer : ByteArray := prog_10_method_13_code
def yX8_transfer : MethodName := ⟨RX8, "transfer", "(IIIII)V"⟩
abbrev cX8_sumOf : ByteArray := prog_10_method_14_code
def yX8_sumOf : MethodName := ⟨RX8, "sumOf", "(I)J"⟩
abbrev cX8_allWithin : ByteArray := prog_10_method_15_code
def yX8_allWithin : MethodName := ⟨RX8, "allWithin", "(II)Z"⟩
abbrev cX8_howMany : ByteArray := prog_10_method_16_code
def yX8_howMany : MethodName := ⟨RX8, "howMany", "()I"⟩
abbrev cX8_mixInto : ByteArray := prog_10_method_17_code
def yX8_mixInto : MethodName := ⟨RX8, "mixInto", "(J)J"⟩
def RX9 : String := "RiverDays"
def TX9 : u_T := fun k => match k with
  | 0 => ("RiverDays", "rows", "LRiverDays$Rows;", true)
  | 1 => ("RiverDays", "texts", "LRiverDays$Rows;", true)
  | 2 => ("RiverDays", "reader", "LRiverDays$Reader;", true)
  | 3 => ("RiverDays", "flow", "LRiverDays$Flow;", true)
  | 4 => ("RiverDays", "deeds", "LRiverDays$Deeds;", true)
  | 5 => ("RiverDays", "kept", "[LRiverDays$Deeds;", true)
  | 6 => ("RiverDays", "isKept", "[Z", true)
  | 7 => ("RiverDays", "aside", "LRiverDays$Aside;", true)
  | 8 => ("RiverDays", "hunt", "LRiverDays$Hunt;", true)
  | 9 => ("RiverDays", "breaking", "LRiverDays$Breaking;", true)
  | 10 => ("RiverDays", "answered", "[I", true)
  | 11 => ("RiverDays", "course", "LRiverDays$Course;", false)
  | 12 => ("RiverDays", "draft", "LRiverDays$Course;", false)
  | 13 => ("RiverDays", "latestFinding", "I", false)
  | 14 => ("RiverDays", "toldInt", "I", false)
  | 15 => ("RiverDays", "toldUpper", "J", false)
  | _ => ("RiverDays", "toldLower", "J", false)
def tyX9 : Nat → FieldType := fun k => match k with
  | 0 => .object "RiverDays$Rows"
  | 1 => .object "RiverDays$Rows"
  | 2 => .object "RiverDays$Reader"
  | 3 => .object "RiverDays$Flow"
  | 4 => .object "RiverDays$Deeds"
  | 5 => .array (.object "RiverDays$Deeds")
  | 6 => .array .boolean
  | 7 => .object "RiverDays$Aside"
  | 8 => .object "RiverDays$Hunt"
  | 9 => .object "RiverDays$Breaking"
  | 10 => .array .int
  | 11 => .object "RiverDays$Course"
  | 12 => .object "RiverDays$Course"
  | 13 => .int
  | 14 => .int
  | 15 => .long
  | _ => .long
abbrev wsX90 : List Cond := u_ws RX9 TX9 17
theorem nmX9 : ∀ a, a < 17 → ∀ b, b < 17 → a ≠ b → (TX9 a).2.1 ≠ (TX9 b).2.1 := by decide +kernel
theorem tyX9_ok : ∀ k, k < 17 → parseFieldDescriptor (TX9 k).2.2.1 = some (tyX9 k) := by decide +kernel
abbrev cX9_init : ByteArray := prog_1_method_1_code
def yX9_init : MethodName := ⟨RX9, "<init>", "()V"⟩
abbrev cX9_row : ByteArray := prog_1_method_2_code
def yX9_row : MethodName := ⟨RX9, "row", "(II)I"⟩
abbrev cX9_lay : ByteArray := prog_1_method_3_code
def yX9_lay : MethodName := ⟨RX9, "lay", "(III)I"⟩
abbrev cX9_at : ByteArray := prog_1_method_4_code
def yX9_at : MethodName := ⟨RX9, "at", "(II)I"⟩
abbrev cX9_tear : ByteArray := prog_1_method_5_code
def yX9_tear : MethodName := ⟨RX9, "tear", "(I)I"⟩
abbrev cX9_copy : ByteArray := prog_1_method_6_code
def yX9_copy : MethodName := ⟨RX9, "copy", "(IIIII)I"⟩
abbrev cX9_mean : ByteArray := prog_1_method_7_code
def yX9_mean : MethodName := ⟨RX9, "mean", "(I)I"⟩
abbrev cX9_text : ByteArray := prog_1_method_8_code
def yX9_text : MethodName := ⟨RX9, "text", "(II)I"⟩
abbrev cX9_put : ByteArray := prog_1_method_9_code
def yX9_put : MethodName := ⟨RX9, "put", "(III)I"⟩
abbrev cX9_fault : ByteArray := prog_1_method_10_code
def yX9_fault : MethodName := ⟨RX9, "fault", "(I)I"⟩
abbrev cX9_river : ByteArray := prog_1_method_11_code
def yX9_river : MethodName := ⟨RX9, "river", "(I)I"⟩
abbrev cX9_reach : ByteArray := prog_1_method_12_code
def yX9_reach : MethodName := ⟨RX9, "reach", "(II)I"⟩
abbrev cX9_mark : ByteArray := prog_1_method_13_code
def yX9_mark : MethodName := ⟨RX9, "mark", "(II)I"⟩
abbrev cX9_weekday : ByteArray := prog_1_method_14_code
def yX9_weekday : MethodName := ⟨RX9, "weekday", "(II)I"⟩
abbrev cX9_swap : ByteArray := prog_1_method_15_code
def yX9_swap : MethodName := ⟨RX9, "swap", "(II)I"⟩
abbrev cX9_owns : ByteArray := prog_1_method_16_code
def yX9_owns : MethodName := ⟨RX9, "owns", "(I)I"⟩
abbrev cX9_day : ByteArray := prog_1_method_17_code
def yX9_day : MethodName := ⟨RX9, "day", "(I)I"⟩
abbrev cX9_undo : ByteArray := prog_1_method_18_code
def yX9_undo : MethodName := ⟨RX9, "undo", "(I)I"⟩
abbrev cX9_keep : ByteArray := prog_1_method_19_code
def yX9_keep : MethodName := ⟨RX9, "keep", "(I)I"⟩
abbrev cX9_on : ByteArray := prog_1_method_20_code
def yX9_on : MethodName := ⟨RX9, "on", "(I)I"⟩
abbrev cX9_gates : ByteArray := prog_1_method_21_code
def yX9_gates : MethodName := ⟨RX9, "gates", "()I"⟩
abbrev cX9_runs : ByteArray := prog_1_method_22_code
def yX9_runs : MethodName := ⟨RX9, "runs", "(I)I"⟩
abbrev cX9_sea : ByteArray := prog_1_method_23_code
def yX9_sea : MethodName := ⟨RX9, "sea", "(I)I"⟩
abbrev cX9_water : ByteArray := prog_1_method_24_code
def yX9_water : MethodName := ⟨RX9, "water", "(II)I"⟩
abbrev cX9_share : ByteArray := prog_1_method_25_code
def yX9_share : MethodName := ⟨RX9, "share", "(II)I"⟩
abbrev cX9_grinds : ByteArray := prog_1_method_26_code
def yX9_grinds : MethodName := ⟨RX9, "grinds", "(I)I"⟩
abbrev cX9_best : ByteArray := prog_1_method_27_code
def yX9_best : MethodName := ⟨RX9, "best", "(II)I"⟩
abbrev cX9_all : ByteArray := prog_1_method_28_code
def yX9_all : MethodName := ⟨RX9, "all", "(II)I"⟩
abbrev cX9_most : ByteArray := prog_1_method_29_code
def yX9_most : MethodName := ⟨RX9, "most", "(II)I"⟩
abbrev cX9_worth : ByteArray := prog_1_method_30_code
def yX9_worth : MethodName := ⟨RX9, "worth", "(I)I"⟩
abbrev cX9_duel : ByteArray := prog_1_method_31_code
def yX9_duel : MethodName := ⟨RX9, "duel", "(I)I"⟩
abbrev cX9_ways : ByteArray := prog_1_method_32_code
def yX9_ways : MethodName := ⟨RX9, "ways", "(I)I"⟩
abbrev cX9_first : ByteArray := prog_1_method_33_code
def yX9_first : MethodName := ⟨RX9, "first", "(II)I"⟩
abbrev cX9_kinds : ByteArray := prog_1_method_34_code
def yX9_kinds : MethodName := ⟨RX9, "kinds", "(II)I"⟩
abbrev cX9_measures : ByteArray := prog_1_method_35_code
def yX9_measures : MethodName := ⟨RX9, "measures", "(II)I"⟩
abbrev cX9_mid : ByteArray := prog_1_method_36_code
def yX9_mid : MethodName := ⟨RX9, "mid", "(II)I"⟩
abbrev cX9_odds : ByteArray := prog_1_method_37_code
def yX9_odds : MethodName := ⟨RX9, "odds", "(III)I"⟩
abbrev cX9_lots : ByteArray := prog_1_method_38_code
def yX9_lots : MethodName := ⟨RX9, "lots", "(II)I"⟩
abbrev cX9_asked : ByteArray := prog_1_method_39_code
def yX9_asked : MethodName := ⟨RX9, "asked", "()I"⟩
abbrev cX9_upper : ByteArray := prog_1_method_40_code
def yX9_upper : MethodName := ⟨RX9, "upper", "()J"⟩
abbrev cX9_lower : ByteArray := prog_1_method_41_code
def yX9_lower : MethodName := ⟨RX9, "lower", "()J"⟩
abbrev cX9_count : ByteArray := prog_1_method_42_code
def yX9_count : MethodName := ⟨RX9, "count", "(I)I"⟩
abbrev cX9_finding : ByteArray := prog_1_method_43_code
def yX9_finding : MethodName := ⟨RX9, "finding", "()I"⟩
abbrev cX9_findings : ByteArray := prog_1_method_44_code
def yX9_findings : MethodName := ⟨RX9, "findings", "(I)I"⟩
abbrev cX9_digest : ByteArray := prog_1_method_45_code
def yX9_digest : MethodName := ⟨RX9, "digest", "()J"⟩
abbrev cX9_tell : ByteArray := prog_1_method_46_code
def yX9_tell : MethodName := ⟨RX9, "tell", "(I)I"⟩
abbrev cX9_tellFraction : ByteArray := prog_1_method_47_code
def yX9_tellFraction : MethodName := ⟨RX9, "tellFraction", "(JJ)V"⟩
abbrev cX9_commonDivisor : ByteArray := prog_1_method_48_code
def yX9_commonDivisor : MethodName := ⟨RX9, "commonDivisor", "(JJ)J"⟩
abbrev cX9_find : ByteArray := prog_1_method_49_code
def yX9_find : MethodName := ⟨RX9, "find", "(I)I"⟩
abbrev cX9_makeAnew : ByteArray := prog_1_method_50_code
def yX9_makeAnew : MethodName := ⟨RX9, "makeAnew", "(LRiverDays$Rows;III)I"⟩
abbrev cX9_refuseMissing : ByteArray := prog_1_method_51_code
def yX9_refuseMissing : MethodName := ⟨RX9, "refuseMissing", "(LRiverDays$Rows;I)I"⟩
abbrev cX9_refusePlace : ByteArray := prog_1_method_52_code
def yX9_refusePlace : MethodName := ⟨RX9, "refusePlace", "(LRiverDays$Rows;II)I"⟩
abbrev cX9_refuseSearch : ByteArray := prog_1_method_53_code
def yX9_refuseSearch : MethodName := ⟨RX9, "refuseSearch", "(ZII)I"⟩
abbrev cX9_refuseWithoutRiver : ByteArray := prog_1_method_54_code
def yX9_refuseWithoutRiver : MethodName := ⟨RX9, "refuseWithoutRiver", "(ZI)I"⟩
abbrev cX9_refusePlan : ByteArray := prog_1_method_55_code
def yX9_refusePlan : MethodName := ⟨RX9, "refusePlan", "(ZII)I"⟩
abbrev cX9_refuseSeas : ByteArray := prog_1_method_56_code
def yX9_refuseSeas : MethodName := ⟨RX9, "refuseSeas", "(ZI)I"⟩
abbrev cX9_refusePairs : ByteArray := prog_1_method_57_code
def yX9_refusePairs : MethodName := ⟨RX9, "refusePairs", "(II)I"⟩
abbrev cX9_isWeekday : ByteArray := prog_1_method_58_code
def yX9_isWeekday : MethodName := ⟨RX9, "isWeekday", "(I)Z"⟩
abbrev cX9_isVillage : ByteArray := prog_1_method_59_code
def yX9_isVillage : MethodName := ⟨RX9, "isVillage", "(I)Z"⟩
abbrev cX9_isOfTwelve : ByteArray := prog_1_method_60_code
def yX9_isOfTwelve : MethodName := ⟨RX9, "isOfTwelve", "(I)Z"⟩
abbrev cX9_passTruly : ByteArray := prog_1_method_61_code
def yX9_passTruly : MethodName := ⟨RX9, "passTruly", "(I)I"⟩
abbrev cX9_replay : ByteArray := prog_1_method_62_code
def yX9_replay : MethodName := ⟨RX9, "replay", "()V"⟩
abbrev cX9_readDraft : ByteArray := prog_1_method_63_code
def yX9_readDraft : MethodName := ⟨RX9, "readDraft", "(I)I"⟩
abbrev cX9_followPlan : ByteArray := prog_1_method_64_code
def yX9_followPlan : MethodName := ⟨RX9, "followPlan", "(I)V"⟩
abbrev cX9_groundWithout : ByteArray := prog_1_method_65_code
def yX9_groundWithout : MethodName := ⟨RX9, "groundWithout", "(II)I"⟩
abbrev cX9_agrees : ByteArray := prog_1_method_66_code
def yX9_agrees : MethodName := ⟨RX9, "agrees", "(IIII)Z"⟩
abbrev cX9_ofReach : ByteArray := prog_1_method_67_code
def yX9_ofReach : MethodName := ⟨RX9, "ofReach", "(II)I"⟩
abbrev cX9_counted : ByteArray := prog_1_method_68_code
def yX9_counted : MethodName := ⟨RX9, "counted", "(I)I"⟩
abbrev cX9_keptRivers : ByteArray := prog_1_method_69_code
def yX9_keptRivers : MethodName := ⟨RX9, "keptRivers", "()I"⟩
abbrev cX9_sum : ByteArray := prog_1_method_70_code
def yX9_sum : MethodName := ⟨RX9, "sum", "([I)I"⟩
def RX10 : String := "RiverDaysModel"
def TX10 : u_T := fun k => match k with
  | 0 => ("RiverDaysModel", "finding", "I", false)
  | 1 => ("RiverDaysModel", "findings", "[I", true)
  | 2 => ("RiverDaysModel", "asked", "I", false)
  | 3 => ("RiverDaysModel", "upper", "J", false)
  | 4 => ("RiverDaysModel", "lower", "J", false)
  | 5 => ("RiverDaysModel", "sizes", "[I", true)
  | 6 => ("RiverDaysModel", "rows", "[I", true)
  | 7 => ("RiverDaysModel", "moving", "[I", true)
  | 8 => ("RiverDaysModel", "lengths", "[I", true)
  | 9 => ("RiverDaysModel", "texts", "[I", true)
  | 10 => ("RiverDaysModel", "many", "I", false)
  | 11 => ("RiverDaysModel", "rain", "[I", true)
  | 12 => ("RiverDaysModel", "owner", "[I", true)
  | 13 => ("RiverDaysModel", "kinds", "[I", true)
  | 14 => ("RiverDaysModel", "measures", "[I", true)
  | 15 => ("RiverDaysModel", "water", "[I", true)
  | 16 => ("RiverDaysModel", "ground", "[I", true)
  | 17 => ("RiverDaysModel", "ran", "[I", true)
  | 18 => ("RiverDaysModel", "came", "I", false)
  | 19 => ("RiverDaysModel", "owned", "[I", true)
  | 20 => ("RiverDaysModel", "readAt", "I", false)
  | 21 => ("RiverDaysModel", "readMany", "I", false)
  | 22 => ("RiverDaysModel", "readGates", "I", false)
  | 23 => ("RiverDaysModel", "readWeek", "[I", true)
  | 24 => ("RiverDaysModel", "readReach", "[I", true)
  | 25 => ("RiverDaysModel", "deedMany", "I", false)
  | 26 => ("RiverDaysModel", "notes", "[I", true)
  | 27 => ("RiverDaysModel", "isThere", "[I", true)
  | 28 => ("RiverDaysModel", "images", "[I", true)
  | 29 => ("RiverDaysModel", "aside", "[I", true)
  | 30 => ("RiverDaysModel", "flow", "[I", true)
  | 31 => ("RiverDaysModel", "groundSet", "I", false)
  | 32 => ("RiverDaysModel", "dry", "I", false)
  | 33 => ("RiverDaysModel", "sets", "[I", true)
  | 34 => ("RiverDaysModel", "setMany", "I", false)
  | _ => ("RiverDaysModel", "h0", "J", false)
def tyX10 : Nat → FieldType := fun k => match k with
  | 0 => .int
  | 1 => .array .int
  | 2 => .int
  | 3 => .long
  | 4 => .long
  | 5 => .array .int
  | 6 => .array .int
  | 7 => .array .int
  | 8 => .array .int
  | 9 => .array .int
  | 10 => .int
  | 11 => .array .int
  | 12 => .array .int
  | 13 => .array .int
  | 14 => .array .int
  | 15 => .array .int
  | 16 => .array .int
  | 17 => .array .int
  | 18 => .int
  | 19 => .array .int
  | 20 => .int
  | 21 => .int
  | 22 => .int
  | 23 => .array .int
  | 24 => .array .int
  | 25 => .int
  | 26 => .array .int
  | 27 => .array .int
  | 28 => .array .int
  | 29 => .array .int
  | 30 => .array .int
  | 31 => .int
  | 32 => .int
  | 33 => .array .int
  | 34 => .int
  | _ => .long
abbrev wsX100 : List Cond := u_ws RX10 TX10 36
theorem nmX10 : ∀ a, a < 36 → ∀ b, b < 36 → a ≠ b → (TX10 a).2.1 ≠ (TX10 b).2.1 := by decide +kernel
theorem tyX10_ok : ∀ k, k < 36 → parseFieldDescriptor (TX10 k).2.2.1 = some (tyX10 k) := by decide +kernel
abbrev cX10_init : ByteArray := prog_12_method_1_code
def yX10_init : MethodName := ⟨RX10, "<init>", "()V"⟩
abbrev cX10_in : ByteArray := prog_12_method_2_code
def yX10_in : MethodName := ⟨RX10, "in", "(III)Z"⟩
abbrev cX10_meet : ByteArray := prog_12_method_3_code
def yX10_meet : MethodName := ⟨RX10, "meet", "(I)I"⟩
abbrev cX10_ask : ByteArray := prog_12_method_4_code
def yX10_ask : MethodName := ⟨RX10, "ask", "(II)I"⟩
abbrev cX10_has : ByteArray := prog_12_method_5_code
def yX10_has : MethodName := ⟨RX10, "has", "(II)Z"⟩
abbrev cX10_greater : ByteArray := prog_12_method_6_code
def yX10_greater : MethodName := ⟨RX10, "greater", "(II)I"⟩
abbrev cX10_part : ByteArray := prog_12_method_7_code
def yX10_part : MethodName := ⟨RX10, "part", "(JJ)I"⟩
abbrev cX10_isRow : ByteArray := prog_12_method_8_code
def yX10_isRow : MethodName := ⟨RX10, "isRow", "(I)Z"⟩
abbrev cX10_isText : ByteArray := prog_12_method_9_code
def yX10_isText : MethodName := ⟨RX10, "isText", "(I)Z"⟩
abbrev cX10_askedRow : ByteArray := prog_12_method_10_code
def yX10_askedRow : MethodName := ⟨RX10, "askedRow", "(I)I"⟩
abbrev cX10_askedText : ByteArray := prog_12_method_11_code
def yX10_askedText : MethodName := ⟨RX10, "askedText", "(I)I"⟩
abbrev cX10_rowAt : ByteArray := prog_12_method_12_code
def yX10_rowAt : MethodName := ⟨RX10, "rowAt", "(II)I"⟩
abbrev cX10_setRow : ByteArray := prog_12_method_13_code
def yX10_setRow : MethodName := ⟨RX10, "setRow", "(III)V"⟩
abbrev cX10_row : ByteArray := prog_12_method_14_code
def yX10_row : MethodName := ⟨RX10, "row", "(II)I"⟩
abbrev cX10_at : ByteArray := prog_12_method_15_code
def yX10_at : MethodName := ⟨RX10, "at", "(II)I"⟩
abbrev cX10_lay : ByteArray := prog_12_method_16_code
def yX10_lay : MethodName := ⟨RX10, "lay", "(III)I"⟩
abbrev cX10_tear : ByteArray := prog_12_method_17_code
def yX10_tear : MethodName := ⟨RX10, "tear", "(I)I"⟩
abbrev cX10_copy : ByteArray := prog_12_method_18_code
def yX10_copy : MethodName := ⟨RX10, "copy", "(IIIII)I"⟩
abbrev cX10_mean : ByteArray := prog_12_method_19_code
def yX10_mean : MethodName := ⟨RX10, "mean", "(I)I"⟩
abbrev cX10_text : ByteArray := prog_12_method_20_code
def yX10_text : MethodName := ⟨RX10, "text", "(II)I"⟩
abbrev cX10_put : ByteArray := prog_12_method_21_code
def yX10_put : MethodName := ⟨RX10, "put", "(III)I"⟩
abbrev cX10_here : ByteArray := prog_12_method_22_code
def yX10_here : MethodName := ⟨RX10, "here", "(I)I"⟩
abbrev cX10_skip : ByteArray := prog_12_method_23_code
def yX10_skip : MethodName := ⟨RX10, "skip", "(I)V"⟩
abbrev cX10_figure : ByteArray := prog_12_method_24_code
def yX10_figure : MethodName := ⟨RX10, "figure", "(I[IIII)Z"⟩
abbrev cX10_readsWeek : ByteArray := prog_12_method_25_code
def yX10_readsWeek : MethodName := ⟨RX10, "readsWeek", "(IIII)Z"⟩
abbrev cX10_kindBy : ByteArray := prog_12_method_26_code
def yX10_kindBy : MethodName := ⟨RX10, "kindBy", "(I)I"⟩
abbrev cX10_isGate : ByteArray := prog_12_method_27_code
def yX10_isGate : MethodName := ⟨RX10, "isGate", "(I)Z"⟩
abbrev cX10_isMill : ByteArray := prog_12_method_28_code
def yX10_isMill : MethodName := ⟨RX10, "isMill", "(I)Z"⟩
abbrev cX10_readsReach : ByteArray := prog_12_method_29_code
def yX10_readsReach : MethodName := ⟨RX10, "readsReach", "(I)Z"⟩
abbrev cX10_readsRiver : ByteArray := prog_12_method_30_code
def yX10_readsRiver : MethodName := ⟨RX10, "readsRiver", "(I)Z"⟩
abbrev cX10_goesOn : ByteArray := prog_12_method_31_code
def yX10_goesOn : MethodName := ⟨RX10, "goesOn", "(I)I"⟩
abbrev cX10_fault : ByteArray := prog_12_method_32_code
def yX10_fault : MethodName := ⟨RX10, "fault", "(I)I"⟩
abbrev cX10_river : ByteArray := prog_12_method_33_code
def yX10_river : MethodName := ⟨RX10, "river", "(I)I"⟩
abbrev cX10_isReach : ByteArray := prog_12_method_34_code
def yX10_isReach : MethodName := ⟨RX10, "isReach", "(I)Z"⟩
abbrev cX10_isDay : ByteArray := prog_12_method_35_code
def yX10_isDay : MethodName := ⟨RX10, "isDay", "(I)Z"⟩
abbrev cX10_gateSet : ByteArray := prog_12_method_36_code
def yX10_gateSet : MethodName := ⟨RX10, "gateSet", "()I"⟩
abbrev cX10_canShut : ByteArray := prog_12_method_37_code
def yX10_canShut : MethodName := ⟨RX10, "canShut", "(I)Z"⟩
abbrev cX10_write : ByteArray := prog_12_method_38_code
def yX10_write : MethodName := ⟨RX10, "write", "([II)V"⟩
abbrev cX10_read : ByteArray := prog_12_method_39_code
def yX10_read : MethodName := ⟨RX10, "read", "([II)V"⟩
abbrev cX10_begin : ByteArray := prog_12_method_40_code
def yX10_begin : MethodName := ⟨RX10, "begin", "()V"⟩
abbrev cX10_back : ByteArray := prog_12_method_41_code
def yX10_back : MethodName := ⟨RX10, "back", "()V"⟩
abbrev cX10_runsFrom : ByteArray := prog_12_method_42_code
def yX10_runsFrom : MethodName := ⟨RX10, "runsFrom", "(II)I"⟩
abbrev cX10_grindsBy : ByteArray := prog_12_method_43_code
def yX10_grindsBy : MethodName := ⟨RX10, "grindsBy", "(II)Z"⟩
abbrev cX10_pass : ByteArray := prog_12_method_44_code
def yX10_pass : MethodName := ⟨RX10, "pass", "(I)I"⟩
abbrev cX10_groundMany : ByteArray := prog_12_method_45_code
def yX10_groundMany : MethodName := ⟨RX10, "groundMany", "()I"⟩
abbrev cX10_dayTruly : ByteArray := prog_12_method_46_code
def yX10_dayTruly : MethodName := ⟨RX10, "dayTruly", "(I)I"⟩
abbrev cX10_day : ByteArray := prog_12_method_47_code
def yX10_day : MethodName := ⟨RX10, "day", "(I)I"⟩
abbrev cX10_undo : ByteArray := prog_12_method_48_code
def yX10_undo : MethodName := ⟨RX10, "undo", "(I)I"⟩
abbrev cX10_keep : ByteArray := prog_12_method_49_code
def yX10_keep : MethodName := ⟨RX10, "keep", "(I)I"⟩
abbrev cX10_on : ByteArray := prog_12_method_50_code
def yX10_on : MethodName := ⟨RX10, "on", "(I)I"⟩
abbrev cX10_reachOf : ByteArray := prog_12_method_51_code
def yX10_reachOf : MethodName := ⟨RX10, "reachOf", "(II)I"⟩
abbrev cX10_reach : ByteArray := prog_12_method_52_code
def yX10_reach : MethodName := ⟨RX10, "reach", "(II)I"⟩
abbrev cX10_isA : ByteArray := prog_12_method_53_code
def yX10_isA : MethodName := ⟨RX10, "isA", "(II)Z"⟩
abbrev cX10_mark : ByteArray := prog_12_method_54_code
def yX10_mark : MethodName := ⟨RX10, "mark", "(II)I"⟩
abbrev cX10_weekday : ByteArray := prog_12_method_55_code
def yX10_weekday : MethodName := ⟨RX10, "weekday", "(II)I"⟩
abbrev cX10_swap : ByteArray := prog_12_method_56_code
def yX10_swap : MethodName := ⟨RX10, "swap", "(II)I"⟩
abbrev cX10_owns : ByteArray := prog_12_method_57_code
def yX10_owns : MethodName := ⟨RX10, "owns", "(I)I"⟩
abbrev cX10_gates : ByteArray := prog_12_method_58_code
def yX10_gates : MethodName := ⟨RX10, "gates", "()I"⟩
abbrev cX10_runs : ByteArray := prog_12_method_59_code
def yX10_runs : MethodName := ⟨RX10, "runs", "(I)I"⟩
abbrev cX10_askedPlan : ByteArray := prog_12_method_60_code
def yX10_askedPlan : MethodName := ⟨RX10, "askedPlan", "(II)I"⟩
abbrev cX10_sea : ByteArray := prog_12_method_61_code
def yX10_sea : MethodName := ⟨RX10, "sea", "(I)I"⟩
abbrev cX10_water : ByteArray := prog_12_method_62_code
def yX10_water : MethodName := ⟨RX10, "water", "(II)I"⟩
abbrev cX10_share : ByteArray := prog_12_method_63_code
def yX10_share : MethodName := ⟨RX10, "share", "(II)I"⟩
abbrev cX10_grinds : ByteArray := prog_12_method_64_code
def yX10_grinds : MethodName := ⟨RX10, "grinds", "(I)I"⟩
abbrev cX10_setSets : ByteArray := prog_12_method_65_code
def yX10_setSets : MethodName := ⟨RX10, "setSets", "()V"⟩
abbrev cX10_plans : ByteArray := prog_12_method_66_code
def yX10_plans : MethodName := ⟨RX10, "plans", "(I)I"⟩
abbrev cX10_setOf : ByteArray := prog_12_method_67_code
def yX10_setOf : MethodName := ⟨RX10, "setOf", "(III)I"⟩
abbrev cX10_layPlan : ByteArray := prog_12_method_68_code
def yX10_layPlan : MethodName := ⟨RX10, "layPlan", "(III)V"⟩
abbrev cX10_bits : ByteArray := prog_12_method_69_code
def yX10_bits : MethodName := ⟨RX10, "bits", "(I)I"⟩
abbrev cX10_best : ByteArray := prog_12_method_70_code
def yX10_best : MethodName := ⟨RX10, "best", "(II)I"⟩
abbrev cX10_millSet : ByteArray := prog_12_method_71_code
def yX10_millSet : MethodName := ⟨RX10, "millSet", "()I"⟩
abbrev cX10_all : ByteArray := prog_12_method_72_code
def yX10_all : MethodName := ⟨RX10, "all", "(II)I"⟩
abbrev cX10_most : ByteArray := prog_12_method_73_code
def yX10_most : MethodName := ⟨RX10, "most", "(II)I"⟩
abbrev cX10_worth : ByteArray := prog_12_method_74_code
def yX10_worth : MethodName := ⟨RX10, "worth", "(I)I"⟩
abbrev cX10_groundBy : ByteArray := prog_12_method_75_code
def yX10_groundBy : MethodName := ⟨RX10, "groundBy", "(IIII)I"⟩
abbrev cX10_duel : ByteArray := prog_12_method_76_code
def yX10_duel : MethodName := ⟨RX10, "duel", "(I)I"⟩
abbrev cX10_askedSea : ByteArray := prog_12_method_77_code
def yX10_askedSea : MethodName := ⟨RX10, "askedSea", "(I)I"⟩
abbrev cX10_comesSo : ByteArray := prog_12_method_78_code
def yX10_comesSo : MethodName := ⟨RX10, "comesSo", "(II)Z"⟩
abbrev cX10_ways : ByteArray := prog_12_method_79_code
def yX10_ways : MethodName := ⟨RX10, "ways", "(I)I"⟩
abbrev cX10_first : ByteArray := prog_12_method_80_code
def yX10_first : MethodName := ⟨RX10, "first", "(II)I"⟩
abbrev cX10_askedBook : ByteArray := prog_12_method_81_code
def yX10_askedBook : MethodName := ⟨RX10, "askedBook", "(II)I"⟩
abbrev cX10_isSo : ByteArray := prog_12_method_82_code
def yX10_isSo : MethodName := ⟨RX10, "isSo", "(IIII)Z"⟩
abbrev cX10_kinds : ByteArray := prog_12_method_83_code
def yX10_kinds : MethodName := ⟨RX10, "kinds", "(II)I"⟩
abbrev cX10_measures : ByteArray := prog_12_method_84_code
def yX10_measures : MethodName := ⟨RX10, "measures", "(II)I"⟩
abbrev cX10_shutMany : ByteArray := prog_12_method_85_code
def yX10_shutMany : MethodName := ⟨RX10, "shutMany", "(I)I"⟩
abbrev cX10_holds : ByteArray := prog_12_method_86_code
def yX10_holds : MethodName := ⟨RX10, "holds", "(III)I"⟩
abbrev cX10_power : ByteArray := prog_12_method_87_code
def yX10_power : MethodName := ⟨RX10, "power", "(JI)J"⟩
abbrev cX10_sums : ByteArray := prog_12_method_88_code
def yX10_sums : MethodName := ⟨RX10, "sums", "(III)I"⟩
abbrev cX10_mid : ByteArray := prog_12_method_89_code
def yX10_mid : MethodName := ⟨RX10, "mid", "(II)I"⟩
abbrev cX10_odds : ByteArray := prog_12_method_90_code
def yX10_odds : MethodName := ⟨RX10, "odds", "(III)I"⟩
abbrev cX10_lots : ByteArray := prog_12_method_91_code
def yX10_lots : MethodName := ⟨RX10, "lots", "(II)I"⟩
abbrev cX10_asked : ByteArray := prog_12_method_92_code
def yX10_asked : MethodName := ⟨RX10, "asked", "()I"⟩
abbrev cX10_upper : ByteArray := prog_12_method_93_code
def yX10_upper : MethodName := ⟨RX10, "upper", "()J"⟩
abbrev cX10_lower : ByteArray := prog_12_method_94_code
def yX10_lower : MethodName := ⟨RX10, "lower", "()J"⟩
abbrev cX10_there : ByteArray := prog_12_method_95_code
def yX10_there : MethodName := ⟨RX10, "there", "(I)I"⟩
abbrev cX10_tells : ByteArray := prog_12_method_96_code
def yX10_tells : MethodName := ⟨RX10, "tells", "(I)I"⟩
abbrev cX10_count : ByteArray := prog_12_method_97_code
def yX10_count : MethodName := ⟨RX10, "count", "(I)I"⟩
abbrev cX10_finding : ByteArray := prog_12_method_98_code
def yX10_finding : MethodName := ⟨RX10, "finding", "()I"⟩
abbrev cX10_findings : ByteArray := prog_12_method_99_code
def yX10_findings : MethodName := ⟨RX10, "findings", "(I)I"⟩
abbrev cX10_mix : ByteArray := prog_12_method_100_code
def yX10_mix : MethodName := ⟨RX10, "mix", "(I)V"⟩
abbrev cX10_mixRiver : ByteArray := prog_12_method_101_code
def yX10_mixRiver : MethodName := ⟨RX10, "mixRiver", "()V"⟩
abbrev cX10_digest : ByteArray := prog_12_method_102_code
def yX10_digest : MethodName := ⟨RX10, "digest", "()J"⟩
def RJ6 : String := "java/lang/Integer"
def TJ6 : u_T := fun k => match k with
  | _ => ("", "", "", false)
def tyJ6 : Nat → FieldType := fun k => match k with
  | _ => .int
abbrev wsJ60 : List Cond := u_ws RJ6 TJ6 0
theorem nmJ6 : ∀ a, a < 0 → ∀ b, b < 0 → a ≠ b → (TJ6 a).2.1 ≠ (TJ6 b).2.1 := by decide +kernel
theorem tyJ6_ok : ∀ k, k < 0 → parseFieldDescriptor (TJ6 k).2.2.1 = some (tyJ6 k) := by decide +kernel
abbrev cJ6_bitCount_0f7a4 : ByteArray := prog_13_method_49_code
def yJ6_bitCount_0f7a4 : MethodName := ⟨RJ6, "bitCount", "(I)I"⟩
def RJ9 : String := "java/lang/Math"
def TJ9 : u_T := fun k => match k with
  | _ => ("", "", "", false)
def tyJ9 : Nat → FieldType := fun k => match k with
  | _ => .int
abbrev wsJ90 : List Cond := u_ws RJ9 TJ9 0
theorem nmJ9 : ∀ a, a < 0 → ∀ b, b < 0 → a ≠ b → (TJ9 a).2.1 ≠ (TJ9 b).2.1 := by decide +kernel
theorem tyJ9_ok : ∀ k, k < 0 → parseFieldDescriptor (TJ9 k).2.2.1 = some (tyJ9 k) := by decide +kernel
abbrev cJ9_floorMod_7cf53 : ByteArray := prog_14_method_50_code
def yJ9_floorMod_7cf53 : MethodName := ⟨RJ9, "floorMod", "(II)I"⟩
abbrev cJ9_max_7cf53 : ByteArray := prog_14_method_65_code
def yJ9_max_7cf53 : MethodName := ⟨RJ9, "max", "(II)I"⟩
abbrev cJ9_min_7cf53 : ByteArray := prog_14_method_69_code
def yJ9_min_7cf53 : MethodName := ⟨RJ9, "min", "(II)I"⟩
def RJ10 : String := "java/lang/System"
def TJ10 : u_T := fun k => match k with
  | _ => ("", "", "", false)
def tyJ10 : Nat → FieldType := fun k => match k with
  | _ => .int
abbrev wsJ100 : List Cond := u_ws RJ10 TJ10 0
theorem nmJ10 : ∀ a, a < 0 → ∀ b, b < 0 → a ≠ b → (TJ10 a).2.1 ≠ (TJ10 b).2.1 := by decide +kernel
theorem tyJ10_ok : ∀ k, k < 0 → parseFieldDescriptor (TJ10 k).2.2.1 = some (tyJ10 k) := by decide +kernel
def RL : String := "RiverDaysLaw"
abbrev cL_law : ByteArray := code
def yL_law : MethodName := ⟨RL, "law", "([I)Z"⟩
end
section
def GW : List Cond := lw_tbl.filter goodWord
/-! words of the tables, by their places -/
theorem gwp (n : Nat) {w : Cond} (h : lw_tbl[n]? = some w) (hg : goodWord w = true) : w ∈ GW := List.mem_filter.mpr ⟨List.mem_of_getElem? h, hg⟩
theorem zf0 {α : Type} {P : α → Prop} : ∀ q ∈ ([] : List α), P q := fun _ h => absurd h List.not_mem_nil
theorem zf1 {α : Type} {P : α → Prop} {a : α} {t : List α} (h : P a) (ht : ∀ q ∈ t, P q) : ∀ q ∈ a :: t, P q := fun q hq => (List.mem_cons.mp hq).elim (fun e => e ▸ h) (ht q)
set_option maxRecDepth 20000 in
theorem uX0 : ∀ w ∈ u_ws RX0 TX0 9, w ∈ GW := fun w hw => by
  obtain ⟨h1, h2⟩ := goodIn_r (big := lw_tbl) (u_ws RX0 TX0 9) [214, 216, 218, 220, 222, 224, 226, 228, 230] (by decide +kernel) (by decide +kernel) w hw
  exact List.mem_filter.mpr ⟨h1, (List.all_eq_true.mp (show (u_ws RX0 TX0 9).all goodWord = true by decide +kernel)) w hw⟩
set_option maxRecDepth 20000 in
theorem uX1 : ∀ w ∈ u_ws RX1 TX1 8, w ∈ GW := fun w hw => by
  obtain ⟨h1, h2⟩ := goodIn_r (big := lw_tbl) (u_ws RX1 TX1 8) [300, 302, 304, 306, 308, 310, 312, 314] (by decide +kernel) (by decide +kernel) w hw
  exact List.mem_filter.mpr ⟨h1, (List.all_eq_true.mp (show (u_ws RX1 TX1 8).all goodWord = true by decide +kernel)) w hw⟩
set_option maxRecDepth 20000 in
theorem uX2 : ∀ w ∈ u_ws RX2 TX2 10, w ∈ GW := fun w hw => by
  obtain ⟨h1, h2⟩ := goodIn_r (big := lw_tbl) (u_ws RX2 TX2 10) [351, 353, 355, 357, 359, 361, 363, 365, 367, 369] (by decide +kernel) (by decide +kernel) w hw
  exact List.mem_filter.mpr ⟨h1, (List.all_eq_true.mp (show (u_ws RX2 TX2 10).all goodWord = true by decide +kernel)) w hw⟩
set_option maxRecDepth 20000 in
theorem uX3 : ∀ w ∈ u_ws RX3 TX3 3, w ∈ GW := fun w hw => by
  obtain ⟨h1, h2⟩ := goodIn_r (big := lw_tbl) (u_ws RX3 TX3 3) [180, 182, 184] (by decide +kernel) (by decide +kernel) w hw
  exact List.mem_filter.mpr ⟨h1, (List.all_eq_true.mp (show (u_ws RX3 TX3 3).all goodWord = true by decide +kernel)) w hw⟩
set_option maxRecDepth 20000 in
theorem uX4 : ∀ w ∈ u_ws RX4 TX4 5, w ∈ GW := fun w hw => by
  obtain ⟨h1, h2⟩ := goodIn_r (big := lw_tbl) (u_ws RX4 TX4 5) [157, 159, 161, 163, 165] (by decide +kernel) (by decide +kernel) w hw
  exact List.mem_filter.mpr ⟨h1, (List.all_eq_true.mp (show (u_ws RX4 TX4 5).all goodWord = true by decide +kernel)) w hw⟩
set_option maxRecDepth 20000 in
theorem uX5 : ∀ w ∈ u_ws RX5 TX5 10, w ∈ GW := fun w hw => by
  obtain ⟨h1, h2⟩ := goodIn_r (big := lw_tbl) (u_ws RX5 TX5 10) [259, 261, 263, 265, 267, 269, 271, 273, 275, 277] (by decide +kernel) (by decide +kernel) w hw
  exact List.mem_filter.mpr ⟨h1, (List.all_eq_true.mp (show (u_ws RX5 TX5 10).all goodWord = true by decide +kernel)) w hw⟩
set_option maxRecDepth 20000 in
theorem uX7 : ∀ w ∈ u_ws RX7 TX7 3, w ∈ GW := fun w hw => by
  obtain ⟨h1, h2⟩ := goodIn_r (big := lw_tbl) (u_ws RX7 TX7 3) [135, 137, 139] (by decide +kernel) (by decide +kernel) w hw
  exact List.mem_filter.mpr ⟨h1, (List.all_eq_true.mp (show (u_ws RX7 TX7 3).all goodWord = true by decide +kernel)) w hw⟩
set_option maxRecDepth 20000 in
theorem uX8 : ∀ w ∈ u_ws RX8 TX8 3, w ∈ GW := fun w hw => by
  obtain ⟨h1, h2⟩ := goodIn_r (big := lw_tbl) (u_ws RX8 TX8 3) [118, 120, 122] (by decide +kernel) (by decide +kernel) w hw
  exact List.mem_filter.mpr ⟨h1, (List.all_eq_true.mp (show (u_ws RX8 TX8 3).all goodWord = true by decide +kernel)) w hw⟩
set_option maxRecDepth 20000 in
theorem uX9 : ∀ w ∈ u_ws RX9 TX9 17, w ∈ GW := fun w hw => by
  obtain ⟨h1, h2⟩ := goodIn_r (big := lw_tbl) (u_ws RX9 TX9 17) [389, 391, 393, 395, 397, 399, 401, 403, 405, 407, 409, 411, 413, 415, 417, 419, 421] (by decide +kernel) (by decide +kernel) w hw
  exact List.mem_filter.mpr ⟨h1, (List.all_eq_true.mp (show (u_ws RX9 TX9 17).all goodWord = true by decide +kernel)) w hw⟩
set_option maxRecDepth 20000 in
theorem uX10 : ∀ w ∈ u_ws RX10 TX10 36, w ∈ GW := fun w hw => by
  obtain ⟨h1, h2⟩ := goodIn_r (big := lw_tbl) (u_ws RX10 TX10 36) [1046, 1048, 1050, 1052, 1054, 1056, 1058, 1060, 1062, 1064, 1066, 1068, 1070, 1072, 1074, 1076, 1078, 1080, 1082, 1084, 1086, 1088, 1090, 1092, 1094, 1096, 1098, 1100, 1102, 1104, 1106, 1108, 1110, 1112, 1114, 1116] (by decide +kernel) (by decide +kernel) w hw
  exact List.mem_filter.mpr ⟨h1, (List.all_eq_true.mp (show (u_ws RX10 TX10 36).all goodWord = true by decide +kernel)) w hw⟩
theorem g0 : Cond.selects RX9 yX9_makeAnew yX9_makeAnew ∈ GW := gwp 0 (by decide +kernel) (by decide +kernel)
theorem g1 : Cond.selects RX9 yX9_find yX9_find ∈ GW := gwp 1 (by decide +kernel) (by decide +kernel)
theorem g2 : Cond.selects RX9 yX9_refusePlace yX9_refusePlace ∈ GW := gwp 2 (by decide +kernel) (by decide +kernel)
theorem g3 : Cond.selects RX9 yX9_refuseMissing yX9_refuseMissing ∈ GW := gwp 3 (by decide +kernel) (by decide +kernel)
theorem g4 : Cond.selects RX9 yX9_tell yX9_tell ∈ GW := gwp 4 (by decide +kernel) (by decide +kernel)
theorem g5 : Cond.selects RX9 yX9_readDraft yX9_readDraft ∈ GW := gwp 5 (by decide +kernel) (by decide +kernel)
theorem g6 : Cond.selects RX7 yX7_takesWeek yX7_takesWeek ∈ GW := gwp 6 (by decide +kernel) (by decide +kernel)
theorem g7 : Cond.selects RX7 yX7_skipBlanks yX7_skipBlanks ∈ GW := gwp 7 (by decide +kernel) (by decide +kernel)
theorem g8 : Cond.selects RX7 yX7_seen yX7_seen ∈ GW := gwp 8 (by decide +kernel) (by decide +kernel)
theorem g9 : Cond.selects RX7 yX7_seesFigure yX7_seesFigure ∈ GW := gwp 9 (by decide +kernel) (by decide +kernel)
theorem g10 : Cond.selects RX7 yX7_onlyBlanksLeft yX7_onlyBlanksLeft ∈ GW := gwp 10 (by decide +kernel) (by decide +kernel)
theorem g11 : Cond.selects RX7 yX7_takesReach yX7_takesReach ∈ GW := gwp 11 (by decide +kernel) (by decide +kernel)
theorem g12 : Cond.selects RX9 yX9_replay yX9_replay ∈ GW := gwp 12 (by decide +kernel) (by decide +kernel)
theorem g13 : Cond.selects RX9 yX9_ofReach yX9_ofReach ∈ GW := gwp 13 (by decide +kernel) (by decide +kernel)
theorem g14 : Cond.selects RX9 yX9_passTruly yX9_passTruly ∈ GW := gwp 14 (by decide +kernel) (by decide +kernel)
theorem g15 : Cond.selects RX0 yX0_pass yX0_pass ∈ GW := gwp 15 (by decide +kernel) (by decide +kernel)
theorem g16 : Cond.selects RX0 yX0_weekdayOf yX0_weekdayOf ∈ GW := gwp 16 (by decide +kernel) (by decide +kernel)
theorem g17 : Cond.selects RX9 yX9_refusePlan yX9_refusePlan ∈ GW := gwp 17 (by decide +kernel) (by decide +kernel)
theorem g18 : Cond.selects RX9 yX9_refuseWithoutRiver yX9_refuseWithoutRiver ∈ GW := gwp 18 (by decide +kernel) (by decide +kernel)
theorem g19 : Cond.selects RX9 yX9_followPlan yX9_followPlan ∈ GW := gwp 19 (by decide +kernel) (by decide +kernel)
theorem g20 : Cond.selects RX9 yX9_refuseSearch yX9_refuseSearch ∈ GW := gwp 20 (by decide +kernel) (by decide +kernel)
theorem g21 : Cond.selects RX5 yX5_goDeeper yX5_goDeeper ∈ GW := gwp 21 (by decide +kernel) (by decide +kernel)
theorem g22 : Cond.selects RX5 yX5_arrive yX5_arrive ∈ GW := gwp 22 (by decide +kernel) (by decide +kernel)
theorem g23 : Cond.selects RX5 yX5_fits yX5_fits ∈ GW := gwp 23 (by decide +kernel) (by decide +kernel)
theorem g24 : Cond.selects RX5 yX5_gain yX5_gain ∈ GW := gwp 24 (by decide +kernel) (by decide +kernel)
theorem g25 : Cond.selects RX9 yX9_groundWithout yX9_groundWithout ∈ GW := gwp 25 (by decide +kernel) (by decide +kernel)
theorem g26 : Cond.selects RX5 yX5_contend yX5_contend ∈ GW := gwp 26 (by decide +kernel) (by decide +kernel)
theorem g27 : Cond.selects RX9 yX9_refuseSeas yX9_refuseSeas ∈ GW := gwp 27 (by decide +kernel) (by decide +kernel)
theorem g28 : Cond.selects RX9 yX9_tellFraction yX9_tellFraction ∈ GW := gwp 28 (by decide +kernel) (by decide +kernel)
theorem g29 : Cond.selects RX9 yX9_refusePairs yX9_refusePairs ∈ GW := gwp 29 (by decide +kernel) (by decide +kernel)
theorem g30 : Cond.selects RX9 yX9_agrees yX9_agrees ∈ GW := gwp 30 (by decide +kernel) (by decide +kernel)
theorem g31 : Cond.selects RX1 yX1_spread yX1_spread ∈ GW := gwp 31 (by decide +kernel) (by decide +kernel)
theorem g32 : Cond.selects RX1 yX1_weightOf yX1_weightOf ∈ GW := gwp 32 (by decide +kernel) (by decide +kernel)
theorem g33 : Cond.selects RX9 yX9_counted yX9_counted ∈ GW := gwp 33 (by decide +kernel) (by decide +kernel)
theorem g34 : Cond.selects RX9 yX9_keptRivers yX9_keptRivers ∈ GW := gwp 34 (by decide +kernel) (by decide +kernel)
theorem g35 : Cond.selects RX10 yX10_meet yX10_meet ∈ GW := gwp 35 (by decide +kernel) (by decide +kernel)
theorem g36 : Cond.selects RX10 yX10_setRow yX10_setRow ∈ GW := gwp 36 (by decide +kernel) (by decide +kernel)
theorem g37 : Cond.selects RX10 yX10_askedRow yX10_askedRow ∈ GW := gwp 37 (by decide +kernel) (by decide +kernel)
theorem g38 : Cond.selects RX10 yX10_rowAt yX10_rowAt ∈ GW := gwp 38 (by decide +kernel) (by decide +kernel)
theorem g39 : Cond.selects RX10 yX10_ask yX10_ask ∈ GW := gwp 39 (by decide +kernel) (by decide +kernel)
theorem g40 : Cond.selects RX10 yX10_askedText yX10_askedText ∈ GW := gwp 40 (by decide +kernel) (by decide +kernel)
theorem g41 : Cond.selects RX10 yX10_goesOn yX10_goesOn ∈ GW := gwp 41 (by decide +kernel) (by decide +kernel)
theorem g42 : Cond.selects RX10 yX10_readsRiver yX10_readsRiver ∈ GW := gwp 42 (by decide +kernel) (by decide +kernel)
theorem g43 : Cond.selects RX10 yX10_readsWeek yX10_readsWeek ∈ GW := gwp 43 (by decide +kernel) (by decide +kernel)
theorem g44 : Cond.selects RX10 yX10_skip yX10_skip ∈ GW := gwp 44 (by decide +kernel) (by decide +kernel)
theorem g45 : Cond.selects RX10 yX10_here yX10_here ∈ GW := gwp 45 (by decide +kernel) (by decide +kernel)
theorem g46 : Cond.selects RX10 yX10_figure yX10_figure ∈ GW := gwp 46 (by decide +kernel) (by decide +kernel)
theorem g47 : Cond.selects RX10 yX10_readsReach yX10_readsReach ∈ GW := gwp 47 (by decide +kernel) (by decide +kernel)
theorem g48 : Cond.selects RX10 yX10_canShut yX10_canShut ∈ GW := gwp 48 (by decide +kernel) (by decide +kernel)
theorem g49 : Cond.selects RX10 yX10_gateSet yX10_gateSet ∈ GW := gwp 49 (by decide +kernel) (by decide +kernel)
theorem g50 : Cond.selects RX10 yX10_dayTruly yX10_dayTruly ∈ GW := gwp 50 (by decide +kernel) (by decide +kernel)
theorem g51 : Cond.selects RX10 yX10_write yX10_write ∈ GW := gwp 51 (by decide +kernel) (by decide +kernel)
theorem g52 : Cond.selects RX10 yX10_pass yX10_pass ∈ GW := gwp 52 (by decide +kernel) (by decide +kernel)
theorem g53 : Cond.selects RX10 yX10_runsFrom yX10_runsFrom ∈ GW := gwp 53 (by decide +kernel) (by decide +kernel)
theorem g54 : Cond.selects RX10 yX10_grindsBy yX10_grindsBy ∈ GW := gwp 54 (by decide +kernel) (by decide +kernel)
theorem g55 : Cond.selects RX10 yX10_read yX10_read ∈ GW := gwp 55 (by decide +kernel) (by decide +kernel)
theorem g56 : Cond.selects RX10 yX10_isReach yX10_isReach ∈ GW := gwp 56 (by decide +kernel) (by decide +kernel)
theorem g57 : Cond.selects RX10 yX10_reachOf yX10_reachOf ∈ GW := gwp 57 (by decide +kernel) (by decide +kernel)
theorem g58 : Cond.selects RX10 yX10_isA yX10_isA ∈ GW := gwp 58 (by decide +kernel) (by decide +kernel)
theorem g59 : Cond.selects RX10 yX10_begin yX10_begin ∈ GW := gwp 59 (by decide +kernel) (by decide +kernel)
theorem g60 : Cond.selects RX10 yX10_back yX10_back ∈ GW := gwp 60 (by decide +kernel) (by decide +kernel)
theorem g61 : Cond.selects RX10 yX10_askedPlan yX10_askedPlan ∈ GW := gwp 61 (by decide +kernel) (by decide +kernel)
theorem g62 : Cond.selects RX10 yX10_groundMany yX10_groundMany ∈ GW := gwp 62 (by decide +kernel) (by decide +kernel)
theorem g63 : Cond.selects RX10 yX10_setSets yX10_setSets ∈ GW := gwp 63 (by decide +kernel) (by decide +kernel)
theorem g64 : Cond.selects RX10 yX10_plans yX10_plans ∈ GW := gwp 64 (by decide +kernel) (by decide +kernel)
theorem g65 : Cond.selects RX10 yX10_setOf yX10_setOf ∈ GW := gwp 65 (by decide +kernel) (by decide +kernel)
theorem g66 : Cond.selects RX10 yX10_layPlan yX10_layPlan ∈ GW := gwp 66 (by decide +kernel) (by decide +kernel)
theorem g67 : Cond.selects RX10 yX10_millSet yX10_millSet ∈ GW := gwp 67 (by decide +kernel) (by decide +kernel)
theorem g68 : Cond.selects RX10 yX10_groundBy yX10_groundBy ∈ GW := gwp 68 (by decide +kernel) (by decide +kernel)
theorem g69 : Cond.selects RX10 yX10_askedSea yX10_askedSea ∈ GW := gwp 69 (by decide +kernel) (by decide +kernel)
theorem g70 : Cond.selects RX10 yX10_comesSo yX10_comesSo ∈ GW := gwp 70 (by decide +kernel) (by decide +kernel)
theorem g71 : Cond.selects RX10 yX10_part yX10_part ∈ GW := gwp 71 (by decide +kernel) (by decide +kernel)
theorem g72 : Cond.selects RX10 yX10_askedBook yX10_askedBook ∈ GW := gwp 72 (by decide +kernel) (by decide +kernel)
theorem g73 : Cond.selects RX10 yX10_isSo yX10_isSo ∈ GW := gwp 73 (by decide +kernel) (by decide +kernel)
theorem g74 : Cond.selects RX10 yX10_sums yX10_sums ∈ GW := gwp 74 (by decide +kernel) (by decide +kernel)
theorem g75 : Cond.selects RX10 yX10_shutMany yX10_shutMany ∈ GW := gwp 75 (by decide +kernel) (by decide +kernel)
theorem g76 : Cond.selects RX10 yX10_tells yX10_tells ∈ GW := gwp 76 (by decide +kernel) (by decide +kernel)
theorem g77 : Cond.selects RX10 yX10_there yX10_there ∈ GW := gwp 77 (by decide +kernel) (by decide +kernel)
theorem g78 : Cond.selects RX10 yX10_mix yX10_mix ∈ GW := gwp 78 (by decide +kernel) (by decide +kernel)
theorem g79 : Cond.selects RX10 yX10_mixRiver yX10_mixRiver ∈ GW := gwp 79 (by decide +kernel) (by decide +kernel)
theorem g81 : Cond.initialized RX9 ∈ GW := gwp 81 (by decide +kernel) (by decide +kernel)
theorem g82 : Cond.initialized RX8 ∈ GW := gwp 82 (by decide +kernel) (by decide +kernel)
theorem g83 : Cond.initialized RJ9 ∈ GW := gwp 83 (by decide +kernel) (by decide +kernel)
theorem g84 : Cond.initialized RX7 ∈ GW := gwp 84 (by decide +kernel) (by decide +kernel)
theorem g85 : Cond.initialized RX4 ∈ GW := gwp 85 (by decide +kernel) (by decide +kernel)
theorem g86 : Cond.initialized RX3 ∈ GW := gwp 86 (by decide +kernel) (by decide +kernel)
theorem g87 : Cond.initialized RX0 ∈ GW := gwp 87 (by decide +kernel) (by decide +kernel)
theorem g88 : Cond.initialized RX5 ∈ GW := gwp 88 (by decide +kernel) (by decide +kernel)
theorem g89 : Cond.initialized RX1 ∈ GW := gwp 89 (by decide +kernel) (by decide +kernel)
theorem g90 : Cond.initialized RX2 ∈ GW := gwp 90 (by decide +kernel) (by decide +kernel)
theorem g91 : Cond.initialized RX10 ∈ GW := gwp 91 (by decide +kernel) (by decide +kernel)
theorem g92 : Cond.initialized "java/lang/System" ∈ GW := gwp 92 (by decide +kernel) (by decide +kernel)
theorem g93 : Cond.initialized RX6 ∈ GW := gwp 93 (by decide +kernel) (by decide +kernel)
theorem g94 : Cond.initialized RJ6 ∈ GW := gwp 94 (by decide +kernel) (by decide +kernel)
theorem g109 : Cond.methodLink RX8 9 yJ9_max_7cf53 ∈ GW := gwp 109 (by decide +kernel) (by decide +kernel)
theorem g110 : Cond.static yJ9_max_7cf53 ∈ GW := gwp 110 (by decide +kernel) (by decide +kernel)
theorem g111 : Cond.code yJ9_max_7cf53 cJ9_max_7cf53 2 (some .int) ∈ GW := gwp 111 (by decide +kernel) (by decide +kernel)
theorem g114 : Cond.fieldLink RX8 15 "RiverDays$Rows" "limit" "I" ∈ GW := gwp 114 (by decide +kernel) (by decide +kernel)
theorem g115 : Cond.fieldLink RX9 350 "RiverDays$Rows" "limit" "I" ∈ GW := gwp 115 (by decide +kernel) (by decide +kernel)
theorem g116 : Cond.fieldLink RX8 23 "RiverDays$Rows" "places" "[[I" ∈ GW := gwp 116 (by decide +kernel) (by decide +kernel)
theorem g117 : Cond.fieldLink RX8 26 "RiverDays$Rows" "sizes" "[I" ∈ GW := gwp 117 (by decide +kernel) (by decide +kernel)
theorem g132 : Cond.fieldLink RX7 9 "RiverDays$Reader" "signs" "[I" ∈ GW := gwp 132 (by decide +kernel) (by decide +kernel)
theorem g133 : Cond.fieldLink RX7 15 "RiverDays$Reader" "size" "I" ∈ GW := gwp 133 (by decide +kernel) (by decide +kernel)
theorem g134 : Cond.fieldLink RX7 19 "RiverDays$Reader" "place" "I" ∈ GW := gwp 134 (by decide +kernel) (by decide +kernel)
theorem g148 : Cond.fieldLink RX4 9 "RiverDays$Flow" "water" "[I" ∈ GW := gwp 148 (by decide +kernel) (by decide +kernel)
theorem g149 : Cond.fieldLink RX9 182 "RiverDays$Flow" "water" "[I" ∈ GW := gwp 149 (by decide +kernel) (by decide +kernel)
theorem g150 : Cond.fieldLink RX4 15 "RiverDays$Flow" "ground" "[I" ∈ GW := gwp 150 (by decide +kernel) (by decide +kernel)
theorem g151 : Cond.fieldLink RX9 395 "RiverDays$Flow" "ground" "[I" ∈ GW := gwp 151 (by decide +kernel) (by decide +kernel)
theorem g152 : Cond.fieldLink RX4 18 "RiverDays$Flow" "ranInAll" "[I" ∈ GW := gwp 152 (by decide +kernel) (by decide +kernel)
theorem g153 : Cond.fieldLink RX9 398 "RiverDays$Flow" "ranInAll" "[I" ∈ GW := gwp 153 (by decide +kernel) (by decide +kernel)
theorem g154 : Cond.fieldLink RX4 21 "RiverDays$Flow" "seaOf" "[I" ∈ GW := gwp 154 (by decide +kernel) (by decide +kernel)
theorem g155 : Cond.fieldLink RX9 201 "RiverDays$Flow" "seaOf" "[I" ∈ GW := gwp 155 (by decide +kernel) (by decide +kernel)
theorem g156 : Cond.fieldLink RX4 24 "RiverDays$Flow" "ran" "[I" ∈ GW := gwp 156 (by decide +kernel) (by decide +kernel)
theorem g174 : Cond.fieldLink RX3 9 "RiverDays$Deeds" "size" "I" ∈ GW := gwp 174 (by decide +kernel) (by decide +kernel)
theorem g175 : Cond.fieldLink RX9 207 "RiverDays$Deeds" "size" "I" ∈ GW := gwp 175 (by decide +kernel) (by decide +kernel)
theorem g176 : Cond.fieldLink RX3 15 "RiverDays$Deeds" "shut" "[I" ∈ GW := gwp 176 (by decide +kernel) (by decide +kernel)
theorem g177 : Cond.fieldLink RX9 376 "RiverDays$Deeds" "shut" "[I" ∈ GW := gwp 177 (by decide +kernel) (by decide +kernel)
theorem g178 : Cond.fieldLink RX3 19 "RiverDays$Deeds" "village" "[I" ∈ GW := gwp 178 (by decide +kernel) (by decide +kernel)
theorem g179 : Cond.fieldLink RX9 379 "RiverDays$Deeds" "village" "[I" ∈ GW := gwp 179 (by decide +kernel) (by decide +kernel)
theorem g195 : Cond.fieldLink RX0 9 "RiverDays$Aside" "dryWeekday" "I" ∈ GW := gwp 195 (by decide +kernel) (by decide +kernel)
theorem g196 : Cond.fieldLink RX9 385 "RiverDays$Aside" "dryWeekday" "I" ∈ GW := gwp 196 (by decide +kernel) (by decide +kernel)
theorem g197 : Cond.fieldLink RX0 15 "RiverDays$Aside" "sea" "I" ∈ GW := gwp 197 (by decide +kernel) (by decide +kernel)
theorem g198 : Cond.fieldLink RX1 87 "RiverDays$Aside" "sea" "I" ∈ GW := gwp 198 (by decide +kernel) (by decide +kernel)
theorem g199 : Cond.fieldLink RX5 93 "RiverDays$Aside" "sea" "I" ∈ GW := gwp 199 (by decide +kernel) (by decide +kernel)
theorem g200 : Cond.fieldLink RX9 229 "RiverDays$Aside" "sea" "I" ∈ GW := gwp 200 (by decide +kernel) (by decide +kernel)
theorem g201 : Cond.fieldLink RX0 18 "RiverDays$Aside" "grinding" "I" ∈ GW := gwp 201 (by decide +kernel) (by decide +kernel)
theorem g202 : Cond.fieldLink RX1 84 "RiverDays$Aside" "grinding" "I" ∈ GW := gwp 202 (by decide +kernel) (by decide +kernel)
theorem g203 : Cond.fieldLink RX5 87 "RiverDays$Aside" "grinding" "I" ∈ GW := gwp 203 (by decide +kernel) (by decide +kernel)
theorem g204 : Cond.fieldLink RX9 226 "RiverDays$Aside" "grinding" "I" ∈ GW := gwp 204 (by decide +kernel) (by decide +kernel)
theorem g205 : Cond.fieldLink RX0 21 "RiverDays$Aside" "seaInAll" "I" ∈ GW := gwp 205 (by decide +kernel) (by decide +kernel)
theorem g206 : Cond.fieldLink RX9 242 "RiverDays$Aside" "seaInAll" "I" ∈ GW := gwp 206 (by decide +kernel) (by decide +kernel)
theorem g207 : Cond.fieldLink RX0 24 "RiverDays$Aside" "groundInAll" "I" ∈ GW := gwp 207 (by decide +kernel) (by decide +kernel)
theorem g208 : Cond.fieldLink RX9 239 "RiverDays$Aside" "groundInAll" "I" ∈ GW := gwp 208 (by decide +kernel) (by decide +kernel)
theorem g209 : Cond.fieldLink RX0 27 "RiverDays$Aside" "seaOf" "[I" ∈ GW := gwp 209 (by decide +kernel) (by decide +kernel)
theorem g210 : Cond.fieldLink RX9 248 "RiverDays$Aside" "seaOf" "[I" ∈ GW := gwp 210 (by decide +kernel) (by decide +kernel)
theorem g211 : Cond.fieldLink RX0 31 "RiverDays$Aside" "today" "I" ∈ GW := gwp 211 (by decide +kernel) (by decide +kernel)
theorem g212 : Cond.fieldLink RX0 36 "RiverDays$Aside" "water" "[[I" ∈ GW := gwp 212 (by decide +kernel) (by decide +kernel)
theorem g213 : Cond.fieldLink RX0 39 "RiverDays$Aside" "ran" "[I" ∈ GW := gwp 213 (by decide +kernel) (by decide +kernel)
theorem g242 : Cond.fieldLink RX5 9 "RiverDays$Hunt" "due" "[I" ∈ GW := gwp 242 (by decide +kernel) (by decide +kernel)
theorem g243 : Cond.fieldLink RX9 283 "RiverDays$Hunt" "due" "[I" ∈ GW := gwp 243 (by decide +kernel) (by decide +kernel)
theorem g244 : Cond.fieldLink RX5 15 "RiverDays$Hunt" "plan" "[I" ∈ GW := gwp 244 (by decide +kernel) (by decide +kernel)
theorem g245 : Cond.fieldLink RX9 256 "RiverDays$Hunt" "plan" "[I" ∈ GW := gwp 245 (by decide +kernel) (by decide +kernel)
theorem g246 : Cond.fieldLink RX5 18 "RiverDays$Hunt" "village" "I" ∈ GW := gwp 246 (by decide +kernel) (by decide +kernel)
theorem g247 : Cond.fieldLink RX9 269 "RiverDays$Hunt" "village" "I" ∈ GW := gwp 247 (by decide +kernel) (by decide +kernel)
theorem g248 : Cond.fieldLink RX5 22 "RiverDays$Hunt" "days" "I" ∈ GW := gwp 248 (by decide +kernel) (by decide +kernel)
theorem g249 : Cond.fieldLink RX9 297 "RiverDays$Hunt" "days" "I" ∈ GW := gwp 249 (by decide +kernel) (by decide +kernel)
theorem g250 : Cond.fieldLink RX5 25 "RiverDays$Hunt" "found" "I" ∈ GW := gwp 250 (by decide +kernel) (by decide +kernel)
theorem g251 : Cond.fieldLink RX9 266 "RiverDays$Hunt" "found" "I" ∈ GW := gwp 251 (by decide +kernel) (by decide +kernel)
theorem g252 : Cond.fieldLink RX5 28 "RiverDays$Hunt" "top" "I" ∈ GW := gwp 252 (by decide +kernel) (by decide +kernel)
theorem g253 : Cond.fieldLink RX9 263 "RiverDays$Hunt" "top" "I" ∈ GW := gwp 253 (by decide +kernel) (by decide +kernel)
theorem g254 : Cond.fieldLink RX5 31 "RiverDays$Hunt" "common" "I" ∈ GW := gwp 254 (by decide +kernel) (by decide +kernel)
theorem g255 : Cond.fieldLink RX9 294 "RiverDays$Hunt" "common" "I" ∈ GW := gwp 255 (by decide +kernel) (by decide +kernel)
theorem g256 : Cond.fieldLink RX5 34 "RiverDays$Hunt" "goal" "I" ∈ GW := gwp 256 (by decide +kernel) (by decide +kernel)
theorem g257 : Cond.fieldLink RX5 37 "RiverDays$Hunt" "tried" "[I" ∈ GW := gwp 257 (by decide +kernel) (by decide +kernel)
theorem g258 : Cond.fieldLink RX5 43 "RiverDays$Hunt" "aside" "LRiverDays$Aside;" ∈ GW := gwp 258 (by decide +kernel) (by decide +kernel)
theorem g288 : Cond.fieldLink RX1 9 "RiverDays$Breaking" "plan" "[I" ∈ GW := gwp 288 (by decide +kernel) (by decide +kernel)
theorem g289 : Cond.fieldLink RX9 314 "RiverDays$Breaking" "plan" "[I" ∈ GW := gwp 289 (by decide +kernel) (by decide +kernel)
theorem g290 : Cond.fieldLink RX1 15 "RiverDays$Breaking" "seaWeighed" "J" ∈ GW := gwp 290 (by decide +kernel) (by decide +kernel)
theorem g291 : Cond.fieldLink RX9 319 "RiverDays$Breaking" "seaWeighed" "J" ∈ GW := gwp 291 (by decide +kernel) (by decide +kernel)
theorem g292 : Cond.fieldLink RX1 19 "RiverDays$Breaking" "reached" "J" ∈ GW := gwp 292 (by decide +kernel) (by decide +kernel)
theorem g293 : Cond.fieldLink RX9 325 "RiverDays$Breaking" "reached" "J" ∈ GW := gwp 293 (by decide +kernel) (by decide +kernel)
theorem g294 : Cond.fieldLink RX1 22 "RiverDays$Breaking" "whole" "J" ∈ GW := gwp 294 (by decide +kernel) (by decide +kernel)
theorem g295 : Cond.fieldLink RX9 322 "RiverDays$Breaking" "whole" "J" ∈ GW := gwp 295 (by decide +kernel) (by decide +kernel)
theorem g296 : Cond.fieldLink RX1 25 "RiverDays$Breaking" "days" "I" ∈ GW := gwp 296 (by decide +kernel) (by decide +kernel)
theorem g297 : Cond.fieldLink RX1 29 "RiverDays$Breaking" "often" "I" ∈ GW := gwp 297 (by decide +kernel) (by decide +kernel)
theorem g298 : Cond.fieldLink RX1 32 "RiverDays$Breaking" "p" "I" ∈ GW := gwp 298 (by decide +kernel) (by decide +kernel)
theorem g299 : Cond.fieldLink RX1 38 "RiverDays$Breaking" "aside" "LRiverDays$Aside;" ∈ GW := gwp 299 (by decide +kernel) (by decide +kernel)
theorem g323 : Cond.fieldLink RX2 9 "RiverDays$Course" "size" "I" ∈ GW := gwp 323 (by decide +kernel) (by decide +kernel)
theorem g324 : Cond.fieldLink RX4 27 "RiverDays$Course" "size" "I" ∈ GW := gwp 324 (by decide +kernel) (by decide +kernel)
theorem g325 : Cond.fieldLink RX9 161 "RiverDays$Course" "size" "I" ∈ GW := gwp 325 (by decide +kernel) (by decide +kernel)
theorem g326 : Cond.fieldLink RX2 15 "RiverDays$Course" "gateBits" "I" ∈ GW := gwp 326 (by decide +kernel) (by decide +kernel)
theorem g327 : Cond.fieldLink RX9 215 "RiverDays$Course" "gateBits" "I" ∈ GW := gwp 327 (by decide +kernel) (by decide +kernel)
theorem g328 : Cond.fieldLink RX2 18 "RiverDays$Course" "millBits" "I" ∈ GW := gwp 328 (by decide +kernel) (by decide +kernel)
theorem g329 : Cond.fieldLink RX5 90 "RiverDays$Course" "millBits" "I" ∈ GW := gwp 329 (by decide +kernel) (by decide +kernel)
theorem g330 : Cond.fieldLink RX9 410 "RiverDays$Course" "millBits" "I" ∈ GW := gwp 330 (by decide +kernel) (by decide +kernel)
theorem g331 : Cond.fieldLink RX2 21 "RiverDays$Course" "setCount" "I" ∈ GW := gwp 331 (by decide +kernel) (by decide +kernel)
theorem g332 : Cond.fieldLink RX5 68 "RiverDays$Course" "setCount" "I" ∈ GW := gwp 332 (by decide +kernel) (by decide +kernel)
theorem g333 : Cond.fieldLink RX1 69 "RiverDays$Course" "setCount" "I" ∈ GW := gwp 333 (by decide +kernel) (by decide +kernel)
theorem g334 : Cond.fieldLink RX2 24 "RiverDays$Course" "kind" "[I" ∈ GW := gwp 334 (by decide +kernel) (by decide +kernel)
theorem g335 : Cond.fieldLink RX9 172 "RiverDays$Course" "kind" "[I" ∈ GW := gwp 335 (by decide +kernel) (by decide +kernel)
theorem g336 : Cond.fieldLink RX2 28 "RiverDays$Course" "measure" "[I" ∈ GW := gwp 336 (by decide +kernel) (by decide +kernel)
theorem g337 : Cond.fieldLink RX9 179 "RiverDays$Course" "measure" "[I" ∈ GW := gwp 337 (by decide +kernel) (by decide +kernel)
theorem g338 : Cond.fieldLink RX2 31 "RiverDays$Course" "spring" "[I" ∈ GW := gwp 338 (by decide +kernel) (by decide +kernel)
theorem g339 : Cond.fieldLink RX4 33 "RiverDays$Course" "spring" "[I" ∈ GW := gwp 339 (by decide +kernel) (by decide +kernel)
theorem g341 : Cond.fieldLink RX7 43 "RiverDays$Course" "rain" "[I" ∈ GW := gwp 341 (by decide +kernel) (by decide +kernel)
theorem g342 : Cond.fieldLink RX0 94 "RiverDays$Course" "rain" "[I" ∈ GW := gwp 342 (by decide +kernel) (by decide +kernel)
theorem g343 : Cond.fieldLink RX9 192 "RiverDays$Course" "rain" "[I" ∈ GW := gwp 343 (by decide +kernel) (by decide +kernel)
theorem g345 : Cond.fieldLink RX7 50 "RiverDays$Course" "owner" "[I" ∈ GW := gwp 345 (by decide +kernel) (by decide +kernel)
theorem g346 : Cond.fieldLink RX0 72 "RiverDays$Course" "owner" "[I" ∈ GW := gwp 346 (by decide +kernel) (by decide +kernel)
theorem g347 : Cond.fieldLink RX9 195 "RiverDays$Course" "owner" "[I" ∈ GW := gwp 347 (by decide +kernel) (by decide +kernel)
theorem g348 : Cond.fieldLink RX2 40 "RiverDays$Course" "sets" "[I" ∈ GW := gwp 348 (by decide +kernel) (by decide +kernel)
theorem g349 : Cond.fieldLink RX5 73 "RiverDays$Course" "sets" "[I" ∈ GW := gwp 349 (by decide +kernel) (by decide +kernel)
theorem g350 : Cond.fieldLink RX1 74 "RiverDays$Course" "sets" "[I" ∈ GW := gwp 350 (by decide +kernel) (by decide +kernel)
theorem g372 : Cond.fieldLink RX9 14 "RiverDays" "rows" "LRiverDays$Rows;" ∈ GW := gwp 372 (by decide +kernel) (by decide +kernel)
theorem g373 : Cond.fieldLink RX9 18 "RiverDays" "texts" "LRiverDays$Rows;" ∈ GW := gwp 373 (by decide +kernel) (by decide +kernel)
theorem g374 : Cond.fieldLink RX9 24 "RiverDays" "reader" "LRiverDays$Reader;" ∈ GW := gwp 374 (by decide +kernel) (by decide +kernel)
theorem g375 : Cond.fieldLink RX9 31 "RiverDays" "flow" "LRiverDays$Flow;" ∈ GW := gwp 375 (by decide +kernel) (by decide +kernel)
theorem g376 : Cond.fieldLink RX9 38 "RiverDays" "deeds" "LRiverDays$Deeds;" ∈ GW := gwp 376 (by decide +kernel) (by decide +kernel)
theorem g377 : Cond.fieldLink RX9 42 "RiverDays" "kept" "[LRiverDays$Deeds;" ∈ GW := gwp 377 (by decide +kernel) (by decide +kernel)
theorem g378 : Cond.fieldLink RX9 46 "RiverDays" "isKept" "[Z" ∈ GW := gwp 378 (by decide +kernel) (by decide +kernel)
theorem g379 : Cond.fieldLink RX9 53 "RiverDays" "aside" "LRiverDays$Aside;" ∈ GW := gwp 379 (by decide +kernel) (by decide +kernel)
theorem g380 : Cond.fieldLink RX9 60 "RiverDays" "hunt" "LRiverDays$Hunt;" ∈ GW := gwp 380 (by decide +kernel) (by decide +kernel)
theorem g381 : Cond.fieldLink RX9 67 "RiverDays" "breaking" "LRiverDays$Breaking;" ∈ GW := gwp 381 (by decide +kernel) (by decide +kernel)
theorem g382 : Cond.fieldLink RX9 71 "RiverDays" "answered" "[I" ∈ GW := gwp 382 (by decide +kernel) (by decide +kernel)
theorem g383 : Cond.fieldLink RX9 78 "RiverDays" "course" "LRiverDays$Course;" ∈ GW := gwp 383 (by decide +kernel) (by decide +kernel)
theorem g384 : Cond.fieldLink RX9 82 "RiverDays" "draft" "LRiverDays$Course;" ∈ GW := gwp 384 (by decide +kernel) (by decide +kernel)
theorem g385 : Cond.fieldLink RX9 85 "RiverDays" "latestFinding" "I" ∈ GW := gwp 385 (by decide +kernel) (by decide +kernel)
theorem g386 : Cond.fieldLink RX9 89 "RiverDays" "toldInt" "I" ∈ GW := gwp 386 (by decide +kernel) (by decide +kernel)
theorem g387 : Cond.fieldLink RX9 92 "RiverDays" "toldUpper" "J" ∈ GW := gwp 387 (by decide +kernel) (by decide +kernel)
theorem g388 : Cond.fieldLink RX9 96 "RiverDays" "toldLower" "J" ∈ GW := gwp 388 (by decide +kernel) (by decide +kernel)
theorem g427 : Cond.code yX9_row cX9_row 3 (some .int) ∈ GW := gwp 427 (by decide +kernel) (by decide +kernel)
theorem g428 : Cond.methodLink RX9 99 yX9_makeAnew ∈ GW := gwp 428 (by decide +kernel) (by decide +kernel)
theorem g430 : Cond.instanceMethod yX9_makeAnew ∈ GW := gwp 430 (by decide +kernel) (by decide +kernel)
theorem g431 : Cond.code yX9_makeAnew cX9_makeAnew 5 (some .int) ∈ GW := gwp 431 (by decide +kernel) (by decide +kernel)
theorem g432 : Cond.methodLink RX9 127 yX8_isOne ∈ GW := gwp 432 (by decide +kernel) (by decide +kernel)
theorem g433 : Cond.instanceMethod yX8_isOne ∈ GW := gwp 433 (by decide +kernel) (by decide +kernel)
theorem g434 : Cond.selects RX8 yX8_isOne yX8_isOne ∈ GW := gwp 434 (by decide +kernel) (by decide +kernel)
theorem g435 : Cond.code yX8_isOne cX8_isOne 2 (some .boolean) ∈ GW := gwp 435 (by decide +kernel) (by decide +kernel)
theorem g436 : Cond.methodLink RX9 131 yX9_find ∈ GW := gwp 436 (by decide +kernel) (by decide +kernel)
theorem g438 : Cond.instanceMethod yX9_find ∈ GW := gwp 438 (by decide +kernel) (by decide +kernel)
theorem g439 : Cond.code yX9_find cX9_find 2 (some .int) ∈ GW := gwp 439 (by decide +kernel) (by decide +kernel)
theorem g440 : Cond.methodLink RX9 353 yX8_make ∈ GW := gwp 440 (by decide +kernel) (by decide +kernel)
theorem g441 : Cond.instanceMethod yX8_make ∈ GW := gwp 441 (by decide +kernel) (by decide +kernel)
theorem g442 : Cond.selects RX8 yX8_make yX8_make ∈ GW := gwp 442 (by decide +kernel) (by decide +kernel)
theorem g443 : Cond.code yX8_make cX8_make 5 none ∈ GW := gwp 443 (by decide +kernel) (by decide +kernel)
theorem g444 : Cond.methodLink RX8 30 yX8_isOne ∈ GW := gwp 444 (by decide +kernel) (by decide +kernel)
theorem g448 : Cond.code yX9_lay cX9_lay 6 (some .int) ∈ GW := gwp 448 (by decide +kernel) (by decide +kernel)
theorem g449 : Cond.methodLink RX9 103 yX9_refusePlace ∈ GW := gwp 449 (by decide +kernel) (by decide +kernel)
theorem g451 : Cond.instanceMethod yX9_refusePlace ∈ GW := gwp 451 (by decide +kernel) (by decide +kernel)
theorem g452 : Cond.code yX9_refusePlace cX9_refusePlace 5 (some .int) ∈ GW := gwp 452 (by decide +kernel) (by decide +kernel)
theorem g453 : Cond.methodLink RX9 119 yX9_refuseMissing ∈ GW := gwp 453 (by decide +kernel) (by decide +kernel)
theorem g455 : Cond.instanceMethod yX9_refuseMissing ∈ GW := gwp 455 (by decide +kernel) (by decide +kernel)
theorem g456 : Cond.code yX9_refuseMissing cX9_refuseMissing 3 (some .int) ∈ GW := gwp 456 (by decide +kernel) (by decide +kernel)
theorem g457 : Cond.methodLink RX9 134 yX8_isThere ∈ GW := gwp 457 (by decide +kernel) (by decide +kernel)
theorem g458 : Cond.instanceMethod yX8_isThere ∈ GW := gwp 458 (by decide +kernel) (by decide +kernel)
theorem g459 : Cond.selects RX8 yX8_isThere yX8_isThere ∈ GW := gwp 459 (by decide +kernel) (by decide +kernel)
theorem g460 : Cond.code yX8_isThere cX8_isThere 2 (some .boolean) ∈ GW := gwp 460 (by decide +kernel) (by decide +kernel)
theorem g461 : Cond.methodLink RX9 356 yX8_holds ∈ GW := gwp 461 (by decide +kernel) (by decide +kernel)
theorem g462 : Cond.instanceMethod yX8_holds ∈ GW := gwp 462 (by decide +kernel) (by decide +kernel)
theorem g463 : Cond.selects RX8 yX8_holds yX8_holds ∈ GW := gwp 463 (by decide +kernel) (by decide +kernel)
theorem g464 : Cond.code yX8_holds cX8_holds 3 (some .boolean) ∈ GW := gwp 464 (by decide +kernel) (by decide +kernel)
theorem g465 : Cond.methodLink RX9 107 yX8_valueAt ∈ GW := gwp 465 (by decide +kernel) (by decide +kernel)
theorem g466 : Cond.instanceMethod yX8_valueAt ∈ GW := gwp 466 (by decide +kernel) (by decide +kernel)
theorem g467 : Cond.selects RX8 yX8_valueAt yX8_valueAt ∈ GW := gwp 467 (by decide +kernel) (by decide +kernel)
theorem g468 : Cond.code yX8_valueAt cX8_valueAt 3 (some .int) ∈ GW := gwp 468 (by decide +kernel) (by decide +kernel)
theorem g469 : Cond.methodLink RX8 34 yX8_holds ∈ GW := gwp 469 (by decide +kernel) (by decide +kernel)
theorem g470 : Cond.methodLink RX9 111 yX8_change ∈ GW := gwp 470 (by decide +kernel) (by decide +kernel)
theorem g471 : Cond.instanceMethod yX8_change ∈ GW := gwp 471 (by decide +kernel) (by decide +kernel)
theorem g472 : Cond.selects RX8 yX8_change yX8_change ∈ GW := gwp 472 (by decide +kernel) (by decide +kernel)
theorem g473 : Cond.code yX8_change cX8_change 4 none ∈ GW := gwp 473 (by decide +kernel) (by decide +kernel)
theorem g474 : Cond.methodLink RX9 115 yX9_tell ∈ GW := gwp 474 (by decide +kernel) (by decide +kernel)
theorem g476 : Cond.instanceMethod yX9_tell ∈ GW := gwp 476 (by decide +kernel) (by decide +kernel)
theorem g477 : Cond.code yX9_tell cX9_tell 2 (some .int) ∈ GW := gwp 477 (by decide +kernel) (by decide +kernel)
theorem g481 : Cond.code yX9_at cX9_at 4 (some .int) ∈ GW := gwp 481 (by decide +kernel) (by decide +kernel)
theorem g485 : Cond.code yX9_tear cX9_tear 3 (some .int) ∈ GW := gwp 485 (by decide +kernel) (by decide +kernel)
theorem g486 : Cond.methodLink RX9 123 yX8_drop ∈ GW := gwp 486 (by decide +kernel) (by decide +kernel)
theorem g487 : Cond.instanceMethod yX8_drop ∈ GW := gwp 487 (by decide +kernel) (by decide +kernel)
theorem g488 : Cond.selects RX8 yX8_drop yX8_drop ∈ GW := gwp 488 (by decide +kernel) (by decide +kernel)
theorem g489 : Cond.code yX8_drop cX8_drop 2 none ∈ GW := gwp 489 (by decide +kernel) (by decide +kernel)
theorem g493 : Cond.code yX9_copy cX9_copy 6 (some .int) ∈ GW := gwp 493 (by decide +kernel) (by decide +kernel)
theorem g494 : Cond.methodLink RX9 137 yX8_holdsRun ∈ GW := gwp 494 (by decide +kernel) (by decide +kernel)
theorem g495 : Cond.instanceMethod yX8_holdsRun ∈ GW := gwp 495 (by decide +kernel) (by decide +kernel)
theorem g496 : Cond.selects RX8 yX8_holdsRun yX8_holdsRun ∈ GW := gwp 496 (by decide +kernel) (by decide +kernel)
theorem g497 : Cond.code yX8_holdsRun cX8_holdsRun 4 (some .boolean) ∈ GW := gwp 497 (by decide +kernel) (by decide +kernel)
theorem g498 : Cond.methodLink RX9 141 yX8_transfer ∈ GW := gwp 498 (by decide +kernel) (by decide +kernel)
theorem g499 : Cond.instanceMethod yX8_transfer ∈ GW := gwp 499 (by decide +kernel) (by decide +kernel)
theorem g500 : Cond.selects RX8 yX8_transfer yX8_transfer ∈ GW := gwp 500 (by decide +kernel) (by decide +kernel)
theorem g501 : Cond.code yX8_transfer cX8_transfer 6 none ∈ GW := gwp 501 (by decide +kernel) (by decide +kernel)
theorem g502 : Cond.methodLink RX8 49 yX8_holdsRun ∈ GW := gwp 502 (by decide +kernel) (by decide +kernel)
theorem g503 : Cond.methodLink RX8 53 arraycopyName ∈ GW := gwp 503 (by decide +kernel) (by decide +kernel)
theorem g504 : Cond.static arraycopyName ∈ GW := gwp 504 (by decide +kernel) (by decide +kernel)
theorem g505 : Cond.native arraycopyName ∈ GW := gwp 505 (by decide +kernel) (by decide +kernel)
theorem g509 : Cond.code yX9_mean cX9_mean 4 (some .int) ∈ GW := gwp 509 (by decide +kernel) (by decide +kernel)
theorem g510 : Cond.methodLink RX9 145 yX8_sizeOf ∈ GW := gwp 510 (by decide +kernel) (by decide +kernel)
theorem g511 : Cond.instanceMethod yX8_sizeOf ∈ GW := gwp 511 (by decide +kernel) (by decide +kernel)
theorem g512 : Cond.selects RX8 yX8_sizeOf yX8_sizeOf ∈ GW := gwp 512 (by decide +kernel) (by decide +kernel)
theorem g513 : Cond.code yX8_sizeOf cX8_sizeOf 2 (some .int) ∈ GW := gwp 513 (by decide +kernel) (by decide +kernel)
theorem g514 : Cond.methodLink RX9 148 yX8_sumOf ∈ GW := gwp 514 (by decide +kernel) (by decide +kernel)
theorem g515 : Cond.instanceMethod yX8_sumOf ∈ GW := gwp 515 (by decide +kernel) (by decide +kernel)
theorem g516 : Cond.selects RX8 yX8_sumOf yX8_sumOf ∈ GW := gwp 516 (by decide +kernel) (by decide +kernel)
theorem g517 : Cond.code yX8_sumOf cX8_sumOf 5 (some .long) ∈ GW := gwp 517 (by decide +kernel) (by decide +kernel)
theorem g518 : Cond.methodLink RX8 45 yX8_sizeOf ∈ GW := gwp 518 (by decide +kernel) (by decide +kernel)
theorem g522 : Cond.code yX9_text cX9_text 3 (some .int) ∈ GW := gwp 522 (by decide +kernel) (by decide +kernel)
theorem g526 : Cond.code yX9_put cX9_put 6 (some .int) ∈ GW := gwp 526 (by decide +kernel) (by decide +kernel)
theorem g530 : Cond.code yX9_fault cX9_fault 3 (some .int) ∈ GW := gwp 530 (by decide +kernel) (by decide +kernel)
theorem g531 : Cond.methodLink RX9 152 yX9_readDraft ∈ GW := gwp 531 (by decide +kernel) (by decide +kernel)
theorem g533 : Cond.instanceMethod yX9_readDraft ∈ GW := gwp 533 (by decide +kernel) (by decide +kernel)
theorem g534 : Cond.code yX9_readDraft cX9_readDraft 2 (some .int) ∈ GW := gwp 534 (by decide +kernel) (by decide +kernel)
theorem g535 : Cond.methodLink RX9 381 yX7_read ∈ GW := gwp 535 (by decide +kernel) (by decide +kernel)
theorem g536 : Cond.instanceMethod yX7_read ∈ GW := gwp 536 (by decide +kernel) (by decide +kernel)
theorem g537 : Cond.selects RX7 yX7_read yX7_read ∈ GW := gwp 537 (by decide +kernel) (by decide +kernel)
theorem g538 : Cond.code yX7_read cX7_read 6 (some .int) ∈ GW := gwp 538 (by decide +kernel) (by decide +kernel)
theorem g539 : Cond.methodLink RX7 22 yX8_giveTo ∈ GW := gwp 539 (by decide +kernel) (by decide +kernel)
theorem g540 : Cond.instanceMethod yX8_giveTo ∈ GW := gwp 540 (by decide +kernel) (by decide +kernel)
theorem g541 : Cond.selects RX8 yX8_giveTo yX8_giveTo ∈ GW := gwp 541 (by decide +kernel) (by decide +kernel)
theorem g542 : Cond.code yX8_giveTo cX8_giveTo 4 none ∈ GW := gwp 542 (by decide +kernel) (by decide +kernel)
theorem g543 : Cond.methodLink RX7 28 yX8_sizeOf ∈ GW := gwp 543 (by decide +kernel) (by decide +kernel)
theorem g544 : Cond.methodLink RX7 32 yJ9_min_7cf53 ∈ GW := gwp 544 (by decide +kernel) (by decide +kernel)
theorem g545 : Cond.static yJ9_min_7cf53 ∈ GW := gwp 545 (by decide +kernel) (by decide +kernel)
theorem g546 : Cond.code yJ9_min_7cf53 cJ9_min_7cf53 2 (some .int) ∈ GW := gwp 546 (by decide +kernel) (by decide +kernel)
theorem g547 : Cond.methodLink RX7 38 yX2_clear ∈ GW := gwp 547 (by decide +kernel) (by decide +kernel)
theorem g548 : Cond.instanceMethod yX2_clear ∈ GW := gwp 548 (by decide +kernel) (by decide +kernel)
theorem g549 : Cond.selects RX2 yX2_clear yX2_clear ∈ GW := gwp 549 (by decide +kernel) (by decide +kernel)
theorem g550 : Cond.code yX2_clear cX2_clear 1 none ∈ GW := gwp 550 (by decide +kernel) (by decide +kernel)
theorem g551 : Cond.methodLink RX7 46 yX7_takesWeek ∈ GW := gwp 551 (by decide +kernel) (by decide +kernel)
theorem g553 : Cond.instanceMethod yX7_takesWeek ∈ GW := gwp 553 (by decide +kernel) (by decide +kernel)
theorem g554 : Cond.code yX7_takesWeek cX7_takesWeek 5 (some .boolean) ∈ GW := gwp 554 (by decide +kernel) (by decide +kernel)
theorem g555 : Cond.methodLink RX7 57 yX7_skipBlanks ∈ GW := gwp 555 (by decide +kernel) (by decide +kernel)
theorem g557 : Cond.instanceMethod yX7_skipBlanks ∈ GW := gwp 557 (by decide +kernel) (by decide +kernel)
theorem g558 : Cond.code yX7_skipBlanks cX7_skipBlanks 2 none ∈ GW := gwp 558 (by decide +kernel) (by decide +kernel)
theorem g559 : Cond.methodLink RX7 67 yX7_seen ∈ GW := gwp 559 (by decide +kernel) (by decide +kernel)
theorem g561 : Cond.instanceMethod yX7_seen ∈ GW := gwp 561 (by decide +kernel) (by decide +kernel)
theorem g562 : Cond.code yX7_seen cX7_seen 1 (some .int) ∈ GW := gwp 562 (by decide +kernel) (by decide +kernel)
theorem g563 : Cond.methodLink RX7 71 yX7_seesFigure ∈ GW := gwp 563 (by decide +kernel) (by decide +kernel)
theorem g565 : Cond.instanceMethod yX7_seesFigure ∈ GW := gwp 565 (by decide +kernel) (by decide +kernel)
theorem g566 : Cond.code yX7_seesFigure cX7_seesFigure 3 (some .boolean) ∈ GW := gwp 566 (by decide +kernel) (by decide +kernel)
theorem g567 : Cond.methodLink RX7 53 yX7_onlyBlanksLeft ∈ GW := gwp 567 (by decide +kernel) (by decide +kernel)
theorem g569 : Cond.instanceMethod yX7_onlyBlanksLeft ∈ GW := gwp 569 (by decide +kernel) (by decide +kernel)
theorem g570 : Cond.code yX7_onlyBlanksLeft cX7_onlyBlanksLeft 1 (some .boolean) ∈ GW := gwp 570 (by decide +kernel) (by decide +kernel)
theorem g571 : Cond.methodLink RX7 60 yX7_takesReach ∈ GW := gwp 571 (by decide +kernel) (by decide +kernel)
theorem g573 : Cond.instanceMethod yX7_takesReach ∈ GW := gwp 573 (by decide +kernel) (by decide +kernel)
theorem g574 : Cond.code yX7_takesReach cX7_takesReach 4 (some .boolean) ∈ GW := gwp 574 (by decide +kernel) (by decide +kernel)
theorem g575 : Cond.methodLink RX7 75 yX6_byLetter ∈ GW := gwp 575 (by decide +kernel) (by decide +kernel)
theorem g576 : Cond.static yX6_byLetter ∈ GW := gwp 576 (by decide +kernel) (by decide +kernel)
theorem g577 : Cond.code yX6_byLetter cX6_byLetter 1 (some .int) ∈ GW := gwp 577 (by decide +kernel) (by decide +kernel)
theorem g578 : Cond.methodLink RX7 80 yX2_hasRoomFor ∈ GW := gwp 578 (by decide +kernel) (by decide +kernel)
theorem g579 : Cond.instanceMethod yX2_hasRoomFor ∈ GW := gwp 579 (by decide +kernel) (by decide +kernel)
theorem g580 : Cond.selects RX2 yX2_hasRoomFor yX2_hasRoomFor ∈ GW := gwp 580 (by decide +kernel) (by decide +kernel)
theorem g581 : Cond.code yX2_hasRoomFor cX2_hasRoomFor 3 (some .boolean) ∈ GW := gwp 581 (by decide +kernel) (by decide +kernel)
theorem g582 : Cond.methodLink RX2 45 yX6_isOf ∈ GW := gwp 582 (by decide +kernel) (by decide +kernel)
theorem g583 : Cond.static yX6_isOf ∈ GW := gwp 583 (by decide +kernel) (by decide +kernel)
theorem g584 : Cond.code yX6_isOf cX6_isOf 2 (some .boolean) ∈ GW := gwp 584 (by decide +kernel) (by decide +kernel)
theorem g585 : Cond.methodLink RX2 49 yJ6_bitCount_0f7a4 ∈ GW := gwp 585 (by decide +kernel) (by decide +kernel)
theorem g586 : Cond.static yJ6_bitCount_0f7a4 ∈ GW := gwp 586 (by decide +kernel) (by decide +kernel)
theorem g587 : Cond.code yJ6_bitCount_0f7a4 cJ6_bitCount_0f7a4 1 (some .int) ∈ GW := gwp 587 (by decide +kernel) (by decide +kernel)
theorem g588 : Cond.constant RJ6 265 (1431655765) ∈ GW := gwp 588 (by decide +kernel) (by decide +kernel)
theorem g589 : Cond.constant RJ6 266 (858993459) ∈ GW := gwp 589 (by decide +kernel) (by decide +kernel)
theorem g590 : Cond.constant RJ6 267 (252645135) ∈ GW := gwp 590 (by decide +kernel) (by decide +kernel)
theorem g591 : Cond.methodLink RX7 84 yX2_add ∈ GW := gwp 591 (by decide +kernel) (by decide +kernel)
theorem g592 : Cond.instanceMethod yX2_add ∈ GW := gwp 592 (by decide +kernel) (by decide +kernel)
theorem g593 : Cond.selects RX2 yX2_add yX2_add ∈ GW := gwp 593 (by decide +kernel) (by decide +kernel)
theorem g594 : Cond.code yX2_add cX2_add 4 none ∈ GW := gwp 594 (by decide +kernel) (by decide +kernel)
theorem g595 : Cond.methodLink RX2 55 yX2_hasRoomFor ∈ GW := gwp 595 (by decide +kernel) (by decide +kernel)
theorem g596 : Cond.methodLink RX7 64 yX2_listSets ∈ GW := gwp 596 (by decide +kernel) (by decide +kernel)
theorem g597 : Cond.instanceMethod yX2_listSets ∈ GW := gwp 597 (by decide +kernel) (by decide +kernel)
theorem g598 : Cond.selects RX2 yX2_listSets yX2_listSets ∈ GW := gwp 598 (by decide +kernel) (by decide +kernel)
theorem g599 : Cond.code yX2_listSets cX2_listSets 2 none ∈ GW := gwp 599 (by decide +kernel) (by decide +kernel)
theorem g600 : Cond.methodLink RX2 59 yX2_canShut ∈ GW := gwp 600 (by decide +kernel) (by decide +kernel)
theorem g601 : Cond.instanceMethod yX2_canShut ∈ GW := gwp 601 (by decide +kernel) (by decide +kernel)
theorem g602 : Cond.selects RX2 yX2_canShut yX2_canShut ∈ GW := gwp 602 (by decide +kernel) (by decide +kernel)
theorem g603 : Cond.code yX2_canShut cX2_canShut 2 (some .boolean) ∈ GW := gwp 603 (by decide +kernel) (by decide +kernel)
theorem g607 : Cond.code yX9_river cX9_river 5 (some .int) ∈ GW := gwp 607 (by decide +kernel) (by decide +kernel)
theorem g608 : Cond.methodLink RX9 155 yX3_cutTo ∈ GW := gwp 608 (by decide +kernel) (by decide +kernel)
theorem g609 : Cond.instanceMethod yX3_cutTo ∈ GW := gwp 609 (by decide +kernel) (by decide +kernel)
theorem g610 : Cond.selects RX3 yX3_cutTo yX3_cutTo ∈ GW := gwp 610 (by decide +kernel) (by decide +kernel)
theorem g611 : Cond.code yX3_cutTo cX3_cutTo 2 none ∈ GW := gwp 611 (by decide +kernel) (by decide +kernel)
theorem g612 : Cond.methodLink RX3 22 yJ9_min_7cf53 ∈ GW := gwp 612 (by decide +kernel) (by decide +kernel)
theorem g613 : Cond.methodLink RX3 28 yJ9_max_7cf53 ∈ GW := gwp 613 (by decide +kernel) (by decide +kernel)
theorem g614 : Cond.methodLink RX9 158 yX9_replay ∈ GW := gwp 614 (by decide +kernel) (by decide +kernel)
theorem g616 : Cond.instanceMethod yX9_replay ∈ GW := gwp 616 (by decide +kernel) (by decide +kernel)
theorem g617 : Cond.code yX9_replay cX9_replay 2 none ∈ GW := gwp 617 (by decide +kernel) (by decide +kernel)
theorem g618 : Cond.methodLink RX9 372 yX4_start ∈ GW := gwp 618 (by decide +kernel) (by decide +kernel)
theorem g619 : Cond.instanceMethod yX4_start ∈ GW := gwp 619 (by decide +kernel) (by decide +kernel)
theorem g620 : Cond.selects RX4 yX4_start yX4_start ∈ GW := gwp 620 (by decide +kernel) (by decide +kernel)
theorem g621 : Cond.code yX4_start cX4_start 3 none ∈ GW := gwp 621 (by decide +kernel) (by decide +kernel)
theorem g622 : Cond.methodLink RX9 368 yX4_pass ∈ GW := gwp 622 (by decide +kernel) (by decide +kernel)
theorem g623 : Cond.instanceMethod yX4_pass ∈ GW := gwp 623 (by decide +kernel) (by decide +kernel)
theorem g624 : Cond.selects RX4 yX4_pass yX4_pass ∈ GW := gwp 624 (by decide +kernel) (by decide +kernel)
theorem g625 : Cond.code yX4_pass cX4_pass 7 (some .int) ∈ GW := gwp 625 (by decide +kernel) (by decide +kernel)
theorem g626 : Cond.methodLink RX4 36 yX2_letRun ∈ GW := gwp 626 (by decide +kernel) (by decide +kernel)
theorem g627 : Cond.instanceMethod yX2_letRun ∈ GW := gwp 627 (by decide +kernel) (by decide +kernel)
theorem g628 : Cond.selects RX2 yX2_letRun yX2_letRun ∈ GW := gwp 628 (by decide +kernel) (by decide +kernel)
theorem g629 : Cond.code yX2_letRun cX2_letRun 5 none ∈ GW := gwp 629 (by decide +kernel) (by decide +kernel)
theorem g630 : Cond.methodLink RX2 62 yX6_runFrom ∈ GW := gwp 630 (by decide +kernel) (by decide +kernel)
theorem g631 : Cond.static yX6_runFrom ∈ GW := gwp 631 (by decide +kernel) (by decide +kernel)
theorem g632 : Cond.code yX6_runFrom cX6_runFrom 4 (some .int) ∈ GW := gwp 632 (by decide +kernel) (by decide +kernel)
theorem g633 : Cond.methodLink RX4 40 yX2_takeIn ∈ GW := gwp 633 (by decide +kernel) (by decide +kernel)
theorem g634 : Cond.instanceMethod yX2_takeIn ∈ GW := gwp 634 (by decide +kernel) (by decide +kernel)
theorem g635 : Cond.selects RX2 yX2_takeIn yX2_takeIn ∈ GW := gwp 635 (by decide +kernel) (by decide +kernel)
theorem g636 : Cond.code yX2_takeIn cX2_takeIn 6 none ∈ GW := gwp 636 (by decide +kernel) (by decide +kernel)
theorem g637 : Cond.methodLink RX2 66 yX6_settle ∈ GW := gwp 637 (by decide +kernel) (by decide +kernel)
theorem g638 : Cond.static yX6_settle ∈ GW := gwp 638 (by decide +kernel) (by decide +kernel)
theorem g639 : Cond.code yX6_settle cX6_settle 3 (some .int) ∈ GW := gwp 639 (by decide +kernel) (by decide +kernel)
theorem g640 : Cond.methodLink RX4 43 yX2_grindingBy ∈ GW := gwp 640 (by decide +kernel) (by decide +kernel)
theorem g641 : Cond.instanceMethod yX2_grindingBy ∈ GW := gwp 641 (by decide +kernel) (by decide +kernel)
theorem g642 : Cond.selects RX2 yX2_grindingBy yX2_grindingBy ∈ GW := gwp 642 (by decide +kernel) (by decide +kernel)
theorem g643 : Cond.code yX2_grindingBy cX2_grindingBy 4 (some .int) ∈ GW := gwp 643 (by decide +kernel) (by decide +kernel)
theorem g644 : Cond.methodLink RX2 70 yX6_grindsBy ∈ GW := gwp 644 (by decide +kernel) (by decide +kernel)
theorem g645 : Cond.static yX6_grindsBy ∈ GW := gwp 645 (by decide +kernel) (by decide +kernel)
theorem g646 : Cond.code yX6_grindsBy cX6_grindsBy 3 (some .boolean) ∈ GW := gwp 646 (by decide +kernel) (by decide +kernel)
theorem g647 : Cond.methodLink RX4 47 yX2_toSea ∈ GW := gwp 647 (by decide +kernel) (by decide +kernel)
theorem g648 : Cond.instanceMethod yX2_toSea ∈ GW := gwp 648 (by decide +kernel) (by decide +kernel)
theorem g649 : Cond.selects RX2 yX2_toSea yX2_toSea ∈ GW := gwp 649 (by decide +kernel) (by decide +kernel)
theorem g650 : Cond.code yX2_toSea cX2_toSea 2 (some .int) ∈ GW := gwp 650 (by decide +kernel) (by decide +kernel)
theorem g652 : Cond.static yX9_isVillage ∈ GW := gwp 652 (by decide +kernel) (by decide +kernel)
theorem g653 : Cond.code yX9_isVillage cX9_isVillage 1 (some .boolean) ∈ GW := gwp 653 (by decide +kernel) (by decide +kernel)
theorem g657 : Cond.code yX9_reach cX9_reach 3 (some .int) ∈ GW := gwp 657 (by decide +kernel) (by decide +kernel)
theorem g658 : Cond.methodLink RX9 164 yX2_hasReach ∈ GW := gwp 658 (by decide +kernel) (by decide +kernel)
theorem g659 : Cond.instanceMethod yX2_hasReach ∈ GW := gwp 659 (by decide +kernel) (by decide +kernel)
theorem g660 : Cond.selects RX2 yX2_hasReach yX2_hasReach ∈ GW := gwp 660 (by decide +kernel) (by decide +kernel)
theorem g661 : Cond.code yX2_hasReach cX2_hasReach 2 (some .boolean) ∈ GW := gwp 661 (by decide +kernel) (by decide +kernel)
theorem g662 : Cond.methodLink RX9 167 yX9_ofReach ∈ GW := gwp 662 (by decide +kernel) (by decide +kernel)
theorem g664 : Cond.instanceMethod yX9_ofReach ∈ GW := gwp 664 (by decide +kernel) (by decide +kernel)
theorem g665 : Cond.code yX9_ofReach cX9_ofReach 3 (some .int) ∈ GW := gwp 665 (by decide +kernel) (by decide +kernel)
theorem g669 : Cond.code yX9_mark cX9_mark 3 (some .int) ∈ GW := gwp 669 (by decide +kernel) (by decide +kernel)
theorem g670 : Cond.methodLink RX9 175 yX6_isOf ∈ GW := gwp 670 (by decide +kernel) (by decide +kernel)
theorem g671 : Cond.methodLink RX9 185 yX6_signOf ∈ GW := gwp 671 (by decide +kernel) (by decide +kernel)
theorem g672 : Cond.static yX6_signOf ∈ GW := gwp 672 (by decide +kernel) (by decide +kernel)
theorem g673 : Cond.code yX6_signOf cX6_signOf 3 (some .int) ∈ GW := gwp 673 (by decide +kernel) (by decide +kernel)
theorem g674 : Cond.methodLink RX6 11 yJ9_min_7cf53 ∈ GW := gwp 674 (by decide +kernel) (by decide +kernel)
theorem g675 : Cond.methodLink RX6 17 yJ9_max_7cf53 ∈ GW := gwp 675 (by decide +kernel) (by decide +kernel)
theorem g679 : Cond.code yX9_weekday cX9_weekday 3 (some .int) ∈ GW := gwp 679 (by decide +kernel) (by decide +kernel)
theorem g680 : Cond.methodLink RX9 189 yX9_isWeekday ∈ GW := gwp 680 (by decide +kernel) (by decide +kernel)
theorem g681 : Cond.static yX9_isWeekday ∈ GW := gwp 681 (by decide +kernel) (by decide +kernel)
theorem g682 : Cond.code yX9_isWeekday cX9_isWeekday 1 (some .boolean) ∈ GW := gwp 682 (by decide +kernel) (by decide +kernel)
theorem g686 : Cond.code yX9_swap cX9_swap 4 (some .int) ∈ GW := gwp 686 (by decide +kernel) (by decide +kernel)
theorem g690 : Cond.code yX9_owns cX9_owns 2 (some .int) ∈ GW := gwp 690 (by decide +kernel) (by decide +kernel)
theorem g691 : Cond.methodLink RX9 198 yX9_isVillage ∈ GW := gwp 691 (by decide +kernel) (by decide +kernel)
theorem g695 : Cond.code yX9_day cX9_day 2 (some .int) ∈ GW := gwp 695 (by decide +kernel) (by decide +kernel)
theorem g696 : Cond.methodLink RX9 204 yX2_canShut ∈ GW := gwp 696 (by decide +kernel) (by decide +kernel)
theorem g697 : Cond.methodLink RX9 208 yX9_passTruly ∈ GW := gwp 697 (by decide +kernel) (by decide +kernel)
theorem g699 : Cond.instanceMethod yX9_passTruly ∈ GW := gwp 699 (by decide +kernel) (by decide +kernel)
theorem g700 : Cond.code yX9_passTruly cX9_passTruly 4 (some .int) ∈ GW := gwp 700 (by decide +kernel) (by decide +kernel)
theorem g701 : Cond.methodLink RX9 365 yX3_add ∈ GW := gwp 701 (by decide +kernel) (by decide +kernel)
theorem g702 : Cond.instanceMethod yX3_add ∈ GW := gwp 702 (by decide +kernel) (by decide +kernel)
theorem g703 : Cond.selects RX3 yX3_add yX3_add ∈ GW := gwp 703 (by decide +kernel) (by decide +kernel)
theorem g704 : Cond.code yX3_add cX3_add 3 none ∈ GW := gwp 704 (by decide +kernel) (by decide +kernel)
theorem g708 : Cond.code yX9_undo cX9_undo 3 (some .int) ∈ GW := gwp 708 (by decide +kernel) (by decide +kernel)
theorem g712 : Cond.code yX9_keep cX9_keep 2 (some .int) ∈ GW := gwp 712 (by decide +kernel) (by decide +kernel)
theorem g713 : Cond.methodLink RX9 211 yX3_become ∈ GW := gwp 713 (by decide +kernel) (by decide +kernel)
theorem g714 : Cond.instanceMethod yX3_become ∈ GW := gwp 714 (by decide +kernel) (by decide +kernel)
theorem g715 : Cond.selects RX3 yX3_become yX3_become ∈ GW := gwp 715 (by decide +kernel) (by decide +kernel)
theorem g716 : Cond.code yX3_become cX3_become 2 none ∈ GW := gwp 716 (by decide +kernel) (by decide +kernel)
theorem g717 : Cond.methodLink RX3 31 arraycopyName ∈ GW := gwp 717 (by decide +kernel) (by decide +kernel)
theorem g721 : Cond.code yX9_on cX9_on 2 (some .int) ∈ GW := gwp 721 (by decide +kernel) (by decide +kernel)
theorem g725 : Cond.code yX9_gates cX9_gates 1 (some .int) ∈ GW := gwp 725 (by decide +kernel) (by decide +kernel)
theorem g729 : Cond.code yX9_runs cX9_runs 2 (some .int) ∈ GW := gwp 729 (by decide +kernel) (by decide +kernel)
theorem g730 : Cond.methodLink RX9 218 yX0_begin ∈ GW := gwp 730 (by decide +kernel) (by decide +kernel)
theorem g731 : Cond.instanceMethod yX0_begin ∈ GW := gwp 731 (by decide +kernel) (by decide +kernel)
theorem g732 : Cond.selects RX0 yX0_begin yX0_begin ∈ GW := gwp 732 (by decide +kernel) (by decide +kernel)
theorem g733 : Cond.code yX0_begin cX0_begin 4 none ∈ GW := gwp 733 (by decide +kernel) (by decide +kernel)
theorem g734 : Cond.methodLink RX0 42 yJ9_max_7cf53 ∈ GW := gwp 734 (by decide +kernel) (by decide +kernel)
theorem g735 : Cond.methodLink RX9 222 yX0_passOn ∈ GW := gwp 735 (by decide +kernel) (by decide +kernel)
theorem g736 : Cond.instanceMethod yX0_passOn ∈ GW := gwp 736 (by decide +kernel) (by decide +kernel)
theorem g737 : Cond.selects RX0 yX0_passOn yX0_passOn ∈ GW := gwp 737 (by decide +kernel) (by decide +kernel)
theorem g738 : Cond.code yX0_passOn cX0_passOn 5 none ∈ GW := gwp 738 (by decide +kernel) (by decide +kernel)
theorem g739 : Cond.methodLink RX0 48 yX0_pass ∈ GW := gwp 739 (by decide +kernel) (by decide +kernel)
theorem g741 : Cond.instanceMethod yX0_pass ∈ GW := gwp 741 (by decide +kernel) (by decide +kernel)
theorem g742 : Cond.code yX0_pass cX0_pass 6 none ∈ GW := gwp 742 (by decide +kernel) (by decide +kernel)
theorem g743 : Cond.methodLink RX0 77 yX0_weekdayOf ∈ GW := gwp 743 (by decide +kernel) (by decide +kernel)
theorem g745 : Cond.instanceMethod yX0_weekdayOf ∈ GW := gwp 745 (by decide +kernel) (by decide +kernel)
theorem g746 : Cond.code yX0_weekdayOf cX0_weekdayOf 2 (some .int) ∈ GW := gwp 746 (by decide +kernel) (by decide +kernel)
theorem g747 : Cond.methodLink RX0 80 yJ9_floorMod_7cf53 ∈ GW := gwp 747 (by decide +kernel) (by decide +kernel)
theorem g748 : Cond.static yJ9_floorMod_7cf53 ∈ GW := gwp 748 (by decide +kernel) (by decide +kernel)
theorem g749 : Cond.code yJ9_floorMod_7cf53 cJ9_floorMod_7cf53 3 (some .int) ∈ GW := gwp 749 (by decide +kernel) (by decide +kernel)
theorem g750 : Cond.methodLink RX0 83 yX2_letRun ∈ GW := gwp 750 (by decide +kernel) (by decide +kernel)
theorem g751 : Cond.methodLink RX0 87 yX2_toSea ∈ GW := gwp 751 (by decide +kernel) (by decide +kernel)
theorem g752 : Cond.methodLink RX0 91 yX2_grindingBy ∈ GW := gwp 752 (by decide +kernel) (by decide +kernel)
theorem g753 : Cond.methodLink RX0 97 yX2_takeIn ∈ GW := gwp 753 (by decide +kernel) (by decide +kernel)
theorem g754 : Cond.methodLink RX0 52 yJ6_bitCount_0f7a4 ∈ GW := gwp 754 (by decide +kernel) (by decide +kernel)
theorem g755 : Cond.methodLink RX0 58 yX0_ownerOf ∈ GW := gwp 755 (by decide +kernel) (by decide +kernel)
theorem g756 : Cond.instanceMethod yX0_ownerOf ∈ GW := gwp 756 (by decide +kernel) (by decide +kernel)
theorem g757 : Cond.selects RX0 yX0_ownerOf yX0_ownerOf ∈ GW := gwp 757 (by decide +kernel) (by decide +kernel)
theorem g758 : Cond.code yX0_ownerOf cX0_ownerOf 3 (some .int) ∈ GW := gwp 758 (by decide +kernel) (by decide +kernel)
theorem g763 : Cond.code yX9_sea cX9_sea 3 (some .int) ∈ GW := gwp 763 (by decide +kernel) (by decide +kernel)
theorem g764 : Cond.methodLink RX9 232 yX9_refusePlan ∈ GW := gwp 764 (by decide +kernel) (by decide +kernel)
theorem g766 : Cond.instanceMethod yX9_refusePlan ∈ GW := gwp 766 (by decide +kernel) (by decide +kernel)
theorem g767 : Cond.code yX9_refusePlan cX9_refusePlan 6 (some .int) ∈ GW := gwp 767 (by decide +kernel) (by decide +kernel)
theorem g768 : Cond.methodLink RX9 359 yX9_refuseWithoutRiver ∈ GW := gwp 768 (by decide +kernel) (by decide +kernel)
theorem g770 : Cond.instanceMethod yX9_refuseWithoutRiver ∈ GW := gwp 770 (by decide +kernel) (by decide +kernel)
theorem g771 : Cond.code yX9_refuseWithoutRiver cX9_refuseWithoutRiver 3 (some .int) ∈ GW := gwp 771 (by decide +kernel) (by decide +kernel)
theorem g772 : Cond.methodLink RX9 236 yX9_followPlan ∈ GW := gwp 772 (by decide +kernel) (by decide +kernel)
theorem g774 : Cond.instanceMethod yX9_followPlan ∈ GW := gwp 774 (by decide +kernel) (by decide +kernel)
theorem g775 : Cond.code yX9_followPlan cX9_followPlan 3 none ∈ GW := gwp 775 (by decide +kernel) (by decide +kernel)
theorem g779 : Cond.code yX9_water cX9_water 4 (some .int) ∈ GW := gwp 779 (by decide +kernel) (by decide +kernel)
theorem g780 : Cond.methodLink RX9 245 yX0_waterNow ∈ GW := gwp 780 (by decide +kernel) (by decide +kernel)
theorem g781 : Cond.instanceMethod yX0_waterNow ∈ GW := gwp 781 (by decide +kernel) (by decide +kernel)
theorem g782 : Cond.selects RX0 yX0_waterNow yX0_waterNow ∈ GW := gwp 782 (by decide +kernel) (by decide +kernel)
theorem g783 : Cond.code yX0_waterNow cX0_waterNow 2 (some .int) ∈ GW := gwp 783 (by decide +kernel) (by decide +kernel)
theorem g787 : Cond.code yX9_share cX9_share 4 (some .int) ∈ GW := gwp 787 (by decide +kernel) (by decide +kernel)
theorem g791 : Cond.code yX9_grinds cX9_grinds 3 (some .int) ∈ GW := gwp 791 (by decide +kernel) (by decide +kernel)
theorem g795 : Cond.code yX9_best cX9_best 4 (some .int) ∈ GW := gwp 795 (by decide +kernel) (by decide +kernel)
theorem g796 : Cond.methodLink RX9 249 yX9_refuseSearch ∈ GW := gwp 796 (by decide +kernel) (by decide +kernel)
theorem g798 : Cond.instanceMethod yX9_refuseSearch ∈ GW := gwp 798 (by decide +kernel) (by decide +kernel)
theorem g799 : Cond.code yX9_refuseSearch cX9_refuseSearch 4 (some .int) ∈ GW := gwp 799 (by decide +kernel) (by decide +kernel)
theorem g800 : Cond.methodLink RX9 252 yX5_seek ∈ GW := gwp 800 (by decide +kernel) (by decide +kernel)
theorem g801 : Cond.instanceMethod yX5_seek ∈ GW := gwp 801 (by decide +kernel) (by decide +kernel)
theorem g802 : Cond.selects RX5 yX5_seek yX5_seek ∈ GW := gwp 802 (by decide +kernel) (by decide +kernel)
theorem g803 : Cond.code yX5_seek cX5_seek 6 none ∈ GW := gwp 803 (by decide +kernel) (by decide +kernel)
theorem g804 : Cond.methodLink RX5 47 yX0_begin ∈ GW := gwp 804 (by decide +kernel) (by decide +kernel)
theorem g805 : Cond.methodLink RX5 51 yJ9_min_7cf53 ∈ GW := gwp 805 (by decide +kernel) (by decide +kernel)
theorem g806 : Cond.methodLink RX5 57 yJ9_max_7cf53 ∈ GW := gwp 806 (by decide +kernel) (by decide +kernel)
theorem g807 : Cond.methodLink RX5 60 yX5_goDeeper ∈ GW := gwp 807 (by decide +kernel) (by decide +kernel)
theorem g809 : Cond.instanceMethod yX5_goDeeper ∈ GW := gwp 809 (by decide +kernel) (by decide +kernel)
theorem g810 : Cond.code yX5_goDeeper cX5_goDeeper 6 none ∈ GW := gwp 810 (by decide +kernel) (by decide +kernel)
theorem g811 : Cond.methodLink RX5 64 yX5_arrive ∈ GW := gwp 811 (by decide +kernel) (by decide +kernel)
theorem g813 : Cond.instanceMethod yX5_arrive ∈ GW := gwp 813 (by decide +kernel) (by decide +kernel)
theorem g814 : Cond.code yX5_arrive cX5_arrive 2 none ∈ GW := gwp 814 (by decide +kernel) (by decide +kernel)
theorem g815 : Cond.methodLink RX5 105 arraycopyName ∈ GW := gwp 815 (by decide +kernel) (by decide +kernel)
theorem g816 : Cond.methodLink RX5 76 yX0_branch ∈ GW := gwp 816 (by decide +kernel) (by decide +kernel)
theorem g817 : Cond.instanceMethod yX0_branch ∈ GW := gwp 817 (by decide +kernel) (by decide +kernel)
theorem g818 : Cond.selects RX0 yX0_branch yX0_branch ∈ GW := gwp 818 (by decide +kernel) (by decide +kernel)
theorem g819 : Cond.code yX0_branch cX0_branch 4 none ∈ GW := gwp 819 (by decide +kernel) (by decide +kernel)
theorem g820 : Cond.methodLink RX0 66 arraycopyName ∈ GW := gwp 820 (by decide +kernel) (by decide +kernel)
theorem g821 : Cond.methodLink RX5 79 yX5_fits ∈ GW := gwp 821 (by decide +kernel) (by decide +kernel)
theorem g823 : Cond.instanceMethod yX5_fits ∈ GW := gwp 823 (by decide +kernel) (by decide +kernel)
theorem g824 : Cond.code yX5_fits cX5_fits 3 (some .boolean) ∈ GW := gwp 824 (by decide +kernel) (by decide +kernel)
theorem g825 : Cond.methodLink RX5 83 yX5_gain ∈ GW := gwp 825 (by decide +kernel) (by decide +kernel)
theorem g827 : Cond.instanceMethod yX5_gain ∈ GW := gwp 827 (by decide +kernel) (by decide +kernel)
theorem g828 : Cond.code yX5_gain cX5_gain 3 (some .int) ∈ GW := gwp 828 (by decide +kernel) (by decide +kernel)
theorem g829 : Cond.methodLink RX5 96 yJ6_bitCount_0f7a4 ∈ GW := gwp 829 (by decide +kernel) (by decide +kernel)
theorem g830 : Cond.methodLink RX5 102 yX0_ownerOf ∈ GW := gwp 830 (by decide +kernel) (by decide +kernel)
theorem g831 : Cond.methodLink RX9 259 yX8_take ∈ GW := gwp 831 (by decide +kernel) (by decide +kernel)
theorem g832 : Cond.instanceMethod yX8_take ∈ GW := gwp 832 (by decide +kernel) (by decide +kernel)
theorem g833 : Cond.selects RX8 yX8_take yX8_take ∈ GW := gwp 833 (by decide +kernel) (by decide +kernel)
theorem g834 : Cond.code yX8_take cX8_take 5 none ∈ GW := gwp 834 (by decide +kernel) (by decide +kernel)
theorem g835 : Cond.methodLink RX8 38 yX8_make ∈ GW := gwp 835 (by decide +kernel) (by decide +kernel)
theorem g836 : Cond.methodLink RX8 42 yX8_change ∈ GW := gwp 836 (by decide +kernel) (by decide +kernel)
theorem g840 : Cond.code yX9_all cX9_all 4 (some .int) ∈ GW := gwp 840 (by decide +kernel) (by decide +kernel)
theorem g844 : Cond.code yX9_most cX9_most 4 (some .int) ∈ GW := gwp 844 (by decide +kernel) (by decide +kernel)
theorem g848 : Cond.code yX9_worth cX9_worth 7 (some .int) ∈ GW := gwp 848 (by decide +kernel) (by decide +kernel)
theorem g849 : Cond.methodLink RX9 272 yX9_groundWithout ∈ GW := gwp 849 (by decide +kernel) (by decide +kernel)
theorem g851 : Cond.instanceMethod yX9_groundWithout ∈ GW := gwp 851 (by decide +kernel) (by decide +kernel)
theorem g852 : Cond.code yX9_groundWithout cX9_groundWithout 4 (some .int) ∈ GW := gwp 852 (by decide +kernel) (by decide +kernel)
theorem g856 : Cond.code yX9_duel cX9_duel 3 (some .int) ∈ GW := gwp 856 (by decide +kernel) (by decide +kernel)
theorem g857 : Cond.methodLink RX9 275 yX5_contest ∈ GW := gwp 857 (by decide +kernel) (by decide +kernel)
theorem g858 : Cond.instanceMethod yX5_contest ∈ GW := gwp 858 (by decide +kernel) (by decide +kernel)
theorem g859 : Cond.selects RX5 yX5_contest yX5_contest ∈ GW := gwp 859 (by decide +kernel) (by decide +kernel)
theorem g860 : Cond.code yX5_contest cX5_contest 5 (some .int) ∈ GW := gwp 860 (by decide +kernel) (by decide +kernel)
theorem g861 : Cond.methodLink RX5 111 yX5_contend ∈ GW := gwp 861 (by decide +kernel) (by decide +kernel)
theorem g863 : Cond.instanceMethod yX5_contend ∈ GW := gwp 863 (by decide +kernel) (by decide +kernel)
theorem g864 : Cond.code yX5_contend cX5_contend 7 (some .int) ∈ GW := gwp 864 (by decide +kernel) (by decide +kernel)
theorem g868 : Cond.code yX9_ways cX9_ways 3 (some .int) ∈ GW := gwp 868 (by decide +kernel) (by decide +kernel)
theorem g869 : Cond.methodLink RX9 279 yX9_refuseSeas ∈ GW := gwp 869 (by decide +kernel) (by decide +kernel)
theorem g871 : Cond.instanceMethod yX9_refuseSeas ∈ GW := gwp 871 (by decide +kernel) (by decide +kernel)
theorem g872 : Cond.code yX9_refuseSeas cX9_refuseSeas 4 (some .int) ∈ GW := gwp 872 (by decide +kernel) (by decide +kernel)
theorem g873 : Cond.methodLink RX9 362 yX8_allWithin ∈ GW := gwp 873 (by decide +kernel) (by decide +kernel)
theorem g874 : Cond.instanceMethod yX8_allWithin ∈ GW := gwp 874 (by decide +kernel) (by decide +kernel)
theorem g875 : Cond.selects RX8 yX8_allWithin yX8_allWithin ∈ GW := gwp 875 (by decide +kernel) (by decide +kernel)
theorem g876 : Cond.code yX8_allWithin cX8_allWithin 4 (some .boolean) ∈ GW := gwp 876 (by decide +kernel) (by decide +kernel)
theorem g877 : Cond.methodLink RX9 286 yX8_giveTo ∈ GW := gwp 877 (by decide +kernel) (by decide +kernel)
theorem g878 : Cond.methodLink RX9 290 yX9_tellFraction ∈ GW := gwp 878 (by decide +kernel) (by decide +kernel)
theorem g880 : Cond.instanceMethod yX9_tellFraction ∈ GW := gwp 880 (by decide +kernel) (by decide +kernel)
theorem g881 : Cond.code yX9_tellFraction cX9_tellFraction 7 none ∈ GW := gwp 881 (by decide +kernel) (by decide +kernel)
theorem g882 : Cond.methodLink RX9 346 yX9_commonDivisor ∈ GW := gwp 882 (by decide +kernel) (by decide +kernel)
theorem g883 : Cond.static yX9_commonDivisor ∈ GW := gwp 883 (by decide +kernel) (by decide +kernel)
theorem g884 : Cond.code yX9_commonDivisor cX9_commonDivisor 7 (some .long) ∈ GW := gwp 884 (by decide +kernel) (by decide +kernel)
theorem g888 : Cond.code yX9_first cX9_first 4 (some .int) ∈ GW := gwp 888 (by decide +kernel) (by decide +kernel)
theorem g889 : Cond.methodLink RX9 300 yX5_shutTogether ∈ GW := gwp 889 (by decide +kernel) (by decide +kernel)
theorem g890 : Cond.instanceMethod yX5_shutTogether ∈ GW := gwp 890 (by decide +kernel) (by decide +kernel)
theorem g891 : Cond.selects RX5 yX5_shutTogether yX5_shutTogether ∈ GW := gwp 891 (by decide +kernel) (by decide +kernel)
theorem g892 : Cond.code yX5_shutTogether cX5_shutTogether 3 (some .int) ∈ GW := gwp 892 (by decide +kernel) (by decide +kernel)
theorem g896 : Cond.code yX9_kinds cX9_kinds 6 (some .int) ∈ GW := gwp 896 (by decide +kernel) (by decide +kernel)
theorem g897 : Cond.methodLink RX9 304 yX9_refusePairs ∈ GW := gwp 897 (by decide +kernel) (by decide +kernel)
theorem g899 : Cond.instanceMethod yX9_refusePairs ∈ GW := gwp 899 (by decide +kernel) (by decide +kernel)
theorem g900 : Cond.code yX9_refusePairs cX9_refusePairs 4 (some .int) ∈ GW := gwp 900 (by decide +kernel) (by decide +kernel)
theorem g901 : Cond.methodLink RX9 307 yX9_agrees ∈ GW := gwp 901 (by decide +kernel) (by decide +kernel)
theorem g903 : Cond.instanceMethod yX9_agrees ∈ GW := gwp 903 (by decide +kernel) (by decide +kernel)
theorem g904 : Cond.code yX9_agrees cX9_agrees 8 (some .boolean) ∈ GW := gwp 904 (by decide +kernel) (by decide +kernel)
theorem g905 : Cond.methodLink RX9 388 yX6_runFrom ∈ GW := gwp 905 (by decide +kernel) (by decide +kernel)
theorem g906 : Cond.methodLink RX9 392 yX6_settle ∈ GW := gwp 906 (by decide +kernel) (by decide +kernel)
theorem g910 : Cond.code yX9_measures cX9_measures 6 (some .int) ∈ GW := gwp 910 (by decide +kernel) (by decide +kernel)
theorem g914 : Cond.code yX9_mid cX9_mid 4 (some .int) ∈ GW := gwp 914 (by decide +kernel) (by decide +kernel)
theorem g915 : Cond.methodLink RX9 311 yX9_isOfTwelve ∈ GW := gwp 915 (by decide +kernel) (by decide +kernel)
theorem g916 : Cond.static yX9_isOfTwelve ∈ GW := gwp 916 (by decide +kernel) (by decide +kernel)
theorem g917 : Cond.code yX9_isOfTwelve cX9_isOfTwelve 1 (some .boolean) ∈ GW := gwp 917 (by decide +kernel) (by decide +kernel)
theorem g918 : Cond.methodLink RX9 315 yX1_weigh ∈ GW := gwp 918 (by decide +kernel) (by decide +kernel)
theorem g919 : Cond.instanceMethod yX1_weigh ∈ GW := gwp 919 (by decide +kernel) (by decide +kernel)
theorem g920 : Cond.selects RX1 yX1_weigh yX1_weigh ∈ GW := gwp 920 (by decide +kernel) (by decide +kernel)
theorem g921 : Cond.code yX1_weigh cX1_weigh 8 none ∈ GW := gwp 921 (by decide +kernel) (by decide +kernel)
theorem g922 : Cond.methodLink RX1 42 yX0_begin ∈ GW := gwp 922 (by decide +kernel) (by decide +kernel)
theorem g923 : Cond.methodLink RX1 46 yJ9_min_7cf53 ∈ GW := gwp 923 (by decide +kernel) (by decide +kernel)
theorem g924 : Cond.methodLink RX1 52 yJ9_max_7cf53 ∈ GW := gwp 924 (by decide +kernel) (by decide +kernel)
theorem g925 : Cond.methodLink RX1 55 yJ6_bitCount_0f7a4 ∈ GW := gwp 925 (by decide +kernel) (by decide +kernel)
theorem g926 : Cond.methodLink RX1 61 yX1_power ∈ GW := gwp 926 (by decide +kernel) (by decide +kernel)
theorem g927 : Cond.static yX1_power ∈ GW := gwp 927 (by decide +kernel) (by decide +kernel)
theorem g928 : Cond.code yX1_power cX1_power 5 (some .long) ∈ GW := gwp 928 (by decide +kernel) (by decide +kernel)
theorem g929 : Cond.methodLink RX1 65 yX1_spread ∈ GW := gwp 929 (by decide +kernel) (by decide +kernel)
theorem g931 : Cond.instanceMethod yX1_spread ∈ GW := gwp 931 (by decide +kernel) (by decide +kernel)
theorem g932 : Cond.code yX1_spread cX1_spread 12 none ∈ GW := gwp 932 (by decide +kernel) (by decide +kernel)
theorem g933 : Cond.methodLink RX1 77 yX1_weightOf ∈ GW := gwp 933 (by decide +kernel) (by decide +kernel)
theorem g935 : Cond.instanceMethod yX1_weightOf ∈ GW := gwp 935 (by decide +kernel) (by decide +kernel)
theorem g936 : Cond.code yX1_weightOf cX1_weightOf 3 (some .long) ∈ GW := gwp 936 (by decide +kernel) (by decide +kernel)
theorem g937 : Cond.methodLink RX1 80 yX0_branch ∈ GW := gwp 937 (by decide +kernel) (by decide +kernel)
theorem g941 : Cond.code yX9_odds cX9_odds 5 (some .int) ∈ GW := gwp 941 (by decide +kernel) (by decide +kernel)
theorem g945 : Cond.code yX9_lots cX9_lots 7 (some .int) ∈ GW := gwp 945 (by decide +kernel) (by decide +kernel)
theorem g946 : Cond.constantLong RX9 328 (2147483647) ∈ GW := gwp 946 (by decide +kernel) (by decide +kernel)
theorem g947 : Cond.constantLong RX9 330 (48271) ∈ GW := gwp 947 (by decide +kernel) (by decide +kernel)
theorem g948 : Cond.methodLink RX9 332 yX2_setByLot ∈ GW := gwp 948 (by decide +kernel) (by decide +kernel)
theorem g949 : Cond.instanceMethod yX2_setByLot ∈ GW := gwp 949 (by decide +kernel) (by decide +kernel)
theorem g950 : Cond.selects RX2 yX2_setByLot yX2_setByLot ∈ GW := gwp 950 (by decide +kernel) (by decide +kernel)
theorem g951 : Cond.code yX2_setByLot cX2_setByLot 5 (some .int) ∈ GW := gwp 951 (by decide +kernel) (by decide +kernel)
theorem g955 : Cond.code yX9_asked cX9_asked 1 (some .int) ∈ GW := gwp 955 (by decide +kernel) (by decide +kernel)
theorem g959 : Cond.code yX9_upper cX9_upper 1 (some .long) ∈ GW := gwp 959 (by decide +kernel) (by decide +kernel)
theorem g963 : Cond.code yX9_lower cX9_lower 1 (some .long) ∈ GW := gwp 963 (by decide +kernel) (by decide +kernel)
theorem g967 : Cond.code yX9_count cX9_count 2 (some .int) ∈ GW := gwp 967 (by decide +kernel) (by decide +kernel)
theorem g968 : Cond.methodLink RX9 335 yX9_counted ∈ GW := gwp 968 (by decide +kernel) (by decide +kernel)
theorem g970 : Cond.instanceMethod yX9_counted ∈ GW := gwp 970 (by decide +kernel) (by decide +kernel)
theorem g971 : Cond.code yX9_counted cX9_counted 2 (some .int) ∈ GW := gwp 971 (by decide +kernel) (by decide +kernel)
theorem g972 : Cond.methodLink RX9 401 yX9_sum ∈ GW := gwp 972 (by decide +kernel) (by decide +kernel)
theorem g973 : Cond.static yX9_sum ∈ GW := gwp 973 (by decide +kernel) (by decide +kernel)
theorem g974 : Cond.code yX9_sum cX9_sum 6 (some .int) ∈ GW := gwp 974 (by decide +kernel) (by decide +kernel)
theorem g975 : Cond.methodLink RX9 405 yJ6_bitCount_0f7a4 ∈ GW := gwp 975 (by decide +kernel) (by decide +kernel)
theorem g976 : Cond.methodLink RX9 413 yX8_howMany ∈ GW := gwp 976 (by decide +kernel) (by decide +kernel)
theorem g977 : Cond.instanceMethod yX8_howMany ∈ GW := gwp 977 (by decide +kernel) (by decide +kernel)
theorem g978 : Cond.selects RX8 yX8_howMany yX8_howMany ∈ GW := gwp 978 (by decide +kernel) (by decide +kernel)
theorem g979 : Cond.code yX8_howMany cX8_howMany 3 (some .int) ∈ GW := gwp 979 (by decide +kernel) (by decide +kernel)
theorem g980 : Cond.methodLink RX8 59 yX8_isThere ∈ GW := gwp 980 (by decide +kernel) (by decide +kernel)
theorem g981 : Cond.methodLink RX9 416 yX9_keptRivers ∈ GW := gwp 981 (by decide +kernel) (by decide +kernel)
theorem g983 : Cond.instanceMethod yX9_keptRivers ∈ GW := gwp 983 (by decide +kernel) (by decide +kernel)
theorem g984 : Cond.code yX9_keptRivers cX9_keptRivers 3 (some .int) ∈ GW := gwp 984 (by decide +kernel) (by decide +kernel)
theorem g988 : Cond.code yX9_finding cX9_finding 1 (some .int) ∈ GW := gwp 988 (by decide +kernel) (by decide +kernel)
theorem g992 : Cond.code yX9_findings cX9_findings 2 (some .int) ∈ GW := gwp 992 (by decide +kernel) (by decide +kernel)
theorem g996 : Cond.code yX9_digest cX9_digest 5 (some .long) ∈ GW := gwp 996 (by decide +kernel) (by decide +kernel)
theorem g997 : Cond.constantLong RX9 338 (17) ∈ GW := gwp 997 (by decide +kernel) (by decide +kernel)
theorem g998 : Cond.constantLong RX9 340 (31) ∈ GW := gwp 998 (by decide +kernel) (by decide +kernel)
theorem g999 : Cond.methodLink RX9 342 yX8_mixInto ∈ GW := gwp 999 (by decide +kernel) (by decide +kernel)
theorem g1000 : Cond.instanceMethod yX8_mixInto ∈ GW := gwp 1000 (by decide +kernel) (by decide +kernel)
theorem g1001 : Cond.selects RX8 yX8_mixInto yX8_mixInto ∈ GW := gwp 1001 (by decide +kernel) (by decide +kernel)
theorem g1002 : Cond.code yX8_mixInto cX8_mixInto 5 (some .long) ∈ GW := gwp 1002 (by decide +kernel) (by decide +kernel)
theorem g1003 : Cond.constantLong RX8 62 (31) ∈ GW := gwp 1003 (by decide +kernel) (by decide +kernel)
theorem g1010 : Cond.fieldLink RX10 84 "RiverDaysModel" "finding" "I" ∈ GW := gwp 1010 (by decide +kernel) (by decide +kernel)
theorem g1011 : Cond.fieldLink RX10 7 "RiverDaysModel" "findings" "[I" ∈ GW := gwp 1011 (by decide +kernel) (by decide +kernel)
theorem g1012 : Cond.fieldLink RX10 87 "RiverDaysModel" "asked" "I" ∈ GW := gwp 1012 (by decide +kernel) (by decide +kernel)
theorem g1013 : Cond.fieldLink RX10 90 "RiverDaysModel" "upper" "J" ∈ GW := gwp 1013 (by decide +kernel) (by decide +kernel)
theorem g1014 : Cond.fieldLink RX10 13 "RiverDaysModel" "lower" "J" ∈ GW := gwp 1014 (by decide +kernel) (by decide +kernel)
theorem g1015 : Cond.fieldLink RX10 17 "RiverDaysModel" "sizes" "[I" ∈ GW := gwp 1015 (by decide +kernel) (by decide +kernel)
theorem g1016 : Cond.fieldLink RX10 20 "RiverDaysModel" "rows" "[I" ∈ GW := gwp 1016 (by decide +kernel) (by decide +kernel)
theorem g1017 : Cond.fieldLink RX10 23 "RiverDaysModel" "moving" "[I" ∈ GW := gwp 1017 (by decide +kernel) (by decide +kernel)
theorem g1018 : Cond.fieldLink RX10 26 "RiverDaysModel" "lengths" "[I" ∈ GW := gwp 1018 (by decide +kernel) (by decide +kernel)
theorem g1019 : Cond.fieldLink RX10 29 "RiverDaysModel" "texts" "[I" ∈ GW := gwp 1019 (by decide +kernel) (by decide +kernel)
theorem g1020 : Cond.fieldLink RX10 167 "RiverDaysModel" "many" "I" ∈ GW := gwp 1020 (by decide +kernel) (by decide +kernel)
theorem g1021 : Cond.fieldLink RX10 32 "RiverDaysModel" "rain" "[I" ∈ GW := gwp 1021 (by decide +kernel) (by decide +kernel)
theorem g1022 : Cond.fieldLink RX10 35 "RiverDaysModel" "owner" "[I" ∈ GW := gwp 1022 (by decide +kernel) (by decide +kernel)
theorem g1023 : Cond.fieldLink RX10 38 "RiverDaysModel" "kinds" "[I" ∈ GW := gwp 1023 (by decide +kernel) (by decide +kernel)
theorem g1024 : Cond.fieldLink RX10 41 "RiverDaysModel" "measures" "[I" ∈ GW := gwp 1024 (by decide +kernel) (by decide +kernel)
theorem g1025 : Cond.fieldLink RX10 44 "RiverDaysModel" "water" "[I" ∈ GW := gwp 1025 (by decide +kernel) (by decide +kernel)
theorem g1026 : Cond.fieldLink RX10 47 "RiverDaysModel" "ground" "[I" ∈ GW := gwp 1026 (by decide +kernel) (by decide +kernel)
theorem g1027 : Cond.fieldLink RX10 50 "RiverDaysModel" "ran" "[I" ∈ GW := gwp 1027 (by decide +kernel) (by decide +kernel)
theorem g1028 : Cond.fieldLink RX10 170 "RiverDaysModel" "came" "I" ∈ GW := gwp 1028 (by decide +kernel) (by decide +kernel)
theorem g1029 : Cond.fieldLink RX10 53 "RiverDaysModel" "owned" "[I" ∈ GW := gwp 1029 (by decide +kernel) (by decide +kernel)
theorem g1030 : Cond.fieldLink RX10 128 "RiverDaysModel" "readAt" "I" ∈ GW := gwp 1030 (by decide +kernel) (by decide +kernel)
theorem g1031 : Cond.fieldLink RX10 145 "RiverDaysModel" "readMany" "I" ∈ GW := gwp 1031 (by decide +kernel) (by decide +kernel)
theorem g1032 : Cond.fieldLink RX10 151 "RiverDaysModel" "readGates" "I" ∈ GW := gwp 1032 (by decide +kernel) (by decide +kernel)
theorem g1033 : Cond.fieldLink RX10 56 "RiverDaysModel" "readWeek" "[I" ∈ GW := gwp 1033 (by decide +kernel) (by decide +kernel)
theorem g1034 : Cond.fieldLink RX10 59 "RiverDaysModel" "readReach" "[I" ∈ GW := gwp 1034 (by decide +kernel) (by decide +kernel)
theorem g1035 : Cond.fieldLink RX10 173 "RiverDaysModel" "deedMany" "I" ∈ GW := gwp 1035 (by decide +kernel) (by decide +kernel)
theorem g1036 : Cond.fieldLink RX10 62 "RiverDaysModel" "notes" "[I" ∈ GW := gwp 1036 (by decide +kernel) (by decide +kernel)
theorem g1037 : Cond.fieldLink RX10 65 "RiverDaysModel" "isThere" "[I" ∈ GW := gwp 1037 (by decide +kernel) (by decide +kernel)
theorem g1038 : Cond.fieldLink RX10 68 "RiverDaysModel" "images" "[I" ∈ GW := gwp 1038 (by decide +kernel) (by decide +kernel)
theorem g1039 : Cond.fieldLink RX10 71 "RiverDaysModel" "aside" "[I" ∈ GW := gwp 1039 (by decide +kernel) (by decide +kernel)
theorem g1040 : Cond.fieldLink RX10 74 "RiverDaysModel" "flow" "[I" ∈ GW := gwp 1040 (by decide +kernel) (by decide +kernel)
theorem g1041 : Cond.fieldLink RX10 197 "RiverDaysModel" "groundSet" "I" ∈ GW := gwp 1041 (by decide +kernel) (by decide +kernel)
theorem g1042 : Cond.fieldLink RX10 77 "RiverDaysModel" "dry" "I" ∈ GW := gwp 1042 (by decide +kernel) (by decide +kernel)
theorem g1043 : Cond.fieldLink RX10 81 "RiverDaysModel" "sets" "[I" ∈ GW := gwp 1043 (by decide +kernel) (by decide +kernel)
theorem g1044 : Cond.fieldLink RX10 239 "RiverDaysModel" "setMany" "I" ∈ GW := gwp 1044 (by decide +kernel) (by decide +kernel)
theorem g1045 : Cond.fieldLink RX10 314 "RiverDaysModel" "h0" "J" ∈ GW := gwp 1045 (by decide +kernel) (by decide +kernel)
theorem g1122 : Cond.code yX10_row cX10_row 4 (some .int) ∈ GW := gwp 1122 (by decide +kernel) (by decide +kernel)
theorem g1123 : Cond.methodLink RX10 97 yX10_isRow ∈ GW := gwp 1123 (by decide +kernel) (by decide +kernel)
theorem g1124 : Cond.static yX10_isRow ∈ GW := gwp 1124 (by decide +kernel) (by decide +kernel)
theorem g1125 : Cond.code yX10_isRow cX10_isRow 1 (some .boolean) ∈ GW := gwp 1125 (by decide +kernel) (by decide +kernel)
theorem g1126 : Cond.methodLink RX10 93 yX10_in ∈ GW := gwp 1126 (by decide +kernel) (by decide +kernel)
theorem g1127 : Cond.static yX10_in ∈ GW := gwp 1127 (by decide +kernel) (by decide +kernel)
theorem g1128 : Cond.code yX10_in cX10_in 3 (some .boolean) ∈ GW := gwp 1128 (by decide +kernel) (by decide +kernel)
theorem g1129 : Cond.methodLink RX10 101 yX10_meet ∈ GW := gwp 1129 (by decide +kernel) (by decide +kernel)
theorem g1131 : Cond.instanceMethod yX10_meet ∈ GW := gwp 1131 (by decide +kernel) (by decide +kernel)
theorem g1132 : Cond.code yX10_meet cX10_meet 2 (some .int) ∈ GW := gwp 1132 (by decide +kernel) (by decide +kernel)
theorem g1133 : Cond.methodLink RX10 108 yX10_setRow ∈ GW := gwp 1133 (by decide +kernel) (by decide +kernel)
theorem g1135 : Cond.instanceMethod yX10_setRow ∈ GW := gwp 1135 (by decide +kernel) (by decide +kernel)
theorem g1136 : Cond.code yX10_setRow cX10_setRow 4 none ∈ GW := gwp 1136 (by decide +kernel) (by decide +kernel)
theorem g1138 : Cond.instanceMethod yX10_at ∈ GW := gwp 1138 (by decide +kernel) (by decide +kernel)
theorem g1139 : Cond.selects RX10 yX10_at yX10_at ∈ GW := gwp 1139 (by decide +kernel) (by decide +kernel)
theorem g1140 : Cond.code yX10_at cX10_at 4 (some .int) ∈ GW := gwp 1140 (by decide +kernel) (by decide +kernel)
theorem g1141 : Cond.methodLink RX10 112 yX10_askedRow ∈ GW := gwp 1141 (by decide +kernel) (by decide +kernel)
theorem g1143 : Cond.instanceMethod yX10_askedRow ∈ GW := gwp 1143 (by decide +kernel) (by decide +kernel)
theorem g1144 : Cond.code yX10_askedRow cX10_askedRow 2 (some .int) ∈ GW := gwp 1144 (by decide +kernel) (by decide +kernel)
theorem g1145 : Cond.methodLink RX10 115 yX10_rowAt ∈ GW := gwp 1145 (by decide +kernel) (by decide +kernel)
theorem g1147 : Cond.instanceMethod yX10_rowAt ∈ GW := gwp 1147 (by decide +kernel) (by decide +kernel)
theorem g1148 : Cond.code yX10_rowAt cX10_rowAt 3 (some .int) ∈ GW := gwp 1148 (by decide +kernel) (by decide +kernel)
theorem g1149 : Cond.methodLink RX10 119 yX10_ask ∈ GW := gwp 1149 (by decide +kernel) (by decide +kernel)
theorem g1151 : Cond.instanceMethod yX10_ask ∈ GW := gwp 1151 (by decide +kernel) (by decide +kernel)
theorem g1152 : Cond.code yX10_ask cX10_ask 3 (some .int) ∈ GW := gwp 1152 (by decide +kernel) (by decide +kernel)
theorem g1156 : Cond.code yX10_lay cX10_lay 5 (some .int) ∈ GW := gwp 1156 (by decide +kernel) (by decide +kernel)
theorem g1157 : Cond.methodLink RX10 122 yX10_at ∈ GW := gwp 1157 (by decide +kernel) (by decide +kernel)
theorem g1161 : Cond.code yX10_tear cX10_tear 3 (some .int) ∈ GW := gwp 1161 (by decide +kernel) (by decide +kernel)
theorem g1165 : Cond.code yX10_copy cX10_copy 7 (some .int) ∈ GW := gwp 1165 (by decide +kernel) (by decide +kernel)
theorem g1169 : Cond.code yX10_mean cX10_mean 6 (some .int) ∈ GW := gwp 1169 (by decide +kernel) (by decide +kernel)
theorem g1173 : Cond.code yX10_text cX10_text 4 (some .int) ∈ GW := gwp 1173 (by decide +kernel) (by decide +kernel)
theorem g1174 : Cond.methodLink RX10 105 yX10_isText ∈ GW := gwp 1174 (by decide +kernel) (by decide +kernel)
theorem g1175 : Cond.static yX10_isText ∈ GW := gwp 1175 (by decide +kernel) (by decide +kernel)
theorem g1176 : Cond.code yX10_isText cX10_isText 1 (some .boolean) ∈ GW := gwp 1176 (by decide +kernel) (by decide +kernel)
theorem g1180 : Cond.code yX10_put cX10_put 6 (some .int) ∈ GW := gwp 1180 (by decide +kernel) (by decide +kernel)
theorem g1181 : Cond.methodLink RX10 125 yX10_askedText ∈ GW := gwp 1181 (by decide +kernel) (by decide +kernel)
theorem g1183 : Cond.instanceMethod yX10_askedText ∈ GW := gwp 1183 (by decide +kernel) (by decide +kernel)
theorem g1184 : Cond.code yX10_askedText cX10_askedText 2 (some .int) ∈ GW := gwp 1184 (by decide +kernel) (by decide +kernel)
theorem g1188 : Cond.code yX10_fault cX10_fault 3 (some .int) ∈ GW := gwp 1188 (by decide +kernel) (by decide +kernel)
theorem g1189 : Cond.methodLink RX10 164 yX10_goesOn ∈ GW := gwp 1189 (by decide +kernel) (by decide +kernel)
theorem g1191 : Cond.instanceMethod yX10_goesOn ∈ GW := gwp 1191 (by decide +kernel) (by decide +kernel)
theorem g1192 : Cond.code yX10_goesOn cX10_goesOn 2 (some .int) ∈ GW := gwp 1192 (by decide +kernel) (by decide +kernel)
theorem g1193 : Cond.methodLink RX10 161 yX10_readsRiver ∈ GW := gwp 1193 (by decide +kernel) (by decide +kernel)
theorem g1195 : Cond.instanceMethod yX10_readsRiver ∈ GW := gwp 1195 (by decide +kernel) (by decide +kernel)
theorem g1196 : Cond.code yX10_readsRiver cX10_readsRiver 2 (some .boolean) ∈ GW := gwp 1196 (by decide +kernel) (by decide +kernel)
theorem g1197 : Cond.methodLink RX10 154 yX10_readsWeek ∈ GW := gwp 1197 (by decide +kernel) (by decide +kernel)
theorem g1199 : Cond.instanceMethod yX10_readsWeek ∈ GW := gwp 1199 (by decide +kernel) (by decide +kernel)
theorem g1200 : Cond.code yX10_readsWeek cX10_readsWeek 6 (some .boolean) ∈ GW := gwp 1200 (by decide +kernel) (by decide +kernel)
theorem g1201 : Cond.methodLink RX10 134 yX10_skip ∈ GW := gwp 1201 (by decide +kernel) (by decide +kernel)
theorem g1203 : Cond.instanceMethod yX10_skip ∈ GW := gwp 1203 (by decide +kernel) (by decide +kernel)
theorem g1204 : Cond.code yX10_skip cX10_skip 2 none ∈ GW := gwp 1204 (by decide +kernel) (by decide +kernel)
theorem g1205 : Cond.methodLink RX10 131 yX10_here ∈ GW := gwp 1205 (by decide +kernel) (by decide +kernel)
theorem g1207 : Cond.instanceMethod yX10_here ∈ GW := gwp 1207 (by decide +kernel) (by decide +kernel)
theorem g1208 : Cond.code yX10_here cX10_here 2 (some .int) ∈ GW := gwp 1208 (by decide +kernel) (by decide +kernel)
theorem g1209 : Cond.methodLink RX10 138 yX10_figure ∈ GW := gwp 1209 (by decide +kernel) (by decide +kernel)
theorem g1211 : Cond.instanceMethod yX10_figure ∈ GW := gwp 1211 (by decide +kernel) (by decide +kernel)
theorem g1212 : Cond.code yX10_figure cX10_figure 7 (some .boolean) ∈ GW := gwp 1212 (by decide +kernel) (by decide +kernel)
theorem g1213 : Cond.methodLink RX10 158 yX10_readsReach ∈ GW := gwp 1213 (by decide +kernel) (by decide +kernel)
theorem g1215 : Cond.instanceMethod yX10_readsReach ∈ GW := gwp 1215 (by decide +kernel) (by decide +kernel)
theorem g1216 : Cond.code yX10_readsReach cX10_readsReach 4 (some .boolean) ∈ GW := gwp 1216 (by decide +kernel) (by decide +kernel)
theorem g1217 : Cond.methodLink RX10 142 yX10_kindBy ∈ GW := gwp 1217 (by decide +kernel) (by decide +kernel)
theorem g1218 : Cond.static yX10_kindBy ∈ GW := gwp 1218 (by decide +kernel) (by decide +kernel)
theorem g1219 : Cond.code yX10_kindBy cX10_kindBy 1 (some .int) ∈ GW := gwp 1219 (by decide +kernel) (by decide +kernel)
theorem g1220 : Cond.methodLink RX10 148 yX10_isGate ∈ GW := gwp 1220 (by decide +kernel) (by decide +kernel)
theorem g1221 : Cond.static yX10_isGate ∈ GW := gwp 1221 (by decide +kernel) (by decide +kernel)
theorem g1222 : Cond.code yX10_isGate cX10_isGate 1 (some .boolean) ∈ GW := gwp 1222 (by decide +kernel) (by decide +kernel)
theorem g1226 : Cond.code yX10_river cX10_river 4 (some .int) ∈ GW := gwp 1226 (by decide +kernel) (by decide +kernel)
theorem g1230 : Cond.code yX10_day cX10_day 2 (some .int) ∈ GW := gwp 1230 (by decide +kernel) (by decide +kernel)
theorem g1231 : Cond.methodLink RX10 209 yX10_canShut ∈ GW := gwp 1231 (by decide +kernel) (by decide +kernel)
theorem g1233 : Cond.instanceMethod yX10_canShut ∈ GW := gwp 1233 (by decide +kernel) (by decide +kernel)
theorem g1234 : Cond.code yX10_canShut cX10_canShut 2 (some .boolean) ∈ GW := gwp 1234 (by decide +kernel) (by decide +kernel)
theorem g1235 : Cond.methodLink RX10 176 yX10_gateSet ∈ GW := gwp 1235 (by decide +kernel) (by decide +kernel)
theorem g1237 : Cond.instanceMethod yX10_gateSet ∈ GW := gwp 1237 (by decide +kernel) (by decide +kernel)
theorem g1238 : Cond.code yX10_gateSet cX10_gateSet 3 (some .int) ∈ GW := gwp 1238 (by decide +kernel) (by decide +kernel)
theorem g1239 : Cond.methodLink RX10 212 yX10_dayTruly ∈ GW := gwp 1239 (by decide +kernel) (by decide +kernel)
theorem g1241 : Cond.instanceMethod yX10_dayTruly ∈ GW := gwp 1241 (by decide +kernel) (by decide +kernel)
theorem g1242 : Cond.code yX10_dayTruly cX10_dayTruly 2 (some .int) ∈ GW := gwp 1242 (by decide +kernel) (by decide +kernel)
theorem g1243 : Cond.methodLink RX10 180 yX10_write ∈ GW := gwp 1243 (by decide +kernel) (by decide +kernel)
theorem g1245 : Cond.instanceMethod yX10_write ∈ GW := gwp 1245 (by decide +kernel) (by decide +kernel)
theorem g1246 : Cond.code yX10_write cX10_write 4 none ∈ GW := gwp 1246 (by decide +kernel) (by decide +kernel)
theorem g1247 : Cond.methodLink RX10 206 yX10_pass ∈ GW := gwp 1247 (by decide +kernel) (by decide +kernel)
theorem g1249 : Cond.instanceMethod yX10_pass ∈ GW := gwp 1249 (by decide +kernel) (by decide +kernel)
theorem g1250 : Cond.code yX10_pass cX10_pass 5 (some .int) ∈ GW := gwp 1250 (by decide +kernel) (by decide +kernel)
theorem g1251 : Cond.methodLink RX10 200 yX10_runsFrom ∈ GW := gwp 1251 (by decide +kernel) (by decide +kernel)
theorem g1253 : Cond.instanceMethod yX10_runsFrom ∈ GW := gwp 1253 (by decide +kernel) (by decide +kernel)
theorem g1254 : Cond.code yX10_runsFrom cX10_runsFrom 4 (some .int) ∈ GW := gwp 1254 (by decide +kernel) (by decide +kernel)
theorem g1255 : Cond.methodLink RX10 187 yX10_has ∈ GW := gwp 1255 (by decide +kernel) (by decide +kernel)
theorem g1256 : Cond.static yX10_has ∈ GW := gwp 1256 (by decide +kernel) (by decide +kernel)
theorem g1257 : Cond.code yX10_has cX10_has 2 (some .boolean) ∈ GW := gwp 1257 (by decide +kernel) (by decide +kernel)
theorem g1258 : Cond.methodLink RX10 191 yX10_greater ∈ GW := gwp 1258 (by decide +kernel) (by decide +kernel)
theorem g1259 : Cond.static yX10_greater ∈ GW := gwp 1259 (by decide +kernel) (by decide +kernel)
theorem g1260 : Cond.code yX10_greater cX10_greater 2 (some .int) ∈ GW := gwp 1260 (by decide +kernel) (by decide +kernel)
theorem g1261 : Cond.methodLink RX10 203 yX10_grindsBy ∈ GW := gwp 1261 (by decide +kernel) (by decide +kernel)
theorem g1263 : Cond.instanceMethod yX10_grindsBy ∈ GW := gwp 1263 (by decide +kernel) (by decide +kernel)
theorem g1264 : Cond.code yX10_grindsBy cX10_grindsBy 3 (some .boolean) ∈ GW := gwp 1264 (by decide +kernel) (by decide +kernel)
theorem g1265 : Cond.methodLink RX10 194 yX10_isMill ∈ GW := gwp 1265 (by decide +kernel) (by decide +kernel)
theorem g1266 : Cond.static yX10_isMill ∈ GW := gwp 1266 (by decide +kernel) (by decide +kernel)
theorem g1267 : Cond.code yX10_isMill cX10_isMill 1 (some .boolean) ∈ GW := gwp 1267 (by decide +kernel) (by decide +kernel)
theorem g1271 : Cond.code yX10_undo cX10_undo 3 (some .int) ∈ GW := gwp 1271 (by decide +kernel) (by decide +kernel)
theorem g1272 : Cond.methodLink RX10 184 yX10_read ∈ GW := gwp 1272 (by decide +kernel) (by decide +kernel)
theorem g1274 : Cond.instanceMethod yX10_read ∈ GW := gwp 1274 (by decide +kernel) (by decide +kernel)
theorem g1275 : Cond.code yX10_read cX10_read 4 none ∈ GW := gwp 1275 (by decide +kernel) (by decide +kernel)
theorem g1279 : Cond.code yX10_keep cX10_keep 4 (some .int) ∈ GW := gwp 1279 (by decide +kernel) (by decide +kernel)
theorem g1283 : Cond.code yX10_on cX10_on 4 (some .int) ∈ GW := gwp 1283 (by decide +kernel) (by decide +kernel)
theorem g1287 : Cond.code yX10_reach cX10_reach 3 (some .int) ∈ GW := gwp 1287 (by decide +kernel) (by decide +kernel)
theorem g1288 : Cond.methodLink RX10 215 yX10_isReach ∈ GW := gwp 1288 (by decide +kernel) (by decide +kernel)
theorem g1290 : Cond.instanceMethod yX10_isReach ∈ GW := gwp 1290 (by decide +kernel) (by decide +kernel)
theorem g1291 : Cond.code yX10_isReach cX10_isReach 2 (some .boolean) ∈ GW := gwp 1291 (by decide +kernel) (by decide +kernel)
theorem g1292 : Cond.methodLink RX10 218 yX10_reachOf ∈ GW := gwp 1292 (by decide +kernel) (by decide +kernel)
theorem g1294 : Cond.instanceMethod yX10_reachOf ∈ GW := gwp 1294 (by decide +kernel) (by decide +kernel)
theorem g1295 : Cond.code yX10_reachOf cX10_reachOf 3 (some .int) ∈ GW := gwp 1295 (by decide +kernel) (by decide +kernel)
theorem g1299 : Cond.code yX10_mark cX10_mark 5 (some .int) ∈ GW := gwp 1299 (by decide +kernel) (by decide +kernel)
theorem g1300 : Cond.methodLink RX10 221 yX10_isA ∈ GW := gwp 1300 (by decide +kernel) (by decide +kernel)
theorem g1302 : Cond.instanceMethod yX10_isA ∈ GW := gwp 1302 (by decide +kernel) (by decide +kernel)
theorem g1303 : Cond.code yX10_isA cX10_isA 3 (some .boolean) ∈ GW := gwp 1303 (by decide +kernel) (by decide +kernel)
theorem g1307 : Cond.code yX10_weekday cX10_weekday 3 (some .int) ∈ GW := gwp 1307 (by decide +kernel) (by decide +kernel)
theorem g1308 : Cond.methodLink RX10 224 yX10_isDay ∈ GW := gwp 1308 (by decide +kernel) (by decide +kernel)
theorem g1309 : Cond.static yX10_isDay ∈ GW := gwp 1309 (by decide +kernel) (by decide +kernel)
theorem g1310 : Cond.code yX10_isDay cX10_isDay 1 (some .boolean) ∈ GW := gwp 1310 (by decide +kernel) (by decide +kernel)
theorem g1314 : Cond.code yX10_swap cX10_swap 4 (some .int) ∈ GW := gwp 1314 (by decide +kernel) (by decide +kernel)
theorem g1318 : Cond.code yX10_owns cX10_owns 2 (some .int) ∈ GW := gwp 1318 (by decide +kernel) (by decide +kernel)
theorem g1322 : Cond.code yX10_gates cX10_gates 1 (some .int) ∈ GW := gwp 1322 (by decide +kernel) (by decide +kernel)
theorem g1326 : Cond.code yX10_runs cX10_runs 3 (some .int) ∈ GW := gwp 1326 (by decide +kernel) (by decide +kernel)
theorem g1327 : Cond.methodLink RX10 227 yX10_begin ∈ GW := gwp 1327 (by decide +kernel) (by decide +kernel)
theorem g1329 : Cond.instanceMethod yX10_begin ∈ GW := gwp 1329 (by decide +kernel) (by decide +kernel)
theorem g1330 : Cond.code yX10_begin cX10_begin 1 none ∈ GW := gwp 1330 (by decide +kernel) (by decide +kernel)
theorem g1331 : Cond.methodLink RX10 230 yX10_back ∈ GW := gwp 1331 (by decide +kernel) (by decide +kernel)
theorem g1333 : Cond.instanceMethod yX10_back ∈ GW := gwp 1333 (by decide +kernel) (by decide +kernel)
theorem g1334 : Cond.code yX10_back cX10_back 1 none ∈ GW := gwp 1334 (by decide +kernel) (by decide +kernel)
theorem g1338 : Cond.code yX10_sea cX10_sea 6 (some .int) ∈ GW := gwp 1338 (by decide +kernel) (by decide +kernel)
theorem g1339 : Cond.methodLink RX10 233 yX10_askedPlan ∈ GW := gwp 1339 (by decide +kernel) (by decide +kernel)
theorem g1341 : Cond.instanceMethod yX10_askedPlan ∈ GW := gwp 1341 (by decide +kernel) (by decide +kernel)
theorem g1342 : Cond.code yX10_askedPlan cX10_askedPlan 4 (some .int) ∈ GW := gwp 1342 (by decide +kernel) (by decide +kernel)
theorem g1343 : Cond.methodLink RX10 236 yX10_groundMany ∈ GW := gwp 1343 (by decide +kernel) (by decide +kernel)
theorem g1345 : Cond.instanceMethod yX10_groundMany ∈ GW := gwp 1345 (by decide +kernel) (by decide +kernel)
theorem g1346 : Cond.code yX10_groundMany cX10_groundMany 3 (some .int) ∈ GW := gwp 1346 (by decide +kernel) (by decide +kernel)
theorem g1350 : Cond.code yX10_water cX10_water 5 (some .int) ∈ GW := gwp 1350 (by decide +kernel) (by decide +kernel)
theorem g1354 : Cond.code yX10_share cX10_share 6 (some .int) ∈ GW := gwp 1354 (by decide +kernel) (by decide +kernel)
theorem g1358 : Cond.code yX10_grinds cX10_grinds 4 (some .int) ∈ GW := gwp 1358 (by decide +kernel) (by decide +kernel)
theorem g1362 : Cond.code yX10_best cX10_best 8 (some .int) ∈ GW := gwp 1362 (by decide +kernel) (by decide +kernel)
theorem g1363 : Cond.methodLink RX10 246 yX10_setSets ∈ GW := gwp 1363 (by decide +kernel) (by decide +kernel)
theorem g1365 : Cond.instanceMethod yX10_setSets ∈ GW := gwp 1365 (by decide +kernel) (by decide +kernel)
theorem g1366 : Cond.code yX10_setSets cX10_setSets 3 none ∈ GW := gwp 1366 (by decide +kernel) (by decide +kernel)
theorem g1367 : Cond.methodLink RX10 249 yX10_plans ∈ GW := gwp 1367 (by decide +kernel) (by decide +kernel)
theorem g1369 : Cond.instanceMethod yX10_plans ∈ GW := gwp 1369 (by decide +kernel) (by decide +kernel)
theorem g1370 : Cond.code yX10_plans cX10_plans 4 (some .int) ∈ GW := gwp 1370 (by decide +kernel) (by decide +kernel)
theorem g1371 : Cond.methodLink RX10 242 yX10_setOf ∈ GW := gwp 1371 (by decide +kernel) (by decide +kernel)
theorem g1373 : Cond.instanceMethod yX10_setOf ∈ GW := gwp 1373 (by decide +kernel) (by decide +kernel)
theorem g1374 : Cond.code yX10_setOf cX10_setOf 6 (some .int) ∈ GW := gwp 1374 (by decide +kernel) (by decide +kernel)
theorem g1375 : Cond.methodLink RX10 252 yX10_layPlan ∈ GW := gwp 1375 (by decide +kernel) (by decide +kernel)
theorem g1377 : Cond.instanceMethod yX10_layPlan ∈ GW := gwp 1377 (by decide +kernel) (by decide +kernel)
theorem g1378 : Cond.code yX10_layPlan cX10_layPlan 5 none ∈ GW := gwp 1378 (by decide +kernel) (by decide +kernel)
theorem g1382 : Cond.code yX10_all cX10_all 10 (some .int) ∈ GW := gwp 1382 (by decide +kernel) (by decide +kernel)
theorem g1383 : Cond.methodLink RX10 255 yX10_millSet ∈ GW := gwp 1383 (by decide +kernel) (by decide +kernel)
theorem g1385 : Cond.instanceMethod yX10_millSet ∈ GW := gwp 1385 (by decide +kernel) (by decide +kernel)
theorem g1386 : Cond.code yX10_millSet cX10_millSet 3 (some .int) ∈ GW := gwp 1386 (by decide +kernel) (by decide +kernel)
theorem g1387 : Cond.constant RX10 258 (1048576) ∈ GW := gwp 1387 (by decide +kernel) (by decide +kernel)
theorem g1388 : Cond.methodLink RX10 259 yX10_bits ∈ GW := gwp 1388 (by decide +kernel) (by decide +kernel)
theorem g1389 : Cond.static yX10_bits ∈ GW := gwp 1389 (by decide +kernel) (by decide +kernel)
theorem g1390 : Cond.code yX10_bits cX10_bits 3 (some .int) ∈ GW := gwp 1390 (by decide +kernel) (by decide +kernel)
theorem g1394 : Cond.code yX10_most cX10_most 7 (some .int) ∈ GW := gwp 1394 (by decide +kernel) (by decide +kernel)
theorem g1398 : Cond.code yX10_worth cX10_worth 7 (some .int) ∈ GW := gwp 1398 (by decide +kernel) (by decide +kernel)
theorem g1402 : Cond.code yX10_duel cX10_duel 8 (some .int) ∈ GW := gwp 1402 (by decide +kernel) (by decide +kernel)
theorem g1403 : Cond.methodLink RX10 262 yX10_groundBy ∈ GW := gwp 1403 (by decide +kernel) (by decide +kernel)
theorem g1405 : Cond.instanceMethod yX10_groundBy ∈ GW := gwp 1405 (by decide +kernel) (by decide +kernel)
theorem g1406 : Cond.code yX10_groundBy cX10_groundBy 7 (some .int) ∈ GW := gwp 1406 (by decide +kernel) (by decide +kernel)
theorem g1410 : Cond.code yX10_ways cX10_ways 6 (some .int) ∈ GW := gwp 1410 (by decide +kernel) (by decide +kernel)
theorem g1411 : Cond.methodLink RX10 266 yX10_askedSea ∈ GW := gwp 1411 (by decide +kernel) (by decide +kernel)
theorem g1413 : Cond.instanceMethod yX10_askedSea ∈ GW := gwp 1413 (by decide +kernel) (by decide +kernel)
theorem g1414 : Cond.code yX10_askedSea cX10_askedSea 3 (some .int) ∈ GW := gwp 1414 (by decide +kernel) (by decide +kernel)
theorem g1415 : Cond.methodLink RX10 269 yX10_comesSo ∈ GW := gwp 1415 (by decide +kernel) (by decide +kernel)
theorem g1417 : Cond.instanceMethod yX10_comesSo ∈ GW := gwp 1417 (by decide +kernel) (by decide +kernel)
theorem g1418 : Cond.code yX10_comesSo cX10_comesSo 5 (some .boolean) ∈ GW := gwp 1418 (by decide +kernel) (by decide +kernel)
theorem g1419 : Cond.methodLink RX10 272 yX10_part ∈ GW := gwp 1419 (by decide +kernel) (by decide +kernel)
theorem g1421 : Cond.instanceMethod yX10_part ∈ GW := gwp 1421 (by decide +kernel) (by decide +kernel)
theorem g1422 : Cond.code yX10_part cX10_part 11 (some .int) ∈ GW := gwp 1422 (by decide +kernel) (by decide +kernel)
theorem g1426 : Cond.code yX10_first cX10_first 8 (some .int) ∈ GW := gwp 1426 (by decide +kernel) (by decide +kernel)
theorem g1430 : Cond.code yX10_kinds cX10_kinds 6 (some .int) ∈ GW := gwp 1430 (by decide +kernel) (by decide +kernel)
theorem g1431 : Cond.methodLink RX10 276 yX10_askedBook ∈ GW := gwp 1431 (by decide +kernel) (by decide +kernel)
theorem g1433 : Cond.instanceMethod yX10_askedBook ∈ GW := gwp 1433 (by decide +kernel) (by decide +kernel)
theorem g1434 : Cond.code yX10_askedBook cX10_askedBook 5 (some .int) ∈ GW := gwp 1434 (by decide +kernel) (by decide +kernel)
theorem g1435 : Cond.methodLink RX10 279 yX10_isSo ∈ GW := gwp 1435 (by decide +kernel) (by decide +kernel)
theorem g1437 : Cond.instanceMethod yX10_isSo ∈ GW := gwp 1437 (by decide +kernel) (by decide +kernel)
theorem g1438 : Cond.code yX10_isSo cX10_isSo 8 (some .boolean) ∈ GW := gwp 1438 (by decide +kernel) (by decide +kernel)
theorem g1442 : Cond.code yX10_measures cX10_measures 6 (some .int) ∈ GW := gwp 1442 (by decide +kernel) (by decide +kernel)
theorem g1446 : Cond.code yX10_mid cX10_mid 4 (some .int) ∈ GW := gwp 1446 (by decide +kernel) (by decide +kernel)
theorem g1447 : Cond.methodLink RX10 294 yX10_sums ∈ GW := gwp 1447 (by decide +kernel) (by decide +kernel)
theorem g1449 : Cond.instanceMethod yX10_sums ∈ GW := gwp 1449 (by decide +kernel) (by decide +kernel)
theorem g1450 : Cond.code yX10_sums cX10_sums 15 (some .int) ∈ GW := gwp 1450 (by decide +kernel) (by decide +kernel)
theorem g1451 : Cond.methodLink RX10 282 yX10_shutMany ∈ GW := gwp 1451 (by decide +kernel) (by decide +kernel)
theorem g1453 : Cond.instanceMethod yX10_shutMany ∈ GW := gwp 1453 (by decide +kernel) (by decide +kernel)
theorem g1454 : Cond.code yX10_shutMany cX10_shutMany 4 (some .int) ∈ GW := gwp 1454 (by decide +kernel) (by decide +kernel)
theorem g1455 : Cond.methodLink RX10 285 yX10_holds ∈ GW := gwp 1455 (by decide +kernel) (by decide +kernel)
theorem g1456 : Cond.static yX10_holds ∈ GW := gwp 1456 (by decide +kernel) (by decide +kernel)
theorem g1457 : Cond.code yX10_holds cX10_holds 6 (some .int) ∈ GW := gwp 1457 (by decide +kernel) (by decide +kernel)
theorem g1458 : Cond.methodLink RX10 288 yX10_power ∈ GW := gwp 1458 (by decide +kernel) (by decide +kernel)
theorem g1459 : Cond.static yX10_power ∈ GW := gwp 1459 (by decide +kernel) (by decide +kernel)
theorem g1460 : Cond.code yX10_power cX10_power 6 (some .long) ∈ GW := gwp 1460 (by decide +kernel) (by decide +kernel)
theorem g1461 : Cond.constantLong RX10 292 (12) ∈ GW := gwp 1461 (by decide +kernel) (by decide +kernel)
theorem g1465 : Cond.code yX10_odds cX10_odds 5 (some .int) ∈ GW := gwp 1465 (by decide +kernel) (by decide +kernel)
theorem g1469 : Cond.code yX10_lots cX10_lots 11 (some .int) ∈ GW := gwp 1469 (by decide +kernel) (by decide +kernel)
theorem g1470 : Cond.constant RX10 297 (2147483646) ∈ GW := gwp 1470 (by decide +kernel) (by decide +kernel)
theorem g1471 : Cond.constantLong RX10 298 (48271) ∈ GW := gwp 1471 (by decide +kernel) (by decide +kernel)
theorem g1472 : Cond.constantLong RX10 300 (2147483647) ∈ GW := gwp 1472 (by decide +kernel) (by decide +kernel)
theorem g1473 : Cond.constantLong RX10 302 (8) ∈ GW := gwp 1473 (by decide +kernel) (by decide +kernel)
theorem g1474 : Cond.constantLong RX10 304 (2) ∈ GW := gwp 1474 (by decide +kernel) (by decide +kernel)
theorem g1478 : Cond.code yX10_asked cX10_asked 1 (some .int) ∈ GW := gwp 1478 (by decide +kernel) (by decide +kernel)
theorem g1482 : Cond.code yX10_upper cX10_upper 1 (some .long) ∈ GW := gwp 1482 (by decide +kernel) (by decide +kernel)
theorem g1486 : Cond.code yX10_lower cX10_lower 1 (some .long) ∈ GW := gwp 1486 (by decide +kernel) (by decide +kernel)
theorem g1490 : Cond.code yX10_count cX10_count 2 (some .int) ∈ GW := gwp 1490 (by decide +kernel) (by decide +kernel)
theorem g1491 : Cond.methodLink RX10 309 yX10_tells ∈ GW := gwp 1491 (by decide +kernel) (by decide +kernel)
theorem g1493 : Cond.instanceMethod yX10_tells ∈ GW := gwp 1493 (by decide +kernel) (by decide +kernel)
theorem g1494 : Cond.code yX10_tells cX10_tells 4 (some .int) ∈ GW := gwp 1494 (by decide +kernel) (by decide +kernel)
theorem g1495 : Cond.methodLink RX10 306 yX10_there ∈ GW := gwp 1495 (by decide +kernel) (by decide +kernel)
theorem g1497 : Cond.instanceMethod yX10_there ∈ GW := gwp 1497 (by decide +kernel) (by decide +kernel)
theorem g1498 : Cond.code yX10_there cX10_there 4 (some .int) ∈ GW := gwp 1498 (by decide +kernel) (by decide +kernel)
theorem g1502 : Cond.code yX10_finding cX10_finding 1 (some .int) ∈ GW := gwp 1502 (by decide +kernel) (by decide +kernel)
theorem g1506 : Cond.code yX10_findings cX10_findings 2 (some .int) ∈ GW := gwp 1506 (by decide +kernel) (by decide +kernel)
theorem g1510 : Cond.code yX10_digest cX10_digest 3 (some .long) ∈ GW := gwp 1510 (by decide +kernel) (by decide +kernel)
theorem g1511 : Cond.constantLong RX10 320 (17) ∈ GW := gwp 1511 (by decide +kernel) (by decide +kernel)
theorem g1512 : Cond.methodLink RX10 317 yX10_mix ∈ GW := gwp 1512 (by decide +kernel) (by decide +kernel)
theorem g1514 : Cond.instanceMethod yX10_mix ∈ GW := gwp 1514 (by decide +kernel) (by decide +kernel)
theorem g1515 : Cond.code yX10_mix cX10_mix 2 none ∈ GW := gwp 1515 (by decide +kernel) (by decide +kernel)
theorem g1516 : Cond.constantLong RX10 312 (31) ∈ GW := gwp 1516 (by decide +kernel) (by decide +kernel)
theorem g1517 : Cond.methodLink RX10 322 yX10_mixRiver ∈ GW := gwp 1517 (by decide +kernel) (by decide +kernel)
theorem g1519 : Cond.instanceMethod yX10_mixRiver ∈ GW := gwp 1519 (by decide +kernel) (by decide +kernel)
theorem g1520 : Cond.code yX10_mixRiver cX10_mixRiver 3 none ∈ GW := gwp 1520 (by decide +kernel) (by decide +kernel)
end
section
/-! An abstract machine over the fixed cells of this system (no cell is made by it): values, a heap of ints, longs and references, instructions as functions. -/
abbrev AV : Type := Int32 ⊕ (Int64 ⊕ Option Nat)
abbrev iv (x : Int32) : AV := .inl x
abbrev jv (x : Int64) : AV := .inr (.inl x)
abbrev rv (o : Option Nat) : AV := .inr (.inr o)
/-- ints, longs, and which cells the course and the draft are -/
abbrev AH : Type := (Nat → Nat → Int32) × (Nat → Nat → Int64) × (Nat × Nat)
abbrev LO : Type := List (Option AV)
abbrev RES : Type := AV × AH
abbrev KT : Type := Nat → LO → List AV → AH → Option RES
abbrev INS : Type := KT → LO → List AV → AH → Option RES
abbrev ORC : Type := Nat → List AV → AH → Option RES
/-- a cell's shape: an array (0 ints, 1 booleans, 2 rows of ints, 3 Deeds) with its length; an object by its class -/
abbrev SHP : Type := (Nat × Nat) ⊕ Nat
def SH : List SHP := [.inr 9, .inr 8, .inl (2, 6), .inl (0, 40), .inl (0, 40), .inl (0, 40), .inl (0, 40), .inl (0, 40), .inl (0, 40), .inl (0, 6), .inr 8, .inl (2, 4), .inl (0, 60), .inl (0, 60), .inl (0, 60), .inl (0, 60), .inl (0, 4), .inr 7, .inl (0, 60), .inr 4, .inl (0, 6), .inl (0, 6), .inl (0, 6), .inl (0, 7), .inl (0, 6), .inr 3, .inl (0, 40), .inl (0, 40), .inl (3, 3), .inr 3, .inl (0, 40), .inl (0, 40), .inr 3, .inl (0, 40), .inl (0, 40), .inr 3, .inl (0, 40), .inl (0, 40), .inl (1, 3), .inr 0, .inl (0, 7), .inl (2, 5), .inl (0, 6), .inl (0, 6), .inl (0, 6), .inl (0, 6), .inl (0, 6), .inl (0, 6), .inr 5, .inl (0, 4), .inl (0, 4), .inl (0, 4), .inr 0, .inl (0, 7), .inl (2, 5), .inl (0, 6), .inl (0, 6), .inl (0, 6), .inl (0, 6), .inl (0, 6), .inl (0, 6), .inr 1, .inl (0, 4), .inr 0, .inl (0, 7), .inl (2, 5), .inl (0, 6), .inl (0, 6), .inl (0, 6), .inl (0, 6), .inl (0, 6), .inl (0, 6), .inl (0, 6), .inr 2, .inl (0, 6), .inl (0, 6), .inl (0, 6), .inl (0, 7), .inl (0, 7), .inl (0, 8), .inr 2, .inl (0, 6), .inl (0, 6), .inl (0, 6), .inl (0, 7), .inl (0, 7), .inl (0, 8), .inr 10, .inl (0, 6), .inl (0, 6), .inl (0, 240), .inl (0, 40), .inl (0, 4), .inl (0, 240), .inl (0, 7), .inl (0, 7), .inl (0, 6), .inl (0, 6), .inl (0, 6), .inl (0, 6), .inl (0, 6), .inl (0, 7), .inl (0, 14), .inl (0, 18), .inl (0, 1080), .inl (0, 3), .inl (0, 3321), .inl (0, 27), .inl (0, 6), .inl (0, 8)]
/-- lists read by place, without proofs -/
def lgt {α : Type} : List α → Nat → Option α
  | [], _ => none
  | a :: _, 0 => some a
  | _ :: t, n + 1 => lgt t n
/-- the references of a cell: they stay, but for the course and the draft of cell 0 -/
def RT : List (List (Option Nat)) := [[some 1, some 10, some 17, some 19, some 25, some 28, some 38, some 39, some 48, some 61, some 72, some 73, some 80, none, none, none, none], [none, some 2, some 9], [some 3, some 4, some 5, some 6, some 7, some 8], [], [], [], [], [], [], [], [none, some 11, some 16], [some 12, some 13, some 14, some 15], [], [], [], [], [], [some 18, none, none], [], [some 20, some 21, some 22, some 23, some 24], [], [], [], [], [], [none, some 26, some 27], [], [], [some 29, some 32, some 35], [none, some 30, some 31], [], [], [none, some 33, some 34], [], [], [none, some 36, some 37], [], [], [], [none, none, none, none, none, some 40, none, some 41, some 47], [], [some 42, some 43, some 44, some 45, some 46], [], [], [], [], [], [], [some 49, some 50, none, none, none, none, none, none, some 51, some 52], [], [], [], [none, none, none, none, none, some 53, none, some 54, some 60], [], [some 55, some 56, some 57, some 58, some 59], [], [], [], [], [], [], [some 62, none, none, none, none, none, none, some 63], [], [none, none, none, none, none, some 64, none, some 65, some 71], [], [some 66, some 67, some 68, some 69, some 70], [], [], [], [], [], [], [], [none, none, none, none, some 74, some 75, some 76, some 77, some 78, some 79], [], [], [], [], [], [], [none, none, none, none, some 81, some 82, some 83, some 84, some 85, some 86], [], [], [], [], [], [], [none, some 88, none, none, none, some 89, some 90, some 91, some 92, some 93, none, some 94, some 95, some 96, some 97, some 98, some 99, some 100, none, some 101, none, none, none, some 102, some 103, none, some 104, some 105, some 106, some 107, some 108, none, none, some 109, none, none], [], [], [], [], [], [], [], [], [], [], [], [], [], [], [], [], [], [], [], [], [], []]
def rt (a j : Nat) : Option Nat := match lgt RT a with
  | some l => (match lgt l j with
    | some o => o
    | none => none)
  | none => none
def RF (cd : Nat × Nat) (a j : Nat) : Option Nat := bif Nat.beq a 0 then (bif Nat.beq j 11 then some cd.1 else bif Nat.beq j 12 then some cd.2 else rt a j) else rt a j
def alO (a : Nat) : Option Nat := match lgt SH a with
  | some (.inl x) => some x.2
  | _ => none
def alen (t a : Nat) : Nat := match lgt SH a with
  | some (.inl x) => bif Nat.beq x.1 t then x.2 else 0
  | _ => 0
def okc (a ci : Nat) : Bool := match lgt SH a with
  | some (.inr c) => Nat.beq c ci
  | _ => false
def inb (i : Int32) (n : Nat) : Bool := !(decide (i < 0)) && decide (i.toNatClampNeg < n)
def wrC {α : Type} (I : Nat → Nat → α) (a : Nat) (f : Nat → α) : Nat → Nat → α := fun b => if b = a then f else I b
def up1 {α : Type} (f : Nat → α) (k : Nat) (x : α) : Nat → α := fun j => if j = k then x else f j
def wr {α : Type} (I : Nat → Nat → α) (a i : Nat) (v : α) : Nat → Nat → α := wrC I a (up1 (I a) i v)
def lg : LO → Nat → Option AV
  | [], _ => none
  | a :: _, 0 => a
  | _ :: t, n + 1 => lg t n
def lst : LO → Nat → Option AV → LO
  | [], _, _ => []
  | _ :: t, 0, v => v :: t
  | a :: t, n + 1, v => a :: lst t n v
def lkill (L : LO) : Nat → LO
  | 0 => L
  | j + 1 => match lg L j with
    | some (.inr (.inl _)) => lst L j none
    | _ => L
def ls1 (L : LO) (i : Nat) (v : AV) : LO := lst (lkill L i) i (some v)
def ls2 (L : LO) (i : Nat) (v : AV) : LO := lst (lst (lkill L i) i (some v)) (i + 1) none
def cat : AV → Nat
  | .inr (.inl _) => 2
  | _ => 1
def cats : List AV → Nat
  | [] => 0
  | a :: t => cat a + cats t
-- the typed answers of a call
def cI (o : ORC) (y : Nat) (as : List AV) (A : AH) : Option (Int32 × AH) := match o y as A with
  | some (.inl x, B) => some (x, B)
  | _ => none
def cJ (o : ORC) (y : Nat) (as : List AV) (A : AH) : Option (Int64 × AH) := match o y as A with
  | some (.inr (.inl x), B) => some (x, B)
  | _ => none
def cV (o : ORC) (y : Nat) (as : List AV) (A : AH) : Option AH := match o y as A with
  | some (.inr (.inr none), B) => some B
  | _ => none
def rcv (as : List AV) (ci : Nat) : Bool := match as with
  | .inr (.inr (some b)) :: _ => okc b ci
  | _ => false
-- instructions (nx: the next place)
def x_const (v : AV) (nx : Nat) : INS := fun k L st A => k nx L (v :: st) A
def x_iload (i nx : Nat) : INS := fun k L st A => match lg L i with
  | some (.inl x) => k nx L (iv x :: st) A
  | _ => none
def x_lload (i nx : Nat) : INS := fun k L st A => match lg L i with
  | some (.inr (.inl x)) => k nx L (jv x :: st) A
  | _ => none
def x_aload (i nx : Nat) : INS := fun k L st A => match lg L i with
  | some (.inr (.inr x)) => k nx L (rv x :: st) A
  | _ => none
def x_istore (i nx : Nat) : INS := fun k L st A => match st with
  | .inl x :: r => k nx (ls1 L i (iv x)) r A
  | _ => none
def x_lstore (i nx : Nat) : INS := fun k L st A => match st with
  | .inr (.inl x) :: r => k nx (ls2 L i (jv x)) r A
  | _ => none
def x_astore (i nx : Nat) : INS := fun k L st A => match st with
  | .inr (.inr x) :: r => k nx (ls1 L i (rv x)) r A
  | _ => none
def x_iinc (i : Nat) (n : Int32) (nx : Nat) : INS := fun k L st A => match lg L i with
  | some (.inl x) => k nx (ls1 L i (iv (x + n))) st A
  | _ => none
def x_bin (f : Int32 → Int32 → Int32) (nx : Nat) : INS := fun k L st A => match st with
  | .inl y :: .inl x :: r => k nx L (iv (f x y) :: r) A
  | _ => none
def x_dv (f : Int32 → Int32 → Int32) (nx : Nat) : INS := fun k L st A => match st with
  | .inl y :: .inl x :: r => if y = 0 then none else k nx L (iv (f x y) :: r) A
  | _ => none
def x_binl (f : Int64 → Int64 → Int64) (nx : Nat) : INS := fun k L st A => match st with
  | .inr (.inl y) :: .inr (.inl x) :: r => k nx L (jv (f x y) :: r) A
  | _ => none
def x_dvl (f : Int64 → Int64 → Int64) (nx : Nat) : INS := fun k L st A => match st with
  | .inr (.inl y) :: .inr (.inl x) :: r => if y = 0 then none else k nx L (jv (f x y) :: r) A
  | _ => none
def x_lcmp (nx : Nat) : INS := fun k L st A => match st with
  | .inr (.inl y) :: .inr (.inl x) :: r => k nx L (iv (lg_cmp x y) :: r) A
  | _ => none
def x_un (f : Int32 → Int32) (nx : Nat) : INS := fun k L st A => match st with
  | .inl x :: r => k nx L (iv (f x) :: r) A
  | _ => none
def x_i2l (nx : Nat) : INS := fun k L st A => match st with
  | .inl x :: r => k nx L (jv x.toInt64 :: r) A
  | _ => none
def x_l2i (nx : Nat) : INS := fun k L st A => match st with
  | .inr (.inl x) :: r => k nx L (iv x.toInt32 :: r) A
  | _ => none
def x_dup (nx : Nat) : INS := fun k L st A => match st with
  | .inl x :: r => k nx L (iv x :: iv x :: r) A
  | .inr (.inr x) :: r => k nx L (rv x :: rv x :: r) A
  | _ => none
def x_pop (nx : Nat) : INS := fun k L st A => match st with
  | .inl _ :: r => k nx L r A
  | .inr (.inr _) :: r => k nx L r A
  | _ => none
def x_dup2 (nx : Nat) : INS := fun k L st A => match st with
  | .inl i :: .inr (.inr o) :: r => k nx L (iv i :: rv o :: iv i :: rv o :: r) A
  | _ => none
def x_goto (tgt : Nat) : INS := fun k L st A => k tgt L st A
def x_ifeq (tgt nx : Nat) : INS := fun k L st A => match st with
  | .inl x :: r => if x = 0 then k tgt L r A else k nx L r A
  | _ => none
def x_ifne (tgt nx : Nat) : INS := fun k L st A => match st with
  | .inl x :: r => if x = 0 then k nx L r A else k tgt L r A
  | _ => none
def x_iflt (tgt nx : Nat) : INS := fun k L st A => match st with
  | .inl x :: r => if x < 0 then k tgt L r A else k nx L r A
  | _ => none
def x_ifge (tgt nx : Nat) : INS := fun k L st A => match st with
  | .inl x :: r => if 0 ≤ x then k tgt L r A else k nx L r A
  | _ => none
def x_ifgt (tgt nx : Nat) : INS := fun k L st A => match st with
  | .inl x :: r => if 0 < x then k tgt L r A else k nx L r A
  | _ => none
def x_ifle (tgt nx : Nat) : INS := fun k L st A => match st with
  | .inl x :: r => if x ≤ 0 then k tgt L r A else k nx L r A
  | _ => none
def x_ceq (tgt nx : Nat) : INS := fun k L st A => match st with
  | .inl y :: .inl x :: r => if x = y then k tgt L r A else k nx L r A
  | _ => none
def x_cne (tgt nx : Nat) : INS := fun k L st A => match st with
  | .inl y :: .inl x :: r => if x = y then k nx L r A else k tgt L r A
  | _ => none
def x_clt (tgt nx : Nat) : INS := fun k L st A => match st with
  | .inl y :: .inl x :: r => if x < y then k tgt L r A else k nx L r A
  | _ => none
def x_cge (tgt nx : Nat) : INS := fun k L st A => match st with
  | .inl y :: .inl x :: r => if y ≤ x then k tgt L r A else k nx L r A
  | _ => none
def x_cgt (tgt nx : Nat) : INS := fun k L st A => match st with
  | .inl y :: .inl x :: r => if y < x then k tgt L r A else k nx L r A
  | _ => none
def x_cle (tgt nx : Nat) : INS := fun k L st A => match st with
  | .inl y :: .inl x :: r => if x ≤ y then k tgt L r A else k nx L r A
  | _ => none
def x_ifnull (tgt nx : Nat) : INS := fun k L st A => match st with
  | .inr (.inr o) :: r => match o with
    | none => k tgt L r A
    | some _ => k nx L r A
  | _ => none
def swk (k : Nat → Option RES) (x : Int32) (d : Nat) : List (Int32 × Nat) → Option RES
  | [] => k d
  | c :: cs => if x = c.1 then k c.2 else swk k x d cs
def x_sw (cs : List (Int32 × Nat)) (d : Nat) : INS := fun k L st A => match st with
  | .inl x :: r => swk (fun t => k t L r A) x d cs
  | _ => none
def x_getI (ci j nx : Nat) : INS := fun k L st A => match st with
  | .inr (.inr o) :: r => o.bind fun a => if okc a ci then k nx L (iv (A.1 a j) :: r) A else none
  | _ => none
def x_getJ (ci j nx : Nat) : INS := fun k L st A => match st with
  | .inr (.inr o) :: r => o.bind fun a => if okc a ci then k nx L (jv (A.2.1 a j) :: r) A else none
  | _ => none
def x_getR (ci j nx : Nat) : INS := fun k L st A => match st with
  | .inr (.inr o) :: r => o.bind fun a => if okc a ci then k nx L (rv (RF A.2.2 a j) :: r) A else none
  | _ => none
def x_putI (ci j nx : Nat) : INS := fun k L st A => match st with
  | .inl v :: .inr (.inr o) :: r => o.bind fun a => if okc a ci then k nx L r (wr A.1 a j v, A.2.1, A.2.2) else none
  | _ => none
def x_putJ (ci j nx : Nat) : INS := fun k L st A => match st with
  | .inr (.inl v) :: .inr (.inr o) :: r => o.bind fun a => if okc a ci then k nx L r (A.1, wr A.2.1 a j v, A.2.2) else none
  | _ => none
def x_putC (nx : Nat) : INS := fun k L st A => match st with
  | .inr (.inr v) :: .inr (.inr o) :: r => o.bind fun a => v.bind fun b => bif Nat.beq a 0 then k nx L r (A.1, A.2.1, b, A.2.2.2) else none
  | _ => none
def x_putD (nx : Nat) : INS := fun k L st A => match st with
  | .inr (.inr v) :: .inr (.inr o) :: r => o.bind fun a => v.bind fun b => bif Nat.beq a 0 then k nx L r (A.1, A.2.1, A.2.2.1, b) else none
  | _ => none
def x_ald (t nx : Nat) : INS := fun k L st A => match st with
  | .inl i :: .inr (.inr o) :: r => o.bind fun a => if inb i (alen t a) then k nx L (iv (A.1 a i.toNatClampNeg) :: r) A else none
  | _ => none
def x_aald (t nx : Nat) : INS := fun k L st A => match st with
  | .inl i :: .inr (.inr o) :: r => o.bind fun a => if inb i (alen t a) then k nx L (rv (RF A.2.2 a i.toNatClampNeg) :: r) A else none
  | _ => none
def x_iast (nx : Nat) : INS := fun k L st A => match st with
  | .inl v :: .inl i :: .inr (.inr o) :: r => o.bind fun a => if inb i (alen 0 a) then k nx L r (wr A.1 a i.toNatClampNeg v, A.2.1, A.2.2) else none
  | _ => none
def x_zast (nx : Nat) : INS := fun k L st A => match st with
  | .inl v :: .inl i :: .inr (.inr o) :: r => o.bind fun a => if inb i (alen 1 a) then k nx L r (wr A.1 a i.toNatClampNeg (vp_nar .boolean v), A.2.1, A.2.2) else none
  | _ => none
def x_alen (nx : Nat) : INS := fun k L st A => match st with
  | .inr (.inr o) :: r => o.bind fun a => (alO a).bind fun n => k nx L (iv (nI n) :: r) A
  | _ => none
def okcp (s d : Nat) (sp dp n : Int32) : Bool := decide (¬ sp < 0) && decide (¬ dp < 0) && decide (¬ n < 0) && decide (sp.toNatClampNeg + n.toNatClampNeg ≤ alen 0 s) && decide (dp.toNatClampNeg + n.toNatClampNeg ≤ alen 0 d) && decide (0 < alen 0 s) && decide (0 < alen 0 d)
def x_copy (nx : Nat) : INS := fun k L st A => match st with
  | .inl n :: .inl dp :: .inr (.inr q) :: .inl sp :: .inr (.inr o) :: r => o.bind fun s => q.bind fun d => if okcp s d sp dp n then (bif Nat.ble (cats r) 8 then k nx L r (wrC A.1 d (va_cpy (A.1 s) (A.1 d) sp.toNatClampNeg dp.toNatClampNeg n.toNatClampNeg), A.2.1, A.2.2) else none) else none
  | _ => none
def okst (n : Nat) (st : List AV) : Bool := Nat.ble n st.length && Nat.ble (cats (st.drop n)) 8
def x_sI (o : ORC) (y n nx : Nat) : INS := fun k L st A => bif okst n st then (cI o y (st.take n).reverse A).bind fun r => k nx L (iv r.1 :: st.drop n) r.2 else none
def x_sJ (o : ORC) (y n nx : Nat) : INS := fun k L st A => bif okst n st then (cJ o y (st.take n).reverse A).bind fun r => k nx L (jv r.1 :: st.drop n) r.2 else none
def x_vI (o : ORC) (y ci n nx : Nat) : INS := fun k L st A => bif okst n st then (if rcv (st.take n).reverse ci then (cI o y (st.take n).reverse A).bind fun r => k nx L (iv r.1 :: st.drop n) r.2 else none) else none
def x_vJ (o : ORC) (y ci n nx : Nat) : INS := fun k L st A => bif okst n st then (if rcv (st.take n).reverse ci then (cJ o y (st.take n).reverse A).bind fun r => k nx L (jv r.1 :: st.drop n) r.2 else none) else none
def x_vV (o : ORC) (y ci n nx : Nat) : INS := fun k L st A => bif okst n st then (if rcv (st.take n).reverse ci then (cV o y (st.take n).reverse A).bind fun B => k nx L (st.drop n) B else none) else none
def x_iret : INS := fun _ _ st A => match st with
  | [.inl x] => some (iv x, A)
  | _ => none
def x_zret : INS := fun _ _ st A => match st with
  | [.inl x] => if x = 1 then some (iv 1, A) else if x = 0 then some (iv 0, A) else none
  | _ => none
def x_lret : INS := fun _ _ st A => match st with
  | [.inr (.inl x)] => some (jv x, A)
  | _ => none
def x_vret : INS := fun _ _ st A => match st with
  | [] => some (rv none, A)
  | _ => none
-- code, and its runs
abbrev COD : Type := List (Nat × List (Nat × INS))
def lk1 (pc : Nat) : List (Nat × INS) → Option INS
  | [] => none
  | c :: cs => bif Nat.beq c.1 pc then some c.2 else lk1 pc cs
def lk (pc : Nat) : COD → Option INS
  | [] => none
  | c :: cs => bif Nat.blt pc c.1 then lk1 pc c.2 else lk pc cs
def elem (n : Nat) : List Nat → Bool
  | [] => false
  | c :: cs => bif Nat.beq c n then true else elem n cs
def cutAt (n : Nat) : List (Nat × List Nat) → Option (List Nat)
  | [] => none
  | c :: cs => bif Nat.beq c.1 n then some c.2 else cutAt n cs
/-- only the locals that are still wanted -/
def keepL (lv : List Nat) : Nat → LO → LO
  | _, [] => []
  | n, a :: t => (bif elem n lv then a else none) :: keepL lv (n + 1) t
def run (C : COD) (cuts : List (Nat × List Nat)) (K : Nat → LO → AH → Option RES) : Nat → KT
  | 0 => fun _ _ _ _ => none
  | f + 1 => fun pc L st A => match cutAt pc cuts with
    | some lv => (match st with
      | [] => K pc (keepL lv 0 L) A
      | _ => none)
    | none => match lk pc C with
      | some i => i (run C cuts K f) L st A
      | none => none
def exec (C : COD) (cuts : List (Nat × List Nat)) : Nat → Nat → LO → AH → Option RES
  | 0 => fun _ _ _ => none
  | N + 1 => fun pc L A => match lk pc C with
    | some i => i (run C cuts (exec C cuts N) 400) L [] A
    | none => none
/-- the locals at the entry -/
def ent : List AV → LO
  | [] => []
  | .inr (.inl x) :: t => some (jv x) :: none :: ent t
  | a :: t => some a :: ent t
def padL (n : Nat) (L : LO) : LO := L ++ List.replicate (n - L.length) none
end
section
/-! The abstract machine's soundness: each instruction, by the kit's rows. -/
def TYS : Nat → FieldType
  | 0 => .int
  | 1 => .boolean
  | 2 => .array .int
  | _ => .object "RiverDays$Deeds"
def CLS : List vw_C := [(RX0, TX0, 9), (RX1, TX1, 8), (RX2, TX2, 10), (RX3, TX3, 3), (RX4, TX4, 5), (RX5, TX5, 10), (RX6, TX6, 0), (RX7, TX7, 3), (RX8, TX8, 3), (RX9, TX9, 17), (RX10, TX10, 36)]
/-- a class's fields: 0 int, 1 long, 2 reference -/
def FK : List (List Nat) := [[0, 0, 0, 0, 0, 2, 0, 2, 2], [2, 1, 1, 1, 0, 0, 0, 2], [0, 0, 0, 0, 2, 2, 2, 2, 2, 2], [0, 2, 2], [2, 2, 2, 2, 2], [2, 2, 0, 0, 0, 0, 0, 0, 2, 2], [], [2, 0, 0], [0, 2, 2], [2, 2, 2, 2, 2, 2, 2, 2, 2, 2, 2, 2, 2, 0, 0, 1, 1], [0, 2, 0, 1, 1, 2, 2, 2, 2, 2, 0, 2, 2, 2, 2, 2, 2, 2, 0, 2, 0, 0, 0, 2, 2, 0, 2, 2, 2, 2, 2, 0, 0, 2, 0, 1]]
abbrev LAM : Type := Nat → Nat × ClassId
def adr (Λ : LAM) (o : Option Nat) : Option Nat := o.map (fun a => (Λ a).1)
def cv (Λ : LAM) : AV → Value
  | .inl x => .int x
  | .inr (.inl x) => .long x
  | .inr (.inr o) => va_rf (adr Λ o)
def fldv (Λ : LAM) (A : AH) (k j : Nat) : Nat → Value
  | 0 => .int (A.1 k j)
  | 1 => .long (A.2.1 k j)
  | _ => va_rf (adr Λ (RF A.2.2 k j))
def flds (Λ : LAM) (A : AH) (k ci : Nat) : List Value := ((lgt FK ci).getD []).mapIdx (fun j t => fldv Λ A k j t)
def cellOf (Λ : LAM) (A : AH) (k : Nat) : SHP → va_E
  | .inl x => .inl ((Λ k).2, x.2, bif Nat.ble x.1 1 then .inl (A.1 k) else .inr (.inr (.inr (.inr (fun i => adr Λ (RF A.2.2 k i))))))
  | .inr ci => .inr (ci, flds Λ A k ci)
def WD (Λ : LAM) (A : AH) : va_W := SH.mapIdx (fun k s => ((Λ k).1, cellOf Λ A k s))
theorem lgt_eq {α : Type} : ∀ (l : List α) (n : Nat), lgt l n = l[n]?
  | [], n => by simp [lgt]
  | a :: t, 0 => by simp [lgt]
  | a :: t, n + 1 => by simp [lgt, lgt_eq t n]
theorem WD_at {Λ : LAM} {A : AH} {k : Nat} {s : SHP} (h : lgt SH k = some s) : (WD Λ A)[k]? = some ((Λ k).1, cellOf Λ A k s) := by
  rw [lgt_eq] at h
  simp [WD, List.getElem?_mapIdx, h]
theorem WD_set {Λ : LAM} {A B : AH} {a : Nat} {s : SHP} (h : lgt SH a = some s) (hk : ∀ k s', k ≠ a → cellOf Λ B k s' = cellOf Λ A k s') : (WD Λ A).set a ((Λ a).1, cellOf Λ B a s) = WD Λ B := by
  rw [lgt_eq] at h
  apply List.ext_getElem?
  intro k
  by_cases e : k = a
  · subst e
    have hl := (List.getElem?_eq_some_iff.mp h).1
    rw [List.getElem?_set_self (by simpa [WD] using hl)]
    simp [WD, List.getElem?_mapIdx, h]
  · rw [List.getElem?_set_ne (Ne.symm e)]
    simp only [WD, List.getElem?_mapIdx]
    cases hs : SH[k]? with
    | none => rfl
    | some s' => simp [hk k s' e]
theorem WD_D {Λ : LAM} {A B : AH} {F G : Nat → Prop} (h : va_D F (WD Λ A)) (hg : ∀ q, F q → G q) : va_D G (WD Λ B) := by
  have key : ∀ (k : Nat) (q : Nat × va_E), (WD Λ B)[k]? = some q → ∃ q', (WD Λ A)[k]? = some q' ∧ q'.1 = q.1 := by
    intro k q hq
    simp only [WD, List.getElem?_mapIdx] at hq ⊢
    cases hs : SH[k]? with
    | none => rw [hs] at hq; cases hq
    | some s' => rw [hs] at hq; cases hq; exact ⟨_, rfl, rfl⟩
  refine ⟨fun i j x y hi hj hxy => ?_, fun k q hk => ?_⟩
  · obtain ⟨x', h1, h2⟩ := key i x hi
    obtain ⟨y', h3, h4⟩ := key j y hj
    exact h.1 i j x' y' h1 h3 (h2.trans (hxy.trans h4.symm))
  · obtain ⟨q', h1, h2⟩ := key k q hk
    rw [← h2]
    exact hg _ (h.2 k q' h1)
theorem wrC_s {α : Type} {I : Nat → Nat → α} {a : Nat} {f : Nat → α} : wrC I a f a = f := if_pos rfl
theorem wrC_n {α : Type} {I : Nat → Nat → α} {a b : Nat} {f : Nat → α} (h : b ≠ a) : wrC I a f b = I b := if_neg h
-- facts of the tables that stay
def NW (U : State) : Prop := va_Nw (.methodLinkNest "RiverDays$Flow" 50 yX9_isVillage "RiverDays") U ∧ va_Nw (.methodLinkNest "RiverDays$Aside" 62 yX9_isVillage "RiverDays") U
def KD (D : va_G) (Λ : LAM) (U : State) : Prop := va_K D CLS [] U ∧ (∀ k t n, lgt SH k = some (.inl (t, n)) → va_K D CLS [((Λ k).2, TYS t)] U) ∧ NW U
theorem KD.warm {D : va_G} {Λ : LAM} {s U : State} (hW : s.WarmedH U.vm) (h : KD D Λ s) : KD D Λ U := ⟨va_K.moved hW.alike h.1, fun k t n e => va_K.moved hW.alike (h.2.1 k t n e), va_Nw.warmM hW h.2.2.1, va_Nw.warmM hW h.2.2.2⟩
theorem KD.call {D : va_G} {Λ : LAM} {U : State} {g : JFrame} {mk : MethodId} {a : Array Value} (h : KD D Λ U) : KD D Λ (U.calling g mk a) := ⟨va_K.moved (u := U) (U := U.calling g mk a) (Vm.Alike.refl U.vm) h.1, fun k t n e => va_K.moved (u := U) (U := U.calling g mk a) (Vm.Alike.refl U.vm) (h.2.1 k t n e), va_Nw.same rfl rfl h.2.2.1, va_Nw.same rfl rfl h.2.2.2⟩
-- locals
def LH (Λ : LAM) (ls : Array Slot) (nL : Nat) (L : LO) : Prop := ls.size = nL ∧ lv_wf ls ∧ ∀ (i : Nat) (v : AV), lg L i = some v → ls[i]? = some (.val (cv Λ v))
def tl (Λ : LAM) : Nat → LO → List (Nat × Value)
  | _, [] => []
  | n, none :: t => tl Λ (n + 1) t
  | n, some v :: t => (n, cv Λ v) :: tl Λ (n + 1) t
theorem tl_mem {Λ : LAM} : ∀ (L : LO) (n i : Nat) (v : AV), lg L i = some v → (n + i, cv Λ v) ∈ tl Λ n L
  | [], _, _, _, h => by simp [lg] at h
  | none :: t, n, 0, v, h => by simp [lg] at h
  | some w :: t, n, 0, v, h => by
    have e : w = v := by simpa [lg] using h
    subst e
    exact List.mem_cons_self
  | none :: t, n, i + 1, v, h => by
    have := tl_mem (Λ := Λ) t (n + 1) i v h
    rw [show n + (i + 1) = n + 1 + i by omega]
    exact this
  | some w :: t, n, i + 1, v, h => by
    have := tl_mem (Λ := Λ) t (n + 1) i v h
    rw [show n + (i + 1) = n + 1 + i by omega]
    exact List.mem_cons_of_mem _ this
theorem tl_of {Λ : LAM} : ∀ (L : LO) (n : Nat) (q : Nat × Value), q ∈ tl Λ n L → ∃ (i : Nat) (v : AV), q = (n + i, cv Λ v) ∧ lg L i = some v
  | [], _, _, h => by cases h
  | none :: t, n, q, h => by
    obtain ⟨i, v, e, hl⟩ := tl_of t (n + 1) q h
    exact ⟨i + 1, v, by rw [e, show n + 1 + i = n + (i + 1) by omega], hl⟩
  | some w :: t, n, q, h => by
    rcases List.mem_cons.mp h with h | h
    · exact ⟨0, w, h, rfl⟩
    · obtain ⟨i, v, e, hl⟩ := tl_of t (n + 1) q h
      exact ⟨i + 1, v, by rw [e, show n + 1 + i = n + (i + 1) by omega], hl⟩
theorem LH.to {Λ : LAM} {ls : Array Slot} {nL : Nat} {L : LO} (h : LH Λ ls nL L) : lv_has ls nL (tl Λ 0 L) := ⟨h.1, h.2.1, fun q hq => by
  obtain ⟨i, v, e, hl⟩ := tl_of L 0 q hq
  rw [e, Nat.zero_add]
  exact h.2.2 i v hl⟩
theorem lg_lst : ∀ (L : LO) (i j : Nat) (x : Option AV), lg (lst L i x) j = if j = i ∧ i < L.length then x else lg L j
  | [], i, j, x => by simp [lst, lg]
  | a :: t, 0, 0, x => by simp [lst, lg]
  | a :: t, 0, j + 1, x => by simp [lst, lg]
  | a :: t, i + 1, 0, x => by simp [lst, lg]
  | a :: t, i + 1, j + 1, x => by simp [lst, lg, lg_lst t i j x]
theorem lg_kill {L : LO} {i j : Nat} {v : AV} (h : lg (lkill L i) j = some v) : lg L j = some v ∧ ¬ (j + 1 = i ∧ cat v = 2) := by
  cases i with
  | zero => exact ⟨h, by omega⟩
  | succ i =>
    by_cases e : j = i
    · subst e
      have h' := h
      simp only [lkill] at h'
      split at h'
      · next x hx =>
        rw [lg_lst] at h'
        split at h'
        · cases h'
        · next hn =>
          rw [h'] at hx
          exact absurd ⟨rfl, by
            rcases Nat.lt_or_ge j L.length with q | q
            · exact q
            · exfalso
              have : ∀ (L : LO) (j : Nat), L.length ≤ j → lg L j = none := by
                intro L
                induction L with
                | nil => intro j _; simp [lg]
                | cons a t ih => intro j hj; cases j with
                  | zero => simp at hj
                  | succ j => exact ih j (by simpa using hj)
              rw [this L j q] at h'
              cases h'⟩ hn
      · next hx =>
        refine ⟨h', fun q => ?_⟩
        match v, q.2, h' with
        | .inr (.inl x), _, h' => exact hx x h'
    · refine ⟨?_, fun q => e (by omega)⟩
      simp only [lkill] at h
      split at h
      · rw [lg_lst, if_neg (fun q => e q.1)] at h
        exact h
      · exact h
theorem cv_cat (Λ : LAM) (v : AV) : (cv Λ v).category = cat v := by
  rcases v with x | x | (_ | x) <;> rfl
theorem LH.st1 {Λ : LAM} {ls : Array Slot} {nL : Nat} {L : LO} {i : Nat} {v : AV} (h : lv_has ls nL ((i, cv Λ v) :: (tl Λ 0 L).filter (fun q => !(q.1 == i) && !(q.1 + 1 == i && q.2.category == 2)))) : LH Λ ls nL (ls1 L i v) := by
  refine ⟨h.1, h.2.1, fun j w hj => ?_⟩
  rw [ls1, lg_lst] at hj
  split at hj
  · next e =>
    cases hj
    rw [e.1]
    exact h.2.2 _ List.mem_cons_self
  · next e =>
    obtain ⟨h1, h2⟩ := lg_kill hj
    by_cases eji : j = i
    · exfalso
      subst eji
      have hlen : (lkill L j).length = L.length := by
        have hl : ∀ (L : LO) (i : Nat) (x : Option AV), (lst L i x).length = L.length := by
          intro L
          induction L with
          | nil => intro i x; rfl
          | cons a t ih => intro i x; cases i with
            | zero => rfl
            | succ i => simp [lst, ih]
        cases j with
        | zero => rfl
        | succ j =>
          simp only [lkill]
          split
          · exact hl _ _ _
          · rfl
      have hno : ∀ (L : LO) (j : Nat), L.length ≤ j → lg L j = none := by
        intro L
        induction L with
        | nil => intro j _; simp [lg]
        | cons a t ih => intro j hj; cases j with
          | zero => simp at hj
          | succ j => exact ih j (by simpa using hj)
      have : lg (lkill L j) j = none := hno _ _ (by
        rcases Nat.lt_or_ge j (lkill L j).length with q | q
        · exact absurd ⟨rfl, q⟩ e
        · exact q)
      rw [this] at hj
      cases hj
    · have hm := tl_mem (Λ := Λ) L 0 j w h1
      rw [Nat.zero_add] at hm
      refine h.2.2 (j, cv Λ w) (List.mem_cons_of_mem _ (List.mem_filter.mpr ⟨hm, ?_⟩))
      simp only [Bool.and_eq_true, Bool.not_eq_true', beq_eq_false_iff_ne, ne_eq, Bool.and_eq_false_iff]
      refine ⟨eji, ?_⟩
      by_cases e2 : j + 1 = i
      · right
        rw [cv_cat]
        exact fun q => h2 ⟨e2, q⟩
      · left
        exact e2
theorem LH.st2 {Λ : LAM} {ls : Array Slot} {nL : Nat} {L : LO} {i : Nat} {v : AV} (h : lv_has ls nL ((i, cv Λ v) :: (tl Λ 0 L).filter (fun q => !(q.1 == i) && (!(q.1 == i + 1) && !(q.1 + 1 == i && q.2.category == 2))))) : LH Λ ls nL (ls2 L i v) := by
  refine ⟨h.1, h.2.1, fun j w hj => ?_⟩
  rw [ls2, lg_lst] at hj
  have hl : ∀ (L : LO) (i : Nat) (x : Option AV), (lst L i x).length = L.length := by
    intro L
    induction L with
    | nil => intro i x; rfl
    | cons a t ih => intro i x; cases i with
      | zero => rfl
      | succ i => simp [lst, ih]
  have hno : ∀ (L : LO) (j : Nat), L.length ≤ j → lg L j = none := by
    intro L
    induction L with
    | nil => intro j _; simp [lg]
    | cons a t ih => intro j hj; cases j with
      | zero => simp at hj
      | succ j => exact ih j (by simpa using hj)
  split at hj
  · cases hj
  · next e1 =>
    have n1 : j ≠ i + 1 := by
      intro q
      subst q
      rw [hno _ _ (by
        rcases Nat.lt_or_ge (i + 1) (lst (lkill L i) i (some v)).length with z | z
        · exact absurd ⟨rfl, z⟩ e1
        · exact z)] at hj
      cases hj
    rw [lg_lst] at hj
    split at hj
    · next e =>
      cases hj
      rw [e.1]
      exact h.2.2 _ List.mem_cons_self
    · next e =>
      have n2 : j ≠ i := by
        intro q
        subst q
        rw [hno _ _ (by
          rcases Nat.lt_or_ge j (lkill L j).length with z | z
          · exact absurd ⟨rfl, z⟩ e
          · exact z)] at hj
        cases hj
      obtain ⟨h1, h2⟩ := lg_kill hj
      have hm := tl_mem (Λ := Λ) L 0 j w h1
      rw [Nat.zero_add] at hm
      refine h.2.2 (j, cv Λ w) (List.mem_cons_of_mem _ (List.mem_filter.mpr ⟨hm, ?_⟩))
      simp only [Bool.and_eq_true, Bool.not_eq_true', beq_eq_false_iff_ne, ne_eq, Bool.and_eq_false_iff]
      refine ⟨n2, n1, ?_⟩
      by_cases e2 : j + 1 = i
      · right
        rw [cv_cat]
        exact fun q => h2 ⟨e2, q⟩
      · left
        exact e2
theorem lg_keep {lv : List Nat} : ∀ (L : LO) (n i : Nat) (v : AV), lg (keepL lv n L) i = some v → lg L i = some v
  | [], _, _, _, h => by simp [keepL, lg] at h
  | a :: t, n, 0, v, h => by
    have h : (bif elem n lv then a else none) = some v := h
    cases hb : elem n lv with
    | true => rw [hb] at h; exact h
    | false => rw [hb] at h; cases h
  | a :: t, n, i + 1, v, h => lg_keep t (n + 1) i v h
theorem LH.keep {Λ : LAM} {ls : Array Slot} {nL : Nat} {L : LO} (lv : List Nat) (h : LH Λ ls nL L) : LH Λ ls nL (keepL lv 0 L) := ⟨h.1, h.2.1, fun i v hi => h.2.2 i v (lg_keep L 0 i v hi)⟩
theorem ent_args {Λ : LAM} : ∀ (as : List AV) (n i : Nat) (v : AV), lg (ent as) i = some v → (n + i, cv Λ v) ∈ lv_args n (as.map (cv Λ))
  | [], _, _, _, h => by simp [ent, lg] at h
  | .inl x :: t, n, 0, v, h => by
    have e : Sum.inl x = v := by simpa [ent, lg] using h
    subst e
    exact List.mem_cons_self
  | .inr (.inr x) :: t, n, 0, v, h => by
    have e : Sum.inr (Sum.inr x) = v := by simpa [ent, lg] using h
    subst e
    exact List.mem_cons_self
  | .inr (.inl x) :: t, n, 0, v, h => by
    have e : Sum.inr (Sum.inl x) = v := by simpa [ent, lg] using h
    subst e
    exact List.mem_cons_self
  | .inl x :: t, n, i + 1, v, h => by
    have := ent_args (Λ := Λ) t (n + 1) i v h
    rw [show n + (i + 1) = n + 1 + i by omega]
    exact List.mem_cons_of_mem _ this
  | .inr (.inr x) :: t, n, i + 1, v, h => by
    have := ent_args (Λ := Λ) t (n + 1) i v h
    rw [show n + (i + 1) = n + 1 + i by omega]
    refine List.mem_cons_of_mem _ ?_
    rw [if_neg (by rw [cv_cat]; simp [cat])]
    exact this
  | .inr (.inl x) :: t, n, 1, v, h => by simp [ent, lg] at h
  | .inr (.inl x) :: t, n, i + 2, v, h => by
    have := ent_args (Λ := Λ) t (n + 2) i v h
    rw [show n + (i + 2) = n + 2 + i by omega]
    exact List.mem_cons_of_mem _ this
theorem lg_pad (n : Nat) : ∀ (L : LO) (i : Nat) (v : AV), lg (padL n L) i = some v → lg L i = some v := by
  have hr : ∀ (k i : Nat) (v : AV), lg (List.replicate k (none : Option AV)) i ≠ some v := by
    intro k
    induction k with
    | zero => intro i v; simp [lg]
    | succ k ih => intro i v; cases i with
      | zero => simp [List.replicate_succ, lg]
      | succ i => simpa [List.replicate_succ, lg] using ih i v
  have key : ∀ (L : LO) (k i : Nat) (v : AV), lg (L ++ List.replicate k none) i = some v → lg L i = some v := by
    intro L
    induction L with
    | nil => intro k i v h; exact absurd h (hr k i v)
    | cons a t ih => intro k i v h; cases i with
      | zero => exact h
      | succ i => exact ih k i v h
  intro L i v h
  exact key L _ i v h
end
section
/-! the methods by number, and what a call of one gives -/
abbrev MIn : Type := MethodName × ByteArray × Nat × Option FieldType
def MT0 : List MIn := [(yJ6_bitCount_0f7a4, cJ6_bitCount_0f7a4, 1, (some .int)), (yJ9_floorMod_7cf53, cJ9_floorMod_7cf53, 3, (some .int)), (yJ9_max_7cf53, cJ9_max_7cf53, 2, (some .int)), (yJ9_min_7cf53, cJ9_min_7cf53, 2, (some .int)), (yX0_begin, cX0_begin, 4, none), (yX0_passOn, cX0_passOn, 5, none), (yX0_branch, cX0_branch, 4, none), (yX0_ownerOf, cX0_ownerOf, 3, (some .int)), (yX0_waterNow, cX0_waterNow, 2, (some .int)), (yX0_weekdayOf, cX0_weekdayOf, 2, (some .int)), (yX0_pass, cX0_pass, 6, none), (yX1_weigh, cX1_weigh, 8, none), (yX1_spread, cX1_spread, 12, none), (yX1_weightOf, cX1_weightOf, 3, (some .long)), (yX1_power, cX1_power, 5, (some .long)), (yX2_clear, cX2_clear, 1, none), (yX2_hasReach, cX2_hasReach, 2, (some .boolean)), (yX2_canShut, cX2_canShut, 2, (some .boolean)), (yX2_hasRoomFor, cX2_hasRoomFor, 3, (some .boolean)), (yX2_add, cX2_add, 4, none), (yX2_listSets, cX2_listSets, 2, none), (yX2_setByLot, cX2_setByLot, 5, (some .int)), (yX2_letRun, cX2_letRun, 5, none), (yX2_takeIn, cX2_takeIn, 6, none), (yX2_toSea, cX2_toSea, 2, (some .int)), (yX2_grindingBy, cX2_grindingBy, 4, (some .int)), (yX3_add, cX3_add, 3, none), (yX3_cutTo, cX3_cutTo, 2, none), (yX3_become, cX3_become, 2, none), (yX4_start, cX4_start, 3, none), (yX4_pass, cX4_pass, 7, (some .int)), (yX5_seek, cX5_seek, 6, none), (yX5_goDeeper, cX5_goDeeper, 6, none), (yX5_fits, cX5_fits, 3, (some .boolean)), (yX5_gain, cX5_gain, 3, (some .int)), (yX5_arrive, cX5_arrive, 2, none), (yX5_shutTogether, cX5_shutTogether, 3, (some .int)), (yX5_contest, cX5_contest, 5, (some .int)), (yX5_contend, cX5_contend, 7, (some .int)), (yX6_byLetter, cX6_byLetter, 1, (some .int))]
def MT1 : List MIn := [(yX6_isOf, cX6_isOf, 2, (some .boolean)), (yX6_runFrom, cX6_runFrom, 4, (some .int)), (yX6_settle, cX6_settle, 3, (some .int)), (yX6_grindsBy, cX6_grindsBy, 3, (some .boolean)), (yX6_signOf, cX6_signOf, 3, (some .int)), (yX7_read, cX7_read, 6, (some .int)), (yX7_takesWeek, cX7_takesWeek, 5, (some .boolean)), (yX7_takesReach, cX7_takesReach, 4, (some .boolean)), (yX7_onlyBlanksLeft, cX7_onlyBlanksLeft, 1, (some .boolean)), (yX7_seen, cX7_seen, 1, (some .int)), (yX7_seesFigure, cX7_seesFigure, 3, (some .boolean)), (yX7_skipBlanks, cX7_skipBlanks, 2, none), (yX8_isOne, cX8_isOne, 2, (some .boolean)), (yX8_isThere, cX8_isThere, 2, (some .boolean)), (yX8_sizeOf, cX8_sizeOf, 2, (some .int)), (yX8_holds, cX8_holds, 3, (some .boolean)), (yX8_holdsRun, cX8_holdsRun, 4, (some .boolean)), (yX8_valueAt, cX8_valueAt, 3, (some .int)), (yX8_change, cX8_change, 4, none), (yX8_make, cX8_make, 5, none), (yX8_take, cX8_take, 5, none), (yX8_giveTo, cX8_giveTo, 4, none), (yX8_drop, cX8_drop, 2, none), (yX8_transfer, cX8_transfer, 6, none), (yX8_sumOf, cX8_sumOf, 5, (some .long)), (yX8_allWithin, cX8_allWithin, 4, (some .boolean)), (yX8_howMany, cX8_howMany, 3, (some .int)), (yX8_mixInto, cX8_mixInto, 5, (some .long)), (yX9_row, cX9_row, 3, (some .int)), (yX9_lay, cX9_lay, 6, (some .int)), (yX9_at, cX9_at, 4, (some .int)), (yX9_tear, cX9_tear, 3, (some .int)), (yX9_copy, cX9_copy, 6, (some .int)), (yX9_mean, cX9_mean, 4, (some .int)), (yX9_text, cX9_text, 3, (some .int)), (yX9_put, cX9_put, 6, (some .int)), (yX9_fault, cX9_fault, 3, (some .int)), (yX9_river, cX9_river, 5, (some .int)), (yX9_reach, cX9_reach, 3, (some .int)), (yX9_mark, cX9_mark, 3, (some .int))]
def MT2 : List MIn := [(yX9_weekday, cX9_weekday, 3, (some .int)), (yX9_swap, cX9_swap, 4, (some .int)), (yX9_owns, cX9_owns, 2, (some .int)), (yX9_day, cX9_day, 2, (some .int)), (yX9_undo, cX9_undo, 3, (some .int)), (yX9_keep, cX9_keep, 2, (some .int)), (yX9_on, cX9_on, 2, (some .int)), (yX9_gates, cX9_gates, 1, (some .int)), (yX9_runs, cX9_runs, 2, (some .int)), (yX9_sea, cX9_sea, 3, (some .int)), (yX9_water, cX9_water, 4, (some .int)), (yX9_share, cX9_share, 4, (some .int)), (yX9_grinds, cX9_grinds, 3, (some .int)), (yX9_best, cX9_best, 4, (some .int)), (yX9_all, cX9_all, 4, (some .int)), (yX9_most, cX9_most, 4, (some .int)), (yX9_worth, cX9_worth, 7, (some .int)), (yX9_duel, cX9_duel, 3, (some .int)), (yX9_ways, cX9_ways, 3, (some .int)), (yX9_first, cX9_first, 4, (some .int)), (yX9_kinds, cX9_kinds, 6, (some .int)), (yX9_measures, cX9_measures, 6, (some .int)), (yX9_mid, cX9_mid, 4, (some .int)), (yX9_odds, cX9_odds, 5, (some .int)), (yX9_lots, cX9_lots, 7, (some .int)), (yX9_asked, cX9_asked, 1, (some .int)), (yX9_upper, cX9_upper, 1, (some .long)), (yX9_lower, cX9_lower, 1, (some .long)), (yX9_count, cX9_count, 2, (some .int)), (yX9_finding, cX9_finding, 1, (some .int)), (yX9_findings, cX9_findings, 2, (some .int)), (yX9_digest, cX9_digest, 5, (some .long)), (yX9_tell, cX9_tell, 2, (some .int)), (yX9_tellFraction, cX9_tellFraction, 7, none), (yX9_commonDivisor, cX9_commonDivisor, 7, (some .long)), (yX9_find, cX9_find, 2, (some .int)), (yX9_makeAnew, cX9_makeAnew, 5, (some .int)), (yX9_refuseMissing, cX9_refuseMissing, 3, (some .int)), (yX9_refusePlace, cX9_refusePlace, 5, (some .int)), (yX9_refuseSearch, cX9_refuseSearch, 4, (some .int))]
def MT3 : List MIn := [(yX9_refuseWithoutRiver, cX9_refuseWithoutRiver, 3, (some .int)), (yX9_refusePlan, cX9_refusePlan, 6, (some .int)), (yX9_refuseSeas, cX9_refuseSeas, 4, (some .int)), (yX9_refusePairs, cX9_refusePairs, 4, (some .int)), (yX9_isWeekday, cX9_isWeekday, 1, (some .boolean)), (yX9_isVillage, cX9_isVillage, 1, (some .boolean)), (yX9_isOfTwelve, cX9_isOfTwelve, 1, (some .boolean)), (yX9_passTruly, cX9_passTruly, 4, (some .int)), (yX9_replay, cX9_replay, 2, none), (yX9_readDraft, cX9_readDraft, 2, (some .int)), (yX9_followPlan, cX9_followPlan, 3, none), (yX9_groundWithout, cX9_groundWithout, 4, (some .int)), (yX9_agrees, cX9_agrees, 8, (some .boolean)), (yX9_ofReach, cX9_ofReach, 3, (some .int)), (yX9_counted, cX9_counted, 2, (some .int)), (yX9_keptRivers, cX9_keptRivers, 3, (some .int)), (yX9_sum, cX9_sum, 6, (some .int)), (yX10_in, cX10_in, 3, (some .boolean)), (yX10_meet, cX10_meet, 2, (some .int)), (yX10_ask, cX10_ask, 3, (some .int)), (yX10_has, cX10_has, 2, (some .boolean)), (yX10_greater, cX10_greater, 2, (some .int)), (yX10_part, cX10_part, 11, (some .int)), (yX10_isRow, cX10_isRow, 1, (some .boolean)), (yX10_isText, cX10_isText, 1, (some .boolean)), (yX10_askedRow, cX10_askedRow, 2, (some .int)), (yX10_askedText, cX10_askedText, 2, (some .int)), (yX10_rowAt, cX10_rowAt, 3, (some .int)), (yX10_setRow, cX10_setRow, 4, none), (yX10_row, cX10_row, 4, (some .int)), (yX10_at, cX10_at, 4, (some .int)), (yX10_lay, cX10_lay, 5, (some .int)), (yX10_tear, cX10_tear, 3, (some .int)), (yX10_copy, cX10_copy, 7, (some .int)), (yX10_mean, cX10_mean, 6, (some .int)), (yX10_text, cX10_text, 4, (some .int)), (yX10_put, cX10_put, 6, (some .int)), (yX10_here, cX10_here, 2, (some .int)), (yX10_skip, cX10_skip, 2, none), (yX10_figure, cX10_figure, 7, (some .boolean))]
def MT4 : List MIn := [(yX10_readsWeek, cX10_readsWeek, 6, (some .boolean)), (yX10_kindBy, cX10_kindBy, 1, (some .int)), (yX10_isGate, cX10_isGate, 1, (some .boolean)), (yX10_isMill, cX10_isMill, 1, (some .boolean)), (yX10_readsReach, cX10_readsReach, 4, (some .boolean)), (yX10_readsRiver, cX10_readsRiver, 2, (some .boolean)), (yX10_goesOn, cX10_goesOn, 2, (some .int)), (yX10_fault, cX10_fault, 3, (some .int)), (yX10_river, cX10_river, 4, (some .int)), (yX10_isReach, cX10_isReach, 2, (some .boolean)), (yX10_isDay, cX10_isDay, 1, (some .boolean)), (yX10_gateSet, cX10_gateSet, 3, (some .int)), (yX10_canShut, cX10_canShut, 2, (some .boolean)), (yX10_write, cX10_write, 4, none), (yX10_read, cX10_read, 4, none), (yX10_begin, cX10_begin, 1, none), (yX10_back, cX10_back, 1, none), (yX10_runsFrom, cX10_runsFrom, 4, (some .int)), (yX10_grindsBy, cX10_grindsBy, 3, (some .boolean)), (yX10_pass, cX10_pass, 5, (some .int)), (yX10_groundMany, cX10_groundMany, 3, (some .int)), (yX10_dayTruly, cX10_dayTruly, 2, (some .int)), (yX10_day, cX10_day, 2, (some .int)), (yX10_undo, cX10_undo, 3, (some .int)), (yX10_keep, cX10_keep, 4, (some .int)), (yX10_on, cX10_on, 4, (some .int)), (yX10_reachOf, cX10_reachOf, 3, (some .int)), (yX10_reach, cX10_reach, 3, (some .int)), (yX10_isA, cX10_isA, 3, (some .boolean)), (yX10_mark, cX10_mark, 5, (some .int)), (yX10_weekday, cX10_weekday, 3, (some .int)), (yX10_swap, cX10_swap, 4, (some .int)), (yX10_owns, cX10_owns, 2, (some .int)), (yX10_gates, cX10_gates, 1, (some .int)), (yX10_runs, cX10_runs, 3, (some .int)), (yX10_askedPlan, cX10_askedPlan, 4, (some .int)), (yX10_sea, cX10_sea, 6, (some .int)), (yX10_water, cX10_water, 5, (some .int)), (yX10_share, cX10_share, 6, (some .int)), (yX10_grinds, cX10_grinds, 4, (some .int))]
def MT5 : List MIn := [(yX10_setSets, cX10_setSets, 3, none), (yX10_plans, cX10_plans, 4, (some .int)), (yX10_setOf, cX10_setOf, 6, (some .int)), (yX10_layPlan, cX10_layPlan, 5, none), (yX10_bits, cX10_bits, 3, (some .int)), (yX10_best, cX10_best, 8, (some .int)), (yX10_millSet, cX10_millSet, 3, (some .int)), (yX10_all, cX10_all, 10, (some .int)), (yX10_most, cX10_most, 7, (some .int)), (yX10_worth, cX10_worth, 7, (some .int)), (yX10_groundBy, cX10_groundBy, 7, (some .int)), (yX10_duel, cX10_duel, 8, (some .int)), (yX10_askedSea, cX10_askedSea, 3, (some .int)), (yX10_comesSo, cX10_comesSo, 5, (some .boolean)), (yX10_ways, cX10_ways, 6, (some .int)), (yX10_first, cX10_first, 8, (some .int)), (yX10_askedBook, cX10_askedBook, 5, (some .int)), (yX10_isSo, cX10_isSo, 8, (some .boolean)), (yX10_kinds, cX10_kinds, 6, (some .int)), (yX10_measures, cX10_measures, 6, (some .int)), (yX10_shutMany, cX10_shutMany, 4, (some .int)), (yX10_holds, cX10_holds, 6, (some .int)), (yX10_power, cX10_power, 6, (some .long)), (yX10_sums, cX10_sums, 15, (some .int)), (yX10_mid, cX10_mid, 4, (some .int)), (yX10_odds, cX10_odds, 5, (some .int)), (yX10_lots, cX10_lots, 11, (some .int)), (yX10_asked, cX10_asked, 1, (some .int)), (yX10_upper, cX10_upper, 1, (some .long)), (yX10_lower, cX10_lower, 1, (some .long)), (yX10_there, cX10_there, 4, (some .int)), (yX10_tells, cX10_tells, 4, (some .int)), (yX10_count, cX10_count, 2, (some .int)), (yX10_finding, cX10_finding, 1, (some .int)), (yX10_findings, cX10_findings, 2, (some .int)), (yX10_mix, cX10_mix, 2, none), (yX10_mixRiver, cX10_mixRiver, 3, none), (yX10_digest, cX10_digest, 3, (some .long))]
def MT : List MIn := MT0 ++ (MT1 ++ (MT2 ++ (MT3 ++ (MT4 ++ (MT5)))))
def rmd (d : Nat) : Room := { frames := d, cells := 0, slots := 0, locals := 300 * d }
def cvr : AV → Option Value
  | .inl x => some (.int x)
  | .inr (.inl x) => some (.long x)
  | .inr (.inr _) => none
def QM (D : va_G) (Λ : LAM) (v : AV) (B : AH) (F : Nat → Prop) : Array Value → State → Outcome → State → Prop := fun _ st oc t => (oc = .returned (cvr v) ∧ va_P D CLS (WD Λ B) t.heap) ∧ va_F F st t
def PM (D : va_G) (Λ : LAM) (A : AH) (as : List AV) (sz : Nat) : Array Value → State → Prop := va_Pc (as.map (cv Λ)) (fun U => U.heap.size = sz ∧ va_P D CLS (WD Λ A) U.heap ∧ KD D Λ U ∧ va_D (fun _ => True) (WD Λ A))
def CON (l : Launch) (D : va_G) (Λ : LAM) (d y : Nat) (as : List AV) (A : AH) (v : AV) (B : AH) : Prop := ∀ i : MIn, lgt MT y = some i → ∀ sz : Nat, Met l i.1 (.code i.1 i.2.1 i.2.2.1 i.2.2.2 :: GW) (rmd d) (PM D Λ A as sz) (QM D Λ v B (va_A (WD Λ A) sz)) 0 0 (va_A (WD Λ A) sz)
def MF (i : MIn) (np : Nat) : Prop := Cond.code i.1 i.2.1 i.2.2.1 i.2.2.2 ∈ GW ∧ Cond.initialized i.1.cls ∈ GW ∧ (i.1.cls ≠ "java/lang/invoke/MethodHandle" ∧ i.1.cls ≠ "java/lang/invoke/VarHandle" ∧ (parseMethodDescriptor i.1.desc).map (fun d => d.parameters.length) = some np) ∧ i.2.2.1 ≤ 200
theorem gw_in {w : Cond} (h : w ∈ GW) : GoodIn GW (w :: GW) := by
  intro u hu
  have hm : u ∈ GW := by
    rcases List.mem_cons.mp hu with e | e
    · rw [e]; exact h
    · exact e
  exact ⟨hm, good_of_word (List.mem_filter.mp hm).2⟩
def CX (p : Program) (l : Launch) (R : Room) (s : State) (m : MethodId) (args : Array Value) (meth : Method) (c : Code) (own : String) (cc : ByteArray) (nL : Nat) (ret : Option FieldType) (D : va_G) (Λ : LAM) (d : Nat) (o : ORC) : Prop :=
  p.tables.exec = Jvm.exec ∧ c.code = cc ∧ c.maxLocals = nL ∧ s.vm.findClass own = some m.cls ∧ (∀ w ∈ GW, w.before args s = true) ∧ KD D Λ s ∧ (d + 1 ≤ R.frames ∧ 300 * (d + 1) ≤ R.locals) ∧ meth.sig.returnType = ret ∧ meth.locks = false ∧ ∀ y as A v B, o y as A = some (v, B) → CON l D Λ d y as A v B
theorem okc_spec {a ci : Nat} (h : okc a ci = true) : lgt SH a = some (.inr ci) := by
  unfold okc at h
  split at h
  · next c hc => rw [hc, Nat.eq_of_beq_eq_true h]
  · cases h
theorem alen_spec {t a : Nat} {i : Int32} (h : inb i (alen t a) = true) : lgt SH a = some (.inl (t, alen t a)) ∧ vp_in i (alen t a) := by
  unfold inb at h
  simp only [Bool.and_eq_true, Bool.not_eq_true', decide_eq_false_iff_not, decide_eq_true_eq] at h
  refine ⟨?_, fun q => q.elim h.1 (fun z => by omega)⟩
  have h2 := h.2
  unfold alen at h2 ⊢
  split at h2
  · next x hx =>
    cases hb : Nat.beq x.1 t with
    | true =>
      rw [hx]
      simp only [hb, cond_true]
      rw [← Nat.eq_of_beq_eq_true hb]
    | false =>
      rw [hb] at h2
      simp at h2
  · omega
def fkd (ci j : Nat) : Option Nat := (lgt FK ci).bind (fun ks => ks[j]?)
theorem flds_at {Λ : LAM} {A : AH} {k ci j t : Nat} (h : fkd ci j = some t) : (flds Λ A k ci)[j]? = some (fldv Λ A k j t) := by
  unfold fkd at h
  unfold flds
  cases hk : lgt FK ci with
  | none => rw [hk] at h; cases h
  | some ks =>
    rw [hk] at h
    have h : ks[j]? = some t := h
    simp [List.getElem?_mapIdx, h]
theorem cell_congr {Λ : LAM} {A B : AH} {k : Nat} {s : SHP} (h1 : B.1 k = A.1 k) (h2 : B.2.1 k = A.2.1 k) (h3 : ∀ j, RF B.2.2 k j = RF A.2.2 k j) : cellOf Λ B k s = cellOf Λ A k s := by
  have hf : ∀ j t, fldv Λ B k j t = fldv Λ A k j t := by
    intro j t
    match t with
    | 0 => simp only [fldv, h1]
    | 1 => simp only [fldv, h2]
    | _ + 2 => simp only [fldv, h3]
  cases s with
  | inl x => simp only [cellOf, h1, h3]
  | inr ci => simp only [cellOf, flds, hf]
theorem flds_set {Λ : LAM} {A B : AH} {a ci j t : Nat} (h : fkd ci j = some t) (ho : ∀ i u, i ≠ j → fkd ci i = some u → fldv Λ B a i u = fldv Λ A a i u) : (flds Λ A a ci).set j (fldv Λ B a j t) = flds Λ B a ci := by
  apply List.ext_getElem?
  intro i
  by_cases e : i = j
  · subst e
    have hl := (List.getElem?_eq_some_iff.mp (flds_at (Λ := Λ) (A := A) (k := a) h)).1
    rw [List.getElem?_set_self hl, flds_at h]
  · rw [List.getElem?_set_ne (Ne.symm e)]
    cases hf : fkd ci i with
    | some u => rw [flds_at hf, flds_at hf, ho i u e hf]
    | none =>
      unfold fkd at hf
      unfold flds
      cases hk : lgt FK ci with
      | none => rfl
      | some ks =>
        rw [hk] at hf
        have hf : ks[i]? = none := hf
        simp [List.getElem?_mapIdx, hf]
theorem cats_sum (Λ : LAM) : ∀ st : List AV, ((st.map (cv Λ)).map fun v => v.category).sum = cats st
  | [] => rfl
  | a :: t => by
    have := cats_sum Λ t
    simp only [List.map_cons, List.sum_cons, cats, cv_cat, this]
section SND
variable {p : Program} {l : Launch} {e : Env} {R : Room} {s : State} {m : MethodId} {args : Array Value} {below : List Frame} {meth : Method} {c : Code} {own : String} {cc : ByteArray} {nL d : Nat} {ret : Option FieldType} {D : va_G} {Λ : LAM} {FR : Nat → Prop} {Q : RES → State → Prop} {o : ORC} {pc : Nat}
def GD (p : Program) (l : Launch) (e : Env) (R : Room) (s : State) (m : MethodId) (args : Array Value) (below : List Frame) (meth : Method) (c : Code) (nL : Nat) (D : va_G) (Λ : LAM) (FR : Nat → Prop) (Q : RES → State → Prop) (pc : Nat) (L : LO) (st : List AV) (A : AH) (r : RES) : Prop :=
  ∀ (H : Heap) (locs : List Loc) (ls : Array Slot), va_P D CLS (WD Λ A) H → va_D FR (WD Λ A) → va_S FR s.heap H locs → LH Λ ls nL L → W p l e R s m args below meth c H locs 0 0 (Q r) (F0 m pc ls (st.map (cv Λ)))
def SN (p : Program) (l : Launch) (e : Env) (R : Room) (s : State) (m : MethodId) (args : Array Value) (below : List Frame) (meth : Method) (c : Code) (nL : Nat) (D : va_G) (Λ : LAM) (FR : Nat → Prop) (Q : RES → State → Prop) (pc : Nat) (i : INS) : Prop :=
  ∀ (k : KT) (L : LO) (st : List AV) (A : AH) (r : RES), (∀ pc' L' st' A' r', k pc' L' st' A' = some r' → GD p l e R s m args below meth c nL D Λ FR Q pc' L' st' A' r') → i k L st A = some r → GD p l e R s m args below meth c nL D Λ FR Q pc L st A r

theorem sn_iconst (X : CX p l R s m args meth c own cc nL ret D Λ d o) {n : Int} {v : Int32} (hdg : decode cc pc = .ok (.iconst n, 1)) (hv : Int32.ofInt n = v) : SN p l e R s m args below meth c nL D Λ FR Q pc (x_const (iv v) (pc + 1)) := by
  intro k L st A r hk h
  obtain ⟨hx, hb, hml, hown, hts, hKD, hR, hr, hlk, hO⟩ := X
  intro H locs ls hP hD hS hl
  exact lv_iconst hx hb hdg hv (hk _ _ _ _ _ h H locs ls hP hD hS hl)
theorem sn_bipush (X : CX p l R s m args meth c own cc nL ret D Λ d o) {n : Int} {v : Int32} (hdg : decode cc pc = .ok (.bipush n, 2)) (hv : (Int8.ofInt n).toInt32 = v) : SN p l e R s m args below meth c nL D Λ FR Q pc (x_const (iv v) (pc + 2)) := by
  intro k L st A r hk h
  obtain ⟨hx, hb, hml, hown, hts, hKD, hR, hr, hlk, hO⟩ := X
  intro H locs ls hP hD hS hl
  exact lv_bipush hx hb hdg hv (hk _ _ _ _ _ h H locs ls hP hD hS hl)
theorem sn_sipush (X : CX p l R s m args meth c own cc nL ret D Λ d o) {n : Int} {v : Int32} (hdg : decode cc pc = .ok (.sipush n, 3)) (hv : (Int16.ofInt n).toInt32 = v) : SN p l e R s m args below meth c nL D Λ FR Q pc (x_const (iv v) (pc + 3)) := by
  intro k L st A r hk h
  obtain ⟨hx, hb, hml, hown, hts, hKD, hR, hr, hlk, hO⟩ := X
  intro H locs ls hP hD hS hl
  exact lv_sipush hx hb hdg hv (hk _ _ _ _ _ h H locs ls hP hD hS hl)
theorem sn_lconst (X : CX p l R s m args meth c own cc nL ret D Λ d o) {n : Fin 2} {v : Int64} (hdg : decode cc pc = .ok (.lconst n, 1)) (hv : Int64.ofNat (n : Nat) = v) : SN p l e R s m args below meth c nL D Λ FR Q pc (x_const (jv v) (pc + 1)) := by
  intro k L st A r hk h
  obtain ⟨hx, hb, hml, hown, hts, hKD, hR, hr, hlk, hO⟩ := X
  intro H locs ls hP hD hS hl
  exact lv_lconst hx hb hdg hv (hk _ _ _ _ _ h H locs ls hP hD hS hl)
theorem sn_ldcw (X : CX p l R s m args meth c own cc nL ret D Λ d o) {idx : Nat} {v : Int32} (hw : Cond.constant own idx v ∈ GW) (hdg : decode cc pc = .ok (.ldc_w idx, 3)) : SN p l e R s m args below meth c nL D Λ FR Q pc (x_const (iv v) (pc + 3)) := by
  intro k L st A r hk h
  obtain ⟨hx, hb, hml, hown, hts, hKD, hR, hr, hlk, hO⟩ := X
  intro H locs ls hP hD hS hl
  exact lv_ldcw hx hb hown (hts _ hw) hdg (hk _ _ _ _ _ h H locs ls hP hD hS hl)
theorem sn_ldc2 (X : CX p l R s m args meth c own cc nL ret D Λ d o) {idx : Nat} {v : Int64} (hw : Cond.constantLong own idx v ∈ GW) (hdg : decode cc pc = .ok (.ldc2_w idx, 3)) : SN p l e R s m args below meth c nL D Λ FR Q pc (x_const (jv v) (pc + 3)) := by
  intro k L st A r hk h
  obtain ⟨hx, hb, hml, hown, hts, hKD, hR, hr, hlk, hO⟩ := X
  intro H locs ls hP hD hS hl
  exact lv_ldc2 hx hb hown (hts _ hw) hdg (hk _ _ _ _ _ h H locs ls hP hD hS hl)
theorem sn_iload_n (X : CX p l R s m args meth c own cc nL ret D Λ d o) {k4 : Fin 4} {i : Nat} (hdg : decode cc pc = .ok (.iload_n k4, 1)) (hi : (k4 : Nat) = i) : SN p l e R s m args below meth c nL D Λ FR Q pc (x_iload i (pc + 1)) := by
  intro k L st A r hk h
  obtain ⟨hx, hb, hml, hown, hts, hKD, hR, hr, hlk, hO⟩ := X
  unfold x_iload at h
  split at h
  · next x hx9 =>
    intro H locs ls hP hD hS hl
    exact lv_iload_n hx hb hdg hi (hl.2.2 i _ hx9) (hk _ _ _ _ _ h H locs ls hP hD hS hl)
  · cases h
theorem sn_iload (X : CX p l R s m args meth c own cc nL ret D Λ d o) {i : Nat} (hdg : decode cc pc = .ok (.iload i, 2)) : SN p l e R s m args below meth c nL D Λ FR Q pc (x_iload i (pc + 2)) := by
  intro k L st A r hk h
  obtain ⟨hx, hb, hml, hown, hts, hKD, hR, hr, hlk, hO⟩ := X
  unfold x_iload at h
  split at h
  · next x hx9 =>
    intro H locs ls hP hD hS hl
    exact lv_iload hx hb hdg (hl.2.2 i _ hx9) (hk _ _ _ _ _ h H locs ls hP hD hS hl)
  · cases h
theorem sn_lload_n (X : CX p l R s m args meth c own cc nL ret D Λ d o) {k4 : Fin 4} {i : Nat} (hdg : decode cc pc = .ok (.lload_n k4, 1)) (hi : (k4 : Nat) = i) : SN p l e R s m args below meth c nL D Λ FR Q pc (x_lload i (pc + 1)) := by
  intro k L st A r hk h
  obtain ⟨hx, hb, hml, hown, hts, hKD, hR, hr, hlk, hO⟩ := X
  unfold x_lload at h
  split at h
  · next x hx9 =>
    intro H locs ls hP hD hS hl
    exact lv_lload_n hx hb hdg hi (hl.2.2 i _ hx9) (hk _ _ _ _ _ h H locs ls hP hD hS hl)
  · cases h
theorem sn_lload (X : CX p l R s m args meth c own cc nL ret D Λ d o) {i : Nat} (hdg : decode cc pc = .ok (.lload i, 2)) : SN p l e R s m args below meth c nL D Λ FR Q pc (x_lload i (pc + 2)) := by
  intro k L st A r hk h
  obtain ⟨hx, hb, hml, hown, hts, hKD, hR, hr, hlk, hO⟩ := X
  unfold x_lload at h
  split at h
  · next x hx9 =>
    intro H locs ls hP hD hS hl
    exact lv_lload hx hb hdg (hl.2.2 i _ hx9) (hk _ _ _ _ _ h H locs ls hP hD hS hl)
  · cases h
theorem sn_aload_n (X : CX p l R s m args meth c own cc nL ret D Λ d o) {k4 : Fin 4} {i : Nat} (hdg : decode cc pc = .ok (.aload_n k4, 1)) (hi : (k4 : Nat) = i) : SN p l e R s m args below meth c nL D Λ FR Q pc (x_aload i (pc + 1)) := by
  intro k L st A r hk h
  obtain ⟨hx, hb, hml, hown, hts, hKD, hR, hr, hlk, hO⟩ := X
  unfold x_aload at h
  split at h
  · next x hx9 =>
    intro H locs ls hP hD hS hl
    have hv := hl.2.2 i _ hx9
    cases x with
    | none => exact lv_aload_nN hx hb hdg hi hv (hk _ _ _ _ _ h H locs ls hP hD hS hl)
    | some a => exact lv_aload_n hx hb hdg hi hv (hk _ _ _ _ _ h H locs ls hP hD hS hl)
  · cases h
theorem sn_aload (X : CX p l R s m args meth c own cc nL ret D Λ d o) {i : Nat} (hdg : decode cc pc = .ok (.aload i, 2)) : SN p l e R s m args below meth c nL D Λ FR Q pc (x_aload i (pc + 2)) := by
  intro k L st A r hk h
  obtain ⟨hx, hb, hml, hown, hts, hKD, hR, hr, hlk, hO⟩ := X
  unfold x_aload at h
  split at h
  · next x hx9 =>
    intro H locs ls hP hD hS hl
    have hv := hl.2.2 i _ hx9
    cases x with
    | none => exact lv_aloadN hx hb hdg hv (hk _ _ _ _ _ h H locs ls hP hD hS hl)
    | some a => exact lv_aload hx hb hdg hv (hk _ _ _ _ _ h H locs ls hP hD hS hl)
  · cases h
theorem sn_istore_n (X : CX p l R s m args meth c own cc nL ret D Λ d o) {k4 : Fin 4} {i : Nat} (hdg : decode cc pc = .ok (.istore_n k4, 1)) (hi : (k4 : Nat) = i) (hn : i < nL) : SN p l e R s m args below meth c nL D Λ FR Q pc (x_istore i (pc + 1)) := by
  intro k L st A r hk h
  obtain ⟨hx, hb, hml, hown, hts, hKD, hR, hr, hlk, hO⟩ := X
  unfold x_istore at h
  split at h
  · intro H locs ls hP hD hS hl
    exact lv_istore_n hx hb hdg hi hl.to hn rfl (fun ls hl => hk _ _ _ _ _ h H locs ls hP hD hS (LH.st1 hl))
  · cases h
theorem sn_lstore_n (X : CX p l R s m args meth c own cc nL ret D Λ d o) {k4 : Fin 4} {i : Nat} (hdg : decode cc pc = .ok (.lstore_n k4, 1)) (hi : (k4 : Nat) = i) (hn : i + 1 < nL) : SN p l e R s m args below meth c nL D Λ FR Q pc (x_lstore i (pc + 1)) := by
  intro k L st A r hk h
  obtain ⟨hx, hb, hml, hown, hts, hKD, hR, hr, hlk, hO⟩ := X
  unfold x_lstore at h
  split at h
  · intro H locs ls hP hD hS hl
    exact lv_lstore_n hx hb hdg hi hl.to hn rfl (fun ls hl => hk _ _ _ _ _ h H locs ls hP hD hS (LH.st2 hl))
  · cases h
theorem sn_istore (X : CX p l R s m args meth c own cc nL ret D Λ d o) {i : Nat} (hdg : decode cc pc = .ok (.istore i, 2)) (hn : i < nL) : SN p l e R s m args below meth c nL D Λ FR Q pc (x_istore i (pc + 2)) := by
  intro k L st A r hk h
  obtain ⟨hx, hb, hml, hown, hts, hKD, hR, hr, hlk, hO⟩ := X
  unfold x_istore at h
  split at h
  · intro H locs ls hP hD hS hl
    exact lv_istore hx hb hdg hl.to hn rfl (fun ls hl => hk _ _ _ _ _ h H locs ls hP hD hS (LH.st1 hl))
  · cases h
theorem sn_lstore (X : CX p l R s m args meth c own cc nL ret D Λ d o) {i : Nat} (hdg : decode cc pc = .ok (.lstore i, 2)) (hn : i + 1 < nL) : SN p l e R s m args below meth c nL D Λ FR Q pc (x_lstore i (pc + 2)) := by
  intro k L st A r hk h
  obtain ⟨hx, hb, hml, hown, hts, hKD, hR, hr, hlk, hO⟩ := X
  unfold x_lstore at h
  split at h
  · intro H locs ls hP hD hS hl
    exact lv_lstore hx hb hdg hl.to hn rfl (fun ls hl => hk _ _ _ _ _ h H locs ls hP hD hS (LH.st2 hl))
  · cases h
theorem sn_astore_n (X : CX p l R s m args meth c own cc nL ret D Λ d o) {k4 : Fin 4} {i : Nat} (hdg : decode cc pc = .ok (.astore_n k4, 1)) (hi : (k4 : Nat) = i) (hn : i < nL) : SN p l e R s m args below meth c nL D Λ FR Q pc (x_astore i (pc + 1)) := by
  intro k L st A r hk h
  obtain ⟨hx, hb, hml, hown, hts, hKD, hR, hr, hlk, hO⟩ := X
  unfold x_astore at h
  split at h
  · next x r9 =>
    intro H locs ls hP hD hS hl
    cases x with
    | none => exact lv_astore_nN hx hb hdg hi hl.to hn rfl (fun ls hl => hk _ _ _ _ _ h H locs ls hP hD hS (LH.st1 hl))
    | some a => exact lv_astore_n hx hb hdg hi hl.to hn rfl (fun ls hl => hk _ _ _ _ _ h H locs ls hP hD hS (LH.st1 hl))
  · cases h
theorem sn_iinc (X : CX p l R s m args meth c own cc nL ret D Λ d o) {i : Nat} {n : Int} {v : Int32} (hdg : decode cc pc = .ok (.iinc i n, 3)) (hv : Int32.ofInt n = v) (hn : i < nL) : SN p l e R s m args below meth c nL D Λ FR Q pc (x_iinc i v (pc + 3)) := by
  intro k L st A r hk h
  obtain ⟨hx, hb, hml, hown, hts, hKD, hR, hr, hlk, hO⟩ := X
  unfold x_iinc at h
  split at h
  · next x hx9 =>
    intro H locs ls hP hD hS hl
    obtain ⟨k9, hk9⟩ := List.getElem?_of_mem (tl_mem (Λ := Λ) L 0 i _ hx9)
    rw [Nat.zero_add] at hk9
    exact lv_iinc hx hb hdg hl.to hk9 (by rw [hv]) hn rfl (fun ls hl => hk _ _ _ _ _ h H locs ls hP hD hS (LH.st1 hl))
  · cases h
theorem sn_iadd (X : CX p l R s m args meth c own cc nL ret D Λ d o) (hdg : decode cc pc = .ok (.iadd, 1)) : SN p l e R s m args below meth c nL D Λ FR Q pc (x_bin (fun x y => x + y) (pc + 1)) := by
  intro k L st A r hk h
  obtain ⟨hx, hb, hml, hown, hts, hKD, hR, hr, hlk, hO⟩ := X
  unfold x_bin at h
  split at h
  · intro H locs ls hP hD hS hl
    exact lv_iadd hx hb hdg (hk _ _ _ _ _ h H locs ls hP hD hS hl)
  · cases h
theorem sn_isub (X : CX p l R s m args meth c own cc nL ret D Λ d o) (hdg : decode cc pc = .ok (.isub, 1)) : SN p l e R s m args below meth c nL D Λ FR Q pc (x_bin (fun x y => x - y) (pc + 1)) := by
  intro k L st A r hk h
  obtain ⟨hx, hb, hml, hown, hts, hKD, hR, hr, hlk, hO⟩ := X
  unfold x_bin at h
  split at h
  · intro H locs ls hP hD hS hl
    exact lv_isub hx hb hdg (hk _ _ _ _ _ h H locs ls hP hD hS hl)
  · cases h
theorem sn_imul (X : CX p l R s m args meth c own cc nL ret D Λ d o) (hdg : decode cc pc = .ok (.imul, 1)) : SN p l e R s m args below meth c nL D Λ FR Q pc (x_bin (fun x y => x * y) (pc + 1)) := by
  intro k L st A r hk h
  obtain ⟨hx, hb, hml, hown, hts, hKD, hR, hr, hlk, hO⟩ := X
  unfold x_bin at h
  split at h
  · intro H locs ls hP hD hS hl
    exact lv_imul hx hb hdg (hk _ _ _ _ _ h H locs ls hP hD hS hl)
  · cases h
theorem sn_iand (X : CX p l R s m args meth c own cc nL ret D Λ d o) (hdg : decode cc pc = .ok (.iand, 1)) : SN p l e R s m args below meth c nL D Λ FR Q pc (x_bin (fun x y => x &&& y) (pc + 1)) := by
  intro k L st A r hk h
  obtain ⟨hx, hb, hml, hown, hts, hKD, hR, hr, hlk, hO⟩ := X
  unfold x_bin at h
  split at h
  · intro H locs ls hP hD hS hl
    exact lv_iand hx hb hdg (hk _ _ _ _ _ h H locs ls hP hD hS hl)
  · cases h
theorem sn_ior (X : CX p l R s m args meth c own cc nL ret D Λ d o) (hdg : decode cc pc = .ok (.ior, 1)) : SN p l e R s m args below meth c nL D Λ FR Q pc (x_bin (fun x y => x ||| y) (pc + 1)) := by
  intro k L st A r hk h
  obtain ⟨hx, hb, hml, hown, hts, hKD, hR, hr, hlk, hO⟩ := X
  unfold x_bin at h
  split at h
  · intro H locs ls hP hD hS hl
    exact lv_ior hx hb hdg (hk _ _ _ _ _ h H locs ls hP hD hS hl)
  · cases h
theorem sn_ixor (X : CX p l R s m args meth c own cc nL ret D Λ d o) (hdg : decode cc pc = .ok (.ixor, 1)) : SN p l e R s m args below meth c nL D Λ FR Q pc (x_bin (fun x y => x ^^^ y) (pc + 1)) := by
  intro k L st A r hk h
  obtain ⟨hx, hb, hml, hown, hts, hKD, hR, hr, hlk, hO⟩ := X
  unfold x_bin at h
  split at h
  · intro H locs ls hP hD hS hl
    exact lv_ixor hx hb hdg (hk _ _ _ _ _ h H locs ls hP hD hS hl)
  · cases h
theorem sn_ishl (X : CX p l R s m args meth c own cc nL ret D Λ d o) (hdg : decode cc pc = .ok (.ishl, 1)) : SN p l e R s m args below meth c nL D Λ FR Q pc (x_bin (fun x y => x <<< (y &&& 31)) (pc + 1)) := by
  intro k L st A r hk h
  obtain ⟨hx, hb, hml, hown, hts, hKD, hR, hr, hlk, hO⟩ := X
  unfold x_bin at h
  split at h
  · intro H locs ls hP hD hS hl
    exact lv_ishl hx hb hdg (hk _ _ _ _ _ h H locs ls hP hD hS hl)
  · cases h
theorem sn_ishr (X : CX p l R s m args meth c own cc nL ret D Λ d o) (hdg : decode cc pc = .ok (.ishr, 1)) : SN p l e R s m args below meth c nL D Λ FR Q pc (x_bin (fun x y => x >>> (y &&& 31)) (pc + 1)) := by
  intro k L st A r hk h
  obtain ⟨hx, hb, hml, hown, hts, hKD, hR, hr, hlk, hO⟩ := X
  unfold x_bin at h
  split at h
  · intro H locs ls hP hD hS hl
    exact lv_ishr hx hb hdg (hk _ _ _ _ _ h H locs ls hP hD hS hl)
  · cases h
theorem sn_iushr (X : CX p l R s m args meth c own cc nL ret D Λ d o) (hdg : decode cc pc = .ok (.iushr, 1)) : SN p l e R s m args below meth c nL D Λ FR Q pc (x_bin (fun x y => (x.toUInt32 >>> (y.toUInt32 &&& Int32.toUInt32 31)).toInt32) (pc + 1)) := by
  intro k L st A r hk h
  obtain ⟨hx, hb, hml, hown, hts, hKD, hR, hr, hlk, hO⟩ := X
  unfold x_bin at h
  split at h
  · intro H locs ls hP hD hS hl
    exact lv_iushr hx hb hdg rfl (hk _ _ _ _ _ h H locs ls hP hD hS hl)
  · cases h
theorem sn_ladd (X : CX p l R s m args meth c own cc nL ret D Λ d o) (hdg : decode cc pc = .ok (.ladd, 1)) : SN p l e R s m args below meth c nL D Λ FR Q pc (x_binl (fun x y => x + y) (pc + 1)) := by
  intro k L st A r hk h
  obtain ⟨hx, hb, hml, hown, hts, hKD, hR, hr, hlk, hO⟩ := X
  unfold x_binl at h
  split at h
  · intro H locs ls hP hD hS hl
    exact lv_ladd hx hb hdg (hk _ _ _ _ _ h H locs ls hP hD hS hl)
  · cases h
theorem sn_lmul (X : CX p l R s m args meth c own cc nL ret D Λ d o) (hdg : decode cc pc = .ok (.lmul, 1)) : SN p l e R s m args below meth c nL D Λ FR Q pc (x_binl (fun x y => x * y) (pc + 1)) := by
  intro k L st A r hk h
  obtain ⟨hx, hb, hml, hown, hts, hKD, hR, hr, hlk, hO⟩ := X
  unfold x_binl at h
  split at h
  · intro H locs ls hP hD hS hl
    exact lv_lmul hx hb hdg (hk _ _ _ _ _ h H locs ls hP hD hS hl)
  · cases h
theorem sn_idiv (X : CX p l R s m args meth c own cc nL ret D Λ d o) (hdg : decode cc pc = .ok (.idiv, 1)) : SN p l e R s m args below meth c nL D Λ FR Q pc (x_dv (fun x y => x / y) (pc + 1)) := by
  intro k L st A r hk h
  obtain ⟨hx, hb, hml, hown, hts, hKD, hR, hr, hlk, hO⟩ := X
  unfold x_dv at h
  split at h
  · next y x r9 =>
    split at h
    · cases h
    · next hne =>
      intro H locs ls hP hD hS hl
      exact lv_idiv hx hb hdg hne (hk _ _ _ _ _ h H locs ls hP hD hS hl)
  · cases h
theorem sn_irem (X : CX p l R s m args meth c own cc nL ret D Λ d o) (hdg : decode cc pc = .ok (.irem, 1)) : SN p l e R s m args below meth c nL D Λ FR Q pc (x_dv (fun x y => x - x / y * y) (pc + 1)) := by
  intro k L st A r hk h
  obtain ⟨hx, hb, hml, hown, hts, hKD, hR, hr, hlk, hO⟩ := X
  unfold x_dv at h
  split at h
  · next y x r9 =>
    split at h
    · cases h
    · next hne =>
      intro H locs ls hP hD hS hl
      exact lv_irem hx hb hdg hne (hk _ _ _ _ _ h H locs ls hP hD hS hl)
  · cases h
theorem sn_ldiv (X : CX p l R s m args meth c own cc nL ret D Λ d o) (hdg : decode cc pc = .ok (.ldiv, 1)) : SN p l e R s m args below meth c nL D Λ FR Q pc (x_dvl (fun x y => x / y) (pc + 1)) := by
  intro k L st A r hk h
  obtain ⟨hx, hb, hml, hown, hts, hKD, hR, hr, hlk, hO⟩ := X
  unfold x_dvl at h
  split at h
  · next y x r9 =>
    split at h
    · cases h
    · next hne =>
      intro H locs ls hP hD hS hl
      exact lv_ldiv hx hb hdg hne (hk _ _ _ _ _ h H locs ls hP hD hS hl)
  · cases h
theorem sn_lrem (X : CX p l R s m args meth c own cc nL ret D Λ d o) (hdg : decode cc pc = .ok (.lrem, 1)) : SN p l e R s m args below meth c nL D Λ FR Q pc (x_dvl (fun x y => x - x / y * y) (pc + 1)) := by
  intro k L st A r hk h
  obtain ⟨hx, hb, hml, hown, hts, hKD, hR, hr, hlk, hO⟩ := X
  unfold x_dvl at h
  split at h
  · next y x r9 =>
    split at h
    · cases h
    · next hne =>
      intro H locs ls hP hD hS hl
      exact lv_lrem hx hb hdg hne (hk _ _ _ _ _ h H locs ls hP hD hS hl)
  · cases h
theorem sn_lcmp (X : CX p l R s m args meth c own cc nL ret D Λ d o) (hdg : decode cc pc = .ok (.lcmp, 1)) : SN p l e R s m args below meth c nL D Λ FR Q pc (x_lcmp (pc + 1)) := by
  intro k L st A r hk h
  obtain ⟨hx, hb, hml, hown, hts, hKD, hR, hr, hlk, hO⟩ := X
  unfold x_lcmp at h
  split at h
  · intro H locs ls hP hD hS hl
    exact W.lcmp hx hb hdg (hk _ _ _ _ _ h H locs ls hP hD hS hl)
  · cases h
theorem sn_ineg (X : CX p l R s m args meth c own cc nL ret D Λ d o) (hdg : decode cc pc = .ok (.ineg, 1)) : SN p l e R s m args below meth c nL D Λ FR Q pc (x_un (fun x => -x) (pc + 1)) := by
  intro k L st A r hk h
  obtain ⟨hx, hb, hml, hown, hts, hKD, hR, hr, hlk, hO⟩ := X
  unfold x_un at h
  split at h
  · intro H locs ls hP hD hS hl
    exact lv_ineg hx hb hdg (hk _ _ _ _ _ h H locs ls hP hD hS hl)
  · cases h
theorem sn_i2b (X : CX p l R s m args meth c own cc nL ret D Λ d o) (hdg : decode cc pc = .ok (.i2b, 1)) : SN p l e R s m args below meth c nL D Λ FR Q pc (x_un (fun x => x.toInt8.toInt32) (pc + 1)) := by
  intro k L st A r hk h
  obtain ⟨hx, hb, hml, hown, hts, hKD, hR, hr, hlk, hO⟩ := X
  unfold x_un at h
  split at h
  · intro H locs ls hP hD hS hl
    exact lv_i2b hx hb hdg rfl (hk _ _ _ _ _ h H locs ls hP hD hS hl)
  · cases h
theorem sn_i2l (X : CX p l R s m args meth c own cc nL ret D Λ d o) (hdg : decode cc pc = .ok (.i2l, 1)) : SN p l e R s m args below meth c nL D Λ FR Q pc (x_i2l (pc + 1)) := by
  intro k L st A r hk h
  obtain ⟨hx, hb, hml, hown, hts, hKD, hR, hr, hlk, hO⟩ := X
  unfold x_i2l at h
  split at h
  · intro H locs ls hP hD hS hl
    exact lv_i2l hx hb hdg rfl (hk _ _ _ _ _ h H locs ls hP hD hS hl)
  · cases h
theorem sn_l2i (X : CX p l R s m args meth c own cc nL ret D Λ d o) (hdg : decode cc pc = .ok (.l2i, 1)) : SN p l e R s m args below meth c nL D Λ FR Q pc (x_l2i (pc + 1)) := by
  intro k L st A r hk h
  obtain ⟨hx, hb, hml, hown, hts, hKD, hR, hr, hlk, hO⟩ := X
  unfold x_l2i at h
  split at h
  · intro H locs ls hP hD hS hl
    exact lv_l2i hx hb hdg rfl (hk _ _ _ _ _ h H locs ls hP hD hS hl)
  · cases h
theorem sn_dup (X : CX p l R s m args meth c own cc nL ret D Λ d o) (hdg : decode cc pc = .ok (.dup, 1)) : SN p l e R s m args below meth c nL D Λ FR Q pc (x_dup (pc + 1)) := by
  intro k L st A r hk h
  obtain ⟨hx, hb, hml, hown, hts, hKD, hR, hr, hlk, hO⟩ := X
  unfold x_dup at h
  split at h
  · intro H locs ls hP hD hS hl
    exact lv_dup hx hb hdg rfl (hk _ _ _ _ _ h H locs ls hP hD hS hl)
  · next x r9 =>
    intro H locs ls hP hD hS hl
    cases x with
    | none => exact lv_dup hx hb hdg rfl (hk _ _ _ _ _ h H locs ls hP hD hS hl)
    | some a => exact lv_dup hx hb hdg rfl (hk _ _ _ _ _ h H locs ls hP hD hS hl)
  · cases h
theorem sn_pop (X : CX p l R s m args meth c own cc nL ret D Λ d o) (hdg : decode cc pc = .ok (.pop, 1)) : SN p l e R s m args below meth c nL D Λ FR Q pc (x_pop (pc + 1)) := by
  intro k L st A r hk h
  obtain ⟨hx, hb, hml, hown, hts, hKD, hR, hr, hlk, hO⟩ := X
  unfold x_pop at h
  split at h
  · intro H locs ls hP hD hS hl
    exact lv_pop hx hb hdg rfl (hk _ _ _ _ _ h H locs ls hP hD hS hl)
  · next x r9 =>
    intro H locs ls hP hD hS hl
    cases x with
    | none => exact lv_pop hx hb hdg rfl (hk _ _ _ _ _ h H locs ls hP hD hS hl)
    | some a => exact lv_pop hx hb hdg rfl (hk _ _ _ _ _ h H locs ls hP hD hS hl)
  · cases h
theorem sn_dup2 (X : CX p l R s m args meth c own cc nL ret D Λ d o) (hdg : decode cc pc = .ok (.dup2, 1)) : SN p l e R s m args below meth c nL D Λ FR Q pc (x_dup2 (pc + 1)) := by
  intro k L st A r hk h
  obtain ⟨hx, hb, hml, hown, hts, hKD, hR, hr, hlk, hO⟩ := X
  unfold x_dup2 at h
  split at h
  · next i x r9 =>
    intro H locs ls hP hD hS hl
    cases x with
    | none => exact lv_dup2_11 hx hb hdg rfl rfl (hk _ _ _ _ _ h H locs ls hP hD hS hl)
    | some a => exact lv_dup2_11 hx hb hdg rfl rfl (hk _ _ _ _ _ h H locs ls hP hD hS hl)
  · cases h
theorem sn_goto (X : CX p l R s m args meth c own cc nL ret D Λ d o) {off : Int} {tgt : Nat} (hdg : decode cc pc = .ok (.goto off, 3)) (ht : (pc : Int) + off = (tgt : Int)) : SN p l e R s m args below meth c nL D Λ FR Q pc (x_goto tgt) := by
  intro k L st A r hk h
  obtain ⟨hx, hb, hml, hown, hts, hKD, hR, hr, hlk, hO⟩ := X
  intro H locs ls hP hD hS hl
  exact lv_goto hx hb hdg ht (hk _ _ _ _ _ h H locs ls hP hD hS hl)
theorem sn_ifeq (X : CX p l R s m args meth c own cc nL ret D Λ d o) {off : Int} {tgt : Nat} (hdg : decode cc pc = .ok (.ifCond .eq off, 3)) (ht : (pc : Int) + off = (tgt : Int)) : SN p l e R s m args below meth c nL D Λ FR Q pc (x_ifeq tgt (pc + 3)) := by
  intro k L st A r hk h
  obtain ⟨hx, hb, hml, hown, hts, hKD, hR, hr, hlk, hO⟩ := X
  unfold x_ifeq at h
  split at h
  · next x r9 =>
    intro H locs ls hP hD hS hl
    split at h
    · next hc => exact lv_if_eq hx hb hdg ht (fun _ => hk _ _ _ _ _ h H locs ls hP hD hS hl) (fun q => absurd hc q)
    · next hc => exact lv_if_eq hx hb hdg ht (fun q => absurd q hc) (fun _ => hk _ _ _ _ _ h H locs ls hP hD hS hl)
  · cases h
theorem sn_ifne (X : CX p l R s m args meth c own cc nL ret D Λ d o) {off : Int} {tgt : Nat} (hdg : decode cc pc = .ok (.ifCond .ne off, 3)) (ht : (pc : Int) + off = (tgt : Int)) : SN p l e R s m args below meth c nL D Λ FR Q pc (x_ifne tgt (pc + 3)) := by
  intro k L st A r hk h
  obtain ⟨hx, hb, hml, hown, hts, hKD, hR, hr, hlk, hO⟩ := X
  unfold x_ifne at h
  split at h
  · next x r9 =>
    intro H locs ls hP hD hS hl
    split at h
    · next hc => exact lv_if_ne hx hb hdg ht (fun q => absurd hc q) (fun _ => hk _ _ _ _ _ h H locs ls hP hD hS hl)
    · next hc => exact lv_if_ne hx hb hdg ht (fun _ => hk _ _ _ _ _ h H locs ls hP hD hS hl) (fun q => absurd q hc)
  · cases h
theorem sn_iflt (X : CX p l R s m args meth c own cc nL ret D Λ d o) {off : Int} {tgt : Nat} (hdg : decode cc pc = .ok (.ifCond .lt off, 3)) (ht : (pc : Int) + off = (tgt : Int)) : SN p l e R s m args below meth c nL D Λ FR Q pc (x_iflt tgt (pc + 3)) := by
  intro k L st A r hk h
  obtain ⟨hx, hb, hml, hown, hts, hKD, hR, hr, hlk, hO⟩ := X
  unfold x_iflt at h
  split at h
  · next x r9 =>
    intro H locs ls hP hD hS hl
    split at h
    · next hc => exact lv_if_lt hx hb hdg ht (fun _ => hk _ _ _ _ _ h H locs ls hP hD hS hl) (fun q => absurd hc q)
    · next hc => exact lv_if_lt hx hb hdg ht (fun q => absurd q hc) (fun _ => hk _ _ _ _ _ h H locs ls hP hD hS hl)
  · cases h
theorem sn_ifge (X : CX p l R s m args meth c own cc nL ret D Λ d o) {off : Int} {tgt : Nat} (hdg : decode cc pc = .ok (.ifCond .ge off, 3)) (ht : (pc : Int) + off = (tgt : Int)) : SN p l e R s m args below meth c nL D Λ FR Q pc (x_ifge tgt (pc + 3)) := by
  intro k L st A r hk h
  obtain ⟨hx, hb, hml, hown, hts, hKD, hR, hr, hlk, hO⟩ := X
  unfold x_ifge at h
  split at h
  · next x r9 =>
    intro H locs ls hP hD hS hl
    split at h
    · next hc => exact lv_if_ge hx hb hdg ht (fun _ => hk _ _ _ _ _ h H locs ls hP hD hS hl) (fun q => absurd hc q)
    · next hc => exact lv_if_ge hx hb hdg ht (fun q => absurd q hc) (fun _ => hk _ _ _ _ _ h H locs ls hP hD hS hl)
  · cases h
theorem sn_ifgt (X : CX p l R s m args meth c own cc nL ret D Λ d o) {off : Int} {tgt : Nat} (hdg : decode cc pc = .ok (.ifCond .gt off, 3)) (ht : (pc : Int) + off = (tgt : Int)) : SN p l e R s m args below meth c nL D Λ FR Q pc (x_ifgt tgt (pc + 3)) := by
  intro k L st A r hk h
  obtain ⟨hx, hb, hml, hown, hts, hKD, hR, hr, hlk, hO⟩ := X
  unfold x_ifgt at h
  split at h
  · next x r9 =>
    intro H locs ls hP hD hS hl
    split at h
    · next hc => exact lv_if_gt hx hb hdg ht (fun _ => hk _ _ _ _ _ h H locs ls hP hD hS hl) (fun q => absurd hc q)
    · next hc => exact lv_if_gt hx hb hdg ht (fun q => absurd q hc) (fun _ => hk _ _ _ _ _ h H locs ls hP hD hS hl)
  · cases h
theorem sn_ifle (X : CX p l R s m args meth c own cc nL ret D Λ d o) {off : Int} {tgt : Nat} (hdg : decode cc pc = .ok (.ifCond .le off, 3)) (ht : (pc : Int) + off = (tgt : Int)) : SN p l e R s m args below meth c nL D Λ FR Q pc (x_ifle tgt (pc + 3)) := by
  intro k L st A r hk h
  obtain ⟨hx, hb, hml, hown, hts, hKD, hR, hr, hlk, hO⟩ := X
  unfold x_ifle at h
  split at h
  · next x r9 =>
    intro H locs ls hP hD hS hl
    split at h
    · next hc => exact lv_if_le hx hb hdg ht (fun _ => hk _ _ _ _ _ h H locs ls hP hD hS hl) (fun q => absurd hc q)
    · next hc => exact lv_if_le hx hb hdg ht (fun q => absurd q hc) (fun _ => hk _ _ _ _ _ h H locs ls hP hD hS hl)
  · cases h
theorem sn_ceq (X : CX p l R s m args meth c own cc nL ret D Λ d o) {off : Int} {tgt : Nat} (hdg : decode cc pc = .ok (.if_icmp .eq off, 3)) (ht : (pc : Int) + off = (tgt : Int)) : SN p l e R s m args below meth c nL D Λ FR Q pc (x_ceq tgt (pc + 3)) := by
  intro k L st A r hk h
  obtain ⟨hx, hb, hml, hown, hts, hKD, hR, hr, hlk, hO⟩ := X
  unfold x_ceq at h
  split at h
  · next y x r9 =>
    intro H locs ls hP hD hS hl
    split at h
    · next hc => exact lv_icmp_eq hx hb hdg ht (fun _ => hk _ _ _ _ _ h H locs ls hP hD hS hl) (fun q => absurd hc q)
    · next hc => exact lv_icmp_eq hx hb hdg ht (fun q => absurd q hc) (fun _ => hk _ _ _ _ _ h H locs ls hP hD hS hl)
  · cases h
theorem sn_cne (X : CX p l R s m args meth c own cc nL ret D Λ d o) {off : Int} {tgt : Nat} (hdg : decode cc pc = .ok (.if_icmp .ne off, 3)) (ht : (pc : Int) + off = (tgt : Int)) : SN p l e R s m args below meth c nL D Λ FR Q pc (x_cne tgt (pc + 3)) := by
  intro k L st A r hk h
  obtain ⟨hx, hb, hml, hown, hts, hKD, hR, hr, hlk, hO⟩ := X
  unfold x_cne at h
  split at h
  · next y x r9 =>
    intro H locs ls hP hD hS hl
    split at h
    · next hc => exact lv_icmp_ne hx hb hdg ht (fun q => absurd hc q) (fun _ => hk _ _ _ _ _ h H locs ls hP hD hS hl)
    · next hc => exact lv_icmp_ne hx hb hdg ht (fun _ => hk _ _ _ _ _ h H locs ls hP hD hS hl) (fun q => absurd q hc)
  · cases h
theorem sn_clt (X : CX p l R s m args meth c own cc nL ret D Λ d o) {off : Int} {tgt : Nat} (hdg : decode cc pc = .ok (.if_icmp .lt off, 3)) (ht : (pc : Int) + off = (tgt : Int)) : SN p l e R s m args below meth c nL D Λ FR Q pc (x_clt tgt (pc + 3)) := by
  intro k L st A r hk h
  obtain ⟨hx, hb, hml, hown, hts, hKD, hR, hr, hlk, hO⟩ := X
  unfold x_clt at h
  split at h
  · next y x r9 =>
    intro H locs ls hP hD hS hl
    split at h
    · next hc => exact lv_icmp_lt hx hb hdg ht (fun _ => hk _ _ _ _ _ h H locs ls hP hD hS hl) (fun q => absurd hc q)
    · next hc => exact lv_icmp_lt hx hb hdg ht (fun q => absurd q hc) (fun _ => hk _ _ _ _ _ h H locs ls hP hD hS hl)
  · cases h
theorem sn_cge (X : CX p l R s m args meth c own cc nL ret D Λ d o) {off : Int} {tgt : Nat} (hdg : decode cc pc = .ok (.if_icmp .ge off, 3)) (ht : (pc : Int) + off = (tgt : Int)) : SN p l e R s m args below meth c nL D Λ FR Q pc (x_cge tgt (pc + 3)) := by
  intro k L st A r hk h
  obtain ⟨hx, hb, hml, hown, hts, hKD, hR, hr, hlk, hO⟩ := X
  unfold x_cge at h
  split at h
  · next y x r9 =>
    intro H locs ls hP hD hS hl
    split at h
    · next hc => exact lv_icmp_ge hx hb hdg ht (fun _ => hk _ _ _ _ _ h H locs ls hP hD hS hl) (fun q => absurd hc q)
    · next hc => exact lv_icmp_ge hx hb hdg ht (fun q => absurd q hc) (fun _ => hk _ _ _ _ _ h H locs ls hP hD hS hl)
  · cases h
theorem sn_cgt (X : CX p l R s m args meth c own cc nL ret D Λ d o) {off : Int} {tgt : Nat} (hdg : decode cc pc = .ok (.if_icmp .gt off, 3)) (ht : (pc : Int) + off = (tgt : Int)) : SN p l e R s m args below meth c nL D Λ FR Q pc (x_cgt tgt (pc + 3)) := by
  intro k L st A r hk h
  obtain ⟨hx, hb, hml, hown, hts, hKD, hR, hr, hlk, hO⟩ := X
  unfold x_cgt at h
  split at h
  · next y x r9 =>
    intro H locs ls hP hD hS hl
    split at h
    · next hc => exact lv_icmp_gt hx hb hdg ht (fun _ => hk _ _ _ _ _ h H locs ls hP hD hS hl) (fun q => absurd hc q)
    · next hc => exact lv_icmp_gt hx hb hdg ht (fun q => absurd q hc) (fun _ => hk _ _ _ _ _ h H locs ls hP hD hS hl)
  · cases h
theorem sn_cle (X : CX p l R s m args meth c own cc nL ret D Λ d o) {off : Int} {tgt : Nat} (hdg : decode cc pc = .ok (.if_icmp .le off, 3)) (ht : (pc : Int) + off = (tgt : Int)) : SN p l e R s m args below meth c nL D Λ FR Q pc (x_cle tgt (pc + 3)) := by
  intro k L st A r hk h
  obtain ⟨hx, hb, hml, hown, hts, hKD, hR, hr, hlk, hO⟩ := X
  unfold x_cle at h
  split at h
  · next y x r9 =>
    intro H locs ls hP hD hS hl
    split at h
    · next hc => exact lv_icmp_le hx hb hdg ht (fun _ => hk _ _ _ _ _ h H locs ls hP hD hS hl) (fun q => absurd hc q)
    · next hc => exact lv_icmp_le hx hb hdg ht (fun q => absurd q hc) (fun _ => hk _ _ _ _ _ h H locs ls hP hD hS hl)
  · cases h
theorem sn_ifnull (X : CX p l R s m args meth c own cc nL ret D Λ d o) {off : Int} {tgt : Nat} (hdg : decode cc pc = .ok (.ifnull off, 3)) (ht : (pc : Int) + off = (tgt : Int)) : SN p l e R s m args below meth c nL D Λ FR Q pc (x_ifnull tgt (pc + 3)) := by
  intro k L st A r hk h
  obtain ⟨hx, hb, hml, hown, hts, hKD, hR, hr, hlk, hO⟩ := X
  unfold x_ifnull at h
  split at h
  · intro H locs ls hP hD hS hl
    split at h
    · exact lv_ifnullN hx hb hdg ht (hk _ _ _ _ _ h H locs ls hP hD hS hl)
    · exact lv_ifnull hx hb hdg (hk _ _ _ _ _ h H locs ls hP hD hS hl)
  · cases h
theorem sn_iret (X : CX p l R s m args meth c own cc nL (some .int) D Λ d o) (hdg : decode cc pc = .ok (.ireturn, 1)) : SN p l e R s m args below meth c nL D Λ FR (fun r => MQ below (QM D Λ r.1 r.2 FR) args s 0 0 FR) pc x_iret := by
  intro k L st A r hk h
  obtain ⟨hx, hb, hml, hown, hts, hKD, hR, hr, hlk, hO⟩ := X
  unfold x_iret at h
  split at h
  · next x =>
    cases h
    intro H locs ls hP hD hS hl
    exact W.iret (v := x) hx hb hr (fun t ht hW => ⟨⟨rfl, by rw [ht]; exact hP⟩, hS.F ht⟩) hS.2.2 hdg hlk
  · cases h
theorem sn_lret (X : CX p l R s m args meth c own cc nL (some .long) D Λ d o) (hdg : decode cc pc = .ok (.lreturn, 1)) : SN p l e R s m args below meth c nL D Λ FR (fun r => MQ below (QM D Λ r.1 r.2 FR) args s 0 0 FR) pc x_lret := by
  intro k L st A r hk h
  obtain ⟨hx, hb, hml, hown, hts, hKD, hR, hr, hlk, hO⟩ := X
  unfold x_lret at h
  split at h
  · next x =>
    cases h
    intro H locs ls hP hD hS hl
    exact W.lret (v := x) hx hb hr (fun t ht hW => ⟨⟨rfl, by rw [ht]; exact hP⟩, hS.F ht⟩) hS.2.2 hdg hlk
  · cases h
theorem sn_vret (X : CX p l R s m args meth c own cc nL none D Λ d o) (hdg : decode cc pc = .ok (.return_, 1)) : SN p l e R s m args below meth c nL D Λ FR (fun r => MQ below (QM D Λ r.1 r.2 FR) args s 0 0 FR) pc x_vret := by
  intro k L st A r hk h
  obtain ⟨hx, hb, hml, hown, hts, hKD, hR, hr, hlk, hO⟩ := X
  unfold x_vret at h
  split at h
  · cases h
    intro H locs ls hP hD hS hl
    exact W.vret hx hb hr (fun t ht hW => ⟨⟨rfl, by rw [ht]; exact hP⟩, hS.F ht⟩) hS.2.2 hdg hlk
  · cases h
theorem sn_zret (X : CX p l R s m args meth c own cc nL (some .boolean) D Λ d o) (hdg : decode cc pc = .ok (.ireturn, 1)) : SN p l e R s m args below meth c nL D Λ FR (fun r => MQ below (QM D Λ r.1 r.2 FR) args s 0 0 FR) pc x_zret := by
  intro k L st A r hk h
  obtain ⟨hx, hb, hml, hown, hts, hKD, hR, hr, hlk, hO⟩ := X
  unfold x_zret at h
  split at h
  · next x =>
    split at h
    · next e1 =>
      cases h
      subst e1
      intro H locs ls hP hD hS hl
      exact W.zret (v := 1) hx hb hr (by decide) (fun t ht hW => ⟨⟨rfl, by rw [ht]; exact hP⟩, hS.F ht⟩) hS.2.2 hdg hlk
    · split at h
      · next e1 =>
        cases h
        subst e1
        intro H locs ls hP hD hS hl
        exact W.zret (v := 0) hx hb hr (by decide) (fun t ht hW => ⟨⟨rfl, by rw [ht]; exact hP⟩, hS.F ht⟩) hS.2.2 hdg hlk
      · cases h
  · cases h
end SND
end
section
/-! soundness, the rest: switches, fields, arrays, calls; a method by its code; all methods by the depth -/
def tsok (pc : Nat) : Int → List Int → List (Int32 × Nat) → Bool
  | _, [], [] => true
  | n, f :: fs, c :: cs => decide (c.1.toInt = n) && decide ((pc : Int) + f = (c.2 : Int)) && tsok pc (n + 1) fs cs
  | _, _, _ => false
theorem sw_tab {pc : Nat} {k : Nat → Option RES} {x : Int32} {d : Nat} {r : RES} : ∀ (cs : List (Int32 × Nat)) (fs : List Int) (n : Int), tsok pc n fs cs = true → swk k x d cs = some r → (∃ (j : Nat) (f : Int) (t : Nat), fs[j]? = some f ∧ x.toInt = n + j ∧ (pc : Int) + f = (t : Int) ∧ k t = some r) ∨ ((x.toInt < n ∨ n + fs.length ≤ x.toInt) ∧ k d = some r)
  | [], [], n, _, h => Or.inr ⟨by simp; omega, h⟩
  | [], _ :: _, n, h0, h => by simp [tsok] at h0
  | _ :: _, [], n, h0, h => by simp [tsok] at h0
  | c :: cs, f :: fs, n, h0, h => by
    simp only [tsok, Bool.and_eq_true, decide_eq_true_eq] at h0
    unfold swk at h
    split at h
    · next e =>
      exact Or.inl ⟨0, f, c.2, rfl, by rw [e, h0.1.1]; simp, h0.1.2, h⟩
    · next e =>
      have hne : ¬ x.toInt = n := lv_neT e h0.1.1
      rcases sw_tab cs fs (n + 1) h0.2 h with ⟨j, f', t, h1, h2, h3, h4⟩ | ⟨h1, h2⟩
      · exact Or.inl ⟨j + 1, f', t, by simpa using h1, by rw [h2]; push_cast; omega, h3, h4⟩
      · refine Or.inr ⟨?_, h2⟩
        simp only [List.length_cons]
        push_cast
        omega
def lkok (pc : Nat) : List (Int × Int) → List (Int32 × Nat) → Bool
  | [], [] => true
  | f :: fs, c :: cs => decide (c.1.toInt = f.1) && decide ((pc : Int) + f.2 = (c.2 : Int)) && lkok pc fs cs
  | _, _ => false
theorem sw_lk {pc : Nat} {k : Nat → Option RES} {x : Int32} {d : Nat} {r : RES} {df : Int} (hd : (pc : Int) + df = (d : Int)) : ∀ (cs : List (Int32 × Nat)) (fs : List (Int × Int)), lkok pc fs cs = true → swk k x d cs = some r → ∃ t : Nat, (pc : Int) + Op.lookupswitch.offset fs df x.toInt = (t : Int) ∧ k t = some r
  | [], [], _, h => ⟨d, hd, h⟩
  | [], _ :: _, h0, h => by simp [lkok] at h0
  | _ :: _, [], h0, h => by simp [lkok] at h0
  | c :: cs, (a, b) :: fs, h0, h => by
    simp only [lkok, Bool.and_eq_true, decide_eq_true_eq] at h0
    unfold swk at h
    split at h
    · next e =>
      exact ⟨c.2, by rw [Op.lookupswitch.offset_cons, if_pos (by rw [e, h0.1.1])]; exact h0.1.2, h⟩
    · next e =>
      rw [lv_osw e h0.1.1]
      exact sw_lk hd cs fs h0.2 h
section SND
variable {p : Program} {l : Launch} {e : Env} {R : Room} {s : State} {m : MethodId} {args : Array Value} {below : List Frame} {meth : Method} {c : Code} {own : String} {cc : ByteArray} {nL d : Nat} {ret : Option FieldType} {D : va_G} {Λ : LAM} {FR : Nat → Prop} {Q : RES → State → Prop} {o : ORC} {pc : Nat}
theorem sn_tsw (X : CX p l R s m args meth c own cc nL ret D Λ d o) {df lo hi : Int} {offs : Array Int} {len dd : Nat} {cs : List (Int32 × Nat)} (hdg : decode cc pc = .ok (.tableswitch df lo hi offs, len)) (hok : tsok pc lo offs.toList cs = true) (hhi : hi + 1 = lo + offs.toList.length) (hd : (pc : Int) + df = (dd : Int)) : SN p l e R s m args below meth c nL D Λ FR Q pc (x_sw cs dd) := by
  intro k L st A r hk h
  obtain ⟨hx, hb, hml, hown, hts, hKD, hR, hr, hlk, hO⟩ := X
  unfold x_sw at h
  split at h
  · next x r9 =>
    intro H locs ls hP hD hS hl
    rcases sw_tab cs offs.toList lo hok h with ⟨j, f, t, h1, h2, h3, h4⟩ | ⟨h1, h2⟩
    · have hj := (List.getElem?_eq_some_iff.mp h1).1
      refine lv_tableIn hx hb hdg (by omega) (by omega) (off := f) ?_ h3 (hk _ _ _ _ _ h4 H locs ls hP hD hS hl)
      rw [show (x.toInt - lo).toNat = j by omega, ← Array.getElem?_toList]
      exact h1
    · exact lv_tableOut hx hb hdg (by omega) hd (hk _ _ _ _ _ h2 H locs ls hP hD hS hl)
  · cases h
theorem sn_lsw (X : CX p l R s m args meth c own cc nL ret D Λ d o) {df : Int} {ps : Array (Int × Int)} {len dd : Nat} {cs : List (Int32 × Nat)} (hdg : decode cc pc = .ok (.lookupswitch df ps, len)) (hp : (ps.toList.zip (ps.toList.drop 1)).all (fun (a, next) => a.1 < next.1) = true) (hok : lkok pc ps.toList cs = true) (hd : (pc : Int) + df = (dd : Int)) : SN p l e R s m args below meth c nL D Λ FR Q pc (x_sw cs dd) := by
  intro k L st A r hk h
  obtain ⟨hx, hb, hml, hown, hts, hKD, hR, hr, hlk, hO⟩ := X
  unfold x_sw at h
  split at h
  · next x r9 =>
    intro H locs ls hP hD hS hl
    obtain ⟨t, h1, h2⟩ := sw_lk hd cs ps.toList hok h
    exact lv_lookup hx hb hdg hp rfl h1 (hk _ _ _ _ _ h2 H locs ls hP hD hS hl)
  · cases h
theorem sn_getI (X : CX p l R s m args meth c own cc nL ret D Λ d o) {idx ci j N : Nat} {C : String} {T : u_T} (hc : CLS[ci]? = some (C, T, N)) (hin : ∀ w ∈ u_ws C T N, w ∈ GW) (hj : j < N) (hf : fkd ci j = some 0) (hlink : Cond.fieldLink own idx (T j).1 (T j).2.1 (T j).2.2.1 ∈ GW) (hdg : decode cc pc = .ok (.getfield idx, 3)) : SN p l e R s m args below meth c nL D Λ FR Q pc (x_getI ci j (pc + 3)) := by
  intro k L st A r hk h
  obtain ⟨hx, hb, hml, hown, hts, hKD, hR, hr, hlk, hO⟩ := X
  unfold x_getI at h
  split at h
  · next q9 r9 =>
    cases q9 with
    | none => cases h
    | some a =>
      have h : (if okc a ci then k (pc + 3) L (iv (A.1 a j) :: r9) A else none) = some r := h
      split at h
      · next hok =>
        intro H locs ls hP hD hS hl
        exact va_get (a := (Λ a).1) hx hb hts hin hown hKD.1 hP a (WD_at (okc_spec hok)) hc j hj (hts _ hlink) (fun _ h9 => h9) (flds_at hf) hdg (hk _ _ _ _ _ h H locs ls hP hD hS hl)
      · cases h
  · cases h
theorem sn_getJ (X : CX p l R s m args meth c own cc nL ret D Λ d o) {idx ci j N : Nat} {C : String} {T : u_T} (hc : CLS[ci]? = some (C, T, N)) (hin : ∀ w ∈ u_ws C T N, w ∈ GW) (hj : j < N) (hf : fkd ci j = some 1) (hlink : Cond.fieldLink own idx (T j).1 (T j).2.1 (T j).2.2.1 ∈ GW) (hdg : decode cc pc = .ok (.getfield idx, 3)) : SN p l e R s m args below meth c nL D Λ FR Q pc (x_getJ ci j (pc + 3)) := by
  intro k L st A r hk h
  obtain ⟨hx, hb, hml, hown, hts, hKD, hR, hr, hlk, hO⟩ := X
  unfold x_getJ at h
  split at h
  · next q9 r9 =>
    cases q9 with
    | none => cases h
    | some a =>
      have h : (if okc a ci then k (pc + 3) L (jv (A.2.1 a j) :: r9) A else none) = some r := h
      split at h
      · next hok =>
        intro H locs ls hP hD hS hl
        exact va_get (a := (Λ a).1) hx hb hts hin hown hKD.1 hP a (WD_at (okc_spec hok)) hc j hj (hts _ hlink) (fun _ h9 => h9) (flds_at hf) hdg (hk _ _ _ _ _ h H locs ls hP hD hS hl)
      · cases h
  · cases h
theorem sn_getR (X : CX p l R s m args meth c own cc nL ret D Λ d o) {idx ci j N : Nat} {C : String} {T : u_T} (hc : CLS[ci]? = some (C, T, N)) (hin : ∀ w ∈ u_ws C T N, w ∈ GW) (hj : j < N) (hf : fkd ci j = some 2) (hlink : Cond.fieldLink own idx (T j).1 (T j).2.1 (T j).2.2.1 ∈ GW) (hdg : decode cc pc = .ok (.getfield idx, 3)) : SN p l e R s m args below meth c nL D Λ FR Q pc (x_getR ci j (pc + 3)) := by
  intro k L st A r hk h
  obtain ⟨hx, hb, hml, hown, hts, hKD, hR, hr, hlk, hO⟩ := X
  unfold x_getR at h
  split at h
  · next q9 r9 =>
    cases q9 with
    | none => cases h
    | some a =>
      have h : (if okc a ci then k (pc + 3) L (rv (RF A.2.2 a j) :: r9) A else none) = some r := h
      split at h
      · next hok =>
        intro H locs ls hP hD hS hl
        exact va_get (a := (Λ a).1) hx hb hts hin hown hKD.1 hP a (WD_at (okc_spec hok)) hc j hj (hts _ hlink) (fun _ h9 => h9) (flds_at hf) hdg (hk _ _ _ _ _ h H locs ls hP hD hS hl)
      · cases h
  · cases h
theorem sn_putI (X : CX p l R s m args meth c own cc nL ret D Λ d o) {idx ci j N : Nat} {C : String} {T : u_T} (hc : CLS[ci]? = some (C, T, N)) (hin : ∀ w ∈ u_ws C T N, w ∈ GW) (ty0 : Nat → FieldType) (hty : ∀ k, k < N → parseFieldDescriptor (T k).2.2.1 = some (ty0 k)) (hnm : ∀ a, a < N → ∀ b, b < N → a ≠ b → (T a).2.1 ≠ (T b).2.1) (hj : j < N) (hf : fkd ci j = some 0) (hfin : (T j).2.2.2 = false) (hd : parseFieldDescriptor (T j).2.2.1 = some .int) (hlink : Cond.fieldLink own idx (T j).1 (T j).2.1 (T j).2.2.1 ∈ GW) (hdg : decode cc pc = .ok (.putfield idx, 3)) : SN p l e R s m args below meth c nL D Λ FR Q pc (x_putI ci j (pc + 3)) := by
  intro k L st A r hk h
  obtain ⟨hx, hb, hml, hown, hts, hKD, hR, hr, hlk, hO⟩ := X
  unfold x_putI at h
  split at h
  · next v9 q9 r9 =>
    cases q9 with
    | none => cases h
    | some a =>
      have h : (if okc a ci then k (pc + 3) L r9 (wr A.1 a j v9, A.2.1, A.2.2) else none) = some r := h
      split at h
      · next hok =>
        intro H locs ls hP hD hS hl
        have hsh := okc_spec hok
        have hB : (flds Λ A a ci).set j (.int v9) = flds Λ (wr A.1 a j v9, A.2.1, A.2.2) a ci := by
          have e1 : (.int v9 : Value) = fldv Λ (wr A.1 a j v9, A.2.1, A.2.2) a j 0 := by
            simp [fldv, wr, wrC_s, up1]
          rw [e1]
          refine flds_set hf (fun i u hi hu => ?_)
          match u with
          | 0 => simp [fldv, wr, wrC_s, up1, hi]
          | 1 => simp [fldv, wr, wrC_s, up1, hi]
          | u + 2 => simp [fldv, wr, wrC_s, up1, hi]
        have hW : (WD Λ A).set a ((Λ a).1, .inr (ci, (flds Λ A a ci).set j (.int v9))) = WD Λ (wr A.1 a j v9, A.2.1, A.2.2) := by
          rw [hB]
          refine WD_set (s := .inr ci) hsh (fun k9 s9 hk9 => cell_congr ?_ ?_ ?_)
          · first | rfl | exact wrC_n hk9
          · first | rfl | exact wrC_n hk9
          · exact fun _ => rfl
        refine va_put (a := (Λ a).1) (v := .int v9) hx hb hts hin ty0 hty hnm hown hKD.1 hP hD hS a (WD_at hsh) hc j hj (hts _ hlink) (fun _ h9 => h9) hfin hd rfl rfl (List.getElem?_eq_some_iff.mp (flds_at hf)).1 hdg (fun H1 locs1 hP1 hD1 hS1 => ?_)
        rw [hW] at hP1 hD1
        exact hk _ _ _ _ _ h H1 locs1 ls hP1 hD1 hS1 hl
      · cases h
  · cases h
theorem sn_putJ (X : CX p l R s m args meth c own cc nL ret D Λ d o) {idx ci j N : Nat} {C : String} {T : u_T} (hc : CLS[ci]? = some (C, T, N)) (hin : ∀ w ∈ u_ws C T N, w ∈ GW) (ty0 : Nat → FieldType) (hty : ∀ k, k < N → parseFieldDescriptor (T k).2.2.1 = some (ty0 k)) (hnm : ∀ a, a < N → ∀ b, b < N → a ≠ b → (T a).2.1 ≠ (T b).2.1) (hj : j < N) (hf : fkd ci j = some 1) (hfin : (T j).2.2.2 = false) (hd : parseFieldDescriptor (T j).2.2.1 = some .long) (hlink : Cond.fieldLink own idx (T j).1 (T j).2.1 (T j).2.2.1 ∈ GW) (hdg : decode cc pc = .ok (.putfield idx, 3)) : SN p l e R s m args below meth c nL D Λ FR Q pc (x_putJ ci j (pc + 3)) := by
  intro k L st A r hk h
  obtain ⟨hx, hb, hml, hown, hts, hKD, hR, hr, hlk, hO⟩ := X
  unfold x_putJ at h
  split at h
  · next v9 q9 r9 =>
    cases q9 with
    | none => cases h
    | some a =>
      have h : (if okc a ci then k (pc + 3) L r9 (A.1, wr A.2.1 a j v9, A.2.2) else none) = some r := h
      split at h
      · next hok =>
        intro H locs ls hP hD hS hl
        have hsh := okc_spec hok
        have hB : (flds Λ A a ci).set j (.long v9) = flds Λ (A.1, wr A.2.1 a j v9, A.2.2) a ci := by
          have e1 : (.long v9 : Value) = fldv Λ (A.1, wr A.2.1 a j v9, A.2.2) a j 1 := by
            simp [fldv, wr, wrC_s, up1]
          rw [e1]
          refine flds_set hf (fun i u hi hu => ?_)
          match u with
          | 0 => simp [fldv, wr, wrC_s, up1, hi]
          | 1 => simp [fldv, wr, wrC_s, up1, hi]
          | u + 2 => simp [fldv, wr, wrC_s, up1, hi]
        have hW : (WD Λ A).set a ((Λ a).1, .inr (ci, (flds Λ A a ci).set j (.long v9))) = WD Λ (A.1, wr A.2.1 a j v9, A.2.2) := by
          rw [hB]
          refine WD_set (s := .inr ci) hsh (fun k9 s9 hk9 => cell_congr ?_ ?_ ?_)
          · first | rfl | exact wrC_n hk9
          · first | rfl | exact wrC_n hk9
          · exact fun _ => rfl
        refine va_put (a := (Λ a).1) (v := .long v9) hx hb hts hin ty0 hty hnm hown hKD.1 hP hD hS a (WD_at hsh) hc j hj (hts _ hlink) (fun _ h9 => h9) hfin hd rfl rfl (List.getElem?_eq_some_iff.mp (flds_at hf)).1 hdg (fun H1 locs1 hP1 hD1 hS1 => ?_)
        rw [hW] at hP1 hD1
        exact hk _ _ _ _ _ h H1 locs1 ls hP1 hD1 hS1 hl
      · cases h
  · cases h
theorem sn_putC (X : CX p l R s m args meth c own cc nL ret D Λ d o) {idx : Nat} (hin : ∀ w ∈ u_ws RX9 TX9 17, w ∈ GW) (hlink : Cond.fieldLink own idx (TX9 11).1 (TX9 11).2.1 (TX9 11).2.2.1 ∈ GW) (hdg : decode cc pc = .ok (.putfield idx, 3)) : SN p l e R s m args below meth c nL D Λ FR Q pc (x_putC (pc + 3)) := by
  intro k L st A r hk h
  obtain ⟨hx, hb, hml, hown, hts, hKD, hR, hr, hlk, hO⟩ := X
  unfold x_putC at h
  split at h
  · next v9 q9 r9 =>
    cases q9 with
    | none => cases h
    | some a =>
      cases v9 with
      | none => cases h
      | some b =>
        have h : (bif Nat.beq a 0 then k (pc + 3) L r9 (A.1, A.2.1, b, A.2.2.2) else none) = some r := h
        cases hc : Nat.beq a 0 with
        | false => rw [hc] at h; cases h
        | true =>
          rw [hc] at h
          have h : k (pc + 3) L r9 (A.1, A.2.1, b, A.2.2.2) = some r := h
          have ha := Nat.eq_of_beq_eq_true hc
          subst ha
          intro H locs ls hP hD hS hl
          have hsh : lgt SH 0 = some (.inr 9) := rfl
          have hf : fkd 9 11 = some 2 := rfl
          have hB : (flds Λ A 0 9).set 11 (.ref (Λ b).1) = flds Λ (A.1, A.2.1, b, A.2.2.2) 0 9 := by
            have e1 : (.ref (Λ b).1 : Value) = fldv Λ (A.1, A.2.1, b, A.2.2.2) 0 11 2 := rfl
            rw [e1]
            refine flds_set hf (fun i u hi hu => ?_)
            have hne : Nat.beq i 11 = false := by
              cases h9 : Nat.beq i 11 with
              | true => exact absurd (Nat.eq_of_beq_eq_true h9) hi
              | false => rfl
            match u with
            | 0 => rfl
            | 1 => rfl
            | u + 2 => simp only [fldv, RF, hne, cond_false]
          have hW : (WD Λ A).set 0 ((Λ 0).1, .inr (9, (flds Λ A 0 9).set 11 (.ref (Λ b).1))) = WD Λ (A.1, A.2.1, b, A.2.2.2) := by
            rw [hB]
            refine WD_set (s := .inr 9) hsh (fun k9 s9 hk9 => cell_congr rfl rfl (fun j => ?_))
            have hne : Nat.beq k9 0 = false := by
              cases h9 : Nat.beq k9 0 with
              | true => exact absurd (Nat.eq_of_beq_eq_true h9) hk9
              | false => rfl
            simp only [RF, hne, cond_false]
          refine va_put (a := (Λ 0).1) (v := .ref (Λ b).1) (C := RX9) (T := TX9) (N := 17) hx hb hts hin tyX9 tyX9_ok nmX9 hown hKD.1 hP hD hS 0 (WD_at hsh) rfl 11 (by decide) (hts _ hlink) (fun _ h9 => h9) rfl (show parseFieldDescriptor _ = some (.object "RiverDays$Course") by decide +kernel) rfl rfl (List.getElem?_eq_some_iff.mp (flds_at hf)).1 hdg (fun H1 locs1 hP1 hD1 hS1 => ?_)
          rw [hW] at hP1 hD1
          exact hk _ _ _ _ _ h H1 locs1 ls hP1 hD1 hS1 hl
  · cases h
theorem sn_putD (X : CX p l R s m args meth c own cc nL ret D Λ d o) {idx : Nat} (hin : ∀ w ∈ u_ws RX9 TX9 17, w ∈ GW) (hlink : Cond.fieldLink own idx (TX9 12).1 (TX9 12).2.1 (TX9 12).2.2.1 ∈ GW) (hdg : decode cc pc = .ok (.putfield idx, 3)) : SN p l e R s m args below meth c nL D Λ FR Q pc (x_putD (pc + 3)) := by
  intro k L st A r hk h
  obtain ⟨hx, hb, hml, hown, hts, hKD, hR, hr, hlk, hO⟩ := X
  unfold x_putD at h
  split at h
  · next v9 q9 r9 =>
    cases q9 with
    | none => cases h
    | some a =>
      cases v9 with
      | none => cases h
      | some b =>
        have h : (bif Nat.beq a 0 then k (pc + 3) L r9 (A.1, A.2.1, A.2.2.1, b) else none) = some r := h
        cases hc : Nat.beq a 0 with
        | false => rw [hc] at h; cases h
        | true =>
          rw [hc] at h
          have h : k (pc + 3) L r9 (A.1, A.2.1, A.2.2.1, b) = some r := h
          have ha := Nat.eq_of_beq_eq_true hc
          subst ha
          intro H locs ls hP hD hS hl
          have hsh : lgt SH 0 = some (.inr 9) := rfl
          have hf : fkd 9 12 = some 2 := rfl
          have hB : (flds Λ A 0 9).set 12 (.ref (Λ b).1) = flds Λ (A.1, A.2.1, A.2.2.1, b) 0 9 := by
            have e1 : (.ref (Λ b).1 : Value) = fldv Λ (A.1, A.2.1, A.2.2.1, b) 0 12 2 := rfl
            rw [e1]
            refine flds_set hf (fun i u hi hu => ?_)
            have hne : Nat.beq i 12 = false := by
              cases h9 : Nat.beq i 12 with
              | true => exact absurd (Nat.eq_of_beq_eq_true h9) hi
              | false => rfl
            match u with
            | 0 => rfl
            | 1 => rfl
            | u + 2 => simp only [fldv, RF, hne, cond_false]
          have hW : (WD Λ A).set 0 ((Λ 0).1, .inr (9, (flds Λ A 0 9).set 12 (.ref (Λ b).1))) = WD Λ (A.1, A.2.1, A.2.2.1, b) := by
            rw [hB]
            refine WD_set (s := .inr 9) hsh (fun k9 s9 hk9 => cell_congr rfl rfl (fun j => ?_))
            have hne : Nat.beq k9 0 = false := by
              cases h9 : Nat.beq k9 0 with
              | true => exact absurd (Nat.eq_of_beq_eq_true h9) hk9
              | false => rfl
            simp only [RF, hne, cond_false]
          refine va_put (a := (Λ 0).1) (v := .ref (Λ b).1) (C := RX9) (T := TX9) (N := 17) hx hb hts hin tyX9 tyX9_ok nmX9 hown hKD.1 hP hD hS 0 (WD_at hsh) rfl 12 (by decide) (hts _ hlink) (fun _ h9 => h9) rfl (show parseFieldDescriptor _ = some (.object "RiverDays$Course") by decide +kernel) rfl rfl (List.getElem?_eq_some_iff.mp (flds_at hf)).1 hdg (fun H1 locs1 hP1 hD1 hS1 => ?_)
          rw [hW] at hP1 hD1
          exact hk _ _ _ _ _ h H1 locs1 ls hP1 hD1 hS1 hl
  · cases h
theorem sn_iald (X : CX p l R s m args meth c own cc nL ret D Λ d o) (hdg : decode cc pc = .ok (.iaload, 1)) : SN p l e R s m args below meth c nL D Λ FR Q pc (x_ald 0 (pc + 1)) := by
  intro k L st A r hk h
  obtain ⟨hx, hb, hml, hown, hts, hKD, hR, hr, hlk, hO⟩ := X
  unfold x_ald at h
  split at h
  · next i9 q9 r9 =>
    cases q9 with
    | none => cases h
    | some a =>
      have h : (if inb i9 (alen 0 a) then k (pc + 1) L (iv (A.1 a i9.toNatClampNeg) :: r9) A else none) = some r := h
      split at h
      · next hok =>
        intro H locs ls hP hD hS hl
        obtain ⟨hsh, hin⟩ := alen_spec hok
        exact va_iald (a := (Λ a).1) (tys := [((Λ a).2, TYS 0)]) hx hb (hKD.2.1 a 0 _ hsh) hP a 0 (WD_at hsh) rfl hin hdg (hk _ _ _ _ _ h H locs ls hP hD hS hl)
      · cases h
  · cases h
theorem sn_zald (X : CX p l R s m args meth c own cc nL ret D Λ d o) (hdg : decode cc pc = .ok (.baload, 1)) : SN p l e R s m args below meth c nL D Λ FR Q pc (x_ald 1 (pc + 1)) := by
  intro k L st A r hk h
  obtain ⟨hx, hb, hml, hown, hts, hKD, hR, hr, hlk, hO⟩ := X
  unfold x_ald at h
  split at h
  · next i9 q9 r9 =>
    cases q9 with
    | none => cases h
    | some a =>
      have h : (if inb i9 (alen 1 a) then k (pc + 1) L (iv (A.1 a i9.toNatClampNeg) :: r9) A else none) = some r := h
      split at h
      · next hok =>
        intro H locs ls hP hD hS hl
        obtain ⟨hsh, hin⟩ := alen_spec hok
        exact va_zald (a := (Λ a).1) (tys := [((Λ a).2, TYS 1)]) hx hb (hKD.2.1 a 1 _ hsh) hP a 0 (WD_at hsh) rfl hin hdg (hk _ _ _ _ _ h H locs ls hP hD hS hl)
      · cases h
  · cases h
theorem sn_rald (X : CX p l R s m args meth c own cc nL ret D Λ d o) (hdg : decode cc pc = .ok (.aaload, 1)) : SN p l e R s m args below meth c nL D Λ FR Q pc (x_aald 2 (pc + 1)) := by
  intro k L st A r hk h
  obtain ⟨hx, hb, hml, hown, hts, hKD, hR, hr, hlk, hO⟩ := X
  unfold x_aald at h
  split at h
  · next i9 q9 r9 =>
    cases q9 with
    | none => cases h
    | some a =>
      have h : (if inb i9 (alen 2 a) then k (pc + 1) L (rv (RF A.2.2 a i9.toNatClampNeg) :: r9) A else none) = some r := h
      split at h
      · next hok =>
        intro H locs ls hP hD hS hl
        obtain ⟨hsh, hin⟩ := alen_spec hok
        have hlt : i9.toNatClampNeg < alen 2 a := Nat.not_le.mp fun q => hin (Or.inr q)
        exact W.aald (v := va_rf (adr Λ (RF A.2.2 a i9.toNatClampNeg))) (ty := TYS 2) hx hb (hP a _ (WD_at hsh)) (((hKD.2.1 a 2 _ hsh).2 0 _ rfl).1 (alen 2 a) (fun j => va_rf (adr Λ (RF A.2.2 a j)))) rfl (fun q => by cases q) (by show ¬ (i9 < 0 ∨ (arrV _ _ _).slots.size ≤ _); rw [arrV_size]; exact hin) (by show (arrV _ _ _).slots[_]? = _; rw [arrV_read _ _ hlt]) rfl rfl hdg (hk _ _ _ _ _ h H locs ls hP hD hS hl)
      · cases h
  · cases h
theorem sn_dald (X : CX p l R s m args meth c own cc nL ret D Λ d o) (hdg : decode cc pc = .ok (.aaload, 1)) : SN p l e R s m args below meth c nL D Λ FR Q pc (x_aald 3 (pc + 1)) := by
  intro k L st A r hk h
  obtain ⟨hx, hb, hml, hown, hts, hKD, hR, hr, hlk, hO⟩ := X
  unfold x_aald at h
  split at h
  · next i9 q9 r9 =>
    cases q9 with
    | none => cases h
    | some a =>
      have h : (if inb i9 (alen 3 a) then k (pc + 1) L (rv (RF A.2.2 a i9.toNatClampNeg) :: r9) A else none) = some r := h
      split at h
      · next hok =>
        intro H locs ls hP hD hS hl
        obtain ⟨hsh, hin⟩ := alen_spec hok
        have hlt : i9.toNatClampNeg < alen 3 a := Nat.not_le.mp fun q => hin (Or.inr q)
        exact W.aald (v := va_rf (adr Λ (RF A.2.2 a i9.toNatClampNeg))) (ty := TYS 3) hx hb (hP a _ (WD_at hsh)) (((hKD.2.1 a 3 _ hsh).2 0 _ rfl).1 (alen 3 a) (fun j => va_rf (adr Λ (RF A.2.2 a j)))) rfl (fun q => by cases q) (by show ¬ (i9 < 0 ∨ (arrV _ _ _).slots.size ≤ _); rw [arrV_size]; exact hin) (by show (arrV _ _ _).slots[_]? = _; rw [arrV_read _ _ hlt]) rfl rfl hdg (hk _ _ _ _ _ h H locs ls hP hD hS hl)
      · cases h
  · cases h
theorem sn_iast (X : CX p l R s m args meth c own cc nL ret D Λ d o) (hdg : decode cc pc = .ok (.iastore, 1)) : SN p l e R s m args below meth c nL D Λ FR Q pc (x_iast (pc + 1)) := by
  intro k L st A r hk h
  obtain ⟨hx, hb, hml, hown, hts, hKD, hR, hr, hlk, hO⟩ := X
  unfold x_iast at h
  split at h
  · next v9 i9 q9 r9 =>
    cases q9 with
    | none => cases h
    | some a =>
      have h : (if inb i9 (alen 0 a) then k (pc + 1) L r9 (wr A.1 a i9.toNatClampNeg v9, A.2.1, A.2.2) else none) = some r := h
      split at h
      · next hok =>
        intro H locs ls hP hD hS hl
        obtain ⟨hsh, hin⟩ := alen_spec hok
        have hW : (WD Λ A).set a ((Λ a).1, .inl ((Λ a).2, alen 0 a, .inl (upd (A.1 a) i9.toNatClampNeg v9))) = WD Λ (wr A.1 a i9.toNatClampNeg v9, A.2.1, A.2.2) := by
          rw [show (.inl ((Λ a).2, alen 0 a, .inl (upd (A.1 a) i9.toNatClampNeg v9)) : va_E) = cellOf Λ (wr A.1 a i9.toNatClampNeg v9, A.2.1, A.2.2) a (.inl (0, alen 0 a)) by simp only [cellOf, wr, wrC_s]; rfl]
          exact WD_set hsh (fun k9 s9 hk9 => cell_congr (wrC_n hk9) rfl (fun _ => rfl))
        refine va_iast (a := (Λ a).1) (tys := [((Λ a).2, TYS 0)]) hx hb (hKD.2.1 a 0 _ hsh) hP hD hS a 0 (WD_at hsh) rfl hin hdg (fun H1 locs1 hP1 hD1 hS1 => ?_)
        rw [hW] at hP1 hD1
        exact hk _ _ _ _ _ h H1 locs1 ls hP1 hD1 hS1 hl
      · cases h
  · cases h
theorem sn_zast (X : CX p l R s m args meth c own cc nL ret D Λ d o) (hdg : decode cc pc = .ok (.bastore, 1)) : SN p l e R s m args below meth c nL D Λ FR Q pc (x_zast (pc + 1)) := by
  intro k L st A r hk h
  obtain ⟨hx, hb, hml, hown, hts, hKD, hR, hr, hlk, hO⟩ := X
  unfold x_zast at h
  split at h
  · next v9 i9 q9 r9 =>
    cases q9 with
    | none => cases h
    | some a =>
      have h : (if inb i9 (alen 1 a) then k (pc + 1) L r9 (wr A.1 a i9.toNatClampNeg (vp_nar .boolean v9), A.2.1, A.2.2) else none) = some r := h
      split at h
      · next hok =>
        intro H locs ls hP hD hS hl
        obtain ⟨hsh, hin⟩ := alen_spec hok
        have hW : (WD Λ A).set a ((Λ a).1, .inl ((Λ a).2, alen 1 a, .inl (upd (A.1 a) i9.toNatClampNeg (vp_nar .boolean v9)))) = WD Λ (wr A.1 a i9.toNatClampNeg (vp_nar .boolean v9), A.2.1, A.2.2) := by
          rw [show (.inl ((Λ a).2, alen 1 a, .inl (upd (A.1 a) i9.toNatClampNeg (vp_nar .boolean v9))) : va_E) = cellOf Λ (wr A.1 a i9.toNatClampNeg (vp_nar .boolean v9), A.2.1, A.2.2) a (.inl (1, alen 1 a)) by simp only [cellOf, wr, wrC_s]; rfl]
          exact WD_set hsh (fun k9 s9 hk9 => cell_congr (wrC_n hk9) rfl (fun _ => rfl))
        refine va_zast (a := (Λ a).1) (tys := [((Λ a).2, TYS 1)]) hx hb (hKD.2.1 a 1 _ hsh) hP hD hS a 0 (WD_at hsh) rfl hin hdg (fun H1 locs1 hP1 hD1 hS1 => ?_)
        rw [hW] at hP1 hD1
        exact hk _ _ _ _ _ h H1 locs1 ls hP1 hD1 hS1 hl
      · cases h
  · cases h
theorem sn_alen (X : CX p l R s m args meth c own cc nL ret D Λ d o) (hdg : decode cc pc = .ok (.arraylength, 1)) : SN p l e R s m args below meth c nL D Λ FR Q pc (x_alen (pc + 1)) := by
  intro k L st A r hk h
  obtain ⟨hx, hb, hml, hown, hts, hKD, hR, hr, hlk, hO⟩ := X
  unfold x_alen at h
  split at h
  · next q9 r9 =>
    cases q9 with
    | none => cases h
    | some a =>
      have h : ((alO a).bind fun n => k (pc + 1) L (iv (nI n) :: r9) A) = some r := h
      cases hn : alO a with
      | none => rw [hn] at h; cases h
      | some n =>
        rw [hn] at h
        have h : k (pc + 1) L (iv (nI n) :: r9) A = some r := h
        intro H locs ls hP hD hS hl
        unfold alO at hn
        split at hn
        · next x hx9 =>
          cases hn
          exact va_alen (a := (Λ a).1) (tys := [((Λ a).2, TYS x.1)]) (ty := TYS x.1) hx hb (hKD.2.1 a x.1 x.2 hx9) hP a 0 (WD_at hx9) rfl rfl hdg (hk _ _ _ _ _ h H locs ls hP hD hS hl)
        · cases hn
  · cases h
theorem alen_pos {t a : Nat} (h : 0 < alen t a) : lgt SH a = some (.inl (t, alen t a)) := by
  unfold alen at h ⊢
  split at h
  · next x hx =>
    cases hb : Nat.beq x.1 t with
    | true =>
      rw [hx]
      simp only [hb, cond_true]
      rw [← Nat.eq_of_beq_eq_true hb]
    | false =>
      rw [hb] at h
      simp at h
  · omega
theorem sn_copy (X : CX p l R s m args meth c own cc nL ret D Λ d o) {idx : Nat} (hlink : Cond.methodLink own idx arraycopyName ∈ GW) (hnat : Cond.native arraycopyName ∈ GW) (hstat : Cond.static arraycopyName ∈ GW) (hini : Cond.initialized "java/lang/System" ∈ GW) (hdg : decode cc pc = .ok (.invokestatic idx, 3)) : SN p l e R s m args below meth c nL D Λ FR Q pc (x_copy (pc + 3)) := by
  intro k L st A r hk h
  obtain ⟨hx, hb, hml, hown, hts, hKD, hR, hr, hlk, hO⟩ := X
  unfold x_copy at h
  split at h
  · next n dp q9 sp o9 r9 =>
    cases o9 with
    | none => cases h
    | some a =>
      cases q9 with
      | none => cases h
      | some b =>
        have h : (if okcp a b sp dp n then (bif Nat.ble (cats r9) 8 then k (pc + 3) L r9 (wrC A.1 b (va_cpy (A.1 a) (A.1 b) sp.toNatClampNeg dp.toNatClampNeg n.toNatClampNeg), A.2.1, A.2.2) else none) else none) = some r := h
        split at h
        · next hok =>
          cases hc : Nat.ble (cats r9) 8 with
          | false => rw [hc] at h; cases h
          | true =>
            rw [hc] at h
            have h : k (pc + 3) L r9 (wrC A.1 b (va_cpy (A.1 a) (A.1 b) sp.toNatClampNeg dp.toNatClampNeg n.toNatClampNeg), A.2.1, A.2.2) = some r := h
            have hcat := Nat.le_of_ble_eq_true hc
            intro H locs ls hP hD hS hl
            unfold okcp at hok
            simp only [Bool.and_eq_true, decide_eq_true_eq] at hok
            obtain ⟨⟨⟨⟨⟨⟨h1, h2⟩, h3⟩, h4⟩, h5⟩, h6⟩, h7⟩ := hok
            have ha := alen_pos h6
            have hb' := alen_pos h7
            have hW : (WD Λ A).set b ((Λ b).1, .inl ((Λ b).2, alen 0 b, .inl (va_cpy (A.1 a) (A.1 b) sp.toNatClampNeg dp.toNatClampNeg n.toNatClampNeg))) = WD Λ (wrC A.1 b (va_cpy (A.1 a) (A.1 b) sp.toNatClampNeg dp.toNatClampNeg n.toNatClampNeg), A.2.1, A.2.2) := by
              rw [show (.inl ((Λ b).2, alen 0 b, .inl (va_cpy (A.1 a) (A.1 b) sp.toNatClampNeg dp.toNatClampNeg n.toNatClampNeg)) : va_E) = cellOf Λ (wrC A.1 b (va_cpy (A.1 a) (A.1 b) sp.toNatClampNeg dp.toNatClampNeg n.toNatClampNeg), A.2.1, A.2.2) b (.inl (0, alen 0 b)) by simp only [cellOf, wrC_s]; rfl]
              exact WD_set hb' (fun k9 s9 hk9 => cell_congr (wrC_n hk9) rfl (fun _ => rfl))
            have hK2 : va_K D CLS [((Λ a).2, TYS 0), ((Λ b).2, TYS 0)] s := (hKD.2.1 a 0 _ ha).app (hKD.2.1 b 0 _ hb')
            refine va_copyi (a0 := (Λ a).1) (a := (Λ b).1) (tys := [((Λ a).2, TYS 0), ((Λ b).2, TYS 0)]) (ty := .int) hx hb (by rw [hml]; exact hl.1.symm) hown (hts _ hlink) (hts _ hnat) (hts _ hstat) (hts _ hini) hK2 hP hD hS a b 0 1 (WD_at ha) (WD_at hb') rfl rfl rfl h1 h2 h3 h4 h5 (fun i _ => rfl) (by have := hR.1; omega) ?_ hdg (fun H1 locs1 hP1 hD1 hS1 => ?_)
            · rw [cats_sum]
              have : nativeFrameWords "java/lang/System" "arraycopy" 5 = 7 := by decide +kernel
              rw [this]
              have := hR.2
              omega
            · rw [hW] at hP1 hD1
              exact hk _ _ _ _ _ h H1 locs1 ls hP1 hD1 hS1 hl
        · cases h
  · cases h
end SND
end
section
/-! soundness of calls; of a method by its code; of all methods by the depth -/
section SND
variable {p : Program} {l : Launch} {e : Env} {R : Room} {s : State} {m : MethodId} {args : Array Value} {below : List Frame} {meth : Method} {c : Code} {own : String} {cc : ByteArray} {nL d : Nat} {ret : Option FieldType} {D : va_G} {Λ : LAM} {FR : Nat → Prop} {Q : RES → State → Prop} {o : ORC} {pc : Nat}
theorem callG {H : Heap} {locs : List Loc} {ls : Array Slot} {st0 rest : List Value} {v : AV} {B : AH} {A1 free : Nat → Prop} {a : Array Value} {Q : State → Prop} (hr : va_Run p l e R s m args below meth c H locs 0 0 0 0 (F0 m pc ls st0) rest (QM D Λ v B A1 a) free) (hS : va_S FR s.heap H locs) (hA : ∀ q, q < H.size → A1 q → FR q) (hf : ∀ q, free q → FR q)
    (kk : ∀ (H1 : Heap) (locs1 : List Loc), va_P D CLS (WD Λ B) H1 → va_S FR s.heap H1 locs1 → W p l e R s m args below meth c H1 locs1 0 0 Q (F0 m (pc + 3) ls ((cvr v).toList ++ rest))) : W p l e R s m args below meth c H locs 0 0 Q (F0 m pc ls st0) := by
  intro T hT X
  obtain ⟨w, st₀, t, T', L, h0, X', hL, e1, e2, ⟨⟨hv, hp⟩, hz, hk⟩, st⟩ := hr T hT X
  have hv : w = cvr v := by injection hv
  subst hv
  rw [h0] at hz hk
  obtain ⟨t2, a1, b1⟩ := kk T'.heap (locs ++ L) (by rw [e1]; exact hp)
    ⟨Nat.le_trans hS.1 (by rw [e1]; exact hz), fun q h1 h2 => by rw [e1, hk q (Nat.lt_of_lt_of_le h1 hS.1) (fun z => h2 (hA q (Nat.lt_of_lt_of_le h1 hS.1) z))]; exact hS.2.1 q h1 h2, fun q hq => by
      rcases List.mem_append.mp hq with h | h
      · exact hS.2.2 q h
      · exact hf _ (hL q h)⟩ T' rfl X'
  exact ⟨t2, st t2 a1, b1⟩
theorem fr_in {A : AH} {H : Heap} {locs : List Loc} (hD : va_D FR (WD Λ A)) (hS : va_S FR s.heap H locs) (hFR : ∀ q, s.heap.size ≤ q → FR q) : ∀ q, va_A (WD Λ A) H.size q → FR q := by
  intro q h
  rcases h with ⟨k, e, h⟩ | h
  · exact hD.2 k _ h
  · exact hFR q (Nat.le_trans hS.1 h)
theorem pm_blind {A : AH} {as : List AV} {sz : Nat} : FrameBlind (PM D Λ A as sz) := by
  intro a U g mk h
  obtain ⟨h1, h2, h3, h4, h5⟩ := h
  exact ⟨h1, h2, h3, h4.call, h5⟩
theorem pm_at {A : AH} {as : List AV} {H : Heap} (hK : KD D Λ s) (hP : va_P D CLS (WD Λ A) H) (hD : va_D FR (WD Λ A)) : ∀ U : State, U.heap = H → s.WarmedH U.vm → PM D Λ A as H.size (as.map (cv Λ)).toArray U := fun U hU hW => ⟨rfl, by rw [hU], by rw [hU]; exact hP, hK.warm hW, hD.weaken (fun _ _ _ _ => trivial)⟩
theorem okst_spec {n : Nat} {st : List AV} (h : okst n st = true) : n ≤ st.length ∧ cats (st.drop n) ≤ 8 := by
  unfold okst at h
  simp only [Bool.and_eq_true] at h
  exact ⟨Nat.le_of_ble_eq_true h.1, Nat.le_of_ble_eq_true h.2⟩
theorem vcall (X : CX p l R s m args meth c own cc nL ret D Λ d o) (hFR : ∀ q, s.heap.size ≤ q → FR q) {i : MIn} {np idx ci y N : Nat} {T : u_T} (hy : lgt MT y = some i) (hc : CLS[ci]? = some (i.1.cls, T, N)) (hm : MF i np) (hlink : Cond.methodLink own idx i.1 ∈ GW) (hinst : Cond.instanceMethod i.1 ∈ GW) (hsel : Cond.selects i.1.cls i.1 i.1 ∈ GW) (hdg : decode cc pc = .ok (.invokevirtual idx, 3))
    {st : List AV} {A : AH} {v : AV} {B : AH} {Q : State → Prop} (hst : okst (np + 1) st = true) (hrc : rcv (st.take (np + 1)).reverse ci = true) (ho : o y (st.take (np + 1)).reverse A = some (v, B)) {H : Heap} {locs : List Loc} {ls : Array Slot} (hP : va_P D CLS (WD Λ A) H) (hD : va_D FR (WD Λ A)) (hS : va_S FR s.heap H locs) (hls : ls.size = nL)
    (kk : ∀ (H1 : Heap) (locs1 : List Loc), va_P D CLS (WD Λ B) H1 → va_D FR (WD Λ B) → va_S FR s.heap H1 locs1 → W p l e R s m args below meth c H1 locs1 0 0 Q (F0 m (pc + 3) ls ((cvr v).toList ++ (st.drop (np + 1)).map (cv Λ)))) : W p l e R s m args below meth c H locs 0 0 Q (F0 m pc ls (st.map (cv Λ))) := by
  obtain ⟨hx, hb, hml, hown, hts, hKD, hR, hr, hlk, hO⟩ := X
  obtain ⟨hcode, hini, hnm, hmx⟩ := hm
  obtain ⟨h1, h2⟩ := okst_spec hst
  have hsplit : st = st.take (np + 1) ++ st.drop (np + 1) := (List.take_append_drop _ _).symm
  generalize hrest : st.drop (np + 1) = rest at *
  have hlen : (st.take (np + 1)).length = np + 1 := by rw [List.length_take]; omega
  generalize hT9 : st.take (np + 1) = tk at *
  obtain ⟨b, as', hba⟩ : ∃ b as', tk.reverse = rv (some b) :: as' := by
    unfold rcv at hrc
    split at hrc
    · next b t hq => exact ⟨b, t, hq⟩
    · cases hrc
  rw [hba] at ho hrc
  have hrc : okc b ci = true := hrc
  have htk : tk = as'.reverse ++ [rv (some b)] := by
    have := congrArg List.reverse hba
    simpa using this
  have hl' : as'.length = np := by
    rw [htk] at hlen
    simpa using hlen
  have hsh := okc_spec hrc
  have hFc := fr_in hD hS hFR
  have hM := hO y _ A v B ho i hy H.size
  have cw : CallW R s args own i.1.cls idx i.1 i.2.1 i.2.2.1 i.2.2.2 (.code i.1 i.2.1 i.2.2.1 i.2.2.2 :: GW) (rmd d) 0 0 np := ⟨callB_of np hts (gw_in hcode) rfl rfl rfl (hts _ hini) (hts _ hlink) hnm ⟨hR.1, by show 8 + (i.2.2.1 + 11) + 300 * d ≤ R.locals; have := hR.2; omega⟩, hts _ hinst, hts _ hsel⟩
  have hstk : st.map (cv Λ) = (as'.map (cv Λ)).reverse ++ .ref (Λ b).1 :: rest.map (cv Λ) := by
    rw [hsplit, htk]
    simp [List.map_reverse, cv, adr, va_rf]
  rw [hstk]
  refine callG (A1 := va_A (WD Λ A) H.size) (free := va_A (WD Λ A) H.size) (va_runV (n := np) (b := (Λ b).1) (As := as'.map (cv Λ)) (rest := rest.map (cv Λ)) ⟨hx, hb, hml, hown, hts⟩ hM cw ⟨pm_blind, va_recv hKD.1 hP hc (WD_at hsh), pm_at hKD hP hD⟩ rfl (by simpa using hl') hls rfl (lv_room (by rw [cats_sum]; exact h2)) hdg ⟨Nat.zero_le _, Nat.zero_le _⟩) hS (fun q _ h => hFc q h) hFc (fun H1 locs1 hP1 hS1 => ?_)
  exact kk H1 locs1 hP1 (WD_D hD (fun _ h => h)) hS1
theorem scall (X : CX p l R s m args meth c own cc nL ret D Λ d o) (hFR : ∀ q, s.heap.size ≤ q → FR q) {i : MIn} {np idx y : Nat} (hy : lgt MT y = some i) (hm : MF i np) (hlink : Cond.methodLink own idx i.1 ∈ GW ∨ ∃ host, va_Nw (.methodLinkNest own idx i.1 host) s) (hstat : Cond.static i.1 ∈ GW) (hdg : decode cc pc = .ok (.invokestatic idx, 3))
    {st : List AV} {A : AH} {v : AV} {B : AH} {Q : State → Prop} (hst : okst np st = true) (ho : o y (st.take np).reverse A = some (v, B)) {H : Heap} {locs : List Loc} {ls : Array Slot} (hP : va_P D CLS (WD Λ A) H) (hD : va_D FR (WD Λ A)) (hS : va_S FR s.heap H locs) (hls : ls.size = nL)
    (kk : ∀ (H1 : Heap) (locs1 : List Loc), va_P D CLS (WD Λ B) H1 → va_D FR (WD Λ B) → va_S FR s.heap H1 locs1 → W p l e R s m args below meth c H1 locs1 0 0 Q (F0 m (pc + 3) ls ((cvr v).toList ++ (st.drop np).map (cv Λ)))) : W p l e R s m args below meth c H locs 0 0 Q (F0 m pc ls (st.map (cv Λ))) := by
  obtain ⟨hx, hb, hml, hown, hts, hKD, hR, hr, hlk, hO⟩ := X
  obtain ⟨hcode, hini, hnm, hmx⟩ := hm
  obtain ⟨h1, h2⟩ := okst_spec hst
  have hsplit : st = st.take np ++ st.drop np := (List.take_append_drop _ _).symm
  generalize hrest : st.drop np = rest at *
  have hlen : (st.take np).length = np := by rw [List.length_take]; omega
  generalize hT9 : st.take np = tk at *
  have hFc := fr_in hD hS hFR
  have hM := hO y _ A v B ho i hy H.size
  have hroom : d + 1 ≤ R.frames ∧ 8 + (i.2.2.1 + 11) + 300 * d ≤ R.locals := ⟨hR.1, by have := hR.2; omega⟩
  have hstk : st.map (cv Λ) = (tk.reverse.map (cv Λ)).reverse ++ rest.map (cv Λ) := by
    rw [hsplit]
    simp [List.map_reverse]
  rw [hstk]
  refine callG (A1 := va_A (WD Λ A) H.size) (free := va_A (WD Λ A) H.size) (D := D) (Λ := Λ) (v := v) (B := B) (rest := rest.map (cv Λ)) (a := (tk.reverse.map (cv Λ)).toArray) ?_ hS (fun q _ h => hFc q h) hFc (fun H1 locs1 hP1 hS1 => ?_)
  · rcases hlink with hlink | ⟨host, hlink⟩
    · exact va_runS (n := np) (As := tk.reverse.map (cv Λ)) (rest := rest.map (cv Λ)) ⟨hx, hb, hml, hown, hts⟩ hM ⟨callB_of np hts (gw_in hcode) rfl rfl rfl (hts _ hini) (hts _ hlink) hnm hroom, hts _ hstat⟩ ⟨pm_blind, pm_at hKD hP hD⟩ rfl (by simpa using hlen) hls rfl (lv_room (by rw [cats_sum]; exact h2)) hdg ⟨Nat.zero_le _, Nat.zero_le _⟩
    · exact va_runSN (n := np) (host := host) (As := tk.reverse.map (cv Λ)) (rest := rest.map (cv Λ)) ⟨hx, hb, hml, hown, hts⟩ hM ⟨va_cnB np hts (gw_in hcode) rfl rfl rfl hlink (hts _ hini) hnm hroom, hts _ hstat, trivial⟩ ⟨pm_blind, pm_at hKD hP hD⟩ rfl (by simpa using hlen) hls rfl (lv_room (by rw [cats_sum]; exact h2)) hdg ⟨Nat.zero_le _, Nat.zero_le _⟩
  · exact kk H1 locs1 hP1 (WD_D hD (fun _ h => h)) hS1
theorem cI_spec {o : ORC} {y : Nat} {as : List AV} {A : AH} {x : Int32 × AH} (h : cI o y as A = some x) : o y as A = some (iv x.1, x.2) := by
  unfold cI at h
  split at h
  · next h1 => cases h; exact h1
  · cases h
theorem cJ_spec {o : ORC} {y : Nat} {as : List AV} {A : AH} {x : Int64 × AH} (h : cJ o y as A = some x) : o y as A = some (jv x.1, x.2) := by
  unfold cJ at h
  split at h
  · next h1 => cases h; exact h1
  · cases h
theorem cV_spec {o : ORC} {y : Nat} {as : List AV} {A : AH} {x : AH} (h : cV o y as A = some x) : o y as A = some (rv none, x) := by
  unfold cV at h
  split at h
  · next h1 => cases h; exact h1
  · cases h
theorem sn_vI (X : CX p l R s m args meth c own cc nL ret D Λ d o) (hFR : ∀ q, s.heap.size ≤ q → FR q) {i : MIn} {np idx ci y N : Nat} {T : u_T} (hy : lgt MT y = some i) (hc : CLS[ci]? = some (i.1.cls, T, N)) (hm : MF i np) (hlink : Cond.methodLink own idx i.1 ∈ GW) (hinst : Cond.instanceMethod i.1 ∈ GW) (hsel : Cond.selects i.1.cls i.1 i.1 ∈ GW) (hdg : decode cc pc = .ok (.invokevirtual idx, 3)) : SN p l e R s m args below meth c nL D Λ FR Q pc (x_vI o y ci (np + 1) (pc + 3)) := by
  intro k L st A r hk h
  unfold x_vI at h
  cases hst : okst (np + 1) st with
  | false => rw [hst] at h; cases h
  | true =>
    rw [hst] at h
    have h : (if rcv (st.take (np + 1)).reverse ci then (cI o y (st.take (np + 1)).reverse A).bind fun r => k (pc + 3) L (iv r.1 :: st.drop (np + 1)) r.2 else none) = some r := h
    split at h
    · next hrc =>
      cases hq : cI o y (st.take (np + 1)).reverse A with
      | none => rw [hq] at h; cases h
      | some x =>
        rw [hq] at h
        have h : k (pc + 3) L (iv x.1 :: st.drop (np + 1)) x.2 = some r := h
        intro H locs ls hP hD hS hl
        exact vcall X hFR hy hc hm hlink hinst hsel hdg hst hrc (cI_spec hq) hP hD hS hl.1 (fun H1 locs1 hP1 hD1 hS1 => hk _ _ _ _ _ h H1 locs1 ls hP1 hD1 hS1 hl)
    · cases h
theorem sn_vJ (X : CX p l R s m args meth c own cc nL ret D Λ d o) (hFR : ∀ q, s.heap.size ≤ q → FR q) {i : MIn} {np idx ci y N : Nat} {T : u_T} (hy : lgt MT y = some i) (hc : CLS[ci]? = some (i.1.cls, T, N)) (hm : MF i np) (hlink : Cond.methodLink own idx i.1 ∈ GW) (hinst : Cond.instanceMethod i.1 ∈ GW) (hsel : Cond.selects i.1.cls i.1 i.1 ∈ GW) (hdg : decode cc pc = .ok (.invokevirtual idx, 3)) : SN p l e R s m args below meth c nL D Λ FR Q pc (x_vJ o y ci (np + 1) (pc + 3)) := by
  intro k L st A r hk h
  unfold x_vJ at h
  cases hst : okst (np + 1) st with
  | false => rw [hst] at h; cases h
  | true =>
    rw [hst] at h
    have h : (if rcv (st.take (np + 1)).reverse ci then (cJ o y (st.take (np + 1)).reverse A).bind fun r => k (pc + 3) L (jv r.1 :: st.drop (np + 1)) r.2 else none) = some r := h
    split at h
    · next hrc =>
      cases hq : cJ o y (st.take (np + 1)).reverse A with
      | none => rw [hq] at h; cases h
      | some x =>
        rw [hq] at h
        have h : k (pc + 3) L (jv x.1 :: st.drop (np + 1)) x.2 = some r := h
        intro H locs ls hP hD hS hl
        exact vcall X hFR hy hc hm hlink hinst hsel hdg hst hrc (cJ_spec hq) hP hD hS hl.1 (fun H1 locs1 hP1 hD1 hS1 => hk _ _ _ _ _ h H1 locs1 ls hP1 hD1 hS1 hl)
    · cases h
theorem sn_vV (X : CX p l R s m args meth c own cc nL ret D Λ d o) (hFR : ∀ q, s.heap.size ≤ q → FR q) {i : MIn} {np idx ci y N : Nat} {T : u_T} (hy : lgt MT y = some i) (hc : CLS[ci]? = some (i.1.cls, T, N)) (hm : MF i np) (hlink : Cond.methodLink own idx i.1 ∈ GW) (hinst : Cond.instanceMethod i.1 ∈ GW) (hsel : Cond.selects i.1.cls i.1 i.1 ∈ GW) (hdg : decode cc pc = .ok (.invokevirtual idx, 3)) : SN p l e R s m args below meth c nL D Λ FR Q pc (x_vV o y ci (np + 1) (pc + 3)) := by
  intro k L st A r hk h
  unfold x_vV at h
  cases hst : okst (np + 1) st with
  | false => rw [hst] at h; cases h
  | true =>
    rw [hst] at h
    have h : (if rcv (st.take (np + 1)).reverse ci then (cV o y (st.take (np + 1)).reverse A).bind fun B => k (pc + 3) L (st.drop (np + 1)) B else none) = some r := h
    split at h
    · next hrc =>
      cases hq : cV o y (st.take (np + 1)).reverse A with
      | none => rw [hq] at h; cases h
      | some x =>
        rw [hq] at h
        have h : k (pc + 3) L (st.drop (np + 1)) x = some r := h
        intro H locs ls hP hD hS hl
        exact vcall X hFR hy hc hm hlink hinst hsel hdg hst hrc (cV_spec hq) hP hD hS hl.1 (fun H1 locs1 hP1 hD1 hS1 => hk _ _ _ _ _ h H1 locs1 ls hP1 hD1 hS1 hl)
    · cases h
theorem sn_sI (X : CX p l R s m args meth c own cc nL ret D Λ d o) (hFR : ∀ q, s.heap.size ≤ q → FR q) {i : MIn} {np idx y : Nat} (hy : lgt MT y = some i) (hm : MF i np) (hlink : Cond.methodLink own idx i.1 ∈ GW ∨ ∃ host, va_Nw (.methodLinkNest own idx i.1 host) s) (hstat : Cond.static i.1 ∈ GW) (hdg : decode cc pc = .ok (.invokestatic idx, 3)) : SN p l e R s m args below meth c nL D Λ FR Q pc (x_sI o y np (pc + 3)) := by
  intro k L st A r hk h
  unfold x_sI at h
  cases hst : okst np st with
  | false => rw [hst] at h; cases h
  | true =>
    rw [hst] at h
    have h : ((cI o y (st.take np).reverse A).bind fun r => k (pc + 3) L (iv r.1 :: st.drop np) r.2) = some r := h
    cases hq : cI o y (st.take np).reverse A with
    | none => rw [hq] at h; cases h
    | some x =>
      rw [hq] at h
      have h : k (pc + 3) L (iv x.1 :: st.drop np) x.2 = some r := h
      intro H locs ls hP hD hS hl
      exact scall X hFR hy hm hlink hstat hdg hst (cI_spec hq) hP hD hS hl.1 (fun H1 locs1 hP1 hD1 hS1 => hk _ _ _ _ _ h H1 locs1 ls hP1 hD1 hS1 hl)
theorem sn_sJ (X : CX p l R s m args meth c own cc nL ret D Λ d o) (hFR : ∀ q, s.heap.size ≤ q → FR q) {i : MIn} {np idx y : Nat} (hy : lgt MT y = some i) (hm : MF i np) (hlink : Cond.methodLink own idx i.1 ∈ GW ∨ ∃ host, va_Nw (.methodLinkNest own idx i.1 host) s) (hstat : Cond.static i.1 ∈ GW) (hdg : decode cc pc = .ok (.invokestatic idx, 3)) : SN p l e R s m args below meth c nL D Λ FR Q pc (x_sJ o y np (pc + 3)) := by
  intro k L st A r hk h
  unfold x_sJ at h
  cases hst : okst np st with
  | false => rw [hst] at h; cases h
  | true =>
    rw [hst] at h
    have h : ((cJ o y (st.take np).reverse A).bind fun r => k (pc + 3) L (jv r.1 :: st.drop np) r.2) = some r := h
    cases hq : cJ o y (st.take np).reverse A with
    | none => rw [hq] at h; cases h
    | some x =>
      rw [hq] at h
      have h : k (pc + 3) L (jv x.1 :: st.drop np) x.2 = some r := h
      intro H locs ls hP hD hS hl
      exact scall X hFR hy hm hlink hstat hdg hst (cJ_spec hq) hP hD hS hl.1 (fun H1 locs1 hP1 hD1 hS1 => hk _ _ _ _ _ h H1 locs1 ls hP1 hD1 hS1 hl)
-- runs
theorem lk1_spec {pc : Nat} {i : INS} : ∀ (l : List (Nat × INS)), lk1 pc l = some i → (pc, i) ∈ l
  | [], h => by cases h
  | c :: cs, h => by
    unfold lk1 at h
    cases hb : Nat.beq c.1 pc with
    | true =>
      rw [hb] at h
      have h : some c.2 = some i := h
      cases h
      rw [← Nat.eq_of_beq_eq_true hb]
      exact List.mem_cons_self
    | false =>
      rw [hb] at h
      exact List.mem_cons_of_mem _ (lk1_spec cs h)
theorem lk_spec {pc : Nat} {i : INS} : ∀ (C : COD), lk pc C = some i → ∃ ch ∈ C, (pc, i) ∈ ch.2
  | [], h => by cases h
  | c :: cs, h => by
    unfold lk at h
    cases hb : Nat.blt pc c.1 with
    | true =>
      rw [hb] at h
      exact ⟨c, List.mem_cons_self, lk1_spec c.2 h⟩
    | false =>
      rw [hb] at h
      obtain ⟨ch, h1, h2⟩ := lk_spec cs h
      exact ⟨ch, List.mem_cons_of_mem _ h1, h2⟩
theorem run_sound {C : COD} {cuts : List (Nat × List Nat)} {K : Nat → LO → AH → Option RES} (hC : ∀ ch ∈ C, ∀ q ∈ ch.2, SN p l e R s m args below meth c nL D Λ FR Q q.1 q.2) (hK : ∀ pc L A r, K pc L A = some r → GD p l e R s m args below meth c nL D Λ FR Q pc L [] A r) : ∀ (f pc : Nat) (L : LO) (st : List AV) (A : AH) (r : RES), run C cuts K f pc L st A = some r → GD p l e R s m args below meth c nL D Λ FR Q pc L st A r := by
  intro f
  induction f with
  | zero => intro pc L st A r h; cases h
  | succ f ih =>
    intro pc L st A r h
    unfold run at h
    cases hq : cutAt pc cuts with
    | some lv =>
      rw [hq] at h
      cases st with
      | nil =>
        intro H locs ls hP hD hS hl
        exact hK pc _ A r h H locs ls hP hD hS (hl.keep lv)
      | cons a t => cases h
    | none =>
      rw [hq] at h
      have h : (match lk pc C with
        | some i => i (run C cuts K f) L st A
        | none => none) = some r := h
      cases hi : lk pc C with
      | none => rw [hi] at h; cases h
      | some i =>
        rw [hi] at h
        obtain ⟨ch, h1, h2⟩ := lk_spec C hi
        exact hC ch h1 _ h2 _ _ _ _ _ ih h
theorem exec_sound {C : COD} {cuts : List (Nat × List Nat)} (hC : ∀ ch ∈ C, ∀ q ∈ ch.2, SN p l e R s m args below meth c nL D Λ FR Q q.1 q.2) : ∀ (N pc : Nat) (L : LO) (A : AH) (r : RES), exec C cuts N pc L A = some r → GD p l e R s m args below meth c nL D Λ FR Q pc L [] A r := by
  intro N
  induction N with
  | zero => intro pc L A r h; cases h
  | succ N ih =>
    intro pc L A r h
    unfold exec at h
    have h : (match lk pc C with
      | some i => i (run C cuts (exec C cuts N) 400) L [] A
      | none => none) = some r := h
    cases hi : lk pc C with
    | none => rw [hi] at h; cases h
    | some i =>
      rw [hi] at h
      obtain ⟨ch, h1, h2⟩ := lk_spec C hi
      exact hC ch h1 _ h2 _ _ _ _ _ (run_sound hC ih 400) h
end SND
abbrev MPr : Type := Nat × List (Nat × List Nat) × (ORC → COD)
def OKC (i : MIn) (C : ORC → COD) : Prop := ∀ (p : Program) (l : Launch) (e : Env) (R : Room) (s : State) (m : MethodId) (args : Array Value) (below : List Frame) (meth : Method) (c : Code) (D : va_G) (Λ : LAM) (FR : Nat → Prop) (d : Nat) (o : ORC), (∀ q, s.heap.size ≤ q → FR q) → CX p l R s m args meth c i.1.cls i.2.1 i.2.2.1 i.2.2.2 D Λ d o → ∀ ch ∈ C o, ∀ q ∈ ch.2, SN p l e R s m args below meth c i.2.2.1 D Λ FR (fun r => MQ below (QM D Λ r.1 r.2 FR) args s 0 0 FR) q.1 q.2
def OKM (i : MIn) (q : MPr) : Prop := plainName i.1.cls = true ∧ q.1 = i.2.2.1 ∧ OKC i q.2.2
theorem sl_len (Λ : LAM) : ∀ as : List AV, (lg_sl (as.map (cv Λ))).length = cats as
  | [] => rfl
  | a :: t => by
    have := sl_len Λ t
    have e : ∀ v : Value, ∀ vs : List Value, lg_sl (v :: vs) = (if v.category = 2 then [.val v, .second] else [.val v]) ++ lg_sl vs := fun v vs => by simp [lg_sl]
    rw [List.map_cons, e, List.length_append, this]
    rcases a with x | x | (_ | x) <;> simp [cv, cats, cat, Value.category, va_rf, adr]
theorem met_sound {l : Launch} {D : va_G} {Λ : LAM} {d N y : Nat} {o : ORC} {i : MIn} {q : MPr} (hy : lgt MT y = some i) (hq : OKM i q) (hO : ∀ y as A v B, o y as A = some (v, B) → CON l D Λ d y as A v B) {as : List AV} {A : AH} {v : AV} {B : AH} (hcat : cats as ≤ q.1) (h : exec (q.2.2 o) q.2.1 N 0 (padL q.1 (ent as)) A = some (v, B)) : CON l D Λ (d + 1) y as A v B := by
  intro i' hi' sz
  rw [hy] at hi'
  cases hi'
  obtain ⟨hpl, hnl, hok⟩ := hq
  refine Met.ofW (cc := i.2.1) (maxL := i.2.2.1) (ret := i.2.2.2) hpl rfl ?_
  intro p e s m args below meth c s₁ BB hml hv
  obtain ⟨rfl, hsz, hP, hK, hD0⟩ := hv
  have hts := atoms_spec (ws := .code i.1 i.2.1 i.2.2.1 i.2.2.2 :: GW) BB.pre
  have hown : s.vm.findClass i.1.cls = some m.cls := findClass_of_methodNamed BB.named
  subst hsz
  have hD := hD0.self (sz := s.heap.size)
  have hFR : ∀ q : Nat, s.heap.size ≤ q → va_A (WD Λ A) s.heap.size q := fun q h => Or.inr h
  have hl := lv_entry (as.map (cv Λ)) (n := i.2.2.1) (by rw [sl_len, ← hnl]; exact hcat)
  rw [lg_entry_eq]
  have hLH : LH Λ ((lg_sl (as.map (cv Λ)) ++ List.replicate (i.2.2.1 - (lg_sl (as.map (cv Λ))).length) Slot.unset).toArray) i.2.2.1 (padL q.1 (ent as)) := by
    refine ⟨hl.1, hl.2.1, fun j w hj => ?_⟩
    have h1 := ent_args (Λ := Λ) as 0 j w (lg_pad _ _ _ _ hj)
    rw [Nat.zero_add] at h1
    exact hl.2.2 _ h1
  have X : CX p l (rmd (d + 1)) s m (as.map (cv Λ)).toArray meth c i.1.cls i.2.1 i.2.2.1 i.2.2.2 D Λ d o := ⟨BB.exec, BB.bytes, hml, hown, fun w hw => hts w (List.mem_cons_of_mem _ hw), hK, ⟨Nat.le_refl _, Nat.le_refl _⟩, BB.returns, BB.notSynchronized, hO⟩
  exact exec_sound (hok p l e (rmd (d + 1)) s m _ below meth c D Λ (va_A (WD Λ A) s.heap.size) d o hFR X) N 0 _ A (v, B) h s.heap [] _ hP hD va_S.rf hLH
end
section
/-! the code of all methods as abstract instructions -/
def CJ6_bitCount_0f7a4_0 (o : ORC) : List (Nat × INS) := [(0, x_iload 0 1), (1, x_iload 0 2), (2, x_const (iv 1) 3), (3, x_bin (fun x y => (x.toUInt32 >>> (y.toUInt32 &&& Int32.toUInt32 31)).toInt32) 4), (4, x_const (iv 1431655765) 7), (7, x_bin (fun x y => x &&& y) 8), (8, x_bin (fun x y => x - y) 9), (9, x_istore 0 10), (10, x_iload 0 11), (11, x_const (iv 858993459) 14), (14, x_bin (fun x y => x &&& y) 15), (15, x_iload 0 16), (16, x_const (iv 2) 17), (17, x_bin (fun x y => (x.toUInt32 >>> (y.toUInt32 &&& Int32.toUInt32 31)).toInt32) 18), (18, x_const (iv 858993459) 21), (21, x_bin (fun x y => x &&& y) 22)]
def CJ6_bitCount_0f7a4_1 (o : ORC) : List (Nat × INS) := [(22, x_bin (fun x y => x + y) 23), (23, x_istore 0 24), (24, x_iload 0 25), (25, x_iload 0 26), (26, x_const (iv 4) 27), (27, x_bin (fun x y => (x.toUInt32 >>> (y.toUInt32 &&& Int32.toUInt32 31)).toInt32) 28), (28, x_bin (fun x y => x + y) 29), (29, x_const (iv 252645135) 32), (32, x_bin (fun x y => x &&& y) 33), (33, x_istore 0 34), (34, x_iload 0 35), (35, x_iload 0 36), (36, x_const (iv 8) 38), (38, x_bin (fun x y => (x.toUInt32 >>> (y.toUInt32 &&& Int32.toUInt32 31)).toInt32) 39), (39, x_bin (fun x y => x + y) 40), (40, x_istore 0 41)]
def CJ6_bitCount_0f7a4_2 (o : ORC) : List (Nat × INS) := [(41, x_iload 0 42), (42, x_iload 0 43), (43, x_const (iv 16) 45), (45, x_bin (fun x y => (x.toUInt32 >>> (y.toUInt32 &&& Int32.toUInt32 31)).toInt32) 46), (46, x_bin (fun x y => x + y) 47), (47, x_istore 0 48), (48, x_iload 0 49), (49, x_const (iv 63) 51), (51, x_bin (fun x y => x &&& y) 52), (52, x_iret)]
def CJ6_bitCount_0f7a4 (o : ORC) : COD := [(22, CJ6_bitCount_0f7a4_0 o), (41, CJ6_bitCount_0f7a4_1 o), (53, CJ6_bitCount_0f7a4_2 o)]
def CJ9_floorMod_7cf53_0 (o : ORC) : List (Nat × INS) := [(0, x_iload 0 1), (1, x_iload 1 2), (2, x_dv (fun x y => x - x / y * y) 3), (3, x_istore 2 4), (4, x_iload 0 5), (5, x_iload 1 6), (6, x_bin (fun x y => x ^^^ y) 7), (7, x_ifge 18 10), (10, x_iload 2 11), (11, x_ifeq 18 14), (14, x_iload 2 15), (15, x_iload 1 16), (16, x_bin (fun x y => x + y) 17), (17, x_iret), (18, x_iload 2 19), (19, x_iret)]
def CJ9_floorMod_7cf53 (o : ORC) : COD := [(20, CJ9_floorMod_7cf53_0 o)]
def CJ9_max_7cf53_0 (o : ORC) : List (Nat × INS) := [(0, x_iload 0 1), (1, x_iload 1 2), (2, x_clt 9 5), (5, x_iload 0 6), (6, x_goto 10), (9, x_iload 1 10), (10, x_iret)]
def CJ9_max_7cf53 (o : ORC) : COD := [(11, CJ9_max_7cf53_0 o)]
def CJ9_min_7cf53_0 (o : ORC) : List (Nat × INS) := [(0, x_iload 0 1), (1, x_iload 1 2), (2, x_cgt 9 5), (5, x_iload 0 6), (6, x_goto 10), (9, x_iload 1 10), (10, x_iret)]
def CJ9_min_7cf53 (o : ORC) : COD := [(11, CJ9_min_7cf53_0 o)]
def CX0_begin_0 (o : ORC) : List (Nat × INS) := [(0, x_aload 0 1), (1, x_const (iv 0) 2), (2, x_iload 2 3), (3, x_sI o 2 2 6), (6, x_putI 0 6 9), (9, x_aload 0 10), (10, x_const (iv (-1)) 11), (11, x_putI 0 0 14), (14, x_aload 0 15), (15, x_const (iv 0) 16), (16, x_putI 0 3 19), (19, x_aload 0 20), (20, x_const (iv 0) 21), (21, x_putI 0 4 24), (24, x_const (iv 0) 25), (25, x_istore 3 26)]
def CX0_begin_1 (o : ORC) : List (Nat × INS) := [(26, x_iload 3 27), (27, x_const (iv 7) 29), (29, x_cge 45 32), (32, x_aload 0 33), (33, x_getR 0 5 36), (36, x_iload 3 37), (37, x_const (iv 0) 38), (38, x_iast 39), (39, x_iinc 3 1 42), (42, x_goto 26), (45, x_const (iv 0) 46), (46, x_istore 3 47), (47, x_iload 3 48), (48, x_const (iv 6) 50), (50, x_cge 76 53), (53, x_iload 3 54)]
def CX0_begin_2 (o : ORC) : List (Nat × INS) := [(54, x_aload 1 55), (55, x_alen 56), (56, x_cge 76 59), (59, x_aload 0 60), (60, x_getR 0 7 63), (63, x_const (iv 0) 64), (64, x_aald 2 65), (65, x_iload 3 66), (66, x_aload 1 67), (67, x_iload 3 68), (68, x_ald 0 69), (69, x_iast 70), (70, x_iinc 3 1 73), (73, x_goto 47), (76, x_vret)]
def CX0_begin (o : ORC) : COD := [(26, CX0_begin_0 o), (54, CX0_begin_1 o), (77, CX0_begin_2 o)]
def CX0_passOn_0 (o : ORC) : List (Nat × INS) := [(0, x_aload 0 1), (1, x_aload 1 2), (2, x_aload 0 3), (3, x_getR 0 7 6), (6, x_const (iv 0) 7), (7, x_aald 2 8), (8, x_iload 2 9), (9, x_iload 3 10), (10, x_vV o 10 0 5 13), (13, x_aload 0 14), (14, x_dup 15), (15, x_getI 0 3 18), (18, x_aload 0 19), (19, x_getI 0 1 22), (22, x_bin (fun x y => x + y) 23), (23, x_putI 0 3 26)]
def CX0_passOn_1 (o : ORC) : List (Nat × INS) := [(26, x_aload 0 27), (27, x_dup 28), (28, x_getI 0 4 31), (31, x_aload 0 32), (32, x_getI 0 2 35), (35, x_sI o 0 1 38), (38, x_bin (fun x y => x + y) 39), (39, x_putI 0 4 42), (42, x_aload 0 43), (43, x_aload 1 44), (44, x_iload 2 45), (45, x_vI o 7 0 3 48), (48, x_istore 4 50), (50, x_iload 4 52), (52, x_sI o 125 1 55), (55, x_ifeq 72 58)]
def CX0_passOn_2 (o : ORC) : List (Nat × INS) := [(58, x_aload 0 59), (59, x_getR 0 5 62), (62, x_iload 4 64), (64, x_dup2 65), (65, x_ald 0 66), (66, x_aload 0 67), (67, x_getI 0 1 70), (70, x_bin (fun x y => x + y) 71), (71, x_iast 72), (72, x_vret)]
def CX0_passOn (o : ORC) : COD := [(26, CX0_passOn_0 o), (58, CX0_passOn_1 o), (73, CX0_passOn_2 o)]
def CX0_branch_0 (o : ORC) : List (Nat × INS) := [(0, x_iload 2 1), (1, x_iflt 45 4), (4, x_iload 2 5), (5, x_const (iv 4) 6), (6, x_cge 45 9), (9, x_aload 0 10), (10, x_getR 0 7 13), (13, x_iload 2 14), (14, x_aald 2 15), (15, x_const (iv 0) 16), (16, x_aload 0 17), (17, x_getR 0 7 20), (20, x_iload 2 21), (21, x_const (iv 1) 22), (22, x_bin (fun x y => x + y) 23), (23, x_aald 2 24)]
def CX0_branch_1 (o : ORC) : List (Nat × INS) := [(24, x_const (iv 0) 25), (25, x_const (iv 6) 27), (27, x_copy 30), (30, x_aload 0 31), (31, x_aload 1 32), (32, x_aload 0 33), (33, x_getR 0 7 36), (36, x_iload 2 37), (37, x_const (iv 1) 38), (38, x_bin (fun x y => x + y) 39), (39, x_aald 2 40), (40, x_iload 2 41), (41, x_iload 3 42), (42, x_vV o 10 0 5 45), (45, x_vret)]
def CX0_branch (o : ORC) : COD := [(24, CX0_branch_0 o), (46, CX0_branch_1 o)]
def CX0_ownerOf_0 (o : ORC) : List (Nat × INS) := [(0, x_aload 1 1), (1, x_getR 2 8 4), (4, x_aload 0 5), (5, x_iload 2 6), (6, x_vI o 9 0 2 9), (9, x_ald 0 10), (10, x_iret)]
def CX0_ownerOf (o : ORC) : COD := [(11, CX0_ownerOf_0 o)]
def CX0_waterNow_0 (o : ORC) : List (Nat × INS) := [(0, x_iload 1 1), (1, x_iflt 21 4), (4, x_iload 1 5), (5, x_const (iv 6) 7), (7, x_cge 21 10), (10, x_aload 0 11), (11, x_getR 0 7 14), (14, x_const (iv 0) 15), (15, x_aald 2 16), (16, x_iload 1 17), (17, x_ald 0 18), (18, x_goto 22), (21, x_const (iv 0) 22), (22, x_iret)]
def CX0_waterNow (o : ORC) : COD := [(23, CX0_waterNow_0 o)]
def CX0_weekdayOf_0 (o : ORC) : List (Nat × INS) := [(0, x_aload 0 1), (1, x_getI 0 6 4), (4, x_iload 1 5), (5, x_bin (fun x y => x + y) 6), (6, x_const (iv 7) 8), (8, x_sI o 1 2 11), (11, x_iret)]
def CX0_weekdayOf (o : ORC) : COD := [(12, CX0_weekdayOf_0 o)]
def CX0_pass_0 (o : ORC) : List (Nat × INS) := [(0, x_aload 0 1), (1, x_iload 3 2), (2, x_vI o 9 0 2 5), (5, x_istore 5 7), (7, x_aload 1 8), (8, x_aload 2 9), (9, x_aload 0 10), (10, x_getR 0 8 13), (13, x_iload 4 15), (15, x_vV o 22 2 4 18), (18, x_aload 0 19), (19, x_aload 1 20), (20, x_aload 0 21), (21, x_getR 0 8 24), (24, x_vI o 24 2 2 27), (27, x_putI 0 1 30)]
def CX0_pass_1 (o : ORC) : List (Nat × INS) := [(30, x_aload 0 31), (31, x_aload 1 32), (32, x_aload 0 33), (33, x_getR 0 8 36), (36, x_vI o 25 2 2 39), (39, x_putI 0 2 42), (42, x_aload 1 43), (43, x_aload 2 44), (44, x_aload 0 45), (45, x_getR 0 8 48), (48, x_iload 5 50), (50, x_aload 0 51), (51, x_getI 0 0 54), (54, x_cne 61 57), (57, x_const (iv 0) 58), (58, x_goto 68)]
def CX0_pass_2 (o : ORC) : List (Nat × INS) := [(61, x_aload 1 62), (62, x_getR 2 7 65), (65, x_iload 5 67), (67, x_ald 0 68), (68, x_vV o 23 2 4 71), (71, x_vret)]
def CX0_pass (o : ORC) : COD := [(30, CX0_pass_0 o), (61, CX0_pass_1 o), (72, CX0_pass_2 o)]
def CX1_weigh_0 (o : ORC) : List (Nat × INS) := [(0, x_aload 0 1), (1, x_getR 1 7 4), (4, x_aload 2 5), (5, x_iload 3 6), (6, x_vV o 4 0 3 9), (9, x_aload 0 10), (10, x_const (iv 0) 11), (11, x_iload 4 13), (13, x_const (iv 4) 14), (14, x_sI o 3 2 17), (17, x_sI o 2 2 20), (20, x_putI 1 4 23), (23, x_aload 0 24), (24, x_iload 5 26), (26, x_putI 1 5 29), (29, x_aload 0 30)]
def CX1_weigh_1 (o : ORC) : List (Nat × INS) := [(30, x_iload 6 32), (32, x_putI 1 6 35), (35, x_aload 0 36), (36, x_const (jv 0) 37), (37, x_putJ 1 1 40), (40, x_aload 0 41), (41, x_const (jv 0) 42), (42, x_putJ 1 2 45), (45, x_aload 0 46), (46, x_const (jv 1) 47), (47, x_putJ 1 3 50), (50, x_const (iv 0) 51), (51, x_istore 7 53), (53, x_iload 7 55), (55, x_aload 0 56), (56, x_getI 1 4 59)]
def CX1_weigh_2 (o : ORC) : List (Nat × INS) := [(59, x_cge 92 62), (62, x_aload 0 63), (63, x_dup 64), (64, x_getJ 1 3 67), (67, x_const (iv 12) 69), (69, x_aload 0 70), (70, x_getR 1 0 73), (73, x_iload 7 75), (75, x_ald 0 76), (76, x_sI o 0 1 79), (79, x_sJ o 14 2 82), (82, x_binl (fun x y => x * y) 83), (83, x_putJ 1 3 86), (86, x_iinc 7 1 89), (89, x_goto 53), (92, x_aload 0 93)]
def CX1_weigh_3 (o : ORC) : List (Nat × INS) := [(93, x_aload 1 94), (94, x_const (iv 0) 95), (95, x_const (jv 1) 96), (96, x_const (iv 0) 97), (97, x_const (iv 0) 98), (98, x_vV o 12 1 6 101), (101, x_vret)]
def CX1_weigh (o : ORC) : COD := [(30, CX1_weigh_0 o), (59, CX1_weigh_1 o), (93, CX1_weigh_2 o), (102, CX1_weigh_3 o)]
def CX1_spread_0 (o : ORC) : List (Nat × INS) := [(0, x_iload 2 1), (1, x_aload 0 2), (2, x_getI 1 4 5), (5, x_clt 46 8), (8, x_aload 0 9), (9, x_dup 10), (10, x_getJ 1 1 13), (13, x_lload 3 14), (14, x_iload 5 16), (16, x_i2l 17), (17, x_binl (fun x y => x * y) 18), (18, x_binl (fun x y => x + y) 19), (19, x_putJ 1 1 22), (22, x_aload 0 23), (23, x_dup 24), (24, x_getJ 1 2 27)]
def CX1_spread_1 (o : ORC) : List (Nat × INS) := [(27, x_iload 6 29), (29, x_aload 0 30), (30, x_getI 1 5 33), (33, x_clt 40 36), (36, x_lload 3 37), (37, x_goto 41), (40, x_const (jv 0) 41), (41, x_binl (fun x y => x + y) 42), (42, x_putJ 1 2 45), (45, x_vret), (46, x_const (iv 0) 47), (47, x_istore 7 49), (49, x_iload 7 51), (51, x_aload 1 52), (52, x_getI 2 3 55), (55, x_cge 144 58)]
def CX1_spread_2 (o : ORC) : List (Nat × INS) := [(58, x_aload 1 59), (59, x_getR 2 9 62), (62, x_iload 7 64), (64, x_ald 0 65), (65, x_istore 8 67), (67, x_lload 3 68), (68, x_aload 0 69), (69, x_aload 0 70), (70, x_getR 1 0 73), (73, x_iload 2 74), (74, x_ald 0 75), (75, x_iload 8 77), (77, x_vJ o 13 1 3 80), (80, x_binl (fun x y => x * y) 81), (81, x_lstore 9 83), (83, x_lload 9 85)]
def CX1_spread_3 (o : ORC) : List (Nat × INS) := [(85, x_const (jv 0) 86), (86, x_lcmp 87), (87, x_ifle 138 90), (90, x_aload 0 91), (91, x_getR 1 7 94), (94, x_aload 1 95), (95, x_iload 2 96), (96, x_iload 8 98), (98, x_vV o 6 0 4 101), (101, x_iload 6 103), (103, x_aload 0 104), (104, x_getR 1 7 107), (107, x_getI 0 2 110), (110, x_sI o 0 1 113), (113, x_bin (fun x y => x + y) 114), (114, x_istore 11 116)]
def CX1_spread_4 (o : ORC) : List (Nat × INS) := [(116, x_aload 0 117), (117, x_aload 1 118), (118, x_iload 2 119), (119, x_const (iv 1) 120), (120, x_bin (fun x y => x + y) 121), (121, x_lload 9 123), (123, x_iload 5 125), (125, x_aload 0 126), (126, x_getR 1 7 129), (129, x_getI 0 1 132), (132, x_bin (fun x y => x + y) 133), (133, x_iload 11 135), (135, x_vV o 12 1 6 138), (138, x_iinc 7 1 141), (141, x_goto 49), (144, x_vret)]
def CX1_spread (o : ORC) : COD := [(27, CX1_spread_0 o), (58, CX1_spread_1 o), (85, CX1_spread_2 o), (116, CX1_spread_3 o), (145, CX1_spread_4 o)]
def CX1_weightOf_0 (o : ORC) : List (Nat × INS) := [(0, x_iload 2 1), (1, x_iload 1 2), (2, x_const (iv (-1)) 3), (3, x_bin (fun x y => x ^^^ y) 4), (4, x_bin (fun x y => x &&& y) 5), (5, x_ifeq 10 8), (8, x_const (jv 0) 9), (9, x_lret), (10, x_const (iv 12) 12), (12, x_aload 0 13), (13, x_getI 1 6 16), (16, x_bin (fun x y => x - y) 17), (17, x_iload 2 18), (18, x_sI o 0 1 21), (21, x_sJ o 14 2 24), (24, x_aload 0 25)]
def CX1_weightOf_1 (o : ORC) : List (Nat × INS) := [(25, x_getI 1 6 28), (28, x_iload 1 29), (29, x_iload 2 30), (30, x_const (iv (-1)) 31), (31, x_bin (fun x y => x ^^^ y) 32), (32, x_bin (fun x y => x &&& y) 33), (33, x_sI o 0 1 36), (36, x_sJ o 14 2 39), (39, x_binl (fun x y => x * y) 40), (40, x_lret)]
def CX1_weightOf (o : ORC) : COD := [(25, CX1_weightOf_0 o), (41, CX1_weightOf_1 o)]
def CX1_power_0 (o : ORC) : List (Nat × INS) := [(0, x_const (jv 1) 1), (1, x_lstore 2 2), (2, x_const (iv 0) 3), (3, x_istore 4 5), (5, x_iload 4 7), (7, x_iload 1 8), (8, x_cge 29 11), (11, x_iload 4 13), (13, x_const (iv 6) 15), (15, x_cge 29 18), (18, x_lload 2 19), (19, x_iload 0 20), (20, x_i2l 21), (21, x_binl (fun x y => x * y) 22), (22, x_lstore 2 23), (23, x_iinc 4 1 26)]
def CX1_power_1 (o : ORC) : List (Nat × INS) := [(26, x_goto 5), (29, x_lload 2 30), (30, x_lret)]
def CX1_power (o : ORC) : COD := [(26, CX1_power_0 o), (31, CX1_power_1 o)]
def CX2_clear_0 (o : ORC) : List (Nat × INS) := [(0, x_aload 0 1), (1, x_const (iv 0) 2), (2, x_putI 2 0 5), (5, x_aload 0 6), (6, x_const (iv 0) 7), (7, x_putI 2 1 10), (10, x_aload 0 11), (11, x_const (iv 0) 12), (12, x_putI 2 2 15), (15, x_vret)]
def CX2_clear (o : ORC) : COD := [(16, CX2_clear_0 o)]
def CX2_hasReach_0 (o : ORC) : List (Nat × INS) := [(0, x_iload 1 1), (1, x_iflt 16 4), (4, x_iload 1 5), (5, x_aload 0 6), (6, x_getI 2 0 9), (9, x_cge 16 12), (12, x_const (iv 1) 13), (13, x_goto 17), (16, x_const (iv 0) 17), (17, x_zret)]
def CX2_hasReach (o : ORC) : COD := [(18, CX2_hasReach_0 o)]
def CX2_canShut_0 (o : ORC) : List (Nat × INS) := [(0, x_iload 1 1), (1, x_aload 0 2), (2, x_getI 2 1 5), (5, x_const (iv (-1)) 6), (6, x_bin (fun x y => x ^^^ y) 7), (7, x_bin (fun x y => x &&& y) 8), (8, x_ifne 15 11), (11, x_const (iv 1) 12), (12, x_goto 16), (15, x_const (iv 0) 16), (16, x_zret)]
def CX2_canShut (o : ORC) : COD := [(17, CX2_canShut_0 o)]
def CX2_hasRoomFor_0 (o : ORC) : List (Nat × INS) := [(0, x_iload 1 1), (1, x_const (iv 1) 2), (2, x_sI o 40 2 5), (5, x_ifeq 23 8), (8, x_aload 0 9), (9, x_getI 2 1 12), (12, x_sI o 0 1 15), (15, x_const (iv 3) 16), (16, x_clt 23 19), (19, x_const (iv 1) 20), (20, x_goto 24), (23, x_const (iv 0) 24), (24, x_istore 2 25), (25, x_aload 0 26), (26, x_getI 2 0 29), (29, x_const (iv 6) 31)]
def CX2_hasRoomFor_1 (o : ORC) : List (Nat × INS) := [(31, x_cge 42 34), (34, x_iload 2 35), (35, x_ifne 42 38), (38, x_const (iv 1) 39), (39, x_goto 43), (42, x_const (iv 0) 43), (43, x_zret)]
def CX2_hasRoomFor (o : ORC) : COD := [(31, CX2_hasRoomFor_0 o), (44, CX2_hasRoomFor_1 o)]
def CX2_add_0 (o : ORC) : List (Nat × INS) := [(0, x_aload 0 1), (1, x_iload 1 2), (2, x_vI o 18 2 2 5), (5, x_ifne 9 8), (8, x_vret), (9, x_aload 0 10), (10, x_getR 2 4 13), (13, x_aload 0 14), (14, x_getI 2 0 17), (17, x_iload 1 18), (18, x_iast 19), (19, x_aload 0 20), (20, x_getR 2 5 23), (23, x_aload 0 24), (24, x_getI 2 0 27), (27, x_iload 2 28)]
def CX2_add_1 (o : ORC) : List (Nat × INS) := [(28, x_iast 29), (29, x_aload 0 30), (30, x_getR 2 6 33), (33, x_aload 0 34), (34, x_getI 2 0 37), (37, x_iload 3 38), (38, x_iast 39), (39, x_aload 0 40), (40, x_dup 41), (41, x_getI 2 1 44), (44, x_iload 1 45), (45, x_const (iv 1) 46), (46, x_sI o 40 2 49), (49, x_ifeq 61 52), (52, x_const (iv 1) 53), (53, x_aload 0 54)]
def CX2_add_2 (o : ORC) : List (Nat × INS) := [(54, x_getI 2 0 57), (57, x_bin (fun x y => x <<< (y &&& 31)) 58), (58, x_goto 62), (61, x_const (iv 0) 62), (62, x_bin (fun x y => x ||| y) 63), (63, x_putI 2 1 66), (66, x_aload 0 67), (67, x_dup 68), (68, x_getI 2 2 71), (71, x_iload 1 72), (72, x_const (iv 2) 73), (73, x_sI o 40 2 76), (76, x_ifeq 88 79), (79, x_const (iv 1) 80), (80, x_aload 0 81), (81, x_getI 2 0 84)]
def CX2_add_3 (o : ORC) : List (Nat × INS) := [(84, x_bin (fun x y => x <<< (y &&& 31)) 85), (85, x_goto 89), (88, x_const (iv 0) 89), (89, x_bin (fun x y => x ||| y) 90), (90, x_putI 2 2 93), (93, x_aload 0 94), (94, x_dup 95), (95, x_getI 2 0 98), (98, x_const (iv 1) 99), (99, x_bin (fun x y => x + y) 100), (100, x_putI 2 0 103), (103, x_vret)]
def CX2_add (o : ORC) : COD := [(28, CX2_add_0 o), (54, CX2_add_1 o), (84, CX2_add_2 o), (104, CX2_add_3 o)]
def CX2_listSets_0 (o : ORC) : List (Nat × INS) := [(0, x_aload 0 1), (1, x_const (iv 0) 2), (2, x_putI 2 3 5), (5, x_const (iv 0) 6), (6, x_istore 1 7), (7, x_iload 1 8), (8, x_const (iv 64) 10), (10, x_cge 56 13), (13, x_aload 0 14), (14, x_getI 2 3 17), (17, x_const (iv 8) 19), (19, x_cge 56 22), (22, x_aload 0 23), (23, x_iload 1 24), (24, x_vI o 17 2 2 27), (27, x_ifeq 50 30)]
def CX2_listSets_1 (o : ORC) : List (Nat × INS) := [(30, x_aload 0 31), (31, x_getR 2 9 34), (34, x_aload 0 35), (35, x_getI 2 3 38), (38, x_iload 1 39), (39, x_iast 40), (40, x_aload 0 41), (41, x_dup 42), (42, x_getI 2 3 45), (45, x_const (iv 1) 46), (46, x_bin (fun x y => x + y) 47), (47, x_putI 2 3 50), (50, x_iinc 1 1 53), (53, x_goto 7), (56, x_vret)]
def CX2_listSets (o : ORC) : COD := [(30, CX2_listSets_0 o), (57, CX2_listSets_1 o)]
def CX2_setByLot_0 (o : ORC) : List (Nat × INS) := [(0, x_const (iv 0) 1), (1, x_istore 2 2), (2, x_const (iv 3) 3), (3, x_istore 3 4), (4, x_const (iv 0) 5), (5, x_istore 4 7), (7, x_iload 4 9), (9, x_aload 0 10), (10, x_getI 2 0 13), (13, x_cge 48 16), (16, x_aload 0 17), (17, x_getI 2 1 20), (20, x_iload 4 22), (22, x_bin (fun x y => x >>> (y &&& 31)) 23), (23, x_const (iv 1) 24), (24, x_bin (fun x y => x &&& y) 25)]
def CX2_setByLot_1 (o : ORC) : List (Nat × INS) := [(25, x_ifeq 42 28), (28, x_iload 2 29), (29, x_iload 1 30), (30, x_iload 3 31), (31, x_bin (fun x y => x >>> (y &&& 31)) 32), (32, x_const (iv 1) 33), (33, x_bin (fun x y => x &&& y) 34), (34, x_iload 4 36), (36, x_bin (fun x y => x <<< (y &&& 31)) 37), (37, x_bin (fun x y => x ||| y) 38), (38, x_istore 2 39), (39, x_iinc 3 1 42), (42, x_iinc 4 1 45), (45, x_goto 7), (48, x_iload 2 49), (49, x_iret)]
def CX2_setByLot (o : ORC) : COD := [(25, CX2_setByLot_0 o), (50, CX2_setByLot_1 o)]
def CX2_letRun_0 (o : ORC) : List (Nat × INS) := [(0, x_const (iv 0) 1), (1, x_istore 4 3), (3, x_iload 4 5), (5, x_aload 0 6), (6, x_getI 2 0 9), (9, x_cge 71 12), (12, x_iload 4 14), (14, x_aload 1 15), (15, x_alen 16), (16, x_cge 71 19), (19, x_iload 4 21), (21, x_aload 2 22), (22, x_alen 23), (23, x_cge 71 26), (26, x_aload 2 27), (27, x_iload 4 29)]
def CX2_letRun_1 (o : ORC) : List (Nat × INS) := [(29, x_aload 0 30), (30, x_getR 2 4 33), (33, x_iload 4 35), (35, x_ald 0 36), (36, x_aload 0 37), (37, x_getR 2 5 40), (40, x_iload 4 42), (42, x_ald 0 43), (43, x_aload 1 44), (44, x_iload 4 46), (46, x_ald 0 47), (47, x_iload 3 48), (48, x_iload 4 50), (50, x_bin (fun x y => x >>> (y &&& 31)) 51), (51, x_const (iv 1) 52), (52, x_bin (fun x y => x &&& y) 53)]
def CX2_letRun_2 (o : ORC) : List (Nat × INS) := [(53, x_ifeq 60 56), (56, x_const (iv 1) 57), (57, x_goto 61), (60, x_const (iv 0) 61), (61, x_sI o 41 4 64), (64, x_iast 65), (65, x_iinc 4 1 68), (68, x_goto 3), (71, x_vret)]
def CX2_letRun (o : ORC) : COD := [(29, CX2_letRun_0 o), (53, CX2_letRun_1 o), (72, CX2_letRun_2 o)]
def CX2_takeIn_0 (o : ORC) : List (Nat × INS) := [(0, x_iload 3 1), (1, x_istore 4 3), (3, x_const (iv 0) 4), (4, x_istore 5 6), (6, x_iload 5 8), (8, x_aload 0 9), (9, x_getI 2 0 12), (12, x_cge 67 15), (15, x_iload 5 17), (17, x_aload 1 18), (18, x_alen 19), (19, x_cge 67 22), (22, x_iload 5 24), (24, x_aload 2 25), (25, x_alen 26), (26, x_cge 67 29)]
def CX2_takeIn_1 (o : ORC) : List (Nat × INS) := [(29, x_aload 1 30), (30, x_iload 5 32), (32, x_aload 0 33), (33, x_getR 2 4 36), (36, x_iload 5 38), (38, x_ald 0 39), (39, x_aload 1 40), (40, x_iload 5 42), (42, x_ald 0 43), (43, x_aload 2 44), (44, x_iload 5 46), (46, x_ald 0 47), (47, x_bin (fun x y => x - y) 48), (48, x_iload 4 50), (50, x_bin (fun x y => x + y) 51), (51, x_sI o 42 2 54)]
def CX2_takeIn_2 (o : ORC) : List (Nat × INS) := [(54, x_iast 55), (55, x_aload 2 56), (56, x_iload 5 58), (58, x_ald 0 59), (59, x_istore 4 61), (61, x_iinc 5 1 64), (64, x_goto 6), (67, x_vret)]
def CX2_takeIn (o : ORC) : COD := [(29, CX2_takeIn_0 o), (54, CX2_takeIn_1 o), (68, CX2_takeIn_2 o)]
def CX2_toSea_0 (o : ORC) : List (Nat × INS) := [(0, x_aload 0 1), (1, x_getI 2 0 4), (4, x_ifle 27 7), (7, x_aload 0 8), (8, x_getI 2 0 11), (11, x_aload 1 12), (12, x_alen 13), (13, x_cgt 27 16), (16, x_aload 1 17), (17, x_aload 0 18), (18, x_getI 2 0 21), (21, x_const (iv 1) 22), (22, x_bin (fun x y => x - y) 23), (23, x_ald 0 24), (24, x_goto 28), (27, x_const (iv 0) 28)]
def CX2_toSea_1 (o : ORC) : List (Nat × INS) := [(28, x_iret)]
def CX2_toSea (o : ORC) : COD := [(28, CX2_toSea_0 o), (29, CX2_toSea_1 o)]
def CX2_grindingBy_0 (o : ORC) : List (Nat × INS) := [(0, x_const (iv 0) 1), (1, x_istore 2 2), (2, x_const (iv 0) 3), (3, x_istore 3 4), (4, x_iload 3 5), (5, x_aload 0 6), (6, x_getI 2 0 9), (9, x_cge 51 12), (12, x_iload 3 13), (13, x_aload 1 14), (14, x_alen 15), (15, x_cge 51 18), (18, x_aload 0 19), (19, x_getR 2 4 22), (22, x_iload 3 23), (23, x_ald 0 24)]
def CX2_grindingBy_1 (o : ORC) : List (Nat × INS) := [(24, x_aload 0 25), (25, x_getR 2 5 28), (28, x_iload 3 29), (29, x_ald 0 30), (30, x_aload 1 31), (31, x_iload 3 32), (32, x_ald 0 33), (33, x_sI o 43 3 36), (36, x_ifeq 45 39), (39, x_iload 2 40), (40, x_const (iv 1) 41), (41, x_iload 3 42), (42, x_bin (fun x y => x <<< (y &&& 31)) 43), (43, x_bin (fun x y => x ||| y) 44), (44, x_istore 2 45), (45, x_iinc 3 1 48)]
def CX2_grindingBy_2 (o : ORC) : List (Nat × INS) := [(48, x_goto 4), (51, x_iload 2 52), (52, x_iret)]
def CX2_grindingBy (o : ORC) : COD := [(24, CX2_grindingBy_0 o), (48, CX2_grindingBy_1 o), (53, CX2_grindingBy_2 o)]
def CX3_add_0 (o : ORC) : List (Nat × INS) := [(0, x_aload 0 1), (1, x_getI 3 0 4), (4, x_const (iv 40) 6), (6, x_cge 39 9), (9, x_aload 0 10), (10, x_getR 3 1 13), (13, x_aload 0 14), (14, x_getI 3 0 17), (17, x_iload 1 18), (18, x_iast 19), (19, x_aload 0 20), (20, x_getR 3 2 23), (23, x_aload 0 24), (24, x_getI 3 0 27), (27, x_iload 2 28), (28, x_iast 29)]
def CX3_add_1 (o : ORC) : List (Nat × INS) := [(29, x_aload 0 30), (30, x_dup 31), (31, x_getI 3 0 34), (34, x_const (iv 1) 35), (35, x_bin (fun x y => x + y) 36), (36, x_putI 3 0 39), (39, x_vret)]
def CX3_add (o : ORC) : COD := [(29, CX3_add_0 o), (40, CX3_add_1 o)]
def CX3_cutTo_0 (o : ORC) : List (Nat × INS) := [(0, x_aload 0 1), (1, x_const (iv 0) 2), (2, x_iload 1 3), (3, x_aload 0 4), (4, x_getI 3 0 7), (7, x_sI o 3 2 10), (10, x_sI o 2 2 13), (13, x_putI 3 0 16), (16, x_vret)]
def CX3_cutTo (o : ORC) : COD := [(17, CX3_cutTo_0 o)]
def CX3_become_0 (o : ORC) : List (Nat × INS) := [(0, x_aload 1 1), (1, x_ifnull 42 4), (4, x_aload 0 5), (5, x_aload 1 6), (6, x_getI 3 0 9), (9, x_putI 3 0 12), (12, x_aload 1 13), (13, x_getR 3 1 16), (16, x_const (iv 0) 17), (17, x_aload 0 18), (18, x_getR 3 1 21), (21, x_const (iv 0) 22), (22, x_const (iv 40) 24), (24, x_copy 27), (27, x_aload 1 28), (28, x_getR 3 2 31)]
def CX3_become_1 (o : ORC) : List (Nat × INS) := [(31, x_const (iv 0) 32), (32, x_aload 0 33), (33, x_getR 3 2 36), (36, x_const (iv 0) 37), (37, x_const (iv 40) 39), (39, x_copy 42), (42, x_vret)]
def CX3_become (o : ORC) : COD := [(31, CX3_become_0 o), (43, CX3_become_1 o)]
def CX4_start_0 (o : ORC) : List (Nat × INS) := [(0, x_const (iv 0) 1), (1, x_istore 2 2), (2, x_iload 2 3), (3, x_const (iv 6) 5), (5, x_cge 52 8), (8, x_aload 0 9), (9, x_getR 4 0 12), (12, x_iload 2 13), (13, x_iload 2 14), (14, x_aload 1 15), (15, x_getI 2 0 18), (18, x_cge 30 21), (21, x_aload 1 22), (22, x_getR 2 6 25), (25, x_iload 2 26), (26, x_ald 0 27)]
def CX4_start_1 (o : ORC) : List (Nat × INS) := [(27, x_goto 31), (30, x_const (iv 0) 31), (31, x_iast 32), (32, x_aload 0 33), (33, x_getR 4 1 36), (36, x_iload 2 37), (37, x_const (iv 0) 38), (38, x_iast 39), (39, x_aload 0 40), (40, x_getR 4 2 43), (43, x_iload 2 44), (44, x_const (iv 0) 45), (45, x_iast 46), (46, x_iinc 2 1 49), (49, x_goto 2), (52, x_const (iv 0) 53)]
def CX4_start_2 (o : ORC) : List (Nat × INS) := [(53, x_istore 2 54), (54, x_iload 2 55), (55, x_const (iv 7) 57), (57, x_cge 73 60), (60, x_aload 0 61), (61, x_getR 4 3 64), (64, x_iload 2 65), (65, x_const (iv 0) 66), (66, x_iast 67), (67, x_iinc 2 1 70), (70, x_goto 54), (73, x_vret)]
def CX4_start (o : ORC) : COD := [(27, CX4_start_0 o), (53, CX4_start_1 o), (74, CX4_start_2 o)]
def CX4_pass_0 (o : ORC) : List (Nat × INS) := [(0, x_aload 1 1), (1, x_aload 0 2), (2, x_getR 4 0 5), (5, x_aload 0 6), (6, x_getR 4 4 9), (9, x_iload 2 10), (10, x_vV o 22 2 4 13), (13, x_aload 1 14), (14, x_aload 0 15), (15, x_getR 4 0 18), (18, x_aload 0 19), (19, x_getR 4 4 22), (22, x_iload 3 23), (23, x_vV o 23 2 4 26), (26, x_aload 1 27), (27, x_aload 0 28)]
def CX4_pass_1 (o : ORC) : List (Nat × INS) := [(28, x_getR 4 4 31), (31, x_vI o 25 2 2 34), (34, x_istore 5 36), (36, x_const (iv 0) 37), (37, x_istore 6 39), (39, x_iload 6 41), (41, x_aload 1 42), (42, x_getI 2 0 45), (45, x_cge 88 48), (48, x_aload 0 49), (49, x_getR 4 1 52), (52, x_iload 6 54), (54, x_dup2 55), (55, x_ald 0 56), (56, x_iload 5 58), (58, x_iload 6 60)]
def CX4_pass_2 (o : ORC) : List (Nat × INS) := [(60, x_bin (fun x y => x >>> (y &&& 31)) 61), (61, x_const (iv 1) 62), (62, x_bin (fun x y => x &&& y) 63), (63, x_bin (fun x y => x + y) 64), (64, x_iast 65), (65, x_aload 0 66), (66, x_getR 4 2 69), (69, x_iload 6 71), (71, x_dup2 72), (72, x_ald 0 73), (73, x_aload 0 74), (74, x_getR 4 4 77), (77, x_iload 6 79), (79, x_ald 0 80), (80, x_bin (fun x y => x + y) 81), (81, x_iast 82)]
def CX4_pass_3 (o : ORC) : List (Nat × INS) := [(82, x_iinc 6 1 85), (85, x_goto 39), (88, x_aload 1 89), (89, x_aload 0 90), (90, x_getR 4 4 93), (93, x_vI o 24 2 2 96), (96, x_istore 6 98), (98, x_iload 4 100), (100, x_sI o 125 1 103), (103, x_ifeq 118 106), (106, x_aload 0 107), (107, x_getR 4 3 110), (110, x_iload 4 112), (112, x_dup2 113), (113, x_ald 0 114), (114, x_iload 6 116)]
def CX4_pass_4 (o : ORC) : List (Nat × INS) := [(116, x_bin (fun x y => x + y) 117), (117, x_iast 118), (118, x_iload 6 120), (120, x_iret)]
def CX4_pass (o : ORC) : COD := [(28, CX4_pass_0 o), (60, CX4_pass_1 o), (82, CX4_pass_2 o), (116, CX4_pass_3 o), (121, CX4_pass_4 o)]
def CX5_seek_0 (o : ORC) : List (Nat × INS) := [(0, x_aload 0 1), (1, x_getR 5 9 4), (4, x_aload 2 5), (5, x_iload 3 6), (6, x_vV o 4 0 3 9), (9, x_aload 0 10), (10, x_iload 4 12), (12, x_putI 5 7 15), (15, x_aload 0 16), (16, x_const (iv 0) 17), (17, x_iload 5 19), (19, x_const (iv 4) 20), (20, x_sI o 3 2 23), (23, x_sI o 2 2 26), (26, x_putI 5 3 29), (29, x_aload 0 30)]
def CX5_seek_1 (o : ORC) : List (Nat × INS) := [(30, x_const (iv 0) 31), (31, x_putI 5 4 34), (34, x_aload 0 35), (35, x_const (iv 0) 36), (36, x_putI 5 5 39), (39, x_aload 0 40), (40, x_const (iv 0) 41), (41, x_putI 5 6 44), (44, x_aload 0 45), (45, x_aload 1 46), (46, x_const (iv 0) 47), (47, x_const (iv 0) 48), (48, x_vV o 32 5 4 51), (51, x_vret)]
def CX5_seek (o : ORC) : COD := [(30, CX5_seek_0 o), (52, CX5_seek_1 o)]
def CX5_goDeeper_0 (o : ORC) : List (Nat × INS) := [(0, x_iload 2 1), (1, x_aload 0 2), (2, x_getI 5 3 5), (5, x_clt 14 8), (8, x_aload 0 9), (9, x_iload 3 10), (10, x_vV o 35 5 2 13), (13, x_vret), (14, x_const (iv 0) 15), (15, x_istore 4 17), (17, x_iload 4 19), (19, x_aload 1 20), (20, x_getI 2 3 23), (23, x_cge 85 26), (26, x_aload 1 27), (27, x_getR 2 9 30)]
def CX5_goDeeper_1 (o : ORC) : List (Nat × INS) := [(30, x_iload 4 32), (32, x_ald 0 33), (33, x_istore 5 35), (35, x_aload 0 36), (36, x_getR 5 9 39), (39, x_aload 1 40), (40, x_iload 2 41), (41, x_iload 5 43), (43, x_vV o 6 0 4 46), (46, x_aload 0 47), (47, x_aload 1 48), (48, x_iload 2 49), (49, x_vI o 33 5 3 52), (52, x_ifeq 79 55), (55, x_aload 0 56), (56, x_getR 5 8 59)]
def CX5_goDeeper_2 (o : ORC) : List (Nat × INS) := [(59, x_iload 2 60), (60, x_iload 5 62), (62, x_iast 63), (63, x_aload 0 64), (64, x_aload 1 65), (65, x_iload 2 66), (66, x_const (iv 1) 67), (67, x_bin (fun x y => x + y) 68), (68, x_iload 3 69), (69, x_aload 0 70), (70, x_aload 1 71), (71, x_iload 2 72), (72, x_vI o 34 5 3 75), (75, x_bin (fun x y => x + y) 76), (76, x_vV o 32 5 4 79), (79, x_iinc 4 1 82)]
def CX5_goDeeper_3 (o : ORC) : List (Nat × INS) := [(82, x_goto 17), (85, x_vret)]
def CX5_goDeeper (o : ORC) : COD := [(30, CX5_goDeeper_0 o), (59, CX5_goDeeper_1 o), (82, CX5_goDeeper_2 o), (86, CX5_goDeeper_3 o)]
def CX5_fits_0 (o : ORC) : List (Nat × INS) := [(0, x_aload 0 1), (1, x_getI 5 7 4), (4, x_sw [(1, 32), (3, 52)] 74), (32, x_aload 0 33), (33, x_getR 5 9 36), (36, x_getI 0 2 39), (39, x_aload 1 40), (40, x_getI 2 2 43), (43, x_cne 50 46), (46, x_const (iv 1) 47), (47, x_goto 51), (50, x_const (iv 0) 51), (51, x_zret), (52, x_aload 0 53), (53, x_getR 5 9 56), (56, x_getI 0 1 59)]
def CX5_fits_1 (o : ORC) : List (Nat × INS) := [(59, x_aload 0 60), (60, x_getR 5 0 63), (63, x_iload 2 64), (64, x_ald 0 65), (65, x_cne 72 68), (68, x_const (iv 1) 69), (69, x_goto 73), (72, x_const (iv 0) 73), (73, x_zret), (74, x_const (iv 1) 75), (75, x_zret)]
def CX5_fits (o : ORC) : COD := [(59, CX5_fits_0 o), (76, CX5_fits_1 o)]
def CX5_gain_0 (o : ORC) : List (Nat × INS) := [(0, x_aload 0 1), (1, x_getI 5 7 4), (4, x_sw [(0, 32), (1, 43), (2, 54)] 82), (32, x_aload 0 33), (33, x_getR 5 9 36), (36, x_getI 0 2 39), (39, x_sI o 0 1 42), (42, x_iret), (43, x_aload 0 44), (44, x_getR 5 8 47), (47, x_iload 2 48), (48, x_ald 0 49), (49, x_sI o 0 1 52), (52, x_un (fun x => -x) 53), (53, x_iret), (54, x_aload 0 55)]
def CX5_gain_1 (o : ORC) : List (Nat × INS) := [(55, x_getR 5 9 58), (58, x_aload 1 59), (59, x_iload 2 60), (60, x_vI o 7 0 3 63), (63, x_aload 0 64), (64, x_getI 5 2 67), (67, x_cne 80 70), (70, x_aload 0 71), (71, x_getR 5 9 74), (74, x_getI 0 1 77), (77, x_goto 81), (80, x_const (iv 0) 81), (81, x_iret), (82, x_const (iv 0) 83), (83, x_iret)]
def CX5_gain (o : ORC) : COD := [(55, CX5_gain_0 o), (84, CX5_gain_1 o)]
def CX5_arrive_0 (o : ORC) : List (Nat × INS) := [(0, x_aload 0 1), (1, x_getI 5 4 4), (4, x_ifeq 15 7), (7, x_iload 1 8), (8, x_aload 0 9), (9, x_getI 5 5 12), (12, x_cle 34 15), (15, x_aload 0 16), (16, x_iload 1 17), (17, x_putI 5 5 20), (20, x_aload 0 21), (21, x_getR 5 8 24), (24, x_const (iv 0) 25), (25, x_aload 0 26), (26, x_getR 5 1 29), (29, x_const (iv 0) 30)]
def CX5_arrive_1 (o : ORC) : List (Nat × INS) := [(30, x_const (iv 4) 31), (31, x_copy 34), (34, x_aload 0 35), (35, x_aload 0 36), (36, x_getI 5 4 39), (39, x_ifne 51 42), (42, x_aload 0 43), (43, x_getR 5 8 46), (46, x_const (iv 0) 47), (47, x_ald 0 48), (48, x_goto 62), (51, x_aload 0 52), (52, x_getI 5 6 55), (55, x_aload 0 56), (56, x_getR 5 8 59), (59, x_const (iv 0) 60)]
def CX5_arrive_2 (o : ORC) : List (Nat × INS) := [(60, x_ald 0 61), (61, x_bin (fun x y => x &&& y) 62), (62, x_putI 5 6 65), (65, x_aload 0 66), (66, x_dup 67), (67, x_getI 5 4 70), (70, x_const (iv 1) 71), (71, x_bin (fun x y => x + y) 72), (72, x_putI 5 4 75), (75, x_vret)]
def CX5_arrive (o : ORC) : COD := [(30, CX5_arrive_0 o), (60, CX5_arrive_1 o), (76, CX5_arrive_2 o)]
def CX5_shutTogether_0 (o : ORC) : List (Nat × INS) := [(0, x_const (iv 0) 1), (1, x_istore 1 2), (2, x_const (iv 0) 3), (3, x_istore 2 4), (4, x_iload 2 5), (5, x_aload 0 6), (6, x_getI 5 3 9), (9, x_cge 30 12), (12, x_iload 1 13), (13, x_aload 0 14), (14, x_getR 5 1 17), (17, x_iload 2 18), (18, x_ald 0 19), (19, x_sI o 0 1 22), (22, x_bin (fun x y => x + y) 23), (23, x_istore 1 24)]
def CX5_shutTogether_1 (o : ORC) : List (Nat × INS) := [(24, x_iinc 2 1 27), (27, x_goto 4), (30, x_iload 1 31), (31, x_iret)]
def CX5_shutTogether (o : ORC) : COD := [(24, CX5_shutTogether_0 o), (32, CX5_shutTogether_1 o)]
def CX5_contest_0 (o : ORC) : List (Nat × INS) := [(0, x_aload 0 1), (1, x_getR 5 9 4), (4, x_aload 2 5), (5, x_iload 3 6), (6, x_vV o 4 0 3 9), (9, x_aload 0 10), (10, x_const (iv 0) 11), (11, x_iload 4 13), (13, x_const (iv 4) 14), (14, x_sI o 3 2 17), (17, x_sI o 2 2 20), (20, x_putI 5 3 23), (23, x_aload 0 24), (24, x_aload 1 25), (25, x_const (iv 0) 26), (26, x_vI o 38 5 3 29)]
def CX5_contest_1 (o : ORC) : List (Nat × INS) := [(29, x_iret)]
def CX5_contest (o : ORC) : COD := [(29, CX5_contest_0 o), (30, CX5_contest_1 o)]
def CX5_contend_0 (o : ORC) : List (Nat × INS) := [(0, x_iload 2 1), (1, x_aload 0 2), (2, x_getI 5 3 5), (5, x_clt 10 8), (8, x_const (iv 0) 9), (9, x_iret), (10, x_iload 2 11), (11, x_const (iv 2) 12), (12, x_dv (fun x y => x - x / y * y) 13), (13, x_ifne 20 16), (16, x_const (iv 1) 17), (17, x_goto 21), (20, x_const (iv 0) 21), (21, x_istore 3 22), (22, x_const (iv 0) 23), (23, x_istore 4 25)]
def CX5_contend_1 (o : ORC) : List (Nat × INS) := [(25, x_const (iv 0) 26), (26, x_istore 5 28), (28, x_iload 5 30), (30, x_aload 1 31), (31, x_getI 2 3 34), (34, x_cge 114 37), (37, x_aload 0 38), (38, x_getR 5 9 41), (41, x_aload 1 42), (42, x_iload 2 43), (43, x_aload 1 44), (44, x_getR 2 9 47), (47, x_iload 5 49), (49, x_ald 0 50), (50, x_vV o 6 0 4 53), (53, x_aload 0 54)]
def CX5_contend_2 (o : ORC) : List (Nat × INS) := [(54, x_getR 5 9 57), (57, x_getI 0 2 60), (60, x_sI o 0 1 63), (63, x_istore 6 65), (65, x_iload 6 67), (67, x_aload 0 68), (68, x_aload 1 69), (69, x_iload 2 70), (70, x_const (iv 1) 71), (71, x_bin (fun x y => x + y) 72), (72, x_vI o 38 5 3 75), (75, x_bin (fun x y => x + y) 76), (76, x_istore 6 78), (78, x_iload 5 80), (80, x_ifeq 104 83), (83, x_iload 3 84)]
def CX5_contend_3 (o : ORC) : List (Nat × INS) := [(84, x_ifeq 97 87), (87, x_iload 6 89), (89, x_iload 4 91), (91, x_cle 108 94), (94, x_goto 104), (97, x_iload 6 99), (99, x_iload 4 101), (101, x_cge 108 104), (104, x_iload 6 106), (106, x_istore 4 108), (108, x_iinc 5 1 111), (111, x_goto 28), (114, x_iload 4 116), (116, x_iret)]
def CX5_contend (o : ORC) : COD := [(25, CX5_contend_0 o), (54, CX5_contend_1 o), (84, CX5_contend_2 o), (117, CX5_contend_3 o)]
def CX6_byLetter_0 (o : ORC) : List (Nat × INS) := [(0, x_iload 0 1), (1, x_sw [(97, 60), (102, 70), (109, 64), (112, 66), (115, 68), (119, 62)] 72), (60, x_const (iv 0) 61), (61, x_iret), (62, x_const (iv 1) 63), (63, x_iret), (64, x_const (iv 2) 65), (65, x_iret), (66, x_const (iv 3) 67), (67, x_iret), (68, x_const (iv 4) 69), (69, x_iret), (70, x_const (iv 5) 71), (71, x_iret), (72, x_const (iv (-1)) 73), (73, x_iret)]
def CX6_byLetter (o : ORC) : COD := [(74, CX6_byLetter_0 o)]
def CX6_isOf_0 (o : ORC) : List (Nat × INS) := [(0, x_iload 1 1), (1, x_sw [(0, 28), (1, 30), (2, 51)] 67), (28, x_const (iv 1) 29), (29, x_zret), (30, x_iload 0 31), (31, x_const (iv 1) 32), (32, x_ceq 45 35), (35, x_iload 0 36), (36, x_const (iv 3) 37), (37, x_ceq 45 40), (40, x_iload 0 41), (41, x_const (iv 4) 42), (42, x_cne 49 45), (45, x_const (iv 1) 46), (46, x_goto 50), (49, x_const (iv 0) 50)]
def CX6_isOf_1 (o : ORC) : List (Nat × INS) := [(50, x_zret), (51, x_iload 0 52), (52, x_const (iv 2) 53), (53, x_ceq 61 56), (56, x_iload 0 57), (57, x_const (iv 5) 58), (58, x_cne 65 61), (61, x_const (iv 1) 62), (62, x_goto 66), (65, x_const (iv 0) 66), (66, x_zret), (67, x_iload 0 68), (68, x_iload 1 69), (69, x_cne 76 72), (72, x_const (iv 1) 73), (73, x_goto 77)]
def CX6_isOf_2 (o : ORC) : List (Nat × INS) := [(76, x_const (iv 0) 77), (77, x_zret)]
def CX6_isOf (o : ORC) : COD := [(50, CX6_isOf_0 o), (76, CX6_isOf_1 o), (78, CX6_isOf_2 o)]
def CX6_runFrom_0 (o : ORC) : List (Nat × INS) := [(0, x_iload 3 1), (1, x_ifeq 17 4), (4, x_iload 2 5), (5, x_iload 1 6), (6, x_cle 15 9), (9, x_iload 2 10), (10, x_iload 1 11), (11, x_bin (fun x y => x - y) 12), (12, x_goto 16), (15, x_const (iv 0) 16), (16, x_iret), (17, x_iload 0 18), (18, x_const (iv 4) 19), (19, x_cne 31 22), (22, x_iload 2 23), (23, x_iload 1 24)]
def CX6_runFrom_1 (o : ORC) : List (Nat × INS) := [(24, x_cle 31 27), (27, x_iload 1 28), (28, x_goto 32), (31, x_iload 2 32), (32, x_iret)]
def CX6_runFrom (o : ORC) : COD := [(24, CX6_runFrom_0 o), (33, CX6_runFrom_1 o)]
def CX6_settle_0 (o : ORC) : List (Nat × INS) := [(0, x_iload 0 1), (1, x_const (iv 3) 2), (2, x_cne 15 5), (5, x_iload 1 6), (6, x_ifle 15 9), (9, x_iload 1 10), (10, x_const (iv 1) 11), (11, x_bin (fun x y => x - y) 12), (12, x_goto 16), (15, x_iload 1 16), (16, x_istore 2 17), (17, x_iload 2 18), (18, x_const (iv 99) 20), (20, x_cle 28 23), (23, x_const (iv 99) 25), (25, x_goto 29)]
def CX6_settle_1 (o : ORC) : List (Nat × INS) := [(28, x_iload 2 29), (29, x_iret)]
def CX6_settle (o : ORC) : COD := [(28, CX6_settle_0 o), (30, CX6_settle_1 o)]
def CX6_grindsBy_0 (o : ORC) : List (Nat × INS) := [(0, x_iload 0 1), (1, x_sw [(2, 28), (5, 39)] 57), (28, x_iload 2 29), (29, x_iload 1 30), (30, x_clt 37 33), (33, x_const (iv 1) 34), (34, x_goto 38), (37, x_const (iv 0) 38), (38, x_zret), (39, x_iload 2 40), (40, x_iload 1 41), (41, x_clt 55 44), (44, x_iload 2 45), (45, x_iload 1 46), (46, x_const (iv 2) 47), (47, x_bin (fun x y => x + y) 48)]
def CX6_grindsBy_1 (o : ORC) : List (Nat × INS) := [(48, x_cgt 55 51), (51, x_const (iv 1) 52), (52, x_goto 56), (55, x_const (iv 0) 56), (56, x_zret), (57, x_const (iv 0) 58), (58, x_zret)]
def CX6_grindsBy (o : ORC) : COD := [(48, CX6_grindsBy_0 o), (59, CX6_grindsBy_1 o)]
def CX6_signOf_0 (o : ORC) : List (Nat × INS) := [(0, x_iload 0 1), (1, x_sw [(1, 32), (2, 38), (3, 46), (4, 48)] 65), (32, x_iload 2 33), (33, x_iload 1 34), (34, x_sI o 3 2 37), (37, x_iret), (38, x_const (iv 0) 39), (39, x_iload 1 40), (40, x_iload 2 41), (41, x_bin (fun x y => x - y) 42), (42, x_sI o 2 2 45), (45, x_iret), (46, x_iload 2 47), (47, x_iret), (48, x_iload 1 49), (49, x_const (iv 1) 50)]
def CX6_signOf_1 (o : ORC) : List (Nat × INS) := [(50, x_cge 57 53), (53, x_const (iv 0) 54), (54, x_goto 64), (57, x_iload 2 58), (58, x_iload 1 59), (59, x_bin (fun x y => x + y) 60), (60, x_const (iv 1) 61), (61, x_bin (fun x y => x - y) 62), (62, x_iload 1 63), (63, x_dv (fun x y => x / y) 64), (64, x_iret), (65, x_const (iv 0) 66), (66, x_iload 2 67), (67, x_iload 1 68), (68, x_bin (fun x y => x - y) 69), (69, x_const (iv 2) 70)]
def CX6_signOf_2 (o : ORC) : List (Nat × INS) := [(70, x_bin (fun x y => x - y) 71), (71, x_sI o 2 2 74), (74, x_iret)]
def CX6_signOf (o : ORC) : COD := [(50, CX6_signOf_0 o), (70, CX6_signOf_1 o), (75, CX6_signOf_2 o)]
def CX7_read_0 (o : ORC) : List (Nat × INS) := [(0, x_aload 1 1), (1, x_iload 2 2), (2, x_aload 0 3), (3, x_getR 7 0 6), (6, x_vV o 61 8 3 9), (9, x_aload 0 10), (10, x_aload 1 11), (11, x_iload 2 12), (12, x_vI o 54 8 2 15), (15, x_const (iv 60) 17), (17, x_sI o 3 2 20), (20, x_putI 7 1 23), (23, x_aload 0 24), (24, x_const (iv 0) 25), (25, x_putI 7 2 28), (28, x_aload 3 29)]
def CX7_read_1 (o : ORC) : List (Nat × INS) := [(29, x_vV o 15 2 1 32), (32, x_aload 0 33), (33, x_const (iv 121) 35), (35, x_aload 3 36), (36, x_getR 2 7 39), (39, x_const (iv 9) 41), (41, x_vI o 46 7 4 44), (44, x_ifeq 66 47), (47, x_aload 0 48), (48, x_const (iv 111) 50), (50, x_aload 3 51), (51, x_getR 2 8 54), (54, x_const (iv 6) 56), (56, x_vI o 46 7 4 59), (59, x_ifeq 66 62), (62, x_const (iv 1) 63)]
def CX7_read_2 (o : ORC) : List (Nat × INS) := [(63, x_goto 67), (66, x_const (iv 0) 67), (67, x_istore 4 69), (69, x_const (iv 0) 70), (70, x_istore 5 72), (72, x_iload 4 74), (74, x_ifeq 113 77), (77, x_iload 5 79), (79, x_const (iv 60) 81), (81, x_cge 113 84), (84, x_iload 5 86), (86, x_ifeq 96 89), (89, x_aload 0 90), (90, x_vI o 48 7 1 93), (93, x_ifne 113 96), (96, x_aload 0 97)]
def CX7_read_3 (o : ORC) : List (Nat × INS) := [(97, x_vV o 51 7 1 100), (100, x_aload 0 101), (101, x_aload 3 102), (102, x_vI o 47 7 2 105), (105, x_istore 4 107), (107, x_iinc 5 1 110), (110, x_goto 72), (113, x_aload 3 114), (114, x_vV o 20 2 1 117), (117, x_iload 4 119), (119, x_ifeq 127 122), (122, x_const (iv (-9)) 124), (124, x_goto 131), (127, x_aload 0 128), (128, x_getI 7 2 131), (131, x_iret)]
def CX7_read (o : ORC) : COD := [(29, CX7_read_0 o), (63, CX7_read_1 o), (97, CX7_read_2 o), (132, CX7_read_3 o)]
def CX7_takesWeek_0 (o : ORC) : List (Nat × INS) := [(0, x_aload 0 1), (1, x_vV o 51 7 1 4), (4, x_aload 0 5), (5, x_vI o 49 7 1 8), (8, x_iload 1 9), (9, x_ceq 14 12), (12, x_const (iv 0) 13), (13, x_zret), (14, x_aload 0 15), (15, x_dup 16), (16, x_getI 7 2 19), (19, x_const (iv 1) 20), (20, x_bin (fun x y => x + y) 21), (21, x_putI 7 2 24), (24, x_const (iv 0) 25), (25, x_istore 4 27)]
def CX7_takesWeek_1 (o : ORC) : List (Nat × INS) := [(27, x_iload 4 29), (29, x_aload 2 30), (30, x_alen 31), (31, x_cge 72 34), (34, x_aload 0 35), (35, x_const (iv 0) 36), (36, x_iload 3 37), (37, x_vI o 50 7 3 40), (40, x_ifne 45 43), (43, x_const (iv 0) 44), (44, x_zret), (45, x_aload 2 46), (46, x_iload 4 48), (48, x_aload 0 49), (49, x_vI o 49 7 1 52), (52, x_const (iv 48) 54)]
def CX7_takesWeek_2 (o : ORC) : List (Nat × INS) := [(54, x_bin (fun x y => x - y) 55), (55, x_iast 56), (56, x_aload 0 57), (57, x_dup 58), (58, x_getI 7 2 61), (61, x_const (iv 1) 62), (62, x_bin (fun x y => x + y) 63), (63, x_putI 7 2 66), (66, x_iinc 4 1 69), (69, x_goto 27), (72, x_const (iv 1) 73), (73, x_zret)]
def CX7_takesWeek (o : ORC) : COD := [(27, CX7_takesWeek_0 o), (54, CX7_takesWeek_1 o), (74, CX7_takesWeek_2 o)]
def CX7_takesReach_0 (o : ORC) : List (Nat × INS) := [(0, x_aload 0 1), (1, x_vI o 49 7 1 4), (4, x_sI o 39 1 7), (7, x_istore 2 8), (8, x_iload 2 9), (9, x_const (iv (-1)) 10), (10, x_ceq 21 13), (13, x_aload 1 14), (14, x_iload 2 15), (15, x_vI o 18 2 2 18), (18, x_ifne 23 21), (21, x_const (iv 0) 22), (22, x_zret), (23, x_aload 0 24), (24, x_dup 25), (25, x_getI 7 2 28)]
def CX7_takesReach_1 (o : ORC) : List (Nat × INS) := [(28, x_const (iv 1) 29), (29, x_bin (fun x y => x + y) 30), (30, x_putI 7 2 33), (33, x_aload 0 34), (34, x_const (iv 1) 35), (35, x_const (iv 9) 37), (37, x_vI o 50 7 3 40), (40, x_ifne 45 43), (43, x_const (iv 0) 44), (44, x_zret), (45, x_aload 0 46), (46, x_vI o 49 7 1 49), (49, x_const (iv 48) 51), (51, x_bin (fun x y => x - y) 52), (52, x_istore 3 53), (53, x_aload 0 54)]
def CX7_takesReach_2 (o : ORC) : List (Nat × INS) := [(54, x_dup 55), (55, x_getI 7 2 58), (58, x_const (iv 1) 59), (59, x_bin (fun x y => x + y) 60), (60, x_putI 7 2 63), (63, x_aload 0 64), (64, x_const (iv 0) 65), (65, x_const (iv 9) 67), (67, x_vI o 50 7 3 70), (70, x_ifne 75 73), (73, x_const (iv 0) 74), (74, x_zret), (75, x_aload 1 76), (76, x_iload 2 77), (77, x_iload 3 78), (78, x_aload 0 79)]
def CX7_takesReach_3 (o : ORC) : List (Nat × INS) := [(79, x_vI o 49 7 1 82), (82, x_const (iv 48) 84), (84, x_bin (fun x y => x - y) 85), (85, x_vV o 19 2 4 88), (88, x_aload 0 89), (89, x_dup 90), (90, x_getI 7 2 93), (93, x_const (iv 1) 94), (94, x_bin (fun x y => x + y) 95), (95, x_putI 7 2 98), (98, x_const (iv 1) 99), (99, x_zret)]
def CX7_takesReach (o : ORC) : COD := [(28, CX7_takesReach_0 o), (54, CX7_takesReach_1 o), (79, CX7_takesReach_2 o), (100, CX7_takesReach_3 o)]
def CX7_onlyBlanksLeft_0 (o : ORC) : List (Nat × INS) := [(0, x_aload 0 1), (1, x_vV o 51 7 1 4), (4, x_aload 0 5), (5, x_getI 7 2 8), (8, x_aload 0 9), (9, x_getI 7 1 12), (12, x_clt 19 15), (15, x_const (iv 1) 16), (16, x_goto 20), (19, x_const (iv 0) 20), (20, x_zret)]
def CX7_onlyBlanksLeft (o : ORC) : COD := [(21, CX7_onlyBlanksLeft_0 o)]
def CX7_seen_0 (o : ORC) : List (Nat × INS) := [(0, x_aload 0 1), (1, x_getI 7 2 4), (4, x_iflt 30 7), (7, x_aload 0 8), (8, x_getI 7 2 11), (11, x_aload 0 12), (12, x_getI 7 1 15), (15, x_cge 30 18), (18, x_aload 0 19), (19, x_getR 7 0 22), (22, x_aload 0 23), (23, x_getI 7 2 26), (26, x_ald 0 27), (27, x_goto 33), (30, x_const (iv (-1000)) 33), (33, x_iret)]
def CX7_seen (o : ORC) : COD := [(34, CX7_seen_0 o)]
def CX7_seesFigure_0 (o : ORC) : List (Nat × INS) := [(0, x_aload 0 1), (1, x_vI o 49 7 1 4), (4, x_const (iv 48) 6), (6, x_iload 1 7), (7, x_bin (fun x y => x + y) 8), (8, x_clt 26 11), (11, x_aload 0 12), (12, x_vI o 49 7 1 15), (15, x_const (iv 48) 17), (17, x_iload 2 18), (18, x_bin (fun x y => x + y) 19), (19, x_cgt 26 22), (22, x_const (iv 1) 23), (23, x_goto 27), (26, x_const (iv 0) 27), (27, x_zret)]
def CX7_seesFigure (o : ORC) : COD := [(28, CX7_seesFigure_0 o)]
def CX7_skipBlanks_0 (o : ORC) : List (Nat × INS) := [(0, x_const (iv 0) 1), (1, x_istore 1 2), (2, x_iload 1 3), (3, x_const (iv 60) 5), (5, x_cge 33 8), (8, x_aload 0 9), (9, x_vI o 49 7 1 12), (12, x_const (iv 32) 14), (14, x_cne 33 17), (17, x_aload 0 18), (18, x_dup 19), (19, x_getI 7 2 22), (22, x_const (iv 1) 23), (23, x_bin (fun x y => x + y) 24), (24, x_putI 7 2 27), (27, x_iinc 1 1 30)]
def CX7_skipBlanks_1 (o : ORC) : List (Nat × INS) := [(30, x_goto 2), (33, x_vret)]
def CX7_skipBlanks (o : ORC) : COD := [(30, CX7_skipBlanks_0 o), (34, CX7_skipBlanks_1 o)]
def CX8_isOne_0 (o : ORC) : List (Nat × INS) := [(0, x_iload 1 1), (1, x_iflt 17 4), (4, x_iload 1 5), (5, x_aload 0 6), (6, x_getR 8 2 9), (9, x_alen 10), (10, x_cge 17 13), (13, x_const (iv 1) 14), (14, x_goto 18), (17, x_const (iv 0) 18), (18, x_zret)]
def CX8_isOne (o : ORC) : COD := [(19, CX8_isOne_0 o)]
def CX8_isThere_0 (o : ORC) : List (Nat × INS) := [(0, x_aload 0 1), (1, x_iload 1 2), (2, x_vI o 52 8 2 5), (5, x_ifeq 22 8), (8, x_aload 0 9), (9, x_getR 8 2 12), (12, x_iload 1 13), (13, x_ald 0 14), (14, x_const (iv (-1)) 15), (15, x_ceq 22 18), (18, x_const (iv 1) 19), (19, x_goto 23), (22, x_const (iv 0) 23), (23, x_zret)]
def CX8_isThere (o : ORC) : COD := [(24, CX8_isThere_0 o)]
def CX8_sizeOf_0 (o : ORC) : List (Nat × INS) := [(0, x_aload 0 1), (1, x_iload 1 2), (2, x_vI o 52 8 2 5), (5, x_ifeq 21 8), (8, x_const (iv 0) 9), (9, x_aload 0 10), (10, x_getR 8 2 13), (13, x_iload 1 14), (14, x_ald 0 15), (15, x_sI o 2 2 18), (18, x_goto 22), (21, x_const (iv 0) 22), (22, x_iret)]
def CX8_sizeOf (o : ORC) : COD := [(23, CX8_sizeOf_0 o)]
def CX8_holds_0 (o : ORC) : List (Nat × INS) := [(0, x_aload 0 1), (1, x_iload 1 2), (2, x_vI o 52 8 2 5), (5, x_ifeq 26 8), (8, x_iload 2 9), (9, x_iflt 26 12), (12, x_iload 2 13), (13, x_aload 0 14), (14, x_getR 8 2 17), (17, x_iload 1 18), (18, x_ald 0 19), (19, x_cge 26 22), (22, x_const (iv 1) 23), (23, x_goto 27), (26, x_const (iv 0) 27), (27, x_zret)]
def CX8_holds (o : ORC) : COD := [(28, CX8_holds_0 o)]
def CX8_holdsRun_0 (o : ORC) : List (Nat × INS) := [(0, x_aload 0 1), (1, x_iload 1 2), (2, x_vI o 52 8 2 5), (5, x_ifeq 36 8), (8, x_iload 2 9), (9, x_iflt 36 12), (12, x_iload 3 13), (13, x_iflt 36 16), (16, x_iload 2 17), (17, x_i2l 18), (18, x_iload 3 19), (19, x_i2l 20), (20, x_binl (fun x y => x + y) 21), (21, x_aload 0 22), (22, x_getR 8 2 25), (25, x_iload 1 26)]
def CX8_holdsRun_1 (o : ORC) : List (Nat × INS) := [(26, x_ald 0 27), (27, x_i2l 28), (28, x_lcmp 29), (29, x_ifgt 36 32), (32, x_const (iv 1) 33), (33, x_goto 37), (36, x_const (iv 0) 37), (37, x_zret)]
def CX8_holdsRun (o : ORC) : COD := [(26, CX8_holdsRun_0 o), (38, CX8_holdsRun_1 o)]
def CX8_valueAt_0 (o : ORC) : List (Nat × INS) := [(0, x_aload 0 1), (1, x_iload 1 2), (2, x_iload 2 3), (3, x_vI o 55 8 3 6), (6, x_ifeq 20 9), (9, x_aload 0 10), (10, x_getR 8 1 13), (13, x_iload 1 14), (14, x_aald 2 15), (15, x_iload 2 16), (16, x_ald 0 17), (17, x_goto 21), (20, x_const (iv 0) 21), (21, x_iret)]
def CX8_valueAt (o : ORC) : COD := [(22, CX8_valueAt_0 o)]
def CX8_change_0 (o : ORC) : List (Nat × INS) := [(0, x_aload 0 1), (1, x_iload 1 2), (2, x_iload 2 3), (3, x_vI o 55 8 3 6), (6, x_ifeq 18 9), (9, x_aload 0 10), (10, x_getR 8 1 13), (13, x_iload 1 14), (14, x_aald 2 15), (15, x_iload 2 16), (16, x_iload 3 17), (17, x_iast 18), (18, x_vret)]
def CX8_change (o : ORC) : COD := [(19, CX8_change_0 o)]
def CX8_make_0 (o : ORC) : List (Nat × INS) := [(0, x_aload 0 1), (1, x_iload 1 2), (2, x_vI o 52 8 2 5), (5, x_ifeq 52 8), (8, x_iload 2 9), (9, x_iflt 52 12), (12, x_iload 2 13), (13, x_aload 0 14), (14, x_getI 8 0 17), (17, x_cgt 52 20), (20, x_aload 0 21), (21, x_getR 8 2 24), (24, x_iload 1 25), (25, x_iload 2 26), (26, x_iast 27), (27, x_const (iv 0) 28)]
def CX8_make_1 (o : ORC) : List (Nat × INS) := [(28, x_istore 4 30), (30, x_iload 4 32), (32, x_iload 2 33), (33, x_cge 52 36), (36, x_aload 0 37), (37, x_getR 8 1 40), (40, x_iload 1 41), (41, x_aald 2 42), (42, x_iload 4 44), (44, x_iload 3 45), (45, x_iast 46), (46, x_iinc 4 1 49), (49, x_goto 30), (52, x_vret)]
def CX8_make (o : ORC) : COD := [(28, CX8_make_0 o), (53, CX8_make_1 o)]
def CX8_take_0 (o : ORC) : List (Nat × INS) := [(0, x_aload 0 1), (1, x_iload 1 2), (2, x_iload 3 3), (3, x_const (iv 0) 4), (4, x_vV o 59 8 4 7), (7, x_const (iv 0) 8), (8, x_istore 4 10), (10, x_iload 4 12), (12, x_iload 3 13), (13, x_cge 40 16), (16, x_iload 4 18), (18, x_aload 2 19), (19, x_alen 20), (20, x_cge 40 23), (23, x_aload 0 24), (24, x_iload 1 25)]
def CX8_take_1 (o : ORC) : List (Nat × INS) := [(25, x_iload 4 27), (27, x_aload 2 28), (28, x_iload 4 30), (30, x_ald 0 31), (31, x_vV o 58 8 4 34), (34, x_iinc 4 1 37), (37, x_goto 10), (40, x_vret)]
def CX8_take (o : ORC) : COD := [(25, CX8_take_0 o), (41, CX8_take_1 o)]
def CX8_giveTo_0 (o : ORC) : List (Nat × INS) := [(0, x_const (iv 0) 1), (1, x_istore 3 2), (2, x_iload 3 3), (3, x_aload 0 4), (4, x_iload 1 5), (5, x_vI o 54 8 2 8), (8, x_cge 34 11), (11, x_iload 3 12), (12, x_aload 2 13), (13, x_alen 14), (14, x_cge 34 17), (17, x_aload 2 18), (18, x_iload 3 19), (19, x_aload 0 20), (20, x_getR 8 1 23), (23, x_iload 1 24)]
def CX8_giveTo_1 (o : ORC) : List (Nat × INS) := [(24, x_aald 2 25), (25, x_iload 3 26), (26, x_ald 0 27), (27, x_iast 28), (28, x_iinc 3 1 31), (31, x_goto 2), (34, x_vret)]
def CX8_giveTo (o : ORC) : COD := [(24, CX8_giveTo_0 o), (35, CX8_giveTo_1 o)]
def CX8_drop_0 (o : ORC) : List (Nat × INS) := [(0, x_aload 0 1), (1, x_iload 1 2), (2, x_vI o 52 8 2 5), (5, x_ifeq 15 8), (8, x_aload 0 9), (9, x_getR 8 2 12), (12, x_iload 1 13), (13, x_const (iv (-1)) 14), (14, x_iast 15), (15, x_vret)]
def CX8_drop (o : ORC) : COD := [(16, CX8_drop_0 o)]
def CX8_transfer_0 (o : ORC) : List (Nat × INS) := [(0, x_aload 0 1), (1, x_iload 1 2), (2, x_iload 2 3), (3, x_iload 5 5), (5, x_vI o 56 8 4 8), (8, x_ifeq 43 11), (11, x_aload 0 12), (12, x_iload 3 13), (13, x_iload 4 15), (15, x_iload 5 17), (17, x_vI o 56 8 4 20), (20, x_ifeq 43 23), (23, x_aload 0 24), (24, x_getR 8 1 27), (27, x_iload 1 28), (28, x_aald 2 29)]
def CX8_transfer_1 (o : ORC) : List (Nat × INS) := [(29, x_iload 2 30), (30, x_aload 0 31), (31, x_getR 8 1 34), (34, x_iload 3 35), (35, x_aald 2 36), (36, x_iload 4 38), (38, x_iload 5 40), (40, x_copy 43), (43, x_vret)]
def CX8_transfer (o : ORC) : COD := [(29, CX8_transfer_0 o), (44, CX8_transfer_1 o)]
def CX8_sumOf_0 (o : ORC) : List (Nat × INS) := [(0, x_const (jv 0) 1), (1, x_lstore 2 2), (2, x_const (iv 0) 3), (3, x_istore 4 5), (5, x_iload 4 7), (7, x_aload 0 8), (8, x_iload 1 9), (9, x_vI o 54 8 2 12), (12, x_cge 34 15), (15, x_lload 2 16), (16, x_aload 0 17), (17, x_getR 8 1 20), (20, x_iload 1 21), (21, x_aald 2 22), (22, x_iload 4 24), (24, x_ald 0 25)]
def CX8_sumOf_1 (o : ORC) : List (Nat × INS) := [(25, x_i2l 26), (26, x_binl (fun x y => x + y) 27), (27, x_lstore 2 28), (28, x_iinc 4 1 31), (31, x_goto 5), (34, x_lload 2 35), (35, x_lret)]
def CX8_sumOf (o : ORC) : COD := [(25, CX8_sumOf_0 o), (36, CX8_sumOf_1 o)]
def CX8_allWithin_0 (o : ORC) : List (Nat × INS) := [(0, x_const (iv 0) 1), (1, x_istore 3 2), (2, x_iload 3 3), (3, x_aload 0 4), (4, x_iload 1 5), (5, x_vI o 54 8 2 8), (8, x_cge 42 11), (11, x_aload 0 12), (12, x_getR 8 1 15), (15, x_iload 1 16), (16, x_aald 2 17), (17, x_iload 3 18), (18, x_ald 0 19), (19, x_iflt 34 22), (22, x_aload 0 23), (23, x_getR 8 1 26)]
def CX8_allWithin_1 (o : ORC) : List (Nat × INS) := [(26, x_iload 1 27), (27, x_aald 2 28), (28, x_iload 3 29), (29, x_ald 0 30), (30, x_iload 2 31), (31, x_cle 36 34), (34, x_const (iv 0) 35), (35, x_zret), (36, x_iinc 3 1 39), (39, x_goto 2), (42, x_const (iv 1) 43), (43, x_zret)]
def CX8_allWithin (o : ORC) : COD := [(26, CX8_allWithin_0 o), (44, CX8_allWithin_1 o)]
def CX8_howMany_0 (o : ORC) : List (Nat × INS) := [(0, x_const (iv 0) 1), (1, x_istore 1 2), (2, x_const (iv 0) 3), (3, x_istore 2 4), (4, x_iload 2 5), (5, x_aload 0 6), (6, x_getR 8 2 9), (9, x_alen 10), (10, x_cge 35 13), (13, x_iload 1 14), (14, x_aload 0 15), (15, x_iload 2 16), (16, x_vI o 53 8 2 19), (19, x_ifeq 26 22), (22, x_const (iv 1) 23), (23, x_goto 27)]
def CX8_howMany_1 (o : ORC) : List (Nat × INS) := [(26, x_const (iv 0) 27), (27, x_bin (fun x y => x + y) 28), (28, x_istore 1 29), (29, x_iinc 2 1 32), (32, x_goto 4), (35, x_iload 1 36), (36, x_iret)]
def CX8_howMany (o : ORC) : COD := [(26, CX8_howMany_0 o), (37, CX8_howMany_1 o)]
def CX8_mixInto_0 (o : ORC) : List (Nat × INS) := [(0, x_const (iv 0) 1), (1, x_istore 3 2), (2, x_iload 3 3), (3, x_aload 0 4), (4, x_getR 8 2 7), (7, x_alen 8), (8, x_cge 67 11), (11, x_const (jv 31) 14), (14, x_lload 1 15), (15, x_binl (fun x y => x * y) 16), (16, x_aload 0 17), (17, x_getR 8 2 20), (20, x_iload 3 21), (21, x_ald 0 22), (22, x_i2l 23), (23, x_binl (fun x y => x + y) 24)]
def CX8_mixInto_1 (o : ORC) : List (Nat × INS) := [(24, x_lstore 1 25), (25, x_const (iv 0) 26), (26, x_istore 4 28), (28, x_iload 4 30), (30, x_aload 0 31), (31, x_iload 3 32), (32, x_vI o 54 8 2 35), (35, x_cge 61 38), (38, x_const (jv 31) 41), (41, x_lload 1 42), (42, x_binl (fun x y => x * y) 43), (43, x_aload 0 44), (44, x_getR 8 1 47), (47, x_iload 3 48), (48, x_aald 2 49), (49, x_iload 4 51)]
def CX8_mixInto_2 (o : ORC) : List (Nat × INS) := [(51, x_ald 0 52), (52, x_i2l 53), (53, x_binl (fun x y => x + y) 54), (54, x_lstore 1 55), (55, x_iinc 4 1 58), (58, x_goto 28), (61, x_iinc 3 1 64), (64, x_goto 2), (67, x_lload 1 68), (68, x_lret)]
def CX8_mixInto (o : ORC) : COD := [(24, CX8_mixInto_0 o), (51, CX8_mixInto_1 o), (69, CX8_mixInto_2 o)]
def CX9_row_0 (o : ORC) : List (Nat × INS) := [(0, x_aload 0 1), (1, x_aload 0 2), (2, x_getR 9 0 5), (5, x_iload 1 6), (6, x_iload 2 7), (7, x_const (iv 0) 8), (8, x_vI o 116 9 5 11), (11, x_iret)]
def CX9_row (o : ORC) : COD := [(12, CX9_row_0 o)]
def CX9_lay_0 (o : ORC) : List (Nat × INS) := [(0, x_aload 0 1), (1, x_aload 0 2), (2, x_getR 9 0 5), (5, x_iload 1 6), (6, x_iload 2 7), (7, x_vI o 118 9 4 10), (10, x_istore 4 12), (12, x_iload 4 14), (14, x_ifeq 20 17), (17, x_iload 4 19), (19, x_iret), (20, x_aload 0 21), (21, x_getR 9 0 24), (24, x_iload 1 25), (25, x_iload 2 26), (26, x_vI o 57 8 3 29)]
def CX9_lay_1 (o : ORC) : List (Nat × INS) := [(29, x_istore 5 31), (31, x_aload 0 32), (32, x_getR 9 0 35), (35, x_iload 1 36), (36, x_iload 2 37), (37, x_iload 3 38), (38, x_vV o 58 8 4 41), (41, x_aload 0 42), (42, x_iload 5 44), (44, x_vI o 112 9 2 47), (47, x_iret)]
def CX9_lay (o : ORC) : COD := [(29, CX9_lay_0 o), (48, CX9_lay_1 o)]
def CX9_at_0 (o : ORC) : List (Nat × INS) := [(0, x_aload 0 1), (1, x_aload 0 2), (2, x_getR 9 0 5), (5, x_iload 1 6), (6, x_iload 2 7), (7, x_vI o 118 9 4 10), (10, x_istore 3 11), (11, x_iload 3 12), (12, x_ifeq 19 15), (15, x_iload 3 16), (16, x_goto 32), (19, x_aload 0 20), (20, x_aload 0 21), (21, x_getR 9 0 24), (24, x_iload 1 25), (25, x_iload 2 26)]
def CX9_at_1 (o : ORC) : List (Nat × INS) := [(26, x_vI o 57 8 3 29), (29, x_vI o 112 9 2 32), (32, x_iret)]
def CX9_at (o : ORC) : COD := [(26, CX9_at_0 o), (33, CX9_at_1 o)]
def CX9_tear_0 (o : ORC) : List (Nat × INS) := [(0, x_aload 0 1), (1, x_aload 0 2), (2, x_getR 9 0 5), (5, x_iload 1 6), (6, x_vI o 117 9 3 9), (9, x_istore 2 10), (10, x_iload 2 11), (11, x_ifeq 16 14), (14, x_iload 2 15), (15, x_iret), (16, x_aload 0 17), (17, x_getR 9 0 20), (20, x_iload 1 21), (21, x_vV o 62 8 2 24), (24, x_const (iv 1) 25), (25, x_iret)]
def CX9_tear (o : ORC) : COD := [(26, CX9_tear_0 o)]
def CX9_copy_0 (o : ORC) : List (Nat × INS) := [(0, x_aload 0 1), (1, x_getR 9 0 4), (4, x_iload 1 5), (5, x_vI o 52 8 2 8), (8, x_ifeq 22 11), (11, x_aload 0 12), (12, x_getR 9 0 15), (15, x_iload 3 16), (16, x_vI o 52 8 2 19), (19, x_ifne 24 22), (22, x_const (iv (-1)) 23), (23, x_iret), (24, x_iload 5 26), (26, x_ifge 35 29), (29, x_aload 0 30), (30, x_const (iv 5) 31)]
def CX9_copy_1 (o : ORC) : List (Nat × INS) := [(31, x_vI o 115 9 2 34), (34, x_iret), (35, x_aload 0 36), (36, x_getR 9 0 39), (39, x_iload 1 40), (40, x_vI o 53 8 2 43), (43, x_ifeq 57 46), (46, x_aload 0 47), (47, x_getR 9 0 50), (50, x_iload 3 51), (51, x_vI o 53 8 2 54), (54, x_ifne 63 57), (57, x_aload 0 58), (58, x_const (iv 1) 59), (59, x_vI o 115 9 2 62), (62, x_iret)]
def CX9_copy_2 (o : ORC) : List (Nat × INS) := [(63, x_aload 0 64), (64, x_getR 9 0 67), (67, x_iload 1 68), (68, x_iload 2 69), (69, x_iload 5 71), (71, x_vI o 56 8 4 74), (74, x_ifeq 92 77), (77, x_aload 0 78), (78, x_getR 9 0 81), (81, x_iload 3 82), (82, x_iload 4 84), (84, x_iload 5 86), (86, x_vI o 56 8 4 89), (89, x_ifne 98 92), (92, x_aload 0 93), (93, x_const (iv 2) 94)]
def CX9_copy_3 (o : ORC) : List (Nat × INS) := [(94, x_vI o 115 9 2 97), (97, x_iret), (98, x_aload 0 99), (99, x_getR 9 0 102), (102, x_iload 1 103), (103, x_iload 2 104), (104, x_iload 3 105), (105, x_iload 4 107), (107, x_iload 5 109), (109, x_vV o 63 8 6 112), (112, x_const (iv 1) 113), (113, x_iret)]
def CX9_copy (o : ORC) : COD := [(31, CX9_copy_0 o), (63, CX9_copy_1 o), (94, CX9_copy_2 o), (114, CX9_copy_3 o)]
def CX9_mean_0 (o : ORC) : List (Nat × INS) := [(0, x_aload 0 1), (1, x_aload 0 2), (2, x_getR 9 0 5), (5, x_iload 1 6), (6, x_vI o 117 9 3 9), (9, x_istore 2 10), (10, x_iload 2 11), (11, x_ifeq 16 14), (14, x_iload 2 15), (15, x_iret), (16, x_aload 0 17), (17, x_getR 9 0 20), (20, x_iload 1 21), (21, x_vI o 54 8 2 24), (24, x_istore 3 25), (25, x_iload 3 26)]
def CX9_mean_1 (o : ORC) : List (Nat × INS) := [(26, x_const (iv 1) 27), (27, x_cge 36 30), (30, x_aload 0 31), (31, x_const (iv 4) 32), (32, x_vI o 115 9 2 35), (35, x_iret), (36, x_aload 0 37), (37, x_aload 0 38), (38, x_getR 9 0 41), (41, x_iload 1 42), (42, x_vJ o 64 8 2 45), (45, x_iload 3 46), (46, x_i2l 47), (47, x_dvl (fun x y => x / y) 48), (48, x_l2i 49), (49, x_vI o 112 9 2 52)]
def CX9_mean_2 (o : ORC) : List (Nat × INS) := [(52, x_iret)]
def CX9_mean (o : ORC) : COD := [(26, CX9_mean_0 o), (52, CX9_mean_1 o), (53, CX9_mean_2 o)]
def CX9_text_0 (o : ORC) : List (Nat × INS) := [(0, x_aload 0 1), (1, x_aload 0 2), (2, x_getR 9 1 5), (5, x_iload 1 6), (6, x_iload 2 7), (7, x_const (iv 32) 9), (9, x_vI o 116 9 5 12), (12, x_iret)]
def CX9_text (o : ORC) : COD := [(13, CX9_text_0 o)]
def CX9_put_0 (o : ORC) : List (Nat × INS) := [(0, x_aload 0 1), (1, x_aload 0 2), (2, x_getR 9 1 5), (5, x_iload 1 6), (6, x_iload 2 7), (7, x_vI o 118 9 4 10), (10, x_istore 4 12), (12, x_iload 4 14), (14, x_ifeq 20 17), (17, x_iload 4 19), (19, x_iret), (20, x_aload 0 21), (21, x_getR 9 1 24), (24, x_iload 1 25), (25, x_iload 2 26), (26, x_vI o 57 8 3 29)]
def CX9_put_1 (o : ORC) : List (Nat × INS) := [(29, x_istore 5 31), (31, x_aload 0 32), (32, x_getR 9 1 35), (35, x_iload 1 36), (36, x_iload 2 37), (37, x_iload 3 38), (38, x_un (fun x => x.toInt8.toInt32) 39), (39, x_vV o 58 8 4 42), (42, x_iload 5 44), (44, x_const (iv 1000) 47), (47, x_bin (fun x y => x + y) 48), (48, x_iret)]
def CX9_put (o : ORC) : COD := [(29, CX9_put_0 o), (49, CX9_put_1 o)]
def CX9_fault_0 (o : ORC) : List (Nat × INS) := [(0, x_aload 0 1), (1, x_aload 0 2), (2, x_getR 9 1 5), (5, x_iload 1 6), (6, x_vI o 117 9 3 9), (9, x_istore 2 10), (10, x_iload 2 11), (11, x_ifeq 18 14), (14, x_iload 2 15), (15, x_goto 23), (18, x_aload 0 19), (19, x_iload 1 20), (20, x_vI o 129 9 2 23), (23, x_iret)]
def CX9_fault (o : ORC) : COD := [(24, CX9_fault_0 o)]
def CX9_river_0 (o : ORC) : List (Nat × INS) := [(0, x_aload 0 1), (1, x_aload 0 2), (2, x_getR 9 1 5), (5, x_iload 1 6), (6, x_vI o 117 9 3 9), (9, x_istore 2 10), (10, x_iload 2 11), (11, x_ifeq 16 14), (14, x_iload 2 15), (15, x_iret), (16, x_aload 0 17), (17, x_iload 1 18), (18, x_vI o 129 9 2 21), (21, x_const (iv (-9)) 23), (23, x_ceq 29 26), (26, x_const (iv (-4)) 28)]
def CX9_river_1 (o : ORC) : List (Nat × INS) := [(28, x_iret), (29, x_aload 0 30), (30, x_getR 9 11 33), (33, x_astore 3 34), (34, x_aload 0 35), (35, x_aload 0 36), (36, x_getR 9 12 39), (39, x_putC 42), (42, x_aload 0 43), (43, x_aload 3 44), (44, x_putD 47), (47, x_aload 0 48), (48, x_getR 9 4 51), (51, x_const (iv 0) 52), (52, x_vV o 27 3 2 55), (55, x_const (iv 0) 56)]
def CX9_river_2 (o : ORC) : List (Nat × INS) := [(56, x_istore 4 58), (58, x_iload 4 60), (60, x_const (iv 3) 61), (61, x_cge 78 64), (64, x_aload 0 65), (65, x_getR 9 6 68), (68, x_iload 4 70), (70, x_const (iv 0) 71), (71, x_zast 72), (72, x_iinc 4 1 75), (75, x_goto 58), (78, x_aload 0 79), (79, x_vV o 128 9 1 82), (82, x_aload 0 83), (83, x_getR 9 11 86), (86, x_getI 2 0 89)]
def CX9_river_3 (o : ORC) : List (Nat × INS) := [(89, x_iret)]
def CX9_river (o : ORC) : COD := [(28, CX9_river_0 o), (56, CX9_river_1 o), (89, CX9_river_2 o), (90, CX9_river_3 o)]
def CX9_reach_0 (o : ORC) : List (Nat × INS) := [(0, x_aload 0 1), (1, x_getR 9 11 4), (4, x_iload 1 5), (5, x_vI o 16 2 2 8), (8, x_ifeq 20 11), (11, x_iload 2 12), (12, x_iflt 20 15), (15, x_iload 2 16), (16, x_const (iv 4) 17), (17, x_cle 22 20), (20, x_const (iv (-1)) 21), (21, x_iret), (22, x_aload 0 23), (23, x_aload 0 24), (24, x_iload 1 25), (25, x_iload 2 26)]
def CX9_reach_1 (o : ORC) : List (Nat × INS) := [(26, x_vI o 133 9 3 29), (29, x_vI o 112 9 2 32), (32, x_iret)]
def CX9_reach (o : ORC) : COD := [(26, CX9_reach_0 o), (33, CX9_reach_1 o)]
def CX9_mark_0 (o : ORC) : List (Nat × INS) := [(0, x_aload 0 1), (1, x_getR 9 11 4), (4, x_iload 1 5), (5, x_vI o 16 2 2 8), (8, x_ifeq 21 11), (11, x_iload 2 12), (12, x_const (iv 1) 13), (13, x_clt 21 16), (16, x_iload 2 17), (17, x_const (iv 5) 18), (18, x_cle 23 21), (21, x_const (iv (-1)) 22), (22, x_iret), (23, x_aload 0 24), (24, x_getR 9 11 27), (27, x_getR 2 4 30)]
def CX9_mark_1 (o : ORC) : List (Nat × INS) := [(30, x_iload 1 31), (31, x_ald 0 32), (32, x_iload 2 33), (33, x_sI o 40 2 36), (36, x_ifne 45 39), (39, x_aload 0 40), (40, x_const (iv 3) 41), (41, x_vI o 115 9 2 44), (44, x_iret), (45, x_iload 2 46), (46, x_aload 0 47), (47, x_getR 9 11 50), (50, x_getR 2 5 53), (53, x_iload 1 54), (54, x_ald 0 55), (55, x_aload 0 56)]
def CX9_mark_2 (o : ORC) : List (Nat × INS) := [(56, x_getR 9 3 59), (59, x_getR 4 0 62), (62, x_iload 1 63), (63, x_ald 0 64), (64, x_sI o 44 3 67), (67, x_iret)]
def CX9_mark (o : ORC) : COD := [(30, CX9_mark_0 o), (56, CX9_mark_1 o), (68, CX9_mark_2 o)]
def CX9_weekday_0 (o : ORC) : List (Nat × INS) := [(0, x_iload 1 1), (1, x_sI o 124 1 4), (4, x_ifeq 16 7), (7, x_iload 2 8), (8, x_iflt 16 11), (11, x_iload 2 12), (12, x_const (iv 1) 13), (13, x_cle 18 16), (16, x_const (iv (-1)) 17), (17, x_iret), (18, x_aload 0 19), (19, x_getR 9 11 22), (22, x_getI 2 0 25), (25, x_ifne 31 28), (28, x_const (iv (-4)) 30), (30, x_iret)]
def CX9_weekday_1 (o : ORC) : List (Nat × INS) := [(31, x_iload 2 32), (32, x_ifne 47 35), (35, x_aload 0 36), (36, x_getR 9 11 39), (39, x_getR 2 7 42), (42, x_iload 1 43), (43, x_ald 0 44), (44, x_goto 56), (47, x_aload 0 48), (48, x_getR 9 11 51), (51, x_getR 2 8 54), (54, x_iload 1 55), (55, x_ald 0 56), (56, x_iret)]
def CX9_weekday (o : ORC) : COD := [(31, CX9_weekday_0 o), (57, CX9_weekday_1 o)]
def CX9_swap_0 (o : ORC) : List (Nat × INS) := [(0, x_iload 1 1), (1, x_sI o 124 1 4), (4, x_ifeq 19 7), (7, x_iload 2 8), (8, x_sI o 124 1 11), (11, x_ifeq 19 14), (14, x_iload 1 15), (15, x_iload 2 16), (16, x_cne 21 19), (19, x_const (iv (-1)) 20), (20, x_iret), (21, x_aload 0 22), (22, x_getR 9 11 25), (25, x_getI 2 0 28), (28, x_ifne 34 31), (31, x_const (iv (-4)) 33)]
def CX9_swap_1 (o : ORC) : List (Nat × INS) := [(33, x_iret), (34, x_aload 0 35), (35, x_getR 9 11 38), (38, x_getR 2 8 41), (41, x_iload 1 42), (42, x_ald 0 43), (43, x_istore 3 44), (44, x_aload 0 45), (45, x_getR 9 11 48), (48, x_getR 2 8 51), (51, x_iload 1 52), (52, x_aload 0 53), (53, x_getR 9 11 56), (56, x_getR 2 8 59), (59, x_iload 2 60), (60, x_ald 0 61)]
def CX9_swap_2 (o : ORC) : List (Nat × INS) := [(61, x_iast 62), (62, x_aload 0 63), (63, x_getR 9 11 66), (66, x_getR 2 8 69), (69, x_iload 2 70), (70, x_iload 3 71), (71, x_iast 72), (72, x_const (iv 1) 73), (73, x_iret)]
def CX9_swap (o : ORC) : COD := [(33, CX9_swap_0 o), (61, CX9_swap_1 o), (74, CX9_swap_2 o)]
def CX9_owns_0 (o : ORC) : List (Nat × INS) := [(0, x_iload 1 1), (1, x_sI o 125 1 4), (4, x_ifeq 19 7), (7, x_aload 0 8), (8, x_getR 9 3 11), (11, x_getR 4 3 14), (14, x_iload 1 15), (15, x_ald 0 16), (16, x_goto 20), (19, x_const (iv (-1)) 20), (20, x_iret)]
def CX9_owns (o : ORC) : COD := [(21, CX9_owns_0 o)]
def CX9_day_0 (o : ORC) : List (Nat × INS) := [(0, x_aload 0 1), (1, x_getR 9 11 4), (4, x_iload 1 5), (5, x_vI o 17 2 2 8), (8, x_ifne 13 11), (11, x_const (iv (-1)) 12), (12, x_iret), (13, x_aload 0 14), (14, x_getR 9 11 17), (17, x_getI 2 0 20), (20, x_ifne 26 23), (23, x_const (iv (-4)) 25), (25, x_iret), (26, x_aload 0 27), (27, x_getR 9 4 30), (30, x_getI 3 0 33)]
def CX9_day_1 (o : ORC) : List (Nat × INS) := [(33, x_const (iv 40) 35), (35, x_clt 41 38), (38, x_const (iv (-2)) 40), (40, x_iret), (41, x_aload 0 42), (42, x_iload 1 43), (43, x_vI o 127 9 2 46), (46, x_iret)]
def CX9_day (o : ORC) : COD := [(33, CX9_day_0 o), (47, CX9_day_1 o)]
def CX9_undo_0 (o : ORC) : List (Nat × INS) := [(0, x_iload 1 1), (1, x_iflt 15 4), (4, x_iload 1 5), (5, x_aload 0 6), (6, x_getR 9 4 9), (9, x_getI 3 0 12), (12, x_cle 17 15), (15, x_const (iv (-1)) 16), (16, x_iret), (17, x_aload 0 18), (18, x_getR 9 4 21), (21, x_getI 3 0 24), (24, x_iload 1 25), (25, x_bin (fun x y => x - y) 26), (26, x_istore 2 27), (27, x_aload 0 28)]
def CX9_undo_1 (o : ORC) : List (Nat × INS) := [(28, x_getR 9 4 31), (31, x_iload 1 32), (32, x_vV o 27 3 2 35), (35, x_aload 0 36), (36, x_vV o 128 9 1 39), (39, x_iload 2 40), (40, x_iret)]
def CX9_undo (o : ORC) : COD := [(28, CX9_undo_0 o), (41, CX9_undo_1 o)]
def CX9_keep_0 (o : ORC) : List (Nat × INS) := [(0, x_iload 1 1), (1, x_iflt 9 4), (4, x_iload 1 5), (5, x_const (iv 3) 6), (6, x_clt 11 9), (9, x_const (iv (-1)) 10), (10, x_iret), (11, x_aload 0 12), (12, x_getR 9 11 15), (15, x_getI 2 0 18), (18, x_ifne 24 21), (21, x_const (iv (-4)) 23), (23, x_iret), (24, x_aload 0 25), (25, x_getR 9 5 28), (28, x_iload 1 29)]
def CX9_keep_1 (o : ORC) : List (Nat × INS) := [(29, x_aald 3 30), (30, x_aload 0 31), (31, x_getR 9 4 34), (34, x_vV o 28 3 2 37), (37, x_aload 0 38), (38, x_getR 9 6 41), (41, x_iload 1 42), (42, x_const (iv 1) 43), (43, x_zast 44), (44, x_aload 0 45), (45, x_getR 9 4 48), (48, x_getI 3 0 51), (51, x_iret)]
def CX9_keep (o : ORC) : COD := [(29, CX9_keep_0 o), (52, CX9_keep_1 o)]
def CX9_on_0 (o : ORC) : List (Nat × INS) := [(0, x_iload 1 1), (1, x_iflt 9 4), (4, x_iload 1 5), (5, x_const (iv 3) 6), (6, x_clt 11 9), (9, x_const (iv (-1)) 10), (10, x_iret), (11, x_aload 0 12), (12, x_getR 9 6 15), (15, x_iload 1 16), (16, x_ald 1 17), (17, x_ifne 26 20), (20, x_aload 0 21), (21, x_const (iv 1) 22), (22, x_vI o 115 9 2 25), (25, x_iret)]
def CX9_on_1 (o : ORC) : List (Nat × INS) := [(26, x_aload 0 27), (27, x_getR 9 4 30), (30, x_aload 0 31), (31, x_getR 9 5 34), (34, x_iload 1 35), (35, x_aald 3 36), (36, x_vV o 28 3 2 39), (39, x_aload 0 40), (40, x_vV o 128 9 1 43), (43, x_aload 0 44), (44, x_getR 9 4 47), (47, x_getI 3 0 50), (50, x_iret)]
def CX9_on (o : ORC) : COD := [(26, CX9_on_0 o), (51, CX9_on_1 o)]
def CX9_gates_0 (o : ORC) : List (Nat × INS) := [(0, x_aload 0 1), (1, x_getR 9 11 4), (4, x_getI 2 1 7), (7, x_iret)]
def CX9_gates (o : ORC) : COD := [(8, CX9_gates_0 o)]
def CX9_runs_0 (o : ORC) : List (Nat × INS) := [(0, x_aload 0 1), (1, x_getR 9 11 4), (4, x_iload 1 5), (5, x_vI o 17 2 2 8), (8, x_ifne 13 11), (11, x_const (iv (-1)) 12), (12, x_iret), (13, x_aload 0 14), (14, x_getR 9 11 17), (17, x_getI 2 0 20), (20, x_ifne 26 23), (23, x_const (iv (-4)) 25), (25, x_iret), (26, x_aload 0 27), (27, x_getR 9 7 30), (30, x_aload 0 31)]
def CX9_runs_1 (o : ORC) : List (Nat × INS) := [(31, x_getR 9 3 34), (34, x_getR 4 0 37), (37, x_aload 0 38), (38, x_getR 9 4 41), (41, x_getI 3 0 44), (44, x_vV o 4 0 3 47), (47, x_aload 0 48), (48, x_getR 9 7 51), (51, x_aload 0 52), (52, x_getR 9 11 55), (55, x_const (iv 0) 56), (56, x_iload 1 57), (57, x_vV o 5 0 4 60), (60, x_aload 0 61), (61, x_aload 0 62), (62, x_getR 9 7 65)]
def CX9_runs_2 (o : ORC) : List (Nat × INS) := [(65, x_getI 0 2 68), (68, x_vI o 112 9 2 71), (71, x_pop 72), (72, x_aload 0 73), (73, x_getR 9 7 76), (76, x_getI 0 1 79), (79, x_iret)]
def CX9_runs (o : ORC) : COD := [(31, CX9_runs_0 o), (65, CX9_runs_1 o), (80, CX9_runs_2 o)]
def CX9_sea_0 (o : ORC) : List (Nat × INS) := [(0, x_aload 0 1), (1, x_const (iv 1) 2), (2, x_iload 1 3), (3, x_const (iv 12) 5), (5, x_vI o 121 9 4 8), (8, x_istore 2 9), (9, x_iload 2 10), (10, x_ifeq 15 13), (13, x_iload 2 14), (14, x_iret), (15, x_aload 0 16), (16, x_iload 1 17), (17, x_vV o 130 9 2 20), (20, x_aload 0 21), (21, x_aload 0 22), (22, x_getR 9 7 25)]
def CX9_sea_1 (o : ORC) : List (Nat × INS) := [(25, x_getI 0 4 28), (28, x_vI o 112 9 2 31), (31, x_pop 32), (32, x_aload 0 33), (33, x_getR 9 7 36), (36, x_getI 0 3 39), (39, x_iret)]
def CX9_sea (o : ORC) : COD := [(25, CX9_sea_0 o), (40, CX9_sea_1 o)]
def CX9_water_0 (o : ORC) : List (Nat × INS) := [(0, x_aload 0 1), (1, x_aload 0 2), (2, x_getR 9 11 5), (5, x_iload 1 6), (6, x_vI o 16 2 2 9), (9, x_iload 2 10), (10, x_const (iv 12) 12), (12, x_vI o 121 9 4 15), (15, x_istore 3 16), (16, x_iload 3 17), (17, x_ifeq 22 20), (20, x_iload 3 21), (21, x_iret), (22, x_aload 0 23), (23, x_iload 2 24), (24, x_vV o 130 9 2 27)]
def CX9_water_1 (o : ORC) : List (Nat × INS) := [(27, x_aload 0 28), (28, x_getR 9 7 31), (31, x_iload 1 32), (32, x_vI o 8 0 2 35), (35, x_iret)]
def CX9_water (o : ORC) : COD := [(27, CX9_water_0 o), (36, CX9_water_1 o)]
def CX9_share_0 (o : ORC) : List (Nat × INS) := [(0, x_aload 0 1), (1, x_iload 1 2), (2, x_sI o 125 1 5), (5, x_iload 2 6), (6, x_const (iv 12) 8), (8, x_vI o 121 9 4 11), (11, x_istore 3 12), (12, x_iload 3 13), (13, x_ifeq 18 16), (16, x_iload 3 17), (17, x_iret), (18, x_aload 0 19), (19, x_iload 2 20), (20, x_vV o 130 9 2 23), (23, x_aload 0 24), (24, x_getR 9 7 27)]
def CX9_share_1 (o : ORC) : List (Nat × INS) := [(27, x_getR 0 5 30), (30, x_iload 1 31), (31, x_ald 0 32), (32, x_iret)]
def CX9_share (o : ORC) : COD := [(27, CX9_share_0 o), (33, CX9_share_1 o)]
def CX9_grinds_0 (o : ORC) : List (Nat × INS) := [(0, x_aload 0 1), (1, x_getR 9 11 4), (4, x_iload 1 5), (5, x_vI o 16 2 2 8), (8, x_ifne 13 11), (11, x_const (iv (-1)) 12), (12, x_iret), (13, x_aload 0 14), (14, x_getR 9 7 17), (17, x_aload 0 18), (18, x_getR 9 3 21), (21, x_getR 4 0 24), (24, x_aload 0 25), (25, x_getR 9 4 28), (28, x_getI 3 0 31), (31, x_vV o 4 0 3 34)]
def CX9_grinds_1 (o : ORC) : List (Nat × INS) := [(34, x_const (iv 0) 35), (35, x_istore 2 36), (36, x_iload 2 37), (37, x_const (iv 40) 39), (39, x_cge 79 42), (42, x_aload 0 43), (43, x_getR 9 7 46), (46, x_aload 0 47), (47, x_getR 9 11 50), (50, x_iload 2 51), (51, x_const (iv 0) 52), (52, x_vV o 5 0 4 55), (55, x_aload 0 56), (56, x_getR 9 7 59), (59, x_getI 0 2 62), (62, x_iload 1 63)]
def CX9_grinds_2 (o : ORC) : List (Nat × INS) := [(63, x_bin (fun x y => x >>> (y &&& 31)) 64), (64, x_const (iv 1) 65), (65, x_bin (fun x y => x &&& y) 66), (66, x_ifeq 73 69), (69, x_iload 2 70), (70, x_const (iv 1) 71), (71, x_bin (fun x y => x + y) 72), (72, x_iret), (73, x_iinc 2 1 76), (76, x_goto 36), (79, x_const (iv (-9)) 81), (81, x_iret)]
def CX9_grinds (o : ORC) : COD := [(34, CX9_grinds_0 o), (63, CX9_grinds_1 o), (82, CX9_grinds_2 o)]
def CX9_best_0 (o : ORC) : List (Nat × INS) := [(0, x_aload 0 1), (1, x_aload 0 2), (2, x_getR 9 0 5), (5, x_iload 2 6), (6, x_vI o 52 8 2 9), (9, x_iload 1 10), (10, x_const (iv 4) 11), (11, x_vI o 119 9 4 14), (14, x_istore 3 15), (15, x_iload 3 16), (16, x_ifeq 21 19), (19, x_iload 3 20), (20, x_iret), (21, x_aload 0 22), (22, x_getR 9 8 25), (25, x_aload 0 26)]
def CX9_best_1 (o : ORC) : List (Nat × INS) := [(26, x_getR 9 11 29), (29, x_aload 0 30), (30, x_getR 9 3 33), (33, x_getR 4 0 36), (36, x_aload 0 37), (37, x_getR 9 4 40), (40, x_getI 3 0 43), (43, x_const (iv 0) 44), (44, x_iload 1 45), (45, x_vV o 31 5 6 48), (48, x_aload 0 49), (49, x_getR 9 0 52), (52, x_iload 2 53), (53, x_aload 0 54), (54, x_getR 9 8 57), (57, x_getR 5 1 60)]
def CX9_best_2 (o : ORC) : List (Nat × INS) := [(60, x_iload 1 61), (61, x_vV o 60 8 4 64), (64, x_aload 0 65), (65, x_getR 9 8 68), (68, x_getI 5 5 71), (71, x_iret)]
def CX9_best (o : ORC) : COD := [(26, CX9_best_0 o), (60, CX9_best_1 o), (72, CX9_best_2 o)]
def CX9_all_0 (o : ORC) : List (Nat × INS) := [(0, x_aload 0 1), (1, x_aload 0 2), (2, x_getR 9 0 5), (5, x_iload 2 6), (6, x_vI o 52 8 2 9), (9, x_iload 1 10), (10, x_const (iv 4) 11), (11, x_vI o 119 9 4 14), (14, x_istore 3 15), (15, x_iload 3 16), (16, x_ifeq 21 19), (19, x_iload 3 20), (20, x_iret), (21, x_aload 0 22), (22, x_getR 9 8 25), (25, x_aload 0 26)]
def CX9_all_1 (o : ORC) : List (Nat × INS) := [(26, x_getR 9 11 29), (29, x_aload 0 30), (30, x_getR 9 3 33), (33, x_getR 4 0 36), (36, x_aload 0 37), (37, x_getR 9 4 40), (40, x_getI 3 0 43), (43, x_const (iv 1) 44), (44, x_iload 1 45), (45, x_vV o 31 5 6 48), (48, x_aload 0 49), (49, x_getR 9 8 52), (52, x_getI 5 4 55), (55, x_ifne 61 58), (58, x_const (iv (-9)) 60), (60, x_iret)]
def CX9_all_2 (o : ORC) : List (Nat × INS) := [(61, x_aload 0 62), (62, x_getR 9 0 65), (65, x_iload 2 66), (66, x_aload 0 67), (67, x_getR 9 8 70), (70, x_getR 5 1 73), (73, x_iload 1 74), (74, x_vV o 60 8 4 77), (77, x_aload 0 78), (78, x_getR 9 8 81), (81, x_getI 5 5 84), (84, x_un (fun x => -x) 85), (85, x_iret)]
def CX9_all (o : ORC) : COD := [(26, CX9_all_0 o), (61, CX9_all_1 o), (86, CX9_all_2 o)]
def CX9_most_0 (o : ORC) : List (Nat × INS) := [(0, x_aload 0 1), (1, x_iload 1 2), (2, x_sI o 125 1 5), (5, x_iload 2 6), (6, x_const (iv 4) 7), (7, x_vI o 119 9 4 10), (10, x_istore 3 11), (11, x_iload 3 12), (12, x_ifeq 17 15), (15, x_iload 3 16), (16, x_iret), (17, x_aload 0 18), (18, x_getR 9 8 21), (21, x_iload 1 22), (22, x_putI 5 2 25), (25, x_aload 0 26)]
def CX9_most_1 (o : ORC) : List (Nat × INS) := [(26, x_getR 9 8 29), (29, x_aload 0 30), (30, x_getR 9 11 33), (33, x_aload 0 34), (34, x_getR 9 3 37), (37, x_getR 4 0 40), (40, x_aload 0 41), (41, x_getR 9 4 44), (44, x_getI 3 0 47), (47, x_const (iv 2) 48), (48, x_iload 2 49), (49, x_vV o 31 5 6 52), (52, x_aload 0 53), (53, x_getR 9 8 56), (56, x_getI 5 5 59), (59, x_iret)]
def CX9_most (o : ORC) : COD := [(26, CX9_most_0 o), (60, CX9_most_1 o)]
def CX9_worth_0 (o : ORC) : List (Nat × INS) := [(0, x_aload 0 1), (1, x_const (iv 1) 2), (2, x_iload 1 3), (3, x_const (iv 20) 5), (5, x_vI o 119 9 4 8), (8, x_istore 2 9), (9, x_iload 2 10), (10, x_ifeq 15 13), (13, x_iload 2 14), (14, x_iret), (15, x_aload 0 16), (16, x_const (iv 0) 17), (17, x_iload 1 18), (18, x_vI o 131 9 3 21), (21, x_istore 3 22), (22, x_const (iv 0) 23)]
def CX9_worth_1 (o : ORC) : List (Nat × INS) := [(23, x_istore 4 25), (25, x_const (iv 1) 26), (26, x_istore 5 28), (28, x_iload 5 30), (30, x_const (iv 7) 32), (32, x_cge 63 35), (35, x_aload 0 36), (36, x_iload 5 38), (38, x_iload 1 39), (39, x_vI o 131 9 3 42), (42, x_istore 6 44), (44, x_iload 6 46), (46, x_iload 3 47), (47, x_cge 57 50), (50, x_iload 6 52), (52, x_istore 3 53)]
def CX9_worth_2 (o : ORC) : List (Nat × INS) := [(53, x_iload 5 55), (55, x_istore 4 57), (57, x_iinc 5 1 60), (60, x_goto 28), (63, x_aload 0 64), (64, x_iload 3 65), (65, x_vI o 112 9 2 68), (68, x_pop 69), (69, x_iload 4 71), (71, x_iret)]
def CX9_worth (o : ORC) : COD := [(23, CX9_worth_0 o), (53, CX9_worth_1 o), (72, CX9_worth_2 o)]
def CX9_duel_0 (o : ORC) : List (Nat × INS) := [(0, x_aload 0 1), (1, x_const (iv 1) 2), (2, x_iload 1 3), (3, x_const (iv 3) 4), (4, x_vI o 119 9 4 7), (7, x_istore 2 8), (8, x_iload 2 9), (9, x_ifeq 14 12), (12, x_iload 2 13), (13, x_iret), (14, x_aload 0 15), (15, x_getR 9 8 18), (18, x_aload 0 19), (19, x_getR 9 11 22), (22, x_aload 0 23), (23, x_getR 9 3 26)]
def CX9_duel_1 (o : ORC) : List (Nat × INS) := [(26, x_getR 4 0 29), (29, x_aload 0 30), (30, x_getR 9 4 33), (33, x_getI 3 0 36), (36, x_iload 1 37), (37, x_vI o 37 5 5 40), (40, x_iret)]
def CX9_duel (o : ORC) : COD := [(26, CX9_duel_0 o), (41, CX9_duel_1 o)]
def CX9_ways_0 (o : ORC) : List (Nat × INS) := [(0, x_aload 0 1), (1, x_const (iv 1) 2), (2, x_iload 1 3), (3, x_vI o 122 9 3 6), (6, x_istore 2 7), (7, x_iload 2 8), (8, x_ifeq 13 11), (11, x_iload 2 12), (12, x_iret), (13, x_aload 0 14), (14, x_getR 9 0 17), (17, x_iload 1 18), (18, x_aload 0 19), (19, x_getR 9 8 22), (22, x_getR 5 0 25), (25, x_vV o 61 8 3 28)]
def CX9_ways_1 (o : ORC) : List (Nat × INS) := [(28, x_aload 0 29), (29, x_getR 9 8 32), (32, x_aload 0 33), (33, x_getR 9 11 36), (36, x_aload 0 37), (37, x_getR 9 3 40), (40, x_getR 4 0 43), (43, x_aload 0 44), (44, x_getR 9 4 47), (47, x_getI 3 0 50), (50, x_const (iv 3) 51), (51, x_aload 0 52), (52, x_getR 9 0 55), (55, x_iload 1 56), (56, x_vI o 54 8 2 59), (59, x_vV o 31 5 6 62)]
def CX9_ways_2 (o : ORC) : List (Nat × INS) := [(62, x_aload 0 63), (63, x_aload 0 64), (64, x_getR 9 8 67), (67, x_getI 5 4 70), (70, x_i2l 71), (71, x_const (jv 1) 72), (72, x_vV o 113 9 3 75), (75, x_aload 0 76), (76, x_aload 0 77), (77, x_getR 9 8 80), (80, x_getI 5 6 83), (83, x_vI o 112 9 2 86), (86, x_iret)]
def CX9_ways (o : ORC) : COD := [(28, CX9_ways_0 o), (62, CX9_ways_1 o), (87, CX9_ways_2 o)]
def CX9_first_0 (o : ORC) : List (Nat × INS) := [(0, x_aload 0 1), (1, x_aload 0 2), (2, x_getR 9 0 5), (5, x_iload 2 6), (6, x_vI o 52 8 2 9), (9, x_iload 1 10), (10, x_vI o 122 9 3 13), (13, x_istore 3 14), (14, x_iload 3 15), (15, x_ifeq 20 18), (18, x_iload 3 19), (19, x_iret), (20, x_aload 0 21), (21, x_getR 9 0 24), (24, x_iload 1 25), (25, x_aload 0 26)]
def CX9_first_1 (o : ORC) : List (Nat × INS) := [(26, x_getR 9 8 29), (29, x_getR 5 0 32), (32, x_vV o 61 8 3 35), (35, x_aload 0 36), (36, x_getR 9 8 39), (39, x_aload 0 40), (40, x_getR 9 11 43), (43, x_aload 0 44), (44, x_getR 9 3 47), (47, x_getR 4 0 50), (50, x_aload 0 51), (51, x_getR 9 4 54), (54, x_getI 3 0 57), (57, x_const (iv 3) 58), (58, x_aload 0 59), (59, x_getR 9 0 62)]
def CX9_first_2 (o : ORC) : List (Nat × INS) := [(62, x_iload 1 63), (63, x_vI o 54 8 2 66), (66, x_vV o 31 5 6 69), (69, x_aload 0 70), (70, x_getR 9 8 73), (73, x_getI 5 4 76), (76, x_ifne 82 79), (79, x_const (iv (-9)) 81), (81, x_iret), (82, x_aload 0 83), (83, x_getR 9 0 86), (86, x_iload 2 87), (87, x_aload 0 88), (88, x_getR 9 8 91), (91, x_getR 5 1 94), (94, x_aload 0 95)]
def CX9_first_3 (o : ORC) : List (Nat × INS) := [(95, x_getR 9 8 98), (98, x_getI 5 3 101), (101, x_vV o 60 8 4 104), (104, x_aload 0 105), (105, x_getR 9 8 108), (108, x_vI o 36 5 1 111), (111, x_iret)]
def CX9_first (o : ORC) : COD := [(26, CX9_first_0 o), (62, CX9_first_1 o), (95, CX9_first_2 o), (112, CX9_first_3 o)]
def CX9_kinds_0 (o : ORC) : List (Nat × INS) := [(0, x_aload 0 1), (1, x_iload 1 2), (2, x_iload 2 3), (3, x_vI o 123 9 3 6), (6, x_istore 3 7), (7, x_iload 3 8), (8, x_ifeq 13 11), (11, x_iload 3 12), (12, x_iret), (13, x_const (iv 0) 14), (14, x_istore 4 16), (16, x_const (iv 0) 17), (17, x_istore 5 19), (19, x_iload 5 21), (21, x_const (iv 5) 22), (22, x_cgt 68 25)]
def CX9_kinds_1 (o : ORC) : List (Nat × INS) := [(25, x_aload 0 26), (26, x_iload 5 28), (28, x_aload 0 29), (29, x_getR 9 11 32), (32, x_getR 2 5 35), (35, x_iload 1 36), (36, x_ald 0 37), (37, x_aload 0 38), (38, x_getR 9 3 41), (41, x_getR 4 0 44), (44, x_iload 1 45), (45, x_ald 0 46), (46, x_iload 2 47), (47, x_vI o 132 9 5 50), (50, x_ifeq 62 53), (53, x_iload 4 55)]
def CX9_kinds_2 (o : ORC) : List (Nat × INS) := [(55, x_const (iv 1) 56), (56, x_iload 5 58), (58, x_bin (fun x y => x <<< (y &&& 31)) 59), (59, x_bin (fun x y => x ||| y) 60), (60, x_istore 4 62), (62, x_iinc 5 1 65), (65, x_goto 19), (68, x_iload 4 70), (70, x_iret)]
def CX9_kinds (o : ORC) : COD := [(25, CX9_kinds_0 o), (55, CX9_kinds_1 o), (71, CX9_kinds_2 o)]
def CX9_measures_0 (o : ORC) : List (Nat × INS) := [(0, x_aload 0 1), (1, x_iload 1 2), (2, x_iload 2 3), (3, x_vI o 123 9 3 6), (6, x_istore 3 7), (7, x_iload 3 8), (8, x_ifeq 13 11), (11, x_iload 3 12), (12, x_iret), (13, x_const (iv 0) 14), (14, x_istore 4 16), (16, x_const (iv 1) 17), (17, x_istore 5 19), (19, x_iload 5 21), (21, x_const (iv 9) 23), (23, x_cgt 69 26)]
def CX9_measures_1 (o : ORC) : List (Nat × INS) := [(26, x_aload 0 27), (27, x_aload 0 28), (28, x_getR 9 11 31), (31, x_getR 2 4 34), (34, x_iload 1 35), (35, x_ald 0 36), (36, x_iload 5 38), (38, x_aload 0 39), (39, x_getR 9 3 42), (42, x_getR 4 0 45), (45, x_iload 1 46), (46, x_ald 0 47), (47, x_iload 2 48), (48, x_vI o 132 9 5 51), (51, x_ifeq 63 54), (54, x_iload 4 56)]
def CX9_measures_2 (o : ORC) : List (Nat × INS) := [(56, x_const (iv 1) 57), (57, x_iload 5 59), (59, x_bin (fun x y => x <<< (y &&& 31)) 60), (60, x_bin (fun x y => x ||| y) 61), (61, x_istore 4 63), (63, x_iinc 5 1 66), (66, x_goto 19), (69, x_iload 4 71), (71, x_iret)]
def CX9_measures (o : ORC) : COD := [(26, CX9_measures_0 o), (56, CX9_measures_1 o), (72, CX9_measures_2 o)]
def CX9_mid_0 (o : ORC) : List (Nat × INS) := [(0, x_aload 0 1), (1, x_iload 2 2), (2, x_sI o 126 1 5), (5, x_iload 1 6), (6, x_const (iv 4) 7), (7, x_vI o 121 9 4 10), (10, x_istore 3 11), (11, x_iload 3 12), (12, x_ifeq 17 15), (15, x_iload 3 16), (16, x_iret), (17, x_aload 0 18), (18, x_getR 9 0 21), (21, x_iload 1 22), (22, x_aload 0 23), (23, x_getR 9 9 26)]
def CX9_mid_1 (o : ORC) : List (Nat × INS) := [(26, x_getR 1 0 29), (29, x_vV o 61 8 3 32), (32, x_aload 0 33), (33, x_getR 9 9 36), (36, x_aload 0 37), (37, x_getR 9 11 40), (40, x_aload 0 41), (41, x_getR 9 3 44), (44, x_getR 4 0 47), (47, x_aload 0 48), (48, x_getR 9 4 51), (51, x_getI 3 0 54), (54, x_aload 0 55), (55, x_getR 9 0 58), (58, x_iload 1 59), (59, x_vI o 54 8 2 62)]
def CX9_mid_2 (o : ORC) : List (Nat × INS) := [(62, x_const (iv 0) 63), (63, x_iload 2 64), (64, x_vV o 11 1 7 67), (67, x_aload 0 68), (68, x_aload 0 69), (69, x_getR 9 9 72), (72, x_getJ 1 1 75), (75, x_aload 0 76), (76, x_getR 9 9 79), (79, x_getJ 1 3 82), (82, x_vV o 113 9 3 85), (85, x_const (iv 1) 86), (86, x_iret)]
def CX9_mid (o : ORC) : COD := [(26, CX9_mid_0 o), (62, CX9_mid_1 o), (87, CX9_mid_2 o)]
def CX9_odds_0 (o : ORC) : List (Nat × INS) := [(0, x_aload 0 1), (1, x_iload 3 2), (2, x_sI o 126 1 5), (5, x_ifeq 22 8), (8, x_iload 2 9), (9, x_iflt 22 12), (12, x_iload 2 13), (13, x_const (iv 99) 15), (15, x_cgt 22 18), (18, x_const (iv 1) 19), (19, x_goto 23), (22, x_const (iv 0) 23), (23, x_iload 1 24), (24, x_const (iv 4) 25), (25, x_vI o 121 9 4 28), (28, x_istore 4 30)]
def CX9_odds_1 (o : ORC) : List (Nat × INS) := [(30, x_iload 4 32), (32, x_ifeq 38 35), (35, x_iload 4 37), (37, x_iret), (38, x_aload 0 39), (39, x_getR 9 0 42), (42, x_iload 1 43), (43, x_aload 0 44), (44, x_getR 9 9 47), (47, x_getR 1 0 50), (50, x_vV o 61 8 3 53), (53, x_aload 0 54), (54, x_getR 9 9 57), (57, x_aload 0 58), (58, x_getR 9 11 61), (61, x_aload 0 62)]
def CX9_odds_2 (o : ORC) : List (Nat × INS) := [(62, x_getR 9 3 65), (65, x_getR 4 0 68), (68, x_aload 0 69), (69, x_getR 9 4 72), (72, x_getI 3 0 75), (75, x_aload 0 76), (76, x_getR 9 0 79), (79, x_iload 1 80), (80, x_vI o 54 8 2 83), (83, x_iload 2 84), (84, x_iload 3 85), (85, x_vV o 11 1 7 88), (88, x_aload 0 89), (89, x_aload 0 90), (90, x_getR 9 9 93), (93, x_getJ 1 2 96)]
def CX9_odds_3 (o : ORC) : List (Nat × INS) := [(96, x_aload 0 97), (97, x_getR 9 9 100), (100, x_getJ 1 3 103), (103, x_vV o 113 9 3 106), (106, x_const (iv 1) 107), (107, x_iret)]
def CX9_odds (o : ORC) : COD := [(30, CX9_odds_0 o), (62, CX9_odds_1 o), (96, CX9_odds_2 o), (108, CX9_odds_3 o)]
def CX9_lots_0 (o : ORC) : List (Nat × INS) := [(0, x_iload 1 1), (1, x_const (iv 1) 2), (2, x_clt 25 5), (5, x_iload 1 6), (6, x_const (iv 20) 8), (8, x_cgt 25 11), (11, x_iload 2 12), (12, x_const (iv 1) 13), (13, x_clt 25 16), (16, x_iload 2 17), (17, x_i2l 18), (18, x_const (jv 2147483647) 21), (21, x_lcmp 22), (22, x_iflt 27 25), (25, x_const (iv (-1)) 26), (26, x_iret)]
def CX9_lots_1 (o : ORC) : List (Nat × INS) := [(27, x_aload 0 28), (28, x_getR 9 11 31), (31, x_getI 2 0 34), (34, x_ifne 40 37), (37, x_const (iv (-4)) 39), (39, x_iret), (40, x_aload 0 41), (41, x_getR 9 4 44), (44, x_getI 3 0 47), (47, x_iload 1 48), (48, x_bin (fun x y => x + y) 49), (49, x_const (iv 40) 51), (51, x_cle 57 54), (54, x_const (iv (-2)) 56), (56, x_iret), (57, x_iload 2 58)]
def CX9_lots_2 (o : ORC) : List (Nat × INS) := [(58, x_i2l 59), (59, x_lstore 3 60), (60, x_const (iv 0) 61), (61, x_istore 5 63), (63, x_const (iv 0) 64), (64, x_istore 6 66), (66, x_iload 6 68), (68, x_iload 1 69), (69, x_cge 106 72), (72, x_lload 3 73), (73, x_const (jv 48271) 76), (76, x_binl (fun x y => x * y) 77), (77, x_const (jv 2147483647) 80), (80, x_dvl (fun x y => x - x / y * y) 81), (81, x_lstore 3 82), (82, x_iload 5 84)]
def CX9_lots_3 (o : ORC) : List (Nat × INS) := [(84, x_aload 0 85), (85, x_aload 0 86), (86, x_getR 9 11 89), (89, x_lload 3 90), (90, x_l2i 91), (91, x_vI o 21 2 2 94), (94, x_vI o 127 9 2 97), (97, x_bin (fun x y => x + y) 98), (98, x_istore 5 100), (100, x_iinc 6 1 103), (103, x_goto 66), (106, x_iload 5 108), (108, x_iret)]
def CX9_lots (o : ORC) : COD := [(27, CX9_lots_0 o), (58, CX9_lots_1 o), (84, CX9_lots_2 o), (109, CX9_lots_3 o)]
def CX9_asked_0 (o : ORC) : List (Nat × INS) := [(0, x_aload 0 1), (1, x_getI 9 14 4), (4, x_iret)]
def CX9_asked (o : ORC) : COD := [(5, CX9_asked_0 o)]
def CX9_upper_0 (o : ORC) : List (Nat × INS) := [(0, x_aload 0 1), (1, x_getJ 9 15 4), (4, x_lret)]
def CX9_upper (o : ORC) : COD := [(5, CX9_upper_0 o)]
def CX9_lower_0 (o : ORC) : List (Nat × INS) := [(0, x_aload 0 1), (1, x_getJ 9 16 4), (4, x_lret)]
def CX9_lower (o : ORC) : COD := [(5, CX9_lower_0 o)]
def CX9_count_0 (o : ORC) : List (Nat × INS) := [(0, x_iload 1 1), (1, x_iflt 10 4), (4, x_iload 1 5), (5, x_const (iv 11) 7), (7, x_clt 14 10), (10, x_const (iv (-1)) 11), (11, x_goto 19), (14, x_aload 0 15), (15, x_iload 1 16), (16, x_vI o 134 9 2 19), (19, x_iret)]
def CX9_count (o : ORC) : COD := [(20, CX9_count_0 o)]
def CX9_finding_0 (o : ORC) : List (Nat × INS) := [(0, x_aload 0 1), (1, x_getI 9 13 4), (4, x_iret)]
def CX9_finding (o : ORC) : COD := [(5, CX9_finding_0 o)]
def CX9_findings_0 (o : ORC) : List (Nat × INS) := [(0, x_iload 1 1), (1, x_const (iv 1) 2), (2, x_clt 10 5), (5, x_iload 1 6), (6, x_const (iv 5) 7), (7, x_cle 14 10), (10, x_const (iv (-1)) 11), (11, x_goto 20), (14, x_aload 0 15), (15, x_getR 9 10 18), (18, x_iload 1 19), (19, x_ald 0 20), (20, x_iret)]
def CX9_findings (o : ORC) : COD := [(21, CX9_findings_0 o)]
def CX9_digest_0 (o : ORC) : List (Nat × INS) := [(0, x_const (jv 17) 3), (3, x_lstore 1 4), (4, x_const (iv 0) 5), (5, x_istore 3 6), (6, x_iload 3 7), (7, x_const (iv 11) 9), (9, x_cge 31 12), (12, x_const (jv 31) 15), (15, x_lload 1 16), (16, x_binl (fun x y => x * y) 17), (17, x_aload 0 18), (18, x_iload 3 19), (19, x_vI o 134 9 2 22), (22, x_i2l 23), (23, x_binl (fun x y => x + y) 24), (24, x_lstore 1 25)]
def CX9_digest_1 (o : ORC) : List (Nat × INS) := [(25, x_iinc 3 1 28), (28, x_goto 6), (31, x_const (iv 0) 32), (32, x_istore 3 33), (33, x_iload 3 34), (34, x_const (iv 7) 36), (36, x_cge 89 39), (39, x_aload 0 40), (40, x_getR 9 11 43), (43, x_getI 2 0 46), (46, x_ifle 89 49), (49, x_const (jv 31) 52), (52, x_lload 1 53), (53, x_binl (fun x y => x * y) 54), (54, x_aload 0 55), (55, x_getR 9 11 58)]
def CX9_digest_2 (o : ORC) : List (Nat × INS) := [(58, x_getR 2 7 61), (61, x_iload 3 62), (62, x_ald 0 63), (63, x_i2l 64), (64, x_binl (fun x y => x + y) 65), (65, x_lstore 1 66), (66, x_const (jv 31) 69), (69, x_lload 1 70), (70, x_binl (fun x y => x * y) 71), (71, x_aload 0 72), (72, x_getR 9 11 75), (75, x_getR 2 8 78), (78, x_iload 3 79), (79, x_ald 0 80), (80, x_i2l 81), (81, x_binl (fun x y => x + y) 82)]
def CX9_digest_3 (o : ORC) : List (Nat × INS) := [(82, x_lstore 1 83), (83, x_iinc 3 1 86), (86, x_goto 33), (89, x_const (iv 0) 90), (90, x_istore 3 91), (91, x_iload 3 92), (92, x_const (iv 7) 94), (94, x_cge 120 97), (97, x_const (jv 31) 100), (100, x_lload 1 101), (101, x_binl (fun x y => x * y) 102), (102, x_aload 0 103), (103, x_getR 9 3 106), (106, x_getR 4 3 109), (109, x_iload 3 110), (110, x_ald 0 111)]
def CX9_digest_4 (o : ORC) : List (Nat × INS) := [(111, x_i2l 112), (112, x_binl (fun x y => x + y) 113), (113, x_lstore 1 114), (114, x_iinc 3 1 117), (117, x_goto 91), (120, x_const (iv 0) 121), (121, x_istore 3 122), (122, x_iload 3 123), (123, x_aload 0 124), (124, x_getR 9 11 127), (127, x_getI 2 0 130), (130, x_cge 169 133), (133, x_const (iv 0) 134), (134, x_istore 4 136), (136, x_iload 4 138), (138, x_const (iv 4) 139)]
def CX9_digest_5 (o : ORC) : List (Nat × INS) := [(139, x_cgt 163 142), (142, x_const (jv 31) 145), (145, x_lload 1 146), (146, x_binl (fun x y => x * y) 147), (147, x_aload 0 148), (148, x_iload 3 149), (149, x_iload 4 151), (151, x_vI o 133 9 3 154), (154, x_i2l 155), (155, x_binl (fun x y => x + y) 156), (156, x_lstore 1 157), (157, x_iinc 4 1 160), (160, x_goto 136), (163, x_iinc 3 1 166), (166, x_goto 122), (169, x_const (iv 0) 170)]
def CX9_digest_6 (o : ORC) : List (Nat × INS) := [(170, x_istore 3 171), (171, x_iload 3 172), (172, x_const (iv 3) 173), (173, x_cge 212 176), (176, x_const (jv 31) 179), (179, x_lload 1 180), (180, x_binl (fun x y => x * y) 181), (181, x_aload 0 182), (182, x_getR 9 6 185), (185, x_iload 3 186), (186, x_ald 1 187), (187, x_ifeq 202 190), (190, x_aload 0 191), (191, x_getR 9 5 194), (194, x_iload 3 195), (195, x_aald 3 196)]
def CX9_digest_7 (o : ORC) : List (Nat × INS) := [(196, x_getI 3 0 199), (199, x_goto 203), (202, x_const (iv (-1)) 203), (203, x_i2l 204), (204, x_binl (fun x y => x + y) 205), (205, x_lstore 1 206), (206, x_iinc 3 1 209), (209, x_goto 171), (212, x_aload 0 213), (213, x_getR 9 1 216), (216, x_aload 0 217), (217, x_getR 9 0 220), (220, x_lload 1 221), (221, x_vJ o 67 8 2 224), (224, x_vJ o 67 8 2 227), (227, x_lret)]
def CX9_digest (o : ORC) : COD := [(25, CX9_digest_0 o), (58, CX9_digest_1 o), (82, CX9_digest_2 o), (111, CX9_digest_3 o), (139, CX9_digest_4 o), (170, CX9_digest_5 o), (196, CX9_digest_6 o), (228, CX9_digest_7 o)]
def CX9_tell_0 (o : ORC) : List (Nat × INS) := [(0, x_aload 0 1), (1, x_iload 1 2), (2, x_putI 9 14 5), (5, x_const (iv 1) 6), (6, x_iret)]
def CX9_tell (o : ORC) : COD := [(7, CX9_tell_0 o)]
def CX9_tellFraction_0 (o : ORC) : List (Nat × INS) := [(0, x_lload 1 1), (1, x_lload 3 2), (2, x_sJ o 114 2 5), (5, x_lstore 5 7), (7, x_lload 5 9), (9, x_const (jv 0) 10), (10, x_lcmp 11), (11, x_ifle 30 14), (14, x_aload 0 15), (15, x_lload 1 16), (16, x_lload 5 18), (18, x_dvl (fun x y => x / y) 19), (19, x_putJ 9 15 22), (22, x_aload 0 23), (23, x_lload 3 24), (24, x_lload 5 26)]
def CX9_tellFraction_1 (o : ORC) : List (Nat × INS) := [(26, x_dvl (fun x y => x / y) 27), (27, x_putJ 9 16 30), (30, x_vret)]
def CX9_tellFraction (o : ORC) : COD := [(26, CX9_tellFraction_0 o), (31, CX9_tellFraction_1 o)]
def CX9_commonDivisor_0 (o : ORC) : List (Nat × INS) := [(0, x_const (iv 0) 1), (1, x_istore 4 3), (3, x_iload 4 5), (5, x_const (iv 100) 7), (7, x_cge 32 10), (10, x_lload 2 11), (11, x_const (jv 0) 12), (12, x_lcmp 13), (13, x_ifeq 32 16), (16, x_lload 0 17), (17, x_lload 2 18), (18, x_dvl (fun x y => x - x / y * y) 19), (19, x_lstore 5 21), (21, x_lload 2 22), (22, x_lstore 0 23), (23, x_lload 5 25)]
def CX9_commonDivisor_1 (o : ORC) : List (Nat × INS) := [(25, x_lstore 2 26), (26, x_iinc 4 1 29), (29, x_goto 3), (32, x_lload 0 33), (33, x_lret)]
def CX9_commonDivisor (o : ORC) : COD := [(25, CX9_commonDivisor_0 o), (34, CX9_commonDivisor_1 o)]
def CX9_find_0 (o : ORC) : List (Nat × INS) := [(0, x_aload 0 1), (1, x_iload 1 2), (2, x_putI 9 13 5), (5, x_aload 0 6), (6, x_getR 9 10 9), (9, x_iload 1 10), (10, x_dup2 11), (11, x_ald 0 12), (12, x_const (iv 1) 13), (13, x_bin (fun x y => x + y) 14), (14, x_iast 15), (15, x_const (iv (-3)) 17), (17, x_iret)]
def CX9_find (o : ORC) : COD := [(18, CX9_find_0 o)]
def CX9_makeAnew_0 (o : ORC) : List (Nat × INS) := [(0, x_aload 1 1), (1, x_iload 2 2), (2, x_vI o 52 8 2 5), (5, x_ifeq 16 8), (8, x_iload 3 9), (9, x_aload 1 10), (10, x_getI 8 0 13), (13, x_cle 18 16), (16, x_const (iv (-1)) 17), (17, x_iret), (18, x_iload 3 19), (19, x_ifge 28 22), (22, x_aload 0 23), (23, x_const (iv 5) 24), (24, x_vI o 115 9 2 27), (27, x_iret)]
def CX9_makeAnew_1 (o : ORC) : List (Nat × INS) := [(28, x_aload 1 29), (29, x_iload 2 30), (30, x_iload 3 31), (31, x_iload 4 33), (33, x_vV o 59 8 4 36), (36, x_iload 3 37), (37, x_iret)]
def CX9_makeAnew (o : ORC) : COD := [(28, CX9_makeAnew_0 o), (38, CX9_makeAnew_1 o)]
def CX9_refuseMissing_0 (o : ORC) : List (Nat × INS) := [(0, x_aload 1 1), (1, x_iload 2 2), (2, x_vI o 52 8 2 5), (5, x_ifne 10 8), (8, x_const (iv (-1)) 9), (9, x_iret), (10, x_aload 1 11), (11, x_iload 2 12), (12, x_vI o 53 8 2 15), (15, x_ifeq 22 18), (18, x_const (iv 0) 19), (19, x_goto 27), (22, x_aload 0 23), (23, x_const (iv 1) 24), (24, x_vI o 115 9 2 27), (27, x_iret)]
def CX9_refuseMissing (o : ORC) : COD := [(28, CX9_refuseMissing_0 o)]
def CX9_refusePlace_0 (o : ORC) : List (Nat × INS) := [(0, x_aload 0 1), (1, x_aload 1 2), (2, x_iload 2 3), (3, x_vI o 117 9 3 6), (6, x_istore 4 8), (8, x_iload 4 10), (10, x_ifeq 16 13), (13, x_iload 4 15), (15, x_iret), (16, x_aload 1 17), (17, x_iload 2 18), (18, x_iload 3 19), (19, x_vI o 55 8 3 22), (22, x_ifeq 29 25), (25, x_const (iv 0) 26), (26, x_goto 34)]
def CX9_refusePlace_1 (o : ORC) : List (Nat × INS) := [(29, x_aload 0 30), (30, x_const (iv 2) 31), (31, x_vI o 115 9 2 34), (34, x_iret)]
def CX9_refusePlace (o : ORC) : COD := [(29, CX9_refusePlace_0 o), (35, CX9_refusePlace_1 o)]
def CX9_refuseSearch_0 (o : ORC) : List (Nat × INS) := [(0, x_iload 1 1), (1, x_ifeq 13 4), (4, x_iload 2 5), (5, x_iflt 13 8), (8, x_iload 2 9), (9, x_iload 3 10), (10, x_cle 15 13), (13, x_const (iv (-1)) 14), (14, x_iret), (15, x_aload 0 16), (16, x_getR 9 11 19), (19, x_getI 2 0 22), (22, x_ifne 30 25), (25, x_const (iv (-4)) 27), (27, x_goto 31), (30, x_const (iv 0) 31)]
def CX9_refuseSearch_1 (o : ORC) : List (Nat × INS) := [(31, x_iret)]
def CX9_refuseSearch (o : ORC) : COD := [(31, CX9_refuseSearch_0 o), (32, CX9_refuseSearch_1 o)]
def CX9_refuseWithoutRiver_0 (o : ORC) : List (Nat × INS) := [(0, x_iload 1 1), (1, x_ifeq 15 4), (4, x_aload 0 5), (5, x_getR 9 0 8), (8, x_iload 2 9), (9, x_vI o 52 8 2 12), (12, x_ifne 17 15), (15, x_const (iv (-1)) 16), (16, x_iret), (17, x_aload 0 18), (18, x_getR 9 11 21), (21, x_getI 2 0 24), (24, x_ifne 32 27), (27, x_const (iv (-4)) 29), (29, x_goto 41), (32, x_aload 0 33)]
def CX9_refuseWithoutRiver_1 (o : ORC) : List (Nat × INS) := [(33, x_aload 0 34), (34, x_getR 9 0 37), (37, x_iload 2 38), (38, x_vI o 117 9 3 41), (41, x_iret)]
def CX9_refuseWithoutRiver (o : ORC) : COD := [(33, CX9_refuseWithoutRiver_0 o), (42, CX9_refuseWithoutRiver_1 o)]
def CX9_refusePlan_0 (o : ORC) : List (Nat × INS) := [(0, x_aload 0 1), (1, x_iload 1 2), (2, x_iload 2 3), (3, x_vI o 120 9 3 6), (6, x_istore 4 8), (8, x_iload 4 10), (10, x_ifeq 16 13), (13, x_iload 4 15), (15, x_iret), (16, x_aload 0 17), (17, x_getR 9 0 20), (20, x_iload 2 21), (21, x_vI o 54 8 2 24), (24, x_iload 3 25), (25, x_cle 34 28), (28, x_aload 0 29)]
def CX9_refusePlan_1 (o : ORC) : List (Nat × INS) := [(29, x_const (iv 5) 30), (30, x_vI o 115 9 2 33), (33, x_iret), (34, x_const (iv 0) 35), (35, x_istore 5 37), (37, x_iload 5 39), (39, x_aload 0 40), (40, x_getR 9 0 43), (43, x_iload 2 44), (44, x_vI o 54 8 2 47), (47, x_cge 82 50), (50, x_aload 0 51), (51, x_getR 9 11 54), (54, x_aload 0 55), (55, x_getR 9 0 58), (58, x_iload 2 59)]
def CX9_refusePlan_2 (o : ORC) : List (Nat × INS) := [(59, x_iload 5 61), (61, x_vI o 57 8 3 64), (64, x_vI o 17 2 2 67), (67, x_ifne 76 70), (70, x_aload 0 71), (71, x_const (iv 3) 72), (72, x_vI o 115 9 2 75), (75, x_iret), (76, x_iinc 5 1 79), (79, x_goto 37), (82, x_const (iv 0) 83), (83, x_iret)]
def CX9_refusePlan (o : ORC) : COD := [(29, CX9_refusePlan_0 o), (59, CX9_refusePlan_1 o), (84, CX9_refusePlan_2 o)]
def CX9_refuseSeas_0 (o : ORC) : List (Nat × INS) := [(0, x_aload 0 1), (1, x_iload 1 2), (2, x_iload 2 3), (3, x_vI o 120 9 3 6), (6, x_istore 3 7), (7, x_iload 3 8), (8, x_ifeq 13 11), (11, x_iload 3 12), (12, x_iret), (13, x_aload 0 14), (14, x_getR 9 0 17), (17, x_iload 2 18), (18, x_vI o 54 8 2 21), (21, x_const (iv 1) 22), (22, x_clt 37 25), (25, x_aload 0 26)]
def CX9_refuseSeas_1 (o : ORC) : List (Nat × INS) := [(26, x_getR 9 0 29), (29, x_iload 2 30), (30, x_vI o 54 8 2 33), (33, x_const (iv 4) 34), (34, x_cle 43 37), (37, x_aload 0 38), (38, x_const (iv 5) 39), (39, x_vI o 115 9 2 42), (42, x_iret), (43, x_aload 0 44), (44, x_getR 9 0 47), (47, x_iload 2 48), (48, x_const (iv 999) 51), (51, x_vI o 65 8 3 54), (54, x_ifeq 61 57), (57, x_const (iv 0) 58)]
def CX9_refuseSeas_2 (o : ORC) : List (Nat × INS) := [(58, x_goto 66), (61, x_aload 0 62), (62, x_const (iv 3) 63), (63, x_vI o 115 9 2 66), (66, x_iret)]
def CX9_refuseSeas (o : ORC) : COD := [(26, CX9_refuseSeas_0 o), (58, CX9_refuseSeas_1 o), (67, CX9_refuseSeas_2 o)]
def CX9_refusePairs_0 (o : ORC) : List (Nat × INS) := [(0, x_aload 0 1), (1, x_getR 9 11 4), (4, x_iload 1 5), (5, x_vI o 16 2 2 8), (8, x_ifne 13 11), (11, x_const (iv (-1)) 12), (12, x_iret), (13, x_aload 0 14), (14, x_aload 0 15), (15, x_getR 9 0 18), (18, x_iload 2 19), (19, x_vI o 117 9 3 22), (22, x_istore 3 23), (23, x_iload 3 24), (24, x_ifeq 29 27), (27, x_iload 3 28)]
def CX9_refusePairs_1 (o : ORC) : List (Nat × INS) := [(28, x_iret), (29, x_aload 0 30), (30, x_getR 9 0 33), (33, x_iload 2 34), (34, x_vI o 54 8 2 37), (37, x_const (iv 2) 38), (38, x_dv (fun x y => x - x / y * y) 39), (39, x_ifne 55 42), (42, x_aload 0 43), (43, x_getR 9 0 46), (46, x_iload 2 47), (47, x_vI o 54 8 2 50), (50, x_const (iv 20) 52), (52, x_cle 61 55), (55, x_aload 0 56), (56, x_const (iv 5) 57)]
def CX9_refusePairs_2 (o : ORC) : List (Nat × INS) := [(57, x_vI o 115 9 2 60), (60, x_iret), (61, x_aload 0 62), (62, x_getR 9 0 65), (65, x_iload 2 66), (66, x_const (iv 99) 68), (68, x_vI o 65 8 3 71), (71, x_ifeq 78 74), (74, x_const (iv 0) 75), (75, x_goto 83), (78, x_aload 0 79), (79, x_const (iv 3) 80), (80, x_vI o 115 9 2 83), (83, x_iret)]
def CX9_refusePairs (o : ORC) : COD := [(28, CX9_refusePairs_0 o), (57, CX9_refusePairs_1 o), (84, CX9_refusePairs_2 o)]
def CX9_isWeekday_0 (o : ORC) : List (Nat × INS) := [(0, x_iload 0 1), (1, x_iflt 14 4), (4, x_iload 0 5), (5, x_const (iv 7) 7), (7, x_cge 14 10), (10, x_const (iv 1) 11), (11, x_goto 15), (14, x_const (iv 0) 15), (15, x_zret)]
def CX9_isWeekday (o : ORC) : COD := [(16, CX9_isWeekday_0 o)]
def CX9_isVillage_0 (o : ORC) : List (Nat × INS) := [(0, x_iload 0 1), (1, x_iflt 14 4), (4, x_iload 0 5), (5, x_const (iv 7) 7), (7, x_cge 14 10), (10, x_const (iv 1) 11), (11, x_goto 15), (14, x_const (iv 0) 15), (15, x_zret)]
def CX9_isVillage (o : ORC) : COD := [(16, CX9_isVillage_0 o)]
def CX9_isOfTwelve_0 (o : ORC) : List (Nat × INS) := [(0, x_iload 0 1), (1, x_iflt 14 4), (4, x_iload 0 5), (5, x_const (iv 12) 7), (7, x_cgt 14 10), (10, x_const (iv 1) 11), (11, x_goto 15), (14, x_const (iv 0) 15), (15, x_zret)]
def CX9_isOfTwelve (o : ORC) : COD := [(16, CX9_isOfTwelve_0 o)]
def CX9_passTruly_0 (o : ORC) : List (Nat × INS) := [(0, x_aload 0 1), (1, x_getR 9 4 4), (4, x_getI 3 0 7), (7, x_const (iv 7) 9), (9, x_dv (fun x y => x - x / y * y) 10), (10, x_istore 2 11), (11, x_aload 0 12), (12, x_getR 9 11 15), (15, x_getR 2 8 18), (18, x_iload 2 19), (19, x_ald 0 20), (20, x_istore 3 21), (21, x_aload 0 22), (22, x_getR 9 4 25), (25, x_iload 1 26), (26, x_iload 3 27)]
def CX9_passTruly_1 (o : ORC) : List (Nat × INS) := [(27, x_vV o 26 3 3 30), (30, x_aload 0 31), (31, x_getR 9 3 34), (34, x_aload 0 35), (35, x_getR 9 11 38), (38, x_iload 1 39), (39, x_aload 0 40), (40, x_getR 9 11 43), (43, x_getR 2 7 46), (46, x_iload 2 47), (47, x_ald 0 48), (48, x_iload 3 49), (49, x_vI o 30 4 5 52), (52, x_iret)]
def CX9_passTruly (o : ORC) : COD := [(27, CX9_passTruly_0 o), (53, CX9_passTruly_1 o)]
def CX9_replay_0 (o : ORC) : List (Nat × INS) := [(0, x_aload 0 1), (1, x_getR 9 3 4), (4, x_aload 0 5), (5, x_getR 9 11 8), (8, x_vV o 29 4 2 11), (11, x_const (iv 0) 12), (12, x_istore 1 13), (13, x_iload 1 14), (14, x_aload 0 15), (15, x_getR 9 4 18), (18, x_getI 3 0 21), (21, x_cge 72 24), (24, x_aload 0 25), (25, x_getR 9 3 28), (28, x_aload 0 29), (29, x_getR 9 11 32)]
def CX9_replay_1 (o : ORC) : List (Nat × INS) := [(32, x_aload 0 33), (33, x_getR 9 4 36), (36, x_getR 3 1 39), (39, x_iload 1 40), (40, x_ald 0 41), (41, x_aload 0 42), (42, x_getR 9 11 45), (45, x_getR 2 7 48), (48, x_iload 1 49), (49, x_const (iv 7) 51), (51, x_dv (fun x y => x - x / y * y) 52), (52, x_ald 0 53), (53, x_aload 0 54), (54, x_getR 9 4 57), (57, x_getR 3 2 60), (60, x_iload 1 61)]
def CX9_replay_2 (o : ORC) : List (Nat × INS) := [(61, x_ald 0 62), (62, x_vI o 30 4 5 65), (65, x_pop 66), (66, x_iinc 1 1 69), (69, x_goto 13), (72, x_vret)]
def CX9_replay (o : ORC) : COD := [(32, CX9_replay_0 o), (61, CX9_replay_1 o), (73, CX9_replay_2 o)]
def CX9_readDraft_0 (o : ORC) : List (Nat × INS) := [(0, x_aload 0 1), (1, x_getR 9 2 4), (4, x_aload 0 5), (5, x_getR 9 1 8), (8, x_iload 1 9), (9, x_aload 0 10), (10, x_getR 9 12 13), (13, x_vI o 45 7 4 16), (16, x_iret)]
def CX9_readDraft (o : ORC) : COD := [(17, CX9_readDraft_0 o)]
def CX9_followPlan_0 (o : ORC) : List (Nat × INS) := [(0, x_aload 0 1), (1, x_getR 9 7 4), (4, x_aload 0 5), (5, x_getR 9 3 8), (8, x_getR 4 0 11), (11, x_aload 0 12), (12, x_getR 9 4 15), (15, x_getI 3 0 18), (18, x_vV o 4 0 3 21), (21, x_const (iv 0) 22), (22, x_istore 2 23), (23, x_iload 2 24), (24, x_aload 0 25), (25, x_getR 9 0 28), (28, x_iload 1 29), (29, x_vI o 54 8 2 32)]
def CX9_followPlan_1 (o : ORC) : List (Nat × INS) := [(32, x_cge 62 35), (35, x_aload 0 36), (36, x_getR 9 7 39), (39, x_aload 0 40), (40, x_getR 9 11 43), (43, x_iload 2 44), (44, x_aload 0 45), (45, x_getR 9 0 48), (48, x_iload 1 49), (49, x_iload 2 50), (50, x_vI o 57 8 3 53), (53, x_vV o 5 0 4 56), (56, x_iinc 2 1 59), (59, x_goto 23), (62, x_vret)]
def CX9_followPlan (o : ORC) : COD := [(32, CX9_followPlan_0 o), (63, CX9_followPlan_1 o)]
def CX9_groundWithout_0 (o : ORC) : List (Nat × INS) := [(0, x_aload 0 1), (1, x_getR 9 7 4), (4, x_aload 0 5), (5, x_getR 9 3 8), (8, x_getR 4 0 11), (11, x_aload 0 12), (12, x_getR 9 4 15), (15, x_getI 3 0 18), (18, x_vV o 4 0 3 21), (21, x_aload 0 22), (22, x_getR 9 7 25), (25, x_iload 1 26), (26, x_putI 0 0 29), (29, x_const (iv 0) 30), (30, x_istore 3 31), (31, x_iload 3 32)]
def CX9_groundWithout_1 (o : ORC) : List (Nat × INS) := [(32, x_iload 2 33), (33, x_cge 55 36), (36, x_aload 0 37), (37, x_getR 9 7 40), (40, x_aload 0 41), (41, x_getR 9 11 44), (44, x_iload 3 45), (45, x_const (iv 0) 46), (46, x_vV o 5 0 4 49), (49, x_iinc 3 1 52), (52, x_goto 31), (55, x_aload 0 56), (56, x_getR 9 7 59), (59, x_getI 0 4 62), (62, x_iret)]
def CX9_groundWithout (o : ORC) : COD := [(32, CX9_groundWithout_0 o), (63, CX9_groundWithout_1 o)]
def CX9_agrees_0 (o : ORC) : List (Nat × INS) := [(0, x_iload 3 1), (1, x_istore 5 3), (3, x_const (iv 0) 4), (4, x_istore 6 6), (6, x_iload 6 8), (8, x_const (iv 1) 9), (9, x_bin (fun x y => x + y) 10), (10, x_aload 0 11), (11, x_getR 9 0 14), (14, x_iload 4 16), (16, x_vI o 54 8 2 19), (19, x_cge 81 22), (22, x_iload 1 23), (23, x_iload 2 24), (24, x_iload 5 26), (26, x_const (iv 0) 27)]
def CX9_agrees_1 (o : ORC) : List (Nat × INS) := [(27, x_sI o 41 4 30), (30, x_istore 7 32), (32, x_iload 7 34), (34, x_aload 0 35), (35, x_getR 9 0 38), (38, x_iload 4 40), (40, x_iload 6 42), (42, x_const (iv 1) 43), (43, x_bin (fun x y => x + y) 44), (44, x_vI o 57 8 3 47), (47, x_ceq 52 50), (50, x_const (iv 0) 51), (51, x_zret), (52, x_iload 1 53), (53, x_iload 5 55), (55, x_iload 7 57)]
def CX9_agrees_2 (o : ORC) : List (Nat × INS) := [(57, x_bin (fun x y => x - y) 58), (58, x_aload 0 59), (59, x_getR 9 0 62), (62, x_iload 4 64), (64, x_iload 6 66), (66, x_vI o 57 8 3 69), (69, x_bin (fun x y => x + y) 70), (70, x_sI o 42 2 73), (73, x_istore 5 75), (75, x_iinc 6 2 78), (78, x_goto 6), (81, x_const (iv 1) 82), (82, x_zret)]
def CX9_agrees (o : ORC) : COD := [(27, CX9_agrees_0 o), (57, CX9_agrees_1 o), (83, CX9_agrees_2 o)]
def CX9_ofReach_0 (o : ORC) : List (Nat × INS) := [(0, x_iload 2 1), (1, x_sw [(0, 32), (1, 42), (2, 52), (3, 62)] 72), (32, x_aload 0 33), (33, x_getR 9 11 36), (36, x_getR 2 4 39), (39, x_iload 1 40), (40, x_ald 0 41), (41, x_iret), (42, x_aload 0 43), (43, x_getR 9 11 46), (46, x_getR 2 5 49), (49, x_iload 1 50), (50, x_ald 0 51), (51, x_iret), (52, x_aload 0 53), (53, x_getR 9 3 56)]
def CX9_ofReach_1 (o : ORC) : List (Nat × INS) := [(56, x_getR 4 0 59), (59, x_iload 1 60), (60, x_ald 0 61), (61, x_iret), (62, x_aload 0 63), (63, x_getR 9 3 66), (66, x_getR 4 1 69), (69, x_iload 1 70), (70, x_ald 0 71), (71, x_iret), (72, x_aload 0 73), (73, x_getR 9 3 76), (76, x_getR 4 2 79), (79, x_iload 1 80), (80, x_ald 0 81), (81, x_iret)]
def CX9_ofReach (o : ORC) : COD := [(56, CX9_ofReach_0 o), (82, CX9_ofReach_1 o)]
def CX9_counted_0 (o : ORC) : List (Nat × INS) := [(0, x_iload 1 1), (1, x_sw [(0, 56), (1, 64), (2, 72), (3, 80), (4, 91), (5, 102), (6, 113), (7, 124), (8, 135), (9, 143)] 151), (56, x_aload 0 57), (57, x_getR 9 11 60), (60, x_getI 2 0 63), (63, x_iret), (64, x_aload 0 65), (65, x_getR 9 4 68), (68, x_getI 3 0 71), (71, x_iret), (72, x_aload 0 73), (73, x_getR 9 4 76), (76, x_getI 3 0 79), (79, x_iret), (80, x_aload 0 81), (81, x_getR 9 3 84)]
def CX9_counted_1 (o : ORC) : List (Nat × INS) := [(84, x_getR 4 0 87), (87, x_sI o 136 1 90), (90, x_iret), (91, x_aload 0 92), (92, x_getR 9 3 95), (95, x_getR 4 3 98), (98, x_sI o 136 1 101), (101, x_iret), (102, x_aload 0 103), (103, x_getR 9 3 106), (106, x_getR 4 1 109), (109, x_sI o 136 1 112), (112, x_iret), (113, x_aload 0 114), (114, x_getR 9 11 117), (117, x_getI 2 1 120)]
def CX9_counted_2 (o : ORC) : List (Nat × INS) := [(120, x_sI o 0 1 123), (123, x_iret), (124, x_aload 0 125), (125, x_getR 9 11 128), (128, x_getI 2 2 131), (131, x_sI o 0 1 134), (134, x_iret), (135, x_aload 0 136), (136, x_getR 9 0 139), (139, x_vI o 66 8 1 142), (142, x_iret), (143, x_aload 0 144), (144, x_getR 9 1 147), (147, x_vI o 66 8 1 150), (150, x_iret), (151, x_aload 0 152)]
def CX9_counted_3 (o : ORC) : List (Nat × INS) := [(152, x_vI o 135 9 1 155), (155, x_iret)]
def CX9_counted (o : ORC) : COD := [(84, CX9_counted_0 o), (120, CX9_counted_1 o), (152, CX9_counted_2 o), (156, CX9_counted_3 o)]
def CX9_keptRivers_0 (o : ORC) : List (Nat × INS) := [(0, x_const (iv 0) 1), (1, x_istore 1 2), (2, x_const (iv 0) 3), (3, x_istore 2 4), (4, x_iload 2 5), (5, x_const (iv 3) 6), (6, x_cge 32 9), (9, x_iload 1 10), (10, x_aload 0 11), (11, x_getR 9 6 14), (14, x_iload 2 15), (15, x_ald 1 16), (16, x_ifeq 23 19), (19, x_const (iv 1) 20), (20, x_goto 24), (23, x_const (iv 0) 24)]
def CX9_keptRivers_1 (o : ORC) : List (Nat × INS) := [(24, x_bin (fun x y => x + y) 25), (25, x_istore 1 26), (26, x_iinc 2 1 29), (29, x_goto 4), (32, x_iload 1 33), (33, x_iret)]
def CX9_keptRivers (o : ORC) : COD := [(24, CX9_keptRivers_0 o), (34, CX9_keptRivers_1 o)]
def CX9_sum_0 (o : ORC) : List (Nat × INS) := [(0, x_const (iv 0) 1), (1, x_istore 1 2), (2, x_aload 0 3), (3, x_astore 2 4), (4, x_aload 2 5), (5, x_alen 6), (6, x_istore 3 7), (7, x_const (iv 0) 8), (8, x_istore 4 10), (10, x_iload 4 12), (12, x_iload 3 13), (13, x_cge 33 16), (16, x_aload 2 17), (17, x_iload 4 19), (19, x_ald 0 20), (20, x_istore 5 22)]
def CX9_sum_1 (o : ORC) : List (Nat × INS) := [(22, x_iload 1 23), (23, x_iload 5 25), (25, x_bin (fun x y => x + y) 26), (26, x_istore 1 27), (27, x_iinc 4 1 30), (30, x_goto 10), (33, x_iload 1 34), (34, x_iret)]
def CX9_sum (o : ORC) : COD := [(22, CX9_sum_0 o), (35, CX9_sum_1 o)]
def CX10_in_0 (o : ORC) : List (Nat × INS) := [(0, x_iload 0 1), (1, x_iload 1 2), (2, x_clt 14 5), (5, x_iload 0 6), (6, x_iload 2 7), (7, x_cgt 14 10), (10, x_const (iv 1) 11), (11, x_goto 15), (14, x_const (iv 0) 15), (15, x_zret)]
def CX10_in (o : ORC) : COD := [(16, CX10_in_0 o)]
def CX10_meet_0 (o : ORC) : List (Nat × INS) := [(0, x_aload 0 1), (1, x_iload 1 2), (2, x_putI 10 0 5), (5, x_aload 0 6), (6, x_getR 10 1 9), (9, x_iload 1 10), (10, x_dup2 11), (11, x_ald 0 12), (12, x_const (iv 1) 13), (13, x_bin (fun x y => x + y) 14), (14, x_iast 15), (15, x_const (iv (-3)) 17), (17, x_iret)]
def CX10_meet (o : ORC) : COD := [(18, CX10_meet_0 o)]
def CX10_ask_0 (o : ORC) : List (Nat × INS) := [(0, x_aload 0 1), (1, x_iload 1 2), (2, x_putI 10 2 5), (5, x_iload 2 6), (6, x_iret)]
def CX10_ask (o : ORC) : COD := [(7, CX10_ask_0 o)]
def CX10_has_0 (o : ORC) : List (Nat × INS) := [(0, x_iload 0 1), (1, x_iload 1 2), (2, x_bin (fun x y => x >>> (y &&& 31)) 3), (3, x_const (iv 1) 4), (4, x_bin (fun x y => x &&& y) 5), (5, x_const (iv 1) 6), (6, x_cne 13 9), (9, x_const (iv 1) 10), (10, x_goto 14), (13, x_const (iv 0) 14), (14, x_zret)]
def CX10_has (o : ORC) : COD := [(15, CX10_has_0 o)]
def CX10_greater_0 (o : ORC) : List (Nat × INS) := [(0, x_iload 0 1), (1, x_iload 1 2), (2, x_cle 9 5), (5, x_iload 0 6), (6, x_goto 10), (9, x_iload 1 10), (10, x_iret)]
def CX10_greater (o : ORC) : COD := [(11, CX10_greater_0 o)]
def CX10_part_0 (o : ORC) : List (Nat × INS) := [(0, x_lload 1 1), (1, x_lstore 5 3), (3, x_lload 3 4), (4, x_lstore 7 6), (6, x_lload 7 8), (8, x_const (jv 0) 9), (9, x_lcmp 10), (10, x_ifeq 31 13), (13, x_lload 5 15), (15, x_lload 7 17), (17, x_dvl (fun x y => x - x / y * y) 18), (18, x_lstore 9 20), (20, x_lload 7 22), (22, x_lstore 5 24), (24, x_lload 9 26), (26, x_lstore 7 28)]
def CX10_part_1 (o : ORC) : List (Nat × INS) := [(28, x_goto 6), (31, x_aload 0 32), (32, x_lload 1 33), (33, x_lload 5 35), (35, x_dvl (fun x y => x / y) 36), (36, x_putJ 10 3 39), (39, x_aload 0 40), (40, x_lload 3 41), (41, x_lload 5 43), (43, x_dvl (fun x y => x / y) 44), (44, x_putJ 10 4 47), (47, x_const (iv 1) 48), (48, x_iret)]
def CX10_part (o : ORC) : COD := [(28, CX10_part_0 o), (49, CX10_part_1 o)]
def CX10_isRow_0 (o : ORC) : List (Nat × INS) := [(0, x_iload 0 1), (1, x_const (iv 0) 2), (2, x_const (iv 5) 3), (3, x_sI o 137 3 6), (6, x_zret)]
def CX10_isRow (o : ORC) : COD := [(7, CX10_isRow_0 o)]
def CX10_isText_0 (o : ORC) : List (Nat × INS) := [(0, x_iload 0 1), (1, x_const (iv 0) 2), (2, x_const (iv 3) 3), (3, x_sI o 137 3 6), (6, x_zret)]
def CX10_isText (o : ORC) : COD := [(7, CX10_isText_0 o)]
def CX10_askedRow_0 (o : ORC) : List (Nat × INS) := [(0, x_iload 1 1), (1, x_sI o 143 1 4), (4, x_ifne 11 7), (7, x_const (iv (-1)) 8), (8, x_goto 29), (11, x_aload 0 12), (12, x_getR 10 5 15), (15, x_iload 1 16), (16, x_ald 0 17), (17, x_ifge 28 20), (20, x_aload 0 21), (21, x_const (iv 1) 22), (22, x_vI o 138 10 2 25), (25, x_goto 29), (28, x_const (iv 0) 29), (29, x_iret)]
def CX10_askedRow (o : ORC) : COD := [(30, CX10_askedRow_0 o)]
def CX10_askedText_0 (o : ORC) : List (Nat × INS) := [(0, x_iload 1 1), (1, x_sI o 144 1 4), (4, x_ifne 11 7), (7, x_const (iv (-1)) 8), (8, x_goto 29), (11, x_aload 0 12), (12, x_getR 10 8 15), (15, x_iload 1 16), (16, x_ald 0 17), (17, x_ifge 28 20), (20, x_aload 0 21), (21, x_const (iv 1) 22), (22, x_vI o 138 10 2 25), (25, x_goto 29), (28, x_const (iv 0) 29), (29, x_iret)]
def CX10_askedText (o : ORC) : COD := [(30, CX10_askedText_0 o)]
def CX10_rowAt_0 (o : ORC) : List (Nat × INS) := [(0, x_aload 0 1), (1, x_getR 10 6 4), (4, x_const (iv 40) 6), (6, x_iload 1 7), (7, x_bin (fun x y => x * y) 8), (8, x_iload 2 9), (9, x_bin (fun x y => x + y) 10), (10, x_ald 0 11), (11, x_iret)]
def CX10_rowAt (o : ORC) : COD := [(12, CX10_rowAt_0 o)]
def CX10_setRow_0 (o : ORC) : List (Nat × INS) := [(0, x_aload 0 1), (1, x_getR 10 6 4), (4, x_const (iv 40) 6), (6, x_iload 1 7), (7, x_bin (fun x y => x * y) 8), (8, x_iload 2 9), (9, x_bin (fun x y => x + y) 10), (10, x_iload 3 11), (11, x_iast 12), (12, x_vret)]
def CX10_setRow (o : ORC) : COD := [(13, CX10_setRow_0 o)]
def CX10_row_0 (o : ORC) : List (Nat × INS) := [(0, x_iload 1 1), (1, x_sI o 143 1 4), (4, x_ifeq 13 7), (7, x_iload 2 8), (8, x_const (iv 40) 10), (10, x_cle 15 13), (13, x_const (iv (-1)) 14), (14, x_iret), (15, x_iload 2 16), (16, x_ifge 25 19), (19, x_aload 0 20), (20, x_const (iv 5) 21), (21, x_vI o 138 10 2 24), (24, x_iret), (25, x_aload 0 26), (26, x_getR 10 5 29)]
def CX10_row_1 (o : ORC) : List (Nat × INS) := [(29, x_iload 1 30), (30, x_iload 2 31), (31, x_iast 32), (32, x_const (iv 0) 33), (33, x_istore 3 34), (34, x_iload 3 35), (35, x_const (iv 40) 37), (37, x_cge 53 40), (40, x_aload 0 41), (41, x_iload 1 42), (42, x_iload 3 43), (43, x_const (iv 0) 44), (44, x_vV o 148 10 4 47), (47, x_iinc 3 1 50), (50, x_goto 34), (53, x_iload 2 54)]
def CX10_row_2 (o : ORC) : List (Nat × INS) := [(54, x_iret)]
def CX10_row (o : ORC) : COD := [(29, CX10_row_0 o), (54, CX10_row_1 o), (55, CX10_row_2 o)]
def CX10_at_0 (o : ORC) : List (Nat × INS) := [(0, x_aload 0 1), (1, x_iload 1 2), (2, x_vI o 145 10 2 5), (5, x_istore 3 6), (6, x_iload 3 7), (7, x_ifge 12 10), (10, x_iload 3 11), (11, x_iret), (12, x_iload 2 13), (13, x_const (iv 0) 14), (14, x_aload 0 15), (15, x_getR 10 5 18), (18, x_iload 1 19), (19, x_ald 0 20), (20, x_const (iv 1) 21), (21, x_bin (fun x y => x - y) 22)]
def CX10_at_1 (o : ORC) : List (Nat × INS) := [(22, x_sI o 137 3 25), (25, x_ifeq 42 28), (28, x_aload 0 29), (29, x_aload 0 30), (30, x_iload 1 31), (31, x_iload 2 32), (32, x_vI o 147 10 3 35), (35, x_const (iv 1) 36), (36, x_vI o 139 10 3 39), (39, x_goto 47), (42, x_aload 0 43), (43, x_const (iv 2) 44), (44, x_vI o 138 10 2 47), (47, x_iret)]
def CX10_at (o : ORC) : COD := [(22, CX10_at_0 o), (48, CX10_at_1 o)]
def CX10_lay_0 (o : ORC) : List (Nat × INS) := [(0, x_aload 0 1), (1, x_iload 1 2), (2, x_iload 2 3), (3, x_vI o 150 10 3 6), (6, x_istore 4 8), (8, x_iload 4 10), (10, x_ifge 16 13), (13, x_iload 4 15), (15, x_iret), (16, x_aload 0 17), (17, x_iload 1 18), (18, x_iload 2 19), (19, x_iload 3 20), (20, x_vV o 148 10 4 23), (23, x_const (iv 1) 24), (24, x_iret)]
def CX10_lay (o : ORC) : COD := [(25, CX10_lay_0 o)]
def CX10_tear_0 (o : ORC) : List (Nat × INS) := [(0, x_aload 0 1), (1, x_iload 1 2), (2, x_vI o 145 10 2 5), (5, x_istore 2 6), (6, x_iload 2 7), (7, x_ifge 12 10), (10, x_iload 2 11), (11, x_iret), (12, x_aload 0 13), (13, x_getR 10 5 16), (16, x_iload 1 17), (17, x_const (iv (-9)) 19), (19, x_iast 20), (20, x_const (iv 1) 21), (21, x_iret)]
def CX10_tear (o : ORC) : COD := [(22, CX10_tear_0 o)]
def CX10_copy_0 (o : ORC) : List (Nat × INS) := [(0, x_iload 1 1), (1, x_sI o 143 1 4), (4, x_ifeq 14 7), (7, x_iload 3 8), (8, x_sI o 143 1 11), (11, x_ifne 16 14), (14, x_const (iv (-1)) 15), (15, x_iret), (16, x_iload 5 18), (18, x_ifge 27 21), (21, x_aload 0 22), (22, x_const (iv 5) 23), (23, x_vI o 138 10 2 26), (26, x_iret), (27, x_aload 0 28), (28, x_getR 10 5 31)]
def CX10_copy_1 (o : ORC) : List (Nat × INS) := [(31, x_iload 1 32), (32, x_ald 0 33), (33, x_iflt 45 36), (36, x_aload 0 37), (37, x_getR 10 5 40), (40, x_iload 3 41), (41, x_ald 0 42), (42, x_ifge 51 45), (45, x_aload 0 46), (46, x_const (iv 1) 47), (47, x_vI o 138 10 2 50), (50, x_iret), (51, x_iload 2 52), (52, x_iflt 95 55), (55, x_iload 4 57), (57, x_iflt 95 60)]
def CX10_copy_2 (o : ORC) : List (Nat × INS) := [(60, x_iload 2 61), (61, x_i2l 62), (62, x_iload 5 64), (64, x_i2l 65), (65, x_binl (fun x y => x + y) 66), (66, x_aload 0 67), (67, x_getR 10 5 70), (70, x_iload 1 71), (71, x_ald 0 72), (72, x_i2l 73), (73, x_lcmp 74), (74, x_ifgt 95 77), (77, x_iload 4 79), (79, x_i2l 80), (80, x_iload 5 82), (82, x_i2l 83)]
def CX10_copy_3 (o : ORC) : List (Nat × INS) := [(83, x_binl (fun x y => x + y) 84), (84, x_aload 0 85), (85, x_getR 10 5 88), (88, x_iload 3 89), (89, x_ald 0 90), (90, x_i2l 91), (91, x_lcmp 92), (92, x_ifle 101 95), (95, x_aload 0 96), (96, x_const (iv 2) 97), (97, x_vI o 138 10 2 100), (100, x_iret), (101, x_const (iv 0) 102), (102, x_istore 6 104), (104, x_iload 6 106), (106, x_iload 5 108)]
def CX10_copy_4 (o : ORC) : List (Nat × INS) := [(108, x_cge 133 111), (111, x_aload 0 112), (112, x_getR 10 7 115), (115, x_iload 6 117), (117, x_aload 0 118), (118, x_iload 1 119), (119, x_iload 2 120), (120, x_iload 6 122), (122, x_bin (fun x y => x + y) 123), (123, x_vI o 147 10 3 126), (126, x_iast 127), (127, x_iinc 6 1 130), (130, x_goto 104), (133, x_const (iv 0) 134), (134, x_istore 6 136), (136, x_iload 6 138)]
def CX10_copy_5 (o : ORC) : List (Nat × INS) := [(138, x_iload 5 140), (140, x_cge 166 143), (143, x_aload 0 144), (144, x_iload 3 145), (145, x_iload 4 147), (147, x_iload 6 149), (149, x_bin (fun x y => x + y) 150), (150, x_aload 0 151), (151, x_getR 10 7 154), (154, x_iload 6 156), (156, x_ald 0 157), (157, x_vV o 148 10 4 160), (160, x_iinc 6 1 163), (163, x_goto 136), (166, x_const (iv 1) 167), (167, x_iret)]
def CX10_copy (o : ORC) : COD := [(31, CX10_copy_0 o), (60, CX10_copy_1 o), (83, CX10_copy_2 o), (108, CX10_copy_3 o), (138, CX10_copy_4 o), (168, CX10_copy_5 o)]
def CX10_mean_0 (o : ORC) : List (Nat × INS) := [(0, x_aload 0 1), (1, x_iload 1 2), (2, x_vI o 145 10 2 5), (5, x_istore 2 6), (6, x_iload 2 7), (7, x_ifge 12 10), (10, x_iload 2 11), (11, x_iret), (12, x_const (jv 0) 13), (13, x_lstore 3 14), (14, x_const (iv 0) 15), (15, x_istore 5 17), (17, x_iload 5 19), (19, x_aload 0 20), (20, x_getR 10 5 23), (23, x_iload 1 24)]
def CX10_mean_1 (o : ORC) : List (Nat × INS) := [(24, x_ald 0 25), (25, x_cge 45 28), (28, x_lload 3 29), (29, x_aload 0 30), (30, x_iload 1 31), (31, x_iload 5 33), (33, x_vI o 147 10 3 36), (36, x_i2l 37), (37, x_binl (fun x y => x + y) 38), (38, x_lstore 3 39), (39, x_iinc 5 1 42), (42, x_goto 17), (45, x_aload 0 46), (46, x_getR 10 5 49), (49, x_iload 1 50), (50, x_ald 0 51)]
def CX10_mean_2 (o : ORC) : List (Nat × INS) := [(51, x_ifne 62 54), (54, x_aload 0 55), (55, x_const (iv 4) 56), (56, x_vI o 138 10 2 59), (59, x_goto 77), (62, x_aload 0 63), (63, x_lload 3 64), (64, x_aload 0 65), (65, x_getR 10 5 68), (68, x_iload 1 69), (69, x_ald 0 70), (70, x_i2l 71), (71, x_dvl (fun x y => x / y) 72), (72, x_l2i 73), (73, x_const (iv 1) 74), (74, x_vI o 139 10 3 77)]
def CX10_mean_3 (o : ORC) : List (Nat × INS) := [(77, x_iret)]
def CX10_mean (o : ORC) : COD := [(24, CX10_mean_0 o), (51, CX10_mean_1 o), (77, CX10_mean_2 o), (78, CX10_mean_3 o)]
def CX10_text_0 (o : ORC) : List (Nat × INS) := [(0, x_iload 1 1), (1, x_sI o 144 1 4), (4, x_ifeq 13 7), (7, x_iload 2 8), (8, x_const (iv 60) 10), (10, x_cle 15 13), (13, x_const (iv (-1)) 14), (14, x_iret), (15, x_iload 2 16), (16, x_ifge 25 19), (19, x_aload 0 20), (20, x_const (iv 5) 21), (21, x_vI o 138 10 2 24), (24, x_iret), (25, x_aload 0 26), (26, x_getR 10 8 29)]
def CX10_text_1 (o : ORC) : List (Nat × INS) := [(29, x_iload 1 30), (30, x_iload 2 31), (31, x_iast 32), (32, x_const (iv 0) 33), (33, x_istore 3 34), (34, x_iload 3 35), (35, x_const (iv 60) 37), (37, x_cge 59 40), (40, x_aload 0 41), (41, x_getR 10 9 44), (44, x_const (iv 60) 46), (46, x_iload 1 47), (47, x_bin (fun x y => x * y) 48), (48, x_iload 3 49), (49, x_bin (fun x y => x + y) 50), (50, x_const (iv 32) 52)]
def CX10_text_2 (o : ORC) : List (Nat × INS) := [(52, x_iast 53), (53, x_iinc 3 1 56), (56, x_goto 34), (59, x_iload 2 60), (60, x_iret)]
def CX10_text (o : ORC) : COD := [(29, CX10_text_0 o), (52, CX10_text_1 o), (61, CX10_text_2 o)]
def CX10_put_0 (o : ORC) : List (Nat × INS) := [(0, x_aload 0 1), (1, x_iload 1 2), (2, x_vI o 146 10 2 5), (5, x_istore 4 7), (7, x_iload 4 9), (9, x_ifge 15 12), (12, x_iload 4 14), (14, x_iret), (15, x_iload 2 16), (16, x_const (iv 0) 17), (17, x_aload 0 18), (18, x_getR 10 8 21), (21, x_iload 1 22), (22, x_ald 0 23), (23, x_const (iv 1) 24), (24, x_bin (fun x y => x - y) 25)]
def CX10_put_1 (o : ORC) : List (Nat × INS) := [(25, x_sI o 137 3 28), (28, x_ifne 37 31), (31, x_aload 0 32), (32, x_const (iv 2) 33), (33, x_vI o 138 10 2 36), (36, x_iret), (37, x_aload 0 38), (38, x_getR 10 9 41), (41, x_const (iv 60) 43), (43, x_iload 1 44), (44, x_bin (fun x y => x * y) 45), (45, x_iload 2 46), (46, x_bin (fun x y => x + y) 47), (47, x_ald 0 48), (48, x_istore 5 50), (50, x_aload 0 51)]
def CX10_put_2 (o : ORC) : List (Nat × INS) := [(51, x_getR 10 9 54), (54, x_const (iv 60) 56), (56, x_iload 1 57), (57, x_bin (fun x y => x * y) 58), (58, x_iload 2 59), (59, x_bin (fun x y => x + y) 60), (60, x_iload 3 61), (61, x_un (fun x => x.toInt8.toInt32) 62), (62, x_iast 63), (63, x_iload 5 65), (65, x_const (iv 1000) 68), (68, x_bin (fun x y => x + y) 69), (69, x_iret)]
def CX10_put (o : ORC) : COD := [(25, CX10_put_0 o), (51, CX10_put_1 o), (70, CX10_put_2 o)]
def CX10_here_0 (o : ORC) : List (Nat × INS) := [(0, x_aload 0 1), (1, x_getI 10 20 4), (4, x_aload 0 5), (5, x_getR 10 8 8), (8, x_iload 1 9), (9, x_ald 0 10), (10, x_cge 30 13), (13, x_aload 0 14), (14, x_getR 10 9 17), (17, x_const (iv 60) 19), (19, x_iload 1 20), (20, x_bin (fun x y => x * y) 21), (21, x_aload 0 22), (22, x_getI 10 20 25), (25, x_bin (fun x y => x + y) 26), (26, x_ald 0 27)]
def CX10_here_1 (o : ORC) : List (Nat × INS) := [(27, x_goto 32), (30, x_const (iv (-9)) 32), (32, x_iret)]
def CX10_here (o : ORC) : COD := [(27, CX10_here_0 o), (33, CX10_here_1 o)]
def CX10_skip_0 (o : ORC) : List (Nat × INS) := [(0, x_aload 0 1), (1, x_iload 1 2), (2, x_vI o 157 10 2 5), (5, x_const (iv 32) 7), (7, x_cne 23 10), (10, x_aload 0 11), (11, x_dup 12), (12, x_getI 10 20 15), (15, x_const (iv 1) 16), (16, x_bin (fun x y => x + y) 17), (17, x_putI 10 20 20), (20, x_goto 0), (23, x_vret)]
def CX10_skip (o : ORC) : COD := [(24, CX10_skip_0 o)]
def CX10_figure_0 (o : ORC) : List (Nat × INS) := [(0, x_aload 0 1), (1, x_iload 1 2), (2, x_vI o 157 10 2 5), (5, x_const (iv 48) 7), (7, x_bin (fun x y => x - y) 8), (8, x_istore 6 10), (10, x_iload 6 12), (12, x_iload 4 14), (14, x_iload 5 16), (16, x_sI o 137 3 19), (19, x_ifne 24 22), (22, x_const (iv 0) 23), (23, x_zret), (24, x_aload 2 25), (25, x_iload 3 26), (26, x_iload 6 28)]
def CX10_figure_1 (o : ORC) : List (Nat × INS) := [(28, x_iast 29), (29, x_aload 0 30), (30, x_dup 31), (31, x_getI 10 20 34), (34, x_const (iv 1) 35), (35, x_bin (fun x y => x + y) 36), (36, x_putI 10 20 39), (39, x_const (iv 1) 40), (40, x_zret)]
def CX10_figure (o : ORC) : COD := [(28, CX10_figure_0 o), (41, CX10_figure_1 o)]
def CX10_readsWeek_0 (o : ORC) : List (Nat × INS) := [(0, x_aload 0 1), (1, x_iload 1 2), (2, x_vV o 158 10 2 5), (5, x_aload 0 6), (6, x_iload 1 7), (7, x_vI o 157 10 2 10), (10, x_iload 2 11), (11, x_ceq 16 14), (14, x_const (iv 0) 15), (15, x_zret), (16, x_aload 0 17), (17, x_dup 18), (18, x_getI 10 20 21), (21, x_const (iv 1) 22), (22, x_bin (fun x y => x + y) 23), (23, x_putI 10 20 26)]
def CX10_readsWeek_1 (o : ORC) : List (Nat × INS) := [(26, x_const (iv 0) 27), (27, x_istore 5 29), (29, x_iload 5 31), (31, x_const (iv 7) 33), (33, x_cge 63 36), (36, x_aload 0 37), (37, x_iload 1 38), (38, x_aload 0 39), (39, x_getR 10 23 42), (42, x_iload 3 43), (43, x_iload 5 45), (45, x_bin (fun x y => x + y) 46), (46, x_const (iv 0) 47), (47, x_iload 4 49), (49, x_vI o 159 10 6 52), (52, x_ifne 57 55)]
def CX10_readsWeek_2 (o : ORC) : List (Nat × INS) := [(55, x_const (iv 0) 56), (56, x_zret), (57, x_iinc 5 1 60), (60, x_goto 29), (63, x_const (iv 1) 64), (64, x_zret)]
def CX10_readsWeek (o : ORC) : COD := [(26, CX10_readsWeek_0 o), (55, CX10_readsWeek_1 o), (65, CX10_readsWeek_2 o)]
def CX10_kindBy_0 (o : ORC) : List (Nat × INS) := [(0, x_iload 0 1), (1, x_const (iv 97) 3), (3, x_cne 10 6), (6, x_const (iv 0) 7), (7, x_goto 62), (10, x_iload 0 11), (11, x_const (iv 119) 13), (13, x_cne 20 16), (16, x_const (iv 1) 17), (17, x_goto 62), (20, x_iload 0 21), (21, x_const (iv 109) 23), (23, x_cne 30 26), (26, x_const (iv 2) 27), (27, x_goto 62), (30, x_iload 0 31)]
def CX10_kindBy_1 (o : ORC) : List (Nat × INS) := [(31, x_const (iv 112) 33), (33, x_cne 40 36), (36, x_const (iv 3) 37), (37, x_goto 62), (40, x_iload 0 41), (41, x_const (iv 115) 43), (43, x_cne 50 46), (46, x_const (iv 4) 47), (47, x_goto 62), (50, x_iload 0 51), (51, x_const (iv 102) 53), (53, x_cne 60 56), (56, x_const (iv 5) 57), (57, x_goto 62), (60, x_const (iv (-9)) 62), (62, x_iret)]
def CX10_kindBy (o : ORC) : COD := [(31, CX10_kindBy_0 o), (63, CX10_kindBy_1 o)]
def CX10_isGate_0 (o : ORC) : List (Nat × INS) := [(0, x_iload 0 1), (1, x_const (iv 1) 2), (2, x_ceq 15 5), (5, x_iload 0 6), (6, x_const (iv 3) 7), (7, x_ceq 15 10), (10, x_iload 0 11), (11, x_const (iv 4) 12), (12, x_cne 19 15), (15, x_const (iv 1) 16), (16, x_goto 20), (19, x_const (iv 0) 20), (20, x_zret)]
def CX10_isGate (o : ORC) : COD := [(21, CX10_isGate_0 o)]
def CX10_isMill_0 (o : ORC) : List (Nat × INS) := [(0, x_iload 0 1), (1, x_const (iv 2) 2), (2, x_ceq 10 5), (5, x_iload 0 6), (6, x_const (iv 5) 7), (7, x_cne 14 10), (10, x_const (iv 1) 11), (11, x_goto 15), (14, x_const (iv 0) 15), (15, x_zret)]
def CX10_isMill (o : ORC) : COD := [(16, CX10_isMill_0 o)]
def CX10_readsReach_0 (o : ORC) : List (Nat × INS) := [(0, x_aload 0 1), (1, x_iload 1 2), (2, x_vI o 157 10 2 5), (5, x_sI o 161 1 8), (8, x_istore 2 9), (9, x_iload 2 10), (10, x_const (iv (-9)) 12), (12, x_ceq 39 15), (15, x_aload 0 16), (16, x_getI 10 21 19), (19, x_const (iv 6) 21), (21, x_ceq 39 24), (24, x_iload 2 25), (25, x_sI o 162 1 28), (28, x_ifeq 41 31), (31, x_aload 0 32)]
def CX10_readsReach_1 (o : ORC) : List (Nat × INS) := [(32, x_getI 10 22 35), (35, x_const (iv 3) 36), (36, x_cne 41 39), (39, x_const (iv 0) 40), (40, x_zret), (41, x_const (iv 3) 42), (42, x_aload 0 43), (43, x_getI 10 21 46), (46, x_bin (fun x y => x * y) 47), (47, x_istore 3 48), (48, x_aload 0 49), (49, x_getR 10 24 52), (52, x_iload 3 53), (53, x_iload 2 54), (54, x_iast 55), (55, x_aload 0 56)]
def CX10_readsReach_2 (o : ORC) : List (Nat × INS) := [(56, x_dup 57), (57, x_getI 10 20 60), (60, x_const (iv 1) 61), (61, x_bin (fun x y => x + y) 62), (62, x_putI 10 20 65), (65, x_aload 0 66), (66, x_iload 1 67), (67, x_aload 0 68), (68, x_getR 10 24 71), (71, x_iload 3 72), (72, x_const (iv 1) 73), (73, x_bin (fun x y => x + y) 74), (74, x_const (iv 1) 75), (75, x_const (iv 9) 77), (77, x_vI o 159 10 6 80), (80, x_ifeq 101 83)]
def CX10_readsReach_3 (o : ORC) : List (Nat × INS) := [(83, x_aload 0 84), (84, x_iload 1 85), (85, x_aload 0 86), (86, x_getR 10 24 89), (89, x_iload 3 90), (90, x_const (iv 2) 91), (91, x_bin (fun x y => x + y) 92), (92, x_const (iv 0) 93), (93, x_const (iv 9) 95), (95, x_vI o 159 10 6 98), (98, x_ifne 103 101), (101, x_const (iv 0) 102), (102, x_zret), (103, x_aload 0 104), (104, x_dup 105), (105, x_getI 10 22 108)]
def CX10_readsReach_4 (o : ORC) : List (Nat × INS) := [(108, x_iload 2 109), (109, x_sI o 162 1 112), (112, x_ifeq 119 115), (115, x_const (iv 1) 116), (116, x_goto 120), (119, x_const (iv 0) 120), (120, x_bin (fun x y => x + y) 121), (121, x_putI 10 22 124), (124, x_aload 0 125), (125, x_dup 126), (126, x_getI 10 21 129), (129, x_const (iv 1) 130), (130, x_bin (fun x y => x + y) 131), (131, x_putI 10 21 134), (134, x_const (iv 1) 135), (135, x_zret)]
def CX10_readsReach (o : ORC) : COD := [(32, CX10_readsReach_0 o), (56, CX10_readsReach_1 o), (83, CX10_readsReach_2 o), (108, CX10_readsReach_3 o), (136, CX10_readsReach_4 o)]
def CX10_readsRiver_0 (o : ORC) : List (Nat × INS) := [(0, x_aload 0 1), (1, x_const (iv 0) 2), (2, x_putI 10 20 5), (5, x_aload 0 6), (6, x_const (iv 0) 7), (7, x_putI 10 21 10), (10, x_aload 0 11), (11, x_const (iv 0) 12), (12, x_putI 10 22 15), (15, x_aload 0 16), (16, x_iload 1 17), (17, x_const (iv 121) 19), (19, x_const (iv 0) 20), (20, x_const (iv 9) 22), (22, x_vI o 160 10 5 25), (25, x_ifeq 42 28)]
def CX10_readsRiver_1 (o : ORC) : List (Nat × INS) := [(28, x_aload 0 29), (29, x_iload 1 30), (30, x_const (iv 111) 32), (32, x_const (iv 7) 34), (34, x_const (iv 6) 36), (36, x_vI o 160 10 5 39), (39, x_ifne 44 42), (42, x_const (iv 0) 43), (43, x_zret), (44, x_aload 0 45), (45, x_iload 1 46), (46, x_vV o 158 10 2 49), (49, x_aload 0 50), (50, x_getI 10 20 53), (53, x_aload 0 54), (54, x_getR 10 8 57)]
def CX10_readsRiver_2 (o : ORC) : List (Nat × INS) := [(57, x_iload 1 58), (58, x_ald 0 59), (59, x_cge 80 62), (62, x_aload 0 63), (63, x_iload 1 64), (64, x_vI o 164 10 2 67), (67, x_ifne 72 70), (70, x_const (iv 0) 71), (71, x_zret), (72, x_aload 0 73), (73, x_iload 1 74), (74, x_vV o 158 10 2 77), (77, x_goto 49), (80, x_aload 0 81), (81, x_getI 10 21 84), (84, x_ifle 91 87)]
def CX10_readsRiver_3 (o : ORC) : List (Nat × INS) := [(87, x_const (iv 1) 88), (88, x_goto 92), (91, x_const (iv 0) 92), (92, x_zret)]
def CX10_readsRiver (o : ORC) : COD := [(28, CX10_readsRiver_0 o), (57, CX10_readsRiver_1 o), (87, CX10_readsRiver_2 o), (93, CX10_readsRiver_3 o)]
def CX10_goesOn_0 (o : ORC) : List (Nat × INS) := [(0, x_aload 0 1), (1, x_iload 1 2), (2, x_vI o 165 10 2 5), (5, x_ifeq 13 8), (8, x_const (iv (-9)) 10), (10, x_goto 17), (13, x_aload 0 14), (14, x_getI 10 20 17), (17, x_iret)]
def CX10_goesOn (o : ORC) : COD := [(18, CX10_goesOn_0 o)]
def CX10_fault_0 (o : ORC) : List (Nat × INS) := [(0, x_aload 0 1), (1, x_iload 1 2), (2, x_vI o 146 10 2 5), (5, x_istore 2 6), (6, x_iload 2 7), (7, x_ifge 14 10), (10, x_iload 2 11), (11, x_goto 19), (14, x_aload 0 15), (15, x_iload 1 16), (16, x_vI o 166 10 2 19), (19, x_iret)]
def CX10_fault (o : ORC) : COD := [(20, CX10_fault_0 o)]
def CX10_river_0 (o : ORC) : List (Nat × INS) := [(0, x_aload 0 1), (1, x_iload 1 2), (2, x_vI o 146 10 2 5), (5, x_istore 2 6), (6, x_iload 2 7), (7, x_ifge 12 10), (10, x_iload 2 11), (11, x_iret), (12, x_aload 0 13), (13, x_iload 1 14), (14, x_vI o 166 10 2 17), (17, x_const (iv (-9)) 19), (19, x_ceq 25 22), (22, x_const (iv (-4)) 24), (24, x_iret), (25, x_aload 0 26)]
def CX10_river_1 (o : ORC) : List (Nat × INS) := [(26, x_aload 0 27), (27, x_getI 10 21 30), (30, x_putI 10 10 33), (33, x_const (iv 0) 34), (34, x_istore 3 35), (35, x_iload 3 36), (36, x_const (iv 7) 38), (38, x_cge 81 41), (41, x_aload 0 42), (42, x_getR 10 11 45), (45, x_iload 3 46), (46, x_aload 0 47), (47, x_getR 10 23 50), (50, x_iload 3 51), (51, x_ald 0 52), (52, x_iast 53)]
def CX10_river_2 (o : ORC) : List (Nat × INS) := [(53, x_aload 0 54), (54, x_getR 10 12 57), (57, x_iload 3 58), (58, x_aload 0 59), (59, x_getR 10 23 62), (62, x_const (iv 7) 64), (64, x_iload 3 65), (65, x_bin (fun x y => x + y) 66), (66, x_ald 0 67), (67, x_iast 68), (68, x_aload 0 69), (69, x_getR 10 19 72), (72, x_iload 3 73), (73, x_const (iv 0) 74), (74, x_iast 75), (75, x_iinc 3 1 78)]
def CX10_river_3 (o : ORC) : List (Nat × INS) := [(78, x_goto 35), (81, x_const (iv 0) 82), (82, x_istore 3 83), (83, x_iload 3 84), (84, x_aload 0 85), (85, x_getI 10 10 88), (88, x_cge 157 91), (91, x_aload 0 92), (92, x_getR 10 13 95), (95, x_iload 3 96), (96, x_aload 0 97), (97, x_getR 10 24 100), (100, x_const (iv 3) 101), (101, x_iload 3 102), (102, x_bin (fun x y => x * y) 103), (103, x_ald 0 104)]
def CX10_river_4 (o : ORC) : List (Nat × INS) := [(104, x_iast 105), (105, x_aload 0 106), (106, x_getR 10 14 109), (109, x_iload 3 110), (110, x_aload 0 111), (111, x_getR 10 24 114), (114, x_const (iv 3) 115), (115, x_iload 3 116), (116, x_bin (fun x y => x * y) 117), (117, x_const (iv 1) 118), (118, x_bin (fun x y => x + y) 119), (119, x_ald 0 120), (120, x_iast 121), (121, x_aload 0 122), (122, x_getR 10 15 125), (125, x_iload 3 126)]
def CX10_river_5 (o : ORC) : List (Nat × INS) := [(126, x_aload 0 127), (127, x_getR 10 24 130), (130, x_const (iv 3) 131), (131, x_iload 3 132), (132, x_bin (fun x y => x * y) 133), (133, x_const (iv 2) 134), (134, x_bin (fun x y => x + y) 135), (135, x_ald 0 136), (136, x_iast 137), (137, x_aload 0 138), (138, x_getR 10 16 141), (141, x_iload 3 142), (142, x_const (iv 0) 143), (143, x_iast 144), (144, x_aload 0 145), (145, x_getR 10 17 148)]
def CX10_river_6 (o : ORC) : List (Nat × INS) := [(148, x_iload 3 149), (149, x_const (iv 0) 150), (150, x_iast 151), (151, x_iinc 3 1 154), (154, x_goto 83), (157, x_aload 0 158), (158, x_const (iv 0) 159), (159, x_putI 10 18 162), (162, x_aload 0 163), (163, x_const (iv 0) 164), (164, x_putI 10 25 167), (167, x_const (iv 0) 168), (168, x_istore 3 169), (169, x_iload 3 170), (170, x_const (iv 3) 171), (171, x_cge 187 174)]
def CX10_river_7 (o : ORC) : List (Nat × INS) := [(174, x_aload 0 175), (175, x_getR 10 27 178), (178, x_iload 3 179), (179, x_const (iv 0) 180), (180, x_iast 181), (181, x_iinc 3 1 184), (184, x_goto 169), (187, x_aload 0 188), (188, x_getI 10 10 191), (191, x_iret)]
def CX10_river (o : ORC) : COD := [(26, CX10_river_0 o), (53, CX10_river_1 o), (78, CX10_river_2 o), (104, CX10_river_3 o), (126, CX10_river_4 o), (148, CX10_river_5 o), (174, CX10_river_6 o), (192, CX10_river_7 o)]
def CX10_isReach_0 (o : ORC) : List (Nat × INS) := [(0, x_iload 1 1), (1, x_const (iv 0) 2), (2, x_aload 0 3), (3, x_getI 10 10 6), (6, x_const (iv 1) 7), (7, x_bin (fun x y => x - y) 8), (8, x_sI o 137 3 11), (11, x_zret)]
def CX10_isReach (o : ORC) : COD := [(12, CX10_isReach_0 o)]
def CX10_isDay_0 (o : ORC) : List (Nat × INS) := [(0, x_iload 0 1), (1, x_const (iv 0) 2), (2, x_const (iv 6) 4), (4, x_sI o 137 3 7), (7, x_zret)]
def CX10_isDay (o : ORC) : COD := [(8, CX10_isDay_0 o)]
def CX10_gateSet_0 (o : ORC) : List (Nat × INS) := [(0, x_const (iv 0) 1), (1, x_istore 1 2), (2, x_const (iv 0) 3), (3, x_istore 2 4), (4, x_iload 2 5), (5, x_aload 0 6), (6, x_getI 10 10 9), (9, x_cge 40 12), (12, x_iload 1 13), (13, x_aload 0 14), (14, x_getR 10 13 17), (17, x_iload 2 18), (18, x_ald 0 19), (19, x_sI o 162 1 22), (22, x_ifeq 31 25), (25, x_const (iv 1) 26)]
def CX10_gateSet_1 (o : ORC) : List (Nat × INS) := [(26, x_iload 2 27), (27, x_bin (fun x y => x <<< (y &&& 31)) 28), (28, x_goto 32), (31, x_const (iv 0) 32), (32, x_bin (fun x y => x ||| y) 33), (33, x_istore 1 34), (34, x_iinc 2 1 37), (37, x_goto 4), (40, x_iload 1 41), (41, x_iret)]
def CX10_gateSet (o : ORC) : COD := [(26, CX10_gateSet_0 o), (42, CX10_gateSet_1 o)]
def CX10_canShut_0 (o : ORC) : List (Nat × INS) := [(0, x_iload 1 1), (1, x_iflt 19 4), (4, x_iload 1 5), (5, x_aload 0 6), (6, x_vI o 171 10 1 9), (9, x_const (iv (-1)) 10), (10, x_bin (fun x y => x ^^^ y) 11), (11, x_bin (fun x y => x &&& y) 12), (12, x_ifne 19 15), (15, x_const (iv 1) 16), (16, x_goto 20), (19, x_const (iv 0) 20), (20, x_zret)]
def CX10_canShut (o : ORC) : COD := [(21, CX10_canShut_0 o)]
def CX10_write_0 (o : ORC) : List (Nat × INS) := [(0, x_aload 1 1), (1, x_iload 2 2), (2, x_aload 0 3), (3, x_getI 10 18 6), (6, x_iast 7), (7, x_aload 1 8), (8, x_iload 2 9), (9, x_const (iv 1) 10), (10, x_bin (fun x y => x + y) 11), (11, x_aload 0 12), (12, x_getI 10 25 15), (15, x_iast 16), (16, x_const (iv 0) 17), (17, x_istore 3 18), (18, x_iload 3 19), (19, x_const (iv 6) 21)]
def CX10_write_1 (o : ORC) : List (Nat × INS) := [(21, x_cge 71 24), (24, x_aload 1 25), (25, x_iload 2 26), (26, x_const (iv 2) 27), (27, x_bin (fun x y => x + y) 28), (28, x_iload 3 29), (29, x_bin (fun x y => x + y) 30), (30, x_aload 0 31), (31, x_getR 10 15 34), (34, x_iload 3 35), (35, x_ald 0 36), (36, x_iast 37), (37, x_aload 1 38), (38, x_iload 2 39), (39, x_const (iv 8) 41), (41, x_bin (fun x y => x + y) 42)]
def CX10_write_2 (o : ORC) : List (Nat × INS) := [(42, x_iload 3 43), (43, x_bin (fun x y => x + y) 44), (44, x_aload 0 45), (45, x_getR 10 16 48), (48, x_iload 3 49), (49, x_ald 0 50), (50, x_iast 51), (51, x_aload 1 52), (52, x_iload 2 53), (53, x_const (iv 14) 55), (55, x_bin (fun x y => x + y) 56), (56, x_iload 3 57), (57, x_bin (fun x y => x + y) 58), (58, x_aload 0 59), (59, x_getR 10 17 62), (62, x_iload 3 63)]
def CX10_write_3 (o : ORC) : List (Nat × INS) := [(63, x_ald 0 64), (64, x_iast 65), (65, x_iinc 3 1 68), (68, x_goto 18), (71, x_const (iv 0) 72), (72, x_istore 3 73), (73, x_iload 3 74), (74, x_const (iv 7) 76), (76, x_cge 99 79), (79, x_aload 1 80), (80, x_iload 2 81), (81, x_const (iv 20) 83), (83, x_bin (fun x y => x + y) 84), (84, x_iload 3 85), (85, x_bin (fun x y => x + y) 86), (86, x_aload 0 87)]
def CX10_write_4 (o : ORC) : List (Nat × INS) := [(87, x_getR 10 19 90), (90, x_iload 3 91), (91, x_ald 0 92), (92, x_iast 93), (93, x_iinc 3 1 96), (96, x_goto 73), (99, x_vret)]
def CX10_write (o : ORC) : COD := [(21, CX10_write_0 o), (42, CX10_write_1 o), (63, CX10_write_2 o), (87, CX10_write_3 o), (100, CX10_write_4 o)]
def CX10_read_0 (o : ORC) : List (Nat × INS) := [(0, x_aload 0 1), (1, x_aload 1 2), (2, x_iload 2 3), (3, x_ald 0 4), (4, x_putI 10 18 7), (7, x_aload 0 8), (8, x_aload 1 9), (9, x_iload 2 10), (10, x_const (iv 1) 11), (11, x_bin (fun x y => x + y) 12), (12, x_ald 0 13), (13, x_putI 10 25 16), (16, x_const (iv 0) 17), (17, x_istore 3 18), (18, x_iload 3 19), (19, x_const (iv 6) 21)]
def CX10_read_1 (o : ORC) : List (Nat × INS) := [(21, x_cge 71 24), (24, x_aload 0 25), (25, x_getR 10 15 28), (28, x_iload 3 29), (29, x_aload 1 30), (30, x_iload 2 31), (31, x_const (iv 2) 32), (32, x_bin (fun x y => x + y) 33), (33, x_iload 3 34), (34, x_bin (fun x y => x + y) 35), (35, x_ald 0 36), (36, x_iast 37), (37, x_aload 0 38), (38, x_getR 10 16 41), (41, x_iload 3 42), (42, x_aload 1 43)]
def CX10_read_2 (o : ORC) : List (Nat × INS) := [(43, x_iload 2 44), (44, x_const (iv 8) 46), (46, x_bin (fun x y => x + y) 47), (47, x_iload 3 48), (48, x_bin (fun x y => x + y) 49), (49, x_ald 0 50), (50, x_iast 51), (51, x_aload 0 52), (52, x_getR 10 17 55), (55, x_iload 3 56), (56, x_aload 1 57), (57, x_iload 2 58), (58, x_const (iv 14) 60), (60, x_bin (fun x y => x + y) 61), (61, x_iload 3 62), (62, x_bin (fun x y => x + y) 63)]
def CX10_read_3 (o : ORC) : List (Nat × INS) := [(63, x_ald 0 64), (64, x_iast 65), (65, x_iinc 3 1 68), (68, x_goto 18), (71, x_const (iv 0) 72), (72, x_istore 3 73), (73, x_iload 3 74), (74, x_const (iv 7) 76), (76, x_cge 99 79), (79, x_aload 0 80), (80, x_getR 10 19 83), (83, x_iload 3 84), (84, x_aload 1 85), (85, x_iload 2 86), (86, x_const (iv 20) 88), (88, x_bin (fun x y => x + y) 89)]
def CX10_read_4 (o : ORC) : List (Nat × INS) := [(89, x_iload 3 90), (90, x_bin (fun x y => x + y) 91), (91, x_ald 0 92), (92, x_iast 93), (93, x_iinc 3 1 96), (96, x_goto 73), (99, x_vret)]
def CX10_read (o : ORC) : COD := [(21, CX10_read_0 o), (43, CX10_read_1 o), (63, CX10_read_2 o), (89, CX10_read_3 o), (100, CX10_read_4 o)]
def CX10_begin_0 (o : ORC) : List (Nat × INS) := [(0, x_aload 0 1), (1, x_aload 0 2), (2, x_getR 10 29 5), (5, x_const (iv 0) 6), (6, x_vV o 173 10 3 9), (9, x_vret)]
def CX10_begin (o : ORC) : COD := [(10, CX10_begin_0 o)]
def CX10_back_0 (o : ORC) : List (Nat × INS) := [(0, x_aload 0 1), (1, x_aload 0 2), (2, x_getR 10 29 5), (5, x_const (iv 0) 6), (6, x_vV o 174 10 3 9), (9, x_vret)]
def CX10_back (o : ORC) : COD := [(10, CX10_back_0 o)]
def CX10_runsFrom_0 (o : ORC) : List (Nat × INS) := [(0, x_aload 0 1), (1, x_getR 10 15 4), (4, x_iload 1 5), (5, x_ald 0 6), (6, x_istore 3 7), (7, x_aload 0 8), (8, x_getR 10 13 11), (11, x_iload 1 12), (12, x_ald 0 13), (13, x_sI o 162 1 16), (16, x_ifeq 40 19), (19, x_iload 2 20), (20, x_iload 1 21), (21, x_sI o 140 2 24), (24, x_ifeq 40 27), (27, x_const (iv 0) 28)]
def CX10_runsFrom_1 (o : ORC) : List (Nat × INS) := [(28, x_iload 3 29), (29, x_aload 0 30), (30, x_getR 10 14 33), (33, x_iload 1 34), (34, x_ald 0 35), (35, x_bin (fun x y => x - y) 36), (36, x_sI o 141 2 39), (39, x_iret), (40, x_aload 0 41), (41, x_getR 10 13 44), (44, x_iload 1 45), (45, x_ald 0 46), (46, x_const (iv 4) 47), (47, x_cne 69 50), (50, x_iload 3 51), (51, x_aload 0 52)]
def CX10_runsFrom_2 (o : ORC) : List (Nat × INS) := [(52, x_getR 10 14 55), (55, x_iload 1 56), (56, x_ald 0 57), (57, x_cle 69 60), (60, x_aload 0 61), (61, x_getR 10 14 64), (64, x_iload 1 65), (65, x_ald 0 66), (66, x_goto 70), (69, x_iload 3 70), (70, x_iret)]
def CX10_runsFrom (o : ORC) : COD := [(28, CX10_runsFrom_0 o), (52, CX10_runsFrom_1 o), (71, CX10_runsFrom_2 o)]
def CX10_grindsBy_0 (o : ORC) : List (Nat × INS) := [(0, x_aload 0 1), (1, x_getR 10 13 4), (4, x_iload 1 5), (5, x_ald 0 6), (6, x_sI o 163 1 9), (9, x_ifeq 48 12), (12, x_iload 2 13), (13, x_aload 0 14), (14, x_getR 10 14 17), (17, x_iload 1 18), (18, x_ald 0 19), (19, x_clt 48 22), (22, x_aload 0 23), (23, x_getR 10 13 26), (26, x_iload 1 27), (27, x_ald 0 28)]
def CX10_grindsBy_1 (o : ORC) : List (Nat × INS) := [(28, x_const (iv 2) 29), (29, x_ceq 44 32), (32, x_iload 2 33), (33, x_aload 0 34), (34, x_getR 10 14 37), (37, x_iload 1 38), (38, x_ald 0 39), (39, x_const (iv 2) 40), (40, x_bin (fun x y => x + y) 41), (41, x_cgt 48 44), (44, x_const (iv 1) 45), (45, x_goto 49), (48, x_const (iv 0) 49), (49, x_zret)]
def CX10_grindsBy (o : ORC) : COD := [(28, CX10_grindsBy_0 o), (50, CX10_grindsBy_1 o)]
def CX10_pass_0 (o : ORC) : List (Nat × INS) := [(0, x_aload 0 1), (1, x_const (iv 0) 2), (2, x_putI 10 31 5), (5, x_const (iv 0) 6), (6, x_istore 2 7), (7, x_iload 2 8), (8, x_aload 0 9), (9, x_getI 10 10 12), (12, x_cge 63 15), (15, x_aload 0 16), (16, x_getR 10 30 19), (19, x_iload 2 20), (20, x_aload 0 21), (21, x_iload 2 22), (22, x_iload 1 23), (23, x_vI o 177 10 3 26)]
def CX10_pass_1 (o : ORC) : List (Nat × INS) := [(26, x_iast 27), (27, x_aload 0 28), (28, x_dup 29), (29, x_getI 10 31 32), (32, x_aload 0 33), (33, x_iload 2 34), (34, x_aload 0 35), (35, x_getR 10 30 38), (38, x_iload 2 39), (39, x_ald 0 40), (40, x_vI o 178 10 3 43), (43, x_ifeq 52 46), (46, x_const (iv 1) 47), (47, x_iload 2 48), (48, x_bin (fun x y => x <<< (y &&& 31)) 49), (49, x_goto 53)]
def CX10_pass_2 (o : ORC) : List (Nat × INS) := [(52, x_const (iv 0) 53), (53, x_bin (fun x y => x ||| y) 54), (54, x_putI 10 31 57), (57, x_iinc 2 1 60), (60, x_goto 7), (63, x_aload 0 64), (64, x_getI 10 25 67), (67, x_const (iv 7) 69), (69, x_dv (fun x y => x - x / y * y) 70), (70, x_istore 2 71), (71, x_const (iv 0) 72), (72, x_istore 3 73), (73, x_iload 3 74), (74, x_aload 0 75), (75, x_getI 10 10 78), (78, x_cge 213 81)]
def CX10_pass_3 (o : ORC) : List (Nat × INS) := [(81, x_aload 0 82), (82, x_getR 10 15 85), (85, x_iload 3 86), (86, x_ald 0 87), (87, x_aload 0 88), (88, x_getR 10 30 91), (91, x_iload 3 92), (92, x_ald 0 93), (93, x_bin (fun x y => x - y) 94), (94, x_iload 3 95), (95, x_ifle 109 98), (98, x_aload 0 99), (99, x_getR 10 30 102), (102, x_iload 3 103), (103, x_const (iv 1) 104), (104, x_bin (fun x y => x - y) 105)]
def CX10_pass_4 (o : ORC) : List (Nat × INS) := [(105, x_ald 0 106), (106, x_goto 127), (109, x_iload 2 110), (110, x_aload 0 111), (111, x_getI 10 32 114), (114, x_cne 121 117), (117, x_const (iv 0) 118), (118, x_goto 127), (121, x_aload 0 122), (122, x_getR 10 11 125), (125, x_iload 2 126), (126, x_ald 0 127), (127, x_bin (fun x y => x + y) 128), (128, x_istore 4 130), (130, x_iload 4 132), (132, x_aload 0 133)]
def CX10_pass_5 (o : ORC) : List (Nat × INS) := [(133, x_getR 10 13 136), (136, x_iload 3 137), (137, x_ald 0 138), (138, x_const (iv 3) 139), (139, x_cne 151 142), (142, x_iload 4 144), (144, x_ifle 151 147), (147, x_const (iv 1) 148), (148, x_goto 152), (151, x_const (iv 0) 152), (152, x_bin (fun x y => x - y) 153), (153, x_istore 4 155), (155, x_aload 0 156), (156, x_getR 10 15 159), (159, x_iload 3 160), (160, x_iload 4 162)]
def CX10_pass_6 (o : ORC) : List (Nat × INS) := [(162, x_const (iv 99) 164), (164, x_cle 172 167), (167, x_const (iv 99) 169), (169, x_goto 174), (172, x_iload 4 174), (174, x_iast 175), (175, x_aload 0 176), (176, x_getR 10 16 179), (179, x_iload 3 180), (180, x_dup2 181), (181, x_ald 0 182), (182, x_aload 0 183), (183, x_getI 10 31 186), (186, x_iload 3 187), (187, x_bin (fun x y => x >>> (y &&& 31)) 188), (188, x_const (iv 1) 189)]
def CX10_pass_7 (o : ORC) : List (Nat × INS) := [(189, x_bin (fun x y => x &&& y) 190), (190, x_bin (fun x y => x + y) 191), (191, x_iast 192), (192, x_aload 0 193), (193, x_getR 10 17 196), (196, x_iload 3 197), (197, x_dup2 198), (198, x_ald 0 199), (199, x_aload 0 200), (200, x_getR 10 30 203), (203, x_iload 3 204), (204, x_ald 0 205), (205, x_bin (fun x y => x + y) 206), (206, x_iast 207), (207, x_iinc 3 1 210), (210, x_goto 73)]
def CX10_pass_8 (o : ORC) : List (Nat × INS) := [(213, x_aload 0 214), (214, x_dup 215), (215, x_getI 10 18 218), (218, x_aload 0 219), (219, x_getR 10 30 222), (222, x_aload 0 223), (223, x_getI 10 10 226), (226, x_const (iv 1) 227), (227, x_bin (fun x y => x - y) 228), (228, x_ald 0 229), (229, x_bin (fun x y => x + y) 230), (230, x_putI 10 18 233), (233, x_aload 0 234), (234, x_getR 10 19 237), (237, x_aload 0 238), (238, x_getR 10 12 241)]
def CX10_pass_9 (o : ORC) : List (Nat × INS) := [(241, x_iload 2 242), (242, x_ald 0 243), (243, x_dup2 244), (244, x_ald 0 245), (245, x_aload 0 246), (246, x_getR 10 30 249), (249, x_aload 0 250), (250, x_getI 10 10 253), (253, x_const (iv 1) 254), (254, x_bin (fun x y => x - y) 255), (255, x_ald 0 256), (256, x_bin (fun x y => x + y) 257), (257, x_iast 258), (258, x_aload 0 259), (259, x_dup 260), (260, x_getI 10 25 263)]
def CX10_pass_10 (o : ORC) : List (Nat × INS) := [(263, x_const (iv 1) 264), (264, x_bin (fun x y => x + y) 265), (265, x_putI 10 25 268), (268, x_aload 0 269), (269, x_getR 10 30 272), (272, x_aload 0 273), (273, x_getI 10 10 276), (276, x_const (iv 1) 277), (277, x_bin (fun x y => x - y) 278), (278, x_ald 0 279), (279, x_iret)]
def CX10_pass (o : ORC) : COD := [(26, CX10_pass_0 o), (52, CX10_pass_1 o), (81, CX10_pass_2 o), (105, CX10_pass_3 o), (133, CX10_pass_4 o), (162, CX10_pass_5 o), (189, CX10_pass_6 o), (213, CX10_pass_7 o), (241, CX10_pass_8 o), (263, CX10_pass_9 o), (280, CX10_pass_10 o)]
def CX10_groundMany_0 (o : ORC) : List (Nat × INS) := [(0, x_const (iv 0) 1), (1, x_istore 1 2), (2, x_const (iv 0) 3), (3, x_istore 2 4), (4, x_iload 2 5), (5, x_aload 0 6), (6, x_getI 10 10 9), (9, x_cge 27 12), (12, x_iload 1 13), (13, x_aload 0 14), (14, x_getR 10 16 17), (17, x_iload 2 18), (18, x_ald 0 19), (19, x_bin (fun x y => x + y) 20), (20, x_istore 1 21), (21, x_iinc 2 1 24)]
def CX10_groundMany_1 (o : ORC) : List (Nat × INS) := [(24, x_goto 4), (27, x_iload 1 28), (28, x_iret)]
def CX10_groundMany (o : ORC) : COD := [(24, CX10_groundMany_0 o), (29, CX10_groundMany_1 o)]
def CX10_dayTruly_0 (o : ORC) : List (Nat × INS) := [(0, x_aload 0 1), (1, x_aload 0 2), (2, x_getR 10 26 5), (5, x_const (iv 27) 7), (7, x_aload 0 8), (8, x_getI 10 25 11), (11, x_bin (fun x y => x * y) 12), (12, x_vV o 173 10 3 15), (15, x_aload 0 16), (16, x_iload 1 17), (17, x_vI o 179 10 2 20), (20, x_iret)]
def CX10_dayTruly (o : ORC) : COD := [(21, CX10_dayTruly_0 o)]
def CX10_day_0 (o : ORC) : List (Nat × INS) := [(0, x_aload 0 1), (1, x_iload 1 2), (2, x_vI o 172 10 2 5), (5, x_ifne 10 8), (8, x_const (iv (-1)) 9), (9, x_iret), (10, x_aload 0 11), (11, x_getI 10 10 14), (14, x_ifne 20 17), (17, x_const (iv (-4)) 19), (19, x_iret), (20, x_aload 0 21), (21, x_getI 10 25 24), (24, x_const (iv 40) 26), (26, x_cne 34 29), (29, x_const (iv (-2)) 31)]
def CX10_day_1 (o : ORC) : List (Nat × INS) := [(31, x_goto 39), (34, x_aload 0 35), (35, x_iload 1 36), (36, x_vI o 181 10 2 39), (39, x_iret)]
def CX10_day (o : ORC) : COD := [(31, CX10_day_0 o), (40, CX10_day_1 o)]
def CX10_undo_0 (o : ORC) : List (Nat × INS) := [(0, x_iload 1 1), (1, x_const (iv 0) 2), (2, x_aload 0 3), (3, x_getI 10 25 6), (6, x_sI o 137 3 9), (9, x_ifne 14 12), (12, x_const (iv (-1)) 13), (13, x_iret), (14, x_aload 0 15), (15, x_getI 10 25 18), (18, x_iload 1 19), (19, x_bin (fun x y => x - y) 20), (20, x_istore 2 21), (21, x_iload 2 22), (22, x_ifle 37 25), (25, x_aload 0 26)]
def CX10_undo_1 (o : ORC) : List (Nat × INS) := [(26, x_aload 0 27), (27, x_getR 10 26 30), (30, x_const (iv 27) 32), (32, x_iload 1 33), (33, x_bin (fun x y => x * y) 34), (34, x_vV o 174 10 3 37), (37, x_iload 2 38), (38, x_iret)]
def CX10_undo (o : ORC) : COD := [(26, CX10_undo_0 o), (39, CX10_undo_1 o)]
def CX10_keep_0 (o : ORC) : List (Nat × INS) := [(0, x_iload 1 1), (1, x_const (iv 0) 2), (2, x_const (iv 2) 3), (3, x_sI o 137 3 6), (6, x_ifne 11 9), (9, x_const (iv (-1)) 10), (10, x_iret), (11, x_aload 0 12), (12, x_getI 10 10 15), (15, x_ifne 21 18), (18, x_const (iv (-4)) 20), (20, x_iret), (21, x_const (iv 1107) 24), (24, x_iload 1 25), (25, x_bin (fun x y => x * y) 26), (26, x_istore 2 27)]
def CX10_keep_1 (o : ORC) : List (Nat × INS) := [(27, x_const (iv 0) 28), (28, x_istore 3 29), (29, x_iload 3 30), (30, x_const (iv 27) 32), (32, x_aload 0 33), (33, x_getI 10 25 36), (36, x_bin (fun x y => x * y) 37), (37, x_cge 60 40), (40, x_aload 0 41), (41, x_getR 10 28 44), (44, x_iload 2 45), (45, x_iload 3 46), (46, x_bin (fun x y => x + y) 47), (47, x_aload 0 48), (48, x_getR 10 26 51), (51, x_iload 3 52)]
def CX10_keep_2 (o : ORC) : List (Nat × INS) := [(52, x_ald 0 53), (53, x_iast 54), (54, x_iinc 3 1 57), (57, x_goto 29), (60, x_aload 0 61), (61, x_aload 0 62), (62, x_getR 10 28 65), (65, x_iload 2 66), (66, x_const (iv 1080) 69), (69, x_bin (fun x y => x + y) 70), (70, x_vV o 173 10 3 73), (73, x_aload 0 74), (74, x_getR 10 27 77), (77, x_iload 1 78), (78, x_const (iv 1) 79), (79, x_iast 80)]
def CX10_keep_3 (o : ORC) : List (Nat × INS) := [(80, x_aload 0 81), (81, x_getI 10 25 84), (84, x_iret)]
def CX10_keep (o : ORC) : COD := [(27, CX10_keep_0 o), (52, CX10_keep_1 o), (80, CX10_keep_2 o), (85, CX10_keep_3 o)]
def CX10_on_0 (o : ORC) : List (Nat × INS) := [(0, x_iload 1 1), (1, x_const (iv 0) 2), (2, x_const (iv 2) 3), (3, x_sI o 137 3 6), (6, x_ifne 11 9), (9, x_const (iv (-1)) 10), (10, x_iret), (11, x_aload 0 12), (12, x_getR 10 27 15), (15, x_iload 1 16), (16, x_ald 0 17), (17, x_ifne 26 20), (20, x_aload 0 21), (21, x_const (iv 1) 22), (22, x_vI o 138 10 2 25), (25, x_iret)]
def CX10_on_1 (o : ORC) : List (Nat × INS) := [(26, x_const (iv 1107) 29), (29, x_iload 1 30), (30, x_bin (fun x y => x * y) 31), (31, x_istore 2 32), (32, x_aload 0 33), (33, x_aload 0 34), (34, x_getR 10 28 37), (37, x_iload 2 38), (38, x_const (iv 1080) 41), (41, x_bin (fun x y => x + y) 42), (42, x_vV o 174 10 3 45), (45, x_const (iv 0) 46), (46, x_istore 3 47), (47, x_iload 3 48), (48, x_const (iv 27) 50), (50, x_aload 0 51)]
def CX10_on_2 (o : ORC) : List (Nat × INS) := [(51, x_getI 10 25 54), (54, x_bin (fun x y => x * y) 55), (55, x_cge 78 58), (58, x_aload 0 59), (59, x_getR 10 26 62), (62, x_iload 3 63), (63, x_aload 0 64), (64, x_getR 10 28 67), (67, x_iload 2 68), (68, x_iload 3 69), (69, x_bin (fun x y => x + y) 70), (70, x_ald 0 71), (71, x_iast 72), (72, x_iinc 3 1 75), (75, x_goto 47), (78, x_aload 0 79)]
def CX10_on_3 (o : ORC) : List (Nat × INS) := [(79, x_getI 10 25 82), (82, x_iret)]
def CX10_on (o : ORC) : COD := [(26, CX10_on_0 o), (51, CX10_on_1 o), (79, CX10_on_2 o), (83, CX10_on_3 o)]
def CX10_reachOf_0 (o : ORC) : List (Nat × INS) := [(0, x_iload 2 1), (1, x_sw [(0, 32), (1, 39), (2, 46), (3, 53)] 60), (32, x_aload 0 33), (33, x_getR 10 13 36), (36, x_iload 1 37), (37, x_ald 0 38), (38, x_iret), (39, x_aload 0 40), (40, x_getR 10 14 43), (43, x_iload 1 44), (44, x_ald 0 45), (45, x_iret), (46, x_aload 0 47), (47, x_getR 10 15 50), (50, x_iload 1 51), (51, x_ald 0 52)]
def CX10_reachOf_1 (o : ORC) : List (Nat × INS) := [(52, x_iret), (53, x_aload 0 54), (54, x_getR 10 16 57), (57, x_iload 1 58), (58, x_ald 0 59), (59, x_iret), (60, x_aload 0 61), (61, x_getR 10 17 64), (64, x_iload 1 65), (65, x_ald 0 66), (66, x_iret)]
def CX10_reachOf (o : ORC) : COD := [(52, CX10_reachOf_0 o), (67, CX10_reachOf_1 o)]
def CX10_reach_0 (o : ORC) : List (Nat × INS) := [(0, x_aload 0 1), (1, x_iload 1 2), (2, x_vI o 169 10 2 5), (5, x_ifeq 31 8), (8, x_iload 2 9), (9, x_const (iv 0) 10), (10, x_const (iv 4) 11), (11, x_sI o 137 3 14), (14, x_ifeq 31 17), (17, x_aload 0 18), (18, x_aload 0 19), (19, x_iload 1 20), (20, x_iload 2 21), (21, x_vI o 186 10 3 24), (24, x_const (iv 1) 25), (25, x_vI o 139 10 3 28)]
def CX10_reach_1 (o : ORC) : List (Nat × INS) := [(28, x_goto 32), (31, x_const (iv (-1)) 32), (32, x_iret)]
def CX10_reach (o : ORC) : COD := [(28, CX10_reach_0 o), (33, CX10_reach_1 o)]
def CX10_isA_0 (o : ORC) : List (Nat × INS) := [(0, x_aload 0 1), (1, x_getR 10 13 4), (4, x_iload 1 5), (5, x_ald 0 6), (6, x_iload 2 7), (7, x_ceq 44 10), (10, x_iload 2 11), (11, x_const (iv 1) 12), (12, x_cne 27 15), (15, x_aload 0 16), (16, x_getR 10 13 19), (19, x_iload 1 20), (20, x_ald 0 21), (21, x_sI o 162 1 24), (24, x_ifne 44 27), (27, x_iload 2 28)]
def CX10_isA_1 (o : ORC) : List (Nat × INS) := [(28, x_const (iv 2) 29), (29, x_cne 48 32), (32, x_aload 0 33), (33, x_getR 10 13 36), (36, x_iload 1 37), (37, x_ald 0 38), (38, x_sI o 163 1 41), (41, x_ifeq 48 44), (44, x_const (iv 1) 45), (45, x_goto 49), (48, x_const (iv 0) 49), (49, x_zret)]
def CX10_isA (o : ORC) : COD := [(28, CX10_isA_0 o), (50, CX10_isA_1 o)]
def CX10_mark_0 (o : ORC) : List (Nat × INS) := [(0, x_aload 0 1), (1, x_iload 1 2), (2, x_vI o 169 10 2 5), (5, x_ifeq 17 8), (8, x_iload 2 9), (9, x_const (iv 1) 10), (10, x_const (iv 5) 11), (11, x_sI o 137 3 14), (14, x_ifne 19 17), (17, x_const (iv (-1)) 18), (18, x_iret), (19, x_aload 0 20), (20, x_iload 1 21), (21, x_iload 2 22), (22, x_vI o 188 10 3 25), (25, x_ifne 34 28)]
def CX10_mark_1 (o : ORC) : List (Nat × INS) := [(28, x_aload 0 29), (29, x_const (iv 3) 30), (30, x_vI o 138 10 2 33), (33, x_iret), (34, x_aload 0 35), (35, x_getR 10 15 38), (38, x_iload 1 39), (39, x_ald 0 40), (40, x_istore 3 41), (41, x_aload 0 42), (42, x_getR 10 14 45), (45, x_iload 1 46), (46, x_ald 0 47), (47, x_istore 4 49), (49, x_iload 2 50), (50, x_sw [(1, 80), (2, 93), (3, 102), (4, 104)] 114)]
def CX10_mark_2 (o : ORC) : List (Nat × INS) := [(80, x_iload 3 81), (81, x_iload 4 83), (83, x_cge 90 86), (86, x_iload 3 87), (87, x_goto 92), (90, x_iload 4 92), (92, x_iret), (93, x_const (iv 0) 94), (94, x_iload 4 96), (96, x_iload 3 97), (97, x_bin (fun x y => x - y) 98), (98, x_sI o 141 2 101), (101, x_iret), (102, x_iload 3 103), (103, x_iret), (104, x_iload 3 105)]
def CX10_mark_3 (o : ORC) : List (Nat × INS) := [(105, x_iload 4 107), (107, x_bin (fun x y => x + y) 108), (108, x_const (iv 1) 109), (109, x_bin (fun x y => x - y) 110), (110, x_iload 4 112), (112, x_dv (fun x y => x / y) 113), (113, x_iret), (114, x_const (iv 0) 115), (115, x_iload 3 116), (116, x_iload 4 118), (118, x_bin (fun x y => x - y) 119), (119, x_const (iv 2) 120), (120, x_bin (fun x y => x - y) 121), (121, x_sI o 141 2 124), (124, x_iret)]
def CX10_mark (o : ORC) : COD := [(28, CX10_mark_0 o), (80, CX10_mark_1 o), (105, CX10_mark_2 o), (125, CX10_mark_3 o)]
def CX10_weekday_0 (o : ORC) : List (Nat × INS) := [(0, x_iload 1 1), (1, x_sI o 170 1 4), (4, x_ifeq 16 7), (7, x_iload 2 8), (8, x_const (iv 0) 9), (9, x_const (iv 1) 10), (10, x_sI o 137 3 13), (13, x_ifne 18 16), (16, x_const (iv (-1)) 17), (17, x_iret), (18, x_aload 0 19), (19, x_getI 10 10 22), (22, x_ifne 30 25), (25, x_const (iv (-4)) 27), (27, x_goto 49), (30, x_iload 2 31)]
def CX10_weekday_1 (o : ORC) : List (Nat × INS) := [(31, x_ifne 43 34), (34, x_aload 0 35), (35, x_getR 10 11 38), (38, x_iload 1 39), (39, x_ald 0 40), (40, x_goto 49), (43, x_aload 0 44), (44, x_getR 10 12 47), (47, x_iload 1 48), (48, x_ald 0 49), (49, x_iret)]
def CX10_weekday (o : ORC) : COD := [(31, CX10_weekday_0 o), (50, CX10_weekday_1 o)]
def CX10_swap_0 (o : ORC) : List (Nat × INS) := [(0, x_iload 1 1), (1, x_sI o 170 1 4), (4, x_ifeq 19 7), (7, x_iload 2 8), (8, x_sI o 170 1 11), (11, x_ifeq 19 14), (14, x_iload 1 15), (15, x_iload 2 16), (16, x_cne 21 19), (19, x_const (iv (-1)) 20), (20, x_iret), (21, x_aload 0 22), (22, x_getI 10 10 25), (25, x_ifne 31 28), (28, x_const (iv (-4)) 30), (30, x_iret)]
def CX10_swap_1 (o : ORC) : List (Nat × INS) := [(31, x_aload 0 32), (32, x_getR 10 12 35), (35, x_iload 1 36), (36, x_ald 0 37), (37, x_istore 3 38), (38, x_aload 0 39), (39, x_getR 10 12 42), (42, x_iload 1 43), (43, x_aload 0 44), (44, x_getR 10 12 47), (47, x_iload 2 48), (48, x_ald 0 49), (49, x_iast 50), (50, x_aload 0 51), (51, x_getR 10 12 54), (54, x_iload 2 55)]
def CX10_swap_2 (o : ORC) : List (Nat × INS) := [(55, x_iload 3 56), (56, x_iast 57), (57, x_const (iv 1) 58), (58, x_iret)]
def CX10_swap (o : ORC) : COD := [(31, CX10_swap_0 o), (55, CX10_swap_1 o), (59, CX10_swap_2 o)]
def CX10_owns_0 (o : ORC) : List (Nat × INS) := [(0, x_iload 1 1), (1, x_sI o 170 1 4), (4, x_ifeq 16 7), (7, x_aload 0 8), (8, x_getR 10 19 11), (11, x_iload 1 12), (12, x_ald 0 13), (13, x_goto 17), (16, x_const (iv (-1)) 17), (17, x_iret)]
def CX10_owns (o : ORC) : COD := [(18, CX10_owns_0 o)]
def CX10_gates_0 (o : ORC) : List (Nat × INS) := [(0, x_aload 0 1), (1, x_vI o 171 10 1 4), (4, x_iret)]
def CX10_gates (o : ORC) : COD := [(5, CX10_gates_0 o)]
def CX10_runs_0 (o : ORC) : List (Nat × INS) := [(0, x_aload 0 1), (1, x_iload 1 2), (2, x_vI o 172 10 2 5), (5, x_ifne 10 8), (8, x_const (iv (-1)) 9), (9, x_iret), (10, x_aload 0 11), (11, x_getI 10 10 14), (14, x_ifne 20 17), (17, x_const (iv (-4)) 19), (19, x_iret), (20, x_aload 0 21), (21, x_vV o 175 10 1 24), (24, x_aload 0 25), (25, x_iload 1 26), (26, x_vI o 179 10 2 29)]
def CX10_runs_1 (o : ORC) : List (Nat × INS) := [(29, x_istore 2 30), (30, x_aload 0 31), (31, x_vV o 176 10 1 34), (34, x_aload 0 35), (35, x_aload 0 36), (36, x_getI 10 31 39), (39, x_iload 2 40), (40, x_vI o 139 10 3 43), (43, x_iret)]
def CX10_runs (o : ORC) : COD := [(29, CX10_runs_0 o), (44, CX10_runs_1 o)]
def CX10_askedPlan_0 (o : ORC) : List (Nat × INS) := [(0, x_iload 1 1), (1, x_sI o 143 1 4), (4, x_ifne 9 7), (7, x_const (iv (-1)) 8), (8, x_iret), (9, x_aload 0 10), (10, x_getI 10 10 13), (13, x_ifne 19 16), (16, x_const (iv (-4)) 18), (18, x_iret), (19, x_aload 0 20), (20, x_getR 10 5 23), (23, x_iload 1 24), (24, x_ald 0 25), (25, x_ifge 34 28), (28, x_aload 0 29)]
def CX10_askedPlan_1 (o : ORC) : List (Nat × INS) := [(29, x_const (iv 1) 30), (30, x_vI o 138 10 2 33), (33, x_iret), (34, x_aload 0 35), (35, x_getR 10 5 38), (38, x_iload 1 39), (39, x_ald 0 40), (40, x_iload 2 41), (41, x_cle 50 44), (44, x_aload 0 45), (45, x_const (iv 5) 46), (46, x_vI o 138 10 2 49), (49, x_iret), (50, x_const (iv 0) 51), (51, x_istore 3 52), (52, x_iload 3 53)]
def CX10_askedPlan_2 (o : ORC) : List (Nat × INS) := [(53, x_aload 0 54), (54, x_getR 10 5 57), (57, x_iload 1 58), (58, x_ald 0 59), (59, x_cge 87 62), (62, x_aload 0 63), (63, x_aload 0 64), (64, x_iload 1 65), (65, x_iload 3 66), (66, x_vI o 147 10 3 69), (69, x_vI o 172 10 2 72), (72, x_ifne 81 75), (75, x_aload 0 76), (76, x_const (iv 3) 77), (77, x_vI o 138 10 2 80), (80, x_iret)]
def CX10_askedPlan_3 (o : ORC) : List (Nat × INS) := [(81, x_iinc 3 1 84), (84, x_goto 52), (87, x_const (iv 0) 88), (88, x_iret)]
def CX10_askedPlan (o : ORC) : COD := [(29, CX10_askedPlan_0 o), (53, CX10_askedPlan_1 o), (81, CX10_askedPlan_2 o), (89, CX10_askedPlan_3 o)]
def CX10_sea_0 (o : ORC) : List (Nat × INS) := [(0, x_aload 0 1), (1, x_iload 1 2), (2, x_const (iv 12) 4), (4, x_vI o 195 10 3 7), (7, x_istore 2 8), (8, x_iload 2 9), (9, x_ifge 14 12), (12, x_iload 2 13), (13, x_iret), (14, x_aload 0 15), (15, x_vI o 180 10 1 18), (18, x_istore 3 19), (19, x_aload 0 20), (20, x_vV o 175 10 1 23), (23, x_const (iv 0) 24), (24, x_istore 4 26)]
def CX10_sea_1 (o : ORC) : List (Nat × INS) := [(26, x_const (iv 0) 27), (27, x_istore 5 29), (29, x_iload 5 31), (31, x_aload 0 32), (32, x_getR 10 5 35), (35, x_iload 1 36), (36, x_ald 0 37), (37, x_cge 62 40), (40, x_iload 4 42), (42, x_aload 0 43), (43, x_aload 0 44), (44, x_iload 1 45), (45, x_iload 5 47), (47, x_vI o 147 10 3 50), (50, x_vI o 179 10 2 53), (53, x_bin (fun x y => x + y) 54)]
def CX10_sea_2 (o : ORC) : List (Nat × INS) := [(54, x_istore 4 56), (56, x_iinc 5 1 59), (59, x_goto 29), (62, x_aload 0 63), (63, x_vI o 180 10 1 66), (66, x_iload 3 67), (67, x_bin (fun x y => x - y) 68), (68, x_istore 5 70), (70, x_aload 0 71), (71, x_vV o 176 10 1 74), (74, x_aload 0 75), (75, x_iload 5 77), (77, x_iload 4 79), (79, x_vI o 139 10 3 82), (82, x_iret)]
def CX10_sea (o : ORC) : COD := [(26, CX10_sea_0 o), (54, CX10_sea_1 o), (83, CX10_sea_2 o)]
def CX10_water_0 (o : ORC) : List (Nat × INS) := [(0, x_iload 2 1), (1, x_sI o 143 1 4), (4, x_ifeq 15 7), (7, x_aload 0 8), (8, x_iload 1 9), (9, x_vI o 169 10 2 12), (12, x_ifne 17 15), (15, x_const (iv (-1)) 16), (16, x_iret), (17, x_aload 0 18), (18, x_iload 2 19), (19, x_const (iv 12) 21), (21, x_vI o 195 10 3 24), (24, x_istore 3 25), (25, x_iload 3 26), (26, x_ifge 31 29)]
def CX10_water_1 (o : ORC) : List (Nat × INS) := [(29, x_iload 3 30), (30, x_iret), (31, x_aload 0 32), (32, x_vV o 175 10 1 35), (35, x_const (iv 0) 36), (36, x_istore 4 38), (38, x_iload 4 40), (40, x_aload 0 41), (41, x_getR 10 5 44), (44, x_iload 2 45), (45, x_ald 0 46), (46, x_cge 67 49), (49, x_aload 0 50), (50, x_aload 0 51), (51, x_iload 2 52), (52, x_iload 4 54)]
def CX10_water_2 (o : ORC) : List (Nat × INS) := [(54, x_vI o 147 10 3 57), (57, x_vI o 179 10 2 60), (60, x_pop 61), (61, x_iinc 4 1 64), (64, x_goto 38), (67, x_aload 0 68), (68, x_getR 10 15 71), (71, x_iload 1 72), (72, x_ald 0 73), (73, x_istore 4 75), (75, x_aload 0 76), (76, x_vV o 176 10 1 79), (79, x_iload 4 81), (81, x_iret)]
def CX10_water (o : ORC) : COD := [(29, CX10_water_0 o), (54, CX10_water_1 o), (82, CX10_water_2 o)]
def CX10_share_0 (o : ORC) : List (Nat × INS) := [(0, x_iload 1 1), (1, x_sI o 170 1 4), (4, x_ifne 9 7), (7, x_const (iv (-1)) 8), (8, x_iret), (9, x_aload 0 10), (10, x_iload 2 11), (11, x_const (iv 12) 13), (13, x_vI o 195 10 3 16), (16, x_istore 3 17), (17, x_iload 3 18), (18, x_ifge 23 21), (21, x_iload 3 22), (22, x_iret), (23, x_aload 0 24), (24, x_getR 10 19 27)]
def CX10_share_1 (o : ORC) : List (Nat × INS) := [(27, x_iload 1 28), (28, x_ald 0 29), (29, x_istore 4 31), (31, x_aload 0 32), (32, x_vV o 175 10 1 35), (35, x_const (iv 0) 36), (36, x_istore 5 38), (38, x_iload 5 40), (40, x_aload 0 41), (41, x_getR 10 5 44), (44, x_iload 2 45), (45, x_ald 0 46), (46, x_cge 67 49), (49, x_aload 0 50), (50, x_aload 0 51), (51, x_iload 2 52)]
def CX10_share_2 (o : ORC) : List (Nat × INS) := [(52, x_iload 5 54), (54, x_vI o 147 10 3 57), (57, x_vI o 179 10 2 60), (60, x_pop 61), (61, x_iinc 5 1 64), (64, x_goto 38), (67, x_aload 0 68), (68, x_getR 10 19 71), (71, x_iload 1 72), (72, x_ald 0 73), (73, x_iload 4 75), (75, x_bin (fun x y => x - y) 76), (76, x_istore 5 78), (78, x_aload 0 79), (79, x_vV o 176 10 1 82), (82, x_iload 5 84)]
def CX10_share_3 (o : ORC) : List (Nat × INS) := [(84, x_iret)]
def CX10_share (o : ORC) : COD := [(27, CX10_share_0 o), (52, CX10_share_1 o), (84, CX10_share_2 o), (85, CX10_share_3 o)]
def CX10_grinds_0 (o : ORC) : List (Nat × INS) := [(0, x_aload 0 1), (1, x_iload 1 2), (2, x_vI o 169 10 2 5), (5, x_ifne 10 8), (8, x_const (iv (-1)) 9), (9, x_iret), (10, x_aload 0 11), (11, x_vV o 175 10 1 14), (14, x_const (iv 0) 15), (15, x_istore 2 16), (16, x_const (iv 0) 17), (17, x_istore 3 18), (18, x_iload 3 19), (19, x_ifne 49 22), (22, x_iload 2 23), (23, x_const (iv 40) 25)]
def CX10_grinds_1 (o : ORC) : List (Nat × INS) := [(25, x_cge 49 28), (28, x_aload 0 29), (29, x_const (iv 0) 30), (30, x_vI o 179 10 2 33), (33, x_pop 34), (34, x_iinc 2 1 37), (37, x_aload 0 38), (38, x_getI 10 31 41), (41, x_iload 1 42), (42, x_sI o 140 2 45), (45, x_istore 3 46), (46, x_goto 18), (49, x_aload 0 50), (50, x_vV o 176 10 1 53), (53, x_iload 3 54), (54, x_ifeq 61 57)]
def CX10_grinds_2 (o : ORC) : List (Nat × INS) := [(57, x_iload 2 58), (58, x_goto 63), (61, x_const (iv (-9)) 63), (63, x_iret)]
def CX10_grinds (o : ORC) : COD := [(25, CX10_grinds_0 o), (57, CX10_grinds_1 o), (64, CX10_grinds_2 o)]
def CX10_setSets_0 (o : ORC) : List (Nat × INS) := [(0, x_aload 0 1), (1, x_vI o 171 10 1 4), (4, x_istore 1 5), (5, x_aload 0 6), (6, x_const (iv 0) 7), (7, x_putI 10 34 10), (10, x_const (iv 0) 11), (11, x_istore 2 12), (12, x_iload 2 13), (13, x_iload 1 14), (14, x_cgt 51 17), (17, x_iload 2 18), (18, x_iload 1 19), (19, x_const (iv (-1)) 20), (20, x_bin (fun x y => x ^^^ y) 21), (21, x_bin (fun x y => x &&& y) 22)]
def CX10_setSets_1 (o : ORC) : List (Nat × INS) := [(22, x_ifne 45 25), (25, x_aload 0 26), (26, x_getR 10 33 29), (29, x_aload 0 30), (30, x_getI 10 34 33), (33, x_iload 2 34), (34, x_iast 35), (35, x_aload 0 36), (36, x_dup 37), (37, x_getI 10 34 40), (40, x_const (iv 1) 41), (41, x_bin (fun x y => x + y) 42), (42, x_putI 10 34 45), (45, x_iinc 2 1 48), (48, x_goto 12), (51, x_vret)]
def CX10_setSets (o : ORC) : COD := [(22, CX10_setSets_0 o), (52, CX10_setSets_1 o)]
def CX10_plans_0 (o : ORC) : List (Nat × INS) := [(0, x_const (iv 1) 1), (1, x_istore 2 2), (2, x_const (iv 0) 3), (3, x_istore 3 4), (4, x_iload 3 5), (5, x_iload 1 6), (6, x_cge 22 9), (9, x_iload 2 10), (10, x_aload 0 11), (11, x_getI 10 34 14), (14, x_bin (fun x y => x * y) 15), (15, x_istore 2 16), (16, x_iinc 3 1 19), (19, x_goto 4), (22, x_iload 2 23), (23, x_iret)]
def CX10_plans (o : ORC) : COD := [(24, CX10_plans_0 o)]
def CX10_setOf_0 (o : ORC) : List (Nat × INS) := [(0, x_iload 1 1), (1, x_istore 4 3), (3, x_iload 2 4), (4, x_const (iv 1) 5), (5, x_bin (fun x y => x - y) 6), (6, x_istore 5 8), (8, x_iload 5 10), (10, x_iload 3 11), (11, x_cle 29 14), (14, x_iload 4 16), (16, x_aload 0 17), (17, x_getI 10 34 20), (20, x_dv (fun x y => x / y) 21), (21, x_istore 4 23), (23, x_iinc 5 (-1) 26), (26, x_goto 8)]
def CX10_setOf_1 (o : ORC) : List (Nat × INS) := [(29, x_aload 0 30), (30, x_getR 10 33 33), (33, x_iload 4 35), (35, x_aload 0 36), (36, x_getI 10 34 39), (39, x_dv (fun x y => x - x / y * y) 40), (40, x_ald 0 41), (41, x_iret)]
def CX10_setOf (o : ORC) : COD := [(29, CX10_setOf_0 o), (42, CX10_setOf_1 o)]
def CX10_layPlan_0 (o : ORC) : List (Nat × INS) := [(0, x_aload 0 1), (1, x_getR 10 5 4), (4, x_iload 3 5), (5, x_iload 2 6), (6, x_iast 7), (7, x_const (iv 0) 8), (8, x_istore 4 10), (10, x_iload 4 12), (12, x_const (iv 40) 14), (14, x_cge 48 17), (17, x_aload 0 18), (18, x_iload 3 19), (19, x_iload 4 21), (21, x_iload 4 23), (23, x_iload 2 24), (24, x_cge 38 27)]
def CX10_layPlan_1 (o : ORC) : List (Nat × INS) := [(27, x_aload 0 28), (28, x_iload 1 29), (29, x_iload 2 30), (30, x_iload 4 32), (32, x_vI o 202 10 4 35), (35, x_goto 39), (38, x_const (iv 0) 39), (39, x_vV o 148 10 4 42), (42, x_iinc 4 1 45), (45, x_goto 10), (48, x_vret)]
def CX10_layPlan (o : ORC) : COD := [(27, CX10_layPlan_0 o), (49, CX10_layPlan_1 o)]
def CX10_bits_0 (o : ORC) : List (Nat × INS) := [(0, x_const (iv 0) 1), (1, x_istore 1 2), (2, x_const (iv 0) 3), (3, x_istore 2 4), (4, x_iload 2 5), (5, x_const (iv 6) 7), (7, x_cge 24 10), (10, x_iload 1 11), (11, x_iload 0 12), (12, x_iload 2 13), (13, x_bin (fun x y => x >>> (y &&& 31)) 14), (14, x_const (iv 1) 15), (15, x_bin (fun x y => x &&& y) 16), (16, x_bin (fun x y => x + y) 17), (17, x_istore 1 18), (18, x_iinc 2 1 21)]
def CX10_bits_1 (o : ORC) : List (Nat × INS) := [(21, x_goto 4), (24, x_iload 1 25), (25, x_iret)]
def CX10_bits (o : ORC) : COD := [(21, CX10_bits_0 o), (26, CX10_bits_1 o)]
def CX10_best_0 (o : ORC) : List (Nat × INS) := [(0, x_iload 1 1), (1, x_const (iv 0) 2), (2, x_const (iv 4) 3), (3, x_sI o 137 3 6), (6, x_ifeq 16 9), (9, x_iload 2 10), (10, x_sI o 143 1 13), (13, x_ifne 18 16), (16, x_const (iv (-1)) 17), (17, x_iret), (18, x_aload 0 19), (19, x_getI 10 10 22), (22, x_ifne 28 25), (25, x_const (iv (-4)) 27), (27, x_iret), (28, x_aload 0 29)]
def CX10_best_1 (o : ORC) : List (Nat × INS) := [(29, x_vV o 200 10 1 32), (32, x_aload 0 33), (33, x_vI o 180 10 1 36), (36, x_istore 3 37), (37, x_const (iv 0) 38), (38, x_istore 4 40), (40, x_const (iv (-1)) 41), (41, x_istore 5 43), (43, x_aload 0 44), (44, x_vV o 175 10 1 47), (47, x_const (iv 0) 48), (48, x_istore 6 50), (50, x_iload 6 52), (52, x_aload 0 53), (53, x_iload 1 54), (54, x_vI o 201 10 2 57)]
def CX10_best_2 (o : ORC) : List (Nat × INS) := [(57, x_cge 132 60), (60, x_const (iv 0) 61), (61, x_istore 7 63), (63, x_iload 7 65), (65, x_iload 1 66), (66, x_cge 89 69), (69, x_aload 0 70), (70, x_aload 0 71), (71, x_iload 6 73), (73, x_iload 1 74), (74, x_iload 7 76), (76, x_vI o 202 10 4 79), (79, x_vI o 179 10 2 82), (82, x_pop 83), (83, x_iinc 7 1 86), (86, x_goto 63)]
def CX10_best_3 (o : ORC) : List (Nat × INS) := [(89, x_aload 0 90), (90, x_vI o 180 10 1 93), (93, x_iload 3 94), (94, x_bin (fun x y => x - y) 95), (95, x_istore 7 97), (97, x_iload 7 99), (99, x_iload 5 101), (101, x_cle 109 104), (104, x_iload 6 106), (106, x_goto 111), (109, x_iload 4 111), (111, x_istore 4 113), (113, x_iload 5 115), (115, x_iload 7 117), (117, x_sI o 141 2 120), (120, x_istore 5 122)]
def CX10_best_4 (o : ORC) : List (Nat × INS) := [(122, x_aload 0 123), (123, x_vV o 176 10 1 126), (126, x_iinc 6 1 129), (129, x_goto 50), (132, x_aload 0 133), (133, x_iload 4 135), (135, x_iload 1 136), (136, x_iload 2 137), (137, x_vV o 203 10 4 140), (140, x_iload 5 142), (142, x_iret)]
def CX10_best (o : ORC) : COD := [(29, CX10_best_0 o), (57, CX10_best_1 o), (89, CX10_best_2 o), (122, CX10_best_3 o), (143, CX10_best_4 o)]
def CX10_millSet_0 (o : ORC) : List (Nat × INS) := [(0, x_const (iv 0) 1), (1, x_istore 1 2), (2, x_const (iv 0) 3), (3, x_istore 2 4), (4, x_iload 2 5), (5, x_aload 0 6), (6, x_getI 10 10 9), (9, x_cge 40 12), (12, x_iload 1 13), (13, x_aload 0 14), (14, x_getR 10 13 17), (17, x_iload 2 18), (18, x_ald 0 19), (19, x_sI o 163 1 22), (22, x_ifeq 31 25), (25, x_const (iv 1) 26)]
def CX10_millSet_1 (o : ORC) : List (Nat × INS) := [(26, x_iload 2 27), (27, x_bin (fun x y => x <<< (y &&& 31)) 28), (28, x_goto 32), (31, x_const (iv 0) 32), (32, x_bin (fun x y => x ||| y) 33), (33, x_istore 1 34), (34, x_iinc 2 1 37), (37, x_goto 4), (40, x_iload 1 41), (41, x_iret)]
def CX10_millSet (o : ORC) : COD := [(26, CX10_millSet_0 o), (42, CX10_millSet_1 o)]
def CX10_all_0 (o : ORC) : List (Nat × INS) := [(0, x_iload 1 1), (1, x_const (iv 0) 2), (2, x_const (iv 4) 3), (3, x_sI o 137 3 6), (6, x_ifeq 16 9), (9, x_iload 2 10), (10, x_sI o 143 1 13), (13, x_ifne 18 16), (16, x_const (iv (-1)) 17), (17, x_iret), (18, x_aload 0 19), (19, x_getI 10 10 22), (22, x_ifne 28 25), (25, x_const (iv (-4)) 27), (27, x_iret), (28, x_aload 0 29)]
def CX10_all_1 (o : ORC) : List (Nat × INS) := [(29, x_vV o 200 10 1 32), (32, x_aload 0 33), (33, x_vI o 206 10 1 36), (36, x_istore 3 37), (37, x_const (iv (-9)) 39), (39, x_istore 4 41), (41, x_const (iv 1048576) 44), (44, x_istore 5 46), (46, x_aload 0 47), (47, x_vV o 175 10 1 50), (50, x_const (iv 0) 51), (51, x_istore 6 53), (53, x_iload 6 55), (55, x_aload 0 56), (56, x_iload 1 57), (57, x_vI o 201 10 2 60)]
def CX10_all_2 (o : ORC) : List (Nat × INS) := [(60, x_cge 165 63), (63, x_const (iv 0) 64), (64, x_istore 7 66), (66, x_const (iv 1) 67), (67, x_istore 8 69), (69, x_const (iv 0) 70), (70, x_istore 9 72), (72, x_iload 9 74), (74, x_iload 1 75), (75, x_cge 135 78), (78, x_iload 8 80), (80, x_ifeq 135 83), (83, x_aload 0 84), (84, x_aload 0 85), (85, x_iload 6 87), (87, x_iload 1 88)]
def CX10_all_3 (o : ORC) : List (Nat × INS) := [(88, x_iload 9 90), (90, x_vI o 202 10 4 93), (93, x_vI o 179 10 2 96), (96, x_pop 97), (97, x_iload 7 99), (99, x_aload 0 100), (100, x_iload 6 102), (102, x_iload 1 103), (103, x_iload 9 105), (105, x_vI o 202 10 4 108), (108, x_sI o 204 1 111), (111, x_bin (fun x y => x + y) 112), (112, x_istore 7 114), (114, x_aload 0 115), (115, x_getI 10 31 118), (118, x_iload 3 119)]
def CX10_all_4 (o : ORC) : List (Nat × INS) := [(119, x_cne 126 122), (122, x_const (iv 1) 123), (123, x_goto 127), (126, x_const (iv 0) 127), (127, x_istore 8 129), (129, x_iinc 9 1 132), (132, x_goto 72), (135, x_iload 8 137), (137, x_ifeq 155 140), (140, x_iload 7 142), (142, x_iload 5 144), (144, x_cge 155 147), (147, x_iload 7 149), (149, x_istore 5 151), (151, x_iload 6 153), (153, x_istore 4 155)]
def CX10_all_5 (o : ORC) : List (Nat × INS) := [(155, x_aload 0 156), (156, x_vV o 176 10 1 159), (159, x_iinc 6 1 162), (162, x_goto 53), (165, x_iload 4 167), (167, x_const (iv (-9)) 169), (169, x_cne 175 172), (172, x_const (iv (-9)) 174), (174, x_iret), (175, x_aload 0 176), (176, x_iload 4 178), (178, x_iload 1 179), (179, x_iload 2 180), (180, x_vV o 203 10 4 183), (183, x_iload 5 185), (185, x_iret)]
def CX10_all (o : ORC) : COD := [(29, CX10_all_0 o), (60, CX10_all_1 o), (88, CX10_all_2 o), (119, CX10_all_3 o), (155, CX10_all_4 o), (186, CX10_all_5 o)]
def CX10_most_0 (o : ORC) : List (Nat × INS) := [(0, x_iload 1 1), (1, x_sI o 170 1 4), (4, x_ifeq 16 7), (7, x_iload 2 8), (8, x_const (iv 0) 9), (9, x_const (iv 4) 10), (10, x_sI o 137 3 13), (13, x_ifne 18 16), (16, x_const (iv (-1)) 17), (17, x_iret), (18, x_aload 0 19), (19, x_getI 10 10 22), (22, x_ifne 28 25), (25, x_const (iv (-4)) 27), (27, x_iret), (28, x_aload 0 29)]
def CX10_most_1 (o : ORC) : List (Nat × INS) := [(29, x_vV o 200 10 1 32), (32, x_aload 0 33), (33, x_getR 10 19 36), (36, x_iload 1 37), (37, x_ald 0 38), (38, x_istore 3 39), (39, x_const (iv 0) 40), (40, x_istore 4 42), (42, x_aload 0 43), (43, x_vV o 175 10 1 46), (46, x_const (iv 0) 47), (47, x_istore 5 49), (49, x_iload 5 51), (51, x_aload 0 52), (52, x_iload 2 53), (53, x_vI o 201 10 2 56)]
def CX10_most_2 (o : ORC) : List (Nat × INS) := [(56, x_cge 113 59), (59, x_const (iv 0) 60), (60, x_istore 6 62), (62, x_iload 6 64), (64, x_iload 2 65), (65, x_cge 88 68), (68, x_aload 0 69), (69, x_aload 0 70), (70, x_iload 5 72), (72, x_iload 2 73), (73, x_iload 6 75), (75, x_vI o 202 10 4 78), (78, x_vI o 179 10 2 81), (81, x_pop 82), (82, x_iinc 6 1 85), (85, x_goto 62)]
def CX10_most_3 (o : ORC) : List (Nat × INS) := [(88, x_iload 4 90), (90, x_aload 0 91), (91, x_getR 10 19 94), (94, x_iload 1 95), (95, x_ald 0 96), (96, x_iload 3 97), (97, x_bin (fun x y => x - y) 98), (98, x_sI o 141 2 101), (101, x_istore 4 103), (103, x_aload 0 104), (104, x_vV o 176 10 1 107), (107, x_iinc 5 1 110), (110, x_goto 49), (113, x_iload 4 115), (115, x_iret)]
def CX10_most (o : ORC) : COD := [(29, CX10_most_0 o), (56, CX10_most_1 o), (88, CX10_most_2 o), (116, CX10_most_3 o)]
def CX10_worth_0 (o : ORC) : List (Nat × INS) := [(0, x_iload 1 1), (1, x_const (iv 0) 2), (2, x_const (iv 20) 4), (4, x_sI o 137 3 7), (7, x_ifne 12 10), (10, x_const (iv (-1)) 11), (11, x_iret), (12, x_aload 0 13), (13, x_getI 10 10 16), (16, x_ifne 22 19), (19, x_const (iv (-4)) 21), (21, x_iret), (22, x_aload 0 23), (23, x_vI o 180 10 1 26), (26, x_istore 2 27), (27, x_const (iv 0) 28)]
def CX10_worth_1 (o : ORC) : List (Nat × INS) := [(28, x_istore 3 29), (29, x_const (iv 1048576) 32), (32, x_istore 4 34), (34, x_aload 0 35), (35, x_vV o 175 10 1 38), (38, x_const (iv 0) 39), (39, x_istore 5 41), (41, x_iload 5 43), (43, x_const (iv 7) 45), (45, x_cge 123 48), (48, x_aload 0 49), (49, x_iload 5 51), (51, x_putI 10 32 54), (54, x_const (iv 0) 55), (55, x_istore 6 57), (57, x_iload 6 59)]
def CX10_worth_2 (o : ORC) : List (Nat × INS) := [(59, x_iload 1 60), (60, x_cge 75 63), (63, x_aload 0 64), (64, x_const (iv 0) 65), (65, x_vI o 179 10 2 68), (68, x_pop 69), (69, x_iinc 6 1 72), (72, x_goto 57), (75, x_aload 0 76), (76, x_vI o 180 10 1 79), (79, x_iload 2 80), (80, x_bin (fun x y => x - y) 81), (81, x_istore 6 83), (83, x_iload 6 85), (85, x_iload 4 87), (87, x_cge 95 90)]
def CX10_worth_3 (o : ORC) : List (Nat × INS) := [(90, x_iload 5 92), (92, x_goto 96), (95, x_iload 3 96), (96, x_istore 3 97), (97, x_iload 6 99), (99, x_iload 4 101), (101, x_cge 109 104), (104, x_iload 6 106), (106, x_goto 111), (109, x_iload 4 111), (111, x_istore 4 113), (113, x_aload 0 114), (114, x_vV o 176 10 1 117), (117, x_iinc 5 1 120), (120, x_goto 41), (123, x_aload 0 124)]
def CX10_worth_4 (o : ORC) : List (Nat × INS) := [(124, x_const (iv (-9)) 126), (126, x_putI 10 32 129), (129, x_aload 0 130), (130, x_iload 4 132), (132, x_iload 3 133), (133, x_vI o 139 10 3 136), (136, x_iret)]
def CX10_worth (o : ORC) : COD := [(28, CX10_worth_0 o), (59, CX10_worth_1 o), (90, CX10_worth_2 o), (124, CX10_worth_3 o), (137, CX10_worth_4 o)]
def CX10_groundBy_0 (o : ORC) : List (Nat × INS) := [(0, x_aload 0 1), (1, x_vI o 180 10 1 4), (4, x_istore 5 6), (6, x_aload 0 7), (7, x_vV o 175 10 1 10), (10, x_const (iv 0) 11), (11, x_istore 6 13), (13, x_iload 6 15), (15, x_iload 1 16), (16, x_cge 56 19), (19, x_aload 0 20), (20, x_aload 0 21), (21, x_getR 10 33 24), (24, x_iload 6 26), (26, x_ifne 33 29), (29, x_iload 2 30)]
def CX10_groundBy_1 (o : ORC) : List (Nat × INS) := [(30, x_goto 45), (33, x_iload 6 35), (35, x_const (iv 1) 36), (36, x_cne 43 39), (39, x_iload 3 40), (40, x_goto 45), (43, x_iload 4 45), (45, x_ald 0 46), (46, x_vI o 179 10 2 49), (49, x_pop 50), (50, x_iinc 6 1 53), (53, x_goto 13), (56, x_aload 0 57), (57, x_vI o 180 10 1 60), (60, x_iload 5 62), (62, x_bin (fun x y => x - y) 63)]
def CX10_groundBy_2 (o : ORC) : List (Nat × INS) := [(63, x_istore 6 65), (65, x_aload 0 66), (66, x_vV o 176 10 1 69), (69, x_iload 6 71), (71, x_iret)]
def CX10_groundBy (o : ORC) : COD := [(30, CX10_groundBy_0 o), (63, CX10_groundBy_1 o), (72, CX10_groundBy_2 o)]
def CX10_duel_0 (o : ORC) : List (Nat × INS) := [(0, x_iload 1 1), (1, x_const (iv 0) 2), (2, x_const (iv 3) 3), (3, x_sI o 137 3 6), (6, x_ifne 11 9), (9, x_const (iv (-1)) 10), (10, x_iret), (11, x_aload 0 12), (12, x_getI 10 10 15), (15, x_ifne 21 18), (18, x_const (iv (-4)) 20), (20, x_iret), (21, x_aload 0 22), (22, x_vV o 200 10 1 25), (25, x_const (iv (-1)) 26), (26, x_istore 2 27)]
def CX10_duel_1 (o : ORC) : List (Nat × INS) := [(27, x_const (iv 0) 28), (28, x_istore 3 29), (29, x_iload 3 30), (30, x_aload 0 31), (31, x_getI 10 34 34), (34, x_cge 127 37), (37, x_const (iv 1048576) 40), (40, x_istore 4 42), (42, x_const (iv 0) 43), (43, x_istore 5 45), (45, x_iload 5 47), (47, x_aload 0 48), (48, x_getI 10 34 51), (51, x_cge 114 54), (54, x_const (iv (-1)) 55), (55, x_istore 6 57)]
def CX10_duel_2 (o : ORC) : List (Nat × INS) := [(57, x_const (iv 0) 58), (58, x_istore 7 60), (60, x_iload 7 62), (62, x_aload 0 63), (63, x_getI 10 34 66), (66, x_cge 92 69), (69, x_iload 6 71), (71, x_aload 0 72), (72, x_iload 1 73), (73, x_iload 3 74), (74, x_iload 5 76), (76, x_iload 7 78), (78, x_vI o 210 10 5 81), (81, x_sI o 141 2 84), (84, x_istore 6 86), (86, x_iinc 7 1 89)]
def CX10_duel_3 (o : ORC) : List (Nat × INS) := [(89, x_goto 60), (92, x_iload 6 94), (94, x_iload 4 96), (96, x_cge 104 99), (99, x_iload 6 101), (101, x_goto 106), (104, x_iload 4 106), (106, x_istore 4 108), (108, x_iinc 5 1 111), (111, x_goto 45), (114, x_iload 2 115), (115, x_iload 4 117), (117, x_sI o 141 2 120), (120, x_istore 2 121), (121, x_iinc 3 1 124), (124, x_goto 29)]
def CX10_duel_4 (o : ORC) : List (Nat × INS) := [(127, x_iload 2 128), (128, x_iret)]
def CX10_duel (o : ORC) : COD := [(27, CX10_duel_0 o), (57, CX10_duel_1 o), (89, CX10_duel_2 o), (127, CX10_duel_3 o), (129, CX10_duel_4 o)]
def CX10_askedSea_0 (o : ORC) : List (Nat × INS) := [(0, x_iload 1 1), (1, x_sI o 143 1 4), (4, x_ifne 9 7), (7, x_const (iv (-1)) 8), (8, x_iret), (9, x_aload 0 10), (10, x_getI 10 10 13), (13, x_ifne 19 16), (16, x_const (iv (-4)) 18), (18, x_iret), (19, x_aload 0 20), (20, x_getR 10 5 23), (23, x_iload 1 24), (24, x_ald 0 25), (25, x_ifge 34 28), (28, x_aload 0 29)]
def CX10_askedSea_1 (o : ORC) : List (Nat × INS) := [(29, x_const (iv 1) 30), (30, x_vI o 138 10 2 33), (33, x_iret), (34, x_aload 0 35), (35, x_getR 10 5 38), (38, x_iload 1 39), (39, x_ald 0 40), (40, x_const (iv 1) 41), (41, x_const (iv 4) 42), (42, x_sI o 137 3 45), (45, x_ifne 54 48), (48, x_aload 0 49), (49, x_const (iv 5) 50), (50, x_vI o 138 10 2 53), (53, x_iret), (54, x_const (iv 0) 55)]
def CX10_askedSea_2 (o : ORC) : List (Nat × INS) := [(55, x_istore 2 56), (56, x_iload 2 57), (57, x_aload 0 58), (58, x_getR 10 5 61), (61, x_iload 1 62), (62, x_ald 0 63), (63, x_cge 94 66), (66, x_aload 0 67), (67, x_iload 1 68), (68, x_iload 2 69), (69, x_vI o 147 10 3 72), (72, x_const (iv 0) 73), (73, x_const (iv 999) 76), (76, x_sI o 137 3 79), (79, x_ifne 88 82), (82, x_aload 0 83)]
def CX10_askedSea_3 (o : ORC) : List (Nat × INS) := [(83, x_const (iv 3) 84), (84, x_vI o 138 10 2 87), (87, x_iret), (88, x_iinc 2 1 91), (91, x_goto 56), (94, x_const (iv 0) 95), (95, x_iret)]
def CX10_askedSea (o : ORC) : COD := [(29, CX10_askedSea_0 o), (55, CX10_askedSea_1 o), (83, CX10_askedSea_2 o), (96, CX10_askedSea_3 o)]
def CX10_comesSo_0 (o : ORC) : List (Nat × INS) := [(0, x_const (iv 1) 1), (1, x_istore 3 2), (2, x_const (iv 0) 3), (3, x_istore 4 5), (5, x_iload 4 7), (7, x_aload 0 8), (8, x_getR 10 5 11), (11, x_iload 2 12), (12, x_ald 0 13), (13, x_cge 59 16), (16, x_iload 3 17), (17, x_ifeq 59 20), (20, x_aload 0 21), (21, x_aload 0 22), (22, x_iload 1 23), (23, x_aload 0 24)]
def CX10_comesSo_1 (o : ORC) : List (Nat × INS) := [(24, x_getR 10 5 27), (27, x_iload 2 28), (28, x_ald 0 29), (29, x_iload 4 31), (31, x_vI o 202 10 4 34), (34, x_vI o 179 10 2 37), (37, x_aload 0 38), (38, x_iload 2 39), (39, x_iload 4 41), (41, x_vI o 147 10 3 44), (44, x_cne 51 47), (47, x_const (iv 1) 48), (48, x_goto 52), (51, x_const (iv 0) 52), (52, x_istore 3 53), (53, x_iinc 4 1 56)]
def CX10_comesSo_2 (o : ORC) : List (Nat × INS) := [(56, x_goto 5), (59, x_aload 0 60), (60, x_vV o 176 10 1 63), (63, x_iload 3 64), (64, x_zret)]
def CX10_comesSo (o : ORC) : COD := [(24, CX10_comesSo_0 o), (56, CX10_comesSo_1 o), (65, CX10_comesSo_2 o)]
def CX10_ways_0 (o : ORC) : List (Nat × INS) := [(0, x_aload 0 1), (1, x_iload 1 2), (2, x_vI o 212 10 2 5), (5, x_istore 2 6), (6, x_iload 2 7), (7, x_ifge 12 10), (10, x_iload 2 11), (11, x_iret), (12, x_aload 0 13), (13, x_vV o 200 10 1 16), (16, x_const (iv 0) 17), (17, x_istore 3 18), (18, x_aload 0 19), (19, x_vI o 171 10 1 22), (22, x_istore 4 24), (24, x_aload 0 25)]
def CX10_ways_1 (o : ORC) : List (Nat × INS) := [(25, x_vV o 175 10 1 28), (28, x_const (iv 0) 29), (29, x_istore 5 31), (31, x_iload 5 33), (33, x_aload 0 34), (34, x_aload 0 35), (35, x_getR 10 5 38), (38, x_iload 1 39), (39, x_ald 0 40), (40, x_vI o 201 10 2 43), (43, x_cge 83 46), (46, x_aload 0 47), (47, x_iload 5 49), (49, x_iload 1 50), (50, x_vI o 213 10 3 53), (53, x_ifeq 77 56)]
def CX10_ways_2 (o : ORC) : List (Nat × INS) := [(56, x_iinc 3 1 59), (59, x_iload 4 61), (61, x_aload 0 62), (62, x_iload 5 64), (64, x_aload 0 65), (65, x_getR 10 5 68), (68, x_iload 1 69), (69, x_ald 0 70), (70, x_const (iv 0) 71), (71, x_vI o 202 10 4 74), (74, x_bin (fun x y => x &&& y) 75), (75, x_istore 4 77), (77, x_iinc 5 1 80), (80, x_goto 31), (83, x_aload 0 84), (84, x_iload 3 85)]
def CX10_ways_3 (o : ORC) : List (Nat × INS) := [(85, x_i2l 86), (86, x_const (jv 1) 87), (87, x_vI o 142 10 3 90), (90, x_pop 91), (91, x_aload 0 92), (92, x_iload 3 93), (93, x_ifne 100 96), (96, x_const (iv 0) 97), (97, x_goto 102), (100, x_iload 4 102), (102, x_const (iv 1) 103), (103, x_vI o 139 10 3 106), (106, x_iret)]
def CX10_ways (o : ORC) : COD := [(25, CX10_ways_0 o), (56, CX10_ways_1 o), (85, CX10_ways_2 o), (107, CX10_ways_3 o)]
def CX10_first_0 (o : ORC) : List (Nat × INS) := [(0, x_iload 2 1), (1, x_sI o 143 1 4), (4, x_ifne 9 7), (7, x_const (iv (-1)) 8), (8, x_iret), (9, x_aload 0 10), (10, x_iload 1 11), (11, x_vI o 212 10 2 14), (14, x_istore 3 15), (15, x_iload 3 16), (16, x_ifge 21 19), (19, x_iload 3 20), (20, x_iret), (21, x_aload 0 22), (22, x_vV o 200 10 1 25), (25, x_aload 0 26)]
def CX10_first_1 (o : ORC) : List (Nat × INS) := [(26, x_getR 10 5 29), (29, x_iload 1 30), (30, x_ald 0 31), (31, x_istore 4 33), (33, x_aload 0 34), (34, x_vV o 175 10 1 37), (37, x_const (iv 0) 38), (38, x_istore 5 40), (40, x_iload 5 42), (42, x_aload 0 43), (43, x_iload 4 45), (45, x_vI o 201 10 2 48), (48, x_cge 116 51), (51, x_aload 0 52), (52, x_iload 5 54), (54, x_iload 1 55)]
def CX10_first_2 (o : ORC) : List (Nat × INS) := [(55, x_vI o 213 10 3 58), (58, x_ifeq 110 61), (61, x_aload 0 62), (62, x_iload 5 64), (64, x_iload 4 66), (66, x_iload 2 67), (67, x_vV o 203 10 4 70), (70, x_const (iv 0) 71), (71, x_istore 6 73), (73, x_const (iv 0) 74), (74, x_istore 7 76), (76, x_iload 7 78), (78, x_iload 4 80), (80, x_cge 107 83), (83, x_iload 6 85), (85, x_aload 0 86)]
def CX10_first_3 (o : ORC) : List (Nat × INS) := [(86, x_iload 5 88), (88, x_iload 4 90), (90, x_iload 7 92), (92, x_vI o 202 10 4 95), (95, x_sI o 204 1 98), (98, x_bin (fun x y => x + y) 99), (99, x_istore 6 101), (101, x_iinc 7 1 104), (104, x_goto 76), (107, x_iload 6 109), (109, x_iret), (110, x_iinc 5 1 113), (113, x_goto 40), (116, x_const (iv (-9)) 118), (118, x_iret)]
def CX10_first (o : ORC) : COD := [(26, CX10_first_0 o), (55, CX10_first_1 o), (86, CX10_first_2 o), (119, CX10_first_3 o)]
def CX10_askedBook_0 (o : ORC) : List (Nat × INS) := [(0, x_aload 0 1), (1, x_iload 1 2), (2, x_vI o 169 10 2 5), (5, x_ifne 12 8), (8, x_const (iv (-1)) 9), (9, x_goto 17), (12, x_aload 0 13), (13, x_iload 2 14), (14, x_vI o 145 10 2 17), (17, x_istore 3 18), (18, x_iload 3 19), (19, x_ifge 24 22), (22, x_iload 3 23), (23, x_iret), (24, x_aload 0 25), (25, x_getR 10 5 28)]
def CX10_askedBook_1 (o : ORC) : List (Nat × INS) := [(28, x_iload 2 29), (29, x_ald 0 30), (30, x_const (iv 2) 31), (31, x_dv (fun x y => x - x / y * y) 32), (32, x_ifne 46 35), (35, x_aload 0 36), (36, x_getR 10 5 39), (39, x_iload 2 40), (40, x_ald 0 41), (41, x_const (iv 20) 43), (43, x_cle 52 46), (46, x_aload 0 47), (47, x_const (iv 5) 48), (48, x_vI o 138 10 2 51), (51, x_iret), (52, x_const (iv 0) 53)]
def CX10_askedBook_2 (o : ORC) : List (Nat × INS) := [(53, x_istore 4 55), (55, x_iload 4 57), (57, x_aload 0 58), (58, x_getR 10 5 61), (61, x_iload 2 62), (62, x_ald 0 63), (63, x_cge 94 66), (66, x_aload 0 67), (67, x_iload 2 68), (68, x_iload 4 70), (70, x_vI o 147 10 3 73), (73, x_const (iv 0) 74), (74, x_const (iv 99) 76), (76, x_sI o 137 3 79), (79, x_ifne 88 82), (82, x_aload 0 83)]
def CX10_askedBook_3 (o : ORC) : List (Nat × INS) := [(83, x_const (iv 3) 84), (84, x_vI o 138 10 2 87), (87, x_iret), (88, x_iinc 4 1 91), (91, x_goto 55), (94, x_const (iv 0) 95), (95, x_iret)]
def CX10_askedBook (o : ORC) : COD := [(28, CX10_askedBook_0 o), (53, CX10_askedBook_1 o), (83, CX10_askedBook_2 o), (96, CX10_askedBook_3 o)]
def CX10_isSo_0 (o : ORC) : List (Nat × INS) := [(0, x_iload 3 1), (1, x_istore 5 3), (3, x_const (iv 0) 4), (4, x_istore 6 6), (6, x_iload 6 8), (8, x_aload 0 9), (9, x_getR 10 5 12), (12, x_iload 4 14), (14, x_ald 0 15), (15, x_cge 112 18), (18, x_iload 1 19), (19, x_const (iv 4) 20), (20, x_cne 33 23), (23, x_iload 5 25), (25, x_iload 2 26), (26, x_cle 33 29)]
def CX10_isSo_1 (o : ORC) : List (Nat × INS) := [(29, x_iload 2 30), (30, x_goto 35), (33, x_iload 5 35), (35, x_istore 7 37), (37, x_iload 7 39), (39, x_aload 0 40), (40, x_iload 4 42), (42, x_iload 6 44), (44, x_const (iv 1) 45), (45, x_bin (fun x y => x + y) 46), (46, x_vI o 147 10 3 49), (49, x_ceq 54 52), (52, x_const (iv 0) 53), (53, x_zret), (54, x_iload 5 56), (56, x_aload 0 57)]
def CX10_isSo_2 (o : ORC) : List (Nat × INS) := [(57, x_iload 4 59), (59, x_iload 6 61), (61, x_vI o 147 10 3 64), (64, x_iload 7 66), (66, x_bin (fun x y => x - y) 67), (67, x_bin (fun x y => x + y) 68), (68, x_istore 5 70), (70, x_iload 5 72), (72, x_iload 1 73), (73, x_const (iv 3) 74), (74, x_cne 86 77), (77, x_iload 5 79), (79, x_ifle 86 82), (82, x_const (iv 1) 83), (83, x_goto 87), (86, x_const (iv 0) 87)]
def CX10_isSo_3 (o : ORC) : List (Nat × INS) := [(87, x_bin (fun x y => x - y) 88), (88, x_istore 5 90), (90, x_iload 5 92), (92, x_const (iv 99) 94), (94, x_cle 102 97), (97, x_const (iv 99) 99), (99, x_goto 104), (102, x_iload 5 104), (104, x_istore 5 106), (106, x_iinc 6 2 109), (109, x_goto 6), (112, x_const (iv 1) 113), (113, x_zret)]
def CX10_isSo (o : ORC) : COD := [(29, CX10_isSo_0 o), (57, CX10_isSo_1 o), (87, CX10_isSo_2 o), (114, CX10_isSo_3 o)]
def CX10_kinds_0 (o : ORC) : List (Nat × INS) := [(0, x_aload 0 1), (1, x_iload 1 2), (2, x_iload 2 3), (3, x_vI o 216 10 3 6), (6, x_istore 3 7), (7, x_iload 3 8), (8, x_ifge 13 11), (11, x_iload 3 12), (12, x_iret), (13, x_const (iv 0) 14), (14, x_istore 4 16), (16, x_const (iv 0) 17), (17, x_istore 5 19), (19, x_iload 5 21), (21, x_const (iv 5) 22), (22, x_cgt 66 25)]
def CX10_kinds_1 (o : ORC) : List (Nat × INS) := [(25, x_iload 4 27), (27, x_aload 0 28), (28, x_iload 5 30), (30, x_aload 0 31), (31, x_getR 10 14 34), (34, x_iload 1 35), (35, x_ald 0 36), (36, x_aload 0 37), (37, x_getR 10 15 40), (40, x_iload 1 41), (41, x_ald 0 42), (42, x_iload 2 43), (43, x_vI o 217 10 5 46), (46, x_ifeq 56 49), (49, x_const (iv 1) 50), (50, x_iload 5 52)]
def CX10_kinds_2 (o : ORC) : List (Nat × INS) := [(52, x_bin (fun x y => x <<< (y &&& 31)) 53), (53, x_goto 57), (56, x_const (iv 0) 57), (57, x_bin (fun x y => x ||| y) 58), (58, x_istore 4 60), (60, x_iinc 5 1 63), (63, x_goto 19), (66, x_iload 4 68), (68, x_iret)]
def CX10_kinds (o : ORC) : COD := [(25, CX10_kinds_0 o), (52, CX10_kinds_1 o), (69, CX10_kinds_2 o)]
def CX10_measures_0 (o : ORC) : List (Nat × INS) := [(0, x_aload 0 1), (1, x_iload 1 2), (2, x_iload 2 3), (3, x_vI o 216 10 3 6), (6, x_istore 3 7), (7, x_iload 3 8), (8, x_ifge 13 11), (11, x_iload 3 12), (12, x_iret), (13, x_const (iv 0) 14), (14, x_istore 4 16), (16, x_const (iv 1) 17), (17, x_istore 5 19), (19, x_iload 5 21), (21, x_const (iv 9) 23), (23, x_cgt 67 26)]
def CX10_measures_1 (o : ORC) : List (Nat × INS) := [(26, x_iload 4 28), (28, x_aload 0 29), (29, x_aload 0 30), (30, x_getR 10 13 33), (33, x_iload 1 34), (34, x_ald 0 35), (35, x_iload 5 37), (37, x_aload 0 38), (38, x_getR 10 15 41), (41, x_iload 1 42), (42, x_ald 0 43), (43, x_iload 2 44), (44, x_vI o 217 10 5 47), (47, x_ifeq 57 50), (50, x_const (iv 1) 51), (51, x_iload 5 53)]
def CX10_measures_2 (o : ORC) : List (Nat × INS) := [(53, x_bin (fun x y => x <<< (y &&& 31)) 54), (54, x_goto 58), (57, x_const (iv 0) 58), (58, x_bin (fun x y => x ||| y) 59), (59, x_istore 4 61), (61, x_iinc 5 1 64), (64, x_goto 19), (67, x_iload 4 69), (69, x_iret)]
def CX10_measures (o : ORC) : COD := [(26, CX10_measures_0 o), (53, CX10_measures_1 o), (70, CX10_measures_2 o)]
def CX10_shutMany_0 (o : ORC) : List (Nat × INS) := [(0, x_const (iv 0) 1), (1, x_istore 2 2), (2, x_const (iv 0) 3), (3, x_istore 3 4), (4, x_iload 3 5), (5, x_aload 0 6), (6, x_getR 10 5 9), (9, x_iload 1 10), (10, x_ald 0 11), (11, x_cge 32 14), (14, x_iload 2 15), (15, x_aload 0 16), (16, x_iload 1 17), (17, x_iload 3 18), (18, x_vI o 147 10 3 21), (21, x_sI o 204 1 24)]
def CX10_shutMany_1 (o : ORC) : List (Nat × INS) := [(24, x_bin (fun x y => x + y) 25), (25, x_istore 2 26), (26, x_iinc 3 1 29), (29, x_goto 4), (32, x_iload 2 33), (33, x_iret)]
def CX10_shutMany (o : ORC) : COD := [(24, CX10_shutMany_0 o), (34, CX10_shutMany_1 o)]
def CX10_holds_0 (o : ORC) : List (Nat × INS) := [(0, x_const (iv 0) 1), (1, x_istore 3 2), (2, x_iload 2 3), (3, x_istore 4 5), (5, x_const (iv 0) 6), (6, x_istore 5 8), (8, x_iload 5 10), (10, x_const (iv 6) 12), (12, x_cge 53 15), (15, x_iload 0 16), (16, x_iload 5 18), (18, x_sI o 140 2 21), (21, x_ifeq 47 24), (24, x_iload 3 25), (25, x_iload 1 26), (26, x_iload 4 28)]
def CX10_holds_1 (o : ORC) : List (Nat × INS) := [(28, x_sI o 140 2 31), (31, x_ifeq 38 34), (34, x_const (iv 0) 35), (35, x_goto 42), (38, x_const (iv 1) 39), (39, x_iload 5 41), (41, x_bin (fun x y => x <<< (y &&& 31)) 42), (42, x_bin (fun x y => x ||| y) 43), (43, x_istore 3 44), (44, x_iinc 4 1 47), (47, x_iinc 5 1 50), (50, x_goto 8), (53, x_iload 3 54), (54, x_iret)]
def CX10_holds (o : ORC) : COD := [(28, CX10_holds_0 o), (55, CX10_holds_1 o)]
def CX10_power_0 (o : ORC) : List (Nat × INS) := [(0, x_const (jv 1) 1), (1, x_lstore 3 2), (2, x_const (iv 0) 3), (3, x_istore 5 5), (5, x_iload 5 7), (7, x_iload 2 8), (8, x_cge 21 11), (11, x_lload 3 12), (12, x_lload 0 13), (13, x_binl (fun x y => x * y) 14), (14, x_lstore 3 15), (15, x_iinc 5 1 18), (18, x_goto 5), (21, x_lload 3 22), (22, x_lret)]
def CX10_power (o : ORC) : COD := [(23, CX10_power_0 o)]
def CX10_sums_0 (o : ORC) : List (Nat × INS) := [(0, x_aload 0 1), (1, x_iload 1 2), (2, x_vI o 220 10 2 5), (5, x_istore 4 7), (7, x_aload 0 8), (8, x_vI o 180 10 1 11), (11, x_istore 5 13), (13, x_const (jv 0) 14), (14, x_lstore 6 16), (16, x_aload 0 17), (17, x_vV o 175 10 1 20), (20, x_const (iv 0) 21), (21, x_istore 8 23), (23, x_iload 8 25), (25, x_const (iv 1) 26), (26, x_iload 4 28)]
def CX10_sums_1 (o : ORC) : List (Nat × INS) := [(28, x_bin (fun x y => x <<< (y &&& 31)) 29), (29, x_cge 194 32), (32, x_const (iv 0) 33), (33, x_istore 9 35), (35, x_const (iv 0) 36), (36, x_istore 10 38), (38, x_const (jv 0) 39), (39, x_lstore 11 41), (41, x_const (iv 0) 42), (42, x_istore 13 44), (44, x_iload 13 46), (46, x_aload 0 47), (47, x_getR 10 5 50), (50, x_iload 1 51), (51, x_ald 0 52), (52, x_cge 100 55)]
def CX10_sums_2 (o : ORC) : List (Nat × INS) := [(55, x_lload 11 57), (57, x_aload 0 58), (58, x_aload 0 59), (59, x_iload 1 60), (60, x_iload 13 62), (62, x_vI o 147 10 3 65), (65, x_iload 8 67), (67, x_iload 9 69), (69, x_sI o 221 3 72), (72, x_vI o 179 10 2 75), (75, x_i2l 76), (76, x_binl (fun x y => x + y) 77), (77, x_lstore 11 79), (79, x_iload 9 81), (81, x_aload 0 82), (82, x_iload 1 83)]
def CX10_sums_3 (o : ORC) : List (Nat × INS) := [(83, x_iload 13 85), (85, x_vI o 147 10 3 88), (88, x_sI o 204 1 91), (91, x_bin (fun x y => x + y) 92), (92, x_istore 9 94), (94, x_iinc 13 1 97), (97, x_goto 44), (100, x_const (iv 0) 101), (101, x_istore 13 103), (103, x_iload 13 105), (105, x_iload 4 107), (107, x_cge 128 110), (110, x_iload 10 112), (112, x_iload 8 114), (114, x_iload 13 116), (116, x_bin (fun x y => x >>> (y &&& 31)) 117)]
def CX10_sums_4 (o : ORC) : List (Nat × INS) := [(117, x_const (iv 1) 118), (118, x_bin (fun x y => x &&& y) 119), (119, x_bin (fun x y => x + y) 120), (120, x_istore 10 122), (122, x_iinc 13 1 125), (125, x_goto 103), (128, x_iload 2 129), (129, x_ifge 137 132), (132, x_lload 11 134), (134, x_goto 153), (137, x_aload 0 138), (138, x_vI o 180 10 1 141), (141, x_iload 5 143), (143, x_bin (fun x y => x - y) 144), (144, x_iload 2 145), (145, x_clt 152 148)]
def CX10_sums_5 (o : ORC) : List (Nat × INS) := [(148, x_const (jv 1) 149), (149, x_goto 153), (152, x_const (jv 0) 153), (153, x_lstore 13 155), (155, x_lload 6 157), (157, x_lload 13 159), (159, x_iload 3 160), (160, x_i2l 161), (161, x_iload 10 163), (163, x_sJ o 222 2 166), (166, x_binl (fun x y => x * y) 167), (167, x_const (iv 12) 169), (169, x_iload 3 170), (170, x_bin (fun x y => x - y) 171), (171, x_i2l 172), (172, x_iload 4 174)]
def CX10_sums_6 (o : ORC) : List (Nat × INS) := [(174, x_iload 10 176), (176, x_bin (fun x y => x - y) 177), (177, x_sJ o 222 2 180), (180, x_binl (fun x y => x * y) 181), (181, x_binl (fun x y => x + y) 182), (182, x_lstore 6 184), (184, x_aload 0 185), (185, x_vV o 176 10 1 188), (188, x_iinc 8 1 191), (191, x_goto 23), (194, x_aload 0 195), (195, x_lload 6 197), (197, x_const (jv 12) 200), (200, x_iload 4 202), (202, x_sJ o 222 2 205), (205, x_vI o 142 10 3 208)]
def CX10_sums_7 (o : ORC) : List (Nat × INS) := [(208, x_iret)]
def CX10_sums (o : ORC) : COD := [(28, CX10_sums_0 o), (55, CX10_sums_1 o), (83, CX10_sums_2 o), (117, CX10_sums_3 o), (148, CX10_sums_4 o), (174, CX10_sums_5 o), (208, CX10_sums_6 o), (209, CX10_sums_7 o)]
def CX10_mid_0 (o : ORC) : List (Nat × INS) := [(0, x_iload 2 1), (1, x_const (iv 0) 2), (2, x_const (iv 12) 4), (4, x_sI o 137 3 7), (7, x_ifne 14 10), (10, x_const (iv (-1)) 11), (11, x_goto 20), (14, x_aload 0 15), (15, x_iload 1 16), (16, x_const (iv 4) 17), (17, x_vI o 195 10 3 20), (20, x_istore 3 21), (21, x_iload 3 22), (22, x_ifge 29 25), (25, x_iload 3 26), (26, x_goto 36)]
def CX10_mid_1 (o : ORC) : List (Nat × INS) := [(29, x_aload 0 30), (30, x_iload 1 31), (31, x_const (iv (-1)) 32), (32, x_iload 2 33), (33, x_vI o 223 10 4 36), (36, x_iret)]
def CX10_mid (o : ORC) : COD := [(29, CX10_mid_0 o), (37, CX10_mid_1 o)]
def CX10_odds_0 (o : ORC) : List (Nat × INS) := [(0, x_iload 3 1), (1, x_const (iv 0) 2), (2, x_const (iv 12) 4), (4, x_sI o 137 3 7), (7, x_ifeq 20 10), (10, x_iload 2 11), (11, x_const (iv 0) 12), (12, x_const (iv 99) 14), (14, x_sI o 137 3 17), (17, x_ifne 24 20), (20, x_const (iv (-1)) 21), (21, x_goto 30), (24, x_aload 0 25), (25, x_iload 1 26), (26, x_const (iv 4) 27), (27, x_vI o 195 10 3 30)]
def CX10_odds_1 (o : ORC) : List (Nat × INS) := [(30, x_istore 4 32), (32, x_iload 4 34), (34, x_ifge 42 37), (37, x_iload 4 39), (39, x_goto 49), (42, x_aload 0 43), (43, x_iload 1 44), (44, x_iload 2 45), (45, x_iload 3 46), (46, x_vI o 223 10 4 49), (49, x_iret)]
def CX10_odds (o : ORC) : COD := [(30, CX10_odds_0 o), (50, CX10_odds_1 o)]
def CX10_lots_0 (o : ORC) : List (Nat × INS) := [(0, x_iload 1 1), (1, x_const (iv 1) 2), (2, x_const (iv 20) 4), (4, x_sI o 137 3 7), (7, x_ifeq 21 10), (10, x_iload 2 11), (11, x_const (iv 1) 12), (12, x_const (iv 2147483646) 15), (15, x_sI o 137 3 18), (18, x_ifne 23 21), (21, x_const (iv (-1)) 22), (22, x_iret), (23, x_aload 0 24), (24, x_getI 10 10 27), (27, x_ifne 33 30), (30, x_const (iv (-4)) 32)]
def CX10_lots_1 (o : ORC) : List (Nat × INS) := [(32, x_iret), (33, x_aload 0 34), (34, x_getI 10 25 37), (37, x_iload 1 38), (38, x_bin (fun x y => x + y) 39), (39, x_const (iv 40) 41), (41, x_cle 47 44), (44, x_const (iv (-2)) 46), (46, x_iret), (47, x_iload 2 48), (48, x_i2l 49), (49, x_lstore 3 50), (50, x_const (iv 0) 51), (51, x_istore 5 53), (53, x_const (iv 0) 54), (54, x_istore 6 56)]
def CX10_lots_2 (o : ORC) : List (Nat × INS) := [(56, x_iload 6 58), (58, x_iload 1 59), (59, x_cge 162 62), (62, x_const (jv 48271) 65), (65, x_lload 3 66), (66, x_binl (fun x y => x * y) 67), (67, x_const (jv 2147483647) 70), (70, x_dvl (fun x y => x - x / y * y) 71), (71, x_lstore 3 72), (72, x_const (iv 0) 73), (73, x_istore 7 75), (75, x_lload 3 76), (76, x_const (jv 8) 79), (79, x_dvl (fun x y => x / y) 80), (80, x_lstore 8 82), (82, x_const (iv 0) 83)]
def CX10_lots_3 (o : ORC) : List (Nat × INS) := [(83, x_istore 10 85), (85, x_iload 10 87), (87, x_aload 0 88), (88, x_getI 10 10 91), (91, x_cge 145 94), (94, x_aload 0 95), (95, x_getR 10 13 98), (98, x_iload 10 100), (100, x_ald 0 101), (101, x_sI o 162 1 104), (104, x_ifeq 139 107), (107, x_iload 7 109), (109, x_lload 8 111), (111, x_const (jv 2) 114), (114, x_dvl (fun x y => x - x / y * y) 115), (115, x_const (jv 1) 116)]
def CX10_lots_4 (o : ORC) : List (Nat × INS) := [(116, x_lcmp 117), (117, x_ifne 127 120), (120, x_const (iv 1) 121), (121, x_iload 10 123), (123, x_bin (fun x y => x <<< (y &&& 31)) 124), (124, x_goto 128), (127, x_const (iv 0) 128), (128, x_bin (fun x y => x ||| y) 129), (129, x_istore 7 131), (131, x_lload 8 133), (133, x_const (jv 2) 136), (136, x_dvl (fun x y => x / y) 137), (137, x_lstore 8 139), (139, x_iinc 10 1 142), (142, x_goto 85), (145, x_iload 5 147)]
def CX10_lots_5 (o : ORC) : List (Nat × INS) := [(147, x_aload 0 148), (148, x_iload 7 150), (150, x_vI o 181 10 2 153), (153, x_bin (fun x y => x + y) 154), (154, x_istore 5 156), (156, x_iinc 6 1 159), (159, x_goto 56), (162, x_iload 5 164), (164, x_iret)]
def CX10_lots (o : ORC) : COD := [(32, CX10_lots_0 o), (56, CX10_lots_1 o), (83, CX10_lots_2 o), (116, CX10_lots_3 o), (147, CX10_lots_4 o), (165, CX10_lots_5 o)]
def CX10_asked_0 (o : ORC) : List (Nat × INS) := [(0, x_aload 0 1), (1, x_getI 10 2 4), (4, x_iret)]
def CX10_asked (o : ORC) : COD := [(5, CX10_asked_0 o)]
def CX10_upper_0 (o : ORC) : List (Nat × INS) := [(0, x_aload 0 1), (1, x_getJ 10 3 4), (4, x_lret)]
def CX10_upper (o : ORC) : COD := [(5, CX10_upper_0 o)]
def CX10_lower_0 (o : ORC) : List (Nat × INS) := [(0, x_aload 0 1), (1, x_getJ 10 4 4), (4, x_lret)]
def CX10_lower (o : ORC) : COD := [(5, CX10_lower_0 o)]
def CX10_there_0 (o : ORC) : List (Nat × INS) := [(0, x_const (iv 0) 1), (1, x_istore 2 2), (2, x_const (iv 0) 3), (3, x_istore 3 4), (4, x_iload 3 5), (5, x_const (iv 6) 7), (7, x_cge 80 10), (10, x_iload 2 11), (11, x_iload 1 12), (12, x_const (iv 8) 14), (14, x_cne 26 17), (17, x_aload 0 18), (18, x_getR 10 5 21), (21, x_iload 3 22), (22, x_ald 0 23), (23, x_ifge 67 26)]
def CX10_there_1 (o : ORC) : List (Nat × INS) := [(26, x_iload 1 27), (27, x_const (iv 9) 29), (29, x_cne 46 32), (32, x_iload 3 33), (33, x_const (iv 4) 34), (34, x_cge 46 37), (37, x_aload 0 38), (38, x_getR 10 8 41), (41, x_iload 3 42), (42, x_ald 0 43), (43, x_ifge 67 46), (46, x_iload 1 47), (47, x_const (iv 10) 49), (49, x_cne 71 52), (52, x_iload 3 53), (53, x_const (iv 3) 54)]
def CX10_there_2 (o : ORC) : List (Nat × INS) := [(54, x_cge 71 57), (57, x_aload 0 58), (58, x_getR 10 27 61), (61, x_iload 3 62), (62, x_ald 0 63), (63, x_const (iv 1) 64), (64, x_cne 71 67), (67, x_const (iv 1) 68), (68, x_goto 72), (71, x_const (iv 0) 72), (72, x_bin (fun x y => x + y) 73), (73, x_istore 2 74), (74, x_iinc 3 1 77), (77, x_goto 4), (80, x_iload 2 81), (81, x_iret)]
def CX10_there (o : ORC) : COD := [(26, CX10_there_0 o), (54, CX10_there_1 o), (82, CX10_there_2 o)]
def CX10_tells_0 (o : ORC) : List (Nat × INS) := [(0, x_const (iv 0) 1), (1, x_istore 2 2), (2, x_const (iv 0) 3), (3, x_istore 3 4), (4, x_iload 3 5), (5, x_aload 0 6), (6, x_getI 10 10 9), (9, x_cge 27 12), (12, x_iload 2 13), (13, x_aload 0 14), (14, x_getR 10 15 17), (17, x_iload 3 18), (18, x_ald 0 19), (19, x_bin (fun x y => x + y) 20), (20, x_istore 2 21), (21, x_iinc 3 1 24)]
def CX10_tells_1 (o : ORC) : List (Nat × INS) := [(24, x_goto 4), (27, x_iload 1 28), (28, x_sw [(0, 76), (1, 81), (2, 81), (3, 86), (4, 88), (5, 93), (6, 98), (7, 106)] 114), (76, x_aload 0 77), (77, x_getI 10 10 80), (80, x_iret), (81, x_aload 0 82), (82, x_getI 10 25 85), (85, x_iret), (86, x_iload 2 87), (87, x_iret), (88, x_aload 0 89), (89, x_getI 10 18 92), (92, x_iret), (93, x_aload 0 94), (94, x_vI o 180 10 1 97)]
def CX10_tells_2 (o : ORC) : List (Nat × INS) := [(97, x_iret), (98, x_aload 0 99), (99, x_vI o 171 10 1 102), (102, x_sI o 204 1 105), (105, x_iret), (106, x_aload 0 107), (107, x_vI o 206 10 1 110), (110, x_sI o 204 1 113), (113, x_iret), (114, x_aload 0 115), (115, x_iload 1 116), (116, x_vI o 230 10 2 119), (119, x_iret)]
def CX10_tells (o : ORC) : COD := [(24, CX10_tells_0 o), (97, CX10_tells_1 o), (120, CX10_tells_2 o)]
def CX10_count_0 (o : ORC) : List (Nat × INS) := [(0, x_iload 1 1), (1, x_const (iv 0) 2), (2, x_const (iv 10) 4), (4, x_sI o 137 3 7), (7, x_ifeq 18 10), (10, x_aload 0 11), (11, x_iload 1 12), (12, x_vI o 231 10 2 15), (15, x_goto 19), (18, x_const (iv (-1)) 19), (19, x_iret)]
def CX10_count (o : ORC) : COD := [(20, CX10_count_0 o)]
def CX10_finding_0 (o : ORC) : List (Nat × INS) := [(0, x_aload 0 1), (1, x_getI 10 0 4), (4, x_iret)]
def CX10_finding (o : ORC) : COD := [(5, CX10_finding_0 o)]
def CX10_findings_0 (o : ORC) : List (Nat × INS) := [(0, x_iload 1 1), (1, x_const (iv 1) 2), (2, x_const (iv 5) 3), (3, x_sI o 137 3 6), (6, x_ifeq 18 9), (9, x_aload 0 10), (10, x_getR 10 1 13), (13, x_iload 1 14), (14, x_ald 0 15), (15, x_goto 19), (18, x_const (iv (-1)) 19), (19, x_iret)]
def CX10_findings (o : ORC) : COD := [(20, CX10_findings_0 o)]
def CX10_mix_0 (o : ORC) : List (Nat × INS) := [(0, x_aload 0 1), (1, x_const (jv 31) 4), (4, x_aload 0 5), (5, x_getJ 10 35 8), (8, x_binl (fun x y => x * y) 9), (9, x_iload 1 10), (10, x_i2l 11), (11, x_binl (fun x y => x + y) 12), (12, x_putJ 10 35 15), (15, x_vret)]
def CX10_mix (o : ORC) : COD := [(16, CX10_mix_0 o)]
def CX10_mixRiver_0 (o : ORC) : List (Nat × INS) := [(0, x_const (iv 0) 1), (1, x_istore 1 2), (2, x_iload 1 3), (3, x_const (iv 7) 5), (5, x_cge 41 8), (8, x_aload 0 9), (9, x_getI 10 10 12), (12, x_ifle 41 15), (15, x_aload 0 16), (16, x_aload 0 17), (17, x_getR 10 11 20), (20, x_iload 1 21), (21, x_ald 0 22), (22, x_vV o 235 10 2 25), (25, x_aload 0 26), (26, x_aload 0 27)]
def CX10_mixRiver_1 (o : ORC) : List (Nat × INS) := [(27, x_getR 10 12 30), (30, x_iload 1 31), (31, x_ald 0 32), (32, x_vV o 235 10 2 35), (35, x_iinc 1 1 38), (38, x_goto 2), (41, x_const (iv 0) 42), (42, x_istore 1 43), (43, x_iload 1 44), (44, x_const (iv 7) 46), (46, x_cge 65 49), (49, x_aload 0 50), (50, x_aload 0 51), (51, x_getR 10 19 54), (54, x_iload 1 55), (55, x_ald 0 56)]
def CX10_mixRiver_2 (o : ORC) : List (Nat × INS) := [(56, x_vV o 235 10 2 59), (59, x_iinc 1 1 62), (62, x_goto 43), (65, x_const (iv 0) 66), (66, x_istore 1 67), (67, x_iload 1 68), (68, x_aload 0 69), (69, x_getI 10 10 72), (72, x_cge 104 75), (75, x_const (iv 0) 76), (76, x_istore 2 77), (77, x_iload 2 78), (78, x_const (iv 4) 79), (79, x_cgt 98 82), (82, x_aload 0 83), (83, x_aload 0 84)]
def CX10_mixRiver_3 (o : ORC) : List (Nat × INS) := [(84, x_iload 1 85), (85, x_iload 2 86), (86, x_vI o 186 10 3 89), (89, x_vV o 235 10 2 92), (92, x_iinc 2 1 95), (95, x_goto 77), (98, x_iinc 1 1 101), (101, x_goto 67), (104, x_const (iv 0) 105), (105, x_istore 1 106), (106, x_iload 1 107), (107, x_const (iv 3) 108), (108, x_cge 151 111), (111, x_aload 0 112), (112, x_aload 0 113), (113, x_getR 10 27 116)]
def CX10_mixRiver_4 (o : ORC) : List (Nat × INS) := [(116, x_iload 1 117), (117, x_ald 0 118), (118, x_const (iv 1) 119), (119, x_cne 141 122), (122, x_aload 0 123), (123, x_getR 10 28 126), (126, x_const (iv 1107) 129), (129, x_iload 1 130), (130, x_bin (fun x y => x * y) 131), (131, x_const (iv 1080) 134), (134, x_bin (fun x y => x + y) 135), (135, x_const (iv 1) 136), (136, x_bin (fun x y => x + y) 137), (137, x_ald 0 138), (138, x_goto 142), (141, x_const (iv (-1)) 142)]
def CX10_mixRiver_5 (o : ORC) : List (Nat × INS) := [(142, x_vV o 235 10 2 145), (145, x_iinc 1 1 148), (148, x_goto 106), (151, x_vret)]
def CX10_mixRiver (o : ORC) : COD := [(27, CX10_mixRiver_0 o), (56, CX10_mixRiver_1 o), (84, CX10_mixRiver_2 o), (116, CX10_mixRiver_3 o), (142, CX10_mixRiver_4 o), (152, CX10_mixRiver_5 o)]
def CX10_digest_0 (o : ORC) : List (Nat × INS) := [(0, x_aload 0 1), (1, x_const (jv 17) 4), (4, x_putJ 10 35 7), (7, x_const (iv 0) 8), (8, x_istore 1 9), (9, x_iload 1 10), (10, x_const (iv 10) 12), (12, x_cgt 30 15), (15, x_aload 0 16), (16, x_aload 0 17), (17, x_iload 1 18), (18, x_vI o 231 10 2 21), (21, x_vV o 235 10 2 24), (24, x_iinc 1 1 27), (27, x_goto 9), (30, x_aload 0 31)]
def CX10_digest_1 (o : ORC) : List (Nat × INS) := [(31, x_vV o 236 10 1 34), (34, x_const (iv 0) 35), (35, x_istore 1 36), (36, x_iload 1 37), (37, x_const (iv 6) 39), (39, x_cge 99 42), (42, x_aload 0 43), (43, x_aload 0 44), (44, x_getR 10 5 47), (47, x_iload 1 48), (48, x_ald 0 49), (49, x_ifge 56 52), (52, x_const (iv (-1)) 53), (53, x_goto 62), (56, x_aload 0 57), (57, x_getR 10 5 60)]
def CX10_digest_2 (o : ORC) : List (Nat × INS) := [(60, x_iload 1 61), (61, x_ald 0 62), (62, x_vV o 235 10 2 65), (65, x_const (iv 0) 66), (66, x_istore 2 67), (67, x_iload 2 68), (68, x_aload 0 69), (69, x_getR 10 5 72), (72, x_iload 1 73), (73, x_ald 0 74), (74, x_cge 93 77), (77, x_aload 0 78), (78, x_aload 0 79), (79, x_iload 1 80), (80, x_iload 2 81), (81, x_vI o 147 10 3 84)]
def CX10_digest_3 (o : ORC) : List (Nat × INS) := [(84, x_vV o 235 10 2 87), (87, x_iinc 2 1 90), (90, x_goto 67), (93, x_iinc 1 1 96), (96, x_goto 36), (99, x_const (iv 0) 100), (100, x_istore 1 101), (101, x_iload 1 102), (102, x_const (iv 4) 103), (103, x_cge 168 106), (106, x_aload 0 107), (107, x_aload 0 108), (108, x_getR 10 8 111), (111, x_iload 1 112), (112, x_ald 0 113), (113, x_ifge 120 116)]
def CX10_digest_4 (o : ORC) : List (Nat × INS) := [(116, x_const (iv (-1)) 117), (117, x_goto 126), (120, x_aload 0 121), (121, x_getR 10 8 124), (124, x_iload 1 125), (125, x_ald 0 126), (126, x_vV o 235 10 2 129), (129, x_const (iv 0) 130), (130, x_istore 2 131), (131, x_iload 2 132), (132, x_aload 0 133), (133, x_getR 10 8 136), (136, x_iload 1 137), (137, x_ald 0 138), (138, x_cge 162 141), (141, x_aload 0 142)]
def CX10_digest_5 (o : ORC) : List (Nat × INS) := [(142, x_aload 0 143), (143, x_getR 10 9 146), (146, x_const (iv 60) 148), (148, x_iload 1 149), (149, x_bin (fun x y => x * y) 150), (150, x_iload 2 151), (151, x_bin (fun x y => x + y) 152), (152, x_ald 0 153), (153, x_vV o 235 10 2 156), (156, x_iinc 2 1 159), (159, x_goto 131), (162, x_iinc 1 1 165), (165, x_goto 101), (168, x_aload 0 169), (169, x_getJ 10 35 172), (172, x_lret)]
def CX10_digest (o : ORC) : COD := [(31, CX10_digest_0 o), (60, CX10_digest_1 o), (84, CX10_digest_2 o), (116, CX10_digest_3 o), (142, CX10_digest_4 o), (173, CX10_digest_5 o)]
def PRG0 : List MPr := [(1, [], CJ6_bitCount_0f7a4), (3, [], CJ9_floorMod_7cf53), (2, [], CJ9_max_7cf53), (2, [], CJ9_min_7cf53), (4, [(26, [0, 1, 3]), (47, [0, 1, 3])], CX0_begin), (5, [], CX0_passOn), (4, [], CX0_branch), (3, [], CX0_ownerOf), (2, [], CX0_waterNow), (2, [], CX0_weekdayOf), (6, [], CX0_pass), (8, [(53, [0, 1, 7])], CX1_weigh), (12, [(49, [0, 1, 2, 3, 5, 6, 7])], CX1_spread), (3, [], CX1_weightOf), (5, [(5, [0, 1, 2, 4])], CX1_power), (1, [], CX2_clear), (2, [], CX2_hasReach), (2, [], CX2_canShut), (3, [(23, [0])], CX2_hasRoomFor), (4, [], CX2_add), (2, [(7, [0, 1])], CX2_listSets), (5, [(7, [0, 1, 2, 3, 4])], CX2_setByLot), (5, [(3, [0, 1, 2, 3, 4])], CX2_letRun), (6, [(6, [0, 1, 2, 4, 5])], CX2_takeIn), (2, [], CX2_toSea), (4, [(4, [0, 1, 2, 3])], CX2_grindingBy), (3, [], CX3_add), (2, [], CX3_cutTo), (2, [], CX3_become), (3, [(2, [0, 1, 2]), (54, [0, 2])], CX4_start), (7, [(39, [0, 1, 4, 5, 6])], CX4_pass), (6, [], CX5_seek), (6, [(17, [0, 1, 2, 3, 4])], CX5_goDeeper), (3, [], CX5_fits), (3, [], CX5_gain), (2, [(15, [0, 1]), (34, [0])], CX5_arrive), (3, [(4, [0, 1, 2])], CX5_shutTogether), (5, [], CX5_contest), (7, [(28, [0, 1, 2, 3, 4, 5]), (104, [0, 1, 2, 3, 5, 6])], CX5_contend), (1, [], CX6_byLetter)]
def PRG1 : List MPr := [(2, [], CX6_isOf), (4, [], CX6_runFrom), (3, [(15, [1])], CX6_settle), (3, [], CX6_grindsBy), (3, [], CX6_signOf), (6, [(66, [0, 3]), (72, [0, 3, 4, 5]), (96, [0, 3, 5]), (113, [0, 3, 4])], CX7_read), (5, [(27, [0, 2, 3, 4])], CX7_takesWeek), (4, [], CX7_takesReach), (1, [], CX7_onlyBlanksLeft), (1, [], CX7_seen), (3, [], CX7_seesFigure), (2, [(2, [0, 1])], CX7_skipBlanks), (2, [], CX8_isOne), (2, [], CX8_isThere), (2, [], CX8_sizeOf), (3, [], CX8_holds), (4, [], CX8_holdsRun), (3, [], CX8_valueAt), (4, [], CX8_change), (5, [(30, [0, 1, 2, 3, 4])], CX8_make), (5, [(10, [0, 1, 2, 3, 4])], CX8_take), (4, [(2, [0, 1, 2, 3])], CX8_giveTo), (2, [], CX8_drop), (6, [], CX8_transfer), (5, [(5, [0, 1, 2, 4])], CX8_sumOf), (4, [(2, [0, 1, 2, 3])], CX8_allWithin), (3, [(4, [0, 1, 2])], CX8_howMany), (5, [(2, [0, 1, 3]), (28, [0, 1, 3, 4])], CX8_mixInto), (3, [], CX9_row), (6, [], CX9_lay), (4, [], CX9_at), (3, [], CX9_tear), (6, [(57, [0]), (92, [0])], CX9_copy), (4, [], CX9_mean), (3, [], CX9_text), (6, [], CX9_put), (3, [], CX9_fault), (5, [(58, [0, 4])], CX9_river), (3, [], CX9_reach), (3, [], CX9_mark)]
def PRG2 : List MPr := [(3, [], CX9_weekday), (4, [], CX9_swap), (2, [], CX9_owns), (2, [], CX9_day), (3, [], CX9_undo), (2, [], CX9_keep), (2, [], CX9_on), (1, [], CX9_gates), (2, [], CX9_runs), (3, [], CX9_sea), (4, [], CX9_water), (4, [], CX9_share), (3, [(36, [0, 1, 2])], CX9_grinds), (4, [], CX9_best), (4, [], CX9_all), (4, [], CX9_most), (7, [(28, [0, 1, 3, 4, 5])], CX9_worth), (3, [], CX9_duel), (3, [], CX9_ways), (4, [], CX9_first), (6, [(19, [0, 1, 2, 4, 5])], CX9_kinds), (6, [(19, [0, 1, 2, 4, 5])], CX9_measures), (4, [], CX9_mid), (5, [], CX9_odds), (7, [(66, [0, 1, 3, 5, 6])], CX9_lots), (1, [], CX9_asked), (1, [], CX9_upper), (1, [], CX9_lower), (2, [], CX9_count), (1, [], CX9_finding), (2, [], CX9_findings), (5, [(6, [0, 1, 3]), (33, [0, 1, 3]), (91, [0, 1, 3]), (122, [0, 1, 3]), (136, [0, 1, 3, 4]), (171, [0, 1, 3])], CX9_digest), (2, [], CX9_tell), (7, [], CX9_tellFraction), (7, [(3, [0, 2, 4])], CX9_commonDivisor), (2, [], CX9_find), (5, [], CX9_makeAnew), (3, [], CX9_refuseMissing), (5, [], CX9_refusePlace), (4, [], CX9_refuseSearch)]
def PRG3 : List MPr := [(3, [], CX9_refuseWithoutRiver), (6, [(37, [0, 2, 5])], CX9_refusePlan), (4, [(37, [0])], CX9_refuseSeas), (4, [(55, [0])], CX9_refusePairs), (1, [], CX9_isWeekday), (1, [], CX9_isVillage), (1, [], CX9_isOfTwelve), (4, [], CX9_passTruly), (2, [(13, [0, 1])], CX9_replay), (2, [], CX9_readDraft), (3, [(23, [0, 1, 2])], CX9_followPlan), (4, [(31, [0, 2, 3])], CX9_groundWithout), (8, [(6, [0, 1, 2, 4, 5, 6])], CX9_agrees), (3, [], CX9_ofReach), (2, [], CX9_counted), (3, [(4, [0, 1, 2])], CX9_keptRivers), (6, [(10, [1, 2, 3, 4])], CX9_sum), (3, [], CX10_in), (2, [], CX10_meet), (3, [], CX10_ask), (2, [], CX10_has), (2, [], CX10_greater), (11, [(6, [0, 1, 3, 5, 7])], CX10_part), (1, [], CX10_isRow), (1, [], CX10_isText), (2, [], CX10_askedRow), (2, [], CX10_askedText), (3, [], CX10_rowAt), (4, [], CX10_setRow), (4, [(34, [0, 1, 2, 3])], CX10_row), (4, [], CX10_at), (5, [], CX10_lay), (3, [], CX10_tear), (7, [(45, [0]), (95, [0]), (104, [0, 1, 2, 3, 4, 5, 6]), (136, [0, 3, 4, 5, 6])], CX10_copy), (6, [(17, [0, 1, 3, 5])], CX10_mean), (4, [(34, [0, 1, 2, 3])], CX10_text), (6, [], CX10_put), (2, [], CX10_here), (2, [(0, [0, 1])], CX10_skip), (7, [], CX10_figure)]
def PRG4 : List MPr := [(6, [(29, [0, 1, 3, 4, 5])], CX10_readsWeek), (1, [], CX10_kindBy), (1, [], CX10_isGate), (1, [], CX10_isMill), (4, [(41, [0, 1, 2])], CX10_readsReach), (2, [(49, [0, 1])], CX10_readsRiver), (2, [], CX10_goesOn), (3, [], CX10_fault), (4, [(35, [0, 3]), (83, [0, 3]), (169, [0, 3])], CX10_river), (2, [], CX10_isReach), (1, [], CX10_isDay), (3, [(4, [0, 1, 2])], CX10_gateSet), (2, [], CX10_canShut), (4, [(18, [0, 1, 2, 3]), (73, [0, 1, 2, 3])], CX10_write), (4, [(18, [0, 1, 2, 3]), (73, [0, 1, 2, 3])], CX10_read), (1, [], CX10_begin), (1, [], CX10_back), (4, [(40, [0, 1, 3])], CX10_runsFrom), (3, [], CX10_grindsBy), (5, [(7, [0, 1, 2]), (73, [0, 2, 3])], CX10_pass), (3, [(4, [0, 1, 2])], CX10_groundMany), (2, [], CX10_dayTruly), (2, [], CX10_day), (3, [], CX10_undo), (4, [(29, [0, 1, 2, 3])], CX10_keep), (4, [(47, [0, 2, 3])], CX10_on), (3, [], CX10_reachOf), (3, [], CX10_reach), (3, [(27, [0, 1, 2])], CX10_isA), (5, [], CX10_mark), (3, [], CX10_weekday), (4, [], CX10_swap), (2, [], CX10_owns), (1, [], CX10_gates), (3, [], CX10_runs), (4, [(52, [0, 1, 3])], CX10_askedPlan), (6, [(29, [0, 1, 3, 4, 5])], CX10_sea), (5, [(38, [0, 1, 2, 4])], CX10_water), (6, [(38, [0, 1, 2, 4, 5])], CX10_share), (4, [(18, [0, 1, 2, 3]), (49, [0, 2, 3])], CX10_grinds)]
def PRG5 : List MPr := [(3, [(12, [0, 1, 2])], CX10_setSets), (4, [(4, [0, 1, 2, 3])], CX10_plans), (6, [(8, [0, 3, 4, 5])], CX10_setOf), (5, [(10, [0, 1, 2, 3, 4])], CX10_layPlan), (3, [(4, [0, 1, 2])], CX10_bits), (8, [(50, [0, 1, 2, 3, 4, 5, 6]), (63, [0, 1, 2, 3, 4, 5, 6, 7])], CX10_best), (3, [(4, [0, 1, 2])], CX10_millSet), (10, [(53, [0, 1, 2, 3, 4, 5, 6]), (72, [0, 1, 2, 3, 4, 5, 6, 7, 8, 9]), (135, [0, 1, 2, 3, 4, 5, 6, 7, 8]), (155, [0, 1, 2, 3, 4, 5, 6])], CX10_all), (7, [(49, [0, 1, 2, 3, 4, 5]), (62, [0, 1, 2, 3, 4, 5, 6])], CX10_most), (7, [(41, [0, 1, 2, 3, 4, 5]), (57, [0, 1, 2, 3, 4, 5, 6])], CX10_worth), (7, [(13, [0, 1, 2, 3, 4, 5, 6])], CX10_groundBy), (8, [(29, [0, 1, 2, 3]), (45, [0, 1, 2, 3, 4, 5]), (60, [0, 1, 2, 3, 4, 5, 6, 7])], CX10_duel), (3, [(56, [0, 1, 2])], CX10_askedSea), (5, [(5, [0, 1, 2, 3, 4]), (59, [0, 3])], CX10_comesSo), (6, [(31, [0, 1, 3, 4, 5])], CX10_ways), (8, [(40, [0, 1, 2, 4, 5]), (76, [0, 4, 5, 6, 7])], CX10_first), (5, [(46, [0]), (55, [0, 2, 4])], CX10_askedBook), (8, [(6, [0, 1, 2, 4, 5, 6]), (33, [0, 1, 2, 4, 5, 6])], CX10_isSo), (6, [(19, [0, 1, 2, 4, 5])], CX10_kinds), (6, [(19, [0, 1, 2, 4, 5])], CX10_measures), (4, [(4, [0, 1, 2, 3])], CX10_shutMany), (6, [(8, [0, 1, 3, 4, 5])], CX10_holds), (6, [(5, [0, 2, 3, 5])], CX10_power), (15, [(23, [0, 1, 2, 3, 4, 5, 6, 8]), (44, [0, 1, 2, 3, 4, 5, 6, 8, 9, 10, 11, 13]), (103, [0, 1, 2, 3, 4, 5, 6, 8, 10, 11, 13])], CX10_sums), (4, [], CX10_mid), (5, [(20, [0, 1, 2, 3])], CX10_odds), (11, [(56, [0, 1, 3, 5, 6]), (85, [0, 1, 3, 5, 6, 7, 8, 10])], CX10_lots), (1, [], CX10_asked), (1, [], CX10_upper), (1, [], CX10_lower), (4, [(4, [0, 1, 2, 3])], CX10_there), (4, [(4, [0, 1, 2, 3])], CX10_tells), (2, [], CX10_count), (1, [], CX10_finding), (2, [], CX10_findings), (2, [], CX10_mix), (3, [(2, [0, 1]), (43, [0, 1]), (67, [0, 1]), (77, [0, 1, 2]), (106, [0, 1])], CX10_mixRiver), (3, [(9, [0, 1]), (36, [0, 1]), (67, [0, 1, 2]), (101, [0, 1]), (131, [0, 1, 2])], CX10_digest)]
def PRG : List MPr := PRG0 ++ (PRG1 ++ (PRG2 ++ (PRG3 ++ (PRG4 ++ (PRG5)))))
/-- the runs of all methods: N the loops' fuel, d the depth of calls -/
def arun (N : Nat) : Nat → ORC
  | 0 => fun _ _ _ => none
  | d + 1 => fun y as A => match lgt PRG y with
    | some q => bif Nat.ble (cats as) q.1 then exec (q.2.2 (arun N d)) q.2.1 N 0 (padL q.1 (ent as)) A else none
    | none => none
theorem mf_J6_bitCount_0f7a4 : MF (yJ6_bitCount_0f7a4, cJ6_bitCount_0f7a4, 1, (some .int)) 1 := ⟨g587, g94, by decide +kernel, by decide +kernel⟩
theorem mf_J9_floorMod_7cf53 : MF (yJ9_floorMod_7cf53, cJ9_floorMod_7cf53, 3, (some .int)) 2 := ⟨g749, g83, by decide +kernel, by decide +kernel⟩
theorem mf_J9_max_7cf53 : MF (yJ9_max_7cf53, cJ9_max_7cf53, 2, (some .int)) 2 := ⟨g111, g83, by decide +kernel, by decide +kernel⟩
theorem mf_J9_min_7cf53 : MF (yJ9_min_7cf53, cJ9_min_7cf53, 2, (some .int)) 2 := ⟨g546, g83, by decide +kernel, by decide +kernel⟩
theorem mf_X0_begin : MF (yX0_begin, cX0_begin, 4, none) 2 := ⟨g733, g87, by decide +kernel, by decide +kernel⟩
theorem mf_X0_passOn : MF (yX0_passOn, cX0_passOn, 5, none) 3 := ⟨g738, g87, by decide +kernel, by decide +kernel⟩
theorem mf_X0_branch : MF (yX0_branch, cX0_branch, 4, none) 3 := ⟨g819, g87, by decide +kernel, by decide +kernel⟩
theorem mf_X0_ownerOf : MF (yX0_ownerOf, cX0_ownerOf, 3, (some .int)) 2 := ⟨g758, g87, by decide +kernel, by decide +kernel⟩
theorem mf_X0_waterNow : MF (yX0_waterNow, cX0_waterNow, 2, (some .int)) 1 := ⟨g783, g87, by decide +kernel, by decide +kernel⟩
theorem mf_X0_weekdayOf : MF (yX0_weekdayOf, cX0_weekdayOf, 2, (some .int)) 1 := ⟨g746, g87, by decide +kernel, by decide +kernel⟩
theorem mf_X0_pass : MF (yX0_pass, cX0_pass, 6, none) 4 := ⟨g742, g87, by decide +kernel, by decide +kernel⟩
theorem mf_X1_weigh : MF (yX1_weigh, cX1_weigh, 8, none) 6 := ⟨g921, g89, by decide +kernel, by decide +kernel⟩
theorem mf_X1_spread : MF (yX1_spread, cX1_spread, 12, none) 5 := ⟨g932, g89, by decide +kernel, by decide +kernel⟩
theorem mf_X1_weightOf : MF (yX1_weightOf, cX1_weightOf, 3, (some .long)) 2 := ⟨g936, g89, by decide +kernel, by decide +kernel⟩
theorem mf_X1_power : MF (yX1_power, cX1_power, 5, (some .long)) 2 := ⟨g928, g89, by decide +kernel, by decide +kernel⟩
theorem mf_X2_clear : MF (yX2_clear, cX2_clear, 1, none) 0 := ⟨g550, g90, by decide +kernel, by decide +kernel⟩
theorem mf_X2_hasReach : MF (yX2_hasReach, cX2_hasReach, 2, (some .boolean)) 1 := ⟨g661, g90, by decide +kernel, by decide +kernel⟩
theorem mf_X2_canShut : MF (yX2_canShut, cX2_canShut, 2, (some .boolean)) 1 := ⟨g603, g90, by decide +kernel, by decide +kernel⟩
theorem mf_X2_hasRoomFor : MF (yX2_hasRoomFor, cX2_hasRoomFor, 3, (some .boolean)) 1 := ⟨g581, g90, by decide +kernel, by decide +kernel⟩
theorem mf_X2_add : MF (yX2_add, cX2_add, 4, none) 3 := ⟨g594, g90, by decide +kernel, by decide +kernel⟩
theorem mf_X2_listSets : MF (yX2_listSets, cX2_listSets, 2, none) 0 := ⟨g599, g90, by decide +kernel, by decide +kernel⟩
theorem mf_X2_setByLot : MF (yX2_setByLot, cX2_setByLot, 5, (some .int)) 1 := ⟨g951, g90, by decide +kernel, by decide +kernel⟩
theorem mf_X2_letRun : MF (yX2_letRun, cX2_letRun, 5, none) 3 := ⟨g629, g90, by decide +kernel, by decide +kernel⟩
theorem mf_X2_takeIn : MF (yX2_takeIn, cX2_takeIn, 6, none) 3 := ⟨g636, g90, by decide +kernel, by decide +kernel⟩
theorem mf_X2_toSea : MF (yX2_toSea, cX2_toSea, 2, (some .int)) 1 := ⟨g650, g90, by decide +kernel, by decide +kernel⟩
theorem mf_X2_grindingBy : MF (yX2_grindingBy, cX2_grindingBy, 4, (some .int)) 1 := ⟨g643, g90, by decide +kernel, by decide +kernel⟩
theorem mf_X3_add : MF (yX3_add, cX3_add, 3, none) 2 := ⟨g704, g86, by decide +kernel, by decide +kernel⟩
theorem mf_X3_cutTo : MF (yX3_cutTo, cX3_cutTo, 2, none) 1 := ⟨g611, g86, by decide +kernel, by decide +kernel⟩
theorem mf_X3_become : MF (yX3_become, cX3_become, 2, none) 1 := ⟨g716, g86, by decide +kernel, by decide +kernel⟩
theorem mf_X4_start : MF (yX4_start, cX4_start, 3, none) 1 := ⟨g621, g85, by decide +kernel, by decide +kernel⟩
theorem mf_X4_pass : MF (yX4_pass, cX4_pass, 7, (some .int)) 4 := ⟨g625, g85, by decide +kernel, by decide +kernel⟩
theorem mf_X5_seek : MF (yX5_seek, cX5_seek, 6, none) 5 := ⟨g803, g88, by decide +kernel, by decide +kernel⟩
theorem mf_X5_goDeeper : MF (yX5_goDeeper, cX5_goDeeper, 6, none) 3 := ⟨g810, g88, by decide +kernel, by decide +kernel⟩
theorem mf_X5_fits : MF (yX5_fits, cX5_fits, 3, (some .boolean)) 2 := ⟨g824, g88, by decide +kernel, by decide +kernel⟩
theorem mf_X5_gain : MF (yX5_gain, cX5_gain, 3, (some .int)) 2 := ⟨g828, g88, by decide +kernel, by decide +kernel⟩
theorem mf_X5_arrive : MF (yX5_arrive, cX5_arrive, 2, none) 1 := ⟨g814, g88, by decide +kernel, by decide +kernel⟩
theorem mf_X5_shutTogether : MF (yX5_shutTogether, cX5_shutTogether, 3, (some .int)) 0 := ⟨g892, g88, by decide +kernel, by decide +kernel⟩
theorem mf_X5_contest : MF (yX5_contest, cX5_contest, 5, (some .int)) 4 := ⟨g860, g88, by decide +kernel, by decide +kernel⟩
theorem mf_X5_contend : MF (yX5_contend, cX5_contend, 7, (some .int)) 2 := ⟨g864, g88, by decide +kernel, by decide +kernel⟩
theorem mf_X6_byLetter : MF (yX6_byLetter, cX6_byLetter, 1, (some .int)) 1 := ⟨g577, g93, by decide +kernel, by decide +kernel⟩
theorem mf_X6_isOf : MF (yX6_isOf, cX6_isOf, 2, (some .boolean)) 2 := ⟨g584, g93, by decide +kernel, by decide +kernel⟩
theorem mf_X6_runFrom : MF (yX6_runFrom, cX6_runFrom, 4, (some .int)) 4 := ⟨g632, g93, by decide +kernel, by decide +kernel⟩
theorem mf_X6_settle : MF (yX6_settle, cX6_settle, 3, (some .int)) 2 := ⟨g639, g93, by decide +kernel, by decide +kernel⟩
theorem mf_X6_grindsBy : MF (yX6_grindsBy, cX6_grindsBy, 3, (some .boolean)) 3 := ⟨g646, g93, by decide +kernel, by decide +kernel⟩
theorem mf_X6_signOf : MF (yX6_signOf, cX6_signOf, 3, (some .int)) 3 := ⟨g673, g93, by decide +kernel, by decide +kernel⟩
theorem mf_X7_read : MF (yX7_read, cX7_read, 6, (some .int)) 3 := ⟨g538, g84, by decide +kernel, by decide +kernel⟩
theorem mf_X7_takesWeek : MF (yX7_takesWeek, cX7_takesWeek, 5, (some .boolean)) 3 := ⟨g554, g84, by decide +kernel, by decide +kernel⟩
theorem mf_X7_takesReach : MF (yX7_takesReach, cX7_takesReach, 4, (some .boolean)) 1 := ⟨g574, g84, by decide +kernel, by decide +kernel⟩
theorem mf_X7_onlyBlanksLeft : MF (yX7_onlyBlanksLeft, cX7_onlyBlanksLeft, 1, (some .boolean)) 0 := ⟨g570, g84, by decide +kernel, by decide +kernel⟩
theorem mf_X7_seen : MF (yX7_seen, cX7_seen, 1, (some .int)) 0 := ⟨g562, g84, by decide +kernel, by decide +kernel⟩
theorem mf_X7_seesFigure : MF (yX7_seesFigure, cX7_seesFigure, 3, (some .boolean)) 2 := ⟨g566, g84, by decide +kernel, by decide +kernel⟩
theorem mf_X7_skipBlanks : MF (yX7_skipBlanks, cX7_skipBlanks, 2, none) 0 := ⟨g558, g84, by decide +kernel, by decide +kernel⟩
theorem mf_X8_isOne : MF (yX8_isOne, cX8_isOne, 2, (some .boolean)) 1 := ⟨g435, g82, by decide +kernel, by decide +kernel⟩
theorem mf_X8_isThere : MF (yX8_isThere, cX8_isThere, 2, (some .boolean)) 1 := ⟨g460, g82, by decide +kernel, by decide +kernel⟩
theorem mf_X8_sizeOf : MF (yX8_sizeOf, cX8_sizeOf, 2, (some .int)) 1 := ⟨g513, g82, by decide +kernel, by decide +kernel⟩
theorem mf_X8_holds : MF (yX8_holds, cX8_holds, 3, (some .boolean)) 2 := ⟨g464, g82, by decide +kernel, by decide +kernel⟩
theorem mf_X8_holdsRun : MF (yX8_holdsRun, cX8_holdsRun, 4, (some .boolean)) 3 := ⟨g497, g82, by decide +kernel, by decide +kernel⟩
theorem mf_X8_valueAt : MF (yX8_valueAt, cX8_valueAt, 3, (some .int)) 2 := ⟨g468, g82, by decide +kernel, by decide +kernel⟩
theorem mf_X8_change : MF (yX8_change, cX8_change, 4, none) 3 := ⟨g473, g82, by decide +kernel, by decide +kernel⟩
theorem mf_X8_make : MF (yX8_make, cX8_make, 5, none) 3 := ⟨g443, g82, by decide +kernel, by decide +kernel⟩
theorem mf_X8_take : MF (yX8_take, cX8_take, 5, none) 3 := ⟨g834, g82, by decide +kernel, by decide +kernel⟩
theorem mf_X8_giveTo : MF (yX8_giveTo, cX8_giveTo, 4, none) 2 := ⟨g542, g82, by decide +kernel, by decide +kernel⟩
theorem mf_X8_drop : MF (yX8_drop, cX8_drop, 2, none) 1 := ⟨g489, g82, by decide +kernel, by decide +kernel⟩
theorem mf_X8_transfer : MF (yX8_transfer, cX8_transfer, 6, none) 5 := ⟨g501, g82, by decide +kernel, by decide +kernel⟩
theorem mf_X8_sumOf : MF (yX8_sumOf, cX8_sumOf, 5, (some .long)) 1 := ⟨g517, g82, by decide +kernel, by decide +kernel⟩
theorem mf_X8_allWithin : MF (yX8_allWithin, cX8_allWithin, 4, (some .boolean)) 2 := ⟨g876, g82, by decide +kernel, by decide +kernel⟩
theorem mf_X8_howMany : MF (yX8_howMany, cX8_howMany, 3, (some .int)) 0 := ⟨g979, g82, by decide +kernel, by decide +kernel⟩
theorem mf_X8_mixInto : MF (yX8_mixInto, cX8_mixInto, 5, (some .long)) 1 := ⟨g1002, g82, by decide +kernel, by decide +kernel⟩
theorem mf_X9_row : MF (yX9_row, cX9_row, 3, (some .int)) 2 := ⟨g427, g81, by decide +kernel, by decide +kernel⟩
theorem mf_X9_lay : MF (yX9_lay, cX9_lay, 6, (some .int)) 3 := ⟨g448, g81, by decide +kernel, by decide +kernel⟩
theorem mf_X9_at : MF (yX9_at, cX9_at, 4, (some .int)) 2 := ⟨g481, g81, by decide +kernel, by decide +kernel⟩
theorem mf_X9_tear : MF (yX9_tear, cX9_tear, 3, (some .int)) 1 := ⟨g485, g81, by decide +kernel, by decide +kernel⟩
theorem mf_X9_copy : MF (yX9_copy, cX9_copy, 6, (some .int)) 5 := ⟨g493, g81, by decide +kernel, by decide +kernel⟩
theorem mf_X9_mean : MF (yX9_mean, cX9_mean, 4, (some .int)) 1 := ⟨g509, g81, by decide +kernel, by decide +kernel⟩
theorem mf_X9_text : MF (yX9_text, cX9_text, 3, (some .int)) 2 := ⟨g522, g81, by decide +kernel, by decide +kernel⟩
theorem mf_X9_put : MF (yX9_put, cX9_put, 6, (some .int)) 3 := ⟨g526, g81, by decide +kernel, by decide +kernel⟩
theorem mf_X9_fault : MF (yX9_fault, cX9_fault, 3, (some .int)) 1 := ⟨g530, g81, by decide +kernel, by decide +kernel⟩
theorem mf_X9_river : MF (yX9_river, cX9_river, 5, (some .int)) 1 := ⟨g607, g81, by decide +kernel, by decide +kernel⟩
theorem mf_X9_reach : MF (yX9_reach, cX9_reach, 3, (some .int)) 2 := ⟨g657, g81, by decide +kernel, by decide +kernel⟩
theorem mf_X9_mark : MF (yX9_mark, cX9_mark, 3, (some .int)) 2 := ⟨g669, g81, by decide +kernel, by decide +kernel⟩
theorem mf_X9_weekday : MF (yX9_weekday, cX9_weekday, 3, (some .int)) 2 := ⟨g679, g81, by decide +kernel, by decide +kernel⟩
theorem mf_X9_swap : MF (yX9_swap, cX9_swap, 4, (some .int)) 2 := ⟨g686, g81, by decide +kernel, by decide +kernel⟩
theorem mf_X9_owns : MF (yX9_owns, cX9_owns, 2, (some .int)) 1 := ⟨g690, g81, by decide +kernel, by decide +kernel⟩
theorem mf_X9_day : MF (yX9_day, cX9_day, 2, (some .int)) 1 := ⟨g695, g81, by decide +kernel, by decide +kernel⟩
theorem mf_X9_undo : MF (yX9_undo, cX9_undo, 3, (some .int)) 1 := ⟨g708, g81, by decide +kernel, by decide +kernel⟩
theorem mf_X9_keep : MF (yX9_keep, cX9_keep, 2, (some .int)) 1 := ⟨g712, g81, by decide +kernel, by decide +kernel⟩
theorem mf_X9_on : MF (yX9_on, cX9_on, 2, (some .int)) 1 := ⟨g721, g81, by decide +kernel, by decide +kernel⟩
theorem mf_X9_gates : MF (yX9_gates, cX9_gates, 1, (some .int)) 0 := ⟨g725, g81, by decide +kernel, by decide +kernel⟩
theorem mf_X9_runs : MF (yX9_runs, cX9_runs, 2, (some .int)) 1 := ⟨g729, g81, by decide +kernel, by decide +kernel⟩
theorem mf_X9_sea : MF (yX9_sea, cX9_sea, 3, (some .int)) 1 := ⟨g763, g81, by decide +kernel, by decide +kernel⟩
theorem mf_X9_water : MF (yX9_water, cX9_water, 4, (some .int)) 2 := ⟨g779, g81, by decide +kernel, by decide +kernel⟩
theorem mf_X9_share : MF (yX9_share, cX9_share, 4, (some .int)) 2 := ⟨g787, g81, by decide +kernel, by decide +kernel⟩
theorem mf_X9_grinds : MF (yX9_grinds, cX9_grinds, 3, (some .int)) 1 := ⟨g791, g81, by decide +kernel, by decide +kernel⟩
theorem mf_X9_best : MF (yX9_best, cX9_best, 4, (some .int)) 2 := ⟨g795, g81, by decide +kernel, by decide +kernel⟩
theorem mf_X9_all : MF (yX9_all, cX9_all, 4, (some .int)) 2 := ⟨g840, g81, by decide +kernel, by decide +kernel⟩
theorem mf_X9_most : MF (yX9_most, cX9_most, 4, (some .int)) 2 := ⟨g844, g81, by decide +kernel, by decide +kernel⟩
theorem mf_X9_worth : MF (yX9_worth, cX9_worth, 7, (some .int)) 1 := ⟨g848, g81, by decide +kernel, by decide +kernel⟩
theorem mf_X9_duel : MF (yX9_duel, cX9_duel, 3, (some .int)) 1 := ⟨g856, g81, by decide +kernel, by decide +kernel⟩
theorem mf_X9_ways : MF (yX9_ways, cX9_ways, 3, (some .int)) 1 := ⟨g868, g81, by decide +kernel, by decide +kernel⟩
theorem mf_X9_first : MF (yX9_first, cX9_first, 4, (some .int)) 2 := ⟨g888, g81, by decide +kernel, by decide +kernel⟩
theorem mf_X9_kinds : MF (yX9_kinds, cX9_kinds, 6, (some .int)) 2 := ⟨g896, g81, by decide +kernel, by decide +kernel⟩
theorem mf_X9_measures : MF (yX9_measures, cX9_measures, 6, (some .int)) 2 := ⟨g910, g81, by decide +kernel, by decide +kernel⟩
theorem mf_X9_mid : MF (yX9_mid, cX9_mid, 4, (some .int)) 2 := ⟨g914, g81, by decide +kernel, by decide +kernel⟩
theorem mf_X9_odds : MF (yX9_odds, cX9_odds, 5, (some .int)) 3 := ⟨g941, g81, by decide +kernel, by decide +kernel⟩
theorem mf_X9_lots : MF (yX9_lots, cX9_lots, 7, (some .int)) 2 := ⟨g945, g81, by decide +kernel, by decide +kernel⟩
theorem mf_X9_asked : MF (yX9_asked, cX9_asked, 1, (some .int)) 0 := ⟨g955, g81, by decide +kernel, by decide +kernel⟩
theorem mf_X9_upper : MF (yX9_upper, cX9_upper, 1, (some .long)) 0 := ⟨g959, g81, by decide +kernel, by decide +kernel⟩
theorem mf_X9_lower : MF (yX9_lower, cX9_lower, 1, (some .long)) 0 := ⟨g963, g81, by decide +kernel, by decide +kernel⟩
theorem mf_X9_count : MF (yX9_count, cX9_count, 2, (some .int)) 1 := ⟨g967, g81, by decide +kernel, by decide +kernel⟩
theorem mf_X9_finding : MF (yX9_finding, cX9_finding, 1, (some .int)) 0 := ⟨g988, g81, by decide +kernel, by decide +kernel⟩
theorem mf_X9_findings : MF (yX9_findings, cX9_findings, 2, (some .int)) 1 := ⟨g992, g81, by decide +kernel, by decide +kernel⟩
theorem mf_X9_digest : MF (yX9_digest, cX9_digest, 5, (some .long)) 0 := ⟨g996, g81, by decide +kernel, by decide +kernel⟩
theorem mf_X9_tell : MF (yX9_tell, cX9_tell, 2, (some .int)) 1 := ⟨g477, g81, by decide +kernel, by decide +kernel⟩
theorem mf_X9_tellFraction : MF (yX9_tellFraction, cX9_tellFraction, 7, none) 2 := ⟨g881, g81, by decide +kernel, by decide +kernel⟩
theorem mf_X9_commonDivisor : MF (yX9_commonDivisor, cX9_commonDivisor, 7, (some .long)) 2 := ⟨g884, g81, by decide +kernel, by decide +kernel⟩
theorem mf_X9_find : MF (yX9_find, cX9_find, 2, (some .int)) 1 := ⟨g439, g81, by decide +kernel, by decide +kernel⟩
theorem mf_X9_makeAnew : MF (yX9_makeAnew, cX9_makeAnew, 5, (some .int)) 4 := ⟨g431, g81, by decide +kernel, by decide +kernel⟩
theorem mf_X9_refuseMissing : MF (yX9_refuseMissing, cX9_refuseMissing, 3, (some .int)) 2 := ⟨g456, g81, by decide +kernel, by decide +kernel⟩
theorem mf_X9_refusePlace : MF (yX9_refusePlace, cX9_refusePlace, 5, (some .int)) 3 := ⟨g452, g81, by decide +kernel, by decide +kernel⟩
theorem mf_X9_refuseSearch : MF (yX9_refuseSearch, cX9_refuseSearch, 4, (some .int)) 3 := ⟨g799, g81, by decide +kernel, by decide +kernel⟩
theorem mf_X9_refuseWithoutRiver : MF (yX9_refuseWithoutRiver, cX9_refuseWithoutRiver, 3, (some .int)) 2 := ⟨g771, g81, by decide +kernel, by decide +kernel⟩
theorem mf_X9_refusePlan : MF (yX9_refusePlan, cX9_refusePlan, 6, (some .int)) 3 := ⟨g767, g81, by decide +kernel, by decide +kernel⟩
theorem mf_X9_refuseSeas : MF (yX9_refuseSeas, cX9_refuseSeas, 4, (some .int)) 2 := ⟨g872, g81, by decide +kernel, by decide +kernel⟩
theorem mf_X9_refusePairs : MF (yX9_refusePairs, cX9_refusePairs, 4, (some .int)) 2 := ⟨g900, g81, by decide +kernel, by decide +kernel⟩
theorem mf_X9_isWeekday : MF (yX9_isWeekday, cX9_isWeekday, 1, (some .boolean)) 1 := ⟨g682, g81, by decide +kernel, by decide +kernel⟩
theorem mf_X9_isVillage : MF (yX9_isVillage, cX9_isVillage, 1, (some .boolean)) 1 := ⟨g653, g81, by decide +kernel, by decide +kernel⟩
theorem mf_X9_isOfTwelve : MF (yX9_isOfTwelve, cX9_isOfTwelve, 1, (some .boolean)) 1 := ⟨g917, g81, by decide +kernel, by decide +kernel⟩
theorem mf_X9_passTruly : MF (yX9_passTruly, cX9_passTruly, 4, (some .int)) 1 := ⟨g700, g81, by decide +kernel, by decide +kernel⟩
theorem mf_X9_replay : MF (yX9_replay, cX9_replay, 2, none) 0 := ⟨g617, g81, by decide +kernel, by decide +kernel⟩
theorem mf_X9_readDraft : MF (yX9_readDraft, cX9_readDraft, 2, (some .int)) 1 := ⟨g534, g81, by decide +kernel, by decide +kernel⟩
theorem mf_X9_followPlan : MF (yX9_followPlan, cX9_followPlan, 3, none) 1 := ⟨g775, g81, by decide +kernel, by decide +kernel⟩
theorem mf_X9_groundWithout : MF (yX9_groundWithout, cX9_groundWithout, 4, (some .int)) 2 := ⟨g852, g81, by decide +kernel, by decide +kernel⟩
theorem mf_X9_agrees : MF (yX9_agrees, cX9_agrees, 8, (some .boolean)) 4 := ⟨g904, g81, by decide +kernel, by decide +kernel⟩
theorem mf_X9_ofReach : MF (yX9_ofReach, cX9_ofReach, 3, (some .int)) 2 := ⟨g665, g81, by decide +kernel, by decide +kernel⟩
theorem mf_X9_counted : MF (yX9_counted, cX9_counted, 2, (some .int)) 1 := ⟨g971, g81, by decide +kernel, by decide +kernel⟩
theorem mf_X9_keptRivers : MF (yX9_keptRivers, cX9_keptRivers, 3, (some .int)) 0 := ⟨g984, g81, by decide +kernel, by decide +kernel⟩
theorem mf_X9_sum : MF (yX9_sum, cX9_sum, 6, (some .int)) 1 := ⟨g974, g81, by decide +kernel, by decide +kernel⟩
theorem mf_X10_in : MF (yX10_in, cX10_in, 3, (some .boolean)) 3 := ⟨g1128, g91, by decide +kernel, by decide +kernel⟩
theorem mf_X10_meet : MF (yX10_meet, cX10_meet, 2, (some .int)) 1 := ⟨g1132, g91, by decide +kernel, by decide +kernel⟩
theorem mf_X10_ask : MF (yX10_ask, cX10_ask, 3, (some .int)) 2 := ⟨g1152, g91, by decide +kernel, by decide +kernel⟩
theorem mf_X10_has : MF (yX10_has, cX10_has, 2, (some .boolean)) 2 := ⟨g1257, g91, by decide +kernel, by decide +kernel⟩
theorem mf_X10_greater : MF (yX10_greater, cX10_greater, 2, (some .int)) 2 := ⟨g1260, g91, by decide +kernel, by decide +kernel⟩
theorem mf_X10_part : MF (yX10_part, cX10_part, 11, (some .int)) 2 := ⟨g1422, g91, by decide +kernel, by decide +kernel⟩
theorem mf_X10_isRow : MF (yX10_isRow, cX10_isRow, 1, (some .boolean)) 1 := ⟨g1125, g91, by decide +kernel, by decide +kernel⟩
theorem mf_X10_isText : MF (yX10_isText, cX10_isText, 1, (some .boolean)) 1 := ⟨g1176, g91, by decide +kernel, by decide +kernel⟩
theorem mf_X10_askedRow : MF (yX10_askedRow, cX10_askedRow, 2, (some .int)) 1 := ⟨g1144, g91, by decide +kernel, by decide +kernel⟩
theorem mf_X10_askedText : MF (yX10_askedText, cX10_askedText, 2, (some .int)) 1 := ⟨g1184, g91, by decide +kernel, by decide +kernel⟩
theorem mf_X10_rowAt : MF (yX10_rowAt, cX10_rowAt, 3, (some .int)) 2 := ⟨g1148, g91, by decide +kernel, by decide +kernel⟩
theorem mf_X10_setRow : MF (yX10_setRow, cX10_setRow, 4, none) 3 := ⟨g1136, g91, by decide +kernel, by decide +kernel⟩
theorem mf_X10_row : MF (yX10_row, cX10_row, 4, (some .int)) 2 := ⟨g1122, g91, by decide +kernel, by decide +kernel⟩
theorem mf_X10_at : MF (yX10_at, cX10_at, 4, (some .int)) 2 := ⟨g1140, g91, by decide +kernel, by decide +kernel⟩
theorem mf_X10_lay : MF (yX10_lay, cX10_lay, 5, (some .int)) 3 := ⟨g1156, g91, by decide +kernel, by decide +kernel⟩
theorem mf_X10_tear : MF (yX10_tear, cX10_tear, 3, (some .int)) 1 := ⟨g1161, g91, by decide +kernel, by decide +kernel⟩
theorem mf_X10_copy : MF (yX10_copy, cX10_copy, 7, (some .int)) 5 := ⟨g1165, g91, by decide +kernel, by decide +kernel⟩
theorem mf_X10_mean : MF (yX10_mean, cX10_mean, 6, (some .int)) 1 := ⟨g1169, g91, by decide +kernel, by decide +kernel⟩
theorem mf_X10_text : MF (yX10_text, cX10_text, 4, (some .int)) 2 := ⟨g1173, g91, by decide +kernel, by decide +kernel⟩
theorem mf_X10_put : MF (yX10_put, cX10_put, 6, (some .int)) 3 := ⟨g1180, g91, by decide +kernel, by decide +kernel⟩
theorem mf_X10_here : MF (yX10_here, cX10_here, 2, (some .int)) 1 := ⟨g1208, g91, by decide +kernel, by decide +kernel⟩
theorem mf_X10_skip : MF (yX10_skip, cX10_skip, 2, none) 1 := ⟨g1204, g91, by decide +kernel, by decide +kernel⟩
theorem mf_X10_figure : MF (yX10_figure, cX10_figure, 7, (some .boolean)) 5 := ⟨g1212, g91, by decide +kernel, by decide +kernel⟩
theorem mf_X10_readsWeek : MF (yX10_readsWeek, cX10_readsWeek, 6, (some .boolean)) 4 := ⟨g1200, g91, by decide +kernel, by decide +kernel⟩
theorem mf_X10_kindBy : MF (yX10_kindBy, cX10_kindBy, 1, (some .int)) 1 := ⟨g1219, g91, by decide +kernel, by decide +kernel⟩
theorem mf_X10_isGate : MF (yX10_isGate, cX10_isGate, 1, (some .boolean)) 1 := ⟨g1222, g91, by decide +kernel, by decide +kernel⟩
theorem mf_X10_isMill : MF (yX10_isMill, cX10_isMill, 1, (some .boolean)) 1 := ⟨g1267, g91, by decide +kernel, by decide +kernel⟩
theorem mf_X10_readsReach : MF (yX10_readsReach, cX10_readsReach, 4, (some .boolean)) 1 := ⟨g1216, g91, by decide +kernel, by decide +kernel⟩
theorem mf_X10_readsRiver : MF (yX10_readsRiver, cX10_readsRiver, 2, (some .boolean)) 1 := ⟨g1196, g91, by decide +kernel, by decide +kernel⟩
theorem mf_X10_goesOn : MF (yX10_goesOn, cX10_goesOn, 2, (some .int)) 1 := ⟨g1192, g91, by decide +kernel, by decide +kernel⟩
theorem mf_X10_fault : MF (yX10_fault, cX10_fault, 3, (some .int)) 1 := ⟨g1188, g91, by decide +kernel, by decide +kernel⟩
theorem mf_X10_river : MF (yX10_river, cX10_river, 4, (some .int)) 1 := ⟨g1226, g91, by decide +kernel, by decide +kernel⟩
theorem mf_X10_isReach : MF (yX10_isReach, cX10_isReach, 2, (some .boolean)) 1 := ⟨g1291, g91, by decide +kernel, by decide +kernel⟩
theorem mf_X10_isDay : MF (yX10_isDay, cX10_isDay, 1, (some .boolean)) 1 := ⟨g1310, g91, by decide +kernel, by decide +kernel⟩
theorem mf_X10_gateSet : MF (yX10_gateSet, cX10_gateSet, 3, (some .int)) 0 := ⟨g1238, g91, by decide +kernel, by decide +kernel⟩
theorem mf_X10_canShut : MF (yX10_canShut, cX10_canShut, 2, (some .boolean)) 1 := ⟨g1234, g91, by decide +kernel, by decide +kernel⟩
theorem mf_X10_write : MF (yX10_write, cX10_write, 4, none) 2 := ⟨g1246, g91, by decide +kernel, by decide +kernel⟩
theorem mf_X10_read : MF (yX10_read, cX10_read, 4, none) 2 := ⟨g1275, g91, by decide +kernel, by decide +kernel⟩
theorem mf_X10_begin : MF (yX10_begin, cX10_begin, 1, none) 0 := ⟨g1330, g91, by decide +kernel, by decide +kernel⟩
theorem mf_X10_back : MF (yX10_back, cX10_back, 1, none) 0 := ⟨g1334, g91, by decide +kernel, by decide +kernel⟩
theorem mf_X10_runsFrom : MF (yX10_runsFrom, cX10_runsFrom, 4, (some .int)) 2 := ⟨g1254, g91, by decide +kernel, by decide +kernel⟩
theorem mf_X10_grindsBy : MF (yX10_grindsBy, cX10_grindsBy, 3, (some .boolean)) 2 := ⟨g1264, g91, by decide +kernel, by decide +kernel⟩
theorem mf_X10_pass : MF (yX10_pass, cX10_pass, 5, (some .int)) 1 := ⟨g1250, g91, by decide +kernel, by decide +kernel⟩
theorem mf_X10_groundMany : MF (yX10_groundMany, cX10_groundMany, 3, (some .int)) 0 := ⟨g1346, g91, by decide +kernel, by decide +kernel⟩
theorem mf_X10_dayTruly : MF (yX10_dayTruly, cX10_dayTruly, 2, (some .int)) 1 := ⟨g1242, g91, by decide +kernel, by decide +kernel⟩
theorem mf_X10_day : MF (yX10_day, cX10_day, 2, (some .int)) 1 := ⟨g1230, g91, by decide +kernel, by decide +kernel⟩
theorem mf_X10_undo : MF (yX10_undo, cX10_undo, 3, (some .int)) 1 := ⟨g1271, g91, by decide +kernel, by decide +kernel⟩
theorem mf_X10_keep : MF (yX10_keep, cX10_keep, 4, (some .int)) 1 := ⟨g1279, g91, by decide +kernel, by decide +kernel⟩
theorem mf_X10_on : MF (yX10_on, cX10_on, 4, (some .int)) 1 := ⟨g1283, g91, by decide +kernel, by decide +kernel⟩
theorem mf_X10_reachOf : MF (yX10_reachOf, cX10_reachOf, 3, (some .int)) 2 := ⟨g1295, g91, by decide +kernel, by decide +kernel⟩
theorem mf_X10_reach : MF (yX10_reach, cX10_reach, 3, (some .int)) 2 := ⟨g1287, g91, by decide +kernel, by decide +kernel⟩
theorem mf_X10_isA : MF (yX10_isA, cX10_isA, 3, (some .boolean)) 2 := ⟨g1303, g91, by decide +kernel, by decide +kernel⟩
theorem mf_X10_mark : MF (yX10_mark, cX10_mark, 5, (some .int)) 2 := ⟨g1299, g91, by decide +kernel, by decide +kernel⟩
theorem mf_X10_weekday : MF (yX10_weekday, cX10_weekday, 3, (some .int)) 2 := ⟨g1307, g91, by decide +kernel, by decide +kernel⟩
theorem mf_X10_swap : MF (yX10_swap, cX10_swap, 4, (some .int)) 2 := ⟨g1314, g91, by decide +kernel, by decide +kernel⟩
theorem mf_X10_owns : MF (yX10_owns, cX10_owns, 2, (some .int)) 1 := ⟨g1318, g91, by decide +kernel, by decide +kernel⟩
theorem mf_X10_gates : MF (yX10_gates, cX10_gates, 1, (some .int)) 0 := ⟨g1322, g91, by decide +kernel, by decide +kernel⟩
theorem mf_X10_runs : MF (yX10_runs, cX10_runs, 3, (some .int)) 1 := ⟨g1326, g91, by decide +kernel, by decide +kernel⟩
theorem mf_X10_askedPlan : MF (yX10_askedPlan, cX10_askedPlan, 4, (some .int)) 2 := ⟨g1342, g91, by decide +kernel, by decide +kernel⟩
theorem mf_X10_sea : MF (yX10_sea, cX10_sea, 6, (some .int)) 1 := ⟨g1338, g91, by decide +kernel, by decide +kernel⟩
theorem mf_X10_water : MF (yX10_water, cX10_water, 5, (some .int)) 2 := ⟨g1350, g91, by decide +kernel, by decide +kernel⟩
theorem mf_X10_share : MF (yX10_share, cX10_share, 6, (some .int)) 2 := ⟨g1354, g91, by decide +kernel, by decide +kernel⟩
theorem mf_X10_grinds : MF (yX10_grinds, cX10_grinds, 4, (some .int)) 1 := ⟨g1358, g91, by decide +kernel, by decide +kernel⟩
theorem mf_X10_setSets : MF (yX10_setSets, cX10_setSets, 3, none) 0 := ⟨g1366, g91, by decide +kernel, by decide +kernel⟩
theorem mf_X10_plans : MF (yX10_plans, cX10_plans, 4, (some .int)) 1 := ⟨g1370, g91, by decide +kernel, by decide +kernel⟩
theorem mf_X10_setOf : MF (yX10_setOf, cX10_setOf, 6, (some .int)) 3 := ⟨g1374, g91, by decide +kernel, by decide +kernel⟩
theorem mf_X10_layPlan : MF (yX10_layPlan, cX10_layPlan, 5, none) 3 := ⟨g1378, g91, by decide +kernel, by decide +kernel⟩
theorem mf_X10_bits : MF (yX10_bits, cX10_bits, 3, (some .int)) 1 := ⟨g1390, g91, by decide +kernel, by decide +kernel⟩
theorem mf_X10_best : MF (yX10_best, cX10_best, 8, (some .int)) 2 := ⟨g1362, g91, by decide +kernel, by decide +kernel⟩
theorem mf_X10_millSet : MF (yX10_millSet, cX10_millSet, 3, (some .int)) 0 := ⟨g1386, g91, by decide +kernel, by decide +kernel⟩
theorem mf_X10_all : MF (yX10_all, cX10_all, 10, (some .int)) 2 := ⟨g1382, g91, by decide +kernel, by decide +kernel⟩
theorem mf_X10_most : MF (yX10_most, cX10_most, 7, (some .int)) 2 := ⟨g1394, g91, by decide +kernel, by decide +kernel⟩
theorem mf_X10_worth : MF (yX10_worth, cX10_worth, 7, (some .int)) 1 := ⟨g1398, g91, by decide +kernel, by decide +kernel⟩
theorem mf_X10_groundBy : MF (yX10_groundBy, cX10_groundBy, 7, (some .int)) 4 := ⟨g1406, g91, by decide +kernel, by decide +kernel⟩
theorem mf_X10_duel : MF (yX10_duel, cX10_duel, 8, (some .int)) 1 := ⟨g1402, g91, by decide +kernel, by decide +kernel⟩
theorem mf_X10_askedSea : MF (yX10_askedSea, cX10_askedSea, 3, (some .int)) 1 := ⟨g1414, g91, by decide +kernel, by decide +kernel⟩
theorem mf_X10_comesSo : MF (yX10_comesSo, cX10_comesSo, 5, (some .boolean)) 2 := ⟨g1418, g91, by decide +kernel, by decide +kernel⟩
theorem mf_X10_ways : MF (yX10_ways, cX10_ways, 6, (some .int)) 1 := ⟨g1410, g91, by decide +kernel, by decide +kernel⟩
theorem mf_X10_first : MF (yX10_first, cX10_first, 8, (some .int)) 2 := ⟨g1426, g91, by decide +kernel, by decide +kernel⟩
theorem mf_X10_askedBook : MF (yX10_askedBook, cX10_askedBook, 5, (some .int)) 2 := ⟨g1434, g91, by decide +kernel, by decide +kernel⟩
theorem mf_X10_isSo : MF (yX10_isSo, cX10_isSo, 8, (some .boolean)) 4 := ⟨g1438, g91, by decide +kernel, by decide +kernel⟩
theorem mf_X10_kinds : MF (yX10_kinds, cX10_kinds, 6, (some .int)) 2 := ⟨g1430, g91, by decide +kernel, by decide +kernel⟩
theorem mf_X10_measures : MF (yX10_measures, cX10_measures, 6, (some .int)) 2 := ⟨g1442, g91, by decide +kernel, by decide +kernel⟩
theorem mf_X10_shutMany : MF (yX10_shutMany, cX10_shutMany, 4, (some .int)) 1 := ⟨g1454, g91, by decide +kernel, by decide +kernel⟩
theorem mf_X10_holds : MF (yX10_holds, cX10_holds, 6, (some .int)) 3 := ⟨g1457, g91, by decide +kernel, by decide +kernel⟩
theorem mf_X10_power : MF (yX10_power, cX10_power, 6, (some .long)) 2 := ⟨g1460, g91, by decide +kernel, by decide +kernel⟩
theorem mf_X10_sums : MF (yX10_sums, cX10_sums, 15, (some .int)) 3 := ⟨g1450, g91, by decide +kernel, by decide +kernel⟩
theorem mf_X10_mid : MF (yX10_mid, cX10_mid, 4, (some .int)) 2 := ⟨g1446, g91, by decide +kernel, by decide +kernel⟩
theorem mf_X10_odds : MF (yX10_odds, cX10_odds, 5, (some .int)) 3 := ⟨g1465, g91, by decide +kernel, by decide +kernel⟩
theorem mf_X10_lots : MF (yX10_lots, cX10_lots, 11, (some .int)) 2 := ⟨g1469, g91, by decide +kernel, by decide +kernel⟩
theorem mf_X10_asked : MF (yX10_asked, cX10_asked, 1, (some .int)) 0 := ⟨g1478, g91, by decide +kernel, by decide +kernel⟩
theorem mf_X10_upper : MF (yX10_upper, cX10_upper, 1, (some .long)) 0 := ⟨g1482, g91, by decide +kernel, by decide +kernel⟩
theorem mf_X10_lower : MF (yX10_lower, cX10_lower, 1, (some .long)) 0 := ⟨g1486, g91, by decide +kernel, by decide +kernel⟩
theorem mf_X10_there : MF (yX10_there, cX10_there, 4, (some .int)) 1 := ⟨g1498, g91, by decide +kernel, by decide +kernel⟩
theorem mf_X10_tells : MF (yX10_tells, cX10_tells, 4, (some .int)) 1 := ⟨g1494, g91, by decide +kernel, by decide +kernel⟩
theorem mf_X10_count : MF (yX10_count, cX10_count, 2, (some .int)) 1 := ⟨g1490, g91, by decide +kernel, by decide +kernel⟩
theorem mf_X10_finding : MF (yX10_finding, cX10_finding, 1, (some .int)) 0 := ⟨g1502, g91, by decide +kernel, by decide +kernel⟩
theorem mf_X10_findings : MF (yX10_findings, cX10_findings, 2, (some .int)) 1 := ⟨g1506, g91, by decide +kernel, by decide +kernel⟩
theorem mf_X10_mix : MF (yX10_mix, cX10_mix, 2, none) 1 := ⟨g1515, g91, by decide +kernel, by decide +kernel⟩
theorem mf_X10_mixRiver : MF (yX10_mixRiver, cX10_mixRiver, 3, none) 0 := ⟨g1520, g91, by decide +kernel, by decide +kernel⟩
theorem mf_X10_digest : MF (yX10_digest, cX10_digest, 3, (some .long)) 0 := ⟨g1510, g91, by decide +kernel, by decide +kernel⟩
end
