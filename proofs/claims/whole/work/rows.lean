section
-- ===== PART A: goes FIRST, ahead of the names: the tables' words, and 'selects' of the private methods out of them =====
/-- a private method of a class that the tables say can be made, by its rows of tables_1 -/
def lw_okq (q : MethodName × Nat) : Prop := (q.1.cls ≠ "java/lang/invoke/MethodHandle" ∧ q.1.cls ≠ "java/lang/invoke/VarHandle") ∧ Cond.instantiable q.1.cls q.2 ∈ tables_1 ∧ Cond.privateMethod q.1 ∈ tables_1 ∧ Cond.instanceMethod q.1 ∈ tables_1
theorem lw_p0 : lw_okq (⟨"RiverDays", "makeAnew", "(LRiverDays$Rows;III)I"⟩, 17) := ⟨⟨by decide +kernel, by decide +kernel⟩, List.mem_of_getElem? (i := 16) (by decide +kernel), List.mem_of_getElem? (i := 349) (by decide +kernel), List.mem_of_getElem? (i := 350) (by decide +kernel)⟩
theorem lw_p1 : lw_okq (⟨"RiverDays", "find", "(I)I"⟩, 17) := ⟨⟨by decide +kernel, by decide +kernel⟩, List.mem_of_getElem? (i := 16) (by decide +kernel), List.mem_of_getElem? (i := 357) (by decide +kernel), List.mem_of_getElem? (i := 358) (by decide +kernel)⟩
theorem lw_p2 : lw_okq (⟨"RiverDays", "refusePlace", "(LRiverDays$Rows;II)I"⟩, 17) := ⟨⟨by decide +kernel, by decide +kernel⟩, List.mem_of_getElem? (i := 16) (by decide +kernel), List.mem_of_getElem? (i := 370) (by decide +kernel), List.mem_of_getElem? (i := 371) (by decide +kernel)⟩
theorem lw_p3 : lw_okq (⟨"RiverDays", "refuseMissing", "(LRiverDays$Rows;I)I"⟩, 17) := ⟨⟨by decide +kernel, by decide +kernel⟩, List.mem_of_getElem? (i := 16) (by decide +kernel), List.mem_of_getElem? (i := 374) (by decide +kernel), List.mem_of_getElem? (i := 375) (by decide +kernel)⟩
theorem lw_p4 : lw_okq (⟨"RiverDays", "tell", "(I)I"⟩, 17) := ⟨⟨by decide +kernel, by decide +kernel⟩, List.mem_of_getElem? (i := 16) (by decide +kernel), List.mem_of_getElem? (i := 395) (by decide +kernel), List.mem_of_getElem? (i := 396) (by decide +kernel)⟩
theorem lw_p5 : lw_okq (⟨"RiverDays", "readDraft", "(I)I"⟩, 17) := ⟨⟨by decide +kernel, by decide +kernel⟩, List.mem_of_getElem? (i := 16) (by decide +kernel), List.mem_of_getElem? (i := 452) (by decide +kernel), List.mem_of_getElem? (i := 453) (by decide +kernel)⟩
theorem lw_p6 : lw_okq (⟨"RiverDays$Reader", "takesWeek", "(I[II)Z"⟩, 3) := ⟨⟨by decide +kernel, by decide +kernel⟩, List.mem_of_getElem? (i := 47) (by decide +kernel), List.mem_of_getElem? (i := 472) (by decide +kernel), List.mem_of_getElem? (i := 473) (by decide +kernel)⟩
theorem lw_p7 : lw_okq (⟨"RiverDays$Reader", "skipBlanks", "()V"⟩, 3) := ⟨⟨by decide +kernel, by decide +kernel⟩, List.mem_of_getElem? (i := 47) (by decide +kernel), List.mem_of_getElem? (i := 476) (by decide +kernel), List.mem_of_getElem? (i := 477) (by decide +kernel)⟩
theorem lw_p8 : lw_okq (⟨"RiverDays$Reader", "seen", "()I"⟩, 3) := ⟨⟨by decide +kernel, by decide +kernel⟩, List.mem_of_getElem? (i := 47) (by decide +kernel), List.mem_of_getElem? (i := 480) (by decide +kernel), List.mem_of_getElem? (i := 481) (by decide +kernel)⟩
theorem lw_p9 : lw_okq (⟨"RiverDays$Reader", "seesFigure", "(II)Z"⟩, 3) := ⟨⟨by decide +kernel, by decide +kernel⟩, List.mem_of_getElem? (i := 47) (by decide +kernel), List.mem_of_getElem? (i := 484) (by decide +kernel), List.mem_of_getElem? (i := 485) (by decide +kernel)⟩
theorem lw_p10 : lw_okq (⟨"RiverDays$Reader", "onlyBlanksLeft", "()Z"⟩, 3) := ⟨⟨by decide +kernel, by decide +kernel⟩, List.mem_of_getElem? (i := 47) (by decide +kernel), List.mem_of_getElem? (i := 488) (by decide +kernel), List.mem_of_getElem? (i := 489) (by decide +kernel)⟩
theorem lw_p11 : lw_okq (⟨"RiverDays$Reader", "takesReach", "(LRiverDays$Course;)Z"⟩, 3) := ⟨⟨by decide +kernel, by decide +kernel⟩, List.mem_of_getElem? (i := 47) (by decide +kernel), List.mem_of_getElem? (i := 492) (by decide +kernel), List.mem_of_getElem? (i := 493) (by decide +kernel)⟩
theorem lw_p12 : lw_okq (⟨"RiverDays", "replay", "()V"⟩, 17) := ⟨⟨by decide +kernel, by decide +kernel⟩, List.mem_of_getElem? (i := 16) (by decide +kernel), List.mem_of_getElem? (i := 535) (by decide +kernel), List.mem_of_getElem? (i := 536) (by decide +kernel)⟩
theorem lw_p13 : lw_okq (⟨"RiverDays", "ofReach", "(II)I"⟩, 17) := ⟨⟨by decide +kernel, by decide +kernel⟩, List.mem_of_getElem? (i := 16) (by decide +kernel), List.mem_of_getElem? (i := 583) (by decide +kernel), List.mem_of_getElem? (i := 584) (by decide +kernel)⟩
theorem lw_p14 : lw_okq (⟨"RiverDays", "passTruly", "(I)I"⟩, 17) := ⟨⟨by decide +kernel, by decide +kernel⟩, List.mem_of_getElem? (i := 16) (by decide +kernel), List.mem_of_getElem? (i := 618) (by decide +kernel), List.mem_of_getElem? (i := 619) (by decide +kernel)⟩
theorem lw_p15 : lw_okq (⟨"RiverDays$Aside", "pass", "(LRiverDays$Course;[III)V"⟩, 9) := ⟨⟨by decide +kernel, by decide +kernel⟩, List.mem_of_getElem? (i := 109) (by decide +kernel), List.mem_of_getElem? (i := 660) (by decide +kernel), List.mem_of_getElem? (i := 661) (by decide +kernel)⟩
def lw_privs_1 : List (MethodName × Nat) := [(⟨"RiverDays", "makeAnew", "(LRiverDays$Rows;III)I"⟩, 17), (⟨"RiverDays", "find", "(I)I"⟩, 17), (⟨"RiverDays", "refusePlace", "(LRiverDays$Rows;II)I"⟩, 17), (⟨"RiverDays", "refuseMissing", "(LRiverDays$Rows;I)I"⟩, 17), (⟨"RiverDays", "tell", "(I)I"⟩, 17), (⟨"RiverDays", "readDraft", "(I)I"⟩, 17), (⟨"RiverDays$Reader", "takesWeek", "(I[II)Z"⟩, 3), (⟨"RiverDays$Reader", "skipBlanks", "()V"⟩, 3), (⟨"RiverDays$Reader", "seen", "()I"⟩, 3), (⟨"RiverDays$Reader", "seesFigure", "(II)Z"⟩, 3), (⟨"RiverDays$Reader", "onlyBlanksLeft", "()Z"⟩, 3), (⟨"RiverDays$Reader", "takesReach", "(LRiverDays$Course;)Z"⟩, 3), (⟨"RiverDays", "replay", "()V"⟩, 17), (⟨"RiverDays", "ofReach", "(II)I"⟩, 17), (⟨"RiverDays", "passTruly", "(I)I"⟩, 17), (⟨"RiverDays$Aside", "pass", "(LRiverDays$Course;[III)V"⟩, 9)]
theorem lw_r1 : ∀ q ∈ lw_privs_1, lw_okq q := List.forall_mem_cons.mpr ⟨lw_p0, List.forall_mem_cons.mpr ⟨lw_p1, List.forall_mem_cons.mpr ⟨lw_p2, List.forall_mem_cons.mpr ⟨lw_p3, List.forall_mem_cons.mpr ⟨lw_p4, List.forall_mem_cons.mpr ⟨lw_p5, List.forall_mem_cons.mpr ⟨lw_p6, List.forall_mem_cons.mpr ⟨lw_p7, List.forall_mem_cons.mpr ⟨lw_p8, List.forall_mem_cons.mpr ⟨lw_p9, List.forall_mem_cons.mpr ⟨lw_p10, List.forall_mem_cons.mpr ⟨lw_p11, List.forall_mem_cons.mpr ⟨lw_p12, List.forall_mem_cons.mpr ⟨lw_p13, List.forall_mem_cons.mpr ⟨lw_p14, List.forall_mem_cons.mpr ⟨lw_p15, fun _ h => absurd h List.not_mem_nil⟩⟩⟩⟩⟩⟩⟩⟩⟩⟩⟩⟩⟩⟩⟩⟩
theorem lw_p16 : lw_okq (⟨"RiverDays$Aside", "weekdayOf", "(I)I"⟩, 9) := ⟨⟨by decide +kernel, by decide +kernel⟩, List.mem_of_getElem? (i := 109) (by decide +kernel), List.mem_of_getElem? (i := 664) (by decide +kernel), List.mem_of_getElem? (i := 665) (by decide +kernel)⟩
theorem lw_p17 : lw_okq (⟨"RiverDays", "refusePlan", "(ZII)I"⟩, 17) := ⟨⟨by decide +kernel, by decide +kernel⟩, List.mem_of_getElem? (i := 16) (by decide +kernel), List.mem_of_getElem? (i := 685) (by decide +kernel), List.mem_of_getElem? (i := 686) (by decide +kernel)⟩
theorem lw_p18 : lw_okq (⟨"RiverDays", "refuseWithoutRiver", "(ZI)I"⟩, 17) := ⟨⟨by decide +kernel, by decide +kernel⟩, List.mem_of_getElem? (i := 16) (by decide +kernel), List.mem_of_getElem? (i := 689) (by decide +kernel), List.mem_of_getElem? (i := 690) (by decide +kernel)⟩
theorem lw_p19 : lw_okq (⟨"RiverDays", "followPlan", "(I)V"⟩, 17) := ⟨⟨by decide +kernel, by decide +kernel⟩, List.mem_of_getElem? (i := 16) (by decide +kernel), List.mem_of_getElem? (i := 693) (by decide +kernel), List.mem_of_getElem? (i := 694) (by decide +kernel)⟩
theorem lw_p20 : lw_okq (⟨"RiverDays", "refuseSearch", "(ZII)I"⟩, 17) := ⟨⟨by decide +kernel, by decide +kernel⟩, List.mem_of_getElem? (i := 16) (by decide +kernel), List.mem_of_getElem? (i := 717) (by decide +kernel), List.mem_of_getElem? (i := 718) (by decide +kernel)⟩
theorem lw_p21 : lw_okq (⟨"RiverDays$Hunt", "goDeeper", "(LRiverDays$Course;II)V"⟩, 10) := ⟨⟨by decide +kernel, by decide +kernel⟩, List.mem_of_getElem? (i := 155) (by decide +kernel), List.mem_of_getElem? (i := 728) (by decide +kernel), List.mem_of_getElem? (i := 729) (by decide +kernel)⟩
theorem lw_p22 : lw_okq (⟨"RiverDays$Hunt", "arrive", "(I)V"⟩, 10) := ⟨⟨by decide +kernel, by decide +kernel⟩, List.mem_of_getElem? (i := 155) (by decide +kernel), List.mem_of_getElem? (i := 732) (by decide +kernel), List.mem_of_getElem? (i := 733) (by decide +kernel)⟩
theorem lw_p23 : lw_okq (⟨"RiverDays$Hunt", "fits", "(LRiverDays$Course;I)Z"⟩, 10) := ⟨⟨by decide +kernel, by decide +kernel⟩, List.mem_of_getElem? (i := 155) (by decide +kernel), List.mem_of_getElem? (i := 742) (by decide +kernel), List.mem_of_getElem? (i := 743) (by decide +kernel)⟩
theorem lw_p24 : lw_okq (⟨"RiverDays$Hunt", "gain", "(LRiverDays$Course;I)I"⟩, 10) := ⟨⟨by decide +kernel, by decide +kernel⟩, List.mem_of_getElem? (i := 155) (by decide +kernel), List.mem_of_getElem? (i := 746) (by decide +kernel), List.mem_of_getElem? (i := 747) (by decide +kernel)⟩
theorem lw_p25 : lw_okq (⟨"RiverDays", "groundWithout", "(II)I"⟩, 17) := ⟨⟨by decide +kernel, by decide +kernel⟩, List.mem_of_getElem? (i := 16) (by decide +kernel), List.mem_of_getElem? (i := 770) (by decide +kernel), List.mem_of_getElem? (i := 771) (by decide +kernel)⟩
theorem lw_p26 : lw_okq (⟨"RiverDays$Hunt", "contend", "(LRiverDays$Course;I)I"⟩, 10) := ⟨⟨by decide +kernel, by decide +kernel⟩, List.mem_of_getElem? (i := 155) (by decide +kernel), List.mem_of_getElem? (i := 782) (by decide +kernel), List.mem_of_getElem? (i := 783) (by decide +kernel)⟩
theorem lw_p27 : lw_okq (⟨"RiverDays", "refuseSeas", "(ZI)I"⟩, 17) := ⟨⟨by decide +kernel, by decide +kernel⟩, List.mem_of_getElem? (i := 16) (by decide +kernel), List.mem_of_getElem? (i := 790) (by decide +kernel), List.mem_of_getElem? (i := 791) (by decide +kernel)⟩
theorem lw_p28 : lw_okq (⟨"RiverDays", "tellFraction", "(JJ)V"⟩, 17) := ⟨⟨by decide +kernel, by decide +kernel⟩, List.mem_of_getElem? (i := 16) (by decide +kernel), List.mem_of_getElem? (i := 799) (by decide +kernel), List.mem_of_getElem? (i := 800) (by decide +kernel)⟩
theorem lw_p29 : lw_okq (⟨"RiverDays", "refusePairs", "(II)I"⟩, 17) := ⟨⟨by decide +kernel, by decide +kernel⟩, List.mem_of_getElem? (i := 16) (by decide +kernel), List.mem_of_getElem? (i := 818) (by decide +kernel), List.mem_of_getElem? (i := 819) (by decide +kernel)⟩
theorem lw_p30 : lw_okq (⟨"RiverDays", "agrees", "(IIII)Z"⟩, 17) := ⟨⟨by decide +kernel, by decide +kernel⟩, List.mem_of_getElem? (i := 16) (by decide +kernel), List.mem_of_getElem? (i := 822) (by decide +kernel), List.mem_of_getElem? (i := 823) (by decide +kernel)⟩
theorem lw_p31 : lw_okq (⟨"RiverDays$Breaking", "spread", "(LRiverDays$Course;IJII)V"⟩, 8) := ⟨⟨by decide +kernel, by decide +kernel⟩, List.mem_of_getElem? (i := 201) (by decide +kernel), List.mem_of_getElem? (i := 850) (by decide +kernel), List.mem_of_getElem? (i := 851) (by decide +kernel)⟩
def lw_privs_2 : List (MethodName × Nat) := [(⟨"RiverDays$Aside", "weekdayOf", "(I)I"⟩, 9), (⟨"RiverDays", "refusePlan", "(ZII)I"⟩, 17), (⟨"RiverDays", "refuseWithoutRiver", "(ZI)I"⟩, 17), (⟨"RiverDays", "followPlan", "(I)V"⟩, 17), (⟨"RiverDays", "refuseSearch", "(ZII)I"⟩, 17), (⟨"RiverDays$Hunt", "goDeeper", "(LRiverDays$Course;II)V"⟩, 10), (⟨"RiverDays$Hunt", "arrive", "(I)V"⟩, 10), (⟨"RiverDays$Hunt", "fits", "(LRiverDays$Course;I)Z"⟩, 10), (⟨"RiverDays$Hunt", "gain", "(LRiverDays$Course;I)I"⟩, 10), (⟨"RiverDays", "groundWithout", "(II)I"⟩, 17), (⟨"RiverDays$Hunt", "contend", "(LRiverDays$Course;I)I"⟩, 10), (⟨"RiverDays", "refuseSeas", "(ZI)I"⟩, 17), (⟨"RiverDays", "tellFraction", "(JJ)V"⟩, 17), (⟨"RiverDays", "refusePairs", "(II)I"⟩, 17), (⟨"RiverDays", "agrees", "(IIII)Z"⟩, 17), (⟨"RiverDays$Breaking", "spread", "(LRiverDays$Course;IJII)V"⟩, 8)]
theorem lw_r2 : ∀ q ∈ lw_privs_2, lw_okq q := List.forall_mem_cons.mpr ⟨lw_p16, List.forall_mem_cons.mpr ⟨lw_p17, List.forall_mem_cons.mpr ⟨lw_p18, List.forall_mem_cons.mpr ⟨lw_p19, List.forall_mem_cons.mpr ⟨lw_p20, List.forall_mem_cons.mpr ⟨lw_p21, List.forall_mem_cons.mpr ⟨lw_p22, List.forall_mem_cons.mpr ⟨lw_p23, List.forall_mem_cons.mpr ⟨lw_p24, List.forall_mem_cons.mpr ⟨lw_p25, List.forall_mem_cons.mpr ⟨lw_p26, List.forall_mem_cons.mpr ⟨lw_p27, List.forall_mem_cons.mpr ⟨lw_p28, List.forall_mem_cons.mpr ⟨lw_p29, List.forall_mem_cons.mpr ⟨lw_p30, List.forall_mem_cons.mpr ⟨lw_p31, fun _ h => absurd h List.not_mem_nil⟩⟩⟩⟩⟩⟩⟩⟩⟩⟩⟩⟩⟩⟩⟩⟩
theorem lw_p32 : lw_okq (⟨"RiverDays$Breaking", "weightOf", "(II)J"⟩, 8) := ⟨⟨by decide +kernel, by decide +kernel⟩, List.mem_of_getElem? (i := 201) (by decide +kernel), List.mem_of_getElem? (i := 854) (by decide +kernel), List.mem_of_getElem? (i := 855) (by decide +kernel)⟩
theorem lw_p33 : lw_okq (⟨"RiverDays", "counted", "(I)I"⟩, 17) := ⟨⟨by decide +kernel, by decide +kernel⟩, List.mem_of_getElem? (i := 16) (by decide +kernel), List.mem_of_getElem? (i := 889) (by decide +kernel), List.mem_of_getElem? (i := 890) (by decide +kernel)⟩
theorem lw_p34 : lw_okq (⟨"RiverDays", "keptRivers", "()I"⟩, 17) := ⟨⟨by decide +kernel, by decide +kernel⟩, List.mem_of_getElem? (i := 16) (by decide +kernel), List.mem_of_getElem? (i := 902) (by decide +kernel), List.mem_of_getElem? (i := 903) (by decide +kernel)⟩
theorem lw_p35 : lw_okq (⟨"RiverDaysModel", "meet", "(I)I"⟩, 36) := ⟨⟨by decide +kernel, by decide +kernel⟩, List.mem_of_getElem? (i := 925) (by decide +kernel), List.mem_of_getElem? (i := 1050) (by decide +kernel), List.mem_of_getElem? (i := 1051) (by decide +kernel)⟩
theorem lw_p36 : lw_okq (⟨"RiverDaysModel", "setRow", "(III)V"⟩, 36) := ⟨⟨by decide +kernel, by decide +kernel⟩, List.mem_of_getElem? (i := 925) (by decide +kernel), List.mem_of_getElem? (i := 1054) (by decide +kernel), List.mem_of_getElem? (i := 1055) (by decide +kernel)⟩
theorem lw_p37 : lw_okq (⟨"RiverDaysModel", "askedRow", "(I)I"⟩, 36) := ⟨⟨by decide +kernel, by decide +kernel⟩, List.mem_of_getElem? (i := 925) (by decide +kernel), List.mem_of_getElem? (i := 1062) (by decide +kernel), List.mem_of_getElem? (i := 1063) (by decide +kernel)⟩
theorem lw_p38 : lw_okq (⟨"RiverDaysModel", "rowAt", "(II)I"⟩, 36) := ⟨⟨by decide +kernel, by decide +kernel⟩, List.mem_of_getElem? (i := 925) (by decide +kernel), List.mem_of_getElem? (i := 1066) (by decide +kernel), List.mem_of_getElem? (i := 1067) (by decide +kernel)⟩
theorem lw_p39 : lw_okq (⟨"RiverDaysModel", "ask", "(II)I"⟩, 36) := ⟨⟨by decide +kernel, by decide +kernel⟩, List.mem_of_getElem? (i := 925) (by decide +kernel), List.mem_of_getElem? (i := 1070) (by decide +kernel), List.mem_of_getElem? (i := 1071) (by decide +kernel)⟩
theorem lw_p40 : lw_okq (⟨"RiverDaysModel", "askedText", "(I)I"⟩, 36) := ⟨⟨by decide +kernel, by decide +kernel⟩, List.mem_of_getElem? (i := 925) (by decide +kernel), List.mem_of_getElem? (i := 1102) (by decide +kernel), List.mem_of_getElem? (i := 1103) (by decide +kernel)⟩
theorem lw_p41 : lw_okq (⟨"RiverDaysModel", "goesOn", "(I)I"⟩, 36) := ⟨⟨by decide +kernel, by decide +kernel⟩, List.mem_of_getElem? (i := 925) (by decide +kernel), List.mem_of_getElem? (i := 1110) (by decide +kernel), List.mem_of_getElem? (i := 1111) (by decide +kernel)⟩
theorem lw_p42 : lw_okq (⟨"RiverDaysModel", "readsRiver", "(I)Z"⟩, 36) := ⟨⟨by decide +kernel, by decide +kernel⟩, List.mem_of_getElem? (i := 925) (by decide +kernel), List.mem_of_getElem? (i := 1114) (by decide +kernel), List.mem_of_getElem? (i := 1115) (by decide +kernel)⟩
theorem lw_p43 : lw_okq (⟨"RiverDaysModel", "readsWeek", "(IIII)Z"⟩, 36) := ⟨⟨by decide +kernel, by decide +kernel⟩, List.mem_of_getElem? (i := 925) (by decide +kernel), List.mem_of_getElem? (i := 1118) (by decide +kernel), List.mem_of_getElem? (i := 1119) (by decide +kernel)⟩
theorem lw_p44 : lw_okq (⟨"RiverDaysModel", "skip", "(I)V"⟩, 36) := ⟨⟨by decide +kernel, by decide +kernel⟩, List.mem_of_getElem? (i := 925) (by decide +kernel), List.mem_of_getElem? (i := 1122) (by decide +kernel), List.mem_of_getElem? (i := 1123) (by decide +kernel)⟩
theorem lw_p45 : lw_okq (⟨"RiverDaysModel", "here", "(I)I"⟩, 36) := ⟨⟨by decide +kernel, by decide +kernel⟩, List.mem_of_getElem? (i := 925) (by decide +kernel), List.mem_of_getElem? (i := 1126) (by decide +kernel), List.mem_of_getElem? (i := 1127) (by decide +kernel)⟩
theorem lw_p46 : lw_okq (⟨"RiverDaysModel", "figure", "(I[IIII)Z"⟩, 36) := ⟨⟨by decide +kernel, by decide +kernel⟩, List.mem_of_getElem? (i := 925) (by decide +kernel), List.mem_of_getElem? (i := 1130) (by decide +kernel), List.mem_of_getElem? (i := 1131) (by decide +kernel)⟩
theorem lw_p47 : lw_okq (⟨"RiverDaysModel", "readsReach", "(I)Z"⟩, 36) := ⟨⟨by decide +kernel, by decide +kernel⟩, List.mem_of_getElem? (i := 925) (by decide +kernel), List.mem_of_getElem? (i := 1134) (by decide +kernel), List.mem_of_getElem? (i := 1135) (by decide +kernel)⟩
def lw_privs_3 : List (MethodName × Nat) := [(⟨"RiverDays$Breaking", "weightOf", "(II)J"⟩, 8), (⟨"RiverDays", "counted", "(I)I"⟩, 17), (⟨"RiverDays", "keptRivers", "()I"⟩, 17), (⟨"RiverDaysModel", "meet", "(I)I"⟩, 36), (⟨"RiverDaysModel", "setRow", "(III)V"⟩, 36), (⟨"RiverDaysModel", "askedRow", "(I)I"⟩, 36), (⟨"RiverDaysModel", "rowAt", "(II)I"⟩, 36), (⟨"RiverDaysModel", "ask", "(II)I"⟩, 36), (⟨"RiverDaysModel", "askedText", "(I)I"⟩, 36), (⟨"RiverDaysModel", "goesOn", "(I)I"⟩, 36), (⟨"RiverDaysModel", "readsRiver", "(I)Z"⟩, 36), (⟨"RiverDaysModel", "readsWeek", "(IIII)Z"⟩, 36), (⟨"RiverDaysModel", "skip", "(I)V"⟩, 36), (⟨"RiverDaysModel", "here", "(I)I"⟩, 36), (⟨"RiverDaysModel", "figure", "(I[IIII)Z"⟩, 36), (⟨"RiverDaysModel", "readsReach", "(I)Z"⟩, 36)]
theorem lw_r3 : ∀ q ∈ lw_privs_3, lw_okq q := List.forall_mem_cons.mpr ⟨lw_p32, List.forall_mem_cons.mpr ⟨lw_p33, List.forall_mem_cons.mpr ⟨lw_p34, List.forall_mem_cons.mpr ⟨lw_p35, List.forall_mem_cons.mpr ⟨lw_p36, List.forall_mem_cons.mpr ⟨lw_p37, List.forall_mem_cons.mpr ⟨lw_p38, List.forall_mem_cons.mpr ⟨lw_p39, List.forall_mem_cons.mpr ⟨lw_p40, List.forall_mem_cons.mpr ⟨lw_p41, List.forall_mem_cons.mpr ⟨lw_p42, List.forall_mem_cons.mpr ⟨lw_p43, List.forall_mem_cons.mpr ⟨lw_p44, List.forall_mem_cons.mpr ⟨lw_p45, List.forall_mem_cons.mpr ⟨lw_p46, List.forall_mem_cons.mpr ⟨lw_p47, fun _ h => absurd h List.not_mem_nil⟩⟩⟩⟩⟩⟩⟩⟩⟩⟩⟩⟩⟩⟩⟩⟩
theorem lw_p48 : lw_okq (⟨"RiverDaysModel", "canShut", "(I)Z"⟩, 36) := ⟨⟨by decide +kernel, by decide +kernel⟩, List.mem_of_getElem? (i := 925) (by decide +kernel), List.mem_of_getElem? (i := 1152) (by decide +kernel), List.mem_of_getElem? (i := 1153) (by decide +kernel)⟩
theorem lw_p49 : lw_okq (⟨"RiverDaysModel", "gateSet", "()I"⟩, 36) := ⟨⟨by decide +kernel, by decide +kernel⟩, List.mem_of_getElem? (i := 925) (by decide +kernel), List.mem_of_getElem? (i := 1156) (by decide +kernel), List.mem_of_getElem? (i := 1157) (by decide +kernel)⟩
theorem lw_p50 : lw_okq (⟨"RiverDaysModel", "dayTruly", "(I)I"⟩, 36) := ⟨⟨by decide +kernel, by decide +kernel⟩, List.mem_of_getElem? (i := 925) (by decide +kernel), List.mem_of_getElem? (i := 1160) (by decide +kernel), List.mem_of_getElem? (i := 1161) (by decide +kernel)⟩
theorem lw_p51 : lw_okq (⟨"RiverDaysModel", "write", "([II)V"⟩, 36) := ⟨⟨by decide +kernel, by decide +kernel⟩, List.mem_of_getElem? (i := 925) (by decide +kernel), List.mem_of_getElem? (i := 1164) (by decide +kernel), List.mem_of_getElem? (i := 1165) (by decide +kernel)⟩
theorem lw_p52 : lw_okq (⟨"RiverDaysModel", "pass", "(I)I"⟩, 36) := ⟨⟨by decide +kernel, by decide +kernel⟩, List.mem_of_getElem? (i := 925) (by decide +kernel), List.mem_of_getElem? (i := 1168) (by decide +kernel), List.mem_of_getElem? (i := 1169) (by decide +kernel)⟩
theorem lw_p53 : lw_okq (⟨"RiverDaysModel", "runsFrom", "(II)I"⟩, 36) := ⟨⟨by decide +kernel, by decide +kernel⟩, List.mem_of_getElem? (i := 925) (by decide +kernel), List.mem_of_getElem? (i := 1172) (by decide +kernel), List.mem_of_getElem? (i := 1173) (by decide +kernel)⟩
theorem lw_p54 : lw_okq (⟨"RiverDaysModel", "grindsBy", "(II)Z"⟩, 36) := ⟨⟨by decide +kernel, by decide +kernel⟩, List.mem_of_getElem? (i := 925) (by decide +kernel), List.mem_of_getElem? (i := 1182) (by decide +kernel), List.mem_of_getElem? (i := 1183) (by decide +kernel)⟩
theorem lw_p55 : lw_okq (⟨"RiverDaysModel", "read", "([II)V"⟩, 36) := ⟨⟨by decide +kernel, by decide +kernel⟩, List.mem_of_getElem? (i := 925) (by decide +kernel), List.mem_of_getElem? (i := 1193) (by decide +kernel), List.mem_of_getElem? (i := 1194) (by decide +kernel)⟩
theorem lw_p56 : lw_okq (⟨"RiverDaysModel", "isReach", "(I)Z"⟩, 36) := ⟨⟨by decide +kernel, by decide +kernel⟩, List.mem_of_getElem? (i := 925) (by decide +kernel), List.mem_of_getElem? (i := 1209) (by decide +kernel), List.mem_of_getElem? (i := 1210) (by decide +kernel)⟩
theorem lw_p57 : lw_okq (⟨"RiverDaysModel", "reachOf", "(II)I"⟩, 36) := ⟨⟨by decide +kernel, by decide +kernel⟩, List.mem_of_getElem? (i := 925) (by decide +kernel), List.mem_of_getElem? (i := 1213) (by decide +kernel), List.mem_of_getElem? (i := 1214) (by decide +kernel)⟩
theorem lw_p58 : lw_okq (⟨"RiverDaysModel", "isA", "(II)Z"⟩, 36) := ⟨⟨by decide +kernel, by decide +kernel⟩, List.mem_of_getElem? (i := 925) (by decide +kernel), List.mem_of_getElem? (i := 1221) (by decide +kernel), List.mem_of_getElem? (i := 1222) (by decide +kernel)⟩
theorem lw_p59 : lw_okq (⟨"RiverDaysModel", "begin", "()V"⟩, 36) := ⟨⟨by decide +kernel, by decide +kernel⟩, List.mem_of_getElem? (i := 925) (by decide +kernel), List.mem_of_getElem? (i := 1248) (by decide +kernel), List.mem_of_getElem? (i := 1249) (by decide +kernel)⟩
theorem lw_p60 : lw_okq (⟨"RiverDaysModel", "back", "()V"⟩, 36) := ⟨⟨by decide +kernel, by decide +kernel⟩, List.mem_of_getElem? (i := 925) (by decide +kernel), List.mem_of_getElem? (i := 1252) (by decide +kernel), List.mem_of_getElem? (i := 1253) (by decide +kernel)⟩
theorem lw_p61 : lw_okq (⟨"RiverDaysModel", "askedPlan", "(II)I"⟩, 36) := ⟨⟨by decide +kernel, by decide +kernel⟩, List.mem_of_getElem? (i := 925) (by decide +kernel), List.mem_of_getElem? (i := 1260) (by decide +kernel), List.mem_of_getElem? (i := 1261) (by decide +kernel)⟩
theorem lw_p62 : lw_okq (⟨"RiverDaysModel", "groundMany", "()I"⟩, 36) := ⟨⟨by decide +kernel, by decide +kernel⟩, List.mem_of_getElem? (i := 925) (by decide +kernel), List.mem_of_getElem? (i := 1264) (by decide +kernel), List.mem_of_getElem? (i := 1265) (by decide +kernel)⟩
theorem lw_p63 : lw_okq (⟨"RiverDaysModel", "setSets", "()V"⟩, 36) := ⟨⟨by decide +kernel, by decide +kernel⟩, List.mem_of_getElem? (i := 925) (by decide +kernel), List.mem_of_getElem? (i := 1284) (by decide +kernel), List.mem_of_getElem? (i := 1285) (by decide +kernel)⟩
def lw_privs_4 : List (MethodName × Nat) := [(⟨"RiverDaysModel", "canShut", "(I)Z"⟩, 36), (⟨"RiverDaysModel", "gateSet", "()I"⟩, 36), (⟨"RiverDaysModel", "dayTruly", "(I)I"⟩, 36), (⟨"RiverDaysModel", "write", "([II)V"⟩, 36), (⟨"RiverDaysModel", "pass", "(I)I"⟩, 36), (⟨"RiverDaysModel", "runsFrom", "(II)I"⟩, 36), (⟨"RiverDaysModel", "grindsBy", "(II)Z"⟩, 36), (⟨"RiverDaysModel", "read", "([II)V"⟩, 36), (⟨"RiverDaysModel", "isReach", "(I)Z"⟩, 36), (⟨"RiverDaysModel", "reachOf", "(II)I"⟩, 36), (⟨"RiverDaysModel", "isA", "(II)Z"⟩, 36), (⟨"RiverDaysModel", "begin", "()V"⟩, 36), (⟨"RiverDaysModel", "back", "()V"⟩, 36), (⟨"RiverDaysModel", "askedPlan", "(II)I"⟩, 36), (⟨"RiverDaysModel", "groundMany", "()I"⟩, 36), (⟨"RiverDaysModel", "setSets", "()V"⟩, 36)]
theorem lw_r4 : ∀ q ∈ lw_privs_4, lw_okq q := List.forall_mem_cons.mpr ⟨lw_p48, List.forall_mem_cons.mpr ⟨lw_p49, List.forall_mem_cons.mpr ⟨lw_p50, List.forall_mem_cons.mpr ⟨lw_p51, List.forall_mem_cons.mpr ⟨lw_p52, List.forall_mem_cons.mpr ⟨lw_p53, List.forall_mem_cons.mpr ⟨lw_p54, List.forall_mem_cons.mpr ⟨lw_p55, List.forall_mem_cons.mpr ⟨lw_p56, List.forall_mem_cons.mpr ⟨lw_p57, List.forall_mem_cons.mpr ⟨lw_p58, List.forall_mem_cons.mpr ⟨lw_p59, List.forall_mem_cons.mpr ⟨lw_p60, List.forall_mem_cons.mpr ⟨lw_p61, List.forall_mem_cons.mpr ⟨lw_p62, List.forall_mem_cons.mpr ⟨lw_p63, fun _ h => absurd h List.not_mem_nil⟩⟩⟩⟩⟩⟩⟩⟩⟩⟩⟩⟩⟩⟩⟩⟩
theorem lw_p64 : lw_okq (⟨"RiverDaysModel", "plans", "(I)I"⟩, 36) := ⟨⟨by decide +kernel, by decide +kernel⟩, List.mem_of_getElem? (i := 925) (by decide +kernel), List.mem_of_getElem? (i := 1288) (by decide +kernel), List.mem_of_getElem? (i := 1289) (by decide +kernel)⟩
theorem lw_p65 : lw_okq (⟨"RiverDaysModel", "setOf", "(III)I"⟩, 36) := ⟨⟨by decide +kernel, by decide +kernel⟩, List.mem_of_getElem? (i := 925) (by decide +kernel), List.mem_of_getElem? (i := 1292) (by decide +kernel), List.mem_of_getElem? (i := 1293) (by decide +kernel)⟩
theorem lw_p66 : lw_okq (⟨"RiverDaysModel", "layPlan", "(III)V"⟩, 36) := ⟨⟨by decide +kernel, by decide +kernel⟩, List.mem_of_getElem? (i := 925) (by decide +kernel), List.mem_of_getElem? (i := 1296) (by decide +kernel), List.mem_of_getElem? (i := 1297) (by decide +kernel)⟩
theorem lw_p67 : lw_okq (⟨"RiverDaysModel", "millSet", "()I"⟩, 36) := ⟨⟨by decide +kernel, by decide +kernel⟩, List.mem_of_getElem? (i := 925) (by decide +kernel), List.mem_of_getElem? (i := 1304) (by decide +kernel), List.mem_of_getElem? (i := 1305) (by decide +kernel)⟩
theorem lw_p68 : lw_okq (⟨"RiverDaysModel", "groundBy", "(IIII)I"⟩, 36) := ⟨⟨by decide +kernel, by decide +kernel⟩, List.mem_of_getElem? (i := 925) (by decide +kernel), List.mem_of_getElem? (i := 1324) (by decide +kernel), List.mem_of_getElem? (i := 1325) (by decide +kernel)⟩
theorem lw_p69 : lw_okq (⟨"RiverDaysModel", "askedSea", "(I)I"⟩, 36) := ⟨⟨by decide +kernel, by decide +kernel⟩, List.mem_of_getElem? (i := 925) (by decide +kernel), List.mem_of_getElem? (i := 1332) (by decide +kernel), List.mem_of_getElem? (i := 1333) (by decide +kernel)⟩
theorem lw_p70 : lw_okq (⟨"RiverDaysModel", "comesSo", "(II)Z"⟩, 36) := ⟨⟨by decide +kernel, by decide +kernel⟩, List.mem_of_getElem? (i := 925) (by decide +kernel), List.mem_of_getElem? (i := 1336) (by decide +kernel), List.mem_of_getElem? (i := 1337) (by decide +kernel)⟩
theorem lw_p71 : lw_okq (⟨"RiverDaysModel", "part", "(JJ)I"⟩, 36) := ⟨⟨by decide +kernel, by decide +kernel⟩, List.mem_of_getElem? (i := 925) (by decide +kernel), List.mem_of_getElem? (i := 1340) (by decide +kernel), List.mem_of_getElem? (i := 1341) (by decide +kernel)⟩
theorem lw_p72 : lw_okq (⟨"RiverDaysModel", "askedBook", "(II)I"⟩, 36) := ⟨⟨by decide +kernel, by decide +kernel⟩, List.mem_of_getElem? (i := 925) (by decide +kernel), List.mem_of_getElem? (i := 1352) (by decide +kernel), List.mem_of_getElem? (i := 1353) (by decide +kernel)⟩
theorem lw_p73 : lw_okq (⟨"RiverDaysModel", "isSo", "(IIII)Z"⟩, 36) := ⟨⟨by decide +kernel, by decide +kernel⟩, List.mem_of_getElem? (i := 925) (by decide +kernel), List.mem_of_getElem? (i := 1356) (by decide +kernel), List.mem_of_getElem? (i := 1357) (by decide +kernel)⟩
theorem lw_p74 : lw_okq (⟨"RiverDaysModel", "sums", "(III)I"⟩, 36) := ⟨⟨by decide +kernel, by decide +kernel⟩, List.mem_of_getElem? (i := 925) (by decide +kernel), List.mem_of_getElem? (i := 1368) (by decide +kernel), List.mem_of_getElem? (i := 1369) (by decide +kernel)⟩
theorem lw_p75 : lw_okq (⟨"RiverDaysModel", "shutMany", "(I)I"⟩, 36) := ⟨⟨by decide +kernel, by decide +kernel⟩, List.mem_of_getElem? (i := 925) (by decide +kernel), List.mem_of_getElem? (i := 1372) (by decide +kernel), List.mem_of_getElem? (i := 1373) (by decide +kernel)⟩
theorem lw_p76 : lw_okq (⟨"RiverDaysModel", "tells", "(I)I"⟩, 36) := ⟨⟨by decide +kernel, by decide +kernel⟩, List.mem_of_getElem? (i := 925) (by decide +kernel), List.mem_of_getElem? (i := 1412) (by decide +kernel), List.mem_of_getElem? (i := 1413) (by decide +kernel)⟩
theorem lw_p77 : lw_okq (⟨"RiverDaysModel", "there", "(I)I"⟩, 36) := ⟨⟨by decide +kernel, by decide +kernel⟩, List.mem_of_getElem? (i := 925) (by decide +kernel), List.mem_of_getElem? (i := 1416) (by decide +kernel), List.mem_of_getElem? (i := 1417) (by decide +kernel)⟩
theorem lw_p78 : lw_okq (⟨"RiverDaysModel", "mix", "(I)V"⟩, 36) := ⟨⟨by decide +kernel, by decide +kernel⟩, List.mem_of_getElem? (i := 925) (by decide +kernel), List.mem_of_getElem? (i := 1433) (by decide +kernel), List.mem_of_getElem? (i := 1434) (by decide +kernel)⟩
theorem lw_p79 : lw_okq (⟨"RiverDaysModel", "mixRiver", "()V"⟩, 36) := ⟨⟨by decide +kernel, by decide +kernel⟩, List.mem_of_getElem? (i := 925) (by decide +kernel), List.mem_of_getElem? (i := 1438) (by decide +kernel), List.mem_of_getElem? (i := 1439) (by decide +kernel)⟩
def lw_privs_5 : List (MethodName × Nat) := [(⟨"RiverDaysModel", "plans", "(I)I"⟩, 36), (⟨"RiverDaysModel", "setOf", "(III)I"⟩, 36), (⟨"RiverDaysModel", "layPlan", "(III)V"⟩, 36), (⟨"RiverDaysModel", "millSet", "()I"⟩, 36), (⟨"RiverDaysModel", "groundBy", "(IIII)I"⟩, 36), (⟨"RiverDaysModel", "askedSea", "(I)I"⟩, 36), (⟨"RiverDaysModel", "comesSo", "(II)Z"⟩, 36), (⟨"RiverDaysModel", "part", "(JJ)I"⟩, 36), (⟨"RiverDaysModel", "askedBook", "(II)I"⟩, 36), (⟨"RiverDaysModel", "isSo", "(IIII)Z"⟩, 36), (⟨"RiverDaysModel", "sums", "(III)I"⟩, 36), (⟨"RiverDaysModel", "shutMany", "(I)I"⟩, 36), (⟨"RiverDaysModel", "tells", "(I)I"⟩, 36), (⟨"RiverDaysModel", "there", "(I)I"⟩, 36), (⟨"RiverDaysModel", "mix", "(I)V"⟩, 36), (⟨"RiverDaysModel", "mixRiver", "()V"⟩, 36)]
theorem lw_r5 : ∀ q ∈ lw_privs_5, lw_okq q := List.forall_mem_cons.mpr ⟨lw_p64, List.forall_mem_cons.mpr ⟨lw_p65, List.forall_mem_cons.mpr ⟨lw_p66, List.forall_mem_cons.mpr ⟨lw_p67, List.forall_mem_cons.mpr ⟨lw_p68, List.forall_mem_cons.mpr ⟨lw_p69, List.forall_mem_cons.mpr ⟨lw_p70, List.forall_mem_cons.mpr ⟨lw_p71, List.forall_mem_cons.mpr ⟨lw_p72, List.forall_mem_cons.mpr ⟨lw_p73, List.forall_mem_cons.mpr ⟨lw_p74, List.forall_mem_cons.mpr ⟨lw_p75, List.forall_mem_cons.mpr ⟨lw_p76, List.forall_mem_cons.mpr ⟨lw_p77, List.forall_mem_cons.mpr ⟨lw_p78, List.forall_mem_cons.mpr ⟨lw_p79, fun _ h => absurd h List.not_mem_nil⟩⟩⟩⟩⟩⟩⟩⟩⟩⟩⟩⟩⟩⟩⟩⟩
def lw_privs : List (MethodName × Nat) := lw_privs_1 ++ (lw_privs_2 ++ (lw_privs_3 ++ (lw_privs_4 ++ (lw_privs_5))))
def lw_tbl : List Cond := k2_sels lw_privs ++ tables_1
theorem lw_privs_ok : ∀ q ∈ lw_privs, lw_okq q := by
  show ∀ q ∈ lw_privs_1 ++ (lw_privs_2 ++ (lw_privs_3 ++ (lw_privs_4 ++ (lw_privs_5)))), lw_okq q
  exact List.forall_mem_append.mpr ⟨lw_r1, List.forall_mem_append.mpr ⟨lw_r2, List.forall_mem_append.mpr ⟨lw_r3, List.forall_mem_append.mpr ⟨lw_r4, lw_r5⟩⟩⟩⟩
end
section
/-! ===== BEGIN words of one list among another's, by their places ===== -/
theorem goodIn_r {big : List Cond} (ws : List Cond) (ps : List Nat) (hp : ws = ps.filterMap (fun i => big[i]?)) (h : ws.all goodWord = true) : GoodIn big ws := by
  intro w hw
  have h1 := List.all_eq_true.mp h w hw
  rw [hp] at hw
  obtain ⟨i, -, hi⟩ := List.mem_filterMap.mp hw
  have hm : w ∈ big := by first | exact List.mem_of_getElem? hi | exact List.getElem?_mem hi
  exact ⟨hm, good_of_word h1⟩
theorem goodIn_app {big a b : List Cond} (ha : GoodIn big a) (hb : GoodIn big b) : GoodIn big (a ++ b) := fun w h => (List.mem_append.mp h).elim (ha w) (hb w)
theorem goodIn_ca {big a b : List Cond} {c : Cond} (ha : GoodIn big (c :: a)) (hb : GoodIn big b) : GoodIn big (c :: (a ++ b)) := fun w h => (List.mem_cons.mp h).elim (fun e => ha w (List.mem_cons.mpr (Or.inl e))) (fun h => (List.mem_append.mp h).elim (fun h => ha w (List.mem_cons.mpr (Or.inr h))) (hb w))
theorem goodIn_sub {big ws : List Cond} (hm : ∀ w ∈ ws, w ∈ big) (h : ws.all goodWord = true) : GoodIn big ws := fun w hw => ⟨hm w hw, good_of_word (List.all_eq_true.mp h w hw)⟩
/-! ===== END ===== -/
def RX0 : String := "RiverDays$Aside"
def TX0 : u_T := fun k => match k with
  | 0 => ("RiverDays$Aside", "dryWeekday", "I", false)
  | 1 => ("RiverDays$Aside", "sea", "I", false)
  | 2 => ("RiverDays$Aside", "grinding", "I", false)
  | 3 => ("RiverDays$Aside", "seaInAll", "I", false)
  | 4 => ("RiverDays$Aside", "groundInAll", "I", false)
  | 5 => ("RiverDays$Aside", "seaOf", "[I", true)
  | 6 => ("RiverDays$Aside", "today", "I", false)
  | 7 => ("RiverDays$Aside", "water", "[[I", true)
  | _ => ("RiverDays$Aside", "ran", "[I", true)
def tyX0 : Nat → FieldType := fun k => match k with
  | 0 => .int
  | 1 => .int
  | 2 => .int
  | 3 => .int
  | 4 => .int
  | 5 => .array .int
  | 6 => .int
  | 7 => .array (.array .int)
  | _ => .array .int
abbrev wsX00 : List Cond := u_ws RX0 TX0 9
theorem nmX0 : ∀ a, a < 9 → ∀ b, b < 9 → a ≠ b → (TX0 a).2.1 ≠ (TX0 b).2.1 := by decide +kernel
theorem tyX0_ok : ∀ k, k < 9 → parseFieldDescriptor (TX0 k).2.2.1 = some (tyX0 k) := by decide +kernel
abbrev cX0_init : ByteArray := prog_2_method_1_code
def yX0_init : MethodName := ⟨RX0, "<init>", "()V"⟩
abbrev cX0_begin : ByteArray := prog_2_method_2_code
def yX0_begin : MethodName := ⟨RX0, "begin", "([II)V"⟩
abbrev cX0_passOn : ByteArray := prog_2_method_3_code
def yX0_passOn : MethodName := ⟨RX0, "passOn", "(LRiverDays$Course;II)V"⟩
abbrev cX0_branch : ByteArray := prog_2_method_4_code
def yX0_branch : MethodName := ⟨RX0, "branch", "(LRiverDays$Course;II)V"⟩
abbrev cX0_ownerOf : ByteArray := prog_2_method_5_code
def yX0_ownerOf : MethodName := ⟨RX0, "ownerOf", "(LRiverDays$Course;I)I"⟩
abbrev cX0_waterNow : ByteArray := prog_2_method_6_code
def yX0_waterNow : MethodName := ⟨RX0, "waterNow", "(I)I"⟩
abbrev cX0_weekdayOf : ByteArray := prog_2_method_7_code
def yX0_weekdayOf : MethodName := ⟨RX0, "weekdayOf", "(I)I"⟩
abbrev cX0_pass : ByteArray := prog_2_method_8_code
def yX0_pass : MethodName := ⟨RX0, "pass", "(LRiverDays$Course;[III)V"⟩
def RX1 : String := "RiverDays$Breaking"
def TX1 : u_T := fun k => match k with
  | 0 => ("RiverDays$Breaking", "plan", "[I", true)
  | 1 => ("RiverDays$Breaking", "seaWeighed", "J", false)
  | 2 => ("RiverDays$Breaking", "reached", "J", false)
  | 3 => ("RiverDays$Breaking", "whole", "J", false)
  | 4 => ("RiverDays$Breaking", "days", "I", false)
  | 5 => ("RiverDays$Breaking", "often", "I", false)
  | 6 => ("RiverDays$Breaking", "p", "I", false)
  | _ => ("RiverDays$Breaking", "aside", "LRiverDays$Aside;", true)
def tyX1 : Nat → FieldType := fun k => match k with
  | 0 => .array .int
  | 1 => .long
  | 2 => .long
  | 3 => .long
  | 4 => .int
  | 5 => .int
  | 6 => .int
  | _ => .object "RiverDays$Aside"
abbrev wsX10 : List Cond := u_ws RX1 TX1 8
theorem nmX1 : ∀ a, a < 8 → ∀ b, b < 8 → a ≠ b → (TX1 a).2.1 ≠ (TX1 b).2.1 := by decide +kernel
theorem tyX1_ok : ∀ k, k < 8 → parseFieldDescriptor (TX1 k).2.2.1 = some (tyX1 k) := by decide +kernel
abbrev cX1_init : ByteArray := prog_3_method_1_code
def yX1_init : MethodName := ⟨RX1, "<init>", "()V"⟩
abbrev cX1_weigh : ByteArray := prog_3_method_2_code
def yX1_weigh : MethodName := ⟨RX1, "weigh", "(LRiverDays$Course;[IIIII)V"⟩
abbrev cX1_spread : ByteArray := prog_3_method_3_code
def yX1_spread : MethodName := ⟨RX1, "spread", "(LRiverDays$Course;IJII)V"⟩
abbrev cX1_weightOf : ByteArray := prog_3_method_4_code
def yX1_weightOf : MethodName := ⟨RX1, "weightOf", "(II)J"⟩
abbrev cX1_power : ByteArray := prog_3_method_5_code
def yX1_power : MethodName := ⟨RX1, "power", "(II)J"⟩
def RX2 : String := "RiverDays$Course"
def TX2 : u_T := fun k => match k with
  | 0 => ("RiverDays$Course", "size", "I", false)
  | 1 => ("RiverDays$Course", "gateBits", "I", false)
  | 2 => ("RiverDays$Course", "millBits", "I", false)
  | 3 => ("RiverDays$Course", "setCount", "I", false)
  | 4 => ("RiverDays$Course", "kind", "[I", true)
  | 5 => ("RiverDays$Course", "measure", "[I", true)
  | 6 => ("RiverDays$Course", "spring", "[I", true)
  | 7 => ("RiverDays$Course", "rain", "[I", true)
  | 8 => ("RiverDays$Course", "owner", "[I", true)
  | _ => ("RiverDays$Course", "sets", "[I", true)
def tyX2 : Nat → FieldType := fun k => match k with
  | 0 => .int
  | 1 => .int
  | 2 => .int
  | 3 => .int
  | 4 => .array .int
  | 5 => .array .int
  | 6 => .array .int
  | 7 => .array .int
  | 8 => .array .int
  | _ => .array .int
abbrev wsX20 : List Cond := u_ws RX2 TX2 10
theorem nmX2 : ∀ a, a < 10 → ∀ b, b < 10 → a ≠ b → (TX2 a).2.1 ≠ (TX2 b).2.1 := by decide +kernel
theorem tyX2_ok : ∀ k, k < 10 → parseFieldDescriptor (TX2 k).2.2.1 = some (tyX2 k) := by decide +kernel
abbrev cX2_init : ByteArray := prog_4_method_1_code
def yX2_init : MethodName := ⟨RX2, "<init>", "()V"⟩
abbrev cX2_clear : ByteArray := prog_4_method_2_code
def yX2_clear : MethodName := ⟨RX2, "clear", "()V"⟩
abbrev cX2_hasReach : ByteArray := prog_4_method_3_code
def yX2_hasReach : MethodName := ⟨RX2, "hasReach", "(I)Z"⟩
abbrev cX2_canShut : ByteArray := prog_4_method_4_code
def yX2_canShut : MethodName := ⟨RX2, "canShut", "(I)Z"⟩
abbrev cX2_hasRoomFor : ByteArray := prog_4_method_5_code
def yX2_hasRoomFor : MethodName := ⟨RX2, "hasRoomFor", "(I)Z"⟩
abbrev cX2_add : ByteArray := prog_4_method_6_code
def yX2_add : MethodName := ⟨RX2, "add", "(III)V"⟩
abbrev cX2_listSets : ByteArray := prog_4_method_7_code
def yX2_listSets : MethodName := ⟨RX2, "listSets", "()V"⟩
abbrev cX2_setByLot : ByteArray := prog_4_method_8_code
def yX2_setByLot : MethodName := ⟨RX2, "setByLot", "(I)I"⟩
abbrev cX2_letRun : ByteArray := prog_4_method_9_code
def yX2_letRun : MethodName := ⟨RX2, "letRun", "([I[II)V"⟩
abbrev cX2_takeIn : ByteArray := prog_4_method_10_code
def yX2_takeIn : MethodName := ⟨RX2, "takeIn", "([I[II)V"⟩
abbrev cX2_toSea : ByteArray := prog_4_method_11_code
def yX2_toSea : MethodName := ⟨RX2, "toSea", "([I)I"⟩
abbrev cX2_grindingBy : ByteArray := prog_4_method_12_code
def yX2_grindingBy : MethodName := ⟨RX2, "grindingBy", "([I)I"⟩
def RX3 : String := "RiverDays$Deeds"
def TX3 : u_T := fun k => match k with
  | 0 => ("RiverDays$Deeds", "size", "I", false)
  | 1 => ("RiverDays$Deeds", "shut", "[I", true)
  | _ => ("RiverDays$Deeds", "village", "[I", true)
def tyX3 : Nat → FieldType := fun k => match k with
  | 0 => .int
  | 1 => .array .int
  | _ => .array .int
abbrev wsX30 : List Cond := u_ws RX3 TX3 3
theorem nmX3 : ∀ a, a < 3 → ∀ b, b < 3 → a ≠ b → (TX3 a).2.1 ≠ (TX3 b).2.1 := by decide +kernel
theorem tyX3_ok : ∀ k, k < 3 → parseFieldDescriptor (TX3 k).2.2.1 = some (tyX3 k) := by decide +kernel
abbrev cX3_init : ByteArray := prog_5_method_1_code
def yX3_init : MethodName := ⟨RX3, "<init>", "()V"⟩
abbrev cX3_add : ByteArray := prog_5_method_2_code
def yX3_add : MethodName := ⟨RX3, "add", "(II)V"⟩
abbrev cX3_cutTo : ByteArray := prog_5_method_3_code
def yX3_cutTo : MethodName := ⟨RX3, "cutTo", "(I)V"⟩
abbrev cX3_become : ByteArray := prog_5_method_4_code
def yX3_become : MethodName := ⟨RX3, "become", "(LRiverDays$Deeds;)V"⟩
def RX4 : String := "RiverDays$Flow"
def TX4 : u_T := fun k => match k with
  | 0 => ("RiverDays$Flow", "water", "[I", true)
  | 1 => ("RiverDays$Flow", "ground", "[I", true)
  | 2 => ("RiverDays$Flow", "ranInAll", "[I", true)
  | 3 => ("RiverDays$Flow", "seaOf", "[I", true)
  | _ => ("RiverDays$Flow", "ran", "[I", true)
def tyX4 : Nat → FieldType := fun k => match k with
  | 0 => .array .int
  | 1 => .array .int
  | 2 => .array .int
  | 3 => .array .int
  | _ => .array .int
abbrev wsX40 : List Cond := u_ws RX4 TX4 5
theorem nmX4 : ∀ a, a < 5 → ∀ b, b < 5 → a ≠ b → (TX4 a).2.1 ≠ (TX4 b).2.1 := by decide +kernel
theorem tyX4_ok : ∀ k, k < 5 → parseFieldDescriptor (TX4 k).2.2.1 = some (tyX4 k) := by decide +kernel
abbrev cX4_init : ByteArray := prog_6_method_1_code
def yX4_init : MethodName := ⟨RX4, "<init>", "()V"⟩
abbrev cX4_start : ByteArray := prog_6_method_2_code
def yX4_start : MethodName := ⟨RX4, "start", "(LRiverDays$Course;)V"⟩
abbrev cX4_pass : ByteArray := prog_6_method_3_code
def yX4_pass : MethodName := ⟨RX4, "pass", "(LRiverDays$Course;III)I"⟩
def RX5 : String := "RiverDays$Hunt"
def TX5 : u_T := fun k => match k with
  | 0 => ("RiverDays$Hunt", "due", "[I", true)
  | 1 => ("RiverDays$Hunt", "plan", "[I", true)
  | 2 => ("RiverDays$Hunt", "village", "I", false)
  | 3 => ("RiverDays$Hunt", "days", "I", false)
  | 4 => ("RiverDays$Hunt", "found", "I", false)
  | 5 => ("RiverDays$Hunt", "top", "I", false)
  | 6 => ("RiverDays$Hunt", "common", "I", false)
  | 7 => ("RiverDays$Hunt", "goal", "I", false)
  | 8 => ("RiverDays$Hunt", "tried", "[I", true)
  | _ => ("RiverDays$Hunt", "aside", "LRiverDays$Aside;", true)
def tyX5 : Nat → FieldType := fun k => match k with
  | 0 => .array .int
  | 1 => .array .int
  | 2 => .int
  | 3 => .int
  | 4 => .int
  | 5 => .int
  | 6 => .int
  | 7 => .int
  | 8 => .array .int
  | _ => .object "RiverDays$Aside"
abbrev wsX50 : List Cond := u_ws RX5 TX5 10
theorem nmX5 : ∀ a, a < 10 → ∀ b, b < 10 → a ≠ b → (TX5 a).2.1 ≠ (TX5 b).2.1 := by decide +kernel
theorem tyX5_ok : ∀ k, k < 10 → parseFieldDescriptor (TX5 k).2.2.1 = some (tyX5 k) := by decide +kernel
abbrev cX5_init : ByteArray := prog_7_method_1_code
def yX5_init : MethodName := ⟨RX5, "<init>", "()V"⟩
abbrev cX5_seek : ByteArray := prog_7_method_2_code
def yX5_seek : MethodName := ⟨RX5, "seek", "(LRiverDays$Course;[IIII)V"⟩
abbrev cX5_goDeeper : ByteArray := prog_7_method_3_code
def yX5_goDeeper : MethodName := ⟨RX5, "goDeeper", "(LRiverDays$Course;II)V"⟩
abbrev cX5_fits : ByteArray := prog_7_method_4_code
def yX5_fits : MethodName := ⟨RX5, "fits", "(LRiverDays$Course;I)Z"⟩
abbrev cX5_gain : ByteArray := prog_7_method_5_code
def yX5_gain : MethodName := ⟨RX5, "gain", "(LRiverDays$Course;I)I"⟩
abbrev cX5_arrive : ByteArray := prog_7_method_6_code
def yX5_arrive : MethodName := ⟨RX5, "arrive", "(I)V"⟩
abbrev cX5_shutTogether : ByteArray := prog_7_method_7_code
def yX5_shutTogether : MethodName := ⟨RX5, "shutTogether", "()I"⟩
abbrev cX5_contest : ByteArray := prog_7_method_8_code
def yX5_contest : MethodName := ⟨RX5, "contest", "(LRiverDays$Course;[III)I"⟩
abbrev cX5_contend : ByteArray := prog_7_method_9_code
def yX5_contend : MethodName := ⟨RX5, "contend", "(LRiverDays$Course;I)I"⟩
def RX6 : String := "RiverDays$Kind"
def TX6 : u_T := fun k => match k with
  | _ => ("", "", "", false)
def tyX6 : Nat → FieldType := fun k => match k with
  | _ => .int
abbrev wsX60 : List Cond := u_ws RX6 TX6 0
theorem nmX6 : ∀ a, a < 0 → ∀ b, b < 0 → a ≠ b → (TX6 a).2.1 ≠ (TX6 b).2.1 := by decide +kernel
theorem tyX6_ok : ∀ k, k < 0 → parseFieldDescriptor (TX6 k).2.2.1 = some (tyX6 k) := by decide +kernel
abbrev cX6_byLetter : ByteArray := prog_8_method_2_code
def yX6_byLetter : MethodName := ⟨RX6, "byLetter", "(I)I"⟩
abbrev cX6_isOf : ByteArray := prog_8_method_3_code
def yX6_isOf : MethodName := ⟨RX6, "isOf", "(II)Z"⟩
abbrev cX6_runFrom : ByteArray := prog_8_method_4_code
def yX6_runFrom : MethodName := ⟨RX6, "runFrom", "(IIIZ)I"⟩
abbrev cX6_settle : ByteArray := prog_8_method_5_code
def yX6_settle : MethodName := ⟨RX6, "settle", "(II)I"⟩
abbrev cX6_grindsBy : ByteArray := prog_8_method_6_code
def yX6_grindsBy : MethodName := ⟨RX6, "grindsBy", "(III)Z"⟩
abbrev cX6_signOf : ByteArray := prog_8_method_7_code
def yX6_signOf : MethodName := ⟨RX6, "signOf", "(III)I"⟩
def RX7 : String := "RiverDays$Reader"
def TX7 : u_T := fun k => match k with
  | 0 => ("RiverDays$Reader", "signs", "[I", true)
  | 1 => ("RiverDays$Reader", "size", "I", false)
  | _ => ("RiverDays$Reader", "place", "I", false)
def tyX7 : Nat → FieldType := fun k => match k with
  | 0 => .array .int
  | 1 => .int
  | _ => .int
abbrev wsX70 : List Cond := u_ws RX7 TX7 3
theorem nmX7 : ∀ a, a < 3 → ∀ b, b < 3 → a ≠ b → (TX7 a).2.1 ≠ (TX7 b).2.1 := by decide +kernel
theorem tyX7_ok : ∀ k, k < 3 → parseFieldDescriptor (TX7 k).2.2.1 = some (tyX7 k) := by decide +kernel
abbrev cX7_init : ByteArray := prog_9_method_1_code
def yX7_init : MethodName := ⟨RX7, "<init>", "()V"⟩
abbrev cX7_read : ByteArray := prog_9_method_2_code
def yX7_read : MethodName := ⟨RX7, "read", "(LRiverDays$Rows;ILRiverDays$Course;)I"⟩
abbrev cX7_takesWeek : ByteArray := prog_9_method_3_code
def yX7_takesWeek : MethodName := ⟨RX7, "takesWeek", "(I[II)Z"⟩
abbrev cX7_takesReach : ByteArray := prog_9_method_4_code
def yX7_takesReach : MethodName := ⟨RX7, "takesReach", "(LRiverDays$Course;)Z"⟩
abbrev cX7_onlyBlanksLeft : ByteArray := prog_9_method_5_code
def yX7_onlyBlanksLeft : MethodName := ⟨RX7, "onlyBlanksLeft", "()Z"⟩
abbrev cX7_seen : ByteArray := prog_9_method_6_code
def yX7_seen : MethodName := ⟨RX7, "seen", "()I"⟩
abbrev cX7_seesFigure : ByteArray := prog_9_method_7_code
def yX7_seesFigure : MethodName := ⟨RX7, "seesFigure", "(II)Z"⟩
abbrev cX7_skipBlanks : ByteArray := prog_9_method_8_code
def yX7_skipBlanks : MethodName := ⟨RX7, "skipBlanks", "()V"⟩
def RX8 : String := "RiverDays$Rows"
def TX8 : u_T := fun k => match k with
  | 0 => ("RiverDays$Rows", "limit", "I", true)
  | 1 => ("RiverDays$Rows", "places", "[[I", true)
  | _ => ("RiverDays$Rows", "sizes", "[I", true)
def tyX8 : Nat → FieldType := fun k => match k with
  | 0 => .int
  | 1 => .array (.array .int)
  | _ => .array .int
abbrev wsX80 : List Cond := u_ws RX8 TX8 3
theorem nmX8 : ∀ a, a < 3 → ∀ b, b < 3 → a ≠ b → (TX8 a).2.1 ≠ (TX8 b).2.1 := by decide +kernel
theorem tyX8_ok : ∀ k, k < 3 → parseFieldDescriptor (TX8 k).2.2.1 = some (tyX8 k) := by decide +kernel
abbrev cX8_init : ByteArray := prog_10_method_1_code
def yX8_init : MethodName := ⟨RX8, "<init>", "(II)V"⟩
abbrev cX8_isOne : ByteArray := prog_10_method_2_code
def yX8_isOne : MethodName := ⟨RX8, "isOne", "(I)Z"⟩
abbrev cX8_isThere : ByteArray := prog_10_method_3_code
def yX8_isThere : MethodName := ⟨RX8, "isThere", "(I)Z"⟩
abbrev cX8_sizeOf : ByteArray := prog_10_method_4_code
def yX8_sizeOf : MethodName := ⟨RX8, "sizeOf", "(I)I"⟩
abbrev cX8_holds : ByteArray := prog_10_method_5_code
def yX8_holds : MethodName := ⟨RX8, "holds", "(II)Z"⟩
abbrev cX8_holdsRun : ByteArray := prog_10_method_6_code
def yX8_holdsRun : MethodName := ⟨RX8, "holdsRun", "(III)Z"⟩
abbrev cX8_valueAt : ByteArray := prog_10_method_7_code
def yX8_valueAt : MethodName := ⟨RX8, "valueAt", "(II)I"⟩
abbrev cX8_change : ByteArray := prog_10_method_8_code
def yX8_change : MethodName := ⟨RX8, "change", "(III)V"⟩
abbrev cX8_make : ByteArray := prog_10_method_9_code
def yX8_make : MethodName := ⟨RX8, "make", "(III)V"⟩
abbrev cX8_take : ByteArray := prog_10_method_10_code
def yX8_take : MethodName := ⟨RX8, "take", "(I[II)V"⟩
abbrev cX8_giveTo : ByteArray := prog_10_method_11_code
def yX8_giveTo : MethodName := ⟨RX8, "giveTo", "(I[I)V"⟩
abbrev cX8_drop : ByteArray := prog_10_method_12_code
def yX8_drop : MethodName := ⟨RX8, "drop", "(I)V"⟩
abbrev cX8_transfer : ByteArray := prog_10_method_13_code
def yX8_transfer : MethodName := ⟨RX8, "transfer", "(IIIII)V"⟩
abbrev cX8_sumOf : ByteArray := prog_10_method_14_code
def yX8_sumOf : MethodName := ⟨RX8, "sumOf", "(I)J"⟩
abbrev cX8_allWithin : ByteArray := prog_10_method_15_code
def yX8_allWithin : MethodName := ⟨RX8, "allWithin", "(II)Z"⟩
abbrev cX8_howMany : ByteArray := prog_10_method_16_code
def yX8_howMany : MethodName := ⟨RX8, "howMany", "()I"⟩
abbrev cX8_mixInto : ByteArray := prog_10_method_17_code
def yX8_mixInto : MethodName := ⟨RX8, "mixInto", "(J)J"⟩
def RX9 : String := "RiverDays"
def TX9 : u_T := fun k => match k with
  | 0 => ("RiverDays", "rows", "LRiverDays$Rows;", true)
  | 1 => ("RiverDays", "texts", "LRiverDays$Rows;", true)
  | 2 => ("RiverDays", "reader", "LRiverDays$Reader;", true)
  | 3 => ("RiverDays", "flow", "LRiverDays$Flow;", true)
  | 4 => ("RiverDays", "deeds", "LRiverDays$Deeds;", true)
  | 5 => ("RiverDays", "kept", "[LRiverDays$Deeds;", true)
  | 6 => ("RiverDays", "isKept", "[Z", true)
  | 7 => ("RiverDays", "aside", "LRiverDays$Aside;", true)
  | 8 => ("RiverDays", "hunt", "LRiverDays$Hunt;", true)
  | 9 => ("RiverDays", "breaking", "LRiverDays$Breaking;", true)
  | 10 => ("RiverDays", "answered", "[I", true)
  | 11 => ("RiverDays", "course", "LRiverDays$Course;", false)
  | 12 => ("RiverDays", "draft", "LRiverDays$Course;", false)
  | 13 => ("RiverDays", "latestFinding", "I", false)
  | 14 => ("RiverDays", "toldInt", "I", false)
  | 15 => ("RiverDays", "toldUpper", "J", false)
  | _ => ("RiverDays", "toldLower", "J", false)
def tyX9 : Nat → FieldType := fun k => match k with
  | 0 => .object "RiverDays$Rows"
  | 1 => .object "RiverDays$Rows"
  | 2 => .object "RiverDays$Reader"
  | 3 => .object "RiverDays$Flow"
  | 4 => .object "RiverDays$Deeds"
  | 5 => .array (.object "RiverDays$Deeds")
  | 6 => .array .boolean
  | 7 => .object "RiverDays$Aside"
  | 8 => .object "RiverDays$Hunt"
  | 9 => .object "RiverDays$Breaking"
  | 10 => .array .int
  | 11 => .object "RiverDays$Course"
  | 12 => .object "RiverDays$Course"
  | 13 => .int
  | 14 => .int
  | 15 => .long
  | _ => .long
abbrev wsX90 : List Cond := u_ws RX9 TX9 17
theorem nmX9 : ∀ a, a < 17 → ∀ b, b < 17 → a ≠ b → (TX9 a).2.1 ≠ (TX9 b).2.1 := by decide +kernel
theorem tyX9_ok : ∀ k, k < 17 → parseFieldDescriptor (TX9 k).2.2.1 = some (tyX9 k) := by decide +kernel
abbrev cX9_init : ByteArray := prog_1_method_1_code
def yX9_init : MethodName := ⟨RX9, "<init>", "()V"⟩
abbrev cX9_row : ByteArray := prog_1_method_2_code
def yX9_row : MethodName := ⟨RX9, "row", "(II)I"⟩
abbrev cX9_lay : ByteArray := prog_1_method_3_code
def yX9_lay : MethodName := ⟨RX9, "lay", "(III)I"⟩
abbrev cX9_at : ByteArray := prog_1_method_4_code
def yX9_at : MethodName := ⟨RX9, "at", "(II)I"⟩
abbrev cX9_tear : ByteArray := prog_1_method_5_code
def yX9_tear : MethodName := ⟨RX9, "tear", "(I)I"⟩
abbrev cX9_copy : ByteArray := prog_1_method_6_code
def yX9_copy : MethodName := ⟨RX9, "copy", "(IIIII)I"⟩
abbrev cX9_mean : ByteArray := prog_1_method_7_code
def yX9_mean : MethodName := ⟨RX9, "mean", "(I)I"⟩
abbrev cX9_text : ByteArray := prog_1_method_8_code
def yX9_text : MethodName := ⟨RX9, "text", "(II)I"⟩
abbrev cX9_put : ByteArray := prog_1_method_9_code
def yX9_put : MethodName := ⟨RX9, "put", "(III)I"⟩
abbrev cX9_fault : ByteArray := prog_1_method_10_code
def yX9_fault : MethodName := ⟨RX9, "fault", "(I)I"⟩
abbrev cX9_river : ByteArray := prog_1_method_11_code
def yX9_river : MethodName := ⟨RX9, "river", "(I)I"⟩
abbrev cX9_reach : ByteArray := prog_1_method_12_code
def yX9_reach : MethodName := ⟨RX9, "reach", "(II)I"⟩
abbrev cX9_mark : ByteArray := prog_1_method_13_code
def yX9_mark : MethodName := ⟨RX9, "mark", "(II)I"⟩
abbrev cX9_weekday : ByteArray := prog_1_method_14_code
def yX9_weekday : MethodName := ⟨RX9, "weekday", "(II)I"⟩
abbrev cX9_swap : ByteArray := prog_1_method_15_code
def yX9_swap : MethodName := ⟨RX9, "swap", "(II)I"⟩
abbrev cX9_owns : ByteArray := prog_1_method_16_code
def yX9_owns : MethodName := ⟨RX9, "owns", "(I)I"⟩
abbrev cX9_day : ByteArray := prog_1_method_17_code
def yX9_day : MethodName := ⟨RX9, "day", "(I)I"⟩
abbrev cX9_undo : ByteArray := prog_1_method_18_code
def yX9_undo : MethodName := ⟨RX9, "undo", "(I)I"⟩
abbrev cX9_keep : ByteArray := prog_1_method_19_code
def yX9_keep : MethodName := ⟨RX9, "keep", "(I)I"⟩
abbrev cX9_on : ByteArray := prog_1_method_20_code
def yX9_on : MethodName := ⟨RX9, "on", "(I)I"⟩
abbrev cX9_gates : ByteArray := prog_1_method_21_code
def yX9_gates : MethodName := ⟨RX9, "gates", "()I"⟩
abbrev cX9_runs : ByteArray := prog_1_method_22_code
def yX9_runs : MethodName := ⟨RX9, "runs", "(I)I"⟩
abbrev cX9_sea : ByteArray := prog_1_method_23_code
def yX9_sea : MethodName := ⟨RX9, "sea", "(I)I"⟩
abbrev cX9_water : ByteArray := prog_1_method_24_code
def yX9_water : MethodName := ⟨RX9, "water", "(II)I"⟩
abbrev cX9_share : ByteArray := prog_1_method_25_code
def yX9_share : MethodName := ⟨RX9, "share", "(II)I"⟩
abbrev cX9_grinds : ByteArray := prog_1_method_26_code
def yX9_grinds : MethodName := ⟨RX9, "grinds", "(I)I"⟩
abbrev cX9_best : ByteArray := prog_1_method_27_code
def yX9_best : MethodName := ⟨RX9, "best", "(II)I"⟩
abbrev cX9_all : ByteArray := prog_1_method_28_code
def yX9_all : MethodName := ⟨RX9, "all", "(II)I"⟩
abbrev cX9_most : ByteArray := prog_1_method_29_code
def yX9_most : MethodName := ⟨RX9, "most", "(II)I"⟩
abbrev cX9_worth : ByteArray := prog_1_method_30_code
def yX9_worth : MethodName := ⟨RX9, "worth", "(I)I"⟩
abbrev cX9_duel : ByteArray := prog_1_method_31_code
def yX9_duel : MethodName := ⟨RX9, "duel", "(I)I"⟩
abbrev cX9_ways : ByteArray := prog_1_method_32_code
def yX9_ways : MethodName := ⟨RX9, "ways", "(I)I"⟩
abbrev cX9_first : ByteArray := prog_1_method_33_code
def yX9_first : MethodName := ⟨RX9, "first", "(II)I"⟩
abbrev cX9_kinds : ByteArray := prog_1_method_34_code
def yX9_kinds : MethodName := ⟨RX9, "kinds", "(II)I"⟩
abbrev cX9_measures : ByteArray := prog_1_method_35_code
def yX9_measures : MethodName := ⟨RX9, "measures", "(II)I"⟩
abbrev cX9_mid : ByteArray := prog_1_method_36_code
def yX9_mid : MethodName := ⟨RX9, "mid", "(II)I"⟩
abbrev cX9_odds : ByteArray := prog_1_method_37_code
def yX9_odds : MethodName := ⟨RX9, "odds", "(III)I"⟩
abbrev cX9_lots : ByteArray := prog_1_method_38_code
def yX9_lots : MethodName := ⟨RX9, "lots", "(II)I"⟩
abbrev cX9_asked : ByteArray := prog_1_method_39_code
def yX9_asked : MethodName := ⟨RX9, "asked", "()I"⟩
abbrev cX9_upper : ByteArray := prog_1_method_40_code
def yX9_upper : MethodName := ⟨RX9, "upper", "()J"⟩
abbrev cX9_lower : ByteArray := prog_1_method_41_code
def yX9_lower : MethodName := ⟨RX9, "lower", "()J"⟩
abbrev cX9_count : ByteArray := prog_1_method_42_code
def yX9_count : MethodName := ⟨RX9, "count", "(I)I"⟩
abbrev cX9_finding : ByteArray := prog_1_method_43_code
def yX9_finding : MethodName := ⟨RX9, "finding", "()I"⟩
abbrev cX9_findings : ByteArray := prog_1_method_44_code
def yX9_findings : MethodName := ⟨RX9, "findings", "(I)I"⟩
abbrev cX9_digest : ByteArray := prog_1_method_45_code
def yX9_digest : MethodName := ⟨RX9, "digest", "()J"⟩
abbrev cX9_tell : ByteArray := prog_1_method_46_code
def yX9_tell : MethodName := ⟨RX9, "tell", "(I)I"⟩
abbrev cX9_tellFraction : ByteArray := prog_1_method_47_code
def yX9_tellFraction : MethodName := ⟨RX9, "tellFraction", "(JJ)V"⟩
abbrev cX9_commonDivisor : ByteArray := prog_1_method_48_code
def yX9_commonDivisor : MethodName := ⟨RX9, "commonDivisor", "(JJ)J"⟩
abbrev cX9_find : ByteArray := prog_1_method_49_code
def yX9_find : MethodName := ⟨RX9, "find", "(I)I"⟩
abbrev cX9_makeAnew : ByteArray := prog_1_method_50_code
def yX9_makeAnew : MethodName := ⟨RX9, "makeAnew", "(LRiverDays$Rows;III)I"⟩
abbrev cX9_refuseMissing : ByteArray := prog_1_method_51_code
def yX9_refuseMissing : MethodName := ⟨RX9, "refuseMissing", "(LRiverDays$Rows;I)I"⟩
abbrev cX9_refusePlace : ByteArray := prog_1_method_52_code
def yX9_refusePlace : MethodName := ⟨RX9, "refusePlace", "(LRiverDays$Rows;II)I"⟩
abbrev cX9_refuseSearch : ByteArray := prog_1_method_53_code
def yX9_refuseSearch : MethodName := ⟨RX9, "refuseSearch", "(ZII)I"⟩
abbrev cX9_refuseWithoutRiver : ByteArray := prog_1_method_54_code
def yX9_refuseWithoutRiver : MethodName := ⟨RX9, "refuseWithoutRiver", "(ZI)I"⟩
abbrev cX9_refusePlan : ByteArray := prog_1_method_55_code
def yX9_refusePlan : MethodName := ⟨RX9, "refusePlan", "(ZII)I"⟩
abbrev cX9_refuseSeas : ByteArray := prog_1_method_56_code
def yX9_refuseSeas : MethodName := ⟨RX9, "refuseSeas", "(ZI)I"⟩
abbrev cX9_refusePairs : ByteArray := prog_1_method_57_code
def yX9_refusePairs : MethodName := ⟨RX9, "refusePairs", "(II)I"⟩
abbrev cX9_isWeekday : ByteArray := prog_1_method_58_code
def yX9_isWeekday : MethodName := ⟨RX9, "isWeekday", "(I)Z"⟩
abbrev cX9_isVillage : ByteArray := prog_1_method_59_code
def yX9_isVillage : MethodName := ⟨RX9, "isVillage", "(I)Z"⟩
abbrev cX9_isOfTwelve : ByteArray := prog_1_method_60_code
def yX9_isOfTwelve : MethodName := ⟨RX9, "isOfTwelve", "(I)Z"⟩
abbrev cX9_passTruly : ByteArray := prog_1_method_61_code
def yX9_passTruly : MethodName := ⟨RX9, "passTruly", "(I)I"⟩
abbrev cX9_replay : ByteArray := prog_1_method_62_code
def yX9_replay : MethodName := ⟨RX9, "replay", "()V"⟩
abbrev cX9_readDraft : ByteArray := prog_1_method_63_code
def yX9_readDraft : MethodName := ⟨RX9, "readDraft", "(I)I"⟩
abbrev cX9_followPlan : ByteArray := prog_1_method_64_code
def yX9_followPlan : MethodName := ⟨RX9, "followPlan", "(I)V"⟩
abbrev cX9_groundWithout : ByteArray := prog_1_method_65_code
def yX9_groundWithout : MethodName := ⟨RX9, "groundWithout", "(II)I"⟩
abbrev cX9_agrees : ByteArray := prog_1_method_66_code
def yX9_agrees : MethodName := ⟨RX9, "agrees", "(IIII)Z"⟩
abbrev cX9_ofReach : ByteArray := prog_1_method_67_code
def yX9_ofReach : MethodName := ⟨RX9, "ofReach", "(II)I"⟩
abbrev cX9_counted : ByteArray := prog_1_method_68_code
def yX9_counted : MethodName := ⟨RX9, "counted", "(I)I"⟩
abbrev cX9_keptRivers : ByteArray := prog_1_method_69_code
def yX9_keptRivers : MethodName := ⟨RX9, "keptRivers", "()I"⟩
abbrev cX9_sum : ByteArray := prog_1_method_70_code
def yX9_sum : MethodName := ⟨RX9, "sum", "([I)I"⟩
def RX10 : String := "RiverDaysModel"
def TX10 : u_T := fun k => match k with
  | 0 => ("RiverDaysModel", "finding", "I", false)
  | 1 => ("RiverDaysModel", "findings", "[I", true)
  | 2 => ("RiverDaysModel", "asked", "I", false)
  | 3 => ("RiverDaysModel", "upper", "J", false)
  | 4 => ("RiverDaysModel", "lower", "J", false)
  | 5 => ("RiverDaysModel", "sizes", "[I", true)
  | 6 => ("RiverDaysModel", "rows", "[I", true)
  | 7 => ("RiverDaysModel", "moving", "[I", true)
  | 8 => ("RiverDaysModel", "lengths", "[I", true)
  | 9 => ("RiverDaysModel", "texts", "[I", true)
  | 10 => ("RiverDaysModel", "many", "I", false)
  | 11 => ("RiverDaysModel", "rain", "[I", true)
  | 12 => ("RiverDaysModel", "owner", "[I", true)
  | 13 => ("RiverDaysModel", "kinds", "[I", true)
  | 14 => ("RiverDaysModel", "measures", "[I", true)
  | 15 => ("RiverDaysModel", "water", "[I", true)
  | 16 => ("RiverDaysModel", "ground", "[I", true)
  | 17 => ("RiverDaysModel", "ran", "[I", true)
  | 18 => ("RiverDaysModel", "came", "I", false)
  | 19 => ("RiverDaysModel", "owned", "[I", true)
  | 20 => ("RiverDaysModel", "readAt", "I", false)
  | 21 => ("RiverDaysModel", "readMany", "I", false)
  | 22 => ("RiverDaysModel", "readGates", "I", false)
  | 23 => ("RiverDaysModel", "readWeek", "[I", true)
  | 24 => ("RiverDaysModel", "readReach", "[I", true)
  | 25 => ("RiverDaysModel", "deedMany", "I", false)
  | 26 => ("RiverDaysModel", "notes", "[I", true)
  | 27 => ("RiverDaysModel", "isThere", "[I", true)
  | 28 => ("RiverDaysModel", "images", "[I", true)
  | 29 => ("RiverDaysModel", "aside", "[I", true)
  | 30 => ("RiverDaysModel", "flow", "[I", true)
  | 31 => ("RiverDaysModel", "groundSet", "I", false)
  | 32 => ("RiverDaysModel", "dry", "I", false)
  | 33 => ("RiverDaysModel", "sets", "[I", true)
  | 34 => ("RiverDaysModel", "setMany", "I", false)
  | _ => ("RiverDaysModel", "h0", "J", false)
def tyX10 : Nat → FieldType := fun k => match k with
  | 0 => .int
  | 1 => .array .int
  | 2 => .int
  | 3 => .long
  | 4 => .long
  | 5 => .array .int
  | 6 => .array .int
  | 7 => .array .int
  | 8 => .array .int
  | 9 => .array .int
  | 10 => .int
  | 11 => .array .int
  | 12 => .array .int
  | 13 => .array .int
  | 14 => .array .int
  | 15 => .array .int
  | 16 => .array .int
  | 17 => .array .int
  | 18 => .int
  | 19 => .array .int
  | 20 => .int
  | 21 => .int
  | 22 => .int
  | 23 => .array .int
  | 24 => .array .int
  | 25 => .int
  | 26 => .array .int
  | 27 => .array .int
  | 28 => .array .int
  | 29 => .array .int
  | 30 => .array .int
  | 31 => .int
  | 32 => .int
  | 33 => .array .int
  | 34 => .int
  | _ => .long
abbrev wsX100 : List Cond := u_ws RX10 TX10 36
theorem nmX10 : ∀ a, a < 36 → ∀ b, b < 36 → a ≠ b → (TX10 a).2.1 ≠ (TX10 b).2.1 := by decide +kernel
theorem tyX10_ok : ∀ k, k < 36 → parseFieldDescriptor (TX10 k).2.2.1 = some (tyX10 k) := by decide +kernel
abbrev cX10_init : ByteArray := prog_12_method_1_code
def yX10_init : MethodName := ⟨RX10, "<init>", "()V"⟩
abbrev cX10_in : ByteArray := prog_12_method_2_code
def yX10_in : MethodName := ⟨RX10, "in", "(III)Z"⟩
abbrev cX10_meet : ByteArray := prog_12_method_3_code
def yX10_meet : MethodName := ⟨RX10, "meet", "(I)I"⟩
abbrev cX10_ask : ByteArray := prog_12_method_4_code
def yX10_ask : MethodName := ⟨RX10, "ask", "(II)I"⟩
abbrev cX10_has : ByteArray := prog_12_method_5_code
def yX10_has : MethodName := ⟨RX10, "has", "(II)Z"⟩
abbrev cX10_greater : ByteArray := prog_12_method_6_code
def yX10_greater : MethodName := ⟨RX10, "greater", "(II)I"⟩
abbrev cX10_part : ByteArray := prog_12_method_7_code
def yX10_part : MethodName := ⟨RX10, "part", "(JJ)I"⟩
abbrev cX10_isRow : ByteArray := prog_12_method_8_code
def yX10_isRow : MethodName := ⟨RX10, "isRow", "(I)Z"⟩
abbrev cX10_isText : ByteArray := prog_12_method_9_code
def yX10_isText : MethodName := ⟨RX10, "isText", "(I)Z"⟩
abbrev cX10_askedRow : ByteArray := prog_12_method_10_code
def yX10_askedRow : MethodName := ⟨RX10, "askedRow", "(I)I"⟩
abbrev cX10_askedText : ByteArray := prog_12_method_11_code
def yX10_askedText : MethodName := ⟨RX10, "askedText", "(I)I"⟩
abbrev cX10_rowAt : ByteArray := prog_12_method_12_code
def yX10_rowAt : MethodName := ⟨RX10, "rowAt", "(II)I"⟩
abbrev cX10_setRow : ByteArray := prog_12_method_13_code
def yX10_setRow : MethodName := ⟨RX10, "setRow", "(III)V"⟩
abbrev cX10_row : ByteArray := prog_12_method_14_code
def yX10_row : MethodName := ⟨RX10, "row", "(II)I"⟩
abbrev cX10_at : ByteArray := prog_12_method_15_code
def yX10_at : MethodName := ⟨RX10, "at", "(II)I"⟩
abbrev cX10_lay : ByteArray := prog_12_method_16_code
def yX10_lay : MethodName := ⟨RX10, "lay", "(III)I"⟩
abbrev cX10_tear : ByteArray := prog_12_method_17_code
def yX10_tear : MethodName := ⟨RX10, "tear", "(I)I"⟩
abbrev cX10_copy : ByteArray := prog_12_method_18_code
def yX10_copy : MethodName := ⟨RX10, "copy", "(IIIII)I"⟩
abbrev cX10_mean : ByteArray := prog_12_method_19_code
def yX10_mean : MethodName := ⟨RX10, "mean", "(I)I"⟩
abbrev cX10_text : ByteArray := prog_12_method_20_code
def yX10_text : MethodName := ⟨RX10, "text", "(II)I"⟩
abbrev cX10_put : ByteArray := prog_12_method_21_code
def yX10_put : MethodName := ⟨RX10, "put", "(III)I"⟩
abbrev cX10_here : ByteArray := prog_12_method_22_code
def yX10_here : MethodName := ⟨RX10, "here", "(I)I"⟩
abbrev cX10_skip : ByteArray := prog_12_method_23_code
def yX10_skip : MethodName := ⟨RX10, "skip", "(I)V"⟩
abbrev cX10_figure : ByteArray := prog_12_method_24_code
def yX10_figure : MethodName := ⟨RX10, "figure", "(I[IIII)Z"⟩
abbrev cX10_readsWeek : ByteArray := prog_12_method_25_code
def yX10_readsWeek : MethodName := ⟨RX10, "readsWeek", "(IIII)Z"⟩
abbrev cX10_kindBy : ByteArray := prog_12_method_26_code
def yX10_kindBy : MethodName := ⟨RX10, "kindBy", "(I)I"⟩
abbrev cX10_isGate : ByteArray := prog_12_method_27_code
def yX10_isGate : MethodName := ⟨RX10, "isGate", "(I)Z"⟩
abbrev cX10_isMill : ByteArray := prog_12_method_28_code
def yX10_isMill : MethodName := ⟨RX10, "isMill", "(I)Z"⟩
abbrev cX10_readsReach : ByteArray := prog_12_method_29_code
def yX10_readsReach : MethodName := ⟨RX10, "readsReach", "(I)Z"⟩
abbrev cX10_readsRiver : ByteArray := prog_12_method_30_code
def yX10_readsRiver : MethodName := ⟨RX10, "readsRiver", "(I)Z"⟩
abbrev cX10_goesOn : ByteArray := prog_12_method_31_code
def yX10_goesOn : MethodName := ⟨RX10, "goesOn", "(I)I"⟩
abbrev cX10_fault : ByteArray := prog_12_method_32_code
def yX10_fault : MethodName := ⟨RX10, "fault", "(I)I"⟩
abbrev cX10_river : ByteArray := prog_12_method_33_code
def yX10_river : MethodName := ⟨RX10, "river", "(I)I"⟩
abbrev cX10_isReach : ByteArray := prog_12_method_34_code
def yX10_isReach : MethodName := ⟨RX10, "isReach", "(I)Z"⟩
abbrev cX10_isDay : ByteArray := prog_12_method_35_code
def yX10_isDay : MethodName := ⟨RX10, "isDay", "(I)Z"⟩
abbrev cX10_gateSet : ByteArray := prog_12_method_36_code
def yX10_gateSet : MethodName := ⟨RX10, "gateSet", "()I"⟩
abbrev cX10_canShut : ByteArray := prog_12_method_37_code
def yX10_canShut : MethodName := ⟨RX10, "canShut", "(I)Z"⟩
abbrev cX10_write : ByteArray := prog_12_method_38_code
def yX10_write : MethodName := ⟨RX10, "write", "([II)V"⟩
abbrev cX10_read : ByteArray := prog_12_method_39_code
def yX10_read : MethodName := ⟨RX10, "read", "([II)V"⟩
abbrev cX10_begin : ByteArray := prog_12_method_40_code
def yX10_begin : MethodName := ⟨RX10, "begin", "()V"⟩
abbrev cX10_back : ByteArray := prog_12_method_41_code
def yX10_back : MethodName := ⟨RX10, "back", "()V"⟩
abbrev cX10_runsFrom : ByteArray := prog_12_method_42_code
def yX10_runsFrom : MethodName := ⟨RX10, "runsFrom", "(II)I"⟩
abbrev cX10_grindsBy : ByteArray := prog_12_method_43_code
def yX10_grindsBy : MethodName := ⟨RX10, "grindsBy", "(II)Z"⟩
abbrev cX10_pass : ByteArray := prog_12_method_44_code
def yX10_pass : MethodName := ⟨RX10, "pass", "(I)I"⟩
abbrev cX10_groundMany : ByteArray := prog_12_method_45_code
def yX10_groundMany : MethodName := ⟨RX10, "groundMany", "()I"⟩
abbrev cX10_dayTruly : ByteArray := prog_12_method_46_code
def yX10_dayTruly : MethodName := ⟨RX10, "dayTruly", "(I)I"⟩
abbrev cX10_day : ByteArray := prog_12_method_47_code
def yX10_day : MethodName := ⟨RX10, "day", "(I)I"⟩
abbrev cX10_undo : ByteArray := prog_12_method_48_code
def yX10_undo : MethodName := ⟨RX10, "undo", "(I)I"⟩
abbrev cX10_keep : ByteArray := prog_12_method_49_code
def yX10_keep : MethodName := ⟨RX10, "keep", "(I)I"⟩
abbrev cX10_on : ByteArray := prog_12_method_50_code
def yX10_on : MethodName := ⟨RX10, "on", "(I)I"⟩
abbrev cX10_reachOf : ByteArray := prog_12_method_51_code
def yX10_reachOf : MethodName := ⟨RX10, "reachOf", "(II)I"⟩
abbrev cX10_reach : ByteArray := prog_12_method_52_code
def yX10_reach : MethodName := ⟨RX10, "reach", "(II)I"⟩
abbrev cX10_isA : ByteArray := prog_12_method_53_code
def yX10_isA : MethodName := ⟨RX10, "isA", "(II)Z"⟩
abbrev cX10_mark : ByteArray := prog_12_method_54_code
def yX10_mark : MethodName := ⟨RX10, "mark", "(II)I"⟩
abbrev cX10_weekday : ByteArray := prog_12_method_55_code
def yX10_weekday : MethodName := ⟨RX10, "weekday", "(II)I"⟩
abbrev cX10_swap : ByteArray := prog_12_method_56_code
def yX10_swap : MethodName := ⟨RX10, "swap", "(II)I"⟩
abbrev cX10_owns : ByteArray := prog_12_method_57_code
def yX10_owns : MethodName := ⟨RX10, "owns", "(I)I"⟩
abbrev cX10_gates : ByteArray := prog_12_method_58_code
def yX10_gates : MethodName := ⟨RX10, "gates", "()I"⟩
abbrev cX10_runs : ByteArray := prog_12_method_59_code
def yX10_runs : MethodName := ⟨RX10, "runs", "(I)I"⟩
abbrev cX10_askedPlan : ByteArray := prog_12_method_60_code
def yX10_askedPlan : MethodName := ⟨RX10, "askedPlan", "(II)I"⟩
abbrev cX10_sea : ByteArray := prog_12_method_61_code
def yX10_sea : MethodName := ⟨RX10, "sea", "(I)I"⟩
abbrev cX10_water : ByteArray := prog_12_method_62_code
def yX10_water : MethodName := ⟨RX10, "water", "(II)I"⟩
abbrev cX10_share : ByteArray := prog_12_method_63_code
def yX10_share : MethodName := ⟨RX10, "share", "(II)I"⟩
abbrev cX10_grinds : ByteArray := prog_12_method_64_code
def yX10_grinds : MethodName := ⟨RX10, "grinds", "(I)I"⟩
abbrev cX10_setSets : ByteArray := prog_12_method_65_code
def yX10_setSets : MethodName := ⟨RX10, "setSets", "()V"⟩
abbrev cX10_plans : ByteArray := prog_12_method_66_code
def yX10_plans : MethodName := ⟨RX10, "plans", "(I)I"⟩
abbrev cX10_setOf : ByteArray := prog_12_method_67_code
def yX10_setOf : MethodName := ⟨RX10, "setOf", "(III)I"⟩
abbrev cX10_layPlan : ByteArray := prog_12_method_68_code
def yX10_layPlan : MethodName := ⟨RX10, "layPlan", "(III)V"⟩
abbrev cX10_bits : ByteArray := prog_12_method_69_code
def yX10_bits : MethodName := ⟨RX10, "bits", "(I)I"⟩
abbrev cX10_best : ByteArray := prog_12_method_70_code
def yX10_best : MethodName := ⟨RX10, "best", "(II)I"⟩
abbrev cX10_millSet : ByteArray := prog_12_method_71_code
def yX10_millSet : MethodName := ⟨RX10, "millSet", "()I"⟩
abbrev cX10_all : ByteArray := prog_12_method_72_code
def yX10_all : MethodName := ⟨RX10, "all", "(II)I"⟩
abbrev cX10_most : ByteArray := prog_12_method_73_code
def yX10_most : MethodName := ⟨RX10, "most", "(II)I"⟩
abbrev cX10_worth : ByteArray := prog_12_method_74_code
def yX10_worth : MethodName := ⟨RX10, "worth", "(I)I"⟩
abbrev cX10_groundBy : ByteArray := prog_12_method_75_code
def yX10_groundBy : MethodName := ⟨RX10, "groundBy", "(IIII)I"⟩
abbrev cX10_duel : ByteArray := prog_12_method_76_code
def yX10_duel : MethodName := ⟨RX10, "duel", "(I)I"⟩
abbrev cX10_askedSea : ByteArray := prog_12_method_77_code
def yX10_askedSea : MethodName := ⟨RX10, "askedSea", "(I)I"⟩
abbrev cX10_comesSo : ByteArray := prog_12_method_78_code
def yX10_comesSo : MethodName := ⟨RX10, "comesSo", "(II)Z"⟩
abbrev cX10_ways : ByteArray := prog_12_method_79_code
def yX10_ways : MethodName := ⟨RX10, "ways", "(I)I"⟩
abbrev cX10_first : ByteArray := prog_12_method_80_code
def yX10_first : MethodName := ⟨RX10, "first", "(II)I"⟩
abbrev cX10_askedBook : ByteArray := prog_12_method_81_code
def yX10_askedBook : MethodName := ⟨RX10, "askedBook", "(II)I"⟩
abbrev cX10_isSo : ByteArray := prog_12_method_82_code
def yX10_isSo : MethodName := ⟨RX10, "isSo", "(IIII)Z"⟩
abbrev cX10_kinds : ByteArray := prog_12_method_83_code
def yX10_kinds : MethodName := ⟨RX10, "kinds", "(II)I"⟩
abbrev cX10_measures : ByteArray := prog_12_method_84_code
def yX10_measures : MethodName := ⟨RX10, "measures", "(II)I"⟩
abbrev cX10_shutMany : ByteArray := prog_12_method_85_code
def yX10_shutMany : MethodName := ⟨RX10, "shutMany", "(I)I"⟩
abbrev cX10_holds : ByteArray := prog_12_method_86_code
def yX10_holds : MethodName := ⟨RX10, "holds", "(III)I"⟩
abbrev cX10_power : ByteArray := prog_12_method_87_code
def yX10_power : MethodName := ⟨RX10, "power", "(JI)J"⟩
abbrev cX10_sums : ByteArray := prog_12_method_88_code
def yX10_sums : MethodName := ⟨RX10, "sums", "(III)I"⟩
abbrev cX10_mid : ByteArray := prog_12_method_89_code
def yX10_mid : MethodName := ⟨RX10, "mid", "(II)I"⟩
abbrev cX10_odds : ByteArray := prog_12_method_90_code
def yX10_odds : MethodName := ⟨RX10, "odds", "(III)I"⟩
abbrev cX10_lots : ByteArray := prog_12_method_91_code
def yX10_lots : MethodName := ⟨RX10, "lots", "(II)I"⟩
abbrev cX10_asked : ByteArray := prog_12_method_92_code
def yX10_asked : MethodName := ⟨RX10, "asked", "()I"⟩
abbrev cX10_upper : ByteArray := prog_12_method_93_code
def yX10_upper : MethodName := ⟨RX10, "upper", "()J"⟩
abbrev cX10_lower : ByteArray := prog_12_method_94_code
def yX10_lower : MethodName := ⟨RX10, "lower", "()J"⟩
abbrev cX10_there : ByteArray := prog_12_method_95_code
def yX10_there : MethodName := ⟨RX10, "there", "(I)I"⟩
abbrev cX10_tells : ByteArray := prog_12_method_96_code
def yX10_tells : MethodName := ⟨RX10, "tells", "(I)I"⟩
abbrev cX10_count : ByteArray := prog_12_method_97_code
def yX10_count : MethodName := ⟨RX10, "count", "(I)I"⟩
abbrev cX10_finding : ByteArray := prog_12_method_98_code
def yX10_finding : MethodName := ⟨RX10, "finding", "()I"⟩
abbrev cX10_findings : ByteArray := prog_12_method_99_code
def yX10_findings : MethodName := ⟨RX10, "findings", "(I)I"⟩
abbrev cX10_mix : ByteArray := prog_12_method_100_code
def yX10_mix : MethodName := ⟨RX10, "mix", "(I)V"⟩
abbrev cX10_mixRiver : ByteArray := prog_12_method_101_code
def yX10_mixRiver : MethodName := ⟨RX10, "mixRiver", "()V"⟩
abbrev cX10_digest : ByteArray := prog_12_method_102_code
def yX10_digest : MethodName := ⟨RX10, "digest", "()J"⟩
def RJ6 : String := "java/lang/Integer"
def TJ6 : u_T := fun k => match k with
  | _ => ("", "", "", false)
def tyJ6 : Nat → FieldType := fun k => match k with
  | _ => .int
abbrev wsJ60 : List Cond := u_ws RJ6 TJ6 0
theorem nmJ6 : ∀ a, a < 0 → ∀ b, b < 0 → a ≠ b → (TJ6 a).2.1 ≠ (TJ6 b).2.1 := by decide +kernel
theorem tyJ6_ok : ∀ k, k < 0 → parseFieldDescriptor (TJ6 k).2.2.1 = some (tyJ6 k) := by decide +kernel
abbrev cJ6_bitCount_0f7a4 : ByteArray := prog_13_method_49_code
def yJ6_bitCount_0f7a4 : MethodName := ⟨RJ6, "bitCount", "(I)I"⟩
def RJ9 : String := "java/lang/Math"
def TJ9 : u_T := fun k => match k with
  | _ => ("", "", "", false)
def tyJ9 : Nat → FieldType := fun k => match k with
  | _ => .int
abbrev wsJ90 : List Cond := u_ws RJ9 TJ9 0
theorem nmJ9 : ∀ a, a < 0 → ∀ b, b < 0 → a ≠ b → (TJ9 a).2.1 ≠ (TJ9 b).2.1 := by decide +kernel
theorem tyJ9_ok : ∀ k, k < 0 → parseFieldDescriptor (TJ9 k).2.2.1 = some (tyJ9 k) := by decide +kernel
abbrev cJ9_floorMod_7cf53 : ByteArray := prog_14_method_50_code
def yJ9_floorMod_7cf53 : MethodName := ⟨RJ9, "floorMod", "(II)I"⟩
abbrev cJ9_max_7cf53 : ByteArray := prog_14_method_65_code
def yJ9_max_7cf53 : MethodName := ⟨RJ9, "max", "(II)I"⟩
abbrev cJ9_min_7cf53 : ByteArray := prog_14_method_69_code
def yJ9_min_7cf53 : MethodName := ⟨RJ9, "min", "(II)I"⟩
def RJ10 : String := "java/lang/System"
def TJ10 : u_T := fun k => match k with
  | _ => ("", "", "", false)
def tyJ10 : Nat → FieldType := fun k => match k with
  | _ => .int
abbrev wsJ100 : List Cond := u_ws RJ10 TJ10 0
theorem nmJ10 : ∀ a, a < 0 → ∀ b, b < 0 → a ≠ b → (TJ10 a).2.1 ≠ (TJ10 b).2.1 := by decide +kernel
theorem tyJ10_ok : ∀ k, k < 0 → parseFieldDescriptor (TJ10 k).2.2.1 = some (tyJ10 k) := by decide +kernel
def RL : String := "RiverDaysLaw"
abbrev cL_law : ByteArray := code
def yL_law : MethodName := ⟨RL, "law", "([I)Z"⟩
end
section
/-! An abstract machine over the fixed cells of this system (no cell is made by it): values, a heap of ints, longs and references, instructions as functions. -/
abbrev AV : Type := Int32 ⊕ (Int64 ⊕ Option Nat)
abbrev iv (x : Int32) : AV := .inl x
abbrev jv (x : Int64) : AV := .inr (.inl x)
abbrev rv (o : Option Nat) : AV := .inr (.inr o)
abbrev AH : Type := (Nat → Nat → Int32) × (Nat → Nat → Int64) × (Nat → Nat → Option Nat)
abbrev LO : Type := List (Option AV)
abbrev RES : Type := AV × AH
abbrev KT : Type := Nat → LO → List AV → AH → Option RES
abbrev INS : Type := KT → LO → List AV → AH → Option RES
abbrev ORC : Type := Nat → List AV → AH → Option RES
/-- a cell's shape: an array (0 ints, 1 booleans, 2 rows of ints, 3 Deeds) with its length; an object by its class -/
abbrev SHP : Type := (Nat × Nat) ⊕ Nat
def SH : List SHP := [.inr 9, .inr 8, .inl (2, 6), .inl (0, 40), .inl (0, 40), .inl (0, 40), .inl (0, 40), .inl (0, 40), .inl (0, 40), .inl (0, 6), .inr 8, .inl (2, 4), .inl (0, 60), .inl (0, 60), .inl (0, 60), .inl (0, 60), .inl (0, 4), .inr 7, .inl (0, 60), .inr 4, .inl (0, 6), .inl (0, 6), .inl (0, 6), .inl (0, 7), .inl (0, 6), .inr 3, .inl (0, 40), .inl (0, 40), .inl (3, 3), .inr 3, .inl (0, 40), .inl (0, 40), .inr 3, .inl (0, 40), .inl (0, 40), .inr 3, .inl (0, 40), .inl (0, 40), .inl (1, 3), .inr 0, .inl (0, 7), .inl (2, 5), .inl (0, 6), .inl (0, 6), .inl (0, 6), .inl (0, 6), .inl (0, 6), .inl (0, 6), .inr 5, .inl (0, 4), .inl (0, 4), .inl (0, 4), .inr 0, .inl (0, 7), .inl (2, 5), .inl (0, 6), .inl (0, 6), .inl (0, 6), .inl (0, 6), .inl (0, 6), .inl (0, 6), .inr 1, .inl (0, 4), .inr 0, .inl (0, 7), .inl (2, 5), .inl (0, 6), .inl (0, 6), .inl (0, 6), .inl (0, 6), .inl (0, 6), .inl (0, 6), .inl (0, 6), .inr 2, .inl (0, 6), .inl (0, 6), .inl (0, 6), .inl (0, 7), .inl (0, 7), .inl (0, 8), .inr 2, .inl (0, 6), .inl (0, 6), .inl (0, 6), .inl (0, 7), .inl (0, 7), .inl (0, 8), .inr 10, .inl (0, 6), .inl (0, 6), .inl (0, 240), .inl (0, 40), .inl (0, 4), .inl (0, 240), .inl (0, 7), .inl (0, 7), .inl (0, 6), .inl (0, 6), .inl (0, 6), .inl (0, 6), .inl (0, 6), .inl (0, 7), .inl (0, 14), .inl (0, 18), .inl (0, 1080), .inl (0, 3), .inl (0, 3321), .inl (0, 27), .inl (0, 6), .inl (0, 8)]
/-- lists read by place, without proofs -/
def lgt {α : Type} : List α → Nat → Option α
  | [], _ => none
  | a :: _, 0 => some a
  | _ :: t, n + 1 => lgt t n
def alO (a : Nat) : Option Nat := match lgt SH a with
  | some (.inl x) => some x.2
  | _ => none
def alen (t a : Nat) : Nat := match lgt SH a with
  | some (.inl x) => bif Nat.beq x.1 t then x.2 else 0
  | _ => 0
def okc (a ci : Nat) : Bool := match lgt SH a with
  | some (.inr c) => Nat.beq c ci
  | _ => false
def inb (i : Int32) (n : Nat) : Bool := !(decide (i < 0)) && decide (i.toNatClampNeg < n)
def wrC {α : Type} (I : Nat → Nat → α) (a : Nat) (f : Nat → α) : Nat → Nat → α := fun b => if b = a then f else I b
def up1 {α : Type} (f : Nat → α) (k : Nat) (x : α) : Nat → α := fun j => if j = k then x else f j
def wr {α : Type} (I : Nat → Nat → α) (a i : Nat) (v : α) : Nat → Nat → α := wrC I a (up1 (I a) i v)
def lg : LO → Nat → Option AV
  | [], _ => none
  | a :: _, 0 => a
  | _ :: t, n + 1 => lg t n
def lst : LO → Nat → Option AV → LO
  | [], _, _ => []
  | _ :: t, 0, v => v :: t
  | a :: t, n + 1, v => a :: lst t n v
def lkill (L : LO) : Nat → LO
  | 0 => L
  | j + 1 => match lg L j with
    | some (.inr (.inl _)) => lst L j none
    | _ => L
def ls1 (L : LO) (i : Nat) (v : AV) : LO := lst (lkill L i) i (some v)
def ls2 (L : LO) (i : Nat) (v : AV) : LO := lst (lst (lkill L i) i (some v)) (i + 1) none
def cat : AV → Nat
  | .inr (.inl _) => 2
  | _ => 1
def cats : List AV → Nat
  | [] => 0
  | a :: t => cat a + cats t
-- the typed answers of a call
def cI (o : ORC) (y : Nat) (as : List AV) (A : AH) : Option (Int32 × AH) := match o y as A with
  | some (.inl x, B) => some (x, B)
  | _ => none
def cJ (o : ORC) (y : Nat) (as : List AV) (A : AH) : Option (Int64 × AH) := match o y as A with
  | some (.inr (.inl x), B) => some (x, B)
  | _ => none
def cV (o : ORC) (y : Nat) (as : List AV) (A : AH) : Option AH := match o y as A with
  | some (.inr (.inr none), B) => some B
  | _ => none
def rcv (as : List AV) (ci : Nat) : Bool := match as with
  | .inr (.inr (some b)) :: _ => okc b ci
  | _ => false
-- instructions (nx: the next place)
def x_const (v : AV) (nx : Nat) : INS := fun k L st A => k nx L (v :: st) A
def x_iload (i nx : Nat) : INS := fun k L st A => match lg L i with
  | some (.inl x) => k nx L (iv x :: st) A
  | _ => none
def x_lload (i nx : Nat) : INS := fun k L st A => match lg L i with
  | some (.inr (.inl x)) => k nx L (jv x :: st) A
  | _ => none
def x_aload (i nx : Nat) : INS := fun k L st A => match lg L i with
  | some (.inr (.inr x)) => k nx L (rv x :: st) A
  | _ => none
def x_istore (i nx : Nat) : INS := fun k L st A => match st with
  | .inl x :: r => k nx (ls1 L i (iv x)) r A
  | _ => none
def x_lstore (i nx : Nat) : INS := fun k L st A => match st with
  | .inr (.inl x) :: r => k nx (ls2 L i (jv x)) r A
  | _ => none
def x_astore (i nx : Nat) : INS := fun k L st A => match st with
  | .inr (.inr x) :: r => k nx (ls1 L i (rv x)) r A
  | _ => none
def x_iinc (i : Nat) (n : Int32) (nx : Nat) : INS := fun k L st A => match lg L i with
  | some (.inl x) => k nx (ls1 L i (iv (x + n))) st A
  | _ => none
def x_bin (f : Int32 → Int32 → Int32) (nx : Nat) : INS := fun k L st A => match st with
  | .inl y :: .inl x :: r => k nx L (iv (f x y) :: r) A
  | _ => none
def x_dv (f : Int32 → Int32 → Int32) (nx : Nat) : INS := fun k L st A => match st with
  | .inl y :: .inl x :: r => if y = 0 then none else k nx L (iv (f x y) :: r) A
  | _ => none
def x_binl (f : Int64 → Int64 → Int64) (nx : Nat) : INS := fun k L st A => match st with
  | .inr (.inl y) :: .inr (.inl x) :: r => k nx L (jv (f x y) :: r) A
  | _ => none
def x_dvl (f : Int64 → Int64 → Int64) (nx : Nat) : INS := fun k L st A => match st with
  | .inr (.inl y) :: .inr (.inl x) :: r => if y = 0 then none else k nx L (jv (f x y) :: r) A
  | _ => none
def x_lcmp (nx : Nat) : INS := fun k L st A => match st with
  | .inr (.inl y) :: .inr (.inl x) :: r => k nx L (iv (lg_cmp x y) :: r) A
  | _ => none
def x_un (f : Int32 → Int32) (nx : Nat) : INS := fun k L st A => match st with
  | .inl x :: r => k nx L (iv (f x) :: r) A
  | _ => none
def x_i2l (nx : Nat) : INS := fun k L st A => match st with
  | .inl x :: r => k nx L (jv x.toInt64 :: r) A
  | _ => none
def x_l2i (nx : Nat) : INS := fun k L st A => match st with
  | .inr (.inl x) :: r => k nx L (iv x.toInt32 :: r) A
  | _ => none
def x_dup (nx : Nat) : INS := fun k L st A => match st with
  | .inl x :: r => k nx L (iv x :: iv x :: r) A
  | .inr (.inr x) :: r => k nx L (rv x :: rv x :: r) A
  | _ => none
def x_pop (nx : Nat) : INS := fun k L st A => match st with
  | .inl _ :: r => k nx L r A
  | .inr (.inr _) :: r => k nx L r A
  | _ => none
def x_dup2 (nx : Nat) : INS := fun k L st A => match st with
  | .inl i :: .inr (.inr o) :: r => k nx L (iv i :: rv o :: iv i :: rv o :: r) A
  | _ => none
def x_goto (tgt : Nat) : INS := fun k L st A => k tgt L st A
def x_ifeq (tgt nx : Nat) : INS := fun k L st A => match st with
  | .inl x :: r => if x = 0 then k tgt L r A else k nx L r A
  | _ => none
def x_ifne (tgt nx : Nat) : INS := fun k L st A => match st with
  | .inl x :: r => if x = 0 then k nx L r A else k tgt L r A
  | _ => none
def x_iflt (tgt nx : Nat) : INS := fun k L st A => match st with
  | .inl x :: r => if x < 0 then k tgt L r A else k nx L r A
  | _ => none
def x_ifge (tgt nx : Nat) : INS := fun k L st A => match st with
  | .inl x :: r => if 0 ≤ x then k tgt L r A else k nx L r A
  | _ => none
def x_ifgt (tgt nx : Nat) : INS := fun k L st A => match st with
  | .inl x :: r => if 0 < x then k tgt L r A else k nx L r A
  | _ => none
def x_ifle (tgt nx : Nat) : INS := fun k L st A => match st with
  | .inl x :: r => if x ≤ 0 then k tgt L r A else k nx L r A
  | _ => none
def x_ceq (tgt nx : Nat) : INS := fun k L st A => match st with
  | .inl y :: .inl x :: r => if x = y then k tgt L r A else k nx L r A
  | _ => none
def x_cne (tgt nx : Nat) : INS := fun k L st A => match st with
  | .inl y :: .inl x :: r => if x = y then k nx L r A else k tgt L r A
  | _ => none
def x_clt (tgt nx : Nat) : INS := fun k L st A => match st with
  | .inl y :: .inl x :: r => if x < y then k tgt L r A else k nx L r A
  | _ => none
def x_cge (tgt nx : Nat) : INS := fun k L st A => match st with
  | .inl y :: .inl x :: r => if y ≤ x then k tgt L r A else k nx L r A
  | _ => none
def x_cgt (tgt nx : Nat) : INS := fun k L st A => match st with
  | .inl y :: .inl x :: r => if y < x then k tgt L r A else k nx L r A
  | _ => none
def x_cle (tgt nx : Nat) : INS := fun k L st A => match st with
  | .inl y :: .inl x :: r => if x ≤ y then k tgt L r A else k nx L r A
  | _ => none
def x_ifnull (tgt nx : Nat) : INS := fun k L st A => match st with
  | .inr (.inr o) :: r => match o with
    | none => k tgt L r A
    | some _ => k nx L r A
  | _ => none
def swk (k : Nat → Option RES) (x : Int32) (d : Nat) : List (Int32 × Nat) → Option RES
  | [] => k d
  | c :: cs => if x = c.1 then k c.2 else swk k x d cs
def x_sw (cs : List (Int32 × Nat)) (d : Nat) : INS := fun k L st A => match st with
  | .inl x :: r => swk (fun t => k t L r A) x d cs
  | _ => none
def x_getI (ci j nx : Nat) : INS := fun k L st A => match st with
  | .inr (.inr o) :: r => o.bind fun a => if okc a ci then k nx L (iv (A.1 a j) :: r) A else none
  | _ => none
def x_getJ (ci j nx : Nat) : INS := fun k L st A => match st with
  | .inr (.inr o) :: r => o.bind fun a => if okc a ci then k nx L (jv (A.2.1 a j) :: r) A else none
  | _ => none
def x_getR (ci j nx : Nat) : INS := fun k L st A => match st with
  | .inr (.inr o) :: r => o.bind fun a => if okc a ci then k nx L (rv (A.2.2 a j) :: r) A else none
  | _ => none
def x_putI (ci j nx : Nat) : INS := fun k L st A => match st with
  | .inl v :: .inr (.inr o) :: r => o.bind fun a => if okc a ci then k nx L r (wr A.1 a j v, A.2.1, A.2.2) else none
  | _ => none
def x_putJ (ci j nx : Nat) : INS := fun k L st A => match st with
  | .inr (.inl v) :: .inr (.inr o) :: r => o.bind fun a => if okc a ci then k nx L r (A.1, wr A.2.1 a j v, A.2.2) else none
  | _ => none
def x_putR (ci j nx : Nat) : INS := fun k L st A => match st with
  | .inr (.inr v) :: .inr (.inr o) :: r => o.bind fun a => if okc a ci then k nx L r (A.1, A.2.1, wr A.2.2 a j v) else none
  | _ => none
def x_ald (t nx : Nat) : INS := fun k L st A => match st with
  | .inl i :: .inr (.inr o) :: r => o.bind fun a => if inb i (alen t a) then k nx L (iv (A.1 a i.toNatClampNeg) :: r) A else none
  | _ => none
def x_aald (t nx : Nat) : INS := fun k L st A => match st with
  | .inl i :: .inr (.inr o) :: r => o.bind fun a => if inb i (alen t a) then k nx L (rv (A.2.2 a i.toNatClampNeg) :: r) A else none
  | _ => none
def x_iast (nx : Nat) : INS := fun k L st A => match st with
  | .inl v :: .inl i :: .inr (.inr o) :: r => o.bind fun a => if inb i (alen 0 a) then k nx L r (wr A.1 a i.toNatClampNeg v, A.2.1, A.2.2) else none
  | _ => none
def x_zast (nx : Nat) : INS := fun k L st A => match st with
  | .inl v :: .inl i :: .inr (.inr o) :: r => o.bind fun a => if inb i (alen 1 a) then k nx L r (wr A.1 a i.toNatClampNeg (vp_nar .boolean v), A.2.1, A.2.2) else none
  | _ => none
def x_alen (nx : Nat) : INS := fun k L st A => match st with
  | .inr (.inr o) :: r => o.bind fun a => (alO a).bind fun n => k nx L (iv (nI n) :: r) A
  | _ => none
def okcp (s d : Nat) (sp dp n : Int32) : Bool := decide (¬ sp < 0) && decide (¬ dp < 0) && decide (¬ n < 0) && decide (sp.toNatClampNeg + n.toNatClampNeg ≤ alen 0 s) && decide (dp.toNatClampNeg + n.toNatClampNeg ≤ alen 0 d) && decide (0 < alen 0 s) && decide (0 < alen 0 d)
def x_copy (nx : Nat) : INS := fun k L st A => match st with
  | .inl n :: .inl dp :: .inr (.inr q) :: .inl sp :: .inr (.inr o) :: r => o.bind fun s => q.bind fun d => if okcp s d sp dp n then (bif Nat.ble (cats r) 8 then k nx L r (wrC A.1 d (va_cpy (A.1 s) (A.1 d) sp.toNatClampNeg dp.toNatClampNeg n.toNatClampNeg), A.2.1, A.2.2) else none) else none
  | _ => none
def okst (n : Nat) (st : List AV) : Bool := Nat.ble n st.length && Nat.ble (cats (st.drop n)) 8
def x_sI (o : ORC) (y n nx : Nat) : INS := fun k L st A => bif okst n st then (cI o y (st.take n).reverse A).bind fun r => k nx L (iv r.1 :: st.drop n) r.2 else none
def x_sJ (o : ORC) (y n nx : Nat) : INS := fun k L st A => bif okst n st then (cJ o y (st.take n).reverse A).bind fun r => k nx L (jv r.1 :: st.drop n) r.2 else none
def x_vI (o : ORC) (y ci n nx : Nat) : INS := fun k L st A => bif okst n st then (if rcv (st.take n).reverse ci then (cI o y (st.take n).reverse A).bind fun r => k nx L (iv r.1 :: st.drop n) r.2 else none) else none
def x_vJ (o : ORC) (y ci n nx : Nat) : INS := fun k L st A => bif okst n st then (if rcv (st.take n).reverse ci then (cJ o y (st.take n).reverse A).bind fun r => k nx L (jv r.1 :: st.drop n) r.2 else none) else none
def x_vV (o : ORC) (y ci n nx : Nat) : INS := fun k L st A => bif okst n st then (if rcv (st.take n).reverse ci then (cV o y (st.take n).reverse A).bind fun B => k nx L (st.drop n) B else none) else none
def x_iret : INS := fun _ _ st A => match st with
  | [.inl x] => some (iv x, A)
  | _ => none
def x_zret : INS := fun _ _ st A => match st with
  | [.inl x] => if x = 1 then some (iv 1, A) else if x = 0 then some (iv 0, A) else none
  | _ => none
def x_lret : INS := fun _ _ st A => match st with
  | [.inr (.inl x)] => some (jv x, A)
  | _ => none
def x_vret : INS := fun _ _ st A => match st with
  | [] => some (rv none, A)
  | _ => none
-- code, and its runs
abbrev COD : Type := List (Nat × List (Nat × INS))
def lk1 (pc : Nat) : List (Nat × INS) → Option INS
  | [] => none
  | c :: cs => bif Nat.beq c.1 pc then some c.2 else lk1 pc cs
def lk (pc : Nat) : COD → Option INS
  | [] => none
  | c :: cs => bif Nat.blt pc c.1 then lk1 pc c.2 else lk pc cs
def elem (n : Nat) : List Nat → Bool
  | [] => false
  | c :: cs => bif Nat.beq c n then true else elem n cs
def run (C : COD) (cuts : List Nat) (K : Nat → LO → AH → Option RES) : Nat → KT
  | 0 => fun _ _ _ _ => none
  | f + 1 => fun pc L st A => bif elem pc cuts then (match st with
      | [] => K pc L A
      | _ => none) else match lk pc C with
    | some i => i (run C cuts K f) L st A
    | none => none
def exec (C : COD) (cuts : List Nat) : Nat → Nat → LO → AH → Option RES
  | 0 => fun _ _ _ => none
  | N + 1 => fun pc L A => match lk pc C with
    | some i => i (run C cuts (exec C cuts N) 400) L [] A
    | none => none
/-- the locals at the entry -/
def ent : List AV → LO
  | [] => []
  | .inr (.inl x) :: t => some (jv x) :: none :: ent t
  | a :: t => some a :: ent t
def padL (n : Nat) (L : LO) : LO := L ++ List.replicate (n - L.length) none
end
section
/-! The abstract machine's soundness: each instruction, by the kit's rows. -/
def GW : List Cond := lw_tbl.filter goodWord
def TYS : Nat → FieldType
  | 0 => .int
  | 1 => .boolean
  | 2 => .array .int
  | _ => .object "RiverDays$Deeds"
def CLS : List vw_C := [(RX0, TX0, 9), (RX1, TX1, 8), (RX2, TX2, 10), (RX3, TX3, 3), (RX4, TX4, 5), (RX5, TX5, 10), (RX6, TX6, 0), (RX7, TX7, 3), (RX8, TX8, 3), (RX9, TX9, 17), (RX10, TX10, 36)]
/-- a class's fields: 0 int, 1 long, 2 reference -/
def FK : List (List Nat) := [[0, 0, 0, 0, 0, 2, 0, 2, 2], [2, 1, 1, 1, 0, 0, 0, 2], [0, 0, 0, 0, 2, 2, 2, 2, 2, 2], [0, 2, 2], [2, 2, 2, 2, 2], [2, 2, 0, 0, 0, 0, 0, 0, 2, 2], [], [2, 0, 0], [0, 2, 2], [2, 2, 2, 2, 2, 2, 2, 2, 2, 2, 2, 2, 2, 0, 0, 1, 1], [0, 2, 0, 1, 1, 2, 2, 2, 2, 2, 0, 2, 2, 2, 2, 2, 2, 2, 0, 2, 0, 0, 0, 2, 2, 0, 2, 2, 2, 2, 2, 0, 0, 2, 0, 1]]
abbrev LAM : Type := Nat → Nat × ClassId
def adr (Λ : LAM) (o : Option Nat) : Option Nat := o.map (fun a => (Λ a).1)
def cv (Λ : LAM) : AV → Value
  | .inl x => .int x
  | .inr (.inl x) => .long x
  | .inr (.inr o) => va_rf (adr Λ o)
def fldv (Λ : LAM) (A : AH) (k j : Nat) : Nat → Value
  | 0 => .int (A.1 k j)
  | 1 => .long (A.2.1 k j)
  | _ => va_rf (adr Λ (A.2.2 k j))
def flds (Λ : LAM) (A : AH) (k ci : Nat) : List Value := ((lgt FK ci).getD []).mapIdx (fun j t => fldv Λ A k j t)
def cellOf (Λ : LAM) (A : AH) (k : Nat) : SHP → va_E
  | .inl x => .inl ((Λ k).2, x.2, bif Nat.ble x.1 1 then .inl (A.1 k) else .inr (.inr (.inr (.inr (fun i => adr Λ (A.2.2 k i))))))
  | .inr ci => .inr (ci, flds Λ A k ci)
def WD (Λ : LAM) (A : AH) : va_W := SH.mapIdx (fun k s => ((Λ k).1, cellOf Λ A k s))
theorem lgt_eq {α : Type} : ∀ (l : List α) (n : Nat), lgt l n = l[n]?
  | [], n => by simp [lgt]
  | a :: t, 0 => by simp [lgt]
  | a :: t, n + 1 => by simp [lgt, lgt_eq t n]
theorem WD_at {Λ : LAM} {A : AH} {k : Nat} {s : SHP} (h : lgt SH k = some s) : (WD Λ A)[k]? = some ((Λ k).1, cellOf Λ A k s) := by
  rw [lgt_eq] at h
  simp [WD, List.getElem?_mapIdx, h]
theorem WD_set {Λ : LAM} {A B : AH} {a : Nat} {s : SHP} (h : lgt SH a = some s) (hk : ∀ k s', k ≠ a → cellOf Λ B k s' = cellOf Λ A k s') : (WD Λ A).set a ((Λ a).1, cellOf Λ B a s) = WD Λ B := by
  rw [lgt_eq] at h
  apply List.ext_getElem?
  intro k
  by_cases e : k = a
  · subst e
    have hl := (List.getElem?_eq_some_iff.mp h).1
    rw [List.getElem?_set_self (by simpa [WD] using hl)]
    simp [WD, List.getElem?_mapIdx, h]
  · rw [List.getElem?_set_ne (Ne.symm e)]
    simp only [WD, List.getElem?_mapIdx]
    cases hs : SH[k]? with
    | none => rfl
    | some s' => simp [hk k s' e]
theorem WD_D {Λ : LAM} {A B : AH} {F G : Nat → Prop} (h : va_D F (WD Λ A)) (hg : ∀ q, F q → G q) : va_D G (WD Λ B) := by
  have key : ∀ (k : Nat) (q : Nat × va_E), (WD Λ B)[k]? = some q → ∃ q', (WD Λ A)[k]? = some q' ∧ q'.1 = q.1 := by
    intro k q hq
    simp only [WD, List.getElem?_mapIdx] at hq ⊢
    cases hs : SH[k]? with
    | none => rw [hs] at hq; cases hq
    | some s' => rw [hs] at hq; cases hq; exact ⟨_, rfl, rfl⟩
  refine ⟨fun i j x y hi hj hxy => ?_, fun k q hk => ?_⟩
  · obtain ⟨x', h1, h2⟩ := key i x hi
    obtain ⟨y', h3, h4⟩ := key j y hj
    exact h.1 i j x' y' h1 h3 (h2.trans (hxy.trans h4.symm))
  · obtain ⟨q', h1, h2⟩ := key k q hk
    rw [← h2]
    exact hg _ (h.2 k q' h1)
theorem wrC_s {α : Type} {I : Nat → Nat → α} {a : Nat} {f : Nat → α} : wrC I a f a = f := if_pos rfl
theorem wrC_n {α : Type} {I : Nat → Nat → α} {a b : Nat} {f : Nat → α} (h : b ≠ a) : wrC I a f b = I b := if_neg h
-- facts of the tables that stay
def NW (U : State) : Prop := va_Nw (.methodLinkNest "RiverDays$Flow" 50 yX9_isVillage "RiverDays") U ∧ va_Nw (.methodLinkNest "RiverDays$Aside" 62 yX9_isVillage "RiverDays") U
def KD (D : va_G) (Λ : LAM) (U : State) : Prop := va_K D CLS [] U ∧ (∀ k t n, lgt SH k = some (.inl (t, n)) → va_K D CLS [((Λ k).2, TYS t)] U) ∧ NW U
theorem KD.warm {D : va_G} {Λ : LAM} {s U : State} (hW : s.WarmedH U.vm) (h : KD D Λ s) : KD D Λ U := ⟨va_K.moved hW.alike h.1, fun k t n e => va_K.moved hW.alike (h.2.1 k t n e), va_Nw.warmM hW h.2.2.1, va_Nw.warmM hW h.2.2.2⟩
theorem KD.call {D : va_G} {Λ : LAM} {U : State} {g : JFrame} {mk : MethodId} {a : Array Value} (h : KD D Λ U) : KD D Λ (U.calling g mk a) := ⟨va_K.moved (u := U) (U := U.calling g mk a) (Vm.Alike.refl U.vm) h.1, fun k t n e => va_K.moved (u := U) (U := U.calling g mk a) (Vm.Alike.refl U.vm) (h.2.1 k t n e), va_Nw.same rfl rfl h.2.2.1, va_Nw.same rfl rfl h.2.2.2⟩
-- locals
def LH (Λ : LAM) (ls : Array Slot) (nL : Nat) (L : LO) : Prop := ls.size = nL ∧ lv_wf ls ∧ ∀ (i : Nat) (v : AV), lg L i = some v → ls[i]? = some (.val (cv Λ v))
def tl (Λ : LAM) : Nat → LO → List (Nat × Value)
  | _, [] => []
  | n, none :: t => tl Λ (n + 1) t
  | n, some v :: t => (n, cv Λ v) :: tl Λ (n + 1) t
theorem tl_mem {Λ : LAM} : ∀ (L : LO) (n i : Nat) (v : AV), lg L i = some v → (n + i, cv Λ v) ∈ tl Λ n L
  | [], _, _, _, h => by simp [lg] at h
  | none :: t, n, 0, v, h => by simp [lg] at h
  | some w :: t, n, 0, v, h => by
    have e : w = v := by simpa [lg] using h
    subst e
    exact List.mem_cons_self
  | none :: t, n, i + 1, v, h => by
    have := tl_mem (Λ := Λ) t (n + 1) i v h
    rw [show n + (i + 1) = n + 1 + i by omega]
    exact this
  | some w :: t, n, i + 1, v, h => by
    have := tl_mem (Λ := Λ) t (n + 1) i v h
    rw [show n + (i + 1) = n + 1 + i by omega]
    exact List.mem_cons_of_mem _ this
theorem tl_of {Λ : LAM} : ∀ (L : LO) (n : Nat) (q : Nat × Value), q ∈ tl Λ n L → ∃ (i : Nat) (v : AV), q = (n + i, cv Λ v) ∧ lg L i = some v
  | [], _, _, h => by cases h
  | none :: t, n, q, h => by
    obtain ⟨i, v, e, hl⟩ := tl_of t (n + 1) q h
    exact ⟨i + 1, v, by rw [e, show n + 1 + i = n + (i + 1) by omega], hl⟩
  | some w :: t, n, q, h => by
    rcases List.mem_cons.mp h with h | h
    · exact ⟨0, w, h, rfl⟩
    · obtain ⟨i, v, e, hl⟩ := tl_of t (n + 1) q h
      exact ⟨i + 1, v, by rw [e, show n + 1 + i = n + (i + 1) by omega], hl⟩
theorem LH.to {Λ : LAM} {ls : Array Slot} {nL : Nat} {L : LO} (h : LH Λ ls nL L) : lv_has ls nL (tl Λ 0 L) := ⟨h.1, h.2.1, fun q hq => by
  obtain ⟨i, v, e, hl⟩ := tl_of L 0 q hq
  rw [e, Nat.zero_add]
  exact h.2.2 i v hl⟩
theorem lg_lst : ∀ (L : LO) (i j : Nat) (x : Option AV), lg (lst L i x) j = if j = i ∧ i < L.length then x else lg L j
  | [], i, j, x => by simp [lst, lg]
  | a :: t, 0, 0, x => by simp [lst, lg]
  | a :: t, 0, j + 1, x => by simp [lst, lg]
  | a :: t, i + 1, 0, x => by simp [lst, lg]
  | a :: t, i + 1, j + 1, x => by simp [lst, lg, lg_lst t i j x]
theorem lg_kill {L : LO} {i j : Nat} {v : AV} (h : lg (lkill L i) j = some v) : lg L j = some v ∧ ¬ (j + 1 = i ∧ cat v = 2) := by
  cases i with
  | zero => exact ⟨h, by omega⟩
  | succ i =>
    by_cases e : j = i
    · subst e
      have h' := h
      simp only [lkill] at h'
      split at h'
      · next x hx =>
        rw [lg_lst] at h'
        split at h'
        · cases h'
        · next hn =>
          rw [h'] at hx
          exact absurd ⟨rfl, by
            rcases Nat.lt_or_ge j L.length with q | q
            · exact q
            · exfalso
              have : ∀ (L : LO) (j : Nat), L.length ≤ j → lg L j = none := by
                intro L
                induction L with
                | nil => intro j _; simp [lg]
                | cons a t ih => intro j hj; cases j with
                  | zero => simp at hj
                  | succ j => exact ih j (by simpa using hj)
              rw [this L j q] at h'
              cases h'⟩ hn
      · next hx =>
        refine ⟨h', fun q => ?_⟩
        match v, q.2, h' with
        | .inr (.inl x), _, h' => exact hx x h'
    · refine ⟨?_, fun q => e (by omega)⟩
      simp only [lkill] at h
      split at h
      · rw [lg_lst, if_neg (fun q => e q.1)] at h
        exact h
      · exact h
theorem cv_cat (Λ : LAM) (v : AV) : (cv Λ v).category = cat v := by
  rcases v with x | x | (_ | x) <;> rfl
theorem LH.st1 {Λ : LAM} {ls : Array Slot} {nL : Nat} {L : LO} {i : Nat} {v : AV} (h : lv_has ls nL ((i, cv Λ v) :: (tl Λ 0 L).filter (fun q => !(q.1 == i) && !(q.1 + 1 == i && q.2.category == 2)))) : LH Λ ls nL (ls1 L i v) := by
  refine ⟨h.1, h.2.1, fun j w hj => ?_⟩
  rw [ls1, lg_lst] at hj
  split at hj
  · next e =>
    cases hj
    rw [e.1]
    exact h.2.2 _ List.mem_cons_self
  · next e =>
    obtain ⟨h1, h2⟩ := lg_kill hj
    by_cases eji : j = i
    · exfalso
      subst eji
      have hlen : (lkill L j).length = L.length := by
        have hl : ∀ (L : LO) (i : Nat) (x : Option AV), (lst L i x).length = L.length := by
          intro L
          induction L with
          | nil => intro i x; rfl
          | cons a t ih => intro i x; cases i with
            | zero => rfl
            | succ i => simp [lst, ih]
        cases j with
        | zero => rfl
        | succ j =>
          simp only [lkill]
          split
          · exact hl _ _ _
          · rfl
      have hno : ∀ (L : LO) (j : Nat), L.length ≤ j → lg L j = none := by
        intro L
        induction L with
        | nil => intro j _; simp [lg]
        | cons a t ih => intro j hj; cases j with
          | zero => simp at hj
          | succ j => exact ih j (by simpa using hj)
      have : lg (lkill L j) j = none := hno _ _ (by
        rcases Nat.lt_or_ge j (lkill L j).length with q | q
        · exact absurd ⟨rfl, q⟩ e
        · exact q)
      rw [this] at hj
      cases hj
    · have hm := tl_mem (Λ := Λ) L 0 j w h1
      rw [Nat.zero_add] at hm
      refine h.2.2 (j, cv Λ w) (List.mem_cons_of_mem _ (List.mem_filter.mpr ⟨hm, ?_⟩))
      simp only [Bool.and_eq_true, Bool.not_eq_true', beq_eq_false_iff_ne, ne_eq, Bool.and_eq_false_iff]
      refine ⟨eji, ?_⟩
      by_cases e2 : j + 1 = i
      · right
        rw [cv_cat]
        exact fun q => h2 ⟨e2, q⟩
      · left
        exact e2
theorem LH.st2 {Λ : LAM} {ls : Array Slot} {nL : Nat} {L : LO} {i : Nat} {v : AV} (h : lv_has ls nL ((i, cv Λ v) :: (tl Λ 0 L).filter (fun q => !(q.1 == i) && (!(q.1 == i + 1) && !(q.1 + 1 == i && q.2.category == 2))))) : LH Λ ls nL (ls2 L i v) := by
  refine ⟨h.1, h.2.1, fun j w hj => ?_⟩
  rw [ls2, lg_lst] at hj
  have hl : ∀ (L : LO) (i : Nat) (x : Option AV), (lst L i x).length = L.length := by
    intro L
    induction L with
    | nil => intro i x; rfl
    | cons a t ih => intro i x; cases i with
      | zero => rfl
      | succ i => simp [lst, ih]
  have hno : ∀ (L : LO) (j : Nat), L.length ≤ j → lg L j = none := by
    intro L
    induction L with
    | nil => intro j _; simp [lg]
    | cons a t ih => intro j hj; cases j with
      | zero => simp at hj
      | succ j => exact ih j (by simpa using hj)
  split at hj
  · cases hj
  · next e1 =>
    have n1 : j ≠ i + 1 := by
      intro q
      subst q
      rw [hno _ _ (by
        rcases Nat.lt_or_ge (i + 1) (lst (lkill L i) i (some v)).length with z | z
        · exact absurd ⟨rfl, z⟩ e1
        · exact z)] at hj
      cases hj
    rw [lg_lst] at hj
    split at hj
    · next e =>
      cases hj
      rw [e.1]
      exact h.2.2 _ List.mem_cons_self
    · next e =>
      have n2 : j ≠ i := by
        intro q
        subst q
        rw [hno _ _ (by
          rcases Nat.lt_or_ge j (lkill L j).length with z | z
          · exact absurd ⟨rfl, z⟩ e
          · exact z)] at hj
        cases hj
      obtain ⟨h1, h2⟩ := lg_kill hj
      have hm := tl_mem (Λ := Λ) L 0 j w h1
      rw [Nat.zero_add] at hm
      refine h.2.2 (j, cv Λ w) (List.mem_cons_of_mem _ (List.mem_filter.mpr ⟨hm, ?_⟩))
      simp only [Bool.and_eq_true, Bool.not_eq_true', beq_eq_false_iff_ne, ne_eq, Bool.and_eq_false_iff]
      refine ⟨n2, n1, ?_⟩
      by_cases e2 : j + 1 = i
      · right
        rw [cv_cat]
        exact fun q => h2 ⟨e2, q⟩
      · left
        exact e2
theorem ent_args {Λ : LAM} : ∀ (as : List AV) (n i : Nat) (v : AV), lg (ent as) i = some v → (n + i, cv Λ v) ∈ lv_args n (as.map (cv Λ))
  | [], _, _, _, h => by simp [ent, lg] at h
  | .inl x :: t, n, 0, v, h => by
    have e : Sum.inl x = v := by simpa [ent, lg] using h
    subst e
    exact List.mem_cons_self
  | .inr (.inr x) :: t, n, 0, v, h => by
    have e : Sum.inr (Sum.inr x) = v := by simpa [ent, lg] using h
    subst e
    exact List.mem_cons_self
  | .inr (.inl x) :: t, n, 0, v, h => by
    have e : Sum.inr (Sum.inl x) = v := by simpa [ent, lg] using h
    subst e
    exact List.mem_cons_self
  | .inl x :: t, n, i + 1, v, h => by
    have := ent_args (Λ := Λ) t (n + 1) i v h
    rw [show n + (i + 1) = n + 1 + i by omega]
    exact List.mem_cons_of_mem _ this
  | .inr (.inr x) :: t, n, i + 1, v, h => by
    have := ent_args (Λ := Λ) t (n + 1) i v h
    rw [show n + (i + 1) = n + 1 + i by omega]
    refine List.mem_cons_of_mem _ ?_
    rw [if_neg (by rw [cv_cat]; simp [cat])]
    exact this
  | .inr (.inl x) :: t, n, 1, v, h => by simp [ent, lg] at h
  | .inr (.inl x) :: t, n, i + 2, v, h => by
    have := ent_args (Λ := Λ) t (n + 2) i v h
    rw [show n + (i + 2) = n + 2 + i by omega]
    exact List.mem_cons_of_mem _ this
theorem lg_pad (n : Nat) : ∀ (L : LO) (i : Nat) (v : AV), lg (padL n L) i = some v → lg L i = some v := by
  have hr : ∀ (k i : Nat) (v : AV), lg (List.replicate k (none : Option AV)) i ≠ some v := by
    intro k
    induction k with
    | zero => intro i v; simp [lg]
    | succ k ih => intro i v; cases i with
      | zero => simp [List.replicate_succ, lg]
      | succ i => simpa [List.replicate_succ, lg] using ih i v
  have key : ∀ (L : LO) (k i : Nat) (v : AV), lg (L ++ List.replicate k none) i = some v → lg L i = some v := by
    intro L
    induction L with
    | nil => intro k i v h; exact absurd h (hr k i v)
    | cons a t ih => intro k i v h; cases i with
      | zero => exact h
      | succ i => exact ih k i v h
  intro L i v h
  exact key L _ i v h
end
section
/-! the methods by number, and what a call of one gives -/
abbrev MIn : Type := MethodName × ByteArray × Nat × Option FieldType
def MT0 : List MIn := [(yJ6_bitCount_0f7a4, cJ6_bitCount_0f7a4, 1, (some .int)), (yJ9_floorMod_7cf53, cJ9_floorMod_7cf53, 3, (some .int)), (yJ9_max_7cf53, cJ9_max_7cf53, 2, (some .int)), (yJ9_min_7cf53, cJ9_min_7cf53, 2, (some .int)), (yX0_begin, cX0_begin, 4, none), (yX0_passOn, cX0_passOn, 5, none), (yX0_branch, cX0_branch, 4, none), (yX0_ownerOf, cX0_ownerOf, 3, (some .int)), (yX0_waterNow, cX0_waterNow, 2, (some .int)), (yX0_weekdayOf, cX0_weekdayOf, 2, (some .int)), (yX0_pass, cX0_pass, 6, none), (yX1_weigh, cX1_weigh, 8, none), (yX1_spread, cX1_spread, 12, none), (yX1_weightOf, cX1_weightOf, 3, (some .long)), (yX1_power, cX1_power, 5, (some .long)), (yX2_clear, cX2_clear, 1, none), (yX2_hasReach, cX2_hasReach, 2, (some .boolean)), (yX2_canShut, cX2_canShut, 2, (some .boolean)), (yX2_hasRoomFor, cX2_hasRoomFor, 3, (some .boolean)), (yX2_add, cX2_add, 4, none), (yX2_listSets, cX2_listSets, 2, none), (yX2_setByLot, cX2_setByLot, 5, (some .int)), (yX2_letRun, cX2_letRun, 5, none), (yX2_takeIn, cX2_takeIn, 6, none), (yX2_toSea, cX2_toSea, 2, (some .int)), (yX2_grindingBy, cX2_grindingBy, 4, (some .int)), (yX3_add, cX3_add, 3, none), (yX3_cutTo, cX3_cutTo, 2, none), (yX3_become, cX3_become, 2, none), (yX4_start, cX4_start, 3, none), (yX4_pass, cX4_pass, 7, (some .int)), (yX5_seek, cX5_seek, 6, none), (yX5_goDeeper, cX5_goDeeper, 6, none), (yX5_fits, cX5_fits, 3, (some .boolean)), (yX5_gain, cX5_gain, 3, (some .int)), (yX5_arrive, cX5_arrive, 2, none), (yX5_shutTogether, cX5_shutTogether, 3, (some .int)), (yX5_contest, cX5_contest, 5, (some .int)), (yX5_contend, cX5_contend, 7, (some .int)), (yX6_byLetter, cX6_byLetter, 1, (some .int))]
def MT1 : List MIn := [(yX6_isOf, cX6_isOf, 2, (some .boolean)), (yX6_runFrom, cX6_runFrom, 4, (some .int)), (yX6_settle, cX6_settle, 3, (some .int)), (yX6_grindsBy, cX6_grindsBy, 3, (some .boolean)), (yX6_signOf, cX6_signOf, 3, (some .int)), (yX7_read, cX7_read, 6, (some .int)), (yX7_takesWeek, cX7_takesWeek, 5, (some .boolean)), (yX7_takesReach, cX7_takesReach, 4, (some .boolean)), (yX7_onlyBlanksLeft, cX7_onlyBlanksLeft, 1, (some .boolean)), (yX7_seen, cX7_seen, 1, (some .int)), (yX7_seesFigure, cX7_seesFigure, 3, (some .boolean)), (yX7_skipBlanks, cX7_skipBlanks, 2, none), (yX8_isOne, cX8_isOne, 2, (some .boolean)), (yX8_isThere, cX8_isThere, 2, (some .boolean)), (yX8_sizeOf, cX8_sizeOf, 2, (some .int)), (yX8_holds, cX8_holds, 3, (some .boolean)), (yX8_holdsRun, cX8_holdsRun, 4, (some .boolean)), (yX8_valueAt, cX8_valueAt, 3, (some .int)), (yX8_change, cX8_change, 4, none), (yX8_make, cX8_make, 5, none), (yX8_take, cX8_take, 5, none), (yX8_giveTo, cX8_giveTo, 4, none), (yX8_drop, cX8_drop, 2, none), (yX8_transfer, cX8_transfer, 6, none), (yX8_sumOf, cX8_sumOf, 5, (some .long)), (yX8_allWithin, cX8_allWithin, 4, (some .boolean)), (yX8_howMany, cX8_howMany, 3, (some .int)), (yX8_mixInto, cX8_mixInto, 5, (some .long)), (yX9_row, cX9_row, 3, (some .int)), (yX9_lay, cX9_lay, 6, (some .int)), (yX9_at, cX9_at, 4, (some .int)), (yX9_tear, cX9_tear, 3, (some .int)), (yX9_copy, cX9_copy, 6, (some .int)), (yX9_mean, cX9_mean, 4, (some .int)), (yX9_text, cX9_text, 3, (some .int)), (yX9_put, cX9_put, 6, (some .int)), (yX9_fault, cX9_fault, 3, (some .int)), (yX9_river, cX9_river, 5, (some .int)), (yX9_reach, cX9_reach, 3, (some .int)), (yX9_mark, cX9_mark, 3, (some .int))]
def MT2 : List MIn := [(yX9_weekday, cX9_weekday, 3, (some .int)), (yX9_swap, cX9_swap, 4, (some .int)), (yX9_owns, cX9_owns, 2, (some .int)), (yX9_day, cX9_day, 2, (some .int)), (yX9_undo, cX9_undo, 3, (some .int)), (yX9_keep, cX9_keep, 2, (some .int)), (yX9_on, cX9_on, 2, (some .int)), (yX9_gates, cX9_gates, 1, (some .int)), (yX9_runs, cX9_runs, 2, (some .int)), (yX9_sea, cX9_sea, 3, (some .int)), (yX9_water, cX9_water, 4, (some .int)), (yX9_share, cX9_share, 4, (some .int)), (yX9_grinds, cX9_grinds, 3, (some .int)), (yX9_best, cX9_best, 4, (some .int)), (yX9_all, cX9_all, 4, (some .int)), (yX9_most, cX9_most, 4, (some .int)), (yX9_worth, cX9_worth, 7, (some .int)), (yX9_duel, cX9_duel, 3, (some .int)), (yX9_ways, cX9_ways, 3, (some .int)), (yX9_first, cX9_first, 4, (some .int)), (yX9_kinds, cX9_kinds, 6, (some .int)), (yX9_measures, cX9_measures, 6, (some .int)), (yX9_mid, cX9_mid, 4, (some .int)), (yX9_odds, cX9_odds, 5, (some .int)), (yX9_lots, cX9_lots, 7, (some .int)), (yX9_asked, cX9_asked, 1, (some .int)), (yX9_upper, cX9_upper, 1, (some .long)), (yX9_lower, cX9_lower, 1, (some .long)), (yX9_count, cX9_count, 2, (some .int)), (yX9_finding, cX9_finding, 1, (some .int)), (yX9_findings, cX9_findings, 2, (some .int)), (yX9_digest, cX9_digest, 5, (some .long)), (yX9_tell, cX9_tell, 2, (some .int)), (yX9_tellFraction, cX9_tellFraction, 7, none), (yX9_commonDivisor, cX9_commonDivisor, 7, (some .long)), (yX9_find, cX9_find, 2, (some .int)), (yX9_makeAnew, cX9_makeAnew, 5, (some .int)), (yX9_refuseMissing, cX9_refuseMissing, 3, (some .int)), (yX9_refusePlace, cX9_refusePlace, 5, (some .int)), (yX9_refuseSearch, cX9_refuseSearch, 4, (some .int))]
def MT3 : List MIn := [(yX9_refuseWithoutRiver, cX9_refuseWithoutRiver, 3, (some .int)), (yX9_refusePlan, cX9_refusePlan, 6, (some .int)), (yX9_refuseSeas, cX9_refuseSeas, 4, (some .int)), (yX9_refusePairs, cX9_refusePairs, 4, (some .int)), (yX9_isWeekday, cX9_isWeekday, 1, (some .boolean)), (yX9_isVillage, cX9_isVillage, 1, (some .boolean)), (yX9_isOfTwelve, cX9_isOfTwelve, 1, (some .boolean)), (yX9_passTruly, cX9_passTruly, 4, (some .int)), (yX9_replay, cX9_replay, 2, none), (yX9_readDraft, cX9_readDraft, 2, (some .int)), (yX9_followPlan, cX9_followPlan, 3, none), (yX9_groundWithout, cX9_groundWithout, 4, (some .int)), (yX9_agrees, cX9_agrees, 8, (some .boolean)), (yX9_ofReach, cX9_ofReach, 3, (some .int)), (yX9_counted, cX9_counted, 2, (some .int)), (yX9_keptRivers, cX9_keptRivers, 3, (some .int)), (yX9_sum, cX9_sum, 6, (some .int)), (yX10_in, cX10_in, 3, (some .boolean)), (yX10_meet, cX10_meet, 2, (some .int)), (yX10_ask, cX10_ask, 3, (some .int)), (yX10_has, cX10_has, 2, (some .boolean)), (yX10_greater, cX10_greater, 2, (some .int)), (yX10_part, cX10_part, 11, (some .int)), (yX10_isRow, cX10_isRow, 1, (some .boolean)), (yX10_isText, cX10_isText, 1, (some .boolean)), (yX10_askedRow, cX10_askedRow, 2, (some .int)), (yX10_askedText, cX10_askedText, 2, (some .int)), (yX10_rowAt, cX10_rowAt, 3, (some .int)), (yX10_setRow, cX10_setRow, 4, none), (yX10_row, cX10_row, 4, (some .int)), (yX10_at, cX10_at, 4, (some .int)), (yX10_lay, cX10_lay, 5, (some .int)), (yX10_tear, cX10_tear, 3, (some .int)), (yX10_copy, cX10_copy, 7, (some .int)), (yX10_mean, cX10_mean, 6, (some .int)), (yX10_text, cX10_text, 4, (some .int)), (yX10_put, cX10_put, 6, (some .int)), (yX10_here, cX10_here, 2, (some .int)), (yX10_skip, cX10_skip, 2, none), (yX10_figure, cX10_figure, 7, (some .boolean))]
def MT4 : List MIn := [(yX10_readsWeek, cX10_readsWeek, 6, (some .boolean)), (yX10_kindBy, cX10_kindBy, 1, (some .int)), (yX10_isGate, cX10_isGate, 1, (some .boolean)), (yX10_isMill, cX10_isMill, 1, (some .boolean)), (yX10_readsReach, cX10_readsReach, 4, (some .boolean)), (yX10_readsRiver, cX10_readsRiver, 2, (some .boolean)), (yX10_goesOn, cX10_goesOn, 2, (some .int)), (yX10_fault, cX10_fault, 3, (some .int)), (yX10_river, cX10_river, 4, (some .int)), (yX10_isReach, cX10_isReach, 2, (some .boolean)), (yX10_isDay, cX10_isDay, 1, (some .boolean)), (yX10_gateSet, cX10_gateSet, 3, (some .int)), (yX10_canShut, cX10_canShut, 2, (some .boolean)), (yX10_write, cX10_write, 4, none), (yX10_read, cX10_read, 4, none), (yX10_begin, cX10_begin, 1, none), (yX10_back, cX10_back, 1, none), (yX10_runsFrom, cX10_runsFrom, 4, (some .int)), (yX10_grindsBy, cX10_grindsBy, 3, (some .boolean)), (yX10_pass, cX10_pass, 5, (some .int)), (yX10_groundMany, cX10_groundMany, 3, (some .int)), (yX10_dayTruly, cX10_dayTruly, 2, (some .int)), (yX10_day, cX10_day, 2, (some .int)), (yX10_undo, cX10_undo, 3, (some .int)), (yX10_keep, cX10_keep, 4, (some .int)), (yX10_on, cX10_on, 4, (some .int)), (yX10_reachOf, cX10_reachOf, 3, (some .int)), (yX10_reach, cX10_reach, 3, (some .int)), (yX10_isA, cX10_isA, 3, (some .boolean)), (yX10_mark, cX10_mark, 5, (some .int)), (yX10_weekday, cX10_weekday, 3, (some .int)), (yX10_swap, cX10_swap, 4, (some .int)), (yX10_owns, cX10_owns, 2, (some .int)), (yX10_gates, cX10_gates, 1, (some .int)), (yX10_runs, cX10_runs, 3, (some .int)), (yX10_askedPlan, cX10_askedPlan, 4, (some .int)), (yX10_sea, cX10_sea, 6, (some .int)), (yX10_water, cX10_water, 5, (some .int)), (yX10_share, cX10_share, 6, (some .int)), (yX10_grinds, cX10_grinds, 4, (some .int))]
def MT5 : List MIn := [(yX10_setSets, cX10_setSets, 3, none), (yX10_plans, cX10_plans, 4, (some .int)), (yX10_setOf, cX10_setOf, 6, (some .int)), (yX10_layPlan, cX10_layPlan, 5, none), (yX10_bits, cX10_bits, 3, (some .int)), (yX10_best, cX10_best, 8, (some .int)), (yX10_millSet, cX10_millSet, 3, (some .int)), (yX10_all, cX10_all, 10, (some .int)), (yX10_most, cX10_most, 7, (some .int)), (yX10_worth, cX10_worth, 7, (some .int)), (yX10_groundBy, cX10_groundBy, 7, (some .int)), (yX10_duel, cX10_duel, 8, (some .int)), (yX10_askedSea, cX10_askedSea, 3, (some .int)), (yX10_comesSo, cX10_comesSo, 5, (some .boolean)), (yX10_ways, cX10_ways, 6, (some .int)), (yX10_first, cX10_first, 8, (some .int)), (yX10_askedBook, cX10_askedBook, 5, (some .int)), (yX10_isSo, cX10_isSo, 8, (some .boolean)), (yX10_kinds, cX10_kinds, 6, (some .int)), (yX10_measures, cX10_measures, 6, (some .int)), (yX10_shutMany, cX10_shutMany, 4, (some .int)), (yX10_holds, cX10_holds, 6, (some .int)), (yX10_power, cX10_power, 6, (some .long)), (yX10_sums, cX10_sums, 15, (some .int)), (yX10_mid, cX10_mid, 4, (some .int)), (yX10_odds, cX10_odds, 5, (some .int)), (yX10_lots, cX10_lots, 11, (some .int)), (yX10_asked, cX10_asked, 1, (some .int)), (yX10_upper, cX10_upper, 1, (some .long)), (yX10_lower, cX10_lower, 1, (some .long)), (yX10_there, cX10_there, 4, (some .int)), (yX10_tells, cX10_tells, 4, (some .int)), (yX10_count, cX10_count, 2, (some .int)), (yX10_finding, cX10_finding, 1, (some .int)), (yX10_findings, cX10_findings, 2, (some .int)), (yX10_mix, cX10_mix, 2, none), (yX10_mixRiver, cX10_mixRiver, 3, none), (yX10_digest, cX10_digest, 3, (some .long))]
def MT : List MIn := MT0 ++ (MT1 ++ (MT2 ++ (MT3 ++ (MT4 ++ (MT5)))))
def rmd (d : Nat) : Room := { frames := d, cells := 0, slots := 0, locals := 300 * d }
def cvr : AV → Option Value
  | .inl x => some (.int x)
  | .inr (.inl x) => some (.long x)
  | .inr (.inr _) => none
def QM (D : va_G) (Λ : LAM) (v : AV) (B : AH) (F : Nat → Prop) : Array Value → State → Outcome → State → Prop := fun _ st oc t => (oc = .returned (cvr v) ∧ va_P D CLS (WD Λ B) t.heap) ∧ va_F F st t
def PM (D : va_G) (Λ : LAM) (A : AH) (as : List AV) (sz : Nat) : Array Value → State → Prop := va_Pc (as.map (cv Λ)) (fun U => U.heap.size = sz ∧ va_P D CLS (WD Λ A) U.heap ∧ KD D Λ U ∧ va_D (fun _ => True) (WD Λ A))
def CON (l : Launch) (D : va_G) (Λ : LAM) (d y : Nat) (as : List AV) (A : AH) (v : AV) (B : AH) : Prop := ∀ i : MIn, lgt MT y = some i → ∀ sz : Nat, Met l i.1 (.code i.1 i.2.1 i.2.2.1 i.2.2.2 :: GW) (rmd d) (PM D Λ A as sz) (QM D Λ v B (va_A (WD Λ A) sz)) 0 0 (va_A (WD Λ A) sz)
def MF (i : MIn) (np : Nat) : Prop := Cond.code i.1 i.2.1 i.2.2.1 i.2.2.2 ∈ GW ∧ Cond.initialized i.1.cls ∈ GW ∧ (i.1.cls ≠ "java/lang/invoke/MethodHandle" ∧ i.1.cls ≠ "java/lang/invoke/VarHandle" ∧ (parseMethodDescriptor i.1.desc).map (fun d => d.parameters.length) = some np) ∧ i.2.2.1 ≤ 200
theorem gw_in {w : Cond} (h : w ∈ GW) : GoodIn GW (w :: GW) := by
  intro u hu
  have hm : u ∈ GW := by
    rcases List.mem_cons.mp hu with e | e
    · rw [e]; exact h
    · exact e
  exact ⟨hm, good_of_word (List.mem_filter.mp hm).2⟩
def CX (p : Program) (l : Launch) (R : Room) (s : State) (m : MethodId) (args : Array Value) (meth : Method) (c : Code) (own : String) (cc : ByteArray) (nL : Nat) (ret : Option FieldType) (D : va_G) (Λ : LAM) (d : Nat) (o : ORC) : Prop :=
  p.tables.exec = Jvm.exec ∧ c.code = cc ∧ c.maxLocals = nL ∧ s.vm.findClass own = some m.cls ∧ (∀ w ∈ GW, w.before args s = true) ∧ KD D Λ s ∧ (d + 1 ≤ R.frames ∧ 300 * (d + 1) ≤ R.locals) ∧ meth.sig.returnType = ret ∧ meth.locks = false ∧ ∀ y as A v B, o y as A = some (v, B) → CON l D Λ d y as A v B
theorem okc_spec {a ci : Nat} (h : okc a ci = true) : lgt SH a = some (.inr ci) := by
  unfold okc at h
  split at h
  · next c hc => rw [hc, Nat.eq_of_beq_eq_true h]
  · cases h
theorem alen_spec {t a : Nat} {i : Int32} (h : inb i (alen t a) = true) : lgt SH a = some (.inl (t, alen t a)) ∧ vp_in i (alen t a) := by
  unfold inb at h
  simp only [Bool.and_eq_true, Bool.not_eq_true', decide_eq_false_iff_not, decide_eq_true_eq] at h
  refine ⟨?_, fun q => q.elim h.1 (fun z => by omega)⟩
  have h2 := h.2
  unfold alen at h2 ⊢
  split at h2
  · next x hx =>
    cases hb : Nat.beq x.1 t with
    | true =>
      rw [hx]
      simp only [hb, cond_true]
      rw [← Nat.eq_of_beq_eq_true hb]
    | false =>
      rw [hb] at h2
      simp at h2
  · omega
def fkd (ci j : Nat) : Option Nat := (lgt FK ci).bind (fun ks => ks[j]?)
theorem flds_at {Λ : LAM} {A : AH} {k ci j t : Nat} (h : fkd ci j = some t) : (flds Λ A k ci)[j]? = some (fldv Λ A k j t) := by
  unfold fkd at h
  unfold flds
  cases hk : lgt FK ci with
  | none => rw [hk] at h; cases h
  | some ks =>
    rw [hk] at h
    have h : ks[j]? = some t := h
    simp [List.getElem?_mapIdx, h]
theorem cell_congr {Λ : LAM} {A B : AH} {k : Nat} {s : SHP} (h1 : B.1 k = A.1 k) (h2 : B.2.1 k = A.2.1 k) (h3 : B.2.2 k = A.2.2 k) : cellOf Λ B k s = cellOf Λ A k s := by
  have hf : ∀ j t, fldv Λ B k j t = fldv Λ A k j t := by
    intro j t
    match t with
    | 0 => simp only [fldv, h1]
    | 1 => simp only [fldv, h2]
    | _ + 2 => simp only [fldv, h3]
  cases s with
  | inl x => simp only [cellOf, h1, h3]
  | inr ci => simp only [cellOf, flds, hf]
theorem flds_set {Λ : LAM} {A B : AH} {a ci j t : Nat} (h : fkd ci j = some t) (ho : ∀ i u, i ≠ j → fkd ci i = some u → fldv Λ B a i u = fldv Λ A a i u) : (flds Λ A a ci).set j (fldv Λ B a j t) = flds Λ B a ci := by
  apply List.ext_getElem?
  intro i
  by_cases e : i = j
  · subst e
    have hl := (List.getElem?_eq_some_iff.mp (flds_at (Λ := Λ) (A := A) (k := a) h)).1
    rw [List.getElem?_set_self hl, flds_at h]
  · rw [List.getElem?_set_ne (Ne.symm e)]
    cases hf : fkd ci i with
    | some u => rw [flds_at hf, flds_at hf, ho i u e hf]
    | none =>
      unfold fkd at hf
      unfold flds
      cases hk : lgt FK ci with
      | none => rfl
      | some ks =>
        rw [hk] at hf
        have hf : ks[i]? = none := hf
        simp [List.getElem?_mapIdx, hf]
theorem cats_sum (Λ : LAM) : ∀ st : List AV, ((st.map (cv Λ)).map fun v => v.category).sum = cats st
  | [] => rfl
  | a :: t => by
    have := cats_sum Λ t
    simp only [List.map_cons, List.sum_cons, cats, cv_cat, this]
section SND
variable {p : Program} {l : Launch} {e : Env} {R : Room} {s : State} {m : MethodId} {args : Array Value} {below : List Frame} {meth : Method} {c : Code} {own : String} {cc : ByteArray} {nL d : Nat} {ret : Option FieldType} {D : va_G} {Λ : LAM} {FR : Nat → Prop} {Q : RES → State → Prop} {o : ORC} {pc : Nat}
def GD (p : Program) (l : Launch) (e : Env) (R : Room) (s : State) (m : MethodId) (args : Array Value) (below : List Frame) (meth : Method) (c : Code) (nL : Nat) (D : va_G) (Λ : LAM) (FR : Nat → Prop) (Q : RES → State → Prop) (pc : Nat) (L : LO) (st : List AV) (A : AH) (r : RES) : Prop :=
  ∀ (H : Heap) (locs : List Loc) (ls : Array Slot), va_P D CLS (WD Λ A) H → va_D FR (WD Λ A) → va_S FR s.heap H locs → LH Λ ls nL L → W p l e R s m args below meth c H locs 0 0 (Q r) (F0 m pc ls (st.map (cv Λ)))
def SN (p : Program) (l : Launch) (e : Env) (R : Room) (s : State) (m : MethodId) (args : Array Value) (below : List Frame) (meth : Method) (c : Code) (nL : Nat) (D : va_G) (Λ : LAM) (FR : Nat → Prop) (Q : RES → State → Prop) (pc : Nat) (i : INS) : Prop :=
  ∀ (k : KT) (L : LO) (st : List AV) (A : AH) (r : RES), (∀ pc' L' st' A' r', k pc' L' st' A' = some r' → GD p l e R s m args below meth c nL D Λ FR Q pc' L' st' A' r') → i k L st A = some r → GD p l e R s m args below meth c nL D Λ FR Q pc L st A r

theorem sn_iconst (X : CX p l R s m args meth c own cc nL ret D Λ d o) {n : Int} {v : Int32} (hdg : decode cc pc = .ok (.iconst n, 1)) (hv : Int32.ofInt n = v) : SN p l e R s m args below meth c nL D Λ FR Q pc (x_const (iv v) (pc + 1)) := by
  intro k L st A r hk h
  obtain ⟨hx, hb, hml, hown, hts, hKD, hR, hr, hlk, hO⟩ := X
  intro H locs ls hP hD hS hl
  exact lv_iconst hx hb hdg hv (hk _ _ _ _ _ h H locs ls hP hD hS hl)
theorem sn_bipush (X : CX p l R s m args meth c own cc nL ret D Λ d o) {n : Int} {v : Int32} (hdg : decode cc pc = .ok (.bipush n, 2)) (hv : (Int8.ofInt n).toInt32 = v) : SN p l e R s m args below meth c nL D Λ FR Q pc (x_const (iv v) (pc + 2)) := by
  intro k L st A r hk h
  obtain ⟨hx, hb, hml, hown, hts, hKD, hR, hr, hlk, hO⟩ := X
  intro H locs ls hP hD hS hl
  exact lv_bipush hx hb hdg hv (hk _ _ _ _ _ h H locs ls hP hD hS hl)
theorem sn_sipush (X : CX p l R s m args meth c own cc nL ret D Λ d o) {n : Int} {v : Int32} (hdg : decode cc pc = .ok (.sipush n, 3)) (hv : (Int16.ofInt n).toInt32 = v) : SN p l e R s m args below meth c nL D Λ FR Q pc (x_const (iv v) (pc + 3)) := by
  intro k L st A r hk h
  obtain ⟨hx, hb, hml, hown, hts, hKD, hR, hr, hlk, hO⟩ := X
  intro H locs ls hP hD hS hl
  exact lv_sipush hx hb hdg hv (hk _ _ _ _ _ h H locs ls hP hD hS hl)
theorem sn_lconst (X : CX p l R s m args meth c own cc nL ret D Λ d o) {n : Fin 2} {v : Int64} (hdg : decode cc pc = .ok (.lconst n, 1)) (hv : Int64.ofNat (n : Nat) = v) : SN p l e R s m args below meth c nL D Λ FR Q pc (x_const (jv v) (pc + 1)) := by
  intro k L st A r hk h
  obtain ⟨hx, hb, hml, hown, hts, hKD, hR, hr, hlk, hO⟩ := X
  intro H locs ls hP hD hS hl
  exact lv_lconst hx hb hdg hv (hk _ _ _ _ _ h H locs ls hP hD hS hl)
theorem sn_ldcw (X : CX p l R s m args meth c own cc nL ret D Λ d o) {idx : Nat} {v : Int32} (hw : Cond.constant own idx v ∈ GW) (hdg : decode cc pc = .ok (.ldc_w idx, 3)) : SN p l e R s m args below meth c nL D Λ FR Q pc (x_const (iv v) (pc + 3)) := by
  intro k L st A r hk h
  obtain ⟨hx, hb, hml, hown, hts, hKD, hR, hr, hlk, hO⟩ := X
  intro H locs ls hP hD hS hl
  exact lv_ldcw hx hb hown (hts _ hw) hdg (hk _ _ _ _ _ h H locs ls hP hD hS hl)
theorem sn_ldc2 (X : CX p l R s m args meth c own cc nL ret D Λ d o) {idx : Nat} {v : Int64} (hw : Cond.constantLong own idx v ∈ GW) (hdg : decode cc pc = .ok (.ldc2_w idx, 3)) : SN p l e R s m args below meth c nL D Λ FR Q pc (x_const (jv v) (pc + 3)) := by
  intro k L st A r hk h
  obtain ⟨hx, hb, hml, hown, hts, hKD, hR, hr, hlk, hO⟩ := X
  intro H locs ls hP hD hS hl
  exact lv_ldc2 hx hb hown (hts _ hw) hdg (hk _ _ _ _ _ h H locs ls hP hD hS hl)
theorem sn_iload_n (X : CX p l R s m args meth c own cc nL ret D Λ d o) {k4 : Fin 4} {i : Nat} (hdg : decode cc pc = .ok (.iload_n k4, 1)) (hi : (k4 : Nat) = i) : SN p l e R s m args below meth c nL D Λ FR Q pc (x_iload i (pc + 1)) := by
  intro k L st A r hk h
  obtain ⟨hx, hb, hml, hown, hts, hKD, hR, hr, hlk, hO⟩ := X
  unfold x_iload at h
  split at h
  · next x hx9 =>
    intro H locs ls hP hD hS hl
    exact lv_iload_n hx hb hdg hi (hl.2.2 i _ hx9) (hk _ _ _ _ _ h H locs ls hP hD hS hl)
  · cases h
theorem sn_iload (X : CX p l R s m args meth c own cc nL ret D Λ d o) {i : Nat} (hdg : decode cc pc = .ok (.iload i, 2)) : SN p l e R s m args below meth c nL D Λ FR Q pc (x_iload i (pc + 2)) := by
  intro k L st A r hk h
  obtain ⟨hx, hb, hml, hown, hts, hKD, hR, hr, hlk, hO⟩ := X
  unfold x_iload at h
  split at h
  · next x hx9 =>
    intro H locs ls hP hD hS hl
    exact lv_iload hx hb hdg (hl.2.2 i _ hx9) (hk _ _ _ _ _ h H locs ls hP hD hS hl)
  · cases h
theorem sn_lload_n (X : CX p l R s m args meth c own cc nL ret D Λ d o) {k4 : Fin 4} {i : Nat} (hdg : decode cc pc = .ok (.lload_n k4, 1)) (hi : (k4 : Nat) = i) : SN p l e R s m args below meth c nL D Λ FR Q pc (x_lload i (pc + 1)) := by
  intro k L st A r hk h
  obtain ⟨hx, hb, hml, hown, hts, hKD, hR, hr, hlk, hO⟩ := X
  unfold x_lload at h
  split at h
  · next x hx9 =>
    intro H locs ls hP hD hS hl
    exact lv_lload_n hx hb hdg hi (hl.2.2 i _ hx9) (hk _ _ _ _ _ h H locs ls hP hD hS hl)
  · cases h
theorem sn_lload (X : CX p l R s m args meth c own cc nL ret D Λ d o) {i : Nat} (hdg : decode cc pc = .ok (.lload i, 2)) : SN p l e R s m args below meth c nL D Λ FR Q pc (x_lload i (pc + 2)) := by
  intro k L st A r hk h
  obtain ⟨hx, hb, hml, hown, hts, hKD, hR, hr, hlk, hO⟩ := X
  unfold x_lload at h
  split at h
  · next x hx9 =>
    intro H locs ls hP hD hS hl
    exact lv_lload hx hb hdg (hl.2.2 i _ hx9) (hk _ _ _ _ _ h H locs ls hP hD hS hl)
  · cases h
theorem sn_aload_n (X : CX p l R s m args meth c own cc nL ret D Λ d o) {k4 : Fin 4} {i : Nat} (hdg : decode cc pc = .ok (.aload_n k4, 1)) (hi : (k4 : Nat) = i) : SN p l e R s m args below meth c nL D Λ FR Q pc (x_aload i (pc + 1)) := by
  intro k L st A r hk h
  obtain ⟨hx, hb, hml, hown, hts, hKD, hR, hr, hlk, hO⟩ := X
  unfold x_aload at h
  split at h
  · next x hx9 =>
    intro H locs ls hP hD hS hl
    have hv := hl.2.2 i _ hx9
    cases x with
    | none => exact lv_aload_nN hx hb hdg hi hv (hk _ _ _ _ _ h H locs ls hP hD hS hl)
    | some a => exact lv_aload_n hx hb hdg hi hv (hk _ _ _ _ _ h H locs ls hP hD hS hl)
  · cases h
theorem sn_aload (X : CX p l R s m args meth c own cc nL ret D Λ d o) {i : Nat} (hdg : decode cc pc = .ok (.aload i, 2)) : SN p l e R s m args below meth c nL D Λ FR Q pc (x_aload i (pc + 2)) := by
  intro k L st A r hk h
  obtain ⟨hx, hb, hml, hown, hts, hKD, hR, hr, hlk, hO⟩ := X
  unfold x_aload at h
  split at h
  · next x hx9 =>
    intro H locs ls hP hD hS hl
    have hv := hl.2.2 i _ hx9
    cases x with
    | none => exact lv_aloadN hx hb hdg hv (hk _ _ _ _ _ h H locs ls hP hD hS hl)
    | some a => exact lv_aload hx hb hdg hv (hk _ _ _ _ _ h H locs ls hP hD hS hl)
  · cases h
theorem sn_istore_n (X : CX p l R s m args meth c own cc nL ret D Λ d o) {k4 : Fin 4} {i : Nat} (hdg : decode cc pc = .ok (.istore_n k4, 1)) (hi : (k4 : Nat) = i) (hn : i < nL) : SN p l e R s m args below meth c nL D Λ FR Q pc (x_istore i (pc + 1)) := by
  intro k L st A r hk h
  obtain ⟨hx, hb, hml, hown, hts, hKD, hR, hr, hlk, hO⟩ := X
  unfold x_istore at h
  split at h
  · intro H locs ls hP hD hS hl
    exact lv_istore_n hx hb hdg hi hl.to hn rfl (fun ls hl => hk _ _ _ _ _ h H locs ls hP hD hS (LH.st1 hl))
  · cases h
theorem sn_lstore_n (X : CX p l R s m args meth c own cc nL ret D Λ d o) {k4 : Fin 4} {i : Nat} (hdg : decode cc pc = .ok (.lstore_n k4, 1)) (hi : (k4 : Nat) = i) (hn : i + 1 < nL) : SN p l e R s m args below meth c nL D Λ FR Q pc (x_lstore i (pc + 1)) := by
  intro k L st A r hk h
  obtain ⟨hx, hb, hml, hown, hts, hKD, hR, hr, hlk, hO⟩ := X
  unfold x_lstore at h
  split at h
  · intro H locs ls hP hD hS hl
    exact lv_lstore_n hx hb hdg hi hl.to hn rfl (fun ls hl => hk _ _ _ _ _ h H locs ls hP hD hS (LH.st2 hl))
  · cases h
theorem sn_istore (X : CX p l R s m args meth c own cc nL ret D Λ d o) {i : Nat} (hdg : decode cc pc = .ok (.istore i, 2)) (hn : i < nL) : SN p l e R s m args below meth c nL D Λ FR Q pc (x_istore i (pc + 2)) := by
  intro k L st A r hk h
  obtain ⟨hx, hb, hml, hown, hts, hKD, hR, hr, hlk, hO⟩ := X
  unfold x_istore at h
  split at h
  · intro H locs ls hP hD hS hl
    exact lv_istore hx hb hdg hl.to hn rfl (fun ls hl => hk _ _ _ _ _ h H locs ls hP hD hS (LH.st1 hl))
  · cases h
theorem sn_lstore (X : CX p l R s m args meth c own cc nL ret D Λ d o) {i : Nat} (hdg : decode cc pc = .ok (.lstore i, 2)) (hn : i + 1 < nL) : SN p l e R s m args below meth c nL D Λ FR Q pc (x_lstore i (pc + 2)) := by
  intro k L st A r hk h
  obtain ⟨hx, hb, hml, hown, hts, hKD, hR, hr, hlk, hO⟩ := X
  unfold x_lstore at h
  split at h
  · intro H locs ls hP hD hS hl
    exact lv_lstore hx hb hdg hl.to hn rfl (fun ls hl => hk _ _ _ _ _ h H locs ls hP hD hS (LH.st2 hl))
  · cases h
theorem sn_astore_n (X : CX p l R s m args meth c own cc nL ret D Λ d o) {k4 : Fin 4} {i : Nat} (hdg : decode cc pc = .ok (.astore_n k4, 1)) (hi : (k4 : Nat) = i) (hn : i < nL) : SN p l e R s m args below meth c nL D Λ FR Q pc (x_astore i (pc + 1)) := by
  intro k L st A r hk h
  obtain ⟨hx, hb, hml, hown, hts, hKD, hR, hr, hlk, hO⟩ := X
  unfold x_astore at h
  split at h
  · next x r9 =>
    intro H locs ls hP hD hS hl
    cases x with
    | none => exact lv_astore_nN hx hb hdg hi hl.to hn rfl (fun ls hl => hk _ _ _ _ _ h H locs ls hP hD hS (LH.st1 hl))
    | some a => exact lv_astore_n hx hb hdg hi hl.to hn rfl (fun ls hl => hk _ _ _ _ _ h H locs ls hP hD hS (LH.st1 hl))
  · cases h
theorem sn_iinc (X : CX p l R s m args meth c own cc nL ret D Λ d o) {i : Nat} {n : Int} {v : Int32} (hdg : decode cc pc = .ok (.iinc i n, 3)) (hv : Int32.ofInt n = v) (hn : i < nL) : SN p l e R s m args below meth c nL D Λ FR Q pc (x_iinc i v (pc + 3)) := by
  intro k L st A r hk h
  obtain ⟨hx, hb, hml, hown, hts, hKD, hR, hr, hlk, hO⟩ := X
  unfold x_iinc at h
  split at h
  · next x hx9 =>
    intro H locs ls hP hD hS hl
    obtain ⟨k9, hk9⟩ := List.getElem?_of_mem (tl_mem (Λ := Λ) L 0 i _ hx9)
    rw [Nat.zero_add] at hk9
    exact lv_iinc hx hb hdg hl.to hk9 (by rw [hv]) hn rfl (fun ls hl => hk _ _ _ _ _ h H locs ls hP hD hS (LH.st1 hl))
  · cases h
theorem sn_iadd (X : CX p l R s m args meth c own cc nL ret D Λ d o) (hdg : decode cc pc = .ok (.iadd, 1)) : SN p l e R s m args below meth c nL D Λ FR Q pc (x_bin (fun x y => x + y) (pc + 1)) := by
  intro k L st A r hk h
  obtain ⟨hx, hb, hml, hown, hts, hKD, hR, hr, hlk, hO⟩ := X
  unfold x_bin at h
  split at h
  · intro H locs ls hP hD hS hl
    exact lv_iadd hx hb hdg (hk _ _ _ _ _ h H locs ls hP hD hS hl)
  · cases h
theorem sn_isub (X : CX p l R s m args meth c own cc nL ret D Λ d o) (hdg : decode cc pc = .ok (.isub, 1)) : SN p l e R s m args below meth c nL D Λ FR Q pc (x_bin (fun x y => x - y) (pc + 1)) := by
  intro k L st A r hk h
  obtain ⟨hx, hb, hml, hown, hts, hKD, hR, hr, hlk, hO⟩ := X
  unfold x_bin at h
  split at h
  · intro H locs ls hP hD hS hl
    exact lv_isub hx hb hdg (hk _ _ _ _ _ h H locs ls hP hD hS hl)
  · cases h
theorem sn_imul (X : CX p l R s m args meth c own cc nL ret D Λ d o) (hdg : decode cc pc = .ok (.imul, 1)) : SN p l e R s m args below meth c nL D Λ FR Q pc (x_bin (fun x y => x * y) (pc + 1)) := by
  intro k L st A r hk h
  obtain ⟨hx, hb, hml, hown, hts, hKD, hR, hr, hlk, hO⟩ := X
  unfold x_bin at h
  split at h
  · intro H locs ls hP hD hS hl
    exact lv_imul hx hb hdg (hk _ _ _ _ _ h H locs ls hP hD hS hl)
  · cases h
theorem sn_iand (X : CX p l R s m args meth c own cc nL ret D Λ d o) (hdg : decode cc pc = .ok (.iand, 1)) : SN p l e R s m args below meth c nL D Λ FR Q pc (x_bin (fun x y => x &&& y) (pc + 1)) := by
  intro k L st A r hk h
  obtain ⟨hx, hb, hml, hown, hts, hKD, hR, hr, hlk, hO⟩ := X
  unfold x_bin at h
  split at h
  · intro H locs ls hP hD hS hl
    exact lv_iand hx hb hdg (hk _ _ _ _ _ h H locs ls hP hD hS hl)
  · cases h
theorem sn_ior (X : CX p l R s m args meth c own cc nL ret D Λ d o) (hdg : decode cc pc = .ok (.ior, 1)) : SN p l e R s m args below meth c nL D Λ FR Q pc (x_bin (fun x y => x ||| y) (pc + 1)) := by
  intro k L st A r hk h
  obtain ⟨hx, hb, hml, hown, hts, hKD, hR, hr, hlk, hO⟩ := X
  unfold x_bin at h
  split at h
  · intro H locs ls hP hD hS hl
    exact lv_ior hx hb hdg (hk _ _ _ _ _ h H locs ls hP hD hS hl)
  · cases h
theorem sn_ixor (X : CX p l R s m args meth c own cc nL ret D Λ d o) (hdg : decode cc pc = .ok (.ixor, 1)) : SN p l e R s m args below meth c nL D Λ FR Q pc (x_bin (fun x y => x ^^^ y) (pc + 1)) := by
  intro k L st A r hk h
  obtain ⟨hx, hb, hml, hown, hts, hKD, hR, hr, hlk, hO⟩ := X
  unfold x_bin at h
  split at h
  · intro H locs ls hP hD hS hl
    exact lv_ixor hx hb hdg (hk _ _ _ _ _ h H locs ls hP hD hS hl)
  · cases h
theorem sn_ishl (X : CX p l R s m args meth c own cc nL ret D Λ d o) (hdg : decode cc pc = .ok (.ishl, 1)) : SN p l e R s m args below meth c nL D Λ FR Q pc (x_bin (fun x y => x <<< (y &&& 31)) (pc + 1)) := by
  intro k L st A r hk h
  obtain ⟨hx, hb, hml, hown, hts, hKD, hR, hr, hlk, hO⟩ := X
  unfold x_bin at h
  split at h
  · intro H locs ls hP hD hS hl
    exact lv_ishl hx hb hdg (hk _ _ _ _ _ h H locs ls hP hD hS hl)
  · cases h
theorem sn_ishr (X : CX p l R s m args meth c own cc nL ret D Λ d o) (hdg : decode cc pc = .ok (.ishr, 1)) : SN p l e R s m args below meth c nL D Λ FR Q pc (x_bin (fun x y => x >>> (y &&& 31)) (pc + 1)) := by
  intro k L st A r hk h
  obtain ⟨hx, hb, hml, hown, hts, hKD, hR, hr, hlk, hO⟩ := X
  unfold x_bin at h
  split at h
  · intro H locs ls hP hD hS hl
    exact lv_ishr hx hb hdg (hk _ _ _ _ _ h H locs ls hP hD hS hl)
  · cases h
theorem sn_iushr (X : CX p l R s m args meth c own cc nL ret D Λ d o) (hdg : decode cc pc = .ok (.iushr, 1)) : SN p l e R s m args below meth c nL D Λ FR Q pc (x_bin (fun x y => (x.toUInt32 >>> (y.toUInt32 &&& Int32.toUInt32 31)).toInt32) (pc + 1)) := by
  intro k L st A r hk h
  obtain ⟨hx, hb, hml, hown, hts, hKD, hR, hr, hlk, hO⟩ := X
  unfold x_bin at h
  split at h
  · intro H locs ls hP hD hS hl
    exact lv_iushr hx hb hdg rfl (hk _ _ _ _ _ h H locs ls hP hD hS hl)
  · cases h
theorem sn_ladd (X : CX p l R s m args meth c own cc nL ret D Λ d o) (hdg : decode cc pc = .ok (.ladd, 1)) : SN p l e R s m args below meth c nL D Λ FR Q pc (x_binl (fun x y => x + y) (pc + 1)) := by
  intro k L st A r hk h
  obtain ⟨hx, hb, hml, hown, hts, hKD, hR, hr, hlk, hO⟩ := X
  unfold x_binl at h
  split at h
  · intro H locs ls hP hD hS hl
    exact lv_ladd hx hb hdg (hk _ _ _ _ _ h H locs ls hP hD hS hl)
  · cases h
theorem sn_lmul (X : CX p l R s m args meth c own cc nL ret D Λ d o) (hdg : decode cc pc = .ok (.lmul, 1)) : SN p l e R s m args below meth c nL D Λ FR Q pc (x_binl (fun x y => x * y) (pc + 1)) := by
  intro k L st A r hk h
  obtain ⟨hx, hb, hml, hown, hts, hKD, hR, hr, hlk, hO⟩ := X
  unfold x_binl at h
  split at h
  · intro H locs ls hP hD hS hl
    exact lv_lmul hx hb hdg (hk _ _ _ _ _ h H locs ls hP hD hS hl)
  · cases h
theorem sn_idiv (X : CX p l R s m args meth c own cc nL ret D Λ d o) (hdg : decode cc pc = .ok (.idiv, 1)) : SN p l e R s m args below meth c nL D Λ FR Q pc (x_dv (fun x y => x / y) (pc + 1)) := by
  intro k L st A r hk h
  obtain ⟨hx, hb, hml, hown, hts, hKD, hR, hr, hlk, hO⟩ := X
  unfold x_dv at h
  split at h
  · next y x r9 =>
    split at h
    · cases h
    · next hne =>
      intro H locs ls hP hD hS hl
      exact lv_idiv hx hb hdg hne (hk _ _ _ _ _ h H locs ls hP hD hS hl)
  · cases h
theorem sn_irem (X : CX p l R s m args meth c own cc nL ret D Λ d o) (hdg : decode cc pc = .ok (.irem, 1)) : SN p l e R s m args below meth c nL D Λ FR Q pc (x_dv (fun x y => x - x / y * y) (pc + 1)) := by
  intro k L st A r hk h
  obtain ⟨hx, hb, hml, hown, hts, hKD, hR, hr, hlk, hO⟩ := X
  unfold x_dv at h
  split at h
  · next y x r9 =>
    split at h
    · cases h
    · next hne =>
      intro H locs ls hP hD hS hl
      exact lv_irem hx hb hdg hne (hk _ _ _ _ _ h H locs ls hP hD hS hl)
  · cases h
theorem sn_ldiv (X : CX p l R s m args meth c own cc nL ret D Λ d o) (hdg : decode cc pc = .ok (.ldiv, 1)) : SN p l e R s m args below meth c nL D Λ FR Q pc (x_dvl (fun x y => x / y) (pc + 1)) := by
  intro k L st A r hk h
  obtain ⟨hx, hb, hml, hown, hts, hKD, hR, hr, hlk, hO⟩ := X
  unfold x_dvl at h
  split at h
  · next y x r9 =>
    split at h
    · cases h
    · next hne =>
      intro H locs ls hP hD hS hl
      exact lv_ldiv hx hb hdg hne (hk _ _ _ _ _ h H locs ls hP hD hS hl)
  · cases h
theorem sn_lrem (X : CX p l R s m args meth c own cc nL ret D Λ d o) (hdg : decode cc pc = .ok (.lrem, 1)) : SN p l e R s m args below meth c nL D Λ FR Q pc (x_dvl (fun x y => x - x / y * y) (pc + 1)) := by
  intro k L st A r hk h
  obtain ⟨hx, hb, hml, hown, hts, hKD, hR, hr, hlk, hO⟩ := X
  unfold x_dvl at h
  split at h
  · next y x r9 =>
    split at h
    · cases h
    · next hne =>
      intro H locs ls hP hD hS hl
      exact lv_lrem hx hb hdg hne (hk _ _ _ _ _ h H locs ls hP hD hS hl)
  · cases h
theorem sn_lcmp (X : CX p l R s m args meth c own cc nL ret D Λ d o) (hdg : decode cc pc = .ok (.lcmp, 1)) : SN p l e R s m args below meth c nL D Λ FR Q pc (x_lcmp (pc + 1)) := by
  intro k L st A r hk h
  obtain ⟨hx, hb, hml, hown, hts, hKD, hR, hr, hlk, hO⟩ := X
  unfold x_lcmp at h
  split at h
  · intro H locs ls hP hD hS hl
    exact W.lcmp hx hb hdg (hk _ _ _ _ _ h H locs ls hP hD hS hl)
  · cases h
theorem sn_ineg (X : CX p l R s m args meth c own cc nL ret D Λ d o) (hdg : decode cc pc = .ok (.ineg, 1)) : SN p l e R s m args below meth c nL D Λ FR Q pc (x_un (fun x => -x) (pc + 1)) := by
  intro k L st A r hk h
  obtain ⟨hx, hb, hml, hown, hts, hKD, hR, hr, hlk, hO⟩ := X
  unfold x_un at h
  split at h
  · intro H locs ls hP hD hS hl
    exact lv_ineg hx hb hdg (hk _ _ _ _ _ h H locs ls hP hD hS hl)
  · cases h
theorem sn_i2b (X : CX p l R s m args meth c own cc nL ret D Λ d o) (hdg : decode cc pc = .ok (.i2b, 1)) : SN p l e R s m args below meth c nL D Λ FR Q pc (x_un (fun x => x.toInt8.toInt32) (pc + 1)) := by
  intro k L st A r hk h
  obtain ⟨hx, hb, hml, hown, hts, hKD, hR, hr, hlk, hO⟩ := X
  unfold x_un at h
  split at h
  · intro H locs ls hP hD hS hl
    exact lv_i2b hx hb hdg rfl (hk _ _ _ _ _ h H locs ls hP hD hS hl)
  · cases h
theorem sn_i2l (X : CX p l R s m args meth c own cc nL ret D Λ d o) (hdg : decode cc pc = .ok (.i2l, 1)) : SN p l e R s m args below meth c nL D Λ FR Q pc (x_i2l (pc + 1)) := by
  intro k L st A r hk h
  obtain ⟨hx, hb, hml, hown, hts, hKD, hR, hr, hlk, hO⟩ := X
  unfold x_i2l at h
  split at h
  · intro H locs ls hP hD hS hl
    exact lv_i2l hx hb hdg rfl (hk _ _ _ _ _ h H locs ls hP hD hS hl)
  · cases h
theorem sn_l2i (X : CX p l R s m args meth c own cc nL ret D Λ d o) (hdg : decode cc pc = .ok (.l2i, 1)) : SN p l e R s m args below meth c nL D Λ FR Q pc (x_l2i (pc + 1)) := by
  intro k L st A r hk h
  obtain ⟨hx, hb, hml, hown, hts, hKD, hR, hr, hlk, hO⟩ := X
  unfold x_l2i at h
  split at h
  · intro H locs ls hP hD hS hl
    exact lv_l2i hx hb hdg rfl (hk _ _ _ _ _ h H locs ls hP hD hS hl)
  · cases h
theorem sn_dup (X : CX p l R s m args meth c own cc nL ret D Λ d o) (hdg : decode cc pc = .ok (.dup, 1)) : SN p l e R s m args below meth c nL D Λ FR Q pc (x_dup (pc + 1)) := by
  intro k L st A r hk h
  obtain ⟨hx, hb, hml, hown, hts, hKD, hR, hr, hlk, hO⟩ := X
  unfold x_dup at h
  split at h
  · intro H locs ls hP hD hS hl
    exact lv_dup hx hb hdg rfl (hk _ _ _ _ _ h H locs ls hP hD hS hl)
  · next x r9 =>
    intro H locs ls hP hD hS hl
    cases x with
    | none => exact lv_dup hx hb hdg rfl (hk _ _ _ _ _ h H locs ls hP hD hS hl)
    | some a => exact lv_dup hx hb hdg rfl (hk _ _ _ _ _ h H locs ls hP hD hS hl)
  · cases h
theorem sn_pop (X : CX p l R s m args meth c own cc nL ret D Λ d o) (hdg : decode cc pc = .ok (.pop, 1)) : SN p l e R s m args below meth c nL D Λ FR Q pc (x_pop (pc + 1)) := by
  intro k L st A r hk h
  obtain ⟨hx, hb, hml, hown, hts, hKD, hR, hr, hlk, hO⟩ := X
  unfold x_pop at h
  split at h
  · intro H locs ls hP hD hS hl
    exact lv_pop hx hb hdg rfl (hk _ _ _ _ _ h H locs ls hP hD hS hl)
  · next x r9 =>
    intro H locs ls hP hD hS hl
    cases x with
    | none => exact lv_pop hx hb hdg rfl (hk _ _ _ _ _ h H locs ls hP hD hS hl)
    | some a => exact lv_pop hx hb hdg rfl (hk _ _ _ _ _ h H locs ls hP hD hS hl)
  · cases h
theorem sn_dup2 (X : CX p l R s m args meth c own cc nL ret D Λ d o) (hdg : decode cc pc = .ok (.dup2, 1)) : SN p l e R s m args below meth c nL D Λ FR Q pc (x_dup2 (pc + 1)) := by
  intro k L st A r hk h
  obtain ⟨hx, hb, hml, hown, hts, hKD, hR, hr, hlk, hO⟩ := X
  unfold x_dup2 at h
  split at h
  · next i x r9 =>
    intro H locs ls hP hD hS hl
    cases x with
    | none => exact lv_dup2_11 hx hb hdg rfl rfl (hk _ _ _ _ _ h H locs ls hP hD hS hl)
    | some a => exact lv_dup2_11 hx hb hdg rfl rfl (hk _ _ _ _ _ h H locs ls hP hD hS hl)
  · cases h
theorem sn_goto (X : CX p l R s m args meth c own cc nL ret D Λ d o) {off : Int} {tgt : Nat} (hdg : decode cc pc = .ok (.goto off, 3)) (ht : (pc : Int) + off = (tgt : Int)) : SN p l e R s m args below meth c nL D Λ FR Q pc (x_goto tgt) := by
  intro k L st A r hk h
  obtain ⟨hx, hb, hml, hown, hts, hKD, hR, hr, hlk, hO⟩ := X
  intro H locs ls hP hD hS hl
  exact lv_goto hx hb hdg ht (hk _ _ _ _ _ h H locs ls hP hD hS hl)
theorem sn_ifeq (X : CX p l R s m args meth c own cc nL ret D Λ d o) {off : Int} {tgt : Nat} (hdg : decode cc pc = .ok (.ifCond .eq off, 3)) (ht : (pc : Int) + off = (tgt : Int)) : SN p l e R s m args below meth c nL D Λ FR Q pc (x_ifeq tgt (pc + 3)) := by
  intro k L st A r hk h
  obtain ⟨hx, hb, hml, hown, hts, hKD, hR, hr, hlk, hO⟩ := X
  unfold x_ifeq at h
  split at h
  · next x r9 =>
    intro H locs ls hP hD hS hl
    split at h
    · next hc => exact lv_if_eq hx hb hdg ht (fun _ => hk _ _ _ _ _ h H locs ls hP hD hS hl) (fun q => absurd hc q)
    · next hc => exact lv_if_eq hx hb hdg ht (fun q => absurd q hc) (fun _ => hk _ _ _ _ _ h H locs ls hP hD hS hl)
  · cases h
theorem sn_ifne (X : CX p l R s m args meth c own cc nL ret D Λ d o) {off : Int} {tgt : Nat} (hdg : decode cc pc = .ok (.ifCond .ne off, 3)) (ht : (pc : Int) + off = (tgt : Int)) : SN p l e R s m args below meth c nL D Λ FR Q pc (x_ifne tgt (pc + 3)) := by
  intro k L st A r hk h
  obtain ⟨hx, hb, hml, hown, hts, hKD, hR, hr, hlk, hO⟩ := X
  unfold x_ifne at h
  split at h
  · next x r9 =>
    intro H locs ls hP hD hS hl
    split at h
    · next hc => exact lv_if_ne hx hb hdg ht (fun q => absurd hc q) (fun _ => hk _ _ _ _ _ h H locs ls hP hD hS hl)
    · next hc => exact lv_if_ne hx hb hdg ht (fun _ => hk _ _ _ _ _ h H locs ls hP hD hS hl) (fun q => absurd q hc)
  · cases h
theorem sn_iflt (X : CX p l R s m args meth c own cc nL ret D Λ d o) {off : Int} {tgt : Nat} (hdg : decode cc pc = .ok (.ifCond .lt off, 3)) (ht : (pc : Int) + off = (tgt : Int)) : SN p l e R s m args below meth c nL D Λ FR Q pc (x_iflt tgt (pc + 3)) := by
  intro k L st A r hk h
  obtain ⟨hx, hb, hml, hown, hts, hKD, hR, hr, hlk, hO⟩ := X
  unfold x_iflt at h
  split at h
  · next x r9 =>
    intro H locs ls hP hD hS hl
    split at h
    · next hc => exact lv_if_lt hx hb hdg ht (fun _ => hk _ _ _ _ _ h H locs ls hP hD hS hl) (fun q => absurd hc q)
    · next hc => exact lv_if_lt hx hb hdg ht (fun q => absurd q hc) (fun _ => hk _ _ _ _ _ h H locs ls hP hD hS hl)
  · cases h
theorem sn_ifge (X : CX p l R s m args meth c own cc nL ret D Λ d o) {off : Int} {tgt : Nat} (hdg : decode cc pc = .ok (.ifCond .ge off, 3)) (ht : (pc : Int) + off = (tgt : Int)) : SN p l e R s m args below meth c nL D Λ FR Q pc (x_ifge tgt (pc + 3)) := by
  intro k L st A r hk h
  obtain ⟨hx, hb, hml, hown, hts, hKD, hR, hr, hlk, hO⟩ := X
  unfold x_ifge at h
  split at h
  · next x r9 =>
    intro H locs ls hP hD hS hl
    split at h
    · next hc => exact lv_if_ge hx hb hdg ht (fun _ => hk _ _ _ _ _ h H locs ls hP hD hS hl) (fun q => absurd hc q)
    · next hc => exact lv_if_ge hx hb hdg ht (fun q => absurd q hc) (fun _ => hk _ _ _ _ _ h H locs ls hP hD hS hl)
  · cases h
theorem sn_ifgt (X : CX p l R s m args meth c own cc nL ret D Λ d o) {off : Int} {tgt : Nat} (hdg : decode cc pc = .ok (.ifCond .gt off, 3)) (ht : (pc : Int) + off = (tgt : Int)) : SN p l e R s m args below meth c nL D Λ FR Q pc (x_ifgt tgt (pc + 3)) := by
  intro k L st A r hk h
  obtain ⟨hx, hb, hml, hown, hts, hKD, hR, hr, hlk, hO⟩ := X
  unfold x_ifgt at h
  split at h
  · next x r9 =>
    intro H locs ls hP hD hS hl
    split at h
    · next hc => exact lv_if_gt hx hb hdg ht (fun _ => hk _ _ _ _ _ h H locs ls hP hD hS hl) (fun q => absurd hc q)
    · next hc => exact lv_if_gt hx hb hdg ht (fun q => absurd q hc) (fun _ => hk _ _ _ _ _ h H locs ls hP hD hS hl)
  · cases h
theorem sn_ifle (X : CX p l R s m args meth c own cc nL ret D Λ d o) {off : Int} {tgt : Nat} (hdg : decode cc pc = .ok (.ifCond .le off, 3)) (ht : (pc : Int) + off = (tgt : Int)) : SN p l e R s m args below meth c nL D Λ FR Q pc (x_ifle tgt (pc + 3)) := by
  intro k L st A r hk h
  obtain ⟨hx, hb, hml, hown, hts, hKD, hR, hr, hlk, hO⟩ := X
  unfold x_ifle at h
  split at h
  · next x r9 =>
    intro H locs ls hP hD hS hl
    split at h
    · next hc => exact lv_if_le hx hb hdg ht (fun _ => hk _ _ _ _ _ h H locs ls hP hD hS hl) (fun q => absurd hc q)
    · next hc => exact lv_if_le hx hb hdg ht (fun q => absurd q hc) (fun _ => hk _ _ _ _ _ h H locs ls hP hD hS hl)
  · cases h
theorem sn_ceq (X : CX p l R s m args meth c own cc nL ret D Λ d o) {off : Int} {tgt : Nat} (hdg : decode cc pc = .ok (.if_icmp .eq off, 3)) (ht : (pc : Int) + off = (tgt : Int)) : SN p l e R s m args below meth c nL D Λ FR Q pc (x_ceq tgt (pc + 3)) := by
  intro k L st A r hk h
  obtain ⟨hx, hb, hml, hown, hts, hKD, hR, hr, hlk, hO⟩ := X
  unfold x_ceq at h
  split at h
  · next y x r9 =>
    intro H locs ls hP hD hS hl
    split at h
    · next hc => exact lv_icmp_eq hx hb hdg ht (fun _ => hk _ _ _ _ _ h H locs ls hP hD hS hl) (fun q => absurd hc q)
    · next hc => exact lv_icmp_eq hx hb hdg ht (fun q => absurd q hc) (fun _ => hk _ _ _ _ _ h H locs ls hP hD hS hl)
  · cases h
theorem sn_cne (X : CX p l R s m args meth c own cc nL ret D Λ d o) {off : Int} {tgt : Nat} (hdg : decode cc pc = .ok (.if_icmp .ne off, 3)) (ht : (pc : Int) + off = (tgt : Int)) : SN p l e R s m args below meth c nL D Λ FR Q pc (x_cne tgt (pc + 3)) := by
  intro k L st A r hk h
  obtain ⟨hx, hb, hml, hown, hts, hKD, hR, hr, hlk, hO⟩ := X
  unfold x_cne at h
  split at h
  · next y x r9 =>
    intro H locs ls hP hD hS hl
    split at h
    · next hc => exact lv_icmp_ne hx hb hdg ht (fun q => absurd hc q) (fun _ => hk _ _ _ _ _ h H locs ls hP hD hS hl)
    · next hc => exact lv_icmp_ne hx hb hdg ht (fun _ => hk _ _ _ _ _ h H locs ls hP hD hS hl) (fun q => absurd q hc)
  · cases h
theorem sn_clt (X : CX p l R s m args meth c own cc nL ret D Λ d o) {off : Int} {tgt : Nat} (hdg : decode cc pc = .ok (.if_icmp .lt off, 3)) (ht : (pc : Int) + off = (tgt : Int)) : SN p l e R s m args below meth c nL D Λ FR Q pc (x_clt tgt (pc + 3)) := by
  intro k L st A r hk h
  obtain ⟨hx, hb, hml, hown, hts, hKD, hR, hr, hlk, hO⟩ := X
  unfold x_clt at h
  split at h
  · next y x r9 =>
    intro H locs ls hP hD hS hl
    split at h
    · next hc => exact lv_icmp_lt hx hb hdg ht (fun _ => hk _ _ _ _ _ h H locs ls hP hD hS hl) (fun q => absurd hc q)
    · next hc => exact lv_icmp_lt hx hb hdg ht (fun q => absurd q hc) (fun _ => hk _ _ _ _ _ h H locs ls hP hD hS hl)
  · cases h
theorem sn_cge (X : CX p l R s m args meth c own cc nL ret D Λ d o) {off : Int} {tgt : Nat} (hdg : decode cc pc = .ok (.if_icmp .ge off, 3)) (ht : (pc : Int) + off = (tgt : Int)) : SN p l e R s m args below meth c nL D Λ FR Q pc (x_cge tgt (pc + 3)) := by
  intro k L st A r hk h
  obtain ⟨hx, hb, hml, hown, hts, hKD, hR, hr, hlk, hO⟩ := X
  unfold x_cge at h
  split at h
  · next y x r9 =>
    intro H locs ls hP hD hS hl
    split at h
    · next hc => exact lv_icmp_ge hx hb hdg ht (fun _ => hk _ _ _ _ _ h H locs ls hP hD hS hl) (fun q => absurd hc q)
    · next hc => exact lv_icmp_ge hx hb hdg ht (fun q => absurd q hc) (fun _ => hk _ _ _ _ _ h H locs ls hP hD hS hl)
  · cases h
theorem sn_cgt (X : CX p l R s m args meth c own cc nL ret D Λ d o) {off : Int} {tgt : Nat} (hdg : decode cc pc = .ok (.if_icmp .gt off, 3)) (ht : (pc : Int) + off = (tgt : Int)) : SN p l e R s m args below meth c nL D Λ FR Q pc (x_cgt tgt (pc + 3)) := by
  intro k L st A r hk h
  obtain ⟨hx, hb, hml, hown, hts, hKD, hR, hr, hlk, hO⟩ := X
  unfold x_cgt at h
  split at h
  · next y x r9 =>
    intro H locs ls hP hD hS hl
    split at h
    · next hc => exact lv_icmp_gt hx hb hdg ht (fun _ => hk _ _ _ _ _ h H locs ls hP hD hS hl) (fun q => absurd hc q)
    · next hc => exact lv_icmp_gt hx hb hdg ht (fun q => absurd q hc) (fun _ => hk _ _ _ _ _ h H locs ls hP hD hS hl)
  · cases h
theorem sn_cle (X : CX p l R s m args meth c own cc nL ret D Λ d o) {off : Int} {tgt : Nat} (hdg : decode cc pc = .ok (.if_icmp .le off, 3)) (ht : (pc : Int) + off = (tgt : Int)) : SN p l e R s m args below meth c nL D Λ FR Q pc (x_cle tgt (pc + 3)) := by
  intro k L st A r hk h
  obtain ⟨hx, hb, hml, hown, hts, hKD, hR, hr, hlk, hO⟩ := X
  unfold x_cle at h
  split at h
  · next y x r9 =>
    intro H locs ls hP hD hS hl
    split at h
    · next hc => exact lv_icmp_le hx hb hdg ht (fun _ => hk _ _ _ _ _ h H locs ls hP hD hS hl) (fun q => absurd hc q)
    · next hc => exact lv_icmp_le hx hb hdg ht (fun q => absurd q hc) (fun _ => hk _ _ _ _ _ h H locs ls hP hD hS hl)
  · cases h
theorem sn_ifnull (X : CX p l R s m args meth c own cc nL ret D Λ d o) {off : Int} {tgt : Nat} (hdg : decode cc pc = .ok (.ifnull off, 3)) (ht : (pc : Int) + off = (tgt : Int)) : SN p l e R s m args below meth c nL D Λ FR Q pc (x_ifnull tgt (pc + 3)) := by
  intro k L st A r hk h
  obtain ⟨hx, hb, hml, hown, hts, hKD, hR, hr, hlk, hO⟩ := X
  unfold x_ifnull at h
  split at h
  · intro H locs ls hP hD hS hl
    split at h
    · exact lv_ifnullN hx hb hdg ht (hk _ _ _ _ _ h H locs ls hP hD hS hl)
    · exact lv_ifnull hx hb hdg (hk _ _ _ _ _ h H locs ls hP hD hS hl)
  · cases h
theorem sn_iret (X : CX p l R s m args meth c own cc nL (some .int) D Λ d o) (hdg : decode cc pc = .ok (.ireturn, 1)) : SN p l e R s m args below meth c nL D Λ FR (fun r => MQ below (QM D Λ r.1 r.2 FR) args s 0 0 FR) pc x_iret := by
  intro k L st A r hk h
  obtain ⟨hx, hb, hml, hown, hts, hKD, hR, hr, hlk, hO⟩ := X
  unfold x_iret at h
  split at h
  · next x =>
    cases h
    intro H locs ls hP hD hS hl
    exact W.iret (v := x) hx hb hr (fun t ht hW => ⟨⟨rfl, by rw [ht]; exact hP⟩, hS.F ht⟩) hS.2.2 hdg hlk
  · cases h
theorem sn_lret (X : CX p l R s m args meth c own cc nL (some .long) D Λ d o) (hdg : decode cc pc = .ok (.lreturn, 1)) : SN p l e R s m args below meth c nL D Λ FR (fun r => MQ below (QM D Λ r.1 r.2 FR) args s 0 0 FR) pc x_lret := by
  intro k L st A r hk h
  obtain ⟨hx, hb, hml, hown, hts, hKD, hR, hr, hlk, hO⟩ := X
  unfold x_lret at h
  split at h
  · next x =>
    cases h
    intro H locs ls hP hD hS hl
    exact W.lret (v := x) hx hb hr (fun t ht hW => ⟨⟨rfl, by rw [ht]; exact hP⟩, hS.F ht⟩) hS.2.2 hdg hlk
  · cases h
theorem sn_vret (X : CX p l R s m args meth c own cc nL none D Λ d o) (hdg : decode cc pc = .ok (.return_, 1)) : SN p l e R s m args below meth c nL D Λ FR (fun r => MQ below (QM D Λ r.1 r.2 FR) args s 0 0 FR) pc x_vret := by
  intro k L st A r hk h
  obtain ⟨hx, hb, hml, hown, hts, hKD, hR, hr, hlk, hO⟩ := X
  unfold x_vret at h
  split at h
  · cases h
    intro H locs ls hP hD hS hl
    exact W.vret hx hb hr (fun t ht hW => ⟨⟨rfl, by rw [ht]; exact hP⟩, hS.F ht⟩) hS.2.2 hdg hlk
  · cases h
theorem sn_zret (X : CX p l R s m args meth c own cc nL (some .boolean) D Λ d o) (hdg : decode cc pc = .ok (.ireturn, 1)) : SN p l e R s m args below meth c nL D Λ FR (fun r => MQ below (QM D Λ r.1 r.2 FR) args s 0 0 FR) pc x_zret := by
  intro k L st A r hk h
  obtain ⟨hx, hb, hml, hown, hts, hKD, hR, hr, hlk, hO⟩ := X
  unfold x_zret at h
  split at h
  · next x =>
    split at h
    · next e1 =>
      cases h
      subst e1
      intro H locs ls hP hD hS hl
      exact W.zret (v := 1) hx hb hr (by decide) (fun t ht hW => ⟨⟨rfl, by rw [ht]; exact hP⟩, hS.F ht⟩) hS.2.2 hdg hlk
    · split at h
      · next e1 =>
        cases h
        subst e1
        intro H locs ls hP hD hS hl
        exact W.zret (v := 0) hx hb hr (by decide) (fun t ht hW => ⟨⟨rfl, by rw [ht]; exact hP⟩, hS.F ht⟩) hS.2.2 hdg hlk
      · cases h
  · cases h
end SND
end
section
/-! soundness, the rest: switches, fields, arrays, calls; a method by its code; all methods by the depth -/
def tsok (pc : Nat) : Int → List Int → List (Int32 × Nat) → Bool
  | _, [], [] => true
  | n, f :: fs, c :: cs => decide (c.1.toInt = n) && decide ((pc : Int) + f = (c.2 : Int)) && tsok pc (n + 1) fs cs
  | _, _, _ => false
theorem sw_tab {pc : Nat} {k : Nat → Option RES} {x : Int32} {d : Nat} {r : RES} : ∀ (cs : List (Int32 × Nat)) (fs : List Int) (n : Int), tsok pc n fs cs = true → swk k x d cs = some r → (∃ (j : Nat) (f : Int) (t : Nat), fs[j]? = some f ∧ x.toInt = n + j ∧ (pc : Int) + f = (t : Int) ∧ k t = some r) ∨ ((x.toInt < n ∨ n + fs.length ≤ x.toInt) ∧ k d = some r)
  | [], [], n, _, h => Or.inr ⟨by simp; omega, h⟩
  | [], _ :: _, n, h0, h => by simp [tsok] at h0
  | _ :: _, [], n, h0, h => by simp [tsok] at h0
  | c :: cs, f :: fs, n, h0, h => by
    simp only [tsok, Bool.and_eq_true, decide_eq_true_eq] at h0
    unfold swk at h
    split at h
    · next e =>
      exact Or.inl ⟨0, f, c.2, rfl, by rw [e, h0.1.1]; simp, h0.1.2, h⟩
    · next e =>
      have hne : ¬ x.toInt = n := lv_neT e h0.1.1
      rcases sw_tab cs fs (n + 1) h0.2 h with ⟨j, f', t, h1, h2, h3, h4⟩ | ⟨h1, h2⟩
      · exact Or.inl ⟨j + 1, f', t, by simpa using h1, by rw [h2]; push_cast; omega, h3, h4⟩
      · refine Or.inr ⟨?_, h2⟩
        simp only [List.length_cons]
        push_cast
        omega
def lkok (pc : Nat) : List (Int × Int) → List (Int32 × Nat) → Bool
  | [], [] => true
  | f :: fs, c :: cs => decide (c.1.toInt = f.1) && decide ((pc : Int) + f.2 = (c.2 : Int)) && lkok pc fs cs
  | _, _ => false
theorem sw_lk {pc : Nat} {k : Nat → Option RES} {x : Int32} {d : Nat} {r : RES} {df : Int} (hd : (pc : Int) + df = (d : Int)) : ∀ (cs : List (Int32 × Nat)) (fs : List (Int × Int)), lkok pc fs cs = true → swk k x d cs = some r → ∃ t : Nat, (pc : Int) + Op.lookupswitch.offset fs df x.toInt = (t : Int) ∧ k t = some r
  | [], [], _, h => ⟨d, hd, h⟩
  | [], _ :: _, h0, h => by simp [lkok] at h0
  | _ :: _, [], h0, h => by simp [lkok] at h0
  | c :: cs, (a, b) :: fs, h0, h => by
    simp only [lkok, Bool.and_eq_true, decide_eq_true_eq] at h0
    unfold swk at h
    split at h
    · next e =>
      exact ⟨c.2, by rw [Op.lookupswitch.offset_cons, if_pos (by rw [e, h0.1.1])]; exact h0.1.2, h⟩
    · next e =>
      rw [lv_osw e h0.1.1]
      exact sw_lk hd cs fs h0.2 h
section SND
variable {p : Program} {l : Launch} {e : Env} {R : Room} {s : State} {m : MethodId} {args : Array Value} {below : List Frame} {meth : Method} {c : Code} {own : String} {cc : ByteArray} {nL d : Nat} {ret : Option FieldType} {D : va_G} {Λ : LAM} {FR : Nat → Prop} {Q : RES → State → Prop} {o : ORC} {pc : Nat}
theorem sn_tsw (X : CX p l R s m args meth c own cc nL ret D Λ d o) {df lo hi : Int} {offs : Array Int} {len dd : Nat} {cs : List (Int32 × Nat)} (hdg : decode cc pc = .ok (.tableswitch df lo hi offs, len)) (hok : tsok pc lo offs.toList cs = true) (hhi : hi + 1 = lo + offs.toList.length) (hd : (pc : Int) + df = (dd : Int)) : SN p l e R s m args below meth c nL D Λ FR Q pc (x_sw cs dd) := by
  intro k L st A r hk h
  obtain ⟨hx, hb, hml, hown, hts, hKD, hR, hr, hlk, hO⟩ := X
  unfold x_sw at h
  split at h
  · next x r9 =>
    intro H locs ls hP hD hS hl
    rcases sw_tab cs offs.toList lo hok h with ⟨j, f, t, h1, h2, h3, h4⟩ | ⟨h1, h2⟩
    · have hj := (List.getElem?_eq_some_iff.mp h1).1
      refine lv_tableIn hx hb hdg (by omega) (by omega) (off := f) ?_ h3 (hk _ _ _ _ _ h4 H locs ls hP hD hS hl)
      rw [show (x.toInt - lo).toNat = j by omega, ← Array.getElem?_toList]
      exact h1
    · exact lv_tableOut hx hb hdg (by omega) hd (hk _ _ _ _ _ h2 H locs ls hP hD hS hl)
  · cases h
theorem sn_lsw (X : CX p l R s m args meth c own cc nL ret D Λ d o) {df : Int} {ps : Array (Int × Int)} {len dd : Nat} {cs : List (Int32 × Nat)} (hdg : decode cc pc = .ok (.lookupswitch df ps, len)) (hp : (ps.toList.zip (ps.toList.drop 1)).all (fun (a, next) => a.1 < next.1) = true) (hok : lkok pc ps.toList cs = true) (hd : (pc : Int) + df = (dd : Int)) : SN p l e R s m args below meth c nL D Λ FR Q pc (x_sw cs dd) := by
  intro k L st A r hk h
  obtain ⟨hx, hb, hml, hown, hts, hKD, hR, hr, hlk, hO⟩ := X
  unfold x_sw at h
  split at h
  · next x r9 =>
    intro H locs ls hP hD hS hl
    obtain ⟨t, h1, h2⟩ := sw_lk hd cs ps.toList hok h
    exact lv_lookup hx hb hdg hp rfl h1 (hk _ _ _ _ _ h2 H locs ls hP hD hS hl)
  · cases h
theorem sn_getI (X : CX p l R s m args meth c own cc nL ret D Λ d o) {idx ci j N : Nat} {C : String} {T : u_T} (hc : CLS[ci]? = some (C, T, N)) (hin : ∀ w ∈ u_ws C T N, w ∈ GW) (hj : j < N) (hf : fkd ci j = some 0) (hlink : Cond.fieldLink own idx (T j).1 (T j).2.1 (T j).2.2.1 ∈ GW) (hdg : decode cc pc = .ok (.getfield idx, 3)) : SN p l e R s m args below meth c nL D Λ FR Q pc (x_getI ci j (pc + 3)) := by
  intro k L st A r hk h
  obtain ⟨hx, hb, hml, hown, hts, hKD, hR, hr, hlk, hO⟩ := X
  unfold x_getI at h
  split at h
  · next q9 r9 =>
    cases q9 with
    | none => cases h
    | some a =>
      have h : (if okc a ci then k (pc + 3) L (iv (A.1 a j) :: r9) A else none) = some r := h
      split at h
      · next hok =>
        intro H locs ls hP hD hS hl
        exact va_get (a := (Λ a).1) hx hb hts hin hown hKD.1 hP a (WD_at (okc_spec hok)) hc j hj (hts _ hlink) (fun _ h9 => h9) (flds_at hf) hdg (hk _ _ _ _ _ h H locs ls hP hD hS hl)
      · cases h
  · cases h
theorem sn_getJ (X : CX p l R s m args meth c own cc nL ret D Λ d o) {idx ci j N : Nat} {C : String} {T : u_T} (hc : CLS[ci]? = some (C, T, N)) (hin : ∀ w ∈ u_ws C T N, w ∈ GW) (hj : j < N) (hf : fkd ci j = some 1) (hlink : Cond.fieldLink own idx (T j).1 (T j).2.1 (T j).2.2.1 ∈ GW) (hdg : decode cc pc = .ok (.getfield idx, 3)) : SN p l e R s m args below meth c nL D Λ FR Q pc (x_getJ ci j (pc + 3)) := by
  intro k L st A r hk h
  obtain ⟨hx, hb, hml, hown, hts, hKD, hR, hr, hlk, hO⟩ := X
  unfold x_getJ at h
  split at h
  · next q9 r9 =>
    cases q9 with
    | none => cases h
    | some a =>
      have h : (if okc a ci then k (pc + 3) L (jv (A.2.1 a j) :: r9) A else none) = some r := h
      split at h
      · next hok =>
        intro H locs ls hP hD hS hl
        exact va_get (a := (Λ a).1) hx hb hts hin hown hKD.1 hP a (WD_at (okc_spec hok)) hc j hj (hts _ hlink) (fun _ h9 => h9) (flds_at hf) hdg (hk _ _ _ _ _ h H locs ls hP hD hS hl)
      · cases h
  · cases h
theorem sn_getR (X : CX p l R s m args meth c own cc nL ret D Λ d o) {idx ci j N : Nat} {C : String} {T : u_T} (hc : CLS[ci]? = some (C, T, N)) (hin : ∀ w ∈ u_ws C T N, w ∈ GW) (hj : j < N) (hf : fkd ci j = some 2) (hlink : Cond.fieldLink own idx (T j).1 (T j).2.1 (T j).2.2.1 ∈ GW) (hdg : decode cc pc = .ok (.getfield idx, 3)) : SN p l e R s m args below meth c nL D Λ FR Q pc (x_getR ci j (pc + 3)) := by
  intro k L st A r hk h
  obtain ⟨hx, hb, hml, hown, hts, hKD, hR, hr, hlk, hO⟩ := X
  unfold x_getR at h
  split at h
  · next q9 r9 =>
    cases q9 with
    | none => cases h
    | some a =>
      have h : (if okc a ci then k (pc + 3) L (rv (A.2.2 a j) :: r9) A else none) = some r := h
      split at h
      · next hok =>
        intro H locs ls hP hD hS hl
        exact va_get (a := (Λ a).1) hx hb hts hin hown hKD.1 hP a (WD_at (okc_spec hok)) hc j hj (hts _ hlink) (fun _ h9 => h9) (flds_at hf) hdg (hk _ _ _ _ _ h H locs ls hP hD hS hl)
      · cases h
  · cases h
theorem sn_putI (X : CX p l R s m args meth c own cc nL ret D Λ d o) {idx ci j N : Nat} {C : String} {T : u_T} (hc : CLS[ci]? = some (C, T, N)) (hin : ∀ w ∈ u_ws C T N, w ∈ GW) (ty0 : Nat → FieldType) (hty : ∀ k, k < N → parseFieldDescriptor (T k).2.2.1 = some (ty0 k)) (hnm : ∀ a, a < N → ∀ b, b < N → a ≠ b → (T a).2.1 ≠ (T b).2.1) (hj : j < N) (hf : fkd ci j = some 0) (hfin : (T j).2.2.2 = false) (hd : parseFieldDescriptor (T j).2.2.1 = some .int) (hlink : Cond.fieldLink own idx (T j).1 (T j).2.1 (T j).2.2.1 ∈ GW) (hdg : decode cc pc = .ok (.putfield idx, 3)) : SN p l e R s m args below meth c nL D Λ FR Q pc (x_putI ci j (pc + 3)) := by
  intro k L st A r hk h
  obtain ⟨hx, hb, hml, hown, hts, hKD, hR, hr, hlk, hO⟩ := X
  unfold x_putI at h
  split at h
  · next v9 q9 r9 =>
    cases q9 with
    | none => cases h
    | some a =>
      have h : (if okc a ci then k (pc + 3) L r9 (wr A.1 a j v9, A.2.1, A.2.2) else none) = some r := h
      split at h
      · next hok =>
        intro H locs ls hP hD hS hl
        have hsh := okc_spec hok
        have hB : (flds Λ A a ci).set j (.int v9) = flds Λ (wr A.1 a j v9, A.2.1, A.2.2) a ci := by
          have e1 : (.int v9 : Value) = fldv Λ (wr A.1 a j v9, A.2.1, A.2.2) a j 0 := by
            simp [fldv, wr, wrC_s, up1]
          rw [e1]
          refine flds_set hf (fun i u hi hu => ?_)
          match u with
          | 0 => simp [fldv, wr, wrC_s, up1, hi]
          | 1 => simp [fldv, wr, wrC_s, up1, hi]
          | u + 2 => simp [fldv, wr, wrC_s, up1, hi]
        have hW : (WD Λ A).set a ((Λ a).1, .inr (ci, (flds Λ A a ci).set j (.int v9))) = WD Λ (wr A.1 a j v9, A.2.1, A.2.2) := by
          rw [hB]
          refine WD_set (s := .inr ci) hsh (fun k9 s9 hk9 => cell_congr ?_ ?_ ?_)
          · first | rfl | exact wrC_n hk9
          · first | rfl | exact wrC_n hk9
          · first | rfl | exact wrC_n hk9
        refine va_put (a := (Λ a).1) (v := .int v9) hx hb hts hin ty0 hty hnm hown hKD.1 hP hD hS a (WD_at hsh) hc j hj (hts _ hlink) (fun _ h9 => h9) hfin hd rfl rfl (List.getElem?_eq_some_iff.mp (flds_at hf)).1 hdg (fun H1 locs1 hP1 hD1 hS1 => ?_)
        rw [hW] at hP1 hD1
        exact hk _ _ _ _ _ h H1 locs1 ls hP1 hD1 hS1 hl
      · cases h
  · cases h
theorem sn_putJ (X : CX p l R s m args meth c own cc nL ret D Λ d o) {idx ci j N : Nat} {C : String} {T : u_T} (hc : CLS[ci]? = some (C, T, N)) (hin : ∀ w ∈ u_ws C T N, w ∈ GW) (ty0 : Nat → FieldType) (hty : ∀ k, k < N → parseFieldDescriptor (T k).2.2.1 = some (ty0 k)) (hnm : ∀ a, a < N → ∀ b, b < N → a ≠ b → (T a).2.1 ≠ (T b).2.1) (hj : j < N) (hf : fkd ci j = some 1) (hfin : (T j).2.2.2 = false) (hd : parseFieldDescriptor (T j).2.2.1 = some .long) (hlink : Cond.fieldLink own idx (T j).1 (T j).2.1 (T j).2.2.1 ∈ GW) (hdg : decode cc pc = .ok (.putfield idx, 3)) : SN p l e R s m args below meth c nL D Λ FR Q pc (x_putJ ci j (pc + 3)) := by
  intro k L st A r hk h
  obtain ⟨hx, hb, hml, hown, hts, hKD, hR, hr, hlk, hO⟩ := X
  unfold x_putJ at h
  split at h
  · next v9 q9 r9 =>
    cases q9 with
    | none => cases h
    | some a =>
      have h : (if okc a ci then k (pc + 3) L r9 (A.1, wr A.2.1 a j v9, A.2.2) else none) = some r := h
      split at h
      · next hok =>
        intro H locs ls hP hD hS hl
        have hsh := okc_spec hok
        have hB : (flds Λ A a ci).set j (.long v9) = flds Λ (A.1, wr A.2.1 a j v9, A.2.2) a ci := by
          have e1 : (.long v9 : Value) = fldv Λ (A.1, wr A.2.1 a j v9, A.2.2) a j 1 := by
            simp [fldv, wr, wrC_s, up1]
          rw [e1]
          refine flds_set hf (fun i u hi hu => ?_)
          match u with
          | 0 => simp [fldv, wr, wrC_s, up1, hi]
          | 1 => simp [fldv, wr, wrC_s, up1, hi]
          | u + 2 => simp [fldv, wr, wrC_s, up1, hi]
        have hW : (WD Λ A).set a ((Λ a).1, .inr (ci, (flds Λ A a ci).set j (.long v9))) = WD Λ (A.1, wr A.2.1 a j v9, A.2.2) := by
          rw [hB]
          refine WD_set (s := .inr ci) hsh (fun k9 s9 hk9 => cell_congr ?_ ?_ ?_)
          · first | rfl | exact wrC_n hk9
          · first | rfl | exact wrC_n hk9
          · first | rfl | exact wrC_n hk9
        refine va_put (a := (Λ a).1) (v := .long v9) hx hb hts hin ty0 hty hnm hown hKD.1 hP hD hS a (WD_at hsh) hc j hj (hts _ hlink) (fun _ h9 => h9) hfin hd rfl rfl (List.getElem?_eq_some_iff.mp (flds_at hf)).1 hdg (fun H1 locs1 hP1 hD1 hS1 => ?_)
        rw [hW] at hP1 hD1
        exact hk _ _ _ _ _ h H1 locs1 ls hP1 hD1 hS1 hl
      · cases h
  · cases h
theorem sn_putR (X : CX p l R s m args meth c own cc nL ret D Λ d o) {idx ci j N : Nat} {C : String} {T : u_T} (hc : CLS[ci]? = some (C, T, N)) (hin : ∀ w ∈ u_ws C T N, w ∈ GW) (ty0 : Nat → FieldType) (hty : ∀ k, k < N → parseFieldDescriptor (T k).2.2.1 = some (ty0 k)) (hnm : ∀ a, a < N → ∀ b, b < N → a ≠ b → (T a).2.1 ≠ (T b).2.1) (hj : j < N) (hf : fkd ci j = some 2) (hfin : (T j).2.2.2 = false) {nm : String} (hd : parseFieldDescriptor (T j).2.2.1 = some (.object nm)) (hlink : Cond.fieldLink own idx (T j).1 (T j).2.1 (T j).2.2.1 ∈ GW) (hdg : decode cc pc = .ok (.putfield idx, 3)) : SN p l e R s m args below meth c nL D Λ FR Q pc (x_putR ci j (pc + 3)) := by
  intro k L st A r hk h
  obtain ⟨hx, hb, hml, hown, hts, hKD, hR, hr, hlk, hO⟩ := X
  unfold x_putR at h
  split at h
  · next v9 q9 r9 =>
    cases q9 with
    | none => cases h
    | some a =>
      have h : (if okc a ci then k (pc + 3) L r9 (A.1, A.2.1, wr A.2.2 a j v9) else none) = some r := h
      split at h
      · next hok =>
        intro H locs ls hP hD hS hl
        have hsh := okc_spec hok
        have hB : (flds Λ A a ci).set j (va_rf (adr Λ v9)) = flds Λ (A.1, A.2.1, wr A.2.2 a j v9) a ci := by
          have e1 : (va_rf (adr Λ v9) : Value) = fldv Λ (A.1, A.2.1, wr A.2.2 a j v9) a j 2 := by
            simp [fldv, wr, wrC_s, up1]
          rw [e1]
          refine flds_set hf (fun i u hi hu => ?_)
          match u with
          | 0 => simp [fldv, wr, wrC_s, up1, hi]
          | 1 => simp [fldv, wr, wrC_s, up1, hi]
          | u + 2 => simp [fldv, wr, wrC_s, up1, hi]
        have hW : (WD Λ A).set a ((Λ a).1, .inr (ci, (flds Λ A a ci).set j (va_rf (adr Λ v9)))) = WD Λ (A.1, A.2.1, wr A.2.2 a j v9) := by
          rw [hB]
          refine WD_set (s := .inr ci) hsh (fun k9 s9 hk9 => cell_congr ?_ ?_ ?_)
          · first | rfl | exact wrC_n hk9
          · first | rfl | exact wrC_n hk9
          · first | rfl | exact wrC_n hk9
        refine va_put (a := (Λ a).1) (v := va_rf (adr Λ v9)) hx hb hts hin ty0 hty hnm hown hKD.1 hP hD hS a (WD_at hsh) hc j hj (hts _ hlink) (fun _ h9 => h9) hfin hd (by cases v9 <;> rfl) (by cases v9 <;> rfl) (List.getElem?_eq_some_iff.mp (flds_at hf)).1 hdg (fun H1 locs1 hP1 hD1 hS1 => ?_)
        rw [hW] at hP1 hD1
        exact hk _ _ _ _ _ h H1 locs1 ls hP1 hD1 hS1 hl
      · cases h
  · cases h
theorem sn_iald (X : CX p l R s m args meth c own cc nL ret D Λ d o) (hdg : decode cc pc = .ok (.iaload, 1)) : SN p l e R s m args below meth c nL D Λ FR Q pc (x_ald 0 (pc + 1)) := by
  intro k L st A r hk h
  obtain ⟨hx, hb, hml, hown, hts, hKD, hR, hr, hlk, hO⟩ := X
  unfold x_ald at h
  split at h
  · next i9 q9 r9 =>
    cases q9 with
    | none => cases h
    | some a =>
      have h : (if inb i9 (alen 0 a) then k (pc + 1) L (iv (A.1 a i9.toNatClampNeg) :: r9) A else none) = some r := h
      split at h
      · next hok =>
        intro H locs ls hP hD hS hl
        obtain ⟨hsh, hin⟩ := alen_spec hok
        exact va_iald (a := (Λ a).1) (tys := [((Λ a).2, TYS 0)]) hx hb (hKD.2.1 a 0 _ hsh) hP a 0 (WD_at hsh) rfl hin hdg (hk _ _ _ _ _ h H locs ls hP hD hS hl)
      · cases h
  · cases h
theorem sn_zald (X : CX p l R s m args meth c own cc nL ret D Λ d o) (hdg : decode cc pc = .ok (.baload, 1)) : SN p l e R s m args below meth c nL D Λ FR Q pc (x_ald 1 (pc + 1)) := by
  intro k L st A r hk h
  obtain ⟨hx, hb, hml, hown, hts, hKD, hR, hr, hlk, hO⟩ := X
  unfold x_ald at h
  split at h
  · next i9 q9 r9 =>
    cases q9 with
    | none => cases h
    | some a =>
      have h : (if inb i9 (alen 1 a) then k (pc + 1) L (iv (A.1 a i9.toNatClampNeg) :: r9) A else none) = some r := h
      split at h
      · next hok =>
        intro H locs ls hP hD hS hl
        obtain ⟨hsh, hin⟩ := alen_spec hok
        exact va_zald (a := (Λ a).1) (tys := [((Λ a).2, TYS 1)]) hx hb (hKD.2.1 a 1 _ hsh) hP a 0 (WD_at hsh) rfl hin hdg (hk _ _ _ _ _ h H locs ls hP hD hS hl)
      · cases h
  · cases h
theorem sn_rald (X : CX p l R s m args meth c own cc nL ret D Λ d o) (hdg : decode cc pc = .ok (.aaload, 1)) : SN p l e R s m args below meth c nL D Λ FR Q pc (x_aald 2 (pc + 1)) := by
  intro k L st A r hk h
  obtain ⟨hx, hb, hml, hown, hts, hKD, hR, hr, hlk, hO⟩ := X
  unfold x_aald at h
  split at h
  · next i9 q9 r9 =>
    cases q9 with
    | none => cases h
    | some a =>
      have h : (if inb i9 (alen 2 a) then k (pc + 1) L (rv (A.2.2 a i9.toNatClampNeg) :: r9) A else none) = some r := h
      split at h
      · next hok =>
        intro H locs ls hP hD hS hl
        obtain ⟨hsh, hin⟩ := alen_spec hok
        have hlt : i9.toNatClampNeg < alen 2 a := Nat.not_le.mp fun q => hin (Or.inr q)
        exact W.aald (v := va_rf (adr Λ (A.2.2 a i9.toNatClampNeg))) (ty := TYS 2) hx hb (hP a _ (WD_at hsh)) (((hKD.2.1 a 2 _ hsh).2 0 _ rfl).1 (alen 2 a) (fun j => va_rf (adr Λ (A.2.2 a j)))) rfl (fun q => by cases q) (by show ¬ (i9 < 0 ∨ (arrV _ _ _).slots.size ≤ _); rw [arrV_size]; exact hin) (by show (arrV _ _ _).slots[_]? = _; rw [arrV_read _ _ hlt]) rfl rfl hdg (hk _ _ _ _ _ h H locs ls hP hD hS hl)
      · cases h
  · cases h
theorem sn_dald (X : CX p l R s m args meth c own cc nL ret D Λ d o) (hdg : decode cc pc = .ok (.aaload, 1)) : SN p l e R s m args below meth c nL D Λ FR Q pc (x_aald 3 (pc + 1)) := by
  intro k L st A r hk h
  obtain ⟨hx, hb, hml, hown, hts, hKD, hR, hr, hlk, hO⟩ := X
  unfold x_aald at h
  split at h
  · next i9 q9 r9 =>
    cases q9 with
    | none => cases h
    | some a =>
      have h : (if inb i9 (alen 3 a) then k (pc + 1) L (rv (A.2.2 a i9.toNatClampNeg) :: r9) A else none) = some r := h
      split at h
      · next hok =>
        intro H locs ls hP hD hS hl
        obtain ⟨hsh, hin⟩ := alen_spec hok
        have hlt : i9.toNatClampNeg < alen 3 a := Nat.not_le.mp fun q => hin (Or.inr q)
        exact W.aald (v := va_rf (adr Λ (A.2.2 a i9.toNatClampNeg))) (ty := TYS 3) hx hb (hP a _ (WD_at hsh)) (((hKD.2.1 a 3 _ hsh).2 0 _ rfl).1 (alen 3 a) (fun j => va_rf (adr Λ (A.2.2 a j)))) rfl (fun q => by cases q) (by show ¬ (i9 < 0 ∨ (arrV _ _ _).slots.size ≤ _); rw [arrV_size]; exact hin) (by show (arrV _ _ _).slots[_]? = _; rw [arrV_read _ _ hlt]) rfl rfl hdg (hk _ _ _ _ _ h H locs ls hP hD hS hl)
      · cases h
  · cases h
theorem sn_iast (X : CX p l R s m args meth c own cc nL ret D Λ d o) (hdg : decode cc pc = .ok (.iastore, 1)) : SN p l e R s m args below meth c nL D Λ FR Q pc (x_iast (pc + 1)) := by
  intro k L st A r hk h
  obtain ⟨hx, hb, hml, hown, hts, hKD, hR, hr, hlk, hO⟩ := X
  unfold x_iast at h
  split at h
  · next v9 i9 q9 r9 =>
    cases q9 with
    | none => cases h
    | some a =>
      have h : (if inb i9 (alen 0 a) then k (pc + 1) L r9 (wr A.1 a i9.toNatClampNeg v9, A.2.1, A.2.2) else none) = some r := h
      split at h
      · next hok =>
        intro H locs ls hP hD hS hl
        obtain ⟨hsh, hin⟩ := alen_spec hok
        have hW : (WD Λ A).set a ((Λ a).1, .inl ((Λ a).2, alen 0 a, .inl (upd (A.1 a) i9.toNatClampNeg v9))) = WD Λ (wr A.1 a i9.toNatClampNeg v9, A.2.1, A.2.2) := by
          rw [show (.inl ((Λ a).2, alen 0 a, .inl (upd (A.1 a) i9.toNatClampNeg v9)) : va_E) = cellOf Λ (wr A.1 a i9.toNatClampNeg v9, A.2.1, A.2.2) a (.inl (0, alen 0 a)) by simp only [cellOf, wr, wrC_s]; rfl]
          exact WD_set hsh (fun k9 s9 hk9 => cell_congr (wrC_n hk9) rfl rfl)
        refine va_iast (a := (Λ a).1) (tys := [((Λ a).2, TYS 0)]) hx hb (hKD.2.1 a 0 _ hsh) hP hD hS a 0 (WD_at hsh) rfl hin hdg (fun H1 locs1 hP1 hD1 hS1 => ?_)
        rw [hW] at hP1 hD1
        exact hk _ _ _ _ _ h H1 locs1 ls hP1 hD1 hS1 hl
      · cases h
  · cases h
theorem sn_zast (X : CX p l R s m args meth c own cc nL ret D Λ d o) (hdg : decode cc pc = .ok (.bastore, 1)) : SN p l e R s m args below meth c nL D Λ FR Q pc (x_zast (pc + 1)) := by
  intro k L st A r hk h
  obtain ⟨hx, hb, hml, hown, hts, hKD, hR, hr, hlk, hO⟩ := X
  unfold x_zast at h
  split at h
  · next v9 i9 q9 r9 =>
    cases q9 with
    | none => cases h
    | some a =>
      have h : (if inb i9 (alen 1 a) then k (pc + 1) L r9 (wr A.1 a i9.toNatClampNeg (vp_nar .boolean v9), A.2.1, A.2.2) else none) = some r := h
      split at h
      · next hok =>
        intro H locs ls hP hD hS hl
        obtain ⟨hsh, hin⟩ := alen_spec hok
        have hW : (WD Λ A).set a ((Λ a).1, .inl ((Λ a).2, alen 1 a, .inl (upd (A.1 a) i9.toNatClampNeg (vp_nar .boolean v9)))) = WD Λ (wr A.1 a i9.toNatClampNeg (vp_nar .boolean v9), A.2.1, A.2.2) := by
          rw [show (.inl ((Λ a).2, alen 1 a, .inl (upd (A.1 a) i9.toNatClampNeg (vp_nar .boolean v9))) : va_E) = cellOf Λ (wr A.1 a i9.toNatClampNeg (vp_nar .boolean v9), A.2.1, A.2.2) a (.inl (1, alen 1 a)) by simp only [cellOf, wr, wrC_s]; rfl]
          exact WD_set hsh (fun k9 s9 hk9 => cell_congr (wrC_n hk9) rfl rfl)
        refine va_zast (a := (Λ a).1) (tys := [((Λ a).2, TYS 1)]) hx hb (hKD.2.1 a 1 _ hsh) hP hD hS a 0 (WD_at hsh) rfl hin hdg (fun H1 locs1 hP1 hD1 hS1 => ?_)
        rw [hW] at hP1 hD1
        exact hk _ _ _ _ _ h H1 locs1 ls hP1 hD1 hS1 hl
      · cases h
  · cases h
theorem sn_alen (X : CX p l R s m args meth c own cc nL ret D Λ d o) (hdg : decode cc pc = .ok (.arraylength, 1)) : SN p l e R s m args below meth c nL D Λ FR Q pc (x_alen (pc + 1)) := by
  intro k L st A r hk h
  obtain ⟨hx, hb, hml, hown, hts, hKD, hR, hr, hlk, hO⟩ := X
  unfold x_alen at h
  split at h
  · next q9 r9 =>
    cases q9 with
    | none => cases h
    | some a =>
      have h : ((alO a).bind fun n => k (pc + 1) L (iv (nI n) :: r9) A) = some r := h
      cases hn : alO a with
      | none => rw [hn] at h; cases h
      | some n =>
        rw [hn] at h
        have h : k (pc + 1) L (iv (nI n) :: r9) A = some r := h
        intro H locs ls hP hD hS hl
        unfold alO at hn
        split at hn
        · next x hx9 =>
          cases hn
          exact va_alen (a := (Λ a).1) (tys := [((Λ a).2, TYS x.1)]) (ty := TYS x.1) hx hb (hKD.2.1 a x.1 x.2 hx9) hP a 0 (WD_at hx9) rfl rfl hdg (hk _ _ _ _ _ h H locs ls hP hD hS hl)
        · cases hn
  · cases h
theorem alen_pos {t a : Nat} (h : 0 < alen t a) : lgt SH a = some (.inl (t, alen t a)) := by
  unfold alen at h ⊢
  split at h
  · next x hx =>
    cases hb : Nat.beq x.1 t with
    | true =>
      rw [hx]
      simp only [hb, cond_true]
      rw [← Nat.eq_of_beq_eq_true hb]
    | false =>
      rw [hb] at h
      simp at h
  · omega
theorem sn_copy (X : CX p l R s m args meth c own cc nL ret D Λ d o) {idx : Nat} (hlink : Cond.methodLink own idx arraycopyName ∈ GW) (hnat : Cond.native arraycopyName ∈ GW) (hstat : Cond.static arraycopyName ∈ GW) (hini : Cond.initialized "java/lang/System" ∈ GW) (hdg : decode cc pc = .ok (.invokestatic idx, 3)) : SN p l e R s m args below meth c nL D Λ FR Q pc (x_copy (pc + 3)) := by
  intro k L st A r hk h
  obtain ⟨hx, hb, hml, hown, hts, hKD, hR, hr, hlk, hO⟩ := X
  unfold x_copy at h
  split at h
  · next n dp q9 sp o9 r9 =>
    cases o9 with
    | none => cases h
    | some a =>
      cases q9 with
      | none => cases h
      | some b =>
        have h : (if okcp a b sp dp n then (bif Nat.ble (cats r9) 8 then k (pc + 3) L r9 (wrC A.1 b (va_cpy (A.1 a) (A.1 b) sp.toNatClampNeg dp.toNatClampNeg n.toNatClampNeg), A.2.1, A.2.2) else none) else none) = some r := h
        split at h
        · next hok =>
          cases hc : Nat.ble (cats r9) 8 with
          | false => rw [hc] at h; cases h
          | true =>
            rw [hc] at h
            have h : k (pc + 3) L r9 (wrC A.1 b (va_cpy (A.1 a) (A.1 b) sp.toNatClampNeg dp.toNatClampNeg n.toNatClampNeg), A.2.1, A.2.2) = some r := h
            have hcat := Nat.le_of_ble_eq_true hc
            intro H locs ls hP hD hS hl
            unfold okcp at hok
            simp only [Bool.and_eq_true, decide_eq_true_eq] at hok
            obtain ⟨⟨⟨⟨⟨⟨h1, h2⟩, h3⟩, h4⟩, h5⟩, h6⟩, h7⟩ := hok
            have ha := alen_pos h6
            have hb' := alen_pos h7
            have hW : (WD Λ A).set b ((Λ b).1, .inl ((Λ b).2, alen 0 b, .inl (va_cpy (A.1 a) (A.1 b) sp.toNatClampNeg dp.toNatClampNeg n.toNatClampNeg))) = WD Λ (wrC A.1 b (va_cpy (A.1 a) (A.1 b) sp.toNatClampNeg dp.toNatClampNeg n.toNatClampNeg), A.2.1, A.2.2) := by
              rw [show (.inl ((Λ b).2, alen 0 b, .inl (va_cpy (A.1 a) (A.1 b) sp.toNatClampNeg dp.toNatClampNeg n.toNatClampNeg)) : va_E) = cellOf Λ (wrC A.1 b (va_cpy (A.1 a) (A.1 b) sp.toNatClampNeg dp.toNatClampNeg n.toNatClampNeg), A.2.1, A.2.2) b (.inl (0, alen 0 b)) by simp only [cellOf, wrC_s]; rfl]
              exact WD_set hb' (fun k9 s9 hk9 => cell_congr (wrC_n hk9) rfl rfl)
            have hK2 : va_K D CLS [((Λ a).2, TYS 0), ((Λ b).2, TYS 0)] s := (hKD.2.1 a 0 _ ha).app (hKD.2.1 b 0 _ hb')
            refine va_copyi (a0 := (Λ a).1) (a := (Λ b).1) (tys := [((Λ a).2, TYS 0), ((Λ b).2, TYS 0)]) (ty := .int) hx hb (by rw [hml]; exact hl.1.symm) hown (hts _ hlink) (hts _ hnat) (hts _ hstat) (hts _ hini) hK2 hP hD hS a b 0 1 (WD_at ha) (WD_at hb') rfl rfl rfl h1 h2 h3 h4 h5 (fun i _ => rfl) (by have := hR.1; omega) ?_ hdg (fun H1 locs1 hP1 hD1 hS1 => ?_)
            · rw [cats_sum]
              have : nativeFrameWords "java/lang/System" "arraycopy" 5 = 7 := by decide +kernel
              rw [this]
              have := hR.2
              omega
            · rw [hW] at hP1 hD1
              exact hk _ _ _ _ _ h H1 locs1 ls hP1 hD1 hS1 hl
        · cases h
  · cases h
end SND
end
section
/-! soundness of calls; of a method by its code; of all methods by the depth -/
section SND
variable {p : Program} {l : Launch} {e : Env} {R : Room} {s : State} {m : MethodId} {args : Array Value} {below : List Frame} {meth : Method} {c : Code} {own : String} {cc : ByteArray} {nL d : Nat} {ret : Option FieldType} {D : va_G} {Λ : LAM} {FR : Nat → Prop} {Q : RES → State → Prop} {o : ORC} {pc : Nat}
theorem callG {H : Heap} {locs : List Loc} {ls : Array Slot} {st0 rest : List Value} {v : AV} {B : AH} {A1 free : Nat → Prop} {a : Array Value} {Q : State → Prop} (hr : va_Run p l e R s m args below meth c H locs 0 0 0 0 (F0 m pc ls st0) rest (QM D Λ v B A1 a) free) (hS : va_S FR s.heap H locs) (hA : ∀ q, q < H.size → A1 q → FR q) (hf : ∀ q, free q → FR q)
    (kk : ∀ (H1 : Heap) (locs1 : List Loc), va_P D CLS (WD Λ B) H1 → va_S FR s.heap H1 locs1 → W p l e R s m args below meth c H1 locs1 0 0 Q (F0 m (pc + 3) ls ((cvr v).toList ++ rest))) : W p l e R s m args below meth c H locs 0 0 Q (F0 m pc ls st0) := by
  intro T hT X
  obtain ⟨w, st₀, t, T', L, h0, X', hL, e1, e2, ⟨⟨hv, hp⟩, hz, hk⟩, st⟩ := hr T hT X
  have hv : w = cvr v := by injection hv
  subst hv
  rw [h0] at hz hk
  obtain ⟨t2, a1, b1⟩ := kk T'.heap (locs ++ L) (by rw [e1]; exact hp)
    ⟨Nat.le_trans hS.1 (by rw [e1]; exact hz), fun q h1 h2 => by rw [e1, hk q (Nat.lt_of_lt_of_le h1 hS.1) (fun z => h2 (hA q (Nat.lt_of_lt_of_le h1 hS.1) z))]; exact hS.2.1 q h1 h2, fun q hq => by
      rcases List.mem_append.mp hq with h | h
      · exact hS.2.2 q h
      · exact hf _ (hL q h)⟩ T' rfl X'
  exact ⟨t2, st t2 a1, b1⟩
theorem fr_in {A : AH} {H : Heap} {locs : List Loc} (hD : va_D FR (WD Λ A)) (hS : va_S FR s.heap H locs) (hFR : ∀ q, s.heap.size ≤ q → FR q) : ∀ q, va_A (WD Λ A) H.size q → FR q := by
  intro q h
  rcases h with ⟨k, e, h⟩ | h
  · exact hD.2 k _ h
  · exact hFR q (Nat.le_trans hS.1 h)
theorem pm_blind {A : AH} {as : List AV} {sz : Nat} : FrameBlind (PM D Λ A as sz) := by
  intro a U g mk h
  obtain ⟨h1, h2, h3, h4, h5⟩ := h
  exact ⟨h1, h2, h3, h4.call, h5⟩
theorem pm_at {A : AH} {as : List AV} {H : Heap} (hK : KD D Λ s) (hP : va_P D CLS (WD Λ A) H) (hD : va_D FR (WD Λ A)) : ∀ U : State, U.heap = H → s.WarmedH U.vm → PM D Λ A as H.size (as.map (cv Λ)).toArray U := fun U hU hW => ⟨rfl, by rw [hU], by rw [hU]; exact hP, hK.warm hW, hD.weaken (fun _ _ _ _ => trivial)⟩
theorem okst_spec {n : Nat} {st : List AV} (h : okst n st = true) : n ≤ st.length ∧ cats (st.drop n) ≤ 8 := by
  unfold okst at h
  simp only [Bool.and_eq_true] at h
  exact ⟨Nat.le_of_ble_eq_true h.1, Nat.le_of_ble_eq_true h.2⟩
theorem vcall (X : CX p l R s m args meth c own cc nL ret D Λ d o) (hFR : ∀ q, s.heap.size ≤ q → FR q) {i : MIn} {np idx ci y N : Nat} {T : u_T} (hy : lgt MT y = some i) (hc : CLS[ci]? = some (i.1.cls, T, N)) (hm : MF i np) (hlink : Cond.methodLink own idx i.1 ∈ GW) (hinst : Cond.instanceMethod i.1 ∈ GW) (hsel : Cond.selects i.1.cls i.1 i.1 ∈ GW) (hdg : decode cc pc = .ok (.invokevirtual idx, 3))
    {st : List AV} {A : AH} {v : AV} {B : AH} {Q : State → Prop} (hst : okst (np + 1) st = true) (hrc : rcv (st.take (np + 1)).reverse ci = true) (ho : o y (st.take (np + 1)).reverse A = some (v, B)) {H : Heap} {locs : List Loc} {ls : Array Slot} (hP : va_P D CLS (WD Λ A) H) (hD : va_D FR (WD Λ A)) (hS : va_S FR s.heap H locs) (hls : ls.size = nL)
    (kk : ∀ (H1 : Heap) (locs1 : List Loc), va_P D CLS (WD Λ B) H1 → va_D FR (WD Λ B) → va_S FR s.heap H1 locs1 → W p l e R s m args below meth c H1 locs1 0 0 Q (F0 m (pc + 3) ls ((cvr v).toList ++ (st.drop (np + 1)).map (cv Λ)))) : W p l e R s m args below meth c H locs 0 0 Q (F0 m pc ls (st.map (cv Λ))) := by
  obtain ⟨hx, hb, hml, hown, hts, hKD, hR, hr, hlk, hO⟩ := X
  obtain ⟨hcode, hini, hnm, hmx⟩ := hm
  obtain ⟨h1, h2⟩ := okst_spec hst
  have hsplit : st = st.take (np + 1) ++ st.drop (np + 1) := (List.take_append_drop _ _).symm
  generalize hrest : st.drop (np + 1) = rest at *
  have hlen : (st.take (np + 1)).length = np + 1 := by rw [List.length_take]; omega
  generalize hT9 : st.take (np + 1) = tk at *
  obtain ⟨b, as', hba⟩ : ∃ b as', tk.reverse = rv (some b) :: as' := by
    unfold rcv at hrc
    split at hrc
    · next b t hq => exact ⟨b, t, hq⟩
    · cases hrc
  rw [hba] at ho hrc
  have hrc : okc b ci = true := hrc
  have htk : tk = as'.reverse ++ [rv (some b)] := by
    have := congrArg List.reverse hba
    simpa using this
  have hl' : as'.length = np := by
    rw [htk] at hlen
    simpa using hlen
  have hsh := okc_spec hrc
  have hFc := fr_in hD hS hFR
  have hM := hO y _ A v B ho i hy H.size
  have cw : CallW R s args own i.1.cls idx i.1 i.2.1 i.2.2.1 i.2.2.2 (.code i.1 i.2.1 i.2.2.1 i.2.2.2 :: GW) (rmd d) 0 0 np := ⟨callB_of np hts (gw_in hcode) rfl rfl rfl (hts _ hini) (hts _ hlink) hnm ⟨hR.1, by show 8 + (i.2.2.1 + 11) + 300 * d ≤ R.locals; have := hR.2; omega⟩, hts _ hinst, hts _ hsel⟩
  have hstk : st.map (cv Λ) = (as'.map (cv Λ)).reverse ++ .ref (Λ b).1 :: rest.map (cv Λ) := by
    rw [hsplit, htk]
    simp [List.map_reverse, cv, adr, va_rf]
  rw [hstk]
  refine callG (A1 := va_A (WD Λ A) H.size) (free := va_A (WD Λ A) H.size) (va_runV (n := np) (b := (Λ b).1) (As := as'.map (cv Λ)) (rest := rest.map (cv Λ)) ⟨hx, hb, hml, hown, hts⟩ hM cw ⟨pm_blind, va_recv hKD.1 hP hc (WD_at hsh), pm_at hKD hP hD⟩ rfl (by simpa using hl') hls rfl (lv_room (by rw [cats_sum]; exact h2)) hdg ⟨Nat.zero_le _, Nat.zero_le _⟩) hS (fun q _ h => hFc q h) hFc (fun H1 locs1 hP1 hS1 => ?_)
  exact kk H1 locs1 hP1 (WD_D hD (fun _ h => h)) hS1
theorem scall (X : CX p l R s m args meth c own cc nL ret D Λ d o) (hFR : ∀ q, s.heap.size ≤ q → FR q) {i : MIn} {np idx y : Nat} (hy : lgt MT y = some i) (hm : MF i np) (hlink : Cond.methodLink own idx i.1 ∈ GW ∨ ∃ host, va_Nw (.methodLinkNest own idx i.1 host) s) (hstat : Cond.static i.1 ∈ GW) (hdg : decode cc pc = .ok (.invokestatic idx, 3))
    {st : List AV} {A : AH} {v : AV} {B : AH} {Q : State → Prop} (hst : okst np st = true) (ho : o y (st.take np).reverse A = some (v, B)) {H : Heap} {locs : List Loc} {ls : Array Slot} (hP : va_P D CLS (WD Λ A) H) (hD : va_D FR (WD Λ A)) (hS : va_S FR s.heap H locs) (hls : ls.size = nL)
    (kk : ∀ (H1 : Heap) (locs1 : List Loc), va_P D CLS (WD Λ B) H1 → va_D FR (WD Λ B) → va_S FR s.heap H1 locs1 → W p l e R s m args below meth c H1 locs1 0 0 Q (F0 m (pc + 3) ls ((cvr v).toList ++ (st.drop np).map (cv Λ)))) : W p l e R s m args below meth c H locs 0 0 Q (F0 m pc ls (st.map (cv Λ))) := by
  obtain ⟨hx, hb, hml, hown, hts, hKD, hR, hr, hlk, hO⟩ := X
  obtain ⟨hcode, hini, hnm, hmx⟩ := hm
  obtain ⟨h1, h2⟩ := okst_spec hst
  have hsplit : st = st.take np ++ st.drop np := (List.take_append_drop _ _).symm
  generalize hrest : st.drop np = rest at *
  have hlen : (st.take np).length = np := by rw [List.length_take]; omega
  generalize hT9 : st.take np = tk at *
  have hFc := fr_in hD hS hFR
  have hM := hO y _ A v B ho i hy H.size
  have hroom : d + 1 ≤ R.frames ∧ 8 + (i.2.2.1 + 11) + 300 * d ≤ R.locals := ⟨hR.1, by have := hR.2; omega⟩
  have hstk : st.map (cv Λ) = (tk.reverse.map (cv Λ)).reverse ++ rest.map (cv Λ) := by
    rw [hsplit]
    simp [List.map_reverse]
  rw [hstk]
  refine callG (A1 := va_A (WD Λ A) H.size) (free := va_A (WD Λ A) H.size) (D := D) (Λ := Λ) (v := v) (B := B) (rest := rest.map (cv Λ)) (a := (tk.reverse.map (cv Λ)).toArray) ?_ hS (fun q _ h => hFc q h) hFc (fun H1 locs1 hP1 hS1 => ?_)
  · rcases hlink with hlink | ⟨host, hlink⟩
    · exact va_runS (n := np) (As := tk.reverse.map (cv Λ)) (rest := rest.map (cv Λ)) ⟨hx, hb, hml, hown, hts⟩ hM ⟨callB_of np hts (gw_in hcode) rfl rfl rfl (hts _ hini) (hts _ hlink) hnm hroom, hts _ hstat⟩ ⟨pm_blind, pm_at hKD hP hD⟩ rfl (by simpa using hlen) hls rfl (lv_room (by rw [cats_sum]; exact h2)) hdg ⟨Nat.zero_le _, Nat.zero_le _⟩
    · exact va_runSN (n := np) (host := host) (As := tk.reverse.map (cv Λ)) (rest := rest.map (cv Λ)) ⟨hx, hb, hml, hown, hts⟩ hM ⟨va_cnB np hts (gw_in hcode) rfl rfl rfl hlink (hts _ hini) hnm hroom, hts _ hstat, trivial⟩ ⟨pm_blind, pm_at hKD hP hD⟩ rfl (by simpa using hlen) hls rfl (lv_room (by rw [cats_sum]; exact h2)) hdg ⟨Nat.zero_le _, Nat.zero_le _⟩
  · exact kk H1 locs1 hP1 (WD_D hD (fun _ h => h)) hS1
theorem cI_spec {o : ORC} {y : Nat} {as : List AV} {A : AH} {x : Int32 × AH} (h : cI o y as A = some x) : o y as A = some (iv x.1, x.2) := by
  unfold cI at h
  split at h
  · next h1 => cases h; exact h1
  · cases h
theorem cJ_spec {o : ORC} {y : Nat} {as : List AV} {A : AH} {x : Int64 × AH} (h : cJ o y as A = some x) : o y as A = some (jv x.1, x.2) := by
  unfold cJ at h
  split at h
  · next h1 => cases h; exact h1
  · cases h
theorem cV_spec {o : ORC} {y : Nat} {as : List AV} {A : AH} {x : AH} (h : cV o y as A = some x) : o y as A = some (rv none, x) := by
  unfold cV at h
  split at h
  · next h1 => cases h; exact h1
  · cases h
theorem sn_vI (X : CX p l R s m args meth c own cc nL ret D Λ d o) (hFR : ∀ q, s.heap.size ≤ q → FR q) {i : MIn} {np idx ci y N : Nat} {T : u_T} (hy : lgt MT y = some i) (hc : CLS[ci]? = some (i.1.cls, T, N)) (hm : MF i np) (hlink : Cond.methodLink own idx i.1 ∈ GW) (hinst : Cond.instanceMethod i.1 ∈ GW) (hsel : Cond.selects i.1.cls i.1 i.1 ∈ GW) (hdg : decode cc pc = .ok (.invokevirtual idx, 3)) : SN p l e R s m args below meth c nL D Λ FR Q pc (x_vI o y ci (np + 1) (pc + 3)) := by
  intro k L st A r hk h
  unfold x_vI at h
  cases hst : okst (np + 1) st with
  | false => rw [hst] at h; cases h
  | true =>
    rw [hst] at h
    have h : (if rcv (st.take (np + 1)).reverse ci then (cI o y (st.take (np + 1)).reverse A).bind fun r => k (pc + 3) L (iv r.1 :: st.drop (np + 1)) r.2 else none) = some r := h
    split at h
    · next hrc =>
      cases hq : cI o y (st.take (np + 1)).reverse A with
      | none => rw [hq] at h; cases h
      | some x =>
        rw [hq] at h
        have h : k (pc + 3) L (iv x.1 :: st.drop (np + 1)) x.2 = some r := h
        intro H locs ls hP hD hS hl
        exact vcall X hFR hy hc hm hlink hinst hsel hdg hst hrc (cI_spec hq) hP hD hS hl.1 (fun H1 locs1 hP1 hD1 hS1 => hk _ _ _ _ _ h H1 locs1 ls hP1 hD1 hS1 hl)
    · cases h
theorem sn_vJ (X : CX p l R s m args meth c own cc nL ret D Λ d o) (hFR : ∀ q, s.heap.size ≤ q → FR q) {i : MIn} {np idx ci y N : Nat} {T : u_T} (hy : lgt MT y = some i) (hc : CLS[ci]? = some (i.1.cls, T, N)) (hm : MF i np) (hlink : Cond.methodLink own idx i.1 ∈ GW) (hinst : Cond.instanceMethod i.1 ∈ GW) (hsel : Cond.selects i.1.cls i.1 i.1 ∈ GW) (hdg : decode cc pc = .ok (.invokevirtual idx, 3)) : SN p l e R s m args below meth c nL D Λ FR Q pc (x_vJ o y ci (np + 1) (pc + 3)) := by
  intro k L st A r hk h
  unfold x_vJ at h
  cases hst : okst (np + 1) st with
  | false => rw [hst] at h; cases h
  | true =>
    rw [hst] at h
    have h : (if rcv (st.take (np + 1)).reverse ci then (cJ o y (st.take (np + 1)).reverse A).bind fun r => k (pc + 3) L (jv r.1 :: st.drop (np + 1)) r.2 else none) = some r := h
    split at h
    · next hrc =>
      cases hq : cJ o y (st.take (np + 1)).reverse A with
      | none => rw [hq] at h; cases h
      | some x =>
        rw [hq] at h
        have h : k (pc + 3) L (jv x.1 :: st.drop (np + 1)) x.2 = some r := h
        intro H locs ls hP hD hS hl
        exact vcall X hFR hy hc hm hlink hinst hsel hdg hst hrc (cJ_spec hq) hP hD hS hl.1 (fun H1 locs1 hP1 hD1 hS1 => hk _ _ _ _ _ h H1 locs1 ls hP1 hD1 hS1 hl)
    · cases h
theorem sn_vV (X : CX p l R s m args meth c own cc nL ret D Λ d o) (hFR : ∀ q, s.heap.size ≤ q → FR q) {i : MIn} {np idx ci y N : Nat} {T : u_T} (hy : lgt MT y = some i) (hc : CLS[ci]? = some (i.1.cls, T, N)) (hm : MF i np) (hlink : Cond.methodLink own idx i.1 ∈ GW) (hinst : Cond.instanceMethod i.1 ∈ GW) (hsel : Cond.selects i.1.cls i.1 i.1 ∈ GW) (hdg : decode cc pc = .ok (.invokevirtual idx, 3)) : SN p l e R s m args below meth c nL D Λ FR Q pc (x_vV o y ci (np + 1) (pc + 3)) := by
  intro k L st A r hk h
  unfold x_vV at h
  cases hst : okst (np + 1) st with
  | false => rw [hst] at h; cases h
  | true =>
    rw [hst] at h
    have h : (if rcv (st.take (np + 1)).reverse ci then (cV o y (st.take (np + 1)).reverse A).bind fun B => k (pc + 3) L (st.drop (np + 1)) B else none) = some r := h
    split at h
    · next hrc =>
      cases hq : cV o y (st.take (np + 1)).reverse A with
      | none => rw [hq] at h; cases h
      | some x =>
        rw [hq] at h
        have h : k (pc + 3) L (st.drop (np + 1)) x = some r := h
        intro H locs ls hP hD hS hl
        exact vcall X hFR hy hc hm hlink hinst hsel hdg hst hrc (cV_spec hq) hP hD hS hl.1 (fun H1 locs1 hP1 hD1 hS1 => hk _ _ _ _ _ h H1 locs1 ls hP1 hD1 hS1 hl)
    · cases h
theorem sn_sI (X : CX p l R s m args meth c own cc nL ret D Λ d o) (hFR : ∀ q, s.heap.size ≤ q → FR q) {i : MIn} {np idx y : Nat} (hy : lgt MT y = some i) (hm : MF i np) (hlink : Cond.methodLink own idx i.1 ∈ GW ∨ ∃ host, va_Nw (.methodLinkNest own idx i.1 host) s) (hstat : Cond.static i.1 ∈ GW) (hdg : decode cc pc = .ok (.invokestatic idx, 3)) : SN p l e R s m args below meth c nL D Λ FR Q pc (x_sI o y np (pc + 3)) := by
  intro k L st A r hk h
  unfold x_sI at h
  cases hst : okst np st with
  | false => rw [hst] at h; cases h
  | true =>
    rw [hst] at h
    have h : ((cI o y (st.take np).reverse A).bind fun r => k (pc + 3) L (iv r.1 :: st.drop np) r.2) = some r := h
    cases hq : cI o y (st.take np).reverse A with
    | none => rw [hq] at h; cases h
    | some x =>
      rw [hq] at h
      have h : k (pc + 3) L (iv x.1 :: st.drop np) x.2 = some r := h
      intro H locs ls hP hD hS hl
      exact scall X hFR hy hm hlink hstat hdg hst (cI_spec hq) hP hD hS hl.1 (fun H1 locs1 hP1 hD1 hS1 => hk _ _ _ _ _ h H1 locs1 ls hP1 hD1 hS1 hl)
theorem sn_sJ (X : CX p l R s m args meth c own cc nL ret D Λ d o) (hFR : ∀ q, s.heap.size ≤ q → FR q) {i : MIn} {np idx y : Nat} (hy : lgt MT y = some i) (hm : MF i np) (hlink : Cond.methodLink own idx i.1 ∈ GW ∨ ∃ host, va_Nw (.methodLinkNest own idx i.1 host) s) (hstat : Cond.static i.1 ∈ GW) (hdg : decode cc pc = .ok (.invokestatic idx, 3)) : SN p l e R s m args below meth c nL D Λ FR Q pc (x_sJ o y np (pc + 3)) := by
  intro k L st A r hk h
  unfold x_sJ at h
  cases hst : okst np st with
  | false => rw [hst] at h; cases h
  | true =>
    rw [hst] at h
    have h : ((cJ o y (st.take np).reverse A).bind fun r => k (pc + 3) L (jv r.1 :: st.drop np) r.2) = some r := h
    cases hq : cJ o y (st.take np).reverse A with
    | none => rw [hq] at h; cases h
    | some x =>
      rw [hq] at h
      have h : k (pc + 3) L (jv x.1 :: st.drop np) x.2 = some r := h
      intro H locs ls hP hD hS hl
      exact scall X hFR hy hm hlink hstat hdg hst (cJ_spec hq) hP hD hS hl.1 (fun H1 locs1 hP1 hD1 hS1 => hk _ _ _ _ _ h H1 locs1 ls hP1 hD1 hS1 hl)
-- runs
theorem lk1_spec {pc : Nat} {i : INS} : ∀ (l : List (Nat × INS)), lk1 pc l = some i → (pc, i) ∈ l
  | [], h => by cases h
  | c :: cs, h => by
    unfold lk1 at h
    cases hb : Nat.beq c.1 pc with
    | true =>
      rw [hb] at h
      have h : some c.2 = some i := h
      cases h
      rw [← Nat.eq_of_beq_eq_true hb]
      exact List.mem_cons_self
    | false =>
      rw [hb] at h
      exact List.mem_cons_of_mem _ (lk1_spec cs h)
theorem lk_spec {pc : Nat} {i : INS} : ∀ (C : COD), lk pc C = some i → ∃ ch ∈ C, (pc, i) ∈ ch.2
  | [], h => by cases h
  | c :: cs, h => by
    unfold lk at h
    cases hb : Nat.blt pc c.1 with
    | true =>
      rw [hb] at h
      exact ⟨c, List.mem_cons_self, lk1_spec c.2 h⟩
    | false =>
      rw [hb] at h
      obtain ⟨ch, h1, h2⟩ := lk_spec cs h
      exact ⟨ch, List.mem_cons_of_mem _ h1, h2⟩
theorem run_sound {C : COD} {cuts : List Nat} {K : Nat → LO → AH → Option RES} (hC : ∀ ch ∈ C, ∀ q ∈ ch.2, SN p l e R s m args below meth c nL D Λ FR Q q.1 q.2) (hK : ∀ pc L A r, K pc L A = some r → GD p l e R s m args below meth c nL D Λ FR Q pc L [] A r) : ∀ (f pc : Nat) (L : LO) (st : List AV) (A : AH) (r : RES), run C cuts K f pc L st A = some r → GD p l e R s m args below meth c nL D Λ FR Q pc L st A r := by
  intro f
  induction f with
  | zero => intro pc L st A r h; cases h
  | succ f ih =>
    intro pc L st A r h
    unfold run at h
    cases hq : elem pc cuts with
    | true =>
      rw [hq] at h
      cases st with
      | nil => exact hK pc L A r h
      | cons a t => cases h
    | false =>
      rw [hq] at h
      have h : (match lk pc C with
        | some i => i (run C cuts K f) L st A
        | none => none) = some r := h
      cases hi : lk pc C with
      | none => rw [hi] at h; cases h
      | some i =>
        rw [hi] at h
        obtain ⟨ch, h1, h2⟩ := lk_spec C hi
        exact hC ch h1 _ h2 _ _ _ _ _ ih h
theorem exec_sound {C : COD} {cuts : List Nat} (hC : ∀ ch ∈ C, ∀ q ∈ ch.2, SN p l e R s m args below meth c nL D Λ FR Q q.1 q.2) : ∀ (N pc : Nat) (L : LO) (A : AH) (r : RES), exec C cuts N pc L A = some r → GD p l e R s m args below meth c nL D Λ FR Q pc L [] A r := by
  intro N
  induction N with
  | zero => intro pc L A r h; cases h
  | succ N ih =>
    intro pc L A r h
    unfold exec at h
    have h : (match lk pc C with
      | some i => i (run C cuts (exec C cuts N) 400) L [] A
      | none => none) = some r := h
    cases hi : lk pc C with
    | none => rw [hi] at h; cases h
    | some i =>
      rw [hi] at h
      obtain ⟨ch, h1, h2⟩ := lk_spec C hi
      exact hC ch h1 _ h2 _ _ _ _ _ (run_sound hC ih 400) h
end SND
abbrev MPr : Type := Nat × List Nat × (ORC → COD)
def OKC (i : MIn) (C : ORC → COD) : Prop := ∀ (p : Program) (l : Launch) (e : Env) (R : Room) (s : State) (m : MethodId) (args : Array Value) (below : List Frame) (meth : Method) (c : Code) (D : va_G) (Λ : LAM) (FR : Nat → Prop) (d : Nat) (o : ORC), (∀ q, s.heap.size ≤ q → FR q) → CX p l R s m args meth c i.1.cls i.2.1 i.2.2.1 i.2.2.2 D Λ d o → ∀ ch ∈ C o, ∀ q ∈ ch.2, SN p l e R s m args below meth c i.2.2.1 D Λ FR (fun r => MQ below (QM D Λ r.1 r.2 FR) args s 0 0 FR) q.1 q.2
def OKM (i : MIn) (q : MPr) : Prop := plainName i.1.cls = true ∧ q.1 = i.2.2.1 ∧ OKC i q.2.2
theorem sl_len (Λ : LAM) : ∀ as : List AV, (lg_sl (as.map (cv Λ))).length = cats as
  | [] => rfl
  | a :: t => by
    have := sl_len Λ t
    have e : ∀ v : Value, ∀ vs : List Value, lg_sl (v :: vs) = (if v.category = 2 then [.val v, .second] else [.val v]) ++ lg_sl vs := fun v vs => by simp [lg_sl]
    rw [List.map_cons, e, List.length_append, this]
    rcases a with x | x | (_ | x) <;> simp [cv, cats, cat, Value.category, va_rf, adr]
theorem met_sound {l : Launch} {D : va_G} {Λ : LAM} {d N y : Nat} {o : ORC} {i : MIn} {q : MPr} (hy : lgt MT y = some i) (hq : OKM i q) (hO : ∀ y as A v B, o y as A = some (v, B) → CON l D Λ d y as A v B) {as : List AV} {A : AH} {v : AV} {B : AH} (hcat : cats as ≤ q.1) (h : exec (q.2.2 o) q.2.1 N 0 (padL q.1 (ent as)) A = some (v, B)) : CON l D Λ (d + 1) y as A v B := by
  intro i' hi' sz
  rw [hy] at hi'
  cases hi'
  obtain ⟨hpl, hnl, hok⟩ := hq
  refine Met.ofW (cc := i.2.1) (maxL := i.2.2.1) (ret := i.2.2.2) hpl rfl ?_
  intro p e s m args below meth c s₁ BB hml hv
  obtain ⟨rfl, hsz, hP, hK, hD0⟩ := hv
  have hts := atoms_spec (ws := .code i.1 i.2.1 i.2.2.1 i.2.2.2 :: GW) BB.pre
  have hown : s.vm.findClass i.1.cls = some m.cls := findClass_of_methodNamed BB.named
  subst hsz
  have hD := hD0.self (sz := s.heap.size)
  have hFR : ∀ q : Nat, s.heap.size ≤ q → va_A (WD Λ A) s.heap.size q := fun q h => Or.inr h
  have hl := lv_entry (as.map (cv Λ)) (n := i.2.2.1) (by rw [sl_len, ← hnl]; exact hcat)
  rw [lg_entry_eq]
  have hLH : LH Λ ((lg_sl (as.map (cv Λ)) ++ List.replicate (i.2.2.1 - (lg_sl (as.map (cv Λ))).length) Slot.unset).toArray) i.2.2.1 (padL q.1 (ent as)) := by
    refine ⟨hl.1, hl.2.1, fun j w hj => ?_⟩
    have h1 := ent_args (Λ := Λ) as 0 j w (lg_pad _ _ _ _ hj)
    rw [Nat.zero_add] at h1
    exact hl.2.2 _ h1
  have X : CX p l (rmd (d + 1)) s m (as.map (cv Λ)).toArray meth c i.1.cls i.2.1 i.2.2.1 i.2.2.2 D Λ d o := ⟨BB.exec, BB.bytes, hml, hown, fun w hw => hts w (List.mem_cons_of_mem _ hw), hK, ⟨Nat.le_refl _, Nat.le_refl _⟩, BB.returns, BB.notSynchronized, hO⟩
  exact exec_sound (hok p l e (rmd (d + 1)) s m _ below meth c D Λ (va_A (WD Λ A) s.heap.size) d o hFR X) N 0 _ A (v, B) h s.heap [] _ hP hD va_S.rf hLH
end
