-- ===== PART A: goes FIRST, ahead of the names: the tables' words, and 'selects' of the private methods out of them =====
/-- a private method of a class that the tables say can be made, by its rows of tables_1 -/
def lw_okq (q : MethodName × Nat) : Prop := (q.1.cls ≠ "java/lang/invoke/MethodHandle" ∧ q.1.cls ≠ "java/lang/invoke/VarHandle") ∧ Cond.instantiable q.1.cls q.2 ∈ tables_1 ∧ Cond.privateMethod q.1 ∈ tables_1 ∧ Cond.instanceMethod q.1 ∈ tables_1
theorem lw_p0 : lw_okq (⟨"TaughtHours$Reader", "rewind", "()V"⟩, 6) := ⟨⟨by decide +kernel, by decide +kernel⟩, List.mem_of_getElem? (i := 110) (by decide +kernel), List.mem_of_getElem? (i := 314) (by decide +kernel), List.mem_of_getElem? (i := 315) (by decide +kernel)⟩
theorem lw_p1 : lw_okq (⟨"TaughtHours$Reader", "skipBlanks", "()V"⟩, 6) := ⟨⟨by decide +kernel, by decide +kernel⟩, List.mem_of_getElem? (i := 110) (by decide +kernel), List.mem_of_getElem? (i := 318) (by decide +kernel), List.mem_of_getElem? (i := 319) (by decide +kernel)⟩
theorem lw_p2 : lw_okq (⟨"TaughtHours$Reader", "takes", "(I)Z"⟩, 6) := ⟨⟨by decide +kernel, by decide +kernel⟩, List.mem_of_getElem? (i := 110) (by decide +kernel), List.mem_of_getElem? (i := 322) (by decide +kernel), List.mem_of_getElem? (i := 323) (by decide +kernel)⟩
theorem lw_p3 : lw_okq (⟨"TaughtHours$Reader", "sign", "()I"⟩, 6) := ⟨⟨by decide +kernel, by decide +kernel⟩, List.mem_of_getElem? (i := 110) (by decide +kernel), List.mem_of_getElem? (i := 326) (by decide +kernel), List.mem_of_getElem? (i := 327) (by decide +kernel)⟩
theorem lw_p4 : lw_okq (⟨"TaughtHours$Reader", "step", "()V"⟩, 6) := ⟨⟨by decide +kernel, by decide +kernel⟩, List.mem_of_getElem? (i := 110) (by decide +kernel), List.mem_of_getElem? (i := 330) (by decide +kernel), List.mem_of_getElem? (i := 331) (by decide +kernel)⟩
theorem lw_p5 : lw_okq (⟨"TaughtHours$Reader", "fault", "()I"⟩, 6) := ⟨⟨by decide +kernel, by decide +kernel⟩, List.mem_of_getElem? (i := 110) (by decide +kernel), List.mem_of_getElem? (i := 334) (by decide +kernel), List.mem_of_getElem? (i := 335) (by decide +kernel)⟩
theorem lw_p6 : lw_okq (⟨"TaughtHours$Reader", "readThings", "()I"⟩, 6) := ⟨⟨by decide +kernel, by decide +kernel⟩, List.mem_of_getElem? (i := 110) (by decide +kernel), List.mem_of_getElem? (i := 341) (by decide +kernel), List.mem_of_getElem? (i := 342) (by decide +kernel)⟩
theorem lw_p7 : lw_okq (⟨"TaughtHours$Reader", "readTeaching", "(I)I"⟩, 6) := ⟨⟨by decide +kernel, by decide +kernel⟩, List.mem_of_getElem? (i := 110) (by decide +kernel), List.mem_of_getElem? (i := 369) (by decide +kernel), List.mem_of_getElem? (i := 370) (by decide +kernel)⟩
theorem lw_p8 : lw_okq (⟨"TaughtHours$Search", "load", "(LTaughtHours$School;I)I"⟩, 9) := ⟨⟨by decide +kernel, by decide +kernel⟩, List.mem_of_getElem? (i := 141) (by decide +kernel), List.mem_of_getElem? (i := 467) (by decide +kernel), List.mem_of_getElem? (i := 468) (by decide +kernel)⟩
theorem lw_p9 : lw_okq (⟨"TaughtHours$Search", "closure", "(I)I"⟩, 9) := ⟨⟨by decide +kernel, by decide +kernel⟩, List.mem_of_getElem? (i := 141) (by decide +kernel), List.mem_of_getElem? (i := 482) (by decide +kernel), List.mem_of_getElem? (i := 483) (by decide +kernel)⟩
theorem lw_p10 : lw_okq (⟨"TaughtHours$Search", "knownBy", "(II)I"⟩, 9) := ⟨⟨by decide +kernel, by decide +kernel⟩, List.mem_of_getElem? (i := 141) (by decide +kernel), List.mem_of_getElem? (i := 486) (by decide +kernel), List.mem_of_getElem? (i := 487) (by decide +kernel)⟩
theorem lw_p11 : lw_okq (⟨"TaughtHours$Search", "learnable", "(II)I"⟩, 9) := ⟨⟨by decide +kernel, by decide +kernel⟩, List.mem_of_getElem? (i := 141) (by decide +kernel), List.mem_of_getElem? (i := 490) (by decide +kernel), List.mem_of_getElem? (i := 491) (by decide +kernel)⟩
theorem lw_p12 : lw_okq (⟨"TaughtHours$Search", "isEnough", "(II)Z"⟩, 9) := ⟨⟨by decide +kernel, by decide +kernel⟩, List.mem_of_getElem? (i := 141) (by decide +kernel), List.mem_of_getElem? (i := 497) (by decide +kernel), List.mem_of_getElem? (i := 498) (by decide +kernel)⟩
theorem lw_p13 : lw_okq (⟨"TaughtHours$Search", "lacking", "(I)I"⟩, 9) := ⟨⟨by decide +kernel, by decide +kernel⟩, List.mem_of_getElem? (i := 141) (by decide +kernel), List.mem_of_getElem? (i := 501) (by decide +kernel), List.mem_of_getElem? (i := 502) (by decide +kernel)⟩
theorem lw_p14 : lw_okq (⟨"TaughtHours$Search", "listGains", "(II)V"⟩, 9) := ⟨⟨by decide +kernel, by decide +kernel⟩, List.mem_of_getElem? (i := 141) (by decide +kernel), List.mem_of_getElem? (i := 505) (by decide +kernel), List.mem_of_getElem? (i := 506) (by decide +kernel)⟩
theorem lw_p15 : lw_okq (⟨"TaughtHours$Search", "pairUp", "(IIII)Z"⟩, 9) := ⟨⟨by decide +kernel, by decide +kernel⟩, List.mem_of_getElem? (i := 141) (by decide +kernel), List.mem_of_getElem? (i := 509) (by decide +kernel), List.mem_of_getElem? (i := 510) (by decide +kernel)⟩
def lw_privs_1 : List (MethodName × Nat) := [(⟨"TaughtHours$Reader", "rewind", "()V"⟩, 6), (⟨"TaughtHours$Reader", "skipBlanks", "()V"⟩, 6), (⟨"TaughtHours$Reader", "takes", "(I)Z"⟩, 6), (⟨"TaughtHours$Reader", "sign", "()I"⟩, 6), (⟨"TaughtHours$Reader", "step", "()V"⟩, 6), (⟨"TaughtHours$Reader", "fault", "()I"⟩, 6), (⟨"TaughtHours$Reader", "readThings", "()I"⟩, 6), (⟨"TaughtHours$Reader", "readTeaching", "(I)I"⟩, 6), (⟨"TaughtHours$Search", "load", "(LTaughtHours$School;I)I"⟩, 9), (⟨"TaughtHours$Search", "closure", "(I)I"⟩, 9), (⟨"TaughtHours$Search", "knownBy", "(II)I"⟩, 9), (⟨"TaughtHours$Search", "learnable", "(II)I"⟩, 9), (⟨"TaughtHours$Search", "isEnough", "(II)Z"⟩, 9), (⟨"TaughtHours$Search", "lacking", "(I)I"⟩, 9), (⟨"TaughtHours$Search", "listGains", "(II)V"⟩, 9), (⟨"TaughtHours$Search", "pairUp", "(IIII)Z"⟩, 9)]
theorem lw_r1 : ∀ q ∈ lw_privs_1, lw_okq q := List.forall_mem_cons.mpr ⟨lw_p0, List.forall_mem_cons.mpr ⟨lw_p1, List.forall_mem_cons.mpr ⟨lw_p2, List.forall_mem_cons.mpr ⟨lw_p3, List.forall_mem_cons.mpr ⟨lw_p4, List.forall_mem_cons.mpr ⟨lw_p5, List.forall_mem_cons.mpr ⟨lw_p6, List.forall_mem_cons.mpr ⟨lw_p7, List.forall_mem_cons.mpr ⟨lw_p8, List.forall_mem_cons.mpr ⟨lw_p9, List.forall_mem_cons.mpr ⟨lw_p10, List.forall_mem_cons.mpr ⟨lw_p11, List.forall_mem_cons.mpr ⟨lw_p12, List.forall_mem_cons.mpr ⟨lw_p13, List.forall_mem_cons.mpr ⟨lw_p14, List.forall_mem_cons.mpr ⟨lw_p15, fun _ h => absurd h List.not_mem_nil⟩⟩⟩⟩⟩⟩⟩⟩⟩⟩⟩⟩⟩⟩⟩⟩
theorem lw_p16 : lw_okq (⟨"TaughtHours$Search", "pairTaught", "(IIIII)Z"⟩, 9) := ⟨⟨by decide +kernel, by decide +kernel⟩, List.mem_of_getElem? (i := 141) (by decide +kernel), List.mem_of_getElem? (i := 516) (by decide +kernel), List.mem_of_getElem? (i := 517) (by decide +kernel)⟩
theorem lw_p17 : lw_okq (⟨"TaughtHours$School", "goWithout", "(I[I)V"⟩, 13) := ⟨⟨by decide +kernel, by decide +kernel⟩, List.mem_of_getElem? (i := 21) (by decide +kernel), List.mem_of_getElem? (i := 532) (by decide +kernel), List.mem_of_getElem? (i := 533) (by decide +kernel)⟩
theorem lw_p18 : lw_okq (⟨"TaughtHours$School", "trialIsAsGood", "(I)Z"⟩, 13) := ⟨⟨by decide +kernel, by decide +kernel⟩, List.mem_of_getElem? (i := 21) (by decide +kernel), List.mem_of_getElem? (i := 537) (by decide +kernel), List.mem_of_getElem? (i := 538) (by decide +kernel)⟩
theorem lw_p19 : lw_okq (⟨"TaughtHours$Rumour", "minor", "(II)I"⟩, 4) := ⟨⟨by decide +kernel, by decide +kernel⟩, List.mem_of_getElem? (i := 175) (by decide +kernel), List.mem_of_getElem? (i := 565) (by decide +kernel), List.mem_of_getElem? (i := 566) (by decide +kernel)⟩
theorem lw_p20 : lw_okq (⟨"TaughtHours$Rumour", "reachesAll", "(I)Z"⟩, 4) := ⟨⟨by decide +kernel, by decide +kernel⟩, List.mem_of_getElem? (i := 175) (by decide +kernel), List.mem_of_getElem? (i := 574) (by decide +kernel), List.mem_of_getElem? (i := 575) (by decide +kernel)⟩
theorem lw_p21 : lw_okq (⟨"TaughtHours$Rumour", "settle", "(I)I"⟩, 4) := ⟨⟨by decide +kernel, by decide +kernel⟩, List.mem_of_getElem? (i := 175) (by decide +kernel), List.mem_of_getElem? (i := 587) (by decide +kernel), List.mem_of_getElem? (i := 588) (by decide +kernel)⟩
theorem lw_p22 : lw_okq (⟨"TaughtHours$School", "listChoices", "()I"⟩, 13) := ⟨⟨by decide +kernel, by decide +kernel⟩, List.mem_of_getElem? (i := 21) (by decide +kernel), List.mem_of_getElem? (i := 599) (by decide +kernel), List.mem_of_getElem? (i := 600) (by decide +kernel)⟩
theorem lw_p23 : lw_okq (⟨"TaughtHoursModel", "add", "(I)V"⟩, 34) := ⟨⟨by decide +kernel, by decide +kernel⟩, List.mem_of_getElem? (i := 687) (by decide +kernel), List.mem_of_getElem? (i := 804) (by decide +kernel), List.mem_of_getElem? (i := 805) (by decide +kernel)⟩
theorem lw_p24 : lw_okq (⟨"TaughtHoursModel", "isChild", "(I)Z"⟩, 34) := ⟨⟨by decide +kernel, by decide +kernel⟩, List.mem_of_getElem? (i := 687) (by decide +kernel), List.mem_of_getElem? (i := 812) (by decide +kernel), List.mem_of_getElem? (i := 813) (by decide +kernel)⟩
theorem lw_p25 : lw_okq (⟨"TaughtHoursModel", "areTwo", "(II)Z"⟩, 34) := ⟨⟨by decide +kernel, by decide +kernel⟩, List.mem_of_getElem? (i := 687) (by decide +kernel), List.mem_of_getElem? (i := 833) (by decide +kernel), List.mem_of_getElem? (i := 834) (by decide +kernel)⟩
theorem lw_p26 : lw_okq (⟨"TaughtHoursModel", "knownTo", "(I)I"⟩, 34) := ⟨⟨by decide +kernel, by decide +kernel⟩, List.mem_of_getElem? (i := 687) (by decide +kernel), List.mem_of_getElem? (i := 842) (by decide +kernel), List.mem_of_getElem? (i := 843) (by decide +kernel)⟩
theorem lw_p27 : lw_okq (⟨"TaughtHoursModel", "readSchool", "()Z"⟩, 34) := ⟨⟨by decide +kernel, by decide +kernel⟩, List.mem_of_getElem? (i := 687) (by decide +kernel), List.mem_of_getElem? (i := 869) (by decide +kernel), List.mem_of_getElem? (i := 870) (by decide +kernel)⟩
theorem lw_p28 : lw_okq (⟨"TaughtHoursModel", "readChild", "(I)Z"⟩, 34) := ⟨⟨by decide +kernel, by decide +kernel⟩, List.mem_of_getElem? (i := 687) (by decide +kernel), List.mem_of_getElem? (i := 873) (by decide +kernel), List.mem_of_getElem? (i := 874) (by decide +kernel)⟩
theorem lw_p29 : lw_okq (⟨"TaughtHoursModel", "nextByte", "()I"⟩, 34) := ⟨⟨by decide +kernel, by decide +kernel⟩, List.mem_of_getElem? (i := 687) (by decide +kernel), List.mem_of_getElem? (i := 877) (by decide +kernel), List.mem_of_getElem? (i := 878) (by decide +kernel)⟩
theorem lw_p30 : lw_okq (⟨"TaughtHoursModel", "readPlan", "()Z"⟩, 34) := ⟨⟨by decide +kernel, by decide +kernel⟩, List.mem_of_getElem? (i := 687) (by decide +kernel), List.mem_of_getElem? (i := 887) (by decide +kernel), List.mem_of_getElem? (i := 888) (by decide +kernel)⟩
theorem lw_p31 : lw_okq (⟨"TaughtHoursModel", "readTeaching", "(I)Z"⟩, 34) := ⟨⟨by decide +kernel, by decide +kernel⟩, List.mem_of_getElem? (i := 687) (by decide +kernel), List.mem_of_getElem? (i := 891) (by decide +kernel), List.mem_of_getElem? (i := 892) (by decide +kernel)⟩
def lw_privs_2 : List (MethodName × Nat) := [(⟨"TaughtHours$Search", "pairTaught", "(IIIII)Z"⟩, 9), (⟨"TaughtHours$School", "goWithout", "(I[I)V"⟩, 13), (⟨"TaughtHours$School", "trialIsAsGood", "(I)Z"⟩, 13), (⟨"TaughtHours$Rumour", "minor", "(II)I"⟩, 4), (⟨"TaughtHours$Rumour", "reachesAll", "(I)Z"⟩, 4), (⟨"TaughtHours$Rumour", "settle", "(I)I"⟩, 4), (⟨"TaughtHours$School", "listChoices", "()I"⟩, 13), (⟨"TaughtHoursModel", "add", "(I)V"⟩, 34), (⟨"TaughtHoursModel", "isChild", "(I)Z"⟩, 34), (⟨"TaughtHoursModel", "areTwo", "(II)Z"⟩, 34), (⟨"TaughtHoursModel", "knownTo", "(I)I"⟩, 34), (⟨"TaughtHoursModel", "readSchool", "()Z"⟩, 34), (⟨"TaughtHoursModel", "readChild", "(I)Z"⟩, 34), (⟨"TaughtHoursModel", "nextByte", "()I"⟩, 34), (⟨"TaughtHoursModel", "readPlan", "()Z"⟩, 34), (⟨"TaughtHoursModel", "readTeaching", "(I)Z"⟩, 34)]
theorem lw_r2 : ∀ q ∈ lw_privs_2, lw_okq q := List.forall_mem_cons.mpr ⟨lw_p16, List.forall_mem_cons.mpr ⟨lw_p17, List.forall_mem_cons.mpr ⟨lw_p18, List.forall_mem_cons.mpr ⟨lw_p19, List.forall_mem_cons.mpr ⟨lw_p20, List.forall_mem_cons.mpr ⟨lw_p21, List.forall_mem_cons.mpr ⟨lw_p22, List.forall_mem_cons.mpr ⟨lw_p23, List.forall_mem_cons.mpr ⟨lw_p24, List.forall_mem_cons.mpr ⟨lw_p25, List.forall_mem_cons.mpr ⟨lw_p26, List.forall_mem_cons.mpr ⟨lw_p27, List.forall_mem_cons.mpr ⟨lw_p28, List.forall_mem_cons.mpr ⟨lw_p29, List.forall_mem_cons.mpr ⟨lw_p30, List.forall_mem_cons.mpr ⟨lw_p31, fun _ h => absurd h List.not_mem_nil⟩⟩⟩⟩⟩⟩⟩⟩⟩⟩⟩⟩⟩⟩⟩⟩
theorem lw_p32 : lw_okq (⟨"TaughtHoursModel", "mayBe", "(III)Z"⟩, 34) := ⟨⟨by decide +kernel, by decide +kernel⟩, List.mem_of_getElem? (i := 687) (by decide +kernel), List.mem_of_getElem? (i := 899) (by decide +kernel), List.mem_of_getElem? (i := 900) (by decide +kernel)⟩
theorem lw_p33 : lw_okq (⟨"TaughtHoursModel", "teachNow", "(III)V"⟩, 34) := ⟨⟨by decide +kernel, by decide +kernel⟩, List.mem_of_getElem? (i := 687) (by decide +kernel), List.mem_of_getElem? (i := 907) (by decide +kernel), List.mem_of_getElem? (i := 908) (by decide +kernel)⟩
theorem lw_p34 : lw_okq (⟨"TaughtHoursModel", "goOn", "(I)V"⟩, 34) := ⟨⟨by decide +kernel, by decide +kernel⟩, List.mem_of_getElem? (i := 687) (by decide +kernel), List.mem_of_getElem? (i := 923) (by decide +kernel), List.mem_of_getElem? (i := 924) (by decide +kernel)⟩
theorem lw_p35 : lw_okq (⟨"TaughtHoursModel", "mayTeach", "(IIII)Z"⟩, 34) := ⟨⟨by decide +kernel, by decide +kernel⟩, List.mem_of_getElem? (i := 687) (by decide +kernel), List.mem_of_getElem? (i := 927) (by decide +kernel), List.mem_of_getElem? (i := 928) (by decide +kernel)⟩
theorem lw_p36 : lw_okq (⟨"TaughtHoursModel", "goWithout", "(I)V"⟩, 34) := ⟨⟨by decide +kernel, by decide +kernel⟩, List.mem_of_getElem? (i := 687) (by decide +kernel), List.mem_of_getElem? (i := 939) (by decide +kernel), List.mem_of_getElem? (i := 940) (by decide +kernel)⟩
theorem lw_p37 : lw_okq (⟨"TaughtHoursModel", "bringBack", "()V"⟩, 34) := ⟨⟨by decide +kernel, by decide +kernel⟩, List.mem_of_getElem? (i := 687) (by decide +kernel), List.mem_of_getElem? (i := 943) (by decide +kernel), List.mem_of_getElem? (i := 944) (by decide +kernel)⟩
theorem lw_p38 : lw_okq (⟨"TaughtHoursModel", "findWays", "(I)V"⟩, 34) := ⟨⟨by decide +kernel, by decide +kernel⟩, List.mem_of_getElem? (i := 687) (by decide +kernel), List.mem_of_getElem? (i := 955) (by decide +kernel), List.mem_of_getElem? (i := 956) (by decide +kernel)⟩
theorem lw_p39 : lw_okq (⟨"TaughtHoursModel", "isWay", "(I)Z"⟩, 34) := ⟨⟨by decide +kernel, by decide +kernel⟩, List.mem_of_getElem? (i := 687) (by decide +kernel), List.mem_of_getElem? (i := 959) (by decide +kernel), List.mem_of_getElem? (i := 960) (by decide +kernel)⟩
theorem lw_p40 : lw_okq (⟨"TaughtHoursModel", "canHave", "(III)Z"⟩, 34) := ⟨⟨by decide +kernel, by decide +kernel⟩, List.mem_of_getElem? (i := 687) (by decide +kernel), List.mem_of_getElem? (i := 963) (by decide +kernel), List.mem_of_getElem? (i := 964) (by decide +kernel)⟩
theorem lw_p41 : lw_okq (⟨"TaughtHoursModel", "nextRow", "()Z"⟩, 34) := ⟨⟨by decide +kernel, by decide +kernel⟩, List.mem_of_getElem? (i := 687) (by decide +kernel), List.mem_of_getElem? (i := 967) (by decide +kernel), List.mem_of_getElem? (i := 968) (by decide +kernel)⟩
theorem lw_p42 : lw_okq (⟨"TaughtHoursModel", "lesson", "(I)I"⟩, 34) := ⟨⟨by decide +kernel, by decide +kernel⟩, List.mem_of_getElem? (i := 687) (by decide +kernel), List.mem_of_getElem? (i := 980) (by decide +kernel), List.mem_of_getElem? (i := 981) (by decide +kernel)⟩
theorem lw_p43 : lw_okq (⟨"TaughtHoursModel", "carried", "(IIZ)I"⟩, 34) := ⟨⟨by decide +kernel, by decide +kernel⟩, List.mem_of_getElem? (i := 687) (by decide +kernel), List.mem_of_getElem? (i := 996) (by decide +kernel), List.mem_of_getElem? (i := 997) (by decide +kernel)⟩
theorem lw_p44 : lw_okq (⟨"TaughtHoursModel", "lacksRow", "(IIII)I"⟩, 34) := ⟨⟨by decide +kernel, by decide +kernel⟩, List.mem_of_getElem? (i := 687) (by decide +kernel), List.mem_of_getElem? (i := 1020) (by decide +kernel), List.mem_of_getElem? (i := 1021) (by decide +kernel)⟩
def lw_privs_3 : List (MethodName × Nat) := [(⟨"TaughtHoursModel", "mayBe", "(III)Z"⟩, 34), (⟨"TaughtHoursModel", "teachNow", "(III)V"⟩, 34), (⟨"TaughtHoursModel", "goOn", "(I)V"⟩, 34), (⟨"TaughtHoursModel", "mayTeach", "(IIII)Z"⟩, 34), (⟨"TaughtHoursModel", "goWithout", "(I)V"⟩, 34), (⟨"TaughtHoursModel", "bringBack", "()V"⟩, 34), (⟨"TaughtHoursModel", "findWays", "(I)V"⟩, 34), (⟨"TaughtHoursModel", "isWay", "(I)Z"⟩, 34), (⟨"TaughtHoursModel", "canHave", "(III)Z"⟩, 34), (⟨"TaughtHoursModel", "nextRow", "()Z"⟩, 34), (⟨"TaughtHoursModel", "lesson", "(I)I"⟩, 34), (⟨"TaughtHoursModel", "carried", "(IIZ)I"⟩, 34), (⟨"TaughtHoursModel", "lacksRow", "(IIII)I"⟩, 34)]
theorem lw_r3 : ∀ q ∈ lw_privs_3, lw_okq q := List.forall_mem_cons.mpr ⟨lw_p32, List.forall_mem_cons.mpr ⟨lw_p33, List.forall_mem_cons.mpr ⟨lw_p34, List.forall_mem_cons.mpr ⟨lw_p35, List.forall_mem_cons.mpr ⟨lw_p36, List.forall_mem_cons.mpr ⟨lw_p37, List.forall_mem_cons.mpr ⟨lw_p38, List.forall_mem_cons.mpr ⟨lw_p39, List.forall_mem_cons.mpr ⟨lw_p40, List.forall_mem_cons.mpr ⟨lw_p41, List.forall_mem_cons.mpr ⟨lw_p42, List.forall_mem_cons.mpr ⟨lw_p43, List.forall_mem_cons.mpr ⟨lw_p44, fun _ h => absurd h List.not_mem_nil⟩⟩⟩⟩⟩⟩⟩⟩⟩⟩⟩⟩⟩
def lw_privs : List (MethodName × Nat) := lw_privs_1 ++ (lw_privs_2 ++ (lw_privs_3))
def lw_tbl : List Cond := k2_sels lw_privs ++ tables_1
theorem lw_privs_ok : ∀ q ∈ lw_privs, lw_okq q := by
  show ∀ q ∈ lw_privs_1 ++ (lw_privs_2 ++ (lw_privs_3)), lw_okq q
  exact List.forall_mem_append.mpr ⟨lw_r1, List.forall_mem_append.mpr ⟨lw_r2, lw_r3⟩⟩
-- ===== end of PART A; then your names; then what follows =====
/-! ===== BEGIN words of one list among another's, by their places ===== -/
theorem goodIn_r {big : List Cond} (ws : List Cond) (ps : List Nat) (hp : ws = ps.filterMap (fun i => big[i]?)) (h : ws.all goodWord = true) : GoodIn big ws := by
  intro w hw
  have h1 := List.all_eq_true.mp h w hw
  rw [hp] at hw
  obtain ⟨i, -, hi⟩ := List.mem_filterMap.mp hw
  have hm : w ∈ big := by first | exact List.mem_of_getElem? hi | exact List.getElem?_mem hi
  exact ⟨hm, good_of_word h1⟩
theorem goodIn_app {big a b : List Cond} (ha : GoodIn big a) (hb : GoodIn big b) : GoodIn big (a ++ b) := fun w h => (List.mem_append.mp h).elim (ha w) (hb w)
theorem goodIn_ca {big a b : List Cond} {c : Cond} (ha : GoodIn big (c :: a)) (hb : GoodIn big b) : GoodIn big (c :: (a ++ b)) := fun w h => (List.mem_cons.mp h).elim (fun e => ha w (List.mem_cons.mpr (Or.inl e))) (fun h => (List.mem_append.mp h).elim (fun h => ha w (List.mem_cons.mpr (Or.inr h))) (hb w))
theorem goodIn_sub {big ws : List Cond} (hm : ∀ w ∈ ws, w ∈ big) (h : ws.all goodWord = true) : GoodIn big ws := fun w hw => ⟨hm w hw, good_of_word (List.all_eq_true.mp h w hw)⟩
/-! ===== END ===== -/
def RX0 : String := "TaughtHours$Plan"
def TX0 : u_T := fun k => match k with
  | 0 => ("TaughtHours$Plan", "size", "I", false)
  | 1 => ("TaughtHours$Plan", "hours", "I", false)
  | 2 => ("TaughtHours$Plan", "teachings", "[I", true)
  | _ => ("TaughtHours$Plan", "opens", "[Z", true)
def tyX0 : Nat → FieldType := fun k => match k with
  | 0 => .int
  | 1 => .int
  | 2 => .array .int
  | _ => .array .boolean
abbrev wsX00 : List Cond := u_ws RX0 TX0 4
theorem nmX0 : ∀ a, a < 4 → ∀ b, b < 4 → a ≠ b → (TX0 a).2.1 ≠ (TX0 b).2.1 := by decide +kernel
theorem tyX0_ok : ∀ k, k < 4 → parseFieldDescriptor (TX0 k).2.2.1 = some (tyX0 k) := by decide +kernel
abbrev cX0_init : ByteArray := prog_2_method_1_code
def yX0_init : MethodName := ⟨RX0, "<init>", "()V"⟩
abbrev cX0_clear : ByteArray := prog_2_method_2_code
def yX0_clear : MethodName := ⟨RX0, "clear", "()V"⟩
abbrev cX0_isFull : ByteArray := prog_2_method_3_code
def yX0_isFull : MethodName := ⟨RX0, "isFull", "()Z"⟩
abbrev cX0_add : ByteArray := prog_2_method_4_code
def yX0_add : MethodName := ⟨RX0, "add", "(IZ)V"⟩
abbrev cX0_takeOver : ByteArray := prog_2_method_5_code
def yX0_takeOver : MethodName := ⟨RX0, "takeOver", "(LTaughtHours$Plan;)V"⟩
def RX1 : String := "TaughtHours$Reader"
def TX1 : u_T := fun k => match k with
  | 0 => ("TaughtHours$Reader", "kinds", "[I", true)
  | 1 => ("TaughtHours$Reader", "sets", "[I", true)
  | 2 => ("TaughtHours$Reader", "draft", "LTaughtHours$Plan;", true)
  | 3 => ("TaughtHours$Reader", "tape", "[B", true)
  | 4 => ("TaughtHours$Reader", "size", "I", false)
  | _ => ("TaughtHours$Reader", "place", "I", false)
def tyX1 : Nat → FieldType := fun k => match k with
  | 0 => .array .int
  | 1 => .array .int
  | 2 => .object "TaughtHours$Plan"
  | 3 => .array .byte
  | 4 => .int
  | _ => .int
abbrev wsX10 : List Cond := u_ws RX1 TX1 6
theorem nmX1 : ∀ a, a < 6 → ∀ b, b < 6 → a ≠ b → (TX1 a).2.1 ≠ (TX1 b).2.1 := by decide +kernel
theorem tyX1_ok : ∀ k, k < 6 → parseFieldDescriptor (TX1 k).2.2.1 = some (tyX1 k) := by decide +kernel
abbrev cX1_init : ByteArray := prog_3_method_1_code
def yX1_init : MethodName := ⟨RX1, "<init>", "()V"⟩
abbrev cX1_append : ByteArray := prog_3_method_2_code
def yX1_append : MethodName := ⟨RX1, "append", "(JI)I"⟩
abbrev cX1_signOf : ByteArray := prog_3_method_3_code
def yX1_signOf : MethodName := ⟨RX1, "signOf", "(JI)I"⟩
abbrev cX1_clear : ByteArray := prog_3_method_4_code
def yX1_clear : MethodName := ⟨RX1, "clear", "()V"⟩
abbrev cX1_rewind : ByteArray := prog_3_method_5_code
def yX1_rewind : MethodName := ⟨RX1, "rewind", "()V"⟩
abbrev cX1_step : ByteArray := prog_3_method_6_code
def yX1_step : MethodName := ⟨RX1, "step", "()V"⟩
abbrev cX1_skipBlanks : ByteArray := prog_3_method_7_code
def yX1_skipBlanks : MethodName := ⟨RX1, "skipBlanks", "()V"⟩
abbrev cX1_sign : ByteArray := prog_3_method_8_code
def yX1_sign : MethodName := ⟨RX1, "sign", "()I"⟩
abbrev cX1_takes : ByteArray := prog_3_method_9_code
def yX1_takes : MethodName := ⟨RX1, "takes", "(I)Z"⟩
abbrev cX1_fault : ByteArray := prog_3_method_10_code
def yX1_fault : MethodName := ⟨RX1, "fault", "()I"⟩
abbrev cX1_readSchool : ByteArray := prog_3_method_11_code
def yX1_readSchool : MethodName := ⟨RX1, "readSchool", "()I"⟩
abbrev cX1_kindOf : ByteArray := prog_3_method_12_code
def yX1_kindOf : MethodName := ⟨RX1, "kindOf", "(I)I"⟩
abbrev cX1_readThings : ByteArray := prog_3_method_13_code
def yX1_readThings : MethodName := ⟨RX1, "readThings", "()I"⟩
abbrev cX1_readPlan : ByteArray := prog_3_method_14_code
def yX1_readPlan : MethodName := ⟨RX1, "readPlan", "(I)I"⟩
abbrev cX1_readTeaching : ByteArray := prog_3_method_15_code
def yX1_readTeaching : MethodName := ⟨RX1, "readTeaching", "(I)I"⟩
def RX2 : String := "TaughtHours$Rumour"
def TX2 : u_T := fun k => match k with
  | 0 => ("TaughtHours$Rumour", "sources", "[I", true)
  | 1 => ("TaughtHours$Rumour", "knowers", "I", false)
  | 2 => ("TaughtHours$Rumour", "roots", "I", false)
  | _ => ("TaughtHours$Rumour", "rows", "I", false)
def tyX2 : Nat → FieldType := fun k => match k with
  | 0 => .array .int
  | 1 => .int
  | 2 => .int
  | _ => .int
abbrev wsX20 : List Cond := u_ws RX2 TX2 4
theorem nmX2 : ∀ a, a < 4 → ∀ b, b < 4 → a ≠ b → (TX2 a).2.1 ≠ (TX2 b).2.1 := by decide +kernel
theorem tyX2_ok : ∀ k, k < 4 → parseFieldDescriptor (TX2 k).2.2.1 = some (tyX2 k) := by decide +kernel
abbrev cX2_init : ByteArray := prog_4_method_1_code
def yX2_init : MethodName := ⟨RX2, "<init>", "()V"⟩
abbrev cX2_listen : ByteArray := prog_4_method_2_code
def yX2_listen : MethodName := ⟨RX2, "listen", "(LTaughtHours$School;I)V"⟩
abbrev cX2_countWays : ByteArray := prog_4_method_3_code
def yX2_countWays : MethodName := ⟨RX2, "countWays", "()I"⟩
abbrev cX2_minor : ByteArray := prog_4_method_4_code
def yX2_minor : MethodName := ⟨RX2, "minor", "(II)I"⟩
abbrev cX2_firstMouths : ByteArray := prog_4_method_5_code
def yX2_firstMouths : MethodName := ⟨RX2, "firstMouths", "()I"⟩
abbrev cX2_reachesAll : ByteArray := prog_4_method_6_code
def yX2_reachesAll : MethodName := ⟨RX2, "reachesAll", "(I)Z"⟩
abbrev cX2_sourceOf : ByteArray := prog_4_method_7_code
def yX2_sourceOf : MethodName := ⟨RX2, "sourceOf", "(I)I"⟩
abbrev cX2_settle : ByteArray := prog_4_method_8_code
def yX2_settle : MethodName := ⟨RX2, "settle", "(I)I"⟩
def RX3 : String := "TaughtHours$School"
def TX3 : u_T := fun k => match k with
  | 0 => ("TaughtHours$School", "children", "I", false)
  | 1 => ("TaughtHours$School", "done", "I", false)
  | 2 => ("TaughtHours$School", "draw", "I", false)
  | 3 => ("TaughtHours$School", "kinds", "[I", true)
  | 4 => ("TaughtHours$School", "says", "[I", true)
  | 5 => ("TaughtHours$School", "known", "[I", true)
  | 6 => ("TaughtHours$School", "heard", "[I", true)
  | 7 => ("TaughtHours$School", "needs", "[I", true)
  | 8 => ("TaughtHours$School", "plan", "LTaughtHours$Plan;", true)
  | 9 => ("TaughtHours$School", "whole", "[I", true)
  | 10 => ("TaughtHours$School", "trial", "[I", true)
  | 11 => ("TaughtHours$School", "choices", "[I", true)
  | _ => ("TaughtHours$School", "together", "[I", true)
def tyX3 : Nat → FieldType := fun k => match k with
  | 0 => .int
  | 1 => .int
  | 2 => .int
  | 3 => .array .int
  | 4 => .array .int
  | 5 => .array .int
  | 6 => .array .int
  | 7 => .array .int
  | 8 => .object "TaughtHours$Plan"
  | 9 => .array .int
  | 10 => .array .int
  | 11 => .array .int
  | _ => .array .int
abbrev wsX30 : List Cond := u_ws RX3 TX3 13
theorem nmX3 : ∀ a, a < 13 → ∀ b, b < 13 → a ≠ b → (TX3 a).2.1 ≠ (TX3 b).2.1 := by decide +kernel
theorem tyX3_ok : ∀ k, k < 13 → parseFieldDescriptor (TX3 k).2.2.1 = some (tyX3 k) := by decide +kernel
abbrev cX3_init : ByteArray := prog_5_method_1_code
def yX3_init : MethodName := ⟨RX3, "<init>", "()V"⟩
abbrev cX3_isChild : ByteArray := prog_5_method_2_code
def yX3_isChild : MethodName := ⟨RX3, "isChild", "(I)Z"⟩
abbrev cX3_isTeaching : ByteArray := prog_5_method_3_code
def yX3_isTeaching : MethodName := ⟨RX3, "isTeaching", "(III)Z"⟩
abbrev cX3_saying : ByteArray := prog_5_method_4_code
def yX3_saying : MethodName := ⟨RX3, "saying", "(II)I"⟩
abbrev cX3_setSaying : ByteArray := prog_5_method_5_code
def yX3_setSaying : MethodName := ⟨RX3, "setSaying", "(III)V"⟩
abbrev cX3_setKnown : ByteArray := prog_5_method_6_code
def yX3_setKnown : MethodName := ⟨RX3, "setKnown", "(II)V"⟩
abbrev cX3_admit : ByteArray := prog_5_method_7_code
def w_adm : String := match tables_1_2 with
  | .instanceMethod m :: _ => m.name
  | _ => ""
def yX3_admit : MethodName := ⟨RX3, w_adm, "(I)I"⟩
abbrev cX3_sendHome : ByteArray := prog_5_method_8_code
def yX3_sendHome : MethodName := ⟨RX3, "sendHome", "()V"⟩
abbrev cX3_takeOver : ByteArray := prog_5_method_9_code
def yX3_takeOver : MethodName := ⟨RX3, "takeOver", "(LTaughtHours$School;)V"⟩
abbrev cX3_knownOf : ByteArray := prog_5_method_10_code
def yX3_knownOf : MethodName := ⟨RX3, "knownOf", "(I)I"⟩
abbrev cX3_garbled : ByteArray := prog_5_method_11_code
def yX3_garbled : MethodName := ⟨RX3, "garbled", "()I"⟩
abbrev cX3_allows : ByteArray := prog_5_method_12_code
def yX3_allows : MethodName := ⟨RX3, "allows", "([II)Z"⟩
abbrev cX3_perform : ByteArray := prog_5_method_13_code
def yX3_perform : MethodName := ⟨RX3, "perform", "(I)V"⟩
abbrev cX3_runPlan : ByteArray := prog_5_method_14_code
def yX3_runPlan : MethodName := ⟨RX3, "runPlan", "()I"⟩
abbrev cX3_goWithout : ByteArray := prog_5_method_15_code
def yX3_goWithout : MethodName := ⟨RX3, "goWithout", "(I[I)V"⟩
abbrev cX3_sparedSet : ByteArray := prog_5_method_16_code
def yX3_sparedSet : MethodName := ⟨RX3, "sparedSet", "()I"⟩
abbrev cX3_trialIsAsGood : ByteArray := prog_5_method_17_code
def yX3_trialIsAsGood : MethodName := ⟨RX3, "trialIsAsGood", "(I)Z"⟩
abbrev cX3_firstTellable : ByteArray := prog_5_method_18_code
def yX3_firstTellable : MethodName := ⟨RX3, "firstTellable", "(I)I"⟩
abbrev cX3_drawLesson : ByteArray := prog_5_method_19_code
def yX3_drawLesson : MethodName := ⟨RX3, "drawLesson", "()Z"⟩
abbrev cX3_listChoices : ByteArray := prog_5_method_20_code
def yX3_listChoices : MethodName := ⟨RX3, "listChoices", "()I"⟩
abbrev cX3_holdHour : ByteArray := prog_5_method_21_code
def yX3_holdHour : MethodName := ⟨RX3, "holdHour", "([III)Z"⟩
def RX4 : String := "TaughtHours$Search"
def TX4 : u_T := fun k => match k with
  | 0 => ("TaughtHours$Search", "needs", "[I", true)
  | 1 => ("TaughtHours$Search", "open", "[I", true)
  | 2 => ("TaughtHours$Search", "heard", "[I", true)
  | 3 => ("TaughtHours$Search", "gains", "[I", true)
  | 4 => ("TaughtHours$Search", "partners", "[I", true)
  | 5 => ("TaughtHours$Search", "tooFew", "[B", true)
  | 6 => ("TaughtHours$Search", "children", "I", false)
  | 7 => ("TaughtHours$Search", "width", "I", false)
  | _ => ("TaughtHours$Search", "full", "I", false)
def tyX4 : Nat → FieldType := fun k => match k with
  | 0 => .array .int
  | 1 => .array .int
  | 2 => .array .int
  | 3 => .array .int
  | 4 => .array .int
  | 5 => .array .byte
  | 6 => .int
  | 7 => .int
  | _ => .int
abbrev wsX40 : List Cond := u_ws RX4 TX4 9
theorem nmX4 : ∀ a, a < 9 → ∀ b, b < 9 → a ≠ b → (TX4 a).2.1 ≠ (TX4 b).2.1 := by decide +kernel
theorem tyX4_ok : ∀ k, k < 9 → parseFieldDescriptor (TX4 k).2.2.1 = some (tyX4 k) := by decide +kernel
abbrev cX4_init : ByteArray := prog_6_method_1_code
def yX4_init : MethodName := ⟨RX4, "<init>", "()V"⟩
abbrev cX4_fewest : ByteArray := prog_6_method_2_code
def yX4_fewest : MethodName := ⟨RX4, "fewest", "(LTaughtHours$School;I)I"⟩
abbrev cX4_load : ByteArray := prog_6_method_3_code
def yX4_load : MethodName := ⟨RX4, "load", "(LTaughtHours$School;I)I"⟩
abbrev cX4_squeeze : ByteArray := prog_6_method_4_code
def yX4_squeeze : MethodName := ⟨RX4, "squeeze", "(II)I"⟩
abbrev cX4_knownBy : ByteArray := prog_6_method_5_code
def yX4_knownBy : MethodName := ⟨RX4, "knownBy", "(II)I"⟩
abbrev cX4_learnable : ByteArray := prog_6_method_6_code
def yX4_learnable : MethodName := ⟨RX4, "learnable", "(II)I"⟩
abbrev cX4_closure : ByteArray := prog_6_method_7_code
def yX4_closure : MethodName := ⟨RX4, "closure", "(I)I"⟩
abbrev cX4_lacking : ByteArray := prog_6_method_8_code
def yX4_lacking : MethodName := ⟨RX4, "lacking", "(I)I"⟩
abbrev cX4_isEnough : ByteArray := prog_6_method_9_code
def yX4_isEnough : MethodName := ⟨RX4, "isEnough", "(II)Z"⟩
abbrev cX4_listGains : ByteArray := prog_6_method_10_code
def yX4_listGains : MethodName := ⟨RX4, "listGains", "(II)V"⟩
abbrev cX4_pairUp : ByteArray := prog_6_method_11_code
def yX4_pairUp : MethodName := ⟨RX4, "pairUp", "(IIII)Z"⟩
abbrev cX4_pairTaught : ByteArray := prog_6_method_12_code
def yX4_pairTaught : MethodName := ⟨RX4, "pairTaught", "(IIIII)Z"⟩
abbrev cX4_firstOf : ByteArray := prog_6_method_13_code
def yX4_firstOf : MethodName := ⟨RX4, "firstOf", "(I)I"⟩
def RX5 : String := "TaughtHours$Sheet"
def TX5 : u_T := fun k => match k with
  | 0 => ("TaughtHours$Sheet", "lane", "I", false)
  | 1 => ("TaughtHours$Sheet", "size", "I", false)
  | _ => ("TaughtHours$Sheet", "items", "[I", true)
def tyX5 : Nat → FieldType := fun k => match k with
  | 0 => .int
  | 1 => .int
  | _ => .array .int
abbrev wsX50 : List Cond := u_ws RX5 TX5 3
theorem nmX5 : ∀ a, a < 3 → ∀ b, b < 3 → a ≠ b → (TX5 a).2.1 ≠ (TX5 b).2.1 := by decide +kernel
theorem tyX5_ok : ∀ k, k < 3 → parseFieldDescriptor (TX5 k).2.2.1 = some (tyX5 k) := by decide +kernel
abbrev cX5_init : ByteArray := prog_7_method_1_code
def yX5_init : MethodName := ⟨RX5, "<init>", "()V"⟩
abbrev cX5_isMissing : ByteArray := prog_7_method_2_code
def yX5_isMissing : MethodName := ⟨RX5, "isMissing", "()Z"⟩
abbrev cX5_holds : ByteArray := prog_7_method_3_code
def yX5_holds : MethodName := ⟨RX5, "holds", "(II)Z"⟩
abbrev cX5_refusal : ByteArray := prog_7_method_4_code
def yX5_refusal : MethodName := ⟨RX5, "refusal", "(III)I"⟩
abbrev cX5_renew : ByteArray := prog_7_method_5_code
def yX5_renew : MethodName := ⟨RX5, "renew", "(II)V"⟩
abbrev cX5_discard : ByteArray := prog_7_method_6_code
def yX5_discard : MethodName := ⟨RX5, "discard", "()V"⟩
abbrev cX5_put : ByteArray := prog_7_method_7_code
def yX5_put : MethodName := ⟨RX5, "put", "(II)V"⟩
def RX6 : String := "TaughtHours"
def TX6 : u_T := fun k => match k with
  | 0 => ("TaughtHours", "now", "LTaughtHours$School;", true)
  | 1 => ("TaughtHours", "kept", "LTaughtHours$School;", true)
  | 2 => ("TaughtHours", "reader", "LTaughtHours$Reader;", true)
  | 3 => ("TaughtHours", "search", "LTaughtHours$Search;", true)
  | 4 => ("TaughtHours", "rumour", "LTaughtHours$Rumour;", true)
  | 5 => ("TaughtHours", "sheets", "[LTaughtHours$Sheet;", true)
  | _ => ("TaughtHours", "hasImage", "Z", false)
def tyX6 : Nat → FieldType := fun k => match k with
  | 0 => .object "TaughtHours$School"
  | 1 => .object "TaughtHours$School"
  | 2 => .object "TaughtHours$Reader"
  | 3 => .object "TaughtHours$Search"
  | 4 => .object "TaughtHours$Rumour"
  | 5 => .array (.object "TaughtHours$Sheet")
  | _ => .boolean
abbrev wsX60 : List Cond := u_ws RX6 TX6 7
theorem nmX6 : ∀ a, a < 7 → ∀ b, b < 7 → a ≠ b → (TX6 a).2.1 ≠ (TX6 b).2.1 := by decide +kernel
theorem tyX6_ok : ∀ k, k < 7 → parseFieldDescriptor (TX6 k).2.2.1 = some (tyX6 k) := by decide +kernel
abbrev cX6_init : ByteArray := prog_1_method_1_code
def yX6_init : MethodName := ⟨RX6, "<init>", "()V"⟩
abbrev cX6_child : ByteArray := prog_1_method_2_code
def yX6_child : MethodName := ⟨RX6, "child", "(I)I"⟩
abbrev cX6_know : ByteArray := prog_1_method_3_code
def yX6_know : MethodName := ⟨RX6, "know", "(III)I"⟩
abbrev cX6_need : ByteArray := prog_1_method_4_code
def yX6_need : MethodName := ⟨RX6, "need", "(II)I"⟩
abbrev cX6_hears : ByteArray := prog_1_method_5_code
def yX6_hears : MethodName := ⟨RX6, "hears", "(IIZ)I"⟩
abbrev cX6_told : ByteArray := prog_1_method_6_code
def yX6_told : MethodName := ⟨RX6, "told", "(II)I"⟩
abbrev cX6_passes : ByteArray := prog_1_method_7_code
def yX6_passes : MethodName := ⟨RX6, "passes", "(II)I"⟩
abbrev cX6_type : ByteArray := prog_1_method_8_code
def yX6_type : MethodName := ⟨RX6, "type", "(JI)I"⟩
abbrev cX6_school : ByteArray := prog_1_method_9_code
def yX6_school : MethodName := ⟨RX6, "school", "()I"⟩
abbrev cX6_plan : ByteArray := prog_1_method_10_code
def yX6_plan : MethodName := ⟨RX6, "plan", "()I"⟩
abbrev cX6_count : ByteArray := prog_1_method_11_code
def yX6_count : MethodName := ⟨RX6, "count", "(I)I"⟩
abbrev cX6_may : ByteArray := prog_1_method_12_code
def yX6_may : MethodName := ⟨RX6, "may", "(III)I"⟩
abbrev cX6_teach : ByteArray := prog_1_method_13_code
def yX6_teach : MethodName := ⟨RX6, "teach", "(III)I"⟩
abbrev cX6_run : ByteArray := prog_1_method_14_code
def yX6_run : MethodName := ⟨RX6, "run", "()I"⟩
abbrev cX6_hours : ByteArray := prog_1_method_15_code
def yX6_hours : MethodName := ⟨RX6, "hours", "(I)I"⟩
abbrev cX6_bound : ByteArray := prog_1_method_16_code
def yX6_bound : MethodName := ⟨RX6, "bound", "(I)I"⟩
abbrev cX6_spared : ByteArray := prog_1_method_17_code
def yX6_spared : MethodName := ⟨RX6, "spared", "()I"⟩
abbrev cX6_order : ByteArray := prog_1_method_18_code
def yX6_order : MethodName := ⟨RX6, "order", "(II)I"⟩
abbrev cX6_mouths : ByteArray := prog_1_method_19_code
def yX6_mouths : MethodName := ⟨RX6, "mouths", "(II)I"⟩
abbrev cX6_from : ByteArray := prog_1_method_20_code
def yX6_from : MethodName := ⟨RX6, "from", "(II)I"⟩
abbrev cX6_lessons : ByteArray := prog_1_method_21_code
def yX6_lessons : MethodName := ⟨RX6, "lessons", "(I)I"⟩
abbrev cX6_seed : ByteArray := prog_1_method_22_code
def yX6_seed : MethodName := ⟨RX6, "seed", "(I)I"⟩
abbrev cX6_image : ByteArray := prog_1_method_23_code
def yX6_image : MethodName := ⟨RX6, "image", "()I"⟩
abbrev cX6_restore : ByteArray := prog_1_method_24_code
def yX6_restore : MethodName := ⟨RX6, "restore", "()I"⟩
abbrev cX6_hour : ByteArray := prog_1_method_25_code
def yX6_hour : MethodName := ⟨RX6, "hour", "(IIII)I"⟩
abbrev cX6_film : ByteArray := prog_1_method_26_code
def yX6_film : MethodName := ⟨RX6, "film", "(IIII)I"⟩
abbrev cX6_sheet : ByteArray := prog_1_method_27_code
def yX6_sheet : MethodName := ⟨RX6, "sheet", "(III)I"⟩
abbrev cX6_drop : ByteArray := prog_1_method_28_code
def yX6_drop : MethodName := ⟨RX6, "drop", "(I)I"⟩
abbrev cX6_item : ByteArray := prog_1_method_29_code
def yX6_item : MethodName := ⟨RX6, "item", "(IIII)I"⟩
abbrev cX6_copy : ByteArray := prog_1_method_30_code
def yX6_copy : MethodName := ⟨RX6, "copy", "(IIIII)I"⟩
abbrev cX6_isThing : ByteArray := prog_1_method_31_code
def yX6_isThing : MethodName := ⟨RX6, "isThing", "(I)Z"⟩
abbrev cX6_isSet : ByteArray := prog_1_method_32_code
def yX6_isSet : MethodName := ⟨RX6, "isSet", "(I)Z"⟩
abbrev cX6_isSheet : ByteArray := prog_1_method_33_code
def yX6_isSheet : MethodName := ⟨RX6, "isSheet", "(I)Z"⟩
abbrev cX6_isLane : ByteArray := prog_1_method_34_code
def yX6_isLane : MethodName := ⟨RX6, "isLane", "(I)Z"⟩
abbrev cX6_has : ByteArray := prog_1_method_35_code
def yX6_has : MethodName := ⟨RX6, "has", "(II)Z"⟩
abbrev cX6_passedOn : ByteArray := prog_1_method_36_code
def yX6_passedOn : MethodName := ⟨RX6, "passedOn", "(II)I"⟩
abbrev cX6_teaching : ByteArray := prog_1_method_37_code
def yX6_teaching : MethodName := ⟨RX6, "teaching", "(III)I"⟩
abbrev cX6_teacherOf : ByteArray := prog_1_method_38_code
def yX6_teacherOf : MethodName := ⟨RX6, "teacherOf", "(I)I"⟩
abbrev cX6_pupilOf : ByteArray := prog_1_method_39_code
def yX6_pupilOf : MethodName := ⟨RX6, "pupilOf", "(I)I"⟩
abbrev cX6_thingOf : ByteArray := prog_1_method_40_code
def yX6_thingOf : MethodName := ⟨RX6, "thingOf", "(I)I"⟩
abbrev cX6_pairOf : ByteArray := prog_1_method_41_code
def yX6_pairOf : MethodName := ⟨RX6, "pairOf", "(I)I"⟩
def RX7 : String := "TaughtHoursModel"
def TX7 : u_T := fun k => match k with
  | 0 => ("TaughtHoursModel", "kinds", "[I", true)
  | 1 => ("TaughtHoursModel", "heard", "[I", true)
  | 2 => ("TaughtHoursModel", "says", "[I", true)
  | 3 => ("TaughtHoursModel", "needs", "[I", true)
  | 4 => ("TaughtHoursModel", "many", "I", false)
  | 5 => ("TaughtHoursModel", "plan", "[I", true)
  | 6 => ("TaughtHoursModel", "planMany", "I", false)
  | 7 => ("TaughtHoursModel", "doneEver", "I", false)
  | 8 => ("TaughtHoursModel", "drawn", "I", false)
  | 9 => ("TaughtHoursModel", "tape", "[I", true)
  | 10 => ("TaughtHoursModel", "taped", "I", false)
  | 11 => ("TaughtHoursModel", "place", "I", false)
  | 12 => ("TaughtHoursModel", "reads", "I", false)
  | 13 => ("TaughtHoursModel", "read", "[I", true)
  | 14 => ("TaughtHoursModel", "reached", "[Z", true)
  | 15 => ("TaughtHoursModel", "next", "[Z", true)
  | 16 => ("TaughtHoursModel", "things", "[I", true)
  | 17 => ("TaughtHoursModel", "thingMany", "I", false)
  | 18 => ("TaughtHoursModel", "frees", "[I", true)
  | 19 => ("TaughtHoursModel", "knowns", "[I", true)
  | 20 => ("TaughtHoursModel", "had", "[I", true)
  | 21 => ("TaughtHoursModel", "whole", "[I", true)
  | 22 => ("TaughtHoursModel", "row", "[I", true)
  | 23 => ("TaughtHoursModel", "who", "[I", true)
  | 24 => ("TaughtHoursModel", "whoMany", "I", false)
  | 25 => ("TaughtHoursModel", "first", "[I", true)
  | 26 => ("TaughtHoursModel", "ways", "I", false)
  | 27 => ("TaughtHoursModel", "firsts", "I", false)
  | 28 => ("TaughtHoursModel", "isKept", "Z", false)
  | 29 => ("TaughtHoursModel", "kept", "[I", true)
  | 30 => ("TaughtHoursModel", "lanes", "[I", true)
  | 31 => ("TaughtHoursModel", "rowSizes", "[I", true)
  | 32 => ("TaughtHoursModel", "items", "[I", true)
  | _ => ("TaughtHoursModel", "moved", "[I", true)
def tyX7 : Nat → FieldType := fun k => match k with
  | 0 => .array .int
  | 1 => .array .int
  | 2 => .array .int
  | 3 => .array .int
  | 4 => .int
  | 5 => .array .int
  | 6 => .int
  | 7 => .int
  | 8 => .int
  | 9 => .array .int
  | 10 => .int
  | 11 => .int
  | 12 => .int
  | 13 => .array .int
  | 14 => .array .boolean
  | 15 => .array .boolean
  | 16 => .array .int
  | 17 => .int
  | 18 => .array .int
  | 19 => .array .int
  | 20 => .array .int
  | 21 => .array .int
  | 22 => .array .int
  | 23 => .array .int
  | 24 => .int
  | 25 => .array .int
  | 26 => .int
  | 27 => .int
  | 28 => .boolean
  | 29 => .array .int
  | 30 => .array .int
  | 31 => .array .int
  | 32 => .array .int
  | _ => .array .int
abbrev wsX70 : List Cond := u_ws RX7 TX7 34
theorem nmX7 : ∀ a, a < 34 → ∀ b, b < 34 → a ≠ b → (TX7 a).2.1 ≠ (TX7 b).2.1 := by decide +kernel
theorem tyX7_ok : ∀ k, k < 34 → parseFieldDescriptor (TX7 k).2.2.1 = some (tyX7 k) := by decide +kernel
abbrev cX7_init : ByteArray := prog_9_method_1_code
def yX7_init : MethodName := ⟨RX7, "<init>", "()V"⟩
abbrev cX7_in : ByteArray := prog_9_method_2_code
def yX7_in : MethodName := ⟨RX7, "in", "(JJJ)Z"⟩
abbrev cX7_has : ByteArray := prog_9_method_3_code
def yX7_has : MethodName := ⟨RX7, "has", "(II)Z"⟩
abbrev cX7_isChild : ByteArray := prog_9_method_4_code
def yX7_isChild : MethodName := ⟨RX7, "isChild", "(I)Z"⟩
abbrev cX7_isThing : ByteArray := prog_9_method_5_code
def yX7_isThing : MethodName := ⟨RX7, "isThing", "(I)Z"⟩
abbrev cX7_areTwo : ByteArray := prog_9_method_6_code
def yX7_areTwo : MethodName := ⟨RX7, "areTwo", "(II)Z"⟩
abbrev cX7_add : ByteArray := prog_9_method_7_code
def yX7_add : MethodName := ⟨RX7, "add", "(I)V"⟩
abbrev cX7_child : ByteArray := prog_9_method_8_code
def yX7_child : MethodName := ⟨RX7, "child", "(I)I"⟩
abbrev cX7_know : ByteArray := prog_9_method_9_code
def yX7_know : MethodName := ⟨RX7, "know", "(III)I"⟩
abbrev cX7_need : ByteArray := prog_9_method_10_code
def yX7_need : MethodName := ⟨RX7, "need", "(II)I"⟩
abbrev cX7_hears : ByteArray := prog_9_method_11_code
def yX7_hears : MethodName := ⟨RX7, "hears", "(IIZ)I"⟩
abbrev cX7_knownTo : ByteArray := prog_9_method_12_code
def yX7_knownTo : MethodName := ⟨RX7, "knownTo", "(I)I"⟩
abbrev cX7_told : ByteArray := prog_9_method_13_code
def yX7_told : MethodName := ⟨RX7, "told", "(II)I"⟩
abbrev cX7_pass : ByteArray := prog_9_method_14_code
def yX7_pass : MethodName := ⟨RX7, "pass", "(II)I"⟩
abbrev cX7_passes : ByteArray := prog_9_method_15_code
def yX7_passes : MethodName := ⟨RX7, "passes", "(II)I"⟩
abbrev cX7_count : ByteArray := prog_9_method_16_code
def yX7_count : MethodName := ⟨RX7, "count", "(I)I"⟩
abbrev cX7_type : ByteArray := prog_9_method_17_code
def yX7_type : MethodName := ⟨RX7, "type", "(JI)I"⟩
abbrev cX7_nextByte : ByteArray := prog_9_method_18_code
def yX7_nextByte : MethodName := ⟨RX7, "nextByte", "()I"⟩
abbrev cX7_readChild : ByteArray := prog_9_method_19_code
def yX7_readChild : MethodName := ⟨RX7, "readChild", "(I)Z"⟩
abbrev cX7_readSchool : ByteArray := prog_9_method_20_code
def yX7_readSchool : MethodName := ⟨RX7, "readSchool", "()Z"⟩
abbrev cX7_school : ByteArray := prog_9_method_21_code
def yX7_school : MethodName := ⟨RX7, "school", "()I"⟩
abbrev cX7_readTeaching : ByteArray := prog_9_method_22_code
def yX7_readTeaching : MethodName := ⟨RX7, "readTeaching", "(I)Z"⟩
abbrev cX7_readPlan : ByteArray := prog_9_method_23_code
def yX7_readPlan : MethodName := ⟨RX7, "readPlan", "()Z"⟩
abbrev cX7_plan : ByteArray := prog_9_method_24_code
def yX7_plan : MethodName := ⟨RX7, "plan", "()I"⟩
abbrev cX7_mayBe : ByteArray := prog_9_method_25_code
def yX7_mayBe : MethodName := ⟨RX7, "mayBe", "(III)Z"⟩
abbrev cX7_teachNow : ByteArray := prog_9_method_26_code
def yX7_teachNow : MethodName := ⟨RX7, "teachNow", "(III)V"⟩
abbrev cX7_may : ByteArray := prog_9_method_27_code
def yX7_may : MethodName := ⟨RX7, "may", "(III)I"⟩
abbrev cX7_teach : ByteArray := prog_9_method_28_code
def yX7_teach : MethodName := ⟨RX7, "teach", "(III)I"⟩
abbrev cX7_run : ByteArray := prog_9_method_29_code
def yX7_run : MethodName := ⟨RX7, "run", "()I"⟩
abbrev cX7_ones : ByteArray := prog_9_method_30_code
def yX7_ones : MethodName := ⟨RX7, "ones", "(I)I"⟩
abbrev cX7_mayTeach : ByteArray := prog_9_method_31_code
def yX7_mayTeach : MethodName := ⟨RX7, "mayTeach", "(IIII)Z"⟩
abbrev cX7_goOn : ByteArray := prog_9_method_32_code
def yX7_goOn : MethodName := ⟨RX7, "goOn", "(I)V"⟩
abbrev cX7_hours : ByteArray := prog_9_method_33_code
def yX7_hours : MethodName := ⟨RX7, "hours", "(I)I"⟩
abbrev cX7_bound : ByteArray := prog_9_method_34_code
def yX7_bound : MethodName := ⟨RX7, "bound", "(I)I"⟩
abbrev cX7_goWithout : ByteArray := prog_9_method_35_code
def yX7_goWithout : MethodName := ⟨RX7, "goWithout", "(I)V"⟩
abbrev cX7_bringBack : ByteArray := prog_9_method_36_code
def yX7_bringBack : MethodName := ⟨RX7, "bringBack", "()V"⟩
abbrev cX7_spared : ByteArray := prog_9_method_37_code
def yX7_spared : MethodName := ⟨RX7, "spared", "()I"⟩
abbrev cX7_order : ByteArray := prog_9_method_38_code
def yX7_order : MethodName := ⟨RX7, "order", "(II)I"⟩
abbrev cX7_canHave : ByteArray := prog_9_method_39_code
def yX7_canHave : MethodName := ⟨RX7, "canHave", "(III)Z"⟩
abbrev cX7_isWay : ByteArray := prog_9_method_40_code
def yX7_isWay : MethodName := ⟨RX7, "isWay", "(I)Z"⟩
abbrev cX7_nextRow : ByteArray := prog_9_method_41_code
def yX7_nextRow : MethodName := ⟨RX7, "nextRow", "()Z"⟩
abbrev cX7_findWays : ByteArray := prog_9_method_42_code
def yX7_findWays : MethodName := ⟨RX7, "findWays", "(I)V"⟩
abbrev cX7_mouths : ByteArray := prog_9_method_43_code
def yX7_mouths : MethodName := ⟨RX7, "mouths", "(II)I"⟩
abbrev cX7_from : ByteArray := prog_9_method_44_code
def yX7_from : MethodName := ⟨RX7, "from", "(II)I"⟩
abbrev cX7_lesson : ByteArray := prog_9_method_45_code
def yX7_lesson : MethodName := ⟨RX7, "lesson", "(I)I"⟩
abbrev cX7_lessons : ByteArray := prog_9_method_46_code
def yX7_lessons : MethodName := ⟨RX7, "lessons", "(I)I"⟩
abbrev cX7_seed : ByteArray := prog_9_method_47_code
def yX7_seed : MethodName := ⟨RX7, "seed", "(I)I"⟩
abbrev cX7_carried : ByteArray := prog_9_method_48_code
def yX7_carried : MethodName := ⟨RX7, "carried", "(IIZ)I"⟩
abbrev cX7_image : ByteArray := prog_9_method_49_code
def yX7_image : MethodName := ⟨RX7, "image", "()I"⟩
abbrev cX7_restore : ByteArray := prog_9_method_50_code
def yX7_restore : MethodName := ⟨RX7, "restore", "()I"⟩
abbrev cX7_isSheet : ByteArray := prog_9_method_51_code
def yX7_isSheet : MethodName := ⟨RX7, "isSheet", "(II)Z"⟩
abbrev cX7_sheet : ByteArray := prog_9_method_52_code
def yX7_sheet : MethodName := ⟨RX7, "sheet", "(III)I"⟩
abbrev cX7_drop : ByteArray := prog_9_method_53_code
def yX7_drop : MethodName := ⟨RX7, "drop", "(I)I"⟩
abbrev cX7_lacksRow : ByteArray := prog_9_method_54_code
def yX7_lacksRow : MethodName := ⟨RX7, "lacksRow", "(IIII)I"⟩
abbrev cX7_item : ByteArray := prog_9_method_55_code
def yX7_item : MethodName := ⟨RX7, "item", "(IIII)I"⟩
abbrev cX7_hour : ByteArray := prog_9_method_56_code
def yX7_hour : MethodName := ⟨RX7, "hour", "(IIII)I"⟩
abbrev cX7_film : ByteArray := prog_9_method_57_code
def yX7_film : MethodName := ⟨RX7, "film", "(IIII)I"⟩
abbrev cX7_copy : ByteArray := prog_9_method_58_code
def yX7_copy : MethodName := ⟨RX7, "copy", "(IIIII)I"⟩
def RJ6 : String := "java/lang/Integer"
def TJ6 : u_T := fun k => match k with
  | _ => ("", "", "", false)
def tyJ6 : Nat → FieldType := fun k => match k with
  | _ => .int
abbrev wsJ60 : List Cond := u_ws RJ6 TJ6 0
abbrev cJ6_bitCount_0f7a4 : ByteArray := prog_10_method_49_code
def yJ6_bitCount_0f7a4 : MethodName := ⟨RJ6, "bitCount", "(I)I"⟩
def RJ10 : String := "java/lang/System"
def TJ10 : u_T := fun k => match k with
  | _ => ("", "", "", false)
def tyJ10 : Nat → FieldType := fun k => match k with
  | _ => .int
abbrev wsJ100 : List Cond := u_ws RJ10 TJ10 0
def RJ7 : String := "java/util/Arrays"
def TJ7 : u_T := fun k => match k with
  | _ => ("", "", "", false)
def tyJ7 : Nat → FieldType := fun k => match k with
  | _ => .int
abbrev wsJ70 : List Cond := u_ws RJ7 TJ7 0
abbrev cJ7_fill_53178 : ByteArray := prog_12_method_103_code
def yJ7_fill_53178 : MethodName := ⟨RJ7, "fill", "([II)V"⟩
abbrev cJ7_fill_031fb : ByteArray := prog_12_method_109_code
def yJ7_fill_031fb : MethodName := ⟨RJ7, "fill", "([BB)V"⟩
def RL : String := "TaughtHoursLaw"
abbrev cL_law : ByteArray := code
def yL_law : MethodName := ⟨RL, "law", "([I)Z"⟩
abbrev vwCl : List vw_C := [(RX0, TX0, 4), (RX1, TX1, 6), (RX2, TX2, 4), (RX3, TX3, 13), (RX4, TX4, 9), (RX5, TX5, 3), (RX6, TX6, 7), (RX7, TX7, 34)]
