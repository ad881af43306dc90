section
-- ===== PART A: goes FIRST, ahead of the names: the tables' words, and 'selects' of the private methods out of them =====
/-- a private method of a class that the tables say can be made, by its rows of tables_1 -/
def lw_okq (q : MethodName × Nat) : Prop := (q.1.cls ≠ "java/lang/invoke/MethodHandle" ∧ q.1.cls ≠ "java/lang/invoke/VarHandle") ∧ Cond.instantiable q.1.cls q.2 ∈ tables_1 ∧ Cond.privateMethod q.1 ∈ tables_1 ∧ Cond.instanceMethod q.1 ∈ tables_1
theorem lw_p0 : lw_okq (⟨"TaughtHours$Reader", "rewind", "()V"⟩, 6) := ⟨⟨by decide +kernel, by decide +kernel⟩, List.mem_of_getElem? (i := 110) (by decide +kernel), List.mem_of_getElem? (i := 314) (by decide +kernel), List.mem_of_getElem? (i := 315) (by decide +kernel)⟩
theorem lw_p1 : lw_okq (⟨"TaughtHours$Reader", "skipBlanks", "()V"⟩, 6) := ⟨⟨by decide +kernel, by decide +kernel⟩, List.mem_of_getElem? (i := 110) (by decide +kernel), List.mem_of_getElem? (i := 318) (by decide +kernel), List.mem_of_getElem? (i := 319) (by decide +kernel)⟩
theorem lw_p2 : lw_okq (⟨"TaughtHours$Reader", "takes", "(I)Z"⟩, 6) := ⟨⟨by decide +kernel, by decide +kernel⟩, List.mem_of_getElem? (i := 110) (by decide +kernel), List.mem_of_getElem? (i := 322) (by decide +kernel), List.mem_of_getElem? (i := 323) (by decide +kernel)⟩
theorem lw_p3 : lw_okq (⟨"TaughtHours$Reader", "sign", "()I"⟩, 6) := ⟨⟨by decide +kernel, by decide +kernel⟩, List.mem_of_getElem? (i := 110) (by decide +kernel), List.mem_of_getElem? (i := 326) (by decide +kernel), List.mem_of_getElem? (i := 327) (by decide +kernel)⟩
theorem lw_p4 : lw_okq (⟨"TaughtHours$Reader", "step", "()V"⟩, 6) := ⟨⟨by decide +kernel, by decide +kernel⟩, List.mem_of_getElem? (i := 110) (by decide +kernel), List.mem_of_getElem? (i := 330) (by decide +kernel), List.mem_of_getElem? (i := 331) (by decide +kernel)⟩
theorem lw_p5 : lw_okq (⟨"TaughtHours$Reader", "fault", "()I"⟩, 6) := ⟨⟨by decide +kernel, by decide +kernel⟩, List.mem_of_getElem? (i := 110) (by decide +kernel), List.mem_of_getElem? (i := 334) (by decide +kernel), List.mem_of_getElem? (i := 335) (by decide +kernel)⟩
theorem lw_p6 : lw_okq (⟨"TaughtHours$Reader", "readThings", "()I"⟩, 6) := ⟨⟨by decide +kernel, by decide +kernel⟩, List.mem_of_getElem? (i := 110) (by decide +kernel), List.mem_of_getElem? (i := 341) (by decide +kernel), List.mem_of_getElem? (i := 342) (by decide +kernel)⟩
theorem lw_p7 : lw_okq (⟨"TaughtHours$Reader", "readTeaching", "(I)I"⟩, 6) := ⟨⟨by decide +kernel, by decide +kernel⟩, List.mem_of_getElem? (i := 110) (by decide +kernel), List.mem_of_getElem? (i := 369) (by decide +kernel), List.mem_of_getElem? (i := 370) (by decide +kernel)⟩
theorem lw_p8 : lw_okq (⟨"TaughtHours$Search", "load", "(LTaughtHours$School;I)I"⟩, 9) := ⟨⟨by decide +kernel, by decide +kernel⟩, List.mem_of_getElem? (i := 141) (by decide +kernel), List.mem_of_getElem? (i := 467) (by decide +kernel), List.mem_of_getElem? (i := 468) (by decide +kernel)⟩
theorem lw_p9 : lw_okq (⟨"TaughtHours$Search", "closure", "(I)I"⟩, 9) := ⟨⟨by decide +kernel, by decide +kernel⟩, List.mem_of_getElem? (i := 141) (by decide +kernel), List.mem_of_getElem? (i := 482) (by decide +kernel), List.mem_of_getElem? (i := 483) (by decide +kernel)⟩
theorem lw_p10 : lw_okq (⟨"TaughtHours$Search", "knownBy", "(II)I"⟩, 9) := ⟨⟨by decide +kernel, by decide +kernel⟩, List.mem_of_getElem? (i := 141) (by decide +kernel), List.mem_of_getElem? (i := 486) (by decide +kernel), List.mem_of_getElem? (i := 487) (by decide +kernel)⟩
theorem lw_p11 : lw_okq (⟨"TaughtHours$Search", "learnable", "(II)I"⟩, 9) := ⟨⟨by decide +kernel, by decide +kernel⟩, List.mem_of_getElem? (i := 141) (by decide +kernel), List.mem_of_getElem? (i := 490) (by decide +kernel), List.mem_of_getElem? (i := 491) (by decide +kernel)⟩
theorem lw_p12 : lw_okq (⟨"TaughtHours$Search", "isEnough", "(II)Z"⟩, 9) := ⟨⟨by decide +kernel, by decide +kernel⟩, List.mem_of_getElem? (i := 141) (by decide +kernel), List.mem_of_getElem? (i := 497) (by decide +kernel), List.mem_of_getElem? (i := 498) (by decide +kernel)⟩
theorem lw_p13 : lw_okq (⟨"TaughtHours$Search", "lacking", "(I)I"⟩, 9) := ⟨⟨by decide +kernel, by decide +kernel⟩, List.mem_of_getElem? (i := 141) (by decide +kernel), List.mem_of_getElem? (i := 501) (by decide +kernel), List.mem_of_getElem? (i := 502) (by decide +kernel)⟩
theorem lw_p14 : lw_okq (⟨"TaughtHours$Search", "listGains", "(II)V"⟩, 9) := ⟨⟨by decide +kernel, by decide +kernel⟩, List.mem_of_getElem? (i := 141) (by decide +kernel), List.mem_of_getElem? (i := 505) (by decide +kernel), List.mem_of_getElem? (i := 506) (by decide +kernel)⟩
theorem lw_p15 : lw_okq (⟨"TaughtHours$Search", "pairUp", "(IIII)Z"⟩, 9) := ⟨⟨by decide +kernel, by decide +kernel⟩, List.mem_of_getElem? (i := 141) (by decide +kernel), List.mem_of_getElem? (i := 509) (by decide +kernel), List.mem_of_getElem? (i := 510) (by decide +kernel)⟩
def lw_privs_1 : List (MethodName × Nat) := [(⟨"TaughtHours$Reader", "rewind", "()V"⟩, 6), (⟨"TaughtHours$Reader", "skipBlanks", "()V"⟩, 6), (⟨"TaughtHours$Reader", "takes", "(I)Z"⟩, 6), (⟨"TaughtHours$Reader", "sign", "()I"⟩, 6), (⟨"TaughtHours$Reader", "step", "()V"⟩, 6), (⟨"TaughtHours$Reader", "fault", "()I"⟩, 6), (⟨"TaughtHours$Reader", "readThings", "()I"⟩, 6), (⟨"TaughtHours$Reader", "readTeaching", "(I)I"⟩, 6), (⟨"TaughtHours$Search", "load", "(LTaughtHours$School;I)I"⟩, 9), (⟨"TaughtHours$Search", "closure", "(I)I"⟩, 9), (⟨"TaughtHours$Search", "knownBy", "(II)I"⟩, 9), (⟨"TaughtHours$Search", "learnable", "(II)I"⟩, 9), (⟨"TaughtHours$Search", "isEnough", "(II)Z"⟩, 9), (⟨"TaughtHours$Search", "lacking", "(I)I"⟩, 9), (⟨"TaughtHours$Search", "listGains", "(II)V"⟩, 9), (⟨"TaughtHours$Search", "pairUp", "(IIII)Z"⟩, 9)]
theorem lw_r1 : ∀ q ∈ lw_privs_1, lw_okq q := List.forall_mem_cons.mpr ⟨lw_p0, List.forall_mem_cons.mpr ⟨lw_p1, List.forall_mem_cons.mpr ⟨lw_p2, List.forall_mem_cons.mpr ⟨lw_p3, List.forall_mem_cons.mpr ⟨lw_p4, List.forall_mem_cons.mpr ⟨lw_p5, List.forall_mem_cons.mpr ⟨lw_p6, List.forall_mem_cons.mpr ⟨lw_p7, List.forall_mem_cons.mpr ⟨lw_p8, List.forall_mem_cons.mpr ⟨lw_p9, List.forall_mem_cons.mpr ⟨lw_p10, List.forall_mem_cons.mpr ⟨lw_p11, List.forall_mem_cons.mpr ⟨lw_p12, List.forall_mem_cons.mpr ⟨lw_p13, List.forall_mem_cons.mpr ⟨lw_p14, List.forall_mem_cons.mpr ⟨lw_p15, fun _ h => absurd h List.not_mem_nil⟩⟩⟩⟩⟩⟩⟩⟩⟩⟩⟩⟩⟩⟩⟩⟩
theorem lw_p16 : lw_okq (⟨"TaughtHours$Search", "pairTaught", "(IIIII)Z"⟩, 9) := ⟨⟨by decide +kernel, by decide +kernel⟩, List.mem_of_getElem? (i := 141) (by decide +kernel), List.mem_of_getElem? (i := 516) (by decide +kernel), List.mem_of_getElem? (i := 517) (by decide +kernel)⟩
theorem lw_p17 : lw_okq (⟨"TaughtHours$School", "goWithout", "(I[I)V"⟩, 13) := ⟨⟨by decide +kernel, by decide +kernel⟩, List.mem_of_getElem? (i := 21) (by decide +kernel), List.mem_of_getElem? (i := 532) (by decide +kernel), List.mem_of_getElem? (i := 533) (by decide +kernel)⟩
theorem lw_p18 : lw_okq (⟨"TaughtHours$School", "trialIsAsGood", "(I)Z"⟩, 13) := ⟨⟨by decide +kernel, by decide +kernel⟩, List.mem_of_getElem? (i := 21) (by decide +kernel), List.mem_of_getElem? (i := 537) (by decide +kernel), List.mem_of_getElem? (i := 538) (by decide +kernel)⟩
theorem lw_p19 : lw_okq (⟨"TaughtHours$Rumour", "minor", "(II)I"⟩, 4) := ⟨⟨by decide +kernel, by decide +kernel⟩, List.mem_of_getElem? (i := 175) (by decide +kernel), List.mem_of_getElem? (i := 565) (by decide +kernel), List.mem_of_getElem? (i := 566) (by decide +kernel)⟩
theorem lw_p20 : lw_okq (⟨"TaughtHours$Rumour", "reachesAll", "(I)Z"⟩, 4) := ⟨⟨by decide +kernel, by decide +kernel⟩, List.mem_of_getElem? (i := 175) (by decide +kernel), List.mem_of_getElem? (i := 574) (by decide +kernel), List.mem_of_getElem? (i := 575) (by decide +kernel)⟩
theorem lw_p21 : lw_okq (⟨"TaughtHours$Rumour", "settle", "(I)I"⟩, 4) := ⟨⟨by decide +kernel, by decide +kernel⟩, List.mem_of_getElem? (i := 175) (by decide +kernel), List.mem_of_getElem? (i := 587) (by decide +kernel), List.mem_of_getElem? (i := 588) (by decide +kernel)⟩
theorem lw_p22 : lw_okq (⟨"TaughtHours$School", "listChoices", "()I"⟩, 13) := ⟨⟨by decide +kernel, by decide +kernel⟩, List.mem_of_getElem? (i := 21) (by decide +kernel), List.mem_of_getElem? (i := 599) (by decide +kernel), List.mem_of_getElem? (i := 600) (by decide +kernel)⟩
theorem lw_p23 : lw_okq (⟨"TaughtHoursModel", "add", "(I)V"⟩, 34) := ⟨⟨by decide +kernel, by decide +kernel⟩, List.mem_of_getElem? (i := 687) (by decide +kernel), List.mem_of_getElem? (i := 804) (by decide +kernel), List.mem_of_getElem? (i := 805) (by decide +kernel)⟩
theorem lw_p24 : lw_okq (⟨"TaughtHoursModel", "isChild", "(I)Z"⟩, 34) := ⟨⟨by decide +kernel, by decide +kernel⟩, List.mem_of_getElem? (i := 687) (by decide +kernel), List.mem_of_getElem? (i := 812) (by decide +kernel), List.mem_of_getElem? (i := 813) (by decide +kernel)⟩
theorem lw_p25 : lw_okq (⟨"TaughtHoursModel", "areTwo", "(II)Z"⟩, 34) := ⟨⟨by decide +kernel, by decide +kernel⟩, List.mem_of_getElem? (i := 687) (by decide +kernel), List.mem_of_getElem? (i := 833) (by decide +kernel), List.mem_of_getElem? (i := 834) (by decide +kernel)⟩
theorem lw_p26 : lw_okq (⟨"TaughtHoursModel", "knownTo", "(I)I"⟩, 34) := ⟨⟨by decide +kernel, by decide +kernel⟩, List.mem_of_getElem? (i := 687) (by decide +kernel), List.mem_of_getElem? (i := 842) (by decide +kernel), List.mem_of_getElem? (i := 843) (by decide +kernel)⟩
theorem lw_p27 : lw_okq (⟨"TaughtHoursModel", "readSchool", "()Z"⟩, 34) := ⟨⟨by decide +kernel, by decide +kernel⟩, List.mem_of_getElem? (i := 687) (by decide +kernel), List.mem_of_getElem? (i := 869) (by decide +kernel), List.mem_of_getElem? (i := 870) (by decide +kernel)⟩
theorem lw_p28 : lw_okq (⟨"TaughtHoursModel", "readChild", "(I)Z"⟩, 34) := ⟨⟨by decide +kernel, by decide +kernel⟩, List.mem_of_getElem? (i := 687) (by decide +kernel), List.mem_of_getElem? (i := 873) (by decide +kernel), List.mem_of_getElem? (i := 874) (by decide +kernel)⟩
theorem lw_p29 : lw_okq (⟨"TaughtHoursModel", "nextByte", "()I"⟩, 34) := ⟨⟨by decide +kernel, by decide +kernel⟩, List.mem_of_getElem? (i := 687) (by decide +kernel), List.mem_of_getElem? (i := 877) (by decide +kernel), List.mem_of_getElem? (i := 878) (by decide +kernel)⟩
theorem lw_p30 : lw_okq (⟨"TaughtHoursModel", "readPlan", "()Z"⟩, 34) := ⟨⟨by decide +kernel, by decide +kernel⟩, List.mem_of_getElem? (i := 687) (by decide +kernel), List.mem_of_getElem? (i := 887) (by decide +kernel), List.mem_of_getElem? (i := 888) (by decide +kernel)⟩
theorem lw_p31 : lw_okq (⟨"TaughtHoursModel", "readTeaching", "(I)Z"⟩, 34) := ⟨⟨by decide +kernel, by decide +kernel⟩, List.mem_of_getElem? (i := 687) (by decide +kernel), List.mem_of_getElem? (i := 891) (by decide +kernel), List.mem_of_getElem? (i := 892) (by decide +kernel)⟩
def lw_privs_2 : List (MethodName × Nat) := [(⟨"TaughtHours$Search", "pairTaught", "(IIIII)Z"⟩, 9), (⟨"TaughtHours$School", "goWithout", "(I[I)V"⟩, 13), (⟨"TaughtHours$School", "trialIsAsGood", "(I)Z"⟩, 13), (⟨"TaughtHours$Rumour", "minor", "(II)I"⟩, 4), (⟨"TaughtHours$Rumour", "reachesAll", "(I)Z"⟩, 4), (⟨"TaughtHours$Rumour", "settle", "(I)I"⟩, 4), (⟨"TaughtHours$School", "listChoices", "()I"⟩, 13), (⟨"TaughtHoursModel", "add", "(I)V"⟩, 34), (⟨"TaughtHoursModel", "isChild", "(I)Z"⟩, 34), (⟨"TaughtHoursModel", "areTwo", "(II)Z"⟩, 34), (⟨"TaughtHoursModel", "knownTo", "(I)I"⟩, 34), (⟨"TaughtHoursModel", "readSchool", "()Z"⟩, 34), (⟨"TaughtHoursModel", "readChild", "(I)Z"⟩, 34), (⟨"TaughtHoursModel", "nextByte", "()I"⟩, 34), (⟨"TaughtHoursModel", "readPlan", "()Z"⟩, 34), (⟨"TaughtHoursModel", "readTeaching", "(I)Z"⟩, 34)]
theorem lw_r2 : ∀ q ∈ lw_privs_2, lw_okq q := List.forall_mem_cons.mpr ⟨lw_p16, List.forall_mem_cons.mpr ⟨lw_p17, List.forall_mem_cons.mpr ⟨lw_p18, List.forall_mem_cons.mpr ⟨lw_p19, List.forall_mem_cons.mpr ⟨lw_p20, List.forall_mem_cons.mpr ⟨lw_p21, List.forall_mem_cons.mpr ⟨lw_p22, List.forall_mem_cons.mpr ⟨lw_p23, List.forall_mem_cons.mpr ⟨lw_p24, List.forall_mem_cons.mpr ⟨lw_p25, List.forall_mem_cons.mpr ⟨lw_p26, List.forall_mem_cons.mpr ⟨lw_p27, List.forall_mem_cons.mpr ⟨lw_p28, List.forall_mem_cons.mpr ⟨lw_p29, List.forall_mem_cons.mpr ⟨lw_p30, List.forall_mem_cons.mpr ⟨lw_p31, fun _ h => absurd h List.not_mem_nil⟩⟩⟩⟩⟩⟩⟩⟩⟩⟩⟩⟩⟩⟩⟩⟩
theorem lw_p32 : lw_okq (⟨"TaughtHoursModel", "mayBe", "(III)Z"⟩, 34) := ⟨⟨by decide +kernel, by decide +kernel⟩, List.mem_of_getElem? (i := 687) (by decide +kernel), List.mem_of_getElem? (i := 899) (by decide +kernel), List.mem_of_getElem? (i := 900) (by decide +kernel)⟩
theorem lw_p33 : lw_okq (⟨"TaughtHoursModel", "teachNow", "(III)V"⟩, 34) := ⟨⟨by decide +kernel, by decide +kernel⟩, List.mem_of_getElem? (i := 687) (by decide +kernel), List.mem_of_getElem? (i := 907) (by decide +kernel), List.mem_of_getElem? (i := 908) (by decide +kernel)⟩
theorem lw_p34 : lw_okq (⟨"TaughtHoursModel", "goOn", "(I)V"⟩, 34) := ⟨⟨by decide +kernel, by decide +kernel⟩, List.mem_of_getElem? (i := 687) (by decide +kernel), List.mem_of_getElem? (i := 923) (by decide +kernel), List.mem_of_getElem? (i := 924) (by decide +kernel)⟩
theorem lw_p35 : lw_okq (⟨"TaughtHoursModel", "mayTeach", "(IIII)Z"⟩, 34) := ⟨⟨by decide +kernel, by decide +kernel⟩, List.mem_of_getElem? (i := 687) (by decide +kernel), List.mem_of_getElem? (i := 927) (by decide +kernel), List.mem_of_getElem? (i := 928) (by decide +kernel)⟩
theorem lw_p36 : lw_okq (⟨"TaughtHoursModel", "goWithout", "(I)V"⟩, 34) := ⟨⟨by decide +kernel, by decide +kernel⟩, List.mem_of_getElem? (i := 687) (by decide +kernel), List.mem_of_getElem? (i := 939) (by decide +kernel), List.mem_of_getElem? (i := 940) (by decide +kernel)⟩
theorem lw_p37 : lw_okq (⟨"TaughtHoursModel", "bringBack", "()V"⟩, 34) := ⟨⟨by decide +kernel, by decide +kernel⟩, List.mem_of_getElem? (i := 687) (by decide +kernel), List.mem_of_getElem? (i := 943) (by decide +kernel), List.mem_of_getElem? (i := 944) (by decide +kernel)⟩
theorem lw_p38 : lw_okq (⟨"TaughtHoursModel", "findWays", "(I)V"⟩, 34) := ⟨⟨by decide +kernel, by decide +kernel⟩, List.mem_of_getElem? (i := 687) (by decide +kernel), List.mem_of_getElem? (i := 955) (by decide +kernel), List.mem_of_getElem? (i := 956) (by decide +kernel)⟩
theorem lw_p39 : lw_okq (⟨"TaughtHoursModel", "isWay", "(I)Z"⟩, 34) := ⟨⟨by decide +kernel, by decide +kernel⟩, List.mem_of_getElem? (i := 687) (by decide +kernel), List.mem_of_getElem? (i := 959) (by decide +kernel), List.mem_of_getElem? (i := 960) (by decide +kernel)⟩
theorem lw_p40 : lw_okq (⟨"TaughtHoursModel", "canHave", "(III)Z"⟩, 34) := ⟨⟨by decide +kernel, by decide +kernel⟩, List.mem_of_getElem? (i := 687) (by decide +kernel), List.mem_of_getElem? (i := 963) (by decide +kernel), List.mem_of_getElem? (i := 964) (by decide +kernel)⟩
theorem lw_p41 : lw_okq (⟨"TaughtHoursModel", "nextRow", "()Z"⟩, 34) := ⟨⟨by decide +kernel, by decide +kernel⟩, List.mem_of_getElem? (i := 687) (by decide +kernel), List.mem_of_getElem? (i := 967) (by decide +kernel), List.mem_of_getElem? (i := 968) (by decide +kernel)⟩
theorem lw_p42 : lw_okq (⟨"TaughtHoursModel", "lesson", "(I)I"⟩, 34) := ⟨⟨by decide +kernel, by decide +kernel⟩, List.mem_of_getElem? (i := 687) (by decide +kernel), List.mem_of_getElem? (i := 980) (by decide +kernel), List.mem_of_getElem? (i := 981) (by decide +kernel)⟩
theorem lw_p43 : lw_okq (⟨"TaughtHoursModel", "carried", "(IIZ)I"⟩, 34) := ⟨⟨by decide +kernel, by decide +kernel⟩, List.mem_of_getElem? (i := 687) (by decide +kernel), List.mem_of_getElem? (i := 996) (by decide +kernel), List.mem_of_getElem? (i := 997) (by decide +kernel)⟩
theorem lw_p44 : lw_okq (⟨"TaughtHoursModel", "lacksRow", "(IIII)I"⟩, 34) := ⟨⟨by decide +kernel, by decide +kernel⟩, List.mem_of_getElem? (i := 687) (by decide +kernel), List.mem_of_getElem? (i := 1020) (by decide +kernel), List.mem_of_getElem? (i := 1021) (by decide +kernel)⟩
def lw_privs_3 : List (MethodName × Nat) := [(⟨"TaughtHoursModel", "mayBe", "(III)Z"⟩, 34), (⟨"TaughtHoursModel", "teachNow", "(III)V"⟩, 34), (⟨"TaughtHoursModel", "goOn", "(I)V"⟩, 34), (⟨"TaughtHoursModel", "mayTeach", "(IIII)Z"⟩, 34), (⟨"TaughtHoursModel", "goWithout", "(I)V"⟩, 34), (⟨"TaughtHoursModel", "bringBack", "()V"⟩, 34), (⟨"TaughtHoursModel", "findWays", "(I)V"⟩, 34), (⟨"TaughtHoursModel", "isWay", "(I)Z"⟩, 34), (⟨"TaughtHoursModel", "canHave", "(III)Z"⟩, 34), (⟨"TaughtHoursModel", "nextRow", "()Z"⟩, 34), (⟨"TaughtHoursModel", "lesson", "(I)I"⟩, 34), (⟨"TaughtHoursModel", "carried", "(IIZ)I"⟩, 34), (⟨"TaughtHoursModel", "lacksRow", "(IIII)I"⟩, 34)]
theorem lw_r3 : ∀ q ∈ lw_privs_3, lw_okq q := List.forall_mem_cons.mpr ⟨lw_p32, List.forall_mem_cons.mpr ⟨lw_p33, List.forall_mem_cons.mpr ⟨lw_p34, List.forall_mem_cons.mpr ⟨lw_p35, List.forall_mem_cons.mpr ⟨lw_p36, List.forall_mem_cons.mpr ⟨lw_p37, List.forall_mem_cons.mpr ⟨lw_p38, List.forall_mem_cons.mpr ⟨lw_p39, List.forall_mem_cons.mpr ⟨lw_p40, List.forall_mem_cons.mpr ⟨lw_p41, List.forall_mem_cons.mpr ⟨lw_p42, List.forall_mem_cons.mpr ⟨lw_p43, List.forall_mem_cons.mpr ⟨lw_p44, fun _ h => absurd h List.not_mem_nil⟩⟩⟩⟩⟩⟩⟩⟩⟩⟩⟩⟩⟩
def lw_privs : List (MethodName × Nat) := lw_privs_1 ++ (lw_privs_2 ++ (lw_privs_3))
def lw_tbl : List Cond := k2_sels lw_privs ++ tables_1
theorem lw_privs_ok : ∀ q ∈ lw_privs, lw_okq q := by
  show ∀ q ∈ lw_privs_1 ++ (lw_privs_2 ++ (lw_privs_3)), lw_okq q
  exact List.forall_mem_append.mpr ⟨lw_r1, List.forall_mem_append.mpr ⟨lw_r2, lw_r3⟩⟩
-- ===== end of PART A; then your names; then what follows =====
/-! ===== BEGIN words of one list among another's, by their places ===== -/
theorem goodIn_r {big : List Cond} (ws : List Cond) (ps : List Nat) (hp : ws = ps.filterMap (fun i => big[i]?)) (h : ws.all goodWord = true) : GoodIn big ws := by
  intro w hw
  have h1 := List.all_eq_true.mp h w hw
  rw [hp] at hw
  obtain ⟨i, -, hi⟩ := List.mem_filterMap.mp hw
  have hm : w ∈ big := by first | exact List.mem_of_getElem? hi | exact List.getElem?_mem hi
  exact ⟨hm, good_of_word h1⟩
theorem goodIn_app {big a b : List Cond} (ha : GoodIn big a) (hb : GoodIn big b) : GoodIn big (a ++ b) := fun w h => (List.mem_append.mp h).elim (ha w) (hb w)
theorem goodIn_ca {big a b : List Cond} {c : Cond} (ha : GoodIn big (c :: a)) (hb : GoodIn big b) : GoodIn big (c :: (a ++ b)) := fun w h => (List.mem_cons.mp h).elim (fun e => ha w (List.mem_cons.mpr (Or.inl e))) (fun h => (List.mem_append.mp h).elim (fun h => ha w (List.mem_cons.mpr (Or.inr h))) (hb w))
theorem goodIn_sub {big ws : List Cond} (hm : ∀ w ∈ ws, w ∈ big) (h : ws.all goodWord = true) : GoodIn big ws := fun w hw => ⟨hm w hw, good_of_word (List.all_eq_true.mp h w hw)⟩
/-! ===== END ===== -/
def RX0 : String := "TaughtHours$Plan"
def TX0 : u_T := fun k => match k with
  | 0 => ("TaughtHours$Plan", "size", "I", false)
  | 1 => ("TaughtHours$Plan", "hours", "I", false)
  | 2 => ("TaughtHours$Plan", "teachings", "[I", true)
  | _ => ("TaughtHours$Plan", "opens", "[Z", true)
def tyX0 : Nat → FieldType := fun k => match k with
  | 0 => .int
  | 1 => .int
  | 2 => .array .int
  | _ => .array .boolean
abbrev wsX00 : List Cond := u_ws RX0 TX0 4
theorem nmX0 : ∀ a, a < 4 → ∀ b, b < 4 → a ≠ b → (TX0 a).2.1 ≠ (TX0 b).2.1 := by decide +kernel
theorem tyX0_ok : ∀ k, k < 4 → parseFieldDescriptor (TX0 k).2.2.1 = some (tyX0 k) := by decide +kernel
abbrev cX0_init : ByteArray := prog_2_method_1_code
def yX0_init : MethodName := ⟨RX0, "<init>", "()V"⟩
abbrev cX0_clear : ByteArray := prog_2_method_2_code
def yX0_clear : MethodName := ⟨RX0, "clear", "()V"⟩
abbrev cX0_isFull : ByteArray := prog_2_method_3_code
def yX0_isFull : MethodName := ⟨RX0, "isFull", "()Z"⟩
abbrev cX0_add : ByteArray := prog_2_method_4_code
def yX0_add : MethodName := ⟨RX0, "add", "(IZ)V"⟩
abbrev cX0_takeOver : ByteArray := prog_2_method_5_code
def yX0_takeOver : MethodName := ⟨RX0, "takeOver", "(LTaughtHours$Plan;)V"⟩
def RX1 : String := "TaughtHours$Reader"
def TX1 : u_T := fun k => match k with
  | 0 => ("TaughtHours$Reader", "kinds", "[I", true)
  | 1 => ("TaughtHours$Reader", "sets", "[I", true)
  | 2 => ("TaughtHours$Reader", "draft", "LTaughtHours$Plan;", true)
  | 3 => ("TaughtHours$Reader", "tape", "[B", true)
  | 4 => ("TaughtHours$Reader", "size", "I", false)
  | _ => ("TaughtHours$Reader", "place", "I", false)
def tyX1 : Nat → FieldType := fun k => match k with
  | 0 => .array .int
  | 1 => .array .int
  | 2 => .object "TaughtHours$Plan"
  | 3 => .array .byte
  | 4 => .int
  | _ => .int
abbrev wsX10 : List Cond := u_ws RX1 TX1 6
theorem nmX1 : ∀ a, a < 6 → ∀ b, b < 6 → a ≠ b → (TX1 a).2.1 ≠ (TX1 b).2.1 := by decide +kernel
theorem tyX1_ok : ∀ k, k < 6 → parseFieldDescriptor (TX1 k).2.2.1 = some (tyX1 k) := by decide +kernel
abbrev cX1_init : ByteArray := prog_3_method_1_code
def yX1_init : MethodName := ⟨RX1, "<init>", "()V"⟩
abbrev cX1_append : ByteArray := prog_3_method_2_code
def yX1_append : MethodName := ⟨RX1, "append", "(JI)I"⟩
abbrev cX1_signOf : ByteArray := prog_3_method_3_code
def yX1_signOf : MethodName := ⟨RX1, "signOf", "(JI)I"⟩
abbrev cX1_clear : ByteArray := prog_3_method_4_code
def yX1_clear : MethodName := ⟨RX1, "clear", "()V"⟩
abbrev cX1_rewind : ByteArray := prog_3_method_5_code
def yX1_rewind : MethodName := ⟨RX1, "rewind", "()V"⟩
abbrev cX1_step : ByteArray := prog_3_method_6_code
def yX1_step : MethodName := ⟨RX1, "step", "()V"⟩
abbrev cX1_skipBlanks : ByteArray := prog_3_method_7_code
def yX1_skipBlanks : MethodName := ⟨RX1, "skipBlanks", "()V"⟩
abbrev cX1_sign : ByteArray := prog_3_method_8_code
def yX1_sign : MethodName := ⟨RX1, "sign", "()I"⟩
abbrev cX1_takes : ByteArray := prog_3_method_9_code
def yX1_takes : MethodName := ⟨RX1, "takes", "(I)Z"⟩
abbrev cX1_fault : ByteArray := prog_3_method_10_code
def yX1_fault : MethodName := ⟨RX1, "fault", "()I"⟩
abbrev cX1_readSchool : ByteArray := prog_3_method_11_code
def yX1_readSchool : MethodName := ⟨RX1, "readSchool", "()I"⟩
abbrev cX1_kindOf : ByteArray := prog_3_method_12_code
def yX1_kindOf : MethodName := ⟨RX1, "kindOf", "(I)I"⟩
abbrev cX1_readThings : ByteArray := prog_3_method_13_code
def yX1_readThings : MethodName := ⟨RX1, "readThings", "()I"⟩
abbrev cX1_readPlan : ByteArray := prog_3_method_14_code
def yX1_readPlan : MethodName := ⟨RX1, "readPlan", "(I)I"⟩
abbrev cX1_readTeaching : ByteArray := prog_3_method_15_code
def yX1_readTeaching : MethodName := ⟨RX1, "readTeaching", "(I)I"⟩
def RX2 : String := "TaughtHours$Rumour"
def TX2 : u_T := fun k => match k with
  | 0 => ("TaughtHours$Rumour", "sources", "[I", true)
  | 1 => ("TaughtHours$Rumour", "knowers", "I", false)
  | 2 => ("TaughtHours$Rumour", "roots", "I", false)
  | _ => ("TaughtHours$Rumour", "rows", "I", false)
def tyX2 : Nat → FieldType := fun k => match k with
  | 0 => .array .int
  | 1 => .int
  | 2 => .int
  | _ => .int
abbrev wsX20 : List Cond := u_ws RX2 TX2 4
theorem nmX2 : ∀ a, a < 4 → ∀ b, b < 4 → a ≠ b → (TX2 a).2.1 ≠ (TX2 b).2.1 := by decide +kernel
theorem tyX2_ok : ∀ k, k < 4 → parseFieldDescriptor (TX2 k).2.2.1 = some (tyX2 k) := by decide +kernel
abbrev cX2_init : ByteArray := prog_4_method_1_code
def yX2_init : MethodName := ⟨RX2, "<init>", "()V"⟩
abbrev cX2_listen : ByteArray := prog_4_method_2_code
def yX2_listen : MethodName := ⟨RX2, "listen", "(LTaughtHours$School;I)V"⟩
abbrev cX2_countWays : ByteArray := prog_4_method_3_code
def yX2_countWays : MethodName := ⟨RX2, "countWays", "()I"⟩
abbrev cX2_minor : ByteArray := prog_4_method_4_code
def yX2_minor : MethodName := ⟨RX2, "minor", "(II)I"⟩
abbrev cX2_firstMouths : ByteArray := prog_4_method_5_code
def yX2_firstMouths : MethodName := ⟨RX2, "firstMouths", "()I"⟩
abbrev cX2_reachesAll : ByteArray := prog_4_method_6_code
def yX2_reachesAll : MethodName := ⟨RX2, "reachesAll", "(I)Z"⟩
abbrev cX2_sourceOf : ByteArray := prog_4_method_7_code
def yX2_sourceOf : MethodName := ⟨RX2, "sourceOf", "(I)I"⟩
abbrev cX2_settle : ByteArray := prog_4_method_8_code
def yX2_settle : MethodName := ⟨RX2, "settle", "(I)I"⟩
def RX3 : String := "TaughtHours$School"
def TX3 : u_T := fun k => match k with
  | 0 => ("TaughtHours$School", "children", "I", false)
  | 1 => ("TaughtHours$School", "done", "I", false)
  | 2 => ("TaughtHours$School", "draw", "I", false)
  | 3 => ("TaughtHours$School", "kinds", "[I", true)
  | 4 => ("TaughtHours$School", "says", "[I", true)
  | 5 => ("TaughtHours$School", "known", "[I", true)
  | 6 => ("TaughtHours$School", "heard", "[I", true)
  | 7 => ("TaughtHours$School", "needs", "[I", true)
  | 8 => ("TaughtHours$School", "plan", "LTaughtHours$Plan;", true)
  | 9 => ("TaughtHours$School", "whole", "[I", true)
  | 10 => ("TaughtHours$School", "trial", "[I", true)
  | 11 => ("TaughtHours$School", "choices", "[I", true)
  | _ => ("TaughtHours$School", "together", "[I", true)
def tyX3 : Nat → FieldType := fun k => match k with
  | 0 => .int
  | 1 => .int
  | 2 => .int
  | 3 => .array .int
  | 4 => .array .int
  | 5 => .array .int
  | 6 => .array .int
  | 7 => .array .int
  | 8 => .object "TaughtHours$Plan"
  | 9 => .array .int
  | 10 => .array .int
  | 11 => .array .int
  | _ => .array .int
abbrev wsX30 : List Cond := u_ws RX3 TX3 13
theorem nmX3 : ∀ a, a < 13 → ∀ b, b < 13 → a ≠ b → (TX3 a).2.1 ≠ (TX3 b).2.1 := by decide +kernel
theorem tyX3_ok : ∀ k, k < 13 → parseFieldDescriptor (TX3 k).2.2.1 = some (tyX3 k) := by decide +kernel
abbrev cX3_init : ByteArray := prog_5_method_1_code
def yX3_init : MethodName := ⟨RX3, "<init>", "()V"⟩
abbrev cX3_isChild : ByteArray := prog_5_method_2_code
def yX3_isChild : MethodName := ⟨RX3, "isChild", "(I)Z"⟩
abbrev cX3_isTeaching : ByteArray := prog_5_method_3_code
def yX3_isTeaching : MethodName := ⟨RX3, "isTeaching", "(III)Z"⟩
abbrev cX3_saying : ByteArray := prog_5_method_4_code
def yX3_saying : MethodName := ⟨RX3, "saying", "(II)I"⟩
abbrev cX3_setSaying : ByteArray := prog_5_method_5_code
def yX3_setSaying : MethodName := ⟨RX3, "setSaying", "(III)V"⟩
abbrev cX3_setKnown : ByteArray := prog_5_method_6_code
def yX3_setKnown : MethodName := ⟨RX3, "setKnown", "(II)V"⟩
abbrev cX3_admit : ByteArray := prog_5_method_7_code
def yX3_admit : MethodName := ⟨RX3, "admit", "(I)I"⟩
abbrev cX3_sendHome : ByteArray := prog_5_method_8_code
def yX3_sendHome : MethodName := ⟨RX3, "sendHome", "()V"⟩
abbrev cX3_takeOver : ByteArray := prog_5_method_9_code
def yX3_takeOver : MethodName := ⟨RX3, "takeOver", "(LTaughtHours$School;)V"⟩
abbrev cX3_knownOf : ByteArray := prog_5_method_10_code
def yX3_knownOf : MethodName := ⟨RX3, "knownOf", "(I)I"⟩
abbrev cX3_garbled : ByteArray := prog_5_method_11_code
def yX3_garbled : MethodName := ⟨RX3, "garbled", "()I"⟩
abbrev cX3_allows : ByteArray := prog_5_method_12_code
def yX3_allows : MethodName := ⟨RX3, "allows", "([II)Z"⟩
abbrev cX3_perform : ByteArray := prog_5_method_13_code
def yX3_perform : MethodName := ⟨RX3, "perform", "(I)V"⟩
abbrev cX3_runPlan : ByteArray := prog_5_method_14_code
def yX3_runPlan : MethodName := ⟨RX3, "runPlan", "()I"⟩
abbrev cX3_goWithout : ByteArray := prog_5_method_15_code
def yX3_goWithout : MethodName := ⟨RX3, "goWithout", "(I[I)V"⟩
abbrev cX3_sparedSet : ByteArray := prog_5_method_16_code
def yX3_sparedSet : MethodName := ⟨RX3, "sparedSet", "()I"⟩
abbrev cX3_trialIsAsGood : ByteArray := prog_5_method_17_code
def yX3_trialIsAsGood : MethodName := ⟨RX3, "trialIsAsGood", "(I)Z"⟩
abbrev cX3_firstTellable : ByteArray := prog_5_method_18_code
def yX3_firstTellable : MethodName := ⟨RX3, "firstTellable", "(I)I"⟩
abbrev cX3_drawLesson : ByteArray := prog_5_method_19_code
def yX3_drawLesson : MethodName := ⟨RX3, "drawLesson", "()Z"⟩
abbrev cX3_listChoices : ByteArray := prog_5_method_20_code
def yX3_listChoices : MethodName := ⟨RX3, "listChoices", "()I"⟩
abbrev cX3_holdHour : ByteArray := prog_5_method_21_code
def yX3_holdHour : MethodName := ⟨RX3, "holdHour", "([III)Z"⟩
def RX4 : String := "TaughtHours$Search"
def TX4 : u_T := fun k => match k with
  | 0 => ("TaughtHours$Search", "needs", "[I", true)
  | 1 => ("TaughtHours$Search", "open", "[I", true)
  | 2 => ("TaughtHours$Search", "heard", "[I", true)
  | 3 => ("TaughtHours$Search", "gains", "[I", true)
  | 4 => ("TaughtHours$Search", "partners", "[I", true)
  | 5 => ("TaughtHours$Search", "tooFew", "[B", true)
  | 6 => ("TaughtHours$Search", "children", "I", false)
  | 7 => ("TaughtHours$Search", "width", "I", false)
  | _ => ("TaughtHours$Search", "full", "I", false)
def tyX4 : Nat → FieldType := fun k => match k with
  | 0 => .array .int
  | 1 => .array .int
  | 2 => .array .int
  | 3 => .array .int
  | 4 => .array .int
  | 5 => .array .byte
  | 6 => .int
  | 7 => .int
  | _ => .int
abbrev wsX40 : List Cond := u_ws RX4 TX4 9
theorem nmX4 : ∀ a, a < 9 → ∀ b, b < 9 → a ≠ b → (TX4 a).2.1 ≠ (TX4 b).2.1 := by decide +kernel
theorem tyX4_ok : ∀ k, k < 9 → parseFieldDescriptor (TX4 k).2.2.1 = some (tyX4 k) := by decide +kernel
abbrev cX4_init : ByteArray := prog_6_method_1_code
def yX4_init : MethodName := ⟨RX4, "<init>", "()V"⟩
abbrev cX4_fewest : ByteArray := prog_6_method_2_code
def yX4_fewest : MethodName := ⟨RX4, "fewest", "(LTaughtHours$School;I)I"⟩
abbrev cX4_load : ByteArray := prog_6_method_3_code
def yX4_load : MethodName := ⟨RX4, "load", "(LTaughtHours$School;I)I"⟩
abbrev cX4_squeeze : ByteArray := prog_6_method_4_code
def yX4_squeeze : MethodName := ⟨RX4, "squeeze", "(II)I"⟩
abbrev cX4_knownBy : ByteArray := prog_6_method_5_code
def yX4_knownBy : MethodName := ⟨RX4, "knownBy", "(II)I"⟩
abbrev cX4_learnable : ByteArray := prog_6_method_6_code
def yX4_learnable : MethodName := ⟨RX4, "learnable", "(II)I"⟩
abbrev cX4_closure : ByteArray := prog_6_method_7_code
def yX4_closure : MethodName := ⟨RX4, "closure", "(I)I"⟩
abbrev cX4_lacking : ByteArray := prog_6_method_8_code
def yX4_lacking : MethodName := ⟨RX4, "lacking", "(I)I"⟩
abbrev cX4_isEnough : ByteArray := prog_6_method_9_code
def yX4_isEnough : MethodName := ⟨RX4, "isEnough", "(II)Z"⟩
abbrev cX4_listGains : ByteArray := prog_6_method_10_code
def yX4_listGains : MethodName := ⟨RX4, "listGains", "(II)V"⟩
abbrev cX4_pairUp : ByteArray := prog_6_method_11_code
def yX4_pairUp : MethodName := ⟨RX4, "pairUp", "(IIII)Z"⟩
abbrev cX4_pairTaught : ByteArray := prog_6_method_12_code
def yX4_pairTaught : MethodName := ⟨RX4, "pairTaught", "(IIIII)Z"⟩
abbrev cX4_firstOf : ByteArray := prog_6_method_13_code
def yX4_firstOf : MethodName := ⟨RX4, "firstOf", "(I)I"⟩
def RX5 : String := "TaughtHours$Sheet"
def TX5 : u_T := fun k => match k with
  | 0 => ("TaughtHours$Sheet", "lane", "I", false)
  | 1 => ("TaughtHours$Sheet", "size", "I", false)
  | _ => ("TaughtHours$Sheet", "items", "[I", true)
def tyX5 : Nat → FieldType := fun k => match k with
  | 0 => .int
  | 1 => .int
  | _ => .array .int
abbrev wsX50 : List Cond := u_ws RX5 TX5 3
theorem nmX5 : ∀ a, a < 3 → ∀ b, b < 3 → a ≠ b → (TX5 a).2.1 ≠ (TX5 b).2.1 := by decide +kernel
theorem tyX5_ok : ∀ k, k < 3 → parseFieldDescriptor (TX5 k).2.2.1 = some (tyX5 k) := by decide +kernel
abbrev cX5_init : ByteArray := prog_7_method_1_code
def yX5_init : MethodName := ⟨RX5, "<init>", "()V"⟩
abbrev cX5_isMissing : ByteArray := prog_7_method_2_code
def yX5_isMissing : MethodName := ⟨RX5, "isMissing", "()Z"⟩
abbrev cX5_holds : ByteArray := prog_7_method_3_code
def yX5_holds : MethodName := ⟨RX5, "holds", "(II)Z"⟩
abbrev cX5_refusal : ByteArray := prog_7_method_4_code
def yX5_refusal : MethodName := ⟨RX5, "refusal", "(III)I"⟩
abbrev cX5_renew : ByteArray := prog_7_method_5_code
def yX5_renew : MethodName := ⟨RX5, "renew", "(II)V"⟩
abbrev cX5_discard : ByteArray := prog_7_method_6_code
def yX5_discard : MethodName := ⟨RX5, "discard", "()V"⟩
abbrev cX5_put : ByteArray := prog_7_method_7_code
def yX5_put : MethodName := ⟨RX5, "put", "(II)V"⟩
def RX6 : String := "TaughtHours"
def TX6 : u_T := fun k => match k with
  | 0 => ("TaughtHours", "now", "LTaughtHours$School;", true)
  | 1 => ("TaughtHours", "kept", "LTaughtHours$School;", true)
  | 2 => ("TaughtHours", "reader", "LTaughtHours$Reader;", true)
  | 3 => ("TaughtHours", "search", "LTaughtHours$Search;", true)
  | 4 => ("TaughtHours", "rumour", "LTaughtHours$Rumour;", true)
  | 5 => ("TaughtHours", "sheets", "[LTaughtHours$Sheet;", true)
  | _ => ("TaughtHours", "hasImage", "Z", false)
def tyX6 : Nat → FieldType := fun k => match k with
  | 0 => .object "TaughtHours$School"
  | 1 => .object "TaughtHours$School"
  | 2 => .object "TaughtHours$Reader"
  | 3 => .object "TaughtHours$Search"
  | 4 => .object "TaughtHours$Rumour"
  | 5 => .array (.object "TaughtHours$Sheet")
  | _ => .boolean
abbrev wsX60 : List Cond := u_ws RX6 TX6 7
theorem nmX6 : ∀ a, a < 7 → ∀ b, b < 7 → a ≠ b → (TX6 a).2.1 ≠ (TX6 b).2.1 := by decide +kernel
theorem tyX6_ok : ∀ k, k < 7 → parseFieldDescriptor (TX6 k).2.2.1 = some (tyX6 k) := by decide +kernel
abbrev cX6_init : ByteArray := prog_1_method_1_code
def yX6_init : MethodName := ⟨RX6, "<init>", "()V"⟩
abbrev cX6_child : ByteArray := prog_1_method_2_code
def yX6_child : MethodName := ⟨RX6, "child", "(I)I"⟩
abbrev cX6_know : ByteArray := prog_1_method_3_code
def yX6_know : MethodName := ⟨RX6, "know", "(III)I"⟩
abbrev cX6_need : ByteArray := prog_1_method_4_code
def yX6_need : MethodName := ⟨RX6, "need", "(II)I"⟩
abbrev cX6_hears : ByteArray := prog_1_method_5_code
def yX6_hears : MethodName := ⟨RX6, "hears", "(IIZ)I"⟩
abbrev cX6_told : ByteArray := prog_1_method_6_code
def yX6_told : MethodName := ⟨RX6, "told", "(II)I"⟩
abbrev cX6_passes : ByteArray := prog_1_method_7_code
def yX6_passes : MethodName := ⟨RX6, "passes", "(II)I"⟩
abbrev cX6_type : ByteArray := prog_1_method_8_code
def yX6_type : MethodName := ⟨RX6, "type", "(JI)I"⟩
abbrev cX6_school : ByteArray := prog_1_method_9_code
def yX6_school : MethodName := ⟨RX6, "school", "()I"⟩
abbrev cX6_plan : ByteArray := prog_1_method_10_code
def yX6_plan : MethodName := ⟨RX6, "plan", "()I"⟩
abbrev cX6_count : ByteArray := prog_1_method_11_code
def yX6_count : MethodName := ⟨RX6, "count", "(I)I"⟩
abbrev cX6_may : ByteArray := prog_1_method_12_code
def yX6_may : MethodName := ⟨RX6, "may", "(III)I"⟩
abbrev cX6_teach : ByteArray := prog_1_method_13_code
def yX6_teach : MethodName := ⟨RX6, "teach", "(III)I"⟩
abbrev cX6_run : ByteArray := prog_1_method_14_code
def yX6_run : MethodName := ⟨RX6, "run", "()I"⟩
abbrev cX6_hours : ByteArray := prog_1_method_15_code
def yX6_hours : MethodName := ⟨RX6, "hours", "(I)I"⟩
abbrev cX6_bound : ByteArray := prog_1_method_16_code
def yX6_bound : MethodName := ⟨RX6, "bound", "(I)I"⟩
abbrev cX6_spared : ByteArray := prog_1_method_17_code
def yX6_spared : MethodName := ⟨RX6, "spared", "()I"⟩
abbrev cX6_order : ByteArray := prog_1_method_18_code
def yX6_order : MethodName := ⟨RX6, "order", "(II)I"⟩
abbrev cX6_mouths : ByteArray := prog_1_method_19_code
def yX6_mouths : MethodName := ⟨RX6, "mouths", "(II)I"⟩
abbrev cX6_from : ByteArray := prog_1_method_20_code
def yX6_from : MethodName := ⟨RX6, "from", "(II)I"⟩
abbrev cX6_lessons : ByteArray := prog_1_method_21_code
def yX6_lessons : MethodName := ⟨RX6, "lessons", "(I)I"⟩
abbrev cX6_seed : ByteArray := prog_1_method_22_code
def yX6_seed : MethodName := ⟨RX6, "seed", "(I)I"⟩
abbrev cX6_image : ByteArray := prog_1_method_23_code
def yX6_image : MethodName := ⟨RX6, "image", "()I"⟩
abbrev cX6_restore : ByteArray := prog_1_method_24_code
def yX6_restore : MethodName := ⟨RX6, "restore", "()I"⟩
abbrev cX6_hour : ByteArray := prog_1_method_25_code
def yX6_hour : MethodName := ⟨RX6, "hour", "(IIII)I"⟩
abbrev cX6_film : ByteArray := prog_1_method_26_code
def yX6_film : MethodName := ⟨RX6, "film", "(IIII)I"⟩
abbrev cX6_sheet : ByteArray := prog_1_method_27_code
def yX6_sheet : MethodName := ⟨RX6, "sheet", "(III)I"⟩
abbrev cX6_drop : ByteArray := prog_1_method_28_code
def yX6_drop : MethodName := ⟨RX6, "drop", "(I)I"⟩
abbrev cX6_item : ByteArray := prog_1_method_29_code
def yX6_item : MethodName := ⟨RX6, "item", "(IIII)I"⟩
abbrev cX6_copy : ByteArray := prog_1_method_30_code
def yX6_copy : MethodName := ⟨RX6, "copy", "(IIIII)I"⟩
abbrev cX6_isThing : ByteArray := prog_1_method_31_code
def yX6_isThing : MethodName := ⟨RX6, "isThing", "(I)Z"⟩
abbrev cX6_isSet : ByteArray := prog_1_method_32_code
def yX6_isSet : MethodName := ⟨RX6, "isSet", "(I)Z"⟩
abbrev cX6_isSheet : ByteArray := prog_1_method_33_code
def yX6_isSheet : MethodName := ⟨RX6, "isSheet", "(I)Z"⟩
abbrev cX6_isLane : ByteArray := prog_1_method_34_code
def yX6_isLane : MethodName := ⟨RX6, "isLane", "(I)Z"⟩
abbrev cX6_has : ByteArray := prog_1_method_35_code
def yX6_has : MethodName := ⟨RX6, "has", "(II)Z"⟩
abbrev cX6_passedOn : ByteArray := prog_1_method_36_code
def yX6_passedOn : MethodName := ⟨RX6, "passedOn", "(II)I"⟩
abbrev cX6_teaching : ByteArray := prog_1_method_37_code
def yX6_teaching : MethodName := ⟨RX6, "teaching", "(III)I"⟩
abbrev cX6_teacherOf : ByteArray := prog_1_method_38_code
def yX6_teacherOf : MethodName := ⟨RX6, "teacherOf", "(I)I"⟩
abbrev cX6_pupilOf : ByteArray := prog_1_method_39_code
def yX6_pupilOf : MethodName := ⟨RX6, "pupilOf", "(I)I"⟩
abbrev cX6_thingOf : ByteArray := prog_1_method_40_code
def yX6_thingOf : MethodName := ⟨RX6, "thingOf", "(I)I"⟩
abbrev cX6_pairOf : ByteArray := prog_1_method_41_code
def yX6_pairOf : MethodName := ⟨RX6, "pairOf", "(I)I"⟩
def RX7 : String := "TaughtHoursModel"
def TX7 : u_T := fun k => match k with
  | 0 => ("TaughtHoursModel", "kinds", "[I", true)
  | 1 => ("TaughtHoursModel", "heard", "[I", true)
  | 2 => ("TaughtHoursModel", "says", "[I", true)
  | 3 => ("TaughtHoursModel", "needs", "[I", true)
  | 4 => ("TaughtHoursModel", "many", "I", false)
  | 5 => ("TaughtHoursModel", "plan", "[I", true)
  | 6 => ("TaughtHoursModel", "planMany", "I", false)
  | 7 => ("TaughtHoursModel", "doneEver", "I", false)
  | 8 => ("TaughtHoursModel", "drawn", "I", false)
  | 9 => ("TaughtHoursModel", "tape", "[I", true)
  | 10 => ("TaughtHoursModel", "taped", "I", false)
  | 11 => ("TaughtHoursModel", "place", "I", false)
  | 12 => ("TaughtHoursModel", "reads", "I", false)
  | 13 => ("TaughtHoursModel", "read", "[I", true)
  | 14 => ("TaughtHoursModel", "reached", "[Z", true)
  | 15 => ("TaughtHoursModel", "next", "[Z", true)
  | 16 => ("TaughtHoursModel", "things", "[I", true)
  | 17 => ("TaughtHoursModel", "thingMany", "I", false)
  | 18 => ("TaughtHoursModel", "frees", "[I", true)
  | 19 => ("TaughtHoursModel", "knowns", "[I", true)
  | 20 => ("TaughtHoursModel", "had", "[I", true)
  | 21 => ("TaughtHoursModel", "whole", "[I", true)
  | 22 => ("TaughtHoursModel", "row", "[I", true)
  | 23 => ("TaughtHoursModel", "who", "[I", true)
  | 24 => ("TaughtHoursModel", "whoMany", "I", false)
  | 25 => ("TaughtHoursModel", "first", "[I", true)
  | 26 => ("TaughtHoursModel", "ways", "I", false)
  | 27 => ("TaughtHoursModel", "firsts", "I", false)
  | 28 => ("TaughtHoursModel", "isKept", "Z", false)
  | 29 => ("TaughtHoursModel", "kept", "[I", true)
  | 30 => ("TaughtHoursModel", "lanes", "[I", true)
  | 31 => ("TaughtHoursModel", "rowSizes", "[I", true)
  | 32 => ("TaughtHoursModel", "items", "[I", true)
  | _ => ("TaughtHoursModel", "moved", "[I", true)
def tyX7 : Nat → FieldType := fun k => match k with
  | 0 => .array .int
  | 1 => .array .int
  | 2 => .array .int
  | 3 => .array .int
  | 4 => .int
  | 5 => .array .int
  | 6 => .int
  | 7 => .int
  | 8 => .int
  | 9 => .array .int
  | 10 => .int
  | 11 => .int
  | 12 => .int
  | 13 => .array .int
  | 14 => .array .boolean
  | 15 => .array .boolean
  | 16 => .array .int
  | 17 => .int
  | 18 => .array .int
  | 19 => .array .int
  | 20 => .array .int
  | 21 => .array .int
  | 22 => .array .int
  | 23 => .array .int
  | 24 => .int
  | 25 => .array .int
  | 26 => .int
  | 27 => .int
  | 28 => .boolean
  | 29 => .array .int
  | 30 => .array .int
  | 31 => .array .int
  | 32 => .array .int
  | _ => .array .int
abbrev wsX70 : List Cond := u_ws RX7 TX7 34
theorem nmX7 : ∀ a, a < 34 → ∀ b, b < 34 → a ≠ b → (TX7 a).2.1 ≠ (TX7 b).2.1 := by decide +kernel
theorem tyX7_ok : ∀ k, k < 34 → parseFieldDescriptor (TX7 k).2.2.1 = some (tyX7 k) := by decide +kernel
abbrev cX7_init : ByteArray := prog_9_method_1_code
def yX7_init : MethodName := ⟨RX7, "<init>", "()V"⟩
abbrev cX7_in : ByteArray := prog_9_method_2_code
def yX7_in : MethodName := ⟨RX7, "in", "(JJJ)Z"⟩
abbrev cX7_has : ByteArray := prog_9_method_3_code
def yX7_has : MethodName := ⟨RX7, "has", "(II)Z"⟩
abbrev cX7_isChild : ByteArray := prog_9_method_4_code
def yX7_isChild : MethodName := ⟨RX7, "isChild", "(I)Z"⟩
abbrev cX7_isThing : ByteArray := prog_9_method_5_code
def yX7_isThing : MethodName := ⟨RX7, "isThing", "(I)Z"⟩
abbrev cX7_areTwo : ByteArray := prog_9_method_6_code
def yX7_areTwo : MethodName := ⟨RX7, "areTwo", "(II)Z"⟩
abbrev cX7_add : ByteArray := prog_9_method_7_code
def yX7_add : MethodName := ⟨RX7, "add", "(I)V"⟩
abbrev cX7_child : ByteArray := prog_9_method_8_code
def yX7_child : MethodName := ⟨RX7, "child", "(I)I"⟩
abbrev cX7_know : ByteArray := prog_9_method_9_code
def yX7_know : MethodName := ⟨RX7, "know", "(III)I"⟩
abbrev cX7_need : ByteArray := prog_9_method_10_code
def yX7_need : MethodName := ⟨RX7, "need", "(II)I"⟩
abbrev cX7_hears : ByteArray := prog_9_method_11_code
def yX7_hears : MethodName := ⟨RX7, "hears", "(IIZ)I"⟩
abbrev cX7_knownTo : ByteArray := prog_9_method_12_code
def yX7_knownTo : MethodName := ⟨RX7, "knownTo", "(I)I"⟩
abbrev cX7_told : ByteArray := prog_9_method_13_code
def yX7_told : MethodName := ⟨RX7, "told", "(II)I"⟩
abbrev cX7_pass : ByteArray := prog_9_method_14_code
def yX7_pass : MethodName := ⟨RX7, "pass", "(II)I"⟩
abbrev cX7_passes : ByteArray := prog_9_method_15_code
def yX7_passes : MethodName := ⟨RX7, "passes", "(II)I"⟩
abbrev cX7_count : ByteArray := prog_9_method_16_code
def yX7_count : MethodName := ⟨RX7, "count", "(I)I"⟩
abbrev cX7_type : ByteArray := prog_9_method_17_code
def yX7_type : MethodName := ⟨RX7, "type", "(JI)I"⟩
abbrev cX7_nextByte : ByteArray := prog_9_method_18_code
def yX7_nextByte : MethodName := ⟨RX7, "nextByte", "()I"⟩
abbrev cX7_readChild : ByteArray := prog_9_method_19_code
def yX7_readChild : MethodName := ⟨RX7, "readChild", "(I)Z"⟩
abbrev cX7_readSchool : ByteArray := prog_9_method_20_code
def yX7_readSchool : MethodName := ⟨RX7, "readSchool", "()Z"⟩
abbrev cX7_school : ByteArray := prog_9_method_21_code
def yX7_school : MethodName := ⟨RX7, "school", "()I"⟩
abbrev cX7_readTeaching : ByteArray := prog_9_method_22_code
def yX7_readTeaching : MethodName := ⟨RX7, "readTeaching", "(I)Z"⟩
abbrev cX7_readPlan : ByteArray := prog_9_method_23_code
def yX7_readPlan : MethodName := ⟨RX7, "readPlan", "()Z"⟩
abbrev cX7_plan : ByteArray := prog_9_method_24_code
def yX7_plan : MethodName := ⟨RX7, "plan", "()I"⟩
abbrev cX7_mayBe : ByteArray := prog_9_method_25_code
def yX7_mayBe : MethodName := ⟨RX7, "mayBe", "(III)Z"⟩
abbrev cX7_teachNow : ByteArray := prog_9_method_26_code
def yX7_teachNow : MethodName := ⟨RX7, "teachNow", "(III)V"⟩
abbrev cX7_may : ByteArray := prog_9_method_27_code
def yX7_may : MethodName := ⟨RX7, "may", "(III)I"⟩
abbrev cX7_teach : ByteArray := prog_9_method_28_code
def yX7_teach : MethodName := ⟨RX7, "teach", "(III)I"⟩
abbrev cX7_run : ByteArray := prog_9_method_29_code
def yX7_run : MethodName := ⟨RX7, "run", "()I"⟩
abbrev cX7_ones : ByteArray := prog_9_method_30_code
def yX7_ones : MethodName := ⟨RX7, "ones", "(I)I"⟩
abbrev cX7_mayTeach : ByteArray := prog_9_method_31_code
def yX7_mayTeach : MethodName := ⟨RX7, "mayTeach", "(IIII)Z"⟩
abbrev cX7_goOn : ByteArray := prog_9_method_32_code
def yX7_goOn : MethodName := ⟨RX7, "goOn", "(I)V"⟩
abbrev cX7_hours : ByteArray := prog_9_method_33_code
def yX7_hours : MethodName := ⟨RX7, "hours", "(I)I"⟩
abbrev cX7_bound : ByteArray := prog_9_method_34_code
def yX7_bound : MethodName := ⟨RX7, "bound", "(I)I"⟩
abbrev cX7_goWithout : ByteArray := prog_9_method_35_code
def yX7_goWithout : MethodName := ⟨RX7, "goWithout", "(I)V"⟩
abbrev cX7_bringBack : ByteArray := prog_9_method_36_code
def yX7_bringBack : MethodName := ⟨RX7, "bringBack", "()V"⟩
abbrev cX7_spared : ByteArray := prog_9_method_37_code
def yX7_spared : MethodName := ⟨RX7, "spared", "()I"⟩
abbrev cX7_order : ByteArray := prog_9_method_38_code
def yX7_order : MethodName := ⟨RX7, "order", "(II)I"⟩
abbrev cX7_canHave : ByteArray := prog_9_method_39_code
def yX7_canHave : MethodName := ⟨RX7, "canHave", "(III)Z"⟩
abbrev cX7_isWay : ByteArray := prog_9_method_40_code
def yX7_isWay : MethodName := ⟨RX7, "isWay", "(I)Z"⟩
abbrev cX7_nextRow : ByteArray := prog_9_method_41_code
def yX7_nextRow : MethodName := ⟨RX7, "nextRow", "()Z"⟩
abbrev cX7_findWays : ByteArray := prog_9_method_42_code
def yX7_findWays : MethodName := ⟨RX7, "findWays", "(I)V"⟩
abbrev cX7_mouths : ByteArray := prog_9_method_43_code
def yX7_mouths : MethodName := ⟨RX7, "mouths", "(II)I"⟩
abbrev cX7_from : ByteArray := prog_9_method_44_code
def yX7_from : MethodName := ⟨RX7, "from", "(II)I"⟩
abbrev cX7_lesson : ByteArray := prog_9_method_45_code
def yX7_lesson : MethodName := ⟨RX7, "lesson", "(I)I"⟩
abbrev cX7_lessons : ByteArray := prog_9_method_46_code
def yX7_lessons : MethodName := ⟨RX7, "lessons", "(I)I"⟩
abbrev cX7_seed : ByteArray := prog_9_method_47_code
def yX7_seed : MethodName := ⟨RX7, "seed", "(I)I"⟩
abbrev cX7_carried : ByteArray := prog_9_method_48_code
def yX7_carried : MethodName := ⟨RX7, "carried", "(IIZ)I"⟩
abbrev cX7_image : ByteArray := prog_9_method_49_code
def yX7_image : MethodName := ⟨RX7, "image", "()I"⟩
abbrev cX7_restore : ByteArray := prog_9_method_50_code
def yX7_restore : MethodName := ⟨RX7, "restore", "()I"⟩
abbrev cX7_isSheet : ByteArray := prog_9_method_51_code
def yX7_isSheet : MethodName := ⟨RX7, "isSheet", "(II)Z"⟩
abbrev cX7_sheet : ByteArray := prog_9_method_52_code
def yX7_sheet : MethodName := ⟨RX7, "sheet", "(III)I"⟩
abbrev cX7_drop : ByteArray := prog_9_method_53_code
def yX7_drop : MethodName := ⟨RX7, "drop", "(I)I"⟩
abbrev cX7_lacksRow : ByteArray := prog_9_method_54_code
def yX7_lacksRow : MethodName := ⟨RX7, "lacksRow", "(IIII)I"⟩
abbrev cX7_item : ByteArray := prog_9_method_55_code
def yX7_item : MethodName := ⟨RX7, "item", "(IIII)I"⟩
abbrev cX7_hour : ByteArray := prog_9_method_56_code
def yX7_hour : MethodName := ⟨RX7, "hour", "(IIII)I"⟩
abbrev cX7_film : ByteArray := prog_9_method_57_code
def yX7_film : MethodName := ⟨RX7, "film", "(IIII)I"⟩
abbrev cX7_copy : ByteArray := prog_9_method_58_code
def yX7_copy : MethodName := ⟨RX7, "copy", "(IIIII)I"⟩
def RJ6 : String := "java/lang/Integer"
def TJ6 : u_T := fun k => match k with
  | _ => ("", "", "", false)
def tyJ6 : Nat → FieldType := fun k => match k with
  | _ => .int
abbrev wsJ60 : List Cond := u_ws RJ6 TJ6 0
abbrev cJ6_bitCount_0f7a4 : ByteArray := prog_10_method_49_code
def yJ6_bitCount_0f7a4 : MethodName := ⟨RJ6, "bitCount", "(I)I"⟩
def RJ10 : String := "java/lang/System"
def TJ10 : u_T := fun k => match k with
  | _ => ("", "", "", false)
def tyJ10 : Nat → FieldType := fun k => match k with
  | _ => .int
abbrev wsJ100 : List Cond := u_ws RJ10 TJ10 0
def RJ7 : String := "java/util/Arrays"
def TJ7 : u_T := fun k => match k with
  | _ => ("", "", "", false)
def tyJ7 : Nat → FieldType := fun k => match k with
  | _ => .int
abbrev wsJ70 : List Cond := u_ws RJ7 TJ7 0
abbrev cJ7_fill_53178 : ByteArray := prog_12_method_103_code
def yJ7_fill_53178 : MethodName := ⟨RJ7, "fill", "([II)V"⟩
abbrev cJ7_fill_031fb : ByteArray := prog_12_method_109_code
def yJ7_fill_031fb : MethodName := ⟨RJ7, "fill", "([BB)V"⟩
def RL : String := "TaughtHoursLaw"
abbrev cL_law : ByteArray := code
def yL_law : MethodName := ⟨RL, "law", "([I)Z"⟩
abbrev vwCl : List vw_C := [(RX0, TX0, 4), (RX1, TX1, 6), (RX2, TX2, 4), (RX3, TX3, 13), (RX4, TX4, 9), (RX5, TX5, 3), (RX6, TX6, 7), (RX7, TX7, 34)]
end
section
/-! A PURE MACHINE over the claim's own instructions: a heap of cells by numbers (0: the script), locals by places, calls by method numbers. -/
/-- a cell: a row of numbers (0 ints, 1 bytes, 2 booleans; length; contents), a row of cells, or an object (class, fields) -/
abbrev ex_E : Type := (Nat × Nat × (Nat → Int32)) ⊕ ((Nat × (Nat → Option Nat)) ⊕ (Nat × List Value))
abbrev ex_H : Type := List ex_E
/-- an instruction with what its number of the constant pool means -/
abbrev ex_I : Type := Instr × Nat × Nat × Int
abbrev ex_L : Type := List (Option Value)
/-- own class, name, bytes, locals, answer, how many it takes off the stack, where longs stand, code -/
abbrev ex_M : Type := String × MethodName × ByteArray × Nat × Option FieldType × Nat × List Nat × (Nat → Option ex_I)
/-- on, back with an answer, or a call (method, arguments, where it goes on, the rest of the stack) -/
abbrev ex_R : Type := (Nat × ex_L × List Value × ex_H) ⊕ (Option Value ⊕ (Nat × List Value × Nat × List Value))
def ex_tyF (ci : Nat) : Nat → FieldType := match ci with
  | 0 => tyX0 | 1 => tyX1 | 2 => tyX2 | 3 => tyX3 | 4 => tyX4 | 5 => tyX5 | 6 => tyX6 | _ => tyX7
def ex_nF (ci : Nat) : Nat := match ci with
  | 0 => 4 | 1 => 6 | 2 => 4 | 3 => 13 | 4 => 9 | 5 => 3 | 6 => 7 | _ => 34
def ex_ci (C : String) : Nat := if C = RX0 then 0 else if C = RX1 then 1 else if C = RX2 then 2 else if C = RX3 then 3 else if C = RX4 then 4 else if C = RX5 then 5 else if C = RX6 then 6 else if C = RX7 then 7 else 8
def ex_c (c : ClassFile.Cond) (x y : Int32) : Bool := match c with
  | .eq => decide (x = y) | .ne => decide (¬ x = y) | .lt => decide (x < y) | .ge => decide (y ≤ x) | .gt => decide (y < x) | .le => decide (x ≤ y)
/-- the stack alone -/
def ex_op (I : Instr) (v : Int) (st : List Value) : Option (List Value) := match I, st with
  | .iconst n, st => some (.int (Int32.ofInt n) :: st)
  | .bipush n, st => some (.int ((Int8.ofInt n).toInt32) :: st)
  | .sipush n, st => some (.int ((Int16.ofInt n).toInt32) :: st)
  | .ldc _, st => some (.int (Int32.ofInt v) :: st)
  | .ldc_w _, st => some (.int (Int32.ofInt v) :: st)
  | .lconst n, st => some (.long (Int64.ofNat (n : Nat)) :: st)
  | .ldc2_w _, st => some (.long (Int64.ofInt v) :: st)
  | .iadd, .int y :: .int x :: st => some (.int (x + y) :: st)
  | .isub, .int y :: .int x :: st => some (.int (x - y) :: st)
  | .imul, .int y :: .int x :: st => some (.int (x * y) :: st)
  | .iand, .int y :: .int x :: st => some (.int (x &&& y) :: st)
  | .ior, .int y :: .int x :: st => some (.int (x ||| y) :: st)
  | .ixor, .int y :: .int x :: st => some (.int (x ^^^ y) :: st)
  | .ishl, .int y :: .int x :: st => some (.int (x <<< (y &&& 31)) :: st)
  | .ishr, .int y :: .int x :: st => some (.int (x >>> (y &&& 31)) :: st)
  | .iushr, .int y :: .int x :: st => some (.int ((x.toUInt32 >>> (y.toUInt32 &&& Int32.toUInt32 31)).toInt32) :: st)
  | .idiv, .int y :: .int x :: st => if y = 0 then none else some (.int (x / y) :: st)
  | .irem, .int y :: .int x :: st => if y = 0 then none else some (.int (x - x / y * y) :: st)
  | .ineg, .int x :: st => some (.int (-x) :: st)
  | .i2b, .int x :: st => some (.int (x.toInt8.toInt32) :: st)
  | .i2s, .int x :: st => some (.int (x.toInt16.toInt32) :: st)
  | .i2l, .int x :: st => some (.long (x.toInt64) :: st)
  | .l2i, .long x :: st => some (.int (x.toInt32) :: st)
  | .ladd, .long y :: .long x :: st => some (.long (x + y) :: st)
  | .lsub, .long y :: .long x :: st => some (.long (x - y) :: st)
  | .lmul, .long y :: .long x :: st => some (.long (x * y) :: st)
  | .land, .long y :: .long x :: st => some (.long (x &&& y) :: st)
  | .lor, .long y :: .long x :: st => some (.long (x ||| y) :: st)
  | .lshl, .int y :: .long x :: st => some (.long (x <<< (y.toInt64 &&& 63)) :: st)
  | .lshr, .int y :: .long x :: st => some (.long (x >>> (y.toInt64 &&& 63)) :: st)
  | .lcmp, .long y :: .long x :: st => some (.int (lg_cmp x y) :: st)
  | .dup, a :: st => if a.category = 1 then some (a :: a :: st) else none
  | .pop, a :: st => if a.category = 1 then some st else none
  | .dup_x1, a :: b :: st => if a.category = 1 ∧ b.category = 1 then some (a :: b :: a :: st) else none
  | .dup2, a :: b :: st => if a.category = 1 ∧ b.category = 1 then some (a :: b :: a :: b :: st) else none
  | _, _ => none
def ex_len (I : Instr) : Nat := match I with
  | .bipush _ | .iload _ | .aload _ | .lload _ | .istore _ | .astore _ | .ldc _ | .newarray _ => 2
  | .sipush _ | .iinc _ _ | .ifCond _ _ | .if_icmp _ _ | .goto _ | .getfield _ | .putfield _ | .invokevirtual _ | .invokestatic _ | .invokespecial _ | .new _ | .anewarray _ | .ldc_w _ | .ldc2_w _ => 3
  | _ => 1
def ex_ld (L : ex_L) (i : Nat) : Option Value := match L[i]? with
  | some (some v) => some v
  | _ => none
/-- a store of one slot: no long stands there or ahead of it -/
def ex_st (lg : List Nat) (L : ex_L) (i : Nat) (v : Value) : Option ex_L := if i < L.length ∧ i ∉ lg ∧ i - 1 ∉ lg ∧ v.category = 1 then some (L.set i (some v)) else none
def ex_jmp (pc : Nat) (off : Int) : Option Nat := if 0 ≤ (pc : Int) + off then some ((pc : Int) + off).toNat else none
def ex_ar (t : ArrayType) : Option Nat := match t with
  | .int => some 0 | .byte => some 1 | .boolean => some 2 | _ => none
def ex_df (ci : Nat) : List Value := (List.range (ex_nF ci)).map (fun k => defaultValue (ex_tyF ci k))
def ex_in (i : Int32) (n : Nat) : Bool := decide (¬ (i < 0 ∨ n ≤ i.toNatClampNeg))
/-- a field of this kind (0 int, 1 boolean, 2 a reference) takes this value -/
def ex_fit (k : Int) (v : Value) : Bool := match v with
  | .int x => decide (k = 0) || (decide (k = 1) && (decide (x = 0) || decide (x = 1)))
  | .ref _ => decide (k = 2)
  | _ => false
def ex_sz (x : ex_E) : Nat := match x with
  | .inl q => q.2.1
  | .inr (.inl q) => q.1
  | .inr (.inr q) => ex_nF q.1
def ex_hs (h : ex_H) : Nat := (h.map ex_sz).sum
def ex_getf (E : ex_I) (st : List Value) (h : ex_H) : Option (List Value × ex_H) := match st with
  | .ref c :: st => match h[c]? with
    | some (.inr (.inr (ci, fs))) => if c = 0 ∨ ci ≠ E.2.1 then none else match fs[E.2.2.1]? with
      | some v => some (v :: st, h)
      | none => none
    | _ => none
  | _ => none
def ex_putf (E : ex_I) (st : List Value) (h : ex_H) : Option (List Value × ex_H) := match st with
  | v :: .ref c :: st => match h[c]? with
    | some (.inr (.inr (ci, fs))) => if c = 0 ∨ ci ≠ E.2.1 ∨ fs.length ≤ E.2.2.1 ∨ ex_fit E.2.2.2 v = false then none else some (st, h.set c (.inr (.inr (ci, fs.set E.2.2.1 v))))
    | _ => none
  | _ => none
def ex_ald (st : List Value) (h : ex_H) : Option (List Value × ex_H) := match st with
  | .int i :: .ref c :: st => match h[c]? with
    | some (.inl (0, n, f)) => if ex_in i n then some (.int (f i.toNatClampNeg) :: st, h) else none
    | _ => none
  | _ => none
def ex_bld (st : List Value) (h : ex_H) : Option (List Value × ex_H) := match st with
  | .int i :: .ref c :: st => match h[c]? with
    | some (.inl (1, n, f)) => if c ≠ 0 ∧ ex_in i n then some (.int (f i.toNatClampNeg) :: st, h) else none
    | some (.inl (2, n, f)) => if c ≠ 0 ∧ ex_in i n then some (.int (f i.toNatClampNeg) :: st, h) else none
    | _ => none
  | _ => none
def ex_qld (st : List Value) (h : ex_H) : Option (List Value × ex_H) := match st with
  | .int i :: .ref c :: st => match h[c]? with
    | some (.inr (.inl (n, f))) => if c ≠ 0 ∧ ex_in i n then match f i.toNatClampNeg with
        | some r => some (.ref r :: st, h)
        | none => none
      else none
    | _ => none
  | _ => none
def ex_ast (st : List Value) (h : ex_H) : Option (List Value × ex_H) := match st with
  | .int x :: .int i :: .ref c :: st => match h[c]? with
    | some (.inl (0, n, f)) => if c ≠ 0 ∧ ex_in i n then some (st, h.set c (.inl (0, n, upd f i.toNatClampNeg x))) else none
    | _ => none
  | _ => none
def ex_bst (st : List Value) (h : ex_H) : Option (List Value × ex_H) := match st with
  | .int x :: .int i :: .ref c :: st => match h[c]? with
    | some (.inl (1, n, f)) => if c ≠ 0 ∧ ex_in i n then some (st, h.set c (.inl (1, n, upd f i.toNatClampNeg (vp_nar .byte x)))) else none
    | some (.inl (2, n, f)) => if c ≠ 0 ∧ ex_in i n then some (st, h.set c (.inl (2, n, upd f i.toNatClampNeg (vp_nar .boolean x)))) else none
    | _ => none
  | _ => none
def ex_qst (st : List Value) (h : ex_H) : Option (List Value × ex_H) := match st with
  | .ref v :: .int i :: .ref c :: st => match h[c]?, h[v]? with
    | some (.inr (.inl (n, f))), some (.inr (.inr (5, _))) => if c ≠ 0 ∧ v ≠ 0 ∧ ex_in i n then some (st, h.set c (.inr (.inl (n, va_up f i.toNatClampNeg (some v))))) else none
    | _, _ => none
  | _ => none
def ex_aln (st : List Value) (h : ex_H) : Option (List Value × ex_H) := match st with
  | .ref c :: st => match h[c]? with
    | some (.inl (0, n, _)) => some (.int (Int32.ofNat n) :: st, h)
    | some (.inl (1, n, _)) => if c ≠ 0 then some (.int (Int32.ofNat n) :: st, h) else none
    | _ => none
  | _ => none
def ex_new (E : ex_I) (st : List Value) (h : ex_H) : Option (List Value × ex_H) := if E.2.1 < 8 then some (.ref h.length :: st, h ++ [.inr (.inr (E.2.1, ex_df E.2.1))]) else none
def ex_nar (t : ArrayType) (st : List Value) (h : ex_H) : Option (List Value × ex_H) := match st with
  | .int n :: st => match ex_ar t with
    | some k => if ¬ n < 0 ∧ n.toNatClampNeg ≤ 100000 then some (.ref h.length :: st, h ++ [.inl (k, n.toNatClampNeg, fun _ => 0)]) else none
    | none => none
  | _ => none
def ex_nqr (st : List Value) (h : ex_H) : Option (List Value × ex_H) := match st with
  | .int n :: st => if ¬ n < 0 ∧ n.toNatClampNeg ≤ 100000 then some (.ref h.length :: st, h ++ [.inr (.inl (n.toNatClampNeg, fun _ => none))]) else none
  | _ => none
def ex_cpy (d : Nat) (st : List Value) (h : ex_H) : Option (List Value × ex_H) := match st with
  | .int n :: .int dp :: .ref a1 :: .int sp :: .ref a0 :: st => match h[a0]?, h[a1]? with
    | some (.inl (0, n0, f)), some (.inl (0, n1, g)) => if d ≠ 0 ∧ a0 ≠ 0 ∧ a1 ≠ 0 ∧ ¬ sp < 0 ∧ ¬ dp < 0 ∧ ¬ n < 0 ∧ sp.toNatClampNeg + n.toNatClampNeg ≤ n0 ∧ dp.toNatClampNeg + n.toNatClampNeg ≤ n1 ∧ (st.map fun v => v.category).sum ≤ 8 then some (st, h.set a1 (.inl (0, n1, va_cpy f g sp.toNatClampNeg dp.toNatClampNeg n.toNatClampNeg))) else none
    | _, _ => none
  | _ => none
def ex_obj (d : Nat) (st : List Value) (h : ex_H) : Option (List Value × ex_H) := match st with
  | .ref _ :: st => if d ≠ 0 ∧ (st.map fun v => v.category).sum ≤ 8 then some (st, h) else none
  | _ => none
/-- the heap's instructions -/
def ex_hp (d : Nat) (E : ex_I) (st : List Value) (h : ex_H) : Option (List Value × ex_H) := match E.1 with
  | .getfield _ => ex_getf E st h
  | .putfield _ => ex_putf E st h
  | .iaload => ex_ald st h
  | .baload => ex_bld st h
  | .aaload => ex_qld st h
  | .iastore => ex_ast st h
  | .bastore => ex_bst st h
  | .aastore => ex_qst st h
  | .arraylength => ex_aln st h
  | .new _ => ex_new E st h
  | .newarray t => ex_nar t st h
  | .anewarray _ => ex_nqr st h
  | .invokestatic _ => if E.2.2.1 = 3 then ex_cpy d st h else none
  | .invokespecial _ => if E.2.2.1 = 2 then ex_obj d st h else none
  | _ => none
def ex_lds (I : Instr) : Option (Nat × Nat) := match I with
  | .iload i => some (i, 0) | .iload_n i => some (i.val, 0) | .aload i => some (i, 1) | .aload_n i => some (i.val, 1) | .lload i => some (i, 2) | .lload_n i => some (i.val, 2) | _ => none
def ex_sts (I : Instr) : Option (Nat × Nat) := match I with
  | .istore i => some (i, 0) | .istore_n i => some (i.val, 0) | .astore i => some (i, 1) | .astore_n i => some (i.val, 1) | _ => none
def ex_isk (k : Nat) (v : Value) : Bool := match v with
  | .int _ => decide (k = 0) | .ref _ => decide (k = 1) | .long _ => decide (k = 2) | _ => false
/-- where it goes: jumps and switches -/
def ex_go (pc : Nat) (E : ex_I) (st : List Value) : Option (Nat × List Value) := match E.1, st with
  | .goto _, st => some (E.2.1, st)
  | .ifCond c _, .int x :: st => some (if ex_c c x 0 then E.2.1 else pc + 3, st)
  | .if_icmp c _, .int y :: .int x :: st => some (if ex_c c x y then E.2.1 else pc + 3, st)
  | .tableswitch dflt lo hi offs, .int x :: st => if x.toInt < lo ∨ hi < x.toInt then (ex_jmp pc dflt).map (fun t => (t, st)) else match offs[(x.toInt - lo).toNat]? with
    | some off => (ex_jmp pc off).map (fun t => (t, st))
    | none => none
  | .lookupswitch dflt ps, .int x :: st => (ex_jmp pc (Op.lookupswitch.offset ps.toList dflt x.toInt)).map (fun t => (t, st))
  | _, _ => none
def ex_lo (M : ex_M) (E : ex_I) (L : ex_L) (st : List Value) : Option (ex_L × List Value) := match ex_lds E.1 with
  | some (i, k) => match ex_ld L i with
    | some v => if ex_isk k v then some (L, v :: st) else none
    | none => none
  | none => match ex_sts E.1 with
    | some (i, k) => match st with
      | v :: st => if ex_isk k v then (ex_st M.2.2.2.2.2.2.1 L i v).map (fun L' => (L', st)) else none
      | [] => none
    | none => match E.1 with
      | .iinc i n => match ex_ld L i with
        | some (.int x) => (ex_st M.2.2.2.2.2.2.1 L i (.int (x + Int32.ofInt n))).map (fun L' => (L', st))
        | _ => none
      | _ => none
def ex_rt (M : ex_M) (E : ex_I) (st : List Value) : Option (Option Value) := match E.1, st with
  | .ireturn, [.int x] => if M.2.2.2.2.1 = some .int ∨ (M.2.2.2.2.1 = some .boolean ∧ (x = 0 ∨ x = 1)) then some (some (.int x)) else none
  | .return_, [] => if M.2.2.2.2.1 = none then some none else none
  | _, _ => none
/-- the object that a method is called of -/
def ex_rcv (E : ex_I) (as : List Value) (h : ex_H) : Bool := match as with
  | .ref c :: _ => match h[c]? with
    | some (.inr (.inr (ci, _))) => decide (c ≠ 0) && decide ((ci : Int) = E.2.2.2)
    | _ => false
  | _ => false
def ex_sl (as : List Value) : ex_L := as.flatMap (fun v => if v.category = 2 then [some v, none] else [some v])
def ex_en (M : ex_M) (as : List Value) : ex_L := ex_sl as ++ List.replicate (M.2.2.2.1 - (ex_sl as).length) none
/-- the arguments fit the locals, and longs stand where they are said to -/
def ex_lok (lg : List Nat) : Nat → ex_L → Bool
  | _, [] => true
  | i, some (.long _) :: l => decide (i ∈ lg) && ex_lok lg (i + 1) l
  | i, some (.double _) :: l => decide (i ∈ lg) && ex_lok lg (i + 1) l
  | i, _ :: l => ex_lok lg (i + 1) l
def ex_eok (M : ex_M) (as : List Value) : Bool := decide ((ex_sl as).length ≤ M.2.2.2.1) && ex_lok M.2.2.2.2.2.2.1 0 (ex_sl as)
def ex_cl (P : Nat → ex_M) (E : ex_I) (st : List Value) (h : ex_H) : Option (Nat × List Value × List Value) :=
  let np := (P E.2.1).2.2.2.2.2.1
  let as := (st.take np).reverse
  if st.length < np ∨ ¬ ((st.drop np).map fun v => v.category).sum ≤ 8 ∨ ex_eok (P E.2.1) as = false then none else match E.1 with
  | .invokevirtual _ => if E.2.2.1 ≤ 1 ∧ ex_rcv E as h then some (E.2.1, as, st.drop np) else none
  | .invokestatic _ => if E.2.2.1 ≤ 1 then some (E.2.1, as, st.drop np) else none
  | .invokespecial _ => match as with
    | .ref _ :: _ => if E.2.2.1 ≤ 1 then some (E.2.1, as, st.drop np) else none
    | _ => none
  | _ => none
def ex_step (P : Nat → ex_M) (M : ex_M) (d pc : Nat) (L : ex_L) (st : List Value) (h : ex_H) : Option ex_R := match M.2.2.2.2.2.2.2 pc with
  | none => none
  | some E => match ex_op E.1 E.2.2.2 st with
    | some st' => some (.inl (pc + ex_len E.1, L, st', h))
    | none => match ex_lo M E L st with
      | some (L', st') => some (.inl (pc + ex_len E.1, L', st', h))
      | none => match ex_go pc E st with
        | some (pc', st') => some (.inl (pc', L, st', h))
        | none => match ex_hp d E st h with
          | some (st', h') => some (.inl (pc + ex_len E.1, L, st', h'))
          | none => match ex_rt M E st with
            | some v => some (.inr (.inl v))
            | none => match ex_cl P E st h with
              | some (k, as, st') => some (.inr (.inr (k, as, pc + 3, st')))
              | none => none
/-- fuel, depth of calls, method, place, locals, stack, heap -/
def ex_run (P : Nat → ex_M) : Nat → Nat → Nat → Nat → ex_L → List Value → ex_H → Option (Option Value × ex_H)
  | 0, _, _, _, _, _, _ => none
  | n + 1, d, k, pc, L, st, h => match ex_step P (P k) d pc L st h with
    | none => none
    | some (.inl (pc', L', st', h')) => ex_run P n d k pc' L' st' h'
    | some (.inr (.inl v)) => some (v, h)
    | some (.inr (.inr (k', as, pc', st'))) => match d with
      | 0 => none
      | d' + 1 => match ex_run P n d' k' 0 (ex_en (P k') as) [] h with
        | none => none
        | some (v, h') => ex_run P n (d' + 1) k pc' L (v.toList ++ st') h'
end
section
/-! THE PURE MACHINE IS THE MACHINE: what ex_run answers, the bytecode does. -/
def ex_g (b b0 : Nat) (k : Nat) : Nat := if k = 0 then b else b0 + k
def ex_v (g : Nat → Nat) (v : Value) : Value := match v with
  | .ref k => .ref (g k)
  | w => w
theorem ex_v_cat (g : Nat → Nat) (v : Value) : (ex_v g v).category = v.category := by cases v <;> rfl
theorem ex_v_sum (g : Nat → Nat) (st : List Value) : ((st.map (ex_v g)).map fun v => v.category).sum = (st.map fun v => v.category).sum := by
  rw [List.map_map]
  congr 1
  exact List.map_congr_left (fun v _ => ex_v_cat g v)
def ex_e (g : Nat → Nat) (ca : Nat → ClassId) (x : ex_E) : va_E := match x with
  | .inl q => .inl (ca q.1, q.2.1, .inl q.2.2)
  | .inr (.inl q) => .inl (ca 3, q.1, .inr (.inr (.inr (.inr (fun j => (q.2 j).map g)))))
  | .inr (.inr q) => .inr (q.1, q.2.map (ex_v g))
def ex_w (g : Nat → Nat) (ca : Nat → ClassId) (h : ex_H) : va_W := (h.drop 1).mapIdx (fun k x => (g (k + 1), ex_e g ca x))
theorem ex_w_get (g : Nat → Nat) (ca : Nat → ClassId) (h : ex_H) (k : Nat) : (ex_w g ca h)[k]? = (h[k + 1]?).map (fun x => (g (k + 1), ex_e g ca x)) := by
  unfold ex_w
  rw [List.getElem?_mapIdx, List.getElem?_drop, Nat.add_comm 1 k]
theorem ex_w_at {g : Nat → Nat} {ca : Nat → ClassId} {h : ex_H} {k : Nat} {x : ex_E} (hk : k ≠ 0) (hx : h[k]? = some x) : (ex_w g ca h)[k - 1]? = some (g k, ex_e g ca x) := by
  obtain ⟨j, rfl⟩ : ∃ j, k = j + 1 := ⟨k - 1, by omega⟩
  rw [ex_w_get, Nat.add_sub_cancel, hx]
  rfl
theorem ex_w_set {g : Nat → Nat} {ca : Nat → ClassId} {h : ex_H} {k : Nat} (x : ex_E) (hk : k ≠ 0) : (ex_w g ca h).set (k - 1) (g k, ex_e g ca x) = ex_w g ca (h.set k x) := by
  obtain ⟨j, rfl⟩ : ∃ j, k = j + 1 := ⟨k - 1, by omega⟩
  rw [Nat.add_sub_cancel]
  refine List.ext_getElem? fun i => ?_
  rw [ex_w_get, List.getElem?_set, ex_w_get, List.getElem?_set]
  by_cases hij : j = i
  · subst hij
    have hl : (ex_w g ca h).length = h.length - 1 := by unfold ex_w; simp
    by_cases hlt : j < h.length - 1
    · rw [if_pos rfl, if_pos (by omega), if_pos rfl, if_pos (by omega)]; rfl
    · rw [if_pos rfl, if_neg (by omega), if_pos rfl, if_neg (by omega)]; rfl
  · rw [if_neg hij, if_neg (by omega)]
theorem ex_w_push {g : Nat → Nat} {ca : Nat → ClassId} {h : ex_H} (x : ex_E) (hl : 1 ≤ h.length) : ex_w g ca (h ++ [x]) = ex_w g ca h ++ [(g h.length, ex_e g ca x)] := by
  refine List.ext_getElem? fun i => ?_
  have hw : (ex_w g ca h).length = h.length - 1 := by unfold ex_w; simp
  rw [ex_w_get, List.getElem?_append, List.getElem?_append, hw]
  by_cases h1 : i + 1 < h.length
  · rw [if_pos h1, if_pos (by omega), ex_w_get]
  · rw [if_neg h1, if_neg (by omega)]
    by_cases h2 : i + 1 = h.length
    · rw [h2, Nat.sub_self, show i - (h.length - 1) = 0 by omega]; rfl
    · rw [List.getElem?_eq_none (by simp; omega), List.getElem?_eq_none (by simp; omega)]; rfl
theorem ex_w_D (b b0 : Nat) (ca : Nat → ClassId) (h : ex_H) : va_D (fun q => b0 < q) (ex_w (ex_g b b0) ca h) := by
  refine ⟨fun i j x y hi hj e => ?_, fun k q hk => ?_⟩
  · rw [ex_w_get, Option.map_eq_some_iff] at hi hj
    obtain ⟨u, -, rfl⟩ := hi
    obtain ⟨w, -, rfl⟩ := hj
    have e' : ex_g b b0 (i + 1) = ex_g b b0 (j + 1) := e
    unfold ex_g at e'
    rw [if_neg (by omega), if_neg (by omega)] at e'
    omega
  · rw [ex_w_get, Option.map_eq_some_iff] at hk
    obtain ⟨u, -, rfl⟩ := hk
    show b0 < ex_g b b0 (k + 1)
    unfold ex_g
    rw [if_neg (by omega)]
    omega
/-- locals -/
def ex_Ls (g : Nat → Nat) (nL : Nat) (lg : List Nat) (ls : Array Slot) (L : ex_L) : Prop := ls.size = nL ∧ L.length = nL ∧ lv_wf ls ∧ (∀ (i : Nat) (v : Value), L[i]? = some (some v) → ls[i]? = some (.val (ex_v g v))) ∧ ∀ (i : Nat) (v : Value), L[i]? = some (some v) → v.category = 2 → i ∈ lg
def ex_ps (g : Nat → Nat) (L : ex_L) : List (Nat × Value) := (List.range L.length).filterMap (fun i => match L[i]? with
  | some (some v) => some (i, ex_v g v)
  | _ => none)
theorem ex_ps_mem {g : Nat → Nat} {L : ex_L} {i : Nat} {v : Value} (h : L[i]? = some (some v)) : (i, ex_v g v) ∈ ex_ps g L := by
  unfold ex_ps
  refine List.mem_filterMap.mpr ⟨i, List.mem_range.mpr ?_, ?_⟩
  · exact (List.getElem?_eq_some_iff.mp h).1
  · rw [h]
theorem ex_ps_of {g : Nat → Nat} {L : ex_L} {q : Nat × Value} (h : q ∈ ex_ps g L) : ∃ v, L[q.1]? = some (some v) ∧ q.2 = ex_v g v := by
  unfold ex_ps at h
  obtain ⟨i, -, hi⟩ := List.mem_filterMap.mp h
  split at hi
  · rename_i v hv
    cases hi
    exact ⟨v, hv, rfl⟩
  · cases hi
theorem ex_Ls.has {g : Nat → Nat} {nL : Nat} {lg : List Nat} {ls : Array Slot} {L : ex_L} (h : ex_Ls g nL lg ls L) : lv_has ls nL (ex_ps g L) := by
  refine ⟨h.1, h.2.2.1, fun q hq => ?_⟩
  obtain ⟨v, h1, h2⟩ := ex_ps_of hq
  rw [h2]
  exact h.2.2.2.1 _ _ h1
theorem ex_Ls.put {g : Nat → Nat} {nL : Nat} {lg : List Nat} {ls ls' : Array Slot} {L : ex_L} {i : Nat} {v : Value} (h : ex_Ls g nL lg ls L) (hi : i ∉ lg) (hp : i - 1 ∉ lg) (hc : v.category = 1)
    (h' : lv_has ls' nL ((i, ex_v g v) :: (ex_ps g L).filter (fun q => !(q.1 == i) && !(q.1 + 1 == i && q.2.category == 2)))) : ex_Ls g nL lg ls' (L.set i (some v)) := by
  refine ⟨h'.1, by rw [List.length_set]; exact h.2.1, h'.2.1, fun j w hj => ?_, fun j w hj hw => ?_⟩
  · rw [List.getElem?_set] at hj
    by_cases hij : i = j
    · subst hij
      rw [if_pos rfl] at hj
      split at hj
      · cases hj
        exact h'.2.2 _ List.mem_cons_self
      · cases hj
    · rw [if_neg hij] at hj
      refine h'.2.2 (j, ex_v g w) (List.mem_cons_of_mem _ (List.mem_filter.mpr ⟨ex_ps_mem hj, ?_⟩))
      have h1 : ¬ j = i := fun q => hij q.symm
      have h2 : ¬ (j + 1 = i ∧ (ex_v g w).category = 2) := by
        rintro ⟨q1, q2⟩
        rw [ex_v_cat] at q2
        have := h.2.2.2.2 j w hj q2
        rw [show j = i - 1 by omega] at this
        exact hp this
      simp only [Bool.and_eq_true, Bool.not_eq_true', beq_eq_false_iff_ne, ne_eq, Bool.and_eq_false_iff]
      refine ⟨h1, ?_⟩
      by_cases q1 : j + 1 = i
      · exact Or.inr (fun q2 => h2 ⟨q1, q2⟩)
      · exact Or.inl q1
  · rw [List.getElem?_set] at hj
    by_cases hij : i = j
    · subst hij
      rw [if_pos rfl] at hj
      split at hj
      · cases hj
        omega
      · cases hj
    · rw [if_neg hij] at hj
      exact h.2.2.2.2 j w hj hw
theorem ex_ld_some {L : ex_L} {i : Nat} {v : Value} (h : ex_ld L i = some v) : L[i]? = some (some v) := by
  unfold ex_ld at h
  split at h
  · rename_i w hw
    cases h
    exact hw
  · cases h
theorem ex_st_some {lg : List Nat} {L L' : ex_L} {i : Nat} {v : Value} (h : ex_st lg L i v = some L') : i < L.length ∧ i ∉ lg ∧ i - 1 ∉ lg ∧ v.category = 1 ∧ L' = L.set i (some v) := by
  unfold ex_st at h
  split at h
  · rename_i hc
    cases h
    exact ⟨hc.1, hc.2.1, hc.2.2.1, hc.2.2.2, rfl⟩
  · cases h
end
section
section EXW
variable {p : Program} {l : Launch} {e : Env} {R : Room} {s : State} {m : MethodId} {args : Array Value} {below : List Frame} {meth : Method} {c : Code} {H : Heap} {locs : List Loc} {cells slots : Nat} {Q : State → Prop}
variable {cc : ByteArray} {pc : Nat} {ls : Array Slot} {g : Nat → Nat}
/-- what a constant's instruction reads of the pool -/
def ex_kw (own : String) (I : Instr) (v : Int) : Option Cond := match I with
  | .ldc i => some (.constant own i (Int32.ofInt v))
  | .ldc_w i => some (.constant own i (Int32.ofInt v))
  | .ldc2_w i => some (.constantLong own i (Int64.ofInt v))
  | _ => none
set_option maxHeartbeats 1000000 in
theorem ex_op_ok (hx : p.tables.exec = Jvm.exec) (hb : c.code = cc) {own : String} (hown : s.vm.findClass own = some m.cls) {I : Instr} {v : Int} {st st' : List Value} (h : ex_op I v st = some st') (hd : decode cc pc = .ok (I, ex_len I)) (hk : ∀ w, ex_kw own I v = some w → w.before args s = true)
    (kk : W p l e R s m args below meth c H locs cells slots Q (F0 m (pc + ex_len I) ls (st'.map (ex_v g)))) : W p l e R s m args below meth c H locs cells slots Q (F0 m pc ls (st.map (ex_v g))) := by
  unfold ex_op at h
  split at h
  · cases h; exact lv_iconst hx hb hd rfl kk
  · cases h; exact lv_bipush hx hb hd rfl kk
  · cases h; exact lv_sipush hx hb hd rfl kk
  · cases h; exact lv_ldc hx hb hown (hk _ rfl) hd kk
  · cases h; exact lv_ldcw hx hb hown (hk _ rfl) hd kk
  · cases h; exact lv_lconst hx hb hd rfl kk
  · cases h; exact lv_ldc2 hx hb hown (hk _ rfl) hd kk
  · cases h; exact lv_iadd hx hb hd kk
  · cases h; exact lv_isub hx hb hd kk
  · cases h; exact lv_imul hx hb hd kk
  · cases h; exact lv_iand hx hb hd kk
  · cases h; exact lv_ior hx hb hd kk
  · cases h; exact lv_ixor hx hb hd kk
  · cases h; exact lv_ishl hx hb hd kk
  · cases h; exact lv_ishr hx hb hd kk
  · cases h; exact lv_iushr hx hb hd rfl kk
  · split at h
    · cases h
    · cases h; exact lv_idiv hx hb hd (by assumption) kk
  · split at h
    · cases h
    · cases h; exact lv_irem hx hb hd (by assumption) kk
  · cases h; exact lv_ineg hx hb hd kk
  · cases h; exact lv_i2b hx hb hd rfl kk
  · cases h; exact lv_i2s hx hb hd rfl kk
  · cases h; exact lv_i2l hx hb hd rfl kk
  · cases h; exact lv_l2i hx hb hd rfl kk
  · cases h; exact lv_ladd hx hb hd kk
  · cases h; exact lv_lsub hx hb hd kk
  · cases h; exact lv_lmul hx hb hd kk
  · cases h; exact lv_land hx hb hd kk
  · cases h; exact lv_lor hx hb hd kk
  · cases h; exact lv_lshl hx hb hd rfl kk
  · cases h; exact lv_lshr hx hb hd rfl kk
  · cases h; exact W.lcmp hx hb hd kk
  · split at h
    · cases h; exact lv_dup hx hb hd (by rw [ex_v_cat]; assumption) kk
    · cases h
  · split at h
    · cases h; exact lv_pop hx hb hd (by rw [ex_v_cat]; assumption) kk
    · cases h
  · split at h
    · rename_i hc; cases h; exact lv_dup_x1 hx hb hd (by rw [ex_v_cat]; exact hc.1) (by rw [ex_v_cat]; exact hc.2) kk
    · cases h
  · split at h
    · rename_i hc; cases h; exact lv_dup2_11 hx hb hd (by rw [ex_v_cat]; exact hc.1) (by rw [ex_v_cat]; exact hc.2) kk
    · cases h
  · cases h
theorem ex_lo_ok (hx : p.tables.exec = Jvm.exec) (hb : c.code = cc) {M : ex_M} {E : ex_I} {L L' : ex_L} {st st' : List Value} (h : ex_lo M E L st = some (L', st')) (hd : decode cc pc = .ok (E.1, ex_len E.1)) (hL : ex_Ls g M.2.2.2.1 M.2.2.2.2.2.2.1 ls L)
    (kk : ∀ ls' : Array Slot, ex_Ls g M.2.2.2.1 M.2.2.2.2.2.2.1 ls' L' → W p l e R s m args below meth c H locs cells slots Q (F0 m (pc + ex_len E.1) ls' (st'.map (ex_v g)))) : W p l e R s m args below meth c H locs cells slots Q (F0 m pc ls (st.map (ex_v g))) := by
  obtain ⟨I, a, b, v0⟩ := E
  unfold ex_lo at h
  split at h
  · rename_i i k hik
    split at h
    · rename_i v hv
      split at h
      · rename_i hkd
        cases h
        have hv2 := hL.2.2.2.1 _ _ (ex_ld_some hv)
        have kk := kk ls hL
        dsimp only at hik hd kk
        unfold ex_lds at hik
        split at hik <;> cases hik <;> unfold ex_isk at hkd <;> split at hkd <;> first | (cases hkd; done) | exact lv_iload hx hb hd hv2 kk | exact lv_iload_n hx hb hd rfl hv2 kk | exact lv_aload hx hb hd hv2 kk | exact lv_aload_n hx hb hd rfl hv2 kk | exact lv_lload hx hb hd hv2 kk | exact lv_lload_n hx hb hd rfl hv2 kk
      · cases h
    · cases h
  · split at h
    · rename_i i k hik
      split at h
      · rename_i v st0
        split at h
        · rename_i hkd
          obtain ⟨L1, hL1, he⟩ := Option.map_eq_some_iff.mp h
          cases he
          obtain ⟨q1, q2, q3, q4, rfl⟩ := ex_st_some hL1
          have q1 : i < M.2.2.2.1 := by rw [← hL.2.1]; exact q1
          dsimp only at hik hd kk
          unfold ex_sts at hik
          split at hik <;> cases hik <;> unfold ex_isk at hkd <;> split at hkd <;> first | (cases hkd; done) | exact lv_istore hx hb hd hL.has q1 rfl (fun ls' h' => kk ls' (hL.put q2 q3 q4 h')) | exact lv_istore_n hx hb hd rfl hL.has q1 rfl (fun ls' h' => kk ls' (hL.put q2 q3 q4 h')) | exact lv_astore hx hb hd hL.has q1 rfl (fun ls' h' => kk ls' (hL.put q2 q3 q4 h')) | exact lv_astore_n hx hb hd rfl hL.has q1 rfl (fun ls' h' => kk ls' (hL.put q2 q3 q4 h'))
        · cases h
      · cases h
    · split at h
      · rename_i i n hI
        dsimp only at hI
        subst hI
        split at h
        · rename_i x hv
          obtain ⟨L1, hL1, he⟩ := Option.map_eq_some_iff.mp h
          cases he
          obtain ⟨q1, q2, q3, q4, rfl⟩ := ex_st_some hL1
          have q1 : i < M.2.2.2.1 := by rw [← hL.2.1]; exact q1
          obtain ⟨k, hk⟩ := List.getElem?_of_mem (ex_ps_mem (g := g) (ex_ld_some hv))
          exact lv_iinc hx hb hd hL.has hk rfl q1 rfl (fun ls' h' => kk ls' (hL.put (v := .int (x + Int32.ofInt n)) q2 q3 q4 h'))
        · cases h
      · cases h
end EXW
end
section
/-! the heap's rows of the pure machine -/
def ex_tbl : List Cond := lw_tbl.filter goodWord
theorem ex_tbl_of {w : Cond} (h : w ∈ lw_tbl) (hg : goodWord w = true) : w ∈ ex_tbl := List.mem_filter.mpr ⟨h, hg⟩
theorem ex_tb {w : Cond} (i : Nat) (h : tables_1[i]? = some w) (hg : goodWord w = true) : w ∈ ex_tbl := ex_tbl_of (List.mem_append_right _ (List.mem_of_getElem? h)) hg
def ex_tys (ca : Nat → ClassId) : List (ClassId × FieldType) := [(ca 0, .int), (ca 1, .byte), (ca 2, .boolean), (ca 3, .object RX5)]
def ex_RC (ci : Nat) : String := match ci with
  | 0 => RX0 | 1 => RX1 | 2 => RX2 | 3 => RX3 | 4 => RX4 | 5 => RX5 | 6 => RX6 | _ => RX7
def ex_TC (ci : Nat) : u_T := match ci with
  | 0 => TX0 | 1 => TX1 | 2 => TX2 | 3 => TX3 | 4 => TX4 | 5 => TX5 | 6 => TX6 | _ => TX7
theorem ex_ty_ok (ci : Nat) : ∀ k, k < ex_nF ci → parseFieldDescriptor (ex_TC ci k).2.2.1 = some (ex_tyF ci k) := by
  match ci with
  | 0 => exact tyX0_ok | 1 => exact tyX1_ok | 2 => exact tyX2_ok | 3 => exact tyX3_ok | 4 => exact tyX4_ok | 5 => exact tyX5_ok | 6 => exact tyX6_ok | n + 7 => exact tyX7_ok
theorem ex_nm_ok (ci : Nat) : ∀ a, a < ex_nF ci → ∀ b, b < ex_nF ci → a ≠ b → (ex_TC ci a).2.1 ≠ (ex_TC ci b).2.1 := by
  match ci with
  | 0 => exact nmX0 | 1 => exact nmX1 | 2 => exact nmX2 | 3 => exact nmX3 | 4 => exact nmX4 | 5 => exact nmX5 | 6 => exact nmX6 | n + 7 => exact nmX7
theorem ex_cl_ok {ci : Nat} (h : ci < 8) : vwCl[ci]? = some (ex_RC ci, ex_TC ci, ex_nF ci) := by
  match ci, h with
  | 0, _ => rfl | 1, _ => rfl | 2, _ => rfl | 3, _ => rfl | 4, _ => rfl | 5, _ => rfl | 6, _ => rfl | 7, _ => rfl | n + 8, h => exact absurd h (by omega)
/-- what a field's instruction needs of the tables: own class, number in its pool, class, field -/
def ex_okf (own : String) (i ci k : Nat) : Prop := ci < 8 ∧ k < ex_nF ci ∧ Cond.fieldLink own i (ex_TC ci k).1 (ex_TC ci k).2.1 (ex_TC ci k).2.2.1 ∈ ex_tbl
def ex_okt (own name : String) (ci k : Nat) (t : Int) : Prop := (t = 0 ∧ ex_tyF ci k = .int ∧ (ex_TC ci k).2.2.2 = false) ∨ (t = 1 ∧ ex_tyF ci k = .boolean ∧ (ex_TC ci k).2.2.2 = false) ∨ (t = 2 ∧ ((∃ n, ex_tyF ci k = .object n) ∨ ∃ n, ex_tyF ci k = .array n) ∧ (ex_TC ci k).2.2.2 = true ∧ name = "<init>" ∧ (ex_TC ci k).1 = own)
/-- what stays through a method -/
def ex_Cx (p : Program) (s : State) (m : MethodId) (args : Array Value) (meth : Method) (c : Code) (D : va_G) (ca : Nat → ClassId) (b b0 Lx : Nat) (xs : Nat → Int32) (nw : List Cond) (M : ex_M) : Prop :=
  p.tables.exec = Jvm.exec ∧ c.code = M.2.2.1 ∧ c.maxLocals = M.2.2.2.1 ∧ s.vm.findClass M.1 = some m.cls ∧ (∀ w ∈ ex_tbl, w.before args s = true) ∧ (M.2.1.name = "<init>" → meth.name = "<init>") ∧ va_K D vwCl (ex_tys ca) s ∧ (∀ w ∈ nw, va_Nw w s) ∧ va_AO RX5 s ∧ va_X b Lx xs s s.heap ∧ b ≤ b0 ∧ b0 < s.heap.size
/-- how the heap stands -/
def ex_Hs (D : va_G) (ca : Nat → ClassId) (b b0 n0 z0 : Nat) (s : State) (H : Heap) (locs : List Loc) (cells slots : Nat) (h : ex_H) : Prop :=
  va_P D vwCl (ex_w (ex_g b b0) ca h) H ∧ va_S (fun q => b0 < q) s.heap H locs ∧ s.heap.size = b0 + n0 ∧ 1 ≤ n0 ∧ cells + n0 = h.length ∧ slots + z0 = ex_hs h
theorem ex_hs_set {h : ex_H} {k : Nat} {x y : ex_E} (hx : h[k]? = some x) (hs : ex_sz y = ex_sz x) : ex_hs (h.set k y) = ex_hs h := by
  unfold ex_hs
  rw [List.map_set, hs]
  congr 1
  refine List.ext_getElem? fun i => ?_
  rw [List.getElem?_set]
  by_cases hk : k = i
  · subst hk
    rw [if_pos rfl]
    split
    · rw [List.getElem?_map, hx]; rfl
    · rename_i h1
      rw [List.getElem?_eq_none (by omega)]
  · rw [if_neg hk]
theorem ex_hs_push (h : ex_H) (x : ex_E) : ex_hs (h ++ [x]) = ex_hs h + ex_sz x := by
  unfold ex_hs
  simp
section EXH
variable {p : Program} {l : Launch} {e : Env} {R : Room} {s : State} {m : MethodId} {args : Array Value} {below : List Frame} {meth : Method} {c : Code} {H : Heap} {locs : List Loc} {cells slots : Nat} {Q : State → Prop}
variable {pc : Nat} {ls : Array Slot} {D : va_G} {ca : Nat → ClassId} {b b0 n0 z0 Lx : Nat} {xs : Nat → Int32} {nw : List Cond} {M : ex_M} {st st' : List Value} {h h' : ex_H}
theorem ex_size {g : JFrame} (kk : H.size ≤ s.heap.size + cells → W p l e R s m args below meth c H locs cells slots Q g) : W p l e R s m args below meth c H locs cells slots Q g := by
  intro T hT X
  refine kk ?_ T hT X
  have h1 : T.heap.size ≤ s.heap.size + cells := X.same.2.2.1
  rw [← hT]
  exact h1
theorem ex_Hs.size (h1 : ex_Hs D ca b b0 n0 z0 s H locs cells slots h) (h2 : H.size ≤ s.heap.size + cells) : H.size = b0 + h.length := by
  obtain ⟨hP, hS, a1, a2, a3, a4⟩ := h1
  have h3 : s.heap.size ≤ H.size := hS.1
  by_cases hn : h.length = n0
  · omega
  · obtain ⟨x, hx⟩ : ∃ x, h[h.length - 1]? = some x := ⟨_, List.getElem?_eq_getElem (by omega)⟩
    have h4 := hP _ _ (ex_w_at (g := ex_g b b0) (ca := ca) (k := h.length - 1) (by omega) hx)
    have h5 := h4.lt
    have h6 : ex_g b b0 (h.length - 1) < H.size := h5
    unfold ex_g at h6
    rw [if_neg (by omega)] at h6
    omega
theorem ex_Hs.set {H1 : Heap} {locs1 : List Loc} {k : Nat} {x y : ex_E} (h1 : ex_Hs D ca b b0 n0 z0 s H locs cells slots h) (hk : k ≠ 0) (hx : h[k]? = some x) (hs : ex_sz y = ex_sz x)
    (hP : va_P D vwCl ((ex_w (ex_g b b0) ca h).set (k - 1) (ex_g b b0 k, ex_e (ex_g b b0) ca y)) H1) (hS : va_S (fun q => b0 < q) s.heap H1 locs1) : ex_Hs D ca b b0 n0 z0 s H1 locs1 cells slots (h.set k y) := by
  obtain ⟨-, -, a1, a2, a3, a4⟩ := h1
  rw [ex_w_set y hk] at hP
  exact ⟨hP, hS, a1, a2, by rw [List.length_set]; exact a3, by rw [ex_hs_set hx hs]; exact a4⟩
theorem ex_in_vp {i : Int32} {n : Nat} (h : ex_in i n = true) : vp_in i n := by
  unfold ex_in at h
  unfold vp_in
  exact of_decide_eq_true h
theorem ex_getf_ok (C : ex_Cx p s m args meth c D ca b b0 Lx xs nw M) (hH : ex_Hs D ca b b0 n0 z0 s H locs cells slots h) (hin : ∀ ci, ci < 8 → ∀ w ∈ u_ws (ex_RC ci) (ex_TC ci) (ex_nF ci), w ∈ ex_tbl) {i : Nat} {E : ex_I} (ho : ex_okf M.1 i E.2.1 E.2.2.1) (hs : ex_getf E st h = some (st', h')) (hd : decode M.2.2.1 pc = .ok (.getfield i, 3))
    (kk : ex_Hs D ca b b0 n0 z0 s H locs cells slots h' → W p l e R s m args below meth c H locs cells slots Q (F0 m (pc + 3) ls (st'.map (ex_v (ex_g b b0))))) : W p l e R s m args below meth c H locs cells slots Q (F0 m pc ls (st.map (ex_v (ex_g b b0)))) := by
  unfold ex_getf at hs
  split at hs
  · rename_i c0 st0
    split at hs
    · rename_i ci fs hc
      split at hs
      · cases hs
      · rename_i hn
        split at hs
        · rename_i v hv
          cases hs
          have hn1 : c0 ≠ 0 := fun q => hn (Or.inl q)
          have hn2 : ci = E.2.1 := Decidable.byContradiction fun q => hn (Or.inr q)
          subst hn2
          obtain ⟨o1, o2, o3⟩ := ho
          obtain ⟨hx, hb, hml, hown, hts, hin0, hK, hnw, hAO, hX, hb1, hb2⟩ := C
          exact va_get (D := D) (ci := E.2.1) (v := ex_v (ex_g b b0) v) (C := ex_RC E.2.1) (T := ex_TC E.2.1) (N := ex_nF E.2.1) hx hb hts (hin _ o1) hown hK hH.1 (c0 - 1) (ex_w_at hn1 hc) (ex_cl_ok o1) E.2.2.1 o2 (hts _ o3) (fun _ h9 => h9) (by rw [List.getElem?_map, hv]; rfl) hd (kk hH)
        · cases hs
    · cases hs
  · cases hs
theorem ex_putf_ok (C : ex_Cx p s m args meth c D ca b b0 Lx xs nw M) (hH : ex_Hs D ca b b0 n0 z0 s H locs cells slots h) (hin : ∀ ci, ci < 8 → ∀ w ∈ u_ws (ex_RC ci) (ex_TC ci) (ex_nF ci), w ∈ ex_tbl) {i : Nat} {E : ex_I} (ho : ex_okf M.1 i E.2.1 E.2.2.1) (ht : ex_okt M.1 M.2.1.name E.2.1 E.2.2.1 E.2.2.2) (hs : ex_putf E st h = some (st', h')) (hd : decode M.2.2.1 pc = .ok (.putfield i, 3))
    (kk : ∀ H' locs', ex_Hs D ca b b0 n0 z0 s H' locs' cells slots h' → W p l e R s m args below meth c H' locs' cells slots Q (F0 m (pc + 3) ls (st'.map (ex_v (ex_g b b0))))) : W p l e R s m args below meth c H locs cells slots Q (F0 m pc ls (st.map (ex_v (ex_g b b0)))) := by
  unfold ex_putf at hs
  split at hs
  · rename_i v c0 st0
    split at hs
    · rename_i ci fs hc
      split at hs
      · cases hs
      · rename_i hn
        cases hs
        have hn1 : c0 ≠ 0 := fun q => hn (Or.inl q)
        have hn2 : ci = E.2.1 := Decidable.byContradiction fun q => hn (Or.inr (Or.inl q))
        have hn3 : E.2.2.1 < fs.length := Nat.not_le.mp fun q => hn (Or.inr (Or.inr (Or.inl q)))
        have hn4 : ex_fit E.2.2.2 v = true := Bool.of_not_eq_false fun q => hn (Or.inr (Or.inr (Or.inr q)))
        subst hn2
        obtain ⟨o1, o2, o3⟩ := ho
        obtain ⟨hx, hb, hml, hown, hts, hin0, hK, hnw, hAO, hX, hb1, hb2⟩ := C
        have hl : E.2.2.1 < (fs.map (ex_v (ex_g b b0))).length := by rw [List.length_map]; exact hn3
        have kk2 : ∀ (H1 : Heap) (locs1 : List Loc), va_P D vwCl ((ex_w (ex_g b b0) ca h).set (c0 - 1) (ex_g b b0 c0, .inr (E.2.1, (fs.map (ex_v (ex_g b b0))).set E.2.2.1 (ex_v (ex_g b b0) v)))) H1 → va_D (fun q => b0 < q) ((ex_w (ex_g b b0) ca h).set (c0 - 1) (ex_g b b0 c0, .inr (E.2.1, (fs.map (ex_v (ex_g b b0))).set E.2.2.1 (ex_v (ex_g b b0) v)))) → va_S (fun q => b0 < q) s.heap H1 locs1 → W p l e R s m args below meth c H1 locs1 cells slots Q (F0 m (pc + 3) ls (st'.map (ex_v (ex_g b b0)))) := by
          intro H1 locs1 hP1 hD1 hS1
          refine kk H1 locs1 (hH.set hn1 hc (y := .inr (.inr (E.2.1, fs.set E.2.2.1 v))) rfl ?_ hS1)
          rw [← List.map_set] at hP1
          exact hP1
        rcases ht with ⟨t1, t2, t3⟩ | ⟨t1, t2, t3⟩ | ⟨t1, t2, t3, t4, t5⟩
        · have hd2 := ex_ty_ok E.2.1 _ o2
          rw [t2] at hd2
          have hv : narrow .int (ex_v (ex_g b b0) v) = ex_v (ex_g b b0) v ∧ fits .int (ex_v (ex_g b b0) v) = true := by
            unfold ex_fit at hn4
            split at hn4
            · exact ⟨rfl, rfl⟩
            · rw [t1] at hn4; exact absurd hn4 (by decide)
            · cases hn4
          exact va_put (D := D) (ci := E.2.1) (v := ex_v (ex_g b b0) v) (ty := .int) (C := ex_RC E.2.1) (T := ex_TC E.2.1) (N := ex_nF E.2.1) hx hb hts (hin _ o1) (ex_tyF E.2.1) (ex_ty_ok E.2.1) (ex_nm_ok E.2.1) hown hK hH.1 (ex_w_D b b0 ca h) hH.2.1 (c0 - 1) (ex_w_at hn1 hc) (ex_cl_ok o1) E.2.2.1 o2 (hts _ o3) (fun _ h9 => h9) t3 hd2 hv.1 hv.2 hl hd kk2
        · have hd2 := ex_ty_ok E.2.1 _ o2
          rw [t2] at hd2
          have hv : narrow .boolean (ex_v (ex_g b b0) v) = ex_v (ex_g b b0) v ∧ fits .boolean (ex_v (ex_g b b0) v) = true := by
            unfold ex_fit at hn4
            split at hn4
            · rename_i x
              rw [t1] at hn4
              have hx01 : x = 0 ∨ x = 1 := by simpa using hn4
              rcases hx01 with rfl | rfl <;> exact ⟨rfl, rfl⟩
            · rw [t1] at hn4; exact absurd hn4 (by decide)
            · cases hn4
          exact va_put (D := D) (ci := E.2.1) (v := ex_v (ex_g b b0) v) (ty := .boolean) (C := ex_RC E.2.1) (T := ex_TC E.2.1) (N := ex_nF E.2.1) hx hb hts (hin _ o1) (ex_tyF E.2.1) (ex_ty_ok E.2.1) (ex_nm_ok E.2.1) hown hK hH.1 (ex_w_D b b0 ca h) hH.2.1 (c0 - 1) (ex_w_at hn1 hc) (ex_cl_ok o1) E.2.2.1 o2 (hts _ o3) (fun _ h9 => h9) t3 hd2 hv.1 hv.2 hl hd kk2
        · have hd2 := ex_ty_ok E.2.1 _ o2
          have hv : narrow (ex_tyF E.2.1 E.2.2.1) (ex_v (ex_g b b0) v) = ex_v (ex_g b b0) v ∧ fits (ex_tyF E.2.1 E.2.2.1) (ex_v (ex_g b b0) v) = true := by
            unfold ex_fit at hn4
            split at hn4
            · rw [t1] at hn4; exact absurd hn4 (by simp)
            · rcases t2 with ⟨n, hn⟩ | ⟨n, hn⟩ <;> rw [hn] <;> exact ⟨rfl, rfl⟩
            · cases hn4
          exact va_putF (D := D) (ci := E.2.1) (v := ex_v (ex_g b b0) v) (ty := ex_tyF E.2.1 E.2.2.1) (C := ex_RC E.2.1) (T := ex_TC E.2.1) (N := ex_nF E.2.1) hx hb hts (hin _ o1) (ex_tyF E.2.1) (ex_ty_ok E.2.1) (ex_nm_ok E.2.1) hown hK hH.1 (ex_w_D b b0 ca h) hH.2.1 (c0 - 1) (ex_w_at hn1 hc) (ex_cl_ok o1) E.2.2.1 o2 (hts _ o3) (fun _ h9 => h9) t3 (hin0 t4) t5 hd2 hv.1 hv.2 hl hd kk2
    · cases hs
  · cases hs
theorem ex_ald_ok (C : ex_Cx p s m args meth c D ca b b0 Lx xs nw M) (h0 : h[0]? = some (.inl (0, Lx, xs))) (hH : ex_Hs D ca b b0 n0 z0 s H locs cells slots h) (hs : ex_ald st h = some (st', h')) (hd : decode M.2.2.1 pc = .ok (.iaload, 1))
    (kk : ex_Hs D ca b b0 n0 z0 s H locs cells slots h' → W p l e R s m args below meth c H locs cells slots Q (F0 m (pc + 1) ls (st'.map (ex_v (ex_g b b0))))) : W p l e R s m args below meth c H locs cells slots Q (F0 m pc ls (st.map (ex_v (ex_g b b0)))) := by
  obtain ⟨hx, hb, hml, hown, hts, hin0, hK, hnw, hAO, hX, hb1, hb2⟩ := C
  unfold ex_ald at hs
  split at hs
  · rename_i i c0 st0
    split at hs
    · rename_i n f hc
      split at hs
      · rename_i hi
        cases hs
        by_cases hz : c0 = 0
        · subst hz
          rw [h0] at hc
          cases hc
          exact va_sld (A := fun q => b0 < q) (b := b) hx hb hX (by omega) (by show ¬ b0 < b; omega) hH.2.1 (ex_in_vp hi) hd (kk hH)
        · exact va_iald hx hb hK hH.1 (c0 - 1) 0 (ex_w_at hz hc) rfl (ex_in_vp hi) hd (kk hH)
      · cases hs
    · cases hs
  · cases hs
theorem ex_bld_ok (C : ex_Cx p s m args meth c D ca b b0 Lx xs nw M) (hH : ex_Hs D ca b b0 n0 z0 s H locs cells slots h) (hs : ex_bld st h = some (st', h')) (hd : decode M.2.2.1 pc = .ok (.baload, 1))
    (kk : ex_Hs D ca b b0 n0 z0 s H locs cells slots h' → W p l e R s m args below meth c H locs cells slots Q (F0 m (pc + 1) ls (st'.map (ex_v (ex_g b b0))))) : W p l e R s m args below meth c H locs cells slots Q (F0 m pc ls (st.map (ex_v (ex_g b b0)))) := by
  obtain ⟨hx, hb, hml, hown, hts, hin0, hK, hnw, hAO, hX, hb1, hb2⟩ := C
  unfold ex_bld at hs
  split at hs
  · rename_i i c0 st0
    split at hs
    · rename_i n f hc
      split at hs
      · rename_i hi
        cases hs
        exact va_bald hx hb hK hH.1 (c0 - 1) 1 (ex_w_at hi.1 hc) rfl (ex_in_vp hi.2) hd (kk hH)
      · cases hs
    · rename_i n f hc
      split at hs
      · rename_i hi
        cases hs
        exact va_zald hx hb hK hH.1 (c0 - 1) 2 (ex_w_at hi.1 hc) rfl (ex_in_vp hi.2) hd (kk hH)
      · cases hs
    · cases hs
  · cases hs
theorem ex_qld_ok (C : ex_Cx p s m args meth c D ca b b0 Lx xs nw M) (hH : ex_Hs D ca b b0 n0 z0 s H locs cells slots h) (hs : ex_qld st h = some (st', h')) (hd : decode M.2.2.1 pc = .ok (.aaload, 1))
    (kk : ex_Hs D ca b b0 n0 z0 s H locs cells slots h' → W p l e R s m args below meth c H locs cells slots Q (F0 m (pc + 1) ls (st'.map (ex_v (ex_g b b0))))) : W p l e R s m args below meth c H locs cells slots Q (F0 m pc ls (st.map (ex_v (ex_g b b0)))) := by
  obtain ⟨hx, hb, hml, hown, hts, hin0, hK, hnw, hAO, hX, hb1, hb2⟩ := C
  unfold ex_qld at hs
  split at hs
  · rename_i i c0 st0
    split at hs
    · rename_i n f hc
      split at hs
      · rename_i hi
        split at hs
        · rename_i r hr
          cases hs
          refine va_aldq hx hb hK hH.1 (c0 - 1) 3 (ex_w_at hi.1 hc) rfl (ex_in_vp hi.2) hd ?_
          dsimp only
          rw [hr]
          exact kk hH
        · cases hs
      · cases hs
    · cases hs
  · cases hs
theorem ex_ast_ok (C : ex_Cx p s m args meth c D ca b b0 Lx xs nw M) (hH : ex_Hs D ca b b0 n0 z0 s H locs cells slots h) (hs : ex_ast st h = some (st', h')) (hd : decode M.2.2.1 pc = .ok (.iastore, 1))
    (kk : ∀ H' locs', ex_Hs D ca b b0 n0 z0 s H' locs' cells slots h' → W p l e R s m args below meth c H' locs' cells slots Q (F0 m (pc + 1) ls (st'.map (ex_v (ex_g b b0))))) : W p l e R s m args below meth c H locs cells slots Q (F0 m pc ls (st.map (ex_v (ex_g b b0)))) := by
  obtain ⟨hx, hb, hml, hown, hts, hin0, hK, hnw, hAO, hX, hb1, hb2⟩ := C
  unfold ex_ast at hs
  split at hs
  · rename_i x i c0 st0
    split at hs
    · rename_i n f hc
      split at hs
      · rename_i hi
        cases hs
        exact va_iast hx hb hK hH.1 (ex_w_D b b0 ca h) hH.2.1 (c0 - 1) 0 (ex_w_at hi.1 hc) rfl (ex_in_vp hi.2) hd (fun H1 locs1 hP1 _ hS1 => kk H1 locs1 (hH.set hi.1 hc (y := .inl (0, n, upd f i.toNatClampNeg x)) rfl hP1 hS1))
      · cases hs
    · cases hs
  · cases hs
theorem ex_bst_ok (C : ex_Cx p s m args meth c D ca b b0 Lx xs nw M) (hH : ex_Hs D ca b b0 n0 z0 s H locs cells slots h) (hs : ex_bst st h = some (st', h')) (hd : decode M.2.2.1 pc = .ok (.bastore, 1))
    (kk : ∀ H' locs', ex_Hs D ca b b0 n0 z0 s H' locs' cells slots h' → W p l e R s m args below meth c H' locs' cells slots Q (F0 m (pc + 1) ls (st'.map (ex_v (ex_g b b0))))) : W p l e R s m args below meth c H locs cells slots Q (F0 m pc ls (st.map (ex_v (ex_g b b0)))) := by
  obtain ⟨hx, hb, hml, hown, hts, hin0, hK, hnw, hAO, hX, hb1, hb2⟩ := C
  unfold ex_bst at hs
  split at hs
  · rename_i x i c0 st0
    split at hs
    · rename_i n f hc
      split at hs
      · rename_i hi
        cases hs
        exact va_bast hx hb hK hH.1 (ex_w_D b b0 ca h) hH.2.1 (c0 - 1) 1 (ex_w_at hi.1 hc) rfl (ex_in_vp hi.2) hd (fun H1 locs1 hP1 _ hS1 => kk H1 locs1 (hH.set hi.1 hc (y := .inl (1, n, upd f i.toNatClampNeg (vp_nar .byte x))) rfl hP1 hS1))
      · cases hs
    · rename_i n f hc
      split at hs
      · rename_i hi
        cases hs
        exact va_zast hx hb hK hH.1 (ex_w_D b b0 ca h) hH.2.1 (c0 - 1) 2 (ex_w_at hi.1 hc) rfl (ex_in_vp hi.2) hd (fun H1 locs1 hP1 _ hS1 => kk H1 locs1 (hH.set hi.1 hc (y := .inl (2, n, upd f i.toNatClampNeg (vp_nar .boolean x))) rfl hP1 hS1))
      · cases hs
    · cases hs
  · cases hs
theorem ex_qst_ok (C : ex_Cx p s m args meth c D ca b b0 Lx xs nw M) (hH : ex_Hs D ca b b0 n0 z0 s H locs cells slots h) (hs : ex_qst st h = some (st', h')) (hd : decode M.2.2.1 pc = .ok (.aastore, 1))
    (kk : ∀ H' locs', ex_Hs D ca b b0 n0 z0 s H' locs' cells slots h' → W p l e R s m args below meth c H' locs' cells slots Q (F0 m (pc + 1) ls (st'.map (ex_v (ex_g b b0))))) : W p l e R s m args below meth c H locs cells slots Q (F0 m pc ls (st.map (ex_v (ex_g b b0)))) := by
  obtain ⟨hx, hb, hml, hown, hts, hin0, hK, hnw, hAO, hX, hb1, hb2⟩ := C
  unfold ex_qst at hs
  split at hs
  · rename_i v i c0 st0
    split at hs
    · rename_i n f fs hc hv
      split at hs
      · rename_i hi
        cases hs
        refine va_astq (r := (ex_RC 5, ex_TC 5, ex_nF 5)) hx hb hK hH.1 (ex_w_D b b0 ca h) hH.2.1 (c0 - 1) 3 (v - 1) 5 (ex_w_at hi.1 hc) rfl (ex_w_at hi.2.1 hv) rfl (ex_in_vp hi.2.2) hd (fun H1 locs1 hP1 _ hS1 => kk H1 locs1 (hH.set hi.1 hc (y := .inr (.inl (n, va_up f i.toNatClampNeg (some v)))) rfl ?_ hS1))
        have he : va_up (fun j => (f j).map (ex_g b b0)) i.toNatClampNeg (some (ex_g b b0 v)) = fun j => (va_up f i.toNatClampNeg (some v) j).map (ex_g b b0) := by
          funext j
          unfold va_up
          split <;> rfl
        have hP2 := hP1
        dsimp only at hP2
        rw [he] at hP2
        exact hP2
      · cases hs
    · cases hs
  · cases hs
theorem ex_aln_ok (C : ex_Cx p s m args meth c D ca b b0 Lx xs nw M) (h0 : h[0]? = some (.inl (0, Lx, xs))) (hH : ex_Hs D ca b b0 n0 z0 s H locs cells slots h) (hs : ex_aln st h = some (st', h')) (hd : decode M.2.2.1 pc = .ok (.arraylength, 1))
    (kk : ex_Hs D ca b b0 n0 z0 s H locs cells slots h' → W p l e R s m args below meth c H locs cells slots Q (F0 m (pc + 1) ls (st'.map (ex_v (ex_g b b0))))) : W p l e R s m args below meth c H locs cells slots Q (F0 m pc ls (st.map (ex_v (ex_g b b0)))) := by
  obtain ⟨hx, hb, hml, hown, hts, hin0, hK, hnw, hAO, hX, hb1, hb2⟩ := C
  unfold ex_aln at hs
  split at hs
  · rename_i c0 st0
    split at hs
    · rename_i n f hc
      cases hs
      by_cases hz : c0 = 0
      · subst hz
        rw [h0] at hc
        cases hc
        exact va_slen (A := fun q => b0 < q) (b := b) hx hb hX (by omega) (by show ¬ b0 < b; omega) hH.2.1 hd (kk hH)
      · exact va_alen hx hb hK hH.1 (c0 - 1) 0 (ex_w_at hz hc) rfl rfl hd (kk hH)
    · rename_i n f hc
      split at hs
      · rename_i hz
        cases hs
        exact va_alen hx hb hK hH.1 (c0 - 1) 1 (ex_w_at hz hc) rfl rfl hd (kk hH)
      · cases hs
    · cases hs
  · cases hs
end EXH
end
section
/-! rows that make cells, copy rows of numbers, and Object's constructor -/
section EXN
variable {p : Program} {l : Launch} {e : Env} {R : Room} {s : State} {m : MethodId} {args : Array Value} {below : List Frame} {meth : Method} {c : Code} {H : Heap} {locs : List Loc} {cells slots : Nat} {Q : State → Prop}
variable {pc : Nat} {ls : Array Slot} {D : va_G} {ca : Nat → ClassId} {b b0 n0 z0 Lx : Nat} {xs : Nat → Int32} {nw : List Cond} {M : ex_M} {st st' : List Value} {h h' : ex_H}
/-- a new cell's address is the next one -/
theorem ex_next (hH : ex_Hs D ca b b0 n0 z0 s H locs cells slots h) {q : Nat} {y : va_E} {H1 : Heap} (hP : va_P D vwCl (ex_w (ex_g b b0) ca h ++ [(q, y)]) H1) (hD : va_D (fun q => b0 < q) (ex_w (ex_g b b0) ca h ++ [(q, y)])) (hz : H1.size ≤ s.heap.size + (cells + 1)) : q = ex_g b b0 h.length := by
  obtain ⟨-, -, a1, a2, a3, a4⟩ := hH
  have hw : (ex_w (ex_g b b0) ca h).length = h.length - 1 := by unfold ex_w; simp
  have hq : (ex_w (ex_g b b0) ca h ++ [(q, y)])[h.length - 1]? = some (q, y) := by
    rw [List.getElem?_append_right (by omega), hw, Nat.sub_self]; rfl
  have h1 : q < H1.size := (hP _ _ hq).lt
  have h2 : b0 < q := hD.2 _ _ hq
  have h3 : b0 + h.length ≤ q := by
    refine Nat.not_lt.mp fun hlt => ?_
    obtain ⟨x, hx⟩ : ∃ x, h[q - b0]? = some x := ⟨_, List.getElem?_eq_getElem (by omega)⟩
    have h4 : (ex_w (ex_g b b0) ca h ++ [(q, y)])[q - b0 - 1]? = some (ex_g b b0 (q - b0), ex_e (ex_g b b0) ca x) := by
      rw [List.getElem?_append_left (by omega)]
      exact ex_w_at (by omega) hx
    have h5 := hD.1 _ _ _ _ h4 hq (by show ex_g b b0 (q - b0) = q; unfold ex_g; rw [if_neg (by omega)]; omega)
    omega
  unfold ex_g
  rw [if_neg (by omega)]
  omega
theorem ex_Hs.push (hH : ex_Hs D ca b b0 n0 z0 s H locs cells slots h) {x : ex_E} {q : Nat} {y : va_E} {H1 : Heap} {locs1 : List Loc} {k : Nat} (hP : va_P D vwCl (ex_w (ex_g b b0) ca h ++ [(q, y)]) H1) (hD : va_D (fun q => b0 < q) (ex_w (ex_g b b0) ca h ++ [(q, y)])) (hS : va_S (fun q => b0 < q) s.heap H1 locs1) (hz : H1.size ≤ s.heap.size + (cells + 1)) (hy : y = ex_e (ex_g b b0) ca x) (hk : ex_sz x = k) : ex_Hs D ca b b0 n0 z0 s H1 locs1 (cells + 1) (slots + k) (h ++ [x]) := by
  have e1 := ex_next hH hP hD hz
  obtain ⟨-, -, a1, a2, a3, a4⟩ := hH
  subst hy
  subst hk
  subst e1
  rw [← ex_w_push x (by omega)] at hP
  exact ⟨hP, hS, a1, a2, by simp; omega, by rw [ex_hs_push]; omega⟩
theorem ex_new_ok (C : ex_Cx p s m args meth c D ca b b0 Lx xs nw M) (hH : ex_Hs D ca b b0 n0 z0 s H locs cells slots h) (hin : ∀ ci, ci < 8 → ∀ w ∈ u_ws (ex_RC ci) (ex_TC ci) (ex_nF ci), w ∈ ex_tbl) {i : Nat} {E : ex_I} (ho : Cond.classLink M.1 i (ex_RC E.2.1) ∈ ex_tbl ∧ Cond.instantiable (ex_RC E.2.1) (ex_nF E.2.1) ∈ ex_tbl ∧ Cond.initialized (ex_RC E.2.1) ∈ ex_tbl) (hs : ex_new E st h = some (st', h')) (hd : decode M.2.2.1 pc = .ok (.new i, 3)) (hr : cells + n0 + R.cells ≥ 0 ∧ h'.length ≤ R.cells + n0 ∧ ex_hs h' ≤ R.slots + z0)
    (kk : ∀ H' locs' cells' slots', ex_Hs D ca b b0 n0 z0 s H' locs' cells' slots' h' → W p l e R s m args below meth c H' locs' cells' slots' Q (F0 m (pc + 3) ls (st'.map (ex_v (ex_g b b0))))) : W p l e R s m args below meth c H locs cells slots Q (F0 m pc ls (st.map (ex_v (ex_g b b0)))) := by
  obtain ⟨hx, hb, hml, hown, hts, hin0, hK, hnw, hAO, hX, hb1, hb2⟩ := C
  unfold ex_new at hs
  split at hs
  · rename_i hlt
    cases hs
    have a3 := hH.2.2.2.2.1
    have a4 := hH.2.2.2.2.2
    have hA : ∀ q, s.heap.size ≤ q → b0 < q := fun q hq => Nat.lt_of_lt_of_le hb2 hq
    have hr1 : cells + 1 ≤ R.cells := by have := hr.2.1; simp at this; omega
    have hr2 : slots + ex_nF E.2.1 ≤ R.slots := by have := hr.2.2; rw [ex_hs_push] at this; have e9 : ex_sz (.inr (.inr (E.2.1, ex_df E.2.1)) : ex_E) = ex_nF E.2.1 := rfl; rw [e9] at this; omega
    refine va_new (D := D) (ci := E.2.1) (fs := (ex_df E.2.1).map (ex_v (ex_g b b0))) (C := ex_RC E.2.1) (T := ex_TC E.2.1) (N := ex_nF E.2.1) (A := fun q => b0 < q) hx hb hts (hin _ hlt) (ex_tyF E.2.1) (ex_ty_ok E.2.1) hown (hts _ ho.1) (hts _ ho.2.1) (hts _ ho.2.2) hK hH.1 (ex_w_D b b0 ca h) hH.2.1 hA (ex_cl_ok hlt) (fun j hj => ?_) hr1 hr2 hd (fun q H1 hP1 hD1 hS1 => ?_)
    · have e1 : ∀ t : FieldType, ex_v (ex_g b b0) (defaultValue t) = defaultValue t := fun t => by cases t <;> rfl
      have e2 : ((ex_df E.2.1).map (ex_v (ex_g b b0))).getD j .null = defaultValue (ex_tyF E.2.1 j) := by
        unfold ex_df
        simp [List.getD_eq_getElem?_getD, hj, e1]
      exact e2.symm
    · refine ex_size fun hz => ?_
      have e3 := ex_next hH hP1 hD1 hz
      have h4 := hH.push (x := .inr (.inr (E.2.1, ex_df E.2.1))) hP1 hD1 hS1 hz rfl rfl
      subst e3
      exact kk _ _ _ _ h4
  · cases hs
theorem ex_nar_ok (C : ex_Cx p s m args meth c D ca b b0 Lx xs nw M) (hH : ex_Hs D ca b b0 n0 z0 s H locs cells slots h) {t : ArrayType} (ho : Cond.arrayClass .int ∈ ex_tbl ∧ Cond.arrayClass .byte ∈ ex_tbl ∧ Cond.arrayClass .boolean ∈ ex_tbl) (hs : ex_nar t st h = some (st', h')) (hd : decode M.2.2.1 pc = .ok (.newarray t, 2)) (hr : h'.length ≤ R.cells + n0 ∧ ex_hs h' ≤ R.slots + z0)
    (kk : ∀ H' locs' cells' slots', ex_Hs D ca b b0 n0 z0 s H' locs' cells' slots' h' → W p l e R s m args below meth c H' locs' cells' slots' Q (F0 m (pc + 2) ls (st'.map (ex_v (ex_g b b0))))) : W p l e R s m args below meth c H locs cells slots Q (F0 m pc ls (st.map (ex_v (ex_g b b0)))) := by
  obtain ⟨hx, hb, hml, hown, hts, hin0, hK, hnw, hAO, hX, hb1, hb2⟩ := C
  unfold ex_nar at hs
  split at hs
  · rename_i n st0
    split at hs
    · rename_i k hk
      split at hs
      · rename_i hn
        cases hs
        have a3 := hH.2.2.2.2.1
        have a4 := hH.2.2.2.2.2
        have hA : ∀ q, s.heap.size ≤ q → b0 < q := fun q hq => Nat.lt_of_lt_of_le hb2 hq
        have hr1 : cells + 1 ≤ R.cells := by have := hr.1; simp at this; omega
        have hr2 : slots + n.toNatClampNeg ≤ R.slots := by have := hr.2; rw [ex_hs_push] at this; have e9 : ex_sz (.inl (k, n.toNatClampNeg, fun _ => 0) : ex_E) = n.toNatClampNeg := rfl; rw [e9] at this; omega
        have go : ∀ (ty : FieldType), newarray.typeOf t = ty → (ex_tys ca)[k]? = some (ca k, ty) → (∀ cA : ClassId, vp_cell cA (n.toNatClampNeg, .inl (fun _ => 0)) = arrV cA n.toNatClampNeg (fun _ => defaultValue ty)) → (Cond.arrayClass (newarray.typeOf t)).before args s = true → n.toNatClampNeg * componentBytes ty ≤ 536870912 → (∀ cA, va_RA s cA ty → va_RA s (ca k) ty → cA = ca k) → W p l e R s m args below meth c H locs cells slots Q (F0 m pc ls ((Value.int n :: st0).map (ex_v (ex_g b b0)))) := by
          intro ty hty htk hcell hword hbytes hsame
          refine va_newa (A := fun q => b0 < q) hx hb hword hty hK hH.1 (ex_w_D b b0 ca h) hH.2.1 hA hcell hn.1 rfl hbytes hr1 hr2 hd (fun q cA H1 hK1 hP1 hD1 hS1 => ?_)
          refine ex_size fun hz => ?_
          have e3 := ex_next hH hP1 hD1 hz
          have hA1 := (hK1.2 4 (cA, ty) rfl).2
          have hA2 := (hK.2 k _ htk).2
          have e4 : cA = ca k := hsame cA hA1 hA2
          subst e4
          have h4 := hH.push (x := .inl (k, n.toNatClampNeg, fun _ => 0)) hP1 hD1 hS1 hz rfl rfl
          subst e3
          exact kk _ _ _ _ h4
        have fin : ∀ ty : FieldType, (∀ cA, va_RA s cA ty → s.vm.findClass ("[" ++ ty.toString) = some cA) → ∀ cA, va_RA s cA ty → va_RA s (ca k) ty → cA = ca k := fun ty hf cA q1 q2 => Option.some.inj ((hf _ q1).symm.trans (hf _ q2))
        have hn2 := hn.2
        cases t <;> unfold ex_ar at hk <;> first | (cases hk; done) | skip
        · cases hk
          exact go .boolean rfl rfl (fun _ => rfl) (hts _ ho.2.2) (by show _ * 1 ≤ _; omega) (fin _ (fun _ q => q))
        · cases hk
          exact go .byte rfl rfl (fun _ => rfl) (hts _ ho.2.1) (by show _ * 1 ≤ _; omega) (fin _ (fun _ q => q))
        · cases hk
          exact go .int rfl rfl (fun _ => rfl) (hts _ ho.1) (by show _ * 4 ≤ _; omega) (fin _ (fun _ q => q))
      · cases hs
    · cases hs
  · cases hs
theorem ex_nqr_ok (C : ex_Cx p s m args meth c D ca b b0 Lx xs nw M) (hH : ex_Hs D ca b b0 n0 z0 s H locs cells slots h) {i : Nat} (ho : Cond.classLink M.1 i RX5 ∈ ex_tbl) (hs : ex_nqr st h = some (st', h')) (hd : decode M.2.2.1 pc = .ok (.anewarray i, 3)) (hr : h'.length ≤ R.cells + n0 ∧ ex_hs h' ≤ R.slots + z0)
    (kk : ∀ H' locs' cells' slots', ex_Hs D ca b b0 n0 z0 s H' locs' cells' slots' h' → W p l e R s m args below meth c H' locs' cells' slots' Q (F0 m (pc + 3) ls (st'.map (ex_v (ex_g b b0))))) : W p l e R s m args below meth c H locs cells slots Q (F0 m pc ls (st.map (ex_v (ex_g b b0)))) := by
  obtain ⟨hx, hb, hml, hown, hts, hin0, hK, hnw, hAO, hX, hb1, hb2⟩ := C
  unfold ex_nqr at hs
  split at hs
  · rename_i n st0
    split at hs
    · rename_i hn
      cases hs
      have a3 := hH.2.2.2.2.1
      have a4 := hH.2.2.2.2.2
      have hA : ∀ q, s.heap.size ≤ q → b0 < q := fun q hq => Nat.lt_of_lt_of_le hb2 hq
      have hr1 : cells + 1 ≤ R.cells := by have := hr.1; simp at this; omega
      have hr2 : slots + n.toNatClampNeg ≤ R.slots := by have := hr.2; rw [ex_hs_push] at this; have e9 : ex_sz (.inr (.inl (n.toNatClampNeg, fun _ => none)) : ex_E) = n.toNatClampNeg := rfl; rw [e9] at this; omega
      refine va_newq (A := fun q => b0 < q) hx hb hown (hts _ ho) hAO hK hH.1 (ex_w_D b b0 ca h) hH.2.1 hA hn.1 rfl (by omega) hr1 hr2 hd (fun q cA H1 hK1 hP1 hD1 hS1 => ?_)
      refine ex_size fun hz => ?_
      have e3 := ex_next hH hP1 hD1 hz
      have hA1 : va_RA s cA (.object RX5) := (hK1.2 4 (cA, .object RX5) rfl).2
      have hA2 : va_RA s (ca 3) (.object RX5) := (hK.2 3 _ rfl).2
      obtain ⟨_, _, _, _, _, f1⟩ := hA1
      obtain ⟨_, _, _, _, _, f2⟩ := hA2
      have e4 : cA = ca 3 := Option.some.inj (f1.symm.trans f2)
      subst e4
      have h4 := hH.push (x := .inr (.inl (n.toNatClampNeg, fun _ => none))) hP1 hD1 hS1 hz rfl rfl
      subst e3
      exact kk _ _ _ _ h4
    · cases hs
  · cases hs
end EXN
end
section
/-! copying, Object's constructor, jumps -/
def ex_sw (I : Instr) : Bool := match I with
  | .tableswitch _ _ _ _ => true | .lookupswitch _ _ => true | _ => false
def ex_okd (cc : ByteArray) (pc : Nat) (I : Instr) : Prop := ∃ len, decode cc pc = .ok (I, len) ∧ (len = ex_len I ∨ ex_sw I = true)
def ex_okg (pc : Nat) (E : ex_I) : Prop := match E.1 with
  | .goto off => (pc : Int) + off = (E.2.1 : Int)
  | .ifCond _ off => (pc : Int) + off = (E.2.1 : Int)
  | .if_icmp _ off => (pc : Int) + off = (E.2.1 : Int)
  | .lookupswitch _ ps => (ps.toList.zip (ps.toList.drop 1)).all (fun (a, next) => a.1 < next.1) = true
  | _ => True
theorem ex_okd.plain {cc : ByteArray} {pc : Nat} {I : Instr} (h : ex_okd cc pc I) (hs : ex_sw I = false) : decode cc pc = .ok (I, ex_len I) := by
  obtain ⟨len, h1, h2 | h2⟩ := h
  · rw [h2] at h1; exact h1
  · rw [hs] at h2; cases h2
theorem ex_jmp_some {pc t : Nat} {off : Int} (h : ex_jmp pc off = some t) : (pc : Int) + off = (t : Int) := by
  unfold ex_jmp at h
  split at h
  · cases h; omega
  · cases h
section EXC
variable {p : Program} {l : Launch} {e : Env} {R : Room} {s : State} {m : MethodId} {args : Array Value} {below : List Frame} {meth : Method} {c : Code} {H : Heap} {locs : List Loc} {cells slots : Nat} {Q : State → Prop}
variable {pc : Nat} {ls : Array Slot} {D : va_G} {ca : Nat → ClassId} {b b0 n0 z0 Lx : Nat} {xs : Nat → Int32} {nw : List Cond} {M : ex_M} {st st' : List Value} {h h' : ex_H}
theorem ex_cpy_ok (C : ex_Cx p s m args meth c D ca b b0 Lx xs nw M) (hls : ls.size = M.2.2.2.1) (hH : ex_Hs D ca b b0 n0 z0 s H locs cells slots h) {i d : Nat} (ho : Cond.methodLink M.1 i arraycopyName ∈ ex_tbl ∧ Cond.native arraycopyName ∈ ex_tbl ∧ Cond.static arraycopyName ∈ ex_tbl ∧ Cond.initialized "java/lang/System" ∈ ex_tbl) (hs : ex_cpy d st h = some (st', h')) (hd : decode M.2.2.1 pc = .ok (.invokestatic i, 3)) (hr : d ≤ R.frames ∧ 40 * d ≤ R.locals)
    (kk : ∀ H' locs', ex_Hs D ca b b0 n0 z0 s H' locs' cells slots h' → W p l e R s m args below meth c H' locs' cells slots Q (F0 m (pc + 3) ls (st'.map (ex_v (ex_g b b0))))) : W p l e R s m args below meth c H locs cells slots Q (F0 m pc ls (st.map (ex_v (ex_g b b0)))) := by
  obtain ⟨hx, hb, hml, hown, hts, hin0, hK, hnw, hAO, hX, hb1, hb2⟩ := C
  unfold ex_cpy at hs
  split at hs
  · rename_i n dp a1 sp a0 st0
    split at hs
    · rename_i N0 f N1 g hc0 hc1
      split at hs
      · rename_i hi
        obtain ⟨i1, i2, i3, i4, i5, i6, i7, i8, i9⟩ := hi
        cases hs
        have hw : nativeFrameWords "java/lang/System" "arraycopy" 5 = 7 := by decide
        refine va_copyi hx hb (hml.trans hls.symm) hown (hts _ ho.1) (hts _ ho.2.1) (hts _ ho.2.2.1) (hts _ ho.2.2.2) hK hH.1 (ex_w_D b b0 ca h) hH.2.1 (a0 - 1) (a1 - 1) 0 0 (ex_w_at i2 hc0) (ex_w_at i3 hc1) rfl rfl rfl i4 i5 i6 i7 i8 (fun _ _ => rfl) (by omega) ?_ hd (fun H1 locs1 hP1 _ hS1 => kk H1 locs1 (hH.set i3 hc1 (y := .inl (0, N1, va_cpy f g sp.toNatClampNeg dp.toNatClampNeg n.toNatClampNeg)) rfl hP1 hS1))
        rw [hw]
        have := ex_v_sum (ex_g b b0) st'
        omega
      · cases hs
    · cases hs
  · cases hs
theorem ex_obj_ok (C : ex_Cx p s m args meth c D ca b b0 Lx xs nw M) (hls : ls.size = M.2.2.2.1) {i d : Nat} (ho : Cond.methodLink M.1 i objectInit ∈ ex_tbl ∧ Cond.instanceMethod objectInit ∈ ex_tbl ∧ Cond.code objectInit ⟨#[0xb1]⟩ 1 none ∈ ex_tbl) (hs : ex_obj d st h = some (st', h')) (hd : decode M.2.2.1 pc = .ok (.invokespecial i, 3)) (hr : d ≤ R.frames ∧ 40 * d ≤ R.locals)
    (kk : h' = h → W p l e R s m args below meth c H locs cells slots Q (F0 m (pc + 3) ls (st'.map (ex_v (ex_g b b0))))) : W p l e R s m args below meth c H locs cells slots Q (F0 m pc ls (st.map (ex_v (ex_g b b0)))) := by
  obtain ⟨hx, hb, hml, hown, hts, hin0, hK, hnw, hAO, hX, hb1, hb2⟩ := C
  unfold ex_obj at hs
  split at hs
  · rename_i a st0
    split at hs
    · rename_i hi
      cases hs
      refine W.objInit hx hb hown (hts _ ho.1) (hts _ ho.2.1) (hts _ ho.2.2) rfl (hls.trans hml.symm) rfl hd (by omega) ?_ (kk rfl)
      have := ex_v_sum (ex_g b b0) st'
      have := hi.2
      show 2 * 0 + _ + 12 ≤ R.locals
      omega
    · cases hs
  · cases hs
theorem ex_go_ok {cc : ByteArray} {g : Nat → Nat} (hx : p.tables.exec = Jvm.exec) (hb : c.code = cc) {E : ex_I} {pc' : Nat} (hs : ex_go pc E st = some (pc', st')) (hd : ex_okd cc pc E.1) (hg : ex_okg pc E)
    (kk : W p l e R s m args below meth c H locs cells slots Q (F0 m pc' ls (st'.map (ex_v g)))) : W p l e R s m args below meth c H locs cells slots Q (F0 m pc ls (st.map (ex_v g))) := by
  obtain ⟨I, a, b', v⟩ := E
  unfold ex_go at hs
  unfold ex_okg at hg
  dsimp only at hs hg hd
  split at hs
  · cases hs
    exact lv_goto hx hb (hd.plain rfl) hg kk
  · rename_i cd off x st0
    cases hs
    have kt : ex_c cd x 0 = true → W p l e R s m args below meth c H locs cells slots Q (F0 m a ls (st'.map (ex_v g))) := fun q => by rw [if_pos q] at kk; exact kk
    have kf : ¬ ex_c cd x 0 = true → W p l e R s m args below meth c H locs cells slots Q (F0 m (pc + 3) ls (st'.map (ex_v g))) := fun q => by rw [if_neg q] at kk; exact kk
    have hd3 := hd.plain rfl
    cases cd
    · exact lv_if_eq hx hb hd3 hg (fun q => kt (decide_eq_true q)) (fun q => kf (fun w => q (of_decide_eq_true w)))
    · exact lv_if_ne hx hb hd3 hg (fun q => kt (decide_eq_true q)) (fun q => kf (fun w => (of_decide_eq_true w) q))
    · exact lv_if_lt hx hb hd3 hg (fun q => kt (decide_eq_true q)) (fun q => kf (fun w => q (of_decide_eq_true w)))
    · exact lv_if_ge hx hb hd3 hg (fun q => kt (decide_eq_true q)) (fun q => kf (fun w => q (of_decide_eq_true w)))
    · exact lv_if_gt hx hb hd3 hg (fun q => kt (decide_eq_true q)) (fun q => kf (fun w => q (of_decide_eq_true w)))
    · exact lv_if_le hx hb hd3 hg (fun q => kt (decide_eq_true q)) (fun q => kf (fun w => q (of_decide_eq_true w)))
  · rename_i cd off y x st0
    cases hs
    have kt : ex_c cd x y = true → W p l e R s m args below meth c H locs cells slots Q (F0 m a ls (st'.map (ex_v g))) := fun q => by rw [if_pos q] at kk; exact kk
    have kf : ¬ ex_c cd x y = true → W p l e R s m args below meth c H locs cells slots Q (F0 m (pc + 3) ls (st'.map (ex_v g))) := fun q => by rw [if_neg q] at kk; exact kk
    have hd3 := hd.plain rfl
    cases cd
    · exact lv_icmp_eq hx hb hd3 hg (fun q => kt (decide_eq_true q)) (fun q => kf (fun w => q (of_decide_eq_true w)))
    · exact lv_icmp_ne hx hb hd3 hg (fun q => kt (decide_eq_true q)) (fun q => kf (fun w => (of_decide_eq_true w) q))
    · exact lv_icmp_lt hx hb hd3 hg (fun q => kt (decide_eq_true q)) (fun q => kf (fun w => q (of_decide_eq_true w)))
    · exact lv_icmp_ge hx hb hd3 hg (fun q => kt (decide_eq_true q)) (fun q => kf (fun w => q (of_decide_eq_true w)))
    · exact lv_icmp_gt hx hb hd3 hg (fun q => kt (decide_eq_true q)) (fun q => kf (fun w => q (of_decide_eq_true w)))
    · exact lv_icmp_le hx hb hd3 hg (fun q => kt (decide_eq_true q)) (fun q => kf (fun w => q (of_decide_eq_true w)))
  · rename_i dflt lo hi offs x st0
    obtain ⟨len, hd1, -⟩ := hd
    split at hs
    · rename_i ho
      obtain ⟨t, h1, h2⟩ := Option.map_eq_some_iff.mp hs
      cases h2
      exact lv_tableOut hx hb hd1 ho (ex_jmp_some h1) kk
    · rename_i ho
      split at hs
      · rename_i off hoff
        obtain ⟨t, h1, h2⟩ := Option.map_eq_some_iff.mp hs
        cases h2
        exact lv_tableIn hx hb hd1 (fun q => ho (Or.inl q)) (fun q => ho (Or.inr q)) hoff (ex_jmp_some h1) kk
      · cases hs
  · rename_i dflt ps x st0
    obtain ⟨len, hd1, -⟩ := hd
    obtain ⟨t, h1, h2⟩ := Option.map_eq_some_iff.mp hs
    cases h2
    exact lv_lookup hx hb hd1 hg rfl (ex_jmp_some h1) kk
  · cases hs
end EXC
end
section
/-! the run of the pure machine is a run of the machine -/
theorem ex_hs_pos (h : ex_H) (x : ex_E) : ex_hs h ≤ ex_hs (h ++ [x]) := by rw [ex_hs_push]; omega
/-- the heap only grows, and its script stays -/
def ex_ge (h h' : ex_H) : Prop := h.length ≤ h'.length ∧ ex_hs h ≤ ex_hs h' ∧ (1 ≤ h.length → h'[0]? = h[0]?)
theorem ex_ge.rf (h : ex_H) : ex_ge h h := ⟨Nat.le_refl _, Nat.le_refl _, fun _ => rfl⟩
theorem ex_ge.tr {h h1 h2 : ex_H} (a : ex_ge h h1) (b : ex_ge h1 h2) : ex_ge h h2 := ⟨Nat.le_trans a.1 b.1, Nat.le_trans a.2.1 b.2.1, fun q => (b.2.2 (Nat.le_trans q a.1)).trans (a.2.2 q)⟩
theorem ex_ge.set {h : ex_H} {k : Nat} {x y : ex_E} (hk : k ≠ 0) (hx : h[k]? = some x) (hs : ex_sz y = ex_sz x) : ex_ge h (h.set k y) := ⟨by rw [List.length_set]; exact Nat.le_refl _, by rw [ex_hs_set hx hs]; exact Nat.le_refl _, fun _ => by rw [List.getElem?_set, if_neg hk]⟩
theorem ex_ge.push (h : ex_H) (x : ex_E) : ex_ge h (h ++ [x]) := ⟨by simp, ex_hs_pos h x, fun q => List.getElem?_append_left (by omega)⟩
theorem ex_hp_ge {d : Nat} {E : ex_I} {st st' : List Value} {h h' : ex_H} (hs : ex_hp d E st h = some (st', h')) : ex_ge h h' := by
  unfold ex_hp at hs
  split at hs
  · unfold ex_getf at hs
    split at hs
    · split at hs
      · split at hs
        · cases hs
        · split at hs
          · cases hs; exact ex_ge.rf _
          · cases hs
      · cases hs
    · cases hs
  · unfold ex_putf at hs
    split at hs
    · split at hs
      · rename_i hc
        split at hs
        · cases hs
        · rename_i hn; cases hs; exact ex_ge.set (fun q => hn (Or.inl q)) hc rfl
      · cases hs
    · cases hs
  · unfold ex_ald at hs
    split at hs
    · split at hs
      · split at hs
        · cases hs; exact ex_ge.rf _
        · cases hs
      · cases hs
    · cases hs
  · unfold ex_bld at hs
    split at hs
    · split at hs
      · split at hs
        · cases hs; exact ex_ge.rf _
        · cases hs
      · split at hs
        · cases hs; exact ex_ge.rf _
        · cases hs
      · cases hs
    · cases hs
  · unfold ex_qld at hs
    split at hs
    · split at hs
      · split at hs
        · split at hs
          · cases hs; exact ex_ge.rf _
          · cases hs
        · cases hs
      · cases hs
    · cases hs
  · unfold ex_ast at hs
    split at hs
    · split at hs
      · rename_i hc
        split at hs
        · rename_i hn; cases hs; exact ex_ge.set hn.1 hc rfl
        · cases hs
      · cases hs
    · cases hs
  · unfold ex_bst at hs
    split at hs
    · split at hs
      · rename_i hc
        split at hs
        · rename_i hn; cases hs; exact ex_ge.set hn.1 hc rfl
        · cases hs
      · rename_i hc
        split at hs
        · rename_i hn; cases hs; exact ex_ge.set hn.1 hc rfl
        · cases hs
      · cases hs
    · cases hs
  · unfold ex_qst at hs
    split at hs
    · split at hs
      · rename_i hc hv
        split at hs
        · rename_i hn; cases hs; exact ex_ge.set hn.1 hc rfl
        · cases hs
      · cases hs
    · cases hs
  · unfold ex_aln at hs
    split at hs
    · split at hs
      · cases hs; exact ex_ge.rf _
      · split at hs
        · cases hs; exact ex_ge.rf _
        · cases hs
      · cases hs
    · cases hs
  · unfold ex_new at hs
    split at hs
    · cases hs; exact ex_ge.push _ _
    · cases hs
  · unfold ex_nar at hs
    split at hs
    · split at hs
      · split at hs
        · cases hs; exact ex_ge.push _ _
        · cases hs
      · cases hs
    · cases hs
  · unfold ex_nqr at hs
    split at hs
    · split at hs
      · cases hs; exact ex_ge.push _ _
      · cases hs
    · cases hs
  · split at hs
    · unfold ex_cpy at hs
      split at hs
      · split at hs
        · rename_i hc0 hc1
          split at hs
          · rename_i hn; cases hs; exact ex_ge.set hn.2.2.1 hc1 rfl
          · cases hs
        · cases hs
      · cases hs
    · cases hs
  · split at hs
    · unfold ex_obj at hs
      split at hs
      · split at hs
        · cases hs; exact ex_ge.rf _
        · cases hs
      · cases hs
    · cases hs
  · cases hs
theorem ex_step_ge {P : Nat → ex_M} {M : ex_M} {d pc pc' : Nat} {L L' : ex_L} {st st' : List Value} {h h' : ex_H} (hs : ex_step P M d pc L st h = some (.inl (pc', L', st', h'))) : ex_ge h h' := by
  unfold ex_step at hs
  split at hs
  · cases hs
  · split at hs
    · cases hs; exact ex_ge.rf _
    · split at hs
      · cases hs; exact ex_ge.rf _
      · split at hs
        · cases hs; exact ex_ge.rf _
        · split at hs
          · rename_i hh; cases hs; exact ex_hp_ge hh
          · split at hs
            · cases hs
            · split at hs <;> cases hs
theorem ex_run_ge {P : Nat → ex_M} : ∀ (n d k pc : Nat) (L : ex_L) (st : List Value) (h : ex_H) (r : Option Value) (h' : ex_H), ex_run P n d k pc L st h = some (r, h') → ex_ge h h' := by
  intro n
  induction n with
  | zero => intro d k pc L st h r h' hs; cases hs
  | succ n ih =>
    intro d k pc L st h r h' hs
    unfold ex_run at hs
    split at hs
    · cases hs
    · rename_i hst
      exact (ex_step_ge hst).tr (ih _ _ _ _ _ _ _ _ hs)
    · cases hs; exact ex_ge.rf _
    · split at hs
      · cases hs
      · split at hs
        · cases hs
        · rename_i hr
          exact (ih _ _ _ _ _ _ _ _ hr).tr (ih _ _ _ _ _ _ _ _ hs)
end
section
/-! entry of a method, calls, and the whole run -/
theorem ex_sl_at (g : Nat → Nat) : ∀ (as : List Value) (i : Nat) (v : Value), (ex_sl as)[i]? = some (some v) → (lg_sl (as.map (ex_v g)))[i]? = some (.val (ex_v g v)) := by
  intro as
  induction as with
  | nil => intro i v h; simp [ex_sl] at h
  | cons a as ih =>
    intro i v h
    have e1 : ex_sl (a :: as) = (if a.category = 2 then [some a, none] else [some a]) ++ ex_sl as := rfl
    have e2 : lg_sl ((a :: as).map (ex_v g)) = (if (ex_v g a).category = 2 then [.val (ex_v g a), .second] else [.val (ex_v g a)]) ++ lg_sl (as.map (ex_v g)) := rfl
    rw [e1] at h
    rw [e2, ex_v_cat]
    by_cases hc : a.category = 2
    · rw [if_pos hc] at h ⊢
      match i, h with
      | 0, h => cases h; rfl
      | 1, h => cases h
      | i + 2, h => exact ih i v h
    · rw [if_neg hc] at h ⊢
      match i, h with
      | 0, h => cases h; rfl
      | i + 1, h => exact ih i v h
theorem ex_sl_len (g : Nat → Nat) : ∀ as : List Value, (lg_sl (as.map (ex_v g))).length = (ex_sl as).length := by
  intro as
  induction as with
  | nil => rfl
  | cons a as ih =>
    have e1 : ex_sl (a :: as) = (if a.category = 2 then [some a, none] else [some a]) ++ ex_sl as := rfl
    have e2 : lg_sl ((a :: as).map (ex_v g)) = (if (ex_v g a).category = 2 then [.val (ex_v g a), .second] else [.val (ex_v g a)]) ++ lg_sl (as.map (ex_v g)) := rfl
    rw [e1, e2, ex_v_cat, List.length_append, List.length_append, ih]
    split <;> rfl
theorem ex_lok_at {lg : List Nat} : ∀ (L : ex_L) (i0 : Nat), ex_lok lg i0 L = true → ∀ (j : Nat) (v : Value), L[j]? = some (some v) → v.category = 2 → i0 + j ∈ lg := by
  intro L
  induction L with
  | nil => intro i0 _ j v hj; simp at hj
  | cons o L ih =>
    intro i0 h j v hj hv
    match j, hj with
    | 0, hj =>
      cases hj
      cases v <;> first | (simp [Value.category] at hv; done) | skip
      · simp only [ex_lok, Bool.and_eq_true, decide_eq_true_eq] at h
        exact h.1
      · simp only [ex_lok, Bool.and_eq_true, decide_eq_true_eq] at h
        exact h.1
    | j + 1, hj =>
      have h2 : ex_lok lg (i0 + 1) L = true := by
        unfold ex_lok at h
        split at h
        · rename_i q; cases q
        · rename_i q; cases q; exact (Bool.and_eq_true_iff.mp h).2
        · rename_i q; cases q; exact (Bool.and_eq_true_iff.mp h).2
        · rename_i q; cases q; exact h
      have h3 := ih (i0 + 1) h2 j v hj hv
      rw [show i0 + 1 + j = i0 + (j + 1) by omega] at h3
      exact h3
theorem ex_en_ok {M : ex_M} {as : List Value} (g : Nat → Nat) (he : ex_eok M as = true) : ex_Ls g M.2.2.2.1 M.2.2.2.2.2.2.1 ((lg_sl (as.map (ex_v g)) ++ List.replicate (M.2.2.2.1 - (lg_sl (as.map (ex_v g))).length) Slot.unset).toArray) (ex_en M as) := by
  unfold ex_eok at he
  obtain ⟨h1, h2⟩ := Bool.and_eq_true_iff.mp he
  have h1 : (ex_sl as).length ≤ M.2.2.2.1 := of_decide_eq_true h1
  have h3 := lv_entry (as.map (ex_v g)) (n := M.2.2.2.1) (by rw [ex_sl_len]; exact h1)
  have hat : ∀ (i : Nat) (v : Value), (ex_en M as)[i]? = some (some v) → (ex_sl as)[i]? = some (some v) := by
    intro i v hi
    unfold ex_en at hi
    rw [List.getElem?_append] at hi
    split at hi
    · exact hi
    · rw [List.getElem?_replicate] at hi
      split at hi <;> cases hi
  refine ⟨h3.1, ?_, h3.2.1, fun i v hi => ?_, fun i v hi hv => ?_⟩
  · unfold ex_en; simp; omega
  · have h4 := ex_sl_at g as i v (hat i v hi)
    have h5 : i < (lg_sl (as.map (ex_v g))).length := (List.getElem?_eq_some_iff.mp h4).1
    rw [List.getElem?_toArray, List.getElem?_append_left h5]
    exact h4
  · have h4 := ex_lok_at _ 0 h2 i v (hat i v hi) hv
    rw [Nat.zero_add] at h4
    exact h4
def ex_Pc (D : va_G) (ca : Nat → ClassId) (b b0 Lx : Nat) (xs : Nat → Int32) (nw : List Cond) (as : List Value) (h : ex_H) : Array Value → State → Prop := fun av U => av = (as.map (ex_v (ex_g b b0))).toArray ∧ va_P D vwCl (ex_w (ex_g b b0) ca h) U.heap ∧ U.heap.size = b0 + h.length ∧ va_K D vwCl (ex_tys ca) U ∧ (∀ w ∈ nw, va_Nw w U) ∧ va_AO RX5 U ∧ va_X b Lx xs U U.heap
def ex_Qc (D : va_G) (ca : Nat → ClassId) (b b0 : Nat) (r : Option Value) (h' : ex_H) : Array Value → State → Outcome → State → Prop := fun _ st o t => o = .returned (r.map (ex_v (ex_g b b0))) ∧ va_P D vwCl (ex_w (ex_g b b0) ca h') t.heap ∧ va_F (fun q => b0 < q) st t
def ex_nwk (nw : List Cond) : Prop := ∀ w ∈ nw, ∃ (a : String) (i : Nat) (x : MethodName) (o : String), w = .methodLinkNest a i x o
theorem ex_Pc_blind {D : va_G} {ca : Nat → ClassId} {b b0 Lx : Nat} {xs : Nat → Int32} {nw : List Cond} (hnw : ex_nwk nw) (as : List Value) (h : ex_H) : FrameBlind (ex_Pc D ca b b0 Lx xs nw as h) := by
  intro a U g mk ⟨q1, q2, q3, q4, q5, q6, q7⟩
  refine ⟨q1, q2, q3, va_K.moved (u := U) (U := U.calling g mk a) (Vm.Alike.refl U.vm) q4, fun w hw => ?_, va_AO.moved (u := U) (U := U.calling g mk a) (Vm.Alike.refl U.vm) q6, va_X.moved (u := U) (U := U.calling g mk a) (Vm.Alike.refl U.vm) q7⟩
  obtain ⟨_, _, _, _, rfl⟩ := hnw w hw
  exact va_Nw.same (u := U) rfl rfl (q5 _ hw)
theorem ex_good {ws : List Cond} (h : ∀ w ∈ ws, w ∈ ex_tbl) : GoodIn ex_tbl ws := fun w hw => ⟨h w hw, good_of_word (List.mem_filter.mp (h w hw)).2⟩
def ex_rm (d mc ms : Nat) : Room := { frames := d, cells := mc, slots := ms, locals := 40 * d }
/-- a method's words -/
def ex_ws (M : ex_M) : List Cond := .code M.2.1 M.2.2.1 M.2.2.2.1 M.2.2.2.2.1 :: ex_tbl
section EXR
variable {p : Program} {l : Launch} {e : Env} {R : Room} {s : State} {m : MethodId} {args : Array Value} {below : List Frame} {meth : Method} {c : Code} {H : Heap} {locs : List Loc} {cells slots : Nat} {Q : State → Prop}
variable {pc : Nat} {ls : Array Slot} {D : va_G} {ca : Nat → ClassId} {b b0 n0 z0 Lx : Nat} {xs : Nat → Int32} {nw : List Cond} {M : ex_M} {st st' : List Value} {h h' : ex_H}
theorem ex_after {r : Option Value} {h1 : ex_H} {st0 rest : List Value} {a : Array Value} {mc ms : Nat} (hr : va_Run p l e R s m args below meth c H locs cells slots mc ms (F0 m pc ls st0) rest (ex_Qc D ca b b0 r h1 a) (fun q => b0 < q)) (hS : va_S (fun q => b0 < q) s.heap H locs)
    (kk : ∀ (H1 : Heap) (locs1 : List Loc), va_P D vwCl (ex_w (ex_g b b0) ca h1) H1 → va_S (fun q => b0 < q) s.heap H1 locs1 → W p l e R s m args below meth c H1 locs1 (cells + mc) (slots + ms) Q (F0 m (pc + 3) ls ((r.map (ex_v (ex_g b b0))).toList ++ rest))) : W p l e R s m args below meth c H locs cells slots Q (F0 m pc ls st0) := by
  intro T hT X
  obtain ⟨v, st₀, t, T', L, h0, X', hL, e1, e2, ⟨hv, hp, hz, hk⟩, stp⟩ := hr T hT X
  cases hv
  rw [h0] at hz hk
  obtain ⟨t2, a1, b1⟩ := kk T'.heap (locs ++ L) (by rw [e1]; exact hp)
    ⟨Nat.le_trans hS.1 (by rw [e1]; exact hz), fun q h1 h2 => by rw [e1, hk q (Nat.lt_of_lt_of_le h1 hS.1) h2]; exact hS.2.1 q h1 h2, fun q hq => by
      rcases List.mem_append.mp hq with h | h
      · exact hS.2.2 q h
      · exact hL q h⟩ T' rfl X'
  exact ⟨t2, stp t2 a1, b1⟩
theorem ex_pre {as : List Value} (C : ex_Cx p s m args meth c D ca b b0 Lx xs nw M) (hnw : ex_nwk nw) (hH : ex_Hs D ca b b0 n0 z0 s H locs cells slots h) (hz : H.size = b0 + h.length) : ∀ U : State, U.heap = H → s.WarmedH U.vm → ex_Pc D ca b b0 Lx xs nw as h (as.map (ex_v (ex_g b b0))).toArray U := by
  intro U hU hW
  obtain ⟨hx, hb, hml, hown, hts, hin0, hK, hnw1, hAO, hX, hb1, hb2⟩ := C
  refine ⟨rfl, by rw [hU]; exact hH.1, by rw [hU]; exact hz, va_K.moved hW.alike hK, fun w hw => ?_, va_AO.moved hW.alike hAO, ?_⟩
  · obtain ⟨_, _, _, _, rfl⟩ := hnw w hw
    exact va_Nw.warmM hW (hnw1 _ hw)
  · rw [hU]
    exact va_X.moved hW.alike (hX.kept (hH.2.1.2.1 b (by omega) (by omega)))
/-- what the tables say of a method -/
def ex_okM (M : ex_M) (inst : Bool) : Prop := plainName M.2.1.cls = true ∧ M.1 = M.2.1.cls ∧ (M.2.1.cls ≠ "java/lang/invoke/MethodHandle" ∧ M.2.1.cls ≠ "java/lang/invoke/VarHandle") ∧ Cond.code M.2.1 M.2.2.1 M.2.2.2.1 M.2.2.2.2.1 ∈ ex_tbl ∧ Cond.initialized M.2.1.cls ∈ ex_tbl ∧ M.2.2.2.1 ≤ 21 ∧ (inst = false → Cond.static M.2.1 ∈ ex_tbl ∧ (parseMethodDescriptor M.2.1.desc).map (fun d => d.parameters.length) = some M.2.2.2.2.2.1) ∧ (inst = true → Cond.instanceMethod M.2.1 ∈ ex_tbl ∧ (parseMethodDescriptor M.2.1.desc).map (fun d => d.parameters.length + 1) = some M.2.2.2.2.2.1)
theorem ex_ws_in {N : ex_M} {inst : Bool} (h : ex_okM N inst) : ∀ w ∈ ex_ws N, w ∈ ex_tbl := by
  intro w hw
  rcases List.mem_cons.mp hw with rfl | hw
  · exact h.2.2.2.1
  · exact hw
theorem ex_callS {N : ex_M} {as rest : List Value} {r : Option Value} {h1 : ex_H} {i d mc ms : Nat} (hN : ex_okM N false) (C : ex_Cx p s m args meth c D ca b b0 Lx xs nw M) (hnw : ex_nwk nw) (hH : ex_Hs D ca b b0 n0 z0 s H locs cells slots h) (hls : ls.size = M.2.2.2.1)
    (hM : Met l N.2.1 (ex_ws N) (ex_rm d mc ms) (ex_Pc D ca b b0 Lx xs nw as h) (ex_Qc D ca b b0 r h1) mc ms (fun q => b0 < q)) (hlk : Cond.methodLink M.1 i N.2.1 ∈ ex_tbl ∨ ∃ o, Cond.methodLinkNest M.1 i N.2.1 o ∈ nw)
    (hn : as.length = N.2.2.2.2.2.1) (hst : st = as.reverse ++ rest) (hrest : (rest.map fun v => v.category).sum ≤ 8) (hd : decode M.2.2.1 pc = .ok (.invokestatic i, 3)) (hR : d + 1 ≤ R.frames ∧ 40 * (d + 1) ≤ R.locals) (hf : cells + mc ≤ R.cells ∧ slots + ms ≤ R.slots)
    (kk : ∀ (H1 : Heap) (locs1 : List Loc), va_P D vwCl (ex_w (ex_g b b0) ca h1) H1 → va_S (fun q => b0 < q) s.heap H1 locs1 → W p l e R s m args below meth c H1 locs1 (cells + mc) (slots + ms) Q (F0 m (pc + 3) ls ((r.map (ex_v (ex_g b b0))).toList ++ rest.map (ex_v (ex_g b b0))))) : W p l e R s m args below meth c H locs cells slots Q (F0 m pc ls (st.map (ex_v (ex_g b b0)))) := by
  refine ex_size fun hz => ?_
  have hz2 := hH.size hz
  have C0 := C
  obtain ⟨hx, hb, hml, hown, hts, hin0, hK, hnw1, hAO, hX, hb1, hb2⟩ := C
  obtain ⟨o1, o2, o3, o4, o5, o6, o7, o8⟩ := hN
  obtain ⟨o9, o10⟩ := o7 rfl
  have hp : PreS s H (ex_Pc D ca b b0 Lx xs nw as h) (as.map (ex_v (ex_g b b0))) := ⟨ex_Pc_blind hnw as h, ex_pre C0 hnw hH hz2⟩
  have hstk : (F0 m pc ls (st.map (ex_v (ex_g b b0)))).stack = (as.map (ex_v (ex_g b b0))).reverse ++ rest.map (ex_v (ex_g b b0)) := by
    show st.map _ = _
    rw [hst, List.map_append, List.map_reverse]
  have hW8 : 2 * (F0 m pc ls (st.map (ex_v (ex_g b b0)))).monitorRoom + ((rest.map (ex_v (ex_g b b0))).map fun v => v.category).sum ≤ 8 := lv_room (by rw [ex_v_sum]; exact hrest)
  have hR2 : (ex_rm d mc ms).frames + 1 ≤ R.frames ∧ 8 + (N.2.2.2.1 + 11) + (ex_rm d mc ms).locals ≤ R.locals := ⟨hR.1, by have := hR.2; show 8 + (N.2.2.2.1 + 11) + 40 * d ≤ R.locals; omega⟩
  have hin : ∀ w ∈ ex_ws N, w ∈ ex_tbl := ex_ws_in ⟨o1, o2, o3, o4, o5, o6, o7, o8⟩
  rcases hlk with hlk | ⟨o, hlk⟩
  · refine ex_after (va_runS (rest := rest.map (ex_v (ex_g b b0))) ⟨hx, hb, hml, hown, hts⟩ hM (va_cwS (bytes := N.2.2.1) (maxL := N.2.2.2.1) (ret := N.2.2.2.2.1) N.2.2.2.2.2.1 hts (ex_good (ws := va_wsS M.1 i N.2.1 (ex_ws N)) (fun w hw => ?_)) rfl rfl rfl ⟨o3.1, o3.2, o10⟩ hR2) hp rfl (by rw [List.length_map]; exact hn) hls hstk hW8 hd hf) hH.2.1 kk
    rcases List.mem_append.mp hw with h1 | h1
    · simp at h1
      rcases h1 with rfl | rfl | rfl
      · exact hlk
      · exact o9
      · exact o5
    · exact hin w h1
  · exact ex_after (va_runSN (rest := rest.map (ex_v (ex_g b b0))) ⟨hx, hb, hml, hown, hts⟩ hM ⟨va_cnB (bytes := N.2.2.1) (maxL := N.2.2.2.1) (ret := N.2.2.2.2.1) N.2.2.2.2.2.1 hts (ex_good hin) rfl rfl rfl (hnw1 _ hlk) (hts _ o5) ⟨o3.1, o3.2, o10⟩ hR2, hts _ o9, trivial⟩ hp rfl (by rw [List.length_map]; exact hn) hls hstk hW8 hd hf) hH.2.1 kk
theorem ex_parm {d : String} {n k : Nat} (h : (parseMethodDescriptor d).map (fun d => d.parameters.length + 1) = some k) (hk : n + 1 = k) : (parseMethodDescriptor d).map (fun d => d.parameters.length) = some n := by
  cases hd : parseMethodDescriptor d with
  | none => rw [hd] at h; cases h
  | some x => rw [hd] at h; simp at h ⊢; omega
theorem ex_callV {N : ex_M} {c0 ci : Nat} {fs : List Value} {as rest : List Value} {r : Option Value} {h1 : ex_H} {i d mc ms : Nat} (hN : ex_okM N true) (hsel : Cond.selects N.2.1.cls N.2.1 N.2.1 ∈ ex_tbl) (C : ex_Cx p s m args meth c D ca b b0 Lx xs nw M) (hnw : ex_nwk nw) (hH : ex_Hs D ca b b0 n0 z0 s H locs cells slots h) (hls : ls.size = M.2.2.2.1)
    (hM : Met l N.2.1 (ex_ws N) (ex_rm d mc ms) (ex_Pc D ca b b0 Lx xs nw (.ref c0 :: as) h) (ex_Qc D ca b b0 r h1) mc ms (fun q => b0 < q)) (hlk : Cond.methodLink M.1 i N.2.1 ∈ ex_tbl ∨ ∃ o, Cond.methodLinkNest M.1 i N.2.1 o ∈ nw)
    (hc0 : c0 ≠ 0) (hcell : h[c0]? = some (.inr (.inr (ci, fs)))) (hci : ci < 8 ∧ ex_RC ci = N.2.1.cls)
    (hn : as.length + 1 = N.2.2.2.2.2.1) (hst : st = as.reverse ++ .ref c0 :: rest) (hrest : (rest.map fun v => v.category).sum ≤ 8) (hd : decode M.2.2.1 pc = .ok (.invokevirtual i, 3)) (hR : d + 1 ≤ R.frames ∧ 40 * (d + 1) ≤ R.locals) (hf : cells + mc ≤ R.cells ∧ slots + ms ≤ R.slots)
    (kk : ∀ (H1 : Heap) (locs1 : List Loc), va_P D vwCl (ex_w (ex_g b b0) ca h1) H1 → va_S (fun q => b0 < q) s.heap H1 locs1 → W p l e R s m args below meth c H1 locs1 (cells + mc) (slots + ms) Q (F0 m (pc + 3) ls ((r.map (ex_v (ex_g b b0))).toList ++ rest.map (ex_v (ex_g b b0))))) : W p l e R s m args below meth c H locs cells slots Q (F0 m pc ls (st.map (ex_v (ex_g b b0)))) := by
  refine ex_size fun hz => ?_
  have hz2 := hH.size hz
  have C0 := C
  obtain ⟨hx, hb, hml, hown, hts, hin0, hK, hnw1, hAO, hX, hb1, hb2⟩ := C
  obtain ⟨o1, o2, o3, o4, o5, o6, o7, o8⟩ := hN
  obtain ⟨o9, o10⟩ := o8 rfl
  have o11 := ex_parm o10 hn
  have hrcv : ∃ cellB : Cell, H[ex_g b b0 c0]? = some cellB ∧ cellB.vm.isStatics = false ∧ s.vm.findClass N.2.1.cls = some cellB.cls := by
    obtain ⟨r9, f1, cell, f2, f3, f4, -⟩ := hH.1 _ _ (ex_w_at (g := ex_g b b0) (ca := ca) hc0 hcell)
    obtain ⟨-, g1, -⟩ := hK.1 ci _ (ex_cl_ok hci.1)
    refine ⟨cell, f2, by rw [f4]; rfl, ?_⟩
    rw [← hci.2, f3]
    exact g1
  have hp : PreV s H N.2.1.cls (ex_g b b0 c0) (ex_Pc D ca b b0 Lx xs nw (.ref c0 :: as) h) (as.map (ex_v (ex_g b b0))) := ⟨ex_Pc_blind hnw _ h, hrcv, ex_pre (as := .ref c0 :: as) C0 hnw hH hz2⟩
  have hstk : (F0 m pc ls (st.map (ex_v (ex_g b b0)))).stack = (as.map (ex_v (ex_g b b0))).reverse ++ .ref (ex_g b b0 c0) :: rest.map (ex_v (ex_g b b0)) := by
    show st.map _ = _
    rw [hst, List.map_append, List.map_reverse]
    rfl
  have hW8 : 2 * (F0 m pc ls (st.map (ex_v (ex_g b b0)))).monitorRoom + ((rest.map (ex_v (ex_g b b0))).map fun v => v.category).sum ≤ 8 := lv_room (by rw [ex_v_sum]; exact hrest)
  have hR2 : (ex_rm d mc ms).frames + 1 ≤ R.frames ∧ 8 + (N.2.2.2.1 + 11) + (ex_rm d mc ms).locals ≤ R.locals := ⟨hR.1, by have := hR.2; show 8 + (N.2.2.2.1 + 11) + 40 * d ≤ R.locals; omega⟩
  have hin : ∀ w ∈ ex_ws N, w ∈ ex_tbl := ex_ws_in ⟨o1, o2, o3, o4, o5, o6, o7, o8⟩
  rcases hlk with hlk | ⟨o, hlk⟩
  · refine ex_after (va_runV (rest := rest.map (ex_v (ex_g b b0))) ⟨hx, hb, hml, hown, hts⟩ hM (cwV (bytes := N.2.2.1) (maxL := N.2.2.2.1) (ret := N.2.2.2.2.1) as.length hts (ex_good (ws := wsV M.1 i N.2.1.cls N.2.1 (ex_ws N)) (fun w hw => ?_)) rfl rfl rfl ⟨rfl, o3.1, o3.2, o11⟩ hR2) hp rfl (by rw [List.length_map]) hls hstk hW8 hd hf) hH.2.1 kk
    rcases List.mem_append.mp hw with h1 | h1
    · simp at h1
      rcases h1 with rfl | rfl | rfl | rfl
      · exact hlk
      · exact o9
      · exact hsel
      · exact o5
    · exact hin w h1
  · exact ex_after (va_runVN (C := N.2.1.cls) (rest := rest.map (ex_v (ex_g b b0))) ⟨hx, hb, hml, hown, hts⟩ hM ⟨va_cnB (bytes := N.2.2.1) (maxL := N.2.2.2.1) (ret := N.2.2.2.2.1) as.length hts (ex_good hin) rfl rfl rfl (hnw1 _ hlk) (hts _ o5) ⟨o3.1, o3.2, o11⟩ hR2, hts _ o9, hts _ hsel⟩ hp rfl (by rw [List.length_map]) hls hstk hW8 hd hf) hH.2.1 kk
theorem ex_callI {N : ex_M} {c0 : Nat} {as rest : List Value} {r : Option Value} {h1 : ex_H} {i d mc ms : Nat} (hN : ex_okM N true) (hini : N.2.1.name = "<init>" ∧ N.2.2.2.2.1 = none) (C : ex_Cx p s m args meth c D ca b b0 Lx xs nw M) (hnw : ex_nwk nw) (hH : ex_Hs D ca b b0 n0 z0 s H locs cells slots h) (hls : ls.size = M.2.2.2.1)
    (hM : Met l N.2.1 (ex_ws N) (ex_rm d mc ms) (ex_Pc D ca b b0 Lx xs nw (.ref c0 :: as) h) (ex_Qc D ca b b0 r h1) mc ms (fun q => b0 < q)) (hlk : Cond.methodLink M.1 i N.2.1 ∈ ex_tbl ∨ ∃ o, Cond.methodLinkNest M.1 i N.2.1 o ∈ nw)
    (hn : as.length + 1 = N.2.2.2.2.2.1) (hst : st = as.reverse ++ .ref c0 :: rest) (hrest : (rest.map fun v => v.category).sum ≤ 8) (hd : decode M.2.2.1 pc = .ok (.invokespecial i, 3)) (hR : d + 1 ≤ R.frames ∧ 40 * (d + 1) ≤ R.locals) (hf : cells + mc ≤ R.cells ∧ slots + ms ≤ R.slots)
    (kk : ∀ (H1 : Heap) (locs1 : List Loc), va_P D vwCl (ex_w (ex_g b b0) ca h1) H1 → va_S (fun q => b0 < q) s.heap H1 locs1 → W p l e R s m args below meth c H1 locs1 (cells + mc) (slots + ms) Q (F0 m (pc + 3) ls ((r.map (ex_v (ex_g b b0))).toList ++ rest.map (ex_v (ex_g b b0))))) : W p l e R s m args below meth c H locs cells slots Q (F0 m pc ls (st.map (ex_v (ex_g b b0)))) := by
  refine ex_size fun hz => ?_
  have hz2 := hH.size hz
  have C0 := C
  obtain ⟨hx, hb, hml, hown, hts, hin0, hK, hnw1, hAO, hX, hb1, hb2⟩ := C
  obtain ⟨o1, o2, o3, o4, o5, o6, o7, o8⟩ := hN
  obtain ⟨o9, o10⟩ := o8 rfl
  have o11 := ex_parm o10 hn
  have hp : PreS s H (ex_Pc D ca b b0 Lx xs nw (.ref c0 :: as) h) (.ref (ex_g b b0 c0) :: as.map (ex_v (ex_g b b0))) := ⟨ex_Pc_blind hnw _ h, ex_pre (as := .ref c0 :: as) C0 hnw hH hz2⟩
  have hstk : (F0 m pc ls (st.map (ex_v (ex_g b b0)))).stack = (as.map (ex_v (ex_g b b0))).reverse ++ .ref (ex_g b b0 c0) :: rest.map (ex_v (ex_g b b0)) := by
    show st.map _ = _
    rw [hst, List.map_append, List.map_reverse]
    rfl
  have hW8 : 2 * (F0 m pc ls (st.map (ex_v (ex_g b b0)))).monitorRoom + ((rest.map (ex_v (ex_g b b0))).map fun v => v.category).sum ≤ 8 := lv_room (by rw [ex_v_sum]; exact hrest)
  have hR2 : (ex_rm d mc ms).frames + 1 ≤ R.frames ∧ 8 + (N.2.2.2.1 + 11) + (ex_rm d mc ms).locals ≤ R.locals := ⟨hR.1, by have := hR.2; show 8 + (N.2.2.2.1 + 11) + 40 * d ≤ R.locals; omega⟩
  have hin : ∀ w ∈ ex_ws N, w ∈ ex_tbl := ex_ws_in ⟨o1, o2, o3, o4, o5, o6, o7, o8⟩
  have hw0 : ex_ws N = Cond.code N.2.1 N.2.2.1 N.2.2.2.1 none :: ex_tbl := by unfold ex_ws; rw [hini.2]
  rcases hlk with hlk | ⟨o, hlk⟩
  · exact ex_after (va_runI (rest := rest.map (ex_v (ex_g b b0))) ⟨hx, hb, hml, hown, hts⟩ hM (cwI (bytes := N.2.2.1) (maxL := N.2.2.2.1) as.length hts (ex_good hin) hw0 rfl rfl (hts _ o5) (hts _ hlk) (hts _ o9) hini.1 ⟨o3.1, o3.2, o11⟩ hR2) hp rfl (by rw [List.length_map]) hls hstk hW8 hd hf) hH.2.1 kk
  · exact ex_after (va_runIN (rest := rest.map (ex_v (ex_g b b0))) ⟨hx, hb, hml, hown, hts⟩ hM ⟨va_cnB (bytes := N.2.2.1) (maxL := N.2.2.2.1) (ret := none) as.length hts (ex_good hin) hw0 rfl rfl (hnw1 _ hlk) (hts _ o5) ⟨o3.1, o3.2, o11⟩ hR2, hini.1, hts _ o9⟩ hp rfl (by rw [List.length_map]) hls hstk hW8 hd hf) hH.2.1 kk
end EXR
end
section
/-! the main row: a run of the pure machine is a walk of the machine -/
def ex_lk (nw : List Cond) (own : String) (i : Nat) (y : MethodName) : Prop := Cond.methodLink own i y ∈ ex_tbl ∨ ∃ o, Cond.methodLinkNest own i y o ∈ nw
def ex_okE (P : Nat → ex_M) (nw : List Cond) (M : ex_M) (pc : Nat) (E : ex_I) : Prop := ex_okd M.2.2.1 pc E.1 ∧ ex_okg pc E ∧ (∀ w, ex_kw M.1 E.1 E.2.2.2 = some w → w ∈ ex_tbl) ∧ (match E.1 with
  | .getfield i => ex_okf M.1 i E.2.1 E.2.2.1
  | .putfield i => ex_okf M.1 i E.2.1 E.2.2.1 ∧ ex_okt M.1 M.2.1.name E.2.1 E.2.2.1 E.2.2.2
  | .new i => Cond.classLink M.1 i (ex_RC E.2.1) ∈ ex_tbl ∧ Cond.instantiable (ex_RC E.2.1) (ex_nF E.2.1) ∈ ex_tbl ∧ Cond.initialized (ex_RC E.2.1) ∈ ex_tbl
  | .anewarray i => Cond.classLink M.1 i RX5 ∈ ex_tbl
  | .invokestatic i => if E.2.2.1 = 3 then Cond.methodLink M.1 i arraycopyName ∈ ex_tbl else ex_okM (P E.2.1) false ∧ ex_lk nw M.1 i (P E.2.1).2.1
  | .invokevirtual i => ex_okM (P E.2.1) true ∧ Cond.selects (P E.2.1).2.1.cls (P E.2.1).2.1 (P E.2.1).2.1 ∈ ex_tbl ∧ (∃ ci : Nat, E.2.2.2 = (ci : Int) ∧ ci < 8 ∧ ex_RC ci = (P E.2.1).2.1.cls) ∧ ex_lk nw M.1 i (P E.2.1).2.1
  | .invokespecial i => if E.2.2.1 = 2 then Cond.methodLink M.1 i objectInit ∈ ex_tbl else ex_okM (P E.2.1) true ∧ ((P E.2.1).2.1.name = "<init>" ∧ (P E.2.1).2.2.2.2.1 = none) ∧ ex_lk nw M.1 i (P E.2.1).2.1
  | _ => True)
def ex_gw : Prop := (∀ ci, ci < 8 → ∀ w ∈ u_ws (ex_RC ci) (ex_TC ci) (ex_nF ci), w ∈ ex_tbl) ∧ (Cond.arrayClass .int ∈ ex_tbl ∧ Cond.arrayClass .byte ∈ ex_tbl ∧ Cond.arrayClass .boolean ∈ ex_tbl) ∧ (Cond.native arraycopyName ∈ ex_tbl ∧ Cond.static arraycopyName ∈ ex_tbl ∧ Cond.initialized "java/lang/System" ∈ ex_tbl) ∧ (Cond.instanceMethod objectInit ∈ ex_tbl ∧ Cond.code objectInit ⟨#[0xb1]⟩ 1 none ∈ ex_tbl)
def ex_ok (P : Nat → ex_M) (nw : List Cond) : Prop := (∀ k pc E, (P k).2.2.2.2.2.2.2 pc = some E → ex_okE P nw (P k) pc E) ∧ ex_gw ∧ ex_nwk nw
theorem ex_op_sw {I : Instr} {v : Int} {st st' : List Value} (h : ex_op I v st = some st') : ex_sw I = false := by
  cases I <;> first | rfl | exact absurd h (by simp [ex_op])
theorem ex_lo_sw {M : ex_M} {E : ex_I} {L L' : ex_L} {st st' : List Value} (h : ex_lo M E L st = some (L', st')) : ex_sw E.1 = false := by
  obtain ⟨I, a, b, v⟩ := E
  cases I <;> first | rfl | exact absurd h (by simp [ex_lo, ex_lds, ex_sts])
section EXZ
variable {p : Program} {l : Launch} {e : Env} {R : Room} {s : State} {m : MethodId} {args : Array Value} {below : List Frame} {meth : Method} {c : Code} {H : Heap} {locs : List Loc} {cells slots : Nat} {Q : State → Prop}
variable {pc : Nat} {ls : Array Slot} {D : va_G} {ca : Nat → ClassId} {b b0 n0 z0 Lx : Nat} {xs : Nat → Int32} {nw : List Cond} {M : ex_M} {st st' : List Value} {h h' : ex_H}
theorem ex_hp_ok {P : Nat → ex_M} {d : Nat} {E : ex_I} (hG : ex_gw) (C : ex_Cx p s m args meth c D ca b b0 Lx xs nw M) (hls : ls.size = M.2.2.2.1) (h0 : h[0]? = some (.inl (0, Lx, xs))) (hH : ex_Hs D ca b b0 n0 z0 s H locs cells slots h) (ho : ex_okE P nw M pc E) (hs : ex_hp d E st h = some (st', h')) (hr : d ≤ R.frames ∧ 40 * d ≤ R.locals) (hc : h'.length ≤ R.cells + n0 ∧ ex_hs h' ≤ R.slots + z0)
    (kk : ∀ H' locs' cells' slots', ex_Hs D ca b b0 n0 z0 s H' locs' cells' slots' h' → W p l e R s m args below meth c H' locs' cells' slots' Q (F0 m (pc + ex_len E.1) ls (st'.map (ex_v (ex_g b b0))))) : W p l e R s m args below meth c H locs cells slots Q (F0 m pc ls (st.map (ex_v (ex_g b b0)))) := by
  obtain ⟨I, a, b', v⟩ := E
  obtain ⟨g1, g2, g3, g4⟩ := hG
  obtain ⟨od, og, ok, ow⟩ := ho
  unfold ex_hp at hs
  dsimp only at hs od og ok ow kk
  split at hs
  · exact ex_getf_ok C hH g1 ow hs (od.plain rfl) (kk _ _ _ _)
  · exact ex_putf_ok C hH g1 ow.1 ow.2 hs (od.plain rfl) (fun H' locs' => kk H' locs' _ _)
  · exact ex_ald_ok C h0 hH hs (od.plain rfl) (kk _ _ _ _)
  · exact ex_bld_ok C hH hs (od.plain rfl) (kk _ _ _ _)
  · exact ex_qld_ok C hH hs (od.plain rfl) (kk _ _ _ _)
  · exact ex_ast_ok C hH hs (od.plain rfl) (fun H' locs' => kk H' locs' _ _)
  · exact ex_bst_ok C hH hs (od.plain rfl) (fun H' locs' => kk H' locs' _ _)
  · exact ex_qst_ok C hH hs (od.plain rfl) (fun H' locs' => kk H' locs' _ _)
  · exact ex_aln_ok C h0 hH hs (od.plain rfl) (kk _ _ _ _)
  · exact ex_new_ok C hH g1 ow hs (od.plain rfl) ⟨Nat.zero_le _, hc⟩ kk
  · exact ex_nar_ok C hH g2 hs (od.plain rfl) hc kk
  · exact ex_nqr_ok C hH ow hs (od.plain rfl) hc kk
  · split at hs
    · rename_i h3
      dsimp only at ow
      rw [if_pos h3] at ow
      exact ex_cpy_ok C hls hH ⟨ow, g3⟩ hs (od.plain rfl) hr (fun H' locs' => kk H' locs' _ _)
    · cases hs
  · split at hs
    · rename_i h3
      dsimp only at ow
      rw [if_pos h3] at ow
      exact ex_obj_ok (h := h) C hls ⟨ow, g4⟩ hs (od.plain rfl) hr (fun q => kk _ _ _ _ (by rw [q]; exact hH))
    · cases hs
  · cases hs
/-- what the machine does at the method's own end -/
def ex_End (p : Program) (l : Launch) (e : Env) (R : Room) (s : State) (m : MethodId) (args : Array Value) (below : List Frame) (meth : Method) (c : Code) (Q : State → Prop) (D : va_G) (ca : Nat → ClassId) (b b0 n0 z0 : Nat) (M : ex_M) (r : Option Value) (h' : ex_H) : Prop :=
  ∀ (H : Heap) (locs : List Loc) (cells slots : Nat) (ls : Array Slot) (pc : Nat), ex_Hs D ca b b0 n0 z0 s H locs cells slots h' →
    (∀ x, r = some (.int x) → decode M.2.2.1 pc = .ok (.ireturn, 1) → (M.2.2.2.2.1 = some .int ∨ (M.2.2.2.2.1 = some .boolean ∧ (x = 0 ∨ x = 1))) → W p l e R s m args below meth c H locs cells slots Q (F0 m pc ls [.int x])) ∧
    (r = none → decode M.2.2.1 pc = .ok (.return_, 1) → M.2.2.2.2.1 = none → W p l e R s m args below meth c H locs cells slots Q (F0 m pc ls []))
end EXZ
/-- a method's contract out of its walk -/
theorem ex_met {P : Nat → ex_M} {nw : List Cond} {M : ex_M} {inst : Bool} {l : Launch} {D : va_G} {ca : Nat → ClassId} {b b0 Lx : Nat} {xs : Nat → Int32} {as : List Value} {h h' : ex_H} {r : Option Value} {d mc ms : Nat} (hM : ex_okM M inst) (he : ex_eok M as = true) (h0 : h[0]? = some (.inl (0, Lx, xs))) (hb : b ≤ b0) (hmc : h.length + mc = h'.length) (hms : ex_hs h + ms = ex_hs h')
    (walk : ∀ (p : Program) (e : Env) (R : Room) (s : State) (m : MethodId) (args : Array Value) (below : List Frame) (meth : Method) (c : Code) (H : Heap) (locs : List Loc) (cells slots : Nat) (Q : State → Prop) (ls : Array Slot) (n0 z0 : Nat), ex_Cx p s m args meth c D ca b b0 Lx xs nw M → ex_Hs D ca b b0 n0 z0 s H locs cells slots h → ex_Ls (ex_g b b0) M.2.2.2.1 M.2.2.2.2.2.2.1 ls (ex_en M as) → d ≤ R.frames ∧ 40 * d ≤ R.locals → h'.length ≤ R.cells + n0 ∧ ex_hs h' ≤ R.slots + z0 → ex_End p l e R s m args below meth c Q D ca b b0 n0 z0 M r h' → W p l e R s m args below meth c H locs cells slots Q (F0 m 0 ls [])) :
    Met l M.2.1 (ex_ws M) (ex_rm d mc ms) (ex_Pc D ca b b0 Lx xs nw as h) (ex_Qc D ca b b0 r h') mc ms (fun q => b0 < q) := by
  refine Met.ofW (cc := M.2.2.1) (maxL := M.2.2.2.1) (ret := M.2.2.2.2.1) hM.1 rfl ?_
  intro p e s m args below meth c s₁ B hml hv
  obtain ⟨rfl, q2, q3, q4, q5, q6, q7⟩ := hv
  have hx := B.exec
  have hbt := B.bytes
  have hr := B.returns
  have hts := atoms_spec (ws := ex_ws M) B.pre
  have hown : s.vm.findClass M.1 = some m.cls := hM.2.1 ▸ findClass_of_methodNamed B.named
  have hlocks := B.notSynchronized
  have hin : meth.name = M.2.1.name := (name_of_methodNamed B.named B.method).1
  have hl1 : 1 ≤ h.length := by have := (List.getElem?_eq_some_iff.mp h0).1; omega
  rw [lg_entry_eq]
  refine walk p e _ s m _ below meth c s.heap [] 0 0 _ _ h.length (ex_hs h) ⟨hx, hbt, hml, hown, fun w hw => hts w (List.mem_cons_of_mem _ hw), fun q => hin.trans q, q4, q5, q6, q7, hb, by omega⟩ ⟨q2, va_S.rf, q3, hl1, by omega, by omega⟩ (ex_en_ok (ex_g b b0) he) ⟨Nat.le_refl _, Nat.le_refl _⟩ ⟨by show h'.length ≤ mc + h.length; omega, by show ex_hs h' ≤ ms + ex_hs h; omega⟩ ?_
  intro H locs cells slots ls pc hH
  have hk : cells ≤ mc := by have := hH.2.2.2.2.1; omega
  have hs : slots ≤ ms := by have := hH.2.2.2.2.2; omega
  refine ⟨fun x hxr hd hret => ?_, fun hrn hd hret => ?_⟩
  · refine W.widen hk hs ?_
    refine W.zret (ty := if M.2.2.2.2.1 = some .int then .int else .boolean) hx hbt ?_ ?_ (fun t ht hW => ⟨by rw [hxr]; rfl, by rw [ht]; exact hH.1, hH.2.1.F ht⟩) hH.2.1.2.2 hd
    · rw [hr]
      rcases hret with h1 | ⟨h1, h2⟩ <;> rw [h1] <;> rfl
    · rcases hret with h1 | ⟨h1, h2 | h2⟩ <;> rw [h1] <;> first | rfl | (rw [h2]; rfl)
  · refine W.widen hk hs ?_
    exact W.vret hx hbt (by rw [hr]; exact hret) (fun t ht hW => ⟨by rw [hrn]; rfl, by rw [ht]; exact hH.1, hH.2.1.F ht⟩) hH.2.1.2.2 hd
set_option maxHeartbeats 1000000 in
theorem ex_main {P : Nat → ex_M} {nw : List Cond} (hP : ex_ok P nw) (l : Launch) (D : va_G) (ca : Nat → ClassId) (b b0 Lx : Nat) (xs : Nat → Int32) (hb0 : b ≤ b0) : ∀ (n d k pc : Nat) (L : ex_L) (st : List Value) (h : ex_H) (r : Option Value) (h' : ex_H), ex_run P n d k pc L st h = some (r, h') → h[0]? = some (.inl (0, Lx, xs)) →
    ∀ (p : Program) (e : Env) (R : Room) (s : State) (m : MethodId) (args : Array Value) (below : List Frame) (meth : Method) (c : Code) (H : Heap) (locs : List Loc) (cells slots : Nat) (Q : State → Prop) (ls : Array Slot) (n0 z0 : Nat), ex_Cx p s m args meth c D ca b b0 Lx xs nw (P k) → ex_Hs D ca b b0 n0 z0 s H locs cells slots h → ex_Ls (ex_g b b0) (P k).2.2.2.1 (P k).2.2.2.2.2.2.1 ls L → d ≤ R.frames ∧ 40 * d ≤ R.locals → h'.length ≤ R.cells + n0 ∧ ex_hs h' ≤ R.slots + z0 → ex_End p l e R s m args below meth c Q D ca b b0 n0 z0 (P k) r h' → W p l e R s m args below meth c H locs cells slots Q (F0 m pc ls (st.map (ex_v (ex_g b b0)))) := by
  obtain ⟨hE, hG, hnw⟩ := hP
  intro n
  induction n with
  | zero => intro d k pc L st h r h' hs; cases hs
  | succ n ih =>
    intro d k pc L st h r h' hs h0 p e R s m args below meth c H locs cells slots Q ls n0 z0 C hH hL hr hc hend
    have hl1 : 1 ≤ h.length := by have := (List.getElem?_eq_some_iff.mp h0).1; omega
    unfold ex_run at hs
    split at hs
    · cases hs
    · rename_i pc' L' st' h1 hst
      have hge := ex_step_ge hst
      have hge2 := ex_run_ge _ _ _ _ _ _ _ _ _ hs
      have h01 : h1[0]? = some (.inl (0, Lx, xs)) := (hge.2.2 hl1).trans h0
      have ih1 := ih d k pc' L' st' h1 r h' hs h01 p e R s m args below meth c
      unfold ex_step at hst
      split at hst
      · cases hst
      · rename_i E hcode
        have hok := hE k pc E hcode
        split at hst
        · rename_i st1 hop
          cases hst
          exact ex_op_ok C.1 C.2.1 C.2.2.2.1 hop (hok.1.plain (ex_op_sw hop)) (fun w hw => C.2.2.2.2.1 w (hok.2.2.1 w hw)) (ih1 H locs cells slots Q ls n0 z0 C hH hL hr hc hend)
        · split at hst
          · rename_i L1 st1 hlo
            cases hst
            exact ex_lo_ok C.1 C.2.1 hlo (hok.1.plain (ex_lo_sw hlo)) hL (fun ls' hL' => ih1 H locs cells slots Q ls' n0 z0 C hH hL' hr hc hend)
          · split at hst
            · rename_i pc1 st1 hgo
              cases hst
              exact ex_go_ok C.1 C.2.1 hgo hok.1 hok.2.1 (ih1 H locs cells slots Q ls n0 z0 C hH hL hr hc hend)
            · split at hst
              · rename_i st1 h2 hhp
                cases hst
                exact ex_hp_ok hG C hL.1 h0 hH hok hhp hr ⟨Nat.le_trans hge2.1 hc.1, Nat.le_trans hge2.2.1 hc.2⟩ (fun H' locs' cells' slots' hH' => ih1 H' locs' cells' slots' Q ls n0 z0 C hH' hL hr hc hend)
              · split at hst
                · cases hst
                · split at hst <;> cases hst
    · rename_i v hst
      cases hs
      unfold ex_step at hst
      split at hst
      · cases hst
      · rename_i E hcode
        have hok := hE k pc E hcode
        split at hst
        · cases hst
        · split at hst
          · cases hst
          · split at hst
            · cases hst
            · split at hst
              · cases hst
              · split at hst
                · rename_i w hrt
                  cases hst
                  obtain ⟨I, a, b', v0⟩ := E
                  unfold ex_rt at hrt
                  dsimp only at hrt hok
                  obtain ⟨o1, -⟩ := hok
                  dsimp only at o1
                  split at hrt
                  · split at hrt
                    · rename_i hret
                      cases hrt
                      exact (hend H locs cells slots ls pc hH).1 _ rfl (o1.plain rfl) hret
                    · cases hrt
                  · split at hrt
                    · rename_i hret
                      cases hrt
                      exact (hend H locs cells slots ls pc hH).2 rfl (o1.plain rfl) hret
                    · cases hrt
                  · cases hrt
                · split at hst <;> cases hst
    · rename_i k' as pc' st1 hst
      split at hs
      · cases hs
      · rename_i d'
        split at hs
        · cases hs
        · rename_i v h1 hrun
          have hge1 := ex_run_ge _ _ _ _ _ _ _ _ _ hrun
          have hge2 := ex_run_ge _ _ _ _ _ _ _ _ _ hs
          have h01 : h1[0]? = some (.inl (0, Lx, xs)) := (hge1.2.2 hl1).trans h0
          have ihc := ih d' k' 0 (ex_en (P k') as) [] h v h1 hrun h0
          have ih1 := ih (d' + 1) k pc' L (v.toList ++ st1) h1 r h' hs h01 p e R s m args below meth c
          unfold ex_step at hst
          split at hst
          · cases hst
          · rename_i E hcode
            have hok := hE k pc E hcode
            split at hst
            · cases hst
            · split at hst
              · cases hst
              · split at hst
                · cases hst
                · split at hst
                  · cases hst
                  · split at hst
                    · cases hst
                    · split at hst
                      · rename_i k2 as2 st2 hcl
                        cases hst
                        have hm1 : h.length + (h1.length - h.length) = h1.length := by have := hge1.1; omega
                        have hm2 : ex_hs h + (ex_hs h1 - ex_hs h) = ex_hs h1 := by have := hge1.2.1; omega
                        have hf : cells + (h1.length - h.length) ≤ R.cells ∧ slots + (ex_hs h1 - ex_hs h) ≤ R.slots := by
                          have := hge1.1; have := hge1.2.1; have := hge2.1; have := hge2.2.1; have := hH.2.2.2.2.1; have := hH.2.2.2.2.2; have := hc.1; have := hc.2
                          omega
                        have kk : ∀ (H1 : Heap) (locs1 : List Loc), va_P D vwCl (ex_w (ex_g b b0) ca h1) H1 → va_S (fun q => b0 < q) s.heap H1 locs1 → W p l e R s m args below meth c H1 locs1 (cells + (h1.length - h.length)) (slots + (ex_hs h1 - ex_hs h)) Q (F0 m (pc + 3) ls ((v.map (ex_v (ex_g b b0))).toList ++ st1.map (ex_v (ex_g b b0)))) := by
                          intro H1 locs1 hP1 hS1
                          have hH1 : ex_Hs D ca b b0 n0 z0 s H1 locs1 (cells + (h1.length - h.length)) (slots + (ex_hs h1 - ex_hs h)) h1 := by
                            have := hH.2.2.2.2.1; have := hH.2.2.2.2.2
                            exact ⟨hP1, hS1, hH.2.2.1, hH.2.2.2.1, by omega, by omega⟩
                          have h9 := ih1 H1 locs1 _ _ Q ls n0 z0 C hH1 hL hr hc hend
                          have e9 : (v.toList ++ st1).map (ex_v (ex_g b b0)) = (v.map (ex_v (ex_g b b0))).toList ++ st1.map (ex_v (ex_g b b0)) := by
                            rw [List.map_append]
                            cases v <;> rfl
                          rw [e9] at h9
                          exact h9
                        obtain ⟨I, a, b', v0⟩ := E
                        obtain ⟨od, -, -, ow⟩ := hok
                        unfold ex_cl at hcl
                        dsimp only at hcl od ow
                        split at hcl
                        · cases hcl
                        · rename_i hg
                          have hg1 : (P a).2.2.2.2.2.1 ≤ st.length := Nat.not_lt.mp fun q => hg (Or.inl q)
                          have hg2 : ((st.drop (P a).2.2.2.2.2.1).map fun v => v.category).sum ≤ 8 := Decidable.byContradiction fun q => hg (Or.inr (Or.inl q))
                          have hg3 : ex_eok (P a) (st.take (P a).2.2.2.2.2.1).reverse = true := Bool.of_not_eq_false fun q => hg (Or.inr (Or.inr q))
                          have hst2 : st = (st.take (P a).2.2.2.2.2.1).reverse.reverse ++ st.drop (P a).2.2.2.2.2.1 := by rw [List.reverse_reverse, List.take_append_drop]
                          have hlen : ((st.take (P a).2.2.2.2.2.1).reverse).length = (P a).2.2.2.2.2.1 := by rw [List.length_reverse, List.length_take]; omega
                          split at hcl
                          · rename_i i
                            split at hcl
                            · rename_i hk
                              cases hcl
                              obtain ⟨hk1, hk2⟩ := hk
                              unfold ex_rcv at hk2
                              split at hk2
                              · rename_i c0 as0 has
                                split at hk2
                                · rename_i ci fs hcell
                                  obtain ⟨hk3, hk4⟩ := Bool.and_eq_true_iff.mp hk2
                                  have hk3 := of_decide_eq_true hk3
                                  have hk4 : (ci : Int) = v0 := of_decide_eq_true hk4
                                  obtain ⟨w1, w2, ⟨cj, w3, w4, w5⟩, w6⟩ := ow
                                  have hcj : ci = cj := by omega
                                  subst hcj
                                  have hmet := ex_met (nw := nw) (P := P) (l := l) (D := D) (ca := ca) (xs := xs) w1 hg3 h0 hb0 hm1 hm2 (fun p e R s m args below meth c H locs cells slots Q ls n0 z0 => ihc p e R s m args below meth c H locs cells slots Q ls n0 z0)
                                  rw [has] at hmet hst2 hlen
                                  exact ex_callV (r := v) w1 w2 C hnw hH hL.1 hmet w6 hk3 hcell ⟨w4, w5⟩ hlen (by rw [List.reverse_cons, List.append_assoc] at hst2; exact hst2) hg2 (od.plain rfl) hr hf kk
                                · cases hk2
                              · cases hk2
                            · cases hcl
                          · rename_i i
                            split at hcl
                            · rename_i hk
                              cases hcl
                              dsimp only at ow
                              rw [if_neg (by omega)] at ow
                              have hmet := ex_met (nw := nw) (P := P) (l := l) (D := D) (ca := ca) (xs := xs) ow.1 hg3 h0 hb0 hm1 hm2 (fun p e R s m args below meth c H locs cells slots Q ls n0 z0 => ihc p e R s m args below meth c H locs cells slots Q ls n0 z0)
                              exact ex_callS (r := v) ow.1 C hnw hH hL.1 hmet ow.2 hlen hst2 hg2 (od.plain rfl) hr hf kk
                            · cases hcl
                          · rename_i i
                            split at hcl
                            · rename_i c0 as0 has
                              split at hcl
                              · rename_i hk
                                cases hcl
                                dsimp only at ow
                                rw [if_neg (by omega)] at ow
                                have hmet := ex_met (nw := nw) (P := P) (l := l) (D := D) (ca := ca) (xs := xs) ow.1 hg3 h0 hb0 hm1 hm2 (fun p e R s m args below meth c H locs cells slots Q ls n0 z0 => ihc p e R s m args below meth c H locs cells slots Q ls n0 z0)
                                rw [has] at hmet hst2 hlen
                                exact ex_callI (r := v) ow.1 ow.2.1 C hnw hH hL.1 hmet ow.2.2 hlen (by rw [List.reverse_cons, List.append_assoc] at hst2; exact hst2) hg2 (od.plain rfl) hr hf kk
                              · cases hcl
                            · cases hcl
                          · cases hcl
                      · cases hst
end
section
/-! the check of a method's code as data, by computing -/
def ex_tq (i : Nat) (w : Cond) : Bool := decide (tables_1[i]? = some w) && goodWord w
theorem ex_tq_ok {i : Nat} {w : Cond} (h : ex_tq i w = true) : w ∈ ex_tbl := by
  obtain ⟨h1, h2⟩ := Bool.and_eq_true_iff.mp h
  exact ex_tb i (of_decide_eq_true h1) h2
def ex_okdB (cc : ByteArray) (pc : Nat) (I : Instr) : Bool := match decode cc pc with
  | .ok (J, n) => decide (J = I) && (decide (n = ex_len I) || ex_sw I)
  | .error _ => false
theorem ex_okdB_ok {cc : ByteArray} {pc : Nat} {I : Instr} (h : ex_okdB cc pc I = true) : ex_okd cc pc I := by
  unfold ex_okdB at h
  split at h
  · rename_i J n hd
    obtain ⟨h1, h2⟩ := Bool.and_eq_true_iff.mp h
    have h1 := of_decide_eq_true h1
    subst h1
    refine ⟨n, hd, ?_⟩
    rcases (Bool.or_eq_true_iff.mp h2) with h3 | h3
    · exact Or.inl (of_decide_eq_true h3)
    · exact Or.inr h3
  · cases h
def ex_okgB (pc : Nat) (E : ex_I) : Bool := match E.1 with
  | .goto off => decide ((pc : Int) + off = (E.2.1 : Int))
  | .ifCond _ off => decide ((pc : Int) + off = (E.2.1 : Int))
  | .if_icmp _ off => decide ((pc : Int) + off = (E.2.1 : Int))
  | .lookupswitch _ ps => (ps.toList.zip (ps.toList.drop 1)).all (fun (a, next) => a.1 < next.1)
  | _ => true
theorem ex_okgB_ok {pc : Nat} {E : ex_I} (h : ex_okgB pc E = true) : ex_okg pc E := by
  obtain ⟨I, a, b, v⟩ := E
  unfold ex_okgB at h
  unfold ex_okg
  dsimp only at h ⊢
  split at h <;> first | exact of_decide_eq_true h | exact h | skip
  split <;> first | exact True.intro | (exfalso; simp_all; done)
def ex_oktB (own name : String) (ci k : Nat) (t : Int) : Bool := (decide (t = 0) && decide (ex_tyF ci k = .int) && decide ((ex_TC ci k).2.2.2 = false)) || (decide (t = 1) && decide (ex_tyF ci k = .boolean) && decide ((ex_TC ci k).2.2.2 = false)) || (decide (t = 2) && (match ex_tyF ci k with | .object _ => true | .array _ => true | _ => false) && decide ((ex_TC ci k).2.2.2 = true) && decide (name = "<init>") && decide ((ex_TC ci k).1 = own))
theorem ex_oktB_ok {own name : String} {ci k : Nat} {t : Int} (h : ex_oktB own name ci k t = true) : ex_okt own name ci k t := by
  unfold ex_oktB at h
  simp only [Bool.or_eq_true, Bool.and_eq_true, decide_eq_true_eq] at h
  rcases h with (⟨⟨h1, h2⟩, h3⟩ | ⟨⟨h1, h2⟩, h3⟩) | ⟨⟨⟨⟨h1, h2⟩, h3⟩, h4⟩, h5⟩
  · exact Or.inl ⟨h1, h2, h3⟩
  · exact Or.inr (Or.inl ⟨h1, h2, h3⟩)
  · refine Or.inr (Or.inr ⟨h1, ?_, h3, h4, h5⟩)
    split at h2
    · rename_i n hn; exact Or.inl ⟨n, hn⟩
    · rename_i n hn; exact Or.inr ⟨n, hn⟩
    · cases h2
def ex_fB (M : ex_M) (hint i : Nat) (E : ex_I) : Bool := decide (E.2.1 < 8) && decide (E.2.2.1 < ex_nF E.2.1) && ex_tq hint (.fieldLink M.1 i (ex_TC E.2.1 E.2.2.1).1 (ex_TC E.2.1 E.2.2.1).2.1 (ex_TC E.2.1 E.2.2.1).2.2.1)
theorem ex_fB_ok {M : ex_M} {hint i : Nat} {E : ex_I} (h : ex_fB M hint i E = true) : ex_okf M.1 i E.2.1 E.2.2.1 := by
  unfold ex_fB at h
  obtain ⟨h1, h3⟩ := Bool.and_eq_true_iff.mp h
  obtain ⟨h1, h2⟩ := Bool.and_eq_true_iff.mp h1
  exact ⟨of_decide_eq_true h1, of_decide_eq_true h2, ex_tq_ok h3⟩
def ex_lB (P : Nat → ex_M) (nw : List Cond) (M : ex_M) (hint i : Nat) (E : ex_I) : Bool := match E.2.2.1 with
  | 0 => ex_tq hint (.methodLink M.1 i (P E.2.1).2.1)
  | 1 => decide (nw[hint]? = some (.methodLinkNest M.1 i (P E.2.1).2.1 RX6))
  | _ => false
theorem ex_lB_ok {P : Nat → ex_M} {nw : List Cond} {M : ex_M} {hint i : Nat} {E : ex_I} (h : ex_lB P nw M hint i E = true) : E.2.2.1 ≤ 1 ∧ ex_lk nw M.1 i (P E.2.1).2.1 := by
  unfold ex_lB at h
  split at h
  · rename_i q; exact ⟨by omega, Or.inl (ex_tq_ok h)⟩
  · rename_i q; exact ⟨by omega, Or.inr ⟨_, List.mem_of_getElem? (of_decide_eq_true h)⟩⟩
  · cases h
def ex_wB (P : Nat → ex_M) (nw : List Cond) (xV xS xI : List Nat) (M : ex_M) (hint : Nat) (E : ex_I) : Bool := match E.1 with
  | .ldc i => ex_tq hint (.constant M.1 i (Int32.ofInt E.2.2.2))
  | .ldc_w i => ex_tq hint (.constant M.1 i (Int32.ofInt E.2.2.2))
  | .ldc2_w i => ex_tq hint (.constantLong M.1 i (Int64.ofInt E.2.2.2))
  | .getfield i => ex_fB M hint i E
  | .putfield i => ex_fB M hint i E && ex_oktB M.1 M.2.1.name E.2.1 E.2.2.1 E.2.2.2
  | .new i => decide (E.2.1 < 8) && ex_tq hint (.classLink M.1 i (ex_RC E.2.1))
  | .anewarray i => ex_tq hint (.classLink M.1 i RX5)
  | .invokestatic i => if E.2.2.1 = 3 then ex_tq hint (.methodLink M.1 i arraycopyName) else decide (E.2.1 ∈ xS) && ex_lB P nw M hint i E
  | .invokevirtual i => decide (E.2.1 ∈ xV) && decide (E.2.2.2 = (E.2.2.2.toNat : Int) ∧ E.2.2.2.toNat < 8) && decide (ex_RC E.2.2.2.toNat = (P E.2.1).2.1.cls) && ex_lB P nw M hint i E
  | .invokespecial i => if E.2.2.1 = 2 then ex_tq hint (.methodLink M.1 i objectInit) else decide (E.2.1 ∈ xI) && ex_lB P nw M hint i E
  | _ => true
def ex_okB (P : Nat → ex_M) (nw : List Cond) (xV xS xI : List Nat) (M : ex_M) (q : Nat × ex_I × Nat) : Bool := ex_okdB M.2.2.1 q.1 q.2.1.1 && ex_okgB q.1 q.2.1 && ex_wB P nw xV xS xI M q.2.2 q.2.1
/-- what the tables say of the methods that are called, and of the classes -/
def ex_okP (P : Nat → ex_M) (xV xS xI : List Nat) : Prop := (∀ a ∈ xV, ex_okM (P a) true ∧ Cond.selects (P a).2.1.cls (P a).2.1 (P a).2.1 ∈ ex_tbl) ∧ (∀ a ∈ xS, ex_okM (P a) false) ∧ (∀ a ∈ xI, ex_okM (P a) true ∧ ((P a).2.1.name = "<init>" ∧ (P a).2.2.2.2.1 = none)) ∧ (∀ ci, ci < 8 → Cond.instantiable (ex_RC ci) (ex_nF ci) ∈ ex_tbl ∧ Cond.initialized (ex_RC ci) ∈ ex_tbl)
theorem ex_okB_ok {P : Nat → ex_M} {nw : List Cond} {xV xS xI : List Nat} {M : ex_M} {q : Nat × ex_I × Nat} (hP : ex_okP P xV xS xI) (h : ex_okB P nw xV xS xI M q = true) : ex_okE P nw M q.1 q.2.1 := by
  obtain ⟨hV, hS, hI, hC⟩ := hP
  unfold ex_okB at h
  obtain ⟨h1, h3⟩ := Bool.and_eq_true_iff.mp h
  obtain ⟨h1, h2⟩ := Bool.and_eq_true_iff.mp h1
  obtain ⟨pc, ⟨I, a, b, v⟩, hint⟩ := q
  refine ⟨ex_okdB_ok h1, ex_okgB_ok h2, fun w hw => ?_, ?_⟩
  · unfold ex_wB at h3
    dsimp only at h3 hw
    unfold ex_kw at hw
    split at hw <;> first | (cases hw; done) | (cases hw; exact ex_tq_ok h3)
  · unfold ex_wB at h3
    cases I <;> dsimp only at h3 ⊢ <;> first | exact True.intro | skip
    · exact ex_tq_ok h3
    · exact ex_fB_ok h3
    · split at h3
      · rename_i h4
        rw [if_pos h4]
        exact ex_tq_ok h3
      · rename_i h4
        rw [if_neg h4]
        obtain ⟨h5, h6⟩ := Bool.and_eq_true_iff.mp h3
        exact ⟨(hI _ (of_decide_eq_true h5)).1, (hI _ (of_decide_eq_true h5)).2, (ex_lB_ok h6).2⟩
    · split at h3
      · rename_i h4
        rw [if_pos h4]
        exact ex_tq_ok h3
      · rename_i h4
        rw [if_neg h4]
        obtain ⟨h5, h6⟩ := Bool.and_eq_true_iff.mp h3
        exact ⟨hS _ (of_decide_eq_true h5), (ex_lB_ok h6).2⟩
    · obtain ⟨h4, h7⟩ := Bool.and_eq_true_iff.mp h3
      obtain ⟨h4, h6⟩ := Bool.and_eq_true_iff.mp h4
      obtain ⟨h4, h5⟩ := Bool.and_eq_true_iff.mp h4
      have h5 := of_decide_eq_true h5
      exact ⟨(hV _ (of_decide_eq_true h4)).1, (hV _ (of_decide_eq_true h4)).2, ⟨_, h5.1, h5.2, of_decide_eq_true h6⟩, (ex_lB_ok h7).2⟩
    · obtain ⟨h4, h5⟩ := Bool.and_eq_true_iff.mp h3
      exact ⟨ex_tq_ok h5, hC _ (of_decide_eq_true h4)⟩
    · obtain ⟨h4, h5⟩ := Bool.and_eq_true_iff.mp h3
      exact ⟨ex_fB_ok h4, ex_oktB_ok h5⟩
/-- a method's code: looked up by the place -/
def ex_cd (l : List (Nat × ex_I × Nat)) (pc : Nat) : Option ex_I := match l with
  | [] => none
  | q :: l => if q.1 = pc then some q.2.1 else ex_cd l pc
theorem ex_cd_ok {l : List (Nat × ex_I × Nat)} {f : Nat × ex_I × Nat → Bool} (h : l.all f = true) {pc : Nat} {E : ex_I} (hc : ex_cd l pc = some E) : ∃ q, f q = true ∧ q.1 = pc ∧ q.2.1 = E := by
  induction l with
  | nil => cases hc
  | cons q l ih =>
    rw [List.all_cons, Bool.and_eq_true] at h
    unfold ex_cd at hc
    split at hc
    · rename_i hq
      cases hc
      exact ⟨q, h.1, hq, rfl⟩
    · exact ih h.2 hc
end
section
def q_X5_init : List (Nat × ex_I × Nat) := [(0, (.aload_n 0, 0, 0, 0), 0), (1, (.invokespecial 3, 0, 2, 0), 199), (4, (.aload_n 0, 0, 0, 0), 0), (5, (.iconst (-1), 0, 0, 0), 0), (6, (.putfield 9, 5, 1, 0), 202), (9, (.aload_n 0, 0, 0, 0), 0), (10, (.bipush 24, 0, 0, 0), 0), (12, (.newarray .int, 0, 0, 0), 0), (14, (.putfield 15, 5, 2, 2), 204), (17, (.return_, 0, 0, 0), 0)]
def m_X5_init : ex_M := (RX5, yX5_init, cX5_init, 1, none, 1, [], ex_cd q_X5_init)
def q_X5_isMissing : List (Nat × ex_I × Nat) := [(0, (.aload_n 0, 0, 0, 0), 0), (1, (.getfield 9, 5, 1, 0), 202), (4, (.ifCond .ge 7, 11, 0, 0), 0), (7, (.iconst 1, 0, 0, 0), 0), (8, (.goto 4, 12, 0, 0), 0), (11, (.iconst 0, 0, 0, 0), 0), (12, (.ireturn, 0, 0, 0), 0)]
def m_X5_isMissing : ex_M := (RX5, yX5_isMissing, cX5_isMissing, 1, some .boolean, 1, [], ex_cd q_X5_isMissing)
def q_X5_holds : List (Nat × ex_I × Nat) := [(0, (.iload_n 1, 0, 0, 0), 0), (1, (.ifCond .lt 29, 30, 0, 0), 0), (4, (.iload_n 2, 0, 0, 0), 0), (5, (.ifCond .lt 25, 30, 0, 0), 0), (8, (.iload_n 2, 0, 0, 0), 0), (9, (.aload_n 0, 0, 0, 0), 0), (10, (.getfield 9, 5, 1, 0), 202), (13, (.if_icmp .gt 17, 30, 0, 0), 0), (16, (.iload_n 1, 0, 0, 0), 0), (17, (.aload_n 0, 0, 0, 0), 0), (18, (.getfield 9, 5, 1, 0), 202), (21, (.iload_n 2, 0, 0, 0), 0), (22, (.isub, 0, 0, 0), 0), (23, (.if_icmp .gt 7, 30, 0, 0), 0), (26, (.iconst 1, 0, 0, 0), 0), (27, (.goto 4, 31, 0, 0), 0), (30, (.iconst 0, 0, 0, 0), 0), (31, (.ireturn, 0, 0, 0), 0)]
def m_X5_holds : ex_M := (RX5, yX5_holds, cX5_holds, 3, some .boolean, 3, [], ex_cd q_X5_holds)
def q_X5_refusal : List (Nat × ex_I × Nat) := [(0, (.aload_n 0, 0, 0, 0), 0), (1, (.invokevirtual 19, 1, 0, 5), 637), (4, (.ifCond .eq 6, 10, 0, 0), 0), (7, (.bipush (-11), 0, 0, 0), 0), (9, (.ireturn, 0, 0, 0), 0), (10, (.aload_n 0, 0, 0, 0), 0), (11, (.getfield 23, 5, 0, 0), 200), (14, (.iload_n 1, 0, 0, 0), 0), (15, (.if_icmp .eq 6, 21, 0, 0), 0), (18, (.bipush (-12), 0, 0, 0), 0), (20, (.ireturn, 0, 0, 0), 0), (21, (.aload_n 0, 0, 0, 0), 0), (22, (.iload_n 2, 0, 0, 0), 0), (23, (.iload_n 3, 0, 0, 0), 0), (24, (.invokevirtual 26, 2, 0, 5), 641), (27, (.ifCond .eq 7, 34, 0, 0), 0), (30, (.iconst 0, 0, 0, 0), 0), (31, (.goto 5, 36, 0, 0), 0), (34, (.bipush (-13), 0, 0, 0), 0), (36, (.ireturn, 0, 0, 0), 0)]
def m_X5_refusal : ex_M := (RX5, yX5_refusal, cX5_refusal, 4, some .int, 4, [], ex_cd q_X5_refusal)
def q_X5_renew : List (Nat × ex_I × Nat) := [(0, (.aload_n 0, 0, 0, 0), 0), (1, (.getfield 15, 5, 2, 0), 204), (4, (.iconst 0, 0, 0, 0), 0), (5, (.invokestatic 30, 13, 0, 0), 666), (8, (.aload_n 0, 0, 0, 0), 0), (9, (.iload_n 1, 0, 0, 0), 0), (10, (.putfield 23, 5, 0, 0), 200), (13, (.aload_n 0, 0, 0, 0), 0), (14, (.iload_n 2, 0, 0, 0), 0), (15, (.putfield 9, 5, 1, 0), 202), (18, (.return_, 0, 0, 0), 0)]
def m_X5_renew : ex_M := (RX5, yX5_renew, cX5_renew, 3, none, 3, [], ex_cd q_X5_renew)
def q_X5_discard : List (Nat × ex_I × Nat) := [(0, (.aload_n 0, 0, 0, 0), 0), (1, (.iconst (-1), 0, 0, 0), 0), (2, (.putfield 9, 5, 1, 0), 202), (5, (.return_, 0, 0, 0), 0)]
def m_X5_discard : ex_M := (RX5, yX5_discard, cX5_discard, 1, none, 1, [], ex_cd q_X5_discard)
def q_X5_put : List (Nat × ex_I × Nat) := [(0, (.aload_n 0, 0, 0, 0), 0), (1, (.getfield 23, 5, 0, 0), 200), (4, (.ifCond .ne 14, 18, 0, 0), 0), (7, (.aload_n 0, 0, 0, 0), 0), (8, (.getfield 15, 5, 2, 0), 204), (11, (.iload_n 1, 0, 0, 0), 0), (12, (.iload_n 2, 0, 0, 0), 0), (13, (.i2b, 0, 0, 0), 0), (14, (.iastore, 0, 0, 0), 0), (15, (.goto 29, 44, 0, 0), 0), (18, (.aload_n 0, 0, 0, 0), 0), (19, (.getfield 23, 5, 0, 0), 200), (22, (.iconst 1, 0, 0, 0), 0), (23, (.if_icmp .ne 14, 37, 0, 0), 0), (26, (.aload_n 0, 0, 0, 0), 0), (27, (.getfield 15, 5, 2, 0), 204), (30, (.iload_n 1, 0, 0, 0), 0), (31, (.iload_n 2, 0, 0, 0), 0), (32, (.i2s, 0, 0, 0), 0), (33, (.iastore, 0, 0, 0), 0), (34, (.goto 10, 44, 0, 0), 0), (37, (.aload_n 0, 0, 0, 0), 0), (38, (.getfield 15, 5, 2, 0), 204), (41, (.iload_n 1, 0, 0, 0), 0), (42, (.iload_n 2, 0, 0, 0), 0), (43, (.iastore, 0, 0, 0), 0), (44, (.return_, 0, 0, 0), 0)]
def m_X5_put : ex_M := (RX5, yX5_put, cX5_put, 3, none, 3, [], ex_cd q_X5_put)
def q_X0_init : List (Nat × ex_I × Nat) := [(0, (.aload_n 0, 0, 0, 0), 0), (1, (.invokespecial 3, 0, 2, 0), 31), (4, (.aload_n 0, 0, 0, 0), 0), (5, (.bipush 24, 0, 0, 0), 0), (7, (.newarray .int, 0, 0, 0), 0), (9, (.putfield 9, 0, 2, 2), 38), (12, (.aload_n 0, 0, 0, 0), 0), (13, (.bipush 24, 0, 0, 0), 0), (15, (.newarray .boolean, 0, 0, 0), 0), (17, (.putfield 15, 0, 3, 2), 40), (20, (.return_, 0, 0, 0), 0)]
def m_X0_init : ex_M := (RX0, yX0_init, cX0_init, 1, none, 1, [], ex_cd q_X0_init)
def q_X0_clear : List (Nat × ex_I × Nat) := [(0, (.aload_n 0, 0, 0, 0), 0), (1, (.iconst 0, 0, 0, 0), 0), (2, (.putfield 19, 0, 0, 0), 32), (5, (.aload_n 0, 0, 0, 0), 0), (6, (.iconst 0, 0, 0, 0), 0), (7, (.putfield 23, 0, 1, 0), 36), (10, (.return_, 0, 0, 0), 0)]
def m_X0_clear : ex_M := (RX0, yX0_clear, cX0_clear, 1, none, 1, [], ex_cd q_X0_clear)
def q_X0_isFull : List (Nat × ex_I × Nat) := [(0, (.aload_n 0, 0, 0, 0), 0), (1, (.getfield 19, 0, 0, 0), 32), (4, (.bipush 24, 0, 0, 0), 0), (6, (.if_icmp .lt 7, 13, 0, 0), 0), (9, (.iconst 1, 0, 0, 0), 0), (10, (.goto 4, 14, 0, 0), 0), (13, (.iconst 0, 0, 0, 0), 0), (14, (.ireturn, 0, 0, 0), 0)]
def m_X0_isFull : ex_M := (RX0, yX0_isFull, cX0_isFull, 1, some .boolean, 1, [], ex_cd q_X0_isFull)
def q_X0_add : List (Nat × ex_I × Nat) := [(0, (.aload_n 0, 0, 0, 0), 0), (1, (.invokevirtual 26, 9, 0, 0), 379), (4, (.ifCond .eq 4, 8, 0, 0), 0), (7, (.return_, 0, 0, 0), 0), (8, (.aload_n 0, 0, 0, 0), 0), (9, (.getfield 9, 0, 2, 0), 38), (12, (.aload_n 0, 0, 0, 0), 0), (13, (.getfield 19, 0, 0, 0), 32), (16, (.iload_n 1, 0, 0, 0), 0), (17, (.iastore, 0, 0, 0), 0), (18, (.aload_n 0, 0, 0, 0), 0), (19, (.getfield 15, 0, 3, 0), 40), (22, (.aload_n 0, 0, 0, 0), 0), (23, (.getfield 19, 0, 0, 0), 32), (26, (.iload_n 2, 0, 0, 0), 0), (27, (.bastore, 0, 0, 0), 0), (28, (.aload_n 0, 0, 0, 0), 0), (29, (.dup, 0, 0, 0), 0), (30, (.getfield 19, 0, 0, 0), 32), (33, (.iconst 1, 0, 0, 0), 0), (34, (.iadd, 0, 0, 0), 0), (35, (.putfield 19, 0, 0, 0), 32), (38, (.iload_n 2, 0, 0, 0), 0), (39, (.ifCond .eq 13, 52, 0, 0), 0), (42, (.aload_n 0, 0, 0, 0), 0), (43, (.dup, 0, 0, 0), 0), (44, (.getfield 23, 0, 1, 0), 36), (47, (.iconst 1, 0, 0, 0), 0), (48, (.iadd, 0, 0, 0), 0), (49, (.putfield 23, 0, 1, 0), 36), (52, (.return_, 0, 0, 0), 0)]
def m_X0_add : ex_M := (RX0, yX0_add, cX0_add, 3, none, 3, [], ex_cd q_X0_add)
def q_X0_takeOver : List (Nat × ex_I × Nat) := [(0, (.aload_n 0, 0, 0, 0), 0), (1, (.invokevirtual 30, 8, 0, 0), 387), (4, (.iconst 0, 0, 0, 0), 0), (5, (.istore_n 2, 0, 0, 0), 0), (6, (.iload_n 2, 0, 0, 0), 0), (7, (.aload_n 1, 0, 0, 0), 0), (8, (.getfield 19, 0, 0, 0), 32), (11, (.if_icmp .ge 25, 36, 0, 0), 0), (14, (.aload_n 0, 0, 0, 0), 0), (15, (.aload_n 1, 0, 0, 0), 0), (16, (.getfield 9, 0, 2, 0), 38), (19, (.iload_n 2, 0, 0, 0), 0), (20, (.iaload, 0, 0, 0), 0), (21, (.aload_n 1, 0, 0, 0), 0), (22, (.getfield 15, 0, 3, 0), 40), (25, (.iload_n 2, 0, 0, 0), 0), (26, (.baload, 0, 0, 0), 0), (27, (.invokevirtual 33, 10, 0, 0), 388), (30, (.iinc 2 1, 0, 0, 0), 0), (33, (.goto (-27), 6, 0, 0), 0), (36, (.return_, 0, 0, 0), 0)]
def m_X0_takeOver : ex_M := (RX0, yX0_takeOver, cX0_takeOver, 3, none, 2, [], ex_cd q_X0_takeOver)
def q_J6_bitCount_0f7a4 : List (Nat × ex_I × Nat) := [(0, (.iload_n 0, 0, 0, 0), 0), (1, (.iload_n 0, 0, 0, 0), 0), (2, (.iconst 1, 0, 0, 0), 0), (3, (.iushr, 0, 0, 0), 0), (4, (.ldc_w 265, 0, 0, 1431655765), 400), (7, (.iand, 0, 0, 0), 0), (8, (.isub, 0, 0, 0), 0), (9, (.istore_n 0, 0, 0, 0), 0), (10, (.iload_n 0, 0, 0, 0), 0), (11, (.ldc_w 266, 0, 0, 858993459), 401), (14, (.iand, 0, 0, 0), 0), (15, (.iload_n 0, 0, 0, 0), 0), (16, (.iconst 2, 0, 0, 0), 0), (17, (.iushr, 0, 0, 0), 0), (18, (.ldc_w 266, 0, 0, 858993459), 401), (21, (.iand, 0, 0, 0), 0), (22, (.iadd, 0, 0, 0), 0), (23, (.istore_n 0, 0, 0, 0), 0), (24, (.iload_n 0, 0, 0, 0), 0), (25, (.iload_n 0, 0, 0, 0), 0), (26, (.iconst 4, 0, 0, 0), 0), (27, (.iushr, 0, 0, 0), 0), (28, (.iadd, 0, 0, 0), 0), (29, (.ldc_w 267, 0, 0, 252645135), 402), (32, (.iand, 0, 0, 0), 0), (33, (.istore_n 0, 0, 0, 0), 0), (34, (.iload_n 0, 0, 0, 0), 0), (35, (.iload_n 0, 0, 0, 0), 0), (36, (.bipush 8, 0, 0, 0), 0), (38, (.iushr, 0, 0, 0), 0), (39, (.iadd, 0, 0, 0), 0), (40, (.istore_n 0, 0, 0, 0), 0), (41, (.iload_n 0, 0, 0, 0), 0), (42, (.iload_n 0, 0, 0, 0), 0), (43, (.bipush 16, 0, 0, 0), 0), (45, (.iushr, 0, 0, 0), 0), (46, (.iadd, 0, 0, 0), 0), (47, (.istore_n 0, 0, 0, 0), 0), (48, (.iload_n 0, 0, 0, 0), 0), (49, (.bipush 63, 0, 0, 0), 0), (51, (.iand, 0, 0, 0), 0), (52, (.ireturn, 0, 0, 0), 0)]
def m_J6_bitCount_0f7a4 : ex_M := (RJ6, yJ6_bitCount_0f7a4, cJ6_bitCount_0f7a4, 1, some .int, 1, [], ex_cd q_J6_bitCount_0f7a4)
def q_J7_fill_53178 : List (Nat × ex_I × Nat) := [(0, (.iconst 0, 0, 0, 0), 0), (1, (.istore_n 2, 0, 0, 0), 0), (2, (.aload_n 0, 0, 0, 0), 0), (3, (.arraylength, 0, 0, 0), 0), (4, (.istore_n 3, 0, 0, 0), 0), (5, (.iload_n 2, 0, 0, 0), 0), (6, (.iload_n 3, 0, 0, 0), 0), (7, (.if_icmp .ge 13, 20, 0, 0), 0), (10, (.aload_n 0, 0, 0, 0), 0), (11, (.iload_n 2, 0, 0, 0), 0), (12, (.iload_n 1, 0, 0, 0), 0), (13, (.iastore, 0, 0, 0), 0), (14, (.iinc 2 1, 0, 0, 0), 0), (17, (.goto (-12), 5, 0, 0), 0), (20, (.return_, 0, 0, 0), 0)]
def m_J7_fill_53178 : ex_M := (RJ7, yJ7_fill_53178, cJ7_fill_53178, 4, none, 2, [], ex_cd q_J7_fill_53178)
def q_J7_fill_031fb : List (Nat × ex_I × Nat) := [(0, (.iconst 0, 0, 0, 0), 0), (1, (.istore_n 2, 0, 0, 0), 0), (2, (.aload_n 0, 0, 0, 0), 0), (3, (.arraylength, 0, 0, 0), 0), (4, (.istore_n 3, 0, 0, 0), 0), (5, (.iload_n 2, 0, 0, 0), 0), (6, (.iload_n 3, 0, 0, 0), 0), (7, (.if_icmp .ge 13, 20, 0, 0), 0), (10, (.aload_n 0, 0, 0, 0), 0), (11, (.iload_n 2, 0, 0, 0), 0), (12, (.iload_n 1, 0, 0, 0), 0), (13, (.bastore, 0, 0, 0), 0), (14, (.iinc 2 1, 0, 0, 0), 0), (17, (.goto (-12), 5, 0, 0), 0), (20, (.return_, 0, 0, 0), 0)]
def m_J7_fill_031fb : ex_M := (RJ7, yJ7_fill_031fb, cJ7_fill_031fb, 4, none, 2, [], ex_cd q_J7_fill_031fb)
def q_X6_init : List (Nat × ex_I × Nat) := [(0, (.aload_n 0, 0, 0, 0), 0), (1, (.invokespecial 1, 0, 2, 0), 17), (4, (.aload_n 0, 0, 0, 0), 0), (5, (.new 7, 3, 0, 0), 20), (8, (.dup, 0, 0, 0), 0), (9, (.invokespecial 9, 56, 1, 0), 0), (12, (.putfield 10, 6, 0, 2), 213), (15, (.aload_n 0, 0, 0, 0), 0), (16, (.new 7, 3, 0, 0), 20), (19, (.dup, 0, 0, 0), 0), (20, (.invokespecial 9, 56, 1, 0), 0), (23, (.putfield 16, 6, 1, 2), 214), (26, (.aload_n 0, 0, 0, 0), 0), (27, (.new 19, 1, 0, 0), 109), (30, (.dup, 0, 0, 0), 0), (31, (.invokespecial 21, 77, 1, 0), 2), (34, (.putfield 22, 6, 2, 2), 215), (37, (.aload_n 0, 0, 0, 0), 0), (38, (.new 26, 4, 0, 0), 140), (41, (.dup, 0, 0, 0), 0), (42, (.invokespecial 28, 92, 1, 0), 4), (45, (.putfield 29, 6, 3, 2), 216), (48, (.aload_n 0, 0, 0, 0), 0), (49, (.new 33, 2, 0, 0), 174), (52, (.dup, 0, 0, 0), 0), (53, (.invokespecial 35, 105, 1, 0), 5), (56, (.putfield 36, 6, 4, 2), 217), (59, (.aload_n 0, 0, 0, 0), 0), (60, (.iconst 4, 0, 0, 0), 0), (61, (.anewarray 40, 0, 0, 0), 193), (64, (.dup, 0, 0, 0), 0), (65, (.iconst 0, 0, 0, 0), 0), (66, (.new 40, 5, 0, 0), 193), (69, (.dup, 0, 0, 0), 0), (70, (.invokespecial 42, 0, 1, 0), 6), (73, (.aastore, 0, 0, 0), 0), (74, (.dup, 0, 0, 0), 0), (75, (.iconst 1, 0, 0, 0), 0), (76, (.new 40, 5, 0, 0), 193), (79, (.dup, 0, 0, 0), 0), (80, (.invokespecial 42, 0, 1, 0), 6), (83, (.aastore, 0, 0, 0), 0), (84, (.dup, 0, 0, 0), 0), (85, (.iconst 2, 0, 0, 0), 0), (86, (.new 40, 5, 0, 0), 193), (89, (.dup, 0, 0, 0), 0), (90, (.invokespecial 42, 0, 1, 0), 6), (93, (.aastore, 0, 0, 0), 0), (94, (.dup, 0, 0, 0), 0), (95, (.iconst 3, 0, 0, 0), 0), (96, (.new 40, 5, 0, 0), 193), (99, (.dup, 0, 0, 0), 0), (100, (.invokespecial 42, 0, 1, 0), 6), (103, (.aastore, 0, 0, 0), 0), (104, (.putfield 43, 6, 5, 2), 218), (107, (.return_, 0, 0, 0), 0)]
def m_X6_init : ex_M := (RX6, yX6_init, cX6_init, 1, none, 1, [], ex_cd q_X6_init)
def q_X6_child : List (Nat × ex_I × Nat) := [(0, (.iload_n 1, 0, 0, 0), 0), (1, (.ifCond .lt 8, 9, 0, 0), 0), (4, (.iload_n 1, 0, 0, 0), 0), (5, (.iconst 4, 0, 0, 0), 0), (6, (.if_icmp .lt 5, 11, 0, 0), 0), (9, (.iconst (-1), 0, 0, 0), 0), (10, (.ireturn, 0, 0, 0), 0), (11, (.aload_n 0, 0, 0, 0), 0), (12, (.getfield 10, 6, 0, 0), 213), (15, (.iload_n 1, 0, 0, 0), 0), (16, (.invokevirtual 47, 62, 0, 3), 239), (19, (.ireturn, 0, 0, 0), 0)]
def m_X6_child : ex_M := (RX6, yX6_child, cX6_child, 2, some .int, 2, [], ex_cd q_X6_child)
def q_X6_know : List (Nat × ex_I × Nat) := [(0, (.aload_n 0, 0, 0, 0), 0), (1, (.getfield 10, 6, 0, 0), 213), (4, (.iload_n 1, 0, 0, 0), 0), (5, (.invokevirtual 51, 57, 0, 3), 258), (8, (.ifCond .eq 21, 29, 0, 0), 0), (11, (.iload_n 2, 0, 0, 0), 0), (12, (.invokestatic 55, 45, 0, 0), 262), (15, (.ifCond .eq 14, 29, 0, 0), 0), (18, (.iload_n 3, 0, 0, 0), 0), (19, (.iconst (-1), 0, 0, 0), 0), (20, (.if_icmp .lt 9, 29, 0, 0), 0), (23, (.iload_n 3, 0, 0, 0), 0), (24, (.bipush 97, 0, 0, 0), 0), (26, (.if_icmp .lt 5, 31, 0, 0), 0), (29, (.iconst (-1), 0, 0, 0), 0), (30, (.ireturn, 0, 0, 0), 0), (31, (.aload_n 0, 0, 0, 0), 0), (32, (.getfield 10, 6, 0, 0), 213), (35, (.iload_n 1, 0, 0, 0), 0), (36, (.iload_n 2, 0, 0, 0), 0), (37, (.invokevirtual 58, 59, 0, 3), 265), (40, (.istore 4, 0, 0, 0), 0), (42, (.aload_n 0, 0, 0, 0), 0), (43, (.getfield 10, 6, 0, 0), 213), (46, (.iload_n 1, 0, 0, 0), 0), (47, (.iload_n 2, 0, 0, 0), 0), (48, (.iload_n 3, 0, 0, 0), 0), (49, (.ifCond .ge 8, 57, 0, 0), 0), (52, (.bipush 97, 0, 0, 0), 0), (54, (.goto 4, 58, 0, 0), 0), (57, (.iload_n 3, 0, 0, 0), 0), (58, (.invokevirtual 62, 60, 0, 3), 269), (61, (.iload 4, 0, 0, 0), 0), (63, (.ireturn, 0, 0, 0), 0)]
def m_X6_know : ex_M := (RX6, yX6_know, cX6_know, 5, some .int, 4, [], ex_cd q_X6_know)
def q_X6_need : List (Nat × ex_I × Nat) := [(0, (.iload_n 1, 0, 0, 0), 0), (1, (.invokestatic 55, 45, 0, 0), 262), (4, (.ifCond .eq 18, 22, 0, 0), 0), (7, (.iload_n 2, 0, 0, 0), 0), (8, (.invokestatic 66, 46, 0, 0), 274), (11, (.ifCond .eq 11, 22, 0, 0), 0), (14, (.iload_n 2, 0, 0, 0), 0), (15, (.iload_n 1, 0, 0, 0), 0), (16, (.invokestatic 69, 49, 0, 0), 277), (19, (.ifCond .eq 5, 24, 0, 0), 0), (22, (.iconst (-1), 0, 0, 0), 0), (23, (.ireturn, 0, 0, 0), 0), (24, (.aload_n 0, 0, 0, 0), 0), (25, (.getfield 10, 6, 0, 0), 213), (28, (.getfield 73, 3, 7, 0), 75), (31, (.iload_n 1, 0, 0, 0), 0), (32, (.iaload, 0, 0, 0), 0), (33, (.istore_n 3, 0, 0, 0), 0), (34, (.aload_n 0, 0, 0, 0), 0), (35, (.getfield 10, 6, 0, 0), 213), (38, (.getfield 73, 3, 7, 0), 75), (41, (.iload_n 1, 0, 0, 0), 0), (42, (.iload_n 2, 0, 0, 0), 0), (43, (.iastore, 0, 0, 0), 0), (44, (.iload_n 3, 0, 0, 0), 0), (45, (.ireturn, 0, 0, 0), 0)]
def m_X6_need : ex_M := (RX6, yX6_need, cX6_need, 4, some .int, 3, [], ex_cd q_X6_need)
def q_X6_hears : List (Nat × ex_I × Nat) := [(0, (.aload_n 0, 0, 0, 0), 0), (1, (.getfield 10, 6, 0, 0), 213), (4, (.iload_n 1, 0, 0, 0), 0), (5, (.invokevirtual 51, 57, 0, 3), 258), (8, (.ifCond .eq 19, 27, 0, 0), 0), (11, (.aload_n 0, 0, 0, 0), 0), (12, (.getfield 10, 6, 0, 0), 213), (15, (.iload_n 2, 0, 0, 0), 0), (16, (.invokevirtual 51, 57, 0, 3), 258), (19, (.ifCond .eq 8, 27, 0, 0), 0), (22, (.iload_n 1, 0, 0, 0), 0), (23, (.iload_n 2, 0, 0, 0), 0), (24, (.if_icmp .ne 5, 29, 0, 0), 0), (27, (.iconst (-1), 0, 0, 0), 0), (28, (.ireturn, 0, 0, 0), 0), (29, (.aload_n 0, 0, 0, 0), 0), (30, (.getfield 10, 6, 0, 0), 213), (33, (.getfield 77, 3, 6, 0), 72), (36, (.iload_n 1, 0, 0, 0), 0), (37, (.iaload, 0, 0, 0), 0), (38, (.istore 4, 0, 0, 0), 0), (40, (.aload_n 0, 0, 0, 0), 0), (41, (.getfield 10, 6, 0, 0), 213), (44, (.getfield 77, 3, 6, 0), 72), (47, (.iload_n 1, 0, 0, 0), 0), (48, (.iload_n 3, 0, 0, 0), 0), (49, (.ifCond .eq 12, 61, 0, 0), 0), (52, (.iload 4, 0, 0, 0), 0), (54, (.iconst 1, 0, 0, 0), 0), (55, (.iload_n 2, 0, 0, 0), 0), (56, (.ishl, 0, 0, 0), 0), (57, (.ior, 0, 0, 0), 0), (58, (.goto 11, 69, 0, 0), 0), (61, (.iload 4, 0, 0, 0), 0), (63, (.iconst 1, 0, 0, 0), 0), (64, (.iload_n 2, 0, 0, 0), 0), (65, (.ishl, 0, 0, 0), 0), (66, (.iconst (-1), 0, 0, 0), 0), (67, (.ixor, 0, 0, 0), 0), (68, (.iand, 0, 0, 0), 0), (69, (.iastore, 0, 0, 0), 0), (70, (.iload 4, 0, 0, 0), 0), (72, (.iload_n 2, 0, 0, 0), 0), (73, (.invokestatic 69, 49, 0, 0), 277), (76, (.ifCond .eq 7, 83, 0, 0), 0), (79, (.iconst 1, 0, 0, 0), 0), (80, (.goto 4, 84, 0, 0), 0), (83, (.iconst 0, 0, 0, 0), 0), (84, (.ireturn, 0, 0, 0), 0)]
def m_X6_hears : ex_M := (RX6, yX6_hears, cX6_hears, 5, some .int, 4, [], ex_cd q_X6_hears)
def q_X6_told : List (Nat × ex_I × Nat) := [(0, (.aload_n 0, 0, 0, 0), 0), (1, (.getfield 10, 6, 0, 0), 213), (4, (.iload_n 1, 0, 0, 0), 0), (5, (.invokevirtual 51, 57, 0, 3), 258), (8, (.ifCond .eq 13, 21, 0, 0), 0), (11, (.iload_n 2, 0, 0, 0), 0), (12, (.ifCond .lt 9, 21, 0, 0), 0), (15, (.iload_n 2, 0, 0, 0), 0), (16, (.bipush 7, 0, 0, 0), 0), (18, (.if_icmp .lt 5, 23, 0, 0), 0), (21, (.iconst (-1), 0, 0, 0), 0), (22, (.ireturn, 0, 0, 0), 0), (23, (.iload_n 2, 0, 0, 0), 0), (24, (.tableswitch 58 0 2 #[28, 38, 48], 0, 0, 0), 0), (52, (.aload_n 0, 0, 0, 0), 0), (53, (.getfield 10, 6, 0, 0), 213), (56, (.getfield 80, 3, 3, 0), 63), (59, (.iload_n 1, 0, 0, 0), 0), (60, (.iaload, 0, 0, 0), 0), (61, (.ireturn, 0, 0, 0), 0), (62, (.aload_n 0, 0, 0, 0), 0), (63, (.getfield 10, 6, 0, 0), 213), (66, (.getfield 83, 3, 5, 0), 68), (69, (.iload_n 1, 0, 0, 0), 0), (70, (.iaload, 0, 0, 0), 0), (71, (.ireturn, 0, 0, 0), 0), (72, (.aload_n 0, 0, 0, 0), 0), (73, (.getfield 10, 6, 0, 0), 213), (76, (.getfield 77, 3, 6, 0), 72), (79, (.iload_n 1, 0, 0, 0), 0), (80, (.iaload, 0, 0, 0), 0), (81, (.ireturn, 0, 0, 0), 0), (82, (.aload_n 0, 0, 0, 0), 0), (83, (.getfield 10, 6, 0, 0), 213), (86, (.iload_n 1, 0, 0, 0), 0), (87, (.iload_n 2, 0, 0, 0), 0), (88, (.iconst 3, 0, 0, 0), 0), (89, (.isub, 0, 0, 0), 0), (90, (.invokevirtual 58, 59, 0, 3), 265), (93, (.ireturn, 0, 0, 0), 0)]
def m_X6_told : ex_M := (RX6, yX6_told, cX6_told, 3, some .int, 3, [], ex_cd q_X6_told)
def q_X6_passes : List (Nat × ex_I × Nat) := [(0, (.aload_n 0, 0, 0, 0), 0), (1, (.getfield 10, 6, 0, 0), 213), (4, (.iload_n 1, 0, 0, 0), 0), (5, (.invokevirtual 51, 57, 0, 3), 258), (8, (.ifCond .eq 13, 21, 0, 0), 0), (11, (.iload_n 2, 0, 0, 0), 0), (12, (.ifCond .lt 9, 21, 0, 0), 0), (15, (.iload_n 2, 0, 0, 0), 0), (16, (.bipush 97, 0, 0, 0), 0), (18, (.if_icmp .lt 5, 23, 0, 0), 0), (21, (.iconst (-1), 0, 0, 0), 0), (22, (.ireturn, 0, 0, 0), 0), (23, (.aload_n 0, 0, 0, 0), 0), (24, (.getfield 10, 6, 0, 0), 213), (27, (.getfield 80, 3, 3, 0), 63), (30, (.iload_n 1, 0, 0, 0), 0), (31, (.iaload, 0, 0, 0), 0), (32, (.iload_n 2, 0, 0, 0), 0), (33, (.invokestatic 86, 50, 0, 0), 290), (36, (.ireturn, 0, 0, 0), 0)]
def m_X6_passes : ex_M := (RX6, yX6_passes, cX6_passes, 3, some .int, 3, [], ex_cd q_X6_passes)
def q_X6_type : List (Nat × ex_I × Nat) := [(0, (.iload_n 3, 0, 0, 0), 0), (1, (.iconst 1, 0, 0, 0), 0), (2, (.if_icmp .lt 9, 11, 0, 0), 0), (5, (.iload_n 3, 0, 0, 0), 0), (6, (.bipush 8, 0, 0, 0), 0), (8, (.if_icmp .le 5, 13, 0, 0), 0), (11, (.iconst (-1), 0, 0, 0), 0), (12, (.ireturn, 0, 0, 0), 0), (13, (.aload_n 0, 0, 0, 0), 0), (14, (.getfield 22, 6, 2, 0), 215), (17, (.lload_n 1, 0, 0, 0), 0), (18, (.iload_n 3, 0, 0, 0), 0), (19, (.invokevirtual 89, 78, 0, 1), 297), (22, (.ireturn, 0, 0, 0), 0)]
def m_X6_type : ex_M := (RX6, yX6_type, cX6_type, 4, some .int, 3, [1], ex_cd q_X6_type)
def q_X6_school : List (Nat × ex_I × Nat) := [(0, (.aload_n 0, 0, 0, 0), 0), (1, (.getfield 22, 6, 2, 0), 215), (4, (.invokevirtual 93, 87, 0, 1), 309), (7, (.istore_n 1, 0, 0, 0), 0), (8, (.aload_n 0, 0, 0, 0), 0), (9, (.getfield 22, 6, 2, 0), 215), (12, (.invokevirtual 97, 80, 0, 1), 346), (15, (.iload_n 1, 0, 0, 0), 0), (16, (.ifCond .ge 5, 21, 0, 0), 0), (19, (.iload_n 1, 0, 0, 0), 0), (20, (.ireturn, 0, 0, 0), 0), (21, (.aload_n 0, 0, 0, 0), 0), (22, (.getfield 10, 6, 0, 0), 213), (25, (.invokevirtual 100, 63, 0, 3), 350), (28, (.iconst 0, 0, 0, 0), 0), (29, (.istore_n 2, 0, 0, 0), 0), (30, (.iload_n 2, 0, 0, 0), 0), (31, (.iload_n 1, 0, 0, 0), 0), (32, (.if_icmp .ge 49, 81, 0, 0), 0), (35, (.iload_n 2, 0, 0, 0), 0), (36, (.bipush 6, 0, 0, 0), 0), (38, (.if_icmp .ge 43, 81, 0, 0), 0), (41, (.aload_n 0, 0, 0, 0), 0), (42, (.getfield 10, 6, 0, 0), 213), (45, (.aload_n 0, 0, 0, 0), 0), (46, (.getfield 22, 6, 2, 0), 215), (49, (.getfield 103, 1, 0, 0), 118), (52, (.iload_n 2, 0, 0, 0), 0), (53, (.iaload, 0, 0, 0), 0), (54, (.invokevirtual 47, 62, 0, 3), 239), (57, (.pop, 0, 0, 0), 0), (58, (.aload_n 0, 0, 0, 0), 0), (59, (.getfield 10, 6, 0, 0), 213), (62, (.iload_n 2, 0, 0, 0), 0), (63, (.aload_n 0, 0, 0, 0), 0), (64, (.getfield 22, 6, 2, 0), 215), (67, (.getfield 104, 1, 1, 0), 120), (70, (.iload_n 2, 0, 0, 0), 0), (71, (.iaload, 0, 0, 0), 0), (72, (.invokevirtual 107, 61, 0, 3), 358), (75, (.iinc 2 1, 0, 0, 0), 0), (78, (.goto (-48), 30, 0, 0), 0), (81, (.iload_n 1, 0, 0, 0), 0), (82, (.ireturn, 0, 0, 0), 0)]
def m_X6_school : ex_M := (RX6, yX6_school, cX6_school, 3, some .int, 1, [], ex_cd q_X6_school)
def q_X6_plan : List (Nat × ex_I × Nat) := [(0, (.aload_n 0, 0, 0, 0), 0), (1, (.getfield 22, 6, 2, 0), 215), (4, (.aload_n 0, 0, 0, 0), 0), (5, (.getfield 10, 6, 0, 0), 213), (8, (.getfield 111, 3, 0, 0), 56), (11, (.invokevirtual 115, 90, 0, 1), 363), (14, (.istore_n 1, 0, 0, 0), 0), (15, (.aload_n 0, 0, 0, 0), 0), (16, (.getfield 22, 6, 2, 0), 215), (19, (.invokevirtual 97, 80, 0, 1), 346), (22, (.iload_n 1, 0, 0, 0), 0), (23, (.ifCond .lt 20, 43, 0, 0), 0), (26, (.aload_n 0, 0, 0, 0), 0), (27, (.getfield 10, 6, 0, 0), 213), (30, (.getfield 118, 3, 8, 0), 77), (33, (.aload_n 0, 0, 0, 0), 0), (34, (.getfield 22, 6, 2, 0), 215), (37, (.getfield 122, 1, 2, 0), 122), (40, (.invokevirtual 125, 11, 0, 0), 383), (43, (.iload_n 1, 0, 0, 0), 0), (44, (.ireturn, 0, 0, 0), 0)]
def m_X6_plan : ex_M := (RX6, yX6_plan, cX6_plan, 2, some .int, 1, [], ex_cd q_X6_plan)
def q_X6_count : List (Nat × ex_I × Nat) := [(0, (.iload_n 1, 0, 0, 0), 0), (1, (.tableswitch 95 0 5 #[39, 47, 55, 66, 77, 87], 0, 0, 0), 0), (40, (.aload_n 0, 0, 0, 0), 0), (41, (.getfield 10, 6, 0, 0), 213), (44, (.getfield 111, 3, 0, 0), 56), (47, (.ireturn, 0, 0, 0), 0), (48, (.aload_n 0, 0, 0, 0), 0), (49, (.getfield 10, 6, 0, 0), 213), (52, (.getfield 131, 3, 1, 0), 58), (55, (.ireturn, 0, 0, 0), 0), (56, (.aload_n 0, 0, 0, 0), 0), (57, (.getfield 10, 6, 0, 0), 213), (60, (.getfield 118, 3, 8, 0), 77), (63, (.getfield 134, 0, 0, 0), 33), (66, (.ireturn, 0, 0, 0), 0), (67, (.aload_n 0, 0, 0, 0), 0), (68, (.getfield 10, 6, 0, 0), 213), (71, (.getfield 118, 3, 8, 0), 77), (74, (.getfield 137, 0, 1, 0), 37), (77, (.ireturn, 0, 0, 0), 0), (78, (.aload_n 0, 0, 0, 0), 0), (79, (.getfield 10, 6, 0, 0), 213), (82, (.bipush 15, 0, 0, 0), 0), (84, (.invokevirtual 140, 65, 0, 3), 393), (87, (.ireturn, 0, 0, 0), 0), (88, (.aload_n 0, 0, 0, 0), 0), (89, (.getfield 10, 6, 0, 0), 213), (92, (.invokevirtual 143, 66, 0, 3), 403), (95, (.ireturn, 0, 0, 0), 0), (96, (.iconst (-1), 0, 0, 0), 0), (97, (.ireturn, 0, 0, 0), 0)]
def m_X6_count : ex_M := (RX6, yX6_count, cX6_count, 2, some .int, 2, [], ex_cd q_X6_count)
def q_X6_may : List (Nat × ex_I × Nat) := [(0, (.aload_n 0, 0, 0, 0), 0), (1, (.getfield 10, 6, 0, 0), 213), (4, (.iload_n 1, 0, 0, 0), 0), (5, (.iload_n 2, 0, 0, 0), 0), (6, (.iload_n 3, 0, 0, 0), 0), (7, (.invokevirtual 146, 58, 0, 3), 411), (10, (.ifCond .ne 5, 15, 0, 0), 0), (13, (.iconst (-1), 0, 0, 0), 0), (14, (.ireturn, 0, 0, 0), 0), (15, (.aload_n 0, 0, 0, 0), 0), (16, (.getfield 10, 6, 0, 0), 213), (19, (.aload_n 0, 0, 0, 0), 0), (20, (.getfield 10, 6, 0, 0), 213), (23, (.getfield 83, 3, 5, 0), 68), (26, (.iload_n 1, 0, 0, 0), 0), (27, (.iload_n 2, 0, 0, 0), 0), (28, (.iload_n 3, 0, 0, 0), 0), (29, (.invokestatic 150, 51, 0, 0), 417), (32, (.invokevirtual 154, 67, 0, 3), 418), (35, (.ifCond .eq 7, 42, 0, 0), 0), (38, (.iconst 1, 0, 0, 0), 0), (39, (.goto 4, 43, 0, 0), 0), (42, (.iconst 0, 0, 0, 0), 0), (43, (.ireturn, 0, 0, 0), 0)]
def m_X6_may : ex_M := (RX6, yX6_may, cX6_may, 4, some .int, 4, [], ex_cd q_X6_may)
def q_X6_teach : List (Nat × ex_I × Nat) := [(0, (.aload_n 0, 0, 0, 0), 0), (1, (.getfield 10, 6, 0, 0), 213), (4, (.iload_n 1, 0, 0, 0), 0), (5, (.iload_n 2, 0, 0, 0), 0), (6, (.iload_n 3, 0, 0, 0), 0), (7, (.invokevirtual 146, 58, 0, 3), 411), (10, (.ifCond .ne 5, 15, 0, 0), 0), (13, (.iconst (-1), 0, 0, 0), 0), (14, (.ireturn, 0, 0, 0), 0), (15, (.iload_n 1, 0, 0, 0), 0), (16, (.iload_n 2, 0, 0, 0), 0), (17, (.iload_n 3, 0, 0, 0), 0), (18, (.invokestatic 150, 51, 0, 0), 417), (21, (.istore 4, 0, 0, 0), 0), (23, (.aload_n 0, 0, 0, 0), 0), (24, (.getfield 10, 6, 0, 0), 213), (27, (.aload_n 0, 0, 0, 0), 0), (28, (.getfield 10, 6, 0, 0), 213), (31, (.getfield 83, 3, 5, 0), 68), (34, (.iload 4, 0, 0, 0), 0), (36, (.invokevirtual 154, 67, 0, 3), 418), (39, (.ifCond .ne 6, 45, 0, 0), 0), (42, (.bipush (-2), 0, 0, 0), 0), (44, (.ireturn, 0, 0, 0), 0), (45, (.aload_n 0, 0, 0, 0), 0), (46, (.getfield 10, 6, 0, 0), 213), (49, (.iload 4, 0, 0, 0), 0), (51, (.invokevirtual 158, 68, 0, 3), 435), (54, (.aload_n 0, 0, 0, 0), 0), (55, (.getfield 10, 6, 0, 0), 213), (58, (.iload_n 2, 0, 0, 0), 0), (59, (.iload_n 3, 0, 0, 0), 0), (60, (.invokevirtual 58, 59, 0, 3), 265), (63, (.ireturn, 0, 0, 0), 0)]
def m_X6_teach : ex_M := (RX6, yX6_teach, cX6_teach, 5, some .int, 4, [], ex_cd q_X6_teach)
def q_X6_run : List (Nat × ex_I × Nat) := [(0, (.aload_n 0, 0, 0, 0), 0), (1, (.getfield 10, 6, 0, 0), 213), (4, (.invokevirtual 162, 69, 0, 3), 446), (7, (.ireturn, 0, 0, 0), 0)]
def m_X6_run : ex_M := (RX6, yX6_run, cX6_run, 1, some .int, 1, [], ex_cd q_X6_run)
def q_X6_hours : List (Nat × ex_I × Nat) := [(0, (.iload_n 1, 0, 0, 0), 0), (1, (.invokestatic 66, 46, 0, 0), 274), (4, (.ifCond .ne 5, 9, 0, 0), 0), (7, (.iconst (-1), 0, 0, 0), 0), (8, (.ireturn, 0, 0, 0), 0), (9, (.aload_n 0, 0, 0, 0), 0), (10, (.getfield 10, 6, 0, 0), 213), (13, (.getfield 111, 3, 0, 0), 56), (16, (.iload_n 1, 0, 0, 0), 0), (17, (.invokestatic 165, 12, 0, 0), 461), (20, (.imul, 0, 0, 0), 0), (21, (.bipush 12, 0, 0, 0), 0), (23, (.if_icmp .le 6, 29, 0, 0), 0), (26, (.bipush (-3), 0, 0, 0), 0), (28, (.ireturn, 0, 0, 0), 0), (29, (.aload_n 0, 0, 0, 0), 0), (30, (.getfield 29, 6, 3, 0), 216), (33, (.aload_n 0, 0, 0, 0), 0), (34, (.getfield 10, 6, 0, 0), 213), (37, (.iload_n 1, 0, 0, 0), 0), (38, (.invokevirtual 170, 93, 0, 4), 462), (41, (.ireturn, 0, 0, 0), 0)]
def m_X6_hours : ex_M := (RX6, yX6_hours, cX6_hours, 2, some .int, 2, [], ex_cd q_X6_hours)
def q_X6_bound : List (Nat × ex_I × Nat) := [(0, (.iload_n 1, 0, 0, 0), 0), (1, (.invokestatic 66, 46, 0, 0), 274), (4, (.ifCond .ne 5, 9, 0, 0), 0), (7, (.iconst (-1), 0, 0, 0), 0), (8, (.ireturn, 0, 0, 0), 0), (9, (.aload_n 0, 0, 0, 0), 0), (10, (.getfield 10, 6, 0, 0), 213), (13, (.getfield 111, 3, 0, 0), 56), (16, (.iload_n 1, 0, 0, 0), 0), (17, (.invokestatic 165, 12, 0, 0), 461), (20, (.imul, 0, 0, 0), 0), (21, (.aload_n 0, 0, 0, 0), 0), (22, (.getfield 10, 6, 0, 0), 213), (25, (.iload_n 1, 0, 0, 0), 0), (26, (.invokevirtual 140, 65, 0, 3), 393), (29, (.isub, 0, 0, 0), 0), (30, (.istore_n 2, 0, 0, 0), 0), (31, (.iload_n 2, 0, 0, 0), 0), (32, (.ifCond .ne 5, 37, 0, 0), 0), (35, (.iconst 0, 0, 0, 0), 0), (36, (.ireturn, 0, 0, 0), 0), (37, (.aload_n 0, 0, 0, 0), 0), (38, (.getfield 10, 6, 0, 0), 213), (41, (.getfield 111, 3, 0, 0), 56), (44, (.iconst 2, 0, 0, 0), 0), (45, (.idiv, 0, 0, 0), 0), (46, (.istore_n 3, 0, 0, 0), 0), (47, (.iload_n 3, 0, 0, 0), 0), (48, (.ifCond .ne 6, 54, 0, 0), 0), (51, (.bipush (-4), 0, 0, 0), 0), (53, (.ireturn, 0, 0, 0), 0), (54, (.iload_n 2, 0, 0, 0), 0), (55, (.iload_n 3, 0, 0, 0), 0), (56, (.iadd, 0, 0, 0), 0), (57, (.iconst 1, 0, 0, 0), 0), (58, (.isub, 0, 0, 0), 0), (59, (.iload_n 3, 0, 0, 0), 0), (60, (.idiv, 0, 0, 0), 0), (61, (.ireturn, 0, 0, 0), 0)]
def m_X6_bound : ex_M := (RX6, yX6_bound, cX6_bound, 4, some .int, 2, [], ex_cd q_X6_bound)
def q_X6_spared : List (Nat × ex_I × Nat) := [(0, (.aload_n 0, 0, 0, 0), 0), (1, (.getfield 10, 6, 0, 0), 213), (4, (.invokevirtual 174, 71, 0, 3), 527), (7, (.ireturn, 0, 0, 0), 0)]
def m_X6_spared : ex_M := (RX6, yX6_spared, cX6_spared, 1, some .int, 1, [], ex_cd q_X6_spared)
def q_X6_order : List (Nat × ex_I × Nat) := [(0, (.iload_n 1, 0, 0, 0), 0), (1, (.invokestatic 66, 46, 0, 0), 274), (4, (.ifCond .eq 12, 16, 0, 0), 0), (7, (.iload_n 2, 0, 0, 0), 0), (8, (.ifCond .lt 8, 16, 0, 0), 0), (11, (.iload_n 2, 0, 0, 0), 0), (12, (.iconst 4, 0, 0, 0), 0), (13, (.if_icmp .lt 5, 18, 0, 0), 0), (16, (.iconst (-1), 0, 0, 0), 0), (17, (.ireturn, 0, 0, 0), 0), (18, (.iload_n 1, 0, 0, 0), 0), (19, (.istore_n 3, 0, 0, 0), 0), (20, (.bipush (-4), 0, 0, 0), 0), (22, (.istore 4, 0, 0, 0), 0), (24, (.iconst 0, 0, 0, 0), 0), (25, (.istore 5, 0, 0, 0), 0), (27, (.iload 5, 0, 0, 0), 0), (29, (.iconst 4, 0, 0, 0), 0), (30, (.if_icmp .ge 52, 82, 0, 0), 0), (33, (.iload_n 3, 0, 0, 0), 0), (34, (.ifCond .eq 48, 82, 0, 0), 0), (37, (.aload_n 0, 0, 0, 0), 0), (38, (.getfield 10, 6, 0, 0), 213), (41, (.iload_n 3, 0, 0, 0), 0), (42, (.invokevirtual 177, 73, 0, 3), 544), (45, (.istore 6, 0, 0, 0), 0), (47, (.iload 6, 0, 0, 0), 0), (49, (.bipush (-4), 0, 0, 0), 0), (51, (.if_icmp .ne 6, 57, 0, 0), 0), (54, (.bipush (-4), 0, 0, 0), 0), (56, (.ireturn, 0, 0, 0), 0), (57, (.iload 5, 0, 0, 0), 0), (59, (.iload_n 2, 0, 0, 0), 0), (60, (.if_icmp .ne 7, 67, 0, 0), 0), (63, (.iload 6, 0, 0, 0), 0), (65, (.istore 4, 0, 0, 0), 0), (67, (.iload_n 3, 0, 0, 0), 0), (68, (.iconst 1, 0, 0, 0), 0), (69, (.iload 6, 0, 0, 0), 0), (71, (.ishl, 0, 0, 0), 0), (72, (.iconst (-1), 0, 0, 0), 0), (73, (.ixor, 0, 0, 0), 0), (74, (.iand, 0, 0, 0), 0), (75, (.istore_n 3, 0, 0, 0), 0), (76, (.iinc 5 1, 0, 0, 0), 0), (79, (.goto (-52), 27, 0, 0), 0), (82, (.iload 4, 0, 0, 0), 0), (84, (.ireturn, 0, 0, 0), 0)]
def m_X6_order : ex_M := (RX6, yX6_order, cX6_order, 7, some .int, 3, [], ex_cd q_X6_order)
def q_X6_mouths : List (Nat × ex_I × Nat) := [(0, (.iload_n 1, 0, 0, 0), 0), (1, (.invokestatic 55, 45, 0, 0), 262), (4, (.ifCond .eq 12, 16, 0, 0), 0), (7, (.iload_n 2, 0, 0, 0), 0), (8, (.ifCond .lt 8, 16, 0, 0), 0), (11, (.iload_n 2, 0, 0, 0), 0), (12, (.iconst 1, 0, 0, 0), 0), (13, (.if_icmp .le 5, 18, 0, 0), 0), (16, (.iconst (-1), 0, 0, 0), 0), (17, (.ireturn, 0, 0, 0), 0), (18, (.aload_n 0, 0, 0, 0), 0), (19, (.getfield 36, 6, 4, 0), 217), (22, (.aload_n 0, 0, 0, 0), 0), (23, (.getfield 10, 6, 0, 0), 213), (26, (.iload_n 1, 0, 0, 0), 0), (27, (.invokevirtual 180, 106, 0, 2), 552), (30, (.iload_n 2, 0, 0, 0), 0), (31, (.ifCond .ne 13, 44, 0, 0), 0), (34, (.aload_n 0, 0, 0, 0), 0), (35, (.getfield 36, 6, 4, 0), 217), (38, (.invokevirtual 184, 107, 0, 2), 560), (41, (.goto 10, 51, 0, 0), 0), (44, (.aload_n 0, 0, 0, 0), 0), (45, (.getfield 36, 6, 4, 0), 217), (48, (.invokevirtual 187, 109, 0, 2), 569), (51, (.ireturn, 0, 0, 0), 0)]
def m_X6_mouths : ex_M := (RX6, yX6_mouths, cX6_mouths, 3, some .int, 3, [], ex_cd q_X6_mouths)
def q_X6_from : List (Nat × ex_I × Nat) := [(0, (.iload_n 1, 0, 0, 0), 0), (1, (.invokestatic 55, 45, 0, 0), 262), (4, (.ifCond .eq 30, 34, 0, 0), 0), (7, (.aload_n 0, 0, 0, 0), 0), (8, (.getfield 10, 6, 0, 0), 213), (11, (.iload_n 2, 0, 0, 0), 0), (12, (.invokevirtual 51, 57, 0, 3), 258), (15, (.ifCond .eq 19, 34, 0, 0), 0), (18, (.aload_n 0, 0, 0, 0), 0), (19, (.getfield 10, 6, 0, 0), 213), (22, (.getfield 83, 3, 5, 0), 68), (25, (.iload_n 2, 0, 0, 0), 0), (26, (.iaload, 0, 0, 0), 0), (27, (.iload_n 1, 0, 0, 0), 0), (28, (.invokestatic 69, 49, 0, 0), 277), (31, (.ifCond .ne 5, 36, 0, 0), 0), (34, (.iconst (-1), 0, 0, 0), 0), (35, (.ireturn, 0, 0, 0), 0), (36, (.aload_n 0, 0, 0, 0), 0), (37, (.getfield 36, 6, 4, 0), 217), (40, (.aload_n 0, 0, 0, 0), 0), (41, (.getfield 10, 6, 0, 0), 213), (44, (.iload_n 1, 0, 0, 0), 0), (45, (.invokevirtual 180, 106, 0, 2), 552), (48, (.aload_n 0, 0, 0, 0), 0), (49, (.getfield 36, 6, 4, 0), 217), (52, (.iload_n 2, 0, 0, 0), 0), (53, (.invokevirtual 190, 111, 0, 2), 581), (56, (.ireturn, 0, 0, 0), 0)]
def m_X6_from : ex_M := (RX6, yX6_from, cX6_from, 3, some .int, 3, [], ex_cd q_X6_from)
def q_X6_lessons : List (Nat × ex_I × Nat) := [(0, (.iload_n 1, 0, 0, 0), 0), (1, (.iconst 1, 0, 0, 0), 0), (2, (.if_icmp .lt 9, 11, 0, 0), 0), (5, (.iload_n 1, 0, 0, 0), 0), (6, (.bipush 60, 0, 0, 0), 0), (8, (.if_icmp .le 5, 13, 0, 0), 0), (11, (.iconst (-1), 0, 0, 0), 0), (12, (.ireturn, 0, 0, 0), 0), (13, (.iconst 0, 0, 0, 0), 0), (14, (.istore_n 2, 0, 0, 0), 0), (15, (.iload_n 2, 0, 0, 0), 0), (16, (.iload_n 1, 0, 0, 0), 0), (17, (.if_icmp .ge 19, 36, 0, 0), 0), (20, (.aload_n 0, 0, 0, 0), 0), (21, (.getfield 10, 6, 0, 0), 213), (24, (.invokevirtual 193, 74, 0, 3), 594), (27, (.ifCond .eq 9, 36, 0, 0), 0), (30, (.iinc 2 1, 0, 0, 0), 0), (33, (.goto (-18), 15, 0, 0), 0), (36, (.iload_n 2, 0, 0, 0), 0), (37, (.ireturn, 0, 0, 0), 0)]
def m_X6_lessons : ex_M := (RX6, yX6_lessons, cX6_lessons, 3, some .int, 2, [], ex_cd q_X6_lessons)
def q_X6_seed : List (Nat × ex_I × Nat) := [(0, (.iload_n 1, 0, 0, 0), 0), (1, (.ifCond .ge 5, 6, 0, 0), 0), (4, (.iconst (-1), 0, 0, 0), 0), (5, (.ireturn, 0, 0, 0), 0), (6, (.aload_n 0, 0, 0, 0), 0), (7, (.getfield 10, 6, 0, 0), 213), (10, (.getfield 197, 3, 2, 0), 60), (13, (.istore_n 2, 0, 0, 0), 0), (14, (.aload_n 0, 0, 0, 0), 0), (15, (.getfield 10, 6, 0, 0), 213), (18, (.iload_n 1, 0, 0, 0), 0), (19, (.putfield 197, 3, 2, 0), 60), (22, (.iload_n 2, 0, 0, 0), 0), (23, (.ireturn, 0, 0, 0), 0)]
def m_X6_seed : ex_M := (RX6, yX6_seed, cX6_seed, 3, some .int, 2, [], ex_cd q_X6_seed)
def q_X6_image : List (Nat × ex_I × Nat) := [(0, (.aload_n 0, 0, 0, 0), 0), (1, (.getfield 16, 6, 1, 0), 214), (4, (.aload_n 0, 0, 0, 0), 0), (5, (.getfield 10, 6, 0, 0), 213), (8, (.invokevirtual 200, 64, 0, 3), 614), (11, (.aload_n 0, 0, 0, 0), 0), (12, (.iconst 1, 0, 0, 0), 0), (13, (.putfield 203, 6, 6, 1), 219), (16, (.iconst 1, 0, 0, 0), 0), (17, (.ireturn, 0, 0, 0), 0)]
def m_X6_image : ex_M := (RX6, yX6_image, cX6_image, 1, some .int, 1, [], ex_cd q_X6_image)
def q_X6_restore : List (Nat × ex_I × Nat) := [(0, (.aload_n 0, 0, 0, 0), 0), (1, (.getfield 203, 6, 6, 0), 219), (4, (.ifCond .ne 6, 10, 0, 0), 0), (7, (.bipush (-4), 0, 0, 0), 0), (9, (.ireturn, 0, 0, 0), 0), (10, (.aload_n 0, 0, 0, 0), 0), (11, (.getfield 10, 6, 0, 0), 213), (14, (.aload_n 0, 0, 0, 0), 0), (15, (.getfield 16, 6, 1, 0), 214), (18, (.invokevirtual 200, 64, 0, 3), 614), (21, (.iconst 1, 0, 0, 0), 0), (22, (.ireturn, 0, 0, 0), 0)]
def m_X6_restore : ex_M := (RX6, yX6_restore, cX6_restore, 1, some .int, 1, [], ex_cd q_X6_restore)
def q_X6_hour : List (Nat × ex_I × Nat) := [(0, (.iload_n 1, 0, 0, 0), 0), (1, (.invokestatic 207, 47, 0, 0), 627), (4, (.ifCond .eq 22, 26, 0, 0), 0), (7, (.iload_n 2, 0, 0, 0), 0), (8, (.invokestatic 210, 48, 0, 0), 630), (11, (.ifCond .eq 15, 26, 0, 0), 0), (14, (.iload 4, 0, 0, 0), 0), (16, (.iconst 1, 0, 0, 0), 0), (17, (.if_icmp .lt 9, 26, 0, 0), 0), (20, (.iload 4, 0, 0, 0), 0), (22, (.iconst 3, 0, 0, 0), 0), (23, (.if_icmp .le 5, 28, 0, 0), 0), (26, (.iconst (-1), 0, 0, 0), 0), (27, (.ireturn, 0, 0, 0), 0), (28, (.aload_n 0, 0, 0, 0), 0), (29, (.getfield 43, 6, 5, 0), 218), (32, (.iload_n 1, 0, 0, 0), 0), (33, (.aaload, 0, 0, 0), 0), (34, (.astore 5, 0, 0, 0), 0), (36, (.aload 5, 0, 0, 0), 0), (38, (.iload_n 2, 0, 0, 0), 0), (39, (.iload_n 3, 0, 0, 0), 0), (40, (.iconst 3, 0, 0, 0), 0), (41, (.iload 4, 0, 0, 0), 0), (43, (.imul, 0, 0, 0), 0), (44, (.invokevirtual 213, 3, 0, 5), 633), (47, (.istore 6, 0, 0, 0), 0), (49, (.iload 6, 0, 0, 0), 0), (51, (.ifCond .eq 6, 57, 0, 0), 0), (54, (.iload 6, 0, 0, 0), 0), (56, (.ireturn, 0, 0, 0), 0), (57, (.aload_n 0, 0, 0, 0), 0), (58, (.getfield 10, 6, 0, 0), 213), (61, (.aload 5, 0, 0, 0), 0), (63, (.getfield 216, 5, 2, 0), 205), (66, (.iload_n 3, 0, 0, 0), 0), (67, (.iload 4, 0, 0, 0), 0), (69, (.invokevirtual 219, 76, 0, 3), 645), (72, (.ifCond .eq 8, 80, 0, 0), 0), (75, (.iload 4, 0, 0, 0), 0), (77, (.goto 5, 82, 0, 0), 0), (80, (.bipush (-2), 0, 0, 0), 0), (82, (.ireturn, 0, 0, 0), 0)]
def m_X6_hour : ex_M := (RX6, yX6_hour, cX6_hour, 7, some .int, 5, [], ex_cd q_X6_hour)
def q_X6_film : List (Nat × ex_I × Nat) := [(0, (.iload_n 1, 0, 0, 0), 0), (1, (.invokestatic 55, 45, 0, 0), 262), (4, (.ifCond .eq 17, 21, 0, 0), 0), (7, (.iload_n 2, 0, 0, 0), 0), (8, (.invokestatic 207, 47, 0, 0), 627), (11, (.ifCond .eq 10, 21, 0, 0), 0), (14, (.iload_n 3, 0, 0, 0), 0), (15, (.invokestatic 210, 48, 0, 0), 630), (18, (.ifCond .ne 5, 23, 0, 0), 0), (21, (.iconst (-1), 0, 0, 0), 0), (22, (.ireturn, 0, 0, 0), 0), (23, (.aload_n 0, 0, 0, 0), 0), (24, (.getfield 43, 6, 5, 0), 218), (27, (.iload_n 2, 0, 0, 0), 0), (28, (.aaload, 0, 0, 0), 0), (29, (.astore 5, 0, 0, 0), 0), (31, (.aload 5, 0, 0, 0), 0), (33, (.iload_n 3, 0, 0, 0), 0), (34, (.iload 4, 0, 0, 0), 0), (36, (.aload_n 0, 0, 0, 0), 0), (37, (.getfield 10, 6, 0, 0), 213), (40, (.getfield 111, 3, 0, 0), 56), (43, (.invokevirtual 213, 3, 0, 5), 633), (46, (.istore 6, 0, 0, 0), 0), (48, (.iload 6, 0, 0, 0), 0), (50, (.ifCond .eq 6, 56, 0, 0), 0), (53, (.iload 6, 0, 0, 0), 0), (55, (.ireturn, 0, 0, 0), 0), (56, (.iconst 0, 0, 0, 0), 0), (57, (.istore 7, 0, 0, 0), 0), (59, (.iload 7, 0, 0, 0), 0), (61, (.aload_n 0, 0, 0, 0), 0), (62, (.getfield 10, 6, 0, 0), 213), (65, (.getfield 111, 3, 0, 0), 56), (68, (.if_icmp .ge 29, 97, 0, 0), 0), (71, (.aload 5, 0, 0, 0), 0), (73, (.iload 4, 0, 0, 0), 0), (75, (.iload 7, 0, 0, 0), 0), (77, (.iadd, 0, 0, 0), 0), (78, (.aload_n 0, 0, 0, 0), 0), (79, (.getfield 10, 6, 0, 0), 213), (82, (.iload 7, 0, 0, 0), 0), (84, (.iload_n 1, 0, 0, 0), 0), (85, (.invokevirtual 58, 59, 0, 3), 265), (88, (.invokevirtual 223, 6, 0, 5), 654), (91, (.iinc 7 1, 0, 0, 0), 0), (94, (.goto (-35), 59, 0, 0), 0), (97, (.aload_n 0, 0, 0, 0), 0), (98, (.getfield 10, 6, 0, 0), 213), (101, (.getfield 111, 3, 0, 0), 56), (104, (.ireturn, 0, 0, 0), 0)]
def m_X6_film : ex_M := (RX6, yX6_film, cX6_film, 8, some .int, 5, [], ex_cd q_X6_film)
def q_X6_sheet : List (Nat × ex_I × Nat) := [(0, (.iload_n 1, 0, 0, 0), 0), (1, (.invokestatic 207, 47, 0, 0), 627), (4, (.ifCond .eq 16, 20, 0, 0), 0), (7, (.iload_n 2, 0, 0, 0), 0), (8, (.invokestatic 210, 48, 0, 0), 630), (11, (.ifCond .eq 9, 20, 0, 0), 0), (14, (.iload_n 3, 0, 0, 0), 0), (15, (.bipush 24, 0, 0, 0), 0), (17, (.if_icmp .le 5, 22, 0, 0), 0), (20, (.iconst (-1), 0, 0, 0), 0), (21, (.ireturn, 0, 0, 0), 0), (22, (.iload_n 3, 0, 0, 0), 0), (23, (.ifCond .ge 6, 29, 0, 0), 0), (26, (.bipush (-14), 0, 0, 0), 0), (28, (.ireturn, 0, 0, 0), 0), (29, (.aload_n 0, 0, 0, 0), 0), (30, (.getfield 43, 6, 5, 0), 218), (33, (.iload_n 1, 0, 0, 0), 0), (34, (.aaload, 0, 0, 0), 0), (35, (.iload_n 2, 0, 0, 0), 0), (36, (.iload_n 3, 0, 0, 0), 0), (37, (.invokevirtual 226, 4, 0, 5), 662), (40, (.iload_n 3, 0, 0, 0), 0), (41, (.ireturn, 0, 0, 0), 0)]
def m_X6_sheet : ex_M := (RX6, yX6_sheet, cX6_sheet, 4, some .int, 4, [], ex_cd q_X6_sheet)
def q_X6_drop : List (Nat × ex_I × Nat) := [(0, (.iload_n 1, 0, 0, 0), 0), (1, (.invokestatic 207, 47, 0, 0), 627), (4, (.ifCond .ne 5, 9, 0, 0), 0), (7, (.iconst (-1), 0, 0, 0), 0), (8, (.ireturn, 0, 0, 0), 0), (9, (.aload_n 0, 0, 0, 0), 0), (10, (.getfield 43, 6, 5, 0), 218), (13, (.iload_n 1, 0, 0, 0), 0), (14, (.aaload, 0, 0, 0), 0), (15, (.astore_n 2, 0, 0, 0), 0), (16, (.aload_n 2, 0, 0, 0), 0), (17, (.invokevirtual 229, 1, 0, 5), 671), (20, (.ifCond .eq 6, 26, 0, 0), 0), (23, (.bipush (-11), 0, 0, 0), 0), (25, (.ireturn, 0, 0, 0), 0), (26, (.aload_n 2, 0, 0, 0), 0), (27, (.getfield 232, 5, 1, 0), 203), (30, (.istore_n 3, 0, 0, 0), 0), (31, (.aload_n 2, 0, 0, 0), 0), (32, (.invokevirtual 233, 5, 0, 5), 672), (35, (.iload_n 3, 0, 0, 0), 0), (36, (.ireturn, 0, 0, 0), 0)]
def m_X6_drop : ex_M := (RX6, yX6_drop, cX6_drop, 4, some .int, 2, [], ex_cd q_X6_drop)
def q_X6_item : List (Nat × ex_I × Nat) := [(0, (.iload_n 1, 0, 0, 0), 0), (1, (.invokestatic 207, 47, 0, 0), 627), (4, (.ifCond .eq 10, 14, 0, 0), 0), (7, (.iload_n 2, 0, 0, 0), 0), (8, (.invokestatic 210, 48, 0, 0), 630), (11, (.ifCond .ne 5, 16, 0, 0), 0), (14, (.iconst (-1), 0, 0, 0), 0), (15, (.ireturn, 0, 0, 0), 0), (16, (.aload_n 0, 0, 0, 0), 0), (17, (.getfield 43, 6, 5, 0), 218), (20, (.iload_n 1, 0, 0, 0), 0), (21, (.aaload, 0, 0, 0), 0), (22, (.astore 5, 0, 0, 0), 0), (24, (.aload 5, 0, 0, 0), 0), (26, (.iload_n 2, 0, 0, 0), 0), (27, (.iload_n 3, 0, 0, 0), 0), (28, (.iconst 1, 0, 0, 0), 0), (29, (.invokevirtual 213, 3, 0, 5), 633), (32, (.istore 6, 0, 0, 0), 0), (34, (.iload 6, 0, 0, 0), 0), (36, (.ifCond .eq 6, 42, 0, 0), 0), (39, (.iload 6, 0, 0, 0), 0), (41, (.ireturn, 0, 0, 0), 0), (42, (.aload 5, 0, 0, 0), 0), (44, (.iload_n 3, 0, 0, 0), 0), (45, (.iload 4, 0, 0, 0), 0), (47, (.invokevirtual 223, 6, 0, 5), 654), (50, (.iconst 1, 0, 0, 0), 0), (51, (.ireturn, 0, 0, 0), 0)]
def m_X6_item : ex_M := (RX6, yX6_item, cX6_item, 7, some .int, 5, [], ex_cd q_X6_item)
def q_X6_copy : List (Nat × ex_I × Nat) := [(0, (.iload_n 1, 0, 0, 0), 0), (1, (.invokestatic 207, 47, 0, 0), 627), (4, (.ifCond .eq 10, 14, 0, 0), 0), (7, (.iload_n 3, 0, 0, 0), 0), (8, (.invokestatic 207, 47, 0, 0), 627), (11, (.ifCond .ne 5, 16, 0, 0), 0), (14, (.iconst (-1), 0, 0, 0), 0), (15, (.ireturn, 0, 0, 0), 0), (16, (.aload_n 0, 0, 0, 0), 0), (17, (.getfield 43, 6, 5, 0), 218), (20, (.iload_n 1, 0, 0, 0), 0), (21, (.aaload, 0, 0, 0), 0), (22, (.astore 6, 0, 0, 0), 0), (24, (.aload_n 0, 0, 0, 0), 0), (25, (.getfield 43, 6, 5, 0), 218), (28, (.iload_n 3, 0, 0, 0), 0), (29, (.aaload, 0, 0, 0), 0), (30, (.astore 7, 0, 0, 0), 0), (32, (.aload 6, 0, 0, 0), 0), (34, (.invokevirtual 229, 1, 0, 5), 671), (37, (.ifCond .ne 11, 48, 0, 0), 0), (40, (.aload 7, 0, 0, 0), 0), (42, (.invokevirtual 229, 1, 0, 5), 671), (45, (.ifCond .eq 6, 51, 0, 0), 0), (48, (.bipush (-11), 0, 0, 0), 0), (50, (.ireturn, 0, 0, 0), 0), (51, (.aload 6, 0, 0, 0), 0), (53, (.getfield 236, 5, 0, 0), 201), (56, (.aload 7, 0, 0, 0), 0), (58, (.getfield 236, 5, 0, 0), 201), (61, (.if_icmp .eq 6, 67, 0, 0), 0), (64, (.bipush (-12), 0, 0, 0), 0), (66, (.ireturn, 0, 0, 0), 0), (67, (.aload 6, 0, 0, 0), 0), (69, (.iload_n 2, 0, 0, 0), 0), (70, (.iload 5, 0, 0, 0), 0), (72, (.invokevirtual 239, 2, 0, 5), 684), (75, (.ifCond .eq 15, 90, 0, 0), 0), (78, (.aload 7, 0, 0, 0), 0), (80, (.iload 4, 0, 0, 0), 0), (82, (.iload 5, 0, 0, 0), 0), (84, (.invokevirtual 239, 2, 0, 5), 684), (87, (.ifCond .ne 6, 93, 0, 0), 0), (90, (.bipush (-13), 0, 0, 0), 0), (92, (.ireturn, 0, 0, 0), 0), (93, (.aload 6, 0, 0, 0), 0), (95, (.getfield 216, 5, 2, 0), 205), (98, (.iload_n 2, 0, 0, 0), 0), (99, (.aload 7, 0, 0, 0), 0), (101, (.getfield 216, 5, 2, 0), 205), (104, (.iload 4, 0, 0, 0), 0), (106, (.iload 5, 0, 0, 0), 0), (108, (.invokestatic 242, 0, 3, 0), 685), (111, (.iload 5, 0, 0, 0), 0), (113, (.ireturn, 0, 0, 0), 0)]
def m_X6_copy : ex_M := (RX6, yX6_copy, cX6_copy, 8, some .int, 6, [], ex_cd q_X6_copy)
def q_X6_isThing : List (Nat × ex_I × Nat) := [(0, (.iload_n 0, 0, 0, 0), 0), (1, (.ifCond .lt 12, 13, 0, 0), 0), (4, (.iload_n 0, 0, 0, 0), 0), (5, (.iconst 4, 0, 0, 0), 0), (6, (.if_icmp .ge 7, 13, 0, 0), 0), (9, (.iconst 1, 0, 0, 0), 0), (10, (.goto 4, 14, 0, 0), 0), (13, (.iconst 0, 0, 0, 0), 0), (14, (.ireturn, 0, 0, 0), 0)]
def m_X6_isThing : ex_M := (RX6, yX6_isThing, cX6_isThing, 1, some .boolean, 1, [], ex_cd q_X6_isThing)
def q_X6_isSet : List (Nat × ex_I × Nat) := [(0, (.iload_n 0, 0, 0, 0), 0), (1, (.ifCond .lt 13, 14, 0, 0), 0), (4, (.iload_n 0, 0, 0, 0), 0), (5, (.bipush 15, 0, 0, 0), 0), (7, (.if_icmp .gt 7, 14, 0, 0), 0), (10, (.iconst 1, 0, 0, 0), 0), (11, (.goto 4, 15, 0, 0), 0), (14, (.iconst 0, 0, 0, 0), 0), (15, (.ireturn, 0, 0, 0), 0)]
def m_X6_isSet : ex_M := (RX6, yX6_isSet, cX6_isSet, 1, some .boolean, 1, [], ex_cd q_X6_isSet)
def q_X6_isSheet : List (Nat × ex_I × Nat) := [(0, (.iload_n 0, 0, 0, 0), 0), (1, (.ifCond .lt 12, 13, 0, 0), 0), (4, (.iload_n 0, 0, 0, 0), 0), (5, (.iconst 4, 0, 0, 0), 0), (6, (.if_icmp .ge 7, 13, 0, 0), 0), (9, (.iconst 1, 0, 0, 0), 0), (10, (.goto 4, 14, 0, 0), 0), (13, (.iconst 0, 0, 0, 0), 0), (14, (.ireturn, 0, 0, 0), 0)]
def m_X6_isSheet : ex_M := (RX6, yX6_isSheet, cX6_isSheet, 1, some .boolean, 1, [], ex_cd q_X6_isSheet)
def q_X6_isLane : List (Nat × ex_I × Nat) := [(0, (.iload_n 0, 0, 0, 0), 0), (1, (.ifCond .lt 12, 13, 0, 0), 0), (4, (.iload_n 0, 0, 0, 0), 0), (5, (.iconst 3, 0, 0, 0), 0), (6, (.if_icmp .ge 7, 13, 0, 0), 0), (9, (.iconst 1, 0, 0, 0), 0), (10, (.goto 4, 14, 0, 0), 0), (13, (.iconst 0, 0, 0, 0), 0), (14, (.ireturn, 0, 0, 0), 0)]
def m_X6_isLane : ex_M := (RX6, yX6_isLane, cX6_isLane, 1, some .boolean, 1, [], ex_cd q_X6_isLane)
def q_X6_has : List (Nat × ex_I × Nat) := [(0, (.iload_n 0, 0, 0, 0), 0), (1, (.iload_n 1, 0, 0, 0), 0), (2, (.ishr, 0, 0, 0), 0), (3, (.iconst 1, 0, 0, 0), 0), (4, (.iand, 0, 0, 0), 0), (5, (.ifCond .eq 7, 12, 0, 0), 0), (8, (.iconst 1, 0, 0, 0), 0), (9, (.goto 4, 13, 0, 0), 0), (12, (.iconst 0, 0, 0, 0), 0), (13, (.ireturn, 0, 0, 0), 0)]
def m_X6_has : ex_M := (RX6, yX6_has, cX6_has, 2, some .boolean, 2, [], ex_cd q_X6_has)
def q_X6_passedOn : List (Nat × ex_I × Nat) := [(0, (.iload_n 0, 0, 0, 0), 0), (1, (.tableswitch 51 1 3 #[27, 34, 41], 0, 0, 0), 0), (28, (.iload_n 1, 0, 0, 0), 0), (29, (.iconst 1, 0, 0, 0), 0), (30, (.iadd, 0, 0, 0), 0), (31, (.bipush 97, 0, 0, 0), 0), (33, (.irem, 0, 0, 0), 0), (34, (.ireturn, 0, 0, 0), 0), (35, (.iconst 2, 0, 0, 0), 0), (36, (.iload_n 1, 0, 0, 0), 0), (37, (.imul, 0, 0, 0), 0), (38, (.bipush 97, 0, 0, 0), 0), (40, (.irem, 0, 0, 0), 0), (41, (.ireturn, 0, 0, 0), 0), (42, (.bipush 96, 0, 0, 0), 0), (44, (.iload_n 1, 0, 0, 0), 0), (45, (.iconst 1, 0, 0, 0), 0), (46, (.iadd, 0, 0, 0), 0), (47, (.bipush 97, 0, 0, 0), 0), (49, (.irem, 0, 0, 0), 0), (50, (.isub, 0, 0, 0), 0), (51, (.ireturn, 0, 0, 0), 0), (52, (.iload_n 1, 0, 0, 0), 0), (53, (.ireturn, 0, 0, 0), 0)]
def m_X6_passedOn : ex_M := (RX6, yX6_passedOn, cX6_passedOn, 2, some .int, 2, [], ex_cd q_X6_passedOn)
def q_X6_teaching : List (Nat × ex_I × Nat) := [(0, (.iload_n 0, 0, 0, 0), 0), (1, (.bipush 6, 0, 0, 0), 0), (3, (.imul, 0, 0, 0), 0), (4, (.iload_n 1, 0, 0, 0), 0), (5, (.iadd, 0, 0, 0), 0), (6, (.iconst 4, 0, 0, 0), 0), (7, (.imul, 0, 0, 0), 0), (8, (.iload_n 2, 0, 0, 0), 0), (9, (.iadd, 0, 0, 0), 0), (10, (.ireturn, 0, 0, 0), 0)]
def m_X6_teaching : ex_M := (RX6, yX6_teaching, cX6_teaching, 3, some .int, 3, [], ex_cd q_X6_teaching)
def q_X6_teacherOf : List (Nat × ex_I × Nat) := [(0, (.iload_n 0, 0, 0, 0), 0), (1, (.bipush 24, 0, 0, 0), 0), (3, (.idiv, 0, 0, 0), 0), (4, (.ireturn, 0, 0, 0), 0)]
def m_X6_teacherOf : ex_M := (RX6, yX6_teacherOf, cX6_teacherOf, 1, some .int, 1, [], ex_cd q_X6_teacherOf)
def q_X6_pupilOf : List (Nat × ex_I × Nat) := [(0, (.iload_n 0, 0, 0, 0), 0), (1, (.iconst 4, 0, 0, 0), 0), (2, (.idiv, 0, 0, 0), 0), (3, (.bipush 6, 0, 0, 0), 0), (5, (.irem, 0, 0, 0), 0), (6, (.ireturn, 0, 0, 0), 0)]
def m_X6_pupilOf : ex_M := (RX6, yX6_pupilOf, cX6_pupilOf, 1, some .int, 1, [], ex_cd q_X6_pupilOf)
def q_X6_thingOf : List (Nat × ex_I × Nat) := [(0, (.iload_n 0, 0, 0, 0), 0), (1, (.iconst 4, 0, 0, 0), 0), (2, (.irem, 0, 0, 0), 0), (3, (.ireturn, 0, 0, 0), 0)]
def m_X6_thingOf : ex_M := (RX6, yX6_thingOf, cX6_thingOf, 1, some .int, 1, [], ex_cd q_X6_thingOf)
def q_X6_pairOf : List (Nat × ex_I × Nat) := [(0, (.iconst 1, 0, 0, 0), 0), (1, (.iload_n 0, 0, 0, 0), 0), (2, (.invokestatic 248, 52, 0, 0), 453), (5, (.ishl, 0, 0, 0), 0), (6, (.iconst 1, 0, 0, 0), 0), (7, (.iload_n 0, 0, 0, 0), 0), (8, (.invokestatic 251, 53, 0, 0), 454), (11, (.ishl, 0, 0, 0), 0), (12, (.ior, 0, 0, 0), 0), (13, (.ireturn, 0, 0, 0), 0)]
def m_X6_pairOf : ex_M := (RX6, yX6_pairOf, cX6_pairOf, 1, some .int, 1, [], ex_cd q_X6_pairOf)
def q_X3_init : List (Nat × ex_I × Nat) := [(0, (.aload_n 0, 0, 0, 0), 0), (1, (.invokespecial 3, 0, 2, 0), 25), (4, (.aload_n 0, 0, 0, 0), 0), (5, (.iconst 1, 0, 0, 0), 0), (6, (.putfield 9, 3, 2, 0), 59), (9, (.aload_n 0, 0, 0, 0), 0), (10, (.bipush 6, 0, 0, 0), 0), (12, (.newarray .int, 0, 0, 0), 0), (14, (.putfield 15, 3, 3, 2), 61), (17, (.aload_n 0, 0, 0, 0), 0), (18, (.bipush 24, 0, 0, 0), 0), (20, (.newarray .int, 0, 0, 0), 0), (22, (.putfield 19, 3, 4, 2), 64), (25, (.aload_n 0, 0, 0, 0), 0), (26, (.bipush 6, 0, 0, 0), 0), (28, (.newarray .int, 0, 0, 0), 0), (30, (.putfield 22, 3, 5, 2), 65), (33, (.aload_n 0, 0, 0, 0), 0), (34, (.bipush 6, 0, 0, 0), 0), (36, (.newarray .int, 0, 0, 0), 0), (38, (.putfield 25, 3, 6, 2), 69), (41, (.aload_n 0, 0, 0, 0), 0), (42, (.iconst 4, 0, 0, 0), 0), (43, (.newarray .int, 0, 0, 0), 0), (45, (.putfield 28, 3, 7, 2), 73), (48, (.aload_n 0, 0, 0, 0), 0), (49, (.new 31, 0, 0, 0), 26), (52, (.dup, 0, 0, 0), 0), (53, (.invokespecial 33, 7, 1, 0), 1), (56, (.putfield 34, 3, 8, 2), 76), (59, (.aload_n 0, 0, 0, 0), 0), (60, (.bipush 6, 0, 0, 0), 0), (62, (.newarray .int, 0, 0, 0), 0), (64, (.putfield 38, 3, 9, 2), 78), (67, (.aload_n 0, 0, 0, 0), 0), (68, (.bipush 6, 0, 0, 0), 0), (70, (.newarray .int, 0, 0, 0), 0), (72, (.putfield 41, 3, 10, 2), 79), (75, (.aload_n 0, 0, 0, 0), 0), (76, (.sipush 144, 0, 0, 0), 0), (79, (.newarray .int, 0, 0, 0), 0), (81, (.putfield 44, 3, 11, 2), 80), (84, (.aload_n 0, 0, 0, 0), 0), (85, (.iconst 3, 0, 0, 0), 0), (86, (.newarray .int, 0, 0, 0), 0), (88, (.putfield 47, 3, 12, 2), 81), (91, (.return_, 0, 0, 0), 0)]
def m_X3_init : ex_M := (RX3, yX3_init, cX3_init, 1, none, 1, [], ex_cd q_X3_init)
def q_X3_isChild : List (Nat × ex_I × Nat) := [(0, (.iload_n 1, 0, 0, 0), 0), (1, (.ifCond .lt 15, 16, 0, 0), 0), (4, (.iload_n 1, 0, 0, 0), 0), (5, (.aload_n 0, 0, 0, 0), 0), (6, (.getfield 50, 3, 0, 0), 53), (9, (.if_icmp .ge 7, 16, 0, 0), 0), (12, (.iconst 1, 0, 0, 0), 0), (13, (.goto 4, 17, 0, 0), 0), (16, (.iconst 0, 0, 0, 0), 0), (17, (.ireturn, 0, 0, 0), 0)]
def m_X3_isChild : ex_M := (RX3, yX3_isChild, cX3_isChild, 2, some .boolean, 2, [], ex_cd q_X3_isChild)
def q_X3_isTeaching : List (Nat × ex_I × Nat) := [(0, (.aload_n 0, 0, 0, 0), 0), (1, (.iload_n 1, 0, 0, 0), 0), (2, (.invokevirtual 53, 57, 0, 3), 415), (5, (.ifCond .eq 27, 32, 0, 0), 0), (8, (.aload_n 0, 0, 0, 0), 0), (9, (.iload_n 2, 0, 0, 0), 0), (10, (.invokevirtual 53, 57, 0, 3), 415), (13, (.ifCond .eq 19, 32, 0, 0), 0), (16, (.iload_n 3, 0, 0, 0), 0), (17, (.invokestatic 57, 45, 1, 0), 11), (20, (.ifCond .eq 12, 32, 0, 0), 0), (23, (.iload_n 1, 0, 0, 0), 0), (24, (.iload_n 2, 0, 0, 0), 0), (25, (.if_icmp .eq 7, 32, 0, 0), 0), (28, (.iconst 1, 0, 0, 0), 0), (29, (.goto 4, 33, 0, 0), 0), (32, (.iconst 0, 0, 0, 0), 0), (33, (.ireturn, 0, 0, 0), 0)]
def m_X3_isTeaching : ex_M := (RX3, yX3_isTeaching, cX3_isTeaching, 4, some .boolean, 4, [], ex_cd q_X3_isTeaching)
def q_X3_saying : List (Nat × ex_I × Nat) := [(0, (.aload_n 0, 0, 0, 0), 0), (1, (.getfield 19, 3, 4, 0), 64), (4, (.iload_n 1, 0, 0, 0), 0), (5, (.iconst 4, 0, 0, 0), 0), (6, (.imul, 0, 0, 0), 0), (7, (.iload_n 2, 0, 0, 0), 0), (8, (.iadd, 0, 0, 0), 0), (9, (.iaload, 0, 0, 0), 0), (10, (.ireturn, 0, 0, 0), 0)]
def m_X3_saying : ex_M := (RX3, yX3_saying, cX3_saying, 3, some .int, 3, [], ex_cd q_X3_saying)
def q_X3_setSaying : List (Nat × ex_I × Nat) := [(0, (.aload_n 0, 0, 0, 0), 0), (1, (.getfield 19, 3, 4, 0), 64), (4, (.iload_n 1, 0, 0, 0), 0), (5, (.iconst 4, 0, 0, 0), 0), (6, (.imul, 0, 0, 0), 0), (7, (.iload_n 2, 0, 0, 0), 0), (8, (.iadd, 0, 0, 0), 0), (9, (.iload_n 3, 0, 0, 0), 0), (10, (.iastore, 0, 0, 0), 0), (11, (.iload_n 3, 0, 0, 0), 0), (12, (.bipush 97, 0, 0, 0), 0), (14, (.if_icmp .ne 20, 34, 0, 0), 0), (17, (.aload_n 0, 0, 0, 0), 0), (18, (.getfield 22, 3, 5, 0), 65), (21, (.iload_n 1, 0, 0, 0), 0), (22, (.dup2, 0, 0, 0), 0), (23, (.iaload, 0, 0, 0), 0), (24, (.iconst 1, 0, 0, 0), 0), (25, (.iload_n 2, 0, 0, 0), 0), (26, (.ishl, 0, 0, 0), 0), (27, (.iconst (-1), 0, 0, 0), 0), (28, (.ixor, 0, 0, 0), 0), (29, (.iand, 0, 0, 0), 0), (30, (.iastore, 0, 0, 0), 0), (31, (.goto 15, 46, 0, 0), 0), (34, (.aload_n 0, 0, 0, 0), 0), (35, (.getfield 22, 3, 5, 0), 65), (38, (.iload_n 1, 0, 0, 0), 0), (39, (.dup2, 0, 0, 0), 0), (40, (.iaload, 0, 0, 0), 0), (41, (.iconst 1, 0, 0, 0), 0), (42, (.iload_n 2, 0, 0, 0), 0), (43, (.ishl, 0, 0, 0), 0), (44, (.ior, 0, 0, 0), 0), (45, (.iastore, 0, 0, 0), 0), (46, (.return_, 0, 0, 0), 0)]
def m_X3_setSaying : ex_M := (RX3, yX3_setSaying, cX3_setSaying, 4, none, 4, [], ex_cd q_X3_setSaying)
def q_X3_setKnown : List (Nat × ex_I × Nat) := [(0, (.iconst 0, 0, 0, 0), 0), (1, (.istore_n 3, 0, 0, 0), 0), (2, (.iload_n 3, 0, 0, 0), 0), (3, (.iconst 4, 0, 0, 0), 0), (4, (.if_icmp .ge 29, 33, 0, 0), 0), (7, (.aload_n 0, 0, 0, 0), 0), (8, (.iload_n 1, 0, 0, 0), 0), (9, (.iload_n 3, 0, 0, 0), 0), (10, (.iload_n 2, 0, 0, 0), 0), (11, (.iload_n 3, 0, 0, 0), 0), (12, (.invokestatic 60, 49, 1, 0), 7), (15, (.ifCond .eq 7, 22, 0, 0), 0), (18, (.iconst 0, 0, 0, 0), 0), (19, (.goto 5, 24, 0, 0), 0), (22, (.bipush 97, 0, 0, 0), 0), (24, (.invokevirtual 64, 60, 0, 3), 250), (27, (.iinc 3 1, 0, 0, 0), 0), (30, (.goto (-28), 2, 0, 0), 0), (33, (.return_, 0, 0, 0), 0)]
def m_X3_setKnown : ex_M := (RX3, yX3_setKnown, cX3_setKnown, 4, none, 3, [], ex_cd q_X3_setKnown)
def q_X3_admit : List (Nat × ex_I × Nat) := [(0, (.aload_n 0, 0, 0, 0), 0), (1, (.getfield 50, 3, 0, 0), 53), (4, (.bipush 6, 0, 0, 0), 0), (6, (.if_icmp .lt 6, 12, 0, 0), 0), (9, (.bipush (-3), 0, 0, 0), 0), (11, (.ireturn, 0, 0, 0), 0), (12, (.aload_n 0, 0, 0, 0), 0), (13, (.getfield 50, 3, 0, 0), 53), (16, (.istore_n 2, 0, 0, 0), 0), (17, (.iconst 0, 0, 0, 0), 0), (18, (.istore_n 3, 0, 0, 0), 0), (19, (.iload_n 3, 0, 0, 0), 0), (20, (.iload_n 2, 0, 0, 0), 0), (21, (.if_icmp .ge 21, 42, 0, 0), 0), (24, (.aload_n 0, 0, 0, 0), 0), (25, (.getfield 25, 3, 6, 0), 69), (28, (.iload_n 3, 0, 0, 0), 0), (29, (.dup2, 0, 0, 0), 0), (30, (.iaload, 0, 0, 0), 0), (31, (.iconst 1, 0, 0, 0), 0), (32, (.iload_n 2, 0, 0, 0), 0), (33, (.ishl, 0, 0, 0), 0), (34, (.ior, 0, 0, 0), 0), (35, (.iastore, 0, 0, 0), 0), (36, (.iinc 3 1, 0, 0, 0), 0), (39, (.goto (-20), 19, 0, 0), 0), (42, (.aload_n 0, 0, 0, 0), 0), (43, (.getfield 25, 3, 6, 0), 69), (46, (.iload_n 2, 0, 0, 0), 0), (47, (.iconst 1, 0, 0, 0), 0), (48, (.iload_n 2, 0, 0, 0), 0), (49, (.ishl, 0, 0, 0), 0), (50, (.iconst 1, 0, 0, 0), 0), (51, (.isub, 0, 0, 0), 0), (52, (.iastore, 0, 0, 0), 0), (53, (.aload_n 0, 0, 0, 0), 0), (54, (.getfield 15, 3, 3, 0), 61), (57, (.iload_n 2, 0, 0, 0), 0), (58, (.iload_n 1, 0, 0, 0), 0), (59, (.iastore, 0, 0, 0), 0), (60, (.aload_n 0, 0, 0, 0), 0), (61, (.iload_n 2, 0, 0, 0), 0), (62, (.iconst 0, 0, 0, 0), 0), (63, (.invokevirtual 68, 61, 0, 3), 243), (66, (.aload_n 0, 0, 0, 0), 0), (67, (.dup, 0, 0, 0), 0), (68, (.getfield 50, 3, 0, 0), 53), (71, (.iconst 1, 0, 0, 0), 0), (72, (.iadd, 0, 0, 0), 0), (73, (.putfield 50, 3, 0, 0), 53), (76, (.iload_n 2, 0, 0, 0), 0), (77, (.ireturn, 0, 0, 0), 0)]
def m_X3_admit : ex_M := (RX3, yX3_admit, cX3_admit, 4, some .int, 2, [], ex_cd q_X3_admit)
def q_X3_sendHome : List (Nat × ex_I × Nat) := [(0, (.aload_n 0, 0, 0, 0), 0), (1, (.iconst 0, 0, 0, 0), 0), (2, (.putfield 50, 3, 0, 0), 53), (5, (.aload_n 0, 0, 0, 0), 0), (6, (.getfield 34, 3, 8, 0), 76), (9, (.invokevirtual 72, 8, 0, 0), 354), (12, (.return_, 0, 0, 0), 0)]
def m_X3_sendHome : ex_M := (RX3, yX3_sendHome, cX3_sendHome, 1, none, 1, [], ex_cd q_X3_sendHome)
def q_X3_takeOver : List (Nat × ex_I × Nat) := [(0, (.aload_n 0, 0, 0, 0), 0), (1, (.aload_n 1, 0, 0, 0), 0), (2, (.getfield 50, 3, 0, 0), 53), (5, (.putfield 50, 3, 0, 0), 53), (8, (.aload_n 0, 0, 0, 0), 0), (9, (.aload_n 1, 0, 0, 0), 0), (10, (.getfield 75, 3, 1, 0), 57), (13, (.putfield 75, 3, 1, 0), 57), (16, (.aload_n 0, 0, 0, 0), 0), (17, (.aload_n 1, 0, 0, 0), 0), (18, (.getfield 9, 3, 2, 0), 59), (21, (.putfield 9, 3, 2, 0), 59), (24, (.aload_n 1, 0, 0, 0), 0), (25, (.getfield 15, 3, 3, 0), 61), (28, (.iconst 0, 0, 0, 0), 0), (29, (.aload_n 0, 0, 0, 0), 0), (30, (.getfield 15, 3, 3, 0), 61), (33, (.iconst 0, 0, 0, 0), 0), (34, (.bipush 6, 0, 0, 0), 0), (36, (.invokestatic 78, 0, 3, 0), 535), (39, (.aload_n 1, 0, 0, 0), 0), (40, (.getfield 19, 3, 4, 0), 64), (43, (.iconst 0, 0, 0, 0), 0), (44, (.aload_n 0, 0, 0, 0), 0), (45, (.getfield 19, 3, 4, 0), 64), (48, (.iconst 0, 0, 0, 0), 0), (49, (.bipush 24, 0, 0, 0), 0), (51, (.invokestatic 78, 0, 3, 0), 535), (54, (.aload_n 1, 0, 0, 0), 0), (55, (.getfield 22, 3, 5, 0), 65), (58, (.iconst 0, 0, 0, 0), 0), (59, (.aload_n 0, 0, 0, 0), 0), (60, (.getfield 22, 3, 5, 0), 65), (63, (.iconst 0, 0, 0, 0), 0), (64, (.bipush 6, 0, 0, 0), 0), (66, (.invokestatic 78, 0, 3, 0), 535), (69, (.aload_n 1, 0, 0, 0), 0), (70, (.getfield 25, 3, 6, 0), 69), (73, (.iconst 0, 0, 0, 0), 0), (74, (.aload_n 0, 0, 0, 0), 0), (75, (.getfield 25, 3, 6, 0), 69), (78, (.iconst 0, 0, 0, 0), 0), (79, (.bipush 6, 0, 0, 0), 0), (81, (.invokestatic 78, 0, 3, 0), 535), (84, (.aload_n 1, 0, 0, 0), 0), (85, (.getfield 28, 3, 7, 0), 73), (88, (.iconst 0, 0, 0, 0), 0), (89, (.aload_n 0, 0, 0, 0), 0), (90, (.getfield 28, 3, 7, 0), 73), (93, (.iconst 0, 0, 0, 0), 0), (94, (.iconst 4, 0, 0, 0), 0), (95, (.invokestatic 78, 0, 3, 0), 535), (98, (.aload_n 0, 0, 0, 0), 0), (99, (.getfield 34, 3, 8, 0), 76), (102, (.aload_n 1, 0, 0, 0), 0), (103, (.getfield 34, 3, 8, 0), 76), (106, (.invokevirtual 84, 11, 0, 0), 618), (109, (.return_, 0, 0, 0), 0)]
def m_X3_takeOver : ex_M := (RX3, yX3_takeOver, cX3_takeOver, 2, none, 2, [], ex_cd q_X3_takeOver)
def q_X3_knownOf : List (Nat × ex_I × Nat) := [(0, (.iconst 0, 0, 0, 0), 0), (1, (.istore_n 2, 0, 0, 0), 0), (2, (.iconst 0, 0, 0, 0), 0), (3, (.istore_n 3, 0, 0, 0), 0), (4, (.iload_n 3, 0, 0, 0), 0), (5, (.aload_n 0, 0, 0, 0), 0), (6, (.getfield 50, 3, 0, 0), 53), (9, (.if_icmp .ge 23, 32, 0, 0), 0), (12, (.iload_n 2, 0, 0, 0), 0), (13, (.aload_n 0, 0, 0, 0), 0), (14, (.getfield 22, 3, 5, 0), 65), (17, (.iload_n 3, 0, 0, 0), 0), (18, (.iaload, 0, 0, 0), 0), (19, (.iload_n 1, 0, 0, 0), 0), (20, (.iand, 0, 0, 0), 0), (21, (.invokestatic 88, 12, 0, 0), 397), (24, (.iadd, 0, 0, 0), 0), (25, (.istore_n 2, 0, 0, 0), 0), (26, (.iinc 3 1, 0, 0, 0), 0), (29, (.goto (-25), 4, 0, 0), 0), (32, (.iload_n 2, 0, 0, 0), 0), (33, (.ireturn, 0, 0, 0), 0)]
def m_X3_knownOf : ex_M := (RX3, yX3_knownOf, cX3_knownOf, 4, some .int, 2, [], ex_cd q_X3_knownOf)
def q_X3_garbled : List (Nat × ex_I × Nat) := [(0, (.iconst 0, 0, 0, 0), 0), (1, (.istore_n 1, 0, 0, 0), 0), (2, (.iconst 0, 0, 0, 0), 0), (3, (.istore_n 2, 0, 0, 0), 0), (4, (.iload_n 2, 0, 0, 0), 0), (5, (.aload_n 0, 0, 0, 0), 0), (6, (.getfield 50, 3, 0, 0), 53), (9, (.iconst 4, 0, 0, 0), 0), (10, (.imul, 0, 0, 0), 0), (11, (.if_icmp .ge 32, 43, 0, 0), 0), (14, (.aload_n 0, 0, 0, 0), 0), (15, (.getfield 19, 3, 4, 0), 64), (18, (.iload_n 2, 0, 0, 0), 0), (19, (.iaload, 0, 0, 0), 0), (20, (.ifCond .eq 17, 37, 0, 0), 0), (23, (.aload_n 0, 0, 0, 0), 0), (24, (.getfield 19, 3, 4, 0), 64), (27, (.iload_n 2, 0, 0, 0), 0), (28, (.iaload, 0, 0, 0), 0), (29, (.bipush 97, 0, 0, 0), 0), (31, (.if_icmp .eq 6, 37, 0, 0), 0), (34, (.iinc 1 1, 0, 0, 0), 0), (37, (.iinc 2 1, 0, 0, 0), 0), (40, (.goto (-36), 4, 0, 0), 0), (43, (.iload_n 1, 0, 0, 0), 0), (44, (.ireturn, 0, 0, 0), 0)]
def m_X3_garbled : ex_M := (RX3, yX3_garbled, cX3_garbled, 3, some .int, 1, [], ex_cd q_X3_garbled)
def q_X3_allows : List (Nat × ex_I × Nat) := [(0, (.iload_n 2, 0, 0, 0), 0), (1, (.invokestatic 94, 52, 1, 0), 12), (4, (.istore_n 3, 0, 0, 0), 0), (5, (.iload_n 2, 0, 0, 0), 0), (6, (.invokestatic 97, 53, 1, 0), 13), (9, (.istore 4, 0, 0, 0), 0), (11, (.iload_n 2, 0, 0, 0), 0), (12, (.invokestatic 100, 54, 1, 0), 14), (15, (.istore 5, 0, 0, 0), 0), (17, (.aload_n 1, 0, 0, 0), 0), (18, (.iload_n 3, 0, 0, 0), 0), (19, (.iaload, 0, 0, 0), 0), (20, (.iload 5, 0, 0, 0), 0), (22, (.invokestatic 60, 49, 1, 0), 7), (25, (.ifCond .eq 50, 75, 0, 0), 0), (28, (.aload_n 1, 0, 0, 0), 0), (29, (.iload 4, 0, 0, 0), 0), (31, (.iaload, 0, 0, 0), 0), (32, (.iload 5, 0, 0, 0), 0), (34, (.invokestatic 60, 49, 1, 0), 7), (37, (.ifCond .ne 38, 75, 0, 0), 0), (40, (.aload_n 0, 0, 0, 0), 0), (41, (.getfield 28, 3, 7, 0), 73), (44, (.iload 5, 0, 0, 0), 0), (46, (.iaload, 0, 0, 0), 0), (47, (.aload_n 1, 0, 0, 0), 0), (48, (.iload 4, 0, 0, 0), 0), (50, (.iaload, 0, 0, 0), 0), (51, (.iconst (-1), 0, 0, 0), 0), (52, (.ixor, 0, 0, 0), 0), (53, (.iand, 0, 0, 0), 0), (54, (.ifCond .ne 21, 75, 0, 0), 0), (57, (.aload_n 0, 0, 0, 0), 0), (58, (.getfield 25, 3, 6, 0), 69), (61, (.iload 4, 0, 0, 0), 0), (63, (.iaload, 0, 0, 0), 0), (64, (.iload_n 3, 0, 0, 0), 0), (65, (.invokestatic 60, 49, 1, 0), 7), (68, (.ifCond .eq 7, 75, 0, 0), 0), (71, (.iconst 1, 0, 0, 0), 0), (72, (.goto 4, 76, 0, 0), 0), (75, (.iconst 0, 0, 0, 0), 0), (76, (.ireturn, 0, 0, 0), 0)]
def m_X3_allows : ex_M := (RX3, yX3_allows, cX3_allows, 6, some .boolean, 3, [], ex_cd q_X3_allows)
def q_X3_perform : List (Nat × ex_I × Nat) := [(0, (.iload_n 1, 0, 0, 0), 0), (1, (.invokestatic 94, 52, 1, 0), 12), (4, (.istore_n 2, 0, 0, 0), 0), (5, (.iload_n 1, 0, 0, 0), 0), (6, (.invokestatic 100, 54, 1, 0), 14), (9, (.istore_n 3, 0, 0, 0), 0), (10, (.aload_n 0, 0, 0, 0), 0), (11, (.iload_n 1, 0, 0, 0), 0), (12, (.invokestatic 97, 53, 1, 0), 13), (15, (.iload_n 3, 0, 0, 0), 0), (16, (.aload_n 0, 0, 0, 0), 0), (17, (.getfield 15, 3, 3, 0), 61), (20, (.iload_n 2, 0, 0, 0), 0), (21, (.iaload, 0, 0, 0), 0), (22, (.aload_n 0, 0, 0, 0), 0), (23, (.iload_n 2, 0, 0, 0), 0), (24, (.iload_n 3, 0, 0, 0), 0), (25, (.invokevirtual 103, 59, 0, 3), 439), (28, (.invokestatic 107, 50, 1, 0), 15), (31, (.invokevirtual 64, 60, 0, 3), 250), (34, (.aload_n 0, 0, 0, 0), 0), (35, (.getfield 75, 3, 1, 0), 57), (38, (.ldc 110, 0, 0, 1000000), 441), (40, (.if_icmp .ge 13, 53, 0, 0), 0), (43, (.aload_n 0, 0, 0, 0), 0), (44, (.dup, 0, 0, 0), 0), (45, (.getfield 75, 3, 1, 0), 57), (48, (.iconst 1, 0, 0, 0), 0), (49, (.iadd, 0, 0, 0), 0), (50, (.putfield 75, 3, 1, 0), 57), (53, (.return_, 0, 0, 0), 0)]
def m_X3_perform : ex_M := (RX3, yX3_perform, cX3_perform, 4, none, 2, [], ex_cd q_X3_perform)
def q_X3_runPlan : List (Nat × ex_I × Nat) := [(0, (.iconst 0, 0, 0, 0), 0), (1, (.istore_n 1, 0, 0, 0), 0), (2, (.iconst 0, 0, 0, 0), 0), (3, (.istore_n 2, 0, 0, 0), 0), (4, (.iload_n 2, 0, 0, 0), 0), (5, (.aload_n 0, 0, 0, 0), 0), (6, (.getfield 34, 3, 8, 0), 76), (9, (.getfield 111, 0, 0, 0), 34), (12, (.if_icmp .ge 68, 80, 0, 0), 0), (15, (.aload_n 0, 0, 0, 0), 0), (16, (.getfield 34, 3, 8, 0), 76), (19, (.getfield 114, 0, 2, 0), 39), (22, (.iload_n 2, 0, 0, 0), 0), (23, (.iaload, 0, 0, 0), 0), (24, (.istore_n 3, 0, 0, 0), 0), (25, (.aload_n 0, 0, 0, 0), 0), (26, (.getfield 34, 3, 8, 0), 76), (29, (.getfield 117, 0, 3, 0), 41), (32, (.iload_n 2, 0, 0, 0), 0), (33, (.baload, 0, 0, 0), 0), (34, (.ifCond .eq 5, 39, 0, 0), 0), (37, (.iconst 0, 0, 0, 0), 0), (38, (.istore_n 1, 0, 0, 0), 0), (39, (.iload_n 1, 0, 0, 0), 0), (40, (.iload_n 3, 0, 0, 0), 0), (41, (.invokestatic 121, 55, 1, 0), 16), (44, (.iand, 0, 0, 0), 0), (45, (.ifCond .ne 15, 60, 0, 0), 0), (48, (.aload_n 0, 0, 0, 0), 0), (49, (.aload_n 0, 0, 0, 0), 0), (50, (.getfield 22, 3, 5, 0), 65), (53, (.iload_n 3, 0, 0, 0), 0), (54, (.invokevirtual 124, 67, 0, 3), 455), (57, (.ifCond .ne 5, 62, 0, 0), 0), (60, (.iload_n 2, 0, 0, 0), 0), (61, (.ireturn, 0, 0, 0), 0), (62, (.iload_n 1, 0, 0, 0), 0), (63, (.iload_n 3, 0, 0, 0), 0), (64, (.invokestatic 121, 55, 1, 0), 16), (67, (.ior, 0, 0, 0), 0), (68, (.istore_n 1, 0, 0, 0), 0), (69, (.aload_n 0, 0, 0, 0), 0), (70, (.iload_n 3, 0, 0, 0), 0), (71, (.invokevirtual 128, 68, 0, 3), 456), (74, (.iinc 2 1, 0, 0, 0), 0), (77, (.goto (-73), 4, 0, 0), 0), (80, (.aload_n 0, 0, 0, 0), 0), (81, (.getfield 34, 3, 8, 0), 76), (84, (.getfield 111, 0, 0, 0), 34), (87, (.ireturn, 0, 0, 0), 0)]
def m_X3_runPlan : ex_M := (RX3, yX3_runPlan, cX3_runPlan, 4, some .int, 1, [], ex_cd q_X3_runPlan)
def q_X3_goWithout : List (Nat × ex_I × Nat) := [(0, (.aload_n 0, 0, 0, 0), 0), (1, (.getfield 22, 3, 5, 0), 65), (4, (.iconst 0, 0, 0, 0), 0), (5, (.aload_n 2, 0, 0, 0), 0), (6, (.iconst 0, 0, 0, 0), 0), (7, (.bipush 6, 0, 0, 0), 0), (9, (.invokestatic 78, 0, 3, 0), 535), (12, (.iload_n 1, 0, 0, 0), 0), (13, (.istore_n 3, 0, 0, 0), 0), (14, (.iconst 0, 0, 0, 0), 0), (15, (.istore 4, 0, 0, 0), 0), (17, (.iload 4, 0, 0, 0), 0), (19, (.aload_n 0, 0, 0, 0), 0), (20, (.getfield 34, 3, 8, 0), 76), (23, (.getfield 111, 0, 0, 0), 34), (26, (.if_icmp .ge 84, 110, 0, 0), 0), (29, (.aload_n 0, 0, 0, 0), 0), (30, (.getfield 34, 3, 8, 0), 76), (33, (.getfield 114, 0, 2, 0), 39), (36, (.iload 4, 0, 0, 0), 0), (38, (.iaload, 0, 0, 0), 0), (39, (.istore 5, 0, 0, 0), 0), (41, (.aload_n 0, 0, 0, 0), 0), (42, (.getfield 34, 3, 8, 0), 76), (45, (.getfield 117, 0, 3, 0), 41), (48, (.iload 4, 0, 0, 0), 0), (50, (.baload, 0, 0, 0), 0), (51, (.ifCond .eq 5, 56, 0, 0), 0), (54, (.iload_n 1, 0, 0, 0), 0), (55, (.istore_n 3, 0, 0, 0), 0), (56, (.iload_n 3, 0, 0, 0), 0), (57, (.iload 5, 0, 0, 0), 0), (59, (.invokestatic 121, 55, 1, 0), 16), (62, (.iand, 0, 0, 0), 0), (63, (.ifCond .ne 41, 104, 0, 0), 0), (66, (.aload_n 0, 0, 0, 0), 0), (67, (.aload_n 2, 0, 0, 0), 0), (68, (.iload 5, 0, 0, 0), 0), (70, (.invokevirtual 124, 67, 0, 3), 455), (73, (.ifCond .ne 6, 79, 0, 0), 0), (76, (.goto 28, 104, 0, 0), 0), (79, (.iload_n 3, 0, 0, 0), 0), (80, (.iload 5, 0, 0, 0), 0), (82, (.invokestatic 121, 55, 1, 0), 16), (85, (.ior, 0, 0, 0), 0), (86, (.istore_n 3, 0, 0, 0), 0), (87, (.aload_n 2, 0, 0, 0), 0), (88, (.iload 5, 0, 0, 0), 0), (90, (.invokestatic 97, 53, 1, 0), 13), (93, (.dup2, 0, 0, 0), 0), (94, (.iaload, 0, 0, 0), 0), (95, (.iconst 1, 0, 0, 0), 0), (96, (.iload 5, 0, 0, 0), 0), (98, (.invokestatic 100, 54, 1, 0), 14), (101, (.ishl, 0, 0, 0), 0), (102, (.ior, 0, 0, 0), 0), (103, (.iastore, 0, 0, 0), 0), (104, (.iinc 4 1, 0, 0, 0), 0), (107, (.goto (-90), 17, 0, 0), 0), (110, (.return_, 0, 0, 0), 0)]
def m_X3_goWithout : ex_M := (RX3, yX3_goWithout, cX3_goWithout, 6, none, 3, [], ex_cd q_X3_goWithout)
def q_X3_sparedSet : List (Nat × ex_I × Nat) := [(0, (.iconst 0, 0, 0, 0), 0), (1, (.istore_n 1, 0, 0, 0), 0), (2, (.aload_n 0, 0, 0, 0), 0), (3, (.iconst 0, 0, 0, 0), 0), (4, (.aload_n 0, 0, 0, 0), 0), (5, (.getfield 38, 3, 9, 0), 78), (8, (.invokevirtual 132, 70, 0, 3), 531), (11, (.iconst 0, 0, 0, 0), 0), (12, (.istore_n 2, 0, 0, 0), 0), (13, (.iload_n 2, 0, 0, 0), 0), (14, (.aload_n 0, 0, 0, 0), 0), (15, (.getfield 50, 3, 0, 0), 53), (18, (.if_icmp .ge 34, 52, 0, 0), 0), (21, (.aload_n 0, 0, 0, 0), 0), (22, (.iconst 1, 0, 0, 0), 0), (23, (.iload_n 2, 0, 0, 0), 0), (24, (.ishl, 0, 0, 0), 0), (25, (.aload_n 0, 0, 0, 0), 0), (26, (.getfield 41, 3, 10, 0), 79), (29, (.invokevirtual 132, 70, 0, 3), 531), (32, (.aload_n 0, 0, 0, 0), 0), (33, (.iload_n 2, 0, 0, 0), 0), (34, (.invokevirtual 136, 72, 0, 3), 536), (37, (.ifCond .eq 9, 46, 0, 0), 0), (40, (.iload_n 1, 0, 0, 0), 0), (41, (.iconst 1, 0, 0, 0), 0), (42, (.iload_n 2, 0, 0, 0), 0), (43, (.ishl, 0, 0, 0), 0), (44, (.ior, 0, 0, 0), 0), (45, (.istore_n 1, 0, 0, 0), 0), (46, (.iinc 2 1, 0, 0, 0), 0), (49, (.goto (-36), 13, 0, 0), 0), (52, (.iload_n 1, 0, 0, 0), 0), (53, (.ireturn, 0, 0, 0), 0)]
def m_X3_sparedSet : ex_M := (RX3, yX3_sparedSet, cX3_sparedSet, 3, some .int, 1, [], ex_cd q_X3_sparedSet)
def q_X3_trialIsAsGood : List (Nat × ex_I × Nat) := [(0, (.iconst 0, 0, 0, 0), 0), (1, (.istore_n 2, 0, 0, 0), 0), (2, (.iload_n 2, 0, 0, 0), 0), (3, (.aload_n 0, 0, 0, 0), 0), (4, (.getfield 50, 3, 0, 0), 53), (7, (.if_icmp .ge 34, 41, 0, 0), 0), (10, (.iload_n 2, 0, 0, 0), 0), (11, (.iload_n 1, 0, 0, 0), 0), (12, (.if_icmp .eq 23, 35, 0, 0), 0), (15, (.aload_n 0, 0, 0, 0), 0), (16, (.getfield 38, 3, 9, 0), 78), (19, (.iload_n 2, 0, 0, 0), 0), (20, (.iaload, 0, 0, 0), 0), (21, (.aload_n 0, 0, 0, 0), 0), (22, (.getfield 41, 3, 10, 0), 79), (25, (.iload_n 2, 0, 0, 0), 0), (26, (.iaload, 0, 0, 0), 0), (27, (.iconst (-1), 0, 0, 0), 0), (28, (.ixor, 0, 0, 0), 0), (29, (.iand, 0, 0, 0), 0), (30, (.ifCond .eq 5, 35, 0, 0), 0), (33, (.iconst 0, 0, 0, 0), 0), (34, (.ireturn, 0, 0, 0), 0), (35, (.iinc 2 1, 0, 0, 0), 0), (38, (.goto (-36), 2, 0, 0), 0), (41, (.iconst 1, 0, 0, 0), 0), (42, (.ireturn, 0, 0, 0), 0)]
def m_X3_trialIsAsGood : ex_M := (RX3, yX3_trialIsAsGood, cX3_trialIsAsGood, 3, some .boolean, 2, [], ex_cd q_X3_trialIsAsGood)
def q_X3_firstTellable : List (Nat × ex_I × Nat) := [(0, (.iconst 0, 0, 0, 0), 0), (1, (.istore_n 2, 0, 0, 0), 0), (2, (.iload_n 2, 0, 0, 0), 0), (3, (.iconst 4, 0, 0, 0), 0), (4, (.if_icmp .ge 30, 34, 0, 0), 0), (7, (.iload_n 1, 0, 0, 0), 0), (8, (.iload_n 2, 0, 0, 0), 0), (9, (.invokestatic 60, 49, 1, 0), 7), (12, (.ifCond .eq 16, 28, 0, 0), 0), (15, (.aload_n 0, 0, 0, 0), 0), (16, (.getfield 28, 3, 7, 0), 73), (19, (.iload_n 2, 0, 0, 0), 0), (20, (.iaload, 0, 0, 0), 0), (21, (.iload_n 1, 0, 0, 0), 0), (22, (.iand, 0, 0, 0), 0), (23, (.ifCond .ne 5, 28, 0, 0), 0), (26, (.iload_n 2, 0, 0, 0), 0), (27, (.ireturn, 0, 0, 0), 0), (28, (.iinc 2 1, 0, 0, 0), 0), (31, (.goto (-29), 2, 0, 0), 0), (34, (.bipush (-4), 0, 0, 0), 0), (36, (.ireturn, 0, 0, 0), 0)]
def m_X3_firstTellable : ex_M := (RX3, yX3_firstTellable, cX3_firstTellable, 3, some .int, 2, [], ex_cd q_X3_firstTellable)
def q_X3_drawLesson : List (Nat × ex_I × Nat) := [(0, (.aload_n 0, 0, 0, 0), 0), (1, (.invokevirtual 139, 75, 0, 3), 598), (4, (.istore_n 1, 0, 0, 0), 0), (5, (.iload_n 1, 0, 0, 0), 0), (6, (.ifCond .ne 5, 11, 0, 0), 0), (9, (.iconst 0, 0, 0, 0), 0), (10, (.ireturn, 0, 0, 0), 0), (11, (.aload_n 0, 0, 0, 0), 0), (12, (.aload_n 0, 0, 0, 0), 0), (13, (.getfield 9, 3, 2, 0), 59), (16, (.ldc 143, 0, 0, 1103515245), 603), (18, (.imul, 0, 0, 0), 0), (19, (.sipush 12345, 0, 0, 0), 0), (22, (.iadd, 0, 0, 0), 0), (23, (.ldc 144, 0, 0, 2147483647), 604), (25, (.iand, 0, 0, 0), 0), (26, (.putfield 9, 3, 2, 0), 59), (29, (.aload_n 0, 0, 0, 0), 0), (30, (.aload_n 0, 0, 0, 0), 0), (31, (.getfield 44, 3, 11, 0), 80), (34, (.aload_n 0, 0, 0, 0), 0), (35, (.getfield 9, 3, 2, 0), 59), (38, (.ldc 145, 0, 0, 65536), 605), (40, (.idiv, 0, 0, 0), 0), (41, (.iload_n 1, 0, 0, 0), 0), (42, (.irem, 0, 0, 0), 0), (43, (.iaload, 0, 0, 0), 0), (44, (.invokevirtual 128, 68, 0, 3), 456), (47, (.iconst 1, 0, 0, 0), 0), (48, (.ireturn, 0, 0, 0), 0)]
def m_X3_drawLesson : ex_M := (RX3, yX3_drawLesson, cX3_drawLesson, 2, some .boolean, 1, [], ex_cd q_X3_drawLesson)
def q_X3_listChoices : List (Nat × ex_I × Nat) := [(0, (.iconst 0, 0, 0, 0), 0), (1, (.istore_n 1, 0, 0, 0), 0), (2, (.iconst 0, 0, 0, 0), 0), (3, (.istore_n 2, 0, 0, 0), 0), (4, (.iload_n 2, 0, 0, 0), 0), (5, (.sipush 144, 0, 0, 0), 0), (8, (.if_icmp .ge 50, 58, 0, 0), 0), (11, (.aload_n 0, 0, 0, 0), 0), (12, (.iload_n 2, 0, 0, 0), 0), (13, (.invokestatic 94, 52, 1, 0), 12), (16, (.iload_n 2, 0, 0, 0), 0), (17, (.invokestatic 97, 53, 1, 0), 13), (20, (.iload_n 2, 0, 0, 0), 0), (21, (.invokestatic 100, 54, 1, 0), 14), (24, (.invokevirtual 146, 58, 0, 3), 602), (27, (.ifCond .eq 25, 52, 0, 0), 0), (30, (.aload_n 0, 0, 0, 0), 0), (31, (.aload_n 0, 0, 0, 0), 0), (32, (.getfield 22, 3, 5, 0), 65), (35, (.iload_n 2, 0, 0, 0), 0), (36, (.invokevirtual 124, 67, 0, 3), 455), (39, (.ifCond .eq 13, 52, 0, 0), 0), (42, (.aload_n 0, 0, 0, 0), 0), (43, (.getfield 44, 3, 11, 0), 80), (46, (.iload_n 1, 0, 0, 0), 0), (47, (.iinc 1 1, 0, 0, 0), 0), (50, (.iload_n 2, 0, 0, 0), 0), (51, (.iastore, 0, 0, 0), 0), (52, (.iinc 2 1, 0, 0, 0), 0), (55, (.goto (-51), 4, 0, 0), 0), (58, (.iload_n 1, 0, 0, 0), 0), (59, (.ireturn, 0, 0, 0), 0)]
def m_X3_listChoices : ex_M := (RX3, yX3_listChoices, cX3_listChoices, 3, some .int, 1, [], ex_cd q_X3_listChoices)
def q_X3_holdHour : List (Nat × ex_I × Nat) := [(0, (.iconst 0, 0, 0, 0), 0), (1, (.istore 4, 0, 0, 0), 0), (3, (.iconst 0, 0, 0, 0), 0), (4, (.istore 5, 0, 0, 0), 0), (6, (.iload 5, 0, 0, 0), 0), (8, (.iload_n 3, 0, 0, 0), 0), (9, (.if_icmp .ge 108, 117, 0, 0), 0), (12, (.iload_n 2, 0, 0, 0), 0), (13, (.iconst 3, 0, 0, 0), 0), (14, (.iload 5, 0, 0, 0), 0), (16, (.imul, 0, 0, 0), 0), (17, (.iadd, 0, 0, 0), 0), (18, (.istore 6, 0, 0, 0), 0), (20, (.aload_n 0, 0, 0, 0), 0), (21, (.aload_n 1, 0, 0, 0), 0), (22, (.iload 6, 0, 0, 0), 0), (24, (.iaload, 0, 0, 0), 0), (25, (.aload_n 1, 0, 0, 0), 0), (26, (.iload 6, 0, 0, 0), 0), (28, (.iconst 1, 0, 0, 0), 0), (29, (.iadd, 0, 0, 0), 0), (30, (.iaload, 0, 0, 0), 0), (31, (.aload_n 1, 0, 0, 0), 0), (32, (.iload 6, 0, 0, 0), 0), (34, (.iconst 2, 0, 0, 0), 0), (35, (.iadd, 0, 0, 0), 0), (36, (.iaload, 0, 0, 0), 0), (37, (.invokevirtual 146, 58, 0, 3), 602), (40, (.ifCond .ne 5, 45, 0, 0), 0), (43, (.iconst 0, 0, 0, 0), 0), (44, (.ireturn, 0, 0, 0), 0), (45, (.aload_n 1, 0, 0, 0), 0), (46, (.iload 6, 0, 0, 0), 0), (48, (.iaload, 0, 0, 0), 0), (49, (.aload_n 1, 0, 0, 0), 0), (50, (.iload 6, 0, 0, 0), 0), (52, (.iconst 1, 0, 0, 0), 0), (53, (.iadd, 0, 0, 0), 0), (54, (.iaload, 0, 0, 0), 0), (55, (.aload_n 1, 0, 0, 0), 0), (56, (.iload 6, 0, 0, 0), 0), (58, (.iconst 2, 0, 0, 0), 0), (59, (.iadd, 0, 0, 0), 0), (60, (.iaload, 0, 0, 0), 0), (61, (.invokestatic 150, 51, 1, 0), 20), (64, (.istore 7, 0, 0, 0), 0), (66, (.iload 4, 0, 0, 0), 0), (68, (.iload 7, 0, 0, 0), 0), (70, (.invokestatic 121, 55, 1, 0), 16), (73, (.iand, 0, 0, 0), 0), (74, (.ifCond .ne 16, 90, 0, 0), 0), (77, (.aload_n 0, 0, 0, 0), 0), (78, (.aload_n 0, 0, 0, 0), 0), (79, (.getfield 22, 3, 5, 0), 65), (82, (.iload 7, 0, 0, 0), 0), (84, (.invokevirtual 124, 67, 0, 3), 455), (87, (.ifCond .ne 5, 92, 0, 0), 0), (90, (.iconst 0, 0, 0, 0), 0), (91, (.ireturn, 0, 0, 0), 0), (92, (.iload 4, 0, 0, 0), 0), (94, (.iload 7, 0, 0, 0), 0), (96, (.invokestatic 121, 55, 1, 0), 16), (99, (.ior, 0, 0, 0), 0), (100, (.istore 4, 0, 0, 0), 0), (102, (.aload_n 0, 0, 0, 0), 0), (103, (.getfield 47, 3, 12, 0), 81), (106, (.iload 5, 0, 0, 0), 0), (108, (.iload 7, 0, 0, 0), 0), (110, (.iastore, 0, 0, 0), 0), (111, (.iinc 5 1, 0, 0, 0), 0), (114, (.goto (-108), 6, 0, 0), 0), (117, (.iconst 0, 0, 0, 0), 0), (118, (.istore 5, 0, 0, 0), 0), (120, (.iload 5, 0, 0, 0), 0), (122, (.iload_n 3, 0, 0, 0), 0), (123, (.if_icmp .ge 20, 143, 0, 0), 0), (126, (.aload_n 0, 0, 0, 0), 0), (127, (.aload_n 0, 0, 0, 0), 0), (128, (.getfield 47, 3, 12, 0), 81), (131, (.iload 5, 0, 0, 0), 0), (133, (.iaload, 0, 0, 0), 0), (134, (.invokevirtual 128, 68, 0, 3), 456), (137, (.iinc 5 1, 0, 0, 0), 0), (140, (.goto (-20), 120, 0, 0), 0), (143, (.iconst 1, 0, 0, 0), 0), (144, (.ireturn, 0, 0, 0), 0)]
def m_X3_holdHour : ex_M := (RX3, yX3_holdHour, cX3_holdHour, 8, some .boolean, 4, [], ex_cd q_X3_holdHour)
def q_X1_init : List (Nat × ex_I × Nat) := [(0, (.aload_n 0, 0, 0, 0), 0), (1, (.invokespecial 3, 0, 2, 0), 114), (4, (.aload_n 0, 0, 0, 0), 0), (5, (.bipush 6, 0, 0, 0), 0), (7, (.newarray .int, 0, 0, 0), 0), (9, (.putfield 9, 1, 0, 2), 117), (12, (.aload_n 0, 0, 0, 0), 0), (13, (.bipush 6, 0, 0, 0), 0), (15, (.newarray .int, 0, 0, 0), 0), (17, (.putfield 15, 1, 1, 2), 119), (20, (.aload_n 0, 0, 0, 0), 0), (21, (.new 18, 0, 0, 0), 115), (24, (.dup, 0, 0, 0), 0), (25, (.invokespecial 20, 7, 1, 0), 3), (28, (.putfield 21, 1, 2, 2), 121), (31, (.aload_n 0, 0, 0, 0), 0), (32, (.sipush 160, 0, 0, 0), 0), (35, (.newarray .byte, 0, 0, 0), 0), (37, (.putfield 25, 1, 3, 2), 123), (40, (.return_, 0, 0, 0), 0)]
def m_X1_init : ex_M := (RX1, yX1_init, cX1_init, 1, none, 1, [], ex_cd q_X1_init)
def q_X1_append : List (Nat × ex_I × Nat) := [(0, (.iconst 0, 0, 0, 0), 0), (1, (.istore 4, 0, 0, 0), 0), (3, (.iload 4, 0, 0, 0), 0), (5, (.iload_n 3, 0, 0, 0), 0), (6, (.if_icmp .ge 33, 39, 0, 0), 0), (9, (.lload_n 1, 0, 0, 0), 0), (10, (.iload 4, 0, 0, 0), 0), (12, (.invokestatic 29, 79, 0, 0), 301), (15, (.istore 5, 0, 0, 0), 0), (17, (.iload 5, 0, 0, 0), 0), (19, (.bipush 32, 0, 0, 0), 0), (21, (.if_icmp .lt 10, 31, 0, 0), 0), (24, (.iload 5, 0, 0, 0), 0), (26, (.bipush 126, 0, 0, 0), 0), (28, (.if_icmp .le 5, 33, 0, 0), 0), (31, (.iconst (-1), 0, 0, 0), 0), (32, (.ireturn, 0, 0, 0), 0), (33, (.iinc 4 1, 0, 0, 0), 0), (36, (.goto (-33), 3, 0, 0), 0), (39, (.aload_n 0, 0, 0, 0), 0), (40, (.getfield 33, 1, 4, 0), 124), (43, (.iload_n 3, 0, 0, 0), 0), (44, (.iadd, 0, 0, 0), 0), (45, (.sipush 160, 0, 0, 0), 0), (48, (.if_icmp .le 6, 54, 0, 0), 0), (51, (.bipush (-3), 0, 0, 0), 0), (53, (.ireturn, 0, 0, 0), 0), (54, (.iload_n 3, 0, 0, 0), 0), (55, (.iconst 1, 0, 0, 0), 0), (56, (.isub, 0, 0, 0), 0), (57, (.istore 4, 0, 0, 0), 0), (59, (.iload 4, 0, 0, 0), 0), (61, (.ifCond .lt 32, 93, 0, 0), 0), (64, (.aload_n 0, 0, 0, 0), 0), (65, (.getfield 25, 1, 3, 0), 123), (68, (.aload_n 0, 0, 0, 0), 0), (69, (.dup, 0, 0, 0), 0), (70, (.getfield 33, 1, 4, 0), 124), (73, (.dup_x1, 0, 0, 0), 0), (74, (.iconst 1, 0, 0, 0), 0), (75, (.iadd, 0, 0, 0), 0), (76, (.putfield 33, 1, 4, 0), 124), (79, (.lload_n 1, 0, 0, 0), 0), (80, (.iload 4, 0, 0, 0), 0), (82, (.invokestatic 29, 79, 0, 0), 301), (85, (.i2b, 0, 0, 0), 0), (86, (.bastore, 0, 0, 0), 0), (87, (.iinc 4 (-1), 0, 0, 0), 0), (90, (.goto (-31), 59, 0, 0), 0), (93, (.aload_n 0, 0, 0, 0), 0), (94, (.getfield 33, 1, 4, 0), 124), (97, (.ireturn, 0, 0, 0), 0)]
def m_X1_append : ex_M := (RX1, yX1_append, cX1_append, 6, some .int, 3, [1], ex_cd q_X1_append)
def q_X1_signOf : List (Nat × ex_I × Nat) := [(0, (.lload_n 0, 0, 0, 0), 0), (1, (.bipush 8, 0, 0, 0), 0), (3, (.iload_n 2, 0, 0, 0), 0), (4, (.imul, 0, 0, 0), 0), (5, (.lshr, 0, 0, 0), 0), (6, (.ldc2_w 37, 0, 0, 255), 304), (9, (.land, 0, 0, 0), 0), (10, (.l2i, 0, 0, 0), 0), (11, (.ireturn, 0, 0, 0), 0)]
def m_X1_signOf : ex_M := (RX1, yX1_signOf, cX1_signOf, 3, some .int, 2, [0], ex_cd q_X1_signOf)
def q_X1_clear : List (Nat × ex_I × Nat) := [(0, (.aload_n 0, 0, 0, 0), 0), (1, (.iconst 0, 0, 0, 0), 0), (2, (.putfield 33, 1, 4, 0), 124), (5, (.return_, 0, 0, 0), 0)]
def m_X1_clear : ex_M := (RX1, yX1_clear, cX1_clear, 1, none, 1, [], ex_cd q_X1_clear)
def q_X1_rewind : List (Nat × ex_I × Nat) := [(0, (.aload_n 0, 0, 0, 0), 0), (1, (.iconst 0, 0, 0, 0), 0), (2, (.putfield 39, 1, 5, 0), 125), (5, (.aload_n 0, 0, 0, 0), 0), (6, (.invokevirtual 42, 83, 0, 1), 317), (9, (.return_, 0, 0, 0), 0)]
def m_X1_rewind : ex_M := (RX1, yX1_rewind, cX1_rewind, 1, none, 1, [], ex_cd q_X1_rewind)
def q_X1_step : List (Nat × ex_I × Nat) := [(0, (.aload_n 0, 0, 0, 0), 0), (1, (.dup, 0, 0, 0), 0), (2, (.getfield 39, 1, 5, 0), 125), (5, (.iconst 1, 0, 0, 0), 0), (6, (.iadd, 0, 0, 0), 0), (7, (.putfield 39, 1, 5, 0), 125), (10, (.aload_n 0, 0, 0, 0), 0), (11, (.invokevirtual 42, 83, 0, 1), 317), (14, (.return_, 0, 0, 0), 0)]
def m_X1_step : ex_M := (RX1, yX1_step, cX1_step, 1, none, 1, [], ex_cd q_X1_step)
def q_X1_skipBlanks : List (Nat × ex_I × Nat) := [(0, (.aload_n 0, 0, 0, 0), 0), (1, (.getfield 39, 1, 5, 0), 125), (4, (.aload_n 0, 0, 0, 0), 0), (5, (.getfield 33, 1, 4, 0), 124), (8, (.if_icmp .ge 30, 38, 0, 0), 0), (11, (.aload_n 0, 0, 0, 0), 0), (12, (.getfield 25, 1, 3, 0), 123), (15, (.aload_n 0, 0, 0, 0), 0), (16, (.getfield 39, 1, 5, 0), 125), (19, (.baload, 0, 0, 0), 0), (20, (.bipush 32, 0, 0, 0), 0), (22, (.if_icmp .ne 16, 38, 0, 0), 0), (25, (.aload_n 0, 0, 0, 0), 0), (26, (.dup, 0, 0, 0), 0), (27, (.getfield 39, 1, 5, 0), 125), (30, (.iconst 1, 0, 0, 0), 0), (31, (.iadd, 0, 0, 0), 0), (32, (.putfield 39, 1, 5, 0), 125), (35, (.goto (-35), 0, 0, 0), 0), (38, (.return_, 0, 0, 0), 0)]
def m_X1_skipBlanks : ex_M := (RX1, yX1_skipBlanks, cX1_skipBlanks, 1, none, 1, [], ex_cd q_X1_skipBlanks)
def q_X1_sign : List (Nat × ex_I × Nat) := [(0, (.aload_n 0, 0, 0, 0), 0), (1, (.getfield 39, 1, 5, 0), 125), (4, (.aload_n 0, 0, 0, 0), 0), (5, (.getfield 33, 1, 4, 0), 124), (8, (.if_icmp .ge 15, 23, 0, 0), 0), (11, (.aload_n 0, 0, 0, 0), 0), (12, (.getfield 25, 1, 3, 0), 123), (15, (.aload_n 0, 0, 0, 0), 0), (16, (.getfield 39, 1, 5, 0), 125), (19, (.baload, 0, 0, 0), 0), (20, (.goto 4, 24, 0, 0), 0), (23, (.iconst (-1), 0, 0, 0), 0), (24, (.ireturn, 0, 0, 0), 0)]
def m_X1_sign : ex_M := (RX1, yX1_sign, cX1_sign, 1, some .int, 1, [], ex_cd q_X1_sign)
def q_X1_takes : List (Nat × ex_I × Nat) := [(0, (.aload_n 0, 0, 0, 0), 0), (1, (.invokevirtual 45, 84, 0, 1), 325), (4, (.iload_n 1, 0, 0, 0), 0), (5, (.if_icmp .eq 5, 10, 0, 0), 0), (8, (.iconst 0, 0, 0, 0), 0), (9, (.ireturn, 0, 0, 0), 0), (10, (.aload_n 0, 0, 0, 0), 0), (11, (.invokevirtual 49, 82, 0, 1), 329), (14, (.iconst 1, 0, 0, 0), 0), (15, (.ireturn, 0, 0, 0), 0)]
def m_X1_takes : ex_M := (RX1, yX1_takes, cX1_takes, 2, some .boolean, 2, [], ex_cd q_X1_takes)
def q_X1_fault : List (Nat × ex_I × Nat) := [(0, (.bipush (-20), 0, 0, 0), 0), (2, (.aload_n 0, 0, 0, 0), 0), (3, (.getfield 39, 1, 5, 0), 125), (6, (.isub, 0, 0, 0), 0), (7, (.ireturn, 0, 0, 0), 0)]
def m_X1_fault : ex_M := (RX1, yX1_fault, cX1_fault, 1, some .int, 1, [], ex_cd q_X1_fault)
def q_X1_readSchool : List (Nat × ex_I × Nat) := [(0, (.aload_n 0, 0, 0, 0), 0), (1, (.invokevirtual 52, 81, 0, 1), 313), (4, (.iconst 0, 0, 0, 0), 0), (5, (.istore_n 1, 0, 0, 0), 0), (6, (.iload_n 1, 0, 0, 0), 0), (7, (.bipush 6, 0, 0, 0), 0), (9, (.if_icmp .ge 80, 89, 0, 0), 0), (12, (.iload_n 1, 0, 0, 0), 0), (13, (.ifCond .le 17, 30, 0, 0), 0), (16, (.aload_n 0, 0, 0, 0), 0), (17, (.bipush 44, 0, 0, 0), 0), (19, (.invokevirtual 55, 85, 0, 1), 321), (22, (.ifCond .ne 8, 30, 0, 0), 0), (25, (.aload_n 0, 0, 0, 0), 0), (26, (.invokevirtual 59, 86, 0, 1), 333), (29, (.ireturn, 0, 0, 0), 0), (30, (.aload_n 0, 0, 0, 0), 0), (31, (.getfield 9, 1, 0, 0), 117), (34, (.iload_n 1, 0, 0, 0), 0), (35, (.aload_n 0, 0, 0, 0), 0), (36, (.invokevirtual 45, 84, 0, 1), 325), (39, (.invokestatic 62, 88, 0, 0), 337), (42, (.iastore, 0, 0, 0), 0), (43, (.aload_n 0, 0, 0, 0), 0), (44, (.getfield 9, 1, 0, 0), 117), (47, (.iload_n 1, 0, 0, 0), 0), (48, (.iaload, 0, 0, 0), 0), (49, (.ifCond .ge 8, 57, 0, 0), 0), (52, (.aload_n 0, 0, 0, 0), 0), (53, (.invokevirtual 59, 86, 0, 1), 333), (56, (.ireturn, 0, 0, 0), 0), (57, (.aload_n 0, 0, 0, 0), 0), (58, (.invokevirtual 49, 82, 0, 1), 329), (61, (.aload_n 0, 0, 0, 0), 0), (62, (.getfield 15, 1, 1, 0), 119), (65, (.iload_n 1, 0, 0, 0), 0), (66, (.aload_n 0, 0, 0, 0), 0), (67, (.invokevirtual 66, 89, 0, 1), 340), (70, (.iastore, 0, 0, 0), 0), (71, (.aload_n 0, 0, 0, 0), 0), (72, (.invokevirtual 45, 84, 0, 1), 325), (75, (.iconst (-1), 0, 0, 0), 0), (76, (.if_icmp .ne 7, 83, 0, 0), 0), (79, (.iload_n 1, 0, 0, 0), 0), (80, (.iconst 1, 0, 0, 0), 0), (81, (.iadd, 0, 0, 0), 0), (82, (.ireturn, 0, 0, 0), 0), (83, (.iinc 1 1, 0, 0, 0), 0), (86, (.goto (-80), 6, 0, 0), 0), (89, (.aload_n 0, 0, 0, 0), 0), (90, (.invokevirtual 59, 86, 0, 1), 333), (93, (.ireturn, 0, 0, 0), 0)]
def m_X1_readSchool : ex_M := (RX1, yX1_readSchool, cX1_readSchool, 2, some .int, 1, [], ex_cd q_X1_readSchool)
def q_X1_kindOf : List (Nat × ex_I × Nat) := [(0, (.iload_n 0, 0, 0, 0), 0), (1, (.lookupswitch 51 #[(104, 45), (108, 47), (112, 43), (119, 49)], 0, 0, 0), 0), (44, (.iconst 0, 0, 0, 0), 0), (45, (.ireturn, 0, 0, 0), 0), (46, (.iconst 1, 0, 0, 0), 0), (47, (.ireturn, 0, 0, 0), 0), (48, (.iconst 2, 0, 0, 0), 0), (49, (.ireturn, 0, 0, 0), 0), (50, (.iconst 3, 0, 0, 0), 0), (51, (.ireturn, 0, 0, 0), 0), (52, (.bipush (-4), 0, 0, 0), 0), (54, (.ireturn, 0, 0, 0), 0)]
def m_X1_kindOf : ex_M := (RX1, yX1_kindOf, cX1_kindOf, 1, some .int, 1, [], ex_cd q_X1_kindOf)
def q_X1_readThings : List (Nat × ex_I × Nat) := [(0, (.iconst 0, 0, 0, 0), 0), (1, (.istore_n 1, 0, 0, 0), 0), (2, (.iconst 0, 0, 0, 0), 0), (3, (.istore_n 2, 0, 0, 0), 0), (4, (.iload_n 2, 0, 0, 0), 0), (5, (.iconst 4, 0, 0, 0), 0), (6, (.if_icmp .ge 44, 50, 0, 0), 0), (9, (.aload_n 0, 0, 0, 0), 0), (10, (.invokevirtual 45, 84, 0, 1), 325), (13, (.bipush 97, 0, 0, 0), 0), (15, (.isub, 0, 0, 0), 0), (16, (.istore_n 3, 0, 0, 0), 0), (17, (.iload_n 3, 0, 0, 0), 0), (18, (.invokestatic 69, 45, 1, 0), 8), (21, (.ifCond .eq 11, 32, 0, 0), 0), (24, (.iload_n 1, 0, 0, 0), 0), (25, (.iload_n 3, 0, 0, 0), 0), (26, (.invokestatic 72, 49, 1, 0), 9), (29, (.ifCond .eq 5, 34, 0, 0), 0), (32, (.iload_n 1, 0, 0, 0), 0), (33, (.ireturn, 0, 0, 0), 0), (34, (.iload_n 1, 0, 0, 0), 0), (35, (.iconst 1, 0, 0, 0), 0), (36, (.iload_n 3, 0, 0, 0), 0), (37, (.ishl, 0, 0, 0), 0), (38, (.ior, 0, 0, 0), 0), (39, (.istore_n 1, 0, 0, 0), 0), (40, (.aload_n 0, 0, 0, 0), 0), (41, (.invokevirtual 49, 82, 0, 1), 329), (44, (.iinc 2 1, 0, 0, 0), 0), (47, (.goto (-43), 4, 0, 0), 0), (50, (.iload_n 1, 0, 0, 0), 0), (51, (.ireturn, 0, 0, 0), 0)]
def m_X1_readThings : ex_M := (RX1, yX1_readThings, cX1_readThings, 4, some .int, 1, [], ex_cd q_X1_readThings)
def q_X1_readPlan : List (Nat × ex_I × Nat) := [(0, (.aload_n 0, 0, 0, 0), 0), (1, (.invokevirtual 52, 81, 0, 1), 313), (4, (.aload_n 0, 0, 0, 0), 0), (5, (.getfield 21, 1, 2, 0), 121), (8, (.invokevirtual 76, 8, 0, 0), 367), (11, (.iconst 0, 0, 0, 0), 0), (12, (.istore_n 2, 0, 0, 0), 0), (13, (.iload_n 2, 0, 0, 0), 0), (14, (.bipush 24, 0, 0, 0), 0), (16, (.if_icmp .ge 89, 105, 0, 0), 0), (19, (.iload_n 2, 0, 0, 0), 0), (20, (.ifCond .eq 12, 32, 0, 0), 0), (23, (.aload_n 0, 0, 0, 0), 0), (24, (.bipush 59, 0, 0, 0), 0), (26, (.invokevirtual 55, 85, 0, 1), 321), (29, (.ifCond .eq 7, 36, 0, 0), 0), (32, (.iconst 1, 0, 0, 0), 0), (33, (.goto 4, 37, 0, 0), 0), (36, (.iconst 0, 0, 0, 0), 0), (37, (.istore_n 3, 0, 0, 0), 0), (38, (.iload_n 3, 0, 0, 0), 0), (39, (.ifCond .ne 17, 56, 0, 0), 0), (42, (.aload_n 0, 0, 0, 0), 0), (43, (.bipush 44, 0, 0, 0), 0), (45, (.invokevirtual 55, 85, 0, 1), 321), (48, (.ifCond .ne 8, 56, 0, 0), 0), (51, (.aload_n 0, 0, 0, 0), 0), (52, (.invokevirtual 59, 86, 0, 1), 333), (55, (.ireturn, 0, 0, 0), 0), (56, (.aload_n 0, 0, 0, 0), 0), (57, (.iload_n 1, 0, 0, 0), 0), (58, (.invokevirtual 79, 91, 0, 1), 368), (61, (.istore 4, 0, 0, 0), 0), (63, (.iload 4, 0, 0, 0), 0), (65, (.ifCond .ge 8, 73, 0, 0), 0), (68, (.aload_n 0, 0, 0, 0), 0), (69, (.invokevirtual 59, 86, 0, 1), 333), (72, (.ireturn, 0, 0, 0), 0), (73, (.aload_n 0, 0, 0, 0), 0), (74, (.getfield 21, 1, 2, 0), 121), (77, (.iload 4, 0, 0, 0), 0), (79, (.iload_n 3, 0, 0, 0), 0), (80, (.invokevirtual 82, 10, 0, 0), 375), (83, (.aload_n 0, 0, 0, 0), 0), (84, (.invokevirtual 45, 84, 0, 1), 325), (87, (.iconst (-1), 0, 0, 0), 0), (88, (.if_icmp .ne 11, 99, 0, 0), 0), (91, (.aload_n 0, 0, 0, 0), 0), (92, (.getfield 21, 1, 2, 0), 121), (95, (.getfield 86, 0, 0, 0), 35), (98, (.ireturn, 0, 0, 0), 0), (99, (.iinc 2 1, 0, 0, 0), 0), (102, (.goto (-89), 13, 0, 0), 0), (105, (.aload_n 0, 0, 0, 0), 0), (106, (.invokevirtual 59, 86, 0, 1), 333), (109, (.ireturn, 0, 0, 0), 0)]
def m_X1_readPlan : ex_M := (RX1, yX1_readPlan, cX1_readPlan, 5, some .int, 2, [], ex_cd q_X1_readPlan)
def q_X1_readTeaching : List (Nat × ex_I × Nat) := [(0, (.aload_n 0, 0, 0, 0), 0), (1, (.invokevirtual 45, 84, 0, 1), 325), (4, (.bipush 48, 0, 0, 0), 0), (6, (.isub, 0, 0, 0), 0), (7, (.istore_n 2, 0, 0, 0), 0), (8, (.iload_n 2, 0, 0, 0), 0), (9, (.ifCond .lt 8, 17, 0, 0), 0), (12, (.iload_n 2, 0, 0, 0), 0), (13, (.iload_n 1, 0, 0, 0), 0), (14, (.if_icmp .lt 6, 20, 0, 0), 0), (17, (.bipush (-4), 0, 0, 0), 0), (19, (.ireturn, 0, 0, 0), 0), (20, (.aload_n 0, 0, 0, 0), 0), (21, (.invokevirtual 49, 82, 0, 1), 329), (24, (.aload_n 0, 0, 0, 0), 0), (25, (.bipush 62, 0, 0, 0), 0), (27, (.invokevirtual 55, 85, 0, 1), 321), (30, (.ifCond .ne 6, 36, 0, 0), 0), (33, (.bipush (-4), 0, 0, 0), 0), (35, (.ireturn, 0, 0, 0), 0), (36, (.aload_n 0, 0, 0, 0), 0), (37, (.invokevirtual 45, 84, 0, 1), 325), (40, (.bipush 48, 0, 0, 0), 0), (42, (.isub, 0, 0, 0), 0), (43, (.istore_n 3, 0, 0, 0), 0), (44, (.iload_n 3, 0, 0, 0), 0), (45, (.ifCond .lt 13, 58, 0, 0), 0), (48, (.iload_n 3, 0, 0, 0), 0), (49, (.iload_n 1, 0, 0, 0), 0), (50, (.if_icmp .ge 8, 58, 0, 0), 0), (53, (.iload_n 3, 0, 0, 0), 0), (54, (.iload_n 2, 0, 0, 0), 0), (55, (.if_icmp .ne 6, 61, 0, 0), 0), (58, (.bipush (-4), 0, 0, 0), 0), (60, (.ireturn, 0, 0, 0), 0), (61, (.aload_n 0, 0, 0, 0), 0), (62, (.invokevirtual 49, 82, 0, 1), 329), (65, (.aload_n 0, 0, 0, 0), 0), (66, (.invokevirtual 45, 84, 0, 1), 325), (69, (.bipush 97, 0, 0, 0), 0), (71, (.isub, 0, 0, 0), 0), (72, (.istore 4, 0, 0, 0), 0), (74, (.iload 4, 0, 0, 0), 0), (76, (.invokestatic 69, 45, 1, 0), 8), (79, (.ifCond .ne 6, 85, 0, 0), 0), (82, (.bipush (-4), 0, 0, 0), 0), (84, (.ireturn, 0, 0, 0), 0), (85, (.aload_n 0, 0, 0, 0), 0), (86, (.invokevirtual 49, 82, 0, 1), 329), (89, (.iload_n 2, 0, 0, 0), 0), (90, (.iload_n 3, 0, 0, 0), 0), (91, (.iload 4, 0, 0, 0), 0), (93, (.invokestatic 87, 51, 1, 0), 10), (96, (.ireturn, 0, 0, 0), 0)]
def m_X1_readTeaching : ex_M := (RX1, yX1_readTeaching, cX1_readTeaching, 5, some .int, 2, [], ex_cd q_X1_readTeaching)
def q_X4_init : List (Nat × ex_I × Nat) := [(0, (.aload_n 0, 0, 0, 0), 0), (1, (.invokespecial 3, 0, 2, 0), 145), (4, (.aload_n 0, 0, 0, 0), 0), (5, (.iconst 4, 0, 0, 0), 0), (6, (.newarray .int, 0, 0, 0), 0), (8, (.putfield 9, 4, 0, 2), 146), (11, (.aload_n 0, 0, 0, 0), 0), (12, (.bipush 6, 0, 0, 0), 0), (14, (.newarray .int, 0, 0, 0), 0), (16, (.putfield 15, 4, 1, 2), 147), (19, (.aload_n 0, 0, 0, 0), 0), (20, (.bipush 6, 0, 0, 0), 0), (22, (.newarray .int, 0, 0, 0), 0), (24, (.putfield 18, 4, 2, 2), 148), (27, (.aload_n 0, 0, 0, 0), 0), (28, (.sipush 468, 0, 0, 0), 0), (31, (.newarray .int, 0, 0, 0), 0), (33, (.putfield 21, 4, 3, 2), 149), (36, (.aload_n 0, 0, 0, 0), 0), (37, (.bipush 78, 0, 0, 0), 0), (39, (.newarray .int, 0, 0, 0), 0), (41, (.putfield 24, 4, 4, 2), 150), (44, (.aload_n 0, 0, 0, 0), 0), (45, (.sipush 4096, 0, 0, 0), 0), (48, (.newarray .byte, 0, 0, 0), 0), (50, (.putfield 27, 4, 5, 2), 151), (53, (.return_, 0, 0, 0), 0)]
def m_X4_init : ex_M := (RX4, yX4_init, cX4_init, 1, none, 1, [], ex_cd q_X4_init)
def q_X4_fewest : List (Nat × ex_I × Nat) := [(0, (.aload_n 0, 0, 0, 0), 0), (1, (.aload_n 1, 0, 0, 0), 0), (2, (.iload_n 2, 0, 0, 0), 0), (3, (.invokevirtual 31, 94, 0, 4), 466), (6, (.istore_n 3, 0, 0, 0), 0), (7, (.iload_n 3, 0, 0, 0), 0), (8, (.aload_n 0, 0, 0, 0), 0), (9, (.getfield 35, 4, 8, 0), 154), (12, (.if_icmp .ne 5, 17, 0, 0), 0), (15, (.iconst 0, 0, 0, 0), 0), (16, (.ireturn, 0, 0, 0), 0), (17, (.aload_n 0, 0, 0, 0), 0), (18, (.iload_n 3, 0, 0, 0), 0), (19, (.invokevirtual 39, 98, 0, 4), 481), (22, (.aload_n 0, 0, 0, 0), 0), (23, (.getfield 35, 4, 8, 0), 154), (26, (.if_icmp .eq 6, 32, 0, 0), 0), (29, (.bipush (-4), 0, 0, 0), 0), (31, (.ireturn, 0, 0, 0), 0), (32, (.aload_n 0, 0, 0, 0), 0), (33, (.getfield 27, 4, 5, 0), 151), (36, (.iconst 0, 0, 0, 0), 0), (37, (.invokestatic 43, 14, 0, 0), 493), (40, (.iconst 1, 0, 0, 0), 0), (41, (.istore 4, 0, 0, 0), 0), (43, (.iload 4, 0, 0, 0), 0), (45, (.bipush 12, 0, 0, 0), 0), (47, (.if_icmp .gt 22, 69, 0, 0), 0), (50, (.aload_n 0, 0, 0, 0), 0), (51, (.iload 4, 0, 0, 0), 0), (53, (.iload_n 3, 0, 0, 0), 0), (54, (.invokevirtual 49, 100, 0, 4), 496), (57, (.ifCond .eq 6, 63, 0, 0), 0), (60, (.iload 4, 0, 0, 0), 0), (62, (.ireturn, 0, 0, 0), 0), (63, (.iinc 4 1, 0, 0, 0), 0), (66, (.goto (-23), 43, 0, 0), 0), (69, (.bipush (-4), 0, 0, 0), 0), (71, (.ireturn, 0, 0, 0), 0)]
def m_X4_fewest : ex_M := (RX4, yX4_fewest, cX4_fewest, 5, some .int, 3, [], ex_cd q_X4_fewest)
def q_X4_load : List (Nat × ex_I × Nat) := [(0, (.aload_n 0, 0, 0, 0), 0), (1, (.aload_n 1, 0, 0, 0), 0), (2, (.getfield 53, 3, 0, 0), 55), (5, (.putfield 58, 4, 6, 0), 152), (8, (.aload_n 0, 0, 0, 0), 0), (9, (.iload_n 2, 0, 0, 0), 0), (10, (.invokestatic 59, 12, 0, 0), 470), (13, (.putfield 64, 4, 7, 0), 153), (16, (.aload_n 0, 0, 0, 0), 0), (17, (.iconst 1, 0, 0, 0), 0), (18, (.aload_n 0, 0, 0, 0), 0), (19, (.getfield 58, 4, 6, 0), 152), (22, (.aload_n 0, 0, 0, 0), 0), (23, (.getfield 64, 4, 7, 0), 153), (26, (.imul, 0, 0, 0), 0), (27, (.ishl, 0, 0, 0), 0), (28, (.iconst 1, 0, 0, 0), 0), (29, (.isub, 0, 0, 0), 0), (30, (.putfield 35, 4, 8, 0), 154), (33, (.aload_n 0, 0, 0, 0), 0), (34, (.getfield 15, 4, 1, 0), 147), (37, (.iconst 0, 0, 0, 0), 0), (38, (.invokestatic 67, 13, 0, 0), 471), (41, (.iconst 0, 0, 0, 0), 0), (42, (.istore_n 3, 0, 0, 0), 0), (43, (.iconst 0, 0, 0, 0), 0), (44, (.istore 4, 0, 0, 0), 0), (46, (.iconst 0, 0, 0, 0), 0), (47, (.istore 5, 0, 0, 0), 0), (49, (.iload 5, 0, 0, 0), 0), (51, (.iconst 4, 0, 0, 0), 0), (52, (.if_icmp .ge 128, 180, 0, 0), 0), (55, (.iload_n 2, 0, 0, 0), 0), (56, (.iload 5, 0, 0, 0), 0), (58, (.invokestatic 70, 49, 1, 0), 17), (61, (.ifCond .ne 6, 67, 0, 0), 0), (64, (.goto 110, 174, 0, 0), 0), (67, (.aload_n 0, 0, 0, 0), 0), (68, (.getfield 9, 4, 0, 0), 146), (71, (.iload 4, 0, 0, 0), 0), (73, (.aload_n 1, 0, 0, 0), 0), (74, (.getfield 73, 3, 7, 0), 74), (77, (.iload 5, 0, 0, 0), 0), (79, (.iaload, 0, 0, 0), 0), (80, (.iload_n 2, 0, 0, 0), 0), (81, (.invokestatic 74, 95, 0, 0), 475), (84, (.iastore, 0, 0, 0), 0), (85, (.iconst 0, 0, 0, 0), 0), (86, (.istore 6, 0, 0, 0), 0), (88, (.iload 6, 0, 0, 0), 0), (90, (.aload_n 0, 0, 0, 0), 0), (91, (.getfield 58, 4, 6, 0), 152), (94, (.if_icmp .ge 77, 171, 0, 0), 0), (97, (.aload_n 1, 0, 0, 0), 0), (98, (.getfield 78, 3, 5, 0), 67), (101, (.iload 6, 0, 0, 0), 0), (103, (.iaload, 0, 0, 0), 0), (104, (.iload 5, 0, 0, 0), 0), (106, (.invokestatic 70, 49, 1, 0), 17), (109, (.ifCond .eq 18, 127, 0, 0), 0), (112, (.iload_n 3, 0, 0, 0), 0), (113, (.iconst 1, 0, 0, 0), 0), (114, (.iload 6, 0, 0, 0), 0), (116, (.aload_n 0, 0, 0, 0), 0), (117, (.getfield 64, 4, 7, 0), 153), (120, (.imul, 0, 0, 0), 0), (121, (.iload 4, 0, 0, 0), 0), (123, (.iadd, 0, 0, 0), 0), (124, (.ishl, 0, 0, 0), 0), (125, (.ior, 0, 0, 0), 0), (126, (.istore_n 3, 0, 0, 0), 0), (127, (.aload_n 1, 0, 0, 0), 0), (128, (.getfield 73, 3, 7, 0), 74), (131, (.iload 5, 0, 0, 0), 0), (133, (.iaload, 0, 0, 0), 0), (134, (.iload_n 2, 0, 0, 0), 0), (135, (.iconst (-1), 0, 0, 0), 0), (136, (.ixor, 0, 0, 0), 0), (137, (.iand, 0, 0, 0), 0), (138, (.aload_n 1, 0, 0, 0), 0), (139, (.getfield 78, 3, 5, 0), 67), (142, (.iload 6, 0, 0, 0), 0), (144, (.iaload, 0, 0, 0), 0), (145, (.iconst (-1), 0, 0, 0), 0), (146, (.ixor, 0, 0, 0), 0), (147, (.iand, 0, 0, 0), 0), (148, (.ifCond .ne 17, 165, 0, 0), 0), (151, (.aload_n 0, 0, 0, 0), 0), (152, (.getfield 15, 4, 1, 0), 147), (155, (.iload 6, 0, 0, 0), 0), (157, (.dup2, 0, 0, 0), 0), (158, (.iaload, 0, 0, 0), 0), (159, (.iconst 1, 0, 0, 0), 0), (160, (.iload 4, 0, 0, 0), 0), (162, (.ishl, 0, 0, 0), 0), (163, (.ior, 0, 0, 0), 0), (164, (.iastore, 0, 0, 0), 0), (165, (.iinc 6 1, 0, 0, 0), 0), (168, (.goto (-80), 88, 0, 0), 0), (171, (.iinc 4 1, 0, 0, 0), 0), (174, (.iinc 5 1, 0, 0, 0), 0), (177, (.goto (-128), 49, 0, 0), 0), (180, (.aload_n 1, 0, 0, 0), 0), (181, (.getfield 81, 3, 6, 0), 71), (184, (.iconst 0, 0, 0, 0), 0), (185, (.aload_n 0, 0, 0, 0), 0), (186, (.getfield 18, 4, 2, 0), 148), (189, (.iconst 0, 0, 0, 0), 0), (190, (.bipush 6, 0, 0, 0), 0), (192, (.invokestatic 82, 0, 3, 0), 478), (195, (.iload_n 3, 0, 0, 0), 0), (196, (.ireturn, 0, 0, 0), 0)]
def m_X4_load : ex_M := (RX4, yX4_load, cX4_load, 7, some .int, 3, [], ex_cd q_X4_load)
def q_X4_squeeze : List (Nat × ex_I × Nat) := [(0, (.iconst 0, 0, 0, 0), 0), (1, (.istore_n 2, 0, 0, 0), 0), (2, (.iconst 0, 0, 0, 0), 0), (3, (.istore_n 3, 0, 0, 0), 0), (4, (.iconst 0, 0, 0, 0), 0), (5, (.istore 4, 0, 0, 0), 0), (7, (.iload 4, 0, 0, 0), 0), (9, (.iconst 4, 0, 0, 0), 0), (10, (.if_icmp .ge 39, 49, 0, 0), 0), (13, (.iload_n 1, 0, 0, 0), 0), (14, (.iload 4, 0, 0, 0), 0), (16, (.invokestatic 70, 49, 1, 0), 17), (19, (.ifCond .ne 6, 25, 0, 0), 0), (22, (.goto 21, 43, 0, 0), 0), (25, (.iload_n 0, 0, 0, 0), 0), (26, (.iload 4, 0, 0, 0), 0), (28, (.invokestatic 70, 49, 1, 0), 17), (31, (.ifCond .eq 9, 40, 0, 0), 0), (34, (.iload_n 2, 0, 0, 0), 0), (35, (.iconst 1, 0, 0, 0), 0), (36, (.iload_n 3, 0, 0, 0), 0), (37, (.ishl, 0, 0, 0), 0), (38, (.ior, 0, 0, 0), 0), (39, (.istore_n 2, 0, 0, 0), 0), (40, (.iinc 3 1, 0, 0, 0), 0), (43, (.iinc 4 1, 0, 0, 0), 0), (46, (.goto (-39), 7, 0, 0), 0), (49, (.iload_n 2, 0, 0, 0), 0), (50, (.ireturn, 0, 0, 0), 0)]
def m_X4_squeeze : ex_M := (RX4, yX4_squeeze, cX4_squeeze, 5, some .int, 2, [], ex_cd q_X4_squeeze)
def q_X4_knownBy : List (Nat × ex_I × Nat) := [(0, (.iload_n 2, 0, 0, 0), 0), (1, (.iload_n 1, 0, 0, 0), 0), (2, (.aload_n 0, 0, 0, 0), 0), (3, (.getfield 64, 4, 7, 0), 153), (6, (.imul, 0, 0, 0), 0), (7, (.ishr, 0, 0, 0), 0), (8, (.iconst 1, 0, 0, 0), 0), (9, (.aload_n 0, 0, 0, 0), 0), (10, (.getfield 64, 4, 7, 0), 153), (13, (.ishl, 0, 0, 0), 0), (14, (.iconst 1, 0, 0, 0), 0), (15, (.isub, 0, 0, 0), 0), (16, (.iand, 0, 0, 0), 0), (17, (.ireturn, 0, 0, 0), 0)]
def m_X4_knownBy : ex_M := (RX4, yX4_knownBy, cX4_knownBy, 3, some .int, 3, [], ex_cd q_X4_knownBy)
def q_X4_learnable : List (Nat × ex_I × Nat) := [(0, (.aload_n 0, 0, 0, 0), 0), (1, (.iload_n 1, 0, 0, 0), 0), (2, (.iload_n 2, 0, 0, 0), 0), (3, (.invokevirtual 88, 96, 0, 4), 485), (6, (.istore_n 3, 0, 0, 0), 0), (7, (.iconst 0, 0, 0, 0), 0), (8, (.istore 4, 0, 0, 0), 0), (10, (.iconst 0, 0, 0, 0), 0), (11, (.istore 5, 0, 0, 0), 0), (13, (.iload 5, 0, 0, 0), 0), (15, (.aload_n 0, 0, 0, 0), 0), (16, (.getfield 64, 4, 7, 0), 153), (19, (.if_icmp .ge 41, 60, 0, 0), 0), (22, (.iload_n 3, 0, 0, 0), 0), (23, (.iload 5, 0, 0, 0), 0), (25, (.invokestatic 70, 49, 1, 0), 17), (28, (.ifCond .ne 26, 54, 0, 0), 0), (31, (.aload_n 0, 0, 0, 0), 0), (32, (.getfield 9, 4, 0, 0), 146), (35, (.iload 5, 0, 0, 0), 0), (37, (.iaload, 0, 0, 0), 0), (38, (.iload_n 3, 0, 0, 0), 0), (39, (.iconst (-1), 0, 0, 0), 0), (40, (.ixor, 0, 0, 0), 0), (41, (.iand, 0, 0, 0), 0), (42, (.ifCond .ne 12, 54, 0, 0), 0), (45, (.iload 4, 0, 0, 0), 0), (47, (.iconst 1, 0, 0, 0), 0), (48, (.iload 5, 0, 0, 0), 0), (50, (.ishl, 0, 0, 0), 0), (51, (.ior, 0, 0, 0), 0), (52, (.istore 4, 0, 0, 0), 0), (54, (.iinc 5 1, 0, 0, 0), 0), (57, (.goto (-44), 13, 0, 0), 0), (60, (.iload 4, 0, 0, 0), 0), (62, (.aload_n 0, 0, 0, 0), 0), (63, (.getfield 15, 4, 1, 0), 147), (66, (.iload_n 1, 0, 0, 0), 0), (67, (.iaload, 0, 0, 0), 0), (68, (.iand, 0, 0, 0), 0), (69, (.ireturn, 0, 0, 0), 0)]
def m_X4_learnable : ex_M := (RX4, yX4_learnable, cX4_learnable, 6, some .int, 3, [], ex_cd q_X4_learnable)
def q_X4_closure : List (Nat × ex_I × Nat) := [(0, (.iload_n 1, 0, 0, 0), 0), (1, (.istore_n 2, 0, 0, 0), 0), (2, (.iconst 0, 0, 0, 0), 0), (3, (.istore_n 3, 0, 0, 0), 0), (4, (.iload_n 3, 0, 0, 0), 0), (5, (.bipush 12, 0, 0, 0), 0), (7, (.if_icmp .ge 107, 114, 0, 0), 0), (10, (.iload_n 2, 0, 0, 0), 0), (11, (.istore 4, 0, 0, 0), 0), (13, (.iconst 0, 0, 0, 0), 0), (14, (.istore 5, 0, 0, 0), 0), (16, (.iload 5, 0, 0, 0), 0), (18, (.aload_n 0, 0, 0, 0), 0), (19, (.getfield 58, 4, 6, 0), 152), (22, (.if_icmp .ge 78, 100, 0, 0), 0), (25, (.iconst 0, 0, 0, 0), 0), (26, (.istore 6, 0, 0, 0), 0), (28, (.iconst 0, 0, 0, 0), 0), (29, (.istore 7, 0, 0, 0), 0), (31, (.iload 7, 0, 0, 0), 0), (33, (.aload_n 0, 0, 0, 0), 0), (34, (.getfield 58, 4, 6, 0), 152), (37, (.if_icmp .ge 36, 73, 0, 0), 0), (40, (.aload_n 0, 0, 0, 0), 0), (41, (.getfield 18, 4, 2, 0), 148), (44, (.iload 5, 0, 0, 0), 0), (46, (.iaload, 0, 0, 0), 0), (47, (.iload 7, 0, 0, 0), 0), (49, (.invokestatic 70, 49, 1, 0), 17), (52, (.ifCond .eq 15, 67, 0, 0), 0), (55, (.iload 6, 0, 0, 0), 0), (57, (.aload_n 0, 0, 0, 0), 0), (58, (.iload 7, 0, 0, 0), 0), (60, (.iload_n 2, 0, 0, 0), 0), (61, (.invokevirtual 88, 96, 0, 4), 485), (64, (.ior, 0, 0, 0), 0), (65, (.istore 6, 0, 0, 0), 0), (67, (.iinc 7 1, 0, 0, 0), 0), (70, (.goto (-39), 31, 0, 0), 0), (73, (.iload_n 2, 0, 0, 0), 0), (74, (.iload 6, 0, 0, 0), 0), (76, (.aload_n 0, 0, 0, 0), 0), (77, (.iload 5, 0, 0, 0), 0), (79, (.iload_n 2, 0, 0, 0), 0), (80, (.invokevirtual 91, 97, 0, 4), 489), (83, (.iand, 0, 0, 0), 0), (84, (.iload 5, 0, 0, 0), 0), (86, (.aload_n 0, 0, 0, 0), 0), (87, (.getfield 64, 4, 7, 0), 153), (90, (.imul, 0, 0, 0), 0), (91, (.ishl, 0, 0, 0), 0), (92, (.ior, 0, 0, 0), 0), (93, (.istore_n 2, 0, 0, 0), 0), (94, (.iinc 5 1, 0, 0, 0), 0), (97, (.goto (-81), 16, 0, 0), 0), (100, (.iload_n 2, 0, 0, 0), 0), (101, (.iload 4, 0, 0, 0), 0), (103, (.if_icmp .ne 5, 108, 0, 0), 0), (106, (.iload_n 2, 0, 0, 0), 0), (107, (.ireturn, 0, 0, 0), 0), (108, (.iinc 3 1, 0, 0, 0), 0), (111, (.goto (-107), 4, 0, 0), 0), (114, (.iload_n 2, 0, 0, 0), 0), (115, (.ireturn, 0, 0, 0), 0)]
def m_X4_closure : ex_M := (RX4, yX4_closure, cX4_closure, 8, some .int, 2, [], ex_cd q_X4_closure)
def q_X4_lacking : List (Nat × ex_I × Nat) := [(0, (.aload_n 0, 0, 0, 0), 0), (1, (.getfield 35, 4, 8, 0), 154), (4, (.iload_n 1, 0, 0, 0), 0), (5, (.iconst (-1), 0, 0, 0), 0), (6, (.ixor, 0, 0, 0), 0), (7, (.iand, 0, 0, 0), 0), (8, (.invokestatic 59, 12, 0, 0), 470), (11, (.ireturn, 0, 0, 0), 0)]
def m_X4_lacking : ex_M := (RX4, yX4_lacking, cX4_lacking, 2, some .int, 2, [], ex_cd q_X4_lacking)
def q_X4_isEnough : List (Nat × ex_I × Nat) := [(0, (.iload_n 2, 0, 0, 0), 0), (1, (.aload_n 0, 0, 0, 0), 0), (2, (.getfield 35, 4, 8, 0), 154), (5, (.if_icmp .ne 5, 10, 0, 0), 0), (8, (.iconst 1, 0, 0, 0), 0), (9, (.ireturn, 0, 0, 0), 0), (10, (.iload_n 1, 0, 0, 0), 0), (11, (.aload_n 0, 0, 0, 0), 0), (12, (.getfield 27, 4, 5, 0), 151), (15, (.iload_n 2, 0, 0, 0), 0), (16, (.baload, 0, 0, 0), 0), (17, (.if_icmp .le 19, 36, 0, 0), 0), (20, (.aload_n 0, 0, 0, 0), 0), (21, (.iload_n 2, 0, 0, 0), 0), (22, (.invokevirtual 94, 99, 0, 4), 500), (25, (.iload_n 1, 0, 0, 0), 0), (26, (.aload_n 0, 0, 0, 0), 0), (27, (.getfield 58, 4, 6, 0), 152), (30, (.iconst 2, 0, 0, 0), 0), (31, (.idiv, 0, 0, 0), 0), (32, (.imul, 0, 0, 0), 0), (33, (.if_icmp .le 5, 38, 0, 0), 0), (36, (.iconst 0, 0, 0, 0), 0), (37, (.ireturn, 0, 0, 0), 0), (38, (.aload_n 0, 0, 0, 0), 0), (39, (.iload_n 1, 0, 0, 0), 0), (40, (.iload_n 2, 0, 0, 0), 0), (41, (.invokevirtual 97, 101, 0, 4), 504), (44, (.aload_n 0, 0, 0, 0), 0), (45, (.iload_n 1, 0, 0, 0), 0), (46, (.iconst 1, 0, 0, 0), 0), (47, (.aload_n 0, 0, 0, 0), 0), (48, (.getfield 58, 4, 6, 0), 152), (51, (.ishl, 0, 0, 0), 0), (52, (.iconst 1, 0, 0, 0), 0), (53, (.isub, 0, 0, 0), 0), (54, (.iconst 0, 0, 0, 0), 0), (55, (.iload_n 2, 0, 0, 0), 0), (56, (.invokevirtual 101, 102, 0, 4), 508), (59, (.ifCond .eq 5, 64, 0, 0), 0), (62, (.iconst 1, 0, 0, 0), 0), (63, (.ireturn, 0, 0, 0), 0), (64, (.aload_n 0, 0, 0, 0), 0), (65, (.getfield 27, 4, 5, 0), 151), (68, (.iload_n 2, 0, 0, 0), 0), (69, (.iload_n 1, 0, 0, 0), 0), (70, (.i2b, 0, 0, 0), 0), (71, (.bastore, 0, 0, 0), 0), (72, (.iconst 0, 0, 0, 0), 0), (73, (.ireturn, 0, 0, 0), 0)]
def m_X4_isEnough : ex_M := (RX4, yX4_isEnough, cX4_isEnough, 3, some .boolean, 3, [], ex_cd q_X4_isEnough)
def q_X4_listGains : List (Nat × ex_I × Nat) := [(0, (.iload_n 1, 0, 0, 0), 0), (1, (.bipush 6, 0, 0, 0), 0), (3, (.imul, 0, 0, 0), 0), (4, (.istore_n 3, 0, 0, 0), 0), (5, (.iconst 0, 0, 0, 0), 0), (6, (.istore 4, 0, 0, 0), 0), (8, (.iload 4, 0, 0, 0), 0), (10, (.aload_n 0, 0, 0, 0), 0), (11, (.getfield 58, 4, 6, 0), 152), (14, (.if_icmp .ge 19, 33, 0, 0), 0), (17, (.aload_n 0, 0, 0, 0), 0), (18, (.getfield 24, 4, 4, 0), 150), (21, (.iload_n 3, 0, 0, 0), 0), (22, (.iload 4, 0, 0, 0), 0), (24, (.iadd, 0, 0, 0), 0), (25, (.iconst 0, 0, 0, 0), 0), (26, (.iastore, 0, 0, 0), 0), (27, (.iinc 4 1, 0, 0, 0), 0), (30, (.goto (-22), 8, 0, 0), 0), (33, (.iconst 0, 0, 0, 0), 0), (34, (.istore 4, 0, 0, 0), 0), (36, (.iload 4, 0, 0, 0), 0), (38, (.aload_n 0, 0, 0, 0), 0), (39, (.getfield 58, 4, 6, 0), 152), (42, (.if_icmp .ge 124, 166, 0, 0), 0), (45, (.aload_n 0, 0, 0, 0), 0), (46, (.iload 4, 0, 0, 0), 0), (48, (.iload_n 2, 0, 0, 0), 0), (49, (.invokevirtual 91, 97, 0, 4), 489), (52, (.istore 5, 0, 0, 0), 0), (54, (.iconst 0, 0, 0, 0), 0), (55, (.istore 6, 0, 0, 0), 0), (57, (.iload 6, 0, 0, 0), 0), (59, (.aload_n 0, 0, 0, 0), 0), (60, (.getfield 58, 4, 6, 0), 152), (63, (.if_icmp .ge 97, 160, 0, 0), 0), (66, (.aload_n 0, 0, 0, 0), 0), (67, (.getfield 18, 4, 2, 0), 148), (70, (.iload 4, 0, 0, 0), 0), (72, (.iaload, 0, 0, 0), 0), (73, (.iload 6, 0, 0, 0), 0), (75, (.invokestatic 70, 49, 1, 0), 17), (78, (.ifCond .eq 16, 94, 0, 0), 0), (81, (.iload 5, 0, 0, 0), 0), (83, (.aload_n 0, 0, 0, 0), 0), (84, (.iload 6, 0, 0, 0), 0), (86, (.iload_n 2, 0, 0, 0), 0), (87, (.invokevirtual 88, 96, 0, 4), 485), (90, (.iand, 0, 0, 0), 0), (91, (.goto 4, 95, 0, 0), 0), (94, (.iconst 0, 0, 0, 0), 0), (95, (.istore 7, 0, 0, 0), 0), (97, (.aload_n 0, 0, 0, 0), 0), (98, (.getfield 21, 4, 3, 0), 149), (101, (.iload_n 3, 0, 0, 0), 0), (102, (.iload 6, 0, 0, 0), 0), (104, (.iadd, 0, 0, 0), 0), (105, (.bipush 6, 0, 0, 0), 0), (107, (.imul, 0, 0, 0), 0), (108, (.iload 4, 0, 0, 0), 0), (110, (.iadd, 0, 0, 0), 0), (111, (.iload 7, 0, 0, 0), 0), (113, (.iastore, 0, 0, 0), 0), (114, (.iload 7, 0, 0, 0), 0), (116, (.ifCond .ne 6, 122, 0, 0), 0), (119, (.goto 35, 154, 0, 0), 0), (122, (.aload_n 0, 0, 0, 0), 0), (123, (.getfield 24, 4, 4, 0), 150), (126, (.iload_n 3, 0, 0, 0), 0), (127, (.iload 6, 0, 0, 0), 0), (129, (.iadd, 0, 0, 0), 0), (130, (.dup2, 0, 0, 0), 0), (131, (.iaload, 0, 0, 0), 0), (132, (.iconst 1, 0, 0, 0), 0), (133, (.iload 4, 0, 0, 0), 0), (135, (.ishl, 0, 0, 0), 0), (136, (.ior, 0, 0, 0), 0), (137, (.iastore, 0, 0, 0), 0), (138, (.aload_n 0, 0, 0, 0), 0), (139, (.getfield 24, 4, 4, 0), 150), (142, (.iload_n 3, 0, 0, 0), 0), (143, (.iload 4, 0, 0, 0), 0), (145, (.iadd, 0, 0, 0), 0), (146, (.dup2, 0, 0, 0), 0), (147, (.iaload, 0, 0, 0), 0), (148, (.iconst 1, 0, 0, 0), 0), (149, (.iload 6, 0, 0, 0), 0), (151, (.ishl, 0, 0, 0), 0), (152, (.ior, 0, 0, 0), 0), (153, (.iastore, 0, 0, 0), 0), (154, (.iinc 6 1, 0, 0, 0), 0), (157, (.goto (-100), 57, 0, 0), 0), (160, (.iinc 4 1, 0, 0, 0), 0), (163, (.goto (-127), 36, 0, 0), 0), (166, (.return_, 0, 0, 0), 0)]
def m_X4_listGains : ex_M := (RX4, yX4_listGains, cX4_listGains, 8, none, 3, [], ex_cd q_X4_listGains)
def q_X4_pairUp : List (Nat × ex_I × Nat) := [(0, (.iload_n 2, 0, 0, 0), 0), (1, (.invokestatic 59, 12, 0, 0), 470), (4, (.iconst 2, 0, 0, 0), 0), (5, (.idiv, 0, 0, 0), 0), (6, (.iload_n 1, 0, 0, 0), 0), (7, (.iconst 1, 0, 0, 0), 0), (8, (.isub, 0, 0, 0), 0), (9, (.aload_n 0, 0, 0, 0), 0), (10, (.getfield 58, 4, 6, 0), 152), (13, (.iconst 2, 0, 0, 0), 0), (14, (.idiv, 0, 0, 0), 0), (15, (.imul, 0, 0, 0), 0), (16, (.iadd, 0, 0, 0), 0), (17, (.istore 5, 0, 0, 0), 0), (19, (.aload_n 0, 0, 0, 0), 0), (20, (.iload 4, 0, 0, 0), 0), (22, (.invokevirtual 94, 99, 0, 4), 500), (25, (.iload 5, 0, 0, 0), 0), (27, (.if_icmp .le 5, 32, 0, 0), 0), (30, (.iconst 0, 0, 0, 0), 0), (31, (.ireturn, 0, 0, 0), 0), (32, (.iload_n 2, 0, 0, 0), 0), (33, (.ifCond .ne 13, 46, 0, 0), 0), (36, (.aload_n 0, 0, 0, 0), 0), (37, (.iload_n 1, 0, 0, 0), 0), (38, (.iconst 1, 0, 0, 0), 0), (39, (.isub, 0, 0, 0), 0), (40, (.iload 4, 0, 0, 0), 0), (42, (.invokevirtual 49, 100, 0, 4), 496), (45, (.ireturn, 0, 0, 0), 0), (46, (.iload_n 2, 0, 0, 0), 0), (47, (.invokestatic 105, 104, 0, 0), 512), (50, (.istore 6, 0, 0, 0), 0), (52, (.iload_n 1, 0, 0, 0), 0), (53, (.bipush 6, 0, 0, 0), 0), (55, (.imul, 0, 0, 0), 0), (56, (.istore 7, 0, 0, 0), 0), (58, (.iload 6, 0, 0, 0), 0), (60, (.iconst 1, 0, 0, 0), 0), (61, (.iadd, 0, 0, 0), 0), (62, (.istore 8, 0, 0, 0), 0), (64, (.iload 8, 0, 0, 0), 0), (66, (.aload_n 0, 0, 0, 0), 0), (67, (.getfield 58, 4, 6, 0), 152), (70, (.if_icmp .ge 133, 203, 0, 0), 0), (73, (.iload_n 2, 0, 0, 0), 0), (74, (.aload_n 0, 0, 0, 0), 0), (75, (.getfield 24, 4, 4, 0), 150), (78, (.iload 7, 0, 0, 0), 0), (80, (.iload 6, 0, 0, 0), 0), (82, (.iadd, 0, 0, 0), 0), (83, (.iaload, 0, 0, 0), 0), (84, (.iand, 0, 0, 0), 0), (85, (.iload 8, 0, 0, 0), 0), (87, (.invokestatic 70, 49, 1, 0), 17), (90, (.ifCond .ne 6, 96, 0, 0), 0), (93, (.goto 104, 197, 0, 0), 0), (96, (.iload_n 2, 0, 0, 0), 0), (97, (.iconst 1, 0, 0, 0), 0), (98, (.iload 6, 0, 0, 0), 0), (100, (.ishl, 0, 0, 0), 0), (101, (.iconst 1, 0, 0, 0), 0), (102, (.iload 8, 0, 0, 0), 0), (104, (.ishl, 0, 0, 0), 0), (105, (.ior, 0, 0, 0), 0), (106, (.iconst (-1), 0, 0, 0), 0), (107, (.ixor, 0, 0, 0), 0), (108, (.iand, 0, 0, 0), 0), (109, (.istore 9, 0, 0, 0), 0), (111, (.aload_n 0, 0, 0, 0), 0), (112, (.getfield 21, 4, 3, 0), 149), (115, (.iload 7, 0, 0, 0), 0), (117, (.iload 6, 0, 0, 0), 0), (119, (.iadd, 0, 0, 0), 0), (120, (.bipush 6, 0, 0, 0), 0), (122, (.imul, 0, 0, 0), 0), (123, (.iload 8, 0, 0, 0), 0), (125, (.iadd, 0, 0, 0), 0), (126, (.iaload, 0, 0, 0), 0), (127, (.istore 10, 0, 0, 0), 0), (129, (.aload_n 0, 0, 0, 0), 0), (130, (.iload_n 1, 0, 0, 0), 0), (131, (.iload 9, 0, 0, 0), 0), (133, (.iload_n 3, 0, 0, 0), 0), (134, (.iload 4, 0, 0, 0), 0), (136, (.iload 10, 0, 0, 0), 0), (138, (.iload 8, 0, 0, 0), 0), (140, (.aload_n 0, 0, 0, 0), 0), (141, (.getfield 64, 4, 7, 0), 153), (144, (.imul, 0, 0, 0), 0), (145, (.ishl, 0, 0, 0), 0), (146, (.invokevirtual 108, 103, 0, 4), 515), (149, (.ifCond .eq 5, 154, 0, 0), 0), (152, (.iconst 1, 0, 0, 0), 0), (153, (.ireturn, 0, 0, 0), 0), (154, (.aload_n 0, 0, 0, 0), 0), (155, (.getfield 21, 4, 3, 0), 149), (158, (.iload 7, 0, 0, 0), 0), (160, (.iload 8, 0, 0, 0), 0), (162, (.iadd, 0, 0, 0), 0), (163, (.bipush 6, 0, 0, 0), 0), (165, (.imul, 0, 0, 0), 0), (166, (.iload 6, 0, 0, 0), 0), (168, (.iadd, 0, 0, 0), 0), (169, (.iaload, 0, 0, 0), 0), (170, (.istore 10, 0, 0, 0), 0), (172, (.aload_n 0, 0, 0, 0), 0), (173, (.iload_n 1, 0, 0, 0), 0), (174, (.iload 9, 0, 0, 0), 0), (176, (.iload_n 3, 0, 0, 0), 0), (177, (.iload 4, 0, 0, 0), 0), (179, (.iload 10, 0, 0, 0), 0), (181, (.iload 6, 0, 0, 0), 0), (183, (.aload_n 0, 0, 0, 0), 0), (184, (.getfield 64, 4, 7, 0), 153), (187, (.imul, 0, 0, 0), 0), (188, (.ishl, 0, 0, 0), 0), (189, (.invokevirtual 108, 103, 0, 4), 515), (192, (.ifCond .eq 5, 197, 0, 0), 0), (195, (.iconst 1, 0, 0, 0), 0), (196, (.ireturn, 0, 0, 0), 0), (197, (.iinc 8 1, 0, 0, 0), 0), (200, (.goto (-136), 64, 0, 0), 0), (203, (.aload_n 0, 0, 0, 0), 0), (204, (.getfield 24, 4, 4, 0), 150), (207, (.iload 7, 0, 0, 0), 0), (209, (.iload 6, 0, 0, 0), 0), (211, (.iadd, 0, 0, 0), 0), (212, (.iaload, 0, 0, 0), 0), (213, (.iload_n 3, 0, 0, 0), 0), (214, (.iand, 0, 0, 0), 0), (215, (.ifCond .eq 5, 220, 0, 0), 0), (218, (.iconst 0, 0, 0, 0), 0), (219, (.ireturn, 0, 0, 0), 0), (220, (.aload_n 0, 0, 0, 0), 0), (221, (.iload_n 1, 0, 0, 0), 0), (222, (.iload_n 2, 0, 0, 0), 0), (223, (.iconst 1, 0, 0, 0), 0), (224, (.iload 6, 0, 0, 0), 0), (226, (.ishl, 0, 0, 0), 0), (227, (.iconst (-1), 0, 0, 0), 0), (228, (.ixor, 0, 0, 0), 0), (229, (.iand, 0, 0, 0), 0), (230, (.iload_n 3, 0, 0, 0), 0), (231, (.iconst 1, 0, 0, 0), 0), (232, (.iload 6, 0, 0, 0), 0), (234, (.ishl, 0, 0, 0), 0), (235, (.ior, 0, 0, 0), 0), (236, (.iload 4, 0, 0, 0), 0), (238, (.invokevirtual 101, 102, 0, 4), 508), (241, (.ireturn, 0, 0, 0), 0)]
def m_X4_pairUp : ex_M := (RX4, yX4_pairUp, cX4_pairUp, 11, some .boolean, 5, [], ex_cd q_X4_pairUp)
def q_X4_pairTaught : List (Nat × ex_I × Nat) := [(0, (.iconst 0, 0, 0, 0), 0), (1, (.istore 6, 0, 0, 0), 0), (3, (.iload 6, 0, 0, 0), 0), (5, (.bipush 12, 0, 0, 0), 0), (7, (.if_icmp .ge 38, 45, 0, 0), 0), (10, (.iload 5, 0, 0, 0), 0), (12, (.iload 6, 0, 0, 0), 0), (14, (.invokestatic 70, 49, 1, 0), 17), (17, (.ifCond .eq 22, 39, 0, 0), 0), (20, (.aload_n 0, 0, 0, 0), 0), (21, (.iload_n 1, 0, 0, 0), 0), (22, (.iload_n 2, 0, 0, 0), 0), (23, (.iload_n 3, 0, 0, 0), 0), (24, (.iload 4, 0, 0, 0), 0), (26, (.iconst 1, 0, 0, 0), 0), (27, (.iload 6, 0, 0, 0), 0), (29, (.ishl, 0, 0, 0), 0), (30, (.ior, 0, 0, 0), 0), (31, (.invokevirtual 101, 102, 0, 4), 508), (34, (.ifCond .eq 5, 39, 0, 0), 0), (37, (.iconst 1, 0, 0, 0), 0), (38, (.ireturn, 0, 0, 0), 0), (39, (.iinc 6 1, 0, 0, 0), 0), (42, (.goto (-39), 3, 0, 0), 0), (45, (.iconst 0, 0, 0, 0), 0), (46, (.ireturn, 0, 0, 0), 0)]
def m_X4_pairTaught : ex_M := (RX4, yX4_pairTaught, cX4_pairTaught, 7, some .boolean, 6, [], ex_cd q_X4_pairTaught)
def q_X4_firstOf : List (Nat × ex_I × Nat) := [(0, (.iconst 0, 0, 0, 0), 0), (1, (.istore_n 1, 0, 0, 0), 0), (2, (.iload_n 1, 0, 0, 0), 0), (3, (.bipush 6, 0, 0, 0), 0), (5, (.if_icmp .ge 19, 24, 0, 0), 0), (8, (.iload_n 0, 0, 0, 0), 0), (9, (.iload_n 1, 0, 0, 0), 0), (10, (.invokestatic 70, 49, 1, 0), 17), (13, (.ifCond .eq 5, 18, 0, 0), 0), (16, (.iload_n 1, 0, 0, 0), 0), (17, (.ireturn, 0, 0, 0), 0), (18, (.iinc 1 1, 0, 0, 0), 0), (21, (.goto (-19), 2, 0, 0), 0), (24, (.iconst 0, 0, 0, 0), 0), (25, (.ireturn, 0, 0, 0), 0)]
def m_X4_firstOf : ex_M := (RX4, yX4_firstOf, cX4_firstOf, 2, some .int, 1, [], ex_cd q_X4_firstOf)
def q_X2_init : List (Nat × ex_I × Nat) := [(0, (.aload_n 0, 0, 0, 0), 0), (1, (.invokespecial 3, 0, 2, 0), 179), (4, (.aload_n 0, 0, 0, 0), 0), (5, (.bipush 6, 0, 0, 0), 0), (7, (.newarray .int, 0, 0, 0), 0), (9, (.putfield 9, 2, 0, 2), 180), (12, (.return_, 0, 0, 0), 0)]
def m_X2_init : ex_M := (RX2, yX2_init, cX2_init, 1, none, 1, [], ex_cd q_X2_init)
def q_X2_listen : List (Nat × ex_I × Nat) := [(0, (.aload_n 0, 0, 0, 0), 0), (1, (.iconst 0, 0, 0, 0), 0), (2, (.putfield 15, 2, 1, 0), 181), (5, (.iconst 0, 0, 0, 0), 0), (6, (.istore_n 3, 0, 0, 0), 0), (7, (.iload_n 3, 0, 0, 0), 0), (8, (.aload_n 1, 0, 0, 0), 0), (9, (.getfield 19, 3, 0, 0), 54), (12, (.if_icmp .ge 34, 46, 0, 0), 0), (15, (.aload_n 1, 0, 0, 0), 0), (16, (.getfield 24, 3, 5, 0), 66), (19, (.iload_n 3, 0, 0, 0), 0), (20, (.iaload, 0, 0, 0), 0), (21, (.iload_n 2, 0, 0, 0), 0), (22, (.invokestatic 27, 49, 1, 0), 18), (25, (.ifCond .eq 15, 40, 0, 0), 0), (28, (.aload_n 0, 0, 0, 0), 0), (29, (.dup, 0, 0, 0), 0), (30, (.getfield 15, 2, 1, 0), 181), (33, (.iconst 1, 0, 0, 0), 0), (34, (.iload_n 3, 0, 0, 0), 0), (35, (.ishl, 0, 0, 0), 0), (36, (.ior, 0, 0, 0), 0), (37, (.putfield 15, 2, 1, 0), 181), (40, (.iinc 3 1, 0, 0, 0), 0), (43, (.goto (-36), 7, 0, 0), 0), (46, (.aload_n 0, 0, 0, 0), 0), (47, (.aload_n 0, 0, 0, 0), 0), (48, (.getfield 15, 2, 1, 0), 181), (51, (.putfield 31, 2, 2, 0), 182), (54, (.aload_n 0, 0, 0, 0), 0), (55, (.getfield 9, 2, 0, 0), 180), (58, (.iconst 0, 0, 0, 0), 0), (59, (.invokestatic 34, 13, 0, 0), 557), (62, (.iconst 0, 0, 0, 0), 0), (63, (.istore_n 3, 0, 0, 0), 0), (64, (.iload_n 3, 0, 0, 0), 0), (65, (.aload_n 1, 0, 0, 0), 0), (66, (.getfield 19, 3, 0, 0), 54), (69, (.if_icmp .ge 109, 178, 0, 0), 0), (72, (.aload_n 0, 0, 0, 0), 0), (73, (.getfield 15, 2, 1, 0), 181), (76, (.iload_n 3, 0, 0, 0), 0), (77, (.invokestatic 27, 49, 1, 0), 18), (80, (.ifCond .ne 6, 86, 0, 0), 0), (83, (.goto 89, 172, 0, 0), 0), (86, (.aload_n 1, 0, 0, 0), 0), (87, (.getfield 40, 3, 3, 0), 62), (90, (.iload_n 3, 0, 0, 0), 0), (91, (.iaload, 0, 0, 0), 0), (92, (.aload_n 1, 0, 0, 0), 0), (93, (.iload_n 3, 0, 0, 0), 0), (94, (.iload_n 2, 0, 0, 0), 0), (95, (.invokevirtual 43, 59, 0, 3), 558), (98, (.invokestatic 47, 50, 1, 0), 19), (101, (.istore 4, 0, 0, 0), 0), (103, (.iconst 0, 0, 0, 0), 0), (104, (.istore 5, 0, 0, 0), 0), (106, (.iload 5, 0, 0, 0), 0), (108, (.aload_n 1, 0, 0, 0), 0), (109, (.getfield 19, 3, 0, 0), 54), (112, (.if_icmp .ge 60, 172, 0, 0), 0), (115, (.aload_n 0, 0, 0, 0), 0), (116, (.getfield 15, 2, 1, 0), 181), (119, (.iload 5, 0, 0, 0), 0), (121, (.invokestatic 27, 49, 1, 0), 18), (124, (.ifCond .eq 42, 166, 0, 0), 0), (127, (.aload_n 1, 0, 0, 0), 0), (128, (.getfield 50, 3, 6, 0), 70), (131, (.iload 5, 0, 0, 0), 0), (133, (.iaload, 0, 0, 0), 0), (134, (.iload_n 3, 0, 0, 0), 0), (135, (.invokestatic 27, 49, 1, 0), 18), (138, (.ifCond .eq 28, 166, 0, 0), 0), (141, (.aload_n 1, 0, 0, 0), 0), (142, (.iload 5, 0, 0, 0), 0), (144, (.iload_n 2, 0, 0, 0), 0), (145, (.invokevirtual 43, 59, 0, 3), 558), (148, (.iload 4, 0, 0, 0), 0), (150, (.if_icmp .ne 16, 166, 0, 0), 0), (153, (.aload_n 0, 0, 0, 0), 0), (154, (.getfield 9, 2, 0, 0), 180), (157, (.iload 5, 0, 0, 0), 0), (159, (.dup2, 0, 0, 0), 0), (160, (.iaload, 0, 0, 0), 0), (161, (.iconst 1, 0, 0, 0), 0), (162, (.iload_n 3, 0, 0, 0), 0), (163, (.ishl, 0, 0, 0), 0), (164, (.ior, 0, 0, 0), 0), (165, (.iastore, 0, 0, 0), 0), (166, (.iinc 5 1, 0, 0, 0), 0), (169, (.goto (-63), 106, 0, 0), 0), (172, (.iinc 3 1, 0, 0, 0), 0), (175, (.goto (-111), 64, 0, 0), 0), (178, (.return_, 0, 0, 0), 0)]
def m_X2_listen : ex_M := (RX2, yX2_listen, cX2_listen, 6, none, 3, [], ex_cd q_X2_listen)
def q_X2_countWays : List (Nat × ex_I × Nat) := [(0, (.iconst 0, 0, 0, 0), 0), (1, (.istore_n 1, 0, 0, 0), 0), (2, (.iconst 0, 0, 0, 0), 0), (3, (.istore_n 2, 0, 0, 0), 0), (4, (.iload_n 2, 0, 0, 0), 0), (5, (.bipush 6, 0, 0, 0), 0), (7, (.if_icmp .ge 49, 56, 0, 0), 0), (10, (.aload_n 0, 0, 0, 0), 0), (11, (.getfield 15, 2, 1, 0), 181), (14, (.iload_n 2, 0, 0, 0), 0), (15, (.invokestatic 27, 49, 1, 0), 18), (18, (.ifCond .ne 6, 24, 0, 0), 0), (21, (.goto 29, 50, 0, 0), 0), (24, (.aload_n 0, 0, 0, 0), 0), (25, (.aload_n 0, 0, 0, 0), 0), (26, (.getfield 15, 2, 1, 0), 181), (29, (.iconst 1, 0, 0, 0), 0), (30, (.iload_n 2, 0, 0, 0), 0), (31, (.ishl, 0, 0, 0), 0), (32, (.iconst (-1), 0, 0, 0), 0), (33, (.ixor, 0, 0, 0), 0), (34, (.iand, 0, 0, 0), 0), (35, (.putfield 53, 2, 3, 0), 183), (38, (.iload_n 1, 0, 0, 0), 0), (39, (.aload_n 0, 0, 0, 0), 0), (40, (.iconst 0, 0, 0, 0), 0), (41, (.aload_n 0, 0, 0, 0), 0), (42, (.getfield 53, 2, 3, 0), 183), (45, (.invokevirtual 56, 108, 0, 2), 564), (48, (.iadd, 0, 0, 0), 0), (49, (.istore_n 1, 0, 0, 0), 0), (50, (.iinc 2 1, 0, 0, 0), 0), (53, (.goto (-49), 4, 0, 0), 0), (56, (.iload_n 1, 0, 0, 0), 0), (57, (.ireturn, 0, 0, 0), 0)]
def m_X2_countWays : ex_M := (RX2, yX2_countWays, cX2_countWays, 3, some .int, 1, [], ex_cd q_X2_countWays)
def q_X2_minor : List (Nat × ex_I × Nat) := [(0, (.iload_n 1, 0, 0, 0), 0), (1, (.bipush 6, 0, 0, 0), 0), (3, (.if_icmp .lt 5, 8, 0, 0), 0), (6, (.iconst 1, 0, 0, 0), 0), (7, (.ireturn, 0, 0, 0), 0), (8, (.aload_n 0, 0, 0, 0), 0), (9, (.getfield 53, 2, 3, 0), 183), (12, (.iload_n 1, 0, 0, 0), 0), (13, (.invokestatic 27, 49, 1, 0), 18), (16, (.ifCond .ne 12, 28, 0, 0), 0), (19, (.aload_n 0, 0, 0, 0), 0), (20, (.iload_n 1, 0, 0, 0), 0), (21, (.iconst 1, 0, 0, 0), 0), (22, (.iadd, 0, 0, 0), 0), (23, (.iload_n 2, 0, 0, 0), 0), (24, (.invokevirtual 56, 108, 0, 2), 564), (27, (.ireturn, 0, 0, 0), 0), (28, (.iconst 0, 0, 0, 0), 0), (29, (.istore_n 3, 0, 0, 0), 0), (30, (.iconst 1, 0, 0, 0), 0), (31, (.istore 4, 0, 0, 0), 0), (33, (.iconst 0, 0, 0, 0), 0), (34, (.istore 5, 0, 0, 0), 0), (36, (.iload 5, 0, 0, 0), 0), (38, (.bipush 6, 0, 0, 0), 0), (40, (.if_icmp .ge 94, 134, 0, 0), 0), (43, (.iload_n 2, 0, 0, 0), 0), (44, (.iload 5, 0, 0, 0), 0), (46, (.invokestatic 27, 49, 1, 0), 18), (49, (.ifCond .ne 6, 55, 0, 0), 0), (52, (.goto 76, 128, 0, 0), 0), (55, (.iload 5, 0, 0, 0), 0), (57, (.iload_n 1, 0, 0, 0), 0), (58, (.if_icmp .ne 15, 73, 0, 0), 0), (61, (.aload_n 0, 0, 0, 0), 0), (62, (.getfield 9, 2, 0, 0), 180), (65, (.iload_n 1, 0, 0, 0), 0), (66, (.iaload, 0, 0, 0), 0), (67, (.invokestatic 59, 12, 0, 0), 568), (70, (.goto 22, 92, 0, 0), 0), (73, (.aload_n 0, 0, 0, 0), 0), (74, (.getfield 9, 2, 0, 0), 180), (77, (.iload_n 1, 0, 0, 0), 0), (78, (.iaload, 0, 0, 0), 0), (79, (.iload 5, 0, 0, 0), 0), (81, (.invokestatic 27, 49, 1, 0), 18), (84, (.ifCond .eq 7, 91, 0, 0), 0), (87, (.iconst (-1), 0, 0, 0), 0), (88, (.goto 4, 92, 0, 0), 0), (91, (.iconst 0, 0, 0, 0), 0), (92, (.istore 6, 0, 0, 0), 0), (94, (.iload 6, 0, 0, 0), 0), (96, (.ifCond .eq 27, 123, 0, 0), 0), (99, (.iload_n 3, 0, 0, 0), 0), (100, (.iload 4, 0, 0, 0), 0), (102, (.iload 6, 0, 0, 0), 0), (104, (.imul, 0, 0, 0), 0), (105, (.aload_n 0, 0, 0, 0), 0), (106, (.iload_n 1, 0, 0, 0), 0), (107, (.iconst 1, 0, 0, 0), 0), (108, (.iadd, 0, 0, 0), 0), (109, (.iload_n 2, 0, 0, 0), 0), (110, (.iconst 1, 0, 0, 0), 0), (111, (.iload 5, 0, 0, 0), 0), (113, (.ishl, 0, 0, 0), 0), (114, (.iconst (-1), 0, 0, 0), 0), (115, (.ixor, 0, 0, 0), 0), (116, (.iand, 0, 0, 0), 0), (117, (.invokevirtual 56, 108, 0, 2), 564), (120, (.imul, 0, 0, 0), 0), (121, (.iadd, 0, 0, 0), 0), (122, (.istore_n 3, 0, 0, 0), 0), (123, (.iload 4, 0, 0, 0), 0), (125, (.ineg, 0, 0, 0), 0), (126, (.istore 4, 0, 0, 0), 0), (128, (.iinc 5 1, 0, 0, 0), 0), (131, (.goto (-95), 36, 0, 0), 0), (134, (.iload_n 3, 0, 0, 0), 0), (135, (.ireturn, 0, 0, 0), 0)]
def m_X2_minor : ex_M := (RX2, yX2_minor, cX2_minor, 7, some .int, 3, [], ex_cd q_X2_minor)
def q_X2_firstMouths : List (Nat × ex_I × Nat) := [(0, (.iconst 0, 0, 0, 0), 0), (1, (.istore_n 1, 0, 0, 0), 0), (2, (.iconst 0, 0, 0, 0), 0), (3, (.istore_n 2, 0, 0, 0), 0), (4, (.iload_n 2, 0, 0, 0), 0), (5, (.bipush 6, 0, 0, 0), 0), (7, (.if_icmp .ge 34, 41, 0, 0), 0), (10, (.aload_n 0, 0, 0, 0), 0), (11, (.getfield 31, 2, 2, 0), 182), (14, (.iload_n 2, 0, 0, 0), 0), (15, (.invokestatic 27, 49, 1, 0), 18), (18, (.ifCond .eq 17, 35, 0, 0), 0), (21, (.aload_n 0, 0, 0, 0), 0), (22, (.iload_n 2, 0, 0, 0), 0), (23, (.invokevirtual 65, 110, 0, 2), 573), (26, (.ifCond .eq 9, 35, 0, 0), 0), (29, (.iload_n 1, 0, 0, 0), 0), (30, (.iconst 1, 0, 0, 0), 0), (31, (.iload_n 2, 0, 0, 0), 0), (32, (.ishl, 0, 0, 0), 0), (33, (.ior, 0, 0, 0), 0), (34, (.istore_n 1, 0, 0, 0), 0), (35, (.iinc 2 1, 0, 0, 0), 0), (38, (.goto (-34), 4, 0, 0), 0), (41, (.iload_n 1, 0, 0, 0), 0), (42, (.ireturn, 0, 0, 0), 0)]
def m_X2_firstMouths : ex_M := (RX2, yX2_firstMouths, cX2_firstMouths, 3, some .int, 1, [], ex_cd q_X2_firstMouths)
def q_X2_reachesAll : List (Nat × ex_I × Nat) := [(0, (.iconst 1, 0, 0, 0), 0), (1, (.iload_n 1, 0, 0, 0), 0), (2, (.ishl, 0, 0, 0), 0), (3, (.istore_n 2, 0, 0, 0), 0), (4, (.iconst 1, 0, 0, 0), 0), (5, (.istore_n 3, 0, 0, 0), 0), (6, (.iload_n 3, 0, 0, 0), 0), (7, (.bipush 6, 0, 0, 0), 0), (9, (.if_icmp .ge 44, 53, 0, 0), 0), (12, (.iconst 0, 0, 0, 0), 0), (13, (.istore 4, 0, 0, 0), 0), (15, (.iload 4, 0, 0, 0), 0), (17, (.bipush 6, 0, 0, 0), 0), (19, (.if_icmp .ge 28, 47, 0, 0), 0), (22, (.aload_n 0, 0, 0, 0), 0), (23, (.getfield 9, 2, 0, 0), 180), (26, (.iload 4, 0, 0, 0), 0), (28, (.iaload, 0, 0, 0), 0), (29, (.iload_n 2, 0, 0, 0), 0), (30, (.iand, 0, 0, 0), 0), (31, (.ifCond .eq 10, 41, 0, 0), 0), (34, (.iload_n 2, 0, 0, 0), 0), (35, (.iconst 1, 0, 0, 0), 0), (36, (.iload 4, 0, 0, 0), 0), (38, (.ishl, 0, 0, 0), 0), (39, (.ior, 0, 0, 0), 0), (40, (.istore_n 2, 0, 0, 0), 0), (41, (.iinc 4 1, 0, 0, 0), 0), (44, (.goto (-29), 15, 0, 0), 0), (47, (.iinc 3 1, 0, 0, 0), 0), (50, (.goto (-44), 6, 0, 0), 0), (53, (.iload_n 2, 0, 0, 0), 0), (54, (.aload_n 0, 0, 0, 0), 0), (55, (.getfield 15, 2, 1, 0), 181), (58, (.if_icmp .ne 7, 65, 0, 0), 0), (61, (.iconst 1, 0, 0, 0), 0), (62, (.goto 4, 66, 0, 0), 0), (65, (.iconst 0, 0, 0, 0), 0), (66, (.ireturn, 0, 0, 0), 0)]
def m_X2_reachesAll : ex_M := (RX2, yX2_reachesAll, cX2_reachesAll, 5, some .boolean, 2, [], ex_cd q_X2_reachesAll)
def q_X2_sourceOf : List (Nat × ex_I × Nat) := [(0, (.aload_n 0, 0, 0, 0), 0), (1, (.invokevirtual 69, 109, 0, 2), 585), (4, (.ifCond .ne 6, 10, 0, 0), 0), (7, (.bipush (-4), 0, 0, 0), 0), (9, (.ireturn, 0, 0, 0), 0), (10, (.bipush (-4), 0, 0, 0), 0), (12, (.istore_n 2, 0, 0, 0), 0), (13, (.iconst 0, 0, 0, 0), 0), (14, (.istore_n 3, 0, 0, 0), 0), (15, (.iload_n 3, 0, 0, 0), 0), (16, (.iload_n 1, 0, 0, 0), 0), (17, (.if_icmp .gt 26, 43, 0, 0), 0), (20, (.aload_n 0, 0, 0, 0), 0), (21, (.getfield 15, 2, 1, 0), 181), (24, (.iload_n 3, 0, 0, 0), 0), (25, (.invokestatic 27, 49, 1, 0), 18), (28, (.ifCond .eq 9, 37, 0, 0), 0), (31, (.aload_n 0, 0, 0, 0), 0), (32, (.iload_n 3, 0, 0, 0), 0), (33, (.invokevirtual 73, 112, 0, 2), 586), (36, (.istore_n 2, 0, 0, 0), 0), (37, (.iinc 3 1, 0, 0, 0), 0), (40, (.goto (-25), 15, 0, 0), 0), (43, (.iload_n 2, 0, 0, 0), 0), (44, (.ireturn, 0, 0, 0), 0)]
def m_X2_sourceOf : ex_M := (RX2, yX2_sourceOf, cX2_sourceOf, 4, some .int, 2, [], ex_cd q_X2_sourceOf)
def q_X2_settle : List (Nat × ex_I × Nat) := [(0, (.aload_n 0, 0, 0, 0), 0), (1, (.getfield 9, 2, 0, 0), 180), (4, (.iload_n 1, 0, 0, 0), 0), (5, (.iaload, 0, 0, 0), 0), (6, (.istore_n 2, 0, 0, 0), 0), (7, (.aload_n 0, 0, 0, 0), 0), (8, (.getfield 31, 2, 2, 0), 182), (11, (.istore_n 3, 0, 0, 0), 0), (12, (.aload_n 0, 0, 0, 0), 0), (13, (.dup, 0, 0, 0), 0), (14, (.getfield 31, 2, 2, 0), 182), (17, (.iconst 1, 0, 0, 0), 0), (18, (.iload_n 1, 0, 0, 0), 0), (19, (.ishl, 0, 0, 0), 0), (20, (.iconst (-1), 0, 0, 0), 0), (21, (.ixor, 0, 0, 0), 0), (22, (.iand, 0, 0, 0), 0), (23, (.putfield 31, 2, 2, 0), 182), (26, (.iconst 0, 0, 0, 0), 0), (27, (.istore 4, 0, 0, 0), 0), (29, (.iload 4, 0, 0, 0), 0), (31, (.bipush 6, 0, 0, 0), 0), (33, (.if_icmp .ge 41, 74, 0, 0), 0), (36, (.iload_n 2, 0, 0, 0), 0), (37, (.iload 4, 0, 0, 0), 0), (39, (.invokestatic 27, 49, 1, 0), 18), (42, (.ifCond .ne 6, 48, 0, 0), 0), (45, (.goto 23, 68, 0, 0), 0), (48, (.aload_n 0, 0, 0, 0), 0), (49, (.getfield 9, 2, 0, 0), 180), (52, (.iload_n 1, 0, 0, 0), 0), (53, (.iconst 1, 0, 0, 0), 0), (54, (.iload 4, 0, 0, 0), 0), (56, (.ishl, 0, 0, 0), 0), (57, (.iastore, 0, 0, 0), 0), (58, (.aload_n 0, 0, 0, 0), 0), (59, (.invokevirtual 69, 109, 0, 2), 585), (62, (.ifCond .eq 6, 68, 0, 0), 0), (65, (.iload 4, 0, 0, 0), 0), (67, (.ireturn, 0, 0, 0), 0), (68, (.iinc 4 1, 0, 0, 0), 0), (71, (.goto (-42), 29, 0, 0), 0), (74, (.aload_n 0, 0, 0, 0), 0), (75, (.getfield 9, 2, 0, 0), 180), (78, (.iload_n 1, 0, 0, 0), 0), (79, (.iconst 0, 0, 0, 0), 0), (80, (.iastore, 0, 0, 0), 0), (81, (.aload_n 0, 0, 0, 0), 0), (82, (.iload_n 3, 0, 0, 0), 0), (83, (.iconst 1, 0, 0, 0), 0), (84, (.iload_n 1, 0, 0, 0), 0), (85, (.ishl, 0, 0, 0), 0), (86, (.iand, 0, 0, 0), 0), (87, (.putfield 31, 2, 2, 0), 182), (90, (.bipush 9, 0, 0, 0), 0), (92, (.ireturn, 0, 0, 0), 0)]
def m_X2_settle : ex_M := (RX2, yX2_settle, cX2_settle, 5, some .int, 2, [], ex_cd q_X2_settle)
def q_X7_init : List (Nat × ex_I × Nat) := [(0, (.aload_n 0, 0, 0, 0), 0), (1, (.invokespecial 1, 0, 2, 0), 691), (4, (.aload_n 0, 0, 0, 0), 0), (5, (.bipush 6, 0, 0, 0), 0), (7, (.newarray .int, 0, 0, 0), 0), (9, (.putfield 7, 7, 0, 2), 692), (12, (.aload_n 0, 0, 0, 0), 0), (13, (.bipush 6, 0, 0, 0), 0), (15, (.newarray .int, 0, 0, 0), 0), (17, (.putfield 13, 7, 1, 2), 693), (20, (.aload_n 0, 0, 0, 0), 0), (21, (.bipush 24, 0, 0, 0), 0), (23, (.newarray .int, 0, 0, 0), 0), (25, (.putfield 16, 7, 2, 2), 694), (28, (.aload_n 0, 0, 0, 0), 0), (29, (.iconst 4, 0, 0, 0), 0), (30, (.newarray .int, 0, 0, 0), 0), (32, (.putfield 19, 7, 3, 2), 695), (35, (.aload_n 0, 0, 0, 0), 0), (36, (.bipush 96, 0, 0, 0), 0), (38, (.newarray .int, 0, 0, 0), 0), (40, (.putfield 22, 7, 5, 2), 697), (43, (.aload_n 0, 0, 0, 0), 0), (44, (.iconst 1, 0, 0, 0), 0), (45, (.putfield 25, 7, 8, 0), 700), (48, (.aload_n 0, 0, 0, 0), 0), (49, (.sipush 160, 0, 0, 0), 0), (52, (.newarray .int, 0, 0, 0), 0), (54, (.putfield 29, 7, 9, 2), 701), (57, (.aload_n 0, 0, 0, 0), 0), (58, (.bipush 96, 0, 0, 0), 0), (60, (.newarray .int, 0, 0, 0), 0), (62, (.putfield 32, 7, 13, 2), 705), (65, (.aload_n 0, 0, 0, 0), 0), (66, (.sipush 4096, 0, 0, 0), 0), (69, (.newarray .boolean, 0, 0, 0), 0), (71, (.putfield 35, 7, 14, 2), 706), (74, (.aload_n 0, 0, 0, 0), 0), (75, (.sipush 4096, 0, 0, 0), 0), (78, (.newarray .boolean, 0, 0, 0), 0), (80, (.putfield 39, 7, 15, 2), 707), (83, (.aload_n 0, 0, 0, 0), 0), (84, (.iconst 4, 0, 0, 0), 0), (85, (.newarray .int, 0, 0, 0), 0), (87, (.putfield 42, 7, 16, 2), 708), (90, (.aload_n 0, 0, 0, 0), 0), (91, (.sipush 4096, 0, 0, 0), 0), (94, (.newarray .int, 0, 0, 0), 0), (96, (.putfield 45, 7, 18, 2), 710), (99, (.aload_n 0, 0, 0, 0), 0), (100, (.sipush 4096, 0, 0, 0), 0), (103, (.newarray .int, 0, 0, 0), 0), (105, (.putfield 48, 7, 19, 2), 711), (108, (.aload_n 0, 0, 0, 0), 0), (109, (.bipush 24, 0, 0, 0), 0), (111, (.newarray .int, 0, 0, 0), 0), (113, (.putfield 51, 7, 20, 2), 712), (116, (.aload_n 0, 0, 0, 0), 0), (117, (.bipush 6, 0, 0, 0), 0), (119, (.newarray .int, 0, 0, 0), 0), (121, (.putfield 54, 7, 21, 2), 713), (124, (.aload_n 0, 0, 0, 0), 0), (125, (.bipush 6, 0, 0, 0), 0), (127, (.newarray .int, 0, 0, 0), 0), (129, (.putfield 57, 7, 22, 2), 714), (132, (.aload_n 0, 0, 0, 0), 0), (133, (.bipush 6, 0, 0, 0), 0), (135, (.newarray .int, 0, 0, 0), 0), (137, (.putfield 60, 7, 23, 2), 715), (140, (.aload_n 0, 0, 0, 0), 0), (141, (.bipush 6, 0, 0, 0), 0), (143, (.newarray .int, 0, 0, 0), 0), (145, (.putfield 63, 7, 25, 2), 717), (148, (.aload_n 0, 0, 0, 0), 0), (149, (.sipush 140, 0, 0, 0), 0), (152, (.newarray .int, 0, 0, 0), 0), (154, (.putfield 66, 7, 29, 2), 721), (157, (.aload_n 0, 0, 0, 0), 0), (158, (.iconst 4, 0, 0, 0), 0), (159, (.newarray .int, 0, 0, 0), 0), (161, (.putfield 69, 7, 30, 2), 722), (164, (.aload_n 0, 0, 0, 0), 0), (165, (.iconst 4, 0, 0, 0), 0), (166, (.newarray .int, 0, 0, 0), 0), (168, (.putfield 72, 7, 31, 2), 723), (171, (.aload_n 0, 0, 0, 0), 0), (172, (.bipush 96, 0, 0, 0), 0), (174, (.newarray .int, 0, 0, 0), 0), (176, (.putfield 75, 7, 32, 2), 724), (179, (.aload_n 0, 0, 0, 0), 0), (180, (.bipush 24, 0, 0, 0), 0), (182, (.newarray .int, 0, 0, 0), 0), (184, (.putfield 78, 7, 33, 2), 725), (187, (.iconst 0, 0, 0, 0), 0), (188, (.istore_n 1, 0, 0, 0), 0), (189, (.iload_n 1, 0, 0, 0), 0), (190, (.iconst 4, 0, 0, 0), 0), (191, (.if_icmp .ge 16, 207, 0, 0), 0), (194, (.aload_n 0, 0, 0, 0), 0), (195, (.getfield 69, 7, 30, 0), 722), (198, (.iload_n 1, 0, 0, 0), 0), (199, (.iconst (-1), 0, 0, 0), 0), (200, (.iastore, 0, 0, 0), 0), (201, (.iinc 1 1, 0, 0, 0), 0), (204, (.goto (-15), 189, 0, 0), 0), (207, (.return_, 0, 0, 0), 0)]
def m_X7_init : ex_M := (RX7, yX7_init, cX7_init, 2, none, 1, [], ex_cd q_X7_init)
def q_X7_in : List (Nat × ex_I × Nat) := [(0, (.lload_n 0, 0, 0, 0), 0), (1, (.lload_n 2, 0, 0, 0), 0), (2, (.lcmp, 0, 0, 0), 0), (3, (.ifCond .lt 14, 17, 0, 0), 0), (6, (.lload_n 0, 0, 0, 0), 0), (7, (.lload 4, 0, 0, 0), 0), (9, (.lcmp, 0, 0, 0), 0), (10, (.ifCond .gt 7, 17, 0, 0), 0), (13, (.iconst 1, 0, 0, 0), 0), (14, (.goto 4, 18, 0, 0), 0), (17, (.iconst 0, 0, 0, 0), 0), (18, (.ireturn, 0, 0, 0), 0)]
def m_X7_in : ex_M := (RX7, yX7_in, cX7_in, 6, some .boolean, 3, [0, 2, 4], ex_cd q_X7_in)
def q_X7_has : List (Nat × ex_I × Nat) := [(0, (.iload_n 0, 0, 0, 0), 0), (1, (.iload_n 1, 0, 0, 0), 0), (2, (.ishr, 0, 0, 0), 0), (3, (.iconst 1, 0, 0, 0), 0), (4, (.iand, 0, 0, 0), 0), (5, (.iconst 1, 0, 0, 0), 0), (6, (.if_icmp .ne 7, 13, 0, 0), 0), (9, (.iconst 1, 0, 0, 0), 0), (10, (.goto 4, 14, 0, 0), 0), (13, (.iconst 0, 0, 0, 0), 0), (14, (.ireturn, 0, 0, 0), 0)]
def m_X7_has : ex_M := (RX7, yX7_has, cX7_has, 2, some .boolean, 2, [], ex_cd q_X7_has)
def q_X7_isChild : List (Nat × ex_I × Nat) := [(0, (.iload_n 1, 0, 0, 0), 0), (1, (.i2l, 0, 0, 0), 0), (2, (.lconst 0, 0, 0, 0), 0), (3, (.aload_n 0, 0, 0, 0), 0), (4, (.getfield 81, 7, 4, 0), 696), (7, (.iconst 1, 0, 0, 0), 0), (8, (.isub, 0, 0, 0), 0), (9, (.i2l, 0, 0, 0), 0), (10, (.invokestatic 84, 114, 0, 0), 800), (13, (.ireturn, 0, 0, 0), 0)]
def m_X7_isChild : ex_M := (RX7, yX7_isChild, cX7_isChild, 2, some .boolean, 2, [], ex_cd q_X7_isChild)
def q_X7_isThing : List (Nat × ex_I × Nat) := [(0, (.iload_n 0, 0, 0, 0), 0), (1, (.i2l, 0, 0, 0), 0), (2, (.lconst 0, 0, 0, 0), 0), (3, (.ldc2_w 88, 0, 0, 3), 799), (6, (.invokestatic 84, 114, 0, 0), 800), (9, (.ireturn, 0, 0, 0), 0)]
def m_X7_isThing : ex_M := (RX7, yX7_isThing, cX7_isThing, 1, some .boolean, 1, [], ex_cd q_X7_isThing)
def q_X7_areTwo : List (Nat × ex_I × Nat) := [(0, (.aload_n 0, 0, 0, 0), 0), (1, (.iload_n 1, 0, 0, 0), 0), (2, (.invokevirtual 90, 116, 0, 7), 811), (5, (.ifCond .eq 20, 25, 0, 0), 0), (8, (.aload_n 0, 0, 0, 0), 0), (9, (.iload_n 2, 0, 0, 0), 0), (10, (.invokevirtual 90, 116, 0, 7), 811), (13, (.ifCond .eq 12, 25, 0, 0), 0), (16, (.iload_n 1, 0, 0, 0), 0), (17, (.iload_n 2, 0, 0, 0), 0), (18, (.if_icmp .eq 7, 25, 0, 0), 0), (21, (.iconst 1, 0, 0, 0), 0), (22, (.goto 4, 26, 0, 0), 0), (25, (.iconst 0, 0, 0, 0), 0), (26, (.ireturn, 0, 0, 0), 0)]
def m_X7_areTwo : ex_M := (RX7, yX7_areTwo, cX7_areTwo, 3, some .boolean, 3, [], ex_cd q_X7_areTwo)
def q_X7_add : List (Nat × ex_I × Nat) := [(0, (.aload_n 0, 0, 0, 0), 0), (1, (.getfield 7, 7, 0, 0), 692), (4, (.aload_n 0, 0, 0, 0), 0), (5, (.getfield 81, 7, 4, 0), 696), (8, (.iload_n 1, 0, 0, 0), 0), (9, (.iastore, 0, 0, 0), 0), (10, (.aload_n 0, 0, 0, 0), 0), (11, (.getfield 13, 7, 1, 0), 693), (14, (.aload_n 0, 0, 0, 0), 0), (15, (.getfield 81, 7, 4, 0), 696), (18, (.iconst 0, 0, 0, 0), 0), (19, (.iastore, 0, 0, 0), 0), (20, (.iconst 0, 0, 0, 0), 0), (21, (.istore_n 2, 0, 0, 0), 0), (22, (.iload_n 2, 0, 0, 0), 0), (23, (.aload_n 0, 0, 0, 0), 0), (24, (.getfield 81, 7, 4, 0), 696), (27, (.if_icmp .ge 39, 66, 0, 0), 0), (30, (.aload_n 0, 0, 0, 0), 0), (31, (.getfield 13, 7, 1, 0), 693), (34, (.iload_n 2, 0, 0, 0), 0), (35, (.dup2, 0, 0, 0), 0), (36, (.iaload, 0, 0, 0), 0), (37, (.iconst 1, 0, 0, 0), 0), (38, (.aload_n 0, 0, 0, 0), 0), (39, (.getfield 81, 7, 4, 0), 696), (42, (.ishl, 0, 0, 0), 0), (43, (.ior, 0, 0, 0), 0), (44, (.iastore, 0, 0, 0), 0), (45, (.aload_n 0, 0, 0, 0), 0), (46, (.getfield 13, 7, 1, 0), 693), (49, (.aload_n 0, 0, 0, 0), 0), (50, (.getfield 81, 7, 4, 0), 696), (53, (.dup2, 0, 0, 0), 0), (54, (.iaload, 0, 0, 0), 0), (55, (.iconst 1, 0, 0, 0), 0), (56, (.iload_n 2, 0, 0, 0), 0), (57, (.ishl, 0, 0, 0), 0), (58, (.ior, 0, 0, 0), 0), (59, (.iastore, 0, 0, 0), 0), (60, (.iinc 2 1, 0, 0, 0), 0), (63, (.goto (-41), 22, 0, 0), 0), (66, (.iconst 0, 0, 0, 0), 0), (67, (.istore_n 2, 0, 0, 0), 0), (68, (.iload_n 2, 0, 0, 0), 0), (69, (.iconst 4, 0, 0, 0), 0), (70, (.if_icmp .ge 24, 94, 0, 0), 0), (73, (.aload_n 0, 0, 0, 0), 0), (74, (.getfield 16, 7, 2, 0), 694), (77, (.iconst 4, 0, 0, 0), 0), (78, (.aload_n 0, 0, 0, 0), 0), (79, (.getfield 81, 7, 4, 0), 696), (82, (.imul, 0, 0, 0), 0), (83, (.iload_n 2, 0, 0, 0), 0), (84, (.iadd, 0, 0, 0), 0), (85, (.bipush 97, 0, 0, 0), 0), (87, (.iastore, 0, 0, 0), 0), (88, (.iinc 2 1, 0, 0, 0), 0), (91, (.goto (-23), 68, 0, 0), 0), (94, (.aload_n 0, 0, 0, 0), 0), (95, (.dup, 0, 0, 0), 0), (96, (.getfield 81, 7, 4, 0), 696), (99, (.iconst 1, 0, 0, 0), 0), (100, (.iadd, 0, 0, 0), 0), (101, (.putfield 81, 7, 4, 0), 696), (104, (.return_, 0, 0, 0), 0)]
def m_X7_add : ex_M := (RX7, yX7_add, cX7_add, 3, none, 2, [], ex_cd q_X7_add)
def q_X7_child : List (Nat × ex_I × Nat) := [(0, (.iload_n 1, 0, 0, 0), 0), (1, (.i2l, 0, 0, 0), 0), (2, (.lconst 0, 0, 0, 0), 0), (3, (.ldc2_w 88, 0, 0, 3), 799), (6, (.invokestatic 84, 114, 0, 0), 800), (9, (.ifCond .ne 5, 14, 0, 0), 0), (12, (.iconst (-1), 0, 0, 0), 0), (13, (.ireturn, 0, 0, 0), 0), (14, (.aload_n 0, 0, 0, 0), 0), (15, (.getfield 81, 7, 4, 0), 696), (18, (.bipush 6, 0, 0, 0), 0), (20, (.if_icmp .ne 6, 26, 0, 0), 0), (23, (.bipush (-3), 0, 0, 0), 0), (25, (.ireturn, 0, 0, 0), 0), (26, (.aload_n 0, 0, 0, 0), 0), (27, (.iload_n 1, 0, 0, 0), 0), (28, (.invokevirtual 94, 119, 0, 7), 803), (31, (.aload_n 0, 0, 0, 0), 0), (32, (.getfield 81, 7, 4, 0), 696), (35, (.iconst 1, 0, 0, 0), 0), (36, (.isub, 0, 0, 0), 0), (37, (.ireturn, 0, 0, 0), 0)]
def m_X7_child : ex_M := (RX7, yX7_child, cX7_child, 2, some .int, 2, [], ex_cd q_X7_child)
def q_X7_know : List (Nat × ex_I × Nat) := [(0, (.aload_n 0, 0, 0, 0), 0), (1, (.iload_n 1, 0, 0, 0), 0), (2, (.invokevirtual 90, 116, 0, 7), 811), (5, (.ifCond .eq 24, 29, 0, 0), 0), (8, (.iload_n 2, 0, 0, 0), 0), (9, (.invokestatic 98, 117, 0, 0), 815), (12, (.ifCond .eq 17, 29, 0, 0), 0), (15, (.iload_n 3, 0, 0, 0), 0), (16, (.i2l, 0, 0, 0), 0), (17, (.ldc2_w 101, 0, 0, (-1)), 818), (20, (.ldc2_w 103, 0, 0, 96), 819), (23, (.invokestatic 84, 114, 0, 0), 800), (26, (.ifCond .ne 5, 31, 0, 0), 0), (29, (.iconst (-1), 0, 0, 0), 0), (30, (.ireturn, 0, 0, 0), 0), (31, (.aload_n 0, 0, 0, 0), 0), (32, (.getfield 16, 7, 2, 0), 694), (35, (.iconst 4, 0, 0, 0), 0), (36, (.iload_n 1, 0, 0, 0), 0), (37, (.imul, 0, 0, 0), 0), (38, (.iload_n 2, 0, 0, 0), 0), (39, (.iadd, 0, 0, 0), 0), (40, (.iaload, 0, 0, 0), 0), (41, (.istore 4, 0, 0, 0), 0), (43, (.aload_n 0, 0, 0, 0), 0), (44, (.getfield 16, 7, 2, 0), 694), (47, (.iconst 4, 0, 0, 0), 0), (48, (.iload_n 1, 0, 0, 0), 0), (49, (.imul, 0, 0, 0), 0), (50, (.iload_n 2, 0, 0, 0), 0), (51, (.iadd, 0, 0, 0), 0), (52, (.iload_n 3, 0, 0, 0), 0), (53, (.ifCond .ge 8, 61, 0, 0), 0), (56, (.bipush 97, 0, 0, 0), 0), (58, (.goto 4, 62, 0, 0), 0), (61, (.iload_n 3, 0, 0, 0), 0), (62, (.iastore, 0, 0, 0), 0), (63, (.iload 4, 0, 0, 0), 0), (65, (.ireturn, 0, 0, 0), 0)]
def m_X7_know : ex_M := (RX7, yX7_know, cX7_know, 5, some .int, 4, [], ex_cd q_X7_know)
def q_X7_need : List (Nat × ex_I × Nat) := [(0, (.iload_n 1, 0, 0, 0), 0), (1, (.invokestatic 98, 117, 0, 0), 815), (4, (.ifCond .eq 23, 27, 0, 0), 0), (7, (.iload_n 2, 0, 0, 0), 0), (8, (.i2l, 0, 0, 0), 0), (9, (.lconst 0, 0, 0, 0), 0), (10, (.ldc2_w 105, 0, 0, 15), 824), (13, (.invokestatic 84, 114, 0, 0), 800), (16, (.ifCond .eq 11, 27, 0, 0), 0), (19, (.iload_n 2, 0, 0, 0), 0), (20, (.iload_n 1, 0, 0, 0), 0), (21, (.invokestatic 107, 115, 0, 0), 825), (24, (.ifCond .eq 5, 29, 0, 0), 0), (27, (.iconst (-1), 0, 0, 0), 0), (28, (.ireturn, 0, 0, 0), 0), (29, (.aload_n 0, 0, 0, 0), 0), (30, (.getfield 19, 7, 3, 0), 695), (33, (.iload_n 1, 0, 0, 0), 0), (34, (.iaload, 0, 0, 0), 0), (35, (.istore_n 3, 0, 0, 0), 0), (36, (.aload_n 0, 0, 0, 0), 0), (37, (.getfield 19, 7, 3, 0), 695), (40, (.iload_n 1, 0, 0, 0), 0), (41, (.iload_n 2, 0, 0, 0), 0), (42, (.iastore, 0, 0, 0), 0), (43, (.iload_n 3, 0, 0, 0), 0), (44, (.ireturn, 0, 0, 0), 0)]
def m_X7_need : ex_M := (RX7, yX7_need, cX7_need, 4, some .int, 3, [], ex_cd q_X7_need)
def q_X7_hears : List (Nat × ex_I × Nat) := [(0, (.aload_n 0, 0, 0, 0), 0), (1, (.iload_n 1, 0, 0, 0), 0), (2, (.iload_n 2, 0, 0, 0), 0), (3, (.invokevirtual 111, 118, 0, 7), 832), (6, (.ifCond .ne 5, 11, 0, 0), 0), (9, (.iconst (-1), 0, 0, 0), 0), (10, (.ireturn, 0, 0, 0), 0), (11, (.aload_n 0, 0, 0, 0), 0), (12, (.getfield 13, 7, 1, 0), 693), (15, (.iload_n 1, 0, 0, 0), 0), (16, (.iaload, 0, 0, 0), 0), (17, (.iload_n 2, 0, 0, 0), 0), (18, (.ishr, 0, 0, 0), 0), (19, (.iconst 1, 0, 0, 0), 0), (20, (.iand, 0, 0, 0), 0), (21, (.istore 4, 0, 0, 0), 0), (23, (.aload_n 0, 0, 0, 0), 0), (24, (.getfield 13, 7, 1, 0), 693), (27, (.iload_n 1, 0, 0, 0), 0), (28, (.iload_n 3, 0, 0, 0), 0), (29, (.ifCond .eq 16, 45, 0, 0), 0), (32, (.aload_n 0, 0, 0, 0), 0), (33, (.getfield 13, 7, 1, 0), 693), (36, (.iload_n 1, 0, 0, 0), 0), (37, (.iaload, 0, 0, 0), 0), (38, (.iconst 1, 0, 0, 0), 0), (39, (.iload_n 2, 0, 0, 0), 0), (40, (.ishl, 0, 0, 0), 0), (41, (.ior, 0, 0, 0), 0), (42, (.goto 15, 57, 0, 0), 0), (45, (.aload_n 0, 0, 0, 0), 0), (46, (.getfield 13, 7, 1, 0), 693), (49, (.iload_n 1, 0, 0, 0), 0), (50, (.iaload, 0, 0, 0), 0), (51, (.iconst 1, 0, 0, 0), 0), (52, (.iload_n 2, 0, 0, 0), 0), (53, (.ishl, 0, 0, 0), 0), (54, (.iconst (-1), 0, 0, 0), 0), (55, (.ixor, 0, 0, 0), 0), (56, (.iand, 0, 0, 0), 0), (57, (.iastore, 0, 0, 0), 0), (58, (.iload 4, 0, 0, 0), 0), (60, (.ireturn, 0, 0, 0), 0)]
def m_X7_hears : ex_M := (RX7, yX7_hears, cX7_hears, 5, some .int, 4, [], ex_cd q_X7_hears)
def q_X7_knownTo : List (Nat × ex_I × Nat) := [(0, (.iconst 0, 0, 0, 0), 0), (1, (.istore_n 2, 0, 0, 0), 0), (2, (.iconst 0, 0, 0, 0), 0), (3, (.istore_n 3, 0, 0, 0), 0), (4, (.iload_n 3, 0, 0, 0), 0), (5, (.iconst 4, 0, 0, 0), 0), (6, (.if_icmp .ge 34, 40, 0, 0), 0), (9, (.iload_n 2, 0, 0, 0), 0), (10, (.aload_n 0, 0, 0, 0), 0), (11, (.getfield 16, 7, 2, 0), 694), (14, (.iconst 4, 0, 0, 0), 0), (15, (.iload_n 1, 0, 0, 0), 0), (16, (.imul, 0, 0, 0), 0), (17, (.iload_n 3, 0, 0, 0), 0), (18, (.iadd, 0, 0, 0), 0), (19, (.iaload, 0, 0, 0), 0), (20, (.bipush 97, 0, 0, 0), 0), (22, (.if_icmp .ge 9, 31, 0, 0), 0), (25, (.iconst 1, 0, 0, 0), 0), (26, (.iload_n 3, 0, 0, 0), 0), (27, (.ishl, 0, 0, 0), 0), (28, (.goto 4, 32, 0, 0), 0), (31, (.iconst 0, 0, 0, 0), 0), (32, (.ior, 0, 0, 0), 0), (33, (.istore_n 2, 0, 0, 0), 0), (34, (.iinc 3 1, 0, 0, 0), 0), (37, (.goto (-33), 4, 0, 0), 0), (40, (.iload_n 2, 0, 0, 0), 0), (41, (.ireturn, 0, 0, 0), 0)]
def m_X7_knownTo : ex_M := (RX7, yX7_knownTo, cX7_knownTo, 4, some .int, 2, [], ex_cd q_X7_knownTo)
def q_X7_told : List (Nat × ex_I × Nat) := [(0, (.aload_n 0, 0, 0, 0), 0), (1, (.iload_n 1, 0, 0, 0), 0), (2, (.invokevirtual 90, 116, 0, 7), 811), (5, (.ifCond .eq 15, 20, 0, 0), 0), (8, (.iload_n 2, 0, 0, 0), 0), (9, (.i2l, 0, 0, 0), 0), (10, (.lconst 0, 0, 0, 0), 0), (11, (.ldc2_w 114, 0, 0, 6), 840), (14, (.invokestatic 84, 114, 0, 0), 800), (17, (.ifCond .ne 5, 22, 0, 0), 0), (20, (.iconst (-1), 0, 0, 0), 0), (21, (.ireturn, 0, 0, 0), 0), (22, (.iload_n 2, 0, 0, 0), 0), (23, (.ifCond .ne 12, 35, 0, 0), 0), (26, (.aload_n 0, 0, 0, 0), 0), (27, (.getfield 7, 7, 0, 0), 692), (30, (.iload_n 1, 0, 0, 0), 0), (31, (.iaload, 0, 0, 0), 0), (32, (.goto 42, 74, 0, 0), 0), (35, (.iload_n 2, 0, 0, 0), 0), (36, (.iconst 1, 0, 0, 0), 0), (37, (.if_icmp .ne 11, 48, 0, 0), 0), (40, (.aload_n 0, 0, 0, 0), 0), (41, (.iload_n 1, 0, 0, 0), 0), (42, (.invokevirtual 116, 124, 0, 7), 841), (45, (.goto 29, 74, 0, 0), 0), (48, (.iload_n 2, 0, 0, 0), 0), (49, (.iconst 2, 0, 0, 0), 0), (50, (.if_icmp .ne 12, 62, 0, 0), 0), (53, (.aload_n 0, 0, 0, 0), 0), (54, (.getfield 13, 7, 1, 0), 693), (57, (.iload_n 1, 0, 0, 0), 0), (58, (.iaload, 0, 0, 0), 0), (59, (.goto 15, 74, 0, 0), 0), (62, (.aload_n 0, 0, 0, 0), 0), (63, (.getfield 16, 7, 2, 0), 694), (66, (.iconst 4, 0, 0, 0), 0), (67, (.iload_n 1, 0, 0, 0), 0), (68, (.imul, 0, 0, 0), 0), (69, (.iload_n 2, 0, 0, 0), 0), (70, (.iadd, 0, 0, 0), 0), (71, (.iconst 3, 0, 0, 0), 0), (72, (.isub, 0, 0, 0), 0), (73, (.iaload, 0, 0, 0), 0), (74, (.ireturn, 0, 0, 0), 0)]
def m_X7_told : ex_M := (RX7, yX7_told, cX7_told, 3, some .int, 3, [], ex_cd q_X7_told)
def q_X7_pass : List (Nat × ex_I × Nat) := [(0, (.iload_n 0, 0, 0, 0), 0), (1, (.iconst 2, 0, 0, 0), 0), (2, (.if_icmp .ne 10, 12, 0, 0), 0), (5, (.iconst 2, 0, 0, 0), 0), (6, (.iload_n 1, 0, 0, 0), 0), (7, (.imul, 0, 0, 0), 0), (8, (.bipush 97, 0, 0, 0), 0), (10, (.irem, 0, 0, 0), 0), (11, (.ireturn, 0, 0, 0), 0), (12, (.iload_n 1, 0, 0, 0), 0), (13, (.iconst 1, 0, 0, 0), 0), (14, (.iadd, 0, 0, 0), 0), (15, (.bipush 97, 0, 0, 0), 0), (17, (.irem, 0, 0, 0), 0), (18, (.istore_n 2, 0, 0, 0), 0), (19, (.iload_n 0, 0, 0, 0), 0), (20, (.iconst 1, 0, 0, 0), 0), (21, (.if_icmp .ne 7, 28, 0, 0), 0), (24, (.iload_n 2, 0, 0, 0), 0), (25, (.goto 16, 41, 0, 0), 0), (28, (.iload_n 0, 0, 0, 0), 0), (29, (.iconst 3, 0, 0, 0), 0), (30, (.if_icmp .ne 10, 40, 0, 0), 0), (33, (.bipush 96, 0, 0, 0), 0), (35, (.iload_n 2, 0, 0, 0), 0), (36, (.isub, 0, 0, 0), 0), (37, (.goto 4, 41, 0, 0), 0), (40, (.iload_n 1, 0, 0, 0), 0), (41, (.ireturn, 0, 0, 0), 0)]
def m_X7_pass : ex_M := (RX7, yX7_pass, cX7_pass, 3, some .int, 2, [], ex_cd q_X7_pass)
def q_X7_passes : List (Nat × ex_I × Nat) := [(0, (.aload_n 0, 0, 0, 0), 0), (1, (.iload_n 1, 0, 0, 0), 0), (2, (.invokevirtual 90, 116, 0, 7), 811), (5, (.ifCond .eq 28, 33, 0, 0), 0), (8, (.iload_n 2, 0, 0, 0), 0), (9, (.i2l, 0, 0, 0), 0), (10, (.lconst 0, 0, 0, 0), 0), (11, (.ldc2_w 103, 0, 0, 96), 819), (14, (.invokestatic 84, 114, 0, 0), 800), (17, (.ifCond .eq 16, 33, 0, 0), 0), (20, (.aload_n 0, 0, 0, 0), 0), (21, (.getfield 7, 7, 0, 0), 692), (24, (.iload_n 1, 0, 0, 0), 0), (25, (.iaload, 0, 0, 0), 0), (26, (.iload_n 2, 0, 0, 0), 0), (27, (.invokestatic 120, 126, 0, 0), 849), (30, (.goto 4, 34, 0, 0), 0), (33, (.iconst (-1), 0, 0, 0), 0), (34, (.ireturn, 0, 0, 0), 0)]
def m_X7_passes : ex_M := (RX7, yX7_passes, cX7_passes, 3, some .int, 3, [], ex_cd q_X7_passes)
def q_X7_count : List (Nat × ex_I × Nat) := [(0, (.iconst 0, 0, 0, 0), 0), (1, (.istore_n 2, 0, 0, 0), 0), (2, (.iconst 0, 0, 0, 0), 0), (3, (.istore_n 3, 0, 0, 0), 0), (4, (.iconst 0, 0, 0, 0), 0), (5, (.istore 4, 0, 0, 0), 0), (7, (.iload 4, 0, 0, 0), 0), (9, (.iconst 4, 0, 0, 0), 0), (10, (.aload_n 0, 0, 0, 0), 0), (11, (.getfield 81, 7, 4, 0), 696), (14, (.imul, 0, 0, 0), 0), (15, (.if_icmp .ge 59, 74, 0, 0), 0), (18, (.iload_n 2, 0, 0, 0), 0), (19, (.aload_n 0, 0, 0, 0), 0), (20, (.getfield 16, 7, 2, 0), 694), (23, (.iload 4, 0, 0, 0), 0), (25, (.iaload, 0, 0, 0), 0), (26, (.bipush 97, 0, 0, 0), 0), (28, (.if_icmp .ge 7, 35, 0, 0), 0), (31, (.iconst 1, 0, 0, 0), 0), (32, (.goto 4, 36, 0, 0), 0), (35, (.iconst 0, 0, 0, 0), 0), (36, (.iadd, 0, 0, 0), 0), (37, (.istore_n 2, 0, 0, 0), 0), (38, (.iload_n 3, 0, 0, 0), 0), (39, (.aload_n 0, 0, 0, 0), 0), (40, (.getfield 16, 7, 2, 0), 694), (43, (.iload 4, 0, 0, 0), 0), (45, (.iaload, 0, 0, 0), 0), (46, (.bipush 97, 0, 0, 0), 0), (48, (.if_icmp .ge 17, 65, 0, 0), 0), (51, (.aload_n 0, 0, 0, 0), 0), (52, (.getfield 16, 7, 2, 0), 694), (55, (.iload 4, 0, 0, 0), 0), (57, (.iaload, 0, 0, 0), 0), (58, (.ifCond .le 7, 65, 0, 0), 0), (61, (.iconst 1, 0, 0, 0), 0), (62, (.goto 4, 66, 0, 0), 0), (65, (.iconst 0, 0, 0, 0), 0), (66, (.iadd, 0, 0, 0), 0), (67, (.istore_n 3, 0, 0, 0), 0), (68, (.iinc 4 1, 0, 0, 0), 0), (71, (.goto (-64), 7, 0, 0), 0), (74, (.iload_n 1, 0, 0, 0), 0), (75, (.tableswitch 83 0 5 #[37, 42, 47, 52, 79, 81], 0, 0, 0), 0), (112, (.aload_n 0, 0, 0, 0), 0), (113, (.getfield 81, 7, 4, 0), 696), (116, (.ireturn, 0, 0, 0), 0), (117, (.aload_n 0, 0, 0, 0), 0), (118, (.getfield 124, 7, 7, 0), 699), (121, (.ireturn, 0, 0, 0), 0), (122, (.aload_n 0, 0, 0, 0), 0), (123, (.getfield 127, 7, 6, 0), 698), (126, (.ireturn, 0, 0, 0), 0), (127, (.aload_n 0, 0, 0, 0), 0), (128, (.getfield 127, 7, 6, 0), 698), (131, (.ifCond .ne 7, 138, 0, 0), 0), (134, (.iconst 0, 0, 0, 0), 0), (135, (.goto 18, 153, 0, 0), 0), (138, (.aload_n 0, 0, 0, 0), 0), (139, (.getfield 22, 7, 5, 0), 697), (142, (.iconst 4, 0, 0, 0), 0), (143, (.aload_n 0, 0, 0, 0), 0), (144, (.getfield 127, 7, 6, 0), 698), (147, (.imul, 0, 0, 0), 0), (148, (.iconst 1, 0, 0, 0), 0), (149, (.isub, 0, 0, 0), 0), (150, (.iaload, 0, 0, 0), 0), (151, (.iconst 1, 0, 0, 0), 0), (152, (.iadd, 0, 0, 0), 0), (153, (.ireturn, 0, 0, 0), 0), (154, (.iload_n 2, 0, 0, 0), 0), (155, (.ireturn, 0, 0, 0), 0), (156, (.iload_n 3, 0, 0, 0), 0), (157, (.ireturn, 0, 0, 0), 0), (158, (.iconst (-1), 0, 0, 0), 0), (159, (.ireturn, 0, 0, 0), 0)]
def m_X7_count : ex_M := (RX7, yX7_count, cX7_count, 5, some .int, 2, [], ex_cd q_X7_count)
def q_X7_type : List (Nat × ex_I × Nat) := [(0, (.iload_n 3, 0, 0, 0), 0), (1, (.i2l, 0, 0, 0), 0), (2, (.lconst 1, 0, 0, 0), 0), (3, (.ldc2_w 130, 0, 0, 8), 860), (6, (.invokestatic 84, 114, 0, 0), 800), (9, (.ifCond .ne 5, 14, 0, 0), 0), (12, (.iconst (-1), 0, 0, 0), 0), (13, (.ireturn, 0, 0, 0), 0), (14, (.iload_n 3, 0, 0, 0), 0), (15, (.iconst 1, 0, 0, 0), 0), (16, (.isub, 0, 0, 0), 0), (17, (.istore 4, 0, 0, 0), 0), (19, (.iload 4, 0, 0, 0), 0), (21, (.ifCond .lt 34, 55, 0, 0), 0), (24, (.lload_n 1, 0, 0, 0), 0), (25, (.bipush 8, 0, 0, 0), 0), (27, (.iload 4, 0, 0, 0), 0), (29, (.imul, 0, 0, 0), 0), (30, (.lshr, 0, 0, 0), 0), (31, (.ldc2_w 132, 0, 0, 255), 861), (34, (.land, 0, 0, 0), 0), (35, (.ldc2_w 134, 0, 0, 32), 862), (38, (.ldc2_w 136, 0, 0, 126), 863), (41, (.invokestatic 84, 114, 0, 0), 800), (44, (.ifCond .ne 5, 49, 0, 0), 0), (47, (.iconst (-1), 0, 0, 0), 0), (48, (.ireturn, 0, 0, 0), 0), (49, (.iinc 4 (-1), 0, 0, 0), 0), (52, (.goto (-33), 19, 0, 0), 0), (55, (.aload_n 0, 0, 0, 0), 0), (56, (.getfield 138, 7, 10, 0), 702), (59, (.iload_n 3, 0, 0, 0), 0), (60, (.iadd, 0, 0, 0), 0), (61, (.sipush 160, 0, 0, 0), 0), (64, (.if_icmp .le 6, 70, 0, 0), 0), (67, (.bipush (-3), 0, 0, 0), 0), (69, (.ireturn, 0, 0, 0), 0), (70, (.iload_n 3, 0, 0, 0), 0), (71, (.iconst 1, 0, 0, 0), 0), (72, (.isub, 0, 0, 0), 0), (73, (.istore 4, 0, 0, 0), 0), (75, (.iload 4, 0, 0, 0), 0), (77, (.ifCond .lt 40, 117, 0, 0), 0), (80, (.aload_n 0, 0, 0, 0), 0), (81, (.getfield 29, 7, 9, 0), 701), (84, (.aload_n 0, 0, 0, 0), 0), (85, (.getfield 138, 7, 10, 0), 702), (88, (.lload_n 1, 0, 0, 0), 0), (89, (.bipush 8, 0, 0, 0), 0), (91, (.iload 4, 0, 0, 0), 0), (93, (.imul, 0, 0, 0), 0), (94, (.lshr, 0, 0, 0), 0), (95, (.ldc2_w 132, 0, 0, 255), 861), (98, (.land, 0, 0, 0), 0), (99, (.l2i, 0, 0, 0), 0), (100, (.iastore, 0, 0, 0), 0), (101, (.aload_n 0, 0, 0, 0), 0), (102, (.dup, 0, 0, 0), 0), (103, (.getfield 138, 7, 10, 0), 702), (106, (.iconst 1, 0, 0, 0), 0), (107, (.iadd, 0, 0, 0), 0), (108, (.putfield 138, 7, 10, 0), 702), (111, (.iinc 4 (-1), 0, 0, 0), 0), (114, (.goto (-39), 75, 0, 0), 0), (117, (.aload_n 0, 0, 0, 0), 0), (118, (.getfield 138, 7, 10, 0), 702), (121, (.ireturn, 0, 0, 0), 0)]
def m_X7_type : ex_M := (RX7, yX7_type, cX7_type, 5, some .int, 3, [1], ex_cd q_X7_type)
def q_X7_nextByte : List (Nat × ex_I × Nat) := [(0, (.aload_n 0, 0, 0, 0), 0), (1, (.getfield 141, 7, 11, 0), 703), (4, (.aload_n 0, 0, 0, 0), 0), (5, (.getfield 138, 7, 10, 0), 702), (8, (.if_icmp .ge 30, 38, 0, 0), 0), (11, (.aload_n 0, 0, 0, 0), 0), (12, (.getfield 29, 7, 9, 0), 701), (15, (.aload_n 0, 0, 0, 0), 0), (16, (.getfield 141, 7, 11, 0), 703), (19, (.iaload, 0, 0, 0), 0), (20, (.bipush 32, 0, 0, 0), 0), (22, (.if_icmp .ne 16, 38, 0, 0), 0), (25, (.aload_n 0, 0, 0, 0), 0), (26, (.dup, 0, 0, 0), 0), (27, (.getfield 141, 7, 11, 0), 703), (30, (.iconst 1, 0, 0, 0), 0), (31, (.iadd, 0, 0, 0), 0), (32, (.putfield 141, 7, 11, 0), 703), (35, (.goto (-35), 0, 0, 0), 0), (38, (.aload_n 0, 0, 0, 0), 0), (39, (.getfield 141, 7, 11, 0), 703), (42, (.aload_n 0, 0, 0, 0), 0), (43, (.getfield 138, 7, 10, 0), 702), (46, (.if_icmp .ge 15, 61, 0, 0), 0), (49, (.aload_n 0, 0, 0, 0), 0), (50, (.getfield 29, 7, 9, 0), 701), (53, (.aload_n 0, 0, 0, 0), 0), (54, (.getfield 141, 7, 11, 0), 703), (57, (.iaload, 0, 0, 0), 0), (58, (.goto 4, 62, 0, 0), 0), (61, (.iconst (-1), 0, 0, 0), 0), (62, (.ireturn, 0, 0, 0), 0)]
def m_X7_nextByte : ex_M := (RX7, yX7_nextByte, cX7_nextByte, 1, some .int, 1, [], ex_cd q_X7_nextByte)
def q_X7_readChild : List (Nat × ex_I × Nat) := [(0, (.aload_n 0, 0, 0, 0), 0), (1, (.invokevirtual 144, 130, 0, 7), 876), (4, (.istore_n 2, 0, 0, 0), 0), (5, (.iload_n 2, 0, 0, 0), 0), (6, (.bipush 112, 0, 0, 0), 0), (8, (.if_icmp .ne 7, 15, 0, 0), 0), (11, (.iconst 0, 0, 0, 0), 0), (12, (.goto 34, 46, 0, 0), 0), (15, (.iload_n 2, 0, 0, 0), 0), (16, (.bipush 104, 0, 0, 0), 0), (18, (.if_icmp .ne 7, 25, 0, 0), 0), (21, (.iconst 1, 0, 0, 0), 0), (22, (.goto 24, 46, 0, 0), 0), (25, (.iload_n 2, 0, 0, 0), 0), (26, (.bipush 108, 0, 0, 0), 0), (28, (.if_icmp .ne 7, 35, 0, 0), 0), (31, (.iconst 2, 0, 0, 0), 0), (32, (.goto 14, 46, 0, 0), 0), (35, (.iload_n 2, 0, 0, 0), 0), (36, (.bipush 119, 0, 0, 0), 0), (38, (.if_icmp .ne 7, 45, 0, 0), 0), (41, (.iconst 3, 0, 0, 0), 0), (42, (.goto 4, 46, 0, 0), 0), (45, (.iconst (-1), 0, 0, 0), 0), (46, (.istore_n 3, 0, 0, 0), 0), (47, (.iload_n 3, 0, 0, 0), 0), (48, (.ifCond .ge 5, 53, 0, 0), 0), (51, (.iconst 0, 0, 0, 0), 0), (52, (.ireturn, 0, 0, 0), 0), (53, (.aload_n 0, 0, 0, 0), 0), (54, (.dup, 0, 0, 0), 0), (55, (.getfield 141, 7, 11, 0), 703), (58, (.iconst 1, 0, 0, 0), 0), (59, (.iadd, 0, 0, 0), 0), (60, (.putfield 141, 7, 11, 0), 703), (63, (.iconst 0, 0, 0, 0), 0), (64, (.istore 4, 0, 0, 0), 0), (66, (.aload_n 0, 0, 0, 0), 0), (67, (.invokevirtual 144, 130, 0, 7), 876), (70, (.i2l, 0, 0, 0), 0), (71, (.ldc2_w 148, 0, 0, 97), 880), (74, (.ldc2_w 150, 0, 0, 100), 881), (77, (.invokestatic 84, 114, 0, 0), 800), (80, (.ifCond .eq 46, 126, 0, 0), 0), (83, (.aload_n 0, 0, 0, 0), 0), (84, (.invokevirtual 144, 130, 0, 7), 876), (87, (.bipush 97, 0, 0, 0), 0), (89, (.isub, 0, 0, 0), 0), (90, (.istore 5, 0, 0, 0), 0), (92, (.iload 4, 0, 0, 0), 0), (94, (.iload 5, 0, 0, 0), 0), (96, (.invokestatic 107, 115, 0, 0), 825), (99, (.ifCond .eq 5, 104, 0, 0), 0), (102, (.iconst 0, 0, 0, 0), 0), (103, (.ireturn, 0, 0, 0), 0), (104, (.iload 4, 0, 0, 0), 0), (106, (.iconst 1, 0, 0, 0), 0), (107, (.iload 5, 0, 0, 0), 0), (109, (.ishl, 0, 0, 0), 0), (110, (.ior, 0, 0, 0), 0), (111, (.istore 4, 0, 0, 0), 0), (113, (.aload_n 0, 0, 0, 0), 0), (114, (.dup, 0, 0, 0), 0), (115, (.getfield 141, 7, 11, 0), 703), (118, (.iconst 1, 0, 0, 0), 0), (119, (.iadd, 0, 0, 0), 0), (120, (.putfield 141, 7, 11, 0), 703), (123, (.goto (-57), 66, 0, 0), 0), (126, (.aload_n 0, 0, 0, 0), 0), (127, (.getfield 32, 7, 13, 0), 705), (130, (.iconst 2, 0, 0, 0), 0), (131, (.iload_n 1, 0, 0, 0), 0), (132, (.imul, 0, 0, 0), 0), (133, (.iload_n 3, 0, 0, 0), 0), (134, (.iastore, 0, 0, 0), 0), (135, (.aload_n 0, 0, 0, 0), 0), (136, (.getfield 32, 7, 13, 0), 705), (139, (.iconst 2, 0, 0, 0), 0), (140, (.iload_n 1, 0, 0, 0), 0), (141, (.imul, 0, 0, 0), 0), (142, (.iconst 1, 0, 0, 0), 0), (143, (.iadd, 0, 0, 0), 0), (144, (.iload 4, 0, 0, 0), 0), (146, (.iastore, 0, 0, 0), 0), (147, (.iconst 1, 0, 0, 0), 0), (148, (.ireturn, 0, 0, 0), 0)]
def m_X7_readChild : ex_M := (RX7, yX7_readChild, cX7_readChild, 6, some .boolean, 2, [], ex_cd q_X7_readChild)
def q_X7_readSchool : List (Nat × ex_I × Nat) := [(0, (.aload_n 0, 0, 0, 0), 0), (1, (.iconst 0, 0, 0, 0), 0), (2, (.putfield 141, 7, 11, 0), 703), (5, (.iconst 0, 0, 0, 0), 0), (6, (.istore_n 1, 0, 0, 0), 0), (7, (.iload_n 1, 0, 0, 0), 0), (8, (.bipush 6, 0, 0, 0), 0), (10, (.if_icmp .ge 60, 70, 0, 0), 0), (13, (.aload_n 0, 0, 0, 0), 0), (14, (.iload_n 1, 0, 0, 0), 0), (15, (.invokevirtual 152, 131, 0, 7), 872), (18, (.ifCond .ne 5, 23, 0, 0), 0), (21, (.iconst 0, 0, 0, 0), 0), (22, (.ireturn, 0, 0, 0), 0), (23, (.aload_n 0, 0, 0, 0), 0), (24, (.iload_n 1, 0, 0, 0), 0), (25, (.iconst 1, 0, 0, 0), 0), (26, (.iadd, 0, 0, 0), 0), (27, (.putfield 155, 7, 12, 0), 704), (30, (.aload_n 0, 0, 0, 0), 0), (31, (.invokevirtual 144, 130, 0, 7), 876), (34, (.istore_n 2, 0, 0, 0), 0), (35, (.iload_n 2, 0, 0, 0), 0), (36, (.ifCond .ge 5, 41, 0, 0), 0), (39, (.iconst 1, 0, 0, 0), 0), (40, (.ireturn, 0, 0, 0), 0), (41, (.iload_n 2, 0, 0, 0), 0), (42, (.bipush 44, 0, 0, 0), 0), (44, (.if_icmp .ne 8, 52, 0, 0), 0), (47, (.iload_n 1, 0, 0, 0), 0), (48, (.iconst 5, 0, 0, 0), 0), (49, (.if_icmp .ne 5, 54, 0, 0), 0), (52, (.iconst 0, 0, 0, 0), 0), (53, (.ireturn, 0, 0, 0), 0), (54, (.aload_n 0, 0, 0, 0), 0), (55, (.dup, 0, 0, 0), 0), (56, (.getfield 141, 7, 11, 0), 703), (59, (.iconst 1, 0, 0, 0), 0), (60, (.iadd, 0, 0, 0), 0), (61, (.putfield 141, 7, 11, 0), 703), (64, (.iinc 1 1, 0, 0, 0), 0), (67, (.goto (-60), 7, 0, 0), 0), (70, (.iconst 0, 0, 0, 0), 0), (71, (.ireturn, 0, 0, 0), 0)]
def m_X7_readSchool : ex_M := (RX7, yX7_readSchool, cX7_readSchool, 3, some .boolean, 1, [], ex_cd q_X7_readSchool)
def q_X7_school : List (Nat × ex_I × Nat) := [(0, (.aload_n 0, 0, 0, 0), 0), (1, (.invokevirtual 158, 132, 0, 7), 868), (4, (.istore_n 1, 0, 0, 0), 0), (5, (.iload_n 1, 0, 0, 0), 0), (6, (.ifCond .ne 8, 14, 0, 0), 0), (9, (.aload_n 0, 0, 0, 0), 0), (10, (.invokevirtual 144, 130, 0, 7), 876), (13, (.pop, 0, 0, 0), 0), (14, (.aload_n 0, 0, 0, 0), 0), (15, (.iconst 0, 0, 0, 0), 0), (16, (.putfield 138, 7, 10, 0), 702), (19, (.iload_n 1, 0, 0, 0), 0), (20, (.ifCond .ne 11, 31, 0, 0), 0), (23, (.bipush (-20), 0, 0, 0), 0), (25, (.aload_n 0, 0, 0, 0), 0), (26, (.getfield 141, 7, 11, 0), 703), (29, (.isub, 0, 0, 0), 0), (30, (.ireturn, 0, 0, 0), 0), (31, (.aload_n 0, 0, 0, 0), 0), (32, (.iconst 0, 0, 0, 0), 0), (33, (.putfield 81, 7, 4, 0), 696), (36, (.aload_n 0, 0, 0, 0), 0), (37, (.iconst 0, 0, 0, 0), 0), (38, (.putfield 127, 7, 6, 0), 698), (41, (.iconst 0, 0, 0, 0), 0), (42, (.istore_n 2, 0, 0, 0), 0), (43, (.iload_n 2, 0, 0, 0), 0), (44, (.aload_n 0, 0, 0, 0), 0), (45, (.getfield 155, 7, 12, 0), 704), (48, (.if_icmp .ge 67, 115, 0, 0), 0), (51, (.aload_n 0, 0, 0, 0), 0), (52, (.aload_n 0, 0, 0, 0), 0), (53, (.getfield 32, 7, 13, 0), 705), (56, (.iconst 2, 0, 0, 0), 0), (57, (.iload_n 2, 0, 0, 0), 0), (58, (.imul, 0, 0, 0), 0), (59, (.iaload, 0, 0, 0), 0), (60, (.invokevirtual 94, 119, 0, 7), 803), (63, (.iconst 0, 0, 0, 0), 0), (64, (.istore_n 3, 0, 0, 0), 0), (65, (.iload_n 3, 0, 0, 0), 0), (66, (.iconst 4, 0, 0, 0), 0), (67, (.if_icmp .ge 42, 109, 0, 0), 0), (70, (.aload_n 0, 0, 0, 0), 0), (71, (.getfield 16, 7, 2, 0), 694), (74, (.iconst 4, 0, 0, 0), 0), (75, (.iload_n 2, 0, 0, 0), 0), (76, (.imul, 0, 0, 0), 0), (77, (.iload_n 3, 0, 0, 0), 0), (78, (.iadd, 0, 0, 0), 0), (79, (.aload_n 0, 0, 0, 0), 0), (80, (.getfield 32, 7, 13, 0), 705), (83, (.iconst 2, 0, 0, 0), 0), (84, (.iload_n 2, 0, 0, 0), 0), (85, (.imul, 0, 0, 0), 0), (86, (.iconst 1, 0, 0, 0), 0), (87, (.iadd, 0, 0, 0), 0), (88, (.iaload, 0, 0, 0), 0), (89, (.iload_n 3, 0, 0, 0), 0), (90, (.invokestatic 107, 115, 0, 0), 825), (93, (.ifCond .eq 7, 100, 0, 0), 0), (96, (.iconst 0, 0, 0, 0), 0), (97, (.goto 5, 102, 0, 0), 0), (100, (.bipush 97, 0, 0, 0), 0), (102, (.iastore, 0, 0, 0), 0), (103, (.iinc 3 1, 0, 0, 0), 0), (106, (.goto (-41), 65, 0, 0), 0), (109, (.iinc 2 1, 0, 0, 0), 0), (112, (.goto (-69), 43, 0, 0), 0), (115, (.aload_n 0, 0, 0, 0), 0), (116, (.getfield 81, 7, 4, 0), 696), (119, (.ireturn, 0, 0, 0), 0)]
def m_X7_school : ex_M := (RX7, yX7_school, cX7_school, 4, some .int, 1, [], ex_cd q_X7_school)
def q_X7_readTeaching : List (Nat × ex_I × Nat) := [(0, (.aload_n 0, 0, 0, 0), 0), (1, (.invokevirtual 144, 130, 0, 7), 876), (4, (.bipush 48, 0, 0, 0), 0), (6, (.isub, 0, 0, 0), 0), (7, (.istore_n 2, 0, 0, 0), 0), (8, (.aload_n 0, 0, 0, 0), 0), (9, (.iload_n 2, 0, 0, 0), 0), (10, (.invokevirtual 90, 116, 0, 7), 811), (13, (.ifCond .ne 5, 18, 0, 0), 0), (16, (.iconst 0, 0, 0, 0), 0), (17, (.ireturn, 0, 0, 0), 0), (18, (.aload_n 0, 0, 0, 0), 0), (19, (.dup, 0, 0, 0), 0), (20, (.getfield 141, 7, 11, 0), 703), (23, (.iconst 1, 0, 0, 0), 0), (24, (.iadd, 0, 0, 0), 0), (25, (.putfield 141, 7, 11, 0), 703), (28, (.aload_n 0, 0, 0, 0), 0), (29, (.invokevirtual 144, 130, 0, 7), 876), (32, (.bipush 62, 0, 0, 0), 0), (34, (.if_icmp .eq 5, 39, 0, 0), 0), (37, (.iconst 0, 0, 0, 0), 0), (38, (.ireturn, 0, 0, 0), 0), (39, (.aload_n 0, 0, 0, 0), 0), (40, (.dup, 0, 0, 0), 0), (41, (.getfield 141, 7, 11, 0), 703), (44, (.iconst 1, 0, 0, 0), 0), (45, (.iadd, 0, 0, 0), 0), (46, (.putfield 141, 7, 11, 0), 703), (49, (.aload_n 0, 0, 0, 0), 0), (50, (.invokevirtual 144, 130, 0, 7), 876), (53, (.bipush 48, 0, 0, 0), 0), (55, (.isub, 0, 0, 0), 0), (56, (.istore_n 3, 0, 0, 0), 0), (57, (.aload_n 0, 0, 0, 0), 0), (58, (.iload_n 3, 0, 0, 0), 0), (59, (.invokevirtual 90, 116, 0, 7), 811), (62, (.ifCond .eq 8, 70, 0, 0), 0), (65, (.iload_n 3, 0, 0, 0), 0), (66, (.iload_n 2, 0, 0, 0), 0), (67, (.if_icmp .ne 5, 72, 0, 0), 0), (70, (.iconst 0, 0, 0, 0), 0), (71, (.ireturn, 0, 0, 0), 0), (72, (.aload_n 0, 0, 0, 0), 0), (73, (.dup, 0, 0, 0), 0), (74, (.getfield 141, 7, 11, 0), 703), (77, (.iconst 1, 0, 0, 0), 0), (78, (.iadd, 0, 0, 0), 0), (79, (.putfield 141, 7, 11, 0), 703), (82, (.aload_n 0, 0, 0, 0), 0), (83, (.invokevirtual 144, 130, 0, 7), 876), (86, (.bipush 97, 0, 0, 0), 0), (88, (.isub, 0, 0, 0), 0), (89, (.istore 4, 0, 0, 0), 0), (91, (.iload 4, 0, 0, 0), 0), (93, (.invokestatic 98, 117, 0, 0), 815), (96, (.ifCond .ne 5, 101, 0, 0), 0), (99, (.iconst 0, 0, 0, 0), 0), (100, (.ireturn, 0, 0, 0), 0), (101, (.aload_n 0, 0, 0, 0), 0), (102, (.dup, 0, 0, 0), 0), (103, (.getfield 141, 7, 11, 0), 703), (106, (.iconst 1, 0, 0, 0), 0), (107, (.iadd, 0, 0, 0), 0), (108, (.putfield 141, 7, 11, 0), 703), (111, (.aload_n 0, 0, 0, 0), 0), (112, (.getfield 32, 7, 13, 0), 705), (115, (.iload_n 1, 0, 0, 0), 0), (116, (.iload_n 2, 0, 0, 0), 0), (117, (.iastore, 0, 0, 0), 0), (118, (.aload_n 0, 0, 0, 0), 0), (119, (.getfield 32, 7, 13, 0), 705), (122, (.iload_n 1, 0, 0, 0), 0), (123, (.iconst 1, 0, 0, 0), 0), (124, (.iadd, 0, 0, 0), 0), (125, (.iload_n 3, 0, 0, 0), 0), (126, (.iastore, 0, 0, 0), 0), (127, (.aload_n 0, 0, 0, 0), 0), (128, (.getfield 32, 7, 13, 0), 705), (131, (.iload_n 1, 0, 0, 0), 0), (132, (.iconst 2, 0, 0, 0), 0), (133, (.iadd, 0, 0, 0), 0), (134, (.iload 4, 0, 0, 0), 0), (136, (.iastore, 0, 0, 0), 0), (137, (.iconst 1, 0, 0, 0), 0), (138, (.ireturn, 0, 0, 0), 0)]
def m_X7_readTeaching : ex_M := (RX7, yX7_readTeaching, cX7_readTeaching, 5, some .boolean, 2, [], ex_cd q_X7_readTeaching)
def q_X7_readPlan : List (Nat × ex_I × Nat) := [(0, (.aload_n 0, 0, 0, 0), 0), (1, (.iconst 0, 0, 0, 0), 0), (2, (.putfield 141, 7, 11, 0), 703), (5, (.iconst 0, 0, 0, 0), 0), (6, (.istore_n 1, 0, 0, 0), 0), (7, (.iconst 0, 0, 0, 0), 0), (8, (.istore_n 2, 0, 0, 0), 0), (9, (.iload_n 2, 0, 0, 0), 0), (10, (.bipush 24, 0, 0, 0), 0), (12, (.if_icmp .ge 94, 106, 0, 0), 0), (15, (.aload_n 0, 0, 0, 0), 0), (16, (.iconst 4, 0, 0, 0), 0), (17, (.iload_n 2, 0, 0, 0), 0), (18, (.imul, 0, 0, 0), 0), (19, (.invokevirtual 162, 134, 0, 7), 890), (22, (.ifCond .ne 5, 27, 0, 0), 0), (25, (.iconst 0, 0, 0, 0), 0), (26, (.ireturn, 0, 0, 0), 0), (27, (.aload_n 0, 0, 0, 0), 0), (28, (.getfield 32, 7, 13, 0), 705), (31, (.iconst 4, 0, 0, 0), 0), (32, (.iload_n 2, 0, 0, 0), 0), (33, (.imul, 0, 0, 0), 0), (34, (.iconst 3, 0, 0, 0), 0), (35, (.iadd, 0, 0, 0), 0), (36, (.iload_n 1, 0, 0, 0), 0), (37, (.iastore, 0, 0, 0), 0), (38, (.aload_n 0, 0, 0, 0), 0), (39, (.iload_n 2, 0, 0, 0), 0), (40, (.iconst 1, 0, 0, 0), 0), (41, (.iadd, 0, 0, 0), 0), (42, (.putfield 155, 7, 12, 0), 704), (45, (.aload_n 0, 0, 0, 0), 0), (46, (.invokevirtual 144, 130, 0, 7), 876), (49, (.istore_n 3, 0, 0, 0), 0), (50, (.iload_n 3, 0, 0, 0), 0), (51, (.ifCond .ge 5, 56, 0, 0), 0), (54, (.iconst 1, 0, 0, 0), 0), (55, (.ireturn, 0, 0, 0), 0), (56, (.iload_n 3, 0, 0, 0), 0), (57, (.bipush 44, 0, 0, 0), 0), (59, (.if_icmp .eq 9, 68, 0, 0), 0), (62, (.iload_n 3, 0, 0, 0), 0), (63, (.bipush 59, 0, 0, 0), 0), (65, (.if_icmp .ne 9, 74, 0, 0), 0), (68, (.iload_n 2, 0, 0, 0), 0), (69, (.bipush 23, 0, 0, 0), 0), (71, (.if_icmp .ne 5, 76, 0, 0), 0), (74, (.iconst 0, 0, 0, 0), 0), (75, (.ireturn, 0, 0, 0), 0), (76, (.iload_n 1, 0, 0, 0), 0), (77, (.iload_n 3, 0, 0, 0), 0), (78, (.bipush 59, 0, 0, 0), 0), (80, (.if_icmp .ne 7, 87, 0, 0), 0), (83, (.iconst 1, 0, 0, 0), 0), (84, (.goto 4, 88, 0, 0), 0), (87, (.iconst 0, 0, 0, 0), 0), (88, (.iadd, 0, 0, 0), 0), (89, (.istore_n 1, 0, 0, 0), 0), (90, (.aload_n 0, 0, 0, 0), 0), (91, (.dup, 0, 0, 0), 0), (92, (.getfield 141, 7, 11, 0), 703), (95, (.iconst 1, 0, 0, 0), 0), (96, (.iadd, 0, 0, 0), 0), (97, (.putfield 141, 7, 11, 0), 703), (100, (.iinc 2 1, 0, 0, 0), 0), (103, (.goto (-94), 9, 0, 0), 0), (106, (.iconst 0, 0, 0, 0), 0), (107, (.ireturn, 0, 0, 0), 0)]
def m_X7_readPlan : ex_M := (RX7, yX7_readPlan, cX7_readPlan, 4, some .boolean, 1, [], ex_cd q_X7_readPlan)
def q_X7_plan : List (Nat × ex_I × Nat) := [(0, (.aload_n 0, 0, 0, 0), 0), (1, (.invokevirtual 165, 135, 0, 7), 886), (4, (.istore_n 1, 0, 0, 0), 0), (5, (.iload_n 1, 0, 0, 0), 0), (6, (.ifCond .ne 8, 14, 0, 0), 0), (9, (.aload_n 0, 0, 0, 0), 0), (10, (.invokevirtual 144, 130, 0, 7), 876), (13, (.pop, 0, 0, 0), 0), (14, (.aload_n 0, 0, 0, 0), 0), (15, (.iconst 0, 0, 0, 0), 0), (16, (.putfield 138, 7, 10, 0), 702), (19, (.iload_n 1, 0, 0, 0), 0), (20, (.ifCond .ne 11, 31, 0, 0), 0), (23, (.bipush (-20), 0, 0, 0), 0), (25, (.aload_n 0, 0, 0, 0), 0), (26, (.getfield 141, 7, 11, 0), 703), (29, (.isub, 0, 0, 0), 0), (30, (.ireturn, 0, 0, 0), 0), (31, (.aload_n 0, 0, 0, 0), 0), (32, (.aload_n 0, 0, 0, 0), 0), (33, (.getfield 155, 7, 12, 0), 704), (36, (.putfield 127, 7, 6, 0), 698), (39, (.iconst 0, 0, 0, 0), 0), (40, (.istore_n 2, 0, 0, 0), 0), (41, (.iload_n 2, 0, 0, 0), 0), (42, (.iconst 4, 0, 0, 0), 0), (43, (.aload_n 0, 0, 0, 0), 0), (44, (.getfield 155, 7, 12, 0), 704), (47, (.imul, 0, 0, 0), 0), (48, (.if_icmp .ge 21, 69, 0, 0), 0), (51, (.aload_n 0, 0, 0, 0), 0), (52, (.getfield 22, 7, 5, 0), 697), (55, (.iload_n 2, 0, 0, 0), 0), (56, (.aload_n 0, 0, 0, 0), 0), (57, (.getfield 32, 7, 13, 0), 705), (60, (.iload_n 2, 0, 0, 0), 0), (61, (.iaload, 0, 0, 0), 0), (62, (.iastore, 0, 0, 0), 0), (63, (.iinc 2 1, 0, 0, 0), 0), (66, (.goto (-25), 41, 0, 0), 0), (69, (.aload_n 0, 0, 0, 0), 0), (70, (.getfield 127, 7, 6, 0), 698), (73, (.ireturn, 0, 0, 0), 0)]
def m_X7_plan : ex_M := (RX7, yX7_plan, cX7_plan, 3, some .int, 1, [], ex_cd q_X7_plan)
def q_X7_mayBe : List (Nat × ex_I × Nat) := [(0, (.aload_n 0, 0, 0, 0), 0), (1, (.getfield 16, 7, 2, 0), 694), (4, (.iconst 4, 0, 0, 0), 0), (5, (.iload_n 1, 0, 0, 0), 0), (6, (.imul, 0, 0, 0), 0), (7, (.iload_n 3, 0, 0, 0), 0), (8, (.iadd, 0, 0, 0), 0), (9, (.iaload, 0, 0, 0), 0), (10, (.bipush 97, 0, 0, 0), 0), (12, (.if_icmp .ge 52, 64, 0, 0), 0), (15, (.aload_n 0, 0, 0, 0), 0), (16, (.getfield 16, 7, 2, 0), 694), (19, (.iconst 4, 0, 0, 0), 0), (20, (.iload_n 2, 0, 0, 0), 0), (21, (.imul, 0, 0, 0), 0), (22, (.iload_n 3, 0, 0, 0), 0), (23, (.iadd, 0, 0, 0), 0), (24, (.iaload, 0, 0, 0), 0), (25, (.bipush 97, 0, 0, 0), 0), (27, (.if_icmp .ne 37, 64, 0, 0), 0), (30, (.aload_n 0, 0, 0, 0), 0), (31, (.getfield 13, 7, 1, 0), 693), (34, (.iload_n 2, 0, 0, 0), 0), (35, (.iaload, 0, 0, 0), 0), (36, (.iload_n 1, 0, 0, 0), 0), (37, (.invokestatic 107, 115, 0, 0), 825), (40, (.ifCond .eq 24, 64, 0, 0), 0), (43, (.aload_n 0, 0, 0, 0), 0), (44, (.getfield 19, 7, 3, 0), 695), (47, (.iload_n 3, 0, 0, 0), 0), (48, (.iaload, 0, 0, 0), 0), (49, (.aload_n 0, 0, 0, 0), 0), (50, (.iload_n 2, 0, 0, 0), 0), (51, (.invokevirtual 116, 124, 0, 7), 841), (54, (.iconst (-1), 0, 0, 0), 0), (55, (.ixor, 0, 0, 0), 0), (56, (.iand, 0, 0, 0), 0), (57, (.ifCond .ne 7, 64, 0, 0), 0), (60, (.iconst 1, 0, 0, 0), 0), (61, (.goto 4, 65, 0, 0), 0), (64, (.iconst 0, 0, 0, 0), 0), (65, (.ireturn, 0, 0, 0), 0)]
def m_X7_mayBe : ex_M := (RX7, yX7_mayBe, cX7_mayBe, 4, some .boolean, 4, [], ex_cd q_X7_mayBe)
def q_X7_teachNow : List (Nat × ex_I × Nat) := [(0, (.aload_n 0, 0, 0, 0), 0), (1, (.getfield 16, 7, 2, 0), 694), (4, (.iconst 4, 0, 0, 0), 0), (5, (.iload_n 2, 0, 0, 0), 0), (6, (.imul, 0, 0, 0), 0), (7, (.iload_n 3, 0, 0, 0), 0), (8, (.iadd, 0, 0, 0), 0), (9, (.aload_n 0, 0, 0, 0), 0), (10, (.getfield 7, 7, 0, 0), 692), (13, (.iload_n 1, 0, 0, 0), 0), (14, (.iaload, 0, 0, 0), 0), (15, (.aload_n 0, 0, 0, 0), 0), (16, (.getfield 16, 7, 2, 0), 694), (19, (.iconst 4, 0, 0, 0), 0), (20, (.iload_n 1, 0, 0, 0), 0), (21, (.imul, 0, 0, 0), 0), (22, (.iload_n 3, 0, 0, 0), 0), (23, (.iadd, 0, 0, 0), 0), (24, (.iaload, 0, 0, 0), 0), (25, (.invokestatic 120, 126, 0, 0), 849), (28, (.iastore, 0, 0, 0), 0), (29, (.aload_n 0, 0, 0, 0), 0), (30, (.aload_n 0, 0, 0, 0), 0), (31, (.getfield 124, 7, 7, 0), 699), (34, (.ldc 168, 0, 0, 1000000), 910), (36, (.if_icmp .ne 8, 44, 0, 0), 0), (39, (.ldc 168, 0, 0, 1000000), 910), (41, (.goto 9, 50, 0, 0), 0), (44, (.aload_n 0, 0, 0, 0), 0), (45, (.getfield 124, 7, 7, 0), 699), (48, (.iconst 1, 0, 0, 0), 0), (49, (.iadd, 0, 0, 0), 0), (50, (.putfield 124, 7, 7, 0), 699), (53, (.return_, 0, 0, 0), 0)]
def m_X7_teachNow : ex_M := (RX7, yX7_teachNow, cX7_teachNow, 4, none, 4, [], ex_cd q_X7_teachNow)
def q_X7_may : List (Nat × ex_I × Nat) := [(0, (.aload_n 0, 0, 0, 0), 0), (1, (.iload_n 1, 0, 0, 0), 0), (2, (.iload_n 2, 0, 0, 0), 0), (3, (.invokevirtual 111, 118, 0, 7), 832), (6, (.ifCond .eq 10, 16, 0, 0), 0), (9, (.iload_n 3, 0, 0, 0), 0), (10, (.invokestatic 98, 117, 0, 0), 815), (13, (.ifCond .ne 7, 20, 0, 0), 0), (16, (.iconst (-1), 0, 0, 0), 0), (17, (.goto 18, 35, 0, 0), 0), (20, (.aload_n 0, 0, 0, 0), 0), (21, (.iload_n 1, 0, 0, 0), 0), (22, (.iload_n 2, 0, 0, 0), 0), (23, (.iload_n 3, 0, 0, 0), 0), (24, (.invokevirtual 169, 137, 0, 7), 898), (27, (.ifCond .eq 7, 34, 0, 0), 0), (30, (.iconst 1, 0, 0, 0), 0), (31, (.goto 4, 35, 0, 0), 0), (34, (.iconst 0, 0, 0, 0), 0), (35, (.ireturn, 0, 0, 0), 0)]
def m_X7_may : ex_M := (RX7, yX7_may, cX7_may, 4, some .int, 4, [], ex_cd q_X7_may)
def q_X7_teach : List (Nat × ex_I × Nat) := [(0, (.aload_n 0, 0, 0, 0), 0), (1, (.iload_n 1, 0, 0, 0), 0), (2, (.iload_n 2, 0, 0, 0), 0), (3, (.invokevirtual 111, 118, 0, 7), 832), (6, (.ifCond .eq 10, 16, 0, 0), 0), (9, (.iload_n 3, 0, 0, 0), 0), (10, (.invokestatic 98, 117, 0, 0), 815), (13, (.ifCond .ne 5, 18, 0, 0), 0), (16, (.iconst (-1), 0, 0, 0), 0), (17, (.ireturn, 0, 0, 0), 0), (18, (.aload_n 0, 0, 0, 0), 0), (19, (.iload_n 1, 0, 0, 0), 0), (20, (.iload_n 2, 0, 0, 0), 0), (21, (.iload_n 3, 0, 0, 0), 0), (22, (.invokevirtual 169, 137, 0, 7), 898), (25, (.ifCond .ne 6, 31, 0, 0), 0), (28, (.bipush (-2), 0, 0, 0), 0), (30, (.ireturn, 0, 0, 0), 0), (31, (.aload_n 0, 0, 0, 0), 0), (32, (.iload_n 1, 0, 0, 0), 0), (33, (.iload_n 2, 0, 0, 0), 0), (34, (.iload_n 3, 0, 0, 0), 0), (35, (.invokevirtual 173, 138, 0, 7), 906), (38, (.aload_n 0, 0, 0, 0), 0), (39, (.getfield 16, 7, 2, 0), 694), (42, (.iconst 4, 0, 0, 0), 0), (43, (.iload_n 2, 0, 0, 0), 0), (44, (.imul, 0, 0, 0), 0), (45, (.iload_n 3, 0, 0, 0), 0), (46, (.iadd, 0, 0, 0), 0), (47, (.iaload, 0, 0, 0), 0), (48, (.ireturn, 0, 0, 0), 0)]
def m_X7_teach : ex_M := (RX7, yX7_teach, cX7_teach, 4, some .int, 4, [], ex_cd q_X7_teach)
def q_X7_run : List (Nat × ex_I × Nat) := [(0, (.iconst 0, 0, 0, 0), 0), (1, (.istore_n 1, 0, 0, 0), 0), (2, (.iconst 0, 0, 0, 0), 0), (3, (.istore_n 2, 0, 0, 0), 0), (4, (.iload_n 2, 0, 0, 0), 0), (5, (.aload_n 0, 0, 0, 0), 0), (6, (.getfield 127, 7, 6, 0), 698), (9, (.if_icmp .ge 145, 154, 0, 0), 0), (12, (.iload_n 2, 0, 0, 0), 0), (13, (.ifCond .le 30, 43, 0, 0), 0), (16, (.aload_n 0, 0, 0, 0), 0), (17, (.getfield 22, 7, 5, 0), 697), (20, (.iconst 4, 0, 0, 0), 0), (21, (.iload_n 2, 0, 0, 0), 0), (22, (.imul, 0, 0, 0), 0), (23, (.iconst 3, 0, 0, 0), 0), (24, (.iadd, 0, 0, 0), 0), (25, (.iaload, 0, 0, 0), 0), (26, (.aload_n 0, 0, 0, 0), 0), (27, (.getfield 22, 7, 5, 0), 697), (30, (.iconst 4, 0, 0, 0), 0), (31, (.iload_n 2, 0, 0, 0), 0), (32, (.imul, 0, 0, 0), 0), (33, (.iconst 1, 0, 0, 0), 0), (34, (.isub, 0, 0, 0), 0), (35, (.iaload, 0, 0, 0), 0), (36, (.if_icmp .ne 7, 43, 0, 0), 0), (39, (.iload_n 1, 0, 0, 0), 0), (40, (.goto 4, 44, 0, 0), 0), (43, (.iconst 0, 0, 0, 0), 0), (44, (.istore_n 1, 0, 0, 0), 0), (45, (.iconst 1, 0, 0, 0), 0), (46, (.aload_n 0, 0, 0, 0), 0), (47, (.getfield 22, 7, 5, 0), 697), (50, (.iconst 4, 0, 0, 0), 0), (51, (.iload_n 2, 0, 0, 0), 0), (52, (.imul, 0, 0, 0), 0), (53, (.iaload, 0, 0, 0), 0), (54, (.ishl, 0, 0, 0), 0), (55, (.iconst 1, 0, 0, 0), 0), (56, (.aload_n 0, 0, 0, 0), 0), (57, (.getfield 22, 7, 5, 0), 697), (60, (.iconst 4, 0, 0, 0), 0), (61, (.iload_n 2, 0, 0, 0), 0), (62, (.imul, 0, 0, 0), 0), (63, (.iconst 1, 0, 0, 0), 0), (64, (.iadd, 0, 0, 0), 0), (65, (.iaload, 0, 0, 0), 0), (66, (.ishl, 0, 0, 0), 0), (67, (.ior, 0, 0, 0), 0), (68, (.istore_n 3, 0, 0, 0), 0), (69, (.iload_n 1, 0, 0, 0), 0), (70, (.iload_n 3, 0, 0, 0), 0), (71, (.iand, 0, 0, 0), 0), (72, (.ifCond .ne 38, 110, 0, 0), 0), (75, (.aload_n 0, 0, 0, 0), 0), (76, (.aload_n 0, 0, 0, 0), 0), (77, (.getfield 22, 7, 5, 0), 697), (80, (.iconst 4, 0, 0, 0), 0), (81, (.iload_n 2, 0, 0, 0), 0), (82, (.imul, 0, 0, 0), 0), (83, (.iaload, 0, 0, 0), 0), (84, (.aload_n 0, 0, 0, 0), 0), (85, (.getfield 22, 7, 5, 0), 697), (88, (.iconst 4, 0, 0, 0), 0), (89, (.iload_n 2, 0, 0, 0), 0), (90, (.imul, 0, 0, 0), 0), (91, (.iconst 1, 0, 0, 0), 0), (92, (.iadd, 0, 0, 0), 0), (93, (.iaload, 0, 0, 0), 0), (94, (.aload_n 0, 0, 0, 0), 0), (95, (.getfield 22, 7, 5, 0), 697), (98, (.iconst 4, 0, 0, 0), 0), (99, (.iload_n 2, 0, 0, 0), 0), (100, (.imul, 0, 0, 0), 0), (101, (.iconst 2, 0, 0, 0), 0), (102, (.iadd, 0, 0, 0), 0), (103, (.iaload, 0, 0, 0), 0), (104, (.invokevirtual 169, 137, 0, 7), 898), (107, (.ifCond .ne 5, 112, 0, 0), 0), (110, (.iload_n 2, 0, 0, 0), 0), (111, (.ireturn, 0, 0, 0), 0), (112, (.iload_n 1, 0, 0, 0), 0), (113, (.iload_n 3, 0, 0, 0), 0), (114, (.ior, 0, 0, 0), 0), (115, (.istore_n 1, 0, 0, 0), 0), (116, (.aload_n 0, 0, 0, 0), 0), (117, (.aload_n 0, 0, 0, 0), 0), (118, (.getfield 22, 7, 5, 0), 697), (121, (.iconst 4, 0, 0, 0), 0), (122, (.iload_n 2, 0, 0, 0), 0), (123, (.imul, 0, 0, 0), 0), (124, (.iaload, 0, 0, 0), 0), (125, (.aload_n 0, 0, 0, 0), 0), (126, (.getfield 22, 7, 5, 0), 697), (129, (.iconst 4, 0, 0, 0), 0), (130, (.iload_n 2, 0, 0, 0), 0), (131, (.imul, 0, 0, 0), 0), (132, (.iconst 1, 0, 0, 0), 0), (133, (.iadd, 0, 0, 0), 0), (134, (.iaload, 0, 0, 0), 0), (135, (.aload_n 0, 0, 0, 0), 0), (136, (.getfield 22, 7, 5, 0), 697), (139, (.iconst 4, 0, 0, 0), 0), (140, (.iload_n 2, 0, 0, 0), 0), (141, (.imul, 0, 0, 0), 0), (142, (.iconst 2, 0, 0, 0), 0), (143, (.iadd, 0, 0, 0), 0), (144, (.iaload, 0, 0, 0), 0), (145, (.invokevirtual 173, 138, 0, 7), 906), (148, (.iinc 2 1, 0, 0, 0), 0), (151, (.goto (-147), 4, 0, 0), 0), (154, (.aload_n 0, 0, 0, 0), 0), (155, (.getfield 127, 7, 6, 0), 698), (158, (.ireturn, 0, 0, 0), 0)]
def m_X7_run : ex_M := (RX7, yX7_run, cX7_run, 4, some .int, 1, [], ex_cd q_X7_run)
def q_X7_ones : List (Nat × ex_I × Nat) := [(0, (.iconst 0, 0, 0, 0), 0), (1, (.istore_n 1, 0, 0, 0), 0), (2, (.iload_n 0, 0, 0, 0), 0), (3, (.istore_n 2, 0, 0, 0), 0), (4, (.iload_n 2, 0, 0, 0), 0), (5, (.ifCond .eq 15, 20, 0, 0), 0), (8, (.iinc 1 1, 0, 0, 0), 0), (11, (.iload_n 2, 0, 0, 0), 0), (12, (.iload_n 2, 0, 0, 0), 0), (13, (.iconst 1, 0, 0, 0), 0), (14, (.isub, 0, 0, 0), 0), (15, (.iand, 0, 0, 0), 0), (16, (.istore_n 2, 0, 0, 0), 0), (17, (.goto (-13), 4, 0, 0), 0), (20, (.iload_n 1, 0, 0, 0), 0), (21, (.ireturn, 0, 0, 0), 0)]
def m_X7_ones : ex_M := (RX7, yX7_ones, cX7_ones, 3, some .int, 1, [], ex_cd q_X7_ones)
def q_X7_mayTeach : List (Nat × ex_I × Nat) := [(0, (.aload_n 0, 0, 0, 0), 0), (1, (.getfield 42, 7, 16, 0), 708), (4, (.iload 4, 0, 0, 0), 0), (6, (.iaload, 0, 0, 0), 0), (7, (.istore 5, 0, 0, 0), 0), (9, (.iload_n 1, 0, 0, 0), 0), (10, (.aload_n 0, 0, 0, 0), 0), (11, (.getfield 177, 7, 17, 0), 709), (14, (.iload_n 2, 0, 0, 0), 0), (15, (.imul, 0, 0, 0), 0), (16, (.iload 4, 0, 0, 0), 0), (18, (.iadd, 0, 0, 0), 0), (19, (.invokestatic 107, 115, 0, 0), 825), (22, (.ifCond .eq 32, 54, 0, 0), 0), (25, (.iload_n 1, 0, 0, 0), 0), (26, (.aload_n 0, 0, 0, 0), 0), (27, (.getfield 177, 7, 17, 0), 709), (30, (.iload_n 3, 0, 0, 0), 0), (31, (.imul, 0, 0, 0), 0), (32, (.iload 4, 0, 0, 0), 0), (34, (.iadd, 0, 0, 0), 0), (35, (.invokestatic 107, 115, 0, 0), 825), (38, (.ifCond .ne 16, 54, 0, 0), 0), (41, (.aload_n 0, 0, 0, 0), 0), (42, (.getfield 13, 7, 1, 0), 693), (45, (.iload_n 3, 0, 0, 0), 0), (46, (.iaload, 0, 0, 0), 0), (47, (.iload_n 2, 0, 0, 0), 0), (48, (.invokestatic 107, 115, 0, 0), 825), (51, (.ifCond .ne 5, 56, 0, 0), 0), (54, (.iconst 0, 0, 0, 0), 0), (55, (.ireturn, 0, 0, 0), 0), (56, (.aload_n 0, 0, 0, 0), 0), (57, (.iload_n 3, 0, 0, 0), 0), (58, (.invokevirtual 116, 124, 0, 7), 841), (61, (.istore 6, 0, 0, 0), 0), (63, (.iconst 0, 0, 0, 0), 0), (64, (.istore 7, 0, 0, 0), 0), (66, (.iload 7, 0, 0, 0), 0), (68, (.aload_n 0, 0, 0, 0), 0), (69, (.getfield 177, 7, 17, 0), 709), (72, (.if_icmp .ge 44, 116, 0, 0), 0), (75, (.iload_n 1, 0, 0, 0), 0), (76, (.aload_n 0, 0, 0, 0), 0), (77, (.getfield 177, 7, 17, 0), 709), (80, (.iload_n 3, 0, 0, 0), 0), (81, (.imul, 0, 0, 0), 0), (82, (.iload 7, 0, 0, 0), 0), (84, (.iadd, 0, 0, 0), 0), (85, (.invokestatic 107, 115, 0, 0), 825), (88, (.ifCond .eq 18, 106, 0, 0), 0), (91, (.iload 6, 0, 0, 0), 0), (93, (.iconst 1, 0, 0, 0), 0), (94, (.aload_n 0, 0, 0, 0), 0), (95, (.getfield 42, 7, 16, 0), 708), (98, (.iload 7, 0, 0, 0), 0), (100, (.iaload, 0, 0, 0), 0), (101, (.ishl, 0, 0, 0), 0), (102, (.ior, 0, 0, 0), 0), (103, (.goto 5, 108, 0, 0), 0), (106, (.iload 6, 0, 0, 0), 0), (108, (.istore 6, 0, 0, 0), 0), (110, (.iinc 7 1, 0, 0, 0), 0), (113, (.goto (-47), 66, 0, 0), 0), (116, (.aload_n 0, 0, 0, 0), 0), (117, (.getfield 19, 7, 3, 0), 695), (120, (.iload 5, 0, 0, 0), 0), (122, (.iaload, 0, 0, 0), 0), (123, (.iload 6, 0, 0, 0), 0), (125, (.iconst (-1), 0, 0, 0), 0), (126, (.ixor, 0, 0, 0), 0), (127, (.iand, 0, 0, 0), 0), (128, (.ifCond .ne 7, 135, 0, 0), 0), (131, (.iconst 1, 0, 0, 0), 0), (132, (.goto 4, 136, 0, 0), 0), (135, (.iconst 0, 0, 0, 0), 0), (136, (.ireturn, 0, 0, 0), 0)]
def m_X7_mayTeach : ex_M := (RX7, yX7_mayTeach, cX7_mayTeach, 8, some .boolean, 5, [], ex_cd q_X7_mayTeach)
def q_X7_goOn : List (Nat × ex_I × Nat) := [(0, (.iconst 1, 0, 0, 0), 0), (1, (.istore_n 2, 0, 0, 0), 0), (2, (.aload_n 0, 0, 0, 0), 0), (3, (.getfield 45, 7, 18, 0), 710), (6, (.iconst 0, 0, 0, 0), 0), (7, (.iconst 1, 0, 0, 0), 0), (8, (.aload_n 0, 0, 0, 0), 0), (9, (.getfield 81, 7, 4, 0), 696), (12, (.ishl, 0, 0, 0), 0), (13, (.iconst 1, 0, 0, 0), 0), (14, (.isub, 0, 0, 0), 0), (15, (.iastore, 0, 0, 0), 0), (16, (.aload_n 0, 0, 0, 0), 0), (17, (.getfield 48, 7, 19, 0), 711), (20, (.iconst 0, 0, 0, 0), 0), (21, (.iload_n 1, 0, 0, 0), 0), (22, (.iastore, 0, 0, 0), 0), (23, (.iload_n 2, 0, 0, 0), 0), (24, (.ifCond .le 226, 250, 0, 0), 0), (27, (.iinc 2 (-1), 0, 0, 0), 0), (30, (.aload_n 0, 0, 0, 0), 0), (31, (.getfield 45, 7, 18, 0), 710), (34, (.iload_n 2, 0, 0, 0), 0), (35, (.iaload, 0, 0, 0), 0), (36, (.istore_n 3, 0, 0, 0), 0), (37, (.aload_n 0, 0, 0, 0), 0), (38, (.getfield 48, 7, 19, 0), 711), (41, (.iload_n 2, 0, 0, 0), 0), (42, (.iaload, 0, 0, 0), 0), (43, (.istore 4, 0, 0, 0), 0), (45, (.iload_n 3, 0, 0, 0), 0), (46, (.ifCond .ne 14, 60, 0, 0), 0), (49, (.aload_n 0, 0, 0, 0), 0), (50, (.getfield 39, 7, 15, 0), 707), (53, (.iload 4, 0, 0, 0), 0), (55, (.iconst 1, 0, 0, 0), 0), (56, (.bastore, 0, 0, 0), 0), (57, (.goto 190, 247, 0, 0), 0), (60, (.iconst 0, 0, 0, 0), 0), (61, (.istore 5, 0, 0, 0), 0), (63, (.iload_n 3, 0, 0, 0), 0), (64, (.iload 5, 0, 0, 0), 0), (66, (.invokestatic 107, 115, 0, 0), 825), (69, (.ifCond .ne 9, 78, 0, 0), 0), (72, (.iinc 5 1, 0, 0, 0), 0), (75, (.goto (-12), 63, 0, 0), 0), (78, (.iload_n 3, 0, 0, 0), 0), (79, (.iconst 1, 0, 0, 0), 0), (80, (.iload 5, 0, 0, 0), 0), (82, (.ishl, 0, 0, 0), 0), (83, (.iconst (-1), 0, 0, 0), 0), (84, (.ixor, 0, 0, 0), 0), (85, (.iand, 0, 0, 0), 0), (86, (.istore 6, 0, 0, 0), 0), (88, (.aload_n 0, 0, 0, 0), 0), (89, (.getfield 45, 7, 18, 0), 710), (92, (.iload_n 2, 0, 0, 0), 0), (93, (.iload 6, 0, 0, 0), 0), (95, (.iastore, 0, 0, 0), 0), (96, (.aload_n 0, 0, 0, 0), 0), (97, (.getfield 48, 7, 19, 0), 711), (100, (.iload_n 2, 0, 0, 0), 0), (101, (.iload 4, 0, 0, 0), 0), (103, (.iastore, 0, 0, 0), 0), (104, (.iinc 2 1, 0, 0, 0), 0), (107, (.iload 5, 0, 0, 0), 0), (109, (.iconst 1, 0, 0, 0), 0), (110, (.iadd, 0, 0, 0), 0), (111, (.istore 7, 0, 0, 0), 0), (113, (.iload 7, 0, 0, 0), 0), (115, (.aload_n 0, 0, 0, 0), 0), (116, (.getfield 81, 7, 4, 0), 696), (119, (.if_icmp .ge 128, 247, 0, 0), 0), (122, (.iconst 0, 0, 0, 0), 0), (123, (.istore 8, 0, 0, 0), 0), (125, (.iload 8, 0, 0, 0), 0), (127, (.iconst 2, 0, 0, 0), 0), (128, (.aload_n 0, 0, 0, 0), 0), (129, (.getfield 177, 7, 17, 0), 709), (132, (.imul, 0, 0, 0), 0), (133, (.if_icmp .ge 108, 241, 0, 0), 0), (136, (.iload 6, 0, 0, 0), 0), (138, (.iload 7, 0, 0, 0), 0), (140, (.invokestatic 107, 115, 0, 0), 825), (143, (.ifCond .eq 98, 241, 0, 0), 0), (146, (.iload 8, 0, 0, 0), 0), (148, (.iconst 2, 0, 0, 0), 0), (149, (.irem, 0, 0, 0), 0), (150, (.ifCond .ne 8, 158, 0, 0), 0), (153, (.iload 5, 0, 0, 0), 0), (155, (.goto 5, 160, 0, 0), 0), (158, (.iload 7, 0, 0, 0), 0), (160, (.istore 9, 0, 0, 0), 0), (162, (.iload 8, 0, 0, 0), 0), (164, (.iconst 2, 0, 0, 0), 0), (165, (.irem, 0, 0, 0), 0), (166, (.ifCond .ne 8, 174, 0, 0), 0), (169, (.iload 7, 0, 0, 0), 0), (171, (.goto 5, 176, 0, 0), 0), (174, (.iload 5, 0, 0, 0), 0), (176, (.istore 10, 0, 0, 0), 0), (178, (.aload_n 0, 0, 0, 0), 0), (179, (.iload_n 1, 0, 0, 0), 0), (180, (.iload 9, 0, 0, 0), 0), (182, (.iload 10, 0, 0, 0), 0), (184, (.iload 8, 0, 0, 0), 0), (186, (.iconst 2, 0, 0, 0), 0), (187, (.idiv, 0, 0, 0), 0), (188, (.invokevirtual 180, 143, 0, 7), 926), (191, (.ifCond .eq 44, 235, 0, 0), 0), (194, (.aload_n 0, 0, 0, 0), 0), (195, (.getfield 45, 7, 18, 0), 710), (198, (.iload_n 2, 0, 0, 0), 0), (199, (.iload 6, 0, 0, 0), 0), (201, (.iconst 1, 0, 0, 0), 0), (202, (.iload 7, 0, 0, 0), 0), (204, (.ishl, 0, 0, 0), 0), (205, (.iconst (-1), 0, 0, 0), 0), (206, (.ixor, 0, 0, 0), 0), (207, (.iand, 0, 0, 0), 0), (208, (.iastore, 0, 0, 0), 0), (209, (.aload_n 0, 0, 0, 0), 0), (210, (.getfield 48, 7, 19, 0), 711), (213, (.iload_n 2, 0, 0, 0), 0), (214, (.iload 4, 0, 0, 0), 0), (216, (.iconst 1, 0, 0, 0), 0), (217, (.aload_n 0, 0, 0, 0), 0), (218, (.getfield 177, 7, 17, 0), 709), (221, (.iload 10, 0, 0, 0), 0), (223, (.imul, 0, 0, 0), 0), (224, (.iload 8, 0, 0, 0), 0), (226, (.iconst 2, 0, 0, 0), 0), (227, (.idiv, 0, 0, 0), 0), (228, (.iadd, 0, 0, 0), 0), (229, (.ishl, 0, 0, 0), 0), (230, (.ior, 0, 0, 0), 0), (231, (.iastore, 0, 0, 0), 0), (232, (.iinc 2 1, 0, 0, 0), 0), (235, (.iinc 8 1, 0, 0, 0), 0), (238, (.goto (-113), 125, 0, 0), 0), (241, (.iinc 7 1, 0, 0, 0), 0), (244, (.goto (-131), 113, 0, 0), 0), (247, (.goto (-224), 23, 0, 0), 0), (250, (.return_, 0, 0, 0), 0)]
def m_X7_goOn : ex_M := (RX7, yX7_goOn, cX7_goOn, 11, none, 2, [], ex_cd q_X7_goOn)
def q_X7_hours : List (Nat × ex_I × Nat) := [(0, (.iload_n 1, 0, 0, 0), 0), (1, (.i2l, 0, 0, 0), 0), (2, (.lconst 0, 0, 0, 0), 0), (3, (.ldc2_w 105, 0, 0, 15), 824), (6, (.invokestatic 84, 114, 0, 0), 800), (9, (.ifCond .ne 5, 14, 0, 0), 0), (12, (.iconst (-1), 0, 0, 0), 0), (13, (.ireturn, 0, 0, 0), 0), (14, (.aload_n 0, 0, 0, 0), 0), (15, (.getfield 81, 7, 4, 0), 696), (18, (.iload_n 1, 0, 0, 0), 0), (19, (.invokestatic 184, 142, 0, 0), 919), (22, (.imul, 0, 0, 0), 0), (23, (.bipush 12, 0, 0, 0), 0), (25, (.if_icmp .le 6, 31, 0, 0), 0), (28, (.bipush (-3), 0, 0, 0), 0), (30, (.ireturn, 0, 0, 0), 0), (31, (.aload_n 0, 0, 0, 0), 0), (32, (.iconst 0, 0, 0, 0), 0), (33, (.putfield 177, 7, 17, 0), 709), (36, (.iconst 0, 0, 0, 0), 0), (37, (.istore_n 2, 0, 0, 0), 0), (38, (.iload_n 2, 0, 0, 0), 0), (39, (.iconst 4, 0, 0, 0), 0), (40, (.if_icmp .ge 37, 77, 0, 0), 0), (43, (.iload_n 1, 0, 0, 0), 0), (44, (.iload_n 2, 0, 0, 0), 0), (45, (.invokestatic 107, 115, 0, 0), 825), (48, (.ifCond .eq 23, 71, 0, 0), 0), (51, (.aload_n 0, 0, 0, 0), 0), (52, (.getfield 42, 7, 16, 0), 708), (55, (.aload_n 0, 0, 0, 0), 0), (56, (.getfield 177, 7, 17, 0), 709), (59, (.iload_n 2, 0, 0, 0), 0), (60, (.iastore, 0, 0, 0), 0), (61, (.aload_n 0, 0, 0, 0), 0), (62, (.dup, 0, 0, 0), 0), (63, (.getfield 177, 7, 17, 0), 709), (66, (.iconst 1, 0, 0, 0), 0), (67, (.iadd, 0, 0, 0), 0), (68, (.putfield 177, 7, 17, 0), 709), (71, (.iinc 2 1, 0, 0, 0), 0), (74, (.goto (-36), 38, 0, 0), 0), (77, (.iconst 0, 0, 0, 0), 0), (78, (.istore_n 2, 0, 0, 0), 0), (79, (.iconst 0, 0, 0, 0), 0), (80, (.istore_n 3, 0, 0, 0), 0), (81, (.iload_n 3, 0, 0, 0), 0), (82, (.aload_n 0, 0, 0, 0), 0), (83, (.getfield 81, 7, 4, 0), 696), (86, (.if_icmp .ge 66, 152, 0, 0), 0), (89, (.iconst 0, 0, 0, 0), 0), (90, (.istore 4, 0, 0, 0), 0), (92, (.iload 4, 0, 0, 0), 0), (94, (.aload_n 0, 0, 0, 0), 0), (95, (.getfield 177, 7, 17, 0), 709), (98, (.if_icmp .ge 48, 146, 0, 0), 0), (101, (.iload_n 2, 0, 0, 0), 0), (102, (.aload_n 0, 0, 0, 0), 0), (103, (.getfield 16, 7, 2, 0), 694), (106, (.iconst 4, 0, 0, 0), 0), (107, (.iload_n 3, 0, 0, 0), 0), (108, (.imul, 0, 0, 0), 0), (109, (.aload_n 0, 0, 0, 0), 0), (110, (.getfield 42, 7, 16, 0), 708), (113, (.iload 4, 0, 0, 0), 0), (115, (.iaload, 0, 0, 0), 0), (116, (.iadd, 0, 0, 0), 0), (117, (.iaload, 0, 0, 0), 0), (118, (.bipush 97, 0, 0, 0), 0), (120, (.if_icmp .ge 17, 137, 0, 0), 0), (123, (.iconst 1, 0, 0, 0), 0), (124, (.aload_n 0, 0, 0, 0), 0), (125, (.getfield 177, 7, 17, 0), 709), (128, (.iload_n 3, 0, 0, 0), 0), (129, (.imul, 0, 0, 0), 0), (130, (.iload 4, 0, 0, 0), 0), (132, (.iadd, 0, 0, 0), 0), (133, (.ishl, 0, 0, 0), 0), (134, (.goto 4, 138, 0, 0), 0), (137, (.iconst 0, 0, 0, 0), 0), (138, (.ior, 0, 0, 0), 0), (139, (.istore_n 2, 0, 0, 0), 0), (140, (.iinc 4 1, 0, 0, 0), 0), (143, (.goto (-51), 92, 0, 0), 0), (146, (.iinc 3 1, 0, 0, 0), 0), (149, (.goto (-68), 81, 0, 0), 0), (152, (.iconst 1, 0, 0, 0), 0), (153, (.aload_n 0, 0, 0, 0), 0), (154, (.getfield 81, 7, 4, 0), 696), (157, (.aload_n 0, 0, 0, 0), 0), (158, (.getfield 177, 7, 17, 0), 709), (161, (.imul, 0, 0, 0), 0), (162, (.ishl, 0, 0, 0), 0), (163, (.iconst 1, 0, 0, 0), 0), (164, (.isub, 0, 0, 0), 0), (165, (.istore_n 3, 0, 0, 0), 0), (166, (.iconst 0, 0, 0, 0), 0), (167, (.istore 4, 0, 0, 0), 0), (169, (.iload 4, 0, 0, 0), 0), (171, (.iload_n 3, 0, 0, 0), 0), (172, (.if_icmp .gt 27, 199, 0, 0), 0), (175, (.aload_n 0, 0, 0, 0), 0), (176, (.getfield 35, 7, 14, 0), 706), (179, (.iload 4, 0, 0, 0), 0), (181, (.iload 4, 0, 0, 0), 0), (183, (.iload_n 2, 0, 0, 0), 0), (184, (.if_icmp .ne 7, 191, 0, 0), 0), (187, (.iconst 1, 0, 0, 0), 0), (188, (.goto 4, 192, 0, 0), 0), (191, (.iconst 0, 0, 0, 0), 0), (192, (.bastore, 0, 0, 0), 0), (193, (.iinc 4 1, 0, 0, 0), 0), (196, (.goto (-27), 169, 0, 0), 0), (199, (.iconst 1, 0, 0, 0), 0), (200, (.istore 4, 0, 0, 0), 0), (202, (.iconst 0, 0, 0, 0), 0), (203, (.istore 5, 0, 0, 0), 0), (205, (.iload 4, 0, 0, 0), 0), (207, (.ifCond .eq 157, 364, 0, 0), 0), (210, (.aload_n 0, 0, 0, 0), 0), (211, (.getfield 35, 7, 14, 0), 706), (214, (.iload_n 3, 0, 0, 0), 0), (215, (.baload, 0, 0, 0), 0), (216, (.ifCond .eq 6, 222, 0, 0), 0), (219, (.iload 5, 0, 0, 0), 0), (221, (.ireturn, 0, 0, 0), 0), (222, (.iconst 0, 0, 0, 0), 0), (223, (.istore 6, 0, 0, 0), 0), (225, (.iload 6, 0, 0, 0), 0), (227, (.iload_n 3, 0, 0, 0), 0), (228, (.if_icmp .gt 17, 245, 0, 0), 0), (231, (.aload_n 0, 0, 0, 0), 0), (232, (.getfield 39, 7, 15, 0), 707), (235, (.iload 6, 0, 0, 0), 0), (237, (.iconst 0, 0, 0, 0), 0), (238, (.bastore, 0, 0, 0), 0), (239, (.iinc 6 1, 0, 0, 0), 0), (242, (.goto (-17), 225, 0, 0), 0), (245, (.iconst 0, 0, 0, 0), 0), (246, (.istore 6, 0, 0, 0), 0), (248, (.iload 6, 0, 0, 0), 0), (250, (.iload_n 3, 0, 0, 0), 0), (251, (.if_icmp .gt 25, 276, 0, 0), 0), (254, (.aload_n 0, 0, 0, 0), 0), (255, (.getfield 35, 7, 14, 0), 706), (258, (.iload 6, 0, 0, 0), 0), (260, (.baload, 0, 0, 0), 0), (261, (.ifCond .eq 9, 270, 0, 0), 0), (264, (.aload_n 0, 0, 0, 0), 0), (265, (.iload 6, 0, 0, 0), 0), (267, (.invokevirtual 187, 144, 0, 7), 922), (270, (.iinc 6 1, 0, 0, 0), 0), (273, (.goto (-25), 248, 0, 0), 0), (276, (.iconst 0, 0, 0, 0), 0), (277, (.istore 4, 0, 0, 0), 0), (279, (.iconst 0, 0, 0, 0), 0), (280, (.istore 6, 0, 0, 0), 0), (282, (.iload 6, 0, 0, 0), 0), (284, (.iload_n 3, 0, 0, 0), 0), (285, (.if_icmp .gt 73, 358, 0, 0), 0), (288, (.iload 4, 0, 0, 0), 0), (290, (.ifCond .ne 23, 313, 0, 0), 0), (293, (.aload_n 0, 0, 0, 0), 0), (294, (.getfield 39, 7, 15, 0), 707), (297, (.iload 6, 0, 0, 0), 0), (299, (.baload, 0, 0, 0), 0), (300, (.ifCond .eq 17, 317, 0, 0), 0), (303, (.aload_n 0, 0, 0, 0), 0), (304, (.getfield 35, 7, 14, 0), 706), (307, (.iload 6, 0, 0, 0), 0), (309, (.baload, 0, 0, 0), 0), (310, (.ifCond .ne 7, 317, 0, 0), 0), (313, (.iconst 1, 0, 0, 0), 0), (314, (.goto 4, 318, 0, 0), 0), (317, (.iconst 0, 0, 0, 0), 0), (318, (.istore 4, 0, 0, 0), 0), (320, (.aload_n 0, 0, 0, 0), 0), (321, (.getfield 35, 7, 14, 0), 706), (324, (.iload 6, 0, 0, 0), 0), (326, (.aload_n 0, 0, 0, 0), 0), (327, (.getfield 35, 7, 14, 0), 706), (330, (.iload 6, 0, 0, 0), 0), (332, (.baload, 0, 0, 0), 0), (333, (.ifCond .ne 13, 346, 0, 0), 0), (336, (.aload_n 0, 0, 0, 0), 0), (337, (.getfield 39, 7, 15, 0), 707), (340, (.iload 6, 0, 0, 0), 0), (342, (.baload, 0, 0, 0), 0), (343, (.ifCond .eq 7, 350, 0, 0), 0), (346, (.iconst 1, 0, 0, 0), 0), (347, (.goto 4, 351, 0, 0), 0), (350, (.iconst 0, 0, 0, 0), 0), (351, (.bastore, 0, 0, 0), 0), (352, (.iinc 6 1, 0, 0, 0), 0), (355, (.goto (-73), 282, 0, 0), 0), (358, (.iinc 5 1, 0, 0, 0), 0), (361, (.goto (-156), 205, 0, 0), 0), (364, (.bipush (-4), 0, 0, 0), 0), (366, (.ireturn, 0, 0, 0), 0)]
def m_X7_hours : ex_M := (RX7, yX7_hours, cX7_hours, 7, some .int, 2, [], ex_cd q_X7_hours)
def q_X7_bound : List (Nat × ex_I × Nat) := [(0, (.iload_n 1, 0, 0, 0), 0), (1, (.i2l, 0, 0, 0), 0), (2, (.lconst 0, 0, 0, 0), 0), (3, (.ldc2_w 105, 0, 0, 15), 824), (6, (.invokestatic 84, 114, 0, 0), 800), (9, (.ifCond .ne 5, 14, 0, 0), 0), (12, (.iconst (-1), 0, 0, 0), 0), (13, (.ireturn, 0, 0, 0), 0), (14, (.iconst 0, 0, 0, 0), 0), (15, (.istore_n 2, 0, 0, 0), 0), (16, (.iconst 0, 0, 0, 0), 0), (17, (.istore_n 3, 0, 0, 0), 0), (18, (.iload_n 3, 0, 0, 0), 0), (19, (.aload_n 0, 0, 0, 0), 0), (20, (.getfield 81, 7, 4, 0), 696), (23, (.if_icmp .ge 24, 47, 0, 0), 0), (26, (.iload_n 2, 0, 0, 0), 0), (27, (.iload_n 1, 0, 0, 0), 0), (28, (.aload_n 0, 0, 0, 0), 0), (29, (.iload_n 3, 0, 0, 0), 0), (30, (.invokevirtual 116, 124, 0, 7), 841), (33, (.iconst (-1), 0, 0, 0), 0), (34, (.ixor, 0, 0, 0), 0), (35, (.iand, 0, 0, 0), 0), (36, (.invokestatic 184, 142, 0, 0), 919), (39, (.iadd, 0, 0, 0), 0), (40, (.istore_n 2, 0, 0, 0), 0), (41, (.iinc 3 1, 0, 0, 0), 0), (44, (.goto (-26), 18, 0, 0), 0), (47, (.aload_n 0, 0, 0, 0), 0), (48, (.getfield 81, 7, 4, 0), 696), (51, (.iconst 2, 0, 0, 0), 0), (52, (.idiv, 0, 0, 0), 0), (53, (.istore_n 3, 0, 0, 0), 0), (54, (.iload_n 2, 0, 0, 0), 0), (55, (.ifCond .ne 7, 62, 0, 0), 0), (58, (.iconst 0, 0, 0, 0), 0), (59, (.goto 19, 78, 0, 0), 0), (62, (.iload_n 3, 0, 0, 0), 0), (63, (.ifCond .ne 8, 71, 0, 0), 0), (66, (.bipush (-4), 0, 0, 0), 0), (68, (.goto 10, 78, 0, 0), 0), (71, (.iload_n 2, 0, 0, 0), 0), (72, (.iload_n 3, 0, 0, 0), 0), (73, (.iadd, 0, 0, 0), 0), (74, (.iconst 1, 0, 0, 0), 0), (75, (.isub, 0, 0, 0), 0), (76, (.iload_n 3, 0, 0, 0), 0), (77, (.idiv, 0, 0, 0), 0), (78, (.ireturn, 0, 0, 0), 0)]
def m_X7_bound : ex_M := (RX7, yX7_bound, cX7_bound, 4, some .int, 2, [], ex_cd q_X7_bound)
def q_X7_goWithout : List (Nat × ex_I × Nat) := [(0, (.iconst 0, 0, 0, 0), 0), (1, (.istore_n 2, 0, 0, 0), 0), (2, (.iconst 0, 0, 0, 0), 0), (3, (.istore_n 3, 0, 0, 0), 0), (4, (.iload_n 3, 0, 0, 0), 0), (5, (.aload_n 0, 0, 0, 0), 0), (6, (.getfield 127, 7, 6, 0), 698), (9, (.if_icmp .ge 141, 150, 0, 0), 0), (12, (.iload_n 3, 0, 0, 0), 0), (13, (.ifCond .le 30, 43, 0, 0), 0), (16, (.aload_n 0, 0, 0, 0), 0), (17, (.getfield 22, 7, 5, 0), 697), (20, (.iconst 4, 0, 0, 0), 0), (21, (.iload_n 3, 0, 0, 0), 0), (22, (.imul, 0, 0, 0), 0), (23, (.iconst 3, 0, 0, 0), 0), (24, (.iadd, 0, 0, 0), 0), (25, (.iaload, 0, 0, 0), 0), (26, (.aload_n 0, 0, 0, 0), 0), (27, (.getfield 22, 7, 5, 0), 697), (30, (.iconst 4, 0, 0, 0), 0), (31, (.iload_n 3, 0, 0, 0), 0), (32, (.imul, 0, 0, 0), 0), (33, (.iconst 1, 0, 0, 0), 0), (34, (.isub, 0, 0, 0), 0), (35, (.iaload, 0, 0, 0), 0), (36, (.if_icmp .ne 7, 43, 0, 0), 0), (39, (.iload_n 2, 0, 0, 0), 0), (40, (.goto 4, 44, 0, 0), 0), (43, (.iconst 0, 0, 0, 0), 0), (44, (.istore_n 2, 0, 0, 0), 0), (45, (.aload_n 0, 0, 0, 0), 0), (46, (.getfield 22, 7, 5, 0), 697), (49, (.iconst 4, 0, 0, 0), 0), (50, (.iload_n 3, 0, 0, 0), 0), (51, (.imul, 0, 0, 0), 0), (52, (.iaload, 0, 0, 0), 0), (53, (.istore 4, 0, 0, 0), 0), (55, (.aload_n 0, 0, 0, 0), 0), (56, (.getfield 22, 7, 5, 0), 697), (59, (.iconst 4, 0, 0, 0), 0), (60, (.iload_n 3, 0, 0, 0), 0), (61, (.imul, 0, 0, 0), 0), (62, (.iconst 1, 0, 0, 0), 0), (63, (.iadd, 0, 0, 0), 0), (64, (.iaload, 0, 0, 0), 0), (65, (.istore 5, 0, 0, 0), 0), (67, (.iconst 1, 0, 0, 0), 0), (68, (.iload 4, 0, 0, 0), 0), (70, (.ishl, 0, 0, 0), 0), (71, (.iconst 1, 0, 0, 0), 0), (72, (.iload 5, 0, 0, 0), 0), (74, (.ishl, 0, 0, 0), 0), (75, (.ior, 0, 0, 0), 0), (76, (.istore 6, 0, 0, 0), 0), (78, (.iload_n 2, 0, 0, 0), 0), (79, (.iload 6, 0, 0, 0), 0), (81, (.iand, 0, 0, 0), 0), (82, (.ifCond .ne 62, 144, 0, 0), 0), (85, (.iload 4, 0, 0, 0), 0), (87, (.iload_n 1, 0, 0, 0), 0), (88, (.if_icmp .eq 56, 144, 0, 0), 0), (91, (.iload 5, 0, 0, 0), 0), (93, (.iload_n 1, 0, 0, 0), 0), (94, (.if_icmp .eq 50, 144, 0, 0), 0), (97, (.aload_n 0, 0, 0, 0), 0), (98, (.iload 4, 0, 0, 0), 0), (100, (.iload 5, 0, 0, 0), 0), (102, (.aload_n 0, 0, 0, 0), 0), (103, (.getfield 22, 7, 5, 0), 697), (106, (.iconst 4, 0, 0, 0), 0), (107, (.iload_n 3, 0, 0, 0), 0), (108, (.imul, 0, 0, 0), 0), (109, (.iconst 2, 0, 0, 0), 0), (110, (.iadd, 0, 0, 0), 0), (111, (.iaload, 0, 0, 0), 0), (112, (.invokevirtual 169, 137, 0, 7), 898), (115, (.ifCond .eq 29, 144, 0, 0), 0), (118, (.iload_n 2, 0, 0, 0), 0), (119, (.iload 6, 0, 0, 0), 0), (121, (.ior, 0, 0, 0), 0), (122, (.istore_n 2, 0, 0, 0), 0), (123, (.aload_n 0, 0, 0, 0), 0), (124, (.getfield 16, 7, 2, 0), 694), (127, (.iconst 4, 0, 0, 0), 0), (128, (.iload 5, 0, 0, 0), 0), (130, (.imul, 0, 0, 0), 0), (131, (.aload_n 0, 0, 0, 0), 0), (132, (.getfield 22, 7, 5, 0), 697), (135, (.iconst 4, 0, 0, 0), 0), (136, (.iload_n 3, 0, 0, 0), 0), (137, (.imul, 0, 0, 0), 0), (138, (.iconst 2, 0, 0, 0), 0), (139, (.iadd, 0, 0, 0), 0), (140, (.iaload, 0, 0, 0), 0), (141, (.iadd, 0, 0, 0), 0), (142, (.iconst 0, 0, 0, 0), 0), (143, (.iastore, 0, 0, 0), 0), (144, (.iinc 3 1, 0, 0, 0), 0), (147, (.goto (-143), 4, 0, 0), 0), (150, (.return_, 0, 0, 0), 0)]
def m_X7_goWithout : ex_M := (RX7, yX7_goWithout, cX7_goWithout, 7, none, 2, [], ex_cd q_X7_goWithout)
def q_X7_bringBack : List (Nat × ex_I × Nat) := [(0, (.iconst 0, 0, 0, 0), 0), (1, (.istore_n 1, 0, 0, 0), 0), (2, (.iload_n 1, 0, 0, 0), 0), (3, (.bipush 24, 0, 0, 0), 0), (5, (.if_icmp .ge 21, 26, 0, 0), 0), (8, (.aload_n 0, 0, 0, 0), 0), (9, (.getfield 16, 7, 2, 0), 694), (12, (.iload_n 1, 0, 0, 0), 0), (13, (.aload_n 0, 0, 0, 0), 0), (14, (.getfield 51, 7, 20, 0), 712), (17, (.iload_n 1, 0, 0, 0), 0), (18, (.iaload, 0, 0, 0), 0), (19, (.iastore, 0, 0, 0), 0), (20, (.iinc 1 1, 0, 0, 0), 0), (23, (.goto (-21), 2, 0, 0), 0), (26, (.return_, 0, 0, 0), 0)]
def m_X7_bringBack : ex_M := (RX7, yX7_bringBack, cX7_bringBack, 2, none, 1, [], ex_cd q_X7_bringBack)
def q_X7_spared : List (Nat × ex_I × Nat) := [(0, (.iconst 0, 0, 0, 0), 0), (1, (.istore_n 1, 0, 0, 0), 0), (2, (.iload_n 1, 0, 0, 0), 0), (3, (.bipush 24, 0, 0, 0), 0), (5, (.if_icmp .ge 21, 26, 0, 0), 0), (8, (.aload_n 0, 0, 0, 0), 0), (9, (.getfield 51, 7, 20, 0), 712), (12, (.iload_n 1, 0, 0, 0), 0), (13, (.aload_n 0, 0, 0, 0), 0), (14, (.getfield 16, 7, 2, 0), 694), (17, (.iload_n 1, 0, 0, 0), 0), (18, (.iaload, 0, 0, 0), 0), (19, (.iastore, 0, 0, 0), 0), (20, (.iinc 1 1, 0, 0, 0), 0), (23, (.goto (-21), 2, 0, 0), 0), (26, (.aload_n 0, 0, 0, 0), 0), (27, (.iconst (-1), 0, 0, 0), 0), (28, (.invokevirtual 190, 147, 0, 7), 938), (31, (.iconst 0, 0, 0, 0), 0), (32, (.istore_n 1, 0, 0, 0), 0), (33, (.iload_n 1, 0, 0, 0), 0), (34, (.aload_n 0, 0, 0, 0), 0), (35, (.getfield 81, 7, 4, 0), 696), (38, (.if_icmp .ge 20, 58, 0, 0), 0), (41, (.aload_n 0, 0, 0, 0), 0), (42, (.getfield 54, 7, 21, 0), 713), (45, (.iload_n 1, 0, 0, 0), 0), (46, (.aload_n 0, 0, 0, 0), 0), (47, (.iload_n 1, 0, 0, 0), 0), (48, (.invokevirtual 116, 124, 0, 7), 841), (51, (.iastore, 0, 0, 0), 0), (52, (.iinc 1 1, 0, 0, 0), 0), (55, (.goto (-22), 33, 0, 0), 0), (58, (.aload_n 0, 0, 0, 0), 0), (59, (.invokevirtual 193, 148, 0, 7), 942), (62, (.iconst 0, 0, 0, 0), 0), (63, (.istore_n 1, 0, 0, 0), 0), (64, (.iconst 0, 0, 0, 0), 0), (65, (.istore_n 2, 0, 0, 0), 0), (66, (.iload_n 2, 0, 0, 0), 0), (67, (.aload_n 0, 0, 0, 0), 0), (68, (.getfield 81, 7, 4, 0), 696), (71, (.if_icmp .ge 87, 158, 0, 0), 0), (74, (.aload_n 0, 0, 0, 0), 0), (75, (.iload_n 2, 0, 0, 0), 0), (76, (.invokevirtual 190, 147, 0, 7), 938), (79, (.iconst 1, 0, 0, 0), 0), (80, (.istore_n 3, 0, 0, 0), 0), (81, (.iconst 0, 0, 0, 0), 0), (82, (.istore 4, 0, 0, 0), 0), (84, (.iload 4, 0, 0, 0), 0), (86, (.aload_n 0, 0, 0, 0), 0), (87, (.getfield 81, 7, 4, 0), 696), (90, (.if_icmp .ge 44, 134, 0, 0), 0), (93, (.iload_n 3, 0, 0, 0), 0), (94, (.ifCond .eq 32, 126, 0, 0), 0), (97, (.iload 4, 0, 0, 0), 0), (99, (.iload_n 2, 0, 0, 0), 0), (100, (.if_icmp .eq 22, 122, 0, 0), 0), (103, (.aload_n 0, 0, 0, 0), 0), (104, (.getfield 54, 7, 21, 0), 713), (107, (.iload 4, 0, 0, 0), 0), (109, (.iaload, 0, 0, 0), 0), (110, (.aload_n 0, 0, 0, 0), 0), (111, (.iload 4, 0, 0, 0), 0), (113, (.invokevirtual 116, 124, 0, 7), 841), (116, (.iconst (-1), 0, 0, 0), 0), (117, (.ixor, 0, 0, 0), 0), (118, (.iand, 0, 0, 0), 0), (119, (.ifCond .ne 7, 126, 0, 0), 0), (122, (.iconst 1, 0, 0, 0), 0), (123, (.goto 4, 127, 0, 0), 0), (126, (.iconst 0, 0, 0, 0), 0), (127, (.istore_n 3, 0, 0, 0), 0), (128, (.iinc 4 1, 0, 0, 0), 0), (131, (.goto (-47), 84, 0, 0), 0), (134, (.aload_n 0, 0, 0, 0), 0), (135, (.invokevirtual 193, 148, 0, 7), 942), (138, (.iload_n 1, 0, 0, 0), 0), (139, (.iload_n 3, 0, 0, 0), 0), (140, (.ifCond .eq 9, 149, 0, 0), 0), (143, (.iconst 1, 0, 0, 0), 0), (144, (.iload_n 2, 0, 0, 0), 0), (145, (.ishl, 0, 0, 0), 0), (146, (.goto 4, 150, 0, 0), 0), (149, (.iconst 0, 0, 0, 0), 0), (150, (.ior, 0, 0, 0), 0), (151, (.istore_n 1, 0, 0, 0), 0), (152, (.iinc 2 1, 0, 0, 0), 0), (155, (.goto (-89), 66, 0, 0), 0), (158, (.iload_n 1, 0, 0, 0), 0), (159, (.ireturn, 0, 0, 0), 0)]
def m_X7_spared : ex_M := (RX7, yX7_spared, cX7_spared, 5, some .int, 1, [], ex_cd q_X7_spared)
def q_X7_order : List (Nat × ex_I × Nat) := [(0, (.iload_n 1, 0, 0, 0), 0), (1, (.i2l, 0, 0, 0), 0), (2, (.lconst 0, 0, 0, 0), 0), (3, (.ldc2_w 105, 0, 0, 15), 824), (6, (.invokestatic 84, 114, 0, 0), 800), (9, (.ifCond .eq 15, 24, 0, 0), 0), (12, (.iload_n 2, 0, 0, 0), 0), (13, (.i2l, 0, 0, 0), 0), (14, (.lconst 0, 0, 0, 0), 0), (15, (.ldc2_w 88, 0, 0, 3), 799), (18, (.invokestatic 84, 114, 0, 0), 800), (21, (.ifCond .ne 5, 26, 0, 0), 0), (24, (.iconst (-1), 0, 0, 0), 0), (25, (.ireturn, 0, 0, 0), 0), (26, (.iload_n 1, 0, 0, 0), 0), (27, (.istore_n 3, 0, 0, 0), 0), (28, (.iconst 0, 0, 0, 0), 0), (29, (.istore 4, 0, 0, 0), 0), (31, (.iload_n 3, 0, 0, 0), 0), (32, (.ifCond .eq 82, 114, 0, 0), 0), (35, (.iconst (-1), 0, 0, 0), 0), (36, (.istore 5, 0, 0, 0), 0), (38, (.iconst 3, 0, 0, 0), 0), (39, (.istore 6, 0, 0, 0), 0), (41, (.iload 6, 0, 0, 0), 0), (43, (.ifCond .lt 39, 82, 0, 0), 0), (46, (.iload_n 3, 0, 0, 0), 0), (47, (.iload 6, 0, 0, 0), 0), (49, (.invokestatic 107, 115, 0, 0), 825), (52, (.ifCond .eq 20, 72, 0, 0), 0), (55, (.aload_n 0, 0, 0, 0), 0), (56, (.getfield 19, 7, 3, 0), 695), (59, (.iload 6, 0, 0, 0), 0), (61, (.iaload, 0, 0, 0), 0), (62, (.iload_n 3, 0, 0, 0), 0), (63, (.iand, 0, 0, 0), 0), (64, (.ifCond .ne 8, 72, 0, 0), 0), (67, (.iload 6, 0, 0, 0), 0), (69, (.goto 5, 74, 0, 0), 0), (72, (.iload 5, 0, 0, 0), 0), (74, (.istore 5, 0, 0, 0), 0), (76, (.iinc 6 (-1), 0, 0, 0), 0), (79, (.goto (-38), 41, 0, 0), 0), (82, (.iload 5, 0, 0, 0), 0), (84, (.ifCond .ge 6, 90, 0, 0), 0), (87, (.bipush (-4), 0, 0, 0), 0), (89, (.ireturn, 0, 0, 0), 0), (90, (.aload_n 0, 0, 0, 0), 0), (91, (.getfield 57, 7, 22, 0), 714), (94, (.iload 4, 0, 0, 0), 0), (96, (.iload 5, 0, 0, 0), 0), (98, (.iastore, 0, 0, 0), 0), (99, (.iinc 4 1, 0, 0, 0), 0), (102, (.iload_n 3, 0, 0, 0), 0), (103, (.iconst 1, 0, 0, 0), 0), (104, (.iload 5, 0, 0, 0), 0), (106, (.ishl, 0, 0, 0), 0), (107, (.iconst (-1), 0, 0, 0), 0), (108, (.ixor, 0, 0, 0), 0), (109, (.iand, 0, 0, 0), 0), (110, (.istore_n 3, 0, 0, 0), 0), (111, (.goto (-80), 31, 0, 0), 0), (114, (.iload_n 2, 0, 0, 0), 0), (115, (.iload 4, 0, 0, 0), 0), (117, (.if_icmp .ge 12, 129, 0, 0), 0), (120, (.aload_n 0, 0, 0, 0), 0), (121, (.getfield 57, 7, 22, 0), 714), (124, (.iload_n 2, 0, 0, 0), 0), (125, (.iaload, 0, 0, 0), 0), (126, (.goto 5, 131, 0, 0), 0), (129, (.bipush (-4), 0, 0, 0), 0), (131, (.ireturn, 0, 0, 0), 0)]
def m_X7_order : ex_M := (RX7, yX7_order, cX7_order, 7, some .int, 3, [], ex_cd q_X7_order)
def q_X7_canHave : List (Nat × ex_I × Nat) := [(0, (.iload_n 1, 0, 0, 0), 0), (1, (.iload_n 2, 0, 0, 0), 0), (2, (.if_icmp .eq 52, 54, 0, 0), 0), (5, (.aload_n 0, 0, 0, 0), 0), (6, (.getfield 13, 7, 1, 0), 693), (9, (.iload_n 1, 0, 0, 0), 0), (10, (.iaload, 0, 0, 0), 0), (11, (.iload_n 2, 0, 0, 0), 0), (12, (.invokestatic 107, 115, 0, 0), 825), (15, (.ifCond .eq 39, 54, 0, 0), 0), (18, (.aload_n 0, 0, 0, 0), 0), (19, (.getfield 16, 7, 2, 0), 694), (22, (.iconst 4, 0, 0, 0), 0), (23, (.iload_n 1, 0, 0, 0), 0), (24, (.imul, 0, 0, 0), 0), (25, (.iload_n 3, 0, 0, 0), 0), (26, (.iadd, 0, 0, 0), 0), (27, (.iaload, 0, 0, 0), 0), (28, (.aload_n 0, 0, 0, 0), 0), (29, (.getfield 7, 7, 0, 0), 692), (32, (.iload_n 2, 0, 0, 0), 0), (33, (.iaload, 0, 0, 0), 0), (34, (.aload_n 0, 0, 0, 0), 0), (35, (.getfield 16, 7, 2, 0), 694), (38, (.iconst 4, 0, 0, 0), 0), (39, (.iload_n 2, 0, 0, 0), 0), (40, (.imul, 0, 0, 0), 0), (41, (.iload_n 3, 0, 0, 0), 0), (42, (.iadd, 0, 0, 0), 0), (43, (.iaload, 0, 0, 0), 0), (44, (.invokestatic 120, 126, 0, 0), 849), (47, (.if_icmp .ne 7, 54, 0, 0), 0), (50, (.iconst 1, 0, 0, 0), 0), (51, (.goto 4, 55, 0, 0), 0), (54, (.iconst 0, 0, 0, 0), 0), (55, (.ireturn, 0, 0, 0), 0)]
def m_X7_canHave : ex_M := (RX7, yX7_canHave, cX7_canHave, 4, some .boolean, 4, [], ex_cd q_X7_canHave)
def q_X7_isWay : List (Nat × ex_I × Nat) := [(0, (.iconst 0, 0, 0, 0), 0), (1, (.istore_n 2, 0, 0, 0), 0), (2, (.iconst 1, 0, 0, 0), 0), (3, (.istore_n 3, 0, 0, 0), 0), (4, (.iconst 0, 0, 0, 0), 0), (5, (.istore 4, 0, 0, 0), 0), (7, (.iload 4, 0, 0, 0), 0), (9, (.aload_n 0, 0, 0, 0), 0), (10, (.getfield 196, 7, 24, 0), 716), (13, (.if_icmp .ge 87, 100, 0, 0), 0), (16, (.iload_n 3, 0, 0, 0), 0), (17, (.ifCond .eq 83, 100, 0, 0), 0), (20, (.iload_n 2, 0, 0, 0), 0), (21, (.aload_n 0, 0, 0, 0), 0), (22, (.getfield 57, 7, 22, 0), 714), (25, (.iload 4, 0, 0, 0), 0), (27, (.iaload, 0, 0, 0), 0), (28, (.aload_n 0, 0, 0, 0), 0), (29, (.getfield 196, 7, 24, 0), 716), (32, (.if_icmp .ne 7, 39, 0, 0), 0), (35, (.iconst 1, 0, 0, 0), 0), (36, (.goto 4, 40, 0, 0), 0), (39, (.iconst 0, 0, 0, 0), 0), (40, (.iadd, 0, 0, 0), 0), (41, (.istore_n 2, 0, 0, 0), 0), (42, (.iload_n 2, 0, 0, 0), 0), (43, (.iconst 2, 0, 0, 0), 0), (44, (.if_icmp .ge 48, 92, 0, 0), 0), (47, (.aload_n 0, 0, 0, 0), 0), (48, (.getfield 57, 7, 22, 0), 714), (51, (.iload 4, 0, 0, 0), 0), (53, (.iaload, 0, 0, 0), 0), (54, (.aload_n 0, 0, 0, 0), 0), (55, (.getfield 196, 7, 24, 0), 716), (58, (.if_icmp .eq 30, 88, 0, 0), 0), (61, (.aload_n 0, 0, 0, 0), 0), (62, (.aload_n 0, 0, 0, 0), 0), (63, (.getfield 60, 7, 23, 0), 715), (66, (.iload 4, 0, 0, 0), 0), (68, (.iaload, 0, 0, 0), 0), (69, (.aload_n 0, 0, 0, 0), 0), (70, (.getfield 60, 7, 23, 0), 715), (73, (.aload_n 0, 0, 0, 0), 0), (74, (.getfield 57, 7, 22, 0), 714), (77, (.iload 4, 0, 0, 0), 0), (79, (.iaload, 0, 0, 0), 0), (80, (.iaload, 0, 0, 0), 0), (81, (.iload_n 1, 0, 0, 0), 0), (82, (.invokevirtual 199, 151, 0, 7), 962), (85, (.ifCond .eq 7, 92, 0, 0), 0), (88, (.iconst 1, 0, 0, 0), 0), (89, (.goto 4, 93, 0, 0), 0), (92, (.iconst 0, 0, 0, 0), 0), (93, (.istore_n 3, 0, 0, 0), 0), (94, (.iinc 4 1, 0, 0, 0), 0), (97, (.goto (-90), 7, 0, 0), 0), (100, (.iconst 0, 0, 0, 0), 0), (101, (.istore 4, 0, 0, 0), 0), (103, (.iload 4, 0, 0, 0), 0), (105, (.aload_n 0, 0, 0, 0), 0), (106, (.getfield 196, 7, 24, 0), 716), (109, (.if_icmp .ge 68, 177, 0, 0), 0), (112, (.iload_n 3, 0, 0, 0), 0), (113, (.ifCond .eq 64, 177, 0, 0), 0), (116, (.iload 4, 0, 0, 0), 0), (118, (.istore 5, 0, 0, 0), 0), (120, (.iconst 0, 0, 0, 0), 0), (121, (.istore 6, 0, 0, 0), 0), (123, (.iload 6, 0, 0, 0), 0), (125, (.aload_n 0, 0, 0, 0), 0), (126, (.getfield 196, 7, 24, 0), 716), (129, (.if_icmp .ge 27, 156, 0, 0), 0), (132, (.iload 5, 0, 0, 0), 0), (134, (.aload_n 0, 0, 0, 0), 0), (135, (.getfield 196, 7, 24, 0), 716), (138, (.if_icmp .ge 18, 156, 0, 0), 0), (141, (.aload_n 0, 0, 0, 0), 0), (142, (.getfield 57, 7, 22, 0), 714), (145, (.iload 5, 0, 0, 0), 0), (147, (.iaload, 0, 0, 0), 0), (148, (.istore 5, 0, 0, 0), 0), (150, (.iinc 6 1, 0, 0, 0), 0), (153, (.goto (-30), 123, 0, 0), 0), (156, (.iload 5, 0, 0, 0), 0), (158, (.aload_n 0, 0, 0, 0), 0), (159, (.getfield 196, 7, 24, 0), 716), (162, (.if_icmp .ne 7, 169, 0, 0), 0), (165, (.iconst 1, 0, 0, 0), 0), (166, (.goto 4, 170, 0, 0), 0), (169, (.iconst 0, 0, 0, 0), 0), (170, (.istore_n 3, 0, 0, 0), 0), (171, (.iinc 4 1, 0, 0, 0), 0), (174, (.goto (-71), 103, 0, 0), 0), (177, (.iload_n 3, 0, 0, 0), 0), (178, (.ifCond .eq 12, 190, 0, 0), 0), (181, (.iload_n 2, 0, 0, 0), 0), (182, (.iconst 1, 0, 0, 0), 0), (183, (.if_icmp .ne 7, 190, 0, 0), 0), (186, (.iconst 1, 0, 0, 0), 0), (187, (.goto 4, 191, 0, 0), 0), (190, (.iconst 0, 0, 0, 0), 0), (191, (.ireturn, 0, 0, 0), 0)]
def m_X7_isWay : ex_M := (RX7, yX7_isWay, cX7_isWay, 7, some .boolean, 2, [], ex_cd q_X7_isWay)
def q_X7_nextRow : List (Nat × ex_I × Nat) := [(0, (.aload_n 0, 0, 0, 0), 0), (1, (.getfield 196, 7, 24, 0), 716), (4, (.iconst 1, 0, 0, 0), 0), (5, (.isub, 0, 0, 0), 0), (6, (.istore_n 1, 0, 0, 0), 0), (7, (.iload_n 1, 0, 0, 0), 0), (8, (.ifCond .lt 41, 49, 0, 0), 0), (11, (.aload_n 0, 0, 0, 0), 0), (12, (.getfield 57, 7, 22, 0), 714), (15, (.iload_n 1, 0, 0, 0), 0), (16, (.dup2, 0, 0, 0), 0), (17, (.iaload, 0, 0, 0), 0), (18, (.iconst 1, 0, 0, 0), 0), (19, (.iadd, 0, 0, 0), 0), (20, (.iastore, 0, 0, 0), 0), (21, (.aload_n 0, 0, 0, 0), 0), (22, (.getfield 57, 7, 22, 0), 714), (25, (.iload_n 1, 0, 0, 0), 0), (26, (.iaload, 0, 0, 0), 0), (27, (.aload_n 0, 0, 0, 0), 0), (28, (.getfield 196, 7, 24, 0), 716), (31, (.if_icmp .gt 5, 36, 0, 0), 0), (34, (.iconst 1, 0, 0, 0), 0), (35, (.ireturn, 0, 0, 0), 0), (36, (.aload_n 0, 0, 0, 0), 0), (37, (.getfield 57, 7, 22, 0), 714), (40, (.iload_n 1, 0, 0, 0), 0), (41, (.iconst 0, 0, 0, 0), 0), (42, (.iastore, 0, 0, 0), 0), (43, (.iinc 1 (-1), 0, 0, 0), 0), (46, (.goto (-39), 7, 0, 0), 0), (49, (.iconst 0, 0, 0, 0), 0), (50, (.ireturn, 0, 0, 0), 0)]
def m_X7_nextRow : ex_M := (RX7, yX7_nextRow, cX7_nextRow, 2, some .boolean, 1, [], ex_cd q_X7_nextRow)
def q_X7_findWays : List (Nat × ex_I × Nat) := [(0, (.aload_n 0, 0, 0, 0), 0), (1, (.iconst 0, 0, 0, 0), 0), (2, (.putfield 196, 7, 24, 0), 716), (5, (.aload_n 0, 0, 0, 0), 0), (6, (.iconst 0, 0, 0, 0), 0), (7, (.putfield 202, 7, 26, 0), 718), (10, (.aload_n 0, 0, 0, 0), 0), (11, (.iconst 0, 0, 0, 0), 0), (12, (.putfield 205, 7, 27, 0), 719), (15, (.iconst 0, 0, 0, 0), 0), (16, (.istore_n 2, 0, 0, 0), 0), (17, (.iload_n 2, 0, 0, 0), 0), (18, (.aload_n 0, 0, 0, 0), 0), (19, (.getfield 81, 7, 4, 0), 696), (22, (.if_icmp .ge 54, 76, 0, 0), 0), (25, (.aload_n 0, 0, 0, 0), 0), (26, (.getfield 16, 7, 2, 0), 694), (29, (.iconst 4, 0, 0, 0), 0), (30, (.iload_n 2, 0, 0, 0), 0), (31, (.imul, 0, 0, 0), 0), (32, (.iload_n 1, 0, 0, 0), 0), (33, (.iadd, 0, 0, 0), 0), (34, (.iaload, 0, 0, 0), 0), (35, (.bipush 97, 0, 0, 0), 0), (37, (.if_icmp .ge 33, 70, 0, 0), 0), (40, (.aload_n 0, 0, 0, 0), 0), (41, (.getfield 60, 7, 23, 0), 715), (44, (.aload_n 0, 0, 0, 0), 0), (45, (.getfield 196, 7, 24, 0), 716), (48, (.iload_n 2, 0, 0, 0), 0), (49, (.iastore, 0, 0, 0), 0), (50, (.aload_n 0, 0, 0, 0), 0), (51, (.getfield 57, 7, 22, 0), 714), (54, (.aload_n 0, 0, 0, 0), 0), (55, (.getfield 196, 7, 24, 0), 716), (58, (.iconst 0, 0, 0, 0), 0), (59, (.iastore, 0, 0, 0), 0), (60, (.aload_n 0, 0, 0, 0), 0), (61, (.dup, 0, 0, 0), 0), (62, (.getfield 196, 7, 24, 0), 716), (65, (.iconst 1, 0, 0, 0), 0), (66, (.iadd, 0, 0, 0), 0), (67, (.putfield 196, 7, 24, 0), 716), (70, (.iinc 2 1, 0, 0, 0), 0), (73, (.goto (-56), 17, 0, 0), 0), (76, (.aload_n 0, 0, 0, 0), 0), (77, (.getfield 196, 7, 24, 0), 716), (80, (.ifCond .le 7, 87, 0, 0), 0), (83, (.iconst 1, 0, 0, 0), 0), (84, (.goto 4, 88, 0, 0), 0), (87, (.iconst 0, 0, 0, 0), 0), (88, (.istore_n 2, 0, 0, 0), 0), (89, (.iload_n 2, 0, 0, 0), 0), (90, (.ifCond .eq 107, 197, 0, 0), 0), (93, (.aload_n 0, 0, 0, 0), 0), (94, (.iload_n 1, 0, 0, 0), 0), (95, (.invokevirtual 208, 152, 0, 7), 958), (98, (.ifCond .eq 91, 189, 0, 0), 0), (101, (.iconst 0, 0, 0, 0), 0), (102, (.istore_n 3, 0, 0, 0), 0), (103, (.iload_n 3, 0, 0, 0), 0), (104, (.aload_n 0, 0, 0, 0), 0), (105, (.getfield 196, 7, 24, 0), 716), (108, (.if_icmp .ge 71, 179, 0, 0), 0), (111, (.aload_n 0, 0, 0, 0), 0), (112, (.getfield 63, 7, 25, 0), 717), (115, (.iload_n 3, 0, 0, 0), 0), (116, (.aload_n 0, 0, 0, 0), 0), (117, (.getfield 202, 7, 26, 0), 718), (120, (.ifCond .ne 12, 132, 0, 0), 0), (123, (.aload_n 0, 0, 0, 0), 0), (124, (.getfield 57, 7, 22, 0), 714), (127, (.iload_n 3, 0, 0, 0), 0), (128, (.iaload, 0, 0, 0), 0), (129, (.goto 9, 138, 0, 0), 0), (132, (.aload_n 0, 0, 0, 0), 0), (133, (.getfield 63, 7, 25, 0), 717), (136, (.iload_n 3, 0, 0, 0), 0), (137, (.iaload, 0, 0, 0), 0), (138, (.iastore, 0, 0, 0), 0), (139, (.aload_n 0, 0, 0, 0), 0), (140, (.dup, 0, 0, 0), 0), (141, (.getfield 205, 7, 27, 0), 719), (144, (.aload_n 0, 0, 0, 0), 0), (145, (.getfield 57, 7, 22, 0), 714), (148, (.iload_n 3, 0, 0, 0), 0), (149, (.iaload, 0, 0, 0), 0), (150, (.aload_n 0, 0, 0, 0), 0), (151, (.getfield 196, 7, 24, 0), 716), (154, (.if_icmp .ne 14, 168, 0, 0), 0), (157, (.iconst 1, 0, 0, 0), 0), (158, (.aload_n 0, 0, 0, 0), 0), (159, (.getfield 60, 7, 23, 0), 715), (162, (.iload_n 3, 0, 0, 0), 0), (163, (.iaload, 0, 0, 0), 0), (164, (.ishl, 0, 0, 0), 0), (165, (.goto 4, 169, 0, 0), 0), (168, (.iconst 0, 0, 0, 0), 0), (169, (.ior, 0, 0, 0), 0), (170, (.putfield 205, 7, 27, 0), 719), (173, (.iinc 3 1, 0, 0, 0), 0), (176, (.goto (-73), 103, 0, 0), 0), (179, (.aload_n 0, 0, 0, 0), 0), (180, (.dup, 0, 0, 0), 0), (181, (.getfield 202, 7, 26, 0), 718), (184, (.iconst 1, 0, 0, 0), 0), (185, (.iadd, 0, 0, 0), 0), (186, (.putfield 202, 7, 26, 0), 718), (189, (.aload_n 0, 0, 0, 0), 0), (190, (.invokevirtual 211, 153, 0, 7), 966), (193, (.istore_n 2, 0, 0, 0), 0), (194, (.goto (-105), 89, 0, 0), 0), (197, (.return_, 0, 0, 0), 0)]
def m_X7_findWays : ex_M := (RX7, yX7_findWays, cX7_findWays, 4, none, 2, [], ex_cd q_X7_findWays)
def q_X7_mouths : List (Nat × ex_I × Nat) := [(0, (.iload_n 1, 0, 0, 0), 0), (1, (.invokestatic 98, 117, 0, 0), 815), (4, (.ifCond .eq 13, 17, 0, 0), 0), (7, (.iload_n 2, 0, 0, 0), 0), (8, (.i2l, 0, 0, 0), 0), (9, (.lconst 0, 0, 0, 0), 0), (10, (.lconst 1, 0, 0, 0), 0), (11, (.invokestatic 84, 114, 0, 0), 800), (14, (.ifCond .ne 5, 19, 0, 0), 0), (17, (.iconst (-1), 0, 0, 0), 0), (18, (.ireturn, 0, 0, 0), 0), (19, (.aload_n 0, 0, 0, 0), 0), (20, (.iload_n 1, 0, 0, 0), 0), (21, (.invokevirtual 214, 154, 0, 7), 954), (24, (.iload_n 2, 0, 0, 0), 0), (25, (.ifCond .ne 10, 35, 0, 0), 0), (28, (.aload_n 0, 0, 0, 0), 0), (29, (.getfield 202, 7, 26, 0), 718), (32, (.goto 7, 39, 0, 0), 0), (35, (.aload_n 0, 0, 0, 0), 0), (36, (.getfield 205, 7, 27, 0), 719), (39, (.ireturn, 0, 0, 0), 0)]
def m_X7_mouths : ex_M := (RX7, yX7_mouths, cX7_mouths, 3, some .int, 3, [], ex_cd q_X7_mouths)
def q_X7_from : List (Nat × ex_I × Nat) := [(0, (.iload_n 1, 0, 0, 0), 0), (1, (.invokestatic 98, 117, 0, 0), 815), (4, (.ifCond .eq 26, 30, 0, 0), 0), (7, (.aload_n 0, 0, 0, 0), 0), (8, (.iload_n 2, 0, 0, 0), 0), (9, (.invokevirtual 90, 116, 0, 7), 811), (12, (.ifCond .eq 18, 30, 0, 0), 0), (15, (.aload_n 0, 0, 0, 0), 0), (16, (.getfield 16, 7, 2, 0), 694), (19, (.iconst 4, 0, 0, 0), 0), (20, (.iload_n 2, 0, 0, 0), 0), (21, (.imul, 0, 0, 0), 0), (22, (.iload_n 1, 0, 0, 0), 0), (23, (.iadd, 0, 0, 0), 0), (24, (.iaload, 0, 0, 0), 0), (25, (.bipush 97, 0, 0, 0), 0), (27, (.if_icmp .ne 5, 32, 0, 0), 0), (30, (.iconst (-1), 0, 0, 0), 0), (31, (.ireturn, 0, 0, 0), 0), (32, (.aload_n 0, 0, 0, 0), 0), (33, (.iload_n 1, 0, 0, 0), 0), (34, (.invokevirtual 214, 154, 0, 7), 954), (37, (.aload_n 0, 0, 0, 0), 0), (38, (.getfield 202, 7, 26, 0), 718), (41, (.ifCond .ne 6, 47, 0, 0), 0), (44, (.bipush (-4), 0, 0, 0), 0), (46, (.ireturn, 0, 0, 0), 0), (47, (.iconst 0, 0, 0, 0), 0), (48, (.istore_n 3, 0, 0, 0), 0), (49, (.aload_n 0, 0, 0, 0), 0), (50, (.getfield 60, 7, 23, 0), 715), (53, (.iload_n 3, 0, 0, 0), 0), (54, (.iaload, 0, 0, 0), 0), (55, (.iload_n 2, 0, 0, 0), 0), (56, (.if_icmp .eq 9, 65, 0, 0), 0), (59, (.iinc 3 1, 0, 0, 0), 0), (62, (.goto (-13), 49, 0, 0), 0), (65, (.aload_n 0, 0, 0, 0), 0), (66, (.getfield 63, 7, 25, 0), 717), (69, (.iload_n 3, 0, 0, 0), 0), (70, (.iaload, 0, 0, 0), 0), (71, (.aload_n 0, 0, 0, 0), 0), (72, (.getfield 196, 7, 24, 0), 716), (75, (.if_icmp .ne 8, 83, 0, 0), 0), (78, (.bipush 9, 0, 0, 0), 0), (80, (.goto 14, 94, 0, 0), 0), (83, (.aload_n 0, 0, 0, 0), 0), (84, (.getfield 60, 7, 23, 0), 715), (87, (.aload_n 0, 0, 0, 0), 0), (88, (.getfield 63, 7, 25, 0), 717), (91, (.iload_n 3, 0, 0, 0), 0), (92, (.iaload, 0, 0, 0), 0), (93, (.iaload, 0, 0, 0), 0), (94, (.ireturn, 0, 0, 0), 0)]
def m_X7_from : ex_M := (RX7, yX7_from, cX7_from, 4, some .int, 3, [], ex_cd q_X7_from)
def q_X7_lesson : List (Nat × ex_I × Nat) := [(0, (.iconst 0, 0, 0, 0), 0), (1, (.istore_n 2, 0, 0, 0), 0), (2, (.iconst 0, 0, 0, 0), 0), (3, (.istore_n 3, 0, 0, 0), 0), (4, (.iload_n 3, 0, 0, 0), 0), (5, (.aload_n 0, 0, 0, 0), 0), (6, (.getfield 81, 7, 4, 0), 696), (9, (.aload_n 0, 0, 0, 0), 0), (10, (.getfield 81, 7, 4, 0), 696), (13, (.imul, 0, 0, 0), 0), (14, (.iconst 4, 0, 0, 0), 0), (15, (.imul, 0, 0, 0), 0), (16, (.if_icmp .ge 71, 87, 0, 0), 0), (19, (.iload_n 3, 0, 0, 0), 0), (20, (.iconst 4, 0, 0, 0), 0), (21, (.idiv, 0, 0, 0), 0), (22, (.aload_n 0, 0, 0, 0), 0), (23, (.getfield 81, 7, 4, 0), 696), (26, (.idiv, 0, 0, 0), 0), (27, (.istore 4, 0, 0, 0), 0), (29, (.iload_n 3, 0, 0, 0), 0), (30, (.iconst 4, 0, 0, 0), 0), (31, (.idiv, 0, 0, 0), 0), (32, (.aload_n 0, 0, 0, 0), 0), (33, (.getfield 81, 7, 4, 0), 696), (36, (.irem, 0, 0, 0), 0), (37, (.istore 5, 0, 0, 0), 0), (39, (.iload 4, 0, 0, 0), 0), (41, (.iload 5, 0, 0, 0), 0), (43, (.if_icmp .eq 38, 81, 0, 0), 0), (46, (.aload_n 0, 0, 0, 0), 0), (47, (.iload 4, 0, 0, 0), 0), (49, (.iload 5, 0, 0, 0), 0), (51, (.iload_n 3, 0, 0, 0), 0), (52, (.iconst 4, 0, 0, 0), 0), (53, (.irem, 0, 0, 0), 0), (54, (.invokevirtual 169, 137, 0, 7), 898), (57, (.ifCond .eq 24, 81, 0, 0), 0), (60, (.iload_n 2, 0, 0, 0), 0), (61, (.iload_n 1, 0, 0, 0), 0), (62, (.if_icmp .ne 16, 78, 0, 0), 0), (65, (.aload_n 0, 0, 0, 0), 0), (66, (.iload 4, 0, 0, 0), 0), (68, (.iload 5, 0, 0, 0), 0), (70, (.iload_n 3, 0, 0, 0), 0), (71, (.iconst 4, 0, 0, 0), 0), (72, (.irem, 0, 0, 0), 0), (73, (.invokevirtual 173, 138, 0, 7), 906), (76, (.iload_n 2, 0, 0, 0), 0), (77, (.ireturn, 0, 0, 0), 0), (78, (.iinc 2 1, 0, 0, 0), 0), (81, (.iinc 3 1, 0, 0, 0), 0), (84, (.goto (-80), 4, 0, 0), 0), (87, (.iload_n 2, 0, 0, 0), 0), (88, (.ireturn, 0, 0, 0), 0)]
def m_X7_lesson : ex_M := (RX7, yX7_lesson, cX7_lesson, 6, some .int, 2, [], ex_cd q_X7_lesson)
def q_X7_lessons : List (Nat × ex_I × Nat) := [(0, (.iload_n 1, 0, 0, 0), 0), (1, (.i2l, 0, 0, 0), 0), (2, (.lconst 1, 0, 0, 0), 0), (3, (.ldc2_w 217, 0, 0, 60), 978), (6, (.invokestatic 84, 114, 0, 0), 800), (9, (.ifCond .ne 5, 14, 0, 0), 0), (12, (.iconst (-1), 0, 0, 0), 0), (13, (.ireturn, 0, 0, 0), 0), (14, (.iconst 0, 0, 0, 0), 0), (15, (.istore_n 2, 0, 0, 0), 0), (16, (.iload_n 2, 0, 0, 0), 0), (17, (.iload_n 1, 0, 0, 0), 0), (18, (.if_icmp .ge 57, 75, 0, 0), 0), (21, (.aload_n 0, 0, 0, 0), 0), (22, (.iconst (-1), 0, 0, 0), 0), (23, (.invokevirtual 219, 157, 0, 7), 979), (26, (.istore_n 3, 0, 0, 0), 0), (27, (.iload_n 3, 0, 0, 0), 0), (28, (.ifCond .ne 5, 33, 0, 0), 0), (31, (.iload_n 2, 0, 0, 0), 0), (32, (.ireturn, 0, 0, 0), 0), (33, (.aload_n 0, 0, 0, 0), 0), (34, (.aload_n 0, 0, 0, 0), 0), (35, (.getfield 25, 7, 8, 0), 700), (38, (.i2l, 0, 0, 0), 0), (39, (.ldc2_w 222, 0, 0, 1103515245), 983), (42, (.lmul, 0, 0, 0), 0), (43, (.ldc2_w 224, 0, 0, 12345), 984), (46, (.ladd, 0, 0, 0), 0), (47, (.ldc2_w 226, 0, 0, 2147483647), 985), (50, (.land, 0, 0, 0), 0), (51, (.l2i, 0, 0, 0), 0), (52, (.putfield 25, 7, 8, 0), 700), (55, (.aload_n 0, 0, 0, 0), 0), (56, (.aload_n 0, 0, 0, 0), 0), (57, (.getfield 25, 7, 8, 0), 700), (60, (.ldc 228, 0, 0, 65536), 986), (62, (.idiv, 0, 0, 0), 0), (63, (.iload_n 3, 0, 0, 0), 0), (64, (.irem, 0, 0, 0), 0), (65, (.invokevirtual 219, 157, 0, 7), 979), (68, (.pop, 0, 0, 0), 0), (69, (.iinc 2 1, 0, 0, 0), 0), (72, (.goto (-56), 16, 0, 0), 0), (75, (.iload_n 1, 0, 0, 0), 0), (76, (.ireturn, 0, 0, 0), 0)]
def m_X7_lessons : ex_M := (RX7, yX7_lessons, cX7_lessons, 4, some .int, 2, [], ex_cd q_X7_lessons)
def q_X7_seed : List (Nat × ex_I × Nat) := [(0, (.iload_n 1, 0, 0, 0), 0), (1, (.ifCond .ge 5, 6, 0, 0), 0), (4, (.iconst (-1), 0, 0, 0), 0), (5, (.ireturn, 0, 0, 0), 0), (6, (.aload_n 0, 0, 0, 0), 0), (7, (.getfield 25, 7, 8, 0), 700), (10, (.istore_n 2, 0, 0, 0), 0), (11, (.aload_n 0, 0, 0, 0), 0), (12, (.iload_n 1, 0, 0, 0), 0), (13, (.putfield 25, 7, 8, 0), 700), (16, (.iload_n 2, 0, 0, 0), 0), (17, (.ireturn, 0, 0, 0), 0)]
def m_X7_seed : ex_M := (RX7, yX7_seed, cX7_seed, 3, some .int, 2, [], ex_cd q_X7_seed)
def q_X7_carried : List (Nat × ex_I × Nat) := [(0, (.iload_n 1, 0, 0, 0), 0), (1, (.bipush 12, 0, 0, 0), 0), (3, (.if_icmp .ge 89, 92, 0, 0), 0), (6, (.iload_n 1, 0, 0, 0), 0), (7, (.bipush 6, 0, 0, 0), 0), (9, (.irem, 0, 0, 0), 0), (10, (.istore 4, 0, 0, 0), 0), (12, (.aload_n 0, 0, 0, 0), 0), (13, (.getfield 7, 7, 0, 0), 692), (16, (.iload 4, 0, 0, 0), 0), (18, (.iload_n 3, 0, 0, 0), 0), (19, (.ifCond .eq 13, 32, 0, 0), 0), (22, (.iload_n 1, 0, 0, 0), 0), (23, (.bipush 6, 0, 0, 0), 0), (25, (.if_icmp .ge 7, 32, 0, 0), 0), (28, (.iload_n 2, 0, 0, 0), 0), (29, (.goto 10, 39, 0, 0), 0), (32, (.aload_n 0, 0, 0, 0), 0), (33, (.getfield 7, 7, 0, 0), 692), (36, (.iload 4, 0, 0, 0), 0), (38, (.iaload, 0, 0, 0), 0), (39, (.iastore, 0, 0, 0), 0), (40, (.aload_n 0, 0, 0, 0), 0), (41, (.getfield 13, 7, 1, 0), 693), (44, (.iload 4, 0, 0, 0), 0), (46, (.iload_n 3, 0, 0, 0), 0), (47, (.ifCond .eq 13, 60, 0, 0), 0), (50, (.iload_n 1, 0, 0, 0), 0), (51, (.bipush 6, 0, 0, 0), 0), (53, (.if_icmp .lt 7, 60, 0, 0), 0), (56, (.iload_n 2, 0, 0, 0), 0), (57, (.goto 10, 67, 0, 0), 0), (60, (.aload_n 0, 0, 0, 0), 0), (61, (.getfield 13, 7, 1, 0), 693), (64, (.iload 4, 0, 0, 0), 0), (66, (.iaload, 0, 0, 0), 0), (67, (.iastore, 0, 0, 0), 0), (68, (.iload_n 1, 0, 0, 0), 0), (69, (.bipush 6, 0, 0, 0), 0), (71, (.if_icmp .ge 13, 84, 0, 0), 0), (74, (.aload_n 0, 0, 0, 0), 0), (75, (.getfield 7, 7, 0, 0), 692), (78, (.iload 4, 0, 0, 0), 0), (80, (.iaload, 0, 0, 0), 0), (81, (.goto 10, 91, 0, 0), 0), (84, (.aload_n 0, 0, 0, 0), 0), (85, (.getfield 13, 7, 1, 0), 693), (88, (.iload 4, 0, 0, 0), 0), (90, (.iaload, 0, 0, 0), 0), (91, (.ireturn, 0, 0, 0), 0), (92, (.iload_n 1, 0, 0, 0), 0), (93, (.bipush 36, 0, 0, 0), 0), (95, (.if_icmp .ge 39, 134, 0, 0), 0), (98, (.aload_n 0, 0, 0, 0), 0), (99, (.getfield 16, 7, 2, 0), 694), (102, (.iload_n 1, 0, 0, 0), 0), (103, (.bipush 12, 0, 0, 0), 0), (105, (.isub, 0, 0, 0), 0), (106, (.iload_n 3, 0, 0, 0), 0), (107, (.ifCond .eq 7, 114, 0, 0), 0), (110, (.iload_n 2, 0, 0, 0), 0), (111, (.goto 12, 123, 0, 0), 0), (114, (.aload_n 0, 0, 0, 0), 0), (115, (.getfield 16, 7, 2, 0), 694), (118, (.iload_n 1, 0, 0, 0), 0), (119, (.bipush 12, 0, 0, 0), 0), (121, (.isub, 0, 0, 0), 0), (122, (.iaload, 0, 0, 0), 0), (123, (.iastore, 0, 0, 0), 0), (124, (.aload_n 0, 0, 0, 0), 0), (125, (.getfield 16, 7, 2, 0), 694), (128, (.iload_n 1, 0, 0, 0), 0), (129, (.bipush 12, 0, 0, 0), 0), (131, (.isub, 0, 0, 0), 0), (132, (.iaload, 0, 0, 0), 0), (133, (.ireturn, 0, 0, 0), 0), (134, (.iload_n 1, 0, 0, 0), 0), (135, (.bipush 40, 0, 0, 0), 0), (137, (.if_icmp .ge 39, 176, 0, 0), 0), (140, (.aload_n 0, 0, 0, 0), 0), (141, (.getfield 19, 7, 3, 0), 695), (144, (.iload_n 1, 0, 0, 0), 0), (145, (.bipush 36, 0, 0, 0), 0), (147, (.isub, 0, 0, 0), 0), (148, (.iload_n 3, 0, 0, 0), 0), (149, (.ifCond .eq 7, 156, 0, 0), 0), (152, (.iload_n 2, 0, 0, 0), 0), (153, (.goto 12, 165, 0, 0), 0), (156, (.aload_n 0, 0, 0, 0), 0), (157, (.getfield 19, 7, 3, 0), 695), (160, (.iload_n 1, 0, 0, 0), 0), (161, (.bipush 36, 0, 0, 0), 0), (163, (.isub, 0, 0, 0), 0), (164, (.iaload, 0, 0, 0), 0), (165, (.iastore, 0, 0, 0), 0), (166, (.aload_n 0, 0, 0, 0), 0), (167, (.getfield 19, 7, 3, 0), 695), (170, (.iload_n 1, 0, 0, 0), 0), (171, (.bipush 36, 0, 0, 0), 0), (173, (.isub, 0, 0, 0), 0), (174, (.iaload, 0, 0, 0), 0), (175, (.ireturn, 0, 0, 0), 0), (176, (.iload_n 1, 0, 0, 0), 0), (177, (.sipush 136, 0, 0, 0), 0), (180, (.if_icmp .ge 39, 219, 0, 0), 0), (183, (.aload_n 0, 0, 0, 0), 0), (184, (.getfield 22, 7, 5, 0), 697), (187, (.iload_n 1, 0, 0, 0), 0), (188, (.bipush 40, 0, 0, 0), 0), (190, (.isub, 0, 0, 0), 0), (191, (.iload_n 3, 0, 0, 0), 0), (192, (.ifCond .eq 7, 199, 0, 0), 0), (195, (.iload_n 2, 0, 0, 0), 0), (196, (.goto 12, 208, 0, 0), 0), (199, (.aload_n 0, 0, 0, 0), 0), (200, (.getfield 22, 7, 5, 0), 697), (203, (.iload_n 1, 0, 0, 0), 0), (204, (.bipush 40, 0, 0, 0), 0), (206, (.isub, 0, 0, 0), 0), (207, (.iaload, 0, 0, 0), 0), (208, (.iastore, 0, 0, 0), 0), (209, (.aload_n 0, 0, 0, 0), 0), (210, (.getfield 22, 7, 5, 0), 697), (213, (.iload_n 1, 0, 0, 0), 0), (214, (.bipush 40, 0, 0, 0), 0), (216, (.isub, 0, 0, 0), 0), (217, (.iaload, 0, 0, 0), 0), (218, (.ireturn, 0, 0, 0), 0), (219, (.aload_n 0, 0, 0, 0), 0), (220, (.iload_n 3, 0, 0, 0), 0), (221, (.ifCond .eq 14, 235, 0, 0), 0), (224, (.iload_n 1, 0, 0, 0), 0), (225, (.sipush 136, 0, 0, 0), 0), (228, (.if_icmp .ne 7, 235, 0, 0), 0), (231, (.iload_n 2, 0, 0, 0), 0), (232, (.goto 7, 239, 0, 0), 0), (235, (.aload_n 0, 0, 0, 0), 0), (236, (.getfield 81, 7, 4, 0), 696), (239, (.putfield 81, 7, 4, 0), 696), (242, (.aload_n 0, 0, 0, 0), 0), (243, (.iload_n 3, 0, 0, 0), 0), (244, (.ifCond .eq 14, 258, 0, 0), 0), (247, (.iload_n 1, 0, 0, 0), 0), (248, (.sipush 137, 0, 0, 0), 0), (251, (.if_icmp .ne 7, 258, 0, 0), 0), (254, (.iload_n 2, 0, 0, 0), 0), (255, (.goto 7, 262, 0, 0), 0), (258, (.aload_n 0, 0, 0, 0), 0), (259, (.getfield 127, 7, 6, 0), 698), (262, (.putfield 127, 7, 6, 0), 698), (265, (.aload_n 0, 0, 0, 0), 0), (266, (.iload_n 3, 0, 0, 0), 0), (267, (.ifCond .eq 14, 281, 0, 0), 0), (270, (.iload_n 1, 0, 0, 0), 0), (271, (.sipush 138, 0, 0, 0), 0), (274, (.if_icmp .ne 7, 281, 0, 0), 0), (277, (.iload_n 2, 0, 0, 0), 0), (278, (.goto 7, 285, 0, 0), 0), (281, (.aload_n 0, 0, 0, 0), 0), (282, (.getfield 124, 7, 7, 0), 699), (285, (.putfield 124, 7, 7, 0), 699), (288, (.aload_n 0, 0, 0, 0), 0), (289, (.iload_n 3, 0, 0, 0), 0), (290, (.ifCond .eq 14, 304, 0, 0), 0), (293, (.iload_n 1, 0, 0, 0), 0), (294, (.sipush 139, 0, 0, 0), 0), (297, (.if_icmp .ne 7, 304, 0, 0), 0), (300, (.iload_n 2, 0, 0, 0), 0), (301, (.goto 7, 308, 0, 0), 0), (304, (.aload_n 0, 0, 0, 0), 0), (305, (.getfield 25, 7, 8, 0), 700), (308, (.putfield 25, 7, 8, 0), 700), (311, (.iload_n 1, 0, 0, 0), 0), (312, (.sipush 136, 0, 0, 0), 0), (315, (.if_icmp .ne 10, 325, 0, 0), 0), (318, (.aload_n 0, 0, 0, 0), 0), (319, (.getfield 81, 7, 4, 0), 696), (322, (.goto 35, 357, 0, 0), 0), (325, (.iload_n 1, 0, 0, 0), 0), (326, (.sipush 137, 0, 0, 0), 0), (329, (.if_icmp .ne 10, 339, 0, 0), 0), (332, (.aload_n 0, 0, 0, 0), 0), (333, (.getfield 127, 7, 6, 0), 698), (336, (.goto 21, 357, 0, 0), 0), (339, (.iload_n 1, 0, 0, 0), 0), (340, (.sipush 138, 0, 0, 0), 0), (343, (.if_icmp .ne 10, 353, 0, 0), 0), (346, (.aload_n 0, 0, 0, 0), 0), (347, (.getfield 124, 7, 7, 0), 699), (350, (.goto 7, 357, 0, 0), 0), (353, (.aload_n 0, 0, 0, 0), 0), (354, (.getfield 25, 7, 8, 0), 700), (357, (.ireturn, 0, 0, 0), 0)]
def m_X7_carried : ex_M := (RX7, yX7_carried, cX7_carried, 5, some .int, 4, [], ex_cd q_X7_carried)
def q_X7_image : List (Nat × ex_I × Nat) := [(0, (.iconst 0, 0, 0, 0), 0), (1, (.istore_n 1, 0, 0, 0), 0), (2, (.iload_n 1, 0, 0, 0), 0), (3, (.sipush 140, 0, 0, 0), 0), (6, (.if_icmp .ge 22, 28, 0, 0), 0), (9, (.aload_n 0, 0, 0, 0), 0), (10, (.getfield 66, 7, 29, 0), 721), (13, (.iload_n 1, 0, 0, 0), 0), (14, (.aload_n 0, 0, 0, 0), 0), (15, (.iload_n 1, 0, 0, 0), 0), (16, (.iconst 0, 0, 0, 0), 0), (17, (.iconst 0, 0, 0, 0), 0), (18, (.invokevirtual 229, 160, 0, 7), 995), (21, (.iastore, 0, 0, 0), 0), (22, (.iinc 1 1, 0, 0, 0), 0), (25, (.goto (-23), 2, 0, 0), 0), (28, (.aload_n 0, 0, 0, 0), 0), (29, (.iconst 1, 0, 0, 0), 0), (30, (.putfield 233, 7, 28, 1), 720), (33, (.iconst 1, 0, 0, 0), 0), (34, (.ireturn, 0, 0, 0), 0)]
def m_X7_image : ex_M := (RX7, yX7_image, cX7_image, 2, some .int, 1, [], ex_cd q_X7_image)
def q_X7_restore : List (Nat × ex_I × Nat) := [(0, (.aload_n 0, 0, 0, 0), 0), (1, (.getfield 233, 7, 28, 0), 720), (4, (.ifCond .ne 6, 10, 0, 0), 0), (7, (.bipush (-4), 0, 0, 0), 0), (9, (.ireturn, 0, 0, 0), 0), (10, (.iconst 0, 0, 0, 0), 0), (11, (.istore_n 1, 0, 0, 0), 0), (12, (.iload_n 1, 0, 0, 0), 0), (13, (.sipush 140, 0, 0, 0), 0), (16, (.if_icmp .ge 22, 38, 0, 0), 0), (19, (.aload_n 0, 0, 0, 0), 0), (20, (.iload_n 1, 0, 0, 0), 0), (21, (.aload_n 0, 0, 0, 0), 0), (22, (.getfield 66, 7, 29, 0), 721), (25, (.iload_n 1, 0, 0, 0), 0), (26, (.iaload, 0, 0, 0), 0), (27, (.iconst 1, 0, 0, 0), 0), (28, (.invokevirtual 229, 160, 0, 7), 995), (31, (.pop, 0, 0, 0), 0), (32, (.iinc 1 1, 0, 0, 0), 0), (35, (.goto (-23), 12, 0, 0), 0), (38, (.iconst 1, 0, 0, 0), 0), (39, (.ireturn, 0, 0, 0), 0)]
def m_X7_restore : ex_M := (RX7, yX7_restore, cX7_restore, 2, some .int, 1, [], ex_cd q_X7_restore)
def q_X7_isSheet : List (Nat × ex_I × Nat) := [(0, (.iload_n 0, 0, 0, 0), 0), (1, (.i2l, 0, 0, 0), 0), (2, (.lconst 0, 0, 0, 0), 0), (3, (.ldc2_w 88, 0, 0, 3), 799), (6, (.invokestatic 84, 114, 0, 0), 800), (9, (.ifCond .eq 19, 28, 0, 0), 0), (12, (.iload_n 1, 0, 0, 0), 0), (13, (.i2l, 0, 0, 0), 0), (14, (.lconst 0, 0, 0, 0), 0), (15, (.ldc2_w 237, 0, 0, 2), 1010), (18, (.invokestatic 84, 114, 0, 0), 800), (21, (.ifCond .eq 7, 28, 0, 0), 0), (24, (.iconst 1, 0, 0, 0), 0), (25, (.goto 4, 29, 0, 0), 0), (28, (.iconst 0, 0, 0, 0), 0), (29, (.ireturn, 0, 0, 0), 0)]
def m_X7_isSheet : ex_M := (RX7, yX7_isSheet, cX7_isSheet, 2, some .boolean, 2, [], ex_cd q_X7_isSheet)
def q_X7_sheet : List (Nat × ex_I × Nat) := [(0, (.iload_n 1, 0, 0, 0), 0), (1, (.iload_n 2, 0, 0, 0), 0), (2, (.invokestatic 239, 163, 0, 0), 1007), (5, (.ifCond .eq 9, 14, 0, 0), 0), (8, (.iload_n 3, 0, 0, 0), 0), (9, (.bipush 24, 0, 0, 0), 0), (11, (.if_icmp .le 5, 16, 0, 0), 0), (14, (.iconst (-1), 0, 0, 0), 0), (15, (.ireturn, 0, 0, 0), 0), (16, (.iload_n 3, 0, 0, 0), 0), (17, (.ifCond .ge 6, 23, 0, 0), 0), (20, (.bipush (-14), 0, 0, 0), 0), (22, (.ireturn, 0, 0, 0), 0), (23, (.aload_n 0, 0, 0, 0), 0), (24, (.getfield 69, 7, 30, 0), 722), (27, (.iload_n 1, 0, 0, 0), 0), (28, (.iload_n 2, 0, 0, 0), 0), (29, (.iastore, 0, 0, 0), 0), (30, (.aload_n 0, 0, 0, 0), 0), (31, (.getfield 72, 7, 31, 0), 723), (34, (.iload_n 1, 0, 0, 0), 0), (35, (.iload_n 3, 0, 0, 0), 0), (36, (.iastore, 0, 0, 0), 0), (37, (.iconst 0, 0, 0, 0), 0), (38, (.istore 4, 0, 0, 0), 0), (40, (.iload 4, 0, 0, 0), 0), (42, (.bipush 24, 0, 0, 0), 0), (44, (.if_icmp .ge 22, 66, 0, 0), 0), (47, (.aload_n 0, 0, 0, 0), 0), (48, (.getfield 75, 7, 32, 0), 724), (51, (.bipush 24, 0, 0, 0), 0), (53, (.iload_n 1, 0, 0, 0), 0), (54, (.imul, 0, 0, 0), 0), (55, (.iload 4, 0, 0, 0), 0), (57, (.iadd, 0, 0, 0), 0), (58, (.iconst 0, 0, 0, 0), 0), (59, (.iastore, 0, 0, 0), 0), (60, (.iinc 4 1, 0, 0, 0), 0), (63, (.goto (-23), 40, 0, 0), 0), (66, (.iload_n 3, 0, 0, 0), 0), (67, (.ireturn, 0, 0, 0), 0)]
def m_X7_sheet : ex_M := (RX7, yX7_sheet, cX7_sheet, 5, some .int, 4, [], ex_cd q_X7_sheet)
def q_X7_drop : List (Nat × ex_I × Nat) := [(0, (.iload_n 1, 0, 0, 0), 0), (1, (.i2l, 0, 0, 0), 0), (2, (.lconst 0, 0, 0, 0), 0), (3, (.ldc2_w 88, 0, 0, 3), 799), (6, (.invokestatic 84, 114, 0, 0), 800), (9, (.ifCond .ne 5, 14, 0, 0), 0), (12, (.iconst (-1), 0, 0, 0), 0), (13, (.ireturn, 0, 0, 0), 0), (14, (.aload_n 0, 0, 0, 0), 0), (15, (.getfield 69, 7, 30, 0), 722), (18, (.iload_n 1, 0, 0, 0), 0), (19, (.iaload, 0, 0, 0), 0), (20, (.ifCond .ge 6, 26, 0, 0), 0), (23, (.bipush (-11), 0, 0, 0), 0), (25, (.ireturn, 0, 0, 0), 0), (26, (.aload_n 0, 0, 0, 0), 0), (27, (.getfield 69, 7, 30, 0), 722), (30, (.iload_n 1, 0, 0, 0), 0), (31, (.iconst (-1), 0, 0, 0), 0), (32, (.iastore, 0, 0, 0), 0), (33, (.aload_n 0, 0, 0, 0), 0), (34, (.getfield 72, 7, 31, 0), 723), (37, (.iload_n 1, 0, 0, 0), 0), (38, (.iaload, 0, 0, 0), 0), (39, (.ireturn, 0, 0, 0), 0)]
def m_X7_drop : ex_M := (RX7, yX7_drop, cX7_drop, 2, some .int, 2, [], ex_cd q_X7_drop)
def q_X7_lacksRow : List (Nat × ex_I × Nat) := [(0, (.aload_n 0, 0, 0, 0), 0), (1, (.getfield 69, 7, 30, 0), 722), (4, (.iload_n 1, 0, 0, 0), 0), (5, (.iaload, 0, 0, 0), 0), (6, (.iload_n 2, 0, 0, 0), 0), (7, (.if_icmp .eq 20, 27, 0, 0), 0), (10, (.aload_n 0, 0, 0, 0), 0), (11, (.getfield 69, 7, 30, 0), 722), (14, (.iload_n 1, 0, 0, 0), 0), (15, (.iaload, 0, 0, 0), 0), (16, (.ifCond .ge 8, 24, 0, 0), 0), (19, (.bipush (-11), 0, 0, 0), 0), (21, (.goto 5, 26, 0, 0), 0), (24, (.bipush (-12), 0, 0, 0), 0), (26, (.ireturn, 0, 0, 0), 0), (27, (.iload_n 3, 0, 0, 0), 0), (28, (.i2l, 0, 0, 0), 0), (29, (.lconst 0, 0, 0, 0), 0), (30, (.aload_n 0, 0, 0, 0), 0), (31, (.getfield 72, 7, 31, 0), 723), (34, (.iload_n 1, 0, 0, 0), 0), (35, (.iaload, 0, 0, 0), 0), (36, (.iload 4, 0, 0, 0), 0), (38, (.isub, 0, 0, 0), 0), (39, (.i2l, 0, 0, 0), 0), (40, (.invokestatic 84, 114, 0, 0), 800), (43, (.ifCond .eq 7, 50, 0, 0), 0), (46, (.iconst 0, 0, 0, 0), 0), (47, (.goto 5, 52, 0, 0), 0), (50, (.bipush (-13), 0, 0, 0), 0), (52, (.ireturn, 0, 0, 0), 0)]
def m_X7_lacksRow : ex_M := (RX7, yX7_lacksRow, cX7_lacksRow, 5, some .int, 5, [], ex_cd q_X7_lacksRow)
def q_X7_item : List (Nat × ex_I × Nat) := [(0, (.iload_n 1, 0, 0, 0), 0), (1, (.iload_n 2, 0, 0, 0), 0), (2, (.invokestatic 239, 163, 0, 0), 1007), (5, (.ifCond .ne 5, 10, 0, 0), 0), (8, (.iconst (-1), 0, 0, 0), 0), (9, (.ireturn, 0, 0, 0), 0), (10, (.aload_n 0, 0, 0, 0), 0), (11, (.iload_n 1, 0, 0, 0), 0), (12, (.iload_n 2, 0, 0, 0), 0), (13, (.iload_n 3, 0, 0, 0), 0), (14, (.iconst 1, 0, 0, 0), 0), (15, (.invokevirtual 242, 166, 0, 7), 1019), (18, (.istore 5, 0, 0, 0), 0), (20, (.iload 5, 0, 0, 0), 0), (22, (.ifCond .ge 6, 28, 0, 0), 0), (25, (.iload 5, 0, 0, 0), 0), (27, (.ireturn, 0, 0, 0), 0), (28, (.aload_n 0, 0, 0, 0), 0), (29, (.getfield 75, 7, 32, 0), 724), (32, (.bipush 24, 0, 0, 0), 0), (34, (.iload_n 1, 0, 0, 0), 0), (35, (.imul, 0, 0, 0), 0), (36, (.iload_n 3, 0, 0, 0), 0), (37, (.iadd, 0, 0, 0), 0), (38, (.iload_n 2, 0, 0, 0), 0), (39, (.ifCond .ne 14, 53, 0, 0), 0), (42, (.iload 4, 0, 0, 0), 0), (44, (.bipush 24, 0, 0, 0), 0), (46, (.ishl, 0, 0, 0), 0), (47, (.bipush 24, 0, 0, 0), 0), (49, (.ishr, 0, 0, 0), 0), (50, (.goto 21, 71, 0, 0), 0), (53, (.iload_n 2, 0, 0, 0), 0), (54, (.iconst 1, 0, 0, 0), 0), (55, (.if_icmp .ne 14, 69, 0, 0), 0), (58, (.iload 4, 0, 0, 0), 0), (60, (.bipush 16, 0, 0, 0), 0), (62, (.ishl, 0, 0, 0), 0), (63, (.bipush 16, 0, 0, 0), 0), (65, (.ishr, 0, 0, 0), 0), (66, (.goto 5, 71, 0, 0), 0), (69, (.iload 4, 0, 0, 0), 0), (71, (.iastore, 0, 0, 0), 0), (72, (.iconst 1, 0, 0, 0), 0), (73, (.ireturn, 0, 0, 0), 0)]
def m_X7_item : ex_M := (RX7, yX7_item, cX7_item, 6, some .int, 5, [], ex_cd q_X7_item)
def q_X7_hour : List (Nat × ex_I × Nat) := [(0, (.iload_n 1, 0, 0, 0), 0), (1, (.iload_n 2, 0, 0, 0), 0), (2, (.invokestatic 239, 163, 0, 0), 1007), (5, (.ifCond .eq 16, 21, 0, 0), 0), (8, (.iload 4, 0, 0, 0), 0), (10, (.i2l, 0, 0, 0), 0), (11, (.lconst 1, 0, 0, 0), 0), (12, (.ldc2_w 88, 0, 0, 3), 799), (15, (.invokestatic 84, 114, 0, 0), 800), (18, (.ifCond .ne 5, 23, 0, 0), 0), (21, (.iconst (-1), 0, 0, 0), 0), (22, (.ireturn, 0, 0, 0), 0), (23, (.aload_n 0, 0, 0, 0), 0), (24, (.iload_n 1, 0, 0, 0), 0), (25, (.iload_n 2, 0, 0, 0), 0), (26, (.iload_n 3, 0, 0, 0), 0), (27, (.iconst 3, 0, 0, 0), 0), (28, (.iload 4, 0, 0, 0), 0), (30, (.imul, 0, 0, 0), 0), (31, (.invokevirtual 242, 166, 0, 7), 1019), (34, (.istore 5, 0, 0, 0), 0), (36, (.iload 5, 0, 0, 0), 0), (38, (.ifCond .ge 6, 44, 0, 0), 0), (41, (.iload 5, 0, 0, 0), 0), (43, (.ireturn, 0, 0, 0), 0), (44, (.bipush 24, 0, 0, 0), 0), (46, (.iload_n 1, 0, 0, 0), 0), (47, (.imul, 0, 0, 0), 0), (48, (.iload_n 3, 0, 0, 0), 0), (49, (.iadd, 0, 0, 0), 0), (50, (.istore 6, 0, 0, 0), 0), (52, (.iconst 0, 0, 0, 0), 0), (53, (.istore 7, 0, 0, 0), 0), (55, (.iconst 0, 0, 0, 0), 0), (56, (.istore 8, 0, 0, 0), 0), (58, (.iload 8, 0, 0, 0), 0), (60, (.iload 4, 0, 0, 0), 0), (62, (.if_icmp .ge 124, 186, 0, 0), 0), (65, (.aload_n 0, 0, 0, 0), 0), (66, (.getfield 75, 7, 32, 0), 724), (69, (.iload 6, 0, 0, 0), 0), (71, (.iconst 3, 0, 0, 0), 0), (72, (.iload 8, 0, 0, 0), 0), (74, (.imul, 0, 0, 0), 0), (75, (.iadd, 0, 0, 0), 0), (76, (.iaload, 0, 0, 0), 0), (77, (.istore 9, 0, 0, 0), 0), (79, (.aload_n 0, 0, 0, 0), 0), (80, (.getfield 75, 7, 32, 0), 724), (83, (.iload 6, 0, 0, 0), 0), (85, (.iconst 3, 0, 0, 0), 0), (86, (.iload 8, 0, 0, 0), 0), (88, (.imul, 0, 0, 0), 0), (89, (.iadd, 0, 0, 0), 0), (90, (.iconst 1, 0, 0, 0), 0), (91, (.iadd, 0, 0, 0), 0), (92, (.iaload, 0, 0, 0), 0), (93, (.istore 10, 0, 0, 0), 0), (95, (.aload_n 0, 0, 0, 0), 0), (96, (.getfield 75, 7, 32, 0), 724), (99, (.iload 6, 0, 0, 0), 0), (101, (.iconst 3, 0, 0, 0), 0), (102, (.iload 8, 0, 0, 0), 0), (104, (.imul, 0, 0, 0), 0), (105, (.iadd, 0, 0, 0), 0), (106, (.iconst 2, 0, 0, 0), 0), (107, (.iadd, 0, 0, 0), 0), (108, (.iaload, 0, 0, 0), 0), (109, (.istore 11, 0, 0, 0), 0), (111, (.aload_n 0, 0, 0, 0), 0), (112, (.iload 9, 0, 0, 0), 0), (114, (.iload 10, 0, 0, 0), 0), (116, (.invokevirtual 111, 118, 0, 7), 832), (119, (.ifCond .eq 44, 163, 0, 0), 0), (122, (.iload 11, 0, 0, 0), 0), (124, (.invokestatic 98, 117, 0, 0), 815), (127, (.ifCond .eq 36, 163, 0, 0), 0), (130, (.iload 7, 0, 0, 0), 0), (132, (.iload 9, 0, 0, 0), 0), (134, (.invokestatic 107, 115, 0, 0), 825), (137, (.ifCond .ne 26, 163, 0, 0), 0), (140, (.iload 7, 0, 0, 0), 0), (142, (.iload 10, 0, 0, 0), 0), (144, (.invokestatic 107, 115, 0, 0), 825), (147, (.ifCond .ne 16, 163, 0, 0), 0), (150, (.aload_n 0, 0, 0, 0), 0), (151, (.iload 9, 0, 0, 0), 0), (153, (.iload 10, 0, 0, 0), 0), (155, (.iload 11, 0, 0, 0), 0), (157, (.invokevirtual 169, 137, 0, 7), 898), (160, (.ifCond .ne 6, 166, 0, 0), 0), (163, (.bipush (-2), 0, 0, 0), 0), (165, (.ireturn, 0, 0, 0), 0), (166, (.iload 7, 0, 0, 0), 0), (168, (.iconst 1, 0, 0, 0), 0), (169, (.iload 9, 0, 0, 0), 0), (171, (.ishl, 0, 0, 0), 0), (172, (.iconst 1, 0, 0, 0), 0), (173, (.iload 10, 0, 0, 0), 0), (175, (.ishl, 0, 0, 0), 0), (176, (.ior, 0, 0, 0), 0), (177, (.ior, 0, 0, 0), 0), (178, (.istore 7, 0, 0, 0), 0), (180, (.iinc 8 1, 0, 0, 0), 0), (183, (.goto (-125), 58, 0, 0), 0), (186, (.iconst 0, 0, 0, 0), 0), (187, (.istore 8, 0, 0, 0), 0), (189, (.iload 8, 0, 0, 0), 0), (191, (.iload 4, 0, 0, 0), 0), (193, (.if_icmp .ge 53, 246, 0, 0), 0), (196, (.aload_n 0, 0, 0, 0), 0), (197, (.aload_n 0, 0, 0, 0), 0), (198, (.getfield 75, 7, 32, 0), 724), (201, (.iload 6, 0, 0, 0), 0), (203, (.iconst 3, 0, 0, 0), 0), (204, (.iload 8, 0, 0, 0), 0), (206, (.imul, 0, 0, 0), 0), (207, (.iadd, 0, 0, 0), 0), (208, (.iaload, 0, 0, 0), 0), (209, (.aload_n 0, 0, 0, 0), 0), (210, (.getfield 75, 7, 32, 0), 724), (213, (.iload 6, 0, 0, 0), 0), (215, (.iconst 3, 0, 0, 0), 0), (216, (.iload 8, 0, 0, 0), 0), (218, (.imul, 0, 0, 0), 0), (219, (.iadd, 0, 0, 0), 0), (220, (.iconst 1, 0, 0, 0), 0), (221, (.iadd, 0, 0, 0), 0), (222, (.iaload, 0, 0, 0), 0), (223, (.aload_n 0, 0, 0, 0), 0), (224, (.getfield 75, 7, 32, 0), 724), (227, (.iload 6, 0, 0, 0), 0), (229, (.iconst 3, 0, 0, 0), 0), (230, (.iload 8, 0, 0, 0), 0), (232, (.imul, 0, 0, 0), 0), (233, (.iadd, 0, 0, 0), 0), (234, (.iconst 2, 0, 0, 0), 0), (235, (.iadd, 0, 0, 0), 0), (236, (.iaload, 0, 0, 0), 0), (237, (.invokevirtual 173, 138, 0, 7), 906), (240, (.iinc 8 1, 0, 0, 0), 0), (243, (.goto (-54), 189, 0, 0), 0), (246, (.iload 4, 0, 0, 0), 0), (248, (.ireturn, 0, 0, 0), 0)]
def m_X7_hour : ex_M := (RX7, yX7_hour, cX7_hour, 12, some .int, 5, [], ex_cd q_X7_hour)
def q_X7_film : List (Nat × ex_I × Nat) := [(0, (.iload_n 1, 0, 0, 0), 0), (1, (.invokestatic 98, 117, 0, 0), 815), (4, (.ifCond .eq 11, 15, 0, 0), 0), (7, (.iload_n 2, 0, 0, 0), 0), (8, (.iload_n 3, 0, 0, 0), 0), (9, (.invokestatic 239, 163, 0, 0), 1007), (12, (.ifCond .ne 5, 17, 0, 0), 0), (15, (.iconst (-1), 0, 0, 0), 0), (16, (.ireturn, 0, 0, 0), 0), (17, (.aload_n 0, 0, 0, 0), 0), (18, (.iload_n 2, 0, 0, 0), 0), (19, (.iload_n 3, 0, 0, 0), 0), (20, (.iload 4, 0, 0, 0), 0), (22, (.aload_n 0, 0, 0, 0), 0), (23, (.getfield 81, 7, 4, 0), 696), (26, (.invokevirtual 242, 166, 0, 7), 1019), (29, (.istore 5, 0, 0, 0), 0), (31, (.iload 5, 0, 0, 0), 0), (33, (.ifCond .ge 6, 39, 0, 0), 0), (36, (.iload 5, 0, 0, 0), 0), (38, (.ireturn, 0, 0, 0), 0), (39, (.iconst 0, 0, 0, 0), 0), (40, (.istore 6, 0, 0, 0), 0), (42, (.iload 6, 0, 0, 0), 0), (44, (.aload_n 0, 0, 0, 0), 0), (45, (.getfield 81, 7, 4, 0), 696), (48, (.if_icmp .ge 35, 83, 0, 0), 0), (51, (.aload_n 0, 0, 0, 0), 0), (52, (.getfield 75, 7, 32, 0), 724), (55, (.bipush 24, 0, 0, 0), 0), (57, (.iload_n 2, 0, 0, 0), 0), (58, (.imul, 0, 0, 0), 0), (59, (.iload 4, 0, 0, 0), 0), (61, (.iadd, 0, 0, 0), 0), (62, (.iload 6, 0, 0, 0), 0), (64, (.iadd, 0, 0, 0), 0), (65, (.aload_n 0, 0, 0, 0), 0), (66, (.getfield 16, 7, 2, 0), 694), (69, (.iconst 4, 0, 0, 0), 0), (70, (.iload 6, 0, 0, 0), 0), (72, (.imul, 0, 0, 0), 0), (73, (.iload_n 1, 0, 0, 0), 0), (74, (.iadd, 0, 0, 0), 0), (75, (.iaload, 0, 0, 0), 0), (76, (.iastore, 0, 0, 0), 0), (77, (.iinc 6 1, 0, 0, 0), 0), (80, (.goto (-38), 42, 0, 0), 0), (83, (.aload_n 0, 0, 0, 0), 0), (84, (.getfield 81, 7, 4, 0), 696), (87, (.ireturn, 0, 0, 0), 0)]
def m_X7_film : ex_M := (RX7, yX7_film, cX7_film, 7, some .int, 5, [], ex_cd q_X7_film)
def q_X7_copy : List (Nat × ex_I × Nat) := [(0, (.iload_n 1, 0, 0, 0), 0), (1, (.i2l, 0, 0, 0), 0), (2, (.lconst 0, 0, 0, 0), 0), (3, (.ldc2_w 88, 0, 0, 3), 799), (6, (.invokestatic 84, 114, 0, 0), 800), (9, (.ifCond .eq 15, 24, 0, 0), 0), (12, (.iload_n 3, 0, 0, 0), 0), (13, (.i2l, 0, 0, 0), 0), (14, (.lconst 0, 0, 0, 0), 0), (15, (.ldc2_w 88, 0, 0, 3), 799), (18, (.invokestatic 84, 114, 0, 0), 800), (21, (.ifCond .ne 5, 26, 0, 0), 0), (24, (.iconst (-1), 0, 0, 0), 0), (25, (.ireturn, 0, 0, 0), 0), (26, (.aload_n 0, 0, 0, 0), 0), (27, (.getfield 69, 7, 30, 0), 722), (30, (.iload_n 1, 0, 0, 0), 0), (31, (.iaload, 0, 0, 0), 0), (32, (.ifCond .lt 12, 44, 0, 0), 0), (35, (.aload_n 0, 0, 0, 0), 0), (36, (.getfield 69, 7, 30, 0), 722), (39, (.iload_n 3, 0, 0, 0), 0), (40, (.iaload, 0, 0, 0), 0), (41, (.ifCond .ge 6, 47, 0, 0), 0), (44, (.bipush (-11), 0, 0, 0), 0), (46, (.ireturn, 0, 0, 0), 0), (47, (.aload_n 0, 0, 0, 0), 0), (48, (.getfield 69, 7, 30, 0), 722), (51, (.iload_n 1, 0, 0, 0), 0), (52, (.iaload, 0, 0, 0), 0), (53, (.aload_n 0, 0, 0, 0), 0), (54, (.getfield 69, 7, 30, 0), 722), (57, (.iload_n 3, 0, 0, 0), 0), (58, (.iaload, 0, 0, 0), 0), (59, (.if_icmp .eq 6, 65, 0, 0), 0), (62, (.bipush (-12), 0, 0, 0), 0), (64, (.ireturn, 0, 0, 0), 0), (65, (.iload 5, 0, 0, 0), 0), (67, (.ifCond .lt 44, 111, 0, 0), 0), (70, (.iload_n 2, 0, 0, 0), 0), (71, (.i2l, 0, 0, 0), 0), (72, (.lconst 0, 0, 0, 0), 0), (73, (.aload_n 0, 0, 0, 0), 0), (74, (.getfield 72, 7, 31, 0), 723), (77, (.iload_n 1, 0, 0, 0), 0), (78, (.iaload, 0, 0, 0), 0), (79, (.i2l, 0, 0, 0), 0), (80, (.iload 5, 0, 0, 0), 0), (82, (.i2l, 0, 0, 0), 0), (83, (.lsub, 0, 0, 0), 0), (84, (.invokestatic 84, 114, 0, 0), 800), (87, (.ifCond .eq 24, 111, 0, 0), 0), (90, (.iload 4, 0, 0, 0), 0), (92, (.i2l, 0, 0, 0), 0), (93, (.lconst 0, 0, 0, 0), 0), (94, (.aload_n 0, 0, 0, 0), 0), (95, (.getfield 72, 7, 31, 0), 723), (98, (.iload_n 3, 0, 0, 0), 0), (99, (.iaload, 0, 0, 0), 0), (100, (.i2l, 0, 0, 0), 0), (101, (.iload 5, 0, 0, 0), 0), (103, (.i2l, 0, 0, 0), 0), (104, (.lsub, 0, 0, 0), 0), (105, (.invokestatic 84, 114, 0, 0), 800), (108, (.ifCond .ne 6, 114, 0, 0), 0), (111, (.bipush (-13), 0, 0, 0), 0), (113, (.ireturn, 0, 0, 0), 0), (114, (.iconst 0, 0, 0, 0), 0), (115, (.istore 6, 0, 0, 0), 0), (117, (.iload 6, 0, 0, 0), 0), (119, (.iload 5, 0, 0, 0), 0), (121, (.if_icmp .ge 30, 151, 0, 0), 0), (124, (.aload_n 0, 0, 0, 0), 0), (125, (.getfield 78, 7, 33, 0), 725), (128, (.iload 6, 0, 0, 0), 0), (130, (.aload_n 0, 0, 0, 0), 0), (131, (.getfield 75, 7, 32, 0), 724), (134, (.bipush 24, 0, 0, 0), 0), (136, (.iload_n 1, 0, 0, 0), 0), (137, (.imul, 0, 0, 0), 0), (138, (.iload_n 2, 0, 0, 0), 0), (139, (.iadd, 0, 0, 0), 0), (140, (.iload 6, 0, 0, 0), 0), (142, (.iadd, 0, 0, 0), 0), (143, (.iaload, 0, 0, 0), 0), (144, (.iastore, 0, 0, 0), 0), (145, (.iinc 6 1, 0, 0, 0), 0), (148, (.goto (-31), 117, 0, 0), 0), (151, (.iconst 0, 0, 0, 0), 0), (152, (.istore 6, 0, 0, 0), 0), (154, (.iload 6, 0, 0, 0), 0), (156, (.iload 5, 0, 0, 0), 0), (158, (.if_icmp .ge 31, 189, 0, 0), 0), (161, (.aload_n 0, 0, 0, 0), 0), (162, (.getfield 75, 7, 32, 0), 724), (165, (.bipush 24, 0, 0, 0), 0), (167, (.iload_n 3, 0, 0, 0), 0), (168, (.imul, 0, 0, 0), 0), (169, (.iload 4, 0, 0, 0), 0), (171, (.iadd, 0, 0, 0), 0), (172, (.iload 6, 0, 0, 0), 0), (174, (.iadd, 0, 0, 0), 0), (175, (.aload_n 0, 0, 0, 0), 0), (176, (.getfield 78, 7, 33, 0), 725), (179, (.iload 6, 0, 0, 0), 0), (181, (.iaload, 0, 0, 0), 0), (182, (.iastore, 0, 0, 0), 0), (183, (.iinc 6 1, 0, 0, 0), 0), (186, (.goto (-32), 154, 0, 0), 0), (189, (.iload 5, 0, 0, 0), 0), (191, (.ireturn, 0, 0, 0), 0)]
def m_X7_copy : ex_M := (RX7, yX7_copy, cX7_copy, 7, some .int, 6, [], ex_cd q_X7_copy)
def q_L_law_0 : List (Nat × ex_I × Nat) := [(0, (.new 7, 6, 0, 0), 12), (3, (.dup, 0, 0, 0), 0), (4, (.invokespecial 9, 15, 0, 0), 14), (7, (.astore_n 1, 0, 0, 0), 0), (8, (.new 10, 7, 0, 0), 686), (11, (.dup, 0, 0, 0), 0), (12, (.invokespecial 12, 113, 0, 0), 688), (15, (.astore_n 2, 0, 0, 0), 0), (16, (.iconst 0, 0, 0, 0), 0), (17, (.istore_n 3, 0, 0, 0), 0), (18, (.iload_n 3, 0, 0, 0), 0), (19, (.aload_n 0, 0, 0, 0), 0), (20, (.arraylength, 0, 0, 0), 0), (21, (.bipush 6, 0, 0, 0), 0), (23, (.isub, 0, 0, 0), 0), (24, (.if_icmp .gt 1099, 1123, 0, 0), 0), (27, (.aload_n 0, 0, 0, 0), 0), (28, (.iload_n 3, 0, 0, 0), 0), (29, (.iaload, 0, 0, 0), 0), (30, (.bipush 31, 0, 0, 0), 0), (32, (.iand, 0, 0, 0), 0), (33, (.tableswitch 1084 0 28 #[131, 154, 197, 230, 289, 322, 355, 418, 431, 444, 467, 510, 553, 566, 589, 612, 625, 658, 691, 724, 747, 770, 783, 796, 849, 902, 945, 968, 1021], 0, 0, 0), 0), (164, (.aload_n 1, 0, 0, 0), 0), (165, (.aload_n 0, 0, 0, 0), 0), (166, (.iload_n 3, 0, 0, 0), 0), (167, (.iconst 1, 0, 0, 0), 0), (168, (.iadd, 0, 0, 0), 0), (169, (.iaload, 0, 0, 0), 0), (170, (.invokevirtual 13, 16, 0, 6), 235), (173, (.aload_n 2, 0, 0, 0), 0), (174, (.aload_n 0, 0, 0, 0), 0), (175, (.iload_n 3, 0, 0, 0), 0), (176, (.iconst 1, 0, 0, 0), 0), (177, (.iadd, 0, 0, 0), 0), (178, (.iaload, 0, 0, 0), 0), (179, (.invokevirtual 17, 120, 0, 7), 795), (182, (.if_icmp .eq 935, 1117, 0, 0), 0), (185, (.iconst 0, 0, 0, 0), 0), (186, (.ireturn, 0, 0, 0), 0), (187, (.aload_n 1, 0, 0, 0), 0)]
def q_L_law_1 : List (Nat × ex_I × Nat) := [(188, (.aload_n 0, 0, 0, 0), 0), (189, (.iload_n 3, 0, 0, 0), 0), (190, (.iconst 1, 0, 0, 0), 0), (191, (.iadd, 0, 0, 0), 0), (192, (.iaload, 0, 0, 0), 0), (193, (.aload_n 0, 0, 0, 0), 0), (194, (.iload_n 3, 0, 0, 0), 0), (195, (.iconst 2, 0, 0, 0), 0), (196, (.iadd, 0, 0, 0), 0), (197, (.iaload, 0, 0, 0), 0), (198, (.aload_n 0, 0, 0, 0), 0), (199, (.iload_n 3, 0, 0, 0), 0), (200, (.iconst 3, 0, 0, 0), 0), (201, (.iadd, 0, 0, 0), 0), (202, (.iaload, 0, 0, 0), 0), (203, (.invokevirtual 18, 17, 0, 6), 254), (206, (.aload_n 2, 0, 0, 0), 0), (207, (.aload_n 0, 0, 0, 0), 0), (208, (.iload_n 3, 0, 0, 0), 0), (209, (.iconst 1, 0, 0, 0), 0), (210, (.iadd, 0, 0, 0), 0), (211, (.iaload, 0, 0, 0), 0), (212, (.aload_n 0, 0, 0, 0), 0), (213, (.iload_n 3, 0, 0, 0), 0), (214, (.iconst 2, 0, 0, 0), 0), (215, (.iadd, 0, 0, 0), 0), (216, (.iaload, 0, 0, 0), 0), (217, (.aload_n 0, 0, 0, 0), 0), (218, (.iload_n 3, 0, 0, 0), 0), (219, (.iconst 3, 0, 0, 0), 0), (220, (.iadd, 0, 0, 0), 0), (221, (.iaload, 0, 0, 0), 0), (222, (.invokevirtual 22, 121, 0, 7), 807), (225, (.if_icmp .eq 892, 1117, 0, 0), 0), (228, (.iconst 0, 0, 0, 0), 0), (229, (.ireturn, 0, 0, 0), 0), (230, (.aload_n 1, 0, 0, 0), 0), (231, (.aload_n 0, 0, 0, 0), 0), (232, (.iload_n 3, 0, 0, 0), 0), (233, (.iconst 1, 0, 0, 0), 0)]
def q_L_law_2 : List (Nat × ex_I × Nat) := [(234, (.iadd, 0, 0, 0), 0), (235, (.iaload, 0, 0, 0), 0), (236, (.aload_n 0, 0, 0, 0), 0), (237, (.iload_n 3, 0, 0, 0), 0), (238, (.iconst 2, 0, 0, 0), 0), (239, (.iadd, 0, 0, 0), 0), (240, (.iaload, 0, 0, 0), 0), (241, (.invokevirtual 23, 18, 0, 6), 270), (244, (.aload_n 2, 0, 0, 0), 0), (245, (.aload_n 0, 0, 0, 0), 0), (246, (.iload_n 3, 0, 0, 0), 0), (247, (.iconst 1, 0, 0, 0), 0), (248, (.iadd, 0, 0, 0), 0), (249, (.iaload, 0, 0, 0), 0), (250, (.aload_n 0, 0, 0, 0), 0), (251, (.iload_n 3, 0, 0, 0), 0), (252, (.iconst 2, 0, 0, 0), 0), (253, (.iadd, 0, 0, 0), 0), (254, (.iaload, 0, 0, 0), 0), (255, (.invokevirtual 27, 122, 0, 7), 820), (258, (.if_icmp .eq 859, 1117, 0, 0), 0), (261, (.iconst 0, 0, 0, 0), 0), (262, (.ireturn, 0, 0, 0), 0), (263, (.aload_n 1, 0, 0, 0), 0), (264, (.aload_n 0, 0, 0, 0), 0), (265, (.iload_n 3, 0, 0, 0), 0), (266, (.iconst 1, 0, 0, 0), 0), (267, (.iadd, 0, 0, 0), 0), (268, (.iaload, 0, 0, 0), 0), (269, (.aload_n 0, 0, 0, 0), 0), (270, (.iload_n 3, 0, 0, 0), 0), (271, (.iconst 2, 0, 0, 0), 0), (272, (.iadd, 0, 0, 0), 0), (273, (.iaload, 0, 0, 0), 0), (274, (.aload_n 0, 0, 0, 0), 0), (275, (.iload_n 3, 0, 0, 0), 0), (276, (.iconst 3, 0, 0, 0), 0), (277, (.iadd, 0, 0, 0), 0), (278, (.iaload, 0, 0, 0), 0), (279, (.ifCond .eq 7, 286, 0, 0), 0)]
def q_L_law_3 : List (Nat × ex_I × Nat) := [(282, (.iconst 1, 0, 0, 0), 0), (283, (.goto 4, 287, 0, 0), 0), (286, (.iconst 0, 0, 0, 0), 0), (287, (.invokevirtual 28, 19, 0, 6), 278), (290, (.aload_n 2, 0, 0, 0), 0), (291, (.aload_n 0, 0, 0, 0), 0), (292, (.iload_n 3, 0, 0, 0), 0), (293, (.iconst 1, 0, 0, 0), 0), (294, (.iadd, 0, 0, 0), 0), (295, (.iaload, 0, 0, 0), 0), (296, (.aload_n 0, 0, 0, 0), 0), (297, (.iload_n 3, 0, 0, 0), 0), (298, (.iconst 2, 0, 0, 0), 0), (299, (.iadd, 0, 0, 0), 0), (300, (.iaload, 0, 0, 0), 0), (301, (.aload_n 0, 0, 0, 0), 0), (302, (.iload_n 3, 0, 0, 0), 0), (303, (.iconst 3, 0, 0, 0), 0), (304, (.iadd, 0, 0, 0), 0), (305, (.iaload, 0, 0, 0), 0), (306, (.ifCond .eq 7, 313, 0, 0), 0), (309, (.iconst 1, 0, 0, 0), 0), (310, (.goto 4, 314, 0, 0), 0), (313, (.iconst 0, 0, 0, 0), 0), (314, (.invokevirtual 32, 123, 0, 7), 828), (317, (.if_icmp .eq 800, 1117, 0, 0), 0), (320, (.iconst 0, 0, 0, 0), 0), (321, (.ireturn, 0, 0, 0), 0), (322, (.aload_n 1, 0, 0, 0), 0), (323, (.aload_n 0, 0, 0, 0), 0), (324, (.iload_n 3, 0, 0, 0), 0), (325, (.iconst 1, 0, 0, 0), 0), (326, (.iadd, 0, 0, 0), 0), (327, (.iaload, 0, 0, 0), 0), (328, (.aload_n 0, 0, 0, 0), 0), (329, (.iload_n 3, 0, 0, 0), 0), (330, (.iconst 2, 0, 0, 0), 0), (331, (.iadd, 0, 0, 0), 0), (332, (.iaload, 0, 0, 0), 0), (333, (.invokevirtual 33, 20, 0, 6), 282)]
def q_L_law_4 : List (Nat × ex_I × Nat) := [(336, (.aload_n 2, 0, 0, 0), 0), (337, (.aload_n 0, 0, 0, 0), 0), (338, (.iload_n 3, 0, 0, 0), 0), (339, (.iconst 1, 0, 0, 0), 0), (340, (.iadd, 0, 0, 0), 0), (341, (.iaload, 0, 0, 0), 0), (342, (.aload_n 0, 0, 0, 0), 0), (343, (.iload_n 3, 0, 0, 0), 0), (344, (.iconst 2, 0, 0, 0), 0), (345, (.iadd, 0, 0, 0), 0), (346, (.iaload, 0, 0, 0), 0), (347, (.invokevirtual 36, 125, 0, 7), 836), (350, (.if_icmp .eq 767, 1117, 0, 0), 0), (353, (.iconst 0, 0, 0, 0), 0), (354, (.ireturn, 0, 0, 0), 0), (355, (.aload_n 1, 0, 0, 0), 0), (356, (.aload_n 0, 0, 0, 0), 0), (357, (.iload_n 3, 0, 0, 0), 0), (358, (.iconst 1, 0, 0, 0), 0), (359, (.iadd, 0, 0, 0), 0), (360, (.iaload, 0, 0, 0), 0), (361, (.aload_n 0, 0, 0, 0), 0), (362, (.iload_n 3, 0, 0, 0), 0), (363, (.iconst 2, 0, 0, 0), 0), (364, (.iadd, 0, 0, 0), 0), (365, (.iaload, 0, 0, 0), 0), (366, (.invokevirtual 37, 21, 0, 6), 286), (369, (.aload_n 2, 0, 0, 0), 0), (370, (.aload_n 0, 0, 0, 0), 0), (371, (.iload_n 3, 0, 0, 0), 0), (372, (.iconst 1, 0, 0, 0), 0), (373, (.iadd, 0, 0, 0), 0), (374, (.iaload, 0, 0, 0), 0), (375, (.aload_n 0, 0, 0, 0), 0), (376, (.iload_n 3, 0, 0, 0), 0), (377, (.iconst 2, 0, 0, 0), 0), (378, (.iadd, 0, 0, 0), 0), (379, (.iaload, 0, 0, 0), 0), (380, (.invokevirtual 40, 127, 0, 7), 845), (383, (.if_icmp .eq 734, 1117, 0, 0), 0)]
def q_L_law_5 : List (Nat × ex_I × Nat) := [(386, (.iconst 0, 0, 0, 0), 0), (387, (.ireturn, 0, 0, 0), 0), (388, (.aload_n 1, 0, 0, 0), 0), (389, (.aload_n 0, 0, 0, 0), 0), (390, (.iload_n 3, 0, 0, 0), 0), (391, (.iconst 1, 0, 0, 0), 0), (392, (.iadd, 0, 0, 0), 0), (393, (.iaload, 0, 0, 0), 0), (394, (.i2l, 0, 0, 0), 0), (395, (.bipush 32, 0, 0, 0), 0), (397, (.lshl, 0, 0, 0), 0), (398, (.aload_n 0, 0, 0, 0), 0), (399, (.iload_n 3, 0, 0, 0), 0), (400, (.iconst 2, 0, 0, 0), 0), (401, (.iadd, 0, 0, 0), 0), (402, (.iaload, 0, 0, 0), 0), (403, (.i2l, 0, 0, 0), 0), (404, (.ldc2_w 41, 0, 0, 4294967295), 1035), (407, (.land, 0, 0, 0), 0), (408, (.lor, 0, 0, 0), 0), (409, (.aload_n 0, 0, 0, 0), 0), (410, (.iload_n 3, 0, 0, 0), 0), (411, (.iconst 3, 0, 0, 0), 0), (412, (.iadd, 0, 0, 0), 0), (413, (.iaload, 0, 0, 0), 0), (414, (.invokevirtual 43, 22, 0, 6), 293), (417, (.aload_n 2, 0, 0, 0), 0), (418, (.aload_n 0, 0, 0, 0), 0), (419, (.iload_n 3, 0, 0, 0), 0), (420, (.iconst 1, 0, 0, 0), 0), (421, (.iadd, 0, 0, 0), 0), (422, (.iaload, 0, 0, 0), 0), (423, (.i2l, 0, 0, 0), 0), (424, (.bipush 32, 0, 0, 0), 0), (426, (.lshl, 0, 0, 0), 0), (427, (.aload_n 0, 0, 0, 0), 0), (428, (.iload_n 3, 0, 0, 0), 0), (429, (.iconst 2, 0, 0, 0), 0), (430, (.iadd, 0, 0, 0), 0), (431, (.iaload, 0, 0, 0), 0)]
def q_L_law_6 : List (Nat × ex_I × Nat) := [(432, (.i2l, 0, 0, 0), 0), (433, (.ldc2_w 41, 0, 0, 4294967295), 1035), (436, (.land, 0, 0, 0), 0), (437, (.lor, 0, 0, 0), 0), (438, (.aload_n 0, 0, 0, 0), 0), (439, (.iload_n 3, 0, 0, 0), 0), (440, (.iconst 3, 0, 0, 0), 0), (441, (.iadd, 0, 0, 0), 0), (442, (.iaload, 0, 0, 0), 0), (443, (.invokevirtual 47, 129, 0, 7), 856), (446, (.if_icmp .eq 671, 1117, 0, 0), 0), (449, (.iconst 0, 0, 0, 0), 0), (450, (.ireturn, 0, 0, 0), 0), (451, (.aload_n 1, 0, 0, 0), 0), (452, (.invokevirtual 48, 23, 0, 6), 305), (455, (.aload_n 2, 0, 0, 0), 0), (456, (.invokevirtual 52, 133, 0, 7), 864), (459, (.if_icmp .eq 658, 1117, 0, 0), 0), (462, (.iconst 0, 0, 0, 0), 0), (463, (.ireturn, 0, 0, 0), 0), (464, (.aload_n 1, 0, 0, 0), 0), (465, (.invokevirtual 53, 24, 0, 6), 359), (468, (.aload_n 2, 0, 0, 0), 0), (469, (.invokevirtual 56, 136, 0, 7), 882), (472, (.if_icmp .eq 645, 1117, 0, 0), 0), (475, (.iconst 0, 0, 0, 0), 0), (476, (.ireturn, 0, 0, 0), 0), (477, (.aload_n 1, 0, 0, 0), 0), (478, (.aload_n 0, 0, 0, 0), 0), (479, (.iload_n 3, 0, 0, 0), 0), (480, (.iconst 1, 0, 0, 0), 0), (481, (.iadd, 0, 0, 0), 0), (482, (.iaload, 0, 0, 0), 0), (483, (.invokevirtual 57, 25, 0, 6), 389), (486, (.aload_n 2, 0, 0, 0), 0), (487, (.aload_n 0, 0, 0, 0), 0), (488, (.iload_n 3, 0, 0, 0), 0), (489, (.iconst 1, 0, 0, 0), 0), (490, (.iadd, 0, 0, 0), 0), (491, (.iaload, 0, 0, 0), 0)]
def q_L_law_7 : List (Nat × ex_I × Nat) := [(492, (.invokevirtual 60, 128, 0, 7), 852), (495, (.if_icmp .eq 622, 1117, 0, 0), 0), (498, (.iconst 0, 0, 0, 0), 0), (499, (.ireturn, 0, 0, 0), 0), (500, (.aload_n 1, 0, 0, 0), 0), (501, (.aload_n 0, 0, 0, 0), 0), (502, (.iload_n 3, 0, 0, 0), 0), (503, (.iconst 1, 0, 0, 0), 0), (504, (.iadd, 0, 0, 0), 0), (505, (.iaload, 0, 0, 0), 0), (506, (.aload_n 0, 0, 0, 0), 0), (507, (.iload_n 3, 0, 0, 0), 0), (508, (.iconst 2, 0, 0, 0), 0), (509, (.iadd, 0, 0, 0), 0), (510, (.iaload, 0, 0, 0), 0), (511, (.aload_n 0, 0, 0, 0), 0), (512, (.iload_n 3, 0, 0, 0), 0), (513, (.iconst 3, 0, 0, 0), 0), (514, (.iadd, 0, 0, 0), 0), (515, (.iaload, 0, 0, 0), 0), (516, (.invokevirtual 61, 26, 0, 6), 407), (519, (.aload_n 2, 0, 0, 0), 0), (520, (.aload_n 0, 0, 0, 0), 0), (521, (.iload_n 3, 0, 0, 0), 0), (522, (.iconst 1, 0, 0, 0), 0), (523, (.iadd, 0, 0, 0), 0), (524, (.iaload, 0, 0, 0), 0), (525, (.aload_n 0, 0, 0, 0), 0), (526, (.iload_n 3, 0, 0, 0), 0), (527, (.iconst 2, 0, 0, 0), 0), (528, (.iadd, 0, 0, 0), 0), (529, (.iaload, 0, 0, 0), 0), (530, (.aload_n 0, 0, 0, 0), 0), (531, (.iload_n 3, 0, 0, 0), 0), (532, (.iconst 3, 0, 0, 0), 0), (533, (.iadd, 0, 0, 0), 0), (534, (.iaload, 0, 0, 0), 0), (535, (.invokevirtual 64, 139, 0, 7), 894), (538, (.if_icmp .eq 579, 1117, 0, 0), 0), (541, (.iconst 0, 0, 0, 0), 0)]
def q_L_law_8 : List (Nat × ex_I × Nat) := [(542, (.ireturn, 0, 0, 0), 0), (543, (.aload_n 1, 0, 0, 0), 0), (544, (.aload_n 0, 0, 0, 0), 0), (545, (.iload_n 3, 0, 0, 0), 0), (546, (.iconst 1, 0, 0, 0), 0), (547, (.iadd, 0, 0, 0), 0), (548, (.iaload, 0, 0, 0), 0), (549, (.aload_n 0, 0, 0, 0), 0), (550, (.iload_n 3, 0, 0, 0), 0), (551, (.iconst 2, 0, 0, 0), 0), (552, (.iadd, 0, 0, 0), 0), (553, (.iaload, 0, 0, 0), 0), (554, (.aload_n 0, 0, 0, 0), 0), (555, (.iload_n 3, 0, 0, 0), 0), (556, (.iconst 3, 0, 0, 0), 0), (557, (.iadd, 0, 0, 0), 0), (558, (.iaload, 0, 0, 0), 0), (559, (.invokevirtual 65, 27, 0, 6), 431), (562, (.aload_n 2, 0, 0, 0), 0), (563, (.aload_n 0, 0, 0, 0), 0), (564, (.iload_n 3, 0, 0, 0), 0), (565, (.iconst 1, 0, 0, 0), 0), (566, (.iadd, 0, 0, 0), 0), (567, (.iaload, 0, 0, 0), 0), (568, (.aload_n 0, 0, 0, 0), 0), (569, (.iload_n 3, 0, 0, 0), 0), (570, (.iconst 2, 0, 0, 0), 0), (571, (.iadd, 0, 0, 0), 0), (572, (.iaload, 0, 0, 0), 0), (573, (.aload_n 0, 0, 0, 0), 0), (574, (.iload_n 3, 0, 0, 0), 0), (575, (.iconst 3, 0, 0, 0), 0), (576, (.iadd, 0, 0, 0), 0), (577, (.iaload, 0, 0, 0), 0), (578, (.invokevirtual 68, 140, 0, 7), 902), (581, (.if_icmp .eq 536, 1117, 0, 0), 0), (584, (.iconst 0, 0, 0, 0), 0), (585, (.ireturn, 0, 0, 0), 0), (586, (.aload_n 1, 0, 0, 0), 0), (587, (.invokevirtual 69, 28, 0, 6), 442)]
def q_L_law_9 : List (Nat × ex_I × Nat) := [(590, (.aload_n 2, 0, 0, 0), 0), (591, (.invokevirtual 72, 141, 0, 7), 911), (594, (.if_icmp .eq 523, 1117, 0, 0), 0), (597, (.iconst 0, 0, 0, 0), 0), (598, (.ireturn, 0, 0, 0), 0), (599, (.aload_n 1, 0, 0, 0), 0), (600, (.aload_n 0, 0, 0, 0), 0), (601, (.iload_n 3, 0, 0, 0), 0), (602, (.iconst 1, 0, 0, 0), 0), (603, (.iadd, 0, 0, 0), 0), (604, (.iaload, 0, 0, 0), 0), (605, (.invokevirtual 73, 29, 0, 6), 457), (608, (.aload_n 2, 0, 0, 0), 0), (609, (.aload_n 0, 0, 0, 0), 0), (610, (.iload_n 3, 0, 0, 0), 0), (611, (.iconst 1, 0, 0, 0), 0), (612, (.iadd, 0, 0, 0), 0), (613, (.iaload, 0, 0, 0), 0), (614, (.invokevirtual 76, 145, 0, 7), 915), (617, (.if_icmp .eq 500, 1117, 0, 0), 0), (620, (.iconst 0, 0, 0, 0), 0), (621, (.ireturn, 0, 0, 0), 0), (622, (.aload_n 1, 0, 0, 0), 0), (623, (.aload_n 0, 0, 0, 0), 0), (624, (.iload_n 3, 0, 0, 0), 0), (625, (.iconst 1, 0, 0, 0), 0), (626, (.iadd, 0, 0, 0), 0), (627, (.iaload, 0, 0, 0), 0), (628, (.invokevirtual 77, 30, 0, 6), 519), (631, (.aload_n 2, 0, 0, 0), 0), (632, (.aload_n 0, 0, 0, 0), 0), (633, (.iload_n 3, 0, 0, 0), 0), (634, (.iconst 1, 0, 0, 0), 0), (635, (.iadd, 0, 0, 0), 0), (636, (.iaload, 0, 0, 0), 0), (637, (.invokevirtual 80, 146, 0, 7), 930), (640, (.if_icmp .eq 477, 1117, 0, 0), 0), (643, (.iconst 0, 0, 0, 0), 0), (644, (.ireturn, 0, 0, 0), 0), (645, (.aload_n 1, 0, 0, 0), 0)]
def q_L_law_10 : List (Nat × ex_I × Nat) := [(646, (.invokevirtual 81, 31, 0, 6), 523), (649, (.aload_n 2, 0, 0, 0), 0), (650, (.invokevirtual 84, 149, 0, 7), 934), (653, (.if_icmp .eq 464, 1117, 0, 0), 0), (656, (.iconst 0, 0, 0, 0), 0), (657, (.ireturn, 0, 0, 0), 0), (658, (.aload_n 1, 0, 0, 0), 0), (659, (.aload_n 0, 0, 0, 0), 0), (660, (.iload_n 3, 0, 0, 0), 0), (661, (.iconst 1, 0, 0, 0), 0), (662, (.iadd, 0, 0, 0), 0), (663, (.iaload, 0, 0, 0), 0), (664, (.aload_n 0, 0, 0, 0), 0), (665, (.iload_n 3, 0, 0, 0), 0), (666, (.iconst 2, 0, 0, 0), 0), (667, (.iadd, 0, 0, 0), 0), (668, (.iaload, 0, 0, 0), 0), (669, (.invokevirtual 85, 32, 0, 6), 540), (672, (.aload_n 2, 0, 0, 0), 0), (673, (.aload_n 0, 0, 0, 0), 0), (674, (.iload_n 3, 0, 0, 0), 0), (675, (.iconst 1, 0, 0, 0), 0), (676, (.iadd, 0, 0, 0), 0), (677, (.iaload, 0, 0, 0), 0), (678, (.aload_n 0, 0, 0, 0), 0), (679, (.iload_n 3, 0, 0, 0), 0), (680, (.iconst 2, 0, 0, 0), 0), (681, (.iadd, 0, 0, 0), 0), (682, (.iaload, 0, 0, 0), 0), (683, (.invokevirtual 88, 150, 0, 7), 946), (686, (.if_icmp .eq 431, 1117, 0, 0), 0), (689, (.iconst 0, 0, 0, 0), 0), (690, (.ireturn, 0, 0, 0), 0), (691, (.aload_n 1, 0, 0, 0), 0), (692, (.aload_n 0, 0, 0, 0), 0), (693, (.iload_n 3, 0, 0, 0), 0), (694, (.iconst 1, 0, 0, 0), 0), (695, (.iadd, 0, 0, 0), 0), (696, (.iaload, 0, 0, 0), 0), (697, (.aload_n 0, 0, 0, 0), 0)]
def q_L_law_11 : List (Nat × ex_I × Nat) := [(698, (.iload_n 3, 0, 0, 0), 0), (699, (.iconst 2, 0, 0, 0), 0), (700, (.iadd, 0, 0, 0), 0), (701, (.iaload, 0, 0, 0), 0), (702, (.invokevirtual 89, 33, 0, 6), 548), (705, (.aload_n 2, 0, 0, 0), 0), (706, (.aload_n 0, 0, 0, 0), 0), (707, (.iload_n 3, 0, 0, 0), 0), (708, (.iconst 1, 0, 0, 0), 0), (709, (.iadd, 0, 0, 0), 0), (710, (.iaload, 0, 0, 0), 0), (711, (.aload_n 0, 0, 0, 0), 0), (712, (.iload_n 3, 0, 0, 0), 0), (713, (.iconst 2, 0, 0, 0), 0), (714, (.iadd, 0, 0, 0), 0), (715, (.iaload, 0, 0, 0), 0), (716, (.invokevirtual 92, 155, 0, 7), 950), (719, (.if_icmp .eq 398, 1117, 0, 0), 0), (722, (.iconst 0, 0, 0, 0), 0), (723, (.ireturn, 0, 0, 0), 0), (724, (.aload_n 1, 0, 0, 0), 0), (725, (.aload_n 0, 0, 0, 0), 0), (726, (.iload_n 3, 0, 0, 0), 0), (727, (.iconst 1, 0, 0, 0), 0), (728, (.iadd, 0, 0, 0), 0), (729, (.iaload, 0, 0, 0), 0), (730, (.aload_n 0, 0, 0, 0), 0), (731, (.iload_n 3, 0, 0, 0), 0), (732, (.iconst 2, 0, 0, 0), 0), (733, (.iadd, 0, 0, 0), 0), (734, (.iaload, 0, 0, 0), 0), (735, (.invokevirtual 93, 34, 0, 6), 577), (738, (.aload_n 2, 0, 0, 0), 0), (739, (.aload_n 0, 0, 0, 0), 0), (740, (.iload_n 3, 0, 0, 0), 0), (741, (.iconst 1, 0, 0, 0), 0), (742, (.iadd, 0, 0, 0), 0), (743, (.iaload, 0, 0, 0), 0), (744, (.aload_n 0, 0, 0, 0), 0), (745, (.iload_n 3, 0, 0, 0), 0)]
def q_L_law_12 : List (Nat × ex_I × Nat) := [(746, (.iconst 2, 0, 0, 0), 0), (747, (.iadd, 0, 0, 0), 0), (748, (.iaload, 0, 0, 0), 0), (749, (.invokevirtual 96, 156, 0, 7), 970), (752, (.if_icmp .eq 365, 1117, 0, 0), 0), (755, (.iconst 0, 0, 0, 0), 0), (756, (.ireturn, 0, 0, 0), 0), (757, (.aload_n 1, 0, 0, 0), 0), (758, (.aload_n 0, 0, 0, 0), 0), (759, (.iload_n 3, 0, 0, 0), 0), (760, (.iconst 1, 0, 0, 0), 0), (761, (.iadd, 0, 0, 0), 0), (762, (.iaload, 0, 0, 0), 0), (763, (.invokevirtual 97, 35, 0, 6), 590), (766, (.aload_n 2, 0, 0, 0), 0), (767, (.aload_n 0, 0, 0, 0), 0), (768, (.iload_n 3, 0, 0, 0), 0), (769, (.iconst 1, 0, 0, 0), 0), (770, (.iadd, 0, 0, 0), 0), (771, (.iaload, 0, 0, 0), 0), (772, (.invokevirtual 100, 158, 0, 7), 974), (775, (.if_icmp .eq 342, 1117, 0, 0), 0), (778, (.iconst 0, 0, 0, 0), 0), (779, (.ireturn, 0, 0, 0), 0), (780, (.aload_n 1, 0, 0, 0), 0), (781, (.aload_n 0, 0, 0, 0), 0), (782, (.iload_n 3, 0, 0, 0), 0), (783, (.iconst 1, 0, 0, 0), 0), (784, (.iadd, 0, 0, 0), 0), (785, (.iaload, 0, 0, 0), 0), (786, (.invokevirtual 101, 36, 0, 6), 606), (789, (.aload_n 2, 0, 0, 0), 0), (790, (.aload_n 0, 0, 0, 0), 0), (791, (.iload_n 3, 0, 0, 0), 0), (792, (.iconst 1, 0, 0, 0), 0), (793, (.iadd, 0, 0, 0), 0), (794, (.iaload, 0, 0, 0), 0), (795, (.invokevirtual 104, 159, 0, 7), 987), (798, (.if_icmp .eq 319, 1117, 0, 0), 0), (801, (.iconst 0, 0, 0, 0), 0)]
def q_L_law_13 : List (Nat × ex_I × Nat) := [(802, (.ireturn, 0, 0, 0), 0), (803, (.aload_n 1, 0, 0, 0), 0), (804, (.invokevirtual 105, 37, 0, 6), 610), (807, (.aload_n 2, 0, 0, 0), 0), (808, (.invokevirtual 108, 161, 0, 7), 991), (811, (.if_icmp .eq 306, 1117, 0, 0), 0), (814, (.iconst 0, 0, 0, 0), 0), (815, (.ireturn, 0, 0, 0), 0), (816, (.aload_n 1, 0, 0, 0), 0), (817, (.invokevirtual 109, 38, 0, 6), 619), (820, (.aload_n 2, 0, 0, 0), 0), (821, (.invokevirtual 112, 162, 0, 7), 999), (824, (.if_icmp .eq 293, 1117, 0, 0), 0), (827, (.iconst 0, 0, 0, 0), 0), (828, (.ireturn, 0, 0, 0), 0), (829, (.aload_n 1, 0, 0, 0), 0), (830, (.aload_n 0, 0, 0, 0), 0), (831, (.iload_n 3, 0, 0, 0), 0), (832, (.iconst 1, 0, 0, 0), 0), (833, (.iadd, 0, 0, 0), 0), (834, (.iaload, 0, 0, 0), 0), (835, (.aload_n 0, 0, 0, 0), 0), (836, (.iload_n 3, 0, 0, 0), 0), (837, (.iconst 2, 0, 0, 0), 0), (838, (.iadd, 0, 0, 0), 0), (839, (.iaload, 0, 0, 0), 0), (840, (.aload_n 0, 0, 0, 0), 0), (841, (.iload_n 3, 0, 0, 0), 0), (842, (.iconst 3, 0, 0, 0), 0), (843, (.iadd, 0, 0, 0), 0), (844, (.iaload, 0, 0, 0), 0), (845, (.aload_n 0, 0, 0, 0), 0), (846, (.iload_n 3, 0, 0, 0), 0), (847, (.iconst 4, 0, 0, 0), 0), (848, (.iadd, 0, 0, 0), 0), (849, (.iaload, 0, 0, 0), 0), (850, (.invokevirtual 113, 39, 0, 6), 623), (853, (.aload_n 2, 0, 0, 0), 0), (854, (.aload_n 0, 0, 0, 0), 0), (855, (.iload_n 3, 0, 0, 0), 0)]
def q_L_law_14 : List (Nat × ex_I × Nat) := [(856, (.iconst 1, 0, 0, 0), 0), (857, (.iadd, 0, 0, 0), 0), (858, (.iaload, 0, 0, 0), 0), (859, (.aload_n 0, 0, 0, 0), 0), (860, (.iload_n 3, 0, 0, 0), 0), (861, (.iconst 2, 0, 0, 0), 0), (862, (.iadd, 0, 0, 0), 0), (863, (.iaload, 0, 0, 0), 0), (864, (.aload_n 0, 0, 0, 0), 0), (865, (.iload_n 3, 0, 0, 0), 0), (866, (.iconst 3, 0, 0, 0), 0), (867, (.iadd, 0, 0, 0), 0), (868, (.iaload, 0, 0, 0), 0), (869, (.aload_n 0, 0, 0, 0), 0), (870, (.iload_n 3, 0, 0, 0), 0), (871, (.iconst 4, 0, 0, 0), 0), (872, (.iadd, 0, 0, 0), 0), (873, (.iaload, 0, 0, 0), 0), (874, (.invokevirtual 117, 168, 0, 7), 1023), (877, (.if_icmp .eq 240, 1117, 0, 0), 0), (880, (.iconst 0, 0, 0, 0), 0), (881, (.ireturn, 0, 0, 0), 0), (882, (.aload_n 1, 0, 0, 0), 0), (883, (.aload_n 0, 0, 0, 0), 0), (884, (.iload_n 3, 0, 0, 0), 0), (885, (.iconst 1, 0, 0, 0), 0), (886, (.iadd, 0, 0, 0), 0), (887, (.iaload, 0, 0, 0), 0), (888, (.aload_n 0, 0, 0, 0), 0), (889, (.iload_n 3, 0, 0, 0), 0), (890, (.iconst 2, 0, 0, 0), 0), (891, (.iadd, 0, 0, 0), 0), (892, (.iaload, 0, 0, 0), 0), (893, (.aload_n 0, 0, 0, 0), 0), (894, (.iload_n 3, 0, 0, 0), 0), (895, (.iconst 3, 0, 0, 0), 0), (896, (.iadd, 0, 0, 0), 0), (897, (.iaload, 0, 0, 0), 0), (898, (.aload_n 0, 0, 0, 0), 0), (899, (.iload_n 3, 0, 0, 0), 0)]
def q_L_law_15 : List (Nat × ex_I × Nat) := [(900, (.iconst 4, 0, 0, 0), 0), (901, (.iadd, 0, 0, 0), 0), (902, (.iaload, 0, 0, 0), 0), (903, (.invokevirtual 118, 40, 0, 6), 650), (906, (.aload_n 2, 0, 0, 0), 0), (907, (.aload_n 0, 0, 0, 0), 0), (908, (.iload_n 3, 0, 0, 0), 0), (909, (.iconst 1, 0, 0, 0), 0), (910, (.iadd, 0, 0, 0), 0), (911, (.iaload, 0, 0, 0), 0), (912, (.aload_n 0, 0, 0, 0), 0), (913, (.iload_n 3, 0, 0, 0), 0), (914, (.iconst 2, 0, 0, 0), 0), (915, (.iadd, 0, 0, 0), 0), (916, (.iaload, 0, 0, 0), 0), (917, (.aload_n 0, 0, 0, 0), 0), (918, (.iload_n 3, 0, 0, 0), 0), (919, (.iconst 3, 0, 0, 0), 0), (920, (.iadd, 0, 0, 0), 0), (921, (.iaload, 0, 0, 0), 0), (922, (.aload_n 0, 0, 0, 0), 0), (923, (.iload_n 3, 0, 0, 0), 0), (924, (.iconst 4, 0, 0, 0), 0), (925, (.iadd, 0, 0, 0), 0), (926, (.iaload, 0, 0, 0), 0), (927, (.invokevirtual 121, 169, 0, 7), 1027), (930, (.if_icmp .eq 187, 1117, 0, 0), 0), (933, (.iconst 0, 0, 0, 0), 0), (934, (.ireturn, 0, 0, 0), 0), (935, (.aload_n 1, 0, 0, 0), 0), (936, (.aload_n 0, 0, 0, 0), 0), (937, (.iload_n 3, 0, 0, 0), 0), (938, (.iconst 1, 0, 0, 0), 0), (939, (.iadd, 0, 0, 0), 0), (940, (.iaload, 0, 0, 0), 0), (941, (.aload_n 0, 0, 0, 0), 0), (942, (.iload_n 3, 0, 0, 0), 0), (943, (.iconst 2, 0, 0, 0), 0), (944, (.iadd, 0, 0, 0), 0), (945, (.iaload, 0, 0, 0), 0)]
def q_L_law_16 : List (Nat × ex_I × Nat) := [(946, (.aload_n 0, 0, 0, 0), 0), (947, (.iload_n 3, 0, 0, 0), 0), (948, (.iconst 3, 0, 0, 0), 0), (949, (.iadd, 0, 0, 0), 0), (950, (.iaload, 0, 0, 0), 0), (951, (.invokevirtual 122, 41, 0, 6), 658), (954, (.aload_n 2, 0, 0, 0), 0), (955, (.aload_n 0, 0, 0, 0), 0), (956, (.iload_n 3, 0, 0, 0), 0), (957, (.iconst 1, 0, 0, 0), 0), (958, (.iadd, 0, 0, 0), 0), (959, (.iaload, 0, 0, 0), 0), (960, (.aload_n 0, 0, 0, 0), 0), (961, (.iload_n 3, 0, 0, 0), 0), (962, (.iconst 2, 0, 0, 0), 0), (963, (.iadd, 0, 0, 0), 0), (964, (.iaload, 0, 0, 0), 0), (965, (.aload_n 0, 0, 0, 0), 0), (966, (.iload_n 3, 0, 0, 0), 0), (967, (.iconst 3, 0, 0, 0), 0), (968, (.iadd, 0, 0, 0), 0), (969, (.iaload, 0, 0, 0), 0), (970, (.invokevirtual 125, 164, 0, 7), 1003), (973, (.if_icmp .eq 144, 1117, 0, 0), 0), (976, (.iconst 0, 0, 0, 0), 0), (977, (.ireturn, 0, 0, 0), 0), (978, (.aload_n 1, 0, 0, 0), 0), (979, (.aload_n 0, 0, 0, 0), 0), (980, (.iload_n 3, 0, 0, 0), 0), (981, (.iconst 1, 0, 0, 0), 0), (982, (.iadd, 0, 0, 0), 0), (983, (.iaload, 0, 0, 0), 0), (984, (.invokevirtual 126, 42, 0, 6), 667), (987, (.aload_n 2, 0, 0, 0), 0), (988, (.aload_n 0, 0, 0, 0), 0), (989, (.iload_n 3, 0, 0, 0), 0), (990, (.iconst 1, 0, 0, 0), 0), (991, (.iadd, 0, 0, 0), 0), (992, (.iaload, 0, 0, 0), 0), (993, (.invokevirtual 129, 165, 0, 7), 1011)]
def q_L_law_17 : List (Nat × ex_I × Nat) := [(996, (.if_icmp .eq 121, 1117, 0, 0), 0), (999, (.iconst 0, 0, 0, 0), 0), (1000, (.ireturn, 0, 0, 0), 0), (1001, (.aload_n 1, 0, 0, 0), 0), (1002, (.aload_n 0, 0, 0, 0), 0), (1003, (.iload_n 3, 0, 0, 0), 0), (1004, (.iconst 1, 0, 0, 0), 0), (1005, (.iadd, 0, 0, 0), 0), (1006, (.iaload, 0, 0, 0), 0), (1007, (.aload_n 0, 0, 0, 0), 0), (1008, (.iload_n 3, 0, 0, 0), 0), (1009, (.iconst 2, 0, 0, 0), 0), (1010, (.iadd, 0, 0, 0), 0), (1011, (.iaload, 0, 0, 0), 0), (1012, (.aload_n 0, 0, 0, 0), 0), (1013, (.iload_n 3, 0, 0, 0), 0), (1014, (.iconst 3, 0, 0, 0), 0), (1015, (.iadd, 0, 0, 0), 0), (1016, (.iaload, 0, 0, 0), 0), (1017, (.aload_n 0, 0, 0, 0), 0), (1018, (.iload_n 3, 0, 0, 0), 0), (1019, (.iconst 4, 0, 0, 0), 0), (1020, (.iadd, 0, 0, 0), 0), (1021, (.iaload, 0, 0, 0), 0), (1022, (.invokevirtual 130, 43, 0, 6), 676), (1025, (.aload_n 2, 0, 0, 0), 0), (1026, (.aload_n 0, 0, 0, 0), 0), (1027, (.iload_n 3, 0, 0, 0), 0), (1028, (.iconst 1, 0, 0, 0), 0), (1029, (.iadd, 0, 0, 0), 0), (1030, (.iaload, 0, 0, 0), 0), (1031, (.aload_n 0, 0, 0, 0), 0), (1032, (.iload_n 3, 0, 0, 0), 0), (1033, (.iconst 2, 0, 0, 0), 0), (1034, (.iadd, 0, 0, 0), 0), (1035, (.iaload, 0, 0, 0), 0), (1036, (.aload_n 0, 0, 0, 0), 0), (1037, (.iload_n 3, 0, 0, 0), 0), (1038, (.iconst 3, 0, 0, 0), 0), (1039, (.iadd, 0, 0, 0), 0)]
def q_L_law_18 : List (Nat × ex_I × Nat) := [(1040, (.iaload, 0, 0, 0), 0), (1041, (.aload_n 0, 0, 0, 0), 0), (1042, (.iload_n 3, 0, 0, 0), 0), (1043, (.iconst 4, 0, 0, 0), 0), (1044, (.iadd, 0, 0, 0), 0), (1045, (.iaload, 0, 0, 0), 0), (1046, (.invokevirtual 133, 167, 0, 7), 1015), (1049, (.if_icmp .eq 68, 1117, 0, 0), 0), (1052, (.iconst 0, 0, 0, 0), 0), (1053, (.ireturn, 0, 0, 0), 0), (1054, (.aload_n 1, 0, 0, 0), 0), (1055, (.aload_n 0, 0, 0, 0), 0), (1056, (.iload_n 3, 0, 0, 0), 0), (1057, (.iconst 1, 0, 0, 0), 0), (1058, (.iadd, 0, 0, 0), 0), (1059, (.iaload, 0, 0, 0), 0), (1060, (.aload_n 0, 0, 0, 0), 0), (1061, (.iload_n 3, 0, 0, 0), 0), (1062, (.iconst 2, 0, 0, 0), 0), (1063, (.iadd, 0, 0, 0), 0), (1064, (.iaload, 0, 0, 0), 0), (1065, (.aload_n 0, 0, 0, 0), 0), (1066, (.iload_n 3, 0, 0, 0), 0), (1067, (.iconst 3, 0, 0, 0), 0), (1068, (.iadd, 0, 0, 0), 0), (1069, (.iaload, 0, 0, 0), 0), (1070, (.aload_n 0, 0, 0, 0), 0), (1071, (.iload_n 3, 0, 0, 0), 0), (1072, (.iconst 4, 0, 0, 0), 0), (1073, (.iadd, 0, 0, 0), 0), (1074, (.iaload, 0, 0, 0), 0), (1075, (.aload_n 0, 0, 0, 0), 0), (1076, (.iload_n 3, 0, 0, 0), 0), (1077, (.iconst 5, 0, 0, 0), 0), (1078, (.iadd, 0, 0, 0), 0), (1079, (.iaload, 0, 0, 0), 0), (1080, (.invokevirtual 134, 44, 0, 6), 680), (1083, (.aload_n 2, 0, 0, 0), 0), (1084, (.aload_n 0, 0, 0, 0), 0), (1085, (.iload_n 3, 0, 0, 0), 0)]
def q_L_law_19 : List (Nat × ex_I × Nat) := [(1086, (.iconst 1, 0, 0, 0), 0), (1087, (.iadd, 0, 0, 0), 0), (1088, (.iaload, 0, 0, 0), 0), (1089, (.aload_n 0, 0, 0, 0), 0), (1090, (.iload_n 3, 0, 0, 0), 0), (1091, (.iconst 2, 0, 0, 0), 0), (1092, (.iadd, 0, 0, 0), 0), (1093, (.iaload, 0, 0, 0), 0), (1094, (.aload_n 0, 0, 0, 0), 0), (1095, (.iload_n 3, 0, 0, 0), 0), (1096, (.iconst 3, 0, 0, 0), 0), (1097, (.iadd, 0, 0, 0), 0), (1098, (.iaload, 0, 0, 0), 0), (1099, (.aload_n 0, 0, 0, 0), 0), (1100, (.iload_n 3, 0, 0, 0), 0), (1101, (.iconst 4, 0, 0, 0), 0), (1102, (.iadd, 0, 0, 0), 0), (1103, (.iaload, 0, 0, 0), 0), (1104, (.aload_n 0, 0, 0, 0), 0), (1105, (.iload_n 3, 0, 0, 0), 0), (1106, (.iconst 5, 0, 0, 0), 0), (1107, (.iadd, 0, 0, 0), 0), (1108, (.iaload, 0, 0, 0), 0), (1109, (.invokevirtual 138, 170, 0, 7), 1031), (1112, (.if_icmp .eq 5, 1117, 0, 0), 0), (1115, (.iconst 0, 0, 0, 0), 0), (1116, (.ireturn, 0, 0, 0), 0), (1117, (.iinc 3 6, 0, 0, 0), 0), (1120, (.goto (-1102), 18, 0, 0), 0), (1123, (.iconst 1, 0, 0, 0), 0), (1124, (.ireturn, 0, 0, 0), 0)]
def q_L_law : List (Nat × ex_I × Nat) := q_L_law_0 ++ (q_L_law_1 ++ (q_L_law_2 ++ (q_L_law_3 ++ (q_L_law_4 ++ (q_L_law_5 ++ (q_L_law_6 ++ (q_L_law_7 ++ (q_L_law_8 ++ (q_L_law_9 ++ (q_L_law_10 ++ (q_L_law_11 ++ (q_L_law_12 ++ (q_L_law_13 ++ (q_L_law_14 ++ (q_L_law_15 ++ (q_L_law_16 ++ (q_L_law_17 ++ (q_L_law_18 ++ (q_L_law_19)))))))))))))))))))
def m_L_law : ex_M := (RL, yL_law, code, 4, some .boolean, 1, [], ex_cd q_L_law)
def xm_dummy : ex_M := (RL, yL_law, code, 0, none, 0, [], fun _ => none)
def xP_l : List ex_M := [m_X5_init, m_X5_isMissing, m_X5_holds, m_X5_refusal, m_X5_renew, m_X5_discard, m_X5_put, m_X0_init, m_X0_clear, m_X0_isFull, m_X0_add, m_X0_takeOver, m_J6_bitCount_0f7a4, m_J7_fill_53178, m_J7_fill_031fb, m_X6_init, m_X6_child, m_X6_know, m_X6_need, m_X6_hears, m_X6_told, m_X6_passes, m_X6_type, m_X6_school, m_X6_plan, m_X6_count, m_X6_may, m_X6_teach, m_X6_run, m_X6_hours, m_X6_bound, m_X6_spared, m_X6_order, m_X6_mouths, m_X6_from, m_X6_lessons, m_X6_seed, m_X6_image, m_X6_restore, m_X6_hour, m_X6_film, m_X6_sheet, m_X6_drop, m_X6_item, m_X6_copy, m_X6_isThing, m_X6_isSet, m_X6_isSheet, m_X6_isLane, m_X6_has, m_X6_passedOn, m_X6_teaching, m_X6_teacherOf, m_X6_pupilOf, m_X6_thingOf, m_X6_pairOf, m_X3_init, m_X3_isChild, m_X3_isTeaching, m_X3_saying, m_X3_setSaying, m_X3_setKnown, m_X3_admit, m_X3_sendHome, m_X3_takeOver, m_X3_knownOf, m_X3_garbled, m_X3_allows, m_X3_perform, m_X3_runPlan, m_X3_goWithout, m_X3_sparedSet, m_X3_trialIsAsGood, m_X3_firstTellable, m_X3_drawLesson, m_X3_listChoices, m_X3_holdHour, m_X1_init, m_X1_append, m_X1_signOf, m_X1_clear, m_X1_rewind, m_X1_step, m_X1_skipBlanks, m_X1_sign, m_X1_takes, m_X1_fault, m_X1_readSchool, m_X1_kindOf, m_X1_readThings, m_X1_readPlan, m_X1_readTeaching, m_X4_init, m_X4_fewest, m_X4_load, m_X4_squeeze, m_X4_knownBy, m_X4_learnable, m_X4_closure, m_X4_lacking, m_X4_isEnough, m_X4_listGains, m_X4_pairUp, m_X4_pairTaught, m_X4_firstOf, m_X2_init, m_X2_listen, m_X2_countWays, m_X2_minor, m_X2_firstMouths, m_X2_reachesAll, m_X2_sourceOf, m_X2_settle, m_X7_init, m_X7_in, m_X7_has, m_X7_isChild, m_X7_isThing, m_X7_areTwo, m_X7_add, m_X7_child, m_X7_know, m_X7_need, m_X7_hears, m_X7_knownTo, m_X7_told, m_X7_pass, m_X7_passes, m_X7_count, m_X7_type, m_X7_nextByte, m_X7_readChild, m_X7_readSchool, m_X7_school, m_X7_readTeaching, m_X7_readPlan, m_X7_plan, m_X7_mayBe, m_X7_teachNow, m_X7_may, m_X7_teach, m_X7_run, m_X7_ones, m_X7_mayTeach, m_X7_goOn, m_X7_hours, m_X7_bound, m_X7_goWithout, m_X7_bringBack, m_X7_spared, m_X7_order, m_X7_canHave, m_X7_isWay, m_X7_nextRow, m_X7_findWays, m_X7_mouths, m_X7_from, m_X7_lesson, m_X7_lessons, m_X7_seed, m_X7_carried, m_X7_image, m_X7_restore, m_X7_isSheet, m_X7_sheet, m_X7_drop, m_X7_lacksRow, m_X7_item, m_X7_hour, m_X7_film, m_X7_copy, m_L_law]
def xP (k : Nat) : ex_M := (xP_l[k]?).getD xm_dummy
def xV_0 : List Nat := [1, 2, 3, 4, 5, 6, 8, 9, 10, 11, 16, 17, 18, 19, 20, 21]
def xV_1 : List Nat := [22, 23, 24, 25, 26, 27, 28, 29, 30, 31, 32, 33, 34, 35, 36, 37]
def xV_2 : List Nat := [38, 39, 40, 41, 42, 43, 44, 57, 58, 59, 60, 61, 62, 63, 64, 65]
def xV_3 : List Nat := [66, 67, 68, 69, 70, 71, 72, 73, 74, 75, 76, 78, 80, 81, 82, 83]
def xV_4 : List Nat := [84, 85, 86, 87, 89, 90, 91, 93, 94, 96, 97, 98, 99, 100, 101, 102]
def xV_5 : List Nat := [103, 106, 107, 108, 109, 110, 111, 112, 116, 118, 119, 120, 121, 122, 123, 124]
def xV_6 : List Nat := [125, 127, 128, 129, 130, 131, 132, 133, 134, 135, 136, 137, 138, 139, 140, 141]
def xV_7 : List Nat := [143, 144, 145, 146, 147, 148, 149, 150, 151, 152, 153, 154, 155, 156, 157, 158]
def xV_8 : List Nat := [159, 160, 161, 162, 164, 165, 166, 167, 168, 169, 170]
def xV : List Nat := xV_0 ++ (xV_1 ++ (xV_2 ++ (xV_3 ++ (xV_4 ++ (xV_5 ++ (xV_6 ++ (xV_7 ++ (xV_8))))))))
def xS_0 : List Nat := [12, 13, 14, 45, 46, 47, 48, 49, 50, 51, 52, 53, 54, 55, 79, 88]
def xS_1 : List Nat := [95, 104, 114, 115, 117, 126, 142, 163]
def xS : List Nat := xS_0 ++ (xS_1)
def xI_0 : List Nat := [0, 7, 15, 56, 77, 92, 105, 113]
def xI : List Nat := xI_0
def xN : List Cond := [.methodLinkNest RX6 9 yX3_init RX6, .methodLinkNest RX3 33 yX0_init RX6, .methodLinkNest RX6 21 yX1_init RX6, .methodLinkNest RX1 20 yX0_init RX6, .methodLinkNest RX6 28 yX4_init RX6, .methodLinkNest RX6 35 yX2_init RX6, .methodLinkNest RX6 42 yX5_init RX6, .methodLinkNest RX3 60 yX6_has RX6, .methodLinkNest RX1 69 yX6_isThing RX6, .methodLinkNest RX1 72 yX6_has RX6, .methodLinkNest RX1 87 yX6_teaching RX6, .methodLinkNest RX3 57 yX6_isThing RX6, .methodLinkNest RX3 94 yX6_teacherOf RX6, .methodLinkNest RX3 97 yX6_pupilOf RX6, .methodLinkNest RX3 100 yX6_thingOf RX6, .methodLinkNest RX3 107 yX6_passedOn RX6, .methodLinkNest RX3 121 yX6_pairOf RX6, .methodLinkNest RX4 70 yX6_has RX6, .methodLinkNest RX2 27 yX6_has RX6, .methodLinkNest RX2 47 yX6_passedOn RX6, .methodLinkNest RX3 150 yX6_teaching RX6]
end
section
theorem ex_t1 {w : Cond} (i : Nat) (h : tables_1_1[i]? = some w) (hg : goodWord w = true) : w ∈ ex_tbl := ex_tbl_of (List.mem_append_right _ (List.mem_append_left _ (List.mem_of_getElem? h))) hg
theorem ex_t2 {w : Cond} (i : Nat) (h : tables_1_2[i]? = some w) (hg : goodWord w = true) : w ∈ ex_tbl := ex_tbl_of (List.mem_append_right _ (List.mem_append_right _ (List.mem_append_left _ (List.mem_of_getElem? h)))) hg
theorem ex_t3 {w : Cond} (i : Nat) (h : tables_1_3[i]? = some w) (hg : goodWord w = true) : w ∈ ex_tbl := ex_tbl_of (List.mem_append_right _ (List.mem_append_right _ (List.mem_append_right _ (List.mem_append_left _ (List.mem_of_getElem? h))))) hg
theorem ex_t4 {w : Cond} (i : Nat) (h : tables_1_4[i]? = some w) (hg : goodWord w = true) : w ∈ ex_tbl := ex_tbl_of (List.mem_append_right _ (List.mem_append_right _ (List.mem_append_right _ (List.mem_append_right _ (List.mem_append_left _ (List.mem_of_getElem? h)))))) hg
theorem ex_t5 {w : Cond} (i : Nat) (h : tables_1_5[i]? = some w) (hg : goodWord w = true) : w ∈ ex_tbl := ex_tbl_of (List.mem_append_right _ (List.mem_append_right _ (List.mem_append_right _ (List.mem_append_right _ (List.mem_append_right _ (List.mem_of_getElem? h)))))) hg
set_option maxRecDepth 20000 in
theorem om_X5_init : ex_okM m_X5_init true := ⟨by decide +kernel, rfl, ⟨by decide +kernel, by decide +kernel⟩, ex_t1 198 rfl rfl, ex_t1 7 rfl rfl, by decide, fun h => absurd h (by decide), fun _ => ⟨ex_t1 197 rfl rfl, by decide +kernel⟩⟩
set_option maxRecDepth 20000 in
theorem om_X5_isMissing : ex_okM m_X5_isMissing true := ⟨by decide +kernel, rfl, ⟨by decide +kernel, by decide +kernel⟩, ex_t3 160 rfl rfl, ex_t1 7 rfl rfl, by decide, fun h => absurd h (by decide), fun _ => ⟨ex_t3 158 rfl rfl, by decide +kernel⟩⟩
set_option maxRecDepth 20000 in
theorem os_X5_isMissing : Cond.selects (m_X5_isMissing).2.1.cls (m_X5_isMissing).2.1 (m_X5_isMissing).2.1 ∈ ex_tbl := ex_t3 159 rfl rfl
set_option maxRecDepth 20000 in
theorem om_X5_holds : ex_okM m_X5_holds true := ⟨by decide +kernel, rfl, ⟨by decide +kernel, by decide +kernel⟩, ex_t3 164 rfl rfl, ex_t1 7 rfl rfl, by decide, fun h => absurd h (by decide), fun _ => ⟨ex_t3 162 rfl rfl, by decide +kernel⟩⟩
set_option maxRecDepth 20000 in
theorem os_X5_holds : Cond.selects (m_X5_holds).2.1.cls (m_X5_holds).2.1 (m_X5_holds).2.1 ∈ ex_tbl := ex_t3 163 rfl rfl
set_option maxRecDepth 20000 in
theorem om_X5_refusal : ex_okM m_X5_refusal true := ⟨by decide +kernel, rfl, ⟨by decide +kernel, by decide +kernel⟩, ex_t3 156 rfl rfl, ex_t1 7 rfl rfl, by decide, fun h => absurd h (by decide), fun _ => ⟨ex_t3 154 rfl rfl, by decide +kernel⟩⟩
set_option maxRecDepth 20000 in
theorem os_X5_refusal : Cond.selects (m_X5_refusal).2.1.cls (m_X5_refusal).2.1 (m_X5_refusal).2.1 ∈ ex_tbl := ex_t3 155 rfl rfl
set_option maxRecDepth 20000 in
theorem om_X5_renew : ex_okM m_X5_renew true := ⟨by decide +kernel, rfl, ⟨by decide +kernel, by decide +kernel⟩, ex_t3 185 rfl rfl, ex_t1 7 rfl rfl, by decide, fun h => absurd h (by decide), fun _ => ⟨ex_t3 183 rfl rfl, by decide +kernel⟩⟩
set_option maxRecDepth 20000 in
theorem os_X5_renew : Cond.selects (m_X5_renew).2.1.cls (m_X5_renew).2.1 (m_X5_renew).2.1 ∈ ex_tbl := ex_t3 184 rfl rfl
set_option maxRecDepth 20000 in
theorem om_X5_discard : ex_okM m_X5_discard true := ⟨by decide +kernel, rfl, ⟨by decide +kernel, by decide +kernel⟩, ex_t3 195 rfl rfl, ex_t1 7 rfl rfl, by decide, fun h => absurd h (by decide), fun _ => ⟨ex_t3 193 rfl rfl, by decide +kernel⟩⟩
set_option maxRecDepth 20000 in
theorem os_X5_discard : Cond.selects (m_X5_discard).2.1.cls (m_X5_discard).2.1 (m_X5_discard).2.1 ∈ ex_tbl := ex_t3 194 rfl rfl
set_option maxRecDepth 20000 in
theorem om_X5_put : ex_okM m_X5_put true := ⟨by decide +kernel, rfl, ⟨by decide +kernel, by decide +kernel⟩, ex_t3 177 rfl rfl, ex_t1 7 rfl rfl, by decide, fun h => absurd h (by decide), fun _ => ⟨ex_t3 175 rfl rfl, by decide +kernel⟩⟩
set_option maxRecDepth 20000 in
theorem os_X5_put : Cond.selects (m_X5_put).2.1.cls (m_X5_put).2.1 (m_X5_put).2.1 ∈ ex_tbl := ex_t3 176 rfl rfl
set_option maxRecDepth 20000 in
theorem om_X0_init : ex_okM m_X0_init true := ⟨by decide +kernel, rfl, ⟨by decide +kernel, by decide +kernel⟩, ex_t1 30 rfl rfl, ex_t1 3 rfl rfl, by decide, fun h => absurd h (by decide), fun _ => ⟨ex_t1 29 rfl rfl, by decide +kernel⟩⟩
set_option maxRecDepth 20000 in
theorem om_X0_clear : ex_okM m_X0_clear true := ⟨by decide +kernel, rfl, ⟨by decide +kernel, by decide +kernel⟩, ex_t2 117 rfl rfl, ex_t1 3 rfl rfl, by decide, fun h => absurd h (by decide), fun _ => ⟨ex_t2 115 rfl rfl, by decide +kernel⟩⟩
set_option maxRecDepth 20000 in
theorem os_X0_clear : Cond.selects (m_X0_clear).2.1.cls (m_X0_clear).2.1 (m_X0_clear).2.1 ∈ ex_tbl := ex_t2 116 rfl rfl
set_option maxRecDepth 20000 in
theorem om_X0_isFull : ex_okM m_X0_isFull true := ⟨by decide +kernel, rfl, ⟨by decide +kernel, by decide +kernel⟩, ex_t2 142 rfl rfl, ex_t1 3 rfl rfl, by decide, fun h => absurd h (by decide), fun _ => ⟨ex_t2 140 rfl rfl, by decide +kernel⟩⟩
set_option maxRecDepth 20000 in
theorem os_X0_isFull : Cond.selects (m_X0_isFull).2.1.cls (m_X0_isFull).2.1 (m_X0_isFull).2.1 ∈ ex_tbl := ex_t2 141 rfl rfl
set_option maxRecDepth 20000 in
theorem om_X0_add : ex_okM m_X0_add true := ⟨by decide +kernel, rfl, ⟨by decide +kernel, by decide +kernel⟩, ex_t2 138 rfl rfl, ex_t1 3 rfl rfl, by decide, fun h => absurd h (by decide), fun _ => ⟨ex_t2 136 rfl rfl, by decide +kernel⟩⟩
set_option maxRecDepth 20000 in
theorem os_X0_add : Cond.selects (m_X0_add).2.1.cls (m_X0_add).2.1 (m_X0_add).2.1 ∈ ex_tbl := ex_t2 137 rfl rfl
set_option maxRecDepth 20000 in
theorem om_X0_takeOver : ex_okM m_X0_takeOver true := ⟨by decide +kernel, rfl, ⟨by decide +kernel, by decide +kernel⟩, ex_t2 146 rfl rfl, ex_t1 3 rfl rfl, by decide, fun h => absurd h (by decide), fun _ => ⟨ex_t2 144 rfl rfl, by decide +kernel⟩⟩
set_option maxRecDepth 20000 in
theorem os_X0_takeOver : Cond.selects (m_X0_takeOver).2.1.cls (m_X0_takeOver).2.1 (m_X0_takeOver).2.1 ∈ ex_tbl := ex_t2 145 rfl rfl
set_option maxRecDepth 20000 in
theorem om_J6_bitCount_0f7a4 : ex_okM m_J6_bitCount_0f7a4 false := ⟨by decide +kernel, rfl, ⟨by decide +kernel, by decide +kernel⟩, ex_t2 159 rfl rfl, ex_t1 9 rfl rfl, by decide, fun _ => ⟨ex_t2 158 rfl rfl, by decide +kernel⟩, fun h => absurd h (by decide)⟩
set_option maxRecDepth 20000 in
theorem om_J7_fill_53178 : ex_okM m_J7_fill_53178 false := ⟨by decide +kernel, rfl, ⟨by decide +kernel, by decide +kernel⟩, ex_t2 233 rfl rfl, ex_t1 10 rfl rfl, by decide, fun _ => ⟨ex_t2 232 rfl rfl, by decide +kernel⟩, fun h => absurd h (by decide)⟩
set_option maxRecDepth 20000 in
theorem om_J7_fill_031fb : ex_okM m_J7_fill_031fb false := ⟨by decide +kernel, rfl, ⟨by decide +kernel, by decide +kernel⟩, ex_t3 15 rfl rfl, ex_t1 10 rfl rfl, by decide, fun _ => ⟨ex_t3 14 rfl rfl, by decide +kernel⟩, fun h => absurd h (by decide)⟩
set_option maxRecDepth 20000 in
theorem om_X6_init : ex_okM m_X6_init true := ⟨by decide +kernel, rfl, ⟨by decide +kernel, by decide +kernel⟩, ex_t1 16 rfl rfl, ex_t1 1 rfl rfl, by decide, fun h => absurd h (by decide), fun _ => ⟨ex_t1 15 rfl rfl, by decide +kernel⟩⟩
set_option maxRecDepth 20000 in
theorem om_X6_child : ex_okM m_X6_child true := ⟨by decide +kernel, rfl, ⟨by decide +kernel, by decide +kernel⟩, ex_t1 238 rfl rfl, ex_t1 1 rfl rfl, by decide, fun h => absurd h (by decide), fun _ => ⟨ex_t1 236 rfl rfl, by decide +kernel⟩⟩
set_option maxRecDepth 20000 in
theorem os_X6_child : Cond.selects (m_X6_child).2.1.cls (m_X6_child).2.1 (m_X6_child).2.1 ∈ ex_tbl := ex_t1 237 rfl rfl
set_option maxRecDepth 20000 in
theorem om_X6_know : ex_okM m_X6_know true := ⟨by decide +kernel, rfl, ⟨by decide +kernel, by decide +kernel⟩, ex_t2 17 rfl rfl, ex_t1 1 rfl rfl, by decide, fun h => absurd h (by decide), fun _ => ⟨ex_t2 15 rfl rfl, by decide +kernel⟩⟩
set_option maxRecDepth 20000 in
theorem os_X6_know : Cond.selects (m_X6_know).2.1.cls (m_X6_know).2.1 (m_X6_know).2.1 ∈ ex_tbl := ex_t2 16 rfl rfl
set_option maxRecDepth 20000 in
theorem om_X6_need : ex_okM m_X6_need true := ⟨by decide +kernel, rfl, ⟨by decide +kernel, by decide +kernel⟩, ex_t2 33 rfl rfl, ex_t1 1 rfl rfl, by decide, fun h => absurd h (by decide), fun _ => ⟨ex_t2 31 rfl rfl, by decide +kernel⟩⟩
set_option maxRecDepth 20000 in
theorem os_X6_need : Cond.selects (m_X6_need).2.1.cls (m_X6_need).2.1 (m_X6_need).2.1 ∈ ex_tbl := ex_t2 32 rfl rfl
set_option maxRecDepth 20000 in
theorem om_X6_hears : ex_okM m_X6_hears true := ⟨by decide +kernel, rfl, ⟨by decide +kernel, by decide +kernel⟩, ex_t2 41 rfl rfl, ex_t1 1 rfl rfl, by decide, fun h => absurd h (by decide), fun _ => ⟨ex_t2 39 rfl rfl, by decide +kernel⟩⟩
set_option maxRecDepth 20000 in
theorem os_X6_hears : Cond.selects (m_X6_hears).2.1.cls (m_X6_hears).2.1 (m_X6_hears).2.1 ∈ ex_tbl := ex_t2 40 rfl rfl
set_option maxRecDepth 20000 in
theorem om_X6_told : ex_okM m_X6_told true := ⟨by decide +kernel, rfl, ⟨by decide +kernel, by decide +kernel⟩, ex_t2 45 rfl rfl, ex_t1 1 rfl rfl, by decide, fun h => absurd h (by decide), fun _ => ⟨ex_t2 43 rfl rfl, by decide +kernel⟩⟩
set_option maxRecDepth 20000 in
theorem os_X6_told : Cond.selects (m_X6_told).2.1.cls (m_X6_told).2.1 (m_X6_told).2.1 ∈ ex_tbl := ex_t2 44 rfl rfl
set_option maxRecDepth 20000 in
theorem om_X6_passes : ex_okM m_X6_passes true := ⟨by decide +kernel, rfl, ⟨by decide +kernel, by decide +kernel⟩, ex_t2 49 rfl rfl, ex_t1 1 rfl rfl, by decide, fun h => absurd h (by decide), fun _ => ⟨ex_t2 47 rfl rfl, by decide +kernel⟩⟩
set_option maxRecDepth 20000 in
theorem os_X6_passes : Cond.selects (m_X6_passes).2.1.cls (m_X6_passes).2.1 (m_X6_passes).2.1 ∈ ex_tbl := ex_t2 48 rfl rfl
set_option maxRecDepth 20000 in
theorem om_X6_type : ex_okM m_X6_type true := ⟨by decide +kernel, rfl, ⟨by decide +kernel, by decide +kernel⟩, ex_t2 56 rfl rfl, ex_t1 1 rfl rfl, by decide, fun h => absurd h (by decide), fun _ => ⟨ex_t2 54 rfl rfl, by decide +kernel⟩⟩
set_option maxRecDepth 20000 in
theorem os_X6_type : Cond.selects (m_X6_type).2.1.cls (m_X6_type).2.1 (m_X6_type).2.1 ∈ ex_tbl := ex_t2 55 rfl rfl
set_option maxRecDepth 20000 in
theorem om_X6_school : ex_okM m_X6_school true := ⟨by decide +kernel, rfl, ⟨by decide +kernel, by decide +kernel⟩, ex_t2 68 rfl rfl, ex_t1 1 rfl rfl, by decide, fun h => absurd h (by decide), fun _ => ⟨ex_t2 66 rfl rfl, by decide +kernel⟩⟩
set_option maxRecDepth 20000 in
theorem os_X6_school : Cond.selects (m_X6_school).2.1.cls (m_X6_school).2.1 (m_X6_school).2.1 ∈ ex_tbl := ex_t2 67 rfl rfl
set_option maxRecDepth 20000 in
theorem om_X6_plan : ex_okM m_X6_plan true := ⟨by decide +kernel, rfl, ⟨by decide +kernel, by decide +kernel⟩, ex_t2 122 rfl rfl, ex_t1 1 rfl rfl, by decide, fun h => absurd h (by decide), fun _ => ⟨ex_t2 120 rfl rfl, by decide +kernel⟩⟩
set_option maxRecDepth 20000 in
theorem os_X6_plan : Cond.selects (m_X6_plan).2.1.cls (m_X6_plan).2.1 (m_X6_plan).2.1 ∈ ex_tbl := ex_t2 121 rfl rfl
set_option maxRecDepth 20000 in
theorem om_X6_count : ex_okM m_X6_count true := ⟨by decide +kernel, rfl, ⟨by decide +kernel, by decide +kernel⟩, ex_t2 152 rfl rfl, ex_t1 1 rfl rfl, by decide, fun h => absurd h (by decide), fun _ => ⟨ex_t2 150 rfl rfl, by decide +kernel⟩⟩
set_option maxRecDepth 20000 in
theorem os_X6_count : Cond.selects (m_X6_count).2.1.cls (m_X6_count).2.1 (m_X6_count).2.1 ∈ ex_tbl := ex_t2 151 rfl rfl
set_option maxRecDepth 20000 in
theorem om_X6_may : ex_okM m_X6_may true := ⟨by decide +kernel, rfl, ⟨by decide +kernel, by decide +kernel⟩, ex_t2 170 rfl rfl, ex_t1 1 rfl rfl, by decide, fun h => absurd h (by decide), fun _ => ⟨ex_t2 168 rfl rfl, by decide +kernel⟩⟩
set_option maxRecDepth 20000 in
theorem os_X6_may : Cond.selects (m_X6_may).2.1.cls (m_X6_may).2.1 (m_X6_may).2.1 ∈ ex_tbl := ex_t2 169 rfl rfl
set_option maxRecDepth 20000 in
theorem om_X6_teach : ex_okM m_X6_teach true := ⟨by decide +kernel, rfl, ⟨by decide +kernel, by decide +kernel⟩, ex_t2 194 rfl rfl, ex_t1 1 rfl rfl, by decide, fun h => absurd h (by decide), fun _ => ⟨ex_t2 192 rfl rfl, by decide +kernel⟩⟩
set_option maxRecDepth 20000 in
theorem os_X6_teach : Cond.selects (m_X6_teach).2.1.cls (m_X6_teach).2.1 (m_X6_teach).2.1 ∈ ex_tbl := ex_t2 193 rfl rfl
set_option maxRecDepth 20000 in
theorem om_X6_run : ex_okM m_X6_run true := ⟨by decide +kernel, rfl, ⟨by decide +kernel, by decide +kernel⟩, ex_t2 205 rfl rfl, ex_t1 1 rfl rfl, by decide, fun h => absurd h (by decide), fun _ => ⟨ex_t2 203 rfl rfl, by decide +kernel⟩⟩
set_option maxRecDepth 20000 in
theorem os_X6_run : Cond.selects (m_X6_run).2.1.cls (m_X6_run).2.1 (m_X6_run).2.1 ∈ ex_tbl := ex_t2 204 rfl rfl
set_option maxRecDepth 20000 in
theorem om_X6_hours : ex_okM m_X6_hours true := ⟨by decide +kernel, rfl, ⟨by decide +kernel, by decide +kernel⟩, ex_t2 220 rfl rfl, ex_t1 1 rfl rfl, by decide, fun h => absurd h (by decide), fun _ => ⟨ex_t2 218 rfl rfl, by decide +kernel⟩⟩
set_option maxRecDepth 20000 in
theorem os_X6_hours : Cond.selects (m_X6_hours).2.1.cls (m_X6_hours).2.1 (m_X6_hours).2.1 ∈ ex_tbl := ex_t2 219 rfl rfl
set_option maxRecDepth 20000 in
theorem om_X6_bound : ex_okM m_X6_bound true := ⟨by decide +kernel, rfl, ⟨by decide +kernel, by decide +kernel⟩, ex_t3 42 rfl rfl, ex_t1 1 rfl rfl, by decide, fun h => absurd h (by decide), fun _ => ⟨ex_t3 40 rfl rfl, by decide +kernel⟩⟩
set_option maxRecDepth 20000 in
theorem os_X6_bound : Cond.selects (m_X6_bound).2.1.cls (m_X6_bound).2.1 (m_X6_bound).2.1 ∈ ex_tbl := ex_t3 41 rfl rfl
set_option maxRecDepth 20000 in
theorem om_X6_spared : ex_okM m_X6_spared true := ⟨by decide +kernel, rfl, ⟨by decide +kernel, by decide +kernel⟩, ex_t3 46 rfl rfl, ex_t1 1 rfl rfl, by decide, fun h => absurd h (by decide), fun _ => ⟨ex_t3 44 rfl rfl, by decide +kernel⟩⟩
set_option maxRecDepth 20000 in
theorem os_X6_spared : Cond.selects (m_X6_spared).2.1.cls (m_X6_spared).2.1 (m_X6_spared).2.1 ∈ ex_tbl := ex_t3 45 rfl rfl
set_option maxRecDepth 20000 in
theorem om_X6_order : ex_okM m_X6_order true := ⟨by decide +kernel, rfl, ⟨by decide +kernel, by decide +kernel⟩, ex_t3 63 rfl rfl, ex_t1 1 rfl rfl, by decide, fun h => absurd h (by decide), fun _ => ⟨ex_t3 61 rfl rfl, by decide +kernel⟩⟩
set_option maxRecDepth 20000 in
theorem os_X6_order : Cond.selects (m_X6_order).2.1.cls (m_X6_order).2.1 (m_X6_order).2.1 ∈ ex_tbl := ex_t3 62 rfl rfl
set_option maxRecDepth 20000 in
theorem om_X6_mouths : ex_okM m_X6_mouths true := ⟨by decide +kernel, rfl, ⟨by decide +kernel, by decide +kernel⟩, ex_t3 71 rfl rfl, ex_t1 1 rfl rfl, by decide, fun h => absurd h (by decide), fun _ => ⟨ex_t3 69 rfl rfl, by decide +kernel⟩⟩
set_option maxRecDepth 20000 in
theorem os_X6_mouths : Cond.selects (m_X6_mouths).2.1.cls (m_X6_mouths).2.1 (m_X6_mouths).2.1 ∈ ex_tbl := ex_t3 70 rfl rfl
set_option maxRecDepth 20000 in
theorem om_X6_from : ex_okM m_X6_from true := ⟨by decide +kernel, rfl, ⟨by decide +kernel, by decide +kernel⟩, ex_t3 100 rfl rfl, ex_t1 1 rfl rfl, by decide, fun h => absurd h (by decide), fun _ => ⟨ex_t3 98 rfl rfl, by decide +kernel⟩⟩
set_option maxRecDepth 20000 in
theorem os_X6_from : Cond.selects (m_X6_from).2.1.cls (m_X6_from).2.1 (m_X6_from).2.1 ∈ ex_tbl := ex_t3 99 rfl rfl
set_option maxRecDepth 20000 in
theorem om_X6_lessons : ex_okM m_X6_lessons true := ⟨by decide +kernel, rfl, ⟨by decide +kernel, by decide +kernel⟩, ex_t3 113 rfl rfl, ex_t1 1 rfl rfl, by decide, fun h => absurd h (by decide), fun _ => ⟨ex_t3 111 rfl rfl, by decide +kernel⟩⟩
set_option maxRecDepth 20000 in
theorem os_X6_lessons : Cond.selects (m_X6_lessons).2.1.cls (m_X6_lessons).2.1 (m_X6_lessons).2.1 ∈ ex_tbl := ex_t3 112 rfl rfl
set_option maxRecDepth 20000 in
theorem om_X6_seed : ex_okM m_X6_seed true := ⟨by decide +kernel, rfl, ⟨by decide +kernel, by decide +kernel⟩, ex_t3 129 rfl rfl, ex_t1 1 rfl rfl, by decide, fun h => absurd h (by decide), fun _ => ⟨ex_t3 127 rfl rfl, by decide +kernel⟩⟩
set_option maxRecDepth 20000 in
theorem os_X6_seed : Cond.selects (m_X6_seed).2.1.cls (m_X6_seed).2.1 (m_X6_seed).2.1 ∈ ex_tbl := ex_t3 128 rfl rfl
set_option maxRecDepth 20000 in
theorem om_X6_image : ex_okM m_X6_image true := ⟨by decide +kernel, rfl, ⟨by decide +kernel, by decide +kernel⟩, ex_t3 133 rfl rfl, ex_t1 1 rfl rfl, by decide, fun h => absurd h (by decide), fun _ => ⟨ex_t3 131 rfl rfl, by decide +kernel⟩⟩
set_option maxRecDepth 20000 in
theorem os_X6_image : Cond.selects (m_X6_image).2.1.cls (m_X6_image).2.1 (m_X6_image).2.1 ∈ ex_tbl := ex_t3 132 rfl rfl
set_option maxRecDepth 20000 in
theorem om_X6_restore : ex_okM m_X6_restore true := ⟨by decide +kernel, rfl, ⟨by decide +kernel, by decide +kernel⟩, ex_t3 142 rfl rfl, ex_t1 1 rfl rfl, by decide, fun h => absurd h (by decide), fun _ => ⟨ex_t3 140 rfl rfl, by decide +kernel⟩⟩
set_option maxRecDepth 20000 in
theorem os_X6_restore : Cond.selects (m_X6_restore).2.1.cls (m_X6_restore).2.1 (m_X6_restore).2.1 ∈ ex_tbl := ex_t3 141 rfl rfl
set_option maxRecDepth 20000 in
theorem om_X6_hour : ex_okM m_X6_hour true := ⟨by decide +kernel, rfl, ⟨by decide +kernel, by decide +kernel⟩, ex_t3 146 rfl rfl, ex_t1 1 rfl rfl, by decide, fun h => absurd h (by decide), fun _ => ⟨ex_t3 144 rfl rfl, by decide +kernel⟩⟩
set_option maxRecDepth 20000 in
theorem os_X6_hour : Cond.selects (m_X6_hour).2.1.cls (m_X6_hour).2.1 (m_X6_hour).2.1 ∈ ex_tbl := ex_t3 145 rfl rfl
set_option maxRecDepth 20000 in
theorem om_X6_film : ex_okM m_X6_film true := ⟨by decide +kernel, rfl, ⟨by decide +kernel, by decide +kernel⟩, ex_t3 173 rfl rfl, ex_t1 1 rfl rfl, by decide, fun h => absurd h (by decide), fun _ => ⟨ex_t3 171 rfl rfl, by decide +kernel⟩⟩
set_option maxRecDepth 20000 in
theorem os_X6_film : Cond.selects (m_X6_film).2.1.cls (m_X6_film).2.1 (m_X6_film).2.1 ∈ ex_tbl := ex_t3 172 rfl rfl
set_option maxRecDepth 20000 in
theorem om_X6_sheet : ex_okM m_X6_sheet true := ⟨by decide +kernel, rfl, ⟨by decide +kernel, by decide +kernel⟩, ex_t3 181 rfl rfl, ex_t1 1 rfl rfl, by decide, fun h => absurd h (by decide), fun _ => ⟨ex_t3 179 rfl rfl, by decide +kernel⟩⟩
set_option maxRecDepth 20000 in
theorem os_X6_sheet : Cond.selects (m_X6_sheet).2.1.cls (m_X6_sheet).2.1 (m_X6_sheet).2.1 ∈ ex_tbl := ex_t3 180 rfl rfl
set_option maxRecDepth 20000 in
theorem om_X6_drop : ex_okM m_X6_drop true := ⟨by decide +kernel, rfl, ⟨by decide +kernel, by decide +kernel⟩, ex_t3 190 rfl rfl, ex_t1 1 rfl rfl, by decide, fun h => absurd h (by decide), fun _ => ⟨ex_t3 188 rfl rfl, by decide +kernel⟩⟩
set_option maxRecDepth 20000 in
theorem os_X6_drop : Cond.selects (m_X6_drop).2.1.cls (m_X6_drop).2.1 (m_X6_drop).2.1 ∈ ex_tbl := ex_t3 189 rfl rfl
set_option maxRecDepth 20000 in
theorem om_X6_item : ex_okM m_X6_item true := ⟨by decide +kernel, rfl, ⟨by decide +kernel, by decide +kernel⟩, ex_t3 199 rfl rfl, ex_t1 1 rfl rfl, by decide, fun h => absurd h (by decide), fun _ => ⟨ex_t3 197 rfl rfl, by decide +kernel⟩⟩
set_option maxRecDepth 20000 in
theorem os_X6_item : Cond.selects (m_X6_item).2.1.cls (m_X6_item).2.1 (m_X6_item).2.1 ∈ ex_tbl := ex_t3 198 rfl rfl
set_option maxRecDepth 20000 in
theorem om_X6_copy : ex_okM m_X6_copy true := ⟨by decide +kernel, rfl, ⟨by decide +kernel, by decide +kernel⟩, ex_t3 203 rfl rfl, ex_t1 1 rfl rfl, by decide, fun h => absurd h (by decide), fun _ => ⟨ex_t3 201 rfl rfl, by decide +kernel⟩⟩
set_option maxRecDepth 20000 in
theorem os_X6_copy : Cond.selects (m_X6_copy).2.1.cls (m_X6_copy).2.1 (m_X6_copy).2.1 ∈ ex_tbl := ex_t3 202 rfl rfl
set_option maxRecDepth 20000 in
theorem om_X6_isThing : ex_okM m_X6_isThing false := ⟨by decide +kernel, rfl, ⟨by decide +kernel, by decide +kernel⟩, ex_t2 24 rfl rfl, ex_t1 1 rfl rfl, by decide, fun _ => ⟨ex_t2 23 rfl rfl, by decide +kernel⟩, fun h => absurd h (by decide)⟩
set_option maxRecDepth 20000 in
theorem om_X6_isSet : ex_okM m_X6_isSet false := ⟨by decide +kernel, rfl, ⟨by decide +kernel, by decide +kernel⟩, ex_t2 36 rfl rfl, ex_t1 1 rfl rfl, by decide, fun _ => ⟨ex_t2 35 rfl rfl, by decide +kernel⟩, fun h => absurd h (by decide)⟩
set_option maxRecDepth 20000 in
theorem om_X6_isSheet : ex_okM m_X6_isSheet false := ⟨by decide +kernel, rfl, ⟨by decide +kernel, by decide +kernel⟩, ex_t3 149 rfl rfl, ex_t1 1 rfl rfl, by decide, fun _ => ⟨ex_t3 148 rfl rfl, by decide +kernel⟩, fun h => absurd h (by decide)⟩
set_option maxRecDepth 20000 in
theorem om_X6_isLane : ex_okM m_X6_isLane false := ⟨by decide +kernel, rfl, ⟨by decide +kernel, by decide +kernel⟩, ex_t3 152 rfl rfl, ex_t1 1 rfl rfl, by decide, fun _ => ⟨ex_t3 151 rfl rfl, by decide +kernel⟩, fun h => absurd h (by decide)⟩
set_option maxRecDepth 20000 in
theorem om_X6_has : ex_okM m_X6_has false := ⟨by decide +kernel, rfl, ⟨by decide +kernel, by decide +kernel⟩, ex_t2 9 rfl rfl, ex_t1 1 rfl rfl, by decide, fun _ => ⟨ex_t2 8 rfl rfl, by decide +kernel⟩, fun h => absurd h (by decide)⟩
set_option maxRecDepth 20000 in
theorem om_X6_passedOn : ex_okM m_X6_passedOn false := ⟨by decide +kernel, rfl, ⟨by decide +kernel, by decide +kernel⟩, ex_t2 52 rfl rfl, ex_t1 1 rfl rfl, by decide, fun _ => ⟨ex_t2 51 rfl rfl, by decide +kernel⟩, fun h => absurd h (by decide)⟩
set_option maxRecDepth 20000 in
theorem om_X6_teaching : ex_okM m_X6_teaching false := ⟨by decide +kernel, rfl, ⟨by decide +kernel, by decide +kernel⟩, ex_t2 134 rfl rfl, ex_t1 1 rfl rfl, by decide, fun _ => ⟨ex_t2 133 rfl rfl, by decide +kernel⟩, fun h => absurd h (by decide)⟩
set_option maxRecDepth 20000 in
theorem om_X6_teacherOf : ex_okM m_X6_teacherOf false := ⟨by decide +kernel, rfl, ⟨by decide +kernel, by decide +kernel⟩, ex_t2 184 rfl rfl, ex_t1 1 rfl rfl, by decide, fun _ => ⟨ex_t2 183 rfl rfl, by decide +kernel⟩, fun h => absurd h (by decide)⟩
set_option maxRecDepth 20000 in
theorem om_X6_pupilOf : ex_okM m_X6_pupilOf false := ⟨by decide +kernel, rfl, ⟨by decide +kernel, by decide +kernel⟩, ex_t2 187 rfl rfl, ex_t1 1 rfl rfl, by decide, fun _ => ⟨ex_t2 186 rfl rfl, by decide +kernel⟩, fun h => absurd h (by decide)⟩
set_option maxRecDepth 20000 in
theorem om_X6_thingOf : ex_okM m_X6_thingOf false := ⟨by decide +kernel, rfl, ⟨by decide +kernel, by decide +kernel⟩, ex_t2 190 rfl rfl, ex_t1 1 rfl rfl, by decide, fun _ => ⟨ex_t2 189 rfl rfl, by decide +kernel⟩, fun h => absurd h (by decide)⟩
set_option maxRecDepth 20000 in
theorem om_X6_pairOf : ex_okM m_X6_pairOf false := ⟨by decide +kernel, rfl, ⟨by decide +kernel, by decide +kernel⟩, ex_t2 212 rfl rfl, ex_t1 1 rfl rfl, by decide, fun _ => ⟨ex_t2 211 rfl rfl, by decide +kernel⟩, fun h => absurd h (by decide)⟩
set_option maxRecDepth 20000 in
theorem om_X3_init : ex_okM m_X3_init true := ⟨by decide +kernel, rfl, ⟨by decide +kernel, by decide +kernel⟩, ex_t1 24 rfl rfl, ex_t1 2 rfl rfl, by decide, fun h => absurd h (by decide), fun _ => ⟨ex_t1 23 rfl rfl, by decide +kernel⟩⟩
set_option maxRecDepth 20000 in
theorem om_X3_isChild : ex_okM m_X3_isChild true := ⟨by decide +kernel, rfl, ⟨by decide +kernel, by decide +kernel⟩, ex_t2 21 rfl rfl, ex_t1 2 rfl rfl, by decide, fun h => absurd h (by decide), fun _ => ⟨ex_t2 19 rfl rfl, by decide +kernel⟩⟩
set_option maxRecDepth 20000 in
theorem os_X3_isChild : Cond.selects (m_X3_isChild).2.1.cls (m_X3_isChild).2.1 (m_X3_isChild).2.1 ∈ ex_tbl := ex_t2 20 rfl rfl
set_option maxRecDepth 20000 in
theorem om_X3_isTeaching : ex_okM m_X3_isTeaching true := ⟨by decide +kernel, rfl, ⟨by decide +kernel, by decide +kernel⟩, ex_t2 174 rfl rfl, ex_t1 2 rfl rfl, by decide, fun h => absurd h (by decide), fun _ => ⟨ex_t2 172 rfl rfl, by decide +kernel⟩⟩
set_option maxRecDepth 20000 in
theorem os_X3_isTeaching : Cond.selects (m_X3_isTeaching).2.1.cls (m_X3_isTeaching).2.1 (m_X3_isTeaching).2.1 ∈ ex_tbl := ex_t2 173 rfl rfl
set_option maxRecDepth 20000 in
theorem om_X3_saying : ex_okM m_X3_saying true := ⟨by decide +kernel, rfl, ⟨by decide +kernel, by decide +kernel⟩, ex_t2 28 rfl rfl, ex_t1 2 rfl rfl, by decide, fun h => absurd h (by decide), fun _ => ⟨ex_t2 26 rfl rfl, by decide +kernel⟩⟩
set_option maxRecDepth 20000 in
theorem os_X3_saying : Cond.selects (m_X3_saying).2.1.cls (m_X3_saying).2.1 (m_X3_saying).2.1 ∈ ex_tbl := ex_t2 27 rfl rfl
set_option maxRecDepth 20000 in
theorem om_X3_setSaying : ex_okM m_X3_setSaying true := ⟨by decide +kernel, rfl, ⟨by decide +kernel, by decide +kernel⟩, ex_t2 13 rfl rfl, ex_t1 2 rfl rfl, by decide, fun h => absurd h (by decide), fun _ => ⟨ex_t2 11 rfl rfl, by decide +kernel⟩⟩
set_option maxRecDepth 20000 in
theorem os_X3_setSaying : Cond.selects (m_X3_setSaying).2.1.cls (m_X3_setSaying).2.1 (m_X3_setSaying).2.1 ∈ ex_tbl := ex_t2 12 rfl rfl
set_option maxRecDepth 20000 in
theorem om_X3_setKnown : ex_okM m_X3_setKnown true := ⟨by decide +kernel, rfl, ⟨by decide +kernel, by decide +kernel⟩, ex_t2 6 rfl rfl, ex_t1 2 rfl rfl, by decide, fun h => absurd h (by decide), fun _ => ⟨ex_t2 4 rfl rfl, by decide +kernel⟩⟩
set_option maxRecDepth 20000 in
theorem os_X3_setKnown : Cond.selects (m_X3_setKnown).2.1.cls (m_X3_setKnown).2.1 (m_X3_setKnown).2.1 ∈ ex_tbl := ex_t2 5 rfl rfl
set_option maxRecDepth 20000 in
theorem om_X3_admit : ex_okM m_X3_admit true := ⟨by decide +kernel, rfl, ⟨by decide +kernel, by decide +kernel⟩, ex_t2 2 rfl rfl, ex_t1 2 rfl rfl, by decide, fun h => absurd h (by decide), fun _ => ⟨ex_t2 0 rfl rfl, by decide +kernel⟩⟩
set_option maxRecDepth 20000 in
theorem os_X3_admit : Cond.selects (m_X3_admit).2.1.cls (m_X3_admit).2.1 (m_X3_admit).2.1 ∈ ex_tbl := ex_t2 1 rfl rfl
set_option maxRecDepth 20000 in
theorem om_X3_sendHome : ex_okM m_X3_sendHome true := ⟨by decide +kernel, rfl, ⟨by decide +kernel, by decide +kernel⟩, ex_t2 113 rfl rfl, ex_t1 2 rfl rfl, by decide, fun h => absurd h (by decide), fun _ => ⟨ex_t2 111 rfl rfl, by decide +kernel⟩⟩
set_option maxRecDepth 20000 in
theorem os_X3_sendHome : Cond.selects (m_X3_sendHome).2.1.cls (m_X3_sendHome).2.1 (m_X3_sendHome).2.1 ∈ ex_tbl := ex_t2 112 rfl rfl
set_option maxRecDepth 20000 in
theorem om_X3_takeOver : ex_okM m_X3_takeOver true := ⟨by decide +kernel, rfl, ⟨by decide +kernel, by decide +kernel⟩, ex_t3 137 rfl rfl, ex_t1 2 rfl rfl, by decide, fun h => absurd h (by decide), fun _ => ⟨ex_t3 135 rfl rfl, by decide +kernel⟩⟩
set_option maxRecDepth 20000 in
theorem os_X3_takeOver : Cond.selects (m_X3_takeOver).2.1.cls (m_X3_takeOver).2.1 (m_X3_takeOver).2.1 ∈ ex_tbl := ex_t3 136 rfl rfl
set_option maxRecDepth 20000 in
theorem om_X3_knownOf : ex_okM m_X3_knownOf true := ⟨by decide +kernel, rfl, ⟨by decide +kernel, by decide +kernel⟩, ex_t2 156 rfl rfl, ex_t1 2 rfl rfl, by decide, fun h => absurd h (by decide), fun _ => ⟨ex_t2 154 rfl rfl, by decide +kernel⟩⟩
set_option maxRecDepth 20000 in
theorem os_X3_knownOf : Cond.selects (m_X3_knownOf).2.1.cls (m_X3_knownOf).2.1 (m_X3_knownOf).2.1 ∈ ex_tbl := ex_t2 155 rfl rfl
set_option maxRecDepth 20000 in
theorem om_X3_garbled : ex_okM m_X3_garbled true := ⟨by decide +kernel, rfl, ⟨by decide +kernel, by decide +kernel⟩, ex_t2 166 rfl rfl, ex_t1 2 rfl rfl, by decide, fun h => absurd h (by decide), fun _ => ⟨ex_t2 164 rfl rfl, by decide +kernel⟩⟩
set_option maxRecDepth 20000 in
theorem os_X3_garbled : Cond.selects (m_X3_garbled).2.1.cls (m_X3_garbled).2.1 (m_X3_garbled).2.1 ∈ ex_tbl := ex_t2 165 rfl rfl
set_option maxRecDepth 20000 in
theorem om_X3_allows : ex_okM m_X3_allows true := ⟨by decide +kernel, rfl, ⟨by decide +kernel, by decide +kernel⟩, ex_t2 181 rfl rfl, ex_t1 2 rfl rfl, by decide, fun h => absurd h (by decide), fun _ => ⟨ex_t2 179 rfl rfl, by decide +kernel⟩⟩
set_option maxRecDepth 20000 in
theorem os_X3_allows : Cond.selects (m_X3_allows).2.1.cls (m_X3_allows).2.1 (m_X3_allows).2.1 ∈ ex_tbl := ex_t2 180 rfl rfl
set_option maxRecDepth 20000 in
theorem om_X3_perform : ex_okM m_X3_perform true := ⟨by decide +kernel, rfl, ⟨by decide +kernel, by decide +kernel⟩, ex_t2 198 rfl rfl, ex_t1 2 rfl rfl, by decide, fun h => absurd h (by decide), fun _ => ⟨ex_t2 196 rfl rfl, by decide +kernel⟩⟩
set_option maxRecDepth 20000 in
theorem os_X3_perform : Cond.selects (m_X3_perform).2.1.cls (m_X3_perform).2.1 (m_X3_perform).2.1 ∈ ex_tbl := ex_t2 197 rfl rfl
set_option maxRecDepth 20000 in
theorem om_X3_runPlan : ex_okM m_X3_runPlan true := ⟨by decide +kernel, rfl, ⟨by decide +kernel, by decide +kernel⟩, ex_t2 209 rfl rfl, ex_t1 2 rfl rfl, by decide, fun h => absurd h (by decide), fun _ => ⟨ex_t2 207 rfl rfl, by decide +kernel⟩⟩
set_option maxRecDepth 20000 in
theorem os_X3_runPlan : Cond.selects (m_X3_runPlan).2.1.cls (m_X3_runPlan).2.1 (m_X3_runPlan).2.1 ∈ ex_tbl := ex_t2 208 rfl rfl
set_option maxRecDepth 20000 in
theorem om_X3_goWithout : ex_okM m_X3_goWithout true := ⟨by decide +kernel, rfl, ⟨by decide +kernel, by decide +kernel⟩, ex_t3 54 rfl rfl, ex_t1 2 rfl rfl, by decide, fun h => absurd h (by decide), fun _ => ⟨ex_t3 53 rfl rfl, by decide +kernel⟩⟩
set_option maxRecDepth 20000 in
theorem os_X3_goWithout : Cond.selects (m_X3_goWithout).2.1.cls (m_X3_goWithout).2.1 (m_X3_goWithout).2.1 ∈ ex_tbl := ex_tbl_of (List.mem_append_left _ (List.mem_map.mpr ⟨(yX3_goWithout, 13), List.mem_append_right _ (List.mem_append_left _ (List.mem_of_getElem? (i := 1) rfl)), rfl⟩)) rfl
set_option maxRecDepth 20000 in
theorem om_X3_sparedSet : ex_okM m_X3_sparedSet true := ⟨by decide +kernel, rfl, ⟨by decide +kernel, by decide +kernel⟩, ex_t3 50 rfl rfl, ex_t1 2 rfl rfl, by decide, fun h => absurd h (by decide), fun _ => ⟨ex_t3 48 rfl rfl, by decide +kernel⟩⟩
set_option maxRecDepth 20000 in
theorem os_X3_sparedSet : Cond.selects (m_X3_sparedSet).2.1.cls (m_X3_sparedSet).2.1 (m_X3_sparedSet).2.1 ∈ ex_tbl := ex_t3 49 rfl rfl
set_option maxRecDepth 20000 in
theorem om_X3_trialIsAsGood : ex_okM m_X3_trialIsAsGood true := ⟨by decide +kernel, rfl, ⟨by decide +kernel, by decide +kernel⟩, ex_t3 59 rfl rfl, ex_t1 2 rfl rfl, by decide, fun h => absurd h (by decide), fun _ => ⟨ex_t3 58 rfl rfl, by decide +kernel⟩⟩
set_option maxRecDepth 20000 in
theorem os_X3_trialIsAsGood : Cond.selects (m_X3_trialIsAsGood).2.1.cls (m_X3_trialIsAsGood).2.1 (m_X3_trialIsAsGood).2.1 ∈ ex_tbl := ex_tbl_of (List.mem_append_left _ (List.mem_map.mpr ⟨(yX3_trialIsAsGood, 13), List.mem_append_right _ (List.mem_append_left _ (List.mem_of_getElem? (i := 2) rfl)), rfl⟩)) rfl
set_option maxRecDepth 20000 in
theorem om_X3_firstTellable : ex_okM m_X3_firstTellable true := ⟨by decide +kernel, rfl, ⟨by decide +kernel, by decide +kernel⟩, ex_t3 67 rfl rfl, ex_t1 2 rfl rfl, by decide, fun h => absurd h (by decide), fun _ => ⟨ex_t3 65 rfl rfl, by decide +kernel⟩⟩
set_option maxRecDepth 20000 in
theorem os_X3_firstTellable : Cond.selects (m_X3_firstTellable).2.1.cls (m_X3_firstTellable).2.1 (m_X3_firstTellable).2.1 ∈ ex_tbl := ex_t3 66 rfl rfl
set_option maxRecDepth 20000 in
theorem om_X3_drawLesson : ex_okM m_X3_drawLesson true := ⟨by decide +kernel, rfl, ⟨by decide +kernel, by decide +kernel⟩, ex_t3 117 rfl rfl, ex_t1 2 rfl rfl, by decide, fun h => absurd h (by decide), fun _ => ⟨ex_t3 115 rfl rfl, by decide +kernel⟩⟩
set_option maxRecDepth 20000 in
theorem os_X3_drawLesson : Cond.selects (m_X3_drawLesson).2.1.cls (m_X3_drawLesson).2.1 (m_X3_drawLesson).2.1 ∈ ex_tbl := ex_t3 116 rfl rfl
set_option maxRecDepth 20000 in
theorem om_X3_listChoices : ex_okM m_X3_listChoices true := ⟨by decide +kernel, rfl, ⟨by decide +kernel, by decide +kernel⟩, ex_t3 121 rfl rfl, ex_t1 2 rfl rfl, by decide, fun h => absurd h (by decide), fun _ => ⟨ex_t3 120 rfl rfl, by decide +kernel⟩⟩
set_option maxRecDepth 20000 in
theorem os_X3_listChoices : Cond.selects (m_X3_listChoices).2.1.cls (m_X3_listChoices).2.1 (m_X3_listChoices).2.1 ∈ ex_tbl := ex_tbl_of (List.mem_append_left _ (List.mem_map.mpr ⟨(yX3_listChoices, 13), List.mem_append_right _ (List.mem_append_left _ (List.mem_of_getElem? (i := 6) rfl)), rfl⟩)) rfl
set_option maxRecDepth 20000 in
theorem om_X3_holdHour : ex_okM m_X3_holdHour true := ⟨by decide +kernel, rfl, ⟨by decide +kernel, by decide +kernel⟩, ex_t3 168 rfl rfl, ex_t1 2 rfl rfl, by decide, fun h => absurd h (by decide), fun _ => ⟨ex_t3 166 rfl rfl, by decide +kernel⟩⟩
set_option maxRecDepth 20000 in
theorem os_X3_holdHour : Cond.selects (m_X3_holdHour).2.1.cls (m_X3_holdHour).2.1 (m_X3_holdHour).2.1 ∈ ex_tbl := ex_t3 167 rfl rfl
set_option maxRecDepth 20000 in
theorem om_X1_init : ex_okM m_X1_init true := ⟨by decide +kernel, rfl, ⟨by decide +kernel, by decide +kernel⟩, ex_t1 113 rfl rfl, ex_t1 4 rfl rfl, by decide, fun h => absurd h (by decide), fun _ => ⟨ex_t1 112 rfl rfl, by decide +kernel⟩⟩
set_option maxRecDepth 20000 in
theorem om_X1_append : ex_okM m_X1_append true := ⟨by decide +kernel, rfl, ⟨by decide +kernel, by decide +kernel⟩, ex_t2 60 rfl rfl, ex_t1 4 rfl rfl, by decide, fun h => absurd h (by decide), fun _ => ⟨ex_t2 58 rfl rfl, by decide +kernel⟩⟩
set_option maxRecDepth 20000 in
theorem os_X1_append : Cond.selects (m_X1_append).2.1.cls (m_X1_append).2.1 (m_X1_append).2.1 ∈ ex_tbl := ex_t2 59 rfl rfl
set_option maxRecDepth 20000 in
theorem om_X1_signOf : ex_okM m_X1_signOf false := ⟨by decide +kernel, rfl, ⟨by decide +kernel, by decide +kernel⟩, ex_t2 63 rfl rfl, ex_t1 4 rfl rfl, by decide, fun _ => ⟨ex_t2 62 rfl rfl, by decide +kernel⟩, fun h => absurd h (by decide)⟩
set_option maxRecDepth 20000 in
theorem om_X1_clear : ex_okM m_X1_clear true := ⟨by decide +kernel, rfl, ⟨by decide +kernel, by decide +kernel⟩, ex_t2 109 rfl rfl, ex_t1 4 rfl rfl, by decide, fun h => absurd h (by decide), fun _ => ⟨ex_t2 107 rfl rfl, by decide +kernel⟩⟩
set_option maxRecDepth 20000 in
theorem os_X1_clear : Cond.selects (m_X1_clear).2.1.cls (m_X1_clear).2.1 (m_X1_clear).2.1 ∈ ex_tbl := ex_t2 108 rfl rfl
set_option maxRecDepth 20000 in
theorem om_X1_rewind : ex_okM m_X1_rewind true := ⟨by decide +kernel, rfl, ⟨by decide +kernel, by decide +kernel⟩, ex_t2 76 rfl rfl, ex_t1 4 rfl rfl, by decide, fun h => absurd h (by decide), fun _ => ⟨ex_t2 75 rfl rfl, by decide +kernel⟩⟩
set_option maxRecDepth 20000 in
theorem os_X1_rewind : Cond.selects (m_X1_rewind).2.1.cls (m_X1_rewind).2.1 (m_X1_rewind).2.1 ∈ ex_tbl := ex_tbl_of (List.mem_append_left _ (List.mem_map.mpr ⟨(yX1_rewind, 6), List.mem_append_left _ (List.mem_of_getElem? (i := 0) rfl), rfl⟩)) rfl
set_option maxRecDepth 20000 in
theorem om_X1_step : ex_okM m_X1_step true := ⟨by decide +kernel, rfl, ⟨by decide +kernel, by decide +kernel⟩, ex_t2 92 rfl rfl, ex_t1 4 rfl rfl, by decide, fun h => absurd h (by decide), fun _ => ⟨ex_t2 91 rfl rfl, by decide +kernel⟩⟩
set_option maxRecDepth 20000 in
theorem os_X1_step : Cond.selects (m_X1_step).2.1.cls (m_X1_step).2.1 (m_X1_step).2.1 ∈ ex_tbl := ex_tbl_of (List.mem_append_left _ (List.mem_map.mpr ⟨(yX1_step, 6), List.mem_append_left _ (List.mem_of_getElem? (i := 4) rfl), rfl⟩)) rfl
set_option maxRecDepth 20000 in
theorem om_X1_skipBlanks : ex_okM m_X1_skipBlanks true := ⟨by decide +kernel, rfl, ⟨by decide +kernel, by decide +kernel⟩, ex_t2 80 rfl rfl, ex_t1 4 rfl rfl, by decide, fun h => absurd h (by decide), fun _ => ⟨ex_t2 79 rfl rfl, by decide +kernel⟩⟩
set_option maxRecDepth 20000 in
theorem os_X1_skipBlanks : Cond.selects (m_X1_skipBlanks).2.1.cls (m_X1_skipBlanks).2.1 (m_X1_skipBlanks).2.1 ∈ ex_tbl := ex_tbl_of (List.mem_append_left _ (List.mem_map.mpr ⟨(yX1_skipBlanks, 6), List.mem_append_left _ (List.mem_of_getElem? (i := 1) rfl), rfl⟩)) rfl
set_option maxRecDepth 20000 in
theorem om_X1_sign : ex_okM m_X1_sign true := ⟨by decide +kernel, rfl, ⟨by decide +kernel, by decide +kernel⟩, ex_t2 88 rfl rfl, ex_t1 4 rfl rfl, by decide, fun h => absurd h (by decide), fun _ => ⟨ex_t2 87 rfl rfl, by decide +kernel⟩⟩
set_option maxRecDepth 20000 in
theorem os_X1_sign : Cond.selects (m_X1_sign).2.1.cls (m_X1_sign).2.1 (m_X1_sign).2.1 ∈ ex_tbl := ex_tbl_of (List.mem_append_left _ (List.mem_map.mpr ⟨(yX1_sign, 6), List.mem_append_left _ (List.mem_of_getElem? (i := 3) rfl), rfl⟩)) rfl
set_option maxRecDepth 20000 in
theorem om_X1_takes : ex_okM m_X1_takes true := ⟨by decide +kernel, rfl, ⟨by decide +kernel, by decide +kernel⟩, ex_t2 84 rfl rfl, ex_t1 4 rfl rfl, by decide, fun h => absurd h (by decide), fun _ => ⟨ex_t2 83 rfl rfl, by decide +kernel⟩⟩
set_option maxRecDepth 20000 in
theorem os_X1_takes : Cond.selects (m_X1_takes).2.1.cls (m_X1_takes).2.1 (m_X1_takes).2.1 ∈ ex_tbl := ex_tbl_of (List.mem_append_left _ (List.mem_map.mpr ⟨(yX1_takes, 6), List.mem_append_left _ (List.mem_of_getElem? (i := 2) rfl), rfl⟩)) rfl
set_option maxRecDepth 20000 in
theorem om_X1_fault : ex_okM m_X1_fault true := ⟨by decide +kernel, rfl, ⟨by decide +kernel, by decide +kernel⟩, ex_t2 96 rfl rfl, ex_t1 4 rfl rfl, by decide, fun h => absurd h (by decide), fun _ => ⟨ex_t2 95 rfl rfl, by decide +kernel⟩⟩
set_option maxRecDepth 20000 in
theorem os_X1_fault : Cond.selects (m_X1_fault).2.1.cls (m_X1_fault).2.1 (m_X1_fault).2.1 ∈ ex_tbl := ex_tbl_of (List.mem_append_left _ (List.mem_map.mpr ⟨(yX1_fault, 6), List.mem_append_left _ (List.mem_of_getElem? (i := 5) rfl), rfl⟩)) rfl
set_option maxRecDepth 20000 in
theorem om_X1_readSchool : ex_okM m_X1_readSchool true := ⟨by decide +kernel, rfl, ⟨by decide +kernel, by decide +kernel⟩, ex_t2 72 rfl rfl, ex_t1 4 rfl rfl, by decide, fun h => absurd h (by decide), fun _ => ⟨ex_t2 70 rfl rfl, by decide +kernel⟩⟩
set_option maxRecDepth 20000 in
theorem os_X1_readSchool : Cond.selects (m_X1_readSchool).2.1.cls (m_X1_readSchool).2.1 (m_X1_readSchool).2.1 ∈ ex_tbl := ex_t2 71 rfl rfl
set_option maxRecDepth 20000 in
theorem om_X1_kindOf : ex_okM m_X1_kindOf false := ⟨by decide +kernel, rfl, ⟨by decide +kernel, by decide +kernel⟩, ex_t2 99 rfl rfl, ex_t1 4 rfl rfl, by decide, fun _ => ⟨ex_t2 98 rfl rfl, by decide +kernel⟩, fun h => absurd h (by decide)⟩
set_option maxRecDepth 20000 in
theorem om_X1_readThings : ex_okM m_X1_readThings true := ⟨by decide +kernel, rfl, ⟨by decide +kernel, by decide +kernel⟩, ex_t2 103 rfl rfl, ex_t1 4 rfl rfl, by decide, fun h => absurd h (by decide), fun _ => ⟨ex_t2 102 rfl rfl, by decide +kernel⟩⟩
set_option maxRecDepth 20000 in
theorem os_X1_readThings : Cond.selects (m_X1_readThings).2.1.cls (m_X1_readThings).2.1 (m_X1_readThings).2.1 ∈ ex_tbl := ex_tbl_of (List.mem_append_left _ (List.mem_map.mpr ⟨(yX1_readThings, 6), List.mem_append_left _ (List.mem_of_getElem? (i := 6) rfl), rfl⟩)) rfl
set_option maxRecDepth 20000 in
theorem om_X1_readPlan : ex_okM m_X1_readPlan true := ⟨by decide +kernel, rfl, ⟨by decide +kernel, by decide +kernel⟩, ex_t2 126 rfl rfl, ex_t1 4 rfl rfl, by decide, fun h => absurd h (by decide), fun _ => ⟨ex_t2 124 rfl rfl, by decide +kernel⟩⟩
set_option maxRecDepth 20000 in
theorem os_X1_readPlan : Cond.selects (m_X1_readPlan).2.1.cls (m_X1_readPlan).2.1 (m_X1_readPlan).2.1 ∈ ex_tbl := ex_t2 125 rfl rfl
set_option maxRecDepth 20000 in
theorem om_X1_readTeaching : ex_okM m_X1_readTeaching true := ⟨by decide +kernel, rfl, ⟨by decide +kernel, by decide +kernel⟩, ex_t2 131 rfl rfl, ex_t1 4 rfl rfl, by decide, fun h => absurd h (by decide), fun _ => ⟨ex_t2 130 rfl rfl, by decide +kernel⟩⟩
set_option maxRecDepth 20000 in
theorem os_X1_readTeaching : Cond.selects (m_X1_readTeaching).2.1.cls (m_X1_readTeaching).2.1 (m_X1_readTeaching).2.1 ∈ ex_tbl := ex_tbl_of (List.mem_append_left _ (List.mem_map.mpr ⟨(yX1_readTeaching, 6), List.mem_append_left _ (List.mem_of_getElem? (i := 7) rfl), rfl⟩)) rfl
set_option maxRecDepth 20000 in
theorem om_X4_init : ex_okM m_X4_init true := ⟨by decide +kernel, rfl, ⟨by decide +kernel, by decide +kernel⟩, ex_t1 144 rfl rfl, ex_t1 5 rfl rfl, by decide, fun h => absurd h (by decide), fun _ => ⟨ex_t1 143 rfl rfl, by decide +kernel⟩⟩
set_option maxRecDepth 20000 in
theorem om_X4_fewest : ex_okM m_X4_fewest true := ⟨by decide +kernel, rfl, ⟨by decide +kernel, by decide +kernel⟩, ex_t2 225 rfl rfl, ex_t1 5 rfl rfl, by decide, fun h => absurd h (by decide), fun _ => ⟨ex_t2 223 rfl rfl, by decide +kernel⟩⟩
set_option maxRecDepth 20000 in
theorem os_X4_fewest : Cond.selects (m_X4_fewest).2.1.cls (m_X4_fewest).2.1 (m_X4_fewest).2.1 ∈ ex_tbl := ex_t2 224 rfl rfl
set_option maxRecDepth 20000 in
theorem om_X4_load : ex_okM m_X4_load true := ⟨by decide +kernel, rfl, ⟨by decide +kernel, by decide +kernel⟩, ex_t2 229 rfl rfl, ex_t1 5 rfl rfl, by decide, fun h => absurd h (by decide), fun _ => ⟨ex_t2 228 rfl rfl, by decide +kernel⟩⟩
set_option maxRecDepth 20000 in
theorem os_X4_load : Cond.selects (m_X4_load).2.1.cls (m_X4_load).2.1 (m_X4_load).2.1 ∈ ex_tbl := ex_tbl_of (List.mem_append_left _ (List.mem_map.mpr ⟨(yX4_load, 9), List.mem_append_left _ (List.mem_of_getElem? (i := 8) rfl), rfl⟩)) rfl
set_option maxRecDepth 20000 in
theorem om_X4_squeeze : ex_okM m_X4_squeeze false := ⟨by decide +kernel, rfl, ⟨by decide +kernel, by decide +kernel⟩, ex_t2 237 rfl rfl, ex_t1 5 rfl rfl, by decide, fun _ => ⟨ex_t2 236 rfl rfl, by decide +kernel⟩, fun h => absurd h (by decide)⟩
set_option maxRecDepth 20000 in
theorem om_X4_knownBy : ex_okM m_X4_knownBy true := ⟨by decide +kernel, rfl, ⟨by decide +kernel, by decide +kernel⟩, ex_t3 8 rfl rfl, ex_t1 5 rfl rfl, by decide, fun h => absurd h (by decide), fun _ => ⟨ex_t3 7 rfl rfl, by decide +kernel⟩⟩
set_option maxRecDepth 20000 in
theorem os_X4_knownBy : Cond.selects (m_X4_knownBy).2.1.cls (m_X4_knownBy).2.1 (m_X4_knownBy).2.1 ∈ ex_tbl := ex_tbl_of (List.mem_append_left _ (List.mem_map.mpr ⟨(yX4_knownBy, 9), List.mem_append_left _ (List.mem_of_getElem? (i := 10) rfl), rfl⟩)) rfl
set_option maxRecDepth 20000 in
theorem om_X4_learnable : ex_okM m_X4_learnable true := ⟨by decide +kernel, rfl, ⟨by decide +kernel, by decide +kernel⟩, ex_t3 12 rfl rfl, ex_t1 5 rfl rfl, by decide, fun h => absurd h (by decide), fun _ => ⟨ex_t3 11 rfl rfl, by decide +kernel⟩⟩
set_option maxRecDepth 20000 in
theorem os_X4_learnable : Cond.selects (m_X4_learnable).2.1.cls (m_X4_learnable).2.1 (m_X4_learnable).2.1 ∈ ex_tbl := ex_tbl_of (List.mem_append_left _ (List.mem_map.mpr ⟨(yX4_learnable, 9), List.mem_append_left _ (List.mem_of_getElem? (i := 11) rfl), rfl⟩)) rfl
set_option maxRecDepth 20000 in
theorem om_X4_closure : ex_okM m_X4_closure true := ⟨by decide +kernel, rfl, ⟨by decide +kernel, by decide +kernel⟩, ex_t3 4 rfl rfl, ex_t1 5 rfl rfl, by decide, fun h => absurd h (by decide), fun _ => ⟨ex_t3 3 rfl rfl, by decide +kernel⟩⟩
set_option maxRecDepth 20000 in
theorem os_X4_closure : Cond.selects (m_X4_closure).2.1.cls (m_X4_closure).2.1 (m_X4_closure).2.1 ∈ ex_tbl := ex_tbl_of (List.mem_append_left _ (List.mem_map.mpr ⟨(yX4_closure, 9), List.mem_append_left _ (List.mem_of_getElem? (i := 9) rfl), rfl⟩)) rfl
set_option maxRecDepth 20000 in
theorem om_X4_lacking : ex_okM m_X4_lacking true := ⟨by decide +kernel, rfl, ⟨by decide +kernel, by decide +kernel⟩, ex_t3 23 rfl rfl, ex_t1 5 rfl rfl, by decide, fun h => absurd h (by decide), fun _ => ⟨ex_t3 22 rfl rfl, by decide +kernel⟩⟩
set_option maxRecDepth 20000 in
theorem os_X4_lacking : Cond.selects (m_X4_lacking).2.1.cls (m_X4_lacking).2.1 (m_X4_lacking).2.1 ∈ ex_tbl := ex_tbl_of (List.mem_append_left _ (List.mem_map.mpr ⟨(yX4_lacking, 9), List.mem_append_left _ (List.mem_of_getElem? (i := 13) rfl), rfl⟩)) rfl
set_option maxRecDepth 20000 in
theorem om_X4_isEnough : ex_okM m_X4_isEnough true := ⟨by decide +kernel, rfl, ⟨by decide +kernel, by decide +kernel⟩, ex_t3 19 rfl rfl, ex_t1 5 rfl rfl, by decide, fun h => absurd h (by decide), fun _ => ⟨ex_t3 18 rfl rfl, by decide +kernel⟩⟩
set_option maxRecDepth 20000 in
theorem os_X4_isEnough : Cond.selects (m_X4_isEnough).2.1.cls (m_X4_isEnough).2.1 (m_X4_isEnough).2.1 ∈ ex_tbl := ex_tbl_of (List.mem_append_left _ (List.mem_map.mpr ⟨(yX4_isEnough, 9), List.mem_append_left _ (List.mem_of_getElem? (i := 12) rfl), rfl⟩)) rfl
set_option maxRecDepth 20000 in
theorem om_X4_listGains : ex_okM m_X4_listGains true := ⟨by decide +kernel, rfl, ⟨by decide +kernel, by decide +kernel⟩, ex_t3 27 rfl rfl, ex_t1 5 rfl rfl, by decide, fun h => absurd h (by decide), fun _ => ⟨ex_t3 26 rfl rfl, by decide +kernel⟩⟩
set_option maxRecDepth 20000 in
theorem os_X4_listGains : Cond.selects (m_X4_listGains).2.1.cls (m_X4_listGains).2.1 (m_X4_listGains).2.1 ∈ ex_tbl := ex_tbl_of (List.mem_append_left _ (List.mem_map.mpr ⟨(yX4_listGains, 9), List.mem_append_left _ (List.mem_of_getElem? (i := 14) rfl), rfl⟩)) rfl
set_option maxRecDepth 20000 in
theorem om_X4_pairUp : ex_okM m_X4_pairUp true := ⟨by decide +kernel, rfl, ⟨by decide +kernel, by decide +kernel⟩, ex_t3 31 rfl rfl, ex_t1 5 rfl rfl, by decide, fun h => absurd h (by decide), fun _ => ⟨ex_t3 30 rfl rfl, by decide +kernel⟩⟩
set_option maxRecDepth 20000 in
theorem os_X4_pairUp : Cond.selects (m_X4_pairUp).2.1.cls (m_X4_pairUp).2.1 (m_X4_pairUp).2.1 ∈ ex_tbl := ex_tbl_of (List.mem_append_left _ (List.mem_map.mpr ⟨(yX4_pairUp, 9), List.mem_append_left _ (List.mem_of_getElem? (i := 15) rfl), rfl⟩)) rfl
set_option maxRecDepth 20000 in
theorem om_X4_pairTaught : ex_okM m_X4_pairTaught true := ⟨by decide +kernel, rfl, ⟨by decide +kernel, by decide +kernel⟩, ex_t3 38 rfl rfl, ex_t1 5 rfl rfl, by decide, fun h => absurd h (by decide), fun _ => ⟨ex_t3 37 rfl rfl, by decide +kernel⟩⟩
set_option maxRecDepth 20000 in
theorem os_X4_pairTaught : Cond.selects (m_X4_pairTaught).2.1.cls (m_X4_pairTaught).2.1 (m_X4_pairTaught).2.1 ∈ ex_tbl := ex_tbl_of (List.mem_append_left _ (List.mem_map.mpr ⟨(yX4_pairTaught, 9), List.mem_append_right _ (List.mem_append_left _ (List.mem_of_getElem? (i := 0) rfl)), rfl⟩)) rfl
set_option maxRecDepth 20000 in
theorem om_X4_firstOf : ex_okM m_X4_firstOf false := ⟨by decide +kernel, rfl, ⟨by decide +kernel, by decide +kernel⟩, ex_t3 34 rfl rfl, ex_t1 5 rfl rfl, by decide, fun _ => ⟨ex_t3 33 rfl rfl, by decide +kernel⟩, fun h => absurd h (by decide)⟩
set_option maxRecDepth 20000 in
theorem om_X2_init : ex_okM m_X2_init true := ⟨by decide +kernel, rfl, ⟨by decide +kernel, by decide +kernel⟩, ex_t1 178 rfl rfl, ex_t1 6 rfl rfl, by decide, fun h => absurd h (by decide), fun _ => ⟨ex_t1 177 rfl rfl, by decide +kernel⟩⟩
set_option maxRecDepth 20000 in
theorem om_X2_listen : ex_okM m_X2_listen true := ⟨by decide +kernel, rfl, ⟨by decide +kernel, by decide +kernel⟩, ex_t3 75 rfl rfl, ex_t1 6 rfl rfl, by decide, fun h => absurd h (by decide), fun _ => ⟨ex_t3 73 rfl rfl, by decide +kernel⟩⟩
set_option maxRecDepth 20000 in
theorem os_X2_listen : Cond.selects (m_X2_listen).2.1.cls (m_X2_listen).2.1 (m_X2_listen).2.1 ∈ ex_tbl := ex_t3 74 rfl rfl
set_option maxRecDepth 20000 in
theorem om_X2_countWays : ex_okM m_X2_countWays true := ⟨by decide +kernel, rfl, ⟨by decide +kernel, by decide +kernel⟩, ex_t3 83 rfl rfl, ex_t1 6 rfl rfl, by decide, fun h => absurd h (by decide), fun _ => ⟨ex_t3 81 rfl rfl, by decide +kernel⟩⟩
set_option maxRecDepth 20000 in
theorem os_X2_countWays : Cond.selects (m_X2_countWays).2.1.cls (m_X2_countWays).2.1 (m_X2_countWays).2.1 ∈ ex_tbl := ex_t3 82 rfl rfl
set_option maxRecDepth 20000 in
theorem om_X2_minor : ex_okM m_X2_minor true := ⟨by decide +kernel, rfl, ⟨by decide +kernel, by decide +kernel⟩, ex_t3 87 rfl rfl, ex_t1 6 rfl rfl, by decide, fun h => absurd h (by decide), fun _ => ⟨ex_t3 86 rfl rfl, by decide +kernel⟩⟩
set_option maxRecDepth 20000 in
theorem os_X2_minor : Cond.selects (m_X2_minor).2.1.cls (m_X2_minor).2.1 (m_X2_minor).2.1 ∈ ex_tbl := ex_tbl_of (List.mem_append_left _ (List.mem_map.mpr ⟨(yX2_minor, 4), List.mem_append_right _ (List.mem_append_left _ (List.mem_of_getElem? (i := 3) rfl)), rfl⟩)) rfl
set_option maxRecDepth 20000 in
theorem om_X2_firstMouths : ex_okM m_X2_firstMouths true := ⟨by decide +kernel, rfl, ⟨by decide +kernel, by decide +kernel⟩, ex_t3 92 rfl rfl, ex_t1 6 rfl rfl, by decide, fun h => absurd h (by decide), fun _ => ⟨ex_t3 90 rfl rfl, by decide +kernel⟩⟩
set_option maxRecDepth 20000 in
theorem os_X2_firstMouths : Cond.selects (m_X2_firstMouths).2.1.cls (m_X2_firstMouths).2.1 (m_X2_firstMouths).2.1 ∈ ex_tbl := ex_t3 91 rfl rfl
set_option maxRecDepth 20000 in
theorem om_X2_reachesAll : ex_okM m_X2_reachesAll true := ⟨by decide +kernel, rfl, ⟨by decide +kernel, by decide +kernel⟩, ex_t3 96 rfl rfl, ex_t1 6 rfl rfl, by decide, fun h => absurd h (by decide), fun _ => ⟨ex_t3 95 rfl rfl, by decide +kernel⟩⟩
set_option maxRecDepth 20000 in
theorem os_X2_reachesAll : Cond.selects (m_X2_reachesAll).2.1.cls (m_X2_reachesAll).2.1 (m_X2_reachesAll).2.1 ∈ ex_tbl := ex_tbl_of (List.mem_append_left _ (List.mem_map.mpr ⟨(yX2_reachesAll, 4), List.mem_append_right _ (List.mem_append_left _ (List.mem_of_getElem? (i := 4) rfl)), rfl⟩)) rfl
set_option maxRecDepth 20000 in
theorem om_X2_sourceOf : ex_okM m_X2_sourceOf true := ⟨by decide +kernel, rfl, ⟨by decide +kernel, by decide +kernel⟩, ex_t3 104 rfl rfl, ex_t1 6 rfl rfl, by decide, fun h => absurd h (by decide), fun _ => ⟨ex_t3 102 rfl rfl, by decide +kernel⟩⟩
set_option maxRecDepth 20000 in
theorem os_X2_sourceOf : Cond.selects (m_X2_sourceOf).2.1.cls (m_X2_sourceOf).2.1 (m_X2_sourceOf).2.1 ∈ ex_tbl := ex_t3 103 rfl rfl
set_option maxRecDepth 20000 in
theorem om_X2_settle : ex_okM m_X2_settle true := ⟨by decide +kernel, rfl, ⟨by decide +kernel, by decide +kernel⟩, ex_t3 109 rfl rfl, ex_t1 6 rfl rfl, by decide, fun h => absurd h (by decide), fun _ => ⟨ex_t3 108 rfl rfl, by decide +kernel⟩⟩
set_option maxRecDepth 20000 in
theorem os_X2_settle : Cond.selects (m_X2_settle).2.1.cls (m_X2_settle).2.1 (m_X2_settle).2.1 ∈ ex_tbl := ex_tbl_of (List.mem_append_left _ (List.mem_map.mpr ⟨(yX2_settle, 4), List.mem_append_right _ (List.mem_append_left _ (List.mem_of_getElem? (i := 5) rfl)), rfl⟩)) rfl
set_option maxRecDepth 20000 in
theorem om_X7_init : ex_okM m_X7_init true := ⟨by decide +kernel, rfl, ⟨by decide +kernel, by decide +kernel⟩, ex_t3 210 rfl rfl, ex_t1 8 rfl rfl, by decide, fun h => absurd h (by decide), fun _ => ⟨ex_t3 209 rfl rfl, by decide +kernel⟩⟩
set_option maxRecDepth 20000 in
theorem om_X7_in : ex_okM m_X7_in false := ⟨by decide +kernel, rfl, ⟨by decide +kernel, by decide +kernel⟩, ex_t4 82 rfl rfl, ex_t1 8 rfl rfl, by decide, fun _ => ⟨ex_t4 81 rfl rfl, by decide +kernel⟩, fun h => absurd h (by decide)⟩
set_option maxRecDepth 20000 in
theorem om_X7_has : ex_okM m_X7_has false := ⟨by decide +kernel, rfl, ⟨by decide +kernel, by decide +kernel⟩, ex_t4 107 rfl rfl, ex_t1 8 rfl rfl, by decide, fun _ => ⟨ex_t4 106 rfl rfl, by decide +kernel⟩, fun h => absurd h (by decide)⟩
set_option maxRecDepth 20000 in
theorem om_X7_isChild : ex_okM m_X7_isChild true := ⟨by decide +kernel, rfl, ⟨by decide +kernel, by decide +kernel⟩, ex_t4 94 rfl rfl, ex_t1 8 rfl rfl, by decide, fun h => absurd h (by decide), fun _ => ⟨ex_t4 93 rfl rfl, by decide +kernel⟩⟩
set_option maxRecDepth 20000 in
theorem os_X7_isChild : Cond.selects (m_X7_isChild).2.1.cls (m_X7_isChild).2.1 (m_X7_isChild).2.1 ∈ ex_tbl := ex_tbl_of (List.mem_append_left _ (List.mem_map.mpr ⟨(yX7_isChild, 34), List.mem_append_right _ (List.mem_append_left _ (List.mem_of_getElem? (i := 8) rfl)), rfl⟩)) rfl
set_option maxRecDepth 20000 in
theorem om_X7_isThing : ex_okM m_X7_isThing false := ⟨by decide +kernel, rfl, ⟨by decide +kernel, by decide +kernel⟩, ex_t4 97 rfl rfl, ex_t1 8 rfl rfl, by decide, fun _ => ⟨ex_t4 96 rfl rfl, by decide +kernel⟩, fun h => absurd h (by decide)⟩
set_option maxRecDepth 20000 in
theorem om_X7_areTwo : ex_okM m_X7_areTwo true := ⟨by decide +kernel, rfl, ⟨by decide +kernel, by decide +kernel⟩, ex_t4 115 rfl rfl, ex_t1 8 rfl rfl, by decide, fun h => absurd h (by decide), fun _ => ⟨ex_t4 114 rfl rfl, by decide +kernel⟩⟩
set_option maxRecDepth 20000 in
theorem os_X7_areTwo : Cond.selects (m_X7_areTwo).2.1.cls (m_X7_areTwo).2.1 (m_X7_areTwo).2.1 ∈ ex_tbl := ex_tbl_of (List.mem_append_left _ (List.mem_map.mpr ⟨(yX7_areTwo, 34), List.mem_append_right _ (List.mem_append_left _ (List.mem_of_getElem? (i := 9) rfl)), rfl⟩)) rfl
set_option maxRecDepth 20000 in
theorem om_X7_add : ex_okM m_X7_add true := ⟨by decide +kernel, rfl, ⟨by decide +kernel, by decide +kernel⟩, ex_t4 86 rfl rfl, ex_t1 8 rfl rfl, by decide, fun h => absurd h (by decide), fun _ => ⟨ex_t4 85 rfl rfl, by decide +kernel⟩⟩
set_option maxRecDepth 20000 in
theorem os_X7_add : Cond.selects (m_X7_add).2.1.cls (m_X7_add).2.1 (m_X7_add).2.1 ∈ ex_tbl := ex_tbl_of (List.mem_append_left _ (List.mem_map.mpr ⟨(yX7_add, 34), List.mem_append_right _ (List.mem_append_left _ (List.mem_of_getElem? (i := 7) rfl)), rfl⟩)) rfl
set_option maxRecDepth 20000 in
theorem om_X7_child : ex_okM m_X7_child true := ⟨by decide +kernel, rfl, ⟨by decide +kernel, by decide +kernel⟩, ex_t4 78 rfl rfl, ex_t1 8 rfl rfl, by decide, fun h => absurd h (by decide), fun _ => ⟨ex_t4 76 rfl rfl, by decide +kernel⟩⟩
set_option maxRecDepth 20000 in
theorem os_X7_child : Cond.selects (m_X7_child).2.1.cls (m_X7_child).2.1 (m_X7_child).2.1 ∈ ex_tbl := ex_t4 77 rfl rfl
set_option maxRecDepth 20000 in
theorem om_X7_know : ex_okM m_X7_know true := ⟨by decide +kernel, rfl, ⟨by decide +kernel, by decide +kernel⟩, ex_t4 90 rfl rfl, ex_t1 8 rfl rfl, by decide, fun h => absurd h (by decide), fun _ => ⟨ex_t4 88 rfl rfl, by decide +kernel⟩⟩
set_option maxRecDepth 20000 in
theorem os_X7_know : Cond.selects (m_X7_know).2.1.cls (m_X7_know).2.1 (m_X7_know).2.1 ∈ ex_tbl := ex_t4 89 rfl rfl
set_option maxRecDepth 20000 in
theorem om_X7_need : ex_okM m_X7_need true := ⟨by decide +kernel, rfl, ⟨by decide +kernel, by decide +kernel⟩, ex_t4 103 rfl rfl, ex_t1 8 rfl rfl, by decide, fun h => absurd h (by decide), fun _ => ⟨ex_t4 101 rfl rfl, by decide +kernel⟩⟩
set_option maxRecDepth 20000 in
theorem os_X7_need : Cond.selects (m_X7_need).2.1.cls (m_X7_need).2.1 (m_X7_need).2.1 ∈ ex_tbl := ex_t4 102 rfl rfl
set_option maxRecDepth 20000 in
theorem om_X7_hears : ex_okM m_X7_hears true := ⟨by decide +kernel, rfl, ⟨by decide +kernel, by decide +kernel⟩, ex_t4 111 rfl rfl, ex_t1 8 rfl rfl, by decide, fun h => absurd h (by decide), fun _ => ⟨ex_t4 109 rfl rfl, by decide +kernel⟩⟩
set_option maxRecDepth 20000 in
theorem os_X7_hears : Cond.selects (m_X7_hears).2.1.cls (m_X7_hears).2.1 (m_X7_hears).2.1 ∈ ex_tbl := ex_t4 110 rfl rfl
set_option maxRecDepth 20000 in
theorem om_X7_knownTo : ex_okM m_X7_knownTo true := ⟨by decide +kernel, rfl, ⟨by decide +kernel, by decide +kernel⟩, ex_t4 124 rfl rfl, ex_t1 8 rfl rfl, by decide, fun h => absurd h (by decide), fun _ => ⟨ex_t4 123 rfl rfl, by decide +kernel⟩⟩
set_option maxRecDepth 20000 in
theorem os_X7_knownTo : Cond.selects (m_X7_knownTo).2.1.cls (m_X7_knownTo).2.1 (m_X7_knownTo).2.1 ∈ ex_tbl := ex_tbl_of (List.mem_append_left _ (List.mem_map.mpr ⟨(yX7_knownTo, 34), List.mem_append_right _ (List.mem_append_left _ (List.mem_of_getElem? (i := 10) rfl)), rfl⟩)) rfl
set_option maxRecDepth 20000 in
theorem om_X7_told : ex_okM m_X7_told true := ⟨by decide +kernel, rfl, ⟨by decide +kernel, by decide +kernel⟩, ex_t4 119 rfl rfl, ex_t1 8 rfl rfl, by decide, fun h => absurd h (by decide), fun _ => ⟨ex_t4 117 rfl rfl, by decide +kernel⟩⟩
set_option maxRecDepth 20000 in
theorem os_X7_told : Cond.selects (m_X7_told).2.1.cls (m_X7_told).2.1 (m_X7_told).2.1 ∈ ex_tbl := ex_t4 118 rfl rfl
set_option maxRecDepth 20000 in
theorem om_X7_pass : ex_okM m_X7_pass false := ⟨by decide +kernel, rfl, ⟨by decide +kernel, by decide +kernel⟩, ex_t4 131 rfl rfl, ex_t1 8 rfl rfl, by decide, fun _ => ⟨ex_t4 130 rfl rfl, by decide +kernel⟩, fun h => absurd h (by decide)⟩
set_option maxRecDepth 20000 in
theorem om_X7_passes : ex_okM m_X7_passes true := ⟨by decide +kernel, rfl, ⟨by decide +kernel, by decide +kernel⟩, ex_t4 128 rfl rfl, ex_t1 8 rfl rfl, by decide, fun h => absurd h (by decide), fun _ => ⟨ex_t4 126 rfl rfl, by decide +kernel⟩⟩
set_option maxRecDepth 20000 in
theorem os_X7_passes : Cond.selects (m_X7_passes).2.1.cls (m_X7_passes).2.1 (m_X7_passes).2.1 ∈ ex_tbl := ex_t4 127 rfl rfl
set_option maxRecDepth 20000 in
theorem om_X7_count : ex_okM m_X7_count true := ⟨by decide +kernel, rfl, ⟨by decide +kernel, by decide +kernel⟩, ex_t4 135 rfl rfl, ex_t1 8 rfl rfl, by decide, fun h => absurd h (by decide), fun _ => ⟨ex_t4 133 rfl rfl, by decide +kernel⟩⟩
set_option maxRecDepth 20000 in
theorem os_X7_count : Cond.selects (m_X7_count).2.1.cls (m_X7_count).2.1 (m_X7_count).2.1 ∈ ex_tbl := ex_t4 134 rfl rfl
set_option maxRecDepth 20000 in
theorem om_X7_type : ex_okM m_X7_type true := ⟨by decide +kernel, rfl, ⟨by decide +kernel, by decide +kernel⟩, ex_t4 139 rfl rfl, ex_t1 8 rfl rfl, by decide, fun h => absurd h (by decide), fun _ => ⟨ex_t4 137 rfl rfl, by decide +kernel⟩⟩
set_option maxRecDepth 20000 in
theorem os_X7_type : Cond.selects (m_X7_type).2.1.cls (m_X7_type).2.1 (m_X7_type).2.1 ∈ ex_tbl := ex_t4 138 rfl rfl
set_option maxRecDepth 20000 in
theorem om_X7_nextByte : ex_okM m_X7_nextByte true := ⟨by decide +kernel, rfl, ⟨by decide +kernel, by decide +kernel⟩, ex_t4 159 rfl rfl, ex_t1 8 rfl rfl, by decide, fun h => absurd h (by decide), fun _ => ⟨ex_t4 158 rfl rfl, by decide +kernel⟩⟩
set_option maxRecDepth 20000 in
theorem os_X7_nextByte : Cond.selects (m_X7_nextByte).2.1.cls (m_X7_nextByte).2.1 (m_X7_nextByte).2.1 ∈ ex_tbl := ex_tbl_of (List.mem_append_left _ (List.mem_map.mpr ⟨(yX7_nextByte, 34), List.mem_append_right _ (List.mem_append_left _ (List.mem_of_getElem? (i := 13) rfl)), rfl⟩)) rfl
set_option maxRecDepth 20000 in
theorem om_X7_readChild : ex_okM m_X7_readChild true := ⟨by decide +kernel, rfl, ⟨by decide +kernel, by decide +kernel⟩, ex_t4 155 rfl rfl, ex_t1 8 rfl rfl, by decide, fun h => absurd h (by decide), fun _ => ⟨ex_t4 154 rfl rfl, by decide +kernel⟩⟩
set_option maxRecDepth 20000 in
theorem os_X7_readChild : Cond.selects (m_X7_readChild).2.1.cls (m_X7_readChild).2.1 (m_X7_readChild).2.1 ∈ ex_tbl := ex_tbl_of (List.mem_append_left _ (List.mem_map.mpr ⟨(yX7_readChild, 34), List.mem_append_right _ (List.mem_append_left _ (List.mem_of_getElem? (i := 12) rfl)), rfl⟩)) rfl
set_option maxRecDepth 20000 in
theorem om_X7_readSchool : ex_okM m_X7_readSchool true := ⟨by decide +kernel, rfl, ⟨by decide +kernel, by decide +kernel⟩, ex_t4 151 rfl rfl, ex_t1 8 rfl rfl, by decide, fun h => absurd h (by decide), fun _ => ⟨ex_t4 150 rfl rfl, by decide +kernel⟩⟩
set_option maxRecDepth 20000 in
theorem os_X7_readSchool : Cond.selects (m_X7_readSchool).2.1.cls (m_X7_readSchool).2.1 (m_X7_readSchool).2.1 ∈ ex_tbl := ex_tbl_of (List.mem_append_left _ (List.mem_map.mpr ⟨(yX7_readSchool, 34), List.mem_append_right _ (List.mem_append_left _ (List.mem_of_getElem? (i := 11) rfl)), rfl⟩)) rfl
set_option maxRecDepth 20000 in
theorem om_X7_school : ex_okM m_X7_school true := ⟨by decide +kernel, rfl, ⟨by decide +kernel, by decide +kernel⟩, ex_t4 147 rfl rfl, ex_t1 8 rfl rfl, by decide, fun h => absurd h (by decide), fun _ => ⟨ex_t4 145 rfl rfl, by decide +kernel⟩⟩
set_option maxRecDepth 20000 in
theorem os_X7_school : Cond.selects (m_X7_school).2.1.cls (m_X7_school).2.1 (m_X7_school).2.1 ∈ ex_tbl := ex_t4 146 rfl rfl
set_option maxRecDepth 20000 in
theorem om_X7_readTeaching : ex_okM m_X7_readTeaching true := ⟨by decide +kernel, rfl, ⟨by decide +kernel, by decide +kernel⟩, ex_t4 173 rfl rfl, ex_t1 8 rfl rfl, by decide, fun h => absurd h (by decide), fun _ => ⟨ex_t4 172 rfl rfl, by decide +kernel⟩⟩
set_option maxRecDepth 20000 in
theorem os_X7_readTeaching : Cond.selects (m_X7_readTeaching).2.1.cls (m_X7_readTeaching).2.1 (m_X7_readTeaching).2.1 ∈ ex_tbl := ex_tbl_of (List.mem_append_left _ (List.mem_map.mpr ⟨(yX7_readTeaching, 34), List.mem_append_right _ (List.mem_append_left _ (List.mem_of_getElem? (i := 15) rfl)), rfl⟩)) rfl
set_option maxRecDepth 20000 in
theorem om_X7_readPlan : ex_okM m_X7_readPlan true := ⟨by decide +kernel, rfl, ⟨by decide +kernel, by decide +kernel⟩, ex_t4 169 rfl rfl, ex_t1 8 rfl rfl, by decide, fun h => absurd h (by decide), fun _ => ⟨ex_t4 168 rfl rfl, by decide +kernel⟩⟩
set_option maxRecDepth 20000 in
theorem os_X7_readPlan : Cond.selects (m_X7_readPlan).2.1.cls (m_X7_readPlan).2.1 (m_X7_readPlan).2.1 ∈ ex_tbl := ex_tbl_of (List.mem_append_left _ (List.mem_map.mpr ⟨(yX7_readPlan, 34), List.mem_append_right _ (List.mem_append_left _ (List.mem_of_getElem? (i := 14) rfl)), rfl⟩)) rfl
set_option maxRecDepth 20000 in
theorem om_X7_plan : ex_okM m_X7_plan true := ⟨by decide +kernel, rfl, ⟨by decide +kernel, by decide +kernel⟩, ex_t4 165 rfl rfl, ex_t1 8 rfl rfl, by decide, fun h => absurd h (by decide), fun _ => ⟨ex_t4 163 rfl rfl, by decide +kernel⟩⟩
set_option maxRecDepth 20000 in
theorem os_X7_plan : Cond.selects (m_X7_plan).2.1.cls (m_X7_plan).2.1 (m_X7_plan).2.1 ∈ ex_tbl := ex_t4 164 rfl rfl
set_option maxRecDepth 20000 in
theorem om_X7_mayBe : ex_okM m_X7_mayBe true := ⟨by decide +kernel, rfl, ⟨by decide +kernel, by decide +kernel⟩, ex_t4 181 rfl rfl, ex_t1 8 rfl rfl, by decide, fun h => absurd h (by decide), fun _ => ⟨ex_t4 180 rfl rfl, by decide +kernel⟩⟩
set_option maxRecDepth 20000 in
theorem os_X7_mayBe : Cond.selects (m_X7_mayBe).2.1.cls (m_X7_mayBe).2.1 (m_X7_mayBe).2.1 ∈ ex_tbl := ex_tbl_of (List.mem_append_left _ (List.mem_map.mpr ⟨(yX7_mayBe, 34), List.mem_append_right _ (List.mem_append_right _ (List.mem_of_getElem? (i := 0) rfl)), rfl⟩)) rfl
set_option maxRecDepth 20000 in
theorem om_X7_teachNow : ex_okM m_X7_teachNow true := ⟨by decide +kernel, rfl, ⟨by decide +kernel, by decide +kernel⟩, ex_t4 189 rfl rfl, ex_t1 8 rfl rfl, by decide, fun h => absurd h (by decide), fun _ => ⟨ex_t4 188 rfl rfl, by decide +kernel⟩⟩
set_option maxRecDepth 20000 in
theorem os_X7_teachNow : Cond.selects (m_X7_teachNow).2.1.cls (m_X7_teachNow).2.1 (m_X7_teachNow).2.1 ∈ ex_tbl := ex_tbl_of (List.mem_append_left _ (List.mem_map.mpr ⟨(yX7_teachNow, 34), List.mem_append_right _ (List.mem_append_right _ (List.mem_of_getElem? (i := 1) rfl)), rfl⟩)) rfl
set_option maxRecDepth 20000 in
theorem om_X7_may : ex_okM m_X7_may true := ⟨by decide +kernel, rfl, ⟨by decide +kernel, by decide +kernel⟩, ex_t4 177 rfl rfl, ex_t1 8 rfl rfl, by decide, fun h => absurd h (by decide), fun _ => ⟨ex_t4 175 rfl rfl, by decide +kernel⟩⟩
set_option maxRecDepth 20000 in
theorem os_X7_may : Cond.selects (m_X7_may).2.1.cls (m_X7_may).2.1 (m_X7_may).2.1 ∈ ex_tbl := ex_t4 176 rfl rfl
set_option maxRecDepth 20000 in
theorem om_X7_teach : ex_okM m_X7_teach true := ⟨by decide +kernel, rfl, ⟨by decide +kernel, by decide +kernel⟩, ex_t4 185 rfl rfl, ex_t1 8 rfl rfl, by decide, fun h => absurd h (by decide), fun _ => ⟨ex_t4 183 rfl rfl, by decide +kernel⟩⟩
set_option maxRecDepth 20000 in
theorem os_X7_teach : Cond.selects (m_X7_teach).2.1.cls (m_X7_teach).2.1 (m_X7_teach).2.1 ∈ ex_tbl := ex_t4 184 rfl rfl
set_option maxRecDepth 20000 in
theorem om_X7_run : ex_okM m_X7_run true := ⟨by decide +kernel, rfl, ⟨by decide +kernel, by decide +kernel⟩, ex_t4 194 rfl rfl, ex_t1 8 rfl rfl, by decide, fun h => absurd h (by decide), fun _ => ⟨ex_t4 192 rfl rfl, by decide +kernel⟩⟩
set_option maxRecDepth 20000 in
theorem os_X7_run : Cond.selects (m_X7_run).2.1.cls (m_X7_run).2.1 (m_X7_run).2.1 ∈ ex_tbl := ex_t4 193 rfl rfl
set_option maxRecDepth 20000 in
theorem om_X7_ones : ex_okM m_X7_ones false := ⟨by decide +kernel, rfl, ⟨by decide +kernel, by decide +kernel⟩, ex_t4 201 rfl rfl, ex_t1 8 rfl rfl, by decide, fun _ => ⟨ex_t4 200 rfl rfl, by decide +kernel⟩, fun h => absurd h (by decide)⟩
set_option maxRecDepth 20000 in
theorem om_X7_mayTeach : ex_okM m_X7_mayTeach true := ⟨by decide +kernel, rfl, ⟨by decide +kernel, by decide +kernel⟩, ex_t4 209 rfl rfl, ex_t1 8 rfl rfl, by decide, fun h => absurd h (by decide), fun _ => ⟨ex_t4 208 rfl rfl, by decide +kernel⟩⟩
set_option maxRecDepth 20000 in
theorem os_X7_mayTeach : Cond.selects (m_X7_mayTeach).2.1.cls (m_X7_mayTeach).2.1 (m_X7_mayTeach).2.1 ∈ ex_tbl := ex_tbl_of (List.mem_append_left _ (List.mem_map.mpr ⟨(yX7_mayTeach, 34), List.mem_append_right _ (List.mem_append_right _ (List.mem_of_getElem? (i := 3) rfl)), rfl⟩)) rfl
set_option maxRecDepth 20000 in
theorem om_X7_goOn : ex_okM m_X7_goOn true := ⟨by decide +kernel, rfl, ⟨by decide +kernel, by decide +kernel⟩, ex_t4 205 rfl rfl, ex_t1 8 rfl rfl, by decide, fun h => absurd h (by decide), fun _ => ⟨ex_t4 204 rfl rfl, by decide +kernel⟩⟩
set_option maxRecDepth 20000 in
theorem os_X7_goOn : Cond.selects (m_X7_goOn).2.1.cls (m_X7_goOn).2.1 (m_X7_goOn).2.1 ∈ ex_tbl := ex_tbl_of (List.mem_append_left _ (List.mem_map.mpr ⟨(yX7_goOn, 34), List.mem_append_right _ (List.mem_append_right _ (List.mem_of_getElem? (i := 2) rfl)), rfl⟩)) rfl
set_option maxRecDepth 20000 in
theorem om_X7_hours : ex_okM m_X7_hours true := ⟨by decide +kernel, rfl, ⟨by decide +kernel, by decide +kernel⟩, ex_t4 198 rfl rfl, ex_t1 8 rfl rfl, by decide, fun h => absurd h (by decide), fun _ => ⟨ex_t4 196 rfl rfl, by decide +kernel⟩⟩
set_option maxRecDepth 20000 in
theorem os_X7_hours : Cond.selects (m_X7_hours).2.1.cls (m_X7_hours).2.1 (m_X7_hours).2.1 ∈ ex_tbl := ex_t4 197 rfl rfl
set_option maxRecDepth 20000 in
theorem om_X7_bound : ex_okM m_X7_bound true := ⟨by decide +kernel, rfl, ⟨by decide +kernel, by decide +kernel⟩, ex_t4 213 rfl rfl, ex_t1 8 rfl rfl, by decide, fun h => absurd h (by decide), fun _ => ⟨ex_t4 211 rfl rfl, by decide +kernel⟩⟩
set_option maxRecDepth 20000 in
theorem os_X7_bound : Cond.selects (m_X7_bound).2.1.cls (m_X7_bound).2.1 (m_X7_bound).2.1 ∈ ex_tbl := ex_t4 212 rfl rfl
set_option maxRecDepth 20000 in
theorem om_X7_goWithout : ex_okM m_X7_goWithout true := ⟨by decide +kernel, rfl, ⟨by decide +kernel, by decide +kernel⟩, ex_t4 221 rfl rfl, ex_t1 8 rfl rfl, by decide, fun h => absurd h (by decide), fun _ => ⟨ex_t4 220 rfl rfl, by decide +kernel⟩⟩
set_option maxRecDepth 20000 in
theorem os_X7_goWithout : Cond.selects (m_X7_goWithout).2.1.cls (m_X7_goWithout).2.1 (m_X7_goWithout).2.1 ∈ ex_tbl := ex_tbl_of (List.mem_append_left _ (List.mem_map.mpr ⟨(yX7_goWithout, 34), List.mem_append_right _ (List.mem_append_right _ (List.mem_of_getElem? (i := 4) rfl)), rfl⟩)) rfl
set_option maxRecDepth 20000 in
theorem om_X7_bringBack : ex_okM m_X7_bringBack true := ⟨by decide +kernel, rfl, ⟨by decide +kernel, by decide +kernel⟩, ex_t4 225 rfl rfl, ex_t1 8 rfl rfl, by decide, fun h => absurd h (by decide), fun _ => ⟨ex_t4 224 rfl rfl, by decide +kernel⟩⟩
set_option maxRecDepth 20000 in
theorem os_X7_bringBack : Cond.selects (m_X7_bringBack).2.1.cls (m_X7_bringBack).2.1 (m_X7_bringBack).2.1 ∈ ex_tbl := ex_tbl_of (List.mem_append_left _ (List.mem_map.mpr ⟨(yX7_bringBack, 34), List.mem_append_right _ (List.mem_append_right _ (List.mem_of_getElem? (i := 5) rfl)), rfl⟩)) rfl
set_option maxRecDepth 20000 in
theorem om_X7_spared : ex_okM m_X7_spared true := ⟨by decide +kernel, rfl, ⟨by decide +kernel, by decide +kernel⟩, ex_t4 217 rfl rfl, ex_t1 8 rfl rfl, by decide, fun h => absurd h (by decide), fun _ => ⟨ex_t4 215 rfl rfl, by decide +kernel⟩⟩
set_option maxRecDepth 20000 in
theorem os_X7_spared : Cond.selects (m_X7_spared).2.1.cls (m_X7_spared).2.1 (m_X7_spared).2.1 ∈ ex_tbl := ex_t4 216 rfl rfl
set_option maxRecDepth 20000 in
theorem om_X7_order : ex_okM m_X7_order true := ⟨by decide +kernel, rfl, ⟨by decide +kernel, by decide +kernel⟩, ex_t4 229 rfl rfl, ex_t1 8 rfl rfl, by decide, fun h => absurd h (by decide), fun _ => ⟨ex_t4 227 rfl rfl, by decide +kernel⟩⟩
set_option maxRecDepth 20000 in
theorem os_X7_order : Cond.selects (m_X7_order).2.1.cls (m_X7_order).2.1 (m_X7_order).2.1 ∈ ex_tbl := ex_t4 228 rfl rfl
set_option maxRecDepth 20000 in
theorem om_X7_canHave : ex_okM m_X7_canHave true := ⟨by decide +kernel, rfl, ⟨by decide +kernel, by decide +kernel⟩, ex_t5 5 rfl rfl, ex_t1 8 rfl rfl, by decide, fun h => absurd h (by decide), fun _ => ⟨ex_t5 4 rfl rfl, by decide +kernel⟩⟩
set_option maxRecDepth 20000 in
theorem os_X7_canHave : Cond.selects (m_X7_canHave).2.1.cls (m_X7_canHave).2.1 (m_X7_canHave).2.1 ∈ ex_tbl := ex_tbl_of (List.mem_append_left _ (List.mem_map.mpr ⟨(yX7_canHave, 34), List.mem_append_right _ (List.mem_append_right _ (List.mem_of_getElem? (i := 8) rfl)), rfl⟩)) rfl
set_option maxRecDepth 20000 in
theorem om_X7_isWay : ex_okM m_X7_isWay true := ⟨by decide +kernel, rfl, ⟨by decide +kernel, by decide +kernel⟩, ex_t5 1 rfl rfl, ex_t1 8 rfl rfl, by decide, fun h => absurd h (by decide), fun _ => ⟨ex_t5 0 rfl rfl, by decide +kernel⟩⟩
set_option maxRecDepth 20000 in
theorem os_X7_isWay : Cond.selects (m_X7_isWay).2.1.cls (m_X7_isWay).2.1 (m_X7_isWay).2.1 ∈ ex_tbl := ex_tbl_of (List.mem_append_left _ (List.mem_map.mpr ⟨(yX7_isWay, 34), List.mem_append_right _ (List.mem_append_right _ (List.mem_of_getElem? (i := 7) rfl)), rfl⟩)) rfl
set_option maxRecDepth 20000 in
theorem om_X7_nextRow : ex_okM m_X7_nextRow true := ⟨by decide +kernel, rfl, ⟨by decide +kernel, by decide +kernel⟩, ex_t5 9 rfl rfl, ex_t1 8 rfl rfl, by decide, fun h => absurd h (by decide), fun _ => ⟨ex_t5 8 rfl rfl, by decide +kernel⟩⟩
set_option maxRecDepth 20000 in
theorem os_X7_nextRow : Cond.selects (m_X7_nextRow).2.1.cls (m_X7_nextRow).2.1 (m_X7_nextRow).2.1 ∈ ex_tbl := ex_tbl_of (List.mem_append_left _ (List.mem_map.mpr ⟨(yX7_nextRow, 34), List.mem_append_right _ (List.mem_append_right _ (List.mem_of_getElem? (i := 9) rfl)), rfl⟩)) rfl
set_option maxRecDepth 20000 in
theorem om_X7_findWays : ex_okM m_X7_findWays true := ⟨by decide +kernel, rfl, ⟨by decide +kernel, by decide +kernel⟩, ex_t4 237 rfl rfl, ex_t1 8 rfl rfl, by decide, fun h => absurd h (by decide), fun _ => ⟨ex_t4 236 rfl rfl, by decide +kernel⟩⟩
set_option maxRecDepth 20000 in
theorem os_X7_findWays : Cond.selects (m_X7_findWays).2.1.cls (m_X7_findWays).2.1 (m_X7_findWays).2.1 ∈ ex_tbl := ex_tbl_of (List.mem_append_left _ (List.mem_map.mpr ⟨(yX7_findWays, 34), List.mem_append_right _ (List.mem_append_right _ (List.mem_of_getElem? (i := 6) rfl)), rfl⟩)) rfl
set_option maxRecDepth 20000 in
theorem om_X7_mouths : ex_okM m_X7_mouths true := ⟨by decide +kernel, rfl, ⟨by decide +kernel, by decide +kernel⟩, ex_t4 233 rfl rfl, ex_t1 8 rfl rfl, by decide, fun h => absurd h (by decide), fun _ => ⟨ex_t4 231 rfl rfl, by decide +kernel⟩⟩
set_option maxRecDepth 20000 in
theorem os_X7_mouths : Cond.selects (m_X7_mouths).2.1.cls (m_X7_mouths).2.1 (m_X7_mouths).2.1 ∈ ex_tbl := ex_t4 232 rfl rfl
set_option maxRecDepth 20000 in
theorem om_X7_from : ex_okM m_X7_from true := ⟨by decide +kernel, rfl, ⟨by decide +kernel, by decide +kernel⟩, ex_t5 13 rfl rfl, ex_t1 8 rfl rfl, by decide, fun h => absurd h (by decide), fun _ => ⟨ex_t5 11 rfl rfl, by decide +kernel⟩⟩
set_option maxRecDepth 20000 in
theorem os_X7_from : Cond.selects (m_X7_from).2.1.cls (m_X7_from).2.1 (m_X7_from).2.1 ∈ ex_tbl := ex_t5 12 rfl rfl
set_option maxRecDepth 20000 in
theorem om_X7_lesson : ex_okM m_X7_lesson true := ⟨by decide +kernel, rfl, ⟨by decide +kernel, by decide +kernel⟩, ex_t5 22 rfl rfl, ex_t1 8 rfl rfl, by decide, fun h => absurd h (by decide), fun _ => ⟨ex_t5 21 rfl rfl, by decide +kernel⟩⟩
set_option maxRecDepth 20000 in
theorem os_X7_lesson : Cond.selects (m_X7_lesson).2.1.cls (m_X7_lesson).2.1 (m_X7_lesson).2.1 ∈ ex_tbl := ex_tbl_of (List.mem_append_left _ (List.mem_map.mpr ⟨(yX7_lesson, 34), List.mem_append_right _ (List.mem_append_right _ (List.mem_of_getElem? (i := 10) rfl)), rfl⟩)) rfl
set_option maxRecDepth 20000 in
theorem om_X7_lessons : ex_okM m_X7_lessons true := ⟨by decide +kernel, rfl, ⟨by decide +kernel, by decide +kernel⟩, ex_t5 17 rfl rfl, ex_t1 8 rfl rfl, by decide, fun h => absurd h (by decide), fun _ => ⟨ex_t5 15 rfl rfl, by decide +kernel⟩⟩
set_option maxRecDepth 20000 in
theorem os_X7_lessons : Cond.selects (m_X7_lessons).2.1.cls (m_X7_lessons).2.1 (m_X7_lessons).2.1 ∈ ex_tbl := ex_t5 16 rfl rfl
set_option maxRecDepth 20000 in
theorem om_X7_seed : ex_okM m_X7_seed true := ⟨by decide +kernel, rfl, ⟨by decide +kernel, by decide +kernel⟩, ex_t5 30 rfl rfl, ex_t1 8 rfl rfl, by decide, fun h => absurd h (by decide), fun _ => ⟨ex_t5 28 rfl rfl, by decide +kernel⟩⟩
set_option maxRecDepth 20000 in
theorem os_X7_seed : Cond.selects (m_X7_seed).2.1.cls (m_X7_seed).2.1 (m_X7_seed).2.1 ∈ ex_tbl := ex_t5 29 rfl rfl
set_option maxRecDepth 20000 in
theorem om_X7_carried : ex_okM m_X7_carried true := ⟨by decide +kernel, rfl, ⟨by decide +kernel, by decide +kernel⟩, ex_t5 38 rfl rfl, ex_t1 8 rfl rfl, by decide, fun h => absurd h (by decide), fun _ => ⟨ex_t5 37 rfl rfl, by decide +kernel⟩⟩
set_option maxRecDepth 20000 in
theorem os_X7_carried : Cond.selects (m_X7_carried).2.1.cls (m_X7_carried).2.1 (m_X7_carried).2.1 ∈ ex_tbl := ex_tbl_of (List.mem_append_left _ (List.mem_map.mpr ⟨(yX7_carried, 34), List.mem_append_right _ (List.mem_append_right _ (List.mem_of_getElem? (i := 11) rfl)), rfl⟩)) rfl
set_option maxRecDepth 20000 in
theorem om_X7_image : ex_okM m_X7_image true := ⟨by decide +kernel, rfl, ⟨by decide +kernel, by decide +kernel⟩, ex_t5 34 rfl rfl, ex_t1 8 rfl rfl, by decide, fun h => absurd h (by decide), fun _ => ⟨ex_t5 32 rfl rfl, by decide +kernel⟩⟩
set_option maxRecDepth 20000 in
theorem os_X7_image : Cond.selects (m_X7_image).2.1.cls (m_X7_image).2.1 (m_X7_image).2.1 ∈ ex_tbl := ex_t5 33 rfl rfl
set_option maxRecDepth 20000 in
theorem om_X7_restore : ex_okM m_X7_restore true := ⟨by decide +kernel, rfl, ⟨by decide +kernel, by decide +kernel⟩, ex_t5 42 rfl rfl, ex_t1 8 rfl rfl, by decide, fun h => absurd h (by decide), fun _ => ⟨ex_t5 40 rfl rfl, by decide +kernel⟩⟩
set_option maxRecDepth 20000 in
theorem os_X7_restore : Cond.selects (m_X7_restore).2.1.cls (m_X7_restore).2.1 (m_X7_restore).2.1 ∈ ex_tbl := ex_t5 41 rfl rfl
set_option maxRecDepth 20000 in
theorem om_X7_isSheet : ex_okM m_X7_isSheet false := ⟨by decide +kernel, rfl, ⟨by decide +kernel, by decide +kernel⟩, ex_t5 49 rfl rfl, ex_t1 8 rfl rfl, by decide, fun _ => ⟨ex_t5 48 rfl rfl, by decide +kernel⟩, fun h => absurd h (by decide)⟩
set_option maxRecDepth 20000 in
theorem om_X7_sheet : ex_okM m_X7_sheet true := ⟨by decide +kernel, rfl, ⟨by decide +kernel, by decide +kernel⟩, ex_t5 46 rfl rfl, ex_t1 8 rfl rfl, by decide, fun h => absurd h (by decide), fun _ => ⟨ex_t5 44 rfl rfl, by decide +kernel⟩⟩
set_option maxRecDepth 20000 in
theorem os_X7_sheet : Cond.selects (m_X7_sheet).2.1.cls (m_X7_sheet).2.1 (m_X7_sheet).2.1 ∈ ex_tbl := ex_t5 45 rfl rfl
set_option maxRecDepth 20000 in
theorem om_X7_drop : ex_okM m_X7_drop true := ⟨by decide +kernel, rfl, ⟨by decide +kernel, by decide +kernel⟩, ex_t5 54 rfl rfl, ex_t1 8 rfl rfl, by decide, fun h => absurd h (by decide), fun _ => ⟨ex_t5 52 rfl rfl, by decide +kernel⟩⟩
set_option maxRecDepth 20000 in
theorem os_X7_drop : Cond.selects (m_X7_drop).2.1.cls (m_X7_drop).2.1 (m_X7_drop).2.1 ∈ ex_tbl := ex_t5 53 rfl rfl
set_option maxRecDepth 20000 in
theorem om_X7_lacksRow : ex_okM m_X7_lacksRow true := ⟨by decide +kernel, rfl, ⟨by decide +kernel, by decide +kernel⟩, ex_t5 62 rfl rfl, ex_t1 8 rfl rfl, by decide, fun h => absurd h (by decide), fun _ => ⟨ex_t5 61 rfl rfl, by decide +kernel⟩⟩
set_option maxRecDepth 20000 in
theorem os_X7_lacksRow : Cond.selects (m_X7_lacksRow).2.1.cls (m_X7_lacksRow).2.1 (m_X7_lacksRow).2.1 ∈ ex_tbl := ex_tbl_of (List.mem_append_left _ (List.mem_map.mpr ⟨(yX7_lacksRow, 34), List.mem_append_right _ (List.mem_append_right _ (List.mem_of_getElem? (i := 12) rfl)), rfl⟩)) rfl
set_option maxRecDepth 20000 in
theorem om_X7_item : ex_okM m_X7_item true := ⟨by decide +kernel, rfl, ⟨by decide +kernel, by decide +kernel⟩, ex_t5 58 rfl rfl, ex_t1 8 rfl rfl, by decide, fun h => absurd h (by decide), fun _ => ⟨ex_t5 56 rfl rfl, by decide +kernel⟩⟩
set_option maxRecDepth 20000 in
theorem os_X7_item : Cond.selects (m_X7_item).2.1.cls (m_X7_item).2.1 (m_X7_item).2.1 ∈ ex_tbl := ex_t5 57 rfl rfl
set_option maxRecDepth 20000 in
theorem om_X7_hour : ex_okM m_X7_hour true := ⟨by decide +kernel, rfl, ⟨by decide +kernel, by decide +kernel⟩, ex_t5 66 rfl rfl, ex_t1 8 rfl rfl, by decide, fun h => absurd h (by decide), fun _ => ⟨ex_t5 64 rfl rfl, by decide +kernel⟩⟩
set_option maxRecDepth 20000 in
theorem os_X7_hour : Cond.selects (m_X7_hour).2.1.cls (m_X7_hour).2.1 (m_X7_hour).2.1 ∈ ex_tbl := ex_t5 65 rfl rfl
set_option maxRecDepth 20000 in
theorem om_X7_film : ex_okM m_X7_film true := ⟨by decide +kernel, rfl, ⟨by decide +kernel, by decide +kernel⟩, ex_t5 70 rfl rfl, ex_t1 8 rfl rfl, by decide, fun h => absurd h (by decide), fun _ => ⟨ex_t5 68 rfl rfl, by decide +kernel⟩⟩
set_option maxRecDepth 20000 in
theorem os_X7_film : Cond.selects (m_X7_film).2.1.cls (m_X7_film).2.1 (m_X7_film).2.1 ∈ ex_tbl := ex_t5 69 rfl rfl
set_option maxRecDepth 20000 in
theorem om_X7_copy : ex_okM m_X7_copy true := ⟨by decide +kernel, rfl, ⟨by decide +kernel, by decide +kernel⟩, ex_t5 74 rfl rfl, ex_t1 8 rfl rfl, by decide, fun h => absurd h (by decide), fun _ => ⟨ex_t5 72 rfl rfl, by decide +kernel⟩⟩
set_option maxRecDepth 20000 in
theorem os_X7_copy : Cond.selects (m_X7_copy).2.1.cls (m_X7_copy).2.1 (m_X7_copy).2.1 ∈ ex_tbl := ex_t5 73 rfl rfl
set_option maxRecDepth 20000 in
theorem oxV_0 : ∀ a ∈ xV_0, ex_okM (xP a) true ∧ Cond.selects (xP a).2.1.cls (xP a).2.1 (xP a).2.1 ∈ ex_tbl := List.forall_mem_cons.mpr ⟨⟨om_X5_isMissing, os_X5_isMissing⟩, List.forall_mem_cons.mpr ⟨⟨om_X5_holds, os_X5_holds⟩, List.forall_mem_cons.mpr ⟨⟨om_X5_refusal, os_X5_refusal⟩, List.forall_mem_cons.mpr ⟨⟨om_X5_renew, os_X5_renew⟩, List.forall_mem_cons.mpr ⟨⟨om_X5_discard, os_X5_discard⟩, List.forall_mem_cons.mpr ⟨⟨om_X5_put, os_X5_put⟩, List.forall_mem_cons.mpr ⟨⟨om_X0_clear, os_X0_clear⟩, List.forall_mem_cons.mpr ⟨⟨om_X0_isFull, os_X0_isFull⟩, List.forall_mem_cons.mpr ⟨⟨om_X0_add, os_X0_add⟩, List.forall_mem_cons.mpr ⟨⟨om_X0_takeOver, os_X0_takeOver⟩, List.forall_mem_cons.mpr ⟨⟨om_X6_child, os_X6_child⟩, List.forall_mem_cons.mpr ⟨⟨om_X6_know, os_X6_know⟩, List.forall_mem_cons.mpr ⟨⟨om_X6_need, os_X6_need⟩, List.forall_mem_cons.mpr ⟨⟨om_X6_hears, os_X6_hears⟩, List.forall_mem_cons.mpr ⟨⟨om_X6_told, os_X6_told⟩, List.forall_mem_cons.mpr ⟨⟨om_X6_passes, os_X6_passes⟩, fun _ h => absurd h List.not_mem_nil⟩⟩⟩⟩⟩⟩⟩⟩⟩⟩⟩⟩⟩⟩⟩⟩
set_option maxRecDepth 20000 in
theorem oxV_1 : ∀ a ∈ xV_1, ex_okM (xP a) true ∧ Cond.selects (xP a).2.1.cls (xP a).2.1 (xP a).2.1 ∈ ex_tbl := List.forall_mem_cons.mpr ⟨⟨om_X6_type, os_X6_type⟩, List.forall_mem_cons.mpr ⟨⟨om_X6_school, os_X6_school⟩, List.forall_mem_cons.mpr ⟨⟨om_X6_plan, os_X6_plan⟩, List.forall_mem_cons.mpr ⟨⟨om_X6_count, os_X6_count⟩, List.forall_mem_cons.mpr ⟨⟨om_X6_may, os_X6_may⟩, List.forall_mem_cons.mpr ⟨⟨om_X6_teach, os_X6_teach⟩, List.forall_mem_cons.mpr ⟨⟨om_X6_run, os_X6_run⟩, List.forall_mem_cons.mpr ⟨⟨om_X6_hours, os_X6_hours⟩, List.forall_mem_cons.mpr ⟨⟨om_X6_bound, os_X6_bound⟩, List.forall_mem_cons.mpr ⟨⟨om_X6_spared, os_X6_spared⟩, List.forall_mem_cons.mpr ⟨⟨om_X6_order, os_X6_order⟩, List.forall_mem_cons.mpr ⟨⟨om_X6_mouths, os_X6_mouths⟩, List.forall_mem_cons.mpr ⟨⟨om_X6_from, os_X6_from⟩, List.forall_mem_cons.mpr ⟨⟨om_X6_lessons, os_X6_lessons⟩, List.forall_mem_cons.mpr ⟨⟨om_X6_seed, os_X6_seed⟩, List.forall_mem_cons.mpr ⟨⟨om_X6_image, os_X6_image⟩, fun _ h => absurd h List.not_mem_nil⟩⟩⟩⟩⟩⟩⟩⟩⟩⟩⟩⟩⟩⟩⟩⟩
set_option maxRecDepth 20000 in
theorem oxV_2 : ∀ a ∈ xV_2, ex_okM (xP a) true ∧ Cond.selects (xP a).2.1.cls (xP a).2.1 (xP a).2.1 ∈ ex_tbl := List.forall_mem_cons.mpr ⟨⟨om_X6_restore, os_X6_restore⟩, List.forall_mem_cons.mpr ⟨⟨om_X6_hour, os_X6_hour⟩, List.forall_mem_cons.mpr ⟨⟨om_X6_film, os_X6_film⟩, List.forall_mem_cons.mpr ⟨⟨om_X6_sheet, os_X6_sheet⟩, List.forall_mem_cons.mpr ⟨⟨om_X6_drop, os_X6_drop⟩, List.forall_mem_cons.mpr ⟨⟨om_X6_item, os_X6_item⟩, List.forall_mem_cons.mpr ⟨⟨om_X6_copy, os_X6_copy⟩, List.forall_mem_cons.mpr ⟨⟨om_X3_isChild, os_X3_isChild⟩, List.forall_mem_cons.mpr ⟨⟨om_X3_isTeaching, os_X3_isTeaching⟩, List.forall_mem_cons.mpr ⟨⟨om_X3_saying, os_X3_saying⟩, List.forall_mem_cons.mpr ⟨⟨om_X3_setSaying, os_X3_setSaying⟩, List.forall_mem_cons.mpr ⟨⟨om_X3_setKnown, os_X3_setKnown⟩, List.forall_mem_cons.mpr ⟨⟨om_X3_admit, os_X3_admit⟩, List.forall_mem_cons.mpr ⟨⟨om_X3_sendHome, os_X3_sendHome⟩, List.forall_mem_cons.mpr ⟨⟨om_X3_takeOver, os_X3_takeOver⟩, List.forall_mem_cons.mpr ⟨⟨om_X3_knownOf, os_X3_knownOf⟩, fun _ h => absurd h List.not_mem_nil⟩⟩⟩⟩⟩⟩⟩⟩⟩⟩⟩⟩⟩⟩⟩⟩
set_option maxRecDepth 20000 in
theorem oxV_3 : ∀ a ∈ xV_3, ex_okM (xP a) true ∧ Cond.selects (xP a).2.1.cls (xP a).2.1 (xP a).2.1 ∈ ex_tbl := List.forall_mem_cons.mpr ⟨⟨om_X3_garbled, os_X3_garbled⟩, List.forall_mem_cons.mpr ⟨⟨om_X3_allows, os_X3_allows⟩, List.forall_mem_cons.mpr ⟨⟨om_X3_perform, os_X3_perform⟩, List.forall_mem_cons.mpr ⟨⟨om_X3_runPlan, os_X3_runPlan⟩, List.forall_mem_cons.mpr ⟨⟨om_X3_goWithout, os_X3_goWithout⟩, List.forall_mem_cons.mpr ⟨⟨om_X3_sparedSet, os_X3_sparedSet⟩, List.forall_mem_cons.mpr ⟨⟨om_X3_trialIsAsGood, os_X3_trialIsAsGood⟩, List.forall_mem_cons.mpr ⟨⟨om_X3_firstTellable, os_X3_firstTellable⟩, List.forall_mem_cons.mpr ⟨⟨om_X3_drawLesson, os_X3_drawLesson⟩, List.forall_mem_cons.mpr ⟨⟨om_X3_listChoices, os_X3_listChoices⟩, List.forall_mem_cons.mpr ⟨⟨om_X3_holdHour, os_X3_holdHour⟩, List.forall_mem_cons.mpr ⟨⟨om_X1_append, os_X1_append⟩, List.forall_mem_cons.mpr ⟨⟨om_X1_clear, os_X1_clear⟩, List.forall_mem_cons.mpr ⟨⟨om_X1_rewind, os_X1_rewind⟩, List.forall_mem_cons.mpr ⟨⟨om_X1_step, os_X1_step⟩, List.forall_mem_cons.mpr ⟨⟨om_X1_skipBlanks, os_X1_skipBlanks⟩, fun _ h => absurd h List.not_mem_nil⟩⟩⟩⟩⟩⟩⟩⟩⟩⟩⟩⟩⟩⟩⟩⟩
set_option maxRecDepth 20000 in
theorem oxV_4 : ∀ a ∈ xV_4, ex_okM (xP a) true ∧ Cond.selects (xP a).2.1.cls (xP a).2.1 (xP a).2.1 ∈ ex_tbl := List.forall_mem_cons.mpr ⟨⟨om_X1_sign, os_X1_sign⟩, List.forall_mem_cons.mpr ⟨⟨om_X1_takes, os_X1_takes⟩, List.forall_mem_cons.mpr ⟨⟨om_X1_fault, os_X1_fault⟩, List.forall_mem_cons.mpr ⟨⟨om_X1_readSchool, os_X1_readSchool⟩, List.forall_mem_cons.mpr ⟨⟨om_X1_readThings, os_X1_readThings⟩, List.forall_mem_cons.mpr ⟨⟨om_X1_readPlan, os_X1_readPlan⟩, List.forall_mem_cons.mpr ⟨⟨om_X1_readTeaching, os_X1_readTeaching⟩, List.forall_mem_cons.mpr ⟨⟨om_X4_fewest, os_X4_fewest⟩, List.forall_mem_cons.mpr ⟨⟨om_X4_load, os_X4_load⟩, List.forall_mem_cons.mpr ⟨⟨om_X4_knownBy, os_X4_knownBy⟩, List.forall_mem_cons.mpr ⟨⟨om_X4_learnable, os_X4_learnable⟩, List.forall_mem_cons.mpr ⟨⟨om_X4_closure, os_X4_closure⟩, List.forall_mem_cons.mpr ⟨⟨om_X4_lacking, os_X4_lacking⟩, List.forall_mem_cons.mpr ⟨⟨om_X4_isEnough, os_X4_isEnough⟩, List.forall_mem_cons.mpr ⟨⟨om_X4_listGains, os_X4_listGains⟩, List.forall_mem_cons.mpr ⟨⟨om_X4_pairUp, os_X4_pairUp⟩, fun _ h => absurd h List.not_mem_nil⟩⟩⟩⟩⟩⟩⟩⟩⟩⟩⟩⟩⟩⟩⟩⟩
set_option maxRecDepth 20000 in
theorem oxV_5 : ∀ a ∈ xV_5, ex_okM (xP a) true ∧ Cond.selects (xP a).2.1.cls (xP a).2.1 (xP a).2.1 ∈ ex_tbl := List.forall_mem_cons.mpr ⟨⟨om_X4_pairTaught, os_X4_pairTaught⟩, List.forall_mem_cons.mpr ⟨⟨om_X2_listen, os_X2_listen⟩, List.forall_mem_cons.mpr ⟨⟨om_X2_countWays, os_X2_countWays⟩, List.forall_mem_cons.mpr ⟨⟨om_X2_minor, os_X2_minor⟩, List.forall_mem_cons.mpr ⟨⟨om_X2_firstMouths, os_X2_firstMouths⟩, List.forall_mem_cons.mpr ⟨⟨om_X2_reachesAll, os_X2_reachesAll⟩, List.forall_mem_cons.mpr ⟨⟨om_X2_sourceOf, os_X2_sourceOf⟩, List.forall_mem_cons.mpr ⟨⟨om_X2_settle, os_X2_settle⟩, List.forall_mem_cons.mpr ⟨⟨om_X7_isChild, os_X7_isChild⟩, List.forall_mem_cons.mpr ⟨⟨om_X7_areTwo, os_X7_areTwo⟩, List.forall_mem_cons.mpr ⟨⟨om_X7_add, os_X7_add⟩, List.forall_mem_cons.mpr ⟨⟨om_X7_child, os_X7_child⟩, List.forall_mem_cons.mpr ⟨⟨om_X7_know, os_X7_know⟩, List.forall_mem_cons.mpr ⟨⟨om_X7_need, os_X7_need⟩, List.forall_mem_cons.mpr ⟨⟨om_X7_hears, os_X7_hears⟩, List.forall_mem_cons.mpr ⟨⟨om_X7_knownTo, os_X7_knownTo⟩, fun _ h => absurd h List.not_mem_nil⟩⟩⟩⟩⟩⟩⟩⟩⟩⟩⟩⟩⟩⟩⟩⟩
set_option maxRecDepth 20000 in
theorem oxV_6 : ∀ a ∈ xV_6, ex_okM (xP a) true ∧ Cond.selects (xP a).2.1.cls (xP a).2.1 (xP a).2.1 ∈ ex_tbl := List.forall_mem_cons.mpr ⟨⟨om_X7_told, os_X7_told⟩, List.forall_mem_cons.mpr ⟨⟨om_X7_passes, os_X7_passes⟩, List.forall_mem_cons.mpr ⟨⟨om_X7_count, os_X7_count⟩, List.forall_mem_cons.mpr ⟨⟨om_X7_type, os_X7_type⟩, List.forall_mem_cons.mpr ⟨⟨om_X7_nextByte, os_X7_nextByte⟩, List.forall_mem_cons.mpr ⟨⟨om_X7_readChild, os_X7_readChild⟩, List.forall_mem_cons.mpr ⟨⟨om_X7_readSchool, os_X7_readSchool⟩, List.forall_mem_cons.mpr ⟨⟨om_X7_school, os_X7_school⟩, List.forall_mem_cons.mpr ⟨⟨om_X7_readTeaching, os_X7_readTeaching⟩, List.forall_mem_cons.mpr ⟨⟨om_X7_readPlan, os_X7_readPlan⟩, List.forall_mem_cons.mpr ⟨⟨om_X7_plan, os_X7_plan⟩, List.forall_mem_cons.mpr ⟨⟨om_X7_mayBe, os_X7_mayBe⟩, List.forall_mem_cons.mpr ⟨⟨om_X7_teachNow, os_X7_teachNow⟩, List.forall_mem_cons.mpr ⟨⟨om_X7_may, os_X7_may⟩, List.forall_mem_cons.mpr ⟨⟨om_X7_teach, os_X7_teach⟩, List.forall_mem_cons.mpr ⟨⟨om_X7_run, os_X7_run⟩, fun _ h => absurd h List.not_mem_nil⟩⟩⟩⟩⟩⟩⟩⟩⟩⟩⟩⟩⟩⟩⟩⟩
set_option maxRecDepth 20000 in
theorem oxV_7 : ∀ a ∈ xV_7, ex_okM (xP a) true ∧ Cond.selects (xP a).2.1.cls (xP a).2.1 (xP a).2.1 ∈ ex_tbl := List.forall_mem_cons.mpr ⟨⟨om_X7_mayTeach, os_X7_mayTeach⟩, List.forall_mem_cons.mpr ⟨⟨om_X7_goOn, os_X7_goOn⟩, List.forall_mem_cons.mpr ⟨⟨om_X7_hours, os_X7_hours⟩, List.forall_mem_cons.mpr ⟨⟨om_X7_bound, os_X7_bound⟩, List.forall_mem_cons.mpr ⟨⟨om_X7_goWithout, os_X7_goWithout⟩, List.forall_mem_cons.mpr ⟨⟨om_X7_bringBack, os_X7_bringBack⟩, List.forall_mem_cons.mpr ⟨⟨om_X7_spared, os_X7_spared⟩, List.forall_mem_cons.mpr ⟨⟨om_X7_order, os_X7_order⟩, List.forall_mem_cons.mpr ⟨⟨om_X7_canHave, os_X7_canHave⟩, List.forall_mem_cons.mpr ⟨⟨om_X7_isWay, os_X7_isWay⟩, List.forall_mem_cons.mpr ⟨⟨om_X7_nextRow, os_X7_nextRow⟩, List.forall_mem_cons.mpr ⟨⟨om_X7_findWays, os_X7_findWays⟩, List.forall_mem_cons.mpr ⟨⟨om_X7_mouths, os_X7_mouths⟩, List.forall_mem_cons.mpr ⟨⟨om_X7_from, os_X7_from⟩, List.forall_mem_cons.mpr ⟨⟨om_X7_lesson, os_X7_lesson⟩, List.forall_mem_cons.mpr ⟨⟨om_X7_lessons, os_X7_lessons⟩, fun _ h => absurd h List.not_mem_nil⟩⟩⟩⟩⟩⟩⟩⟩⟩⟩⟩⟩⟩⟩⟩⟩
set_option maxRecDepth 20000 in
theorem oxV_8 : ∀ a ∈ xV_8, ex_okM (xP a) true ∧ Cond.selects (xP a).2.1.cls (xP a).2.1 (xP a).2.1 ∈ ex_tbl := List.forall_mem_cons.mpr ⟨⟨om_X7_seed, os_X7_seed⟩, List.forall_mem_cons.mpr ⟨⟨om_X7_carried, os_X7_carried⟩, List.forall_mem_cons.mpr ⟨⟨om_X7_image, os_X7_image⟩, List.forall_mem_cons.mpr ⟨⟨om_X7_restore, os_X7_restore⟩, List.forall_mem_cons.mpr ⟨⟨om_X7_sheet, os_X7_sheet⟩, List.forall_mem_cons.mpr ⟨⟨om_X7_drop, os_X7_drop⟩, List.forall_mem_cons.mpr ⟨⟨om_X7_lacksRow, os_X7_lacksRow⟩, List.forall_mem_cons.mpr ⟨⟨om_X7_item, os_X7_item⟩, List.forall_mem_cons.mpr ⟨⟨om_X7_hour, os_X7_hour⟩, List.forall_mem_cons.mpr ⟨⟨om_X7_film, os_X7_film⟩, List.forall_mem_cons.mpr ⟨⟨om_X7_copy, os_X7_copy⟩, fun _ h => absurd h List.not_mem_nil⟩⟩⟩⟩⟩⟩⟩⟩⟩⟩⟩
set_option maxRecDepth 20000 in
theorem oxV : ∀ a ∈ xV, ex_okM (xP a) true ∧ Cond.selects (xP a).2.1.cls (xP a).2.1 (xP a).2.1 ∈ ex_tbl := List.forall_mem_append.mpr ⟨oxV_0, List.forall_mem_append.mpr ⟨oxV_1, List.forall_mem_append.mpr ⟨oxV_2, List.forall_mem_append.mpr ⟨oxV_3, List.forall_mem_append.mpr ⟨oxV_4, List.forall_mem_append.mpr ⟨oxV_5, List.forall_mem_append.mpr ⟨oxV_6, List.forall_mem_append.mpr ⟨oxV_7, oxV_8⟩⟩⟩⟩⟩⟩⟩⟩
set_option maxRecDepth 20000 in
theorem oxS_0 : ∀ a ∈ xS_0, ex_okM (xP a) false := List.forall_mem_cons.mpr ⟨om_J6_bitCount_0f7a4, List.forall_mem_cons.mpr ⟨om_J7_fill_53178, List.forall_mem_cons.mpr ⟨om_J7_fill_031fb, List.forall_mem_cons.mpr ⟨om_X6_isThing, List.forall_mem_cons.mpr ⟨om_X6_isSet, List.forall_mem_cons.mpr ⟨om_X6_isSheet, List.forall_mem_cons.mpr ⟨om_X6_isLane, List.forall_mem_cons.mpr ⟨om_X6_has, List.forall_mem_cons.mpr ⟨om_X6_passedOn, List.forall_mem_cons.mpr ⟨om_X6_teaching, List.forall_mem_cons.mpr ⟨om_X6_teacherOf, List.forall_mem_cons.mpr ⟨om_X6_pupilOf, List.forall_mem_cons.mpr ⟨om_X6_thingOf, List.forall_mem_cons.mpr ⟨om_X6_pairOf, List.forall_mem_cons.mpr ⟨om_X1_signOf, List.forall_mem_cons.mpr ⟨om_X1_kindOf, fun _ h => absurd h List.not_mem_nil⟩⟩⟩⟩⟩⟩⟩⟩⟩⟩⟩⟩⟩⟩⟩⟩
set_option maxRecDepth 20000 in
theorem oxS_1 : ∀ a ∈ xS_1, ex_okM (xP a) false := List.forall_mem_cons.mpr ⟨om_X4_squeeze, List.forall_mem_cons.mpr ⟨om_X4_firstOf, List.forall_mem_cons.mpr ⟨om_X7_in, List.forall_mem_cons.mpr ⟨om_X7_has, List.forall_mem_cons.mpr ⟨om_X7_isThing, List.forall_mem_cons.mpr ⟨om_X7_pass, List.forall_mem_cons.mpr ⟨om_X7_ones, List.forall_mem_cons.mpr ⟨om_X7_isSheet, fun _ h => absurd h List.not_mem_nil⟩⟩⟩⟩⟩⟩⟩⟩
set_option maxRecDepth 20000 in
theorem oxS : ∀ a ∈ xS, ex_okM (xP a) false := List.forall_mem_append.mpr ⟨oxS_0, oxS_1⟩
set_option maxRecDepth 20000 in
theorem oxI_0 : ∀ a ∈ xI_0, ex_okM (xP a) true ∧ ((xP a).2.1.name = "<init>" ∧ (xP a).2.2.2.2.1 = none) := List.forall_mem_cons.mpr ⟨⟨om_X5_init, rfl, rfl⟩, List.forall_mem_cons.mpr ⟨⟨om_X0_init, rfl, rfl⟩, List.forall_mem_cons.mpr ⟨⟨om_X6_init, rfl, rfl⟩, List.forall_mem_cons.mpr ⟨⟨om_X3_init, rfl, rfl⟩, List.forall_mem_cons.mpr ⟨⟨om_X1_init, rfl, rfl⟩, List.forall_mem_cons.mpr ⟨⟨om_X4_init, rfl, rfl⟩, List.forall_mem_cons.mpr ⟨⟨om_X2_init, rfl, rfl⟩, List.forall_mem_cons.mpr ⟨⟨om_X7_init, rfl, rfl⟩, fun _ h => absurd h List.not_mem_nil⟩⟩⟩⟩⟩⟩⟩⟩
set_option maxRecDepth 20000 in
theorem oxI : ∀ a ∈ xI, ex_okM (xP a) true ∧ ((xP a).2.1.name = "<init>" ∧ (xP a).2.2.2.2.1 = none) := oxI_0
set_option maxRecDepth 20000 in
theorem oC : ∀ ci, ci < 8 → Cond.instantiable (ex_RC ci) (ex_nF ci) ∈ ex_tbl ∧ Cond.initialized (ex_RC ci) ∈ ex_tbl := by
  intro ci h
  match ci, h with
  | 0, _ => exact ⟨ex_t1 27 rfl rfl, ex_t1 3 rfl rfl⟩
  | 1, _ => exact ⟨ex_t1 110 rfl rfl, ex_t1 4 rfl rfl⟩
  | 2, _ => exact ⟨ex_t1 175 rfl rfl, ex_t1 6 rfl rfl⟩
  | 3, _ => exact ⟨ex_t1 21 rfl rfl, ex_t1 2 rfl rfl⟩
  | 4, _ => exact ⟨ex_t1 141 rfl rfl, ex_t1 5 rfl rfl⟩
  | 5, _ => exact ⟨ex_t1 195 rfl rfl, ex_t1 7 rfl rfl⟩
  | 6, _ => exact ⟨ex_t1 13 rfl rfl, ex_t1 1 rfl rfl⟩
  | 7, _ => exact ⟨ex_t3 207 rfl rfl, ex_t1 8 rfl rfl⟩
  | n + 8, h => exact absurd h (by omega)
set_option maxRecDepth 20000 in
theorem oP : ex_okP xP xV xS xI := ⟨oxV, oxS, oxI, oC⟩
set_option maxRecDepth 20000 in
theorem oU : ∀ ci, ci < 8 → ∀ w ∈ u_ws (ex_RC ci) (ex_TC ci) (ex_nF ci), w ∈ ex_tbl := by
  intro ci h
  match ci, h with
  | 0, _ => exact (List.forall_mem_cons.mpr ⟨ex_t1 42 rfl rfl, List.forall_mem_cons.mpr ⟨ex_t1 44 rfl rfl, List.forall_mem_cons.mpr ⟨ex_t1 46 rfl rfl, List.forall_mem_cons.mpr ⟨ex_t1 48 rfl rfl, fun _ h => absurd h List.not_mem_nil⟩⟩⟩⟩)
  | 1, _ => exact (List.forall_mem_cons.mpr ⟨ex_t1 126 rfl rfl, List.forall_mem_cons.mpr ⟨ex_t1 128 rfl rfl, List.forall_mem_cons.mpr ⟨ex_t1 130 rfl rfl, List.forall_mem_cons.mpr ⟨ex_t1 132 rfl rfl, List.forall_mem_cons.mpr ⟨ex_t1 134 rfl rfl, List.forall_mem_cons.mpr ⟨ex_t1 136 rfl rfl, fun _ h => absurd h List.not_mem_nil⟩⟩⟩⟩⟩⟩)
  | 2, _ => exact (List.forall_mem_cons.mpr ⟨ex_t1 184 rfl rfl, List.forall_mem_cons.mpr ⟨ex_t1 186 rfl rfl, List.forall_mem_cons.mpr ⟨ex_t1 188 rfl rfl, List.forall_mem_cons.mpr ⟨ex_t1 190 rfl rfl, fun _ h => absurd h List.not_mem_nil⟩⟩⟩⟩)
  | 3, _ => exact (List.forall_mem_cons.mpr ⟨ex_t1 82 rfl rfl, List.forall_mem_cons.mpr ⟨ex_t1 84 rfl rfl, List.forall_mem_cons.mpr ⟨ex_t1 86 rfl rfl, List.forall_mem_cons.mpr ⟨ex_t1 88 rfl rfl, List.forall_mem_cons.mpr ⟨ex_t1 90 rfl rfl, List.forall_mem_cons.mpr ⟨ex_t1 92 rfl rfl, List.forall_mem_cons.mpr ⟨ex_t1 94 rfl rfl, List.forall_mem_cons.mpr ⟨ex_t1 96 rfl rfl, List.forall_mem_cons.mpr ⟨ex_t1 98 rfl rfl, List.forall_mem_cons.mpr ⟨ex_t1 100 rfl rfl, List.forall_mem_cons.mpr ⟨ex_t1 102 rfl rfl, List.forall_mem_cons.mpr ⟨ex_t1 104 rfl rfl, List.forall_mem_cons.mpr ⟨ex_t1 106 rfl rfl, fun _ h => absurd h List.not_mem_nil⟩⟩⟩⟩⟩⟩⟩⟩⟩⟩⟩⟩⟩)
  | 4, _ => exact (List.forall_mem_cons.mpr ⟨ex_t1 155 rfl rfl, List.forall_mem_cons.mpr ⟨ex_t1 157 rfl rfl, List.forall_mem_cons.mpr ⟨ex_t1 159 rfl rfl, List.forall_mem_cons.mpr ⟨ex_t1 161 rfl rfl, List.forall_mem_cons.mpr ⟨ex_t1 163 rfl rfl, List.forall_mem_cons.mpr ⟨ex_t1 165 rfl rfl, List.forall_mem_cons.mpr ⟨ex_t1 167 rfl rfl, List.forall_mem_cons.mpr ⟨ex_t1 169 rfl rfl, List.forall_mem_cons.mpr ⟨ex_t1 171 rfl rfl, fun _ h => absurd h List.not_mem_nil⟩⟩⟩⟩⟩⟩⟩⟩⟩)
  | 5, _ => exact (List.forall_mem_cons.mpr ⟨ex_t1 206 rfl rfl, List.forall_mem_cons.mpr ⟨ex_t1 208 rfl rfl, List.forall_mem_cons.mpr ⟨ex_t1 210 rfl rfl, fun _ h => absurd h List.not_mem_nil⟩⟩⟩)
  | 6, _ => exact (List.forall_mem_cons.mpr ⟨ex_t1 220 rfl rfl, List.forall_mem_cons.mpr ⟨ex_t1 222 rfl rfl, List.forall_mem_cons.mpr ⟨ex_t1 224 rfl rfl, List.forall_mem_cons.mpr ⟨ex_t1 226 rfl rfl, List.forall_mem_cons.mpr ⟨ex_t1 228 rfl rfl, List.forall_mem_cons.mpr ⟨ex_t1 230 rfl rfl, List.forall_mem_cons.mpr ⟨ex_t1 232 rfl rfl, fun _ h => absurd h List.not_mem_nil⟩⟩⟩⟩⟩⟩⟩)
  | 7, _ => exact (List.forall_mem_cons.mpr ⟨ex_t4 6 rfl rfl, List.forall_mem_cons.mpr ⟨ex_t4 8 rfl rfl, List.forall_mem_cons.mpr ⟨ex_t4 10 rfl rfl, List.forall_mem_cons.mpr ⟨ex_t4 12 rfl rfl, List.forall_mem_cons.mpr ⟨ex_t4 14 rfl rfl, List.forall_mem_cons.mpr ⟨ex_t4 16 rfl rfl, List.forall_mem_cons.mpr ⟨ex_t4 18 rfl rfl, List.forall_mem_cons.mpr ⟨ex_t4 20 rfl rfl, List.forall_mem_cons.mpr ⟨ex_t4 22 rfl rfl, List.forall_mem_cons.mpr ⟨ex_t4 24 rfl rfl, List.forall_mem_cons.mpr ⟨ex_t4 26 rfl rfl, List.forall_mem_cons.mpr ⟨ex_t4 28 rfl rfl, List.forall_mem_cons.mpr ⟨ex_t4 30 rfl rfl, List.forall_mem_cons.mpr ⟨ex_t4 32 rfl rfl, List.forall_mem_cons.mpr ⟨ex_t4 34 rfl rfl, List.forall_mem_cons.mpr ⟨ex_t4 36 rfl rfl, List.forall_mem_cons.mpr ⟨ex_t4 38 rfl rfl, List.forall_mem_cons.mpr ⟨ex_t4 40 rfl rfl, List.forall_mem_cons.mpr ⟨ex_t4 42 rfl rfl, List.forall_mem_cons.mpr ⟨ex_t4 44 rfl rfl, List.forall_mem_cons.mpr ⟨ex_t4 46 rfl rfl, List.forall_mem_cons.mpr ⟨ex_t4 48 rfl rfl, List.forall_mem_cons.mpr ⟨ex_t4 50 rfl rfl, List.forall_mem_cons.mpr ⟨ex_t4 52 rfl rfl, List.forall_mem_cons.mpr ⟨ex_t4 54 rfl rfl, List.forall_mem_cons.mpr ⟨ex_t4 56 rfl rfl, List.forall_mem_cons.mpr ⟨ex_t4 58 rfl rfl, List.forall_mem_cons.mpr ⟨ex_t4 60 rfl rfl, List.forall_mem_cons.mpr ⟨ex_t4 62 rfl rfl, List.forall_mem_cons.mpr ⟨ex_t4 64 rfl rfl, List.forall_mem_cons.mpr ⟨ex_t4 66 rfl rfl, List.forall_mem_cons.mpr ⟨ex_t4 68 rfl rfl, List.forall_mem_cons.mpr ⟨ex_t4 70 rfl rfl, List.forall_mem_cons.mpr ⟨ex_t4 72 rfl rfl, fun _ h => absurd h List.not_mem_nil⟩⟩⟩⟩⟩⟩⟩⟩⟩⟩⟩⟩⟩⟩⟩⟩⟩⟩⟩⟩⟩⟩⟩⟩⟩⟩⟩⟩⟩⟩⟩⟩⟩⟩)
  | n + 8, h => exact absurd h (by omega)
set_option maxRecDepth 20000 in
theorem oG : ex_gw := ⟨oU, ⟨ex_t1 51 rfl rfl, ex_t1 139 rfl rfl, ex_t1 52 rfl rfl⟩, ⟨ex_t3 0 rfl rfl, ex_t2 239 rfl rfl, ex_t1 11 rfl rfl⟩, ex_t1 18 rfl rfl, ex_t1 19 rfl rfl⟩
set_option maxRecDepth 20000 in
theorem oN : ex_nwk xN := by
  intro w hw
  simp only [xN, List.mem_cons, List.not_mem_nil, or_false] at hw
  rcases hw with rfl | rfl | rfl | rfl | rfl | rfl | rfl | rfl | rfl | rfl | rfl | rfl | rfl | rfl | rfl | rfl | rfl | rfl | rfl | rfl | rfl <;> exact ⟨_, _, _, _, rfl⟩
end
section
set_option maxRecDepth 20000 in
theorem ok_X5_init : q_X5_init.all (ex_okB xP xN xV xS xI m_X5_init) = true := by decide +kernel
set_option maxRecDepth 20000 in
theorem ok_X5_isMissing : q_X5_isMissing.all (ex_okB xP xN xV xS xI m_X5_isMissing) = true := by decide +kernel
set_option maxRecDepth 20000 in
theorem ok_X5_holds : q_X5_holds.all (ex_okB xP xN xV xS xI m_X5_holds) = true := by decide +kernel
set_option maxRecDepth 20000 in
theorem ok_X5_refusal : q_X5_refusal.all (ex_okB xP xN xV xS xI m_X5_refusal) = true := by decide +kernel
set_option maxRecDepth 20000 in
theorem ok_X5_renew : q_X5_renew.all (ex_okB xP xN xV xS xI m_X5_renew) = true := by decide +kernel
set_option maxRecDepth 20000 in
theorem ok_X5_discard : q_X5_discard.all (ex_okB xP xN xV xS xI m_X5_discard) = true := by decide +kernel
set_option maxRecDepth 20000 in
theorem ok_X5_put : q_X5_put.all (ex_okB xP xN xV xS xI m_X5_put) = true := by decide +kernel
set_option maxRecDepth 20000 in
theorem ok_X0_init : q_X0_init.all (ex_okB xP xN xV xS xI m_X0_init) = true := by decide +kernel
set_option maxRecDepth 20000 in
theorem ok_X0_clear : q_X0_clear.all (ex_okB xP xN xV xS xI m_X0_clear) = true := by decide +kernel
set_option maxRecDepth 20000 in
theorem ok_X0_isFull : q_X0_isFull.all (ex_okB xP xN xV xS xI m_X0_isFull) = true := by decide +kernel
set_option maxRecDepth 20000 in
theorem ok_X0_add : q_X0_add.all (ex_okB xP xN xV xS xI m_X0_add) = true := by decide +kernel
set_option maxRecDepth 20000 in
theorem ok_X0_takeOver : q_X0_takeOver.all (ex_okB xP xN xV xS xI m_X0_takeOver) = true := by decide +kernel
set_option maxRecDepth 20000 in
theorem ok_J6_bitCount_0f7a4 : q_J6_bitCount_0f7a4.all (ex_okB xP xN xV xS xI m_J6_bitCount_0f7a4) = true := by decide +kernel
set_option maxRecDepth 20000 in
theorem ok_J7_fill_53178 : q_J7_fill_53178.all (ex_okB xP xN xV xS xI m_J7_fill_53178) = true := by decide +kernel
set_option maxRecDepth 20000 in
theorem ok_J7_fill_031fb : q_J7_fill_031fb.all (ex_okB xP xN xV xS xI m_J7_fill_031fb) = true := by decide +kernel
set_option maxRecDepth 20000 in
theorem ok_X6_init : q_X6_init.all (ex_okB xP xN xV xS xI m_X6_init) = true := by decide +kernel
set_option maxRecDepth 20000 in
theorem ok_X6_child : q_X6_child.all (ex_okB xP xN xV xS xI m_X6_child) = true := by decide +kernel
set_option maxRecDepth 20000 in
theorem ok_X6_know : q_X6_know.all (ex_okB xP xN xV xS xI m_X6_know) = true := by decide +kernel
set_option maxRecDepth 20000 in
theorem ok_X6_need : q_X6_need.all (ex_okB xP xN xV xS xI m_X6_need) = true := by decide +kernel
set_option maxRecDepth 20000 in
theorem ok_X6_hears : q_X6_hears.all (ex_okB xP xN xV xS xI m_X6_hears) = true := by decide +kernel
set_option maxRecDepth 20000 in
theorem ok_X6_told : q_X6_told.all (ex_okB xP xN xV xS xI m_X6_told) = true := by decide +kernel
set_option maxRecDepth 20000 in
theorem ok_X6_passes : q_X6_passes.all (ex_okB xP xN xV xS xI m_X6_passes) = true := by decide +kernel
set_option maxRecDepth 20000 in
theorem ok_X6_type : q_X6_type.all (ex_okB xP xN xV xS xI m_X6_type) = true := by decide +kernel
set_option maxRecDepth 20000 in
theorem ok_X6_school : q_X6_school.all (ex_okB xP xN xV xS xI m_X6_school) = true := by decide +kernel
set_option maxRecDepth 20000 in
theorem ok_X6_plan : q_X6_plan.all (ex_okB xP xN xV xS xI m_X6_plan) = true := by decide +kernel
set_option maxRecDepth 20000 in
theorem ok_X6_count : q_X6_count.all (ex_okB xP xN xV xS xI m_X6_count) = true := by decide +kernel
set_option maxRecDepth 20000 in
theorem ok_X6_may : q_X6_may.all (ex_okB xP xN xV xS xI m_X6_may) = true := by decide +kernel
set_option maxRecDepth 20000 in
theorem ok_X6_teach : q_X6_teach.all (ex_okB xP xN xV xS xI m_X6_teach) = true := by decide +kernel
set_option maxRecDepth 20000 in
theorem ok_X6_run : q_X6_run.all (ex_okB xP xN xV xS xI m_X6_run) = true := by decide +kernel
set_option maxRecDepth 20000 in
theorem ok_X6_hours : q_X6_hours.all (ex_okB xP xN xV xS xI m_X6_hours) = true := by decide +kernel
set_option maxRecDepth 20000 in
theorem ok_X6_bound : q_X6_bound.all (ex_okB xP xN xV xS xI m_X6_bound) = true := by decide +kernel
set_option maxRecDepth 20000 in
theorem ok_X6_spared : q_X6_spared.all (ex_okB xP xN xV xS xI m_X6_spared) = true := by decide +kernel
set_option maxRecDepth 20000 in
theorem ok_X6_order : q_X6_order.all (ex_okB xP xN xV xS xI m_X6_order) = true := by decide +kernel
set_option maxRecDepth 20000 in
theorem ok_X6_mouths : q_X6_mouths.all (ex_okB xP xN xV xS xI m_X6_mouths) = true := by decide +kernel
set_option maxRecDepth 20000 in
theorem ok_X6_from : q_X6_from.all (ex_okB xP xN xV xS xI m_X6_from) = true := by decide +kernel
set_option maxRecDepth 20000 in
theorem ok_X6_lessons : q_X6_lessons.all (ex_okB xP xN xV xS xI m_X6_lessons) = true := by decide +kernel
set_option maxRecDepth 20000 in
theorem ok_X6_seed : q_X6_seed.all (ex_okB xP xN xV xS xI m_X6_seed) = true := by decide +kernel
set_option maxRecDepth 20000 in
theorem ok_X6_image : q_X6_image.all (ex_okB xP xN xV xS xI m_X6_image) = true := by decide +kernel
set_option maxRecDepth 20000 in
theorem ok_X6_restore : q_X6_restore.all (ex_okB xP xN xV xS xI m_X6_restore) = true := by decide +kernel
set_option maxRecDepth 20000 in
theorem ok_X6_hour : q_X6_hour.all (ex_okB xP xN xV xS xI m_X6_hour) = true := by decide +kernel
set_option maxRecDepth 20000 in
theorem ok_X6_film : q_X6_film.all (ex_okB xP xN xV xS xI m_X6_film) = true := by decide +kernel
set_option maxRecDepth 20000 in
theorem ok_X6_sheet : q_X6_sheet.all (ex_okB xP xN xV xS xI m_X6_sheet) = true := by decide +kernel
set_option maxRecDepth 20000 in
theorem ok_X6_drop : q_X6_drop.all (ex_okB xP xN xV xS xI m_X6_drop) = true := by decide +kernel
set_option maxRecDepth 20000 in
theorem ok_X6_item : q_X6_item.all (ex_okB xP xN xV xS xI m_X6_item) = true := by decide +kernel
set_option maxRecDepth 20000 in
theorem ok_X6_copy : q_X6_copy.all (ex_okB xP xN xV xS xI m_X6_copy) = true := by decide +kernel
set_option maxRecDepth 20000 in
theorem ok_X6_isThing : q_X6_isThing.all (ex_okB xP xN xV xS xI m_X6_isThing) = true := by decide +kernel
set_option maxRecDepth 20000 in
theorem ok_X6_isSet : q_X6_isSet.all (ex_okB xP xN xV xS xI m_X6_isSet) = true := by decide +kernel
set_option maxRecDepth 20000 in
theorem ok_X6_isSheet : q_X6_isSheet.all (ex_okB xP xN xV xS xI m_X6_isSheet) = true := by decide +kernel
set_option maxRecDepth 20000 in
theorem ok_X6_isLane : q_X6_isLane.all (ex_okB xP xN xV xS xI m_X6_isLane) = true := by decide +kernel
set_option maxRecDepth 20000 in
theorem ok_X6_has : q_X6_has.all (ex_okB xP xN xV xS xI m_X6_has) = true := by decide +kernel
set_option maxRecDepth 20000 in
theorem ok_X6_passedOn : q_X6_passedOn.all (ex_okB xP xN xV xS xI m_X6_passedOn) = true := by decide +kernel
set_option maxRecDepth 20000 in
theorem ok_X6_teaching : q_X6_teaching.all (ex_okB xP xN xV xS xI m_X6_teaching) = true := by decide +kernel
set_option maxRecDepth 20000 in
theorem ok_X6_teacherOf : q_X6_teacherOf.all (ex_okB xP xN xV xS xI m_X6_teacherOf) = true := by decide +kernel
set_option maxRecDepth 20000 in
theorem ok_X6_pupilOf : q_X6_pupilOf.all (ex_okB xP xN xV xS xI m_X6_pupilOf) = true := by decide +kernel
set_option maxRecDepth 20000 in
theorem ok_X6_thingOf : q_X6_thingOf.all (ex_okB xP xN xV xS xI m_X6_thingOf) = true := by decide +kernel
set_option maxRecDepth 20000 in
theorem ok_X6_pairOf : q_X6_pairOf.all (ex_okB xP xN xV xS xI m_X6_pairOf) = true := by decide +kernel
end
section
set_option maxRecDepth 20000 in
theorem ok_X3_init : q_X3_init.all (ex_okB xP xN xV xS xI m_X3_init) = true := by decide +kernel
set_option maxRecDepth 20000 in
theorem ok_X3_isChild : q_X3_isChild.all (ex_okB xP xN xV xS xI m_X3_isChild) = true := by decide +kernel
set_option maxRecDepth 20000 in
theorem ok_X3_isTeaching : q_X3_isTeaching.all (ex_okB xP xN xV xS xI m_X3_isTeaching) = true := by decide +kernel
set_option maxRecDepth 20000 in
theorem ok_X3_saying : q_X3_saying.all (ex_okB xP xN xV xS xI m_X3_saying) = true := by decide +kernel
set_option maxRecDepth 20000 in
theorem ok_X3_setSaying : q_X3_setSaying.all (ex_okB xP xN xV xS xI m_X3_setSaying) = true := by decide +kernel
set_option maxRecDepth 20000 in
theorem ok_X3_setKnown : q_X3_setKnown.all (ex_okB xP xN xV xS xI m_X3_setKnown) = true := by decide +kernel
set_option maxRecDepth 20000 in
theorem ok_X3_admit : q_X3_admit.all (ex_okB xP xN xV xS xI m_X3_admit) = true := by decide +kernel
set_option maxRecDepth 20000 in
theorem ok_X3_sendHome : q_X3_sendHome.all (ex_okB xP xN xV xS xI m_X3_sendHome) = true := by decide +kernel
set_option maxRecDepth 20000 in
theorem ok_X3_takeOver : q_X3_takeOver.all (ex_okB xP xN xV xS xI m_X3_takeOver) = true := by decide +kernel
set_option maxRecDepth 20000 in
theorem ok_X3_knownOf : q_X3_knownOf.all (ex_okB xP xN xV xS xI m_X3_knownOf) = true := by decide +kernel
set_option maxRecDepth 20000 in
theorem ok_X3_garbled : q_X3_garbled.all (ex_okB xP xN xV xS xI m_X3_garbled) = true := by decide +kernel
set_option maxRecDepth 20000 in
theorem ok_X3_allows : q_X3_allows.all (ex_okB xP xN xV xS xI m_X3_allows) = true := by decide +kernel
set_option maxRecDepth 20000 in
theorem ok_X3_perform : q_X3_perform.all (ex_okB xP xN xV xS xI m_X3_perform) = true := by decide +kernel
set_option maxRecDepth 20000 in
theorem ok_X3_runPlan : q_X3_runPlan.all (ex_okB xP xN xV xS xI m_X3_runPlan) = true := by decide +kernel
set_option maxRecDepth 20000 in
theorem ok_X3_goWithout : q_X3_goWithout.all (ex_okB xP xN xV xS xI m_X3_goWithout) = true := by decide +kernel
set_option maxRecDepth 20000 in
theorem ok_X3_sparedSet : q_X3_sparedSet.all (ex_okB xP xN xV xS xI m_X3_sparedSet) = true := by decide +kernel
set_option maxRecDepth 20000 in
theorem ok_X3_trialIsAsGood : q_X3_trialIsAsGood.all (ex_okB xP xN xV xS xI m_X3_trialIsAsGood) = true := by decide +kernel
set_option maxRecDepth 20000 in
theorem ok_X3_firstTellable : q_X3_firstTellable.all (ex_okB xP xN xV xS xI m_X3_firstTellable) = true := by decide +kernel
set_option maxRecDepth 20000 in
theorem ok_X3_drawLesson : q_X3_drawLesson.all (ex_okB xP xN xV xS xI m_X3_drawLesson) = true := by decide +kernel
set_option maxRecDepth 20000 in
theorem ok_X3_listChoices : q_X3_listChoices.all (ex_okB xP xN xV xS xI m_X3_listChoices) = true := by decide +kernel
set_option maxRecDepth 20000 in
theorem ok_X3_holdHour : q_X3_holdHour.all (ex_okB xP xN xV xS xI m_X3_holdHour) = true := by decide +kernel
set_option maxRecDepth 20000 in
theorem ok_X1_init : q_X1_init.all (ex_okB xP xN xV xS xI m_X1_init) = true := by decide +kernel
set_option maxRecDepth 20000 in
theorem ok_X1_append : q_X1_append.all (ex_okB xP xN xV xS xI m_X1_append) = true := by decide +kernel
set_option maxRecDepth 20000 in
theorem ok_X1_signOf : q_X1_signOf.all (ex_okB xP xN xV xS xI m_X1_signOf) = true := by decide +kernel
set_option maxRecDepth 20000 in
theorem ok_X1_clear : q_X1_clear.all (ex_okB xP xN xV xS xI m_X1_clear) = true := by decide +kernel
set_option maxRecDepth 20000 in
theorem ok_X1_rewind : q_X1_rewind.all (ex_okB xP xN xV xS xI m_X1_rewind) = true := by decide +kernel
set_option maxRecDepth 20000 in
theorem ok_X1_step : q_X1_step.all (ex_okB xP xN xV xS xI m_X1_step) = true := by decide +kernel
set_option maxRecDepth 20000 in
theorem ok_X1_skipBlanks : q_X1_skipBlanks.all (ex_okB xP xN xV xS xI m_X1_skipBlanks) = true := by decide +kernel
set_option maxRecDepth 20000 in
theorem ok_X1_sign : q_X1_sign.all (ex_okB xP xN xV xS xI m_X1_sign) = true := by decide +kernel
set_option maxRecDepth 20000 in
theorem ok_X1_takes : q_X1_takes.all (ex_okB xP xN xV xS xI m_X1_takes) = true := by decide +kernel
set_option maxRecDepth 20000 in
theorem ok_X1_fault : q_X1_fault.all (ex_okB xP xN xV xS xI m_X1_fault) = true := by decide +kernel
set_option maxRecDepth 20000 in
theorem ok_X1_readSchool : q_X1_readSchool.all (ex_okB xP xN xV xS xI m_X1_readSchool) = true := by decide +kernel
set_option maxRecDepth 20000 in
theorem ok_X1_kindOf : q_X1_kindOf.all (ex_okB xP xN xV xS xI m_X1_kindOf) = true := by decide +kernel
set_option maxRecDepth 20000 in
theorem ok_X1_readThings : q_X1_readThings.all (ex_okB xP xN xV xS xI m_X1_readThings) = true := by decide +kernel
set_option maxRecDepth 20000 in
theorem ok_X1_readPlan : q_X1_readPlan.all (ex_okB xP xN xV xS xI m_X1_readPlan) = true := by decide +kernel
set_option maxRecDepth 20000 in
theorem ok_X1_readTeaching : q_X1_readTeaching.all (ex_okB xP xN xV xS xI m_X1_readTeaching) = true := by decide +kernel
set_option maxRecDepth 20000 in
theorem ok_X2_init : q_X2_init.all (ex_okB xP xN xV xS xI m_X2_init) = true := by decide +kernel
set_option maxRecDepth 20000 in
theorem ok_X2_listen : q_X2_listen.all (ex_okB xP xN xV xS xI m_X2_listen) = true := by decide +kernel
set_option maxRecDepth 20000 in
theorem ok_X2_countWays : q_X2_countWays.all (ex_okB xP xN xV xS xI m_X2_countWays) = true := by decide +kernel
set_option maxRecDepth 20000 in
theorem ok_X2_minor : q_X2_minor.all (ex_okB xP xN xV xS xI m_X2_minor) = true := by decide +kernel
set_option maxRecDepth 20000 in
theorem ok_X2_firstMouths : q_X2_firstMouths.all (ex_okB xP xN xV xS xI m_X2_firstMouths) = true := by decide +kernel
set_option maxRecDepth 20000 in
theorem ok_X2_reachesAll : q_X2_reachesAll.all (ex_okB xP xN xV xS xI m_X2_reachesAll) = true := by decide +kernel
set_option maxRecDepth 20000 in
theorem ok_X2_sourceOf : q_X2_sourceOf.all (ex_okB xP xN xV xS xI m_X2_sourceOf) = true := by decide +kernel
set_option maxRecDepth 20000 in
theorem ok_X2_settle : q_X2_settle.all (ex_okB xP xN xV xS xI m_X2_settle) = true := by decide +kernel
end
section
set_option maxRecDepth 20000 in
theorem ok_X4_init : q_X4_init.all (ex_okB xP xN xV xS xI m_X4_init) = true := by decide +kernel
set_option maxRecDepth 20000 in
theorem ok_X4_fewest : q_X4_fewest.all (ex_okB xP xN xV xS xI m_X4_fewest) = true := by decide +kernel
set_option maxRecDepth 20000 in
theorem ok_X4_load : q_X4_load.all (ex_okB xP xN xV xS xI m_X4_load) = true := by decide +kernel
set_option maxRecDepth 20000 in
theorem ok_X4_squeeze : q_X4_squeeze.all (ex_okB xP xN xV xS xI m_X4_squeeze) = true := by decide +kernel
set_option maxRecDepth 20000 in
theorem ok_X4_knownBy : q_X4_knownBy.all (ex_okB xP xN xV xS xI m_X4_knownBy) = true := by decide +kernel
set_option maxRecDepth 20000 in
theorem ok_X4_learnable : q_X4_learnable.all (ex_okB xP xN xV xS xI m_X4_learnable) = true := by decide +kernel
set_option maxRecDepth 20000 in
theorem ok_X4_closure : q_X4_closure.all (ex_okB xP xN xV xS xI m_X4_closure) = true := by decide +kernel
set_option maxRecDepth 20000 in
theorem ok_X4_lacking : q_X4_lacking.all (ex_okB xP xN xV xS xI m_X4_lacking) = true := by decide +kernel
set_option maxRecDepth 20000 in
theorem ok_X4_isEnough : q_X4_isEnough.all (ex_okB xP xN xV xS xI m_X4_isEnough) = true := by decide +kernel
set_option maxRecDepth 20000 in
theorem ok_X4_listGains : q_X4_listGains.all (ex_okB xP xN xV xS xI m_X4_listGains) = true := by decide +kernel
set_option maxRecDepth 20000 in
theorem ok_X4_pairUp : q_X4_pairUp.all (ex_okB xP xN xV xS xI m_X4_pairUp) = true := by decide +kernel
set_option maxRecDepth 20000 in
theorem ok_X4_pairTaught : q_X4_pairTaught.all (ex_okB xP xN xV xS xI m_X4_pairTaught) = true := by decide +kernel
set_option maxRecDepth 20000 in
theorem ok_X4_firstOf : q_X4_firstOf.all (ex_okB xP xN xV xS xI m_X4_firstOf) = true := by decide +kernel
end
section
set_option maxRecDepth 20000 in
theorem ok_X7_init : q_X7_init.all (ex_okB xP xN xV xS xI m_X7_init) = true := by decide +kernel
set_option maxRecDepth 20000 in
theorem ok_X7_in : q_X7_in.all (ex_okB xP xN xV xS xI m_X7_in) = true := by decide +kernel
set_option maxRecDepth 20000 in
theorem ok_X7_has : q_X7_has.all (ex_okB xP xN xV xS xI m_X7_has) = true := by decide +kernel
set_option maxRecDepth 20000 in
theorem ok_X7_isChild : q_X7_isChild.all (ex_okB xP xN xV xS xI m_X7_isChild) = true := by decide +kernel
set_option maxRecDepth 20000 in
theorem ok_X7_isThing : q_X7_isThing.all (ex_okB xP xN xV xS xI m_X7_isThing) = true := by decide +kernel
set_option maxRecDepth 20000 in
theorem ok_X7_areTwo : q_X7_areTwo.all (ex_okB xP xN xV xS xI m_X7_areTwo) = true := by decide +kernel
set_option maxRecDepth 20000 in
theorem ok_X7_add : q_X7_add.all (ex_okB xP xN xV xS xI m_X7_add) = true := by decide +kernel
set_option maxRecDepth 20000 in
theorem ok_X7_child : q_X7_child.all (ex_okB xP xN xV xS xI m_X7_child) = true := by decide +kernel
set_option maxRecDepth 20000 in
theorem ok_X7_know : q_X7_know.all (ex_okB xP xN xV xS xI m_X7_know) = true := by decide +kernel
set_option maxRecDepth 20000 in
theorem ok_X7_need : q_X7_need.all (ex_okB xP xN xV xS xI m_X7_need) = true := by decide +kernel
set_option maxRecDepth 20000 in
theorem ok_X7_hears : q_X7_hears.all (ex_okB xP xN xV xS xI m_X7_hears) = true := by decide +kernel
set_option maxRecDepth 20000 in
theorem ok_X7_knownTo : q_X7_knownTo.all (ex_okB xP xN xV xS xI m_X7_knownTo) = true := by decide +kernel
set_option maxRecDepth 20000 in
theorem ok_X7_told : q_X7_told.all (ex_okB xP xN xV xS xI m_X7_told) = true := by decide +kernel
set_option maxRecDepth 20000 in
theorem ok_X7_pass : q_X7_pass.all (ex_okB xP xN xV xS xI m_X7_pass) = true := by decide +kernel
set_option maxRecDepth 20000 in
theorem ok_X7_passes : q_X7_passes.all (ex_okB xP xN xV xS xI m_X7_passes) = true := by decide +kernel
set_option maxRecDepth 20000 in
theorem ok_X7_count : q_X7_count.all (ex_okB xP xN xV xS xI m_X7_count) = true := by decide +kernel
set_option maxRecDepth 20000 in
theorem ok_X7_type : q_X7_type.all (ex_okB xP xN xV xS xI m_X7_type) = true := by decide +kernel
set_option maxRecDepth 20000 in
theorem ok_X7_nextByte : q_X7_nextByte.all (ex_okB xP xN xV xS xI m_X7_nextByte) = true := by decide +kernel
set_option maxRecDepth 20000 in
theorem ok_X7_readChild : q_X7_readChild.all (ex_okB xP xN xV xS xI m_X7_readChild) = true := by decide +kernel
set_option maxRecDepth 20000 in
theorem ok_X7_readSchool : q_X7_readSchool.all (ex_okB xP xN xV xS xI m_X7_readSchool) = true := by decide +kernel
set_option maxRecDepth 20000 in
theorem ok_X7_school : q_X7_school.all (ex_okB xP xN xV xS xI m_X7_school) = true := by decide +kernel
set_option maxRecDepth 20000 in
theorem ok_X7_readTeaching : q_X7_readTeaching.all (ex_okB xP xN xV xS xI m_X7_readTeaching) = true := by decide +kernel
set_option maxRecDepth 20000 in
theorem ok_X7_readPlan : q_X7_readPlan.all (ex_okB xP xN xV xS xI m_X7_readPlan) = true := by decide +kernel
set_option maxRecDepth 20000 in
theorem ok_X7_plan : q_X7_plan.all (ex_okB xP xN xV xS xI m_X7_plan) = true := by decide +kernel
set_option maxRecDepth 20000 in
theorem ok_X7_mayBe : q_X7_mayBe.all (ex_okB xP xN xV xS xI m_X7_mayBe) = true := by decide +kernel
end
section
set_option maxRecDepth 20000 in
theorem ok_X7_teachNow : q_X7_teachNow.all (ex_okB xP xN xV xS xI m_X7_teachNow) = true := by decide +kernel
set_option maxRecDepth 20000 in
theorem ok_X7_may : q_X7_may.all (ex_okB xP xN xV xS xI m_X7_may) = true := by decide +kernel
set_option maxRecDepth 20000 in
theorem ok_X7_teach : q_X7_teach.all (ex_okB xP xN xV xS xI m_X7_teach) = true := by decide +kernel
set_option maxRecDepth 20000 in
theorem ok_X7_run : q_X7_run.all (ex_okB xP xN xV xS xI m_X7_run) = true := by decide +kernel
set_option maxRecDepth 20000 in
theorem ok_X7_ones : q_X7_ones.all (ex_okB xP xN xV xS xI m_X7_ones) = true := by decide +kernel
set_option maxRecDepth 20000 in
theorem ok_X7_mayTeach : q_X7_mayTeach.all (ex_okB xP xN xV xS xI m_X7_mayTeach) = true := by decide +kernel
set_option maxRecDepth 20000 in
theorem ok_X7_goOn : q_X7_goOn.all (ex_okB xP xN xV xS xI m_X7_goOn) = true := by decide +kernel
set_option maxRecDepth 20000 in
theorem ok_X7_hours : q_X7_hours.all (ex_okB xP xN xV xS xI m_X7_hours) = true := by decide +kernel
set_option maxRecDepth 20000 in
theorem ok_X7_bound : q_X7_bound.all (ex_okB xP xN xV xS xI m_X7_bound) = true := by decide +kernel
set_option maxRecDepth 20000 in
theorem ok_X7_goWithout : q_X7_goWithout.all (ex_okB xP xN xV xS xI m_X7_goWithout) = true := by decide +kernel
set_option maxRecDepth 20000 in
theorem ok_X7_bringBack : q_X7_bringBack.all (ex_okB xP xN xV xS xI m_X7_bringBack) = true := by decide +kernel
set_option maxRecDepth 20000 in
theorem ok_X7_spared : q_X7_spared.all (ex_okB xP xN xV xS xI m_X7_spared) = true := by decide +kernel
set_option maxRecDepth 20000 in
theorem ok_X7_order : q_X7_order.all (ex_okB xP xN xV xS xI m_X7_order) = true := by decide +kernel
set_option maxRecDepth 20000 in
theorem ok_X7_canHave : q_X7_canHave.all (ex_okB xP xN xV xS xI m_X7_canHave) = true := by decide +kernel
set_option maxRecDepth 20000 in
theorem ok_X7_isWay : q_X7_isWay.all (ex_okB xP xN xV xS xI m_X7_isWay) = true := by decide +kernel
set_option maxRecDepth 20000 in
theorem ok_X7_nextRow : q_X7_nextRow.all (ex_okB xP xN xV xS xI m_X7_nextRow) = true := by decide +kernel
set_option maxRecDepth 20000 in
theorem ok_X7_findWays : q_X7_findWays.all (ex_okB xP xN xV xS xI m_X7_findWays) = true := by decide +kernel
set_option maxRecDepth 20000 in
theorem ok_X7_mouths : q_X7_mouths.all (ex_okB xP xN xV xS xI m_X7_mouths) = true := by decide +kernel
set_option maxRecDepth 20000 in
theorem ok_X7_from : q_X7_from.all (ex_okB xP xN xV xS xI m_X7_from) = true := by decide +kernel
set_option maxRecDepth 20000 in
theorem ok_X7_lesson : q_X7_lesson.all (ex_okB xP xN xV xS xI m_X7_lesson) = true := by decide +kernel
set_option maxRecDepth 20000 in
theorem ok_X7_lessons : q_X7_lessons.all (ex_okB xP xN xV xS xI m_X7_lessons) = true := by decide +kernel
set_option maxRecDepth 20000 in
theorem ok_X7_seed : q_X7_seed.all (ex_okB xP xN xV xS xI m_X7_seed) = true := by decide +kernel
set_option maxRecDepth 20000 in
theorem ok_X7_carried : q_X7_carried.all (ex_okB xP xN xV xS xI m_X7_carried) = true := by decide +kernel
set_option maxRecDepth 20000 in
theorem ok_X7_image : q_X7_image.all (ex_okB xP xN xV xS xI m_X7_image) = true := by decide +kernel
set_option maxRecDepth 20000 in
theorem ok_X7_restore : q_X7_restore.all (ex_okB xP xN xV xS xI m_X7_restore) = true := by decide +kernel
set_option maxRecDepth 20000 in
theorem ok_X7_isSheet : q_X7_isSheet.all (ex_okB xP xN xV xS xI m_X7_isSheet) = true := by decide +kernel
set_option maxRecDepth 20000 in
theorem ok_X7_sheet : q_X7_sheet.all (ex_okB xP xN xV xS xI m_X7_sheet) = true := by decide +kernel
set_option maxRecDepth 20000 in
theorem ok_X7_drop : q_X7_drop.all (ex_okB xP xN xV xS xI m_X7_drop) = true := by decide +kernel
set_option maxRecDepth 20000 in
theorem ok_X7_lacksRow : q_X7_lacksRow.all (ex_okB xP xN xV xS xI m_X7_lacksRow) = true := by decide +kernel
set_option maxRecDepth 20000 in
theorem ok_X7_item : q_X7_item.all (ex_okB xP xN xV xS xI m_X7_item) = true := by decide +kernel
set_option maxRecDepth 20000 in
theorem ok_X7_hour : q_X7_hour.all (ex_okB xP xN xV xS xI m_X7_hour) = true := by decide +kernel
set_option maxRecDepth 20000 in
theorem ok_X7_film : q_X7_film.all (ex_okB xP xN xV xS xI m_X7_film) = true := by decide +kernel
set_option maxRecDepth 20000 in
theorem ok_X7_copy : q_X7_copy.all (ex_okB xP xN xV xS xI m_X7_copy) = true := by decide +kernel
end
section
set_option maxRecDepth 20000 in
theorem ok_L_law_0 : q_L_law_0.all (ex_okB xP xN xV xS xI m_L_law) = true := by decide +kernel
set_option maxRecDepth 20000 in
theorem ok_L_law_1 : q_L_law_1.all (ex_okB xP xN xV xS xI m_L_law) = true := by decide +kernel
set_option maxRecDepth 20000 in
theorem ok_L_law_2 : q_L_law_2.all (ex_okB xP xN xV xS xI m_L_law) = true := by decide +kernel
set_option maxRecDepth 20000 in
theorem ok_L_law_3 : q_L_law_3.all (ex_okB xP xN xV xS xI m_L_law) = true := by decide +kernel
set_option maxRecDepth 20000 in
theorem ok_L_law_4 : q_L_law_4.all (ex_okB xP xN xV xS xI m_L_law) = true := by decide +kernel
set_option maxRecDepth 20000 in
theorem ok_L_law_5 : q_L_law_5.all (ex_okB xP xN xV xS xI m_L_law) = true := by decide +kernel
set_option maxRecDepth 20000 in
theorem ok_L_law_6 : q_L_law_6.all (ex_okB xP xN xV xS xI m_L_law) = true := by decide +kernel
set_option maxRecDepth 20000 in
theorem ok_L_law_7 : q_L_law_7.all (ex_okB xP xN xV xS xI m_L_law) = true := by decide +kernel
set_option maxRecDepth 20000 in
theorem ok_L_law_8 : q_L_law_8.all (ex_okB xP xN xV xS xI m_L_law) = true := by decide +kernel
set_option maxRecDepth 20000 in
theorem ok_L_law_9 : q_L_law_9.all (ex_okB xP xN xV xS xI m_L_law) = true := by decide +kernel
end
section
set_option maxRecDepth 20000 in
theorem ok_L_law_10 : q_L_law_10.all (ex_okB xP xN xV xS xI m_L_law) = true := by decide +kernel
set_option maxRecDepth 20000 in
theorem ok_L_law_11 : q_L_law_11.all (ex_okB xP xN xV xS xI m_L_law) = true := by decide +kernel
set_option maxRecDepth 20000 in
theorem ok_L_law_12 : q_L_law_12.all (ex_okB xP xN xV xS xI m_L_law) = true := by decide +kernel
set_option maxRecDepth 20000 in
theorem ok_L_law_13 : q_L_law_13.all (ex_okB xP xN xV xS xI m_L_law) = true := by decide +kernel
set_option maxRecDepth 20000 in
theorem ok_L_law_14 : q_L_law_14.all (ex_okB xP xN xV xS xI m_L_law) = true := by decide +kernel
set_option maxRecDepth 20000 in
theorem ok_L_law_15 : q_L_law_15.all (ex_okB xP xN xV xS xI m_L_law) = true := by decide +kernel
set_option maxRecDepth 20000 in
theorem ok_L_law_16 : q_L_law_16.all (ex_okB xP xN xV xS xI m_L_law) = true := by decide +kernel
set_option maxRecDepth 20000 in
theorem ok_L_law_17 : q_L_law_17.all (ex_okB xP xN xV xS xI m_L_law) = true := by decide +kernel
set_option maxRecDepth 20000 in
theorem ok_L_law_18 : q_L_law_18.all (ex_okB xP xN xV xS xI m_L_law) = true := by decide +kernel
set_option maxRecDepth 20000 in
theorem ok_L_law_19 : q_L_law_19.all (ex_okB xP xN xV xS xI m_L_law) = true := by decide +kernel
theorem ok_L_law : q_L_law.all (ex_okB xP xN xV xS xI m_L_law) = true := (List.all_append.trans (Bool.and_eq_true_iff.mpr ⟨ok_L_law_0, (List.all_append.trans (Bool.and_eq_true_iff.mpr ⟨ok_L_law_1, (List.all_append.trans (Bool.and_eq_true_iff.mpr ⟨ok_L_law_2, (List.all_append.trans (Bool.and_eq_true_iff.mpr ⟨ok_L_law_3, (List.all_append.trans (Bool.and_eq_true_iff.mpr ⟨ok_L_law_4, (List.all_append.trans (Bool.and_eq_true_iff.mpr ⟨ok_L_law_5, (List.all_append.trans (Bool.and_eq_true_iff.mpr ⟨ok_L_law_6, (List.all_append.trans (Bool.and_eq_true_iff.mpr ⟨ok_L_law_7, (List.all_append.trans (Bool.and_eq_true_iff.mpr ⟨ok_L_law_8, (List.all_append.trans (Bool.and_eq_true_iff.mpr ⟨ok_L_law_9, (List.all_append.trans (Bool.and_eq_true_iff.mpr ⟨ok_L_law_10, (List.all_append.trans (Bool.and_eq_true_iff.mpr ⟨ok_L_law_11, (List.all_append.trans (Bool.and_eq_true_iff.mpr ⟨ok_L_law_12, (List.all_append.trans (Bool.and_eq_true_iff.mpr ⟨ok_L_law_13, (List.all_append.trans (Bool.and_eq_true_iff.mpr ⟨ok_L_law_14, (List.all_append.trans (Bool.and_eq_true_iff.mpr ⟨ok_L_law_15, (List.all_append.trans (Bool.and_eq_true_iff.mpr ⟨ok_L_law_16, (List.all_append.trans (Bool.and_eq_true_iff.mpr ⟨ok_L_law_17, (List.all_append.trans (Bool.and_eq_true_iff.mpr ⟨ok_L_law_18, ok_L_law_19⟩))⟩))⟩))⟩))⟩))⟩))⟩))⟩))⟩))⟩))⟩))⟩))⟩))⟩))⟩))⟩))⟩))⟩))⟩))
end
section
theorem xO_of {M : ex_M} {l : List (Nat × ex_I × Nat)} (h : l.all (ex_okB xP xN xV xS xI M) = true) : ∀ pc E, ex_cd l pc = some E → ex_okE xP xN M pc E := by
  intro pc E hc
  obtain ⟨q, h1, h2, h3⟩ := ex_cd_ok h hc
  rw [← h2, ← h3]
  exact ex_okB_ok oP h1
def xPl_0 : List ex_M := [m_X5_init, m_X5_isMissing, m_X5_holds, m_X5_refusal, m_X5_renew, m_X5_discard, m_X5_put, m_X0_init, m_X0_clear, m_X0_isFull, m_X0_add, m_X0_takeOver, m_J6_bitCount_0f7a4, m_J7_fill_53178, m_J7_fill_031fb, m_X6_init]
theorem xO_0 : ∀ M ∈ xPl_0, ∀ pc E, M.2.2.2.2.2.2.2 pc = some E → ex_okE xP xN M pc E := List.forall_mem_cons.mpr ⟨xO_of ok_X5_init, List.forall_mem_cons.mpr ⟨xO_of ok_X5_isMissing, List.forall_mem_cons.mpr ⟨xO_of ok_X5_holds, List.forall_mem_cons.mpr ⟨xO_of ok_X5_refusal, List.forall_mem_cons.mpr ⟨xO_of ok_X5_renew, List.forall_mem_cons.mpr ⟨xO_of ok_X5_discard, List.forall_mem_cons.mpr ⟨xO_of ok_X5_put, List.forall_mem_cons.mpr ⟨xO_of ok_X0_init, List.forall_mem_cons.mpr ⟨xO_of ok_X0_clear, List.forall_mem_cons.mpr ⟨xO_of ok_X0_isFull, List.forall_mem_cons.mpr ⟨xO_of ok_X0_add, List.forall_mem_cons.mpr ⟨xO_of ok_X0_takeOver, List.forall_mem_cons.mpr ⟨xO_of ok_J6_bitCount_0f7a4, List.forall_mem_cons.mpr ⟨xO_of ok_J7_fill_53178, List.forall_mem_cons.mpr ⟨xO_of ok_J7_fill_031fb, List.forall_mem_cons.mpr ⟨xO_of ok_X6_init, fun _ h => absurd h List.not_mem_nil⟩⟩⟩⟩⟩⟩⟩⟩⟩⟩⟩⟩⟩⟩⟩⟩
def xPl_1 : List ex_M := [m_X6_child, m_X6_know, m_X6_need, m_X6_hears, m_X6_told, m_X6_passes, m_X6_type, m_X6_school, m_X6_plan, m_X6_count, m_X6_may, m_X6_teach, m_X6_run, m_X6_hours, m_X6_bound, m_X6_spared]
theorem xO_1 : ∀ M ∈ xPl_1, ∀ pc E, M.2.2.2.2.2.2.2 pc = some E → ex_okE xP xN M pc E := List.forall_mem_cons.mpr ⟨xO_of ok_X6_child, List.forall_mem_cons.mpr ⟨xO_of ok_X6_know, List.forall_mem_cons.mpr ⟨xO_of ok_X6_need, List.forall_mem_cons.mpr ⟨xO_of ok_X6_hears, List.forall_mem_cons.mpr ⟨xO_of ok_X6_told, List.forall_mem_cons.mpr ⟨xO_of ok_X6_passes, List.forall_mem_cons.mpr ⟨xO_of ok_X6_type, List.forall_mem_cons.mpr ⟨xO_of ok_X6_school, List.forall_mem_cons.mpr ⟨xO_of ok_X6_plan, List.forall_mem_cons.mpr ⟨xO_of ok_X6_count, List.forall_mem_cons.mpr ⟨xO_of ok_X6_may, List.forall_mem_cons.mpr ⟨xO_of ok_X6_teach, List.forall_mem_cons.mpr ⟨xO_of ok_X6_run, List.forall_mem_cons.mpr ⟨xO_of ok_X6_hours, List.forall_mem_cons.mpr ⟨xO_of ok_X6_bound, List.forall_mem_cons.mpr ⟨xO_of ok_X6_spared, fun _ h => absurd h List.not_mem_nil⟩⟩⟩⟩⟩⟩⟩⟩⟩⟩⟩⟩⟩⟩⟩⟩
def xPl_2 : List ex_M := [m_X6_order, m_X6_mouths, m_X6_from, m_X6_lessons, m_X6_seed, m_X6_image, m_X6_restore, m_X6_hour, m_X6_film, m_X6_sheet, m_X6_drop, m_X6_item, m_X6_copy, m_X6_isThing, m_X6_isSet, m_X6_isSheet]
theorem xO_2 : ∀ M ∈ xPl_2, ∀ pc E, M.2.2.2.2.2.2.2 pc = some E → ex_okE xP xN M pc E := List.forall_mem_cons.mpr ⟨xO_of ok_X6_order, List.forall_mem_cons.mpr ⟨xO_of ok_X6_mouths, List.forall_mem_cons.mpr ⟨xO_of ok_X6_from, List.forall_mem_cons.mpr ⟨xO_of ok_X6_lessons, List.forall_mem_cons.mpr ⟨xO_of ok_X6_seed, List.forall_mem_cons.mpr ⟨xO_of ok_X6_image, List.forall_mem_cons.mpr ⟨xO_of ok_X6_restore, List.forall_mem_cons.mpr ⟨xO_of ok_X6_hour, List.forall_mem_cons.mpr ⟨xO_of ok_X6_film, List.forall_mem_cons.mpr ⟨xO_of ok_X6_sheet, List.forall_mem_cons.mpr ⟨xO_of ok_X6_drop, List.forall_mem_cons.mpr ⟨xO_of ok_X6_item, List.forall_mem_cons.mpr ⟨xO_of ok_X6_copy, List.forall_mem_cons.mpr ⟨xO_of ok_X6_isThing, List.forall_mem_cons.mpr ⟨xO_of ok_X6_isSet, List.forall_mem_cons.mpr ⟨xO_of ok_X6_isSheet, fun _ h => absurd h List.not_mem_nil⟩⟩⟩⟩⟩⟩⟩⟩⟩⟩⟩⟩⟩⟩⟩⟩
def xPl_3 : List ex_M := [m_X6_isLane, m_X6_has, m_X6_passedOn, m_X6_teaching, m_X6_teacherOf, m_X6_pupilOf, m_X6_thingOf, m_X6_pairOf, m_X3_init, m_X3_isChild, m_X3_isTeaching, m_X3_saying, m_X3_setSaying, m_X3_setKnown, m_X3_admit, m_X3_sendHome]
theorem xO_3 : ∀ M ∈ xPl_3, ∀ pc E, M.2.2.2.2.2.2.2 pc = some E → ex_okE xP xN M pc E := List.forall_mem_cons.mpr ⟨xO_of ok_X6_isLane, List.forall_mem_cons.mpr ⟨xO_of ok_X6_has, List.forall_mem_cons.mpr ⟨xO_of ok_X6_passedOn, List.forall_mem_cons.mpr ⟨xO_of ok_X6_teaching, List.forall_mem_cons.mpr ⟨xO_of ok_X6_teacherOf, List.forall_mem_cons.mpr ⟨xO_of ok_X6_pupilOf, List.forall_mem_cons.mpr ⟨xO_of ok_X6_thingOf, List.forall_mem_cons.mpr ⟨xO_of ok_X6_pairOf, List.forall_mem_cons.mpr ⟨xO_of ok_X3_init, List.forall_mem_cons.mpr ⟨xO_of ok_X3_isChild, List.forall_mem_cons.mpr ⟨xO_of ok_X3_isTeaching, List.forall_mem_cons.mpr ⟨xO_of ok_X3_saying, List.forall_mem_cons.mpr ⟨xO_of ok_X3_setSaying, List.forall_mem_cons.mpr ⟨xO_of ok_X3_setKnown, List.forall_mem_cons.mpr ⟨xO_of ok_X3_admit, List.forall_mem_cons.mpr ⟨xO_of ok_X3_sendHome, fun _ h => absurd h List.not_mem_nil⟩⟩⟩⟩⟩⟩⟩⟩⟩⟩⟩⟩⟩⟩⟩⟩
def xPl_4 : List ex_M := [m_X3_takeOver, m_X3_knownOf, m_X3_garbled, m_X3_allows, m_X3_perform, m_X3_runPlan, m_X3_goWithout, m_X3_sparedSet, m_X3_trialIsAsGood, m_X3_firstTellable, m_X3_drawLesson, m_X3_listChoices, m_X3_holdHour, m_X1_init, m_X1_append, m_X1_signOf]
theorem xO_4 : ∀ M ∈ xPl_4, ∀ pc E, M.2.2.2.2.2.2.2 pc = some E → ex_okE xP xN M pc E := List.forall_mem_cons.mpr ⟨xO_of ok_X3_takeOver, List.forall_mem_cons.mpr ⟨xO_of ok_X3_knownOf, List.forall_mem_cons.mpr ⟨xO_of ok_X3_garbled, List.forall_mem_cons.mpr ⟨xO_of ok_X3_allows, List.forall_mem_cons.mpr ⟨xO_of ok_X3_perform, List.forall_mem_cons.mpr ⟨xO_of ok_X3_runPlan, List.forall_mem_cons.mpr ⟨xO_of ok_X3_goWithout, List.forall_mem_cons.mpr ⟨xO_of ok_X3_sparedSet, List.forall_mem_cons.mpr ⟨xO_of ok_X3_trialIsAsGood, List.forall_mem_cons.mpr ⟨xO_of ok_X3_firstTellable, List.forall_mem_cons.mpr ⟨xO_of ok_X3_drawLesson, List.forall_mem_cons.mpr ⟨xO_of ok_X3_listChoices, List.forall_mem_cons.mpr ⟨xO_of ok_X3_holdHour, List.forall_mem_cons.mpr ⟨xO_of ok_X1_init, List.forall_mem_cons.mpr ⟨xO_of ok_X1_append, List.forall_mem_cons.mpr ⟨xO_of ok_X1_signOf, fun _ h => absurd h List.not_mem_nil⟩⟩⟩⟩⟩⟩⟩⟩⟩⟩⟩⟩⟩⟩⟩⟩
def xPl_5 : List ex_M := [m_X1_clear, m_X1_rewind, m_X1_step, m_X1_skipBlanks, m_X1_sign, m_X1_takes, m_X1_fault, m_X1_readSchool, m_X1_kindOf, m_X1_readThings, m_X1_readPlan, m_X1_readTeaching, m_X4_init, m_X4_fewest, m_X4_load, m_X4_squeeze]
theorem xO_5 : ∀ M ∈ xPl_5, ∀ pc E, M.2.2.2.2.2.2.2 pc = some E → ex_okE xP xN M pc E := List.forall_mem_cons.mpr ⟨xO_of ok_X1_clear, List.forall_mem_cons.mpr ⟨xO_of ok_X1_rewind, List.forall_mem_cons.mpr ⟨xO_of ok_X1_step, List.forall_mem_cons.mpr ⟨xO_of ok_X1_skipBlanks, List.forall_mem_cons.mpr ⟨xO_of ok_X1_sign, List.forall_mem_cons.mpr ⟨xO_of ok_X1_takes, List.forall_mem_cons.mpr ⟨xO_of ok_X1_fault, List.forall_mem_cons.mpr ⟨xO_of ok_X1_readSchool, List.forall_mem_cons.mpr ⟨xO_of ok_X1_kindOf, List.forall_mem_cons.mpr ⟨xO_of ok_X1_readThings, List.forall_mem_cons.mpr ⟨xO_of ok_X1_readPlan, List.forall_mem_cons.mpr ⟨xO_of ok_X1_readTeaching, List.forall_mem_cons.mpr ⟨xO_of ok_X4_init, List.forall_mem_cons.mpr ⟨xO_of ok_X4_fewest, List.forall_mem_cons.mpr ⟨xO_of ok_X4_load, List.forall_mem_cons.mpr ⟨xO_of ok_X4_squeeze, fun _ h => absurd h List.not_mem_nil⟩⟩⟩⟩⟩⟩⟩⟩⟩⟩⟩⟩⟩⟩⟩⟩
def xPl_6 : List ex_M := [m_X4_knownBy, m_X4_learnable, m_X4_closure, m_X4_lacking, m_X4_isEnough, m_X4_listGains, m_X4_pairUp, m_X4_pairTaught, m_X4_firstOf, m_X2_init, m_X2_listen, m_X2_countWays, m_X2_minor, m_X2_firstMouths, m_X2_reachesAll, m_X2_sourceOf]
theorem xO_6 : ∀ M ∈ xPl_6, ∀ pc E, M.2.2.2.2.2.2.2 pc = some E → ex_okE xP xN M pc E := List.forall_mem_cons.mpr ⟨xO_of ok_X4_knownBy, List.forall_mem_cons.mpr ⟨xO_of ok_X4_learnable, List.forall_mem_cons.mpr ⟨xO_of ok_X4_closure, List.forall_mem_cons.mpr ⟨xO_of ok_X4_lacking, List.forall_mem_cons.mpr ⟨xO_of ok_X4_isEnough, List.forall_mem_cons.mpr ⟨xO_of ok_X4_listGains, List.forall_mem_cons.mpr ⟨xO_of ok_X4_pairUp, List.forall_mem_cons.mpr ⟨xO_of ok_X4_pairTaught, List.forall_mem_cons.mpr ⟨xO_of ok_X4_firstOf, List.forall_mem_cons.mpr ⟨xO_of ok_X2_init, List.forall_mem_cons.mpr ⟨xO_of ok_X2_listen, List.forall_mem_cons.mpr ⟨xO_of ok_X2_countWays, List.forall_mem_cons.mpr ⟨xO_of ok_X2_minor, List.forall_mem_cons.mpr ⟨xO_of ok_X2_firstMouths, List.forall_mem_cons.mpr ⟨xO_of ok_X2_reachesAll, List.forall_mem_cons.mpr ⟨xO_of ok_X2_sourceOf, fun _ h => absurd h List.not_mem_nil⟩⟩⟩⟩⟩⟩⟩⟩⟩⟩⟩⟩⟩⟩⟩⟩
def xPl_7 : List ex_M := [m_X2_settle, m_X7_init, m_X7_in, m_X7_has, m_X7_isChild, m_X7_isThing, m_X7_areTwo, m_X7_add, m_X7_child, m_X7_know, m_X7_need, m_X7_hears, m_X7_knownTo, m_X7_told, m_X7_pass, m_X7_passes]
theorem xO_7 : ∀ M ∈ xPl_7, ∀ pc E, M.2.2.2.2.2.2.2 pc = some E → ex_okE xP xN M pc E := List.forall_mem_cons.mpr ⟨xO_of ok_X2_settle, List.forall_mem_cons.mpr ⟨xO_of ok_X7_init, List.forall_mem_cons.mpr ⟨xO_of ok_X7_in, List.forall_mem_cons.mpr ⟨xO_of ok_X7_has, List.forall_mem_cons.mpr ⟨xO_of ok_X7_isChild, List.forall_mem_cons.mpr ⟨xO_of ok_X7_isThing, List.forall_mem_cons.mpr ⟨xO_of ok_X7_areTwo, List.forall_mem_cons.mpr ⟨xO_of ok_X7_add, List.forall_mem_cons.mpr ⟨xO_of ok_X7_child, List.forall_mem_cons.mpr ⟨xO_of ok_X7_know, List.forall_mem_cons.mpr ⟨xO_of ok_X7_need, List.forall_mem_cons.mpr ⟨xO_of ok_X7_hears, List.forall_mem_cons.mpr ⟨xO_of ok_X7_knownTo, List.forall_mem_cons.mpr ⟨xO_of ok_X7_told, List.forall_mem_cons.mpr ⟨xO_of ok_X7_pass, List.forall_mem_cons.mpr ⟨xO_of ok_X7_passes, fun _ h => absurd h List.not_mem_nil⟩⟩⟩⟩⟩⟩⟩⟩⟩⟩⟩⟩⟩⟩⟩⟩
def xPl_8 : List ex_M := [m_X7_count, m_X7_type, m_X7_nextByte, m_X7_readChild, m_X7_readSchool, m_X7_school, m_X7_readTeaching, m_X7_readPlan, m_X7_plan, m_X7_mayBe, m_X7_teachNow, m_X7_may, m_X7_teach, m_X7_run, m_X7_ones, m_X7_mayTeach]
theorem xO_8 : ∀ M ∈ xPl_8, ∀ pc E, M.2.2.2.2.2.2.2 pc = some E → ex_okE xP xN M pc E := List.forall_mem_cons.mpr ⟨xO_of ok_X7_count, List.forall_mem_cons.mpr ⟨xO_of ok_X7_type, List.forall_mem_cons.mpr ⟨xO_of ok_X7_nextByte, List.forall_mem_cons.mpr ⟨xO_of ok_X7_readChild, List.forall_mem_cons.mpr ⟨xO_of ok_X7_readSchool, List.forall_mem_cons.mpr ⟨xO_of ok_X7_school, List.forall_mem_cons.mpr ⟨xO_of ok_X7_readTeaching, List.forall_mem_cons.mpr ⟨xO_of ok_X7_readPlan, List.forall_mem_cons.mpr ⟨xO_of ok_X7_plan, List.forall_mem_cons.mpr ⟨xO_of ok_X7_mayBe, List.forall_mem_cons.mpr ⟨xO_of ok_X7_teachNow, List.forall_mem_cons.mpr ⟨xO_of ok_X7_may, List.forall_mem_cons.mpr ⟨xO_of ok_X7_teach, List.forall_mem_cons.mpr ⟨xO_of ok_X7_run, List.forall_mem_cons.mpr ⟨xO_of ok_X7_ones, List.forall_mem_cons.mpr ⟨xO_of ok_X7_mayTeach, fun _ h => absurd h List.not_mem_nil⟩⟩⟩⟩⟩⟩⟩⟩⟩⟩⟩⟩⟩⟩⟩⟩
def xPl_9 : List ex_M := [m_X7_goOn, m_X7_hours, m_X7_bound, m_X7_goWithout, m_X7_bringBack, m_X7_spared, m_X7_order, m_X7_canHave, m_X7_isWay, m_X7_nextRow, m_X7_findWays, m_X7_mouths, m_X7_from, m_X7_lesson, m_X7_lessons, m_X7_seed]
theorem xO_9 : ∀ M ∈ xPl_9, ∀ pc E, M.2.2.2.2.2.2.2 pc = some E → ex_okE xP xN M pc E := List.forall_mem_cons.mpr ⟨xO_of ok_X7_goOn, List.forall_mem_cons.mpr ⟨xO_of ok_X7_hours, List.forall_mem_cons.mpr ⟨xO_of ok_X7_bound, List.forall_mem_cons.mpr ⟨xO_of ok_X7_goWithout, List.forall_mem_cons.mpr ⟨xO_of ok_X7_bringBack, List.forall_mem_cons.mpr ⟨xO_of ok_X7_spared, List.forall_mem_cons.mpr ⟨xO_of ok_X7_order, List.forall_mem_cons.mpr ⟨xO_of ok_X7_canHave, List.forall_mem_cons.mpr ⟨xO_of ok_X7_isWay, List.forall_mem_cons.mpr ⟨xO_of ok_X7_nextRow, List.forall_mem_cons.mpr ⟨xO_of ok_X7_findWays, List.forall_mem_cons.mpr ⟨xO_of ok_X7_mouths, List.forall_mem_cons.mpr ⟨xO_of ok_X7_from, List.forall_mem_cons.mpr ⟨xO_of ok_X7_lesson, List.forall_mem_cons.mpr ⟨xO_of ok_X7_lessons, List.forall_mem_cons.mpr ⟨xO_of ok_X7_seed, fun _ h => absurd h List.not_mem_nil⟩⟩⟩⟩⟩⟩⟩⟩⟩⟩⟩⟩⟩⟩⟩⟩
def xPl_10 : List ex_M := [m_X7_carried, m_X7_image, m_X7_restore, m_X7_isSheet, m_X7_sheet, m_X7_drop, m_X7_lacksRow, m_X7_item, m_X7_hour, m_X7_film, m_X7_copy, m_L_law]
theorem xO_10 : ∀ M ∈ xPl_10, ∀ pc E, M.2.2.2.2.2.2.2 pc = some E → ex_okE xP xN M pc E := List.forall_mem_cons.mpr ⟨xO_of ok_X7_carried, List.forall_mem_cons.mpr ⟨xO_of ok_X7_image, List.forall_mem_cons.mpr ⟨xO_of ok_X7_restore, List.forall_mem_cons.mpr ⟨xO_of ok_X7_isSheet, List.forall_mem_cons.mpr ⟨xO_of ok_X7_sheet, List.forall_mem_cons.mpr ⟨xO_of ok_X7_drop, List.forall_mem_cons.mpr ⟨xO_of ok_X7_lacksRow, List.forall_mem_cons.mpr ⟨xO_of ok_X7_item, List.forall_mem_cons.mpr ⟨xO_of ok_X7_hour, List.forall_mem_cons.mpr ⟨xO_of ok_X7_film, List.forall_mem_cons.mpr ⟨xO_of ok_X7_copy, List.forall_mem_cons.mpr ⟨xO_of ok_L_law, fun _ h => absurd h List.not_mem_nil⟩⟩⟩⟩⟩⟩⟩⟩⟩⟩⟩⟩
theorem xO_all : ∀ M ∈ xP_l, ∀ pc E, M.2.2.2.2.2.2.2 pc = some E → ex_okE xP xN M pc E := by
  have e : xP_l = xPl_0 ++ (xPl_1 ++ (xPl_2 ++ (xPl_3 ++ (xPl_4 ++ (xPl_5 ++ (xPl_6 ++ (xPl_7 ++ (xPl_8 ++ (xPl_9 ++ (xPl_10)))))))))) := rfl
  rw [e]
  exact List.forall_mem_append.mpr ⟨xO_0, List.forall_mem_append.mpr ⟨xO_1, List.forall_mem_append.mpr ⟨xO_2, List.forall_mem_append.mpr ⟨xO_3, List.forall_mem_append.mpr ⟨xO_4, List.forall_mem_append.mpr ⟨xO_5, List.forall_mem_append.mpr ⟨xO_6, List.forall_mem_append.mpr ⟨xO_7, List.forall_mem_append.mpr ⟨xO_8, List.forall_mem_append.mpr ⟨xO_9, xO_10⟩⟩⟩⟩⟩⟩⟩⟩⟩⟩
theorem xO : ex_ok xP xN := by
  refine ⟨fun k pc E h => ?_, oG, oN⟩
  by_cases hk : k < xP_l.length
  · have e1 : xP_l[k]? = some xP_l[k] := List.getElem?_eq_getElem hk
    have e2 : xP k = xP_l[k] := by unfold xP; rw [e1]; rfl
    rw [e2] at h ⊢
    exact xO_all _ (List.getElem_mem hk) pc E h
  · have e2 : xP k = xm_dummy := by unfold xP; rw [List.getElem?_eq_none (by omega)]; rfl
    rw [e2] at h
    cases h
end
