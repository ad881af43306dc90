section
-- ===== PART A: goes FIRST, ahead of the names: the tables' words, and 'selects' of the private methods out of them =====
/-- a private method of a class that the tables say can be made, by its rows of tables_1 -/
def lw_okq (q : MethodName × Nat) : Prop := (q.1.cls ≠ "java/lang/invoke/MethodHandle" ∧ q.1.cls ≠ "java/lang/invoke/VarHandle") ∧ Cond.instantiable q.1.cls q.2 ∈ tables_1 ∧ Cond.privateMethod q.1 ∈ tables_1 ∧ Cond.instanceMethod q.1 ∈ tables_1
theorem lw_p0 : lw_okq (⟨"TaughtHours$Reader", "rewind", "()V"⟩, 6) := ⟨⟨by decide +kernel, by decide +kernel⟩, List.mem_of_getElem? (i := 110) (by decide +kernel), List.mem_of_getElem? (i := 314) (by decide +kernel), List.mem_of_getElem? (i := 315) (by decide +kernel)⟩
theorem lw_p1 : lw_okq (⟨"TaughtHours$Reader", "skipBlanks", "()V"⟩, 6) := ⟨⟨by decide +kernel, by decide +kernel⟩, List.mem_of_getElem? (i := 110) (by decide +kernel), List.mem_of_getElem? (i := 318) (by decide +kernel), List.mem_of_getElem? (i := 319) (by decide +kernel)⟩
theorem lw_p2 : lw_okq (⟨"TaughtHours$Reader", "takes", "(I)Z"⟩, 6) := ⟨⟨by decide +kernel, by decide +kernel⟩, List.mem_of_getElem? (i := 110) (by decide +kernel), List.mem_of_getElem? (i := 322) (by decide +kernel), List.mem_of_getElem? (i := 323) (by decide +kernel)⟩
theorem lw_p3 : lw_okq (⟨"TaughtHours$Reader", "sign", "()I"⟩, 6) := ⟨⟨by decide +kernel, by decide +kernel⟩, List.mem_of_getElem? (i := 110) (by decide +kernel), List.mem_of_getElem? (i := 326) (by decide +kernel), List.mem_of_getElem? (i := 327) (by decide +kernel)⟩
theorem lw_p4 : lw_okq (⟨"TaughtHours$Reader", "step", "()V"⟩, 6) := ⟨⟨by decide +kernel, by decide +kernel⟩, List.mem_of_getElem? (i := 110) (by decide +kernel), List.mem_of_getElem? (i := 330) (by decide +kernel), List.mem_of_getElem? (i := 331) (by decide +kernel)⟩
theorem lw_p5 : lw_okq (⟨"TaughtHours$Reader", "fault", "()I"⟩, 6) := ⟨⟨by decide +kernel, by decide +kernel⟩, List.mem_of_getElem? (i := 110) (by decide +kernel), List.mem_of_getElem? (i := 334) (by decide +kernel), List.mem_of_getElem? (i := 335) (by decide +kernel)⟩
theorem lw_p6 : lw_okq (⟨"TaughtHours$Reader", "readThings", "()I"⟩, 6) := ⟨⟨by decide +kernel, by decide +kernel⟩, List.mem_of_getElem? (i := 110) (by decide +kernel), List.mem_of_getElem? (i := 341) (by decide +kernel), List.mem_of_getElem? (i := 342) (by decide +kernel)⟩
theorem lw_p7 : lw_okq (⟨"TaughtHours$Reader", "readTeaching", "(I)I"⟩, 6) := ⟨⟨by decide +kernel, by decide +kernel⟩, List.mem_of_getElem? (i := 110) (by decide +kernel), List.mem_of_getElem? (i := 369) (by decide +kernel), List.mem_of_getElem? (i := 370) (by decide +kernel)⟩
theorem lw_p8 : lw_okq (⟨"TaughtHours$Search", "load", "(LTaughtHours$School;I)I"⟩, 9) := ⟨⟨by decide +kernel, by decide +kernel⟩, List.mem_of_getElem? (i := 141) (by decide +kernel), List.mem_of_getElem? (i := 467) (by decide +kernel), List.mem_of_getElem? (i := 468) (by decide +kernel)⟩
theorem lw_p9 : lw_okq (⟨"TaughtHours$Search", "closure", "(I)I"⟩, 9) := ⟨⟨by decide +kernel, by decide +kernel⟩, List.mem_of_getElem? (i := 141) (by decide +kernel), List.mem_of_getElem? (i := 482) (by decide +kernel), List.mem_of_getElem? (i := 483) (by decide +kernel)⟩
theorem lw_p10 : lw_okq (⟨"TaughtHours$Search", "knownBy", "(II)I"⟩, 9) := ⟨⟨by decide +kernel, by decide +kernel⟩, List.mem_of_getElem? (i := 141) (by decide +kernel), List.mem_of_getElem? (i := 486) (by decide +kernel), List.mem_of_getElem? (i := 487) (by decide +kernel)⟩
theorem lw_p11 : lw_okq (⟨"TaughtHours$Search", "learnable", "(II)I"⟩, 9) := ⟨⟨by decide +kernel, by decide +kernel⟩, List.mem_of_getElem? (i := 141) (by decide +kernel), List.mem_of_getElem? (i := 490) (by decide +kernel), List.mem_of_getElem? (i := 491) (by decide +kernel)⟩
theorem lw_p12 : lw_okq (⟨"TaughtHours$Search", "isEnough", "(II)Z"⟩, 9) := ⟨⟨by decide +kernel, by decide +kernel⟩, List.mem_of_getElem? (i := 141) (by decide +kernel), List.mem_of_getElem? (i := 497) (by decide +kernel), List.mem_of_getElem? (i := 498) (by decide +kernel)⟩
theorem lw_p13 : lw_okq (⟨"TaughtHours$Search", "lacking", "(I)I"⟩, 9) := ⟨⟨by decide +kernel, by decide +kernel⟩, List.mem_of_getElem? (i := 141) (by decide +kernel), List.mem_of_getElem? (i := 501) (by decide +kernel), List.mem_of_getElem? (i := 502) (by decide +kernel)⟩
theorem lw_p14 : lw_okq (⟨"TaughtHours$Search", "listGains", "(II)V"⟩, 9) := ⟨⟨by decide +kernel, by decide +kernel⟩, List.mem_of_getElem? (i := 141) (by decide +kernel), List.mem_of_getElem? (i := 505) (by decide +kernel), List.mem_of_getElem? (i := 506) (by decide +kernel)⟩
theorem lw_p15 : lw_okq (⟨"TaughtHours$Search", "pairUp", "(IIII)Z"⟩, 9) := ⟨⟨by decide +kernel, by decide +kernel⟩, List.mem_of_getElem? (i := 141) (by decide +kernel), List.mem_of_getElem? (i := 509) (by decide +kernel), List.mem_of_getElem? (i := 510) (by decide +kernel)⟩
def lw_privs_1 : List (MethodName × Nat) := [(⟨"TaughtHours$Reader", "rewind", "()V"⟩, 6), (⟨"TaughtHours$Reader", "skipBlanks", "()V"⟩, 6), (⟨"TaughtHours$Reader", "takes", "(I)Z"⟩, 6), (⟨"TaughtHours$Reader", "sign", "()I"⟩, 6), (⟨"TaughtHours$Reader", "step", "()V"⟩, 6), (⟨"TaughtHours$Reader", "fault", "()I"⟩, 6), (⟨"TaughtHours$Reader", "readThings", "()I"⟩, 6), (⟨"TaughtHours$Reader", "readTeaching", "(I)I"⟩, 6), (⟨"TaughtHours$Search", "load", "(LTaughtHours$School;I)I"⟩, 9), (⟨"TaughtHours$Search", "closure", "(I)I"⟩, 9), (⟨"TaughtHours$Search", "knownBy", "(II)I"⟩, 9), (⟨"TaughtHours$Search", "learnable", "(II)I"⟩, 9), (⟨"TaughtHours$Search", "isEnough", "(II)Z"⟩, 9), (⟨"TaughtHours$Search", "lacking", "(I)I"⟩, 9), (⟨"TaughtHours$Search", "listGains", "(II)V"⟩, 9), (⟨"TaughtHours$Search", "pairUp", "(IIII)Z"⟩, 9)]
theorem lw_r1 : ∀ q ∈ lw_privs_1, lw_okq q := List.forall_mem_cons.mpr ⟨lw_p0, List.forall_mem_cons.mpr ⟨lw_p1, List.forall_mem_cons.mpr ⟨lw_p2, List.forall_mem_cons.mpr ⟨lw_p3, List.forall_mem_cons.mpr ⟨lw_p4, List.forall_mem_cons.mpr ⟨lw_p5, List.forall_mem_cons.mpr ⟨lw_p6, List.forall_mem_cons.mpr ⟨lw_p7, List.forall_mem_cons.mpr ⟨lw_p8, List.forall_mem_cons.mpr ⟨lw_p9, List.forall_mem_cons.mpr ⟨lw_p10, List.forall_mem_cons.mpr ⟨lw_p11, List.forall_mem_cons.mpr ⟨lw_p12, List.forall_mem_cons.mpr ⟨lw_p13, List.forall_mem_cons.mpr ⟨lw_p14, List.forall_mem_cons.mpr ⟨lw_p15, fun _ h => absurd h List.not_mem_nil⟩⟩⟩⟩⟩⟩⟩⟩⟩⟩⟩⟩⟩⟩⟩⟩
theorem lw_p16 : lw_okq (⟨"TaughtHours$Search", "pairTaught", "(IIIII)Z"⟩, 9) := ⟨⟨by decide +kernel, by decide +kernel⟩, List.mem_of_getElem? (i := 141) (by decide +kernel), List.mem_of_getElem? (i := 516) (by decide +kernel), List.mem_of_getElem? (i := 517) (by decide +kernel)⟩
theorem lw_p17 : lw_okq (⟨"TaughtHours$School", "goWithout", "(I[I)V"⟩, 13) := ⟨⟨by decide +kernel, by decide +kernel⟩, List.mem_of_getElem? (i := 21) (by decide +kernel), List.mem_of_getElem? (i := 532) (by decide +kernel), List.mem_of_getElem? (i := 533) (by decide +kernel)⟩
theorem lw_p18 : lw_okq (⟨"TaughtHours$School", "trialIsAsGood", "(I)Z"⟩, 13) := ⟨⟨by decide +kernel, by decide +kernel⟩, List.mem_of_getElem? (i := 21) (by decide +kernel), List.mem_of_getElem? (i := 537) (by decide +kernel), List.mem_of_getElem? (i := 538) (by decide +kernel)⟩
theorem lw_p19 : lw_okq (⟨"TaughtHours$Rumour", "minor", "(II)I"⟩, 4) := ⟨⟨by decide +kernel, by decide +kernel⟩, List.mem_of_getElem? (i := 175) (by decide +kernel), List.mem_of_getElem? (i := 565) (by decide +kernel), List.mem_of_getElem? (i := 566) (by decide +kernel)⟩
theorem lw_p20 : lw_okq (⟨"TaughtHours$Rumour", "reachesAll", "(I)Z"⟩, 4) := ⟨⟨by decide +kernel, by decide +kernel⟩, List.mem_of_getElem? (i := 175) (by decide +kernel), List.mem_of_getElem? (i := 574) (by decide +kernel), List.mem_of_getElem? (i := 575) (by decide +kernel)⟩
theorem lw_p21 : lw_okq (⟨"TaughtHours$Rumour", "settle", "(I)I"⟩, 4) := ⟨⟨by decide +kernel, by decide +kernel⟩, List.mem_of_getElem? (i := 175) (by decide +kernel), List.mem_of_getElem? (i := 587) (by decide +kernel), List.mem_of_getElem? (i := 588) (by decide +kernel)⟩
theorem lw_p22 : lw_okq (⟨"TaughtHours$School", "listChoices", "()I"⟩, 13) := ⟨⟨by decide +kernel, by decide +kernel⟩, List.mem_of_getElem? (i := 21) (by decide +kernel), List.mem_of_getElem? (i := 599) (by decide +kernel), List.mem_of_getElem? (i := 600) (by decide +kernel)⟩
theorem lw_p23 : lw_okq (⟨"TaughtHoursModel", "add", "(I)V"⟩, 34) := ⟨⟨by decide +kernel, by decide +kernel⟩, List.mem_of_getElem? (i := 687) (by decide +kernel), List.mem_of_getElem? (i := 804) (by decide +kernel), List.mem_of_getElem? (i := 805) (by decide +kernel)⟩
theorem lw_p24 : lw_okq (⟨"TaughtHoursModel", "isChild", "(I)Z"⟩, 34) := ⟨⟨by decide +kernel, by decide +kernel⟩, List.mem_of_getElem? (i := 687) (by decide +kernel), List.mem_of_getElem? (i := 812) (by decide +kernel), List.mem_of_getElem? (i := 813) (by decide +kernel)⟩
theorem lw_p25 : lw_okq (⟨"TaughtHoursModel", "areTwo", "(II)Z"⟩, 34) := ⟨⟨by decide +kernel, by decide +kernel⟩, List.mem_of_getElem? (i := 687) (by decide +kernel), List.mem_of_getElem? (i := 833) (by decide +kernel), List.mem_of_getElem? (i := 834) (by decide +kernel)⟩
theorem lw_p26 : lw_okq (⟨"TaughtHoursModel", "knownTo", "(I)I"⟩, 34) := ⟨⟨by decide +kernel, by decide +kernel⟩, List.mem_of_getElem? (i := 687) (by decide +kernel), List.mem_of_getElem? (i := 842) (by decide +kernel), List.mem_of_getElem? (i := 843) (by decide +kernel)⟩
theorem lw_p27 : lw_okq (⟨"TaughtHoursModel", "readSchool", "()Z"⟩, 34) := ⟨⟨by decide +kernel, by decide +kernel⟩, List.mem_of_getElem? (i := 687) (by decide +kernel), List.mem_of_getElem? (i := 869) (by decide +kernel), List.mem_of_getElem? (i := 870) (by decide +kernel)⟩
theorem lw_p28 : lw_okq (⟨"TaughtHoursModel", "readChild", "(I)Z"⟩, 34) := ⟨⟨by decide +kernel, by decide +kernel⟩, List.mem_of_getElem? (i := 687) (by decide +kernel), List.mem_of_getElem? (i := 873) (by decide +kernel), List.mem_of_getElem? (i := 874) (by decide +kernel)⟩
theorem lw_p29 : lw_okq (⟨"TaughtHoursModel", "nextByte", "()I"⟩, 34) := ⟨⟨by decide +kernel, by decide +kernel⟩, List.mem_of_getElem? (i := 687) (by decide +kernel), List.mem_of_getElem? (i := 877) (by decide +kernel), List.mem_of_getElem? (i := 878) (by decide +kernel)⟩
theorem lw_p30 : lw_okq (⟨"TaughtHoursModel", "readPlan", "()Z"⟩, 34) := ⟨⟨by decide +kernel, by decide +kernel⟩, List.mem_of_getElem? (i := 687) (by decide +kernel), List.mem_of_getElem? (i := 887) (by decide +kernel), List.mem_of_getElem? (i := 888) (by decide +kernel)⟩
theorem lw_p31 : lw_okq (⟨"TaughtHoursModel", "readTeaching", "(I)Z"⟩, 34) := ⟨⟨by decide +kernel, by decide +kernel⟩, List.mem_of_getElem? (i := 687) (by decide +kernel), List.mem_of_getElem? (i := 891) (by decide +kernel), List.mem_of_getElem? (i := 892) (by decide +kernel)⟩
def lw_privs_2 : List (MethodName × Nat) := [(⟨"TaughtHours$Search", "pairTaught", "(IIIII)Z"⟩, 9), (⟨"TaughtHours$School", "goWithout", "(I[I)V"⟩, 13), (⟨"TaughtHours$School", "trialIsAsGood", "(I)Z"⟩, 13), (⟨"TaughtHours$Rumour", "minor", "(II)I"⟩, 4), (⟨"TaughtHours$Rumour", "reachesAll", "(I)Z"⟩, 4), (⟨"TaughtHours$Rumour", "settle", "(I)I"⟩, 4), (⟨"TaughtHours$School", "listChoices", "()I"⟩, 13), (⟨"TaughtHoursModel", "add", "(I)V"⟩, 34), (⟨"TaughtHoursModel", "isChild", "(I)Z"⟩, 34), (⟨"TaughtHoursModel", "areTwo", "(II)Z"⟩, 34), (⟨"TaughtHoursModel", "knownTo", "(I)I"⟩, 34), (⟨"TaughtHoursModel", "readSchool", "()Z"⟩, 34), (⟨"TaughtHoursModel", "readChild", "(I)Z"⟩, 34), (⟨"TaughtHoursModel", "nextByte", "()I"⟩, 34), (⟨"TaughtHoursModel", "readPlan", "()Z"⟩, 34), (⟨"TaughtHoursModel", "readTeaching", "(I)Z"⟩, 34)]
theorem lw_r2 : ∀ q ∈ lw_privs_2, lw_okq q := List.forall_mem_cons.mpr ⟨lw_p16, List.forall_mem_cons.mpr ⟨lw_p17, List.forall_mem_cons.mpr ⟨lw_p18, List.forall_mem_cons.mpr ⟨lw_p19, List.forall_mem_cons.mpr ⟨lw_p20, List.forall_mem_cons.mpr ⟨lw_p21, List.forall_mem_cons.mpr ⟨lw_p22, List.forall_mem_cons.mpr ⟨lw_p23, List.forall_mem_cons.mpr ⟨lw_p24, List.forall_mem_cons.mpr ⟨lw_p25, List.forall_mem_cons.mpr ⟨lw_p26, List.forall_mem_cons.mpr ⟨lw_p27, List.forall_mem_cons.mpr ⟨lw_p28, List.forall_mem_cons.mpr ⟨lw_p29, List.forall_mem_cons.mpr ⟨lw_p30, List.forall_mem_cons.mpr ⟨lw_p31, fun _ h => absurd h List.not_mem_nil⟩⟩⟩⟩⟩⟩⟩⟩⟩⟩⟩⟩⟩⟩⟩⟩
theorem lw_p32 : lw_okq (⟨"TaughtHoursModel", "mayBe", "(III)Z"⟩, 34) := ⟨⟨by decide +kernel, by decide +kernel⟩, List.mem_of_getElem? (i := 687) (by decide +kernel), List.mem_of_getElem? (i := 899) (by decide +kernel), List.mem_of_getElem? (i := 900) (by decide +kernel)⟩
theorem lw_p33 : lw_okq (⟨"TaughtHoursModel", "teachNow", "(III)V"⟩, 34) := ⟨⟨by decide +kernel, by decide +kernel⟩, List.mem_of_getElem? (i := 687) (by decide +kernel), List.mem_of_getElem? (i := 907) (by decide +kernel), List.mem_of_getElem? (i := 908) (by decide +kernel)⟩
theorem lw_p34 : lw_okq (⟨"TaughtHoursModel", "goOn", "(I)V"⟩, 34) := ⟨⟨by decide +kernel, by decide +kernel⟩, List.mem_of_getElem? (i := 687) (by decide +kernel), List.mem_of_getElem? (i := 923) (by decide +kernel), List.mem_of_getElem? (i := 924) (by decide +kernel)⟩
theorem lw_p35 : lw_okq (⟨"TaughtHoursModel", "mayTeach", "(IIII)Z"⟩, 34) := ⟨⟨by decide +kernel, by decide +kernel⟩, List.mem_of_getElem? (i := 687) (by decide +kernel), List.mem_of_getElem? (i := 927) (by decide +kernel), List.mem_of_getElem? (i := 928) (by decide +kernel)⟩
theorem lw_p36 : lw_okq (⟨"TaughtHoursModel", "goWithout", "(I)V"⟩, 34) := ⟨⟨by decide +kernel, by decide +kernel⟩, List.mem_of_getElem? (i := 687) (by decide +kernel), List.mem_of_getElem? (i := 939) (by decide +kernel), List.mem_of_getElem? (i := 940) (by decide +kernel)⟩
theorem lw_p37 : lw_okq (⟨"TaughtHoursModel", "bringBack", "()V"⟩, 34) := ⟨⟨by decide +kernel, by decide +kernel⟩, List.mem_of_getElem? (i := 687) (by decide +kernel), List.mem_of_getElem? (i := 943) (by decide +kernel), List.mem_of_getElem? (i := 944) (by decide +kernel)⟩
theorem lw_p38 : lw_okq (⟨"TaughtHoursModel", "findWays", "(I)V"⟩, 34) := ⟨⟨by decide +kernel, by decide +kernel⟩, List.mem_of_getElem? (i := 687) (by decide +kernel), List.mem_of_getElem? (i := 955) (by decide +kernel), List.mem_of_getElem? (i := 956) (by decide +kernel)⟩
theorem lw_p39 : lw_okq (⟨"TaughtHoursModel", "isWay", "(I)Z"⟩, 34) := ⟨⟨by decide +kernel, by decide +kernel⟩, List.mem_of_getElem? (i := 687) (by decide +kernel), List.mem_of_getElem? (i := 959) (by decide +kernel), List.mem_of_getElem? (i := 960) (by decide +kernel)⟩
theorem lw_p40 : lw_okq (⟨"TaughtHoursModel", "canHave", "(III)Z"⟩, 34) := ⟨⟨by decide +kernel, by decide +kernel⟩, List.mem_of_getElem? (i := 687) (by decide +kernel), List.mem_of_getElem? (i := 963) (by decide +kernel), List.mem_of_getElem? (i := 964) (by decide +kernel)⟩
theorem lw_p41 : lw_okq (⟨"TaughtHoursModel", "nextRow", "()Z"⟩, 34) := ⟨⟨by decide +kernel, by decide +kernel⟩, List.mem_of_getElem? (i := 687) (by decide +kernel), List.mem_of_getElem? (i := 967) (by decide +kernel), List.mem_of_getElem? (i := 968) (by decide +kernel)⟩
theorem lw_p42 : lw_okq (⟨"TaughtHoursModel", "lesson", "(I)I"⟩, 34) := ⟨⟨by decide +kernel, by decide +kernel⟩, List.mem_of_getElem? (i := 687) (by decide +kernel), List.mem_of_getElem? (i := 980) (by decide +kernel), List.mem_of_getElem? (i := 981) (by decide +kernel)⟩
theorem lw_p43 : lw_okq (⟨"TaughtHoursModel", "carried", "(IIZ)I"⟩, 34) := ⟨⟨by decide +kernel, by decide +kernel⟩, List.mem_of_getElem? (i := 687) (by decide +kernel), List.mem_of_getElem? (i := 996) (by decide +kernel), List.mem_of_getElem? (i := 997) (by decide +kernel)⟩
theorem lw_p44 : lw_okq (⟨"TaughtHoursModel", "lacksRow", "(IIII)I"⟩, 34) := ⟨⟨by decide +kernel, by decide +kernel⟩, List.mem_of_getElem? (i := 687) (by decide +kernel), List.mem_of_getElem? (i := 1020) (by decide +kernel), List.mem_of_getElem? (i := 1021) (by decide +kernel)⟩
def lw_privs_3 : List (MethodName × Nat) := [(⟨"TaughtHoursModel", "mayBe", "(III)Z"⟩, 34), (⟨"TaughtHoursModel", "teachNow", "(III)V"⟩, 34), (⟨"TaughtHoursModel", "goOn", "(I)V"⟩, 34), (⟨"TaughtHoursModel", "mayTeach", "(IIII)Z"⟩, 34), (⟨"TaughtHoursModel", "goWithout", "(I)V"⟩, 34), (⟨"TaughtHoursModel", "bringBack", "()V"⟩, 34), (⟨"TaughtHoursModel", "findWays", "(I)V"⟩, 34), (⟨"TaughtHoursModel", "isWay", "(I)Z"⟩, 34), (⟨"TaughtHoursModel", "canHave", "(III)Z"⟩, 34), (⟨"TaughtHoursModel", "nextRow", "()Z"⟩, 34), (⟨"TaughtHoursModel", "lesson", "(I)I"⟩, 34), (⟨"TaughtHoursModel", "carried", "(IIZ)I"⟩, 34), (⟨"TaughtHoursModel", "lacksRow", "(IIII)I"⟩, 34)]
theorem lw_r3 : ∀ q ∈ lw_privs_3, lw_okq q := List.forall_mem_cons.mpr ⟨lw_p32, List.forall_mem_cons.mpr ⟨lw_p33, List.forall_mem_cons.mpr ⟨lw_p34, List.forall_mem_cons.mpr ⟨lw_p35, List.forall_mem_cons.mpr ⟨lw_p36, List.forall_mem_cons.mpr ⟨lw_p37, List.forall_mem_cons.mpr ⟨lw_p38, List.forall_mem_cons.mpr ⟨lw_p39, List.forall_mem_cons.mpr ⟨lw_p40, List.forall_mem_cons.mpr ⟨lw_p41, List.forall_mem_cons.mpr ⟨lw_p42, List.forall_mem_cons.mpr ⟨lw_p43, List.forall_mem_cons.mpr ⟨lw_p44, fun _ h => absurd h List.not_mem_nil⟩⟩⟩⟩⟩⟩⟩⟩⟩⟩⟩⟩⟩
def lw_privs : List (MethodName × Nat) := lw_privs_1 ++ (lw_privs_2 ++ (lw_privs_3))
def lw_tbl : List Cond := k2_sels lw_privs ++ tables_1
theorem lw_privs_ok : ∀ q ∈ lw_privs, lw_okq q := by
  show ∀ q ∈ lw_privs_1 ++ (lw_privs_2 ++ (lw_privs_3)), lw_okq q
  exact List.forall_mem_append.mpr ⟨lw_r1, List.forall_mem_append.mpr ⟨lw_r2, lw_r3⟩⟩
-- ===== end of PART A; then your names; then what follows =====
/-! ===== BEGIN words of one list among another's, by their places ===== -/
theorem goodIn_r {big : List Cond} (ws : List Cond) (ps : List Nat) (hp : ws = ps.filterMap (fun i => big[i]?)) (h : ws.all goodWord = true) : GoodIn big ws := by
  intro w hw
  have h1 := List.all_eq_true.mp h w hw
  rw [hp] at hw
  obtain ⟨i, -, hi⟩ := List.mem_filterMap.mp hw
  have hm : w ∈ big := by first | exact List.mem_of_getElem? hi | exact List.getElem?_mem hi
  exact ⟨hm, good_of_word h1⟩
theorem goodIn_app {big a b : List Cond} (ha : GoodIn big a) (hb : GoodIn big b) : GoodIn big (a ++ b) := fun w h => (List.mem_append.mp h).elim (ha w) (hb w)
theorem goodIn_ca {big a b : List Cond} {c : Cond} (ha : GoodIn big (c :: a)) (hb : GoodIn big b) : GoodIn big (c :: (a ++ b)) := fun w h => (List.mem_cons.mp h).elim (fun e => ha w (List.mem_cons.mpr (Or.inl e))) (fun h => (List.mem_append.mp h).elim (fun h => ha w (List.mem_cons.mpr (Or.inr h))) (hb w))
theorem goodIn_sub {big ws : List Cond} (hm : ∀ w ∈ ws, w ∈ big) (h : ws.all goodWord = true) : GoodIn big ws := fun w hw => ⟨hm w hw, good_of_word (List.all_eq_true.mp h w hw)⟩
/-! ===== END ===== -/
def RX0 : String := "TaughtHours$Plan"
def TX0 : u_T := fun k => match k with
  | 0 => ("TaughtHours$Plan", "size", "I", false)
  | 1 => ("TaughtHours$Plan", "hours", "I", false)
  | 2 => ("TaughtHours$Plan", "teachings", "[I", true)
  | _ => ("TaughtHours$Plan", "opens", "[Z", true)
def tyX0 : Nat → FieldType := fun k => match k with
  | 0 => .int
  | 1 => .int
  | 2 => .array .int
  | _ => .array .boolean
abbrev wsX00 : List Cond := u_ws RX0 TX0 4
theorem nmX0 : ∀ a, a < 4 → ∀ b, b < 4 → a ≠ b → (TX0 a).2.1 ≠ (TX0 b).2.1 := by decide +kernel
theorem tyX0_ok : ∀ k, k < 4 → parseFieldDescriptor (TX0 k).2.2.1 = some (tyX0 k) := by decide +kernel
abbrev cX0_init : ByteArray := prog_2_method_1_code
def yX0_init : MethodName := ⟨RX0, "<init>", "()V"⟩
abbrev cX0_clear : ByteArray := prog_2_method_2_code
def yX0_clear : MethodName := ⟨RX0, "clear", "()V"⟩
abbrev cX0_isFull : ByteArray := prog_2_method_3_code
def yX0_isFull : MethodName := ⟨RX0, "isFull", "()Z"⟩
abbrev cX0_add : ByteArray := prog_2_method_4_code
def yX0_add : MethodName := ⟨RX0, "add", "(IZ)V"⟩
abbrev cX0_takeOver : ByteArray := prog_2_method_5_code
def yX0_takeOver : MethodName := ⟨RX0, "takeOver", "(LTaughtHours$Plan;)V"⟩
def RX1 : String := "TaughtHours$Reader"
def TX1 : u_T := fun k => match k with
  | 0 => ("TaughtHours$Reader", "kinds", "[I", true)
  | 1 => ("TaughtHours$Reader", "sets", "[I", true)
  | 2 => ("TaughtHours$Reader", "draft", "LTaughtHours$Plan;", true)
  | 3 => ("TaughtHours$Reader", "tape", "[B", true)
  | 4 => ("TaughtHours$Reader", "size", "I", false)
  | _ => ("TaughtHours$Reader", "place", "I", false)
def tyX1 : Nat → FieldType := fun k => match k with
  | 0 => .array .int
  | 1 => .array .int
  | 2 => .object "TaughtHours$Plan"
  | 3 => .array .byte
  | 4 => .int
  | _ => .int
abbrev wsX10 : List Cond := u_ws RX1 TX1 6
theorem nmX1 : ∀ a, a < 6 → ∀ b, b < 6 → a ≠ b → (TX1 a).2.1 ≠ (TX1 b).2.1 := by decide +kernel
theorem tyX1_ok : ∀ k, k < 6 → parseFieldDescriptor (TX1 k).2.2.1 = some (tyX1 k) := by decide +kernel
abbrev cX1_init : ByteArray := prog_3_method_1_code
def yX1_init : MethodName := ⟨RX1, "<init>", "()V"⟩
abbrev cX1_append : ByteArray := prog_3_method_2_code
def yX1_append : MethodName := ⟨RX1, "append", "(JI)I"⟩
abbrev cX1_signOf : ByteArray := prog_3_method_3_code
def yX1_signOf : MethodName := ⟨RX1, "signOf", "(JI)I"⟩
abbrev cX1_clear : ByteArray := prog_3_method_4_code
def yX1_clear : MethodName := ⟨RX1, "clear", "()V"⟩
abbrev cX1_rewind : ByteArray := prog_3_method_5_code
def yX1_rewind : MethodName := ⟨RX1, "rewind", "()V"⟩
abbrev cX1_step : ByteArray := prog_3_method_6_code
def yX1_step : MethodName := ⟨RX1, "step", "()V"⟩
abbrev cX1_skipBlanks : ByteArray := prog_3_method_7_code
def yX1_skipBlanks : MethodName := ⟨RX1, "skipBlanks", "()V"⟩
abbrev cX1_sign : ByteArray := prog_3_method_8_code
def yX1_sign : MethodName := ⟨RX1, "sign", "()I"⟩
abbrev cX1_takes : ByteArray := prog_3_method_9_code
def yX1_takes : MethodName := ⟨RX1, "takes", "(I)Z"⟩
abbrev cX1_fault : ByteArray := prog_3_method_10_code
def yX1_fault : MethodName := ⟨RX1, "fault", "()I"⟩
abbrev cX1_readSchool : ByteArray := prog_3_method_11_code
def yX1_readSchool : MethodName := ⟨RX1, "readSchool", "()I"⟩
abbrev cX1_kindOf : ByteArray := prog_3_method_12_code
def yX1_kindOf : MethodName := ⟨RX1, "kindOf", "(I)I"⟩
abbrev cX1_readThings : ByteArray := prog_3_method_13_code
def yX1_readThings : MethodName := ⟨RX1, "readThings", "()I"⟩
abbrev cX1_readPlan : ByteArray := prog_3_method_14_code
def yX1_readPlan : MethodName := ⟨RX1, "readPlan", "(I)I"⟩
abbrev cX1_readTeaching : ByteArray := prog_3_method_15_code
def yX1_readTeaching : MethodName := ⟨RX1, "readTeaching", "(I)I"⟩
def RX2 : String := "TaughtHours$Rumour"
def TX2 : u_T := fun k => match k with
  | 0 => ("TaughtHours$Rumour", "sources", "[I", true)
  | 1 => ("TaughtHours$Rumour", "knowers", "I", false)
  | 2 => ("TaughtHours$Rumour", "roots", "I", false)
  | _ => ("TaughtHours$Rumour", "rows", "I", false)
def tyX2 : Nat → FieldType := fun k => match k with
  | 0 => .array .int
  | 1 => .int
  | 2 => .int
  | _ => .int
abbrev wsX20 : List Cond := u_ws RX2 TX2 4
theorem nmX2 : ∀ a, a < 4 → ∀ b, b < 4 → a ≠ b → (TX2 a).2.1 ≠ (TX2 b).2.1 := by decide +kernel
theorem tyX2_ok : ∀ k, k < 4 → parseFieldDescriptor (TX2 k).2.2.1 = some (tyX2 k) := by decide +kernel
abbrev cX2_init : ByteArray := prog_4_method_1_code
def yX2_init : MethodName := ⟨RX2, "<init>", "()V"⟩
abbrev cX2_listen : ByteArray := prog_4_method_2_code
def yX2_listen : MethodName := ⟨RX2, "listen", "(LTaughtHours$School;I)V"⟩
abbrev cX2_countWays : ByteArray := prog_4_method_3_code
def yX2_countWays : MethodName := ⟨RX2, "countWays", "()I"⟩
abbrev cX2_minor : ByteArray := prog_4_method_4_code
def yX2_minor : MethodName := ⟨RX2, "minor", "(II)I"⟩
abbrev cX2_firstMouths : ByteArray := prog_4_method_5_code
def yX2_firstMouths : MethodName := ⟨RX2, "firstMouths", "()I"⟩
abbrev cX2_reachesAll : ByteArray := prog_4_method_6_code
def yX2_reachesAll : MethodName := ⟨RX2, "reachesAll", "(I)Z"⟩
abbrev cX2_sourceOf : ByteArray := prog_4_method_7_code
def yX2_sourceOf : MethodName := ⟨RX2, "sourceOf", "(I)I"⟩
abbrev cX2_settle : ByteArray := prog_4_method_8_code
def yX2_settle : MethodName := ⟨RX2, "settle", "(I)I"⟩
def RX3 : String := "TaughtHours$School"
def TX3 : u_T := fun k => match k with
  | 0 => ("TaughtHours$School", "children", "I", false)
  | 1 => ("TaughtHours$School", "done", "I", false)
  | 2 => ("TaughtHours$School", "draw", "I", false)
  | 3 => ("TaughtHours$School", "kinds", "[I", true)
  | 4 => ("TaughtHours$School", "says", "[I", true)
  | 5 => ("TaughtHours$School", "known", "[I", true)
  | 6 => ("TaughtHours$School", "heard", "[I", true)
  | 7 => ("TaughtHours$School", "needs", "[I", true)
  | 8 => ("TaughtHours$School", "plan", "LTaughtHours$Plan;", true)
  | 9 => ("TaughtHours$School", "whole", "[I", true)
  | 10 => ("TaughtHours$School", "trial", "[I", true)
  | 11 => ("TaughtHours$School", "choices", "[I", true)
  | _ => ("TaughtHours$School", "together", "[I", true)
def tyX3 : Nat → FieldType := fun k => match k with
  | 0 => .int
  | 1 => .int
  | 2 => .int
  | 3 => .array .int
  | 4 => .array .int
  | 5 => .array .int
  | 6 => .array .int
  | 7 => .array .int
  | 8 => .object "TaughtHours$Plan"
  | 9 => .array .int
  | 10 => .array .int
  | 11 => .array .int
  | _ => .array .int
abbrev wsX30 : List Cond := u_ws RX3 TX3 13
theorem nmX3 : ∀ a, a < 13 → ∀ b, b < 13 → a ≠ b → (TX3 a).2.1 ≠ (TX3 b).2.1 := by decide +kernel
theorem tyX3_ok : ∀ k, k < 13 → parseFieldDescriptor (TX3 k).2.2.1 = some (tyX3 k) := by decide +kernel
abbrev cX3_init : ByteArray := prog_5_method_1_code
def yX3_init : MethodName := ⟨RX3, "<init>", "()V"⟩
abbrev cX3_isChild : ByteArray := prog_5_method_2_code
def yX3_isChild : MethodName := ⟨RX3, "isChild", "(I)Z"⟩
abbrev cX3_isTeaching : ByteArray := prog_5_method_3_code
def yX3_isTeaching : MethodName := ⟨RX3, "isTeaching", "(III)Z"⟩
abbrev cX3_saying : ByteArray := prog_5_method_4_code
def yX3_saying : MethodName := ⟨RX3, "saying", "(II)I"⟩
abbrev cX3_setSaying : ByteArray := prog_5_method_5_code
def yX3_setSaying : MethodName := ⟨RX3, "setSaying", "(III)V"⟩
abbrev cX3_setKnown : ByteArray := prog_5_method_6_code
def yX3_setKnown : MethodName := ⟨RX3, "setKnown", "(II)V"⟩
abbrev cX3_admit : ByteArray := prog_5_method_7_code
def yX3_admit : MethodName := ⟨RX3, "admit", "(I)I"⟩
abbrev cX3_sendHome : ByteArray := prog_5_method_8_code
def yX3_sendHome : MethodName := ⟨RX3, "sendHome", "()V"⟩
abbrev cX3_takeOver : ByteArray := prog_5_method_9_code
def yX3_takeOver : MethodName := ⟨RX3, "takeOver", "(LTaughtHours$School;)V"⟩
abbrev cX3_knownOf : ByteArray := prog_5_method_10_code
def yX3_knownOf : MethodName := ⟨RX3, "knownOf", "(I)I"⟩
abbrev cX3_garbled : ByteArray := prog_5_method_11_code
def yX3_garbled : MethodName := ⟨RX3, "garbled", "()I"⟩
abbrev cX3_allows : ByteArray := prog_5_method_12_code
def yX3_allows : MethodName := ⟨RX3, "allows", "([II)Z"⟩
abbrev cX3_perform : ByteArray := prog_5_method_13_code
def yX3_perform : MethodName := ⟨RX3, "perform", "(I)V"⟩
abbrev cX3_runPlan : ByteArray := prog_5_method_14_code
def yX3_runPlan : MethodName := ⟨RX3, "runPlan", "()I"⟩
abbrev cX3_goWithout : ByteArray := prog_5_method_15_code
def yX3_goWithout : MethodName := ⟨RX3, "goWithout", "(I[I)V"⟩
abbrev cX3_sparedSet : ByteArray := prog_5_method_16_code
def yX3_sparedSet : MethodName := ⟨RX3, "sparedSet", "()I"⟩
abbrev cX3_trialIsAsGood : ByteArray := prog_5_method_17_code
def yX3_trialIsAsGood : MethodName := ⟨RX3, "trialIsAsGood", "(I)Z"⟩
abbrev cX3_firstTellable : ByteArray := prog_5_method_18_code
def yX3_firstTellable : MethodName := ⟨RX3, "firstTellable", "(I)I"⟩
abbrev cX3_drawLesson : ByteArray := prog_5_method_19_code
def yX3_drawLesson : MethodName := ⟨RX3, "drawLesson", "()Z"⟩
abbrev cX3_listChoices : ByteArray := prog_5_method_20_code
def yX3_listChoices : MethodName := ⟨RX3, "listChoices", "()I"⟩
abbrev cX3_holdHour : ByteArray := prog_5_method_21_code
def yX3_holdHour : MethodName := ⟨RX3, "holdHour", "([III)Z"⟩
def RX4 : String := "TaughtHours$Search"
def TX4 : u_T := fun k => match k with
  | 0 => ("TaughtHours$Search", "needs", "[I", true)
  | 1 => ("TaughtHours$Search", "open", "[I", true)
  | 2 => ("TaughtHours$Search", "heard", "[I", true)
  | 3 => ("TaughtHours$Search", "gains", "[I", true)
  | 4 => ("TaughtHours$Search", "partners", "[I", true)
  | 5 => ("TaughtHours$Search", "tooFew", "[B", true)
  | 6 => ("TaughtHours$Search", "children", "I", false)
  | 7 => ("TaughtHours$Search", "width", "I", false)
  | _ => ("TaughtHours$Search", "full", "I", false)
def tyX4 : Nat → FieldType := fun k => match k with
  | 0 => .array .int
  | 1 => .array .int
  | 2 => .array .int
  | 3 => .array .int
  | 4 => .array .int
  | 5 => .array .byte
  | 6 => .int
  | 7 => .int
  | _ => .int
abbrev wsX40 : List Cond := u_ws RX4 TX4 9
theorem nmX4 : ∀ a, a < 9 → ∀ b, b < 9 → a ≠ b → (TX4 a).2.1 ≠ (TX4 b).2.1 := by decide +kernel
theorem tyX4_ok : ∀ k, k < 9 → parseFieldDescriptor (TX4 k).2.2.1 = some (tyX4 k) := by decide +kernel
abbrev cX4_init : ByteArray := prog_6_method_1_code
def yX4_init : MethodName := ⟨RX4, "<init>", "()V"⟩
abbrev cX4_fewest : ByteArray := prog_6_method_2_code
def yX4_fewest : MethodName := ⟨RX4, "fewest", "(LTaughtHours$School;I)I"⟩
abbrev cX4_load : ByteArray := prog_6_method_3_code
def yX4_load : MethodName := ⟨RX4, "load", "(LTaughtHours$School;I)I"⟩
abbrev cX4_squeeze : ByteArray := prog_6_method_4_code
def yX4_squeeze : MethodName := ⟨RX4, "squeeze", "(II)I"⟩
abbrev cX4_knownBy : ByteArray := prog_6_method_5_code
def yX4_knownBy : MethodName := ⟨RX4, "knownBy", "(II)I"⟩
abbrev cX4_learnable : ByteArray := prog_6_method_6_code
def yX4_learnable : MethodName := ⟨RX4, "learnable", "(II)I"⟩
abbrev cX4_closure : ByteArray := prog_6_method_7_code
def yX4_closure : MethodName := ⟨RX4, "closure", "(I)I"⟩
abbrev cX4_lacking : ByteArray := prog_6_method_8_code
def yX4_lacking : MethodName := ⟨RX4, "lacking", "(I)I"⟩
abbrev cX4_isEnough : ByteArray := prog_6_method_9_code
def yX4_isEnough : MethodName := ⟨RX4, "isEnough", "(II)Z"⟩
abbrev cX4_listGains : ByteArray := prog_6_method_10_code
def yX4_listGains : MethodName := ⟨RX4, "listGains", "(II)V"⟩
abbrev cX4_pairUp : ByteArray := prog_6_method_11_code
def yX4_pairUp : MethodName := ⟨RX4, "pairUp", "(IIII)Z"⟩
abbrev cX4_pairTaught : ByteArray := prog_6_method_12_code
def yX4_pairTaught : MethodName := ⟨RX4, "pairTaught", "(IIIII)Z"⟩
abbrev cX4_firstOf : ByteArray := prog_6_method_13_code
def yX4_firstOf : MethodName := ⟨RX4, "firstOf", "(I)I"⟩
def RX5 : String := "TaughtHours$Sheet"
def TX5 : u_T := fun k => match k with
  | 0 => ("TaughtHours$Sheet", "lane", "I", false)
  | 1 => ("TaughtHours$Sheet", "size", "I", false)
  | _ => ("TaughtHours$Sheet", "items", "[I", true)
def tyX5 : Nat → FieldType := fun k => match k with
  | 0 => .int
  | 1 => .int
  | _ => .array .int
abbrev wsX50 : List Cond := u_ws RX5 TX5 3
theorem nmX5 : ∀ a, a < 3 → ∀ b, b < 3 → a ≠ b → (TX5 a).2.1 ≠ (TX5 b).2.1 := by decide +kernel
theorem tyX5_ok : ∀ k, k < 3 → parseFieldDescriptor (TX5 k).2.2.1 = some (tyX5 k) := by decide +kernel
abbrev cX5_init : ByteArray := prog_7_method_1_code
def yX5_init : MethodName := ⟨RX5, "<init>", "()V"⟩
abbrev cX5_isMissing : ByteArray := prog_7_method_2_code
def yX5_isMissing : MethodName := ⟨RX5, "isMissing", "()Z"⟩
abbrev cX5_holds : ByteArray := prog_7_method_3_code
def yX5_holds : MethodName := ⟨RX5, "holds", "(II)Z"⟩
abbrev cX5_refusal : ByteArray := prog_7_method_4_code
def yX5_refusal : MethodName := ⟨RX5, "refusal", "(III)I"⟩
abbrev cX5_renew : ByteArray := prog_7_method_5_code
def yX5_renew : MethodName := ⟨RX5, "renew", "(II)V"⟩
abbrev cX5_discard : ByteArray := prog_7_method_6_code
def yX5_discard : MethodName := ⟨RX5, "discard", "()V"⟩
abbrev cX5_put : ByteArray := prog_7_method_7_code
def yX5_put : MethodName := ⟨RX5, "put", "(II)V"⟩
def RX6 : String := "TaughtHours"
def TX6 : u_T := fun k => match k with
  | 0 => ("TaughtHours", "now", "LTaughtHours$School;", true)
  | 1 => ("TaughtHours", "kept", "LTaughtHours$School;", true)
  | 2 => ("TaughtHours", "reader", "LTaughtHours$Reader;", true)
  | 3 => ("TaughtHours", "search", "LTaughtHours$Search;", true)
  | 4 => ("TaughtHours", "rumour", "LTaughtHours$Rumour;", true)
  | 5 => ("TaughtHours", "sheets", "[LTaughtHours$Sheet;", true)
  | _ => ("TaughtHours", "hasImage", "Z", false)
def tyX6 : Nat → FieldType := fun k => match k with
  | 0 => .object "TaughtHours$School"
  | 1 => .object "TaughtHours$School"
  | 2 => .object "TaughtHours$Reader"
  | 3 => .object "TaughtHours$Search"
  | 4 => .object "TaughtHours$Rumour"
  | 5 => .array (.object "TaughtHours$Sheet")
  | _ => .boolean
abbrev wsX60 : List Cond := u_ws RX6 TX6 7
theorem nmX6 : ∀ a, a < 7 → ∀ b, b < 7 → a ≠ b → (TX6 a).2.1 ≠ (TX6 b).2.1 := by decide +kernel
theorem tyX6_ok : ∀ k, k < 7 → parseFieldDescriptor (TX6 k).2.2.1 = some (tyX6 k) := by decide +kernel
abbrev cX6_init : ByteArray := prog_1_method_1_code
def yX6_init : MethodName := ⟨RX6, "<init>", "()V"⟩
abbrev cX6_child : ByteArray := prog_1_method_2_code
def yX6_child : MethodName := ⟨RX6, "child", "(I)I"⟩
abbrev cX6_know : ByteArray := prog_1_method_3_code
def yX6_know : MethodName := ⟨RX6, "know", "(III)I"⟩
abbrev cX6_need : ByteArray := prog_1_method_4_code
def yX6_need : MethodName := ⟨RX6, "need", "(II)I"⟩
abbrev cX6_hears : ByteArray := prog_1_method_5_code
def yX6_hears : MethodName := ⟨RX6, "hears", "(IIZ)I"⟩
abbrev cX6_told : ByteArray := prog_1_method_6_code
def yX6_told : MethodName := ⟨RX6, "told", "(II)I"⟩
abbrev cX6_passes : ByteArray := prog_1_method_7_code
def yX6_passes : MethodName := ⟨RX6, "passes", "(II)I"⟩
abbrev cX6_type : ByteArray := prog_1_method_8_code
def yX6_type : MethodName := ⟨RX6, "type", "(JI)I"⟩
abbrev cX6_school : ByteArray := prog_1_method_9_code
def yX6_school : MethodName := ⟨RX6, "school", "()I"⟩
abbrev cX6_plan : ByteArray := prog_1_method_10_code
def yX6_plan : MethodName := ⟨RX6, "plan", "()I"⟩
abbrev cX6_count : ByteArray := prog_1_method_11_code
def yX6_count : MethodName := ⟨RX6, "count", "(I)I"⟩
abbrev cX6_may : ByteArray := prog_1_method_12_code
def yX6_may : MethodName := ⟨RX6, "may", "(III)I"⟩
abbrev cX6_teach : ByteArray := prog_1_method_13_code
def yX6_teach : MethodName := ⟨RX6, "teach", "(III)I"⟩
abbrev cX6_run : ByteArray := prog_1_method_14_code
def yX6_run : MethodName := ⟨RX6, "run", "()I"⟩
abbrev cX6_hours : ByteArray := prog_1_method_15_code
def yX6_hours : MethodName := ⟨RX6, "hours", "(I)I"⟩
abbrev cX6_bound : ByteArray := prog_1_method_16_code
def yX6_bound : MethodName := ⟨RX6, "bound", "(I)I"⟩
abbrev cX6_spared : ByteArray := prog_1_method_17_code
def yX6_spared : MethodName := ⟨RX6, "spared", "()I"⟩
abbrev cX6_order : ByteArray := prog_1_method_18_code
def yX6_order : MethodName := ⟨RX6, "order", "(II)I"⟩
abbrev cX6_mouths : ByteArray := prog_1_method_19_code
def yX6_mouths : MethodName := ⟨RX6, "mouths", "(II)I"⟩
abbrev cX6_from : ByteArray := prog_1_method_20_code
def yX6_from : MethodName := ⟨RX6, "from", "(II)I"⟩
abbrev cX6_lessons : ByteArray := prog_1_method_21_code
def yX6_lessons : MethodName := ⟨RX6, "lessons", "(I)I"⟩
abbrev cX6_seed : ByteArray := prog_1_method_22_code
def yX6_seed : MethodName := ⟨RX6, "seed", "(I)I"⟩
abbrev cX6_image : ByteArray := prog_1_method_23_code
def yX6_image : MethodName := ⟨RX6, "image", "()I"⟩
abbrev cX6_restore : ByteArray := prog_1_method_24_code
def yX6_restore : MethodName := ⟨RX6, "restore", "()I"⟩
abbrev cX6_hour : ByteArray := prog_1_method_25_code
def yX6_hour : MethodName := ⟨RX6, "hour", "(IIII)I"⟩
abbrev cX6_film : ByteArray := prog_1_method_26_code
def yX6_film : MethodName := ⟨RX6, "film", "(IIII)I"⟩
abbrev cX6_sheet : ByteArray := prog_1_method_27_code
def yX6_sheet : MethodName := ⟨RX6, "sheet", "(III)I"⟩
abbrev cX6_drop : ByteArray := prog_1_method_28_code
def yX6_drop : MethodName := ⟨RX6, "drop", "(I)I"⟩
abbrev cX6_item : ByteArray := prog_1_method_29_code
def yX6_item : MethodName := ⟨RX6, "item", "(IIII)I"⟩
abbrev cX6_copy : ByteArray := prog_1_method_30_code
def yX6_copy : MethodName := ⟨RX6, "copy", "(IIIII)I"⟩
abbrev cX6_isThing : ByteArray := prog_1_method_31_code
def yX6_isThing : MethodName := ⟨RX6, "isThing", "(I)Z"⟩
abbrev cX6_isSet : ByteArray := prog_1_method_32_code
def yX6_isSet : MethodName := ⟨RX6, "isSet", "(I)Z"⟩
abbrev cX6_isSheet : ByteArray := prog_1_method_33_code
def yX6_isSheet : MethodName := ⟨RX6, "isSheet", "(I)Z"⟩
abbrev cX6_isLane : ByteArray := prog_1_method_34_code
def yX6_isLane : MethodName := ⟨RX6, "isLane", "(I)Z"⟩
abbrev cX6_has : ByteArray := prog_1_method_35_code
def yX6_has : MethodName := ⟨RX6, "has", "(II)Z"⟩
abbrev cX6_passedOn : ByteArray := prog_1_method_36_code
def yX6_passedOn : MethodName := ⟨RX6, "passedOn", "(II)I"⟩
abbrev cX6_teaching : ByteArray := prog_1_method_37_code
def yX6_teaching : MethodName := ⟨RX6, "teaching", "(III)I"⟩
abbrev cX6_teacherOf : ByteArray := prog_1_method_38_code
def yX6_teacherOf : MethodName := ⟨RX6, "teacherOf", "(I)I"⟩
abbrev cX6_pupilOf : ByteArray := prog_1_method_39_code
def yX6_pupilOf : MethodName := ⟨RX6, "pupilOf", "(I)I"⟩
abbrev cX6_thingOf : ByteArray := prog_1_method_40_code
def yX6_thingOf : MethodName := ⟨RX6, "thingOf", "(I)I"⟩
abbrev cX6_pairOf : ByteArray := prog_1_method_41_code
def yX6_pairOf : MethodName := ⟨RX6, "pairOf", "(I)I"⟩
def RX7 : String := "TaughtHoursModel"
def TX7 : u_T := fun k => match k with
  | 0 => ("TaughtHoursModel", "kinds", "[I", true)
  | 1 => ("TaughtHoursModel", "heard", "[I", true)
  | 2 => ("TaughtHoursModel", "says", "[I", true)
  | 3 => ("TaughtHoursModel", "needs", "[I", true)
  | 4 => ("TaughtHoursModel", "many", "I", false)
  | 5 => ("TaughtHoursModel", "plan", "[I", true)
  | 6 => ("TaughtHoursModel", "planMany", "I", false)
  | 7 => ("TaughtHoursModel", "doneEver", "I", false)
  | 8 => ("TaughtHoursModel", "drawn", "I", false)
  | 9 => ("TaughtHoursModel", "tape", "[I", true)
  | 10 => ("TaughtHoursModel", "taped", "I", false)
  | 11 => ("TaughtHoursModel", "place", "I", false)
  | 12 => ("TaughtHoursModel", "reads", "I", false)
  | 13 => ("TaughtHoursModel", "read", "[I", true)
  | 14 => ("TaughtHoursModel", "reached", "[Z", true)
  | 15 => ("TaughtHoursModel", "next", "[Z", true)
  | 16 => ("TaughtHoursModel", "things", "[I", true)
  | 17 => ("TaughtHoursModel", "thingMany", "I", false)
  | 18 => ("TaughtHoursModel", "frees", "[I", true)
  | 19 => ("TaughtHoursModel", "knowns", "[I", true)
  | 20 => ("TaughtHoursModel", "had", "[I", true)
  | 21 => ("TaughtHoursModel", "whole", "[I", true)
  | 22 => ("TaughtHoursModel", "row", "[I", true)
  | 23 => ("TaughtHoursModel", "who", "[I", true)
  | 24 => ("TaughtHoursModel", "whoMany", "I", false)
  | 25 => ("TaughtHoursModel", "first", "[I", true)
  | 26 => ("TaughtHoursModel", "ways", "I", false)
  | 27 => ("TaughtHoursModel", "firsts", "I", false)
  | 28 => ("TaughtHoursModel", "isKept", "Z", false)
  | 29 => ("TaughtHoursModel", "kept", "[I", true)
  | 30 => ("TaughtHoursModel", "lanes", "[I", true)
  | 31 => ("TaughtHoursModel", "rowSizes", "[I", true)
  | 32 => ("TaughtHoursModel", "items", "[I", true)
  | _ => ("TaughtHoursModel", "moved", "[I", true)
def tyX7 : Nat → FieldType := fun k => match k with
  | 0 => .array .int
  | 1 => .array .int
  | 2 => .array .int
  | 3 => .array .int
  | 4 => .int
  | 5 => .array .int
  | 6 => .int
  | 7 => .int
  | 8 => .int
  | 9 => .array .int
  | 10 => .int
  | 11 => .int
  | 12 => .int
  | 13 => .array .int
  | 14 => .array .boolean
  | 15 => .array .boolean
  | 16 => .array .int
  | 17 => .int
  | 18 => .array .int
  | 19 => .array .int
  | 20 => .array .int
  | 21 => .array .int
  | 22 => .array .int
  | 23 => .array .int
  | 24 => .int
  | 25 => .array .int
  | 26 => .int
  | 27 => .int
  | 28 => .boolean
  | 29 => .array .int
  | 30 => .array .int
  | 31 => .array .int
  | 32 => .array .int
  | _ => .array .int
abbrev wsX70 : List Cond := u_ws RX7 TX7 34
theorem nmX7 : ∀ a, a < 34 → ∀ b, b < 34 → a ≠ b → (TX7 a).2.1 ≠ (TX7 b).2.1 := by decide +kernel
theorem tyX7_ok : ∀ k, k < 34 → parseFieldDescriptor (TX7 k).2.2.1 = some (tyX7 k) := by decide +kernel
abbrev cX7_init : ByteArray := prog_9_method_1_code
def yX7_init : MethodName := ⟨RX7, "<init>", "()V"⟩
abbrev cX7_in : ByteArray := prog_9_method_2_code
def yX7_in : MethodName := ⟨RX7, "in", "(JJJ)Z"⟩
abbrev cX7_has : ByteArray := prog_9_method_3_code
def yX7_has : MethodName := ⟨RX7, "has", "(II)Z"⟩
abbrev cX7_isChild : ByteArray := prog_9_method_4_code
def yX7_isChild : MethodName := ⟨RX7, "isChild", "(I)Z"⟩
abbrev cX7_isThing : ByteArray := prog_9_method_5_code
def yX7_isThing : MethodName := ⟨RX7, "isThing", "(I)Z"⟩
abbrev cX7_areTwo : ByteArray := prog_9_method_6_code
def yX7_areTwo : MethodName := ⟨RX7, "areTwo", "(II)Z"⟩
abbrev cX7_add : ByteArray := prog_9_method_7_code
def yX7_add : MethodName := ⟨RX7, "add", "(I)V"⟩
abbrev cX7_child : ByteArray := prog_9_method_8_code
def yX7_child : MethodName := ⟨RX7, "child", "(I)I"⟩
abbrev cX7_know : ByteArray := prog_9_method_9_code
def yX7_know : MethodName := ⟨RX7, "know", "(III)I"⟩
abbrev cX7_need : ByteArray := prog_9_method_10_code
def yX7_need : MethodName := ⟨RX7, "need", "(II)I"⟩
abbrev cX7_hears : ByteArray := prog_9_method_11_code
def yX7_hears : MethodName := ⟨RX7, "hears", "(IIZ)I"⟩
abbrev cX7_knownTo : ByteArray := prog_9_method_12_code
def yX7_knownTo : MethodName := ⟨RX7, "knownTo", "(I)I"⟩
abbrev cX7_told : ByteArray := prog_9_method_13_code
def yX7_told : MethodName := ⟨RX7, "told", "(II)I"⟩
abbrev cX7_pass : ByteArray := prog_9_method_14_code
def yX7_pass : MethodName := ⟨RX7, "pass", "(II)I"⟩
abbrev cX7_passes : ByteArray := prog_9_method_15_code
def yX7_passes : MethodName := ⟨RX7, "passes", "(II)I"⟩
abbrev cX7_count : ByteArray := prog_9_method_16_code
def yX7_count : MethodName := ⟨RX7, "count", "(I)I"⟩
abbrev cX7_type : ByteArray := prog_9_method_17_code
def yX7_type : MethodName := ⟨RX7, "type", "(JI)I"⟩
abbrev cX7_nextByte : ByteArray := prog_9_method_18_code
def yX7_nextByte : MethodName := ⟨RX7, "nextByte", "()I"⟩
abbrev cX7_readChild : ByteArray := prog_9_method_19_code
def yX7_readChild : MethodName := ⟨RX7, "readChild", "(I)Z"⟩
abbrev cX7_readSchool : ByteArray := prog_9_method_20_code
def yX7_readSchool : MethodName := ⟨RX7, "readSchool", "()Z"⟩
abbrev cX7_school : ByteArray := prog_9_method_21_code
def yX7_school : MethodName := ⟨RX7, "school", "()I"⟩
abbrev cX7_readTeaching : ByteArray := prog_9_method_22_code
def yX7_readTeaching : MethodName := ⟨RX7, "readTeaching", "(I)Z"⟩
abbrev cX7_readPlan : ByteArray := prog_9_method_23_code
def yX7_readPlan : MethodName := ⟨RX7, "readPlan", "()Z"⟩
abbrev cX7_plan : ByteArray := prog_9_method_24_code
def yX7_plan : MethodName := ⟨RX7, "plan", "()I"⟩
abbrev cX7_mayBe : ByteArray := prog_9_method_25_code
def yX7_mayBe : MethodName := ⟨RX7, "mayBe", "(III)Z"⟩
abbrev cX7_teachNow : ByteArray := prog_9_method_26_code
def yX7_teachNow : MethodName := ⟨RX7, "teachNow", "(III)V"⟩
abbrev cX7_may : ByteArray := prog_9_method_27_code
def yX7_may : MethodName := ⟨RX7, "may", "(III)I"⟩
abbrev cX7_teach : ByteArray := prog_9_method_28_code
def yX7_teach : MethodName := ⟨RX7, "teach", "(III)I"⟩
abbrev cX7_run : ByteArray := prog_9_method_29_code
def yX7_run : MethodName := ⟨RX7, "run", "()I"⟩
abbrev cX7_ones : ByteArray := prog_9_method_30_code
def yX7_ones : MethodName := ⟨RX7, "ones", "(I)I"⟩
abbrev cX7_mayTeach : ByteArray := prog_9_method_31_code
def yX7_mayTeach : MethodName := ⟨RX7, "mayTeach", "(IIII)Z"⟩
abbrev cX7_goOn : ByteArray := prog_9_method_32_code
def yX7_goOn : MethodName := ⟨RX7, "goOn", "(I)V"⟩
abbrev cX7_hours : ByteArray := prog_9_method_33_code
def yX7_hours : MethodName := ⟨RX7, "hours", "(I)I"⟩
abbrev cX7_bound : ByteArray := prog_9_method_34_code
def yX7_bound : MethodName := ⟨RX7, "bound", "(I)I"⟩
abbrev cX7_goWithout : ByteArray := prog_9_method_35_code
def yX7_goWithout : MethodName := ⟨RX7, "goWithout", "(I)V"⟩
abbrev cX7_bringBack : ByteArray := prog_9_method_36_code
def yX7_bringBack : MethodName := ⟨RX7, "bringBack", "()V"⟩
abbrev cX7_spared : ByteArray := prog_9_method_37_code
def yX7_spared : MethodName := ⟨RX7, "spared", "()I"⟩
abbrev cX7_order : ByteArray := prog_9_method_38_code
def yX7_order : MethodName := ⟨RX7, "order", "(II)I"⟩
abbrev cX7_canHave : ByteArray := prog_9_method_39_code
def yX7_canHave : MethodName := ⟨RX7, "canHave", "(III)Z"⟩
abbrev cX7_isWay : ByteArray := prog_9_method_40_code
def yX7_isWay : MethodName := ⟨RX7, "isWay", "(I)Z"⟩
abbrev cX7_nextRow : ByteArray := prog_9_method_41_code
def yX7_nextRow : MethodName := ⟨RX7, "nextRow", "()Z"⟩
abbrev cX7_findWays : ByteArray := prog_9_method_42_code
def yX7_findWays : MethodName := ⟨RX7, "findWays", "(I)V"⟩
abbrev cX7_mouths : ByteArray := prog_9_method_43_code
def yX7_mouths : MethodName := ⟨RX7, "mouths", "(II)I"⟩
abbrev cX7_from : ByteArray := prog_9_method_44_code
def yX7_from : MethodName := ⟨RX7, "from", "(II)I"⟩
abbrev cX7_lesson : ByteArray := prog_9_method_45_code
def yX7_lesson : MethodName := ⟨RX7, "lesson", "(I)I"⟩
abbrev cX7_lessons : ByteArray := prog_9_method_46_code
def yX7_lessons : MethodName := ⟨RX7, "lessons", "(I)I"⟩
abbrev cX7_seed : ByteArray := prog_9_method_47_code
def yX7_seed : MethodName := ⟨RX7, "seed", "(I)I"⟩
abbrev cX7_carried : ByteArray := prog_9_method_48_code
def yX7_carried : MethodName := ⟨RX7, "carried", "(IIZ)I"⟩
abbrev cX7_image : ByteArray := prog_9_method_49_code
def yX7_image : MethodName := ⟨RX7, "image", "()I"⟩
abbrev cX7_restore : ByteArray := prog_9_method_50_code
def yX7_restore : MethodName := ⟨RX7, "restore", "()I"⟩
abbrev cX7_isSheet : ByteArray := prog_9_method_51_code
def yX7_isSheet : MethodName := ⟨RX7, "isSheet", "(II)Z"⟩
abbrev cX7_sheet : ByteArray := prog_9_method_52_code
def yX7_sheet : MethodName := ⟨RX7, "sheet", "(III)I"⟩
abbrev cX7_drop : ByteArray := prog_9_method_53_code
def yX7_drop : MethodName := ⟨RX7, "drop", "(I)I"⟩
abbrev cX7_lacksRow : ByteArray := prog_9_method_54_code
def yX7_lacksRow : MethodName := ⟨RX7, "lacksRow", "(IIII)I"⟩
abbrev cX7_item : ByteArray := prog_9_method_55_code
def yX7_item : MethodName := ⟨RX7, "item", "(IIII)I"⟩
abbrev cX7_hour : ByteArray := prog_9_method_56_code
def yX7_hour : MethodName := ⟨RX7, "hour", "(IIII)I"⟩
abbrev cX7_film : ByteArray := prog_9_method_57_code
def yX7_film : MethodName := ⟨RX7, "film", "(IIII)I"⟩
abbrev cX7_copy : ByteArray := prog_9_method_58_code
def yX7_copy : MethodName := ⟨RX7, "copy", "(IIIII)I"⟩
def RJ6 : String := "java/lang/Integer"
def TJ6 : u_T := fun k => match k with
  | _ => ("", "", "", false)
def tyJ6 : Nat → FieldType := fun k => match k with
  | _ => .int
abbrev wsJ60 : List Cond := u_ws RJ6 TJ6 0
abbrev cJ6_bitCount_0f7a4 : ByteArray := prog_10_method_49_code
def yJ6_bitCount_0f7a4 : MethodName := ⟨RJ6, "bitCount", "(I)I"⟩
def RJ10 : String := "java/lang/System"
def TJ10 : u_T := fun k => match k with
  | _ => ("", "", "", false)
def tyJ10 : Nat → FieldType := fun k => match k with
  | _ => .int
abbrev wsJ100 : List Cond := u_ws RJ10 TJ10 0
def RJ7 : String := "java/util/Arrays"
def TJ7 : u_T := fun k => match k with
  | _ => ("", "", "", false)
def tyJ7 : Nat → FieldType := fun k => match k with
  | _ => .int
abbrev wsJ70 : List Cond := u_ws RJ7 TJ7 0
abbrev cJ7_fill_53178 : ByteArray := prog_12_method_103_code
def yJ7_fill_53178 : MethodName := ⟨RJ7, "fill", "([II)V"⟩
abbrev cJ7_fill_031fb : ByteArray := prog_12_method_109_code
def yJ7_fill_031fb : MethodName := ⟨RJ7, "fill", "([BB)V"⟩
def RL : String := "TaughtHoursLaw"
abbrev cL_law : ByteArray := code
def yL_law : MethodName := ⟨RL, "law", "([I)Z"⟩
abbrev vwCl : List vw_C := [(RX0, TX0, 4), (RX1, TX1, 6), (RX2, TX2, 4), (RX3, TX3, 13), (RX4, TX4, 9), (RX5, TX5, 3), (RX6, TX6, 7), (RX7, TX7, 34)]
end
section
/-! A PURE MACHINE over the claim's own instructions: a heap of cells by numbers (0: the script), locals by places, calls by method numbers. -/
/-- a cell: a row of numbers (0 ints, 1 bytes, 2 booleans; length; contents), a row of cells, or an object (class, fields) -/
abbrev ex_E : Type := (Nat × Nat × (Nat → Int32)) ⊕ ((Nat × (Nat → Option Nat)) ⊕ (Nat × List Value))
abbrev ex_H : Type := List ex_E
/-- an instruction with what its number of the constant pool means -/
abbrev ex_I : Type := Instr × Nat × Nat × Int
abbrev ex_L : Type := List (Option Value)
/-- own class, name, bytes, locals, answer, how many it takes off the stack, where longs stand, code -/
abbrev ex_M : Type := String × MethodName × ByteArray × Nat × Option FieldType × Nat × List Nat × (Nat → Option ex_I)
/-- on, back with an answer, or a call (method, arguments, where it goes on, the rest of the stack) -/
abbrev ex_R : Type := (Nat × ex_L × List Value × ex_H) ⊕ (Option Value ⊕ (Nat × List Value × Nat × List Value))
def ex_tyF (ci : Nat) : Nat → FieldType := match ci with
  | 0 => tyX0 | 1 => tyX1 | 2 => tyX2 | 3 => tyX3 | 4 => tyX4 | 5 => tyX5 | 6 => tyX6 | _ => tyX7
def ex_nF (ci : Nat) : Nat := match ci with
  | 0 => 4 | 1 => 6 | 2 => 4 | 3 => 13 | 4 => 9 | 5 => 3 | 6 => 7 | _ => 34
def ex_ci (C : String) : Nat := if C = RX0 then 0 else if C = RX1 then 1 else if C = RX2 then 2 else if C = RX3 then 3 else if C = RX4 then 4 else if C = RX5 then 5 else if C = RX6 then 6 else if C = RX7 then 7 else 8
def ex_c (c : ClassFile.Cond) (x y : Int32) : Bool := match c with
  | .eq => decide (x = y) | .ne => decide (¬ x = y) | .lt => decide (x < y) | .ge => decide (y ≤ x) | .gt => decide (y < x) | .le => decide (x ≤ y)
/-- the stack alone -/
def ex_op (I : Instr) (v : Int) (st : List Value) : Option (List Value) := match I, st with
  | .iconst n, st => some (.int (Int32.ofInt n) :: st)
  | .bipush n, st => some (.int ((Int8.ofInt n).toInt32) :: st)
  | .sipush n, st => some (.int ((Int16.ofInt n).toInt32) :: st)
  | .ldc _, st => some (.int (Int32.ofInt v) :: st)
  | .ldc_w _, st => some (.int (Int32.ofInt v) :: st)
  | .lconst n, st => some (.long (Int64.ofNat (n : Nat)) :: st)
  | .ldc2_w _, st => some (.long (Int64.ofInt v) :: st)
  | .iadd, .int y :: .int x :: st => some (.int (x + y) :: st)
  | .isub, .int y :: .int x :: st => some (.int (x - y) :: st)
  | .imul, .int y :: .int x :: st => some (.int (x * y) :: st)
  | .iand, .int y :: .int x :: st => some (.int (x &&& y) :: st)
  | .ior, .int y :: .int x :: st => some (.int (x ||| y) :: st)
  | .ixor, .int y :: .int x :: st => some (.int (x ^^^ y) :: st)
  | .ishl, .int y :: .int x :: st => some (.int (x <<< (y &&& 31)) :: st)
  | .ishr, .int y :: .int x :: st => some (.int (x >>> (y &&& 31)) :: st)
  | .iushr, .int y :: .int x :: st => some (.int ((x.toUInt32 >>> (y.toUInt32 &&& Int32.toUInt32 31)).toInt32) :: st)
  | .idiv, .int y :: .int x :: st => if y = 0 then none else some (.int (x / y) :: st)
  | .irem, .int y :: .int x :: st => if y = 0 then none else some (.int (x - x / y * y) :: st)
  | .ineg, .int x :: st => some (.int (-x) :: st)
  | .i2b, .int x :: st => some (.int (x.toInt8.toInt32) :: st)
  | .i2s, .int x :: st => some (.int (x.toInt16.toInt32) :: st)
  | .i2l, .int x :: st => some (.long (x.toInt64) :: st)
  | .l2i, .long x :: st => some (.int (x.toInt32) :: st)
  | .ladd, .long y :: .long x :: st => some (.long (x + y) :: st)
  | .lsub, .long y :: .long x :: st => some (.long (x - y) :: st)
  | .lmul, .long y :: .long x :: st => some (.long (x * y) :: st)
  | .land, .long y :: .long x :: st => some (.long (x &&& y) :: st)
  | .lor, .long y :: .long x :: st => some (.long (x ||| y) :: st)
  | .lshl, .int y :: .long x :: st => some (.long (x <<< (y.toInt64 &&& 63)) :: st)
  | .lshr, .int y :: .long x :: st => some (.long (x >>> (y.toInt64 &&& 63)) :: st)
  | .lcmp, .long y :: .long x :: st => some (.int (lg_cmp x y) :: st)
  | .dup, a :: st => if a.category = 1 then some (a :: a :: st) else none
  | .pop, a :: st => if a.category = 1 then some st else none
  | .dup_x1, a :: b :: st => if a.category = 1 ∧ b.category = 1 then some (a :: b :: a :: st) else none
  | .dup2, a :: b :: st => if a.category = 1 ∧ b.category = 1 then some (a :: b :: a :: b :: st) else none
  | _, _ => none
def ex_len (I : Instr) : Nat := match I with
  | .bipush _ | .iload _ | .aload _ | .lload _ | .istore _ | .astore _ | .ldc _ | .newarray _ => 2
  | .sipush _ | .iinc _ _ | .ifCond _ _ | .if_icmp _ _ | .goto _ | .getfield _ | .putfield _ | .invokevirtual _ | .invokestatic _ | .invokespecial _ | .new _ | .anewarray _ | .ldc_w _ | .ldc2_w _ => 3
  | _ => 1
def ex_ld (L : ex_L) (i : Nat) : Option Value := match L[i]? with
  | some (some v) => some v
  | _ => none
/-- a store of one slot: no long stands there or ahead of it -/
def ex_st (lg : List Nat) (L : ex_L) (i : Nat) (v : Value) : Option ex_L := if i < L.length ∧ i ∉ lg ∧ i - 1 ∉ lg ∧ v.category = 1 then some (L.set i (some v)) else none
def ex_jmp (pc : Nat) (off : Int) : Option Nat := if 0 ≤ (pc : Int) + off then some ((pc : Int) + off).toNat else none
def ex_ar (t : ArrayType) : Option Nat := match t with
  | .int => some 0 | .byte => some 1 | .boolean => some 2 | _ => none
def ex_df (ci : Nat) : List Value := (List.range (ex_nF ci)).map (fun k => defaultValue (ex_tyF ci k))
def ex_in (i : Int32) (n : Nat) : Bool := decide (¬ (i < 0 ∨ n ≤ i.toNatClampNeg))
/-- a field of this kind (0 int, 1 boolean, 2 a reference) takes this value -/
def ex_fit (k : Int) (v : Value) : Bool := match v with
  | .int x => decide (k = 0) || (decide (k = 1) && (decide (x = 0) || decide (x = 1)))
  | .ref _ => decide (k = 2)
  | _ => false
def ex_sz (x : ex_E) : Nat := match x with
  | .inl q => q.2.1
  | .inr (.inl q) => q.1
  | .inr (.inr q) => ex_nF q.1
def ex_hs (h : ex_H) : Nat := (h.map ex_sz).sum
def ex_getf (E : ex_I) (st : List Value) (h : ex_H) : Option (List Value × ex_H) := match st with
  | .ref c :: st => match h[c]? with
    | some (.inr (.inr (ci, fs))) => if c = 0 ∨ ci ≠ E.2.1 then none else match fs[E.2.2.1]? with
      | some v => some (v :: st, h)
      | none => none
    | _ => none
  | _ => none
def ex_putf (E : ex_I) (st : List Value) (h : ex_H) : Option (List Value × ex_H) := match st with
  | v :: .ref c :: st => match h[c]? with
    | some (.inr (.inr (ci, fs))) => if c = 0 ∨ ci ≠ E.2.1 ∨ fs.length ≤ E.2.2.1 ∨ ex_fit E.2.2.2 v = false then none else some (st, h.set c (.inr (.inr (ci, fs.set E.2.2.1 v))))
    | _ => none
  | _ => none
def ex_ald (st : List Value) (h : ex_H) : Option (List Value × ex_H) := match st with
  | .int i :: .ref c :: st => match h[c]? with
    | some (.inl (0, n, f)) => if ex_in i n then some (.int (f i.toNatClampNeg) :: st, h) else none
    | _ => none
  | _ => none
def ex_bld (st : List Value) (h : ex_H) : Option (List Value × ex_H) := match st with
  | .int i :: .ref c :: st => match h[c]? with
    | some (.inl (1, n, f)) => if c ≠ 0 ∧ ex_in i n then some (.int (f i.toNatClampNeg) :: st, h) else none
    | some (.inl (2, n, f)) => if c ≠ 0 ∧ ex_in i n then some (.int (f i.toNatClampNeg) :: st, h) else none
    | _ => none
  | _ => none
def ex_qld (st : List Value) (h : ex_H) : Option (List Value × ex_H) := match st with
  | .int i :: .ref c :: st => match h[c]? with
    | some (.inr (.inl (n, f))) => if c ≠ 0 ∧ ex_in i n then match f i.toNatClampNeg with
        | some r => some (.ref r :: st, h)
        | none => none
      else none
    | _ => none
  | _ => none
def ex_ast (st : List Value) (h : ex_H) : Option (List Value × ex_H) := match st with
  | .int x :: .int i :: .ref c :: st => match h[c]? with
    | some (.inl (0, n, f)) => if c ≠ 0 ∧ ex_in i n then some (st, h.set c (.inl (0, n, upd f i.toNatClampNeg x))) else none
    | _ => none
  | _ => none
def ex_bst (st : List Value) (h : ex_H) : Option (List Value × ex_H) := match st with
  | .int x :: .int i :: .ref c :: st => match h[c]? with
    | some (.inl (1, n, f)) => if c ≠ 0 ∧ ex_in i n then some (st, h.set c (.inl (1, n, upd f i.toNatClampNeg (vp_nar .byte x)))) else none
    | some (.inl (2, n, f)) => if c ≠ 0 ∧ ex_in i n then some (st, h.set c (.inl (2, n, upd f i.toNatClampNeg (vp_nar .boolean x)))) else none
    | _ => none
  | _ => none
def ex_qst (st : List Value) (h : ex_H) : Option (List Value × ex_H) := match st with
  | .ref v :: .int i :: .ref c :: st => match h[c]?, h[v]? with
    | some (.inr (.inl (n, f))), some (.inr (.inr (5, _))) => if c ≠ 0 ∧ v ≠ 0 ∧ ex_in i n then some (st, h.set c (.inr (.inl (n, va_up f i.toNatClampNeg (some v))))) else none
    | _, _ => none
  | _ => none
def ex_aln (st : List Value) (h : ex_H) : Option (List Value × ex_H) := match st with
  | .ref c :: st => match h[c]? with
    | some (.inl (0, n, _)) => some (.int (Int32.ofNat n) :: st, h)
    | some (.inl (1, n, _)) => if c ≠ 0 then some (.int (Int32.ofNat n) :: st, h) else none
    | _ => none
  | _ => none
def ex_new (E : ex_I) (st : List Value) (h : ex_H) : Option (List Value × ex_H) := if E.2.1 < 8 then some (.ref h.length :: st, h ++ [.inr (.inr (E.2.1, ex_df E.2.1))]) else none
def ex_nar (t : ArrayType) (st : List Value) (h : ex_H) : Option (List Value × ex_H) := match st with
  | .int n :: st => match ex_ar t with
    | some k => if ¬ n < 0 ∧ n.toNatClampNeg ≤ 100000 then some (.ref h.length :: st, h ++ [.inl (k, n.toNatClampNeg, fun _ => 0)]) else none
    | none => none
  | _ => none
def ex_nqr (st : List Value) (h : ex_H) : Option (List Value × ex_H) := match st with
  | .int n :: st => if ¬ n < 0 ∧ n.toNatClampNeg ≤ 100000 then some (.ref h.length :: st, h ++ [.inr (.inl (n.toNatClampNeg, fun _ => none))]) else none
  | _ => none
def ex_cpy (d : Nat) (st : List Value) (h : ex_H) : Option (List Value × ex_H) := match st with
  | .int n :: .int dp :: .ref a1 :: .int sp :: .ref a0 :: st => match h[a0]?, h[a1]? with
    | some (.inl (0, n0, f)), some (.inl (0, n1, g)) => if d ≠ 0 ∧ a0 ≠ 0 ∧ a1 ≠ 0 ∧ ¬ sp < 0 ∧ ¬ dp < 0 ∧ ¬ n < 0 ∧ sp.toNatClampNeg + n.toNatClampNeg ≤ n0 ∧ dp.toNatClampNeg + n.toNatClampNeg ≤ n1 ∧ (st.map fun v => v.category).sum ≤ 8 then some (st, h.set a1 (.inl (0, n1, va_cpy f g sp.toNatClampNeg dp.toNatClampNeg n.toNatClampNeg))) else none
    | _, _ => none
  | _ => none
def ex_obj (d : Nat) (st : List Value) (h : ex_H) : Option (List Value × ex_H) := match st with
  | .ref _ :: st => if d ≠ 0 ∧ (st.map fun v => v.category).sum ≤ 8 then some (st, h) else none
  | _ => none
/-- the heap's instructions -/
def ex_hp (d : Nat) (E : ex_I) (st : List Value) (h : ex_H) : Option (List Value × ex_H) := match E.1 with
  | .getfield _ => ex_getf E st h
  | .putfield _ => ex_putf E st h
  | .iaload => ex_ald st h
  | .baload => ex_bld st h
  | .aaload => ex_qld st h
  | .iastore => ex_ast st h
  | .bastore => ex_bst st h
  | .aastore => ex_qst st h
  | .arraylength => ex_aln st h
  | .new _ => ex_new E st h
  | .newarray t => ex_nar t st h
  | .anewarray _ => ex_nqr st h
  | .invokestatic _ => if E.2.2.1 = 3 then ex_cpy d st h else none
  | .invokespecial _ => if E.2.2.1 = 2 then ex_obj d st h else none
  | _ => none
def ex_lds (I : Instr) : Option (Nat × Nat) := match I with
  | .iload i => some (i, 0) | .iload_n i => some (i.val, 0) | .aload i => some (i, 1) | .aload_n i => some (i.val, 1) | .lload i => some (i, 2) | .lload_n i => some (i.val, 2) | _ => none
def ex_sts (I : Instr) : Option (Nat × Nat) := match I with
  | .istore i => some (i, 0) | .istore_n i => some (i.val, 0) | .astore i => some (i, 1) | .astore_n i => some (i.val, 1) | _ => none
def ex_isk (k : Nat) (v : Value) : Bool := match v with
  | .int _ => decide (k = 0) | .ref _ => decide (k = 1) | .long _ => decide (k = 2) | _ => false
/-- where it goes: jumps and switches -/
def ex_go (pc : Nat) (E : ex_I) (st : List Value) : Option (Nat × List Value) := match E.1, st with
  | .goto _, st => some (E.2.1, st)
  | .ifCond c _, .int x :: st => some (if ex_c c x 0 then E.2.1 else pc + 3, st)
  | .if_icmp c _, .int y :: .int x :: st => some (if ex_c c x y then E.2.1 else pc + 3, st)
  | .tableswitch dflt lo hi offs, .int x :: st => if x.toInt < lo ∨ hi < x.toInt then (ex_jmp pc dflt).map (fun t => (t, st)) else match offs[(x.toInt - lo).toNat]? with
    | some off => (ex_jmp pc off).map (fun t => (t, st))
    | none => none
  | .lookupswitch dflt ps, .int x :: st => (ex_jmp pc (Op.lookupswitch.offset ps.toList dflt x.toInt)).map (fun t => (t, st))
  | _, _ => none
def ex_lo (M : ex_M) (E : ex_I) (L : ex_L) (st : List Value) : Option (ex_L × List Value) := match ex_lds E.1 with
  | some (i, k) => match ex_ld L i with
    | some v => if ex_isk k v then some (L, v :: st) else none
    | none => none
  | none => match ex_sts E.1 with
    | some (i, k) => match st with
      | v :: st => if ex_isk k v then (ex_st M.2.2.2.2.2.2.1 L i v).map (fun L' => (L', st)) else none
      | [] => none
    | none => match E.1 with
      | .iinc i n => match ex_ld L i with
        | some (.int x) => (ex_st M.2.2.2.2.2.2.1 L i (.int (x + Int32.ofInt n))).map (fun L' => (L', st))
        | _ => none
      | _ => none
def ex_rt (M : ex_M) (E : ex_I) (st : List Value) : Option (Option Value) := match E.1, st with
  | .ireturn, [.int x] => if M.2.2.2.2.1 = some .int ∨ (M.2.2.2.2.1 = some .boolean ∧ (x = 0 ∨ x = 1)) then some (some (.int x)) else none
  | .return_, [] => if M.2.2.2.2.1 = none then some none else none
  | _, _ => none
/-- the object that a method is called of -/
def ex_rcv (E : ex_I) (as : List Value) (h : ex_H) : Bool := match as with
  | .ref c :: _ => match h[c]? with
    | some (.inr (.inr (ci, _))) => decide (c ≠ 0) && decide ((ci : Int) = E.2.2.2)
    | _ => false
  | _ => false
def ex_sl (as : List Value) : ex_L := as.flatMap (fun v => if v.category = 2 then [some v, none] else [some v])
def ex_en (M : ex_M) (as : List Value) : ex_L := ex_sl as ++ List.replicate (M.2.2.2.1 - (ex_sl as).length) none
/-- the arguments fit the locals, and longs stand where they are said to -/
def ex_lok (lg : List Nat) : Nat → ex_L → Bool
  | _, [] => true
  | i, some (.long _) :: l => decide (i ∈ lg) && ex_lok lg (i + 1) l
  | i, some (.double _) :: l => decide (i ∈ lg) && ex_lok lg (i + 1) l
  | i, _ :: l => ex_lok lg (i + 1) l
def ex_eok (M : ex_M) (as : List Value) : Bool := decide ((ex_sl as).length ≤ M.2.2.2.1) && ex_lok M.2.2.2.2.2.2.1 0 (ex_sl as)
def ex_cl (P : Nat → ex_M) (E : ex_I) (st : List Value) (h : ex_H) : Option (Nat × List Value × List Value) :=
  let np := (P E.2.1).2.2.2.2.2.1
  let as := (st.take np).reverse
  if st.length < np ∨ ¬ ((st.drop np).map fun v => v.category).sum ≤ 8 ∨ ex_eok (P E.2.1) as = false then none else match E.1 with
  | .invokevirtual _ => if E.2.2.1 ≤ 1 ∧ ex_rcv E as h then some (E.2.1, as, st.drop np) else none
  | .invokestatic _ => if E.2.2.1 ≤ 1 then some (E.2.1, as, st.drop np) else none
  | .invokespecial _ => match as with
    | .ref _ :: _ => if E.2.2.1 ≤ 1 then some (E.2.1, as, st.drop np) else none
    | _ => none
  | _ => none
def ex_step (P : Nat → ex_M) (M : ex_M) (d pc : Nat) (L : ex_L) (st : List Value) (h : ex_H) : Option ex_R := match M.2.2.2.2.2.2.2 pc with
  | none => none
  | some E => match ex_op E.1 E.2.2.2 st with
    | some st' => some (.inl (pc + ex_len E.1, L, st', h))
    | none => match ex_lo M E L st with
      | some (L', st') => some (.inl (pc + ex_len E.1, L', st', h))
      | none => match ex_go pc E st with
        | some (pc', st') => some (.inl (pc', L, st', h))
        | none => match ex_hp d E st h with
          | some (st', h') => some (.inl (pc + ex_len E.1, L, st', h'))
          | none => match ex_rt M E st with
            | some v => some (.inr (.inl v))
            | none => match ex_cl P E st h with
              | some (k, as, st') => some (.inr (.inr (k, as, pc + 3, st')))
              | none => none
/-- fuel, depth of calls, method, place, locals, stack, heap -/
def ex_run (P : Nat → ex_M) : Nat → Nat → Nat → Nat → ex_L → List Value → ex_H → Option (Option Value × ex_H)
  | 0, _, _, _, _, _, _ => none
  | n + 1, d, k, pc, L, st, h => match ex_step P (P k) d pc L st h with
    | none => none
    | some (.inl (pc', L', st', h')) => ex_run P n d k pc' L' st' h'
    | some (.inr (.inl v)) => some (v, h)
    | some (.inr (.inr (k', as, pc', st'))) => match d with
      | 0 => none
      | d' + 1 => match ex_run P n d' k' 0 (ex_en (P k') as) [] h with
        | none => none
        | some (v, h') => ex_run P n (d' + 1) k pc' L (v.toList ++ st') h'
end
section
/-! THE PURE MACHINE IS THE MACHINE: what ex_run answers, the bytecode does. -/
def ex_g (b b0 : Nat) (k : Nat) : Nat := if k = 0 then b else b0 + k
def ex_v (g : Nat → Nat) (v : Value) : Value := match v with
  | .ref k => .ref (g k)
  | w => w
theorem ex_v_cat (g : Nat → Nat) (v : Value) : (ex_v g v).category = v.category := by cases v <;> rfl
theorem ex_v_sum (g : Nat → Nat) (st : List Value) : ((st.map (ex_v g)).map fun v => v.category).sum = (st.map fun v => v.category).sum := by
  rw [List.map_map]
  congr 1
  exact List.map_congr_left (fun v _ => ex_v_cat g v)
def ex_e (g : Nat → Nat) (ca : Nat → ClassId) (x : ex_E) : va_E := match x with
  | .inl q => .inl (ca q.1, q.2.1, .inl q.2.2)
  | .inr (.inl q) => .inl (ca 3, q.1, .inr (.inr (.inr (.inr (fun j => (q.2 j).map g)))))
  | .inr (.inr q) => .inr (q.1, q.2.map (ex_v g))
def ex_w (g : Nat → Nat) (ca : Nat → ClassId) (h : ex_H) : va_W := (h.drop 1).mapIdx (fun k x => (g (k + 1), ex_e g ca x))
theorem ex_w_get (g : Nat → Nat) (ca : Nat → ClassId) (h : ex_H) (k : Nat) : (ex_w g ca h)[k]? = (h[k + 1]?).map (fun x => (g (k + 1), ex_e g ca x)) := by
  unfold ex_w
  rw [List.getElem?_mapIdx, List.getElem?_drop, Nat.add_comm 1 k]
theorem ex_w_at {g : Nat → Nat} {ca : Nat → ClassId} {h : ex_H} {k : Nat} {x : ex_E} (hk : k ≠ 0) (hx : h[k]? = some x) : (ex_w g ca h)[k - 1]? = some (g k, ex_e g ca x) := by
  obtain ⟨j, rfl⟩ : ∃ j, k = j + 1 := ⟨k - 1, by omega⟩
  rw [ex_w_get, Nat.add_sub_cancel, hx]
  rfl
theorem ex_w_set {g : Nat → Nat} {ca : Nat → ClassId} {h : ex_H} {k : Nat} (x : ex_E) (hk : k ≠ 0) : (ex_w g ca h).set (k - 1) (g k, ex_e g ca x) = ex_w g ca (h.set k x) := by
  obtain ⟨j, rfl⟩ : ∃ j, k = j + 1 := ⟨k - 1, by omega⟩
  rw [Nat.add_sub_cancel]
  refine List.ext_getElem? fun i => ?_
  rw [ex_w_get, List.getElem?_set, ex_w_get, List.getElem?_set]
  by_cases hij : j = i
  · subst hij
    have hl : (ex_w g ca h).length = h.length - 1 := by unfold ex_w; simp
    by_cases hlt : j < h.length - 1
    · rw [if_pos rfl, if_pos (by omega), if_pos rfl, if_pos (by omega)]; rfl
    · rw [if_pos rfl, if_neg (by omega), if_pos rfl, if_neg (by omega)]; rfl
  · rw [if_neg hij, if_neg (by omega)]
theorem ex_w_push {g : Nat → Nat} {ca : Nat → ClassId} {h : ex_H} (x : ex_E) (hl : 1 ≤ h.length) : ex_w g ca (h ++ [x]) = ex_w g ca h ++ [(g h.length, ex_e g ca x)] := by
  refine List.ext_getElem? fun i => ?_
  have hw : (ex_w g ca h).length = h.length - 1 := by unfold ex_w; simp
  rw [ex_w_get, List.getElem?_append, List.getElem?_append, hw]
  by_cases h1 : i + 1 < h.length
  · rw [if_pos h1, if_pos (by omega), ex_w_get]
  · rw [if_neg h1, if_neg (by omega)]
    by_cases h2 : i + 1 = h.length
    · rw [h2, Nat.sub_self, show i - (h.length - 1) = 0 by omega]; rfl
    · rw [List.getElem?_eq_none (by simp; omega), List.getElem?_eq_none (by simp; omega)]; rfl
theorem ex_w_D (b b0 : Nat) (ca : Nat → ClassId) (h : ex_H) : va_D (fun q => b0 < q) (ex_w (ex_g b b0) ca h) := by
  refine ⟨fun i j x y hi hj e => ?_, fun k q hk => ?_⟩
  · rw [ex_w_get, Option.map_eq_some_iff] at hi hj
    obtain ⟨u, -, rfl⟩ := hi
    obtain ⟨w, -, rfl⟩ := hj
    have e' : ex_g b b0 (i + 1) = ex_g b b0 (j + 1) := e
    unfold ex_g at e'
    rw [if_neg (by omega), if_neg (by omega)] at e'
    omega
  · rw [ex_w_get, Option.map_eq_some_iff] at hk
    obtain ⟨u, -, rfl⟩ := hk
    show b0 < ex_g b b0 (k + 1)
    unfold ex_g
    rw [if_neg (by omega)]
    omega
/-- locals -/
def ex_Ls (g : Nat → Nat) (nL : Nat) (lg : List Nat) (ls : Array Slot) (L : ex_L) : Prop := ls.size = nL ∧ L.length = nL ∧ lv_wf ls ∧ (∀ (i : Nat) (v : Value), L[i]? = some (some v) → ls[i]? = some (.val (ex_v g v))) ∧ ∀ (i : Nat) (v : Value), L[i]? = some (some v) → v.category = 2 → i ∈ lg
def ex_ps (g : Nat → Nat) (L : ex_L) : List (Nat × Value) := (List.range L.length).filterMap (fun i => match L[i]? with
  | some (some v) => some (i, ex_v g v)
  | _ => none)
theorem ex_ps_mem {g : Nat → Nat} {L : ex_L} {i : Nat} {v : Value} (h : L[i]? = some (some v)) : (i, ex_v g v) ∈ ex_ps g L := by
  unfold ex_ps
  refine List.mem_filterMap.mpr ⟨i, List.mem_range.mpr ?_, ?_⟩
  · exact (List.getElem?_eq_some_iff.mp h).1
  · rw [h]
theorem ex_ps_of {g : Nat → Nat} {L : ex_L} {q : Nat × Value} (h : q ∈ ex_ps g L) : ∃ v, L[q.1]? = some (some v) ∧ q.2 = ex_v g v := by
  unfold ex_ps at h
  obtain ⟨i, -, hi⟩ := List.mem_filterMap.mp h
  split at hi
  · rename_i v hv
    cases hi
    exact ⟨v, hv, rfl⟩
  · cases hi
theorem ex_Ls.has {g : Nat → Nat} {nL : Nat} {lg : List Nat} {ls : Array Slot} {L : ex_L} (h : ex_Ls g nL lg ls L) : lv_has ls nL (ex_ps g L) := by
  refine ⟨h.1, h.2.2.1, fun q hq => ?_⟩
  obtain ⟨v, h1, h2⟩ := ex_ps_of hq
  rw [h2]
  exact h.2.2.2.1 _ _ h1
theorem ex_Ls.put {g : Nat → Nat} {nL : Nat} {lg : List Nat} {ls ls' : Array Slot} {L : ex_L} {i : Nat} {v : Value} (h : ex_Ls g nL lg ls L) (hi : i ∉ lg) (hp : i - 1 ∉ lg) (hc : v.category = 1)
    (h' : lv_has ls' nL ((i, ex_v g v) :: (ex_ps g L).filter (fun q => !(q.1 == i) && !(q.1 + 1 == i && q.2.category == 2)))) : ex_Ls g nL lg ls' (L.set i (some v)) := by
  refine ⟨h'.1, by rw [List.length_set]; exact h.2.1, h'.2.1, fun j w hj => ?_, fun j w hj hw => ?_⟩
  · rw [List.getElem?_set] at hj
    by_cases hij : i = j
    · subst hij
      rw [if_pos rfl] at hj
      split at hj
      · cases hj
        exact h'.2.2 _ List.mem_cons_self
      · cases hj
    · rw [if_neg hij] at hj
      refine h'.2.2 (j, ex_v g w) (List.mem_cons_of_mem _ (List.mem_filter.mpr ⟨ex_ps_mem hj, ?_⟩))
      have h1 : ¬ j = i := fun q => hij q.symm
      have h2 : ¬ (j + 1 = i ∧ (ex_v g w).category = 2) := by
        rintro ⟨q1, q2⟩
        rw [ex_v_cat] at q2
        have := h.2.2.2.2 j w hj q2
        rw [show j = i - 1 by omega] at this
        exact hp this
      simp only [Bool.and_eq_true, Bool.not_eq_true', beq_eq_false_iff_ne, ne_eq, Bool.and_eq_false_iff]
      refine ⟨h1, ?_⟩
      by_cases q1 : j + 1 = i
      · exact Or.inr (fun q2 => h2 ⟨q1, q2⟩)
      · exact Or.inl q1
  · rw [List.getElem?_set] at hj
    by_cases hij : i = j
    · subst hij
      rw [if_pos rfl] at hj
      split at hj
      · cases hj
        omega
      · cases hj
    · rw [if_neg hij] at hj
      exact h.2.2.2.2 j w hj hw
theorem ex_ld_some {L : ex_L} {i : Nat} {v : Value} (h : ex_ld L i = some v) : L[i]? = some (some v) := by
  unfold ex_ld at h
  split at h
  · rename_i w hw
    cases h
    exact hw
  · cases h
theorem ex_st_some {lg : List Nat} {L L' : ex_L} {i : Nat} {v : Value} (h : ex_st lg L i v = some L') : i < L.length ∧ i ∉ lg ∧ i - 1 ∉ lg ∧ v.category = 1 ∧ L' = L.set i (some v) := by
  unfold ex_st at h
  split at h
  · rename_i hc
    cases h
    exact ⟨hc.1, hc.2.1, hc.2.2.1, hc.2.2.2, rfl⟩
  · cases h
end
section
section EXW
variable {p : Program} {l : Launch} {e : Env} {R : Room} {s : State} {m : MethodId} {args : Array Value} {below : List Frame} {meth : Method} {c : Code} {H : Heap} {locs : List Loc} {cells slots : Nat} {Q : State → Prop}
variable {cc : ByteArray} {pc : Nat} {ls : Array Slot} {g : Nat → Nat}
/-- what a constant's instruction reads of the pool -/
def ex_kw (own : String) (I : Instr) (v : Int) : Option Cond := match I with
  | .ldc i => some (.constant own i (Int32.ofInt v))
  | .ldc_w i => some (.constant own i (Int32.ofInt v))
  | .ldc2_w i => some (.constantLong own i (Int64.ofInt v))
  | _ => none
set_option maxHeartbeats 1000000 in
theorem ex_op_ok (hx : p.tables.exec = Jvm.exec) (hb : c.code = cc) {own : String} (hown : s.vm.findClass own = some m.cls) {I : Instr} {v : Int} {st st' : List Value} (h : ex_op I v st = some st') (hd : decode cc pc = .ok (I, ex_len I)) (hk : ∀ w, ex_kw own I v = some w → w.before args s = true)
    (kk : W p l e R s m args below meth c H locs cells slots Q (F0 m (pc + ex_len I) ls (st'.map (ex_v g)))) : W p l e R s m args below meth c H locs cells slots Q (F0 m pc ls (st.map (ex_v g))) := by
  unfold ex_op at h
  split at h
  · cases h; exact lv_iconst hx hb hd rfl kk
  · cases h; exact lv_bipush hx hb hd rfl kk
  · cases h; exact lv_sipush hx hb hd rfl kk
  · cases h; exact lv_ldc hx hb hown (hk _ rfl) hd kk
  · cases h; exact lv_ldcw hx hb hown (hk _ rfl) hd kk
  · cases h; exact lv_lconst hx hb hd rfl kk
  · cases h; exact lv_ldc2 hx hb hown (hk _ rfl) hd kk
  · cases h; exact lv_iadd hx hb hd kk
  · cases h; exact lv_isub hx hb hd kk
  · cases h; exact lv_imul hx hb hd kk
  · cases h; exact lv_iand hx hb hd kk
  · cases h; exact lv_ior hx hb hd kk
  · cases h; exact lv_ixor hx hb hd kk
  · cases h; exact lv_ishl hx hb hd kk
  · cases h; exact lv_ishr hx hb hd kk
  · cases h; exact lv_iushr hx hb hd rfl kk
  · split at h
    · cases h
    · cases h; exact lv_idiv hx hb hd (by assumption) kk
  · split at h
    · cases h
    · cases h; exact lv_irem hx hb hd (by assumption) kk
  · cases h; exact lv_ineg hx hb hd kk
  · cases h; exact lv_i2b hx hb hd rfl kk
  · cases h; exact lv_i2s hx hb hd rfl kk
  · cases h; exact lv_i2l hx hb hd rfl kk
  · cases h; exact lv_l2i hx hb hd rfl kk
  · cases h; exact lv_ladd hx hb hd kk
  · cases h; exact lv_lsub hx hb hd kk
  · cases h; exact lv_lmul hx hb hd kk
  · cases h; exact lv_land hx hb hd kk
  · cases h; exact lv_lor hx hb hd kk
  · cases h; exact lv_lshl hx hb hd rfl kk
  · cases h; exact lv_lshr hx hb hd rfl kk
  · cases h; exact W.lcmp hx hb hd kk
  · split at h
    · cases h; exact lv_dup hx hb hd (by rw [ex_v_cat]; assumption) kk
    · cases h
  · split at h
    · cases h; exact lv_pop hx hb hd (by rw [ex_v_cat]; assumption) kk
    · cases h
  · split at h
    · rename_i hc; cases h; exact lv_dup_x1 hx hb hd (by rw [ex_v_cat]; exact hc.1) (by rw [ex_v_cat]; exact hc.2) kk
    · cases h
  · split at h
    · rename_i hc; cases h; exact lv_dup2_11 hx hb hd (by rw [ex_v_cat]; exact hc.1) (by rw [ex_v_cat]; exact hc.2) kk
    · cases h
  · cases h
theorem ex_lo_ok (hx : p.tables.exec = Jvm.exec) (hb : c.code = cc) {M : ex_M} {E : ex_I} {L L' : ex_L} {st st' : List Value} (h : ex_lo M E L st = some (L', st')) (hd : decode cc pc = .ok (E.1, ex_len E.1)) (hL : ex_Ls g M.2.2.2.1 M.2.2.2.2.2.2.1 ls L)
    (kk : ∀ ls' : Array Slot, ex_Ls g M.2.2.2.1 M.2.2.2.2.2.2.1 ls' L' → W p l e R s m args below meth c H locs cells slots Q (F0 m (pc + ex_len E.1) ls' (st'.map (ex_v g)))) : W p l e R s m args below meth c H locs cells slots Q (F0 m pc ls (st.map (ex_v g))) := by
  obtain ⟨I, a, b, v0⟩ := E
  unfold ex_lo at h
  split at h
  · rename_i i k hik
    split at h
    · rename_i v hv
      split at h
      · rename_i hkd
        cases h
        have hv2 := hL.2.2.2.1 _ _ (ex_ld_some hv)
        have kk := kk ls hL
        dsimp only at hik hd kk
        unfold ex_lds at hik
        split at hik <;> cases hik <;> unfold ex_isk at hkd <;> split at hkd <;> first | (cases hkd; done) | exact lv_iload hx hb hd hv2 kk | exact lv_iload_n hx hb hd rfl hv2 kk | exact lv_aload hx hb hd hv2 kk | exact lv_aload_n hx hb hd rfl hv2 kk | exact lv_lload hx hb hd hv2 kk | exact lv_lload_n hx hb hd rfl hv2 kk
      · cases h
    · cases h
  · split at h
    · rename_i i k hik
      split at h
      · rename_i v st0
        split at h
        · rename_i hkd
          obtain ⟨L1, hL1, he⟩ := Option.map_eq_some_iff.mp h
          cases he
          obtain ⟨q1, q2, q3, q4, rfl⟩ := ex_st_some hL1
          have q1 : i < M.2.2.2.1 := by rw [← hL.2.1]; exact q1
          dsimp only at hik hd kk
          unfold ex_sts at hik
          split at hik <;> cases hik <;> unfold ex_isk at hkd <;> split at hkd <;> first | (cases hkd; done) | exact lv_istore hx hb hd hL.has q1 rfl (fun ls' h' => kk ls' (hL.put q2 q3 q4 h')) | exact lv_istore_n hx hb hd rfl hL.has q1 rfl (fun ls' h' => kk ls' (hL.put q2 q3 q4 h')) | exact lv_astore hx hb hd hL.has q1 rfl (fun ls' h' => kk ls' (hL.put q2 q3 q4 h')) | exact lv_astore_n hx hb hd rfl hL.has q1 rfl (fun ls' h' => kk ls' (hL.put q2 q3 q4 h'))
        · cases h
      · cases h
    · split at h
      · rename_i i n hI
        dsimp only at hI
        subst hI
        split at h
        · rename_i x hv
          obtain ⟨L1, hL1, he⟩ := Option.map_eq_some_iff.mp h
          cases he
          obtain ⟨q1, q2, q3, q4, rfl⟩ := ex_st_some hL1
          have q1 : i < M.2.2.2.1 := by rw [← hL.2.1]; exact q1
          obtain ⟨k, hk⟩ := List.getElem?_of_mem (ex_ps_mem (g := g) (ex_ld_some hv))
          exact lv_iinc hx hb hd hL.has hk rfl q1 rfl (fun ls' h' => kk ls' (hL.put (v := .int (x + Int32.ofInt n)) q2 q3 q4 h'))
        · cases h
      · cases h
end EXW
end
section
/-! the heap's rows of the pure machine -/
def ex_tbl : List Cond := lw_tbl.filter goodWord
theorem ex_tbl_of {w : Cond} (h : w ∈ lw_tbl) (hg : goodWord w = true) : w ∈ ex_tbl := List.mem_filter.mpr ⟨h, hg⟩
theorem ex_tb {w : Cond} (i : Nat) (h : tables_1[i]? = some w) (hg : goodWord w = true) : w ∈ ex_tbl := ex_tbl_of (List.mem_append_right _ (List.mem_of_getElem? h)) hg
def ex_tys (ca : Nat → ClassId) : List (ClassId × FieldType) := [(ca 0, .int), (ca 1, .byte), (ca 2, .boolean), (ca 3, .object RX5)]
def ex_RC (ci : Nat) : String := match ci with
  | 0 => RX0 | 1 => RX1 | 2 => RX2 | 3 => RX3 | 4 => RX4 | 5 => RX5 | 6 => RX6 | _ => RX7
def ex_TC (ci : Nat) : u_T := match ci with
  | 0 => TX0 | 1 => TX1 | 2 => TX2 | 3 => TX3 | 4 => TX4 | 5 => TX5 | 6 => TX6 | _ => TX7
theorem ex_ty_ok (ci : Nat) : ∀ k, k < ex_nF ci → parseFieldDescriptor (ex_TC ci k).2.2.1 = some (ex_tyF ci k) := by
  match ci with
  | 0 => exact tyX0_ok | 1 => exact tyX1_ok | 2 => exact tyX2_ok | 3 => exact tyX3_ok | 4 => exact tyX4_ok | 5 => exact tyX5_ok | 6 => exact tyX6_ok | n + 7 => exact tyX7_ok
theorem ex_nm_ok (ci : Nat) : ∀ a, a < ex_nF ci → ∀ b, b < ex_nF ci → a ≠ b → (ex_TC ci a).2.1 ≠ (ex_TC ci b).2.1 := by
  match ci with
  | 0 => exact nmX0 | 1 => exact nmX1 | 2 => exact nmX2 | 3 => exact nmX3 | 4 => exact nmX4 | 5 => exact nmX5 | 6 => exact nmX6 | n + 7 => exact nmX7
theorem ex_cl_ok {ci : Nat} (h : ci < 8) : vwCl[ci]? = some (ex_RC ci, ex_TC ci, ex_nF ci) := by
  match ci, h with
  | 0, _ => rfl | 1, _ => rfl | 2, _ => rfl | 3, _ => rfl | 4, _ => rfl | 5, _ => rfl | 6, _ => rfl | 7, _ => rfl | n + 8, h => exact absurd h (by omega)
/-- what a field's instruction needs of the tables: own class, number in its pool, class, field -/
def ex_okf (own : String) (i ci k : Nat) : Prop := ci < 8 ∧ k < ex_nF ci ∧ Cond.fieldLink own i (ex_TC ci k).1 (ex_TC ci k).2.1 (ex_TC ci k).2.2.1 ∈ ex_tbl
def ex_okt (own name : String) (ci k : Nat) (t : Int) : Prop := (t = 0 ∧ ex_tyF ci k = .int ∧ (ex_TC ci k).2.2.2 = false) ∨ (t = 1 ∧ ex_tyF ci k = .boolean ∧ (ex_TC ci k).2.2.2 = false) ∨ (t = 2 ∧ ((∃ n, ex_tyF ci k = .object n) ∨ ∃ n, ex_tyF ci k = .array n) ∧ (ex_TC ci k).2.2.2 = true ∧ name = "<init>" ∧ (ex_TC ci k).1 = own)
/-- what stays through a method -/
def ex_Cx (p : Program) (s : State) (m : MethodId) (args : Array Value) (meth : Method) (c : Code) (D : va_G) (ca : Nat → ClassId) (b b0 Lx : Nat) (xs : Nat → Int32) (nw : List Cond) (M : ex_M) : Prop :=
  p.tables.exec = Jvm.exec ∧ c.code = M.2.2.1 ∧ c.maxLocals = M.2.2.2.1 ∧ s.vm.findClass M.1 = some m.cls ∧ (∀ w ∈ ex_tbl, w.before args s = true) ∧ (M.2.1.name = "<init>" → meth.name = "<init>") ∧ va_K D vwCl (ex_tys ca) s ∧ (∀ w ∈ nw, va_Nw w s) ∧ va_AO RX5 s ∧ va_X b Lx xs s s.heap ∧ b ≤ b0 ∧ b0 < s.heap.size
/-- how the heap stands -/
def ex_Hs (D : va_G) (ca : Nat → ClassId) (b b0 n0 z0 : Nat) (s : State) (H : Heap) (locs : List Loc) (cells slots : Nat) (h : ex_H) : Prop :=
  va_P D vwCl (ex_w (ex_g b b0) ca h) H ∧ va_S (fun q => b0 < q) s.heap H locs ∧ s.heap.size = b0 + n0 ∧ 1 ≤ n0 ∧ cells + n0 = h.length ∧ slots + z0 = ex_hs h
theorem ex_hs_set {h : ex_H} {k : Nat} {x y : ex_E} (hx : h[k]? = some x) (hs : ex_sz y = ex_sz x) : ex_hs (h.set k y) = ex_hs h := by
  unfold ex_hs
  rw [List.map_set, hs]
  congr 1
  refine List.ext_getElem? fun i => ?_
  rw [List.getElem?_set]
  by_cases hk : k = i
  · subst hk
    rw [if_pos rfl]
    split
    · rw [List.getElem?_map, hx]; rfl
    · rename_i h1
      rw [List.getElem?_eq_none (by omega)]
  · rw [if_neg hk]
theorem ex_hs_push (h : ex_H) (x : ex_E) : ex_hs (h ++ [x]) = ex_hs h + ex_sz x := by
  unfold ex_hs
  simp
section EXH
variable {p : Program} {l : Launch} {e : Env} {R : Room} {s : State} {m : MethodId} {args : Array Value} {below : List Frame} {meth : Method} {c : Code} {H : Heap} {locs : List Loc} {cells slots : Nat} {Q : State → Prop}
variable {pc : Nat} {ls : Array Slot} {D : va_G} {ca : Nat → ClassId} {b b0 n0 z0 Lx : Nat} {xs : Nat → Int32} {nw : List Cond} {M : ex_M} {st st' : List Value} {h h' : ex_H}
theorem ex_size {g : JFrame} (kk : H.size ≤ s.heap.size + cells → W p l e R s m args below meth c H locs cells slots Q g) : W p l e R s m args below meth c H locs cells slots Q g := by
  intro T hT X
  refine kk ?_ T hT X
  have h1 : T.heap.size ≤ s.heap.size + cells := X.same.2.2.1
  rw [← hT]
  exact h1
theorem ex_Hs.size (h1 : ex_Hs D ca b b0 n0 z0 s H locs cells slots h) (h2 : H.size ≤ s.heap.size + cells) : H.size = b0 + h.length := by
  obtain ⟨hP, hS, a1, a2, a3, a4⟩ := h1
  have h3 : s.heap.size ≤ H.size := hS.1
  by_cases hn : h.length = n0
  · omega
  · obtain ⟨x, hx⟩ : ∃ x, h[h.length - 1]? = some x := ⟨_, List.getElem?_eq_getElem (by omega)⟩
    have h4 := hP _ _ (ex_w_at (g := ex_g b b0) (ca := ca) (k := h.length - 1) (by omega) hx)
    have h5 := h4.lt
    have h6 : ex_g b b0 (h.length - 1) < H.size := h5
    unfold ex_g at h6
    rw [if_neg (by omega)] at h6
    omega
theorem ex_Hs.set {H1 : Heap} {locs1 : List Loc} {k : Nat} {x y : ex_E} (h1 : ex_Hs D ca b b0 n0 z0 s H locs cells slots h) (hk : k ≠ 0) (hx : h[k]? = some x) (hs : ex_sz y = ex_sz x)
    (hP : va_P D vwCl ((ex_w (ex_g b b0) ca h).set (k - 1) (ex_g b b0 k, ex_e (ex_g b b0) ca y)) H1) (hS : va_S (fun q => b0 < q) s.heap H1 locs1) : ex_Hs D ca b b0 n0 z0 s H1 locs1 cells slots (h.set k y) := by
  obtain ⟨-, -, a1, a2, a3, a4⟩ := h1
  rw [ex_w_set y hk] at hP
  exact ⟨hP, hS, a1, a2, by rw [List.length_set]; exact a3, by rw [ex_hs_set hx hs]; exact a4⟩
theorem ex_in_vp {i : Int32} {n : Nat} (h : ex_in i n = true) : vp_in i n := by
  unfold ex_in at h
  unfold vp_in
  exact of_decide_eq_true h
theorem ex_getf_ok (C : ex_Cx p s m args meth c D ca b b0 Lx xs nw M) (hH : ex_Hs D ca b b0 n0 z0 s H locs cells slots h) (hin : ∀ ci, ci < 8 → ∀ w ∈ u_ws (ex_RC ci) (ex_TC ci) (ex_nF ci), w ∈ ex_tbl) {i : Nat} {E : ex_I} (ho : ex_okf M.1 i E.2.1 E.2.2.1) (hs : ex_getf E st h = some (st', h')) (hd : decode M.2.2.1 pc = .ok (.getfield i, 3))
    (kk : ex_Hs D ca b b0 n0 z0 s H locs cells slots h' → W p l e R s m args below meth c H locs cells slots Q (F0 m (pc + 3) ls (st'.map (ex_v (ex_g b b0))))) : W p l e R s m args below meth c H locs cells slots Q (F0 m pc ls (st.map (ex_v (ex_g b b0)))) := by
  unfold ex_getf at hs
  split at hs
  · rename_i c0 st0
    split at hs
    · rename_i ci fs hc
      split at hs
      · cases hs
      · rename_i hn
        split at hs
        · rename_i v hv
          cases hs
          have hn1 : c0 ≠ 0 := fun q => hn (Or.inl q)
          have hn2 : ci = E.2.1 := Decidable.byContradiction fun q => hn (Or.inr q)
          subst hn2
          obtain ⟨o1, o2, o3⟩ := ho
          obtain ⟨hx, hb, hml, hown, hts, hin0, hK, hnw, hAO, hX, hb1, hb2⟩ := C
          exact va_get (D := D) (ci := E.2.1) (v := ex_v (ex_g b b0) v) (C := ex_RC E.2.1) (T := ex_TC E.2.1) (N := ex_nF E.2.1) hx hb hts (hin _ o1) hown hK hH.1 (c0 - 1) (ex_w_at hn1 hc) (ex_cl_ok o1) E.2.2.1 o2 (hts _ o3) (fun _ h9 => h9) (by rw [List.getElem?_map, hv]; rfl) hd (kk hH)
        · cases hs
    · cases hs
  · cases hs
theorem ex_putf_ok (C : ex_Cx p s m args meth c D ca b b0 Lx xs nw M) (hH : ex_Hs D ca b b0 n0 z0 s H locs cells slots h) (hin : ∀ ci, ci < 8 → ∀ w ∈ u_ws (ex_RC ci) (ex_TC ci) (ex_nF ci), w ∈ ex_tbl) {i : Nat} {E : ex_I} (ho : ex_okf M.1 i E.2.1 E.2.2.1) (ht : ex_okt M.1 M.2.1.name E.2.1 E.2.2.1 E.2.2.2) (hs : ex_putf E st h = some (st', h')) (hd : decode M.2.2.1 pc = .ok (.putfield i, 3))
    (kk : ∀ H' locs', ex_Hs D ca b b0 n0 z0 s H' locs' cells slots h' → W p l e R s m args below meth c H' locs' cells slots Q (F0 m (pc + 3) ls (st'.map (ex_v (ex_g b b0))))) : W p l e R s m args below meth c H locs cells slots Q (F0 m pc ls (st.map (ex_v (ex_g b b0)))) := by
  unfold ex_putf at hs
  split at hs
  · rename_i v c0 st0
    split at hs
    · rename_i ci fs hc
      split at hs
      · cases hs
      · rename_i hn
        cases hs
        have hn1 : c0 ≠ 0 := fun q => hn (Or.inl q)
        have hn2 : ci = E.2.1 := Decidable.byContradiction fun q => hn (Or.inr (Or.inl q))
        have hn3 : E.2.2.1 < fs.length := Nat.not_le.mp fun q => hn (Or.inr (Or.inr (Or.inl q)))
        have hn4 : ex_fit E.2.2.2 v = true := Bool.of_not_eq_false fun q => hn (Or.inr (Or.inr (Or.inr q)))
        subst hn2
        obtain ⟨o1, o2, o3⟩ := ho
        obtain ⟨hx, hb, hml, hown, hts, hin0, hK, hnw, hAO, hX, hb1, hb2⟩ := C
        have hl : E.2.2.1 < (fs.map (ex_v (ex_g b b0))).length := by rw [List.length_map]; exact hn3
        have kk2 : ∀ (H1 : Heap) (locs1 : List Loc), va_P D vwCl ((ex_w (ex_g b b0) ca h).set (c0 - 1) (ex_g b b0 c0, .inr (E.2.1, (fs.map (ex_v (ex_g b b0))).set E.2.2.1 (ex_v (ex_g b b0) v)))) H1 → va_D (fun q => b0 < q) ((ex_w (ex_g b b0) ca h).set (c0 - 1) (ex_g b b0 c0, .inr (E.2.1, (fs.map (ex_v (ex_g b b0))).set E.2.2.1 (ex_v (ex_g b b0) v)))) → va_S (fun q => b0 < q) s.heap H1 locs1 → W p l e R s m args below meth c H1 locs1 cells slots Q (F0 m (pc + 3) ls (st'.map (ex_v (ex_g b b0)))) := by
          intro H1 locs1 hP1 hD1 hS1
          refine kk H1 locs1 (hH.set hn1 hc (y := .inr (.inr (E.2.1, fs.set E.2.2.1 v))) rfl ?_ hS1)
          rw [← List.map_set] at hP1
          exact hP1
        rcases ht with ⟨t1, t2, t3⟩ | ⟨t1, t2, t3⟩ | ⟨t1, t2, t3, t4, t5⟩
        · have hd2 := ex_ty_ok E.2.1 _ o2
          rw [t2] at hd2
          have hv : narrow .int (ex_v (ex_g b b0) v) = ex_v (ex_g b b0) v ∧ fits .int (ex_v (ex_g b b0) v) = true := by
            unfold ex_fit at hn4
            split at hn4
            · exact ⟨rfl, rfl⟩
            · rw [t1] at hn4; exact absurd hn4 (by decide)
            · cases hn4
          exact va_put (D := D) (ci := E.2.1) (v := ex_v (ex_g b b0) v) (ty := .int) (C := ex_RC E.2.1) (T := ex_TC E.2.1) (N := ex_nF E.2.1) hx hb hts (hin _ o1) (ex_tyF E.2.1) (ex_ty_ok E.2.1) (ex_nm_ok E.2.1) hown hK hH.1 (ex_w_D b b0 ca h) hH.2.1 (c0 - 1) (ex_w_at hn1 hc) (ex_cl_ok o1) E.2.2.1 o2 (hts _ o3) (fun _ h9 => h9) t3 hd2 hv.1 hv.2 hl hd kk2
        · have hd2 := ex_ty_ok E.2.1 _ o2
          rw [t2] at hd2
          have hv : narrow .boolean (ex_v (ex_g b b0) v) = ex_v (ex_g b b0) v ∧ fits .boolean (ex_v (ex_g b b0) v) = true := by
            unfold ex_fit at hn4
            split at hn4
            · rename_i x
              rw [t1] at hn4
              have hx01 : x = 0 ∨ x = 1 := by simpa using hn4
              rcases hx01 with rfl | rfl <;> exact ⟨rfl, rfl⟩
            · rw [t1] at hn4; exact absurd hn4 (by decide)
            · cases hn4
          exact va_put (D := D) (ci := E.2.1) (v := ex_v (ex_g b b0) v) (ty := .boolean) (C := ex_RC E.2.1) (T := ex_TC E.2.1) (N := ex_nF E.2.1) hx hb hts (hin _ o1) (ex_tyF E.2.1) (ex_ty_ok E.2.1) (ex_nm_ok E.2.1) hown hK hH.1 (ex_w_D b b0 ca h) hH.2.1 (c0 - 1) (ex_w_at hn1 hc) (ex_cl_ok o1) E.2.2.1 o2 (hts _ o3) (fun _ h9 => h9) t3 hd2 hv.1 hv.2 hl hd kk2
        · have hd2 := ex_ty_ok E.2.1 _ o2
          have hv : narrow (ex_tyF E.2.1 E.2.2.1) (ex_v (ex_g b b0) v) = ex_v (ex_g b b0) v ∧ fits (ex_tyF E.2.1 E.2.2.1) (ex_v (ex_g b b0) v) = true := by
            unfold ex_fit at hn4
            split at hn4
            · rw [t1] at hn4; exact absurd hn4 (by simp)
            · rcases t2 with ⟨n, hn⟩ | ⟨n, hn⟩ <;> rw [hn] <;> exact ⟨rfl, rfl⟩
            · cases hn4
          exact va_putF (D := D) (ci := E.2.1) (v := ex_v (ex_g b b0) v) (ty := ex_tyF E.2.1 E.2.2.1) (C := ex_RC E.2.1) (T := ex_TC E.2.1) (N := ex_nF E.2.1) hx hb hts (hin _ o1) (ex_tyF E.2.1) (ex_ty_ok E.2.1) (ex_nm_ok E.2.1) hown hK hH.1 (ex_w_D b b0 ca h) hH.2.1 (c0 - 1) (ex_w_at hn1 hc) (ex_cl_ok o1) E.2.2.1 o2 (hts _ o3) (fun _ h9 => h9) t3 (hin0 t4) t5 hd2 hv.1 hv.2 hl hd kk2
    · cases hs
  · cases hs
theorem ex_ald_ok (C : ex_Cx p s m args meth c D ca b b0 Lx xs nw M) (h0 : h[0]? = some (.inl (0, Lx, xs))) (hH : ex_Hs D ca b b0 n0 z0 s H locs cells slots h) (hs : ex_ald st h = some (st', h')) (hd : decode M.2.2.1 pc = .ok (.iaload, 1))
    (kk : ex_Hs D ca b b0 n0 z0 s H locs cells slots h' → W p l e R s m args below meth c H locs cells slots Q (F0 m (pc + 1) ls (st'.map (ex_v (ex_g b b0))))) : W p l e R s m args below meth c H locs cells slots Q (F0 m pc ls (st.map (ex_v (ex_g b b0)))) := by
  obtain ⟨hx, hb, hml, hown, hts, hin0, hK, hnw, hAO, hX, hb1, hb2⟩ := C
  unfold ex_ald at hs
  split at hs
  · rename_i i c0 st0
    split at hs
    · rename_i n f hc
      split at hs
      · rename_i hi
        cases hs
        by_cases hz : c0 = 0
        · subst hz
          rw [h0] at hc
          cases hc
          exact va_sld (A := fun q => b0 < q) (b := b) hx hb hX (by omega) (by show ¬ b0 < b; omega) hH.2.1 (ex_in_vp hi) hd (kk hH)
        · exact va_iald hx hb hK hH.1 (c0 - 1) 0 (ex_w_at hz hc) rfl (ex_in_vp hi) hd (kk hH)
      · cases hs
    · cases hs
  · cases hs
theorem ex_bld_ok (C : ex_Cx p s m args meth c D ca b b0 Lx xs nw M) (hH : ex_Hs D ca b b0 n0 z0 s H locs cells slots h) (hs : ex_bld st h = some (st', h')) (hd : decode M.2.2.1 pc = .ok (.baload, 1))
    (kk : ex_Hs D ca b b0 n0 z0 s H locs cells slots h' → W p l e R s m args below meth c H locs cells slots Q (F0 m (pc + 1) ls (st'.map (ex_v (ex_g b b0))))) : W p l e R s m args below meth c H locs cells slots Q (F0 m pc ls (st.map (ex_v (ex_g b b0)))) := by
  obtain ⟨hx, hb, hml, hown, hts, hin0, hK, hnw, hAO, hX, hb1, hb2⟩ := C
  unfold ex_bld at hs
  split at hs
  · rename_i i c0 st0
    split at hs
    · rename_i n f hc
      split at hs
      · rename_i hi
        cases hs
        exact va_bald hx hb hK hH.1 (c0 - 1) 1 (ex_w_at hi.1 hc) rfl (ex_in_vp hi.2) hd (kk hH)
      · cases hs
    · rename_i n f hc
      split at hs
      · rename_i hi
        cases hs
        exact va_zald hx hb hK hH.1 (c0 - 1) 2 (ex_w_at hi.1 hc) rfl (ex_in_vp hi.2) hd (kk hH)
      · cases hs
    · cases hs
  · cases hs
theorem ex_qld_ok (C : ex_Cx p s m args meth c D ca b b0 Lx xs nw M) (hH : ex_Hs D ca b b0 n0 z0 s H locs cells slots h) (hs : ex_qld st h = some (st', h')) (hd : decode M.2.2.1 pc = .ok (.aaload, 1))
    (kk : ex_Hs D ca b b0 n0 z0 s H locs cells slots h' → W p l e R s m args below meth c H locs cells slots Q (F0 m (pc + 1) ls (st'.map (ex_v (ex_g b b0))))) : W p l e R s m args below meth c H locs cells slots Q (F0 m pc ls (st.map (ex_v (ex_g b b0)))) := by
  obtain ⟨hx, hb, hml, hown, hts, hin0, hK, hnw, hAO, hX, hb1, hb2⟩ := C
  unfold ex_qld at hs
  split at hs
  · rename_i i c0 st0
    split at hs
    · rename_i n f hc
      split at hs
      · rename_i hi
        split at hs
        · rename_i r hr
          cases hs
          refine va_aldq hx hb hK hH.1 (c0 - 1) 3 (ex_w_at hi.1 hc) rfl (ex_in_vp hi.2) hd ?_
          dsimp only
          rw [hr]
          exact kk hH
        · cases hs
      · cases hs
    · cases hs
  · cases hs
theorem ex_ast_ok (C : ex_Cx p s m args meth c D ca b b0 Lx xs nw M) (hH : ex_Hs D ca b b0 n0 z0 s H locs cells slots h) (hs : ex_ast st h = some (st', h')) (hd : decode M.2.2.1 pc = .ok (.iastore, 1))
    (kk : ∀ H' locs', ex_Hs D ca b b0 n0 z0 s H' locs' cells slots h' → W p l e R s m args below meth c H' locs' cells slots Q (F0 m (pc + 1) ls (st'.map (ex_v (ex_g b b0))))) : W p l e R s m args below meth c H locs cells slots Q (F0 m pc ls (st.map (ex_v (ex_g b b0)))) := by
  obtain ⟨hx, hb, hml, hown, hts, hin0, hK, hnw, hAO, hX, hb1, hb2⟩ := C
  unfold ex_ast at hs
  split at hs
  · rename_i x i c0 st0
    split at hs
    · rename_i n f hc
      split at hs
      · rename_i hi
        cases hs
        exact va_iast hx hb hK hH.1 (ex_w_D b b0 ca h) hH.2.1 (c0 - 1) 0 (ex_w_at hi.1 hc) rfl (ex_in_vp hi.2) hd (fun H1 locs1 hP1 _ hS1 => kk H1 locs1 (hH.set hi.1 hc (y := .inl (0, n, upd f i.toNatClampNeg x)) rfl hP1 hS1))
      · cases hs
    · cases hs
  · cases hs
theorem ex_bst_ok (C : ex_Cx p s m args meth c D ca b b0 Lx xs nw M) (hH : ex_Hs D ca b b0 n0 z0 s H locs cells slots h) (hs : ex_bst st h = some (st', h')) (hd : decode M.2.2.1 pc = .ok (.bastore, 1))
    (kk : ∀ H' locs', ex_Hs D ca b b0 n0 z0 s H' locs' cells slots h' → W p l e R s m args below meth c H' locs' cells slots Q (F0 m (pc + 1) ls (st'.map (ex_v (ex_g b b0))))) : W p l e R s m args below meth c H locs cells slots Q (F0 m pc ls (st.map (ex_v (ex_g b b0)))) := by
  obtain ⟨hx, hb, hml, hown, hts, hin0, hK, hnw, hAO, hX, hb1, hb2⟩ := C
  unfold ex_bst at hs
  split at hs
  · rename_i x i c0 st0
    split at hs
    · rename_i n f hc
      split at hs
      · rename_i hi
        cases hs
        exact va_bast hx hb hK hH.1 (ex_w_D b b0 ca h) hH.2.1 (c0 - 1) 1 (ex_w_at hi.1 hc) rfl (ex_in_vp hi.2) hd (fun H1 locs1 hP1 _ hS1 => kk H1 locs1 (hH.set hi.1 hc (y := .inl (1, n, upd f i.toNatClampNeg (vp_nar .byte x))) rfl hP1 hS1))
      · cases hs
    · rename_i n f hc
      split at hs
      · rename_i hi
        cases hs
        exact va_zast hx hb hK hH.1 (ex_w_D b b0 ca h) hH.2.1 (c0 - 1) 2 (ex_w_at hi.1 hc) rfl (ex_in_vp hi.2) hd (fun H1 locs1 hP1 _ hS1 => kk H1 locs1 (hH.set hi.1 hc (y := .inl (2, n, upd f i.toNatClampNeg (vp_nar .boolean x))) rfl hP1 hS1))
      · cases hs
    · cases hs
  · cases hs
theorem ex_qst_ok (C : ex_Cx p s m args meth c D ca b b0 Lx xs nw M) (hH : ex_Hs D ca b b0 n0 z0 s H locs cells slots h) (hs : ex_qst st h = some (st', h')) (hd : decode M.2.2.1 pc = .ok (.aastore, 1))
    (kk : ∀ H' locs', ex_Hs D ca b b0 n0 z0 s H' locs' cells slots h' → W p l e R s m args below meth c H' locs' cells slots Q (F0 m (pc + 1) ls (st'.map (ex_v (ex_g b b0))))) : W p l e R s m args below meth c H locs cells slots Q (F0 m pc ls (st.map (ex_v (ex_g b b0)))) := by
  obtain ⟨hx, hb, hml, hown, hts, hin0, hK, hnw, hAO, hX, hb1, hb2⟩ := C
  unfold ex_qst at hs
  split at hs
  · rename_i v i c0 st0
    split at hs
    · rename_i n f fs hc hv
      split at hs
      · rename_i hi
        cases hs
        refine va_astq (r := (ex_RC 5, ex_TC 5, ex_nF 5)) hx hb hK hH.1 (ex_w_D b b0 ca h) hH.2.1 (c0 - 1) 3 (v - 1) 5 (ex_w_at hi.1 hc) rfl (ex_w_at hi.2.1 hv) rfl (ex_in_vp hi.2.2) hd (fun H1 locs1 hP1 _ hS1 => kk H1 locs1 (hH.set hi.1 hc (y := .inr (.inl (n, va_up f i.toNatClampNeg (some v)))) rfl ?_ hS1))
        have he : va_up (fun j => (f j).map (ex_g b b0)) i.toNatClampNeg (some (ex_g b b0 v)) = fun j => (va_up f i.toNatClampNeg (some v) j).map (ex_g b b0) := by
          funext j
          unfold va_up
          split <;> rfl
        have hP2 := hP1
        dsimp only at hP2
        rw [he] at hP2
        exact hP2
      · cases hs
    · cases hs
  · cases hs
theorem ex_aln_ok (C : ex_Cx p s m args meth c D ca b b0 Lx xs nw M) (h0 : h[0]? = some (.inl (0, Lx, xs))) (hH : ex_Hs D ca b b0 n0 z0 s H locs cells slots h) (hs : ex_aln st h = some (st', h')) (hd : decode M.2.2.1 pc = .ok (.arraylength, 1))
    (kk : ex_Hs D ca b b0 n0 z0 s H locs cells slots h' → W p l e R s m args below meth c H locs cells slots Q (F0 m (pc + 1) ls (st'.map (ex_v (ex_g b b0))))) : W p l e R s m args below meth c H locs cells slots Q (F0 m pc ls (st.map (ex_v (ex_g b b0)))) := by
  obtain ⟨hx, hb, hml, hown, hts, hin0, hK, hnw, hAO, hX, hb1, hb2⟩ := C
  unfold ex_aln at hs
  split at hs
  · rename_i c0 st0
    split at hs
    · rename_i n f hc
      cases hs
      by_cases hz : c0 = 0
      · subst hz
        rw [h0] at hc
        cases hc
        exact va_slen (A := fun q => b0 < q) (b := b) hx hb hX (by omega) (by show ¬ b0 < b; omega) hH.2.1 hd (kk hH)
      · exact va_alen hx hb hK hH.1 (c0 - 1) 0 (ex_w_at hz hc) rfl rfl hd (kk hH)
    · rename_i n f hc
      split at hs
      · rename_i hz
        cases hs
        exact va_alen hx hb hK hH.1 (c0 - 1) 1 (ex_w_at hz hc) rfl rfl hd (kk hH)
      · cases hs
    · cases hs
  · cases hs
end EXH
end
section
/-! rows that make cells, copy rows of numbers, and Object's constructor -/
section EXN
variable {p : Program} {l : Launch} {e : Env} {R : Room} {s : State} {m : MethodId} {args : Array Value} {below : List Frame} {meth : Method} {c : Code} {H : Heap} {locs : List Loc} {cells slots : Nat} {Q : State → Prop}
variable {pc : Nat} {ls : Array Slot} {D : va_G} {ca : Nat → ClassId} {b b0 n0 z0 Lx : Nat} {xs : Nat → Int32} {nw : List Cond} {M : ex_M} {st st' : List Value} {h h' : ex_H}
/-- a new cell's address is the next one -/
theorem ex_next (hH : ex_Hs D ca b b0 n0 z0 s H locs cells slots h) {q : Nat} {y : va_E} {H1 : Heap} (hP : va_P D vwCl (ex_w (ex_g b b0) ca h ++ [(q, y)]) H1) (hD : va_D (fun q => b0 < q) (ex_w (ex_g b b0) ca h ++ [(q, y)])) (hz : H1.size ≤ s.heap.size + (cells + 1)) : q = ex_g b b0 h.length := by
  obtain ⟨-, -, a1, a2, a3, a4⟩ := hH
  have hw : (ex_w (ex_g b b0) ca h).length = h.length - 1 := by unfold ex_w; simp
  have hq : (ex_w (ex_g b b0) ca h ++ [(q, y)])[h.length - 1]? = some (q, y) := by
    rw [List.getElem?_append_right (by omega), hw, Nat.sub_self]; rfl
  have h1 : q < H1.size := (hP _ _ hq).lt
  have h2 : b0 < q := hD.2 _ _ hq
  have h3 : b0 + h.length ≤ q := by
    refine Nat.not_lt.mp fun hlt => ?_
    obtain ⟨x, hx⟩ : ∃ x, h[q - b0]? = some x := ⟨_, List.getElem?_eq_getElem (by omega)⟩
    have h4 : (ex_w (ex_g b b0) ca h ++ [(q, y)])[q - b0 - 1]? = some (ex_g b b0 (q - b0), ex_e (ex_g b b0) ca x) := by
      rw [List.getElem?_append_left (by omega)]
      exact ex_w_at (by omega) hx
    have h5 := hD.1 _ _ _ _ h4 hq (by show ex_g b b0 (q - b0) = q; unfold ex_g; rw [if_neg (by omega)]; omega)
    omega
  unfold ex_g
  rw [if_neg (by omega)]
  omega
theorem ex_Hs.push (hH : ex_Hs D ca b b0 n0 z0 s H locs cells slots h) {x : ex_E} {q : Nat} {y : va_E} {H1 : Heap} {locs1 : List Loc} {k : Nat} (hP : va_P D vwCl (ex_w (ex_g b b0) ca h ++ [(q, y)]) H1) (hD : va_D (fun q => b0 < q) (ex_w (ex_g b b0) ca h ++ [(q, y)])) (hS : va_S (fun q => b0 < q) s.heap H1 locs1) (hz : H1.size ≤ s.heap.size + (cells + 1)) (hy : y = ex_e (ex_g b b0) ca x) (hk : ex_sz x = k) : ex_Hs D ca b b0 n0 z0 s H1 locs1 (cells + 1) (slots + k) (h ++ [x]) := by
  have e1 := ex_next hH hP hD hz
  obtain ⟨-, -, a1, a2, a3, a4⟩ := hH
  subst hy
  subst hk
  subst e1
  rw [← ex_w_push x (by omega)] at hP
  exact ⟨hP, hS, a1, a2, by simp; omega, by rw [ex_hs_push]; omega⟩
theorem ex_new_ok (C : ex_Cx p s m args meth c D ca b b0 Lx xs nw M) (hH : ex_Hs D ca b b0 n0 z0 s H locs cells slots h) (hin : ∀ ci, ci < 8 → ∀ w ∈ u_ws (ex_RC ci) (ex_TC ci) (ex_nF ci), w ∈ ex_tbl) {i : Nat} {E : ex_I} (ho : Cond.classLink M.1 i (ex_RC E.2.1) ∈ ex_tbl ∧ Cond.instantiable (ex_RC E.2.1) (ex_nF E.2.1) ∈ ex_tbl ∧ Cond.initialized (ex_RC E.2.1) ∈ ex_tbl) (hs : ex_new E st h = some (st', h')) (hd : decode M.2.2.1 pc = .ok (.new i, 3)) (hr : cells + n0 + R.cells ≥ 0 ∧ h'.length ≤ R.cells + n0 ∧ ex_hs h' ≤ R.slots + z0)
    (kk : ∀ H' locs' cells' slots', ex_Hs D ca b b0 n0 z0 s H' locs' cells' slots' h' → W p l e R s m args below meth c H' locs' cells' slots' Q (F0 m (pc + 3) ls (st'.map (ex_v (ex_g b b0))))) : W p l e R s m args below meth c H locs cells slots Q (F0 m pc ls (st.map (ex_v (ex_g b b0)))) := by
  obtain ⟨hx, hb, hml, hown, hts, hin0, hK, hnw, hAO, hX, hb1, hb2⟩ := C
  unfold ex_new at hs
  split at hs
  · rename_i hlt
    cases hs
    have a3 := hH.2.2.2.2.1
    have a4 := hH.2.2.2.2.2
    have hA : ∀ q, s.heap.size ≤ q → b0 < q := fun q hq => Nat.lt_of_lt_of_le hb2 hq
    have hr1 : cells + 1 ≤ R.cells := by have := hr.2.1; simp at this; omega
    have hr2 : slots + ex_nF E.2.1 ≤ R.slots := by have := hr.2.2; rw [ex_hs_push] at this; have e9 : ex_sz (.inr (.inr (E.2.1, ex_df E.2.1)) : ex_E) = ex_nF E.2.1 := rfl; rw [e9] at this; omega
    refine va_new (D := D) (ci := E.2.1) (fs := (ex_df E.2.1).map (ex_v (ex_g b b0))) (C := ex_RC E.2.1) (T := ex_TC E.2.1) (N := ex_nF E.2.1) (A := fun q => b0 < q) hx hb hts (hin _ hlt) (ex_tyF E.2.1) (ex_ty_ok E.2.1) hown (hts _ ho.1) (hts _ ho.2.1) (hts _ ho.2.2) hK hH.1 (ex_w_D b b0 ca h) hH.2.1 hA (ex_cl_ok hlt) (fun j hj => ?_) hr1 hr2 hd (fun q H1 hP1 hD1 hS1 => ?_)
    · have e1 : ∀ t : FieldType, ex_v (ex_g b b0) (defaultValue t) = defaultValue t := fun t => by cases t <;> rfl
      have e2 : ((ex_df E.2.1).map (ex_v (ex_g b b0))).getD j .null = defaultValue (ex_tyF E.2.1 j) := by
        unfold ex_df
        simp [List.getD_eq_getElem?_getD, hj, e1]
      exact e2.symm
    · refine ex_size fun hz => ?_
      have e3 := ex_next hH hP1 hD1 hz
      have h4 := hH.push (x := .inr (.inr (E.2.1, ex_df E.2.1))) hP1 hD1 hS1 hz rfl rfl
      subst e3
      exact kk _ _ _ _ h4
  · cases hs
theorem ex_nar_ok (C : ex_Cx p s m args meth c D ca b b0 Lx xs nw M) (hH : ex_Hs D ca b b0 n0 z0 s H locs cells slots h) {t : ArrayType} (ho : Cond.arrayClass .int ∈ ex_tbl ∧ Cond.arrayClass .byte ∈ ex_tbl ∧ Cond.arrayClass .boolean ∈ ex_tbl) (hs : ex_nar t st h = some (st', h')) (hd : decode M.2.2.1 pc = .ok (.newarray t, 2)) (hr : h'.length ≤ R.cells + n0 ∧ ex_hs h' ≤ R.slots + z0)
    (kk : ∀ H' locs' cells' slots', ex_Hs D ca b b0 n0 z0 s H' locs' cells' slots' h' → W p l e R s m args below meth c H' locs' cells' slots' Q (F0 m (pc + 2) ls (st'.map (ex_v (ex_g b b0))))) : W p l e R s m args below meth c H locs cells slots Q (F0 m pc ls (st.map (ex_v (ex_g b b0)))) := by
  obtain ⟨hx, hb, hml, hown, hts, hin0, hK, hnw, hAO, hX, hb1, hb2⟩ := C
  unfold ex_nar at hs
  split at hs
  · rename_i n st0
    split at hs
    · rename_i k hk
      split at hs
      · rename_i hn
        cases hs
        have a3 := hH.2.2.2.2.1
        have a4 := hH.2.2.2.2.2
        have hA : ∀ q, s.heap.size ≤ q → b0 < q := fun q hq => Nat.lt_of_lt_of_le hb2 hq
        have hr1 : cells + 1 ≤ R.cells := by have := hr.1; simp at this; omega
        have hr2 : slots + n.toNatClampNeg ≤ R.slots := by have := hr.2; rw [ex_hs_push] at this; have e9 : ex_sz (.inl (k, n.toNatClampNeg, fun _ => 0) : ex_E) = n.toNatClampNeg := rfl; rw [e9] at this; omega
        have go : ∀ (ty : FieldType), newarray.typeOf t = ty → (ex_tys ca)[k]? = some (ca k, ty) → (∀ cA : ClassId, vp_cell cA (n.toNatClampNeg, .inl (fun _ => 0)) = arrV cA n.toNatClampNeg (fun _ => defaultValue ty)) → (Cond.arrayClass (newarray.typeOf t)).before args s = true → n.toNatClampNeg * componentBytes ty ≤ 536870912 → (∀ cA, va_RA s cA ty → va_RA s (ca k) ty → cA = ca k) → W p l e R s m args below meth c H locs cells slots Q (F0 m pc ls ((Value.int n :: st0).map (ex_v (ex_g b b0)))) := by
          intro ty hty htk hcell hword hbytes hsame
          refine va_newa (A := fun q => b0 < q) hx hb hword hty hK hH.1 (ex_w_D b b0 ca h) hH.2.1 hA hcell hn.1 rfl hbytes hr1 hr2 hd (fun q cA H1 hK1 hP1 hD1 hS1 => ?_)
          refine ex_size fun hz => ?_
          have e3 := ex_next hH hP1 hD1 hz
          have hA1 := (hK1.2 4 (cA, ty) rfl).2
          have hA2 := (hK.2 k _ htk).2
          have e4 : cA = ca k := hsame cA hA1 hA2
          subst e4
          have h4 := hH.push (x := .inl (k, n.toNatClampNeg, fun _ => 0)) hP1 hD1 hS1 hz rfl rfl
          subst e3
          exact kk _ _ _ _ h4
        have fin : ∀ ty : FieldType, (∀ cA, va_RA s cA ty → s.vm.findClass ("[" ++ ty.toString) = some cA) → ∀ cA, va_RA s cA ty → va_RA s (ca k) ty → cA = ca k := fun ty hf cA q1 q2 => Option.some.inj ((hf _ q1).symm.trans (hf _ q2))
        have hn2 := hn.2
        cases t <;> unfold ex_ar at hk <;> first | (cases hk; done) | skip
        · cases hk
          exact go .boolean rfl rfl (fun _ => rfl) (hts _ ho.2.2) (by show _ * 1 ≤ _; omega) (fin _ (fun _ q => q))
        · cases hk
          exact go .byte rfl rfl (fun _ => rfl) (hts _ ho.2.1) (by show _ * 1 ≤ _; omega) (fin _ (fun _ q => q))
        · cases hk
          exact go .int rfl rfl (fun _ => rfl) (hts _ ho.1) (by show _ * 4 ≤ _; omega) (fin _ (fun _ q => q))
      · cases hs
    · cases hs
  · cases hs
theorem ex_nqr_ok (C : ex_Cx p s m args meth c D ca b b0 Lx xs nw M) (hH : ex_Hs D ca b b0 n0 z0 s H locs cells slots h) {i : Nat} (ho : Cond.classLink M.1 i RX5 ∈ ex_tbl) (hs : ex_nqr st h = some (st', h')) (hd : decode M.2.2.1 pc = .ok (.anewarray i, 3)) (hr : h'.length ≤ R.cells + n0 ∧ ex_hs h' ≤ R.slots + z0)
    (kk : ∀ H' locs' cells' slots', ex_Hs D ca b b0 n0 z0 s H' locs' cells' slots' h' → W p l e R s m args below meth c H' locs' cells' slots' Q (F0 m (pc + 3) ls (st'.map (ex_v (ex_g b b0))))) : W p l e R s m args below meth c H locs cells slots Q (F0 m pc ls (st.map (ex_v (ex_g b b0)))) := by
  obtain ⟨hx, hb, hml, hown, hts, hin0, hK, hnw, hAO, hX, hb1, hb2⟩ := C
  unfold ex_nqr at hs
  split at hs
  · rename_i n st0
    split at hs
    · rename_i hn
      cases hs
      have a3 := hH.2.2.2.2.1
      have a4 := hH.2.2.2.2.2
      have hA : ∀ q, s.heap.size ≤ q → b0 < q := fun q hq => Nat.lt_of_lt_of_le hb2 hq
      have hr1 : cells + 1 ≤ R.cells := by have := hr.1; simp at this; omega
      have hr2 : slots + n.toNatClampNeg ≤ R.slots := by have := hr.2; rw [ex_hs_push] at this; have e9 : ex_sz (.inr (.inl (n.toNatClampNeg, fun _ => none)) : ex_E) = n.toNatClampNeg := rfl; rw [e9] at this; omega
      refine va_newq (A := fun q => b0 < q) hx hb hown (hts _ ho) hAO hK hH.1 (ex_w_D b b0 ca h) hH.2.1 hA hn.1 rfl (by omega) hr1 hr2 hd (fun q cA H1 hK1 hP1 hD1 hS1 => ?_)
      refine ex_size fun hz => ?_
      have e3 := ex_next hH hP1 hD1 hz
      have hA1 : va_RA s cA (.object RX5) := (hK1.2 4 (cA, .object RX5) rfl).2
      have hA2 : va_RA s (ca 3) (.object RX5) := (hK.2 3 _ rfl).2
      obtain ⟨_, _, _, _, _, f1⟩ := hA1
      obtain ⟨_, _, _, _, _, f2⟩ := hA2
      have e4 : cA = ca 3 := Option.some.inj (f1.symm.trans f2)
      subst e4
      have h4 := hH.push (x := .inr (.inl (n.toNatClampNeg, fun _ => none))) hP1 hD1 hS1 hz rfl rfl
      subst e3
      exact kk _ _ _ _ h4
    · cases hs
  · cases hs
end EXN
end
section
/-! copying, Object's constructor, jumps -/
def ex_sw (I : Instr) : Bool := match I with
  | .tableswitch _ _ _ _ => true | .lookupswitch _ _ => true | _ => false
def ex_okd (cc : ByteArray) (pc : Nat) (I : Instr) : Prop := ∃ len, decode cc pc = .ok (I, len) ∧ (len = ex_len I ∨ ex_sw I = true)
def ex_okg (pc : Nat) (E : ex_I) : Prop := match E.1 with
  | .goto off => (pc : Int) + off = (E.2.1 : Int)
  | .ifCond _ off => (pc : Int) + off = (E.2.1 : Int)
  | .if_icmp _ off => (pc : Int) + off = (E.2.1 : Int)
  | .lookupswitch _ ps => (ps.toList.zip (ps.toList.drop 1)).all (fun (a, next) => a.1 < next.1) = true
  | _ => True
theorem ex_okd.plain {cc : ByteArray} {pc : Nat} {I : Instr} (h : ex_okd cc pc I) (hs : ex_sw I = false) : decode cc pc = .ok (I, ex_len I) := by
  obtain ⟨len, h1, h2 | h2⟩ := h
  · rw [h2] at h1; exact h1
  · rw [hs] at h2; cases h2
theorem ex_jmp_some {pc t : Nat} {off : Int} (h : ex_jmp pc off = some t) : (pc : Int) + off = (t : Int) := by
  unfold ex_jmp at h
  split at h
  · cases h; omega
  · cases h
section EXC
variable {p : Program} {l : Launch} {e : Env} {R : Room} {s : State} {m : MethodId} {args : Array Value} {below : List Frame} {meth : Method} {c : Code} {H : Heap} {locs : List Loc} {cells slots : Nat} {Q : State → Prop}
variable {pc : Nat} {ls : Array Slot} {D : va_G} {ca : Nat → ClassId} {b b0 n0 z0 Lx : Nat} {xs : Nat → Int32} {nw : List Cond} {M : ex_M} {st st' : List Value} {h h' : ex_H}
theorem ex_cpy_ok (C : ex_Cx p s m args meth c D ca b b0 Lx xs nw M) (hls : ls.size = M.2.2.2.1) (hH : ex_Hs D ca b b0 n0 z0 s H locs cells slots h) {i d : Nat} (ho : Cond.methodLink M.1 i arraycopyName ∈ ex_tbl ∧ Cond.native arraycopyName ∈ ex_tbl ∧ Cond.static arraycopyName ∈ ex_tbl ∧ Cond.initialized "java/lang/System" ∈ ex_tbl) (hs : ex_cpy d st h = some (st', h')) (hd : decode M.2.2.1 pc = .ok (.invokestatic i, 3)) (hr : d ≤ R.frames ∧ 40 * d ≤ R.locals)
    (kk : ∀ H' locs', ex_Hs D ca b b0 n0 z0 s H' locs' cells slots h' → W p l e R s m args below meth c H' locs' cells slots Q (F0 m (pc + 3) ls (st'.map (ex_v (ex_g b b0))))) : W p l e R s m args below meth c H locs cells slots Q (F0 m pc ls (st.map (ex_v (ex_g b b0)))) := by
  obtain ⟨hx, hb, hml, hown, hts, hin0, hK, hnw, hAO, hX, hb1, hb2⟩ := C
  unfold ex_cpy at hs
  split at hs
  · rename_i n dp a1 sp a0 st0
    split at hs
    · rename_i N0 f N1 g hc0 hc1
      split at hs
      · rename_i hi
        obtain ⟨i1, i2, i3, i4, i5, i6, i7, i8, i9⟩ := hi
        cases hs
        have hw : nativeFrameWords "java/lang/System" "arraycopy" 5 = 7 := by decide
        refine va_copyi hx hb (hml.trans hls.symm) hown (hts _ ho.1) (hts _ ho.2.1) (hts _ ho.2.2.1) (hts _ ho.2.2.2) hK hH.1 (ex_w_D b b0 ca h) hH.2.1 (a0 - 1) (a1 - 1) 0 0 (ex_w_at i2 hc0) (ex_w_at i3 hc1) rfl rfl rfl i4 i5 i6 i7 i8 (fun _ _ => rfl) (by omega) ?_ hd (fun H1 locs1 hP1 _ hS1 => kk H1 locs1 (hH.set i3 hc1 (y := .inl (0, N1, va_cpy f g sp.toNatClampNeg dp.toNatClampNeg n.toNatClampNeg)) rfl hP1 hS1))
        rw [hw]
        have := ex_v_sum (ex_g b b0) st'
        omega
      · cases hs
    · cases hs
  · cases hs
theorem ex_obj_ok (C : ex_Cx p s m args meth c D ca b b0 Lx xs nw M) (hls : ls.size = M.2.2.2.1) {i d : Nat} (ho : Cond.methodLink M.1 i objectInit ∈ ex_tbl ∧ Cond.instanceMethod objectInit ∈ ex_tbl ∧ Cond.code objectInit ⟨#[0xb1]⟩ 1 none ∈ ex_tbl) (hs : ex_obj d st h = some (st', h')) (hd : decode M.2.2.1 pc = .ok (.invokespecial i, 3)) (hr : d ≤ R.frames ∧ 40 * d ≤ R.locals)
    (kk : h' = h → W p l e R s m args below meth c H locs cells slots Q (F0 m (pc + 3) ls (st'.map (ex_v (ex_g b b0))))) : W p l e R s m args below meth c H locs cells slots Q (F0 m pc ls (st.map (ex_v (ex_g b b0)))) := by
  obtain ⟨hx, hb, hml, hown, hts, hin0, hK, hnw, hAO, hX, hb1, hb2⟩ := C
  unfold ex_obj at hs
  split at hs
  · rename_i a st0
    split at hs
    · rename_i hi
      cases hs
      refine W.objInit hx hb hown (hts _ ho.1) (hts _ ho.2.1) (hts _ ho.2.2) rfl (hls.trans hml.symm) rfl hd (by omega) ?_ (kk rfl)
      have := ex_v_sum (ex_g b b0) st'
      have := hi.2
      show 2 * 0 + _ + 12 ≤ R.locals
      omega
    · cases hs
  · cases hs
theorem ex_go_ok {cc : ByteArray} {g : Nat → Nat} (hx : p.tables.exec = Jvm.exec) (hb : c.code = cc) {E : ex_I} {pc' : Nat} (hs : ex_go pc E st = some (pc', st')) (hd : ex_okd cc pc E.1) (hg : ex_okg pc E)
    (kk : W p l e R s m args below meth c H locs cells slots Q (F0 m pc' ls (st'.map (ex_v g)))) : W p l e R s m args below meth c H locs cells slots Q (F0 m pc ls (st.map (ex_v g))) := by
  obtain ⟨I, a, b', v⟩ := E
  unfold ex_go at hs
  unfold ex_okg at hg
  dsimp only at hs hg hd
  split at hs
  · cases hs
    exact lv_goto hx hb (hd.plain rfl) hg kk
  · rename_i cd off x st0
    cases hs
    have kt : ex_c cd x 0 = true → W p l e R s m args below meth c H locs cells slots Q (F0 m a ls (st'.map (ex_v g))) := fun q => by rw [if_pos q] at kk; exact kk
    have kf : ¬ ex_c cd x 0 = true → W p l e R s m args below meth c H locs cells slots Q (F0 m (pc + 3) ls (st'.map (ex_v g))) := fun q => by rw [if_neg q] at kk; exact kk
    have hd3 := hd.plain rfl
    cases cd
    · exact lv_if_eq hx hb hd3 hg (fun q => kt (decide_eq_true q)) (fun q => kf (fun w => q (of_decide_eq_true w)))
    · exact lv_if_ne hx hb hd3 hg (fun q => kt (decide_eq_true q)) (fun q => kf (fun w => (of_decide_eq_true w) q))
    · exact lv_if_lt hx hb hd3 hg (fun q => kt (decide_eq_true q)) (fun q => kf (fun w => q (of_decide_eq_true w)))
    · exact lv_if_ge hx hb hd3 hg (fun q => kt (decide_eq_true q)) (fun q => kf (fun w => q (of_decide_eq_true w)))
    · exact lv_if_gt hx hb hd3 hg (fun q => kt (decide_eq_true q)) (fun q => kf (fun w => q (of_decide_eq_true w)))
    · exact lv_if_le hx hb hd3 hg (fun q => kt (decide_eq_true q)) (fun q => kf (fun w => q (of_decide_eq_true w)))
  · rename_i cd off y x st0
    cases hs
    have kt : ex_c cd x y = true → W p l e R s m args below meth c H locs cells slots Q (F0 m a ls (st'.map (ex_v g))) := fun q => by rw [if_pos q] at kk; exact kk
    have kf : ¬ ex_c cd x y = true → W p l e R s m args below meth c H locs cells slots Q (F0 m (pc + 3) ls (st'.map (ex_v g))) := fun q => by rw [if_neg q] at kk; exact kk
    have hd3 := hd.plain rfl
    cases cd
    · exact lv_icmp_eq hx hb hd3 hg (fun q => kt (decide_eq_true q)) (fun q => kf (fun w => q (of_decide_eq_true w)))
    · exact lv_icmp_ne hx hb hd3 hg (fun q => kt (decide_eq_true q)) (fun q => kf (fun w => (of_decide_eq_true w) q))
    · exact lv_icmp_lt hx hb hd3 hg (fun q => kt (decide_eq_true q)) (fun q => kf (fun w => q (of_decide_eq_true w)))
    · exact lv_icmp_ge hx hb hd3 hg (fun q => kt (decide_eq_true q)) (fun q => kf (fun w => q (of_decide_eq_true w)))
    · exact lv_icmp_gt hx hb hd3 hg (fun q => kt (decide_eq_true q)) (fun q => kf (fun w => q (of_decide_eq_true w)))
    · exact lv_icmp_le hx hb hd3 hg (fun q => kt (decide_eq_true q)) (fun q => kf (fun w => q (of_decide_eq_true w)))
  · rename_i dflt lo hi offs x st0
    obtain ⟨len, hd1, -⟩ := hd
    split at hs
    · rename_i ho
      obtain ⟨t, h1, h2⟩ := Option.map_eq_some_iff.mp hs
      cases h2
      exact lv_tableOut hx hb hd1 ho (ex_jmp_some h1) kk
    · rename_i ho
      split at hs
      · rename_i off hoff
        obtain ⟨t, h1, h2⟩ := Option.map_eq_some_iff.mp hs
        cases h2
        exact lv_tableIn hx hb hd1 (fun q => ho (Or.inl q)) (fun q => ho (Or.inr q)) hoff (ex_jmp_some h1) kk
      · cases hs
  · rename_i dflt ps x st0
    obtain ⟨len, hd1, -⟩ := hd
    obtain ⟨t, h1, h2⟩ := Option.map_eq_some_iff.mp hs
    cases h2
    exact lv_lookup hx hb hd1 hg rfl (ex_jmp_some h1) kk
  · cases hs
end EXC
end
section
/-! the run of the pure machine is a run of the machine -/
theorem ex_hs_pos (h : ex_H) (x : ex_E) : ex_hs h ≤ ex_hs (h ++ [x]) := by rw [ex_hs_push]; omega
/-- the heap only grows, and its script stays -/
def ex_ge (h h' : ex_H) : Prop := h.length ≤ h'.length ∧ ex_hs h ≤ ex_hs h' ∧ (1 ≤ h.length → h'[0]? = h[0]?)
theorem ex_ge.rf (h : ex_H) : ex_ge h h := ⟨Nat.le_refl _, Nat.le_refl _, fun _ => rfl⟩
theorem ex_ge.tr {h h1 h2 : ex_H} (a : ex_ge h h1) (b : ex_ge h1 h2) : ex_ge h h2 := ⟨Nat.le_trans a.1 b.1, Nat.le_trans a.2.1 b.2.1, fun q => (b.2.2 (Nat.le_trans q a.1)).trans (a.2.2 q)⟩
theorem ex_ge.set {h : ex_H} {k : Nat} {x y : ex_E} (hk : k ≠ 0) (hx : h[k]? = some x) (hs : ex_sz y = ex_sz x) : ex_ge h (h.set k y) := ⟨by rw [List.length_set]; exact Nat.le_refl _, by rw [ex_hs_set hx hs]; exact Nat.le_refl _, fun _ => by rw [List.getElem?_set, if_neg hk]⟩
theorem ex_ge.push (h : ex_H) (x : ex_E) : ex_ge h (h ++ [x]) := ⟨by simp, ex_hs_pos h x, fun q => List.getElem?_append_left (by omega)⟩
theorem ex_hp_ge {d : Nat} {E : ex_I} {st st' : List Value} {h h' : ex_H} (hs : ex_hp d E st h = some (st', h')) : ex_ge h h' := by
  unfold ex_hp at hs
  split at hs
  · unfold ex_getf at hs
    split at hs
    · split at hs
      · split at hs
        · cases hs
        · split at hs
          · cases hs; exact ex_ge.rf _
          · cases hs
      · cases hs
    · cases hs
  · unfold ex_putf at hs
    split at hs
    · split at hs
      · rename_i hc
        split at hs
        · cases hs
        · rename_i hn; cases hs; exact ex_ge.set (fun q => hn (Or.inl q)) hc rfl
      · cases hs
    · cases hs
  · unfold ex_ald at hs
    split at hs
    · split at hs
      · split at hs
        · cases hs; exact ex_ge.rf _
        · cases hs
      · cases hs
    · cases hs
  · unfold ex_bld at hs
    split at hs
    · split at hs
      · split at hs
        · cases hs; exact ex_ge.rf _
        · cases hs
      · split at hs
        · cases hs; exact ex_ge.rf _
        · cases hs
      · cases hs
    · cases hs
  · unfold ex_qld at hs
    split at hs
    · split at hs
      · split at hs
        · split at hs
          · cases hs; exact ex_ge.rf _
          · cases hs
        · cases hs
      · cases hs
    · cases hs
  · unfold ex_ast at hs
    split at hs
    · split at hs
      · rename_i hc
        split at hs
        · rename_i hn; cases hs; exact ex_ge.set hn.1 hc rfl
        · cases hs
      · cases hs
    · cases hs
  · unfold ex_bst at hs
    split at hs
    · split at hs
      · rename_i hc
        split at hs
        · rename_i hn; cases hs; exact ex_ge.set hn.1 hc rfl
        · cases hs
      · rename_i hc
        split at hs
        · rename_i hn; cases hs; exact ex_ge.set hn.1 hc rfl
        · cases hs
      · cases hs
    · cases hs
  · unfold ex_qst at hs
    split at hs
    · split at hs
      · rename_i hc hv
        split at hs
        · rename_i hn; cases hs; exact ex_ge.set hn.1 hc rfl
        · cases hs
      · cases hs
    · cases hs
  · unfold ex_aln at hs
    split at hs
    · split at hs
      · cases hs; exact ex_ge.rf _
      · split at hs
        · cases hs; exact ex_ge.rf _
        · cases hs
      · cases hs
    · cases hs
  · unfold ex_new at hs
    split at hs
    · cases hs; exact ex_ge.push _ _
    · cases hs
  · unfold ex_nar at hs
    split at hs
    · split at hs
      · split at hs
        · cases hs; exact ex_ge.push _ _
        · cases hs
      · cases hs
    · cases hs
  · unfold ex_nqr at hs
    split at hs
    · split at hs
      · cases hs; exact ex_ge.push _ _
      · cases hs
    · cases hs
  · split at hs
    · unfold ex_cpy at hs
      split at hs
      · split at hs
        · rename_i hc0 hc1
          split at hs
          · rename_i hn; cases hs; exact ex_ge.set hn.2.2.1 hc1 rfl
          · cases hs
        · cases hs
      · cases hs
    · cases hs
  · split at hs
    · unfold ex_obj at hs
      split at hs
      · split at hs
        · cases hs; exact ex_ge.rf _
        · cases hs
      · cases hs
    · cases hs
  · cases hs
theorem ex_step_ge {P : Nat → ex_M} {M : ex_M} {d pc pc' : Nat} {L L' : ex_L} {st st' : List Value} {h h' : ex_H} (hs : ex_step P M d pc L st h = some (.inl (pc', L', st', h'))) : ex_ge h h' := by
  unfold ex_step at hs
  split at hs
  · cases hs
  · split at hs
    · cases hs; exact ex_ge.rf _
    · split at hs
      · cases hs; exact ex_ge.rf _
      · split at hs
        · cases hs; exact ex_ge.rf _
        · split at hs
          · rename_i hh; cases hs; exact ex_hp_ge hh
          · split at hs
            · cases hs
            · split at hs <;> cases hs
theorem ex_run_ge {P : Nat → ex_M} : ∀ (n d k pc : Nat) (L : ex_L) (st : List Value) (h : ex_H) (r : Option Value) (h' : ex_H), ex_run P n d k pc L st h = some (r, h') → ex_ge h h' := by
  intro n
  induction n with
  | zero => intro d k pc L st h r h' hs; cases hs
  | succ n ih =>
    intro d k pc L st h r h' hs
    unfold ex_run at hs
    split at hs
    · cases hs
    · rename_i hst
      exact (ex_step_ge hst).tr (ih _ _ _ _ _ _ _ _ hs)
    · cases hs; exact ex_ge.rf _
    · split at hs
      · cases hs
      · split at hs
        · cases hs
        · rename_i hr
          exact (ih _ _ _ _ _ _ _ _ hr).tr (ih _ _ _ _ _ _ _ _ hs)
end
section
/-! entry of a method, calls, and the whole run -/
theorem ex_sl_at (g : Nat → Nat) : ∀ (as : List Value) (i : Nat) (v : Value), (ex_sl as)[i]? = some (some v) → (lg_sl (as.map (ex_v g)))[i]? = some (.val (ex_v g v)) := by
  intro as
  induction as with
  | nil => intro i v h; simp [ex_sl] at h
  | cons a as ih =>
    intro i v h
    have e1 : ex_sl (a :: as) = (if a.category = 2 then [some a, none] else [some a]) ++ ex_sl as := rfl
    have e2 : lg_sl ((a :: as).map (ex_v g)) = (if (ex_v g a).category = 2 then [.val (ex_v g a), .second] else [.val (ex_v g a)]) ++ lg_sl (as.map (ex_v g)) := rfl
    rw [e1] at h
    rw [e2, ex_v_cat]
    by_cases hc : a.category = 2
    · rw [if_pos hc] at h ⊢
      match i, h with
      | 0, h => cases h; rfl
      | 1, h => cases h
      | i + 2, h => exact ih i v h
    · rw [if_neg hc] at h ⊢
      match i, h with
      | 0, h => cases h; rfl
      | i + 1, h => exact ih i v h
theorem ex_sl_len (g : Nat → Nat) : ∀ as : List Value, (lg_sl (as.map (ex_v g))).length = (ex_sl as).length := by
  intro as
  induction as with
  | nil => rfl
  | cons a as ih =>
    have e1 : ex_sl (a :: as) = (if a.category = 2 then [some a, none] else [some a]) ++ ex_sl as := rfl
    have e2 : lg_sl ((a :: as).map (ex_v g)) = (if (ex_v g a).category = 2 then [.val (ex_v g a), .second] else [.val (ex_v g a)]) ++ lg_sl (as.map (ex_v g)) := rfl
    rw [e1, e2, ex_v_cat, List.length_append, List.length_append, ih]
    split <;> rfl
theorem ex_lok_at {lg : List Nat} : ∀ (L : ex_L) (i0 : Nat), ex_lok lg i0 L = true → ∀ (j : Nat) (v : Value), L[j]? = some (some v) → v.category = 2 → i0 + j ∈ lg := by
  intro L
  induction L with
  | nil => intro i0 _ j v hj; simp at hj
  | cons o L ih =>
    intro i0 h j v hj hv
    match j, hj with
    | 0, hj =>
      cases hj
      cases v <;> first | (simp [Value.category] at hv; done) | skip
      · simp only [ex_lok, Bool.and_eq_true, decide_eq_true_eq] at h
        exact h.1
      · simp only [ex_lok, Bool.and_eq_true, decide_eq_true_eq] at h
        exact h.1
    | j + 1, hj =>
      have h2 : ex_lok lg (i0 + 1) L = true := by
        unfold ex_lok at h
        split at h
        · rename_i q; cases q
        · rename_i q; cases q; exact (Bool.and_eq_true_iff.mp h).2
        · rename_i q; cases q; exact (Bool.and_eq_true_iff.mp h).2
        · rename_i q; cases q; exact h
      have h3 := ih (i0 + 1) h2 j v hj hv
      rw [show i0 + 1 + j = i0 + (j + 1) by omega] at h3
      exact h3
theorem ex_en_ok {M : ex_M} {as : List Value} (g : Nat → Nat) (he : ex_eok M as = true) : ex_Ls g M.2.2.2.1 M.2.2.2.2.2.2.1 ((lg_sl (as.map (ex_v g)) ++ List.replicate (M.2.2.2.1 - (lg_sl (as.map (ex_v g))).length) Slot.unset).toArray) (ex_en M as) := by
  unfold ex_eok at he
  obtain ⟨h1, h2⟩ := Bool.and_eq_true_iff.mp he
  have h1 : (ex_sl as).length ≤ M.2.2.2.1 := of_decide_eq_true h1
  have h3 := lv_entry (as.map (ex_v g)) (n := M.2.2.2.1) (by rw [ex_sl_len]; exact h1)
  have hat : ∀ (i : Nat) (v : Value), (ex_en M as)[i]? = some (some v) → (ex_sl as)[i]? = some (some v) := by
    intro i v hi
    unfold ex_en at hi
    rw [List.getElem?_append] at hi
    split at hi
    · exact hi
    · rw [List.getElem?_replicate] at hi
      split at hi <;> cases hi
  refine ⟨h3.1, ?_, h3.2.1, fun i v hi => ?_, fun i v hi hv => ?_⟩
  · unfold ex_en; simp; omega
  · have h4 := ex_sl_at g as i v (hat i v hi)
    have h5 : i < (lg_sl (as.map (ex_v g))).length := (List.getElem?_eq_some_iff.mp h4).1
    rw [List.getElem?_toArray, List.getElem?_append_left h5]
    exact h4
  · have h4 := ex_lok_at _ 0 h2 i v (hat i v hi) hv
    rw [Nat.zero_add] at h4
    exact h4
def ex_Pc (D : va_G) (ca : Nat → ClassId) (b b0 Lx : Nat) (xs : Nat → Int32) (nw : List Cond) (as : List Value) (h : ex_H) : Array Value → State → Prop := fun av U => av = (as.map (ex_v (ex_g b b0))).toArray ∧ va_P D vwCl (ex_w (ex_g b b0) ca h) U.heap ∧ U.heap.size = b0 + h.length ∧ va_K D vwCl (ex_tys ca) U ∧ (∀ w ∈ nw, va_Nw w U) ∧ va_AO RX5 U ∧ va_X b Lx xs U U.heap
def ex_Qc (D : va_G) (ca : Nat → ClassId) (b b0 : Nat) (r : Option Value) (h' : ex_H) : Array Value → State → Outcome → State → Prop := fun _ st o t => o = .returned (r.map (ex_v (ex_g b b0))) ∧ va_P D vwCl (ex_w (ex_g b b0) ca h') t.heap ∧ va_F (fun q => b0 < q) st t
def ex_nwk (nw : List Cond) : Prop := ∀ w ∈ nw, ∃ (a : String) (i : Nat) (x : MethodName) (o : String), w = .methodLinkNest a i x o
theorem ex_Pc_blind {D : va_G} {ca : Nat → ClassId} {b b0 Lx : Nat} {xs : Nat → Int32} {nw : List Cond} (hnw : ex_nwk nw) (as : List Value) (h : ex_H) : FrameBlind (ex_Pc D ca b b0 Lx xs nw as h) := by
  intro a U g mk ⟨q1, q2, q3, q4, q5, q6, q7⟩
  refine ⟨q1, q2, q3, va_K.moved (u := U) (U := U.calling g mk a) (Vm.Alike.refl U.vm) q4, fun w hw => ?_, va_AO.moved (u := U) (U := U.calling g mk a) (Vm.Alike.refl U.vm) q6, va_X.moved (u := U) (U := U.calling g mk a) (Vm.Alike.refl U.vm) q7⟩
  obtain ⟨_, _, _, _, rfl⟩ := hnw w hw
  exact va_Nw.same (u := U) rfl rfl (q5 _ hw)
theorem ex_good {ws : List Cond} (h : ∀ w ∈ ws, w ∈ ex_tbl) : GoodIn ex_tbl ws := fun w hw => ⟨h w hw, good_of_word (List.mem_filter.mp (h w hw)).2⟩
def ex_rm (d mc ms : Nat) : Room := { frames := d, cells := mc, slots := ms, locals := 40 * d }
/-- a method's words -/
def ex_ws (M : ex_M) : List Cond := .code M.2.1 M.2.2.1 M.2.2.2.1 M.2.2.2.2.1 :: ex_tbl
section EXR
variable {p : Program} {l : Launch} {e : Env} {R : Room} {s : State} {m : MethodId} {args : Array Value} {below : List Frame} {meth : Method} {c : Code} {H : Heap} {locs : List Loc} {cells slots : Nat} {Q : State → Prop}
variable {pc : Nat} {ls : Array Slot} {D : va_G} {ca : Nat → ClassId} {b b0 n0 z0 Lx : Nat} {xs : Nat → Int32} {nw : List Cond} {M : ex_M} {st st' : List Value} {h h' : ex_H}
theorem ex_after {r : Option Value} {h1 : ex_H} {st0 rest : List Value} {a : Array Value} {mc ms : Nat} (hr : va_Run p l e R s m args below meth c H locs cells slots mc ms (F0 m pc ls st0) rest (ex_Qc D ca b b0 r h1 a) (fun q => b0 < q)) (hS : va_S (fun q => b0 < q) s.heap H locs)
    (kk : ∀ (H1 : Heap) (locs1 : List Loc), va_P D vwCl (ex_w (ex_g b b0) ca h1) H1 → va_S (fun q => b0 < q) s.heap H1 locs1 → W p l e R s m args below meth c H1 locs1 (cells + mc) (slots + ms) Q (F0 m (pc + 3) ls ((r.map (ex_v (ex_g b b0))).toList ++ rest))) : W p l e R s m args below meth c H locs cells slots Q (F0 m pc ls st0) := by
  intro T hT X
  obtain ⟨v, st₀, t, T', L, h0, X', hL, e1, e2, ⟨hv, hp, hz, hk⟩, stp⟩ := hr T hT X
  cases hv
  rw [h0] at hz hk
  obtain ⟨t2, a1, b1⟩ := kk T'.heap (locs ++ L) (by rw [e1]; exact hp)
    ⟨Nat.le_trans hS.1 (by rw [e1]; exact hz), fun q h1 h2 => by rw [e1, hk q (Nat.lt_of_lt_of_le h1 hS.1) h2]; exact hS.2.1 q h1 h2, fun q hq => by
      rcases List.mem_append.mp hq with h | h
      · exact hS.2.2 q h
      · exact hL q h⟩ T' rfl X'
  exact ⟨t2, stp t2 a1, b1⟩
theorem ex_pre {as : List Value} (C : ex_Cx p s m args meth c D ca b b0 Lx xs nw M) (hnw : ex_nwk nw) (hH : ex_Hs D ca b b0 n0 z0 s H locs cells slots h) (hz : H.size = b0 + h.length) : ∀ U : State, U.heap = H → s.WarmedH U.vm → ex_Pc D ca b b0 Lx xs nw as h (as.map (ex_v (ex_g b b0))).toArray U := by
  intro U hU hW
  obtain ⟨hx, hb, hml, hown, hts, hin0, hK, hnw1, hAO, hX, hb1, hb2⟩ := C
  refine ⟨rfl, by rw [hU]; exact hH.1, by rw [hU]; exact hz, va_K.moved hW.alike hK, fun w hw => ?_, va_AO.moved hW.alike hAO, ?_⟩
  · obtain ⟨_, _, _, _, rfl⟩ := hnw w hw
    exact va_Nw.warmM hW (hnw1 _ hw)
  · rw [hU]
    exact va_X.moved hW.alike (hX.kept (hH.2.1.2.1 b (by omega) (by omega)))
/-- what the tables say of a method -/
def ex_okM (M : ex_M) (inst : Bool) : Prop := plainName M.2.1.cls = true ∧ M.1 = M.2.1.cls ∧ (M.2.1.cls ≠ "java/lang/invoke/MethodHandle" ∧ M.2.1.cls ≠ "java/lang/invoke/VarHandle") ∧ Cond.code M.2.1 M.2.2.1 M.2.2.2.1 M.2.2.2.2.1 ∈ ex_tbl ∧ Cond.initialized M.2.1.cls ∈ ex_tbl ∧ M.2.2.2.1 ≤ 21 ∧ (inst = false → Cond.static M.2.1 ∈ ex_tbl ∧ (parseMethodDescriptor M.2.1.desc).map (fun d => d.parameters.length) = some M.2.2.2.2.2.1) ∧ (inst = true → Cond.instanceMethod M.2.1 ∈ ex_tbl ∧ (parseMethodDescriptor M.2.1.desc).map (fun d => d.parameters.length + 1) = some M.2.2.2.2.2.1)
theorem ex_ws_in {N : ex_M} {inst : Bool} (h : ex_okM N inst) : ∀ w ∈ ex_ws N, w ∈ ex_tbl := by
  intro w hw
  rcases List.mem_cons.mp hw with rfl | hw
  · exact h.2.2.2.1
  · exact hw
theorem ex_callS {N : ex_M} {as rest : List Value} {r : Option Value} {h1 : ex_H} {i d mc ms : Nat} (hN : ex_okM N false) (C : ex_Cx p s m args meth c D ca b b0 Lx xs nw M) (hnw : ex_nwk nw) (hH : ex_Hs D ca b b0 n0 z0 s H locs cells slots h) (hls : ls.size = M.2.2.2.1)
    (hM : Met l N.2.1 (ex_ws N) (ex_rm d mc ms) (ex_Pc D ca b b0 Lx xs nw as h) (ex_Qc D ca b b0 r h1) mc ms (fun q => b0 < q)) (hlk : Cond.methodLink M.1 i N.2.1 ∈ ex_tbl ∨ ∃ o, Cond.methodLinkNest M.1 i N.2.1 o ∈ nw)
    (hn : as.length = N.2.2.2.2.2.1) (hst : st = as.reverse ++ rest) (hrest : (rest.map fun v => v.category).sum ≤ 8) (hd : decode M.2.2.1 pc = .ok (.invokestatic i, 3)) (hR : d + 1 ≤ R.frames ∧ 40 * (d + 1) ≤ R.locals) (hf : cells + mc ≤ R.cells ∧ slots + ms ≤ R.slots)
    (kk : ∀ (H1 : Heap) (locs1 : List Loc), va_P D vwCl (ex_w (ex_g b b0) ca h1) H1 → va_S (fun q => b0 < q) s.heap H1 locs1 → W p l e R s m args below meth c H1 locs1 (cells + mc) (slots + ms) Q (F0 m (pc + 3) ls ((r.map (ex_v (ex_g b b0))).toList ++ rest.map (ex_v (ex_g b b0))))) : W p l e R s m args below meth c H locs cells slots Q (F0 m pc ls (st.map (ex_v (ex_g b b0)))) := by
  refine ex_size fun hz => ?_
  have hz2 := hH.size hz
  have C0 := C
  obtain ⟨hx, hb, hml, hown, hts, hin0, hK, hnw1, hAO, hX, hb1, hb2⟩ := C
  obtain ⟨o1, o2, o3, o4, o5, o6, o7, o8⟩ := hN
  obtain ⟨o9, o10⟩ := o7 rfl
  have hp : PreS s H (ex_Pc D ca b b0 Lx xs nw as h) (as.map (ex_v (ex_g b b0))) := ⟨ex_Pc_blind hnw as h, ex_pre C0 hnw hH hz2⟩
  have hstk : (F0 m pc ls (st.map (ex_v (ex_g b b0)))).stack = (as.map (ex_v (ex_g b b0))).reverse ++ rest.map (ex_v (ex_g b b0)) := by
    show st.map _ = _
    rw [hst, List.map_append, List.map_reverse]
  have hW8 : 2 * (F0 m pc ls (st.map (ex_v (ex_g b b0)))).monitorRoom + ((rest.map (ex_v (ex_g b b0))).map fun v => v.category).sum ≤ 8 := lv_room (by rw [ex_v_sum]; exact hrest)
  have hR2 : (ex_rm d mc ms).frames + 1 ≤ R.frames ∧ 8 + (N.2.2.2.1 + 11) + (ex_rm d mc ms).locals ≤ R.locals := ⟨hR.1, by have := hR.2; show 8 + (N.2.2.2.1 + 11) + 40 * d ≤ R.locals; omega⟩
  have hin : ∀ w ∈ ex_ws N, w ∈ ex_tbl := ex_ws_in ⟨o1, o2, o3, o4, o5, o6, o7, o8⟩
  rcases hlk with hlk | ⟨o, hlk⟩
  · refine ex_after (va_runS (rest := rest.map (ex_v (ex_g b b0))) ⟨hx, hb, hml, hown, hts⟩ hM (va_cwS (bytes := N.2.2.1) (maxL := N.2.2.2.1) (ret := N.2.2.2.2.1) N.2.2.2.2.2.1 hts (ex_good (ws := va_wsS M.1 i N.2.1 (ex_ws N)) (fun w hw => ?_)) rfl rfl rfl ⟨o3.1, o3.2, o10⟩ hR2) hp rfl (by rw [List.length_map]; exact hn) hls hstk hW8 hd hf) hH.2.1 kk
    rcases List.mem_append.mp hw with h1 | h1
    · simp at h1
      rcases h1 with rfl | rfl | rfl
      · exact hlk
      · exact o9
      · exact o5
    · exact hin w h1
  · exact ex_after (va_runSN (rest := rest.map (ex_v (ex_g b b0))) ⟨hx, hb, hml, hown, hts⟩ hM ⟨va_cnB (bytes := N.2.2.1) (maxL := N.2.2.2.1) (ret := N.2.2.2.2.1) N.2.2.2.2.2.1 hts (ex_good hin) rfl rfl rfl (hnw1 _ hlk) (hts _ o5) ⟨o3.1, o3.2, o10⟩ hR2, hts _ o9, trivial⟩ hp rfl (by rw [List.length_map]; exact hn) hls hstk hW8 hd hf) hH.2.1 kk
theorem ex_parm {d : String} {n k : Nat} (h : (parseMethodDescriptor d).map (fun d => d.parameters.length + 1) = some k) (hk : n + 1 = k) : (parseMethodDescriptor d).map (fun d => d.parameters.length) = some n := by
  cases hd : parseMethodDescriptor d with
  | none => rw [hd] at h; cases h
  | some x => rw [hd] at h; simp at h ⊢; omega
theorem ex_callV {N : ex_M} {c0 ci : Nat} {fs : List Value} {as rest : List Value} {r : Option Value} {h1 : ex_H} {i d mc ms : Nat} (hN : ex_okM N true) (hsel : Cond.selects N.2.1.cls N.2.1 N.2.1 ∈ ex_tbl) (C : ex_Cx p s m args meth c D ca b b0 Lx xs nw M) (hnw : ex_nwk nw) (hH : ex_Hs D ca b b0 n0 z0 s H locs cells slots h) (hls : ls.size = M.2.2.2.1)
    (hM : Met l N.2.1 (ex_ws N) (ex_rm d mc ms) (ex_Pc D ca b b0 Lx xs nw (.ref c0 :: as) h) (ex_Qc D ca b b0 r h1) mc ms (fun q => b0 < q)) (hlk : Cond.methodLink M.1 i N.2.1 ∈ ex_tbl ∨ ∃ o, Cond.methodLinkNest M.1 i N.2.1 o ∈ nw)
    (hc0 : c0 ≠ 0) (hcell : h[c0]? = some (.inr (.inr (ci, fs)))) (hci : ci < 8 ∧ ex_RC ci = N.2.1.cls)
    (hn : as.length + 1 = N.2.2.2.2.2.1) (hst : st = as.reverse ++ .ref c0 :: rest) (hrest : (rest.map fun v => v.category).sum ≤ 8) (hd : decode M.2.2.1 pc = .ok (.invokevirtual i, 3)) (hR : d + 1 ≤ R.frames ∧ 40 * (d + 1) ≤ R.locals) (hf : cells + mc ≤ R.cells ∧ slots + ms ≤ R.slots)
    (kk : ∀ (H1 : Heap) (locs1 : List Loc), va_P D vwCl (ex_w (ex_g b b0) ca h1) H1 → va_S (fun q => b0 < q) s.heap H1 locs1 → W p l e R s m args below meth c H1 locs1 (cells + mc) (slots + ms) Q (F0 m (pc + 3) ls ((r.map (ex_v (ex_g b b0))).toList ++ rest.map (ex_v (ex_g b b0))))) : W p l e R s m args below meth c H locs cells slots Q (F0 m pc ls (st.map (ex_v (ex_g b b0)))) := by
  refine ex_size fun hz => ?_
  have hz2 := hH.size hz
  have C0 := C
  obtain ⟨hx, hb, hml, hown, hts, hin0, hK, hnw1, hAO, hX, hb1, hb2⟩ := C
  obtain ⟨o1, o2, o3, o4, o5, o6, o7, o8⟩ := hN
  obtain ⟨o9, o10⟩ := o8 rfl
  have o11 := ex_parm o10 hn
  have hrcv : ∃ cellB : Cell, H[ex_g b b0 c0]? = some cellB ∧ cellB.vm.isStatics = false ∧ s.vm.findClass N.2.1.cls = some cellB.cls := by
    obtain ⟨r9, f1, cell, f2, f3, f4, -⟩ := hH.1 _ _ (ex_w_at (g := ex_g b b0) (ca := ca) hc0 hcell)
    obtain ⟨-, g1, -⟩ := hK.1 ci _ (ex_cl_ok hci.1)
    refine ⟨cell, f2, by rw [f4]; rfl, ?_⟩
    rw [← hci.2, f3]
    exact g1
  have hp : PreV s H N.2.1.cls (ex_g b b0 c0) (ex_Pc D ca b b0 Lx xs nw (.ref c0 :: as) h) (as.map (ex_v (ex_g b b0))) := ⟨ex_Pc_blind hnw _ h, hrcv, ex_pre (as := .ref c0 :: as) C0 hnw hH hz2⟩
  have hstk : (F0 m pc ls (st.map (ex_v (ex_g b b0)))).stack = (as.map (ex_v (ex_g b b0))).reverse ++ .ref (ex_g b b0 c0) :: rest.map (ex_v (ex_g b b0)) := by
    show st.map _ = _
    rw [hst, List.map_append, List.map_reverse]
    rfl
  have hW8 : 2 * (F0 m pc ls (st.map (ex_v (ex_g b b0)))).monitorRoom + ((rest.map (ex_v (ex_g b b0))).map fun v => v.category).sum ≤ 8 := lv_room (by rw [ex_v_sum]; exact hrest)
  have hR2 : (ex_rm d mc ms).frames + 1 ≤ R.frames ∧ 8 + (N.2.2.2.1 + 11) + (ex_rm d mc ms).locals ≤ R.locals := ⟨hR.1, by have := hR.2; show 8 + (N.2.2.2.1 + 11) + 40 * d ≤ R.locals; omega⟩
  have hin : ∀ w ∈ ex_ws N, w ∈ ex_tbl := ex_ws_in ⟨o1, o2, o3, o4, o5, o6, o7, o8⟩
  rcases hlk with hlk | ⟨o, hlk⟩
  · refine ex_after (va_runV (rest := rest.map (ex_v (ex_g b b0))) ⟨hx, hb, hml, hown, hts⟩ hM (cwV (bytes := N.2.2.1) (maxL := N.2.2.2.1) (ret := N.2.2.2.2.1) as.length hts (ex_good (ws := wsV M.1 i N.2.1.cls N.2.1 (ex_ws N)) (fun w hw => ?_)) rfl rfl rfl ⟨rfl, o3.1, o3.2, o11⟩ hR2) hp rfl (by rw [List.length_map]) hls hstk hW8 hd hf) hH.2.1 kk
    rcases List.mem_append.mp hw with h1 | h1
    · simp at h1
      rcases h1 with rfl | rfl | rfl | rfl
      · exact hlk
      · exact o9
      · exact hsel
      · exact o5
    · exact hin w h1
  · exact ex_after (va_runVN (C := N.2.1.cls) (rest := rest.map (ex_v (ex_g b b0))) ⟨hx, hb, hml, hown, hts⟩ hM ⟨va_cnB (bytes := N.2.2.1) (maxL := N.2.2.2.1) (ret := N.2.2.2.2.1) as.length hts (ex_good hin) rfl rfl rfl (hnw1 _ hlk) (hts _ o5) ⟨o3.1, o3.2, o11⟩ hR2, hts _ o9, hts _ hsel⟩ hp rfl (by rw [List.length_map]) hls hstk hW8 hd hf) hH.2.1 kk
theorem ex_callI {N : ex_M} {c0 : Nat} {as rest : List Value} {r : Option Value} {h1 : ex_H} {i d mc ms : Nat} (hN : ex_okM N true) (hini : N.2.1.name = "<init>" ∧ N.2.2.2.2.1 = none) (C : ex_Cx p s m args meth c D ca b b0 Lx xs nw M) (hnw : ex_nwk nw) (hH : ex_Hs D ca b b0 n0 z0 s H locs cells slots h) (hls : ls.size = M.2.2.2.1)
    (hM : Met l N.2.1 (ex_ws N) (ex_rm d mc ms) (ex_Pc D ca b b0 Lx xs nw (.ref c0 :: as) h) (ex_Qc D ca b b0 r h1) mc ms (fun q => b0 < q)) (hlk : Cond.methodLink M.1 i N.2.1 ∈ ex_tbl ∨ ∃ o, Cond.methodLinkNest M.1 i N.2.1 o ∈ nw)
    (hn : as.length + 1 = N.2.2.2.2.2.1) (hst : st = as.reverse ++ .ref c0 :: rest) (hrest : (rest.map fun v => v.category).sum ≤ 8) (hd : decode M.2.2.1 pc = .ok (.invokespecial i, 3)) (hR : d + 1 ≤ R.frames ∧ 40 * (d + 1) ≤ R.locals) (hf : cells + mc ≤ R.cells ∧ slots + ms ≤ R.slots)
    (kk : ∀ (H1 : Heap) (locs1 : List Loc), va_P D vwCl (ex_w (ex_g b b0) ca h1) H1 → va_S (fun q => b0 < q) s.heap H1 locs1 → W p l e R s m args below meth c H1 locs1 (cells + mc) (slots + ms) Q (F0 m (pc + 3) ls ((r.map (ex_v (ex_g b b0))).toList ++ rest.map (ex_v (ex_g b b0))))) : W p l e R s m args below meth c H locs cells slots Q (F0 m pc ls (st.map (ex_v (ex_g b b0)))) := by
  refine ex_size fun hz => ?_
  have hz2 := hH.size hz
  have C0 := C
  obtain ⟨hx, hb, hml, hown, hts, hin0, hK, hnw1, hAO, hX, hb1, hb2⟩ := C
  obtain ⟨o1, o2, o3, o4, o5, o6, o7, o8⟩ := hN
  obtain ⟨o9, o10⟩ := o8 rfl
  have o11 := ex_parm o10 hn
  have hp : PreS s H (ex_Pc D ca b b0 Lx xs nw (.ref c0 :: as) h) (.ref (ex_g b b0 c0) :: as.map (ex_v (ex_g b b0))) := ⟨ex_Pc_blind hnw _ h, ex_pre (as := .ref c0 :: as) C0 hnw hH hz2⟩
  have hstk : (F0 m pc ls (st.map (ex_v (ex_g b b0)))).stack = (as.map (ex_v (ex_g b b0))).reverse ++ .ref (ex_g b b0 c0) :: rest.map (ex_v (ex_g b b0)) := by
    show st.map _ = _
    rw [hst, List.map_append, List.map_reverse]
    rfl
  have hW8 : 2 * (F0 m pc ls (st.map (ex_v (ex_g b b0)))).monitorRoom + ((rest.map (ex_v (ex_g b b0))).map fun v => v.category).sum ≤ 8 := lv_room (by rw [ex_v_sum]; exact hrest)
  have hR2 : (ex_rm d mc ms).frames + 1 ≤ R.frames ∧ 8 + (N.2.2.2.1 + 11) + (ex_rm d mc ms).locals ≤ R.locals := ⟨hR.1, by have := hR.2; show 8 + (N.2.2.2.1 + 11) + 40 * d ≤ R.locals; omega⟩
  have hin : ∀ w ∈ ex_ws N, w ∈ ex_tbl := ex_ws_in ⟨o1, o2, o3, o4, o5, o6, o7, o8⟩
  have hw0 : ex_ws N = Cond.code N.2.1 N.2.2.1 N.2.2.2.1 none :: ex_tbl := by unfold ex_ws; rw [hini.2]
  rcases hlk with hlk | ⟨o, hlk⟩
  · exact ex_after (va_runI (rest := rest.map (ex_v (ex_g b b0))) ⟨hx, hb, hml, hown, hts⟩ hM (cwI (bytes := N.2.2.1) (maxL := N.2.2.2.1) as.length hts (ex_good hin) hw0 rfl rfl (hts _ o5) (hts _ hlk) (hts _ o9) hini.1 ⟨o3.1, o3.2, o11⟩ hR2) hp rfl (by rw [List.length_map]) hls hstk hW8 hd hf) hH.2.1 kk
  · exact ex_after (va_runIN (rest := rest.map (ex_v (ex_g b b0))) ⟨hx, hb, hml, hown, hts⟩ hM ⟨va_cnB (bytes := N.2.2.1) (maxL := N.2.2.2.1) (ret := none) as.length hts (ex_good hin) hw0 rfl rfl (hnw1 _ hlk) (hts _ o5) ⟨o3.1, o3.2, o11⟩ hR2, hini.1, hts _ o9⟩ hp rfl (by rw [List.length_map]) hls hstk hW8 hd hf) hH.2.1 kk
end EXR
end
section
/-! the main row: a run of the pure machine is a walk of the machine -/
def ex_lk (nw : List Cond) (own : String) (i : Nat) (y : MethodName) : Prop := Cond.methodLink own i y ∈ ex_tbl ∨ ∃ o, Cond.methodLinkNest own i y o ∈ nw
def ex_okE (P : Nat → ex_M) (nw : List Cond) (M : ex_M) (pc : Nat) (E : ex_I) : Prop := ex_okd M.2.2.1 pc E.1 ∧ ex_okg pc E ∧ (∀ w, ex_kw M.1 E.1 E.2.2.2 = some w → w ∈ ex_tbl) ∧ (match E.1 with
  | .getfield i => ex_okf M.1 i E.2.1 E.2.2.1
  | .putfield i => ex_okf M.1 i E.2.1 E.2.2.1 ∧ ex_okt M.1 M.2.1.name E.2.1 E.2.2.1 E.2.2.2
  | .new i => Cond.classLink M.1 i (ex_RC E.2.1) ∈ ex_tbl ∧ Cond.instantiable (ex_RC E.2.1) (ex_nF E.2.1) ∈ ex_tbl ∧ Cond.initialized (ex_RC E.2.1) ∈ ex_tbl
  | .anewarray i => Cond.classLink M.1 i RX5 ∈ ex_tbl
  | .invokestatic i => if E.2.2.1 = 3 then Cond.methodLink M.1 i arraycopyName ∈ ex_tbl else ex_okM (P E.2.1) false ∧ ex_lk nw M.1 i (P E.2.1).2.1
  | .invokevirtual i => ex_okM (P E.2.1) true ∧ Cond.selects (P E.2.1).2.1.cls (P E.2.1).2.1 (P E.2.1).2.1 ∈ ex_tbl ∧ (∃ ci : Nat, E.2.2.2 = (ci : Int) ∧ ci < 8 ∧ ex_RC ci = (P E.2.1).2.1.cls) ∧ ex_lk nw M.1 i (P E.2.1).2.1
  | .invokespecial i => if E.2.2.1 = 2 then Cond.methodLink M.1 i objectInit ∈ ex_tbl else ex_okM (P E.2.1) true ∧ ((P E.2.1).2.1.name = "<init>" ∧ (P E.2.1).2.2.2.2.1 = none) ∧ ex_lk nw M.1 i (P E.2.1).2.1
  | _ => True)
def ex_gw : Prop := (∀ ci, ci < 8 → ∀ w ∈ u_ws (ex_RC ci) (ex_TC ci) (ex_nF ci), w ∈ ex_tbl) ∧ (Cond.arrayClass .int ∈ ex_tbl ∧ Cond.arrayClass .byte ∈ ex_tbl ∧ Cond.arrayClass .boolean ∈ ex_tbl) ∧ (Cond.native arraycopyName ∈ ex_tbl ∧ Cond.static arraycopyName ∈ ex_tbl ∧ Cond.initialized "java/lang/System" ∈ ex_tbl) ∧ (Cond.instanceMethod objectInit ∈ ex_tbl ∧ Cond.code objectInit ⟨#[0xb1]⟩ 1 none ∈ ex_tbl)
def ex_ok (P : Nat → ex_M) (nw : List Cond) : Prop := (∀ k pc E, (P k).2.2.2.2.2.2.2 pc = some E → ex_okE P nw (P k) pc E) ∧ ex_gw ∧ ex_nwk nw
theorem ex_op_sw {I : Instr} {v : Int} {st st' : List Value} (h : ex_op I v st = some st') : ex_sw I = false := by
  cases I <;> first | rfl | exact absurd h (by simp [ex_op])
theorem ex_lo_sw {M : ex_M} {E : ex_I} {L L' : ex_L} {st st' : List Value} (h : ex_lo M E L st = some (L', st')) : ex_sw E.1 = false := by
  obtain ⟨I, a, b, v⟩ := E
  cases I <;> first | rfl | exact absurd h (by simp [ex_lo, ex_lds, ex_sts])
section EXZ
variable {p : Program} {l : Launch} {e : Env} {R : Room} {s : State} {m : MethodId} {args : Array Value} {below : List Frame} {meth : Method} {c : Code} {H : Heap} {locs : List Loc} {cells slots : Nat} {Q : State → Prop}
variable {pc : Nat} {ls : Array Slot} {D : va_G} {ca : Nat → ClassId} {b b0 n0 z0 Lx : Nat} {xs : Nat → Int32} {nw : List Cond} {M : ex_M} {st st' : List Value} {h h' : ex_H}
theorem ex_hp_ok {P : Nat → ex_M} {d : Nat} {E : ex_I} (hG : ex_gw) (C : ex_Cx p s m args meth c D ca b b0 Lx xs nw M) (hls : ls.size = M.2.2.2.1) (h0 : h[0]? = some (.inl (0, Lx, xs))) (hH : ex_Hs D ca b b0 n0 z0 s H locs cells slots h) (ho : ex_okE P nw M pc E) (hs : ex_hp d E st h = some (st', h')) (hr : d ≤ R.frames ∧ 40 * d ≤ R.locals) (hc : h'.length ≤ R.cells + n0 ∧ ex_hs h' ≤ R.slots + z0)
    (kk : ∀ H' locs' cells' slots', ex_Hs D ca b b0 n0 z0 s H' locs' cells' slots' h' → W p l e R s m args below meth c H' locs' cells' slots' Q (F0 m (pc + ex_len E.1) ls (st'.map (ex_v (ex_g b b0))))) : W p l e R s m args below meth c H locs cells slots Q (F0 m pc ls (st.map (ex_v (ex_g b b0)))) := by
  obtain ⟨I, a, b', v⟩ := E
  obtain ⟨g1, g2, g3, g4⟩ := hG
  obtain ⟨od, og, ok, ow⟩ := ho
  unfold ex_hp at hs
  dsimp only at hs od og ok ow kk
  split at hs
  · exact ex_getf_ok C hH g1 ow hs (od.plain rfl) (kk _ _ _ _)
  · exact ex_putf_ok C hH g1 ow.1 ow.2 hs (od.plain rfl) (fun H' locs' => kk H' locs' _ _)
  · exact ex_ald_ok C h0 hH hs (od.plain rfl) (kk _ _ _ _)
  · exact ex_bld_ok C hH hs (od.plain rfl) (kk _ _ _ _)
  · exact ex_qld_ok C hH hs (od.plain rfl) (kk _ _ _ _)
  · exact ex_ast_ok C hH hs (od.plain rfl) (fun H' locs' => kk H' locs' _ _)
  · exact ex_bst_ok C hH hs (od.plain rfl) (fun H' locs' => kk H' locs' _ _)
  · exact ex_qst_ok C hH hs (od.plain rfl) (fun H' locs' => kk H' locs' _ _)
  · exact ex_aln_ok C h0 hH hs (od.plain rfl) (kk _ _ _ _)
  · exact ex_new_ok C hH g1 ow hs (od.plain rfl) ⟨Nat.zero_le _, hc⟩ kk
  · exact ex_nar_ok C hH g2 hs (od.plain rfl) hc kk
  · exact ex_nqr_ok C hH ow hs (od.plain rfl) hc kk
  · split at hs
    · rename_i h3
      dsimp only at ow
      rw [if_pos h3] at ow
      exact ex_cpy_ok C hls hH ⟨ow, g3⟩ hs (od.plain rfl) hr (fun H' locs' => kk H' locs' _ _)
    · cases hs
  · split at hs
    · rename_i h3
      dsimp only at ow
      rw [if_pos h3] at ow
      exact ex_obj_ok (h := h) C hls ⟨ow, g4⟩ hs (od.plain rfl) hr (fun q => kk _ _ _ _ (by rw [q]; exact hH))
    · cases hs
  · cases hs
/-- what the machine does at the method's own end -/
def ex_End (p : Program) (l : Launch) (e : Env) (R : Room) (s : State) (m : MethodId) (args : Array Value) (below : List Frame) (meth : Method) (c : Code) (Q : State → Prop) (D : va_G) (ca : Nat → ClassId) (b b0 n0 z0 : Nat) (M : ex_M) (r : Option Value) (h' : ex_H) : Prop :=
  ∀ (H : Heap) (locs : List Loc) (cells slots : Nat) (ls : Array Slot) (pc : Nat), ex_Hs D ca b b0 n0 z0 s H locs cells slots h' →
    (∀ x, r = some (.int x) → decode M.2.2.1 pc = .ok (.ireturn, 1) → (M.2.2.2.2.1 = some .int ∨ (M.2.2.2.2.1 = some .boolean ∧ (x = 0 ∨ x = 1))) → W p l e R s m args below meth c H locs cells slots Q (F0 m pc ls [.int x])) ∧
    (r = none → decode M.2.2.1 pc = .ok (.return_, 1) → M.2.2.2.2.1 = none → W p l e R s m args below meth c H locs cells slots Q (F0 m pc ls []))
end EXZ
/-- a method's contract out of its walk -/
theorem ex_met {P : Nat → ex_M} {nw : List Cond} {M : ex_M} {inst : Bool} {l : Launch} {D : va_G} {ca : Nat → ClassId} {b b0 Lx : Nat} {xs : Nat → Int32} {as : List Value} {h h' : ex_H} {r : Option Value} {d mc ms : Nat} (hM : ex_okM M inst) (he : ex_eok M as = true) (h0 : h[0]? = some (.inl (0, Lx, xs))) (hb : b ≤ b0) (hmc : h.length + mc = h'.length) (hms : ex_hs h + ms = ex_hs h')
    (walk : ∀ (p : Program) (e : Env) (R : Room) (s : State) (m : MethodId) (args : Array Value) (below : List Frame) (meth : Method) (c : Code) (H : Heap) (locs : List Loc) (cells slots : Nat) (Q : State → Prop) (ls : Array Slot) (n0 z0 : Nat), ex_Cx p s m args meth c D ca b b0 Lx xs nw M → ex_Hs D ca b b0 n0 z0 s H locs cells slots h → ex_Ls (ex_g b b0) M.2.2.2.1 M.2.2.2.2.2.2.1 ls (ex_en M as) → d ≤ R.frames ∧ 40 * d ≤ R.locals → h'.length ≤ R.cells + n0 ∧ ex_hs h' ≤ R.slots + z0 → ex_End p l e R s m args below meth c Q D ca b b0 n0 z0 M r h' → W p l e R s m args below meth c H locs cells slots Q (F0 m 0 ls [])) :
    Met l M.2.1 (ex_ws M) (ex_rm d mc ms) (ex_Pc D ca b b0 Lx xs nw as h) (ex_Qc D ca b b0 r h') mc ms (fun q => b0 < q) := by
  refine Met.ofW (cc := M.2.2.1) (maxL := M.2.2.2.1) (ret := M.2.2.2.2.1) hM.1 rfl ?_
  intro p e s m args below meth c s₁ B hml hv
  obtain ⟨rfl, q2, q3, q4, q5, q6, q7⟩ := hv
  have hx := B.exec
  have hbt := B.bytes
  have hr := B.returns
  have hts := atoms_spec (ws := ex_ws M) B.pre
  have hown : s.vm.findClass M.1 = some m.cls := hM.2.1 ▸ findClass_of_methodNamed B.named
  have hlocks := B.notSynchronized
  have hin : meth.name = M.2.1.name := (name_of_methodNamed B.named B.method).1
  have hl1 : 1 ≤ h.length := by have := (List.getElem?_eq_some_iff.mp h0).1; omega
  rw [lg_entry_eq]
  refine walk p e _ s m _ below meth c s.heap [] 0 0 _ _ h.length (ex_hs h) ⟨hx, hbt, hml, hown, fun w hw => hts w (List.mem_cons_of_mem _ hw), fun q => hin.trans q, q4, q5, q6, q7, hb, by omega⟩ ⟨q2, va_S.rf, q3, hl1, by omega, by omega⟩ (ex_en_ok (ex_g b b0) he) ⟨Nat.le_refl _, Nat.le_refl _⟩ ⟨by show h'.length ≤ mc + h.length; omega, by show ex_hs h' ≤ ms + ex_hs h; omega⟩ ?_
  intro H locs cells slots ls pc hH
  have hk : cells ≤ mc := by have := hH.2.2.2.2.1; omega
  have hs : slots ≤ ms := by have := hH.2.2.2.2.2; omega
  refine ⟨fun x hxr hd hret => ?_, fun hrn hd hret => ?_⟩
  · refine W.widen hk hs ?_
    refine W.zret (ty := if M.2.2.2.2.1 = some .int then .int else .boolean) hx hbt ?_ ?_ (fun t ht hW => ⟨by rw [hxr]; rfl, by rw [ht]; exact hH.1, hH.2.1.F ht⟩) hH.2.1.2.2 hd
    · rw [hr]
      rcases hret with h1 | ⟨h1, h2⟩ <;> rw [h1] <;> rfl
    · rcases hret with h1 | ⟨h1, h2 | h2⟩ <;> rw [h1] <;> first | rfl | (rw [h2]; rfl)
  · refine W.widen hk hs ?_
    exact W.vret hx hbt (by rw [hr]; exact hret) (fun t ht hW => ⟨by rw [hrn]; rfl, by rw [ht]; exact hH.1, hH.2.1.F ht⟩) hH.2.1.2.2 hd
set_option maxHeartbeats 1000000 in
theorem ex_main {P : Nat → ex_M} {nw : List Cond} (hP : ex_ok P nw) (l : Launch) (D : va_G) (ca : Nat → ClassId) (b b0 Lx : Nat) (xs : Nat → Int32) (hb0 : b ≤ b0) : ∀ (n d k pc : Nat) (L : ex_L) (st : List Value) (h : ex_H) (r : Option Value) (h' : ex_H), ex_run P n d k pc L st h = some (r, h') → h[0]? = some (.inl (0, Lx, xs)) →
    ∀ (p : Program) (e : Env) (R : Room) (s : State) (m : MethodId) (args : Array Value) (below : List Frame) (meth : Method) (c : Code) (H : Heap) (locs : List Loc) (cells slots : Nat) (Q : State → Prop) (ls : Array Slot) (n0 z0 : Nat), ex_Cx p s m args meth c D ca b b0 Lx xs nw (P k) → ex_Hs D ca b b0 n0 z0 s H locs cells slots h → ex_Ls (ex_g b b0) (P k).2.2.2.1 (P k).2.2.2.2.2.2.1 ls L → d ≤ R.frames ∧ 40 * d ≤ R.locals → h'.length ≤ R.cells + n0 ∧ ex_hs h' ≤ R.slots + z0 → ex_End p l e R s m args below meth c Q D ca b b0 n0 z0 (P k) r h' → W p l e R s m args below meth c H locs cells slots Q (F0 m pc ls (st.map (ex_v (ex_g b b0)))) := by
  obtain ⟨hE, hG, hnw⟩ := hP
  intro n
  induction n with
  | zero => intro d k pc L st h r h' hs; cases hs
  | succ n ih =>
    intro d k pc L st h r h' hs h0 p e R s m args below meth c H locs cells slots Q ls n0 z0 C hH hL hr hc hend
    have hl1 : 1 ≤ h.length := by have := (List.getElem?_eq_some_iff.mp h0).1; omega
    unfold ex_run at hs
    split at hs
    · cases hs
    · rename_i pc' L' st' h1 hst
      have hge := ex_step_ge hst
      have hge2 := ex_run_ge _ _ _ _ _ _ _ _ _ hs
      have h01 : h1[0]? = some (.inl (0, Lx, xs)) := (hge.2.2 hl1).trans h0
      have ih1 := ih d k pc' L' st' h1 r h' hs h01 p e R s m args below meth c
      unfold ex_step at hst
      split at hst
      · cases hst
      · rename_i E hcode
        have hok := hE k pc E hcode
        split at hst
        · rename_i st1 hop
          cases hst
          exact ex_op_ok C.1 C.2.1 C.2.2.2.1 hop (hok.1.plain (ex_op_sw hop)) (fun w hw => C.2.2.2.2.1 w (hok.2.2.1 w hw)) (ih1 H locs cells slots Q ls n0 z0 C hH hL hr hc hend)
        · split at hst
          · rename_i L1 st1 hlo
            cases hst
            exact ex_lo_ok C.1 C.2.1 hlo (hok.1.plain (ex_lo_sw hlo)) hL (fun ls' hL' => ih1 H locs cells slots Q ls' n0 z0 C hH hL' hr hc hend)
          · split at hst
            · rename_i pc1 st1 hgo
              cases hst
              exact ex_go_ok C.1 C.2.1 hgo hok.1 hok.2.1 (ih1 H locs cells slots Q ls n0 z0 C hH hL hr hc hend)
            · split at hst
              · rename_i st1 h2 hhp
                cases hst
                exact ex_hp_ok hG C hL.1 h0 hH hok hhp hr ⟨Nat.le_trans hge2.1 hc.1, Nat.le_trans hge2.2.1 hc.2⟩ (fun H' locs' cells' slots' hH' => ih1 H' locs' cells' slots' Q ls n0 z0 C hH' hL hr hc hend)
              · split at hst
                · cases hst
                · split at hst <;> cases hst
    · rename_i v hst
      cases hs
      unfold ex_step at hst
      split at hst
      · cases hst
      · rename_i E hcode
        have hok := hE k pc E hcode
        split at hst
        · cases hst
        · split at hst
          · cases hst
          · split at hst
            · cases hst
            · split at hst
              · cases hst
              · split at hst
                · rename_i w hrt
                  cases hst
                  obtain ⟨I, a, b', v0⟩ := E
                  unfold ex_rt at hrt
                  dsimp only at hrt hok
                  obtain ⟨o1, -⟩ := hok
                  dsimp only at o1
                  split at hrt
                  · split at hrt
                    · rename_i hret
                      cases hrt
                      exact (hend H locs cells slots ls pc hH).1 _ rfl (o1.plain rfl) hret
                    · cases hrt
                  · split at hrt
                    · rename_i hret
                      cases hrt
                      exact (hend H locs cells slots ls pc hH).2 rfl (o1.plain rfl) hret
                    · cases hrt
                  · cases hrt
                · split at hst <;> cases hst
    · rename_i k' as pc' st1 hst
      split at hs
      · cases hs
      · rename_i d'
        split at hs
        · cases hs
        · rename_i v h1 hrun
          have hge1 := ex_run_ge _ _ _ _ _ _ _ _ _ hrun
          have hge2 := ex_run_ge _ _ _ _ _ _ _ _ _ hs
          have h01 : h1[0]? = some (.inl (0, Lx, xs)) := (hge1.2.2 hl1).trans h0
          have ihc := ih d' k' 0 (ex_en (P k') as) [] h v h1 hrun h0
          have ih1 := ih (d' + 1) k pc' L (v.toList ++ st1) h1 r h' hs h01 p e R s m args below meth c
          unfold ex_step at hst
          split at hst
          · cases hst
          · rename_i E hcode
            have hok := hE k pc E hcode
            split at hst
            · cases hst
            · split at hst
              · cases hst
              · split at hst
                · cases hst
                · split at hst
                  · cases hst
                  · split at hst
                    · cases hst
                    · split at hst
                      · rename_i k2 as2 st2 hcl
                        cases hst
                        have hm1 : h.length + (h1.length - h.length) = h1.length := by have := hge1.1; omega
                        have hm2 : ex_hs h + (ex_hs h1 - ex_hs h) = ex_hs h1 := by have := hge1.2.1; omega
                        have hf : cells + (h1.length - h.length) ≤ R.cells ∧ slots + (ex_hs h1 - ex_hs h) ≤ R.slots := by
                          have := hge1.1; have := hge1.2.1; have := hge2.1; have := hge2.2.1; have := hH.2.2.2.2.1; have := hH.2.2.2.2.2; have := hc.1; have := hc.2
                          omega
                        have kk : ∀ (H1 : Heap) (locs1 : List Loc), va_P D vwCl (ex_w (ex_g b b0) ca h1) H1 → va_S (fun q => b0 < q) s.heap H1 locs1 → W p l e R s m args below meth c H1 locs1 (cells + (h1.length - h.length)) (slots + (ex_hs h1 - ex_hs h)) Q (F0 m (pc + 3) ls ((v.map (ex_v (ex_g b b0))).toList ++ st1.map (ex_v (ex_g b b0)))) := by
                          intro H1 locs1 hP1 hS1
                          have hH1 : ex_Hs D ca b b0 n0 z0 s H1 locs1 (cells + (h1.length - h.length)) (slots + (ex_hs h1 - ex_hs h)) h1 := by
                            have := hH.2.2.2.2.1; have := hH.2.2.2.2.2
                            exact ⟨hP1, hS1, hH.2.2.1, hH.2.2.2.1, by omega, by omega⟩
                          have h9 := ih1 H1 locs1 _ _ Q ls n0 z0 C hH1 hL hr hc hend
                          have e9 : (v.toList ++ st1).map (ex_v (ex_g b b0)) = (v.map (ex_v (ex_g b b0))).toList ++ st1.map (ex_v (ex_g b b0)) := by
                            rw [List.map_append]
                            cases v <;> rfl
                          rw [e9] at h9
                          exact h9
                        obtain ⟨I, a, b', v0⟩ := E
                        obtain ⟨od, -, -, ow⟩ := hok
                        unfold ex_cl at hcl
                        dsimp only at hcl od ow
                        split at hcl
                        · cases hcl
                        · rename_i hg
                          have hg1 : (P a).2.2.2.2.2.1 ≤ st.length := Nat.not_lt.mp fun q => hg (Or.inl q)
                          have hg2 : ((st.drop (P a).2.2.2.2.2.1).map fun v => v.category).sum ≤ 8 := Decidable.byContradiction fun q => hg (Or.inr (Or.inl q))
                          have hg3 : ex_eok (P a) (st.take (P a).2.2.2.2.2.1).reverse = true := Bool.of_not_eq_false fun q => hg (Or.inr (Or.inr q))
                          have hst2 : st = (st.take (P a).2.2.2.2.2.1).reverse.reverse ++ st.drop (P a).2.2.2.2.2.1 := by rw [List.reverse_reverse, List.take_append_drop]
                          have hlen : ((st.take (P a).2.2.2.2.2.1).reverse).length = (P a).2.2.2.2.2.1 := by rw [List.length_reverse, List.length_take]; omega
                          split at hcl
                          · rename_i i
                            split at hcl
                            · rename_i hk
                              cases hcl
                              obtain ⟨hk1, hk2⟩ := hk
                              unfold ex_rcv at hk2
                              split at hk2
                              · rename_i c0 as0 has
                                split at hk2
                                · rename_i ci fs hcell
                                  obtain ⟨hk3, hk4⟩ := Bool.and_eq_true_iff.mp hk2
                                  have hk3 := of_decide_eq_true hk3
                                  have hk4 : (ci : Int) = v0 := of_decide_eq_true hk4
                                  obtain ⟨w1, w2, ⟨cj, w3, w4, w5⟩, w6⟩ := ow
                                  have hcj : ci = cj := by omega
                                  subst hcj
                                  have hmet := ex_met (nw := nw) (P := P) (l := l) (D := D) (ca := ca) (xs := xs) w1 hg3 h0 hb0 hm1 hm2 (fun p e R s m args below meth c H locs cells slots Q ls n0 z0 => ihc p e R s m args below meth c H locs cells slots Q ls n0 z0)
                                  rw [has] at hmet hst2 hlen
                                  exact ex_callV (r := v) w1 w2 C hnw hH hL.1 hmet w6 hk3 hcell ⟨w4, w5⟩ hlen (by rw [List.reverse_cons, List.append_assoc] at hst2; exact hst2) hg2 (od.plain rfl) hr hf kk
                                · cases hk2
                              · cases hk2
                            · cases hcl
                          · rename_i i
                            split at hcl
                            · rename_i hk
                              cases hcl
                              dsimp only at ow
                              rw [if_neg (by omega)] at ow
                              have hmet := ex_met (nw := nw) (P := P) (l := l) (D := D) (ca := ca) (xs := xs) ow.1 hg3 h0 hb0 hm1 hm2 (fun p e R s m args below meth c H locs cells slots Q ls n0 z0 => ihc p e R s m args below meth c H locs cells slots Q ls n0 z0)
                              exact ex_callS (r := v) ow.1 C hnw hH hL.1 hmet ow.2 hlen hst2 hg2 (od.plain rfl) hr hf kk
                            · cases hcl
                          · rename_i i
                            split at hcl
                            · rename_i c0 as0 has
                              split at hcl
                              · rename_i hk
                                cases hcl
                                dsimp only at ow
                                rw [if_neg (by omega)] at ow
                                have hmet := ex_met (nw := nw) (P := P) (l := l) (D := D) (ca := ca) (xs := xs) ow.1 hg3 h0 hb0 hm1 hm2 (fun p e R s m args below meth c H locs cells slots Q ls n0 z0 => ihc p e R s m args below meth c H locs cells slots Q ls n0 z0)
                                rw [has] at hmet hst2 hlen
                                exact ex_callI (r := v) ow.1 ow.2.1 C hnw hH hL.1 hmet ow.2.2 hlen (by rw [List.reverse_cons, List.append_assoc] at hst2; exact hst2) hg2 (od.plain rfl) hr hf kk
                              · cases hcl
                            · cases hcl
                          · cases hcl
                      · cases hst
end
