section SL
variable {d : Nat} {L : ex_L} {st : List Value} {h : ex_H} {Q : Option Value → ex_H → Prop} {lx : Nat} {xs : Nat → Int32} {M : Nat → Nat → Int32} {x y : Int32} {u w : Int64} {r r2 : Nat} {o0 o1 o2 o3 o4 o5 o6 o7 o8 o9 o10 o11 : Option Value}
theorem s_151_0 : Go d 151 0 [o0, some (.int x), o2, o3] (st) h Q = Go d 151 1 [o0, some (.int x), o2, o3] (.int x :: st) h Q := go_lo (E := (.iload_n 1, 0, 0, 0)) rfl rfl rfl
theorem s_151_1 : Go d 151 1 [o0, o1, some (.int x), o3] (st) h Q = Go d 151 2 [o0, o1, some (.int x), o3] (.int x :: st) h Q := go_lo (E := (.iload_n 2, 0, 0, 0)) rfl rfl rfl
theorem s_151_2 : Go d 151 2 L (.int y :: .int x :: st) h Q = (if x = y then Go d 151 54 L st h Q else Go d 151 5 L st h Q) := go_iceq rfl
theorem s_151_5 : Go d 151 5 [some (.ref r), o1, o2, o3] (st) h Q = Go d 151 6 [some (.ref r), o1, o2, o3] (.ref r :: st) h Q := go_lo (E := (.aload_n 0, 0, 0, 0)) rfl rfl rfl
theorem s_151_6 : Go d 151 6 L (.ref 53 :: st) (HP lx xs M) Q = Go d 151 9 L (.ref 55 :: st) (HP lx xs M) Q := go_gf rfl rfl (by decide) rfl
theorem s_151_9 : Go d 151 9 [o0, some (.int x), o2, o3] (st) h Q = Go d 151 10 [o0, some (.int x), o2, o3] (.int x :: st) h Q := go_lo (E := (.iload_n 1, 0, 0, 0)) rfl rfl rfl
theorem s_151_10 : Go d 151 10 L (.int x :: .ref 55 :: st) (HP lx xs M) Q = (ex_in x 6 = true ∧ Go d 151 11 L (.int (M 55 x.toNatClampNeg) :: st) (HP lx xs M) Q) := go_al rfl rfl
theorem s_151_11 : Go d 151 11 [o0, o1, some (.int x), o3] (st) h Q = Go d 151 12 [o0, o1, some (.int x), o3] (.int x :: st) h Q := go_lo (E := (.iload_n 2, 0, 0, 0)) rfl rfl rfl
theorem s_151_12 {a0 : Int32} {a1 : Int32} : Go (d + 1) 151 12 L [.int a1, .int a0] h Q = Go d 115 0 [some (.int a0), some (.int a1)] [] h (fun v h2 => Go (d + 1) 151 15 L (ap v []) h2 Q) := go_cx (E := (.invokestatic 107, 115, 0, 0)) (k' := 115) (as := [.int a0, .int a1]) rfl rfl rfl rfl rfl rfl rfl rfl
theorem s_151_15 : Go d 151 15 L (.int x :: st) h Q = (if x = 0 then Go d 151 54 L st h Q else Go d 151 18 L st h Q) := go_ifeq rfl
theorem s_151_18 : Go d 151 18 [some (.ref r), o1, o2, o3] (st) h Q = Go d 151 19 [some (.ref r), o1, o2, o3] (.ref r :: st) h Q := go_lo (E := (.aload_n 0, 0, 0, 0)) rfl rfl rfl
theorem s_151_19 : Go d 151 19 L (.ref 53 :: st) (HP lx xs M) Q = Go d 151 22 L (.ref 56 :: st) (HP lx xs M) Q := go_gf rfl rfl (by decide) rfl
theorem s_151_22 : Go d 151 22 L (st) h Q = Go d 151 23 L (.int (nI 4) :: st) h Q := go_ic rfl ci_i4
theorem s_151_23 : Go d 151 23 [o0, some (.int x), o2, o3] (st) h Q = Go d 151 24 [o0, some (.int x), o2, o3] (.int x :: st) h Q := go_lo (E := (.iload_n 1, 0, 0, 0)) rfl rfl rfl
theorem s_151_24 : Go d 151 24 L (.int y :: .int x :: st) h Q = Go d 151 25 L (.int (x * y) :: st) h Q := go_op (E := (.imul, 0, 0, 0)) rfl rfl
theorem s_151_25 : Go d 151 25 [o0, o1, o2, some (.int x)] (st) h Q = Go d 151 26 [o0, o1, o2, some (.int x)] (.int x :: st) h Q := go_lo (E := (.iload_n 3, 0, 0, 0)) rfl rfl rfl
theorem s_151_26 : Go d 151 26 L (.int y :: .int x :: st) h Q = Go d 151 27 L (.int (x + y) :: st) h Q := go_op (E := (.iadd, 0, 0, 0)) rfl rfl
theorem s_151_27 : Go d 151 27 L (.int x :: .ref 56 :: st) (HP lx xs M) Q = (ex_in x 24 = true ∧ Go d 151 28 L (.int (M 56 x.toNatClampNeg) :: st) (HP lx xs M) Q) := go_al rfl rfl
theorem s_151_28 : Go d 151 28 [some (.ref r), o1, o2, o3] (st) h Q = Go d 151 29 [some (.ref r), o1, o2, o3] (.ref r :: st) h Q := go_lo (E := (.aload_n 0, 0, 0, 0)) rfl rfl rfl
theorem s_151_29 : Go d 151 29 L (.ref 53 :: st) (HP lx xs M) Q = Go d 151 32 L (.ref 54 :: st) (HP lx xs M) Q := go_gf rfl rfl (by decide) rfl
theorem s_151_32 : Go d 151 32 [o0, o1, some (.int x), o3] (st) h Q = Go d 151 33 [o0, o1, some (.int x), o3] (.int x :: st) h Q := go_lo (E := (.iload_n 2, 0, 0, 0)) rfl rfl rfl
theorem s_151_33 : Go d 151 33 L (.int x :: .ref 54 :: st) (HP lx xs M) Q = (ex_in x 6 = true ∧ Go d 151 34 L (.int (M 54 x.toNatClampNeg) :: st) (HP lx xs M) Q) := go_al rfl rfl
theorem s_151_34 : Go d 151 34 [some (.ref r), o1, o2, o3] (st) h Q = Go d 151 35 [some (.ref r), o1, o2, o3] (.ref r :: st) h Q := go_lo (E := (.aload_n 0, 0, 0, 0)) rfl rfl rfl
theorem s_151_35 : Go d 151 35 L (.ref 53 :: st) (HP lx xs M) Q = Go d 151 38 L (.ref 56 :: st) (HP lx xs M) Q := go_gf rfl rfl (by decide) rfl
theorem s_151_38 : Go d 151 38 L (st) h Q = Go d 151 39 L (.int (nI 4) :: st) h Q := go_ic rfl ci_i4
theorem s_151_39 : Go d 151 39 [o0, o1, some (.int x), o3] (st) h Q = Go d 151 40 [o0, o1, some (.int x), o3] (.int x :: st) h Q := go_lo (E := (.iload_n 2, 0, 0, 0)) rfl rfl rfl
theorem s_151_40 : Go d 151 40 L (.int y :: .int x :: st) h Q = Go d 151 41 L (.int (x * y) :: st) h Q := go_op (E := (.imul, 0, 0, 0)) rfl rfl
theorem s_151_41 : Go d 151 41 [o0, o1, o2, some (.int x)] (st) h Q = Go d 151 42 [o0, o1, o2, some (.int x)] (.int x :: st) h Q := go_lo (E := (.iload_n 3, 0, 0, 0)) rfl rfl rfl
theorem s_151_42 : Go d 151 42 L (.int y :: .int x :: st) h Q = Go d 151 43 L (.int (x + y) :: st) h Q := go_op (E := (.iadd, 0, 0, 0)) rfl rfl
theorem s_151_43 : Go d 151 43 L (.int x :: .ref 56 :: st) (HP lx xs M) Q = (ex_in x 24 = true ∧ Go d 151 44 L (.int (M 56 x.toNatClampNeg) :: st) (HP lx xs M) Q) := go_al rfl rfl
theorem s_151_44 {a0 : Int32} {a1 : Int32} {z0 : Int32} : Go (d + 1) 151 44 L [.int a1, .int a0, .int z0] h Q = Go d 126 0 [some (.int a0), some (.int a1), none] [] h (fun v h2 => Go (d + 1) 151 47 L (ap v [.int z0]) h2 Q) := go_cx (E := (.invokestatic 120, 126, 0, 0)) (k' := 126) (as := [.int a0, .int a1]) rfl rfl rfl rfl rfl rfl rfl rfl
theorem s_151_47 : Go d 151 47 L (.int y :: .int x :: st) h Q = (if x = y then Go d 151 50 L st h Q else Go d 151 54 L st h Q) := go_icne rfl
theorem s_151_50 : Go d 151 50 L (st) h Q = Go d 151 51 L (.int (nI 1) :: st) h Q := go_ic rfl ci_i1
theorem s_151_51 : Go d 151 51 L (st) h Q = Go d 151 55 L (st) h Q := go_goto rfl
theorem s_151_54 : Go d 151 54 L (st) h Q = Go d 151 55 L (.int (nI 0) :: st) h Q := go_ic rfl ci_i0
theorem s_151_55_0 : Go d 151 55 L [.int (nI 0)] h Q = Q (some (.int (nI 0))) h := go_rz rfl rfl (by decide)
theorem s_151_55_1 : Go d 151 55 L [.int (nI 1)] h Q = Q (some (.int (nI 1))) h := go_rz rfl rfl (by decide)
theorem s_152_0 : Go d 152 0 L (st) h Q = Go d 152 1 L (.int (nI 0) :: st) h Q := go_ic rfl ci_i0
theorem s_152_1 : Go d 152 1 [o0, o1, o2, o3, o4, o5, o6] (.int x :: st) h Q = Go d 152 2 [o0, o1, some (.int x), o3, o4, o5, o6] (st) h Q := go_lo (E := (.istore_n 2, 0, 0, 0)) rfl rfl rfl
theorem s_152_2 : Go d 152 2 L (st) h Q = Go d 152 3 L (.int (nI 1) :: st) h Q := go_ic rfl ci_i1
theorem s_152_3 : Go d 152 3 [o0, o1, o2, o3, o4, o5, o6] (.int x :: st) h Q = Go d 152 4 [o0, o1, o2, some (.int x), o4, o5, o6] (st) h Q := go_lo (E := (.istore_n 3, 0, 0, 0)) rfl rfl rfl
theorem s_152_4 : Go d 152 4 L (st) h Q = Go d 152 5 L (.int (nI 0) :: st) h Q := go_ic rfl ci_i0
theorem s_152_5 : Go d 152 5 [o0, o1, o2, o3, o4, o5, o6] (.int x :: st) h Q = Go d 152 7 [o0, o1, o2, o3, some (.int x), o5, o6] (st) h Q := go_lo (E := (.istore 4, 0, 0, 0)) rfl rfl rfl
theorem s_152_7 : Go d 152 7 [o0, o1, o2, o3, some (.int x), o5, o6] (st) h Q = Go d 152 9 [o0, o1, o2, o3, some (.int x), o5, o6] (.int x :: st) h Q := go_lo (E := (.iload 4, 0, 0, 0)) rfl rfl rfl
theorem s_152_9 : Go d 152 9 [some (.ref r), o1, o2, o3, o4, o5, o6] (st) h Q = Go d 152 10 [some (.ref r), o1, o2, o3, o4, o5, o6] (.ref r :: st) h Q := go_lo (E := (.aload_n 0, 0, 0, 0)) rfl rfl rfl
theorem s_152_10 : Go d 152 10 L (.ref 53 :: st) (HP lx xs M) Q = Go d 152 13 L (.int (M 53 24) :: st) (HP lx xs M) Q := go_gf rfl rfl (by decide) rfl
theorem s_152_13 : Go d 152 13 L (.int y :: .int x :: st) h Q = (if x < y then Go d 152 16 L st h Q else Go d 152 100 L st h Q) := go_icge rfl
theorem s_152_16 : Go d 152 16 [o0, o1, o2, some (.int x), o4, o5, o6] (st) h Q = Go d 152 17 [o0, o1, o2, some (.int x), o4, o5, o6] (.int x :: st) h Q := go_lo (E := (.iload_n 3, 0, 0, 0)) rfl rfl rfl
theorem s_152_17 : Go d 152 17 L (.int x :: st) h Q = (if x = 0 then Go d 152 100 L st h Q else Go d 152 20 L st h Q) := go_ifeq rfl
theorem s_152_20 : Go d 152 20 [o0, o1, some (.int x), o3, o4, o5, o6] (st) h Q = Go d 152 21 [o0, o1, some (.int x), o3, o4, o5, o6] (.int x :: st) h Q := go_lo (E := (.iload_n 2, 0, 0, 0)) rfl rfl rfl
theorem s_152_21 : Go d 152 21 [some (.ref r), o1, o2, o3, o4, o5, o6] (st) h Q = Go d 152 22 [some (.ref r), o1, o2, o3, o4, o5, o6] (.ref r :: st) h Q := go_lo (E := (.aload_n 0, 0, 0, 0)) rfl rfl rfl
theorem s_152_22 : Go d 152 22 L (.ref 53 :: st) (HP lx xs M) Q = Go d 152 25 L (.ref 68 :: st) (HP lx xs M) Q := go_gf rfl rfl (by decide) rfl
theorem s_152_25 : Go d 152 25 [o0, o1, o2, o3, some (.int x), o5, o6] (st) h Q = Go d 152 27 [o0, o1, o2, o3, some (.int x), o5, o6] (.int x :: st) h Q := go_lo (E := (.iload 4, 0, 0, 0)) rfl rfl rfl
theorem s_152_27 : Go d 152 27 L (.int x :: .ref 68 :: st) (HP lx xs M) Q = (ex_in x 6 = true ∧ Go d 152 28 L (.int (M 68 x.toNatClampNeg) :: st) (HP lx xs M) Q) := go_al rfl rfl
theorem s_152_28 : Go d 152 28 [some (.ref r), o1, o2, o3, o4, o5, o6] (st) h Q = Go d 152 29 [some (.ref r), o1, o2, o3, o4, o5, o6] (.ref r :: st) h Q := go_lo (E := (.aload_n 0, 0, 0, 0)) rfl rfl rfl
theorem s_152_29 : Go d 152 29 L (.ref 53 :: st) (HP lx xs M) Q = Go d 152 32 L (.int (M 53 24) :: st) (HP lx xs M) Q := go_gf rfl rfl (by decide) rfl
theorem s_152_32 : Go d 152 32 L (.int y :: .int x :: st) h Q = (if x = y then Go d 152 35 L st h Q else Go d 152 39 L st h Q) := go_icne rfl
theorem s_152_35 : Go d 152 35 L (st) h Q = Go d 152 36 L (.int (nI 1) :: st) h Q := go_ic rfl ci_i1
theorem s_152_36 : Go d 152 36 L (st) h Q = Go d 152 40 L (st) h Q := go_goto rfl
theorem s_152_39 : Go d 152 39 L (st) h Q = Go d 152 40 L (.int (nI 0) :: st) h Q := go_ic rfl ci_i0
theorem s_152_40 : Go d 152 40 L (.int y :: .int x :: st) h Q = Go d 152 41 L (.int (x + y) :: st) h Q := go_op (E := (.iadd, 0, 0, 0)) rfl rfl
theorem s_152_41 : Go d 152 41 [o0, o1, o2, o3, o4, o5, o6] (.int x :: st) h Q = Go d 152 42 [o0, o1, some (.int x), o3, o4, o5, o6] (st) h Q := go_lo (E := (.istore_n 2, 0, 0, 0)) rfl rfl rfl
theorem s_152_42 : Go d 152 42 [o0, o1, some (.int x), o3, o4, o5, o6] (st) h Q = Go d 152 43 [o0, o1, some (.int x), o3, o4, o5, o6] (.int x :: st) h Q := go_lo (E := (.iload_n 2, 0, 0, 0)) rfl rfl rfl
theorem s_152_43 : Go d 152 43 L (st) h Q = Go d 152 44 L (.int (nI 2) :: st) h Q := go_ic rfl ci_i2
theorem s_152_44 : Go d 152 44 L (.int y :: .int x :: st) h Q = (if x < y then Go d 152 47 L st h Q else Go d 152 92 L st h Q) := go_icge rfl
theorem s_152_47 : Go d 152 47 [some (.ref r), o1, o2, o3, o4, o5, o6] (st) h Q = Go d 152 48 [some (.ref r), o1, o2, o3, o4, o5, o6] (.ref r :: st) h Q := go_lo (E := (.aload_n 0, 0, 0, 0)) rfl rfl rfl
theorem s_152_48 : Go d 152 48 L (.ref 53 :: st) (HP lx xs M) Q = Go d 152 51 L (.ref 68 :: st) (HP lx xs M) Q := go_gf rfl rfl (by decide) rfl
theorem s_152_51 : Go d 152 51 [o0, o1, o2, o3, some (.int x), o5, o6] (st) h Q = Go d 152 53 [o0, o1, o2, o3, some (.int x), o5, o6] (.int x :: st) h Q := go_lo (E := (.iload 4, 0, 0, 0)) rfl rfl rfl
theorem s_152_53 : Go d 152 53 L (.int x :: .ref 68 :: st) (HP lx xs M) Q = (ex_in x 6 = true ∧ Go d 152 54 L (.int (M 68 x.toNatClampNeg) :: st) (HP lx xs M) Q) := go_al rfl rfl
theorem s_152_54 : Go d 152 54 [some (.ref r), o1, o2, o3, o4, o5, o6] (st) h Q = Go d 152 55 [some (.ref r), o1, o2, o3, o4, o5, o6] (.ref r :: st) h Q := go_lo (E := (.aload_n 0, 0, 0, 0)) rfl rfl rfl
theorem s_152_55 : Go d 152 55 L (.ref 53 :: st) (HP lx xs M) Q = Go d 152 58 L (.int (M 53 24) :: st) (HP lx xs M) Q := go_gf rfl rfl (by decide) rfl
theorem s_152_58 : Go d 152 58 L (.int y :: .int x :: st) h Q = (if x = y then Go d 152 88 L st h Q else Go d 152 61 L st h Q) := go_iceq rfl
theorem s_152_61 : Go d 152 61 [some (.ref r), o1, o2, o3, o4, o5, o6] (st) h Q = Go d 152 62 [some (.ref r), o1, o2, o3, o4, o5, o6] (.ref r :: st) h Q := go_lo (E := (.aload_n 0, 0, 0, 0)) rfl rfl rfl
theorem s_152_62 : Go d 152 62 [some (.ref r), o1, o2, o3, o4, o5, o6] (st) h Q = Go d 152 63 [some (.ref r), o1, o2, o3, o4, o5, o6] (.ref r :: st) h Q := go_lo (E := (.aload_n 0, 0, 0, 0)) rfl rfl rfl
theorem s_152_63 : Go d 152 63 L (.ref 53 :: st) (HP lx xs M) Q = Go d 152 66 L (.ref 69 :: st) (HP lx xs M) Q := go_gf rfl rfl (by decide) rfl
theorem s_152_66 : Go d 152 66 [o0, o1, o2, o3, some (.int x), o5, o6] (st) h Q = Go d 152 68 [o0, o1, o2, o3, some (.int x), o5, o6] (.int x :: st) h Q := go_lo (E := (.iload 4, 0, 0, 0)) rfl rfl rfl
theorem s_152_68 : Go d 152 68 L (.int x :: .ref 69 :: st) (HP lx xs M) Q = (ex_in x 6 = true ∧ Go d 152 69 L (.int (M 69 x.toNatClampNeg) :: st) (HP lx xs M) Q) := go_al rfl rfl
theorem s_152_69 : Go d 152 69 [some (.ref r), o1, o2, o3, o4, o5, o6] (st) h Q = Go d 152 70 [some (.ref r), o1, o2, o3, o4, o5, o6] (.ref r :: st) h Q := go_lo (E := (.aload_n 0, 0, 0, 0)) rfl rfl rfl
theorem s_152_70 : Go d 152 70 L (.ref 53 :: st) (HP lx xs M) Q = Go d 152 73 L (.ref 69 :: st) (HP lx xs M) Q := go_gf rfl rfl (by decide) rfl
theorem s_152_73 : Go d 152 73 [some (.ref r), o1, o2, o3, o4, o5, o6] (st) h Q = Go d 152 74 [some (.ref r), o1, o2, o3, o4, o5, o6] (.ref r :: st) h Q := go_lo (E := (.aload_n 0, 0, 0, 0)) rfl rfl rfl
theorem s_152_74 : Go d 152 74 L (.ref 53 :: st) (HP lx xs M) Q = Go d 152 77 L (.ref 68 :: st) (HP lx xs M) Q := go_gf rfl rfl (by decide) rfl
theorem s_152_77 : Go d 152 77 [o0, o1, o2, o3, some (.int x), o5, o6] (st) h Q = Go d 152 79 [o0, o1, o2, o3, some (.int x), o5, o6] (.int x :: st) h Q := go_lo (E := (.iload 4, 0, 0, 0)) rfl rfl rfl
theorem s_152_79 : Go d 152 79 L (.int x :: .ref 68 :: st) (HP lx xs M) Q = (ex_in x 6 = true ∧ Go d 152 80 L (.int (M 68 x.toNatClampNeg) :: st) (HP lx xs M) Q) := go_al rfl rfl
theorem s_152_80 : Go d 152 80 L (.int x :: .ref 69 :: st) (HP lx xs M) Q = (ex_in x 6 = true ∧ Go d 152 81 L (.int (M 69 x.toNatClampNeg) :: st) (HP lx xs M) Q) := go_al rfl rfl
theorem s_152_81 : Go d 152 81 [o0, some (.int x), o2, o3, o4, o5, o6] (st) h Q = Go d 152 82 [o0, some (.int x), o2, o3, o4, o5, o6] (.int x :: st) h Q := go_lo (E := (.iload_n 1, 0, 0, 0)) rfl rfl rfl
theorem s_152_82 {a1 : Int32} {a2 : Int32} {a3 : Int32} : Go (d + 1) 152 82 L [.int a3, .int a2, .int a1, .ref 53] (HP lx xs M) Q = Go d 151 0 [some (.ref 53), some (.int a1), some (.int a2), some (.int a3)] [] (HP lx xs M) (fun v h2 => Go (d + 1) 152 85 L (ap v []) h2 Q) := go_cx (E := (.invokevirtual 199, 151, 0, 7)) (k' := 151) (as := [.ref 53, .int a1, .int a2, .int a3]) rfl rfl rfl rfl rfl rfl rfl rfl
theorem s_152_85 : Go d 152 85 L (.int x :: st) h Q = (if x = 0 then Go d 152 92 L st h Q else Go d 152 88 L st h Q) := go_ifeq rfl
theorem s_152_88 : Go d 152 88 L (st) h Q = Go d 152 89 L (.int (nI 1) :: st) h Q := go_ic rfl ci_i1
theorem s_152_89 : Go d 152 89 L (st) h Q = Go d 152 93 L (st) h Q := go_goto rfl
theorem s_152_92 : Go d 152 92 L (st) h Q = Go d 152 93 L (.int (nI 0) :: st) h Q := go_ic rfl ci_i0
theorem s_152_93 : Go d 152 93 [o0, o1, o2, o3, o4, o5, o6] (.int x :: st) h Q = Go d 152 94 [o0, o1, o2, some (.int x), o4, o5, o6] (st) h Q := go_lo (E := (.istore_n 3, 0, 0, 0)) rfl rfl rfl
theorem s_152_94 : Go d 152 94 [o0, o1, o2, o3, some (.int x), o5, o6] (st) h Q = Go d 152 97 [o0, o1, o2, o3, some (.int (x + nI 1)), o5, o6] (st) h Q := (ci_i1 ▸ go_lo (E := (.iinc 4 1, 0, 0, 0)) rfl rfl rfl : _ = Go d 152 97 [o0, o1, o2, o3, some (.int (x + nI 1)), o5, o6] (st) h Q)
theorem s_152_97 : Go d 152 97 L (st) h Q = Go d 152 7 L (st) h Q := go_goto rfl
theorem s_152_100 : Go d 152 100 L (st) h Q = Go d 152 101 L (.int (nI 0) :: st) h Q := go_ic rfl ci_i0
theorem s_152_101 : Go d 152 101 [o0, o1, o2, o3, o4, o5, o6] (.int x :: st) h Q = Go d 152 103 [o0, o1, o2, o3, some (.int x), o5, o6] (st) h Q := go_lo (E := (.istore 4, 0, 0, 0)) rfl rfl rfl
theorem s_152_103 : Go d 152 103 [o0, o1, o2, o3, some (.int x), o5, o6] (st) h Q = Go d 152 105 [o0, o1, o2, o3, some (.int x), o5, o6] (.int x :: st) h Q := go_lo (E := (.iload 4, 0, 0, 0)) rfl rfl rfl
theorem s_152_105 : Go d 152 105 [some (.ref r), o1, o2, o3, o4, o5, o6] (st) h Q = Go d 152 106 [some (.ref r), o1, o2, o3, o4, o5, o6] (.ref r :: st) h Q := go_lo (E := (.aload_n 0, 0, 0, 0)) rfl rfl rfl
theorem s_152_106 : Go d 152 106 L (.ref 53 :: st) (HP lx xs M) Q = Go d 152 109 L (.int (M 53 24) :: st) (HP lx xs M) Q := go_gf rfl rfl (by decide) rfl
theorem s_152_109 : Go d 152 109 L (.int y :: .int x :: st) h Q = (if x < y then Go d 152 112 L st h Q else Go d 152 177 L st h Q) := go_icge rfl
theorem s_152_112 : Go d 152 112 [o0, o1, o2, some (.int x), o4, o5, o6] (st) h Q = Go d 152 113 [o0, o1, o2, some (.int x), o4, o5, o6] (.int x :: st) h Q := go_lo (E := (.iload_n 3, 0, 0, 0)) rfl rfl rfl
theorem s_152_113 : Go d 152 113 L (.int x :: st) h Q = (if x = 0 then Go d 152 177 L st h Q else Go d 152 116 L st h Q) := go_ifeq rfl
theorem s_152_116 : Go d 152 116 [o0, o1, o2, o3, some (.int x), o5, o6] (st) h Q = Go d 152 118 [o0, o1, o2, o3, some (.int x), o5, o6] (.int x :: st) h Q := go_lo (E := (.iload 4, 0, 0, 0)) rfl rfl rfl
theorem s_152_118 : Go d 152 118 [o0, o1, o2, o3, o4, o5, o6] (.int x :: st) h Q = Go d 152 120 [o0, o1, o2, o3, o4, some (.int x), o6] (st) h Q := go_lo (E := (.istore 5, 0, 0, 0)) rfl rfl rfl
theorem s_152_120 : Go d 152 120 L (st) h Q = Go d 152 121 L (.int (nI 0) :: st) h Q := go_ic rfl ci_i0
theorem s_152_121 : Go d 152 121 [o0, o1, o2, o3, o4, o5, o6] (.int x :: st) h Q = Go d 152 123 [o0, o1, o2, o3, o4, o5, some (.int x)] (st) h Q := go_lo (E := (.istore 6, 0, 0, 0)) rfl rfl rfl
theorem s_152_123 : Go d 152 123 [o0, o1, o2, o3, o4, o5, some (.int x)] (st) h Q = Go d 152 125 [o0, o1, o2, o3, o4, o5, some (.int x)] (.int x :: st) h Q := go_lo (E := (.iload 6, 0, 0, 0)) rfl rfl rfl
theorem s_152_125 : Go d 152 125 [some (.ref r), o1, o2, o3, o4, o5, o6] (st) h Q = Go d 152 126 [some (.ref r), o1, o2, o3, o4, o5, o6] (.ref r :: st) h Q := go_lo (E := (.aload_n 0, 0, 0, 0)) rfl rfl rfl
theorem s_152_126 : Go d 152 126 L (.ref 53 :: st) (HP lx xs M) Q = Go d 152 129 L (.int (M 53 24) :: st) (HP lx xs M) Q := go_gf rfl rfl (by decide) rfl
theorem s_152_129 : Go d 152 129 L (.int y :: .int x :: st) h Q = (if x < y then Go d 152 132 L st h Q else Go d 152 156 L st h Q) := go_icge rfl
theorem s_152_132 : Go d 152 132 [o0, o1, o2, o3, o4, some (.int x), o6] (st) h Q = Go d 152 134 [o0, o1, o2, o3, o4, some (.int x), o6] (.int x :: st) h Q := go_lo (E := (.iload 5, 0, 0, 0)) rfl rfl rfl
theorem s_152_134 : Go d 152 134 [some (.ref r), o1, o2, o3, o4, o5, o6] (st) h Q = Go d 152 135 [some (.ref r), o1, o2, o3, o4, o5, o6] (.ref r :: st) h Q := go_lo (E := (.aload_n 0, 0, 0, 0)) rfl rfl rfl
theorem s_152_135 : Go d 152 135 L (.ref 53 :: st) (HP lx xs M) Q = Go d 152 138 L (.int (M 53 24) :: st) (HP lx xs M) Q := go_gf rfl rfl (by decide) rfl
theorem s_152_138 : Go d 152 138 L (.int y :: .int x :: st) h Q = (if x < y then Go d 152 141 L st h Q else Go d 152 156 L st h Q) := go_icge rfl
theorem s_152_141 : Go d 152 141 [some (.ref r), o1, o2, o3, o4, o5, o6] (st) h Q = Go d 152 142 [some (.ref r), o1, o2, o3, o4, o5, o6] (.ref r :: st) h Q := go_lo (E := (.aload_n 0, 0, 0, 0)) rfl rfl rfl
theorem s_152_142 : Go d 152 142 L (.ref 53 :: st) (HP lx xs M) Q = Go d 152 145 L (.ref 68 :: st) (HP lx xs M) Q := go_gf rfl rfl (by decide) rfl
theorem s_152_145 : Go d 152 145 [o0, o1, o2, o3, o4, some (.int x), o6] (st) h Q = Go d 152 147 [o0, o1, o2, o3, o4, some (.int x), o6] (.int x :: st) h Q := go_lo (E := (.iload 5, 0, 0, 0)) rfl rfl rfl
theorem s_152_147 : Go d 152 147 L (.int x :: .ref 68 :: st) (HP lx xs M) Q = (ex_in x 6 = true ∧ Go d 152 148 L (.int (M 68 x.toNatClampNeg) :: st) (HP lx xs M) Q) := go_al rfl rfl
theorem s_152_148 : Go d 152 148 [o0, o1, o2, o3, o4, o5, o6] (.int x :: st) h Q = Go d 152 150 [o0, o1, o2, o3, o4, some (.int x), o6] (st) h Q := go_lo (E := (.istore 5, 0, 0, 0)) rfl rfl rfl
theorem s_152_150 : Go d 152 150 [o0, o1, o2, o3, o4, o5, some (.int x)] (st) h Q = Go d 152 153 [o0, o1, o2, o3, o4, o5, some (.int (x + nI 1))] (st) h Q := (ci_i1 ▸ go_lo (E := (.iinc 6 1, 0, 0, 0)) rfl rfl rfl : _ = Go d 152 153 [o0, o1, o2, o3, o4, o5, some (.int (x + nI 1))] (st) h Q)
theorem s_152_153 : Go d 152 153 L (st) h Q = Go d 152 123 L (st) h Q := go_goto rfl
theorem s_152_156 : Go d 152 156 [o0, o1, o2, o3, o4, some (.int x), o6] (st) h Q = Go d 152 158 [o0, o1, o2, o3, o4, some (.int x), o6] (.int x :: st) h Q := go_lo (E := (.iload 5, 0, 0, 0)) rfl rfl rfl
theorem s_152_158 : Go d 152 158 [some (.ref r), o1, o2, o3, o4, o5, o6] (st) h Q = Go d 152 159 [some (.ref r), o1, o2, o3, o4, o5, o6] (.ref r :: st) h Q := go_lo (E := (.aload_n 0, 0, 0, 0)) rfl rfl rfl
theorem s_152_159 : Go d 152 159 L (.ref 53 :: st) (HP lx xs M) Q = Go d 152 162 L (.int (M 53 24) :: st) (HP lx xs M) Q := go_gf rfl rfl (by decide) rfl
theorem s_152_162 : Go d 152 162 L (.int y :: .int x :: st) h Q = (if x = y then Go d 152 165 L st h Q else Go d 152 169 L st h Q) := go_icne rfl
theorem s_152_165 : Go d 152 165 L (st) h Q = Go d 152 166 L (.int (nI 1) :: st) h Q := go_ic rfl ci_i1
theorem s_152_166 : Go d 152 166 L (st) h Q = Go d 152 170 L (st) h Q := go_goto rfl
theorem s_152_169 : Go d 152 169 L (st) h Q = Go d 152 170 L (.int (nI 0) :: st) h Q := go_ic rfl ci_i0
theorem s_152_170 : Go d 152 170 [o0, o1, o2, o3, o4, o5, o6] (.int x :: st) h Q = Go d 152 171 [o0, o1, o2, some (.int x), o4, o5, o6] (st) h Q := go_lo (E := (.istore_n 3, 0, 0, 0)) rfl rfl rfl
set_option maxRecDepth 30000 in
theorem s_152_171 : Go d 152 171 [o0, o1, o2, o3, some (.int x), o5, o6] (st) h Q = Go d 152 174 [o0, o1, o2, o3, some (.int (x + nI 1)), o5, o6] (st) h Q := (ci_i1 ▸ go_lo (E := (.iinc 4 1, 0, 0, 0)) rfl rfl rfl : _ = Go d 152 174 [o0, o1, o2, o3, some (.int (x + nI 1)), o5, o6] (st) h Q)
set_option maxRecDepth 30000 in
theorem s_152_174 : Go d 152 174 L (st) h Q = Go d 152 103 L (st) h Q := go_goto rfl
set_option maxRecDepth 30000 in
theorem s_152_177 : Go d 152 177 [o0, o1, o2, some (.int x), o4, o5, o6] (st) h Q = Go d 152 178 [o0, o1, o2, some (.int x), o4, o5, o6] (.int x :: st) h Q := go_lo (E := (.iload_n 3, 0, 0, 0)) rfl rfl rfl
set_option maxRecDepth 30000 in
theorem s_152_178 : Go d 152 178 L (.int x :: st) h Q = (if x = 0 then Go d 152 190 L st h Q else Go d 152 181 L st h Q) := go_ifeq rfl
set_option maxRecDepth 30000 in
theorem s_152_181 : Go d 152 181 [o0, o1, some (.int x), o3, o4, o5, o6] (st) h Q = Go d 152 182 [o0, o1, some (.int x), o3, o4, o5, o6] (.int x :: st) h Q := go_lo (E := (.iload_n 2, 0, 0, 0)) rfl rfl rfl
set_option maxRecDepth 30000 in
theorem s_152_182 : Go d 152 182 L (st) h Q = Go d 152 183 L (.int (nI 1) :: st) h Q := go_ic rfl ci_i1
set_option maxRecDepth 30000 in
theorem s_152_183 : Go d 152 183 L (.int y :: .int x :: st) h Q = (if x = y then Go d 152 186 L st h Q else Go d 152 190 L st h Q) := go_icne rfl
set_option maxRecDepth 30000 in
theorem s_152_186 : Go d 152 186 L (st) h Q = Go d 152 187 L (.int (nI 1) :: st) h Q := go_ic rfl ci_i1
set_option maxRecDepth 30000 in
theorem s_152_187 : Go d 152 187 L (st) h Q = Go d 152 191 L (st) h Q := go_goto rfl
set_option maxRecDepth 30000 in
theorem s_152_190 : Go d 152 190 L (st) h Q = Go d 152 191 L (.int (nI 0) :: st) h Q := go_ic rfl ci_i0
set_option maxRecDepth 30000 in
theorem s_152_191_0 : Go d 152 191 L [.int (nI 0)] h Q = Q (some (.int (nI 0))) h := go_rz rfl rfl (by decide)
set_option maxRecDepth 30000 in
theorem s_152_191_1 : Go d 152 191 L [.int (nI 1)] h Q = Q (some (.int (nI 1))) h := go_rz rfl rfl (by decide)
theorem s_153_0 : Go d 153 0 [some (.ref r), o1] (st) h Q = Go d 153 1 [some (.ref r), o1] (.ref r :: st) h Q := go_lo (E := (.aload_n 0, 0, 0, 0)) rfl rfl rfl
theorem s_153_1 : Go d 153 1 L (.ref 53 :: st) (HP lx xs M) Q = Go d 153 4 L (.int (M 53 24) :: st) (HP lx xs M) Q := go_gf rfl rfl (by decide) rfl
theorem s_153_4 : Go d 153 4 L (st) h Q = Go d 153 5 L (.int (nI 1) :: st) h Q := go_ic rfl ci_i1
theorem s_153_5 : Go d 153 5 L (.int y :: .int x :: st) h Q = Go d 153 6 L (.int (x - y) :: st) h Q := go_op (E := (.isub, 0, 0, 0)) rfl rfl
theorem s_153_6 : Go d 153 6 [o0, o1] (.int x :: st) h Q = Go d 153 7 [o0, some (.int x)] (st) h Q := go_lo (E := (.istore_n 1, 0, 0, 0)) rfl rfl rfl
theorem s_153_7 : Go d 153 7 [o0, some (.int x)] (st) h Q = Go d 153 8 [o0, some (.int x)] (.int x :: st) h Q := go_lo (E := (.iload_n 1, 0, 0, 0)) rfl rfl rfl
theorem s_153_8 : Go d 153 8 L (.int x :: st) h Q = (if x < 0 then Go d 153 49 L st h Q else Go d 153 11 L st h Q) := go_iflt rfl
theorem s_153_11 : Go d 153 11 [some (.ref r), o1] (st) h Q = Go d 153 12 [some (.ref r), o1] (.ref r :: st) h Q := go_lo (E := (.aload_n 0, 0, 0, 0)) rfl rfl rfl
theorem s_153_12 : Go d 153 12 L (.ref 53 :: st) (HP lx xs M) Q = Go d 153 15 L (.ref 68 :: st) (HP lx xs M) Q := go_gf rfl rfl (by decide) rfl
theorem s_153_15 : Go d 153 15 [o0, some (.int x)] (st) h Q = Go d 153 16 [o0, some (.int x)] (.int x :: st) h Q := go_lo (E := (.iload_n 1, 0, 0, 0)) rfl rfl rfl
theorem s_153_16 : Go d 153 16 L (.int x :: .ref r2 :: st) h Q = Go d 153 17 L (.int x :: .ref r2 :: .int x :: .ref r2 :: st) h Q := go_op (E := (.dup2, 0, 0, 0)) rfl rfl
theorem s_153_17 : Go d 153 17 L (.int x :: .ref 68 :: st) (HP lx xs M) Q = (ex_in x 6 = true ∧ Go d 153 18 L (.int (M 68 x.toNatClampNeg) :: st) (HP lx xs M) Q) := go_al rfl rfl
theorem s_153_18 : Go d 153 18 L (st) h Q = Go d 153 19 L (.int (nI 1) :: st) h Q := go_ic rfl ci_i1
theorem s_153_19 : Go d 153 19 L (.int y :: .int x :: st) h Q = Go d 153 20 L (.int (x + y) :: st) h Q := go_op (E := (.iadd, 0, 0, 0)) rfl rfl
theorem s_153_20 : Go d 153 20 L (.int y :: .int x :: .ref 68 :: st) (HP lx xs M) Q = (ex_in x 6 = true ∧ Go d 153 21 L (st) (HP lx xs (up M 68 x.toNatClampNeg y)) Q) := go_as rfl rfl (by decide) hs_68
theorem s_153_21 : Go d 153 21 [some (.ref r), o1] (st) h Q = Go d 153 22 [some (.ref r), o1] (.ref r :: st) h Q := go_lo (E := (.aload_n 0, 0, 0, 0)) rfl rfl rfl
theorem s_153_22 : Go d 153 22 L (.ref 53 :: st) (HP lx xs M) Q = Go d 153 25 L (.ref 68 :: st) (HP lx xs M) Q := go_gf rfl rfl (by decide) rfl
theorem s_153_25 : Go d 153 25 [o0, some (.int x)] (st) h Q = Go d 153 26 [o0, some (.int x)] (.int x :: st) h Q := go_lo (E := (.iload_n 1, 0, 0, 0)) rfl rfl rfl
theorem s_153_26 : Go d 153 26 L (.int x :: .ref 68 :: st) (HP lx xs M) Q = (ex_in x 6 = true ∧ Go d 153 27 L (.int (M 68 x.toNatClampNeg) :: st) (HP lx xs M) Q) := go_al rfl rfl
theorem s_153_27 : Go d 153 27 [some (.ref r), o1] (st) h Q = Go d 153 28 [some (.ref r), o1] (.ref r :: st) h Q := go_lo (E := (.aload_n 0, 0, 0, 0)) rfl rfl rfl
theorem s_153_28 : Go d 153 28 L (.ref 53 :: st) (HP lx xs M) Q = Go d 153 31 L (.int (M 53 24) :: st) (HP lx xs M) Q := go_gf rfl rfl (by decide) rfl
theorem s_153_31 : Go d 153 31 L (.int y :: .int x :: st) h Q = (if y < x then Go d 153 36 L st h Q else Go d 153 34 L st h Q) := go_icgt rfl
theorem s_153_34 : Go d 153 34 L (st) h Q = Go d 153 35 L (.int (nI 1) :: st) h Q := go_ic rfl ci_i1
theorem s_153_35_0 : Go d 153 35 L [.int (nI 0)] h Q = Q (some (.int (nI 0))) h := go_rz rfl rfl (by decide)
theorem s_153_35_1 : Go d 153 35 L [.int (nI 1)] h Q = Q (some (.int (nI 1))) h := go_rz rfl rfl (by decide)
theorem s_153_36 : Go d 153 36 [some (.ref r), o1] (st) h Q = Go d 153 37 [some (.ref r), o1] (.ref r :: st) h Q := go_lo (E := (.aload_n 0, 0, 0, 0)) rfl rfl rfl
theorem s_153_37 : Go d 153 37 L (.ref 53 :: st) (HP lx xs M) Q = Go d 153 40 L (.ref 68 :: st) (HP lx xs M) Q := go_gf rfl rfl (by decide) rfl
theorem s_153_40 : Go d 153 40 [o0, some (.int x)] (st) h Q = Go d 153 41 [o0, some (.int x)] (.int x :: st) h Q := go_lo (E := (.iload_n 1, 0, 0, 0)) rfl rfl rfl
theorem s_153_41 : Go d 153 41 L (st) h Q = Go d 153 42 L (.int (nI 0) :: st) h Q := go_ic rfl ci_i0
theorem s_153_42 : Go d 153 42 L (.int y :: .int x :: .ref 68 :: st) (HP lx xs M) Q = (ex_in x 6 = true ∧ Go d 153 43 L (st) (HP lx xs (up M 68 x.toNatClampNeg y)) Q) := go_as rfl rfl (by decide) hs_68
theorem s_153_43 : Go d 153 43 [o0, some (.int x)] (st) h Q = Go d 153 46 [o0, some (.int (x + -1))] (st) h Q := (ci_im1 ▸ go_lo (E := (.iinc 1 (-1), 0, 0, 0)) rfl rfl rfl : _ = Go d 153 46 [o0, some (.int (x + -1))] (st) h Q)
theorem s_153_46 : Go d 153 46 L (st) h Q = Go d 153 7 L (st) h Q := go_goto rfl
theorem s_153_49 : Go d 153 49 L (st) h Q = Go d 153 50 L (.int (nI 0) :: st) h Q := go_ic rfl ci_i0
theorem s_153_50_0 : Go d 153 50 L [.int (nI 0)] h Q = Q (some (.int (nI 0))) h := go_rz rfl rfl (by decide)
theorem s_153_50_1 : Go d 153 50 L [.int (nI 1)] h Q = Q (some (.int (nI 1))) h := go_rz rfl rfl (by decide)
theorem s_154_0 : Go d 154 0 [some (.ref r), o1, o2, o3] (st) h Q = Go d 154 1 [some (.ref r), o1, o2, o3] (.ref r :: st) h Q := go_lo (E := (.aload_n 0, 0, 0, 0)) rfl rfl rfl
theorem s_154_1 : Go d 154 1 L (st) h Q = Go d 154 2 L (.int (nI 0) :: st) h Q := go_ic rfl ci_i0
theorem s_154_2 : Go d 154 2 L (.int x :: .ref 53 :: st) (HP lx xs M) Q = Go d 154 5 L (st) (HP lx xs (up M 53 24 x)) Q := go_pf rfl rfl (by decide) (Nat.le_of_ble_eq_true rfl) rfl hf_53_24
theorem s_154_5 : Go d 154 5 [some (.ref r), o1, o2, o3] (st) h Q = Go d 154 6 [some (.ref r), o1, o2, o3] (.ref r :: st) h Q := go_lo (E := (.aload_n 0, 0, 0, 0)) rfl rfl rfl
theorem s_154_6 : Go d 154 6 L (st) h Q = Go d 154 7 L (.int (nI 0) :: st) h Q := go_ic rfl ci_i0
theorem s_154_7 : Go d 154 7 L (.int x :: .ref 53 :: st) (HP lx xs M) Q = Go d 154 10 L (st) (HP lx xs (up M 53 26 x)) Q := go_pf rfl rfl (by decide) (Nat.le_of_ble_eq_true rfl) rfl hf_53_26
theorem s_154_10 : Go d 154 10 [some (.ref r), o1, o2, o3] (st) h Q = Go d 154 11 [some (.ref r), o1, o2, o3] (.ref r :: st) h Q := go_lo (E := (.aload_n 0, 0, 0, 0)) rfl rfl rfl
theorem s_154_11 : Go d 154 11 L (st) h Q = Go d 154 12 L (.int (nI 0) :: st) h Q := go_ic rfl ci_i0
theorem s_154_12 : Go d 154 12 L (.int x :: .ref 53 :: st) (HP lx xs M) Q = Go d 154 15 L (st) (HP lx xs (up M 53 27 x)) Q := go_pf rfl rfl (by decide) (Nat.le_of_ble_eq_true rfl) rfl hf_53_27
theorem s_154_15 : Go d 154 15 L (st) h Q = Go d 154 16 L (.int (nI 0) :: st) h Q := go_ic rfl ci_i0
theorem s_154_16 : Go d 154 16 [o0, o1, o2, o3] (.int x :: st) h Q = Go d 154 17 [o0, o1, some (.int x), o3] (st) h Q := go_lo (E := (.istore_n 2, 0, 0, 0)) rfl rfl rfl
theorem s_154_17 : Go d 154 17 [o0, o1, some (.int x), o3] (st) h Q = Go d 154 18 [o0, o1, some (.int x), o3] (.int x :: st) h Q := go_lo (E := (.iload_n 2, 0, 0, 0)) rfl rfl rfl
theorem s_154_18 : Go d 154 18 [some (.ref r), o1, o2, o3] (st) h Q = Go d 154 19 [some (.ref r), o1, o2, o3] (.ref r :: st) h Q := go_lo (E := (.aload_n 0, 0, 0, 0)) rfl rfl rfl
theorem s_154_19 : Go d 154 19 L (.ref 53 :: st) (HP lx xs M) Q = Go d 154 22 L (.int (M 53 4) :: st) (HP lx xs M) Q := go_gf rfl rfl (by decide) rfl
theorem s_154_22 : Go d 154 22 L (.int y :: .int x :: st) h Q = (if x < y then Go d 154 25 L st h Q else Go d 154 76 L st h Q) := go_icge rfl
theorem s_154_25 : Go d 154 25 [some (.ref r), o1, o2, o3] (st) h Q = Go d 154 26 [some (.ref r), o1, o2, o3] (.ref r :: st) h Q := go_lo (E := (.aload_n 0, 0, 0, 0)) rfl rfl rfl
theorem s_154_26 : Go d 154 26 L (.ref 53 :: st) (HP lx xs M) Q = Go d 154 29 L (.ref 56 :: st) (HP lx xs M) Q := go_gf rfl rfl (by decide) rfl
theorem s_154_29 : Go d 154 29 L (st) h Q = Go d 154 30 L (.int (nI 4) :: st) h Q := go_ic rfl ci_i4
theorem s_154_30 : Go d 154 30 [o0, o1, some (.int x), o3] (st) h Q = Go d 154 31 [o0, o1, some (.int x), o3] (.int x :: st) h Q := go_lo (E := (.iload_n 2, 0, 0, 0)) rfl rfl rfl
theorem s_154_31 : Go d 154 31 L (.int y :: .int x :: st) h Q = Go d 154 32 L (.int (x * y) :: st) h Q := go_op (E := (.imul, 0, 0, 0)) rfl rfl
theorem s_154_32 : Go d 154 32 [o0, some (.int x), o2, o3] (st) h Q = Go d 154 33 [o0, some (.int x), o2, o3] (.int x :: st) h Q := go_lo (E := (.iload_n 1, 0, 0, 0)) rfl rfl rfl
theorem s_154_33 : Go d 154 33 L (.int y :: .int x :: st) h Q = Go d 154 34 L (.int (x + y) :: st) h Q := go_op (E := (.iadd, 0, 0, 0)) rfl rfl
theorem s_154_34 : Go d 154 34 L (.int x :: .ref 56 :: st) (HP lx xs M) Q = (ex_in x 24 = true ∧ Go d 154 35 L (.int (M 56 x.toNatClampNeg) :: st) (HP lx xs M) Q) := go_al rfl rfl
theorem s_154_35 : Go d 154 35 L (st) h Q = Go d 154 37 L (.int (nI 97) :: st) h Q := go_bi rfl ci_b97
theorem s_154_37 : Go d 154 37 L (.int y :: .int x :: st) h Q = (if x < y then Go d 154 40 L st h Q else Go d 154 70 L st h Q) := go_icge rfl
theorem s_154_40 : Go d 154 40 [some (.ref r), o1, o2, o3] (st) h Q = Go d 154 41 [some (.ref r), o1, o2, o3] (.ref r :: st) h Q := go_lo (E := (.aload_n 0, 0, 0, 0)) rfl rfl rfl
theorem s_154_41 : Go d 154 41 L (.ref 53 :: st) (HP lx xs M) Q = Go d 154 44 L (.ref 69 :: st) (HP lx xs M) Q := go_gf rfl rfl (by decide) rfl
theorem s_154_44 : Go d 154 44 [some (.ref r), o1, o2, o3] (st) h Q = Go d 154 45 [some (.ref r), o1, o2, o3] (.ref r :: st) h Q := go_lo (E := (.aload_n 0, 0, 0, 0)) rfl rfl rfl
theorem s_154_45 : Go d 154 45 L (.ref 53 :: st) (HP lx xs M) Q = Go d 154 48 L (.int (M 53 24) :: st) (HP lx xs M) Q := go_gf rfl rfl (by decide) rfl
theorem s_154_48 : Go d 154 48 [o0, o1, some (.int x), o3] (st) h Q = Go d 154 49 [o0, o1, some (.int x), o3] (.int x :: st) h Q := go_lo (E := (.iload_n 2, 0, 0, 0)) rfl rfl rfl
theorem s_154_49 : Go d 154 49 L (.int y :: .int x :: .ref 69 :: st) (HP lx xs M) Q = (ex_in x 6 = true ∧ Go d 154 50 L (st) (HP lx xs (up M 69 x.toNatClampNeg y)) Q) := go_as rfl rfl (by decide) hs_69
theorem s_154_50 : Go d 154 50 [some (.ref r), o1, o2, o3] (st) h Q = Go d 154 51 [some (.ref r), o1, o2, o3] (.ref r :: st) h Q := go_lo (E := (.aload_n 0, 0, 0, 0)) rfl rfl rfl
theorem s_154_51 : Go d 154 51 L (.ref 53 :: st) (HP lx xs M) Q = Go d 154 54 L (.ref 68 :: st) (HP lx xs M) Q := go_gf rfl rfl (by decide) rfl
theorem s_154_54 : Go d 154 54 [some (.ref r), o1, o2, o3] (st) h Q = Go d 154 55 [some (.ref r), o1, o2, o3] (.ref r :: st) h Q := go_lo (E := (.aload_n 0, 0, 0, 0)) rfl rfl rfl
theorem s_154_55 : Go d 154 55 L (.ref 53 :: st) (HP lx xs M) Q = Go d 154 58 L (.int (M 53 24) :: st) (HP lx xs M) Q := go_gf rfl rfl (by decide) rfl
theorem s_154_58 : Go d 154 58 L (st) h Q = Go d 154 59 L (.int (nI 0) :: st) h Q := go_ic rfl ci_i0
theorem s_154_59 : Go d 154 59 L (.int y :: .int x :: .ref 68 :: st) (HP lx xs M) Q = (ex_in x 6 = true ∧ Go d 154 60 L (st) (HP lx xs (up M 68 x.toNatClampNeg y)) Q) := go_as rfl rfl (by decide) hs_68
theorem s_154_60 : Go d 154 60 [some (.ref r), o1, o2, o3] (st) h Q = Go d 154 61 [some (.ref r), o1, o2, o3] (.ref r :: st) h Q := go_lo (E := (.aload_n 0, 0, 0, 0)) rfl rfl rfl
theorem s_154_61 : Go d 154 61 L (.ref r :: st) h Q = Go d 154 62 L (.ref r :: .ref r :: st) h Q := go_op (E := (.dup, 0, 0, 0)) rfl rfl
theorem s_154_62 : Go d 154 62 L (.ref 53 :: st) (HP lx xs M) Q = Go d 154 65 L (.int (M 53 24) :: st) (HP lx xs M) Q := go_gf rfl rfl (by decide) rfl
theorem s_154_65 : Go d 154 65 L (st) h Q = Go d 154 66 L (.int (nI 1) :: st) h Q := go_ic rfl ci_i1
theorem s_154_66 : Go d 154 66 L (.int y :: .int x :: st) h Q = Go d 154 67 L (.int (x + y) :: st) h Q := go_op (E := (.iadd, 0, 0, 0)) rfl rfl
theorem s_154_67 : Go d 154 67 L (.int x :: .ref 53 :: st) (HP lx xs M) Q = Go d 154 70 L (st) (HP lx xs (up M 53 24 x)) Q := go_pf rfl rfl (by decide) (Nat.le_of_ble_eq_true rfl) rfl hf_53_24
theorem s_154_70 : Go d 154 70 [o0, o1, some (.int x), o3] (st) h Q = Go d 154 73 [o0, o1, some (.int (x + nI 1)), o3] (st) h Q := (ci_i1 ▸ go_lo (E := (.iinc 2 1, 0, 0, 0)) rfl rfl rfl : _ = Go d 154 73 [o0, o1, some (.int (x + nI 1)), o3] (st) h Q)
theorem s_154_73 : Go d 154 73 L (st) h Q = Go d 154 17 L (st) h Q := go_goto rfl
theorem s_154_76 : Go d 154 76 [some (.ref r), o1, o2, o3] (st) h Q = Go d 154 77 [some (.ref r), o1, o2, o3] (.ref r :: st) h Q := go_lo (E := (.aload_n 0, 0, 0, 0)) rfl rfl rfl
theorem s_154_77 : Go d 154 77 L (.ref 53 :: st) (HP lx xs M) Q = Go d 154 80 L (.int (M 53 24) :: st) (HP lx xs M) Q := go_gf rfl rfl (by decide) rfl
theorem s_154_80 : Go d 154 80 L (.int x :: st) h Q = (if 0 < x then Go d 154 83 L st h Q else Go d 154 87 L st h Q) := go_ifle rfl
theorem s_154_83 : Go d 154 83 L (st) h Q = Go d 154 84 L (.int (nI 1) :: st) h Q := go_ic rfl ci_i1
theorem s_154_84 : Go d 154 84 L (st) h Q = Go d 154 88 L (st) h Q := go_goto rfl
theorem s_154_87 : Go d 154 87 L (st) h Q = Go d 154 88 L (.int (nI 0) :: st) h Q := go_ic rfl ci_i0
theorem s_154_88 : Go d 154 88 [o0, o1, o2, o3] (.int x :: st) h Q = Go d 154 89 [o0, o1, some (.int x), o3] (st) h Q := go_lo (E := (.istore_n 2, 0, 0, 0)) rfl rfl rfl
theorem s_154_89 : Go d 154 89 [o0, o1, some (.int x), o3] (st) h Q = Go d 154 90 [o0, o1, some (.int x), o3] (.int x :: st) h Q := go_lo (E := (.iload_n 2, 0, 0, 0)) rfl rfl rfl
theorem s_154_90 : Go d 154 90 L (.int x :: st) h Q = (if x = 0 then Go d 154 197 L st h Q else Go d 154 93 L st h Q) := go_ifeq rfl
theorem s_154_93 : Go d 154 93 [some (.ref r), o1, o2, o3] (st) h Q = Go d 154 94 [some (.ref r), o1, o2, o3] (.ref r :: st) h Q := go_lo (E := (.aload_n 0, 0, 0, 0)) rfl rfl rfl
theorem s_154_94 : Go d 154 94 [o0, some (.int x), o2, o3] (st) h Q = Go d 154 95 [o0, some (.int x), o2, o3] (.int x :: st) h Q := go_lo (E := (.iload_n 1, 0, 0, 0)) rfl rfl rfl
theorem s_154_95 {a1 : Int32} : Go (d + 1) 154 95 L [.int a1, .ref 53] (HP lx xs M) Q = Go d 152 0 [some (.ref 53), some (.int a1), none, none, none, none, none] [] (HP lx xs M) (fun v h2 => Go (d + 1) 154 98 L (ap v []) h2 Q) := go_cx (E := (.invokevirtual 208, 152, 0, 7)) (k' := 152) (as := [.ref 53, .int a1]) rfl rfl rfl rfl rfl rfl rfl rfl
theorem s_154_98 : Go d 154 98 L (.int x :: st) h Q = (if x = 0 then Go d 154 189 L st h Q else Go d 154 101 L st h Q) := go_ifeq rfl
theorem s_154_101 : Go d 154 101 L (st) h Q = Go d 154 102 L (.int (nI 0) :: st) h Q := go_ic rfl ci_i0
theorem s_154_102 : Go d 154 102 [o0, o1, o2, o3] (.int x :: st) h Q = Go d 154 103 [o0, o1, o2, some (.int x)] (st) h Q := go_lo (E := (.istore_n 3, 0, 0, 0)) rfl rfl rfl
theorem s_154_103 : Go d 154 103 [o0, o1, o2, some (.int x)] (st) h Q = Go d 154 104 [o0, o1, o2, some (.int x)] (.int x :: st) h Q := go_lo (E := (.iload_n 3, 0, 0, 0)) rfl rfl rfl
theorem s_154_104 : Go d 154 104 [some (.ref r), o1, o2, o3] (st) h Q = Go d 154 105 [some (.ref r), o1, o2, o3] (.ref r :: st) h Q := go_lo (E := (.aload_n 0, 0, 0, 0)) rfl rfl rfl
theorem s_154_105 : Go d 154 105 L (.ref 53 :: st) (HP lx xs M) Q = Go d 154 108 L (.int (M 53 24) :: st) (HP lx xs M) Q := go_gf rfl rfl (by decide) rfl
theorem s_154_108 : Go d 154 108 L (.int y :: .int x :: st) h Q = (if x < y then Go d 154 111 L st h Q else Go d 154 179 L st h Q) := go_icge rfl
theorem s_154_111 : Go d 154 111 [some (.ref r), o1, o2, o3] (st) h Q = Go d 154 112 [some (.ref r), o1, o2, o3] (.ref r :: st) h Q := go_lo (E := (.aload_n 0, 0, 0, 0)) rfl rfl rfl
theorem s_154_112 : Go d 154 112 L (.ref 53 :: st) (HP lx xs M) Q = Go d 154 115 L (.ref 70 :: st) (HP lx xs M) Q := go_gf rfl rfl (by decide) rfl
theorem s_154_115 : Go d 154 115 [o0, o1, o2, some (.int x)] (st) h Q = Go d 154 116 [o0, o1, o2, some (.int x)] (.int x :: st) h Q := go_lo (E := (.iload_n 3, 0, 0, 0)) rfl rfl rfl
theorem s_154_116 : Go d 154 116 [some (.ref r), o1, o2, o3] (st) h Q = Go d 154 117 [some (.ref r), o1, o2, o3] (.ref r :: st) h Q := go_lo (E := (.aload_n 0, 0, 0, 0)) rfl rfl rfl
theorem s_154_117 : Go d 154 117 L (.ref 53 :: st) (HP lx xs M) Q = Go d 154 120 L (.int (M 53 26) :: st) (HP lx xs M) Q := go_gf rfl rfl (by decide) rfl
theorem s_154_120 : Go d 154 120 L (.int x :: st) h Q = (if x = 0 then Go d 154 123 L st h Q else Go d 154 132 L st h Q) := go_ifne rfl
theorem s_154_123 : Go d 154 123 [some (.ref r), o1, o2, o3] (st) h Q = Go d 154 124 [some (.ref r), o1, o2, o3] (.ref r :: st) h Q := go_lo (E := (.aload_n 0, 0, 0, 0)) rfl rfl rfl
theorem s_154_124 : Go d 154 124 L (.ref 53 :: st) (HP lx xs M) Q = Go d 154 127 L (.ref 68 :: st) (HP lx xs M) Q := go_gf rfl rfl (by decide) rfl
theorem s_154_127 : Go d 154 127 [o0, o1, o2, some (.int x)] (st) h Q = Go d 154 128 [o0, o1, o2, some (.int x)] (.int x :: st) h Q := go_lo (E := (.iload_n 3, 0, 0, 0)) rfl rfl rfl
theorem s_154_128 : Go d 154 128 L (.int x :: .ref 68 :: st) (HP lx xs M) Q = (ex_in x 6 = true ∧ Go d 154 129 L (.int (M 68 x.toNatClampNeg) :: st) (HP lx xs M) Q) := go_al rfl rfl
theorem s_154_129 : Go d 154 129 L (st) h Q = Go d 154 138 L (st) h Q := go_goto rfl
theorem s_154_132 : Go d 154 132 [some (.ref r), o1, o2, o3] (st) h Q = Go d 154 133 [some (.ref r), o1, o2, o3] (.ref r :: st) h Q := go_lo (E := (.aload_n 0, 0, 0, 0)) rfl rfl rfl
theorem s_154_133 : Go d 154 133 L (.ref 53 :: st) (HP lx xs M) Q = Go d 154 136 L (.ref 70 :: st) (HP lx xs M) Q := go_gf rfl rfl (by decide) rfl
theorem s_154_136 : Go d 154 136 [o0, o1, o2, some (.int x)] (st) h Q = Go d 154 137 [o0, o1, o2, some (.int x)] (.int x :: st) h Q := go_lo (E := (.iload_n 3, 0, 0, 0)) rfl rfl rfl
theorem s_154_137 : Go d 154 137 L (.int x :: .ref 70 :: st) (HP lx xs M) Q = (ex_in x 6 = true ∧ Go d 154 138 L (.int (M 70 x.toNatClampNeg) :: st) (HP lx xs M) Q) := go_al rfl rfl
theorem s_154_138 : Go d 154 138 L (.int y :: .int x :: .ref 70 :: st) (HP lx xs M) Q = (ex_in x 6 = true ∧ Go d 154 139 L (st) (HP lx xs (up M 70 x.toNatClampNeg y)) Q) := go_as rfl rfl (by decide) hs_70
theorem s_154_139 : Go d 154 139 [some (.ref r), o1, o2, o3] (st) h Q = Go d 154 140 [some (.ref r), o1, o2, o3] (.ref r :: st) h Q := go_lo (E := (.aload_n 0, 0, 0, 0)) rfl rfl rfl
theorem s_154_140 : Go d 154 140 L (.ref r :: st) h Q = Go d 154 141 L (.ref r :: .ref r :: st) h Q := go_op (E := (.dup, 0, 0, 0)) rfl rfl
theorem s_154_141 : Go d 154 141 L (.ref 53 :: st) (HP lx xs M) Q = Go d 154 144 L (.int (M 53 27) :: st) (HP lx xs M) Q := go_gf rfl rfl (by decide) rfl
theorem s_154_144 : Go d 154 144 [some (.ref r), o1, o2, o3] (st) h Q = Go d 154 145 [some (.ref r), o1, o2, o3] (.ref r :: st) h Q := go_lo (E := (.aload_n 0, 0, 0, 0)) rfl rfl rfl
theorem s_154_145 : Go d 154 145 L (.ref 53 :: st) (HP lx xs M) Q = Go d 154 148 L (.ref 68 :: st) (HP lx xs M) Q := go_gf rfl rfl (by decide) rfl
theorem s_154_148 : Go d 154 148 [o0, o1, o2, some (.int x)] (st) h Q = Go d 154 149 [o0, o1, o2, some (.int x)] (.int x :: st) h Q := go_lo (E := (.iload_n 3, 0, 0, 0)) rfl rfl rfl
theorem s_154_149 : Go d 154 149 L (.int x :: .ref 68 :: st) (HP lx xs M) Q = (ex_in x 6 = true ∧ Go d 154 150 L (.int (M 68 x.toNatClampNeg) :: st) (HP lx xs M) Q) := go_al rfl rfl
theorem s_154_150 : Go d 154 150 [some (.ref r), o1, o2, o3] (st) h Q = Go d 154 151 [some (.ref r), o1, o2, o3] (.ref r :: st) h Q := go_lo (E := (.aload_n 0, 0, 0, 0)) rfl rfl rfl
theorem s_154_151 : Go d 154 151 L (.ref 53 :: st) (HP lx xs M) Q = Go d 154 154 L (.int (M 53 24) :: st) (HP lx xs M) Q := go_gf rfl rfl (by decide) rfl
theorem s_154_154 : Go d 154 154 L (.int y :: .int x :: st) h Q = (if x = y then Go d 154 157 L st h Q else Go d 154 168 L st h Q) := go_icne rfl
theorem s_154_157 : Go d 154 157 L (st) h Q = Go d 154 158 L (.int (nI 1) :: st) h Q := go_ic rfl ci_i1
set_option maxRecDepth 30000 in
theorem s_154_158 : Go d 154 158 [some (.ref r), o1, o2, o3] (st) h Q = Go d 154 159 [some (.ref r), o1, o2, o3] (.ref r :: st) h Q := go_lo (E := (.aload_n 0, 0, 0, 0)) rfl rfl rfl
set_option maxRecDepth 30000 in
theorem s_154_159 : Go d 154 159 L (.ref 53 :: st) (HP lx xs M) Q = Go d 154 162 L (.ref 69 :: st) (HP lx xs M) Q := go_gf rfl rfl (by decide) rfl
set_option maxRecDepth 30000 in
theorem s_154_162 : Go d 154 162 [o0, o1, o2, some (.int x)] (st) h Q = Go d 154 163 [o0, o1, o2, some (.int x)] (.int x :: st) h Q := go_lo (E := (.iload_n 3, 0, 0, 0)) rfl rfl rfl
set_option maxRecDepth 30000 in
theorem s_154_163 : Go d 154 163 L (.int x :: .ref 69 :: st) (HP lx xs M) Q = (ex_in x 6 = true ∧ Go d 154 164 L (.int (M 69 x.toNatClampNeg) :: st) (HP lx xs M) Q) := go_al rfl rfl
set_option maxRecDepth 30000 in
theorem s_154_164 : Go d 154 164 L (.int y :: .int x :: st) h Q = Go d 154 165 L (.int (x <<< (y &&& 31)) :: st) h Q := go_op (E := (.ishl, 0, 0, 0)) rfl rfl
set_option maxRecDepth 30000 in
theorem s_154_165 : Go d 154 165 L (st) h Q = Go d 154 169 L (st) h Q := go_goto rfl
set_option maxRecDepth 30000 in
theorem s_154_168 : Go d 154 168 L (st) h Q = Go d 154 169 L (.int (nI 0) :: st) h Q := go_ic rfl ci_i0
set_option maxRecDepth 30000 in
theorem s_154_169 : Go d 154 169 L (.int y :: .int x :: st) h Q = Go d 154 170 L (.int (x ||| y) :: st) h Q := go_op (E := (.ior, 0, 0, 0)) rfl rfl
set_option maxRecDepth 30000 in
theorem s_154_170 : Go d 154 170 L (.int x :: .ref 53 :: st) (HP lx xs M) Q = Go d 154 173 L (st) (HP lx xs (up M 53 27 x)) Q := go_pf rfl rfl (by decide) (Nat.le_of_ble_eq_true rfl) rfl hf_53_27
set_option maxRecDepth 30000 in
theorem s_154_173 : Go d 154 173 [o0, o1, o2, some (.int x)] (st) h Q = Go d 154 176 [o0, o1, o2, some (.int (x + nI 1))] (st) h Q := (ci_i1 ▸ go_lo (E := (.iinc 3 1, 0, 0, 0)) rfl rfl rfl : _ = Go d 154 176 [o0, o1, o2, some (.int (x + nI 1))] (st) h Q)
set_option maxRecDepth 30000 in
theorem s_154_176 : Go d 154 176 L (st) h Q = Go d 154 103 L (st) h Q := go_goto rfl
set_option maxRecDepth 30000 in
theorem s_154_179 : Go d 154 179 [some (.ref r), o1, o2, o3] (st) h Q = Go d 154 180 [some (.ref r), o1, o2, o3] (.ref r :: st) h Q := go_lo (E := (.aload_n 0, 0, 0, 0)) rfl rfl rfl
set_option maxRecDepth 30000 in
theorem s_154_180 : Go d 154 180 L (.ref r :: st) h Q = Go d 154 181 L (.ref r :: .ref r :: st) h Q := go_op (E := (.dup, 0, 0, 0)) rfl rfl
set_option maxRecDepth 30000 in
theorem s_154_181 : Go d 154 181 L (.ref 53 :: st) (HP lx xs M) Q = Go d 154 184 L (.int (M 53 26) :: st) (HP lx xs M) Q := go_gf rfl rfl (by decide) rfl
set_option maxRecDepth 30000 in
theorem s_154_184 : Go d 154 184 L (st) h Q = Go d 154 185 L (.int (nI 1) :: st) h Q := go_ic rfl ci_i1
set_option maxRecDepth 30000 in
theorem s_154_185 : Go d 154 185 L (.int y :: .int x :: st) h Q = Go d 154 186 L (.int (x + y) :: st) h Q := go_op (E := (.iadd, 0, 0, 0)) rfl rfl
set_option maxRecDepth 30000 in
theorem s_154_186 : Go d 154 186 L (.int x :: .ref 53 :: st) (HP lx xs M) Q = Go d 154 189 L (st) (HP lx xs (up M 53 26 x)) Q := go_pf rfl rfl (by decide) (Nat.le_of_ble_eq_true rfl) rfl hf_53_26
set_option maxRecDepth 30000 in
theorem s_154_189 : Go d 154 189 [some (.ref r), o1, o2, o3] (st) h Q = Go d 154 190 [some (.ref r), o1, o2, o3] (.ref r :: st) h Q := go_lo (E := (.aload_n 0, 0, 0, 0)) rfl rfl rfl
set_option maxRecDepth 30000 in
theorem s_154_190  : Go (d + 1) 154 190 L [.ref 53] (HP lx xs M) Q = Go d 153 0 [some (.ref 53), none] [] (HP lx xs M) (fun v h2 => Go (d + 1) 154 193 L (ap v []) h2 Q) := go_cx (E := (.invokevirtual 211, 153, 0, 7)) (k' := 153) (as := [.ref 53]) rfl rfl rfl rfl rfl rfl rfl rfl
set_option maxRecDepth 30000 in
theorem s_154_193 : Go d 154 193 [o0, o1, o2, o3] (.int x :: st) h Q = Go d 154 194 [o0, o1, some (.int x), o3] (st) h Q := go_lo (E := (.istore_n 2, 0, 0, 0)) rfl rfl rfl
set_option maxRecDepth 30000 in
theorem s_154_194 : Go d 154 194 L (st) h Q = Go d 154 89 L (st) h Q := go_goto rfl
set_option maxRecDepth 30000 in
theorem s_154_197 : Go d 154 197 L [] h Q = Q none h := go_rv rfl rfl
theorem s_155_0 : Go d 155 0 [o0, some (.int x), o2] (st) h Q = Go d 155 1 [o0, some (.int x), o2] (.int x :: st) h Q := go_lo (E := (.iload_n 1, 0, 0, 0)) rfl rfl rfl
theorem s_155_1 {a0 : Int32} : Go (d + 1) 155 1 L [.int a0] h Q = Go d 117 0 [some (.int a0)] [] h (fun v h2 => Go (d + 1) 155 4 L (ap v []) h2 Q) := go_cx (E := (.invokestatic 98, 117, 0, 0)) (k' := 117) (as := [.int a0]) rfl rfl rfl rfl rfl rfl rfl rfl
theorem s_155_4 : Go d 155 4 L (.int x :: st) h Q = (if x = 0 then Go d 155 17 L st h Q else Go d 155 7 L st h Q) := go_ifeq rfl
theorem s_155_7 : Go d 155 7 [o0, o1, some (.int x)] (st) h Q = Go d 155 8 [o0, o1, some (.int x)] (.int x :: st) h Q := go_lo (E := (.iload_n 2, 0, 0, 0)) rfl rfl rfl
theorem s_155_8 : Go d 155 8 L (.int x :: st) h Q = Go d 155 9 L (.long (x.toInt64) :: st) h Q := go_op (E := (.i2l, 0, 0, 0)) rfl rfl
theorem s_155_9 : Go d 155 9 L (st) h Q = Go d 155 10 L (.long (lN 0) :: st) h Q := go_op (E := (.lconst 0, 0, 0, 0)) rfl rfl
theorem s_155_10 : Go d 155 10 L (st) h Q = Go d 155 11 L (.long (lN 1) :: st) h Q := go_op (E := (.lconst 1, 0, 0, 0)) rfl rfl
theorem s_155_11 {al0 : Int64} {al1 : Int64} {al2 : Int64} : Go (d + 1) 155 11 L [.long al2, .long al1, .long al0] h Q = Go d 114 0 [some (.long al0), none, some (.long al1), none, some (.long al2), none] [] h (fun v h2 => Go (d + 1) 155 14 L (ap v []) h2 Q) := go_cx (E := (.invokestatic 84, 114, 0, 0)) (k' := 114) (as := [.long al0, .long al1, .long al2]) rfl rfl rfl rfl rfl rfl rfl rfl
theorem s_155_14 : Go d 155 14 L (.int x :: st) h Q = (if x = 0 then Go d 155 17 L st h Q else Go d 155 19 L st h Q) := go_ifne rfl
theorem s_155_17 : Go d 155 17 L (st) h Q = Go d 155 18 L (.int (-1) :: st) h Q := go_ic rfl ci_im1
theorem s_155_18 : Go d 155 18 L [.int x] h Q = Q (some (.int x)) h := go_ri rfl rfl
theorem s_155_19 : Go d 155 19 [some (.ref r), o1, o2] (st) h Q = Go d 155 20 [some (.ref r), o1, o2] (.ref r :: st) h Q := go_lo (E := (.aload_n 0, 0, 0, 0)) rfl rfl rfl
theorem s_155_20 : Go d 155 20 [o0, some (.int x), o2] (st) h Q = Go d 155 21 [o0, some (.int x), o2] (.int x :: st) h Q := go_lo (E := (.iload_n 1, 0, 0, 0)) rfl rfl rfl
theorem s_155_21 {a1 : Int32} : Go (d + 1) 155 21 L [.int a1, .ref 53] (HP lx xs M) Q = Go d 154 0 [some (.ref 53), some (.int a1), none, none] [] (HP lx xs M) (fun v h2 => Go (d + 1) 155 24 L (ap v []) h2 Q) := go_cx (E := (.invokevirtual 214, 154, 0, 7)) (k' := 154) (as := [.ref 53, .int a1]) rfl rfl rfl rfl rfl rfl rfl rfl
theorem s_155_24 : Go d 155 24 [o0, o1, some (.int x)] (st) h Q = Go d 155 25 [o0, o1, some (.int x)] (.int x :: st) h Q := go_lo (E := (.iload_n 2, 0, 0, 0)) rfl rfl rfl
theorem s_155_25 : Go d 155 25 L (.int x :: st) h Q = (if x = 0 then Go d 155 28 L st h Q else Go d 155 35 L st h Q) := go_ifne rfl
theorem s_155_28 : Go d 155 28 [some (.ref r), o1, o2] (st) h Q = Go d 155 29 [some (.ref r), o1, o2] (.ref r :: st) h Q := go_lo (E := (.aload_n 0, 0, 0, 0)) rfl rfl rfl
theorem s_155_29 : Go d 155 29 L (.ref 53 :: st) (HP lx xs M) Q = Go d 155 32 L (.int (M 53 26) :: st) (HP lx xs M) Q := go_gf rfl rfl (by decide) rfl
theorem s_155_32 : Go d 155 32 L (st) h Q = Go d 155 39 L (st) h Q := go_goto rfl
theorem s_155_35 : Go d 155 35 [some (.ref r), o1, o2] (st) h Q = Go d 155 36 [some (.ref r), o1, o2] (.ref r :: st) h Q := go_lo (E := (.aload_n 0, 0, 0, 0)) rfl rfl rfl
theorem s_155_36 : Go d 155 36 L (.ref 53 :: st) (HP lx xs M) Q = Go d 155 39 L (.int (M 53 27) :: st) (HP lx xs M) Q := go_gf rfl rfl (by decide) rfl
theorem s_155_39 : Go d 155 39 L [.int x] h Q = Q (some (.int x)) h := go_ri rfl rfl
theorem s_156_0 : Go d 156 0 [o0, some (.int x), o2, o3] (st) h Q = Go d 156 1 [o0, some (.int x), o2, o3] (.int x :: st) h Q := go_lo (E := (.iload_n 1, 0, 0, 0)) rfl rfl rfl
theorem s_156_1 {a0 : Int32} : Go (d + 1) 156 1 L [.int a0] h Q = Go d 117 0 [some (.int a0)] [] h (fun v h2 => Go (d + 1) 156 4 L (ap v []) h2 Q) := go_cx (E := (.invokestatic 98, 117, 0, 0)) (k' := 117) (as := [.int a0]) rfl rfl rfl rfl rfl rfl rfl rfl
theorem s_156_4 : Go d 156 4 L (.int x :: st) h Q = (if x = 0 then Go d 156 30 L st h Q else Go d 156 7 L st h Q) := go_ifeq rfl
theorem s_156_7 : Go d 156 7 [some (.ref r), o1, o2, o3] (st) h Q = Go d 156 8 [some (.ref r), o1, o2, o3] (.ref r :: st) h Q := go_lo (E := (.aload_n 0, 0, 0, 0)) rfl rfl rfl
theorem s_156_8 : Go d 156 8 [o0, o1, some (.int x), o3] (st) h Q = Go d 156 9 [o0, o1, some (.int x), o3] (.int x :: st) h Q := go_lo (E := (.iload_n 2, 0, 0, 0)) rfl rfl rfl
theorem s_156_9 {a1 : Int32} : Go (d + 1) 156 9 L [.int a1, .ref 53] (HP lx xs M) Q = Go d 116 0 [some (.ref 53), some (.int a1)] [] (HP lx xs M) (fun v h2 => Go (d + 1) 156 12 L (ap v []) h2 Q) := go_cx (E := (.invokevirtual 90, 116, 0, 7)) (k' := 116) (as := [.ref 53, .int a1]) rfl rfl rfl rfl rfl rfl rfl rfl
theorem s_156_12 : Go d 156 12 L (.int x :: st) h Q = (if x = 0 then Go d 156 30 L st h Q else Go d 156 15 L st h Q) := go_ifeq rfl
theorem s_156_15 : Go d 156 15 [some (.ref r), o1, o2, o3] (st) h Q = Go d 156 16 [some (.ref r), o1, o2, o3] (.ref r :: st) h Q := go_lo (E := (.aload_n 0, 0, 0, 0)) rfl rfl rfl
theorem s_156_16 : Go d 156 16 L (.ref 53 :: st) (HP lx xs M) Q = Go d 156 19 L (.ref 56 :: st) (HP lx xs M) Q := go_gf rfl rfl (by decide) rfl
theorem s_156_19 : Go d 156 19 L (st) h Q = Go d 156 20 L (.int (nI 4) :: st) h Q := go_ic rfl ci_i4
theorem s_156_20 : Go d 156 20 [o0, o1, some (.int x), o3] (st) h Q = Go d 156 21 [o0, o1, some (.int x), o3] (.int x :: st) h Q := go_lo (E := (.iload_n 2, 0, 0, 0)) rfl rfl rfl
theorem s_156_21 : Go d 156 21 L (.int y :: .int x :: st) h Q = Go d 156 22 L (.int (x * y) :: st) h Q := go_op (E := (.imul, 0, 0, 0)) rfl rfl
theorem s_156_22 : Go d 156 22 [o0, some (.int x), o2, o3] (st) h Q = Go d 156 23 [o0, some (.int x), o2, o3] (.int x :: st) h Q := go_lo (E := (.iload_n 1, 0, 0, 0)) rfl rfl rfl
theorem s_156_23 : Go d 156 23 L (.int y :: .int x :: st) h Q = Go d 156 24 L (.int (x + y) :: st) h Q := go_op (E := (.iadd, 0, 0, 0)) rfl rfl
theorem s_156_24 : Go d 156 24 L (.int x :: .ref 56 :: st) (HP lx xs M) Q = (ex_in x 24 = true ∧ Go d 156 25 L (.int (M 56 x.toNatClampNeg) :: st) (HP lx xs M) Q) := go_al rfl rfl
theorem s_156_25 : Go d 156 25 L (st) h Q = Go d 156 27 L (.int (nI 97) :: st) h Q := go_bi rfl ci_b97
theorem s_156_27 : Go d 156 27 L (.int y :: .int x :: st) h Q = (if x = y then Go d 156 30 L st h Q else Go d 156 32 L st h Q) := go_icne rfl
theorem s_156_30 : Go d 156 30 L (st) h Q = Go d 156 31 L (.int (-1) :: st) h Q := go_ic rfl ci_im1
theorem s_156_31 : Go d 156 31 L [.int x] h Q = Q (some (.int x)) h := go_ri rfl rfl
theorem s_156_32 : Go d 156 32 [some (.ref r), o1, o2, o3] (st) h Q = Go d 156 33 [some (.ref r), o1, o2, o3] (.ref r :: st) h Q := go_lo (E := (.aload_n 0, 0, 0, 0)) rfl rfl rfl
theorem s_156_33 : Go d 156 33 [o0, some (.int x), o2, o3] (st) h Q = Go d 156 34 [o0, some (.int x), o2, o3] (.int x :: st) h Q := go_lo (E := (.iload_n 1, 0, 0, 0)) rfl rfl rfl
theorem s_156_34 {a1 : Int32} : Go (d + 1) 156 34 L [.int a1, .ref 53] (HP lx xs M) Q = Go d 154 0 [some (.ref 53), some (.int a1), none, none] [] (HP lx xs M) (fun v h2 => Go (d + 1) 156 37 L (ap v []) h2 Q) := go_cx (E := (.invokevirtual 214, 154, 0, 7)) (k' := 154) (as := [.ref 53, .int a1]) rfl rfl rfl rfl rfl rfl rfl rfl
theorem s_156_37 : Go d 156 37 [some (.ref r), o1, o2, o3] (st) h Q = Go d 156 38 [some (.ref r), o1, o2, o3] (.ref r :: st) h Q := go_lo (E := (.aload_n 0, 0, 0, 0)) rfl rfl rfl
theorem s_156_38 : Go d 156 38 L (.ref 53 :: st) (HP lx xs M) Q = Go d 156 41 L (.int (M 53 26) :: st) (HP lx xs M) Q := go_gf rfl rfl (by decide) rfl
theorem s_156_41 : Go d 156 41 L (.int x :: st) h Q = (if x = 0 then Go d 156 44 L st h Q else Go d 156 47 L st h Q) := go_ifne rfl
theorem s_156_44 : Go d 156 44 L (st) h Q = Go d 156 46 L (.int (-4) :: st) h Q := go_bi rfl ci_bm4
theorem s_156_46 : Go d 156 46 L [.int x] h Q = Q (some (.int x)) h := go_ri rfl rfl
theorem s_156_47 : Go d 156 47 L (st) h Q = Go d 156 48 L (.int (nI 0) :: st) h Q := go_ic rfl ci_i0
theorem s_156_48 : Go d 156 48 [o0, o1, o2, o3] (.int x :: st) h Q = Go d 156 49 [o0, o1, o2, some (.int x)] (st) h Q := go_lo (E := (.istore_n 3, 0, 0, 0)) rfl rfl rfl
theorem s_156_49 : Go d 156 49 [some (.ref r), o1, o2, o3] (st) h Q = Go d 156 50 [some (.ref r), o1, o2, o3] (.ref r :: st) h Q := go_lo (E := (.aload_n 0, 0, 0, 0)) rfl rfl rfl
theorem s_156_50 : Go d 156 50 L (.ref 53 :: st) (HP lx xs M) Q = Go d 156 53 L (.ref 69 :: st) (HP lx xs M) Q := go_gf rfl rfl (by decide) rfl
theorem s_156_53 : Go d 156 53 [o0, o1, o2, some (.int x)] (st) h Q = Go d 156 54 [o0, o1, o2, some (.int x)] (.int x :: st) h Q := go_lo (E := (.iload_n 3, 0, 0, 0)) rfl rfl rfl
theorem s_156_54 : Go d 156 54 L (.int x :: .ref 69 :: st) (HP lx xs M) Q = (ex_in x 6 = true ∧ Go d 156 55 L (.int (M 69 x.toNatClampNeg) :: st) (HP lx xs M) Q) := go_al rfl rfl
theorem s_156_55 : Go d 156 55 [o0, o1, some (.int x), o3] (st) h Q = Go d 156 56 [o0, o1, some (.int x), o3] (.int x :: st) h Q := go_lo (E := (.iload_n 2, 0, 0, 0)) rfl rfl rfl
theorem s_156_56 : Go d 156 56 L (.int y :: .int x :: st) h Q = (if x = y then Go d 156 65 L st h Q else Go d 156 59 L st h Q) := go_iceq rfl
theorem s_156_59 : Go d 156 59 [o0, o1, o2, some (.int x)] (st) h Q = Go d 156 62 [o0, o1, o2, some (.int (x + nI 1))] (st) h Q := (ci_i1 ▸ go_lo (E := (.iinc 3 1, 0, 0, 0)) rfl rfl rfl : _ = Go d 156 62 [o0, o1, o2, some (.int (x + nI 1))] (st) h Q)
theorem s_156_62 : Go d 156 62 L (st) h Q = Go d 156 49 L (st) h Q := go_goto rfl
theorem s_156_65 : Go d 156 65 [some (.ref r), o1, o2, o3] (st) h Q = Go d 156 66 [some (.ref r), o1, o2, o3] (.ref r :: st) h Q := go_lo (E := (.aload_n 0, 0, 0, 0)) rfl rfl rfl
theorem s_156_66 : Go d 156 66 L (.ref 53 :: st) (HP lx xs M) Q = Go d 156 69 L (.ref 70 :: st) (HP lx xs M) Q := go_gf rfl rfl (by decide) rfl
theorem s_156_69 : Go d 156 69 [o0, o1, o2, some (.int x)] (st) h Q = Go d 156 70 [o0, o1, o2, some (.int x)] (.int x :: st) h Q := go_lo (E := (.iload_n 3, 0, 0, 0)) rfl rfl rfl
theorem s_156_70 : Go d 156 70 L (.int x :: .ref 70 :: st) (HP lx xs M) Q = (ex_in x 6 = true ∧ Go d 156 71 L (.int (M 70 x.toNatClampNeg) :: st) (HP lx xs M) Q) := go_al rfl rfl
theorem s_156_71 : Go d 156 71 [some (.ref r), o1, o2, o3] (st) h Q = Go d 156 72 [some (.ref r), o1, o2, o3] (.ref r :: st) h Q := go_lo (E := (.aload_n 0, 0, 0, 0)) rfl rfl rfl
theorem s_156_72 : Go d 156 72 L (.ref 53 :: st) (HP lx xs M) Q = Go d 156 75 L (.int (M 53 24) :: st) (HP lx xs M) Q := go_gf rfl rfl (by decide) rfl
theorem s_156_75 : Go d 156 75 L (.int y :: .int x :: st) h Q = (if x = y then Go d 156 78 L st h Q else Go d 156 83 L st h Q) := go_icne rfl
theorem s_156_78 : Go d 156 78 L (st) h Q = Go d 156 80 L (.int (nI 9) :: st) h Q := go_bi rfl ci_b9
theorem s_156_80 : Go d 156 80 L (st) h Q = Go d 156 94 L (st) h Q := go_goto rfl
theorem s_156_83 : Go d 156 83 [some (.ref r), o1, o2, o3] (st) h Q = Go d 156 84 [some (.ref r), o1, o2, o3] (.ref r :: st) h Q := go_lo (E := (.aload_n 0, 0, 0, 0)) rfl rfl rfl
theorem s_156_84 : Go d 156 84 L (.ref 53 :: st) (HP lx xs M) Q = Go d 156 87 L (.ref 69 :: st) (HP lx xs M) Q := go_gf rfl rfl (by decide) rfl
theorem s_156_87 : Go d 156 87 [some (.ref r), o1, o2, o3] (st) h Q = Go d 156 88 [some (.ref r), o1, o2, o3] (.ref r :: st) h Q := go_lo (E := (.aload_n 0, 0, 0, 0)) rfl rfl rfl
theorem s_156_88 : Go d 156 88 L (.ref 53 :: st) (HP lx xs M) Q = Go d 156 91 L (.ref 70 :: st) (HP lx xs M) Q := go_gf rfl rfl (by decide) rfl
theorem s_156_91 : Go d 156 91 [o0, o1, o2, some (.int x)] (st) h Q = Go d 156 92 [o0, o1, o2, some (.int x)] (.int x :: st) h Q := go_lo (E := (.iload_n 3, 0, 0, 0)) rfl rfl rfl
theorem s_156_92 : Go d 156 92 L (.int x :: .ref 70 :: st) (HP lx xs M) Q = (ex_in x 6 = true ∧ Go d 156 93 L (.int (M 70 x.toNatClampNeg) :: st) (HP lx xs M) Q) := go_al rfl rfl
theorem s_156_93 : Go d 156 93 L (.int x :: .ref 69 :: st) (HP lx xs M) Q = (ex_in x 6 = true ∧ Go d 156 94 L (.int (M 69 x.toNatClampNeg) :: st) (HP lx xs M) Q) := go_al rfl rfl
theorem s_156_94 : Go d 156 94 L [.int x] h Q = Q (some (.int x)) h := go_ri rfl rfl
theorem s_157_0 : Go d 157 0 L (st) h Q = Go d 157 1 L (.int (nI 0) :: st) h Q := go_ic rfl ci_i0
theorem s_157_1 : Go d 157 1 [o0, o1, o2, o3, o4, o5] (.int x :: st) h Q = Go d 157 2 [o0, o1, some (.int x), o3, o4, o5] (st) h Q := go_lo (E := (.istore_n 2, 0, 0, 0)) rfl rfl rfl
theorem s_157_2 : Go d 157 2 L (st) h Q = Go d 157 3 L (.int (nI 0) :: st) h Q := go_ic rfl ci_i0
theorem s_157_3 : Go d 157 3 [o0, o1, o2, o3, o4, o5] (.int x :: st) h Q = Go d 157 4 [o0, o1, o2, some (.int x), o4, o5] (st) h Q := go_lo (E := (.istore_n 3, 0, 0, 0)) rfl rfl rfl
theorem s_157_4 : Go d 157 4 [o0, o1, o2, some (.int x), o4, o5] (st) h Q = Go d 157 5 [o0, o1, o2, some (.int x), o4, o5] (.int x :: st) h Q := go_lo (E := (.iload_n 3, 0, 0, 0)) rfl rfl rfl
theorem s_157_5 : Go d 157 5 [some (.ref r), o1, o2, o3, o4, o5] (st) h Q = Go d 157 6 [some (.ref r), o1, o2, o3, o4, o5] (.ref r :: st) h Q := go_lo (E := (.aload_n 0, 0, 0, 0)) rfl rfl rfl
theorem s_157_6 : Go d 157 6 L (.ref 53 :: st) (HP lx xs M) Q = Go d 157 9 L (.int (M 53 4) :: st) (HP lx xs M) Q := go_gf rfl rfl (by decide) rfl
theorem s_157_9 : Go d 157 9 [some (.ref r), o1, o2, o3, o4, o5] (st) h Q = Go d 157 10 [some (.ref r), o1, o2, o3, o4, o5] (.ref r :: st) h Q := go_lo (E := (.aload_n 0, 0, 0, 0)) rfl rfl rfl
theorem s_157_10 : Go d 157 10 L (.ref 53 :: st) (HP lx xs M) Q = Go d 157 13 L (.int (M 53 4) :: st) (HP lx xs M) Q := go_gf rfl rfl (by decide) rfl
theorem s_157_13 : Go d 157 13 L (.int y :: .int x :: st) h Q = Go d 157 14 L (.int (x * y) :: st) h Q := go_op (E := (.imul, 0, 0, 0)) rfl rfl
theorem s_157_14 : Go d 157 14 L (st) h Q = Go d 157 15 L (.int (nI 4) :: st) h Q := go_ic rfl ci_i4
theorem s_157_15 : Go d 157 15 L (.int y :: .int x :: st) h Q = Go d 157 16 L (.int (x * y) :: st) h Q := go_op (E := (.imul, 0, 0, 0)) rfl rfl
theorem s_157_16 : Go d 157 16 L (.int y :: .int x :: st) h Q = (if x < y then Go d 157 19 L st h Q else Go d 157 87 L st h Q) := go_icge rfl
theorem s_157_19 : Go d 157 19 [o0, o1, o2, some (.int x), o4, o5] (st) h Q = Go d 157 20 [o0, o1, o2, some (.int x), o4, o5] (.int x :: st) h Q := go_lo (E := (.iload_n 3, 0, 0, 0)) rfl rfl rfl
theorem s_157_20 : Go d 157 20 L (st) h Q = Go d 157 21 L (.int (nI 4) :: st) h Q := go_ic rfl ci_i4
theorem s_157_21 : Go d 157 21 L (.int y :: .int x :: st) h Q = (¬ y = 0 ∧ Go d 157 22 L (.int (x / y) :: st) h Q) := go_idv rfl
theorem s_157_22 : Go d 157 22 [some (.ref r), o1, o2, o3, o4, o5] (st) h Q = Go d 157 23 [some (.ref r), o1, o2, o3, o4, o5] (.ref r :: st) h Q := go_lo (E := (.aload_n 0, 0, 0, 0)) rfl rfl rfl
theorem s_157_23 : Go d 157 23 L (.ref 53 :: st) (HP lx xs M) Q = Go d 157 26 L (.int (M 53 4) :: st) (HP lx xs M) Q := go_gf rfl rfl (by decide) rfl
theorem s_157_26 : Go d 157 26 L (.int y :: .int x :: st) h Q = (¬ y = 0 ∧ Go d 157 27 L (.int (x / y) :: st) h Q) := go_idv rfl
theorem s_157_27 : Go d 157 27 [o0, o1, o2, o3, o4, o5] (.int x :: st) h Q = Go d 157 29 [o0, o1, o2, o3, some (.int x), o5] (st) h Q := go_lo (E := (.istore 4, 0, 0, 0)) rfl rfl rfl
theorem s_157_29 : Go d 157 29 [o0, o1, o2, some (.int x), o4, o5] (st) h Q = Go d 157 30 [o0, o1, o2, some (.int x), o4, o5] (.int x :: st) h Q := go_lo (E := (.iload_n 3, 0, 0, 0)) rfl rfl rfl
theorem s_157_30 : Go d 157 30 L (st) h Q = Go d 157 31 L (.int (nI 4) :: st) h Q := go_ic rfl ci_i4
theorem s_157_31 : Go d 157 31 L (.int y :: .int x :: st) h Q = (¬ y = 0 ∧ Go d 157 32 L (.int (x / y) :: st) h Q) := go_idv rfl
theorem s_157_32 : Go d 157 32 [some (.ref r), o1, o2, o3, o4, o5] (st) h Q = Go d 157 33 [some (.ref r), o1, o2, o3, o4, o5] (.ref r :: st) h Q := go_lo (E := (.aload_n 0, 0, 0, 0)) rfl rfl rfl
theorem s_157_33 : Go d 157 33 L (.ref 53 :: st) (HP lx xs M) Q = Go d 157 36 L (.int (M 53 4) :: st) (HP lx xs M) Q := go_gf rfl rfl (by decide) rfl
theorem s_157_36 : Go d 157 36 L (.int y :: .int x :: st) h Q = (¬ y = 0 ∧ Go d 157 37 L (.int (x - x / y * y) :: st) h Q) := go_irm rfl
theorem s_157_37 : Go d 157 37 [o0, o1, o2, o3, o4, o5] (.int x :: st) h Q = Go d 157 39 [o0, o1, o2, o3, o4, some (.int x)] (st) h Q := go_lo (E := (.istore 5, 0, 0, 0)) rfl rfl rfl
theorem s_157_39 : Go d 157 39 [o0, o1, o2, o3, some (.int x), o5] (st) h Q = Go d 157 41 [o0, o1, o2, o3, some (.int x), o5] (.int x :: st) h Q := go_lo (E := (.iload 4, 0, 0, 0)) rfl rfl rfl
theorem s_157_41 : Go d 157 41 [o0, o1, o2, o3, o4, some (.int x)] (st) h Q = Go d 157 43 [o0, o1, o2, o3, o4, some (.int x)] (.int x :: st) h Q := go_lo (E := (.iload 5, 0, 0, 0)) rfl rfl rfl
theorem s_157_43 : Go d 157 43 L (.int y :: .int x :: st) h Q = (if x = y then Go d 157 81 L st h Q else Go d 157 46 L st h Q) := go_iceq rfl
theorem s_157_46 : Go d 157 46 [some (.ref r), o1, o2, o3, o4, o5] (st) h Q = Go d 157 47 [some (.ref r), o1, o2, o3, o4, o5] (.ref r :: st) h Q := go_lo (E := (.aload_n 0, 0, 0, 0)) rfl rfl rfl
theorem s_157_47 : Go d 157 47 [o0, o1, o2, o3, some (.int x), o5] (st) h Q = Go d 157 49 [o0, o1, o2, o3, some (.int x), o5] (.int x :: st) h Q := go_lo (E := (.iload 4, 0, 0, 0)) rfl rfl rfl
theorem s_157_49 : Go d 157 49 [o0, o1, o2, o3, o4, some (.int x)] (st) h Q = Go d 157 51 [o0, o1, o2, o3, o4, some (.int x)] (.int x :: st) h Q := go_lo (E := (.iload 5, 0, 0, 0)) rfl rfl rfl
theorem s_157_51 : Go d 157 51 [o0, o1, o2, some (.int x), o4, o5] (st) h Q = Go d 157 52 [o0, o1, o2, some (.int x), o4, o5] (.int x :: st) h Q := go_lo (E := (.iload_n 3, 0, 0, 0)) rfl rfl rfl
theorem s_157_52 : Go d 157 52 L (st) h Q = Go d 157 53 L (.int (nI 4) :: st) h Q := go_ic rfl ci_i4
theorem s_157_53 : Go d 157 53 L (.int y :: .int x :: st) h Q = (¬ y = 0 ∧ Go d 157 54 L (.int (x - x / y * y) :: st) h Q) := go_irm rfl
theorem s_157_54 {a1 : Int32} {a2 : Int32} {a3 : Int32} : Go (d + 1) 157 54 L [.int a3, .int a2, .int a1, .ref 53] (HP lx xs M) Q = Go d 137 0 [some (.ref 53), some (.int a1), some (.int a2), some (.int a3)] [] (HP lx xs M) (fun v h2 => Go (d + 1) 157 57 L (ap v []) h2 Q) := go_cx (E := (.invokevirtual 169, 137, 0, 7)) (k' := 137) (as := [.ref 53, .int a1, .int a2, .int a3]) rfl rfl rfl rfl rfl rfl rfl rfl
theorem s_157_57 : Go d 157 57 L (.int x :: st) h Q = (if x = 0 then Go d 157 81 L st h Q else Go d 157 60 L st h Q) := go_ifeq rfl
theorem s_157_60 : Go d 157 60 [o0, o1, some (.int x), o3, o4, o5] (st) h Q = Go d 157 61 [o0, o1, some (.int x), o3, o4, o5] (.int x :: st) h Q := go_lo (E := (.iload_n 2, 0, 0, 0)) rfl rfl rfl
theorem s_157_61 : Go d 157 61 [o0, some (.int x), o2, o3, o4, o5] (st) h Q = Go d 157 62 [o0, some (.int x), o2, o3, o4, o5] (.int x :: st) h Q := go_lo (E := (.iload_n 1, 0, 0, 0)) rfl rfl rfl
theorem s_157_62 : Go d 157 62 L (.int y :: .int x :: st) h Q = (if x = y then Go d 157 65 L st h Q else Go d 157 78 L st h Q) := go_icne rfl
theorem s_157_65 : Go d 157 65 [some (.ref r), o1, o2, o3, o4, o5] (st) h Q = Go d 157 66 [some (.ref r), o1, o2, o3, o4, o5] (.ref r :: st) h Q := go_lo (E := (.aload_n 0, 0, 0, 0)) rfl rfl rfl
theorem s_157_66 : Go d 157 66 [o0, o1, o2, o3, some (.int x), o5] (st) h Q = Go d 157 68 [o0, o1, o2, o3, some (.int x), o5] (.int x :: st) h Q := go_lo (E := (.iload 4, 0, 0, 0)) rfl rfl rfl
theorem s_157_68 : Go d 157 68 [o0, o1, o2, o3, o4, some (.int x)] (st) h Q = Go d 157 70 [o0, o1, o2, o3, o4, some (.int x)] (.int x :: st) h Q := go_lo (E := (.iload 5, 0, 0, 0)) rfl rfl rfl
theorem s_157_70 : Go d 157 70 [o0, o1, o2, some (.int x), o4, o5] (st) h Q = Go d 157 71 [o0, o1, o2, some (.int x), o4, o5] (.int x :: st) h Q := go_lo (E := (.iload_n 3, 0, 0, 0)) rfl rfl rfl
theorem s_157_71 : Go d 157 71 L (st) h Q = Go d 157 72 L (.int (nI 4) :: st) h Q := go_ic rfl ci_i4
theorem s_157_72 : Go d 157 72 L (.int y :: .int x :: st) h Q = (¬ y = 0 ∧ Go d 157 73 L (.int (x - x / y * y) :: st) h Q) := go_irm rfl
theorem s_157_73 {a1 : Int32} {a2 : Int32} {a3 : Int32} : Go (d + 1) 157 73 L [.int a3, .int a2, .int a1, .ref 53] (HP lx xs M) Q = Go d 138 0 [some (.ref 53), some (.int a1), some (.int a2), some (.int a3)] [] (HP lx xs M) (fun v h2 => Go (d + 1) 157 76 L (ap v []) h2 Q) := go_cx (E := (.invokevirtual 173, 138, 0, 7)) (k' := 138) (as := [.ref 53, .int a1, .int a2, .int a3]) rfl rfl rfl rfl rfl rfl rfl rfl
theorem s_157_76 : Go d 157 76 [o0, o1, some (.int x), o3, o4, o5] (st) h Q = Go d 157 77 [o0, o1, some (.int x), o3, o4, o5] (.int x :: st) h Q := go_lo (E := (.iload_n 2, 0, 0, 0)) rfl rfl rfl
theorem s_157_77 : Go d 157 77 L [.int x] h Q = Q (some (.int x)) h := go_ri rfl rfl
theorem s_157_78 : Go d 157 78 [o0, o1, some (.int x), o3, o4, o5] (st) h Q = Go d 157 81 [o0, o1, some (.int (x + nI 1)), o3, o4, o5] (st) h Q := (ci_i1 ▸ go_lo (E := (.iinc 2 1, 0, 0, 0)) rfl rfl rfl : _ = Go d 157 81 [o0, o1, some (.int (x + nI 1)), o3, o4, o5] (st) h Q)
theorem s_157_81 : Go d 157 81 [o0, o1, o2, some (.int x), o4, o5] (st) h Q = Go d 157 84 [o0, o1, o2, some (.int (x + nI 1)), o4, o5] (st) h Q := (ci_i1 ▸ go_lo (E := (.iinc 3 1, 0, 0, 0)) rfl rfl rfl : _ = Go d 157 84 [o0, o1, o2, some (.int (x + nI 1)), o4, o5] (st) h Q)
theorem s_157_84 : Go d 157 84 L (st) h Q = Go d 157 4 L (st) h Q := go_goto rfl
theorem s_157_87 : Go d 157 87 [o0, o1, some (.int x), o3, o4, o5] (st) h Q = Go d 157 88 [o0, o1, some (.int x), o3, o4, o5] (.int x :: st) h Q := go_lo (E := (.iload_n 2, 0, 0, 0)) rfl rfl rfl
theorem s_157_88 : Go d 157 88 L [.int x] h Q = Q (some (.int x)) h := go_ri rfl rfl
theorem s_158_0 : Go d 158 0 [o0, some (.int x), o2, o3] (st) h Q = Go d 158 1 [o0, some (.int x), o2, o3] (.int x :: st) h Q := go_lo (E := (.iload_n 1, 0, 0, 0)) rfl rfl rfl
theorem s_158_1 : Go d 158 1 L (.int x :: st) h Q = Go d 158 2 L (.long (x.toInt64) :: st) h Q := go_op (E := (.i2l, 0, 0, 0)) rfl rfl
theorem s_158_2 : Go d 158 2 L (st) h Q = Go d 158 3 L (.long (lN 1) :: st) h Q := go_op (E := (.lconst 1, 0, 0, 0)) rfl rfl
theorem s_158_3 : Go d 158 3 L (st) h Q = Go d 158 6 L (.long (lN 60) :: st) h Q := go_ld2 rfl ci_l60
theorem s_158_6 {al0 : Int64} {al1 : Int64} {al2 : Int64} : Go (d + 1) 158 6 L [.long al2, .long al1, .long al0] h Q = Go d 114 0 [some (.long al0), none, some (.long al1), none, some (.long al2), none] [] h (fun v h2 => Go (d + 1) 158 9 L (ap v []) h2 Q) := go_cx (E := (.invokestatic 84, 114, 0, 0)) (k' := 114) (as := [.long al0, .long al1, .long al2]) rfl rfl rfl rfl rfl rfl rfl rfl
theorem s_158_9 : Go d 158 9 L (.int x :: st) h Q = (if x = 0 then Go d 158 12 L st h Q else Go d 158 14 L st h Q) := go_ifne rfl
theorem s_158_12 : Go d 158 12 L (st) h Q = Go d 158 13 L (.int (-1) :: st) h Q := go_ic rfl ci_im1
theorem s_158_13 : Go d 158 13 L [.int x] h Q = Q (some (.int x)) h := go_ri rfl rfl
theorem s_158_14 : Go d 158 14 L (st) h Q = Go d 158 15 L (.int (nI 0) :: st) h Q := go_ic rfl ci_i0
theorem s_158_15 : Go d 158 15 [o0, o1, o2, o3] (.int x :: st) h Q = Go d 158 16 [o0, o1, some (.int x), o3] (st) h Q := go_lo (E := (.istore_n 2, 0, 0, 0)) rfl rfl rfl
theorem s_158_16 : Go d 158 16 [o0, o1, some (.int x), o3] (st) h Q = Go d 158 17 [o0, o1, some (.int x), o3] (.int x :: st) h Q := go_lo (E := (.iload_n 2, 0, 0, 0)) rfl rfl rfl
theorem s_158_17 : Go d 158 17 [o0, some (.int x), o2, o3] (st) h Q = Go d 158 18 [o0, some (.int x), o2, o3] (.int x :: st) h Q := go_lo (E := (.iload_n 1, 0, 0, 0)) rfl rfl rfl
theorem s_158_18 : Go d 158 18 L (.int y :: .int x :: st) h Q = (if x < y then Go d 158 21 L st h Q else Go d 158 75 L st h Q) := go_icge rfl
theorem s_158_21 : Go d 158 21 [some (.ref r), o1, o2, o3] (st) h Q = Go d 158 22 [some (.ref r), o1, o2, o3] (.ref r :: st) h Q := go_lo (E := (.aload_n 0, 0, 0, 0)) rfl rfl rfl
theorem s_158_22 : Go d 158 22 L (st) h Q = Go d 158 23 L (.int (-1) :: st) h Q := go_ic rfl ci_im1
theorem s_158_23 {a1 : Int32} : Go (d + 1) 158 23 L [.int a1, .ref 53] (HP lx xs M) Q = Go d 157 0 [some (.ref 53), some (.int a1), none, none, none, none] [] (HP lx xs M) (fun v h2 => Go (d + 1) 158 26 L (ap v []) h2 Q) := go_cx (E := (.invokevirtual 219, 157, 0, 7)) (k' := 157) (as := [.ref 53, .int a1]) rfl rfl rfl rfl rfl rfl rfl rfl
theorem s_158_26 : Go d 158 26 [o0, o1, o2, o3] (.int x :: st) h Q = Go d 158 27 [o0, o1, o2, some (.int x)] (st) h Q := go_lo (E := (.istore_n 3, 0, 0, 0)) rfl rfl rfl
theorem s_158_27 : Go d 158 27 [o0, o1, o2, some (.int x)] (st) h Q = Go d 158 28 [o0, o1, o2, some (.int x)] (.int x :: st) h Q := go_lo (E := (.iload_n 3, 0, 0, 0)) rfl rfl rfl
theorem s_158_28 : Go d 158 28 L (.int x :: st) h Q = (if x = 0 then Go d 158 31 L st h Q else Go d 158 33 L st h Q) := go_ifne rfl
theorem s_158_31 : Go d 158 31 [o0, o1, some (.int x), o3] (st) h Q = Go d 158 32 [o0, o1, some (.int x), o3] (.int x :: st) h Q := go_lo (E := (.iload_n 2, 0, 0, 0)) rfl rfl rfl
theorem s_158_32 : Go d 158 32 L [.int x] h Q = Q (some (.int x)) h := go_ri rfl rfl
theorem s_158_33 : Go d 158 33 [some (.ref r), o1, o2, o3] (st) h Q = Go d 158 34 [some (.ref r), o1, o2, o3] (.ref r :: st) h Q := go_lo (E := (.aload_n 0, 0, 0, 0)) rfl rfl rfl
theorem s_158_34 : Go d 158 34 [some (.ref r), o1, o2, o3] (st) h Q = Go d 158 35 [some (.ref r), o1, o2, o3] (.ref r :: st) h Q := go_lo (E := (.aload_n 0, 0, 0, 0)) rfl rfl rfl
theorem s_158_35 : Go d 158 35 L (.ref 53 :: st) (HP lx xs M) Q = Go d 158 38 L (.int (M 53 8) :: st) (HP lx xs M) Q := go_gf rfl rfl (by decide) rfl
theorem s_158_38 : Go d 158 38 L (.int x :: st) h Q = Go d 158 39 L (.long (x.toInt64) :: st) h Q := go_op (E := (.i2l, 0, 0, 0)) rfl rfl
theorem s_158_39 : Go d 158 39 L (st) h Q = Go d 158 42 L (.long (lN 1103515245) :: st) h Q := go_ld2 rfl ci_l1103515245
theorem s_158_42 : Go d 158 42 L (.long w :: .long u :: st) h Q = Go d 158 43 L (.long (u * w) :: st) h Q := go_op (E := (.lmul, 0, 0, 0)) rfl rfl
theorem s_158_43 : Go d 158 43 L (st) h Q = Go d 158 46 L (.long (lN 12345) :: st) h Q := go_ld2 rfl ci_l12345
theorem s_158_46 : Go d 158 46 L (.long w :: .long u :: st) h Q = Go d 158 47 L (.long (u + w) :: st) h Q := go_op (E := (.ladd, 0, 0, 0)) rfl rfl
theorem s_158_47 : Go d 158 47 L (st) h Q = Go d 158 50 L (.long (lN 2147483647) :: st) h Q := go_ld2 rfl ci_l2147483647
theorem s_158_50 : Go d 158 50 L (.long w :: .long u :: st) h Q = Go d 158 51 L (.long (u &&& w) :: st) h Q := go_op (E := (.land, 0, 0, 0)) rfl rfl
theorem s_158_51 : Go d 158 51 L (.long u :: st) h Q = Go d 158 52 L (.int (u.toInt32) :: st) h Q := go_op (E := (.l2i, 0, 0, 0)) rfl rfl
theorem s_158_52 : Go d 158 52 L (.int x :: .ref 53 :: st) (HP lx xs M) Q = Go d 158 55 L (st) (HP lx xs (up M 53 8 x)) Q := go_pf rfl rfl (by decide) (Nat.le_of_ble_eq_true rfl) rfl hf_53_8
theorem s_158_55 : Go d 158 55 [some (.ref r), o1, o2, o3] (st) h Q = Go d 158 56 [some (.ref r), o1, o2, o3] (.ref r :: st) h Q := go_lo (E := (.aload_n 0, 0, 0, 0)) rfl rfl rfl
theorem s_158_56 : Go d 158 56 [some (.ref r), o1, o2, o3] (st) h Q = Go d 158 57 [some (.ref r), o1, o2, o3] (.ref r :: st) h Q := go_lo (E := (.aload_n 0, 0, 0, 0)) rfl rfl rfl
theorem s_158_57 : Go d 158 57 L (.ref 53 :: st) (HP lx xs M) Q = Go d 158 60 L (.int (M 53 8) :: st) (HP lx xs M) Q := go_gf rfl rfl (by decide) rfl
theorem s_158_60 : Go d 158 60 L (st) h Q = Go d 158 62 L (.int (nI 65536) :: st) h Q := go_ld rfl ci_i65536
theorem s_158_62 : Go d 158 62 L (.int y :: .int x :: st) h Q = (¬ y = 0 ∧ Go d 158 63 L (.int (x / y) :: st) h Q) := go_idv rfl
theorem s_158_63 : Go d 158 63 [o0, o1, o2, some (.int x)] (st) h Q = Go d 158 64 [o0, o1, o2, some (.int x)] (.int x :: st) h Q := go_lo (E := (.iload_n 3, 0, 0, 0)) rfl rfl rfl
theorem s_158_64 : Go d 158 64 L (.int y :: .int x :: st) h Q = (¬ y = 0 ∧ Go d 158 65 L (.int (x - x / y * y) :: st) h Q) := go_irm rfl
theorem s_158_65 {a1 : Int32} : Go (d + 1) 158 65 L [.int a1, .ref 53] (HP lx xs M) Q = Go d 157 0 [some (.ref 53), some (.int a1), none, none, none, none] [] (HP lx xs M) (fun v h2 => Go (d + 1) 158 68 L (ap v []) h2 Q) := go_cx (E := (.invokevirtual 219, 157, 0, 7)) (k' := 157) (as := [.ref 53, .int a1]) rfl rfl rfl rfl rfl rfl rfl rfl
theorem s_158_68 : Go d 158 68 L (.int x :: st) h Q = Go d 158 69 L (st) h Q := go_op (E := (.pop, 0, 0, 0)) rfl rfl
theorem s_158_69 : Go d 158 69 [o0, o1, some (.int x), o3] (st) h Q = Go d 158 72 [o0, o1, some (.int (x + nI 1)), o3] (st) h Q := (ci_i1 ▸ go_lo (E := (.iinc 2 1, 0, 0, 0)) rfl rfl rfl : _ = Go d 158 72 [o0, o1, some (.int (x + nI 1)), o3] (st) h Q)
theorem s_158_72 : Go d 158 72 L (st) h Q = Go d 158 16 L (st) h Q := go_goto rfl
theorem s_158_75 : Go d 158 75 [o0, some (.int x), o2, o3] (st) h Q = Go d 158 76 [o0, some (.int x), o2, o3] (.int x :: st) h Q := go_lo (E := (.iload_n 1, 0, 0, 0)) rfl rfl rfl
theorem s_158_76 : Go d 158 76 L [.int x] h Q = Q (some (.int x)) h := go_ri rfl rfl
theorem s_159_0 : Go d 159 0 [o0, some (.int x), o2] (st) h Q = Go d 159 1 [o0, some (.int x), o2] (.int x :: st) h Q := go_lo (E := (.iload_n 1, 0, 0, 0)) rfl rfl rfl
theorem s_159_1 : Go d 159 1 L (.int x :: st) h Q = (if x < 0 then Go d 159 4 L st h Q else Go d 159 6 L st h Q) := go_ifge rfl
theorem s_159_4 : Go d 159 4 L (st) h Q = Go d 159 5 L (.int (-1) :: st) h Q := go_ic rfl ci_im1
theorem s_159_5 : Go d 159 5 L [.int x] h Q = Q (some (.int x)) h := go_ri rfl rfl
theorem s_159_6 : Go d 159 6 [some (.ref r), o1, o2] (st) h Q = Go d 159 7 [some (.ref r), o1, o2] (.ref r :: st) h Q := go_lo (E := (.aload_n 0, 0, 0, 0)) rfl rfl rfl
theorem s_159_7 : Go d 159 7 L (.ref 53 :: st) (HP lx xs M) Q = Go d 159 10 L (.int (M 53 8) :: st) (HP lx xs M) Q := go_gf rfl rfl (by decide) rfl
theorem s_159_10 : Go d 159 10 [o0, o1, o2] (.int x :: st) h Q = Go d 159 11 [o0, o1, some (.int x)] (st) h Q := go_lo (E := (.istore_n 2, 0, 0, 0)) rfl rfl rfl
theorem s_159_11 : Go d 159 11 [some (.ref r), o1, o2] (st) h Q = Go d 159 12 [some (.ref r), o1, o2] (.ref r :: st) h Q := go_lo (E := (.aload_n 0, 0, 0, 0)) rfl rfl rfl
theorem s_159_12 : Go d 159 12 [o0, some (.int x), o2] (st) h Q = Go d 159 13 [o0, some (.int x), o2] (.int x :: st) h Q := go_lo (E := (.iload_n 1, 0, 0, 0)) rfl rfl rfl
theorem s_159_13 : Go d 159 13 L (.int x :: .ref 53 :: st) (HP lx xs M) Q = Go d 159 16 L (st) (HP lx xs (up M 53 8 x)) Q := go_pf rfl rfl (by decide) (Nat.le_of_ble_eq_true rfl) rfl hf_53_8
theorem s_159_16 : Go d 159 16 [o0, o1, some (.int x)] (st) h Q = Go d 159 17 [o0, o1, some (.int x)] (.int x :: st) h Q := go_lo (E := (.iload_n 2, 0, 0, 0)) rfl rfl rfl
theorem s_159_17 : Go d 159 17 L [.int x] h Q = Q (some (.int x)) h := go_ri rfl rfl
theorem s_160_0 : Go d 160 0 [o0, some (.int x), o2, o3, o4] (st) h Q = Go d 160 1 [o0, some (.int x), o2, o3, o4] (.int x :: st) h Q := go_lo (E := (.iload_n 1, 0, 0, 0)) rfl rfl rfl
theorem s_160_1 : Go d 160 1 L (st) h Q = Go d 160 3 L (.int (nI 12) :: st) h Q := go_bi rfl ci_b12
theorem s_160_3 : Go d 160 3 L (.int y :: .int x :: st) h Q = (if x < y then Go d 160 6 L st h Q else Go d 160 92 L st h Q) := go_icge rfl
theorem s_160_6 : Go d 160 6 [o0, some (.int x), o2, o3, o4] (st) h Q = Go d 160 7 [o0, some (.int x), o2, o3, o4] (.int x :: st) h Q := go_lo (E := (.iload_n 1, 0, 0, 0)) rfl rfl rfl
theorem s_160_7 : Go d 160 7 L (st) h Q = Go d 160 9 L (.int (nI 6) :: st) h Q := go_bi rfl ci_b6
theorem s_160_9 : Go d 160 9 L (.int y :: .int x :: st) h Q = (¬ y = 0 ∧ Go d 160 10 L (.int (x - x / y * y) :: st) h Q) := go_irm rfl
theorem s_160_10 : Go d 160 10 [o0, o1, o2, o3, o4] (.int x :: st) h Q = Go d 160 12 [o0, o1, o2, o3, some (.int x)] (st) h Q := go_lo (E := (.istore 4, 0, 0, 0)) rfl rfl rfl
theorem s_160_12 : Go d 160 12 [some (.ref r), o1, o2, o3, o4] (st) h Q = Go d 160 13 [some (.ref r), o1, o2, o3, o4] (.ref r :: st) h Q := go_lo (E := (.aload_n 0, 0, 0, 0)) rfl rfl rfl
theorem s_160_13 : Go d 160 13 L (.ref 53 :: st) (HP lx xs M) Q = Go d 160 16 L (.ref 54 :: st) (HP lx xs M) Q := go_gf rfl rfl (by decide) rfl
theorem s_160_16 : Go d 160 16 [o0, o1, o2, o3, some (.int x)] (st) h Q = Go d 160 18 [o0, o1, o2, o3, some (.int x)] (.int x :: st) h Q := go_lo (E := (.iload 4, 0, 0, 0)) rfl rfl rfl
theorem s_160_18 : Go d 160 18 [o0, o1, o2, some (.int x), o4] (st) h Q = Go d 160 19 [o0, o1, o2, some (.int x), o4] (.int x :: st) h Q := go_lo (E := (.iload_n 3, 0, 0, 0)) rfl rfl rfl
theorem s_160_19 : Go d 160 19 L (.int x :: st) h Q = (if x = 0 then Go d 160 32 L st h Q else Go d 160 22 L st h Q) := go_ifeq rfl
theorem s_160_22 : Go d 160 22 [o0, some (.int x), o2, o3, o4] (st) h Q = Go d 160 23 [o0, some (.int x), o2, o3, o4] (.int x :: st) h Q := go_lo (E := (.iload_n 1, 0, 0, 0)) rfl rfl rfl
theorem s_160_23 : Go d 160 23 L (st) h Q = Go d 160 25 L (.int (nI 6) :: st) h Q := go_bi rfl ci_b6
theorem s_160_25 : Go d 160 25 L (.int y :: .int x :: st) h Q = (if x < y then Go d 160 28 L st h Q else Go d 160 32 L st h Q) := go_icge rfl
theorem s_160_28 : Go d 160 28 [o0, o1, some (.int x), o3, o4] (st) h Q = Go d 160 29 [o0, o1, some (.int x), o3, o4] (.int x :: st) h Q := go_lo (E := (.iload_n 2, 0, 0, 0)) rfl rfl rfl
theorem s_160_29 : Go d 160 29 L (st) h Q = Go d 160 39 L (st) h Q := go_goto rfl
theorem s_160_32 : Go d 160 32 [some (.ref r), o1, o2, o3, o4] (st) h Q = Go d 160 33 [some (.ref r), o1, o2, o3, o4] (.ref r :: st) h Q := go_lo (E := (.aload_n 0, 0, 0, 0)) rfl rfl rfl
theorem s_160_33 : Go d 160 33 L (.ref 53 :: st) (HP lx xs M) Q = Go d 160 36 L (.ref 54 :: st) (HP lx xs M) Q := go_gf rfl rfl (by decide) rfl
theorem s_160_36 : Go d 160 36 [o0, o1, o2, o3, some (.int x)] (st) h Q = Go d 160 38 [o0, o1, o2, o3, some (.int x)] (.int x :: st) h Q := go_lo (E := (.iload 4, 0, 0, 0)) rfl rfl rfl
theorem s_160_38 : Go d 160 38 L (.int x :: .ref 54 :: st) (HP lx xs M) Q = (ex_in x 6 = true ∧ Go d 160 39 L (.int (M 54 x.toNatClampNeg) :: st) (HP lx xs M) Q) := go_al rfl rfl
theorem s_160_39 : Go d 160 39 L (.int y :: .int x :: .ref 54 :: st) (HP lx xs M) Q = (ex_in x 6 = true ∧ Go d 160 40 L (st) (HP lx xs (up M 54 x.toNatClampNeg y)) Q) := go_as rfl rfl (by decide) hs_54
theorem s_160_40 : Go d 160 40 [some (.ref r), o1, o2, o3, o4] (st) h Q = Go d 160 41 [some (.ref r), o1, o2, o3, o4] (.ref r :: st) h Q := go_lo (E := (.aload_n 0, 0, 0, 0)) rfl rfl rfl
theorem s_160_41 : Go d 160 41 L (.ref 53 :: st) (HP lx xs M) Q = Go d 160 44 L (.ref 55 :: st) (HP lx xs M) Q := go_gf rfl rfl (by decide) rfl
theorem s_160_44 : Go d 160 44 [o0, o1, o2, o3, some (.int x)] (st) h Q = Go d 160 46 [o0, o1, o2, o3, some (.int x)] (.int x :: st) h Q := go_lo (E := (.iload 4, 0, 0, 0)) rfl rfl rfl
theorem s_160_46 : Go d 160 46 [o0, o1, o2, some (.int x), o4] (st) h Q = Go d 160 47 [o0, o1, o2, some (.int x), o4] (.int x :: st) h Q := go_lo (E := (.iload_n 3, 0, 0, 0)) rfl rfl rfl
theorem s_160_47 : Go d 160 47 L (.int x :: st) h Q = (if x = 0 then Go d 160 60 L st h Q else Go d 160 50 L st h Q) := go_ifeq rfl
theorem s_160_50 : Go d 160 50 [o0, some (.int x), o2, o3, o4] (st) h Q = Go d 160 51 [o0, some (.int x), o2, o3, o4] (.int x :: st) h Q := go_lo (E := (.iload_n 1, 0, 0, 0)) rfl rfl rfl
theorem s_160_51 : Go d 160 51 L (st) h Q = Go d 160 53 L (.int (nI 6) :: st) h Q := go_bi rfl ci_b6
theorem s_160_53 : Go d 160 53 L (.int y :: .int x :: st) h Q = (if x < y then Go d 160 60 L st h Q else Go d 160 56 L st h Q) := go_iclt rfl
theorem s_160_56 : Go d 160 56 [o0, o1, some (.int x), o3, o4] (st) h Q = Go d 160 57 [o0, o1, some (.int x), o3, o4] (.int x :: st) h Q := go_lo (E := (.iload_n 2, 0, 0, 0)) rfl rfl rfl
theorem s_160_57 : Go d 160 57 L (st) h Q = Go d 160 67 L (st) h Q := go_goto rfl
theorem s_160_60 : Go d 160 60 [some (.ref r), o1, o2, o3, o4] (st) h Q = Go d 160 61 [some (.ref r), o1, o2, o3, o4] (.ref r :: st) h Q := go_lo (E := (.aload_n 0, 0, 0, 0)) rfl rfl rfl
theorem s_160_61 : Go d 160 61 L (.ref 53 :: st) (HP lx xs M) Q = Go d 160 64 L (.ref 55 :: st) (HP lx xs M) Q := go_gf rfl rfl (by decide) rfl
theorem s_160_64 : Go d 160 64 [o0, o1, o2, o3, some (.int x)] (st) h Q = Go d 160 66 [o0, o1, o2, o3, some (.int x)] (.int x :: st) h Q := go_lo (E := (.iload 4, 0, 0, 0)) rfl rfl rfl
theorem s_160_66 : Go d 160 66 L (.int x :: .ref 55 :: st) (HP lx xs M) Q = (ex_in x 6 = true ∧ Go d 160 67 L (.int (M 55 x.toNatClampNeg) :: st) (HP lx xs M) Q) := go_al rfl rfl
theorem s_160_67 : Go d 160 67 L (.int y :: .int x :: .ref 55 :: st) (HP lx xs M) Q = (ex_in x 6 = true ∧ Go d 160 68 L (st) (HP lx xs (up M 55 x.toNatClampNeg y)) Q) := go_as rfl rfl (by decide) hs_55
theorem s_160_68 : Go d 160 68 [o0, some (.int x), o2, o3, o4] (st) h Q = Go d 160 69 [o0, some (.int x), o2, o3, o4] (.int x :: st) h Q := go_lo (E := (.iload_n 1, 0, 0, 0)) rfl rfl rfl
theorem s_160_69 : Go d 160 69 L (st) h Q = Go d 160 71 L (.int (nI 6) :: st) h Q := go_bi rfl ci_b6
theorem s_160_71 : Go d 160 71 L (.int y :: .int x :: st) h Q = (if x < y then Go d 160 74 L st h Q else Go d 160 84 L st h Q) := go_icge rfl
theorem s_160_74 : Go d 160 74 [some (.ref r), o1, o2, o3, o4] (st) h Q = Go d 160 75 [some (.ref r), o1, o2, o3, o4] (.ref r :: st) h Q := go_lo (E := (.aload_n 0, 0, 0, 0)) rfl rfl rfl
theorem s_160_75 : Go d 160 75 L (.ref 53 :: st) (HP lx xs M) Q = Go d 160 78 L (.ref 54 :: st) (HP lx xs M) Q := go_gf rfl rfl (by decide) rfl
theorem s_160_78 : Go d 160 78 [o0, o1, o2, o3, some (.int x)] (st) h Q = Go d 160 80 [o0, o1, o2, o3, some (.int x)] (.int x :: st) h Q := go_lo (E := (.iload 4, 0, 0, 0)) rfl rfl rfl
theorem s_160_80 : Go d 160 80 L (.int x :: .ref 54 :: st) (HP lx xs M) Q = (ex_in x 6 = true ∧ Go d 160 81 L (.int (M 54 x.toNatClampNeg) :: st) (HP lx xs M) Q) := go_al rfl rfl
theorem s_160_81 : Go d 160 81 L (st) h Q = Go d 160 91 L (st) h Q := go_goto rfl
theorem s_160_84 : Go d 160 84 [some (.ref r), o1, o2, o3, o4] (st) h Q = Go d 160 85 [some (.ref r), o1, o2, o3, o4] (.ref r :: st) h Q := go_lo (E := (.aload_n 0, 0, 0, 0)) rfl rfl rfl
theorem s_160_85 : Go d 160 85 L (.ref 53 :: st) (HP lx xs M) Q = Go d 160 88 L (.ref 55 :: st) (HP lx xs M) Q := go_gf rfl rfl (by decide) rfl
theorem s_160_88 : Go d 160 88 [o0, o1, o2, o3, some (.int x)] (st) h Q = Go d 160 90 [o0, o1, o2, o3, some (.int x)] (.int x :: st) h Q := go_lo (E := (.iload 4, 0, 0, 0)) rfl rfl rfl
theorem s_160_90 : Go d 160 90 L (.int x :: .ref 55 :: st) (HP lx xs M) Q = (ex_in x 6 = true ∧ Go d 160 91 L (.int (M 55 x.toNatClampNeg) :: st) (HP lx xs M) Q) := go_al rfl rfl
theorem s_160_91 : Go d 160 91 L [.int x] h Q = Q (some (.int x)) h := go_ri rfl rfl
theorem s_160_92 : Go d 160 92 [o0, some (.int x), o2, o3, o4] (st) h Q = Go d 160 93 [o0, some (.int x), o2, o3, o4] (.int x :: st) h Q := go_lo (E := (.iload_n 1, 0, 0, 0)) rfl rfl rfl
theorem s_160_93 : Go d 160 93 L (st) h Q = Go d 160 95 L (.int (nI 36) :: st) h Q := go_bi rfl ci_b36
theorem s_160_95 : Go d 160 95 L (.int y :: .int x :: st) h Q = (if x < y then Go d 160 98 L st h Q else Go d 160 134 L st h Q) := go_icge rfl
theorem s_160_98 : Go d 160 98 [some (.ref r), o1, o2, o3, o4] (st) h Q = Go d 160 99 [some (.ref r), o1, o2, o3, o4] (.ref r :: st) h Q := go_lo (E := (.aload_n 0, 0, 0, 0)) rfl rfl rfl
theorem s_160_99 : Go d 160 99 L (.ref 53 :: st) (HP lx xs M) Q = Go d 160 102 L (.ref 56 :: st) (HP lx xs M) Q := go_gf rfl rfl (by decide) rfl
theorem s_160_102 : Go d 160 102 [o0, some (.int x), o2, o3, o4] (st) h Q = Go d 160 103 [o0, some (.int x), o2, o3, o4] (.int x :: st) h Q := go_lo (E := (.iload_n 1, 0, 0, 0)) rfl rfl rfl
theorem s_160_103 : Go d 160 103 L (st) h Q = Go d 160 105 L (.int (nI 12) :: st) h Q := go_bi rfl ci_b12
theorem s_160_105 : Go d 160 105 L (.int y :: .int x :: st) h Q = Go d 160 106 L (.int (x - y) :: st) h Q := go_op (E := (.isub, 0, 0, 0)) rfl rfl
theorem s_160_106 : Go d 160 106 [o0, o1, o2, some (.int x), o4] (st) h Q = Go d 160 107 [o0, o1, o2, some (.int x), o4] (.int x :: st) h Q := go_lo (E := (.iload_n 3, 0, 0, 0)) rfl rfl rfl
theorem s_160_107 : Go d 160 107 L (.int x :: st) h Q = (if x = 0 then Go d 160 114 L st h Q else Go d 160 110 L st h Q) := go_ifeq rfl
theorem s_160_110 : Go d 160 110 [o0, o1, some (.int x), o3, o4] (st) h Q = Go d 160 111 [o0, o1, some (.int x), o3, o4] (.int x :: st) h Q := go_lo (E := (.iload_n 2, 0, 0, 0)) rfl rfl rfl
theorem s_160_111 : Go d 160 111 L (st) h Q = Go d 160 123 L (st) h Q := go_goto rfl
theorem s_160_114 : Go d 160 114 [some (.ref r), o1, o2, o3, o4] (st) h Q = Go d 160 115 [some (.ref r), o1, o2, o3, o4] (.ref r :: st) h Q := go_lo (E := (.aload_n 0, 0, 0, 0)) rfl rfl rfl
theorem s_160_115 : Go d 160 115 L (.ref 53 :: st) (HP lx xs M) Q = Go d 160 118 L (.ref 56 :: st) (HP lx xs M) Q := go_gf rfl rfl (by decide) rfl
theorem s_160_118 : Go d 160 118 [o0, some (.int x), o2, o3, o4] (st) h Q = Go d 160 119 [o0, some (.int x), o2, o3, o4] (.int x :: st) h Q := go_lo (E := (.iload_n 1, 0, 0, 0)) rfl rfl rfl
theorem s_160_119 : Go d 160 119 L (st) h Q = Go d 160 121 L (.int (nI 12) :: st) h Q := go_bi rfl ci_b12
theorem s_160_121 : Go d 160 121 L (.int y :: .int x :: st) h Q = Go d 160 122 L (.int (x - y) :: st) h Q := go_op (E := (.isub, 0, 0, 0)) rfl rfl
theorem s_160_122 : Go d 160 122 L (.int x :: .ref 56 :: st) (HP lx xs M) Q = (ex_in x 24 = true ∧ Go d 160 123 L (.int (M 56 x.toNatClampNeg) :: st) (HP lx xs M) Q) := go_al rfl rfl
theorem s_160_123 : Go d 160 123 L (.int y :: .int x :: .ref 56 :: st) (HP lx xs M) Q = (ex_in x 24 = true ∧ Go d 160 124 L (st) (HP lx xs (up M 56 x.toNatClampNeg y)) Q) := go_as rfl rfl (by decide) hs_56
theorem s_160_124 : Go d 160 124 [some (.ref r), o1, o2, o3, o4] (st) h Q = Go d 160 125 [some (.ref r), o1, o2, o3, o4] (.ref r :: st) h Q := go_lo (E := (.aload_n 0, 0, 0, 0)) rfl rfl rfl
theorem s_160_125 : Go d 160 125 L (.ref 53 :: st) (HP lx xs M) Q = Go d 160 128 L (.ref 56 :: st) (HP lx xs M) Q := go_gf rfl rfl (by decide) rfl
theorem s_160_128 : Go d 160 128 [o0, some (.int x), o2, o3, o4] (st) h Q = Go d 160 129 [o0, some (.int x), o2, o3, o4] (.int x :: st) h Q := go_lo (E := (.iload_n 1, 0, 0, 0)) rfl rfl rfl
theorem s_160_129 : Go d 160 129 L (st) h Q = Go d 160 131 L (.int (nI 12) :: st) h Q := go_bi rfl ci_b12
theorem s_160_131 : Go d 160 131 L (.int y :: .int x :: st) h Q = Go d 160 132 L (.int (x - y) :: st) h Q := go_op (E := (.isub, 0, 0, 0)) rfl rfl
theorem s_160_132 : Go d 160 132 L (.int x :: .ref 56 :: st) (HP lx xs M) Q = (ex_in x 24 = true ∧ Go d 160 133 L (.int (M 56 x.toNatClampNeg) :: st) (HP lx xs M) Q) := go_al rfl rfl
theorem s_160_133 : Go d 160 133 L [.int x] h Q = Q (some (.int x)) h := go_ri rfl rfl
theorem s_160_134 : Go d 160 134 [o0, some (.int x), o2, o3, o4] (st) h Q = Go d 160 135 [o0, some (.int x), o2, o3, o4] (.int x :: st) h Q := go_lo (E := (.iload_n 1, 0, 0, 0)) rfl rfl rfl
theorem s_160_135 : Go d 160 135 L (st) h Q = Go d 160 137 L (.int (nI 40) :: st) h Q := go_bi rfl ci_b40
theorem s_160_137 : Go d 160 137 L (.int y :: .int x :: st) h Q = (if x < y then Go d 160 140 L st h Q else Go d 160 176 L st h Q) := go_icge rfl
theorem s_160_140 : Go d 160 140 [some (.ref r), o1, o2, o3, o4] (st) h Q = Go d 160 141 [some (.ref r), o1, o2, o3, o4] (.ref r :: st) h Q := go_lo (E := (.aload_n 0, 0, 0, 0)) rfl rfl rfl
theorem s_160_141 : Go d 160 141 L (.ref 53 :: st) (HP lx xs M) Q = Go d 160 144 L (.ref 57 :: st) (HP lx xs M) Q := go_gf rfl rfl (by decide) rfl
theorem s_160_144 : Go d 160 144 [o0, some (.int x), o2, o3, o4] (st) h Q = Go d 160 145 [o0, some (.int x), o2, o3, o4] (.int x :: st) h Q := go_lo (E := (.iload_n 1, 0, 0, 0)) rfl rfl rfl
theorem s_160_145 : Go d 160 145 L (st) h Q = Go d 160 147 L (.int (nI 36) :: st) h Q := go_bi rfl ci_b36
theorem s_160_147 : Go d 160 147 L (.int y :: .int x :: st) h Q = Go d 160 148 L (.int (x - y) :: st) h Q := go_op (E := (.isub, 0, 0, 0)) rfl rfl
theorem s_160_148 : Go d 160 148 [o0, o1, o2, some (.int x), o4] (st) h Q = Go d 160 149 [o0, o1, o2, some (.int x), o4] (.int x :: st) h Q := go_lo (E := (.iload_n 3, 0, 0, 0)) rfl rfl rfl
theorem s_160_149 : Go d 160 149 L (.int x :: st) h Q = (if x = 0 then Go d 160 156 L st h Q else Go d 160 152 L st h Q) := go_ifeq rfl
theorem s_160_152 : Go d 160 152 [o0, o1, some (.int x), o3, o4] (st) h Q = Go d 160 153 [o0, o1, some (.int x), o3, o4] (.int x :: st) h Q := go_lo (E := (.iload_n 2, 0, 0, 0)) rfl rfl rfl
theorem s_160_153 : Go d 160 153 L (st) h Q = Go d 160 165 L (st) h Q := go_goto rfl
theorem s_160_156 : Go d 160 156 [some (.ref r), o1, o2, o3, o4] (st) h Q = Go d 160 157 [some (.ref r), o1, o2, o3, o4] (.ref r :: st) h Q := go_lo (E := (.aload_n 0, 0, 0, 0)) rfl rfl rfl
theorem s_160_157 : Go d 160 157 L (.ref 53 :: st) (HP lx xs M) Q = Go d 160 160 L (.ref 57 :: st) (HP lx xs M) Q := go_gf rfl rfl (by decide) rfl
theorem s_160_160 : Go d 160 160 [o0, some (.int x), o2, o3, o4] (st) h Q = Go d 160 161 [o0, some (.int x), o2, o3, o4] (.int x :: st) h Q := go_lo (E := (.iload_n 1, 0, 0, 0)) rfl rfl rfl
set_option maxRecDepth 30000 in
theorem s_160_161 : Go d 160 161 L (st) h Q = Go d 160 163 L (.int (nI 36) :: st) h Q := go_bi rfl ci_b36
set_option maxRecDepth 30000 in
theorem s_160_163 : Go d 160 163 L (.int y :: .int x :: st) h Q = Go d 160 164 L (.int (x - y) :: st) h Q := go_op (E := (.isub, 0, 0, 0)) rfl rfl
set_option maxRecDepth 30000 in
theorem s_160_164 : Go d 160 164 L (.int x :: .ref 57 :: st) (HP lx xs M) Q = (ex_in x 4 = true ∧ Go d 160 165 L (.int (M 57 x.toNatClampNeg) :: st) (HP lx xs M) Q) := go_al rfl rfl
set_option maxRecDepth 30000 in
theorem s_160_165 : Go d 160 165 L (.int y :: .int x :: .ref 57 :: st) (HP lx xs M) Q = (ex_in x 4 = true ∧ Go d 160 166 L (st) (HP lx xs (up M 57 x.toNatClampNeg y)) Q) := go_as rfl rfl (by decide) hs_57
set_option maxRecDepth 30000 in
theorem s_160_166 : Go d 160 166 [some (.ref r), o1, o2, o3, o4] (st) h Q = Go d 160 167 [some (.ref r), o1, o2, o3, o4] (.ref r :: st) h Q := go_lo (E := (.aload_n 0, 0, 0, 0)) rfl rfl rfl
set_option maxRecDepth 30000 in
theorem s_160_167 : Go d 160 167 L (.ref 53 :: st) (HP lx xs M) Q = Go d 160 170 L (.ref 57 :: st) (HP lx xs M) Q := go_gf rfl rfl (by decide) rfl
set_option maxRecDepth 30000 in
theorem s_160_170 : Go d 160 170 [o0, some (.int x), o2, o3, o4] (st) h Q = Go d 160 171 [o0, some (.int x), o2, o3, o4] (.int x :: st) h Q := go_lo (E := (.iload_n 1, 0, 0, 0)) rfl rfl rfl
set_option maxRecDepth 30000 in
theorem s_160_171 : Go d 160 171 L (st) h Q = Go d 160 173 L (.int (nI 36) :: st) h Q := go_bi rfl ci_b36
set_option maxRecDepth 30000 in
theorem s_160_173 : Go d 160 173 L (.int y :: .int x :: st) h Q = Go d 160 174 L (.int (x - y) :: st) h Q := go_op (E := (.isub, 0, 0, 0)) rfl rfl
set_option maxRecDepth 30000 in
theorem s_160_174 : Go d 160 174 L (.int x :: .ref 57 :: st) (HP lx xs M) Q = (ex_in x 4 = true ∧ Go d 160 175 L (.int (M 57 x.toNatClampNeg) :: st) (HP lx xs M) Q) := go_al rfl rfl
set_option maxRecDepth 30000 in
theorem s_160_175 : Go d 160 175 L [.int x] h Q = Q (some (.int x)) h := go_ri rfl rfl
set_option maxRecDepth 30000 in
theorem s_160_176 : Go d 160 176 [o0, some (.int x), o2, o3, o4] (st) h Q = Go d 160 177 [o0, some (.int x), o2, o3, o4] (.int x :: st) h Q := go_lo (E := (.iload_n 1, 0, 0, 0)) rfl rfl rfl
set_option maxRecDepth 30000 in
theorem s_160_177 : Go d 160 177 L (st) h Q = Go d 160 180 L (.int (nI 136) :: st) h Q := go_si rfl ci_s136
set_option maxRecDepth 30000 in
theorem s_160_180 : Go d 160 180 L (.int y :: .int x :: st) h Q = (if x < y then Go d 160 183 L st h Q else Go d 160 219 L st h Q) := go_icge rfl
set_option maxRecDepth 30000 in
theorem s_160_183 : Go d 160 183 [some (.ref r), o1, o2, o3, o4] (st) h Q = Go d 160 184 [some (.ref r), o1, o2, o3, o4] (.ref r :: st) h Q := go_lo (E := (.aload_n 0, 0, 0, 0)) rfl rfl rfl
set_option maxRecDepth 30000 in
theorem s_160_184 : Go d 160 184 L (.ref 53 :: st) (HP lx xs M) Q = Go d 160 187 L (.ref 58 :: st) (HP lx xs M) Q := go_gf rfl rfl (by decide) rfl
set_option maxRecDepth 30000 in
theorem s_160_187 : Go d 160 187 [o0, some (.int x), o2, o3, o4] (st) h Q = Go d 160 188 [o0, some (.int x), o2, o3, o4] (.int x :: st) h Q := go_lo (E := (.iload_n 1, 0, 0, 0)) rfl rfl rfl
set_option maxRecDepth 30000 in
theorem s_160_188 : Go d 160 188 L (st) h Q = Go d 160 190 L (.int (nI 40) :: st) h Q := go_bi rfl ci_b40
set_option maxRecDepth 30000 in
theorem s_160_190 : Go d 160 190 L (.int y :: .int x :: st) h Q = Go d 160 191 L (.int (x - y) :: st) h Q := go_op (E := (.isub, 0, 0, 0)) rfl rfl
set_option maxRecDepth 30000 in
theorem s_160_191 : Go d 160 191 [o0, o1, o2, some (.int x), o4] (st) h Q = Go d 160 192 [o0, o1, o2, some (.int x), o4] (.int x :: st) h Q := go_lo (E := (.iload_n 3, 0, 0, 0)) rfl rfl rfl
set_option maxRecDepth 30000 in
theorem s_160_192 : Go d 160 192 L (.int x :: st) h Q = (if x = 0 then Go d 160 199 L st h Q else Go d 160 195 L st h Q) := go_ifeq rfl
set_option maxRecDepth 30000 in
theorem s_160_195 : Go d 160 195 [o0, o1, some (.int x), o3, o4] (st) h Q = Go d 160 196 [o0, o1, some (.int x), o3, o4] (.int x :: st) h Q := go_lo (E := (.iload_n 2, 0, 0, 0)) rfl rfl rfl
set_option maxRecDepth 30000 in
theorem s_160_196 : Go d 160 196 L (st) h Q = Go d 160 208 L (st) h Q := go_goto rfl
set_option maxRecDepth 30000 in
theorem s_160_199 : Go d 160 199 [some (.ref r), o1, o2, o3, o4] (st) h Q = Go d 160 200 [some (.ref r), o1, o2, o3, o4] (.ref r :: st) h Q := go_lo (E := (.aload_n 0, 0, 0, 0)) rfl rfl rfl
set_option maxRecDepth 30000 in
theorem s_160_200 : Go d 160 200 L (.ref 53 :: st) (HP lx xs M) Q = Go d 160 203 L (.ref 58 :: st) (HP lx xs M) Q := go_gf rfl rfl (by decide) rfl
set_option maxRecDepth 30000 in
theorem s_160_203 : Go d 160 203 [o0, some (.int x), o2, o3, o4] (st) h Q = Go d 160 204 [o0, some (.int x), o2, o3, o4] (.int x :: st) h Q := go_lo (E := (.iload_n 1, 0, 0, 0)) rfl rfl rfl
set_option maxRecDepth 30000 in
theorem s_160_204 : Go d 160 204 L (st) h Q = Go d 160 206 L (.int (nI 40) :: st) h Q := go_bi rfl ci_b40
set_option maxRecDepth 30000 in
theorem s_160_206 : Go d 160 206 L (.int y :: .int x :: st) h Q = Go d 160 207 L (.int (x - y) :: st) h Q := go_op (E := (.isub, 0, 0, 0)) rfl rfl
set_option maxRecDepth 30000 in
theorem s_160_207 : Go d 160 207 L (.int x :: .ref 58 :: st) (HP lx xs M) Q = (ex_in x 96 = true ∧ Go d 160 208 L (.int (M 58 x.toNatClampNeg) :: st) (HP lx xs M) Q) := go_al rfl rfl
set_option maxRecDepth 30000 in
theorem s_160_208 : Go d 160 208 L (.int y :: .int x :: .ref 58 :: st) (HP lx xs M) Q = (ex_in x 96 = true ∧ Go d 160 209 L (st) (HP lx xs (up M 58 x.toNatClampNeg y)) Q) := go_as rfl rfl (by decide) hs_58
set_option maxRecDepth 30000 in
theorem s_160_209 : Go d 160 209 [some (.ref r), o1, o2, o3, o4] (st) h Q = Go d 160 210 [some (.ref r), o1, o2, o3, o4] (.ref r :: st) h Q := go_lo (E := (.aload_n 0, 0, 0, 0)) rfl rfl rfl
set_option maxRecDepth 30000 in
theorem s_160_210 : Go d 160 210 L (.ref 53 :: st) (HP lx xs M) Q = Go d 160 213 L (.ref 58 :: st) (HP lx xs M) Q := go_gf rfl rfl (by decide) rfl
set_option maxRecDepth 30000 in
theorem s_160_213 : Go d 160 213 [o0, some (.int x), o2, o3, o4] (st) h Q = Go d 160 214 [o0, some (.int x), o2, o3, o4] (.int x :: st) h Q := go_lo (E := (.iload_n 1, 0, 0, 0)) rfl rfl rfl
set_option maxRecDepth 30000 in
theorem s_160_214 : Go d 160 214 L (st) h Q = Go d 160 216 L (.int (nI 40) :: st) h Q := go_bi rfl ci_b40
set_option maxRecDepth 30000 in
theorem s_160_216 : Go d 160 216 L (.int y :: .int x :: st) h Q = Go d 160 217 L (.int (x - y) :: st) h Q := go_op (E := (.isub, 0, 0, 0)) rfl rfl
set_option maxRecDepth 30000 in
theorem s_160_217 : Go d 160 217 L (.int x :: .ref 58 :: st) (HP lx xs M) Q = (ex_in x 96 = true ∧ Go d 160 218 L (.int (M 58 x.toNatClampNeg) :: st) (HP lx xs M) Q) := go_al rfl rfl
set_option maxRecDepth 30000 in
theorem s_160_218 : Go d 160 218 L [.int x] h Q = Q (some (.int x)) h := go_ri rfl rfl
set_option maxRecDepth 30000 in
theorem s_160_219 : Go d 160 219 [some (.ref r), o1, o2, o3, o4] (st) h Q = Go d 160 220 [some (.ref r), o1, o2, o3, o4] (.ref r :: st) h Q := go_lo (E := (.aload_n 0, 0, 0, 0)) rfl rfl rfl
set_option maxRecDepth 30000 in
theorem s_160_220 : Go d 160 220 [o0, o1, o2, some (.int x), o4] (st) h Q = Go d 160 221 [o0, o1, o2, some (.int x), o4] (.int x :: st) h Q := go_lo (E := (.iload_n 3, 0, 0, 0)) rfl rfl rfl
set_option maxRecDepth 30000 in
theorem s_160_221 : Go d 160 221 L (.int x :: st) h Q = (if x = 0 then Go d 160 235 L st h Q else Go d 160 224 L st h Q) := go_ifeq rfl
set_option maxRecDepth 30000 in
theorem s_160_224 : Go d 160 224 [o0, some (.int x), o2, o3, o4] (st) h Q = Go d 160 225 [o0, some (.int x), o2, o3, o4] (.int x :: st) h Q := go_lo (E := (.iload_n 1, 0, 0, 0)) rfl rfl rfl
set_option maxRecDepth 30000 in
theorem s_160_225 : Go d 160 225 L (st) h Q = Go d 160 228 L (.int (nI 136) :: st) h Q := go_si rfl ci_s136
set_option maxRecDepth 30000 in
theorem s_160_228 : Go d 160 228 L (.int y :: .int x :: st) h Q = (if x = y then Go d 160 231 L st h Q else Go d 160 235 L st h Q) := go_icne rfl
set_option maxRecDepth 30000 in
theorem s_160_231 : Go d 160 231 [o0, o1, some (.int x), o3, o4] (st) h Q = Go d 160 232 [o0, o1, some (.int x), o3, o4] (.int x :: st) h Q := go_lo (E := (.iload_n 2, 0, 0, 0)) rfl rfl rfl
set_option maxRecDepth 30000 in
theorem s_160_232 : Go d 160 232 L (st) h Q = Go d 160 239 L (st) h Q := go_goto rfl
set_option maxRecDepth 30000 in
theorem s_160_235 : Go d 160 235 [some (.ref r), o1, o2, o3, o4] (st) h Q = Go d 160 236 [some (.ref r), o1, o2, o3, o4] (.ref r :: st) h Q := go_lo (E := (.aload_n 0, 0, 0, 0)) rfl rfl rfl
set_option maxRecDepth 30000 in
theorem s_160_236 : Go d 160 236 L (.ref 53 :: st) (HP lx xs M) Q = Go d 160 239 L (.int (M 53 4) :: st) (HP lx xs M) Q := go_gf rfl rfl (by decide) rfl
set_option maxRecDepth 30000 in
theorem s_160_239 : Go d 160 239 L (.int x :: .ref 53 :: st) (HP lx xs M) Q = Go d 160 242 L (st) (HP lx xs (up M 53 4 x)) Q := go_pf rfl rfl (by decide) (Nat.le_of_ble_eq_true rfl) rfl hf_53_4
set_option maxRecDepth 30000 in
theorem s_160_242 : Go d 160 242 [some (.ref r), o1, o2, o3, o4] (st) h Q = Go d 160 243 [some (.ref r), o1, o2, o3, o4] (.ref r :: st) h Q := go_lo (E := (.aload_n 0, 0, 0, 0)) rfl rfl rfl
set_option maxRecDepth 30000 in
theorem s_160_243 : Go d 160 243 [o0, o1, o2, some (.int x), o4] (st) h Q = Go d 160 244 [o0, o1, o2, some (.int x), o4] (.int x :: st) h Q := go_lo (E := (.iload_n 3, 0, 0, 0)) rfl rfl rfl
set_option maxRecDepth 30000 in
theorem s_160_244 : Go d 160 244 L (.int x :: st) h Q = (if x = 0 then Go d 160 258 L st h Q else Go d 160 247 L st h Q) := go_ifeq rfl
set_option maxRecDepth 30000 in
theorem s_160_247 : Go d 160 247 [o0, some (.int x), o2, o3, o4] (st) h Q = Go d 160 248 [o0, some (.int x), o2, o3, o4] (.int x :: st) h Q := go_lo (E := (.iload_n 1, 0, 0, 0)) rfl rfl rfl
set_option maxRecDepth 30000 in
theorem s_160_248 : Go d 160 248 L (st) h Q = Go d 160 251 L (.int (nI 137) :: st) h Q := go_si rfl ci_s137
set_option maxRecDepth 30000 in
theorem s_160_251 : Go d 160 251 L (.int y :: .int x :: st) h Q = (if x = y then Go d 160 254 L st h Q else Go d 160 258 L st h Q) := go_icne rfl
set_option maxRecDepth 30000 in
theorem s_160_254 : Go d 160 254 [o0, o1, some (.int x), o3, o4] (st) h Q = Go d 160 255 [o0, o1, some (.int x), o3, o4] (.int x :: st) h Q := go_lo (E := (.iload_n 2, 0, 0, 0)) rfl rfl rfl
set_option maxRecDepth 30000 in
theorem s_160_255 : Go d 160 255 L (st) h Q = Go d 160 262 L (st) h Q := go_goto rfl
set_option maxRecDepth 30000 in
theorem s_160_258 : Go d 160 258 [some (.ref r), o1, o2, o3, o4] (st) h Q = Go d 160 259 [some (.ref r), o1, o2, o3, o4] (.ref r :: st) h Q := go_lo (E := (.aload_n 0, 0, 0, 0)) rfl rfl rfl
set_option maxRecDepth 30000 in
theorem s_160_259 : Go d 160 259 L (.ref 53 :: st) (HP lx xs M) Q = Go d 160 262 L (.int (M 53 6) :: st) (HP lx xs M) Q := go_gf rfl rfl (by decide) rfl
set_option maxRecDepth 30000 in
theorem s_160_262 : Go d 160 262 L (.int x :: .ref 53 :: st) (HP lx xs M) Q = Go d 160 265 L (st) (HP lx xs (up M 53 6 x)) Q := go_pf rfl rfl (by decide) (Nat.le_of_ble_eq_true rfl) rfl hf_53_6
set_option maxRecDepth 30000 in
theorem s_160_265 : Go d 160 265 [some (.ref r), o1, o2, o3, o4] (st) h Q = Go d 160 266 [some (.ref r), o1, o2, o3, o4] (.ref r :: st) h Q := go_lo (E := (.aload_n 0, 0, 0, 0)) rfl rfl rfl
set_option maxRecDepth 30000 in
theorem s_160_266 : Go d 160 266 [o0, o1, o2, some (.int x), o4] (st) h Q = Go d 160 267 [o0, o1, o2, some (.int x), o4] (.int x :: st) h Q := go_lo (E := (.iload_n 3, 0, 0, 0)) rfl rfl rfl
set_option maxRecDepth 30000 in
theorem s_160_267 : Go d 160 267 L (.int x :: st) h Q = (if x = 0 then Go d 160 281 L st h Q else Go d 160 270 L st h Q) := go_ifeq rfl
set_option maxRecDepth 30000 in
theorem s_160_270 : Go d 160 270 [o0, some (.int x), o2, o3, o4] (st) h Q = Go d 160 271 [o0, some (.int x), o2, o3, o4] (.int x :: st) h Q := go_lo (E := (.iload_n 1, 0, 0, 0)) rfl rfl rfl
set_option maxRecDepth 30000 in
theorem s_160_271 : Go d 160 271 L (st) h Q = Go d 160 274 L (.int (nI 138) :: st) h Q := go_si rfl ci_s138
set_option maxRecDepth 30000 in
theorem s_160_274 : Go d 160 274 L (.int y :: .int x :: st) h Q = (if x = y then Go d 160 277 L st h Q else Go d 160 281 L st h Q) := go_icne rfl
set_option maxRecDepth 30000 in
theorem s_160_277 : Go d 160 277 [o0, o1, some (.int x), o3, o4] (st) h Q = Go d 160 278 [o0, o1, some (.int x), o3, o4] (.int x :: st) h Q := go_lo (E := (.iload_n 2, 0, 0, 0)) rfl rfl rfl
set_option maxRecDepth 30000 in
theorem s_160_278 : Go d 160 278 L (st) h Q = Go d 160 285 L (st) h Q := go_goto rfl
set_option maxRecDepth 30000 in
theorem s_160_281 : Go d 160 281 [some (.ref r), o1, o2, o3, o4] (st) h Q = Go d 160 282 [some (.ref r), o1, o2, o3, o4] (.ref r :: st) h Q := go_lo (E := (.aload_n 0, 0, 0, 0)) rfl rfl rfl
set_option maxRecDepth 30000 in
theorem s_160_282 : Go d 160 282 L (.ref 53 :: st) (HP lx xs M) Q = Go d 160 285 L (.int (M 53 7) :: st) (HP lx xs M) Q := go_gf rfl rfl (by decide) rfl
set_option maxRecDepth 30000 in
theorem s_160_285 : Go d 160 285 L (.int x :: .ref 53 :: st) (HP lx xs M) Q = Go d 160 288 L (st) (HP lx xs (up M 53 7 x)) Q := go_pf rfl rfl (by decide) (Nat.le_of_ble_eq_true rfl) rfl hf_53_7
set_option maxRecDepth 30000 in
theorem s_160_288 : Go d 160 288 [some (.ref r), o1, o2, o3, o4] (st) h Q = Go d 160 289 [some (.ref r), o1, o2, o3, o4] (.ref r :: st) h Q := go_lo (E := (.aload_n 0, 0, 0, 0)) rfl rfl rfl
set_option maxRecDepth 30000 in
theorem s_160_289 : Go d 160 289 [o0, o1, o2, some (.int x), o4] (st) h Q = Go d 160 290 [o0, o1, o2, some (.int x), o4] (.int x :: st) h Q := go_lo (E := (.iload_n 3, 0, 0, 0)) rfl rfl rfl
set_option maxRecDepth 30000 in
theorem s_160_290 : Go d 160 290 L (.int x :: st) h Q = (if x = 0 then Go d 160 304 L st h Q else Go d 160 293 L st h Q) := go_ifeq rfl
set_option maxRecDepth 30000 in
theorem s_160_293 : Go d 160 293 [o0, some (.int x), o2, o3, o4] (st) h Q = Go d 160 294 [o0, some (.int x), o2, o3, o4] (.int x :: st) h Q := go_lo (E := (.iload_n 1, 0, 0, 0)) rfl rfl rfl
set_option maxRecDepth 30000 in
theorem s_160_294 : Go d 160 294 L (st) h Q = Go d 160 297 L (.int (nI 139) :: st) h Q := go_si rfl ci_s139
set_option maxRecDepth 30000 in
theorem s_160_297 : Go d 160 297 L (.int y :: .int x :: st) h Q = (if x = y then Go d 160 300 L st h Q else Go d 160 304 L st h Q) := go_icne rfl
set_option maxRecDepth 30000 in
theorem s_160_300 : Go d 160 300 [o0, o1, some (.int x), o3, o4] (st) h Q = Go d 160 301 [o0, o1, some (.int x), o3, o4] (.int x :: st) h Q := go_lo (E := (.iload_n 2, 0, 0, 0)) rfl rfl rfl
set_option maxRecDepth 30000 in
theorem s_160_301 : Go d 160 301 L (st) h Q = Go d 160 308 L (st) h Q := go_goto rfl
set_option maxRecDepth 30000 in
theorem s_160_304 : Go d 160 304 [some (.ref r), o1, o2, o3, o4] (st) h Q = Go d 160 305 [some (.ref r), o1, o2, o3, o4] (.ref r :: st) h Q := go_lo (E := (.aload_n 0, 0, 0, 0)) rfl rfl rfl
set_option maxRecDepth 30000 in
theorem s_160_305 : Go d 160 305 L (.ref 53 :: st) (HP lx xs M) Q = Go d 160 308 L (.int (M 53 8) :: st) (HP lx xs M) Q := go_gf rfl rfl (by decide) rfl
set_option maxRecDepth 30000 in
theorem s_160_308 : Go d 160 308 L (.int x :: .ref 53 :: st) (HP lx xs M) Q = Go d 160 311 L (st) (HP lx xs (up M 53 8 x)) Q := go_pf rfl rfl (by decide) (Nat.le_of_ble_eq_true rfl) rfl hf_53_8
set_option maxRecDepth 30000 in
theorem s_160_311 : Go d 160 311 [o0, some (.int x), o2, o3, o4] (st) h Q = Go d 160 312 [o0, some (.int x), o2, o3, o4] (.int x :: st) h Q := go_lo (E := (.iload_n 1, 0, 0, 0)) rfl rfl rfl
set_option maxRecDepth 30000 in
theorem s_160_312 : Go d 160 312 L (st) h Q = Go d 160 315 L (.int (nI 136) :: st) h Q := go_si rfl ci_s136
set_option maxRecDepth 30000 in
theorem s_160_315 : Go d 160 315 L (.int y :: .int x :: st) h Q = (if x = y then Go d 160 318 L st h Q else Go d 160 325 L st h Q) := go_icne rfl
set_option maxRecDepth 30000 in
theorem s_160_318 : Go d 160 318 [some (.ref r), o1, o2, o3, o4] (st) h Q = Go d 160 319 [some (.ref r), o1, o2, o3, o4] (.ref r :: st) h Q := go_lo (E := (.aload_n 0, 0, 0, 0)) rfl rfl rfl
set_option maxRecDepth 30000 in
theorem s_160_319 : Go d 160 319 L (.ref 53 :: st) (HP lx xs M) Q = Go d 160 322 L (.int (M 53 4) :: st) (HP lx xs M) Q := go_gf rfl rfl (by decide) rfl
set_option maxRecDepth 30000 in
theorem s_160_322 : Go d 160 322 L (st) h Q = Go d 160 357 L (st) h Q := go_goto rfl
set_option maxRecDepth 30000 in
theorem s_160_325 : Go d 160 325 [o0, some (.int x), o2, o3, o4] (st) h Q = Go d 160 326 [o0, some (.int x), o2, o3, o4] (.int x :: st) h Q := go_lo (E := (.iload_n 1, 0, 0, 0)) rfl rfl rfl
set_option maxRecDepth 30000 in
theorem s_160_326 : Go d 160 326 L (st) h Q = Go d 160 329 L (.int (nI 137) :: st) h Q := go_si rfl ci_s137
set_option maxRecDepth 30000 in
theorem s_160_329 : Go d 160 329 L (.int y :: .int x :: st) h Q = (if x = y then Go d 160 332 L st h Q else Go d 160 339 L st h Q) := go_icne rfl
set_option maxRecDepth 30000 in
theorem s_160_332 : Go d 160 332 [some (.ref r), o1, o2, o3, o4] (st) h Q = Go d 160 333 [some (.ref r), o1, o2, o3, o4] (.ref r :: st) h Q := go_lo (E := (.aload_n 0, 0, 0, 0)) rfl rfl rfl
set_option maxRecDepth 30000 in
theorem s_160_333 : Go d 160 333 L (.ref 53 :: st) (HP lx xs M) Q = Go d 160 336 L (.int (M 53 6) :: st) (HP lx xs M) Q := go_gf rfl rfl (by decide) rfl
set_option maxRecDepth 30000 in
theorem s_160_336 : Go d 160 336 L (st) h Q = Go d 160 357 L (st) h Q := go_goto rfl
set_option maxRecDepth 30000 in
theorem s_160_339 : Go d 160 339 [o0, some (.int x), o2, o3, o4] (st) h Q = Go d 160 340 [o0, some (.int x), o2, o3, o4] (.int x :: st) h Q := go_lo (E := (.iload_n 1, 0, 0, 0)) rfl rfl rfl
set_option maxRecDepth 30000 in
theorem s_160_340 : Go d 160 340 L (st) h Q = Go d 160 343 L (.int (nI 138) :: st) h Q := go_si rfl ci_s138
set_option maxRecDepth 30000 in
theorem s_160_343 : Go d 160 343 L (.int y :: .int x :: st) h Q = (if x = y then Go d 160 346 L st h Q else Go d 160 353 L st h Q) := go_icne rfl
set_option maxRecDepth 30000 in
theorem s_160_346 : Go d 160 346 [some (.ref r), o1, o2, o3, o4] (st) h Q = Go d 160 347 [some (.ref r), o1, o2, o3, o4] (.ref r :: st) h Q := go_lo (E := (.aload_n 0, 0, 0, 0)) rfl rfl rfl
set_option maxRecDepth 30000 in
theorem s_160_347 : Go d 160 347 L (.ref 53 :: st) (HP lx xs M) Q = Go d 160 350 L (.int (M 53 7) :: st) (HP lx xs M) Q := go_gf rfl rfl (by decide) rfl
set_option maxRecDepth 30000 in
theorem s_160_350 : Go d 160 350 L (st) h Q = Go d 160 357 L (st) h Q := go_goto rfl
set_option maxRecDepth 30000 in
theorem s_160_353 : Go d 160 353 [some (.ref r), o1, o2, o3, o4] (st) h Q = Go d 160 354 [some (.ref r), o1, o2, o3, o4] (.ref r :: st) h Q := go_lo (E := (.aload_n 0, 0, 0, 0)) rfl rfl rfl
set_option maxRecDepth 30000 in
theorem s_160_354 : Go d 160 354 L (.ref 53 :: st) (HP lx xs M) Q = Go d 160 357 L (.int (M 53 8) :: st) (HP lx xs M) Q := go_gf rfl rfl (by decide) rfl
set_option maxRecDepth 30000 in
theorem s_160_357 : Go d 160 357 L [.int x] h Q = Q (some (.int x)) h := go_ri rfl rfl
theorem s_161_0 : Go d 161 0 L (st) h Q = Go d 161 1 L (.int (nI 0) :: st) h Q := go_ic rfl ci_i0
theorem s_161_1 : Go d 161 1 [o0, o1] (.int x :: st) h Q = Go d 161 2 [o0, some (.int x)] (st) h Q := go_lo (E := (.istore_n 1, 0, 0, 0)) rfl rfl rfl
theorem s_161_2 : Go d 161 2 [o0, some (.int x)] (st) h Q = Go d 161 3 [o0, some (.int x)] (.int x :: st) h Q := go_lo (E := (.iload_n 1, 0, 0, 0)) rfl rfl rfl
theorem s_161_3 : Go d 161 3 L (st) h Q = Go d 161 6 L (.int (nI 140) :: st) h Q := go_si rfl ci_s140
theorem s_161_6 : Go d 161 6 L (.int y :: .int x :: st) h Q = (if x < y then Go d 161 9 L st h Q else Go d 161 28 L st h Q) := go_icge rfl
theorem s_161_9 : Go d 161 9 [some (.ref r), o1] (st) h Q = Go d 161 10 [some (.ref r), o1] (.ref r :: st) h Q := go_lo (E := (.aload_n 0, 0, 0, 0)) rfl rfl rfl
theorem s_161_10 : Go d 161 10 L (.ref 53 :: st) (HP lx xs M) Q = Go d 161 13 L (.ref 71 :: st) (HP lx xs M) Q := go_gf rfl rfl (by decide) rfl
theorem s_161_13 : Go d 161 13 [o0, some (.int x)] (st) h Q = Go d 161 14 [o0, some (.int x)] (.int x :: st) h Q := go_lo (E := (.iload_n 1, 0, 0, 0)) rfl rfl rfl
theorem s_161_14 : Go d 161 14 [some (.ref r), o1] (st) h Q = Go d 161 15 [some (.ref r), o1] (.ref r :: st) h Q := go_lo (E := (.aload_n 0, 0, 0, 0)) rfl rfl rfl
theorem s_161_15 : Go d 161 15 [o0, some (.int x)] (st) h Q = Go d 161 16 [o0, some (.int x)] (.int x :: st) h Q := go_lo (E := (.iload_n 1, 0, 0, 0)) rfl rfl rfl
theorem s_161_16 : Go d 161 16 L (st) h Q = Go d 161 17 L (.int (nI 0) :: st) h Q := go_ic rfl ci_i0
theorem s_161_17 : Go d 161 17 L (st) h Q = Go d 161 18 L (.int (nI 0) :: st) h Q := go_ic rfl ci_i0
theorem s_161_18 {a1 : Int32} {a2 : Int32} {a3 : Int32} {z1 : Int32} {zr0 : Nat} : Go (d + 1) 161 18 L [.int a3, .int a2, .int a1, .ref 53, .int z1, .ref zr0] (HP lx xs M) Q = Go d 160 0 [some (.ref 53), some (.int a1), some (.int a2), some (.int a3), none] [] (HP lx xs M) (fun v h2 => Go (d + 1) 161 21 L (ap v [.int z1, .ref zr0]) h2 Q) := go_cx (E := (.invokevirtual 229, 160, 0, 7)) (k' := 160) (as := [.ref 53, .int a1, .int a2, .int a3]) rfl rfl rfl rfl rfl rfl rfl rfl
theorem s_161_21 : Go d 161 21 L (.int y :: .int x :: .ref 71 :: st) (HP lx xs M) Q = (ex_in x 140 = true ∧ Go d 161 22 L (st) (HP lx xs (up M 71 x.toNatClampNeg y)) Q) := go_as rfl rfl (by decide) hs_71
theorem s_161_22 : Go d 161 22 [o0, some (.int x)] (st) h Q = Go d 161 25 [o0, some (.int (x + nI 1))] (st) h Q := (ci_i1 ▸ go_lo (E := (.iinc 1 1, 0, 0, 0)) rfl rfl rfl : _ = Go d 161 25 [o0, some (.int (x + nI 1))] (st) h Q)
theorem s_161_25 : Go d 161 25 L (st) h Q = Go d 161 2 L (st) h Q := go_goto rfl
theorem s_161_28 : Go d 161 28 [some (.ref r), o1] (st) h Q = Go d 161 29 [some (.ref r), o1] (.ref r :: st) h Q := go_lo (E := (.aload_n 0, 0, 0, 0)) rfl rfl rfl
theorem s_161_29 : Go d 161 29 L (st) h Q = Go d 161 30 L (.int (nI 1) :: st) h Q := go_ic rfl ci_i1
theorem s_161_30 : Go d 161 30 L (.int (nI 1) :: .ref 53 :: st) (HP lx xs M) Q = Go d 161 33 L (st) (HP lx xs (up M 53 28 (nI 1))) Q := go_pf rfl rfl (by decide) (Nat.le_of_ble_eq_true rfl) (by decide +kernel) hf_53_28
theorem s_161_33 : Go d 161 33 L (st) h Q = Go d 161 34 L (.int (nI 1) :: st) h Q := go_ic rfl ci_i1
theorem s_161_34 : Go d 161 34 L [.int x] h Q = Q (some (.int x)) h := go_ri rfl rfl
theorem s_162_0 : Go d 162 0 [some (.ref r), o1] (st) h Q = Go d 162 1 [some (.ref r), o1] (.ref r :: st) h Q := go_lo (E := (.aload_n 0, 0, 0, 0)) rfl rfl rfl
theorem s_162_1 : Go d 162 1 L (.ref 53 :: st) (HP lx xs M) Q = Go d 162 4 L (.int (M 53 28) :: st) (HP lx xs M) Q := go_gf rfl rfl (by decide) rfl
theorem s_162_4 : Go d 162 4 L (.int x :: st) h Q = (if x = 0 then Go d 162 7 L st h Q else Go d 162 10 L st h Q) := go_ifne rfl
theorem s_162_7 : Go d 162 7 L (st) h Q = Go d 162 9 L (.int (-4) :: st) h Q := go_bi rfl ci_bm4
theorem s_162_9 : Go d 162 9 L [.int x] h Q = Q (some (.int x)) h := go_ri rfl rfl
theorem s_162_10 : Go d 162 10 L (st) h Q = Go d 162 11 L (.int (nI 0) :: st) h Q := go_ic rfl ci_i0
theorem s_162_11 : Go d 162 11 [o0, o1] (.int x :: st) h Q = Go d 162 12 [o0, some (.int x)] (st) h Q := go_lo (E := (.istore_n 1, 0, 0, 0)) rfl rfl rfl
theorem s_162_12 : Go d 162 12 [o0, some (.int x)] (st) h Q = Go d 162 13 [o0, some (.int x)] (.int x :: st) h Q := go_lo (E := (.iload_n 1, 0, 0, 0)) rfl rfl rfl
theorem s_162_13 : Go d 162 13 L (st) h Q = Go d 162 16 L (.int (nI 140) :: st) h Q := go_si rfl ci_s140
theorem s_162_16 : Go d 162 16 L (.int y :: .int x :: st) h Q = (if x < y then Go d 162 19 L st h Q else Go d 162 38 L st h Q) := go_icge rfl
theorem s_162_19 : Go d 162 19 [some (.ref r), o1] (st) h Q = Go d 162 20 [some (.ref r), o1] (.ref r :: st) h Q := go_lo (E := (.aload_n 0, 0, 0, 0)) rfl rfl rfl
theorem s_162_20 : Go d 162 20 [o0, some (.int x)] (st) h Q = Go d 162 21 [o0, some (.int x)] (.int x :: st) h Q := go_lo (E := (.iload_n 1, 0, 0, 0)) rfl rfl rfl
theorem s_162_21 : Go d 162 21 [some (.ref r), o1] (st) h Q = Go d 162 22 [some (.ref r), o1] (.ref r :: st) h Q := go_lo (E := (.aload_n 0, 0, 0, 0)) rfl rfl rfl
theorem s_162_22 : Go d 162 22 L (.ref 53 :: st) (HP lx xs M) Q = Go d 162 25 L (.ref 71 :: st) (HP lx xs M) Q := go_gf rfl rfl (by decide) rfl
theorem s_162_25 : Go d 162 25 [o0, some (.int x)] (st) h Q = Go d 162 26 [o0, some (.int x)] (.int x :: st) h Q := go_lo (E := (.iload_n 1, 0, 0, 0)) rfl rfl rfl
theorem s_162_26 : Go d 162 26 L (.int x :: .ref 71 :: st) (HP lx xs M) Q = (ex_in x 140 = true ∧ Go d 162 27 L (.int (M 71 x.toNatClampNeg) :: st) (HP lx xs M) Q) := go_al rfl rfl
theorem s_162_27 : Go d 162 27 L (st) h Q = Go d 162 28 L (.int (nI 1) :: st) h Q := go_ic rfl ci_i1
theorem s_162_28 {a1 : Int32} {a2 : Int32} {a3 : Int32} : Go (d + 1) 162 28 L [.int a3, .int a2, .int a1, .ref 53] (HP lx xs M) Q = Go d 160 0 [some (.ref 53), some (.int a1), some (.int a2), some (.int a3), none] [] (HP lx xs M) (fun v h2 => Go (d + 1) 162 31 L (ap v []) h2 Q) := go_cx (E := (.invokevirtual 229, 160, 0, 7)) (k' := 160) (as := [.ref 53, .int a1, .int a2, .int a3]) rfl rfl rfl rfl rfl rfl rfl rfl
theorem s_162_31 : Go d 162 31 L (.int x :: st) h Q = Go d 162 32 L (st) h Q := go_op (E := (.pop, 0, 0, 0)) rfl rfl
theorem s_162_32 : Go d 162 32 [o0, some (.int x)] (st) h Q = Go d 162 35 [o0, some (.int (x + nI 1))] (st) h Q := (ci_i1 ▸ go_lo (E := (.iinc 1 1, 0, 0, 0)) rfl rfl rfl : _ = Go d 162 35 [o0, some (.int (x + nI 1))] (st) h Q)
theorem s_162_35 : Go d 162 35 L (st) h Q = Go d 162 12 L (st) h Q := go_goto rfl
theorem s_162_38 : Go d 162 38 L (st) h Q = Go d 162 39 L (.int (nI 1) :: st) h Q := go_ic rfl ci_i1
theorem s_162_39 : Go d 162 39 L [.int x] h Q = Q (some (.int x)) h := go_ri rfl rfl
theorem s_163_0 : Go d 163 0 [some (.int x), o1] (st) h Q = Go d 163 1 [some (.int x), o1] (.int x :: st) h Q := go_lo (E := (.iload_n 0, 0, 0, 0)) rfl rfl rfl
theorem s_163_1 : Go d 163 1 L (.int x :: st) h Q = Go d 163 2 L (.long (x.toInt64) :: st) h Q := go_op (E := (.i2l, 0, 0, 0)) rfl rfl
theorem s_163_2 : Go d 163 2 L (st) h Q = Go d 163 3 L (.long (lN 0) :: st) h Q := go_op (E := (.lconst 0, 0, 0, 0)) rfl rfl
theorem s_163_3 : Go d 163 3 L (st) h Q = Go d 163 6 L (.long (lN 3) :: st) h Q := go_ld2 rfl ci_l3
theorem s_163_6 {al0 : Int64} {al1 : Int64} {al2 : Int64} : Go (d + 1) 163 6 L [.long al2, .long al1, .long al0] h Q = Go d 114 0 [some (.long al0), none, some (.long al1), none, some (.long al2), none] [] h (fun v h2 => Go (d + 1) 163 9 L (ap v []) h2 Q) := go_cx (E := (.invokestatic 84, 114, 0, 0)) (k' := 114) (as := [.long al0, .long al1, .long al2]) rfl rfl rfl rfl rfl rfl rfl rfl
theorem s_163_9 : Go d 163 9 L (.int x :: st) h Q = (if x = 0 then Go d 163 28 L st h Q else Go d 163 12 L st h Q) := go_ifeq rfl
theorem s_163_12 : Go d 163 12 [o0, some (.int x)] (st) h Q = Go d 163 13 [o0, some (.int x)] (.int x :: st) h Q := go_lo (E := (.iload_n 1, 0, 0, 0)) rfl rfl rfl
theorem s_163_13 : Go d 163 13 L (.int x :: st) h Q = Go d 163 14 L (.long (x.toInt64) :: st) h Q := go_op (E := (.i2l, 0, 0, 0)) rfl rfl
theorem s_163_14 : Go d 163 14 L (st) h Q = Go d 163 15 L (.long (lN 0) :: st) h Q := go_op (E := (.lconst 0, 0, 0, 0)) rfl rfl
theorem s_163_15 : Go d 163 15 L (st) h Q = Go d 163 18 L (.long (lN 2) :: st) h Q := go_ld2 rfl ci_l2
theorem s_163_18 {al0 : Int64} {al1 : Int64} {al2 : Int64} : Go (d + 1) 163 18 L [.long al2, .long al1, .long al0] h Q = Go d 114 0 [some (.long al0), none, some (.long al1), none, some (.long al2), none] [] h (fun v h2 => Go (d + 1) 163 21 L (ap v []) h2 Q) := go_cx (E := (.invokestatic 84, 114, 0, 0)) (k' := 114) (as := [.long al0, .long al1, .long al2]) rfl rfl rfl rfl rfl rfl rfl rfl
theorem s_163_21 : Go d 163 21 L (.int x :: st) h Q = (if x = 0 then Go d 163 28 L st h Q else Go d 163 24 L st h Q) := go_ifeq rfl
theorem s_163_24 : Go d 163 24 L (st) h Q = Go d 163 25 L (.int (nI 1) :: st) h Q := go_ic rfl ci_i1
theorem s_163_25 : Go d 163 25 L (st) h Q = Go d 163 29 L (st) h Q := go_goto rfl
theorem s_163_28 : Go d 163 28 L (st) h Q = Go d 163 29 L (.int (nI 0) :: st) h Q := go_ic rfl ci_i0
theorem s_163_29_0 : Go d 163 29 L [.int (nI 0)] h Q = Q (some (.int (nI 0))) h := go_rz rfl rfl (by decide)
theorem s_163_29_1 : Go d 163 29 L [.int (nI 1)] h Q = Q (some (.int (nI 1))) h := go_rz rfl rfl (by decide)
theorem s_164_0 : Go d 164 0 [o0, some (.int x), o2, o3, o4] (st) h Q = Go d 164 1 [o0, some (.int x), o2, o3, o4] (.int x :: st) h Q := go_lo (E := (.iload_n 1, 0, 0, 0)) rfl rfl rfl
theorem s_164_1 : Go d 164 1 [o0, o1, some (.int x), o3, o4] (st) h Q = Go d 164 2 [o0, o1, some (.int x), o3, o4] (.int x :: st) h Q := go_lo (E := (.iload_n 2, 0, 0, 0)) rfl rfl rfl
theorem s_164_2 {a0 : Int32} {a1 : Int32} : Go (d + 1) 164 2 L [.int a1, .int a0] h Q = Go d 163 0 [some (.int a0), some (.int a1)] [] h (fun v h2 => Go (d + 1) 164 5 L (ap v []) h2 Q) := go_cx (E := (.invokestatic 239, 163, 0, 0)) (k' := 163) (as := [.int a0, .int a1]) rfl rfl rfl rfl rfl rfl rfl rfl
theorem s_164_5 : Go d 164 5 L (.int x :: st) h Q = (if x = 0 then Go d 164 14 L st h Q else Go d 164 8 L st h Q) := go_ifeq rfl
theorem s_164_8 : Go d 164 8 [o0, o1, o2, some (.int x), o4] (st) h Q = Go d 164 9 [o0, o1, o2, some (.int x), o4] (.int x :: st) h Q := go_lo (E := (.iload_n 3, 0, 0, 0)) rfl rfl rfl
theorem s_164_9 : Go d 164 9 L (st) h Q = Go d 164 11 L (.int (nI 24) :: st) h Q := go_bi rfl ci_b24
theorem s_164_11 : Go d 164 11 L (.int y :: .int x :: st) h Q = (if y < x then Go d 164 14 L st h Q else Go d 164 16 L st h Q) := go_icle rfl
theorem s_164_14 : Go d 164 14 L (st) h Q = Go d 164 15 L (.int (-1) :: st) h Q := go_ic rfl ci_im1
theorem s_164_15 : Go d 164 15 L [.int x] h Q = Q (some (.int x)) h := go_ri rfl rfl
theorem s_164_16 : Go d 164 16 [o0, o1, o2, some (.int x), o4] (st) h Q = Go d 164 17 [o0, o1, o2, some (.int x), o4] (.int x :: st) h Q := go_lo (E := (.iload_n 3, 0, 0, 0)) rfl rfl rfl
theorem s_164_17 : Go d 164 17 L (.int x :: st) h Q = (if x < 0 then Go d 164 20 L st h Q else Go d 164 23 L st h Q) := go_ifge rfl
theorem s_164_20 : Go d 164 20 L (st) h Q = Go d 164 22 L (.int (-14) :: st) h Q := go_bi rfl ci_bm14
theorem s_164_22 : Go d 164 22 L [.int x] h Q = Q (some (.int x)) h := go_ri rfl rfl
theorem s_164_23 : Go d 164 23 [some (.ref r), o1, o2, o3, o4] (st) h Q = Go d 164 24 [some (.ref r), o1, o2, o3, o4] (.ref r :: st) h Q := go_lo (E := (.aload_n 0, 0, 0, 0)) rfl rfl rfl
theorem s_164_24 : Go d 164 24 L (.ref 53 :: st) (HP lx xs M) Q = Go d 164 27 L (.ref 72 :: st) (HP lx xs M) Q := go_gf rfl rfl (by decide) rfl
theorem s_164_27 : Go d 164 27 [o0, some (.int x), o2, o3, o4] (st) h Q = Go d 164 28 [o0, some (.int x), o2, o3, o4] (.int x :: st) h Q := go_lo (E := (.iload_n 1, 0, 0, 0)) rfl rfl rfl
theorem s_164_28 : Go d 164 28 [o0, o1, some (.int x), o3, o4] (st) h Q = Go d 164 29 [o0, o1, some (.int x), o3, o4] (.int x :: st) h Q := go_lo (E := (.iload_n 2, 0, 0, 0)) rfl rfl rfl
theorem s_164_29 : Go d 164 29 L (.int y :: .int x :: .ref 72 :: st) (HP lx xs M) Q = (ex_in x 4 = true ∧ Go d 164 30 L (st) (HP lx xs (up M 72 x.toNatClampNeg y)) Q) := go_as rfl rfl (by decide) hs_72
theorem s_164_30 : Go d 164 30 [some (.ref r), o1, o2, o3, o4] (st) h Q = Go d 164 31 [some (.ref r), o1, o2, o3, o4] (.ref r :: st) h Q := go_lo (E := (.aload_n 0, 0, 0, 0)) rfl rfl rfl
theorem s_164_31 : Go d 164 31 L (.ref 53 :: st) (HP lx xs M) Q = Go d 164 34 L (.ref 73 :: st) (HP lx xs M) Q := go_gf rfl rfl (by decide) rfl
theorem s_164_34 : Go d 164 34 [o0, some (.int x), o2, o3, o4] (st) h Q = Go d 164 35 [o0, some (.int x), o2, o3, o4] (.int x :: st) h Q := go_lo (E := (.iload_n 1, 0, 0, 0)) rfl rfl rfl
theorem s_164_35 : Go d 164 35 [o0, o1, o2, some (.int x), o4] (st) h Q = Go d 164 36 [o0, o1, o2, some (.int x), o4] (.int x :: st) h Q := go_lo (E := (.iload_n 3, 0, 0, 0)) rfl rfl rfl
theorem s_164_36 : Go d 164 36 L (.int y :: .int x :: .ref 73 :: st) (HP lx xs M) Q = (ex_in x 4 = true ∧ Go d 164 37 L (st) (HP lx xs (up M 73 x.toNatClampNeg y)) Q) := go_as rfl rfl (by decide) hs_73
theorem s_164_37 : Go d 164 37 L (st) h Q = Go d 164 38 L (.int (nI 0) :: st) h Q := go_ic rfl ci_i0
theorem s_164_38 : Go d 164 38 [o0, o1, o2, o3, o4] (.int x :: st) h Q = Go d 164 40 [o0, o1, o2, o3, some (.int x)] (st) h Q := go_lo (E := (.istore 4, 0, 0, 0)) rfl rfl rfl
theorem s_164_40 : Go d 164 40 [o0, o1, o2, o3, some (.int x)] (st) h Q = Go d 164 42 [o0, o1, o2, o3, some (.int x)] (.int x :: st) h Q := go_lo (E := (.iload 4, 0, 0, 0)) rfl rfl rfl
theorem s_164_42 : Go d 164 42 L (st) h Q = Go d 164 44 L (.int (nI 24) :: st) h Q := go_bi rfl ci_b24
theorem s_164_44 : Go d 164 44 L (.int y :: .int x :: st) h Q = (if x < y then Go d 164 47 L st h Q else Go d 164 66 L st h Q) := go_icge rfl
theorem s_164_47 : Go d 164 47 [some (.ref r), o1, o2, o3, o4] (st) h Q = Go d 164 48 [some (.ref r), o1, o2, o3, o4] (.ref r :: st) h Q := go_lo (E := (.aload_n 0, 0, 0, 0)) rfl rfl rfl
theorem s_164_48 : Go d 164 48 L (.ref 53 :: st) (HP lx xs M) Q = Go d 164 51 L (.ref 74 :: st) (HP lx xs M) Q := go_gf rfl rfl (by decide) rfl
theorem s_164_51 : Go d 164 51 L (st) h Q = Go d 164 53 L (.int (nI 24) :: st) h Q := go_bi rfl ci_b24
theorem s_164_53 : Go d 164 53 [o0, some (.int x), o2, o3, o4] (st) h Q = Go d 164 54 [o0, some (.int x), o2, o3, o4] (.int x :: st) h Q := go_lo (E := (.iload_n 1, 0, 0, 0)) rfl rfl rfl
theorem s_164_54 : Go d 164 54 L (.int y :: .int x :: st) h Q = Go d 164 55 L (.int (x * y) :: st) h Q := go_op (E := (.imul, 0, 0, 0)) rfl rfl
theorem s_164_55 : Go d 164 55 [o0, o1, o2, o3, some (.int x)] (st) h Q = Go d 164 57 [o0, o1, o2, o3, some (.int x)] (.int x :: st) h Q := go_lo (E := (.iload 4, 0, 0, 0)) rfl rfl rfl
theorem s_164_57 : Go d 164 57 L (.int y :: .int x :: st) h Q = Go d 164 58 L (.int (x + y) :: st) h Q := go_op (E := (.iadd, 0, 0, 0)) rfl rfl
theorem s_164_58 : Go d 164 58 L (st) h Q = Go d 164 59 L (.int (nI 0) :: st) h Q := go_ic rfl ci_i0
theorem s_164_59 : Go d 164 59 L (.int y :: .int x :: .ref 74 :: st) (HP lx xs M) Q = (ex_in x 96 = true ∧ Go d 164 60 L (st) (HP lx xs (up M 74 x.toNatClampNeg y)) Q) := go_as rfl rfl (by decide) hs_74
theorem s_164_60 : Go d 164 60 [o0, o1, o2, o3, some (.int x)] (st) h Q = Go d 164 63 [o0, o1, o2, o3, some (.int (x + nI 1))] (st) h Q := (ci_i1 ▸ go_lo (E := (.iinc 4 1, 0, 0, 0)) rfl rfl rfl : _ = Go d 164 63 [o0, o1, o2, o3, some (.int (x + nI 1))] (st) h Q)
theorem s_164_63 : Go d 164 63 L (st) h Q = Go d 164 40 L (st) h Q := go_goto rfl
theorem s_164_66 : Go d 164 66 [o0, o1, o2, some (.int x), o4] (st) h Q = Go d 164 67 [o0, o1, o2, some (.int x), o4] (.int x :: st) h Q := go_lo (E := (.iload_n 3, 0, 0, 0)) rfl rfl rfl
theorem s_164_67 : Go d 164 67 L [.int x] h Q = Q (some (.int x)) h := go_ri rfl rfl
theorem s_165_0 : Go d 165 0 [o0, some (.int x)] (st) h Q = Go d 165 1 [o0, some (.int x)] (.int x :: st) h Q := go_lo (E := (.iload_n 1, 0, 0, 0)) rfl rfl rfl
theorem s_165_1 : Go d 165 1 L (.int x :: st) h Q = Go d 165 2 L (.long (x.toInt64) :: st) h Q := go_op (E := (.i2l, 0, 0, 0)) rfl rfl
theorem s_165_2 : Go d 165 2 L (st) h Q = Go d 165 3 L (.long (lN 0) :: st) h Q := go_op (E := (.lconst 0, 0, 0, 0)) rfl rfl
theorem s_165_3 : Go d 165 3 L (st) h Q = Go d 165 6 L (.long (lN 3) :: st) h Q := go_ld2 rfl ci_l3
theorem s_165_6 {al0 : Int64} {al1 : Int64} {al2 : Int64} : Go (d + 1) 165 6 L [.long al2, .long al1, .long al0] h Q = Go d 114 0 [some (.long al0), none, some (.long al1), none, some (.long al2), none] [] h (fun v h2 => Go (d + 1) 165 9 L (ap v []) h2 Q) := go_cx (E := (.invokestatic 84, 114, 0, 0)) (k' := 114) (as := [.long al0, .long al1, .long al2]) rfl rfl rfl rfl rfl rfl rfl rfl
theorem s_165_9 : Go d 165 9 L (.int x :: st) h Q = (if x = 0 then Go d 165 12 L st h Q else Go d 165 14 L st h Q) := go_ifne rfl
theorem s_165_12 : Go d 165 12 L (st) h Q = Go d 165 13 L (.int (-1) :: st) h Q := go_ic rfl ci_im1
theorem s_165_13 : Go d 165 13 L [.int x] h Q = Q (some (.int x)) h := go_ri rfl rfl
theorem s_165_14 : Go d 165 14 [some (.ref r), o1] (st) h Q = Go d 165 15 [some (.ref r), o1] (.ref r :: st) h Q := go_lo (E := (.aload_n 0, 0, 0, 0)) rfl rfl rfl
theorem s_165_15 : Go d 165 15 L (.ref 53 :: st) (HP lx xs M) Q = Go d 165 18 L (.ref 72 :: st) (HP lx xs M) Q := go_gf rfl rfl (by decide) rfl
theorem s_165_18 : Go d 165 18 [o0, some (.int x)] (st) h Q = Go d 165 19 [o0, some (.int x)] (.int x :: st) h Q := go_lo (E := (.iload_n 1, 0, 0, 0)) rfl rfl rfl
theorem s_165_19 : Go d 165 19 L (.int x :: .ref 72 :: st) (HP lx xs M) Q = (ex_in x 4 = true ∧ Go d 165 20 L (.int (M 72 x.toNatClampNeg) :: st) (HP lx xs M) Q) := go_al rfl rfl
theorem s_165_20 : Go d 165 20 L (.int x :: st) h Q = (if x < 0 then Go d 165 23 L st h Q else Go d 165 26 L st h Q) := go_ifge rfl
theorem s_165_23 : Go d 165 23 L (st) h Q = Go d 165 25 L (.int (-11) :: st) h Q := go_bi rfl ci_bm11
theorem s_165_25 : Go d 165 25 L [.int x] h Q = Q (some (.int x)) h := go_ri rfl rfl
theorem s_165_26 : Go d 165 26 [some (.ref r), o1] (st) h Q = Go d 165 27 [some (.ref r), o1] (.ref r :: st) h Q := go_lo (E := (.aload_n 0, 0, 0, 0)) rfl rfl rfl
theorem s_165_27 : Go d 165 27 L (.ref 53 :: st) (HP lx xs M) Q = Go d 165 30 L (.ref 72 :: st) (HP lx xs M) Q := go_gf rfl rfl (by decide) rfl
theorem s_165_30 : Go d 165 30 [o0, some (.int x)] (st) h Q = Go d 165 31 [o0, some (.int x)] (.int x :: st) h Q := go_lo (E := (.iload_n 1, 0, 0, 0)) rfl rfl rfl
theorem s_165_31 : Go d 165 31 L (st) h Q = Go d 165 32 L (.int (-1) :: st) h Q := go_ic rfl ci_im1
theorem s_165_32 : Go d 165 32 L (.int y :: .int x :: .ref 72 :: st) (HP lx xs M) Q = (ex_in x 4 = true ∧ Go d 165 33 L (st) (HP lx xs (up M 72 x.toNatClampNeg y)) Q) := go_as rfl rfl (by decide) hs_72
theorem s_165_33 : Go d 165 33 [some (.ref r), o1] (st) h Q = Go d 165 34 [some (.ref r), o1] (.ref r :: st) h Q := go_lo (E := (.aload_n 0, 0, 0, 0)) rfl rfl rfl
theorem s_165_34 : Go d 165 34 L (.ref 53 :: st) (HP lx xs M) Q = Go d 165 37 L (.ref 73 :: st) (HP lx xs M) Q := go_gf rfl rfl (by decide) rfl
theorem s_165_37 : Go d 165 37 [o0, some (.int x)] (st) h Q = Go d 165 38 [o0, some (.int x)] (.int x :: st) h Q := go_lo (E := (.iload_n 1, 0, 0, 0)) rfl rfl rfl
theorem s_165_38 : Go d 165 38 L (.int x :: .ref 73 :: st) (HP lx xs M) Q = (ex_in x 4 = true ∧ Go d 165 39 L (.int (M 73 x.toNatClampNeg) :: st) (HP lx xs M) Q) := go_al rfl rfl
theorem s_165_39 : Go d 165 39 L [.int x] h Q = Q (some (.int x)) h := go_ri rfl rfl
theorem s_166_0 : Go d 166 0 [some (.ref r), o1, o2, o3, o4] (st) h Q = Go d 166 1 [some (.ref r), o1, o2, o3, o4] (.ref r :: st) h Q := go_lo (E := (.aload_n 0, 0, 0, 0)) rfl rfl rfl
theorem s_166_1 : Go d 166 1 L (.ref 53 :: st) (HP lx xs M) Q = Go d 166 4 L (.ref 72 :: st) (HP lx xs M) Q := go_gf rfl rfl (by decide) rfl
theorem s_166_4 : Go d 166 4 [o0, some (.int x), o2, o3, o4] (st) h Q = Go d 166 5 [o0, some (.int x), o2, o3, o4] (.int x :: st) h Q := go_lo (E := (.iload_n 1, 0, 0, 0)) rfl rfl rfl
theorem s_166_5 : Go d 166 5 L (.int x :: .ref 72 :: st) (HP lx xs M) Q = (ex_in x 4 = true ∧ Go d 166 6 L (.int (M 72 x.toNatClampNeg) :: st) (HP lx xs M) Q) := go_al rfl rfl
theorem s_166_6 : Go d 166 6 [o0, o1, some (.int x), o3, o4] (st) h Q = Go d 166 7 [o0, o1, some (.int x), o3, o4] (.int x :: st) h Q := go_lo (E := (.iload_n 2, 0, 0, 0)) rfl rfl rfl
theorem s_166_7 : Go d 166 7 L (.int y :: .int x :: st) h Q = (if x = y then Go d 166 27 L st h Q else Go d 166 10 L st h Q) := go_iceq rfl
theorem s_166_10 : Go d 166 10 [some (.ref r), o1, o2, o3, o4] (st) h Q = Go d 166 11 [some (.ref r), o1, o2, o3, o4] (.ref r :: st) h Q := go_lo (E := (.aload_n 0, 0, 0, 0)) rfl rfl rfl
theorem s_166_11 : Go d 166 11 L (.ref 53 :: st) (HP lx xs M) Q = Go d 166 14 L (.ref 72 :: st) (HP lx xs M) Q := go_gf rfl rfl (by decide) rfl
theorem s_166_14 : Go d 166 14 [o0, some (.int x), o2, o3, o4] (st) h Q = Go d 166 15 [o0, some (.int x), o2, o3, o4] (.int x :: st) h Q := go_lo (E := (.iload_n 1, 0, 0, 0)) rfl rfl rfl
theorem s_166_15 : Go d 166 15 L (.int x :: .ref 72 :: st) (HP lx xs M) Q = (ex_in x 4 = true ∧ Go d 166 16 L (.int (M 72 x.toNatClampNeg) :: st) (HP lx xs M) Q) := go_al rfl rfl
theorem s_166_16 : Go d 166 16 L (.int x :: st) h Q = (if x < 0 then Go d 166 19 L st h Q else Go d 166 24 L st h Q) := go_ifge rfl
theorem s_166_19 : Go d 166 19 L (st) h Q = Go d 166 21 L (.int (-11) :: st) h Q := go_bi rfl ci_bm11
theorem s_166_21 : Go d 166 21 L (st) h Q = Go d 166 26 L (st) h Q := go_goto rfl
theorem s_166_24 : Go d 166 24 L (st) h Q = Go d 166 26 L (.int (-12) :: st) h Q := go_bi rfl ci_bm12
theorem s_166_26 : Go d 166 26 L [.int x] h Q = Q (some (.int x)) h := go_ri rfl rfl
theorem s_166_27 : Go d 166 27 [o0, o1, o2, some (.int x), o4] (st) h Q = Go d 166 28 [o0, o1, o2, some (.int x), o4] (.int x :: st) h Q := go_lo (E := (.iload_n 3, 0, 0, 0)) rfl rfl rfl
theorem s_166_28 : Go d 166 28 L (.int x :: st) h Q = Go d 166 29 L (.long (x.toInt64) :: st) h Q := go_op (E := (.i2l, 0, 0, 0)) rfl rfl
theorem s_166_29 : Go d 166 29 L (st) h Q = Go d 166 30 L (.long (lN 0) :: st) h Q := go_op (E := (.lconst 0, 0, 0, 0)) rfl rfl
theorem s_166_30 : Go d 166 30 [some (.ref r), o1, o2, o3, o4] (st) h Q = Go d 166 31 [some (.ref r), o1, o2, o3, o4] (.ref r :: st) h Q := go_lo (E := (.aload_n 0, 0, 0, 0)) rfl rfl rfl
theorem s_166_31 : Go d 166 31 L (.ref 53 :: st) (HP lx xs M) Q = Go d 166 34 L (.ref 73 :: st) (HP lx xs M) Q := go_gf rfl rfl (by decide) rfl
theorem s_166_34 : Go d 166 34 [o0, some (.int x), o2, o3, o4] (st) h Q = Go d 166 35 [o0, some (.int x), o2, o3, o4] (.int x :: st) h Q := go_lo (E := (.iload_n 1, 0, 0, 0)) rfl rfl rfl
theorem s_166_35 : Go d 166 35 L (.int x :: .ref 73 :: st) (HP lx xs M) Q = (ex_in x 4 = true ∧ Go d 166 36 L (.int (M 73 x.toNatClampNeg) :: st) (HP lx xs M) Q) := go_al rfl rfl
theorem s_166_36 : Go d 166 36 [o0, o1, o2, o3, some (.int x)] (st) h Q = Go d 166 38 [o0, o1, o2, o3, some (.int x)] (.int x :: st) h Q := go_lo (E := (.iload 4, 0, 0, 0)) rfl rfl rfl
theorem s_166_38 : Go d 166 38 L (.int y :: .int x :: st) h Q = Go d 166 39 L (.int (x - y) :: st) h Q := go_op (E := (.isub, 0, 0, 0)) rfl rfl
theorem s_166_39 : Go d 166 39 L (.int x :: st) h Q = Go d 166 40 L (.long (x.toInt64) :: st) h Q := go_op (E := (.i2l, 0, 0, 0)) rfl rfl
theorem s_166_40 {al0 : Int64} {al1 : Int64} {al2 : Int64} : Go (d + 1) 166 40 L [.long al2, .long al1, .long al0] h Q = Go d 114 0 [some (.long al0), none, some (.long al1), none, some (.long al2), none] [] h (fun v h2 => Go (d + 1) 166 43 L (ap v []) h2 Q) := go_cx (E := (.invokestatic 84, 114, 0, 0)) (k' := 114) (as := [.long al0, .long al1, .long al2]) rfl rfl rfl rfl rfl rfl rfl rfl
theorem s_166_43 : Go d 166 43 L (.int x :: st) h Q = (if x = 0 then Go d 166 50 L st h Q else Go d 166 46 L st h Q) := go_ifeq rfl
theorem s_166_46 : Go d 166 46 L (st) h Q = Go d 166 47 L (.int (nI 0) :: st) h Q := go_ic rfl ci_i0
theorem s_166_47 : Go d 166 47 L (st) h Q = Go d 166 52 L (st) h Q := go_goto rfl
theorem s_166_50 : Go d 166 50 L (st) h Q = Go d 166 52 L (.int (-13) :: st) h Q := go_bi rfl ci_bm13
theorem s_166_52 : Go d 166 52 L [.int x] h Q = Q (some (.int x)) h := go_ri rfl rfl
theorem s_167_0 : Go d 167 0 [o0, some (.int x), o2, o3, o4, o5] (st) h Q = Go d 167 1 [o0, some (.int x), o2, o3, o4, o5] (.int x :: st) h Q := go_lo (E := (.iload_n 1, 0, 0, 0)) rfl rfl rfl
theorem s_167_1 : Go d 167 1 [o0, o1, some (.int x), o3, o4, o5] (st) h Q = Go d 167 2 [o0, o1, some (.int x), o3, o4, o5] (.int x :: st) h Q := go_lo (E := (.iload_n 2, 0, 0, 0)) rfl rfl rfl
theorem s_167_2 {a0 : Int32} {a1 : Int32} : Go (d + 1) 167 2 L [.int a1, .int a0] h Q = Go d 163 0 [some (.int a0), some (.int a1)] [] h (fun v h2 => Go (d + 1) 167 5 L (ap v []) h2 Q) := go_cx (E := (.invokestatic 239, 163, 0, 0)) (k' := 163) (as := [.int a0, .int a1]) rfl rfl rfl rfl rfl rfl rfl rfl
theorem s_167_5 : Go d 167 5 L (.int x :: st) h Q = (if x = 0 then Go d 167 8 L st h Q else Go d 167 10 L st h Q) := go_ifne rfl
theorem s_167_8 : Go d 167 8 L (st) h Q = Go d 167 9 L (.int (-1) :: st) h Q := go_ic rfl ci_im1
theorem s_167_9 : Go d 167 9 L [.int x] h Q = Q (some (.int x)) h := go_ri rfl rfl
theorem s_167_10 : Go d 167 10 [some (.ref r), o1, o2, o3, o4, o5] (st) h Q = Go d 167 11 [some (.ref r), o1, o2, o3, o4, o5] (.ref r :: st) h Q := go_lo (E := (.aload_n 0, 0, 0, 0)) rfl rfl rfl
theorem s_167_11 : Go d 167 11 [o0, some (.int x), o2, o3, o4, o5] (st) h Q = Go d 167 12 [o0, some (.int x), o2, o3, o4, o5] (.int x :: st) h Q := go_lo (E := (.iload_n 1, 0, 0, 0)) rfl rfl rfl
theorem s_167_12 : Go d 167 12 [o0, o1, some (.int x), o3, o4, o5] (st) h Q = Go d 167 13 [o0, o1, some (.int x), o3, o4, o5] (.int x :: st) h Q := go_lo (E := (.iload_n 2, 0, 0, 0)) rfl rfl rfl
theorem s_167_13 : Go d 167 13 [o0, o1, o2, some (.int x), o4, o5] (st) h Q = Go d 167 14 [o0, o1, o2, some (.int x), o4, o5] (.int x :: st) h Q := go_lo (E := (.iload_n 3, 0, 0, 0)) rfl rfl rfl
theorem s_167_14 : Go d 167 14 L (st) h Q = Go d 167 15 L (.int (nI 1) :: st) h Q := go_ic rfl ci_i1
theorem s_167_15 {a1 : Int32} {a2 : Int32} {a3 : Int32} {a4 : Int32} : Go (d + 1) 167 15 L [.int a4, .int a3, .int a2, .int a1, .ref 53] (HP lx xs M) Q = Go d 166 0 [some (.ref 53), some (.int a1), some (.int a2), some (.int a3), some (.int a4)] [] (HP lx xs M) (fun v h2 => Go (d + 1) 167 18 L (ap v []) h2 Q) := go_cx (E := (.invokevirtual 242, 166, 0, 7)) (k' := 166) (as := [.ref 53, .int a1, .int a2, .int a3, .int a4]) rfl rfl rfl rfl rfl rfl rfl rfl
theorem s_167_18 : Go d 167 18 [o0, o1, o2, o3, o4, o5] (.int x :: st) h Q = Go d 167 20 [o0, o1, o2, o3, o4, some (.int x)] (st) h Q := go_lo (E := (.istore 5, 0, 0, 0)) rfl rfl rfl
theorem s_167_20 : Go d 167 20 [o0, o1, o2, o3, o4, some (.int x)] (st) h Q = Go d 167 22 [o0, o1, o2, o3, o4, some (.int x)] (.int x :: st) h Q := go_lo (E := (.iload 5, 0, 0, 0)) rfl rfl rfl
theorem s_167_22 : Go d 167 22 L (.int x :: st) h Q = (if x < 0 then Go d 167 25 L st h Q else Go d 167 28 L st h Q) := go_ifge rfl
theorem s_167_25 : Go d 167 25 [o0, o1, o2, o3, o4, some (.int x)] (st) h Q = Go d 167 27 [o0, o1, o2, o3, o4, some (.int x)] (.int x :: st) h Q := go_lo (E := (.iload 5, 0, 0, 0)) rfl rfl rfl
theorem s_167_27 : Go d 167 27 L [.int x] h Q = Q (some (.int x)) h := go_ri rfl rfl
theorem s_167_28 : Go d 167 28 [some (.ref r), o1, o2, o3, o4, o5] (st) h Q = Go d 167 29 [some (.ref r), o1, o2, o3, o4, o5] (.ref r :: st) h Q := go_lo (E := (.aload_n 0, 0, 0, 0)) rfl rfl rfl
theorem s_167_29 : Go d 167 29 L (.ref 53 :: st) (HP lx xs M) Q = Go d 167 32 L (.ref 74 :: st) (HP lx xs M) Q := go_gf rfl rfl (by decide) rfl
theorem s_167_32 : Go d 167 32 L (st) h Q = Go d 167 34 L (.int (nI 24) :: st) h Q := go_bi rfl ci_b24
theorem s_167_34 : Go d 167 34 [o0, some (.int x), o2, o3, o4, o5] (st) h Q = Go d 167 35 [o0, some (.int x), o2, o3, o4, o5] (.int x :: st) h Q := go_lo (E := (.iload_n 1, 0, 0, 0)) rfl rfl rfl
theorem s_167_35 : Go d 167 35 L (.int y :: .int x :: st) h Q = Go d 167 36 L (.int (x * y) :: st) h Q := go_op (E := (.imul, 0, 0, 0)) rfl rfl
theorem s_167_36 : Go d 167 36 [o0, o1, o2, some (.int x), o4, o5] (st) h Q = Go d 167 37 [o0, o1, o2, some (.int x), o4, o5] (.int x :: st) h Q := go_lo (E := (.iload_n 3, 0, 0, 0)) rfl rfl rfl
theorem s_167_37 : Go d 167 37 L (.int y :: .int x :: st) h Q = Go d 167 38 L (.int (x + y) :: st) h Q := go_op (E := (.iadd, 0, 0, 0)) rfl rfl
theorem s_167_38 : Go d 167 38 [o0, o1, some (.int x), o3, o4, o5] (st) h Q = Go d 167 39 [o0, o1, some (.int x), o3, o4, o5] (.int x :: st) h Q := go_lo (E := (.iload_n 2, 0, 0, 0)) rfl rfl rfl
theorem s_167_39 : Go d 167 39 L (.int x :: st) h Q = (if x = 0 then Go d 167 42 L st h Q else Go d 167 53 L st h Q) := go_ifne rfl
theorem s_167_42 : Go d 167 42 [o0, o1, o2, o3, some (.int x), o5] (st) h Q = Go d 167 44 [o0, o1, o2, o3, some (.int x), o5] (.int x :: st) h Q := go_lo (E := (.iload 4, 0, 0, 0)) rfl rfl rfl
theorem s_167_44 : Go d 167 44 L (st) h Q = Go d 167 46 L (.int (nI 24) :: st) h Q := go_bi rfl ci_b24
theorem s_167_46 : Go d 167 46 L (.int y :: .int x :: st) h Q = Go d 167 47 L (.int (x <<< (y &&& 31)) :: st) h Q := go_op (E := (.ishl, 0, 0, 0)) rfl rfl
theorem s_167_47 : Go d 167 47 L (st) h Q = Go d 167 49 L (.int (nI 24) :: st) h Q := go_bi rfl ci_b24
theorem s_167_49 : Go d 167 49 L (.int y :: .int x :: st) h Q = Go d 167 50 L (.int (x >>> (y &&& 31)) :: st) h Q := go_op (E := (.ishr, 0, 0, 0)) rfl rfl
theorem s_167_50 : Go d 167 50 L (st) h Q = Go d 167 71 L (st) h Q := go_goto rfl
theorem s_167_53 : Go d 167 53 [o0, o1, some (.int x), o3, o4, o5] (st) h Q = Go d 167 54 [o0, o1, some (.int x), o3, o4, o5] (.int x :: st) h Q := go_lo (E := (.iload_n 2, 0, 0, 0)) rfl rfl rfl
theorem s_167_54 : Go d 167 54 L (st) h Q = Go d 167 55 L (.int (nI 1) :: st) h Q := go_ic rfl ci_i1
theorem s_167_55 : Go d 167 55 L (.int y :: .int x :: st) h Q = (if x = y then Go d 167 58 L st h Q else Go d 167 69 L st h Q) := go_icne rfl
theorem s_167_58 : Go d 167 58 [o0, o1, o2, o3, some (.int x), o5] (st) h Q = Go d 167 60 [o0, o1, o2, o3, some (.int x), o5] (.int x :: st) h Q := go_lo (E := (.iload 4, 0, 0, 0)) rfl rfl rfl
theorem s_167_60 : Go d 167 60 L (st) h Q = Go d 167 62 L (.int (nI 16) :: st) h Q := go_bi rfl ci_b16
theorem s_167_62 : Go d 167 62 L (.int y :: .int x :: st) h Q = Go d 167 63 L (.int (x <<< (y &&& 31)) :: st) h Q := go_op (E := (.ishl, 0, 0, 0)) rfl rfl
theorem s_167_63 : Go d 167 63 L (st) h Q = Go d 167 65 L (.int (nI 16) :: st) h Q := go_bi rfl ci_b16
theorem s_167_65 : Go d 167 65 L (.int y :: .int x :: st) h Q = Go d 167 66 L (.int (x >>> (y &&& 31)) :: st) h Q := go_op (E := (.ishr, 0, 0, 0)) rfl rfl
theorem s_167_66 : Go d 167 66 L (st) h Q = Go d 167 71 L (st) h Q := go_goto rfl
theorem s_167_69 : Go d 167 69 [o0, o1, o2, o3, some (.int x), o5] (st) h Q = Go d 167 71 [o0, o1, o2, o3, some (.int x), o5] (.int x :: st) h Q := go_lo (E := (.iload 4, 0, 0, 0)) rfl rfl rfl
theorem s_167_71 : Go d 167 71 L (.int y :: .int x :: .ref 74 :: st) (HP lx xs M) Q = (ex_in x 96 = true ∧ Go d 167 72 L (st) (HP lx xs (up M 74 x.toNatClampNeg y)) Q) := go_as rfl rfl (by decide) hs_74
theorem s_167_72 : Go d 167 72 L (st) h Q = Go d 167 73 L (.int (nI 1) :: st) h Q := go_ic rfl ci_i1
theorem s_167_73 : Go d 167 73 L [.int x] h Q = Q (some (.int x)) h := go_ri rfl rfl
theorem s_168_0 : Go d 168 0 [o0, some (.int x), o2, o3, o4, o5, o6, o7, o8, o9, o10, o11] (st) h Q = Go d 168 1 [o0, some (.int x), o2, o3, o4, o5, o6, o7, o8, o9, o10, o11] (.int x :: st) h Q := go_lo (E := (.iload_n 1, 0, 0, 0)) rfl rfl rfl
theorem s_168_1 : Go d 168 1 [o0, o1, some (.int x), o3, o4, o5, o6, o7, o8, o9, o10, o11] (st) h Q = Go d 168 2 [o0, o1, some (.int x), o3, o4, o5, o6, o7, o8, o9, o10, o11] (.int x :: st) h Q := go_lo (E := (.iload_n 2, 0, 0, 0)) rfl rfl rfl
theorem s_168_2 {a0 : Int32} {a1 : Int32} : Go (d + 1) 168 2 L [.int a1, .int a0] h Q = Go d 163 0 [some (.int a0), some (.int a1)] [] h (fun v h2 => Go (d + 1) 168 5 L (ap v []) h2 Q) := go_cx (E := (.invokestatic 239, 163, 0, 0)) (k' := 163) (as := [.int a0, .int a1]) rfl rfl rfl rfl rfl rfl rfl rfl
theorem s_168_5 : Go d 168 5 L (.int x :: st) h Q = (if x = 0 then Go d 168 21 L st h Q else Go d 168 8 L st h Q) := go_ifeq rfl
theorem s_168_8 : Go d 168 8 [o0, o1, o2, o3, some (.int x), o5, o6, o7, o8, o9, o10, o11] (st) h Q = Go d 168 10 [o0, o1, o2, o3, some (.int x), o5, o6, o7, o8, o9, o10, o11] (.int x :: st) h Q := go_lo (E := (.iload 4, 0, 0, 0)) rfl rfl rfl
theorem s_168_10 : Go d 168 10 L (.int x :: st) h Q = Go d 168 11 L (.long (x.toInt64) :: st) h Q := go_op (E := (.i2l, 0, 0, 0)) rfl rfl
theorem s_168_11 : Go d 168 11 L (st) h Q = Go d 168 12 L (.long (lN 1) :: st) h Q := go_op (E := (.lconst 1, 0, 0, 0)) rfl rfl
theorem s_168_12 : Go d 168 12 L (st) h Q = Go d 168 15 L (.long (lN 3) :: st) h Q := go_ld2 rfl ci_l3
theorem s_168_15 {al0 : Int64} {al1 : Int64} {al2 : Int64} : Go (d + 1) 168 15 L [.long al2, .long al1, .long al0] h Q = Go d 114 0 [some (.long al0), none, some (.long al1), none, some (.long al2), none] [] h (fun v h2 => Go (d + 1) 168 18 L (ap v []) h2 Q) := go_cx (E := (.invokestatic 84, 114, 0, 0)) (k' := 114) (as := [.long al0, .long al1, .long al2]) rfl rfl rfl rfl rfl rfl rfl rfl
theorem s_168_18 : Go d 168 18 L (.int x :: st) h Q = (if x = 0 then Go d 168 21 L st h Q else Go d 168 23 L st h Q) := go_ifne rfl
theorem s_168_21 : Go d 168 21 L (st) h Q = Go d 168 22 L (.int (-1) :: st) h Q := go_ic rfl ci_im1
theorem s_168_22 : Go d 168 22 L [.int x] h Q = Q (some (.int x)) h := go_ri rfl rfl
theorem s_168_23 : Go d 168 23 [some (.ref r), o1, o2, o3, o4, o5, o6, o7, o8, o9, o10, o11] (st) h Q = Go d 168 24 [some (.ref r), o1, o2, o3, o4, o5, o6, o7, o8, o9, o10, o11] (.ref r :: st) h Q := go_lo (E := (.aload_n 0, 0, 0, 0)) rfl rfl rfl
theorem s_168_24 : Go d 168 24 [o0, some (.int x), o2, o3, o4, o5, o6, o7, o8, o9, o10, o11] (st) h Q = Go d 168 25 [o0, some (.int x), o2, o3, o4, o5, o6, o7, o8, o9, o10, o11] (.int x :: st) h Q := go_lo (E := (.iload_n 1, 0, 0, 0)) rfl rfl rfl
theorem s_168_25 : Go d 168 25 [o0, o1, some (.int x), o3, o4, o5, o6, o7, o8, o9, o10, o11] (st) h Q = Go d 168 26 [o0, o1, some (.int x), o3, o4, o5, o6, o7, o8, o9, o10, o11] (.int x :: st) h Q := go_lo (E := (.iload_n 2, 0, 0, 0)) rfl rfl rfl
theorem s_168_26 : Go d 168 26 [o0, o1, o2, some (.int x), o4, o5, o6, o7, o8, o9, o10, o11] (st) h Q = Go d 168 27 [o0, o1, o2, some (.int x), o4, o5, o6, o7, o8, o9, o10, o11] (.int x :: st) h Q := go_lo (E := (.iload_n 3, 0, 0, 0)) rfl rfl rfl
theorem s_168_27 : Go d 168 27 L (st) h Q = Go d 168 28 L (.int (nI 3) :: st) h Q := go_ic rfl ci_i3
theorem s_168_28 : Go d 168 28 [o0, o1, o2, o3, some (.int x), o5, o6, o7, o8, o9, o10, o11] (st) h Q = Go d 168 30 [o0, o1, o2, o3, some (.int x), o5, o6, o7, o8, o9, o10, o11] (.int x :: st) h Q := go_lo (E := (.iload 4, 0, 0, 0)) rfl rfl rfl
theorem s_168_30 : Go d 168 30 L (.int y :: .int x :: st) h Q = Go d 168 31 L (.int (x * y) :: st) h Q := go_op (E := (.imul, 0, 0, 0)) rfl rfl
theorem s_168_31 {a1 : Int32} {a2 : Int32} {a3 : Int32} {a4 : Int32} : Go (d + 1) 168 31 L [.int a4, .int a3, .int a2, .int a1, .ref 53] (HP lx xs M) Q = Go d 166 0 [some (.ref 53), some (.int a1), some (.int a2), some (.int a3), some (.int a4)] [] (HP lx xs M) (fun v h2 => Go (d + 1) 168 34 L (ap v []) h2 Q) := go_cx (E := (.invokevirtual 242, 166, 0, 7)) (k' := 166) (as := [.ref 53, .int a1, .int a2, .int a3, .int a4]) rfl rfl rfl rfl rfl rfl rfl rfl
theorem s_168_34 : Go d 168 34 [o0, o1, o2, o3, o4, o5, o6, o7, o8, o9, o10, o11] (.int x :: st) h Q = Go d 168 36 [o0, o1, o2, o3, o4, some (.int x), o6, o7, o8, o9, o10, o11] (st) h Q := go_lo (E := (.istore 5, 0, 0, 0)) rfl rfl rfl
theorem s_168_36 : Go d 168 36 [o0, o1, o2, o3, o4, some (.int x), o6, o7, o8, o9, o10, o11] (st) h Q = Go d 168 38 [o0, o1, o2, o3, o4, some (.int x), o6, o7, o8, o9, o10, o11] (.int x :: st) h Q := go_lo (E := (.iload 5, 0, 0, 0)) rfl rfl rfl
theorem s_168_38 : Go d 168 38 L (.int x :: st) h Q = (if x < 0 then Go d 168 41 L st h Q else Go d 168 44 L st h Q) := go_ifge rfl
theorem s_168_41 : Go d 168 41 [o0, o1, o2, o3, o4, some (.int x), o6, o7, o8, o9, o10, o11] (st) h Q = Go d 168 43 [o0, o1, o2, o3, o4, some (.int x), o6, o7, o8, o9, o10, o11] (.int x :: st) h Q := go_lo (E := (.iload 5, 0, 0, 0)) rfl rfl rfl
theorem s_168_43 : Go d 168 43 L [.int x] h Q = Q (some (.int x)) h := go_ri rfl rfl
theorem s_168_44 : Go d 168 44 L (st) h Q = Go d 168 46 L (.int (nI 24) :: st) h Q := go_bi rfl ci_b24
theorem s_168_46 : Go d 168 46 [o0, some (.int x), o2, o3, o4, o5, o6, o7, o8, o9, o10, o11] (st) h Q = Go d 168 47 [o0, some (.int x), o2, o3, o4, o5, o6, o7, o8, o9, o10, o11] (.int x :: st) h Q := go_lo (E := (.iload_n 1, 0, 0, 0)) rfl rfl rfl
theorem s_168_47 : Go d 168 47 L (.int y :: .int x :: st) h Q = Go d 168 48 L (.int (x * y) :: st) h Q := go_op (E := (.imul, 0, 0, 0)) rfl rfl
theorem s_168_48 : Go d 168 48 [o0, o1, o2, some (.int x), o4, o5, o6, o7, o8, o9, o10, o11] (st) h Q = Go d 168 49 [o0, o1, o2, some (.int x), o4, o5, o6, o7, o8, o9, o10, o11] (.int x :: st) h Q := go_lo (E := (.iload_n 3, 0, 0, 0)) rfl rfl rfl
theorem s_168_49 : Go d 168 49 L (.int y :: .int x :: st) h Q = Go d 168 50 L (.int (x + y) :: st) h Q := go_op (E := (.iadd, 0, 0, 0)) rfl rfl
theorem s_168_50 : Go d 168 50 [o0, o1, o2, o3, o4, o5, o6, o7, o8, o9, o10, o11] (.int x :: st) h Q = Go d 168 52 [o0, o1, o2, o3, o4, o5, some (.int x), o7, o8, o9, o10, o11] (st) h Q := go_lo (E := (.istore 6, 0, 0, 0)) rfl rfl rfl
theorem s_168_52 : Go d 168 52 L (st) h Q = Go d 168 53 L (.int (nI 0) :: st) h Q := go_ic rfl ci_i0
theorem s_168_53 : Go d 168 53 [o0, o1, o2, o3, o4, o5, o6, o7, o8, o9, o10, o11] (.int x :: st) h Q = Go d 168 55 [o0, o1, o2, o3, o4, o5, o6, some (.int x), o8, o9, o10, o11] (st) h Q := go_lo (E := (.istore 7, 0, 0, 0)) rfl rfl rfl
theorem s_168_55 : Go d 168 55 L (st) h Q = Go d 168 56 L (.int (nI 0) :: st) h Q := go_ic rfl ci_i0
theorem s_168_56 : Go d 168 56 [o0, o1, o2, o3, o4, o5, o6, o7, o8, o9, o10, o11] (.int x :: st) h Q = Go d 168 58 [o0, o1, o2, o3, o4, o5, o6, o7, some (.int x), o9, o10, o11] (st) h Q := go_lo (E := (.istore 8, 0, 0, 0)) rfl rfl rfl
theorem s_168_58 : Go d 168 58 [o0, o1, o2, o3, o4, o5, o6, o7, some (.int x), o9, o10, o11] (st) h Q = Go d 168 60 [o0, o1, o2, o3, o4, o5, o6, o7, some (.int x), o9, o10, o11] (.int x :: st) h Q := go_lo (E := (.iload 8, 0, 0, 0)) rfl rfl rfl
theorem s_168_60 : Go d 168 60 [o0, o1, o2, o3, some (.int x), o5, o6, o7, o8, o9, o10, o11] (st) h Q = Go d 168 62 [o0, o1, o2, o3, some (.int x), o5, o6, o7, o8, o9, o10, o11] (.int x :: st) h Q := go_lo (E := (.iload 4, 0, 0, 0)) rfl rfl rfl
theorem s_168_62 : Go d 168 62 L (.int y :: .int x :: st) h Q = (if x < y then Go d 168 65 L st h Q else Go d 168 186 L st h Q) := go_icge rfl
theorem s_168_65 : Go d 168 65 [some (.ref r), o1, o2, o3, o4, o5, o6, o7, o8, o9, o10, o11] (st) h Q = Go d 168 66 [some (.ref r), o1, o2, o3, o4, o5, o6, o7, o8, o9, o10, o11] (.ref r :: st) h Q := go_lo (E := (.aload_n 0, 0, 0, 0)) rfl rfl rfl
theorem s_168_66 : Go d 168 66 L (.ref 53 :: st) (HP lx xs M) Q = Go d 168 69 L (.ref 74 :: st) (HP lx xs M) Q := go_gf rfl rfl (by decide) rfl
theorem s_168_69 : Go d 168 69 [o0, o1, o2, o3, o4, o5, some (.int x), o7, o8, o9, o10, o11] (st) h Q = Go d 168 71 [o0, o1, o2, o3, o4, o5, some (.int x), o7, o8, o9, o10, o11] (.int x :: st) h Q := go_lo (E := (.iload 6, 0, 0, 0)) rfl rfl rfl
theorem s_168_71 : Go d 168 71 L (st) h Q = Go d 168 72 L (.int (nI 3) :: st) h Q := go_ic rfl ci_i3
theorem s_168_72 : Go d 168 72 [o0, o1, o2, o3, o4, o5, o6, o7, some (.int x), o9, o10, o11] (st) h Q = Go d 168 74 [o0, o1, o2, o3, o4, o5, o6, o7, some (.int x), o9, o10, o11] (.int x :: st) h Q := go_lo (E := (.iload 8, 0, 0, 0)) rfl rfl rfl
theorem s_168_74 : Go d 168 74 L (.int y :: .int x :: st) h Q = Go d 168 75 L (.int (x * y) :: st) h Q := go_op (E := (.imul, 0, 0, 0)) rfl rfl
theorem s_168_75 : Go d 168 75 L (.int y :: .int x :: st) h Q = Go d 168 76 L (.int (x + y) :: st) h Q := go_op (E := (.iadd, 0, 0, 0)) rfl rfl
theorem s_168_76 : Go d 168 76 L (.int x :: .ref 74 :: st) (HP lx xs M) Q = (ex_in x 96 = true ∧ Go d 168 77 L (.int (M 74 x.toNatClampNeg) :: st) (HP lx xs M) Q) := go_al rfl rfl
theorem s_168_77 : Go d 168 77 [o0, o1, o2, o3, o4, o5, o6, o7, o8, o9, o10, o11] (.int x :: st) h Q = Go d 168 79 [o0, o1, o2, o3, o4, o5, o6, o7, o8, some (.int x), o10, o11] (st) h Q := go_lo (E := (.istore 9, 0, 0, 0)) rfl rfl rfl
theorem s_168_79 : Go d 168 79 [some (.ref r), o1, o2, o3, o4, o5, o6, o7, o8, o9, o10, o11] (st) h Q = Go d 168 80 [some (.ref r), o1, o2, o3, o4, o5, o6, o7, o8, o9, o10, o11] (.ref r :: st) h Q := go_lo (E := (.aload_n 0, 0, 0, 0)) rfl rfl rfl
theorem s_168_80 : Go d 168 80 L (.ref 53 :: st) (HP lx xs M) Q = Go d 168 83 L (.ref 74 :: st) (HP lx xs M) Q := go_gf rfl rfl (by decide) rfl
theorem s_168_83 : Go d 168 83 [o0, o1, o2, o3, o4, o5, some (.int x), o7, o8, o9, o10, o11] (st) h Q = Go d 168 85 [o0, o1, o2, o3, o4, o5, some (.int x), o7, o8, o9, o10, o11] (.int x :: st) h Q := go_lo (E := (.iload 6, 0, 0, 0)) rfl rfl rfl
theorem s_168_85 : Go d 168 85 L (st) h Q = Go d 168 86 L (.int (nI 3) :: st) h Q := go_ic rfl ci_i3
theorem s_168_86 : Go d 168 86 [o0, o1, o2, o3, o4, o5, o6, o7, some (.int x), o9, o10, o11] (st) h Q = Go d 168 88 [o0, o1, o2, o3, o4, o5, o6, o7, some (.int x), o9, o10, o11] (.int x :: st) h Q := go_lo (E := (.iload 8, 0, 0, 0)) rfl rfl rfl
theorem s_168_88 : Go d 168 88 L (.int y :: .int x :: st) h Q = Go d 168 89 L (.int (x * y) :: st) h Q := go_op (E := (.imul, 0, 0, 0)) rfl rfl
theorem s_168_89 : Go d 168 89 L (.int y :: .int x :: st) h Q = Go d 168 90 L (.int (x + y) :: st) h Q := go_op (E := (.iadd, 0, 0, 0)) rfl rfl
theorem s_168_90 : Go d 168 90 L (st) h Q = Go d 168 91 L (.int (nI 1) :: st) h Q := go_ic rfl ci_i1
theorem s_168_91 : Go d 168 91 L (.int y :: .int x :: st) h Q = Go d 168 92 L (.int (x + y) :: st) h Q := go_op (E := (.iadd, 0, 0, 0)) rfl rfl
theorem s_168_92 : Go d 168 92 L (.int x :: .ref 74 :: st) (HP lx xs M) Q = (ex_in x 96 = true ∧ Go d 168 93 L (.int (M 74 x.toNatClampNeg) :: st) (HP lx xs M) Q) := go_al rfl rfl
theorem s_168_93 : Go d 168 93 [o0, o1, o2, o3, o4, o5, o6, o7, o8, o9, o10, o11] (.int x :: st) h Q = Go d 168 95 [o0, o1, o2, o3, o4, o5, o6, o7, o8, o9, some (.int x), o11] (st) h Q := go_lo (E := (.istore 10, 0, 0, 0)) rfl rfl rfl
theorem s_168_95 : Go d 168 95 [some (.ref r), o1, o2, o3, o4, o5, o6, o7, o8, o9, o10, o11] (st) h Q = Go d 168 96 [some (.ref r), o1, o2, o3, o4, o5, o6, o7, o8, o9, o10, o11] (.ref r :: st) h Q := go_lo (E := (.aload_n 0, 0, 0, 0)) rfl rfl rfl
theorem s_168_96 : Go d 168 96 L (.ref 53 :: st) (HP lx xs M) Q = Go d 168 99 L (.ref 74 :: st) (HP lx xs M) Q := go_gf rfl rfl (by decide) rfl
theorem s_168_99 : Go d 168 99 [o0, o1, o2, o3, o4, o5, some (.int x), o7, o8, o9, o10, o11] (st) h Q = Go d 168 101 [o0, o1, o2, o3, o4, o5, some (.int x), o7, o8, o9, o10, o11] (.int x :: st) h Q := go_lo (E := (.iload 6, 0, 0, 0)) rfl rfl rfl
theorem s_168_101 : Go d 168 101 L (st) h Q = Go d 168 102 L (.int (nI 3) :: st) h Q := go_ic rfl ci_i3
theorem s_168_102 : Go d 168 102 [o0, o1, o2, o3, o4, o5, o6, o7, some (.int x), o9, o10, o11] (st) h Q = Go d 168 104 [o0, o1, o2, o3, o4, o5, o6, o7, some (.int x), o9, o10, o11] (.int x :: st) h Q := go_lo (E := (.iload 8, 0, 0, 0)) rfl rfl rfl
theorem s_168_104 : Go d 168 104 L (.int y :: .int x :: st) h Q = Go d 168 105 L (.int (x * y) :: st) h Q := go_op (E := (.imul, 0, 0, 0)) rfl rfl
theorem s_168_105 : Go d 168 105 L (.int y :: .int x :: st) h Q = Go d 168 106 L (.int (x + y) :: st) h Q := go_op (E := (.iadd, 0, 0, 0)) rfl rfl
theorem s_168_106 : Go d 168 106 L (st) h Q = Go d 168 107 L (.int (nI 2) :: st) h Q := go_ic rfl ci_i2
theorem s_168_107 : Go d 168 107 L (.int y :: .int x :: st) h Q = Go d 168 108 L (.int (x + y) :: st) h Q := go_op (E := (.iadd, 0, 0, 0)) rfl rfl
theorem s_168_108 : Go d 168 108 L (.int x :: .ref 74 :: st) (HP lx xs M) Q = (ex_in x 96 = true ∧ Go d 168 109 L (.int (M 74 x.toNatClampNeg) :: st) (HP lx xs M) Q) := go_al rfl rfl
theorem s_168_109 : Go d 168 109 [o0, o1, o2, o3, o4, o5, o6, o7, o8, o9, o10, o11] (.int x :: st) h Q = Go d 168 111 [o0, o1, o2, o3, o4, o5, o6, o7, o8, o9, o10, some (.int x)] (st) h Q := go_lo (E := (.istore 11, 0, 0, 0)) rfl rfl rfl
theorem s_168_111 : Go d 168 111 [some (.ref r), o1, o2, o3, o4, o5, o6, o7, o8, o9, o10, o11] (st) h Q = Go d 168 112 [some (.ref r), o1, o2, o3, o4, o5, o6, o7, o8, o9, o10, o11] (.ref r :: st) h Q := go_lo (E := (.aload_n 0, 0, 0, 0)) rfl rfl rfl
theorem s_168_112 : Go d 168 112 [o0, o1, o2, o3, o4, o5, o6, o7, o8, some (.int x), o10, o11] (st) h Q = Go d 168 114 [o0, o1, o2, o3, o4, o5, o6, o7, o8, some (.int x), o10, o11] (.int x :: st) h Q := go_lo (E := (.iload 9, 0, 0, 0)) rfl rfl rfl
theorem s_168_114 : Go d 168 114 [o0, o1, o2, o3, o4, o5, o6, o7, o8, o9, some (.int x), o11] (st) h Q = Go d 168 116 [o0, o1, o2, o3, o4, o5, o6, o7, o8, o9, some (.int x), o11] (.int x :: st) h Q := go_lo (E := (.iload 10, 0, 0, 0)) rfl rfl rfl
theorem s_168_116 {a1 : Int32} {a2 : Int32} : Go (d + 1) 168 116 L [.int a2, .int a1, .ref 53] (HP lx xs M) Q = Go d 118 0 [some (.ref 53), some (.int a1), some (.int a2)] [] (HP lx xs M) (fun v h2 => Go (d + 1) 168 119 L (ap v []) h2 Q) := go_cx (E := (.invokevirtual 111, 118, 0, 7)) (k' := 118) (as := [.ref 53, .int a1, .int a2]) rfl rfl rfl rfl rfl rfl rfl rfl
theorem s_168_119 : Go d 168 119 L (.int x :: st) h Q = (if x = 0 then Go d 168 163 L st h Q else Go d 168 122 L st h Q) := go_ifeq rfl
theorem s_168_122 : Go d 168 122 [o0, o1, o2, o3, o4, o5, o6, o7, o8, o9, o10, some (.int x)] (st) h Q = Go d 168 124 [o0, o1, o2, o3, o4, o5, o6, o7, o8, o9, o10, some (.int x)] (.int x :: st) h Q := go_lo (E := (.iload 11, 0, 0, 0)) rfl rfl rfl
theorem s_168_124 {a0 : Int32} : Go (d + 1) 168 124 L [.int a0] h Q = Go d 117 0 [some (.int a0)] [] h (fun v h2 => Go (d + 1) 168 127 L (ap v []) h2 Q) := go_cx (E := (.invokestatic 98, 117, 0, 0)) (k' := 117) (as := [.int a0]) rfl rfl rfl rfl rfl rfl rfl rfl
theorem s_168_127 : Go d 168 127 L (.int x :: st) h Q = (if x = 0 then Go d 168 163 L st h Q else Go d 168 130 L st h Q) := go_ifeq rfl
theorem s_168_130 : Go d 168 130 [o0, o1, o2, o3, o4, o5, o6, some (.int x), o8, o9, o10, o11] (st) h Q = Go d 168 132 [o0, o1, o2, o3, o4, o5, o6, some (.int x), o8, o9, o10, o11] (.int x :: st) h Q := go_lo (E := (.iload 7, 0, 0, 0)) rfl rfl rfl
theorem s_168_132 : Go d 168 132 [o0, o1, o2, o3, o4, o5, o6, o7, o8, some (.int x), o10, o11] (st) h Q = Go d 168 134 [o0, o1, o2, o3, o4, o5, o6, o7, o8, some (.int x), o10, o11] (.int x :: st) h Q := go_lo (E := (.iload 9, 0, 0, 0)) rfl rfl rfl
theorem s_168_134 {a0 : Int32} {a1 : Int32} : Go (d + 1) 168 134 L [.int a1, .int a0] h Q = Go d 115 0 [some (.int a0), some (.int a1)] [] h (fun v h2 => Go (d + 1) 168 137 L (ap v []) h2 Q) := go_cx (E := (.invokestatic 107, 115, 0, 0)) (k' := 115) (as := [.int a0, .int a1]) rfl rfl rfl rfl rfl rfl rfl rfl
theorem s_168_137 : Go d 168 137 L (.int x :: st) h Q = (if x = 0 then Go d 168 140 L st h Q else Go d 168 163 L st h Q) := go_ifne rfl
theorem s_168_140 : Go d 168 140 [o0, o1, o2, o3, o4, o5, o6, some (.int x), o8, o9, o10, o11] (st) h Q = Go d 168 142 [o0, o1, o2, o3, o4, o5, o6, some (.int x), o8, o9, o10, o11] (.int x :: st) h Q := go_lo (E := (.iload 7, 0, 0, 0)) rfl rfl rfl
theorem s_168_142 : Go d 168 142 [o0, o1, o2, o3, o4, o5, o6, o7, o8, o9, some (.int x), o11] (st) h Q = Go d 168 144 [o0, o1, o2, o3, o4, o5, o6, o7, o8, o9, some (.int x), o11] (.int x :: st) h Q := go_lo (E := (.iload 10, 0, 0, 0)) rfl rfl rfl
theorem s_168_144 {a0 : Int32} {a1 : Int32} : Go (d + 1) 168 144 L [.int a1, .int a0] h Q = Go d 115 0 [some (.int a0), some (.int a1)] [] h (fun v h2 => Go (d + 1) 168 147 L (ap v []) h2 Q) := go_cx (E := (.invokestatic 107, 115, 0, 0)) (k' := 115) (as := [.int a0, .int a1]) rfl rfl rfl rfl rfl rfl rfl rfl
theorem s_168_147 : Go d 168 147 L (.int x :: st) h Q = (if x = 0 then Go d 168 150 L st h Q else Go d 168 163 L st h Q) := go_ifne rfl
theorem s_168_150 : Go d 168 150 [some (.ref r), o1, o2, o3, o4, o5, o6, o7, o8, o9, o10, o11] (st) h Q = Go d 168 151 [some (.ref r), o1, o2, o3, o4, o5, o6, o7, o8, o9, o10, o11] (.ref r :: st) h Q := go_lo (E := (.aload_n 0, 0, 0, 0)) rfl rfl rfl
theorem s_168_151 : Go d 168 151 [o0, o1, o2, o3, o4, o5, o6, o7, o8, some (.int x), o10, o11] (st) h Q = Go d 168 153 [o0, o1, o2, o3, o4, o5, o6, o7, o8, some (.int x), o10, o11] (.int x :: st) h Q := go_lo (E := (.iload 9, 0, 0, 0)) rfl rfl rfl
theorem s_168_153 : Go d 168 153 [o0, o1, o2, o3, o4, o5, o6, o7, o8, o9, some (.int x), o11] (st) h Q = Go d 168 155 [o0, o1, o2, o3, o4, o5, o6, o7, o8, o9, some (.int x), o11] (.int x :: st) h Q := go_lo (E := (.iload 10, 0, 0, 0)) rfl rfl rfl
theorem s_168_155 : Go d 168 155 [o0, o1, o2, o3, o4, o5, o6, o7, o8, o9, o10, some (.int x)] (st) h Q = Go d 168 157 [o0, o1, o2, o3, o4, o5, o6, o7, o8, o9, o10, some (.int x)] (.int x :: st) h Q := go_lo (E := (.iload 11, 0, 0, 0)) rfl rfl rfl
theorem s_168_157 {a1 : Int32} {a2 : Int32} {a3 : Int32} : Go (d + 1) 168 157 L [.int a3, .int a2, .int a1, .ref 53] (HP lx xs M) Q = Go d 137 0 [some (.ref 53), some (.int a1), some (.int a2), some (.int a3)] [] (HP lx xs M) (fun v h2 => Go (d + 1) 168 160 L (ap v []) h2 Q) := go_cx (E := (.invokevirtual 169, 137, 0, 7)) (k' := 137) (as := [.ref 53, .int a1, .int a2, .int a3]) rfl rfl rfl rfl rfl rfl rfl rfl
theorem s_168_160 : Go d 168 160 L (.int x :: st) h Q = (if x = 0 then Go d 168 163 L st h Q else Go d 168 166 L st h Q) := go_ifne rfl
set_option maxRecDepth 30000 in
theorem s_168_163 : Go d 168 163 L (st) h Q = Go d 168 165 L (.int (-2) :: st) h Q := go_bi rfl ci_bm2
set_option maxRecDepth 30000 in
theorem s_168_165 : Go d 168 165 L [.int x] h Q = Q (some (.int x)) h := go_ri rfl rfl
set_option maxRecDepth 30000 in
theorem s_168_166 : Go d 168 166 [o0, o1, o2, o3, o4, o5, o6, some (.int x), o8, o9, o10, o11] (st) h Q = Go d 168 168 [o0, o1, o2, o3, o4, o5, o6, some (.int x), o8, o9, o10, o11] (.int x :: st) h Q := go_lo (E := (.iload 7, 0, 0, 0)) rfl rfl rfl
set_option maxRecDepth 30000 in
theorem s_168_168 : Go d 168 168 L (st) h Q = Go d 168 169 L (.int (nI 1) :: st) h Q := go_ic rfl ci_i1
set_option maxRecDepth 30000 in
theorem s_168_169 : Go d 168 169 [o0, o1, o2, o3, o4, o5, o6, o7, o8, some (.int x), o10, o11] (st) h Q = Go d 168 171 [o0, o1, o2, o3, o4, o5, o6, o7, o8, some (.int x), o10, o11] (.int x :: st) h Q := go_lo (E := (.iload 9, 0, 0, 0)) rfl rfl rfl
set_option maxRecDepth 30000 in
theorem s_168_171 : Go d 168 171 L (.int y :: .int x :: st) h Q = Go d 168 172 L (.int (x <<< (y &&& 31)) :: st) h Q := go_op (E := (.ishl, 0, 0, 0)) rfl rfl
set_option maxRecDepth 30000 in
theorem s_168_172 : Go d 168 172 L (st) h Q = Go d 168 173 L (.int (nI 1) :: st) h Q := go_ic rfl ci_i1
set_option maxRecDepth 30000 in
theorem s_168_173 : Go d 168 173 [o0, o1, o2, o3, o4, o5, o6, o7, o8, o9, some (.int x), o11] (st) h Q = Go d 168 175 [o0, o1, o2, o3, o4, o5, o6, o7, o8, o9, some (.int x), o11] (.int x :: st) h Q := go_lo (E := (.iload 10, 0, 0, 0)) rfl rfl rfl
set_option maxRecDepth 30000 in
theorem s_168_175 : Go d 168 175 L (.int y :: .int x :: st) h Q = Go d 168 176 L (.int (x <<< (y &&& 31)) :: st) h Q := go_op (E := (.ishl, 0, 0, 0)) rfl rfl
set_option maxRecDepth 30000 in
theorem s_168_176 : Go d 168 176 L (.int y :: .int x :: st) h Q = Go d 168 177 L (.int (x ||| y) :: st) h Q := go_op (E := (.ior, 0, 0, 0)) rfl rfl
set_option maxRecDepth 30000 in
theorem s_168_177 : Go d 168 177 L (.int y :: .int x :: st) h Q = Go d 168 178 L (.int (x ||| y) :: st) h Q := go_op (E := (.ior, 0, 0, 0)) rfl rfl
set_option maxRecDepth 30000 in
theorem s_168_178 : Go d 168 178 [o0, o1, o2, o3, o4, o5, o6, o7, o8, o9, o10, o11] (.int x :: st) h Q = Go d 168 180 [o0, o1, o2, o3, o4, o5, o6, some (.int x), o8, o9, o10, o11] (st) h Q := go_lo (E := (.istore 7, 0, 0, 0)) rfl rfl rfl
set_option maxRecDepth 30000 in
theorem s_168_180 : Go d 168 180 [o0, o1, o2, o3, o4, o5, o6, o7, some (.int x), o9, o10, o11] (st) h Q = Go d 168 183 [o0, o1, o2, o3, o4, o5, o6, o7, some (.int (x + nI 1)), o9, o10, o11] (st) h Q := (ci_i1 ▸ go_lo (E := (.iinc 8 1, 0, 0, 0)) rfl rfl rfl : _ = Go d 168 183 [o0, o1, o2, o3, o4, o5, o6, o7, some (.int (x + nI 1)), o9, o10, o11] (st) h Q)
set_option maxRecDepth 30000 in
theorem s_168_183 : Go d 168 183 L (st) h Q = Go d 168 58 L (st) h Q := go_goto rfl
set_option maxRecDepth 30000 in
theorem s_168_186 : Go d 168 186 L (st) h Q = Go d 168 187 L (.int (nI 0) :: st) h Q := go_ic rfl ci_i0
set_option maxRecDepth 30000 in
theorem s_168_187 : Go d 168 187 [o0, o1, o2, o3, o4, o5, o6, o7, o8, o9, o10, o11] (.int x :: st) h Q = Go d 168 189 [o0, o1, o2, o3, o4, o5, o6, o7, some (.int x), o9, o10, o11] (st) h Q := go_lo (E := (.istore 8, 0, 0, 0)) rfl rfl rfl
set_option maxRecDepth 30000 in
theorem s_168_189 : Go d 168 189 [o0, o1, o2, o3, o4, o5, o6, o7, some (.int x), o9, o10, o11] (st) h Q = Go d 168 191 [o0, o1, o2, o3, o4, o5, o6, o7, some (.int x), o9, o10, o11] (.int x :: st) h Q := go_lo (E := (.iload 8, 0, 0, 0)) rfl rfl rfl
set_option maxRecDepth 30000 in
theorem s_168_191 : Go d 168 191 [o0, o1, o2, o3, some (.int x), o5, o6, o7, o8, o9, o10, o11] (st) h Q = Go d 168 193 [o0, o1, o2, o3, some (.int x), o5, o6, o7, o8, o9, o10, o11] (.int x :: st) h Q := go_lo (E := (.iload 4, 0, 0, 0)) rfl rfl rfl
set_option maxRecDepth 30000 in
theorem s_168_193 : Go d 168 193 L (.int y :: .int x :: st) h Q = (if x < y then Go d 168 196 L st h Q else Go d 168 246 L st h Q) := go_icge rfl
set_option maxRecDepth 30000 in
theorem s_168_196 : Go d 168 196 [some (.ref r), o1, o2, o3, o4, o5, o6, o7, o8, o9, o10, o11] (st) h Q = Go d 168 197 [some (.ref r), o1, o2, o3, o4, o5, o6, o7, o8, o9, o10, o11] (.ref r :: st) h Q := go_lo (E := (.aload_n 0, 0, 0, 0)) rfl rfl rfl
set_option maxRecDepth 30000 in
theorem s_168_197 : Go d 168 197 [some (.ref r), o1, o2, o3, o4, o5, o6, o7, o8, o9, o10, o11] (st) h Q = Go d 168 198 [some (.ref r), o1, o2, o3, o4, o5, o6, o7, o8, o9, o10, o11] (.ref r :: st) h Q := go_lo (E := (.aload_n 0, 0, 0, 0)) rfl rfl rfl
set_option maxRecDepth 30000 in
theorem s_168_198 : Go d 168 198 L (.ref 53 :: st) (HP lx xs M) Q = Go d 168 201 L (.ref 74 :: st) (HP lx xs M) Q := go_gf rfl rfl (by decide) rfl
set_option maxRecDepth 30000 in
theorem s_168_201 : Go d 168 201 [o0, o1, o2, o3, o4, o5, some (.int x), o7, o8, o9, o10, o11] (st) h Q = Go d 168 203 [o0, o1, o2, o3, o4, o5, some (.int x), o7, o8, o9, o10, o11] (.int x :: st) h Q := go_lo (E := (.iload 6, 0, 0, 0)) rfl rfl rfl
set_option maxRecDepth 30000 in
theorem s_168_203 : Go d 168 203 L (st) h Q = Go d 168 204 L (.int (nI 3) :: st) h Q := go_ic rfl ci_i3
set_option maxRecDepth 30000 in
theorem s_168_204 : Go d 168 204 [o0, o1, o2, o3, o4, o5, o6, o7, some (.int x), o9, o10, o11] (st) h Q = Go d 168 206 [o0, o1, o2, o3, o4, o5, o6, o7, some (.int x), o9, o10, o11] (.int x :: st) h Q := go_lo (E := (.iload 8, 0, 0, 0)) rfl rfl rfl
set_option maxRecDepth 30000 in
theorem s_168_206 : Go d 168 206 L (.int y :: .int x :: st) h Q = Go d 168 207 L (.int (x * y) :: st) h Q := go_op (E := (.imul, 0, 0, 0)) rfl rfl
set_option maxRecDepth 30000 in
theorem s_168_207 : Go d 168 207 L (.int y :: .int x :: st) h Q = Go d 168 208 L (.int (x + y) :: st) h Q := go_op (E := (.iadd, 0, 0, 0)) rfl rfl
set_option maxRecDepth 30000 in
theorem s_168_208 : Go d 168 208 L (.int x :: .ref 74 :: st) (HP lx xs M) Q = (ex_in x 96 = true ∧ Go d 168 209 L (.int (M 74 x.toNatClampNeg) :: st) (HP lx xs M) Q) := go_al rfl rfl
set_option maxRecDepth 30000 in
theorem s_168_209 : Go d 168 209 [some (.ref r), o1, o2, o3, o4, o5, o6, o7, o8, o9, o10, o11] (st) h Q = Go d 168 210 [some (.ref r), o1, o2, o3, o4, o5, o6, o7, o8, o9, o10, o11] (.ref r :: st) h Q := go_lo (E := (.aload_n 0, 0, 0, 0)) rfl rfl rfl
set_option maxRecDepth 30000 in
theorem s_168_210 : Go d 168 210 L (.ref 53 :: st) (HP lx xs M) Q = Go d 168 213 L (.ref 74 :: st) (HP lx xs M) Q := go_gf rfl rfl (by decide) rfl
set_option maxRecDepth 30000 in
theorem s_168_213 : Go d 168 213 [o0, o1, o2, o3, o4, o5, some (.int x), o7, o8, o9, o10, o11] (st) h Q = Go d 168 215 [o0, o1, o2, o3, o4, o5, some (.int x), o7, o8, o9, o10, o11] (.int x :: st) h Q := go_lo (E := (.iload 6, 0, 0, 0)) rfl rfl rfl
set_option maxRecDepth 30000 in
theorem s_168_215 : Go d 168 215 L (st) h Q = Go d 168 216 L (.int (nI 3) :: st) h Q := go_ic rfl ci_i3
set_option maxRecDepth 30000 in
theorem s_168_216 : Go d 168 216 [o0, o1, o2, o3, o4, o5, o6, o7, some (.int x), o9, o10, o11] (st) h Q = Go d 168 218 [o0, o1, o2, o3, o4, o5, o6, o7, some (.int x), o9, o10, o11] (.int x :: st) h Q := go_lo (E := (.iload 8, 0, 0, 0)) rfl rfl rfl
set_option maxRecDepth 30000 in
theorem s_168_218 : Go d 168 218 L (.int y :: .int x :: st) h Q = Go d 168 219 L (.int (x * y) :: st) h Q := go_op (E := (.imul, 0, 0, 0)) rfl rfl
set_option maxRecDepth 30000 in
theorem s_168_219 : Go d 168 219 L (.int y :: .int x :: st) h Q = Go d 168 220 L (.int (x + y) :: st) h Q := go_op (E := (.iadd, 0, 0, 0)) rfl rfl
set_option maxRecDepth 30000 in
theorem s_168_220 : Go d 168 220 L (st) h Q = Go d 168 221 L (.int (nI 1) :: st) h Q := go_ic rfl ci_i1
set_option maxRecDepth 30000 in
theorem s_168_221 : Go d 168 221 L (.int y :: .int x :: st) h Q = Go d 168 222 L (.int (x + y) :: st) h Q := go_op (E := (.iadd, 0, 0, 0)) rfl rfl
set_option maxRecDepth 30000 in
theorem s_168_222 : Go d 168 222 L (.int x :: .ref 74 :: st) (HP lx xs M) Q = (ex_in x 96 = true ∧ Go d 168 223 L (.int (M 74 x.toNatClampNeg) :: st) (HP lx xs M) Q) := go_al rfl rfl
set_option maxRecDepth 30000 in
theorem s_168_223 : Go d 168 223 [some (.ref r), o1, o2, o3, o4, o5, o6, o7, o8, o9, o10, o11] (st) h Q = Go d 168 224 [some (.ref r), o1, o2, o3, o4, o5, o6, o7, o8, o9, o10, o11] (.ref r :: st) h Q := go_lo (E := (.aload_n 0, 0, 0, 0)) rfl rfl rfl
set_option maxRecDepth 30000 in
theorem s_168_224 : Go d 168 224 L (.ref 53 :: st) (HP lx xs M) Q = Go d 168 227 L (.ref 74 :: st) (HP lx xs M) Q := go_gf rfl rfl (by decide) rfl
set_option maxRecDepth 30000 in
theorem s_168_227 : Go d 168 227 [o0, o1, o2, o3, o4, o5, some (.int x), o7, o8, o9, o10, o11] (st) h Q = Go d 168 229 [o0, o1, o2, o3, o4, o5, some (.int x), o7, o8, o9, o10, o11] (.int x :: st) h Q := go_lo (E := (.iload 6, 0, 0, 0)) rfl rfl rfl
set_option maxRecDepth 30000 in
theorem s_168_229 : Go d 168 229 L (st) h Q = Go d 168 230 L (.int (nI 3) :: st) h Q := go_ic rfl ci_i3
set_option maxRecDepth 30000 in
theorem s_168_230 : Go d 168 230 [o0, o1, o2, o3, o4, o5, o6, o7, some (.int x), o9, o10, o11] (st) h Q = Go d 168 232 [o0, o1, o2, o3, o4, o5, o6, o7, some (.int x), o9, o10, o11] (.int x :: st) h Q := go_lo (E := (.iload 8, 0, 0, 0)) rfl rfl rfl
set_option maxRecDepth 30000 in
theorem s_168_232 : Go d 168 232 L (.int y :: .int x :: st) h Q = Go d 168 233 L (.int (x * y) :: st) h Q := go_op (E := (.imul, 0, 0, 0)) rfl rfl
set_option maxRecDepth 30000 in
theorem s_168_233 : Go d 168 233 L (.int y :: .int x :: st) h Q = Go d 168 234 L (.int (x + y) :: st) h Q := go_op (E := (.iadd, 0, 0, 0)) rfl rfl
set_option maxRecDepth 30000 in
theorem s_168_234 : Go d 168 234 L (st) h Q = Go d 168 235 L (.int (nI 2) :: st) h Q := go_ic rfl ci_i2
set_option maxRecDepth 30000 in
theorem s_168_235 : Go d 168 235 L (.int y :: .int x :: st) h Q = Go d 168 236 L (.int (x + y) :: st) h Q := go_op (E := (.iadd, 0, 0, 0)) rfl rfl
set_option maxRecDepth 30000 in
theorem s_168_236 : Go d 168 236 L (.int x :: .ref 74 :: st) (HP lx xs M) Q = (ex_in x 96 = true ∧ Go d 168 237 L (.int (M 74 x.toNatClampNeg) :: st) (HP lx xs M) Q) := go_al rfl rfl
set_option maxRecDepth 30000 in
theorem s_168_237 {a1 : Int32} {a2 : Int32} {a3 : Int32} : Go (d + 1) 168 237 L [.int a3, .int a2, .int a1, .ref 53] (HP lx xs M) Q = Go d 138 0 [some (.ref 53), some (.int a1), some (.int a2), some (.int a3)] [] (HP lx xs M) (fun v h2 => Go (d + 1) 168 240 L (ap v []) h2 Q) := go_cx (E := (.invokevirtual 173, 138, 0, 7)) (k' := 138) (as := [.ref 53, .int a1, .int a2, .int a3]) rfl rfl rfl rfl rfl rfl rfl rfl
set_option maxRecDepth 30000 in
theorem s_168_240 : Go d 168 240 [o0, o1, o2, o3, o4, o5, o6, o7, some (.int x), o9, o10, o11] (st) h Q = Go d 168 243 [o0, o1, o2, o3, o4, o5, o6, o7, some (.int (x + nI 1)), o9, o10, o11] (st) h Q := (ci_i1 ▸ go_lo (E := (.iinc 8 1, 0, 0, 0)) rfl rfl rfl : _ = Go d 168 243 [o0, o1, o2, o3, o4, o5, o6, o7, some (.int (x + nI 1)), o9, o10, o11] (st) h Q)
set_option maxRecDepth 30000 in
theorem s_168_243 : Go d 168 243 L (st) h Q = Go d 168 189 L (st) h Q := go_goto rfl
set_option maxRecDepth 30000 in
theorem s_168_246 : Go d 168 246 [o0, o1, o2, o3, some (.int x), o5, o6, o7, o8, o9, o10, o11] (st) h Q = Go d 168 248 [o0, o1, o2, o3, some (.int x), o5, o6, o7, o8, o9, o10, o11] (.int x :: st) h Q := go_lo (E := (.iload 4, 0, 0, 0)) rfl rfl rfl
set_option maxRecDepth 30000 in
theorem s_168_248 : Go d 168 248 L [.int x] h Q = Q (some (.int x)) h := go_ri rfl rfl
theorem s_169_0 : Go d 169 0 [o0, some (.int x), o2, o3, o4, o5, o6] (st) h Q = Go d 169 1 [o0, some (.int x), o2, o3, o4, o5, o6] (.int x :: st) h Q := go_lo (E := (.iload_n 1, 0, 0, 0)) rfl rfl rfl
theorem s_169_1 {a0 : Int32} : Go (d + 1) 169 1 L [.int a0] h Q = Go d 117 0 [some (.int a0)] [] h (fun v h2 => Go (d + 1) 169 4 L (ap v []) h2 Q) := go_cx (E := (.invokestatic 98, 117, 0, 0)) (k' := 117) (as := [.int a0]) rfl rfl rfl rfl rfl rfl rfl rfl
theorem s_169_4 : Go d 169 4 L (.int x :: st) h Q = (if x = 0 then Go d 169 15 L st h Q else Go d 169 7 L st h Q) := go_ifeq rfl
theorem s_169_7 : Go d 169 7 [o0, o1, some (.int x), o3, o4, o5, o6] (st) h Q = Go d 169 8 [o0, o1, some (.int x), o3, o4, o5, o6] (.int x :: st) h Q := go_lo (E := (.iload_n 2, 0, 0, 0)) rfl rfl rfl
theorem s_169_8 : Go d 169 8 [o0, o1, o2, some (.int x), o4, o5, o6] (st) h Q = Go d 169 9 [o0, o1, o2, some (.int x), o4, o5, o6] (.int x :: st) h Q := go_lo (E := (.iload_n 3, 0, 0, 0)) rfl rfl rfl
theorem s_169_9 {a0 : Int32} {a1 : Int32} : Go (d + 1) 169 9 L [.int a1, .int a0] h Q = Go d 163 0 [some (.int a0), some (.int a1)] [] h (fun v h2 => Go (d + 1) 169 12 L (ap v []) h2 Q) := go_cx (E := (.invokestatic 239, 163, 0, 0)) (k' := 163) (as := [.int a0, .int a1]) rfl rfl rfl rfl rfl rfl rfl rfl
theorem s_169_12 : Go d 169 12 L (.int x :: st) h Q = (if x = 0 then Go d 169 15 L st h Q else Go d 169 17 L st h Q) := go_ifne rfl
theorem s_169_15 : Go d 169 15 L (st) h Q = Go d 169 16 L (.int (-1) :: st) h Q := go_ic rfl ci_im1
theorem s_169_16 : Go d 169 16 L [.int x] h Q = Q (some (.int x)) h := go_ri rfl rfl
theorem s_169_17 : Go d 169 17 [some (.ref r), o1, o2, o3, o4, o5, o6] (st) h Q = Go d 169 18 [some (.ref r), o1, o2, o3, o4, o5, o6] (.ref r :: st) h Q := go_lo (E := (.aload_n 0, 0, 0, 0)) rfl rfl rfl
theorem s_169_18 : Go d 169 18 [o0, o1, some (.int x), o3, o4, o5, o6] (st) h Q = Go d 169 19 [o0, o1, some (.int x), o3, o4, o5, o6] (.int x :: st) h Q := go_lo (E := (.iload_n 2, 0, 0, 0)) rfl rfl rfl
theorem s_169_19 : Go d 169 19 [o0, o1, o2, some (.int x), o4, o5, o6] (st) h Q = Go d 169 20 [o0, o1, o2, some (.int x), o4, o5, o6] (.int x :: st) h Q := go_lo (E := (.iload_n 3, 0, 0, 0)) rfl rfl rfl
theorem s_169_20 : Go d 169 20 [o0, o1, o2, o3, some (.int x), o5, o6] (st) h Q = Go d 169 22 [o0, o1, o2, o3, some (.int x), o5, o6] (.int x :: st) h Q := go_lo (E := (.iload 4, 0, 0, 0)) rfl rfl rfl
theorem s_169_22 : Go d 169 22 [some (.ref r), o1, o2, o3, o4, o5, o6] (st) h Q = Go d 169 23 [some (.ref r), o1, o2, o3, o4, o5, o6] (.ref r :: st) h Q := go_lo (E := (.aload_n 0, 0, 0, 0)) rfl rfl rfl
theorem s_169_23 : Go d 169 23 L (.ref 53 :: st) (HP lx xs M) Q = Go d 169 26 L (.int (M 53 4) :: st) (HP lx xs M) Q := go_gf rfl rfl (by decide) rfl
theorem s_169_26 {a1 : Int32} {a2 : Int32} {a3 : Int32} {a4 : Int32} : Go (d + 1) 169 26 L [.int a4, .int a3, .int a2, .int a1, .ref 53] (HP lx xs M) Q = Go d 166 0 [some (.ref 53), some (.int a1), some (.int a2), some (.int a3), some (.int a4)] [] (HP lx xs M) (fun v h2 => Go (d + 1) 169 29 L (ap v []) h2 Q) := go_cx (E := (.invokevirtual 242, 166, 0, 7)) (k' := 166) (as := [.ref 53, .int a1, .int a2, .int a3, .int a4]) rfl rfl rfl rfl rfl rfl rfl rfl
theorem s_169_29 : Go d 169 29 [o0, o1, o2, o3, o4, o5, o6] (.int x :: st) h Q = Go d 169 31 [o0, o1, o2, o3, o4, some (.int x), o6] (st) h Q := go_lo (E := (.istore 5, 0, 0, 0)) rfl rfl rfl
theorem s_169_31 : Go d 169 31 [o0, o1, o2, o3, o4, some (.int x), o6] (st) h Q = Go d 169 33 [o0, o1, o2, o3, o4, some (.int x), o6] (.int x :: st) h Q := go_lo (E := (.iload 5, 0, 0, 0)) rfl rfl rfl
theorem s_169_33 : Go d 169 33 L (.int x :: st) h Q = (if x < 0 then Go d 169 36 L st h Q else Go d 169 39 L st h Q) := go_ifge rfl
theorem s_169_36 : Go d 169 36 [o0, o1, o2, o3, o4, some (.int x), o6] (st) h Q = Go d 169 38 [o0, o1, o2, o3, o4, some (.int x), o6] (.int x :: st) h Q := go_lo (E := (.iload 5, 0, 0, 0)) rfl rfl rfl
theorem s_169_38 : Go d 169 38 L [.int x] h Q = Q (some (.int x)) h := go_ri rfl rfl
theorem s_169_39 : Go d 169 39 L (st) h Q = Go d 169 40 L (.int (nI 0) :: st) h Q := go_ic rfl ci_i0
theorem s_169_40 : Go d 169 40 [o0, o1, o2, o3, o4, o5, o6] (.int x :: st) h Q = Go d 169 42 [o0, o1, o2, o3, o4, o5, some (.int x)] (st) h Q := go_lo (E := (.istore 6, 0, 0, 0)) rfl rfl rfl
theorem s_169_42 : Go d 169 42 [o0, o1, o2, o3, o4, o5, some (.int x)] (st) h Q = Go d 169 44 [o0, o1, o2, o3, o4, o5, some (.int x)] (.int x :: st) h Q := go_lo (E := (.iload 6, 0, 0, 0)) rfl rfl rfl
theorem s_169_44 : Go d 169 44 [some (.ref r), o1, o2, o3, o4, o5, o6] (st) h Q = Go d 169 45 [some (.ref r), o1, o2, o3, o4, o5, o6] (.ref r :: st) h Q := go_lo (E := (.aload_n 0, 0, 0, 0)) rfl rfl rfl
theorem s_169_45 : Go d 169 45 L (.ref 53 :: st) (HP lx xs M) Q = Go d 169 48 L (.int (M 53 4) :: st) (HP lx xs M) Q := go_gf rfl rfl (by decide) rfl
theorem s_169_48 : Go d 169 48 L (.int y :: .int x :: st) h Q = (if x < y then Go d 169 51 L st h Q else Go d 169 83 L st h Q) := go_icge rfl
theorem s_169_51 : Go d 169 51 [some (.ref r), o1, o2, o3, o4, o5, o6] (st) h Q = Go d 169 52 [some (.ref r), o1, o2, o3, o4, o5, o6] (.ref r :: st) h Q := go_lo (E := (.aload_n 0, 0, 0, 0)) rfl rfl rfl
theorem s_169_52 : Go d 169 52 L (.ref 53 :: st) (HP lx xs M) Q = Go d 169 55 L (.ref 74 :: st) (HP lx xs M) Q := go_gf rfl rfl (by decide) rfl
theorem s_169_55 : Go d 169 55 L (st) h Q = Go d 169 57 L (.int (nI 24) :: st) h Q := go_bi rfl ci_b24
theorem s_169_57 : Go d 169 57 [o0, o1, some (.int x), o3, o4, o5, o6] (st) h Q = Go d 169 58 [o0, o1, some (.int x), o3, o4, o5, o6] (.int x :: st) h Q := go_lo (E := (.iload_n 2, 0, 0, 0)) rfl rfl rfl
theorem s_169_58 : Go d 169 58 L (.int y :: .int x :: st) h Q = Go d 169 59 L (.int (x * y) :: st) h Q := go_op (E := (.imul, 0, 0, 0)) rfl rfl
theorem s_169_59 : Go d 169 59 [o0, o1, o2, o3, some (.int x), o5, o6] (st) h Q = Go d 169 61 [o0, o1, o2, o3, some (.int x), o5, o6] (.int x :: st) h Q := go_lo (E := (.iload 4, 0, 0, 0)) rfl rfl rfl
theorem s_169_61 : Go d 169 61 L (.int y :: .int x :: st) h Q = Go d 169 62 L (.int (x + y) :: st) h Q := go_op (E := (.iadd, 0, 0, 0)) rfl rfl
theorem s_169_62 : Go d 169 62 [o0, o1, o2, o3, o4, o5, some (.int x)] (st) h Q = Go d 169 64 [o0, o1, o2, o3, o4, o5, some (.int x)] (.int x :: st) h Q := go_lo (E := (.iload 6, 0, 0, 0)) rfl rfl rfl
theorem s_169_64 : Go d 169 64 L (.int y :: .int x :: st) h Q = Go d 169 65 L (.int (x + y) :: st) h Q := go_op (E := (.iadd, 0, 0, 0)) rfl rfl
theorem s_169_65 : Go d 169 65 [some (.ref r), o1, o2, o3, o4, o5, o6] (st) h Q = Go d 169 66 [some (.ref r), o1, o2, o3, o4, o5, o6] (.ref r :: st) h Q := go_lo (E := (.aload_n 0, 0, 0, 0)) rfl rfl rfl
theorem s_169_66 : Go d 169 66 L (.ref 53 :: st) (HP lx xs M) Q = Go d 169 69 L (.ref 56 :: st) (HP lx xs M) Q := go_gf rfl rfl (by decide) rfl
theorem s_169_69 : Go d 169 69 L (st) h Q = Go d 169 70 L (.int (nI 4) :: st) h Q := go_ic rfl ci_i4
theorem s_169_70 : Go d 169 70 [o0, o1, o2, o3, o4, o5, some (.int x)] (st) h Q = Go d 169 72 [o0, o1, o2, o3, o4, o5, some (.int x)] (.int x :: st) h Q := go_lo (E := (.iload 6, 0, 0, 0)) rfl rfl rfl
theorem s_169_72 : Go d 169 72 L (.int y :: .int x :: st) h Q = Go d 169 73 L (.int (x * y) :: st) h Q := go_op (E := (.imul, 0, 0, 0)) rfl rfl
theorem s_169_73 : Go d 169 73 [o0, some (.int x), o2, o3, o4, o5, o6] (st) h Q = Go d 169 74 [o0, some (.int x), o2, o3, o4, o5, o6] (.int x :: st) h Q := go_lo (E := (.iload_n 1, 0, 0, 0)) rfl rfl rfl
theorem s_169_74 : Go d 169 74 L (.int y :: .int x :: st) h Q = Go d 169 75 L (.int (x + y) :: st) h Q := go_op (E := (.iadd, 0, 0, 0)) rfl rfl
theorem s_169_75 : Go d 169 75 L (.int x :: .ref 56 :: st) (HP lx xs M) Q = (ex_in x 24 = true ∧ Go d 169 76 L (.int (M 56 x.toNatClampNeg) :: st) (HP lx xs M) Q) := go_al rfl rfl
theorem s_169_76 : Go d 169 76 L (.int y :: .int x :: .ref 74 :: st) (HP lx xs M) Q = (ex_in x 96 = true ∧ Go d 169 77 L (st) (HP lx xs (up M 74 x.toNatClampNeg y)) Q) := go_as rfl rfl (by decide) hs_74
theorem s_169_77 : Go d 169 77 [o0, o1, o2, o3, o4, o5, some (.int x)] (st) h Q = Go d 169 80 [o0, o1, o2, o3, o4, o5, some (.int (x + nI 1))] (st) h Q := (ci_i1 ▸ go_lo (E := (.iinc 6 1, 0, 0, 0)) rfl rfl rfl : _ = Go d 169 80 [o0, o1, o2, o3, o4, o5, some (.int (x + nI 1))] (st) h Q)
theorem s_169_80 : Go d 169 80 L (st) h Q = Go d 169 42 L (st) h Q := go_goto rfl
theorem s_169_83 : Go d 169 83 [some (.ref r), o1, o2, o3, o4, o5, o6] (st) h Q = Go d 169 84 [some (.ref r), o1, o2, o3, o4, o5, o6] (.ref r :: st) h Q := go_lo (E := (.aload_n 0, 0, 0, 0)) rfl rfl rfl
theorem s_169_84 : Go d 169 84 L (.ref 53 :: st) (HP lx xs M) Q = Go d 169 87 L (.int (M 53 4) :: st) (HP lx xs M) Q := go_gf rfl rfl (by decide) rfl
theorem s_169_87 : Go d 169 87 L [.int x] h Q = Q (some (.int x)) h := go_ri rfl rfl
theorem s_170_0 : Go d 170 0 [o0, some (.int x), o2, o3, o4, o5, o6] (st) h Q = Go d 170 1 [o0, some (.int x), o2, o3, o4, o5, o6] (.int x :: st) h Q := go_lo (E := (.iload_n 1, 0, 0, 0)) rfl rfl rfl
theorem s_170_1 : Go d 170 1 L (.int x :: st) h Q = Go d 170 2 L (.long (x.toInt64) :: st) h Q := go_op (E := (.i2l, 0, 0, 0)) rfl rfl
theorem s_170_2 : Go d 170 2 L (st) h Q = Go d 170 3 L (.long (lN 0) :: st) h Q := go_op (E := (.lconst 0, 0, 0, 0)) rfl rfl
theorem s_170_3 : Go d 170 3 L (st) h Q = Go d 170 6 L (.long (lN 3) :: st) h Q := go_ld2 rfl ci_l3
theorem s_170_6 {al0 : Int64} {al1 : Int64} {al2 : Int64} : Go (d + 1) 170 6 L [.long al2, .long al1, .long al0] h Q = Go d 114 0 [some (.long al0), none, some (.long al1), none, some (.long al2), none] [] h (fun v h2 => Go (d + 1) 170 9 L (ap v []) h2 Q) := go_cx (E := (.invokestatic 84, 114, 0, 0)) (k' := 114) (as := [.long al0, .long al1, .long al2]) rfl rfl rfl rfl rfl rfl rfl rfl
theorem s_170_9 : Go d 170 9 L (.int x :: st) h Q = (if x = 0 then Go d 170 24 L st h Q else Go d 170 12 L st h Q) := go_ifeq rfl
theorem s_170_12 : Go d 170 12 [o0, o1, o2, some (.int x), o4, o5, o6] (st) h Q = Go d 170 13 [o0, o1, o2, some (.int x), o4, o5, o6] (.int x :: st) h Q := go_lo (E := (.iload_n 3, 0, 0, 0)) rfl rfl rfl
theorem s_170_13 : Go d 170 13 L (.int x :: st) h Q = Go d 170 14 L (.long (x.toInt64) :: st) h Q := go_op (E := (.i2l, 0, 0, 0)) rfl rfl
theorem s_170_14 : Go d 170 14 L (st) h Q = Go d 170 15 L (.long (lN 0) :: st) h Q := go_op (E := (.lconst 0, 0, 0, 0)) rfl rfl
theorem s_170_15 : Go d 170 15 L (st) h Q = Go d 170 18 L (.long (lN 3) :: st) h Q := go_ld2 rfl ci_l3
theorem s_170_18 {al0 : Int64} {al1 : Int64} {al2 : Int64} : Go (d + 1) 170 18 L [.long al2, .long al1, .long al0] h Q = Go d 114 0 [some (.long al0), none, some (.long al1), none, some (.long al2), none] [] h (fun v h2 => Go (d + 1) 170 21 L (ap v []) h2 Q) := go_cx (E := (.invokestatic 84, 114, 0, 0)) (k' := 114) (as := [.long al0, .long al1, .long al2]) rfl rfl rfl rfl rfl rfl rfl rfl
theorem s_170_21 : Go d 170 21 L (.int x :: st) h Q = (if x = 0 then Go d 170 24 L st h Q else Go d 170 26 L st h Q) := go_ifne rfl
theorem s_170_24 : Go d 170 24 L (st) h Q = Go d 170 25 L (.int (-1) :: st) h Q := go_ic rfl ci_im1
theorem s_170_25 : Go d 170 25 L [.int x] h Q = Q (some (.int x)) h := go_ri rfl rfl
theorem s_170_26 : Go d 170 26 [some (.ref r), o1, o2, o3, o4, o5, o6] (st) h Q = Go d 170 27 [some (.ref r), o1, o2, o3, o4, o5, o6] (.ref r :: st) h Q := go_lo (E := (.aload_n 0, 0, 0, 0)) rfl rfl rfl
theorem s_170_27 : Go d 170 27 L (.ref 53 :: st) (HP lx xs M) Q = Go d 170 30 L (.ref 72 :: st) (HP lx xs M) Q := go_gf rfl rfl (by decide) rfl
theorem s_170_30 : Go d 170 30 [o0, some (.int x), o2, o3, o4, o5, o6] (st) h Q = Go d 170 31 [o0, some (.int x), o2, o3, o4, o5, o6] (.int x :: st) h Q := go_lo (E := (.iload_n 1, 0, 0, 0)) rfl rfl rfl
theorem s_170_31 : Go d 170 31 L (.int x :: .ref 72 :: st) (HP lx xs M) Q = (ex_in x 4 = true ∧ Go d 170 32 L (.int (M 72 x.toNatClampNeg) :: st) (HP lx xs M) Q) := go_al rfl rfl
theorem s_170_32 : Go d 170 32 L (.int x :: st) h Q = (if x < 0 then Go d 170 44 L st h Q else Go d 170 35 L st h Q) := go_iflt rfl
theorem s_170_35 : Go d 170 35 [some (.ref r), o1, o2, o3, o4, o5, o6] (st) h Q = Go d 170 36 [some (.ref r), o1, o2, o3, o4, o5, o6] (.ref r :: st) h Q := go_lo (E := (.aload_n 0, 0, 0, 0)) rfl rfl rfl
theorem s_170_36 : Go d 170 36 L (.ref 53 :: st) (HP lx xs M) Q = Go d 170 39 L (.ref 72 :: st) (HP lx xs M) Q := go_gf rfl rfl (by decide) rfl
theorem s_170_39 : Go d 170 39 [o0, o1, o2, some (.int x), o4, o5, o6] (st) h Q = Go d 170 40 [o0, o1, o2, some (.int x), o4, o5, o6] (.int x :: st) h Q := go_lo (E := (.iload_n 3, 0, 0, 0)) rfl rfl rfl
theorem s_170_40 : Go d 170 40 L (.int x :: .ref 72 :: st) (HP lx xs M) Q = (ex_in x 4 = true ∧ Go d 170 41 L (.int (M 72 x.toNatClampNeg) :: st) (HP lx xs M) Q) := go_al rfl rfl
theorem s_170_41 : Go d 170 41 L (.int x :: st) h Q = (if x < 0 then Go d 170 44 L st h Q else Go d 170 47 L st h Q) := go_ifge rfl
theorem s_170_44 : Go d 170 44 L (st) h Q = Go d 170 46 L (.int (-11) :: st) h Q := go_bi rfl ci_bm11
theorem s_170_46 : Go d 170 46 L [.int x] h Q = Q (some (.int x)) h := go_ri rfl rfl
theorem s_170_47 : Go d 170 47 [some (.ref r), o1, o2, o3, o4, o5, o6] (st) h Q = Go d 170 48 [some (.ref r), o1, o2, o3, o4, o5, o6] (.ref r :: st) h Q := go_lo (E := (.aload_n 0, 0, 0, 0)) rfl rfl rfl
theorem s_170_48 : Go d 170 48 L (.ref 53 :: st) (HP lx xs M) Q = Go d 170 51 L (.ref 72 :: st) (HP lx xs M) Q := go_gf rfl rfl (by decide) rfl
theorem s_170_51 : Go d 170 51 [o0, some (.int x), o2, o3, o4, o5, o6] (st) h Q = Go d 170 52 [o0, some (.int x), o2, o3, o4, o5, o6] (.int x :: st) h Q := go_lo (E := (.iload_n 1, 0, 0, 0)) rfl rfl rfl
theorem s_170_52 : Go d 170 52 L (.int x :: .ref 72 :: st) (HP lx xs M) Q = (ex_in x 4 = true ∧ Go d 170 53 L (.int (M 72 x.toNatClampNeg) :: st) (HP lx xs M) Q) := go_al rfl rfl
theorem s_170_53 : Go d 170 53 [some (.ref r), o1, o2, o3, o4, o5, o6] (st) h Q = Go d 170 54 [some (.ref r), o1, o2, o3, o4, o5, o6] (.ref r :: st) h Q := go_lo (E := (.aload_n 0, 0, 0, 0)) rfl rfl rfl
theorem s_170_54 : Go d 170 54 L (.ref 53 :: st) (HP lx xs M) Q = Go d 170 57 L (.ref 72 :: st) (HP lx xs M) Q := go_gf rfl rfl (by decide) rfl
theorem s_170_57 : Go d 170 57 [o0, o1, o2, some (.int x), o4, o5, o6] (st) h Q = Go d 170 58 [o0, o1, o2, some (.int x), o4, o5, o6] (.int x :: st) h Q := go_lo (E := (.iload_n 3, 0, 0, 0)) rfl rfl rfl
theorem s_170_58 : Go d 170 58 L (.int x :: .ref 72 :: st) (HP lx xs M) Q = (ex_in x 4 = true ∧ Go d 170 59 L (.int (M 72 x.toNatClampNeg) :: st) (HP lx xs M) Q) := go_al rfl rfl
theorem s_170_59 : Go d 170 59 L (.int y :: .int x :: st) h Q = (if x = y then Go d 170 65 L st h Q else Go d 170 62 L st h Q) := go_iceq rfl
theorem s_170_62 : Go d 170 62 L (st) h Q = Go d 170 64 L (.int (-12) :: st) h Q := go_bi rfl ci_bm12
theorem s_170_64 : Go d 170 64 L [.int x] h Q = Q (some (.int x)) h := go_ri rfl rfl
theorem s_170_65 : Go d 170 65 [o0, o1, o2, o3, o4, some (.int x), o6] (st) h Q = Go d 170 67 [o0, o1, o2, o3, o4, some (.int x), o6] (.int x :: st) h Q := go_lo (E := (.iload 5, 0, 0, 0)) rfl rfl rfl
theorem s_170_67 : Go d 170 67 L (.int x :: st) h Q = (if x < 0 then Go d 170 111 L st h Q else Go d 170 70 L st h Q) := go_iflt rfl
theorem s_170_70 : Go d 170 70 [o0, o1, some (.int x), o3, o4, o5, o6] (st) h Q = Go d 170 71 [o0, o1, some (.int x), o3, o4, o5, o6] (.int x :: st) h Q := go_lo (E := (.iload_n 2, 0, 0, 0)) rfl rfl rfl
theorem s_170_71 : Go d 170 71 L (.int x :: st) h Q = Go d 170 72 L (.long (x.toInt64) :: st) h Q := go_op (E := (.i2l, 0, 0, 0)) rfl rfl
theorem s_170_72 : Go d 170 72 L (st) h Q = Go d 170 73 L (.long (lN 0) :: st) h Q := go_op (E := (.lconst 0, 0, 0, 0)) rfl rfl
theorem s_170_73 : Go d 170 73 [some (.ref r), o1, o2, o3, o4, o5, o6] (st) h Q = Go d 170 74 [some (.ref r), o1, o2, o3, o4, o5, o6] (.ref r :: st) h Q := go_lo (E := (.aload_n 0, 0, 0, 0)) rfl rfl rfl
theorem s_170_74 : Go d 170 74 L (.ref 53 :: st) (HP lx xs M) Q = Go d 170 77 L (.ref 73 :: st) (HP lx xs M) Q := go_gf rfl rfl (by decide) rfl
theorem s_170_77 : Go d 170 77 [o0, some (.int x), o2, o3, o4, o5, o6] (st) h Q = Go d 170 78 [o0, some (.int x), o2, o3, o4, o5, o6] (.int x :: st) h Q := go_lo (E := (.iload_n 1, 0, 0, 0)) rfl rfl rfl
theorem s_170_78 : Go d 170 78 L (.int x :: .ref 73 :: st) (HP lx xs M) Q = (ex_in x 4 = true ∧ Go d 170 79 L (.int (M 73 x.toNatClampNeg) :: st) (HP lx xs M) Q) := go_al rfl rfl
theorem s_170_79 : Go d 170 79 L (.int x :: st) h Q = Go d 170 80 L (.long (x.toInt64) :: st) h Q := go_op (E := (.i2l, 0, 0, 0)) rfl rfl
theorem s_170_80 : Go d 170 80 [o0, o1, o2, o3, o4, some (.int x), o6] (st) h Q = Go d 170 82 [o0, o1, o2, o3, o4, some (.int x), o6] (.int x :: st) h Q := go_lo (E := (.iload 5, 0, 0, 0)) rfl rfl rfl
theorem s_170_82 : Go d 170 82 L (.int x :: st) h Q = Go d 170 83 L (.long (x.toInt64) :: st) h Q := go_op (E := (.i2l, 0, 0, 0)) rfl rfl
theorem s_170_83 : Go d 170 83 L (.long w :: .long u :: st) h Q = Go d 170 84 L (.long (u - w) :: st) h Q := go_op (E := (.lsub, 0, 0, 0)) rfl rfl
theorem s_170_84 {al0 : Int64} {al1 : Int64} {al2 : Int64} : Go (d + 1) 170 84 L [.long al2, .long al1, .long al0] h Q = Go d 114 0 [some (.long al0), none, some (.long al1), none, some (.long al2), none] [] h (fun v h2 => Go (d + 1) 170 87 L (ap v []) h2 Q) := go_cx (E := (.invokestatic 84, 114, 0, 0)) (k' := 114) (as := [.long al0, .long al1, .long al2]) rfl rfl rfl rfl rfl rfl rfl rfl
theorem s_170_87 : Go d 170 87 L (.int x :: st) h Q = (if x = 0 then Go d 170 111 L st h Q else Go d 170 90 L st h Q) := go_ifeq rfl
theorem s_170_90 : Go d 170 90 [o0, o1, o2, o3, some (.int x), o5, o6] (st) h Q = Go d 170 92 [o0, o1, o2, o3, some (.int x), o5, o6] (.int x :: st) h Q := go_lo (E := (.iload 4, 0, 0, 0)) rfl rfl rfl
theorem s_170_92 : Go d 170 92 L (.int x :: st) h Q = Go d 170 93 L (.long (x.toInt64) :: st) h Q := go_op (E := (.i2l, 0, 0, 0)) rfl rfl
theorem s_170_93 : Go d 170 93 L (st) h Q = Go d 170 94 L (.long (lN 0) :: st) h Q := go_op (E := (.lconst 0, 0, 0, 0)) rfl rfl
theorem s_170_94 : Go d 170 94 [some (.ref r), o1, o2, o3, o4, o5, o6] (st) h Q = Go d 170 95 [some (.ref r), o1, o2, o3, o4, o5, o6] (.ref r :: st) h Q := go_lo (E := (.aload_n 0, 0, 0, 0)) rfl rfl rfl
theorem s_170_95 : Go d 170 95 L (.ref 53 :: st) (HP lx xs M) Q = Go d 170 98 L (.ref 73 :: st) (HP lx xs M) Q := go_gf rfl rfl (by decide) rfl
theorem s_170_98 : Go d 170 98 [o0, o1, o2, some (.int x), o4, o5, o6] (st) h Q = Go d 170 99 [o0, o1, o2, some (.int x), o4, o5, o6] (.int x :: st) h Q := go_lo (E := (.iload_n 3, 0, 0, 0)) rfl rfl rfl
theorem s_170_99 : Go d 170 99 L (.int x :: .ref 73 :: st) (HP lx xs M) Q = (ex_in x 4 = true ∧ Go d 170 100 L (.int (M 73 x.toNatClampNeg) :: st) (HP lx xs M) Q) := go_al rfl rfl
theorem s_170_100 : Go d 170 100 L (.int x :: st) h Q = Go d 170 101 L (.long (x.toInt64) :: st) h Q := go_op (E := (.i2l, 0, 0, 0)) rfl rfl
theorem s_170_101 : Go d 170 101 [o0, o1, o2, o3, o4, some (.int x), o6] (st) h Q = Go d 170 103 [o0, o1, o2, o3, o4, some (.int x), o6] (.int x :: st) h Q := go_lo (E := (.iload 5, 0, 0, 0)) rfl rfl rfl
theorem s_170_103 : Go d 170 103 L (.int x :: st) h Q = Go d 170 104 L (.long (x.toInt64) :: st) h Q := go_op (E := (.i2l, 0, 0, 0)) rfl rfl
theorem s_170_104 : Go d 170 104 L (.long w :: .long u :: st) h Q = Go d 170 105 L (.long (u - w) :: st) h Q := go_op (E := (.lsub, 0, 0, 0)) rfl rfl
theorem s_170_105 {al0 : Int64} {al1 : Int64} {al2 : Int64} : Go (d + 1) 170 105 L [.long al2, .long al1, .long al0] h Q = Go d 114 0 [some (.long al0), none, some (.long al1), none, some (.long al2), none] [] h (fun v h2 => Go (d + 1) 170 108 L (ap v []) h2 Q) := go_cx (E := (.invokestatic 84, 114, 0, 0)) (k' := 114) (as := [.long al0, .long al1, .long al2]) rfl rfl rfl rfl rfl rfl rfl rfl
theorem s_170_108 : Go d 170 108 L (.int x :: st) h Q = (if x = 0 then Go d 170 111 L st h Q else Go d 170 114 L st h Q) := go_ifne rfl
theorem s_170_111 : Go d 170 111 L (st) h Q = Go d 170 113 L (.int (-13) :: st) h Q := go_bi rfl ci_bm13
theorem s_170_113 : Go d 170 113 L [.int x] h Q = Q (some (.int x)) h := go_ri rfl rfl
theorem s_170_114 : Go d 170 114 L (st) h Q = Go d 170 115 L (.int (nI 0) :: st) h Q := go_ic rfl ci_i0
theorem s_170_115 : Go d 170 115 [o0, o1, o2, o3, o4, o5, o6] (.int x :: st) h Q = Go d 170 117 [o0, o1, o2, o3, o4, o5, some (.int x)] (st) h Q := go_lo (E := (.istore 6, 0, 0, 0)) rfl rfl rfl
theorem s_170_117 : Go d 170 117 [o0, o1, o2, o3, o4, o5, some (.int x)] (st) h Q = Go d 170 119 [o0, o1, o2, o3, o4, o5, some (.int x)] (.int x :: st) h Q := go_lo (E := (.iload 6, 0, 0, 0)) rfl rfl rfl
theorem s_170_119 : Go d 170 119 [o0, o1, o2, o3, o4, some (.int x), o6] (st) h Q = Go d 170 121 [o0, o1, o2, o3, o4, some (.int x), o6] (.int x :: st) h Q := go_lo (E := (.iload 5, 0, 0, 0)) rfl rfl rfl
theorem s_170_121 : Go d 170 121 L (.int y :: .int x :: st) h Q = (if x < y then Go d 170 124 L st h Q else Go d 170 151 L st h Q) := go_icge rfl
theorem s_170_124 : Go d 170 124 [some (.ref r), o1, o2, o3, o4, o5, o6] (st) h Q = Go d 170 125 [some (.ref r), o1, o2, o3, o4, o5, o6] (.ref r :: st) h Q := go_lo (E := (.aload_n 0, 0, 0, 0)) rfl rfl rfl
theorem s_170_125 : Go d 170 125 L (.ref 53 :: st) (HP lx xs M) Q = Go d 170 128 L (.ref 75 :: st) (HP lx xs M) Q := go_gf rfl rfl (by decide) rfl
theorem s_170_128 : Go d 170 128 [o0, o1, o2, o3, o4, o5, some (.int x)] (st) h Q = Go d 170 130 [o0, o1, o2, o3, o4, o5, some (.int x)] (.int x :: st) h Q := go_lo (E := (.iload 6, 0, 0, 0)) rfl rfl rfl
theorem s_170_130 : Go d 170 130 [some (.ref r), o1, o2, o3, o4, o5, o6] (st) h Q = Go d 170 131 [some (.ref r), o1, o2, o3, o4, o5, o6] (.ref r :: st) h Q := go_lo (E := (.aload_n 0, 0, 0, 0)) rfl rfl rfl
theorem s_170_131 : Go d 170 131 L (.ref 53 :: st) (HP lx xs M) Q = Go d 170 134 L (.ref 74 :: st) (HP lx xs M) Q := go_gf rfl rfl (by decide) rfl
theorem s_170_134 : Go d 170 134 L (st) h Q = Go d 170 136 L (.int (nI 24) :: st) h Q := go_bi rfl ci_b24
theorem s_170_136 : Go d 170 136 [o0, some (.int x), o2, o3, o4, o5, o6] (st) h Q = Go d 170 137 [o0, some (.int x), o2, o3, o4, o5, o6] (.int x :: st) h Q := go_lo (E := (.iload_n 1, 0, 0, 0)) rfl rfl rfl
theorem s_170_137 : Go d 170 137 L (.int y :: .int x :: st) h Q = Go d 170 138 L (.int (x * y) :: st) h Q := go_op (E := (.imul, 0, 0, 0)) rfl rfl
theorem s_170_138 : Go d 170 138 [o0, o1, some (.int x), o3, o4, o5, o6] (st) h Q = Go d 170 139 [o0, o1, some (.int x), o3, o4, o5, o6] (.int x :: st) h Q := go_lo (E := (.iload_n 2, 0, 0, 0)) rfl rfl rfl
theorem s_170_139 : Go d 170 139 L (.int y :: .int x :: st) h Q = Go d 170 140 L (.int (x + y) :: st) h Q := go_op (E := (.iadd, 0, 0, 0)) rfl rfl
theorem s_170_140 : Go d 170 140 [o0, o1, o2, o3, o4, o5, some (.int x)] (st) h Q = Go d 170 142 [o0, o1, o2, o3, o4, o5, some (.int x)] (.int x :: st) h Q := go_lo (E := (.iload 6, 0, 0, 0)) rfl rfl rfl
theorem s_170_142 : Go d 170 142 L (.int y :: .int x :: st) h Q = Go d 170 143 L (.int (x + y) :: st) h Q := go_op (E := (.iadd, 0, 0, 0)) rfl rfl
theorem s_170_143 : Go d 170 143 L (.int x :: .ref 74 :: st) (HP lx xs M) Q = (ex_in x 96 = true ∧ Go d 170 144 L (.int (M 74 x.toNatClampNeg) :: st) (HP lx xs M) Q) := go_al rfl rfl
theorem s_170_144 : Go d 170 144 L (.int y :: .int x :: .ref 75 :: st) (HP lx xs M) Q = (ex_in x 24 = true ∧ Go d 170 145 L (st) (HP lx xs (up M 75 x.toNatClampNeg y)) Q) := go_as rfl rfl (by decide) hs_75
theorem s_170_145 : Go d 170 145 [o0, o1, o2, o3, o4, o5, some (.int x)] (st) h Q = Go d 170 148 [o0, o1, o2, o3, o4, o5, some (.int (x + nI 1))] (st) h Q := (ci_i1 ▸ go_lo (E := (.iinc 6 1, 0, 0, 0)) rfl rfl rfl : _ = Go d 170 148 [o0, o1, o2, o3, o4, o5, some (.int (x + nI 1))] (st) h Q)
theorem s_170_148 : Go d 170 148 L (st) h Q = Go d 170 117 L (st) h Q := go_goto rfl
theorem s_170_151 : Go d 170 151 L (st) h Q = Go d 170 152 L (.int (nI 0) :: st) h Q := go_ic rfl ci_i0
theorem s_170_152 : Go d 170 152 [o0, o1, o2, o3, o4, o5, o6] (.int x :: st) h Q = Go d 170 154 [o0, o1, o2, o3, o4, o5, some (.int x)] (st) h Q := go_lo (E := (.istore 6, 0, 0, 0)) rfl rfl rfl
theorem s_170_154 : Go d 170 154 [o0, o1, o2, o3, o4, o5, some (.int x)] (st) h Q = Go d 170 156 [o0, o1, o2, o3, o4, o5, some (.int x)] (.int x :: st) h Q := go_lo (E := (.iload 6, 0, 0, 0)) rfl rfl rfl
set_option maxRecDepth 30000 in
theorem s_170_156 : Go d 170 156 [o0, o1, o2, o3, o4, some (.int x), o6] (st) h Q = Go d 170 158 [o0, o1, o2, o3, o4, some (.int x), o6] (.int x :: st) h Q := go_lo (E := (.iload 5, 0, 0, 0)) rfl rfl rfl
set_option maxRecDepth 30000 in
theorem s_170_158 : Go d 170 158 L (.int y :: .int x :: st) h Q = (if x < y then Go d 170 161 L st h Q else Go d 170 189 L st h Q) := go_icge rfl
set_option maxRecDepth 30000 in
theorem s_170_161 : Go d 170 161 [some (.ref r), o1, o2, o3, o4, o5, o6] (st) h Q = Go d 170 162 [some (.ref r), o1, o2, o3, o4, o5, o6] (.ref r :: st) h Q := go_lo (E := (.aload_n 0, 0, 0, 0)) rfl rfl rfl
set_option maxRecDepth 30000 in
theorem s_170_162 : Go d 170 162 L (.ref 53 :: st) (HP lx xs M) Q = Go d 170 165 L (.ref 74 :: st) (HP lx xs M) Q := go_gf rfl rfl (by decide) rfl
set_option maxRecDepth 30000 in
theorem s_170_165 : Go d 170 165 L (st) h Q = Go d 170 167 L (.int (nI 24) :: st) h Q := go_bi rfl ci_b24
set_option maxRecDepth 30000 in
theorem s_170_167 : Go d 170 167 [o0, o1, o2, some (.int x), o4, o5, o6] (st) h Q = Go d 170 168 [o0, o1, o2, some (.int x), o4, o5, o6] (.int x :: st) h Q := go_lo (E := (.iload_n 3, 0, 0, 0)) rfl rfl rfl
set_option maxRecDepth 30000 in
theorem s_170_168 : Go d 170 168 L (.int y :: .int x :: st) h Q = Go d 170 169 L (.int (x * y) :: st) h Q := go_op (E := (.imul, 0, 0, 0)) rfl rfl
set_option maxRecDepth 30000 in
theorem s_170_169 : Go d 170 169 [o0, o1, o2, o3, some (.int x), o5, o6] (st) h Q = Go d 170 171 [o0, o1, o2, o3, some (.int x), o5, o6] (.int x :: st) h Q := go_lo (E := (.iload 4, 0, 0, 0)) rfl rfl rfl
set_option maxRecDepth 30000 in
theorem s_170_171 : Go d 170 171 L (.int y :: .int x :: st) h Q = Go d 170 172 L (.int (x + y) :: st) h Q := go_op (E := (.iadd, 0, 0, 0)) rfl rfl
set_option maxRecDepth 30000 in
theorem s_170_172 : Go d 170 172 [o0, o1, o2, o3, o4, o5, some (.int x)] (st) h Q = Go d 170 174 [o0, o1, o2, o3, o4, o5, some (.int x)] (.int x :: st) h Q := go_lo (E := (.iload 6, 0, 0, 0)) rfl rfl rfl
set_option maxRecDepth 30000 in
theorem s_170_174 : Go d 170 174 L (.int y :: .int x :: st) h Q = Go d 170 175 L (.int (x + y) :: st) h Q := go_op (E := (.iadd, 0, 0, 0)) rfl rfl
set_option maxRecDepth 30000 in
theorem s_170_175 : Go d 170 175 [some (.ref r), o1, o2, o3, o4, o5, o6] (st) h Q = Go d 170 176 [some (.ref r), o1, o2, o3, o4, o5, o6] (.ref r :: st) h Q := go_lo (E := (.aload_n 0, 0, 0, 0)) rfl rfl rfl
set_option maxRecDepth 30000 in
theorem s_170_176 : Go d 170 176 L (.ref 53 :: st) (HP lx xs M) Q = Go d 170 179 L (.ref 75 :: st) (HP lx xs M) Q := go_gf rfl rfl (by decide) rfl
set_option maxRecDepth 30000 in
theorem s_170_179 : Go d 170 179 [o0, o1, o2, o3, o4, o5, some (.int x)] (st) h Q = Go d 170 181 [o0, o1, o2, o3, o4, o5, some (.int x)] (.int x :: st) h Q := go_lo (E := (.iload 6, 0, 0, 0)) rfl rfl rfl
set_option maxRecDepth 30000 in
theorem s_170_181 : Go d 170 181 L (.int x :: .ref 75 :: st) (HP lx xs M) Q = (ex_in x 24 = true ∧ Go d 170 182 L (.int (M 75 x.toNatClampNeg) :: st) (HP lx xs M) Q) := go_al rfl rfl
set_option maxRecDepth 30000 in
theorem s_170_182 : Go d 170 182 L (.int y :: .int x :: .ref 74 :: st) (HP lx xs M) Q = (ex_in x 96 = true ∧ Go d 170 183 L (st) (HP lx xs (up M 74 x.toNatClampNeg y)) Q) := go_as rfl rfl (by decide) hs_74
set_option maxRecDepth 30000 in
theorem s_170_183 : Go d 170 183 [o0, o1, o2, o3, o4, o5, some (.int x)] (st) h Q = Go d 170 186 [o0, o1, o2, o3, o4, o5, some (.int (x + nI 1))] (st) h Q := (ci_i1 ▸ go_lo (E := (.iinc 6 1, 0, 0, 0)) rfl rfl rfl : _ = Go d 170 186 [o0, o1, o2, o3, o4, o5, some (.int (x + nI 1))] (st) h Q)
set_option maxRecDepth 30000 in
theorem s_170_186 : Go d 170 186 L (st) h Q = Go d 170 154 L (st) h Q := go_goto rfl
set_option maxRecDepth 30000 in
theorem s_170_189 : Go d 170 189 [o0, o1, o2, o3, o4, some (.int x), o6] (st) h Q = Go d 170 191 [o0, o1, o2, o3, o4, some (.int x), o6] (.int x :: st) h Q := go_lo (E := (.iload 5, 0, 0, 0)) rfl rfl rfl
set_option maxRecDepth 30000 in
theorem s_170_191 : Go d 170 191 L [.int x] h Q = Q (some (.int x)) h := go_ri rfl rfl
end SL
