section SL
variable {d : Nat} {L : ex_L} {st : List Value} {h : ex_H} {Q : Option Value → ex_H → Prop} {lx : Nat} {xs : Nat → Int32} {M : Nat → Nat → Int32} {x y : Int32} {u w : Int64} {r r2 : Nat} {o0 o1 o2 o3 o4 o5 o6 o7 o8 o9 o10 o11 : Option Value}
theorem s_133_0 : Go d 133 0 [some (.ref r), o1, o2, o3] (st) h Q = Go d 133 1 [some (.ref r), o1, o2, o3] (.ref r :: st) h Q := go_lo (E := (.aload_n 0, 0, 0, 0)) rfl rfl rfl
theorem s_133_1  : Go (d + 1) 133 1 L [.ref 53] (HP lx xs M) Q = Go d 132 0 [some (.ref 53), none, none] [] (HP lx xs M) (fun v h2 => Go (d + 1) 133 4 L (ap v []) h2 Q) := go_cx (E := (.invokevirtual 158, 132, 0, 7)) (k' := 132) (as := [.ref 53]) rfl rfl rfl rfl rfl rfl rfl rfl
theorem s_133_4 : Go d 133 4 [o0, o1, o2, o3] (.int x :: st) h Q = Go d 133 5 [o0, some (.int x), o2, o3] (st) h Q := go_lo (E := (.istore_n 1, 0, 0, 0)) rfl rfl rfl
theorem s_133_5 : Go d 133 5 [o0, some (.int x), o2, o3] (st) h Q = Go d 133 6 [o0, some (.int x), o2, o3] (.int x :: st) h Q := go_lo (E := (.iload_n 1, 0, 0, 0)) rfl rfl rfl
theorem s_133_6 : Go d 133 6 L (.int x :: st) h Q = (if x = 0 then Go d 133 9 L st h Q else Go d 133 14 L st h Q) := go_ifne rfl
theorem s_133_9 : Go d 133 9 [some (.ref r), o1, o2, o3] (st) h Q = Go d 133 10 [some (.ref r), o1, o2, o3] (.ref r :: st) h Q := go_lo (E := (.aload_n 0, 0, 0, 0)) rfl rfl rfl
theorem s_133_10  : Go (d + 1) 133 10 L [.ref 53] (HP lx xs M) Q = Go d 130 0 [some (.ref 53)] [] (HP lx xs M) (fun v h2 => Go (d + 1) 133 13 L (ap v []) h2 Q) := go_cx (E := (.invokevirtual 144, 130, 0, 7)) (k' := 130) (as := [.ref 53]) rfl rfl rfl rfl rfl rfl rfl rfl
theorem s_133_13 : Go d 133 13 L (.int x :: st) h Q = Go d 133 14 L (st) h Q := go_op (E := (.pop, 0, 0, 0)) rfl rfl
theorem s_133_14 : Go d 133 14 [some (.ref r), o1, o2, o3] (st) h Q = Go d 133 15 [some (.ref r), o1, o2, o3] (.ref r :: st) h Q := go_lo (E := (.aload_n 0, 0, 0, 0)) rfl rfl rfl
theorem s_133_15 : Go d 133 15 L (st) h Q = Go d 133 16 L (.int (nI 0) :: st) h Q := go_ic rfl ci_i0
theorem s_133_16 : Go d 133 16 L (.int x :: .ref 53 :: st) (HP lx xs M) Q = Go d 133 19 L (st) (HP lx xs (up M 53 10 x)) Q := go_pf rfl rfl (by decide) (Nat.le_of_ble_eq_true rfl) rfl hf_53_10
theorem s_133_19 : Go d 133 19 [o0, some (.int x), o2, o3] (st) h Q = Go d 133 20 [o0, some (.int x), o2, o3] (.int x :: st) h Q := go_lo (E := (.iload_n 1, 0, 0, 0)) rfl rfl rfl
theorem s_133_20 : Go d 133 20 L (.int x :: st) h Q = (if x = 0 then Go d 133 23 L st h Q else Go d 133 31 L st h Q) := go_ifne rfl
theorem s_133_23 : Go d 133 23 L (st) h Q = Go d 133 25 L (.int (-20) :: st) h Q := go_bi rfl ci_bm20
theorem s_133_25 : Go d 133 25 [some (.ref r), o1, o2, o3] (st) h Q = Go d 133 26 [some (.ref r), o1, o2, o3] (.ref r :: st) h Q := go_lo (E := (.aload_n 0, 0, 0, 0)) rfl rfl rfl
theorem s_133_26 : Go d 133 26 L (.ref 53 :: st) (HP lx xs M) Q = Go d 133 29 L (.int (M 53 11) :: st) (HP lx xs M) Q := go_gf rfl rfl (by decide) rfl
theorem s_133_29 : Go d 133 29 L (.int y :: .int x :: st) h Q = Go d 133 30 L (.int (x - y) :: st) h Q := go_op (E := (.isub, 0, 0, 0)) rfl rfl
theorem s_133_30 : Go d 133 30 L [.int x] h Q = Q (some (.int x)) h := go_ri rfl rfl
theorem s_133_31 : Go d 133 31 [some (.ref r), o1, o2, o3] (st) h Q = Go d 133 32 [some (.ref r), o1, o2, o3] (.ref r :: st) h Q := go_lo (E := (.aload_n 0, 0, 0, 0)) rfl rfl rfl
theorem s_133_32 : Go d 133 32 L (st) h Q = Go d 133 33 L (.int (nI 0) :: st) h Q := go_ic rfl ci_i0
theorem s_133_33 : Go d 133 33 L (.int x :: .ref 53 :: st) (HP lx xs M) Q = Go d 133 36 L (st) (HP lx xs (up M 53 4 x)) Q := go_pf rfl rfl (by decide) (Nat.le_of_ble_eq_true rfl) rfl hf_53_4
theorem s_133_36 : Go d 133 36 [some (.ref r), o1, o2, o3] (st) h Q = Go d 133 37 [some (.ref r), o1, o2, o3] (.ref r :: st) h Q := go_lo (E := (.aload_n 0, 0, 0, 0)) rfl rfl rfl
theorem s_133_37 : Go d 133 37 L (st) h Q = Go d 133 38 L (.int (nI 0) :: st) h Q := go_ic rfl ci_i0
theorem s_133_38 : Go d 133 38 L (.int x :: .ref 53 :: st) (HP lx xs M) Q = Go d 133 41 L (st) (HP lx xs (up M 53 6 x)) Q := go_pf rfl rfl (by decide) (Nat.le_of_ble_eq_true rfl) rfl hf_53_6
theorem s_133_41 : Go d 133 41 L (st) h Q = Go d 133 42 L (.int (nI 0) :: st) h Q := go_ic rfl ci_i0
theorem s_133_42 : Go d 133 42 [o0, o1, o2, o3] (.int x :: st) h Q = Go d 133 43 [o0, o1, some (.int x), o3] (st) h Q := go_lo (E := (.istore_n 2, 0, 0, 0)) rfl rfl rfl
theorem s_133_43 : Go d 133 43 [o0, o1, some (.int x), o3] (st) h Q = Go d 133 44 [o0, o1, some (.int x), o3] (.int x :: st) h Q := go_lo (E := (.iload_n 2, 0, 0, 0)) rfl rfl rfl
theorem s_133_44 : Go d 133 44 [some (.ref r), o1, o2, o3] (st) h Q = Go d 133 45 [some (.ref r), o1, o2, o3] (.ref r :: st) h Q := go_lo (E := (.aload_n 0, 0, 0, 0)) rfl rfl rfl
theorem s_133_45 : Go d 133 45 L (.ref 53 :: st) (HP lx xs M) Q = Go d 133 48 L (.int (M 53 12) :: st) (HP lx xs M) Q := go_gf rfl rfl (by decide) rfl
theorem s_133_48 : Go d 133 48 L (.int y :: .int x :: st) h Q = (if x < y then Go d 133 51 L st h Q else Go d 133 115 L st h Q) := go_icge rfl
theorem s_133_51 : Go d 133 51 [some (.ref r), o1, o2, o3] (st) h Q = Go d 133 52 [some (.ref r), o1, o2, o3] (.ref r :: st) h Q := go_lo (E := (.aload_n 0, 0, 0, 0)) rfl rfl rfl
theorem s_133_52 : Go d 133 52 [some (.ref r), o1, o2, o3] (st) h Q = Go d 133 53 [some (.ref r), o1, o2, o3] (.ref r :: st) h Q := go_lo (E := (.aload_n 0, 0, 0, 0)) rfl rfl rfl
theorem s_133_53 : Go d 133 53 L (.ref 53 :: st) (HP lx xs M) Q = Go d 133 56 L (.ref 60 :: st) (HP lx xs M) Q := go_gf rfl rfl (by decide) rfl
theorem s_133_56 : Go d 133 56 L (st) h Q = Go d 133 57 L (.int (nI 2) :: st) h Q := go_ic rfl ci_i2
theorem s_133_57 : Go d 133 57 [o0, o1, some (.int x), o3] (st) h Q = Go d 133 58 [o0, o1, some (.int x), o3] (.int x :: st) h Q := go_lo (E := (.iload_n 2, 0, 0, 0)) rfl rfl rfl
theorem s_133_58 : Go d 133 58 L (.int y :: .int x :: st) h Q = Go d 133 59 L (.int (x * y) :: st) h Q := go_op (E := (.imul, 0, 0, 0)) rfl rfl
theorem s_133_59 : Go d 133 59 L (.int x :: .ref 60 :: st) (HP lx xs M) Q = (ex_in x 96 = true ∧ Go d 133 60 L (.int (M 60 x.toNatClampNeg) :: st) (HP lx xs M) Q) := go_al rfl rfl
theorem s_133_60 {a1 : Int32} : Go (d + 1) 133 60 L [.int a1, .ref 53] (HP lx xs M) Q = Go d 119 0 [some (.ref 53), some (.int a1), none] [] (HP lx xs M) (fun v h2 => Go (d + 1) 133 63 L (ap v []) h2 Q) := go_cx (E := (.invokevirtual 94, 119, 0, 7)) (k' := 119) (as := [.ref 53, .int a1]) rfl rfl rfl rfl rfl rfl rfl rfl
theorem s_133_63 : Go d 133 63 L (st) h Q = Go d 133 64 L (.int (nI 0) :: st) h Q := go_ic rfl ci_i0
theorem s_133_64 : Go d 133 64 [o0, o1, o2, o3] (.int x :: st) h Q = Go d 133 65 [o0, o1, o2, some (.int x)] (st) h Q := go_lo (E := (.istore_n 3, 0, 0, 0)) rfl rfl rfl
theorem s_133_65 : Go d 133 65 [o0, o1, o2, some (.int x)] (st) h Q = Go d 133 66 [o0, o1, o2, some (.int x)] (.int x :: st) h Q := go_lo (E := (.iload_n 3, 0, 0, 0)) rfl rfl rfl
theorem s_133_66 : Go d 133 66 L (st) h Q = Go d 133 67 L (.int (nI 4) :: st) h Q := go_ic rfl ci_i4
theorem s_133_67 : Go d 133 67 L (.int y :: .int x :: st) h Q = (if x < y then Go d 133 70 L st h Q else Go d 133 109 L st h Q) := go_icge rfl
theorem s_133_70 : Go d 133 70 [some (.ref r), o1, o2, o3] (st) h Q = Go d 133 71 [some (.ref r), o1, o2, o3] (.ref r :: st) h Q := go_lo (E := (.aload_n 0, 0, 0, 0)) rfl rfl rfl
theorem s_133_71 : Go d 133 71 L (.ref 53 :: st) (HP lx xs M) Q = Go d 133 74 L (.ref 56 :: st) (HP lx xs M) Q := go_gf rfl rfl (by decide) rfl
theorem s_133_74 : Go d 133 74 L (st) h Q = Go d 133 75 L (.int (nI 4) :: st) h Q := go_ic rfl ci_i4
theorem s_133_75 : Go d 133 75 [o0, o1, some (.int x), o3] (st) h Q = Go d 133 76 [o0, o1, some (.int x), o3] (.int x :: st) h Q := go_lo (E := (.iload_n 2, 0, 0, 0)) rfl rfl rfl
theorem s_133_76 : Go d 133 76 L (.int y :: .int x :: st) h Q = Go d 133 77 L (.int (x * y) :: st) h Q := go_op (E := (.imul, 0, 0, 0)) rfl rfl
theorem s_133_77 : Go d 133 77 [o0, o1, o2, some (.int x)] (st) h Q = Go d 133 78 [o0, o1, o2, some (.int x)] (.int x :: st) h Q := go_lo (E := (.iload_n 3, 0, 0, 0)) rfl rfl rfl
theorem s_133_78 : Go d 133 78 L (.int y :: .int x :: st) h Q = Go d 133 79 L (.int (x + y) :: st) h Q := go_op (E := (.iadd, 0, 0, 0)) rfl rfl
theorem s_133_79 : Go d 133 79 [some (.ref r), o1, o2, o3] (st) h Q = Go d 133 80 [some (.ref r), o1, o2, o3] (.ref r :: st) h Q := go_lo (E := (.aload_n 0, 0, 0, 0)) rfl rfl rfl
theorem s_133_80 : Go d 133 80 L (.ref 53 :: st) (HP lx xs M) Q = Go d 133 83 L (.ref 60 :: st) (HP lx xs M) Q := go_gf rfl rfl (by decide) rfl
theorem s_133_83 : Go d 133 83 L (st) h Q = Go d 133 84 L (.int (nI 2) :: st) h Q := go_ic rfl ci_i2
theorem s_133_84 : Go d 133 84 [o0, o1, some (.int x), o3] (st) h Q = Go d 133 85 [o0, o1, some (.int x), o3] (.int x :: st) h Q := go_lo (E := (.iload_n 2, 0, 0, 0)) rfl rfl rfl
theorem s_133_85 : Go d 133 85 L (.int y :: .int x :: st) h Q = Go d 133 86 L (.int (x * y) :: st) h Q := go_op (E := (.imul, 0, 0, 0)) rfl rfl
theorem s_133_86 : Go d 133 86 L (st) h Q = Go d 133 87 L (.int (nI 1) :: st) h Q := go_ic rfl ci_i1
theorem s_133_87 : Go d 133 87 L (.int y :: .int x :: st) h Q = Go d 133 88 L (.int (x + y) :: st) h Q := go_op (E := (.iadd, 0, 0, 0)) rfl rfl
theorem s_133_88 : Go d 133 88 L (.int x :: .ref 60 :: st) (HP lx xs M) Q = (ex_in x 96 = true ∧ Go d 133 89 L (.int (M 60 x.toNatClampNeg) :: st) (HP lx xs M) Q) := go_al rfl rfl
theorem s_133_89 : Go d 133 89 [o0, o1, o2, some (.int x)] (st) h Q = Go d 133 90 [o0, o1, o2, some (.int x)] (.int x :: st) h Q := go_lo (E := (.iload_n 3, 0, 0, 0)) rfl rfl rfl
theorem s_133_90 {a0 : Int32} {a1 : Int32} {z1 : Int32} {zr0 : Nat} : Go (d + 1) 133 90 L [.int a1, .int a0, .int z1, .ref zr0] h Q = Go d 115 0 [some (.int a0), some (.int a1)] [] h (fun v h2 => Go (d + 1) 133 93 L (ap v [.int z1, .ref zr0]) h2 Q) := go_cx (E := (.invokestatic 107, 115, 0, 0)) (k' := 115) (as := [.int a0, .int a1]) rfl rfl rfl rfl rfl rfl rfl rfl
theorem s_133_93 : Go d 133 93 L (.int x :: st) h Q = (if x = 0 then Go d 133 100 L st h Q else Go d 133 96 L st h Q) := go_ifeq rfl
theorem s_133_96 : Go d 133 96 L (st) h Q = Go d 133 97 L (.int (nI 0) :: st) h Q := go_ic rfl ci_i0
theorem s_133_97 : Go d 133 97 L (st) h Q = Go d 133 102 L (st) h Q := go_goto rfl
theorem s_133_100 : Go d 133 100 L (st) h Q = Go d 133 102 L (.int (nI 97) :: st) h Q := go_bi rfl ci_b97
theorem s_133_102 : Go d 133 102 L (.int y :: .int x :: .ref 56 :: st) (HP lx xs M) Q = (ex_in x 24 = true ∧ Go d 133 103 L (st) (HP lx xs (up M 56 x.toNatClampNeg y)) Q) := go_as rfl rfl (by decide) hs_56
theorem s_133_103 : Go d 133 103 [o0, o1, o2, some (.int x)] (st) h Q = Go d 133 106 [o0, o1, o2, some (.int (x + nI 1))] (st) h Q := (ci_i1 ▸ go_lo (E := (.iinc 3 1, 0, 0, 0)) rfl rfl rfl : _ = Go d 133 106 [o0, o1, o2, some (.int (x + nI 1))] (st) h Q)
theorem s_133_106 : Go d 133 106 L (st) h Q = Go d 133 65 L (st) h Q := go_goto rfl
theorem s_133_109 : Go d 133 109 [o0, o1, some (.int x), o3] (st) h Q = Go d 133 112 [o0, o1, some (.int (x + nI 1)), o3] (st) h Q := (ci_i1 ▸ go_lo (E := (.iinc 2 1, 0, 0, 0)) rfl rfl rfl : _ = Go d 133 112 [o0, o1, some (.int (x + nI 1)), o3] (st) h Q)
theorem s_133_112 : Go d 133 112 L (st) h Q = Go d 133 43 L (st) h Q := go_goto rfl
theorem s_133_115 : Go d 133 115 [some (.ref r), o1, o2, o3] (st) h Q = Go d 133 116 [some (.ref r), o1, o2, o3] (.ref r :: st) h Q := go_lo (E := (.aload_n 0, 0, 0, 0)) rfl rfl rfl
theorem s_133_116 : Go d 133 116 L (.ref 53 :: st) (HP lx xs M) Q = Go d 133 119 L (.int (M 53 4) :: st) (HP lx xs M) Q := go_gf rfl rfl (by decide) rfl
theorem s_133_119 : Go d 133 119 L [.int x] h Q = Q (some (.int x)) h := go_ri rfl rfl
theorem s_134_0 : Go d 134 0 [some (.ref r), o1, o2, o3, o4] (st) h Q = Go d 134 1 [some (.ref r), o1, o2, o3, o4] (.ref r :: st) h Q := go_lo (E := (.aload_n 0, 0, 0, 0)) rfl rfl rfl
theorem s_134_1  : Go (d + 1) 134 1 L [.ref 53] (HP lx xs M) Q = Go d 130 0 [some (.ref 53)] [] (HP lx xs M) (fun v h2 => Go (d + 1) 134 4 L (ap v []) h2 Q) := go_cx (E := (.invokevirtual 144, 130, 0, 7)) (k' := 130) (as := [.ref 53]) rfl rfl rfl rfl rfl rfl rfl rfl
theorem s_134_4 : Go d 134 4 L (st) h Q = Go d 134 6 L (.int (nI 48) :: st) h Q := go_bi rfl ci_b48
theorem s_134_6 : Go d 134 6 L (.int y :: .int x :: st) h Q = Go d 134 7 L (.int (x - y) :: st) h Q := go_op (E := (.isub, 0, 0, 0)) rfl rfl
theorem s_134_7 : Go d 134 7 [o0, o1, o2, o3, o4] (.int x :: st) h Q = Go d 134 8 [o0, o1, some (.int x), o3, o4] (st) h Q := go_lo (E := (.istore_n 2, 0, 0, 0)) rfl rfl rfl
theorem s_134_8 : Go d 134 8 [some (.ref r), o1, o2, o3, o4] (st) h Q = Go d 134 9 [some (.ref r), o1, o2, o3, o4] (.ref r :: st) h Q := go_lo (E := (.aload_n 0, 0, 0, 0)) rfl rfl rfl
theorem s_134_9 : Go d 134 9 [o0, o1, some (.int x), o3, o4] (st) h Q = Go d 134 10 [o0, o1, some (.int x), o3, o4] (.int x :: st) h Q := go_lo (E := (.iload_n 2, 0, 0, 0)) rfl rfl rfl
theorem s_134_10 {a1 : Int32} : Go (d + 1) 134 10 L [.int a1, .ref 53] (HP lx xs M) Q = Go d 116 0 [some (.ref 53), some (.int a1)] [] (HP lx xs M) (fun v h2 => Go (d + 1) 134 13 L (ap v []) h2 Q) := go_cx (E := (.invokevirtual 90, 116, 0, 7)) (k' := 116) (as := [.ref 53, .int a1]) rfl rfl rfl rfl rfl rfl rfl rfl
theorem s_134_13 : Go d 134 13 L (.int x :: st) h Q = (if x = 0 then Go d 134 16 L st h Q else Go d 134 18 L st h Q) := go_ifne rfl
theorem s_134_16 : Go d 134 16 L (st) h Q = Go d 134 17 L (.int (nI 0) :: st) h Q := go_ic rfl ci_i0
theorem s_134_17_0 : Go d 134 17 L [.int (nI 0)] h Q = Q (some (.int (nI 0))) h := go_rz rfl rfl (by decide)
theorem s_134_17_1 : Go d 134 17 L [.int (nI 1)] h Q = Q (some (.int (nI 1))) h := go_rz rfl rfl (by decide)
theorem s_134_18 : Go d 134 18 [some (.ref r), o1, o2, o3, o4] (st) h Q = Go d 134 19 [some (.ref r), o1, o2, o3, o4] (.ref r :: st) h Q := go_lo (E := (.aload_n 0, 0, 0, 0)) rfl rfl rfl
theorem s_134_19 : Go d 134 19 L (.ref r :: st) h Q = Go d 134 20 L (.ref r :: .ref r :: st) h Q := go_op (E := (.dup, 0, 0, 0)) rfl rfl
theorem s_134_20 : Go d 134 20 L (.ref 53 :: st) (HP lx xs M) Q = Go d 134 23 L (.int (M 53 11) :: st) (HP lx xs M) Q := go_gf rfl rfl (by decide) rfl
theorem s_134_23 : Go d 134 23 L (st) h Q = Go d 134 24 L (.int (nI 1) :: st) h Q := go_ic rfl ci_i1
theorem s_134_24 : Go d 134 24 L (.int y :: .int x :: st) h Q = Go d 134 25 L (.int (x + y) :: st) h Q := go_op (E := (.iadd, 0, 0, 0)) rfl rfl
theorem s_134_25 : Go d 134 25 L (.int x :: .ref 53 :: st) (HP lx xs M) Q = Go d 134 28 L (st) (HP lx xs (up M 53 11 x)) Q := go_pf rfl rfl (by decide) (Nat.le_of_ble_eq_true rfl) rfl hf_53_11
theorem s_134_28 : Go d 134 28 [some (.ref r), o1, o2, o3, o4] (st) h Q = Go d 134 29 [some (.ref r), o1, o2, o3, o4] (.ref r :: st) h Q := go_lo (E := (.aload_n 0, 0, 0, 0)) rfl rfl rfl
theorem s_134_29  : Go (d + 1) 134 29 L [.ref 53] (HP lx xs M) Q = Go d 130 0 [some (.ref 53)] [] (HP lx xs M) (fun v h2 => Go (d + 1) 134 32 L (ap v []) h2 Q) := go_cx (E := (.invokevirtual 144, 130, 0, 7)) (k' := 130) (as := [.ref 53]) rfl rfl rfl rfl rfl rfl rfl rfl
theorem s_134_32 : Go d 134 32 L (st) h Q = Go d 134 34 L (.int (nI 62) :: st) h Q := go_bi rfl ci_b62
theorem s_134_34 : Go d 134 34 L (.int y :: .int x :: st) h Q = (if x = y then Go d 134 39 L st h Q else Go d 134 37 L st h Q) := go_iceq rfl
theorem s_134_37 : Go d 134 37 L (st) h Q = Go d 134 38 L (.int (nI 0) :: st) h Q := go_ic rfl ci_i0
theorem s_134_38_0 : Go d 134 38 L [.int (nI 0)] h Q = Q (some (.int (nI 0))) h := go_rz rfl rfl (by decide)
theorem s_134_38_1 : Go d 134 38 L [.int (nI 1)] h Q = Q (some (.int (nI 1))) h := go_rz rfl rfl (by decide)
theorem s_134_39 : Go d 134 39 [some (.ref r), o1, o2, o3, o4] (st) h Q = Go d 134 40 [some (.ref r), o1, o2, o3, o4] (.ref r :: st) h Q := go_lo (E := (.aload_n 0, 0, 0, 0)) rfl rfl rfl
theorem s_134_40 : Go d 134 40 L (.ref r :: st) h Q = Go d 134 41 L (.ref r :: .ref r :: st) h Q := go_op (E := (.dup, 0, 0, 0)) rfl rfl
theorem s_134_41 : Go d 134 41 L (.ref 53 :: st) (HP lx xs M) Q = Go d 134 44 L (.int (M 53 11) :: st) (HP lx xs M) Q := go_gf rfl rfl (by decide) rfl
theorem s_134_44 : Go d 134 44 L (st) h Q = Go d 134 45 L (.int (nI 1) :: st) h Q := go_ic rfl ci_i1
theorem s_134_45 : Go d 134 45 L (.int y :: .int x :: st) h Q = Go d 134 46 L (.int (x + y) :: st) h Q := go_op (E := (.iadd, 0, 0, 0)) rfl rfl
theorem s_134_46 : Go d 134 46 L (.int x :: .ref 53 :: st) (HP lx xs M) Q = Go d 134 49 L (st) (HP lx xs (up M 53 11 x)) Q := go_pf rfl rfl (by decide) (Nat.le_of_ble_eq_true rfl) rfl hf_53_11
theorem s_134_49 : Go d 134 49 [some (.ref r), o1, o2, o3, o4] (st) h Q = Go d 134 50 [some (.ref r), o1, o2, o3, o4] (.ref r :: st) h Q := go_lo (E := (.aload_n 0, 0, 0, 0)) rfl rfl rfl
theorem s_134_50  : Go (d + 1) 134 50 L [.ref 53] (HP lx xs M) Q = Go d 130 0 [some (.ref 53)] [] (HP lx xs M) (fun v h2 => Go (d + 1) 134 53 L (ap v []) h2 Q) := go_cx (E := (.invokevirtual 144, 130, 0, 7)) (k' := 130) (as := [.ref 53]) rfl rfl rfl rfl rfl rfl rfl rfl
theorem s_134_53 : Go d 134 53 L (st) h Q = Go d 134 55 L (.int (nI 48) :: st) h Q := go_bi rfl ci_b48
theorem s_134_55 : Go d 134 55 L (.int y :: .int x :: st) h Q = Go d 134 56 L (.int (x - y) :: st) h Q := go_op (E := (.isub, 0, 0, 0)) rfl rfl
theorem s_134_56 : Go d 134 56 [o0, o1, o2, o3, o4] (.int x :: st) h Q = Go d 134 57 [o0, o1, o2, some (.int x), o4] (st) h Q := go_lo (E := (.istore_n 3, 0, 0, 0)) rfl rfl rfl
theorem s_134_57 : Go d 134 57 [some (.ref r), o1, o2, o3, o4] (st) h Q = Go d 134 58 [some (.ref r), o1, o2, o3, o4] (.ref r :: st) h Q := go_lo (E := (.aload_n 0, 0, 0, 0)) rfl rfl rfl
theorem s_134_58 : Go d 134 58 [o0, o1, o2, some (.int x), o4] (st) h Q = Go d 134 59 [o0, o1, o2, some (.int x), o4] (.int x :: st) h Q := go_lo (E := (.iload_n 3, 0, 0, 0)) rfl rfl rfl
theorem s_134_59 {a1 : Int32} : Go (d + 1) 134 59 L [.int a1, .ref 53] (HP lx xs M) Q = Go d 116 0 [some (.ref 53), some (.int a1)] [] (HP lx xs M) (fun v h2 => Go (d + 1) 134 62 L (ap v []) h2 Q) := go_cx (E := (.invokevirtual 90, 116, 0, 7)) (k' := 116) (as := [.ref 53, .int a1]) rfl rfl rfl rfl rfl rfl rfl rfl
theorem s_134_62 : Go d 134 62 L (.int x :: st) h Q = (if x = 0 then Go d 134 70 L st h Q else Go d 134 65 L st h Q) := go_ifeq rfl
theorem s_134_65 : Go d 134 65 [o0, o1, o2, some (.int x), o4] (st) h Q = Go d 134 66 [o0, o1, o2, some (.int x), o4] (.int x :: st) h Q := go_lo (E := (.iload_n 3, 0, 0, 0)) rfl rfl rfl
theorem s_134_66 : Go d 134 66 [o0, o1, some (.int x), o3, o4] (st) h Q = Go d 134 67 [o0, o1, some (.int x), o3, o4] (.int x :: st) h Q := go_lo (E := (.iload_n 2, 0, 0, 0)) rfl rfl rfl
theorem s_134_67 : Go d 134 67 L (.int y :: .int x :: st) h Q = (if x = y then Go d 134 70 L st h Q else Go d 134 72 L st h Q) := go_icne rfl
theorem s_134_70 : Go d 134 70 L (st) h Q = Go d 134 71 L (.int (nI 0) :: st) h Q := go_ic rfl ci_i0
theorem s_134_71_0 : Go d 134 71 L [.int (nI 0)] h Q = Q (some (.int (nI 0))) h := go_rz rfl rfl (by decide)
theorem s_134_71_1 : Go d 134 71 L [.int (nI 1)] h Q = Q (some (.int (nI 1))) h := go_rz rfl rfl (by decide)
theorem s_134_72 : Go d 134 72 [some (.ref r), o1, o2, o3, o4] (st) h Q = Go d 134 73 [some (.ref r), o1, o2, o3, o4] (.ref r :: st) h Q := go_lo (E := (.aload_n 0, 0, 0, 0)) rfl rfl rfl
theorem s_134_73 : Go d 134 73 L (.ref r :: st) h Q = Go d 134 74 L (.ref r :: .ref r :: st) h Q := go_op (E := (.dup, 0, 0, 0)) rfl rfl
theorem s_134_74 : Go d 134 74 L (.ref 53 :: st) (HP lx xs M) Q = Go d 134 77 L (.int (M 53 11) :: st) (HP lx xs M) Q := go_gf rfl rfl (by decide) rfl
theorem s_134_77 : Go d 134 77 L (st) h Q = Go d 134 78 L (.int (nI 1) :: st) h Q := go_ic rfl ci_i1
theorem s_134_78 : Go d 134 78 L (.int y :: .int x :: st) h Q = Go d 134 79 L (.int (x + y) :: st) h Q := go_op (E := (.iadd, 0, 0, 0)) rfl rfl
theorem s_134_79 : Go d 134 79 L (.int x :: .ref 53 :: st) (HP lx xs M) Q = Go d 134 82 L (st) (HP lx xs (up M 53 11 x)) Q := go_pf rfl rfl (by decide) (Nat.le_of_ble_eq_true rfl) rfl hf_53_11
theorem s_134_82 : Go d 134 82 [some (.ref r), o1, o2, o3, o4] (st) h Q = Go d 134 83 [some (.ref r), o1, o2, o3, o4] (.ref r :: st) h Q := go_lo (E := (.aload_n 0, 0, 0, 0)) rfl rfl rfl
theorem s_134_83  : Go (d + 1) 134 83 L [.ref 53] (HP lx xs M) Q = Go d 130 0 [some (.ref 53)] [] (HP lx xs M) (fun v h2 => Go (d + 1) 134 86 L (ap v []) h2 Q) := go_cx (E := (.invokevirtual 144, 130, 0, 7)) (k' := 130) (as := [.ref 53]) rfl rfl rfl rfl rfl rfl rfl rfl
theorem s_134_86 : Go d 134 86 L (st) h Q = Go d 134 88 L (.int (nI 97) :: st) h Q := go_bi rfl ci_b97
theorem s_134_88 : Go d 134 88 L (.int y :: .int x :: st) h Q = Go d 134 89 L (.int (x - y) :: st) h Q := go_op (E := (.isub, 0, 0, 0)) rfl rfl
theorem s_134_89 : Go d 134 89 [o0, o1, o2, o3, o4] (.int x :: st) h Q = Go d 134 91 [o0, o1, o2, o3, some (.int x)] (st) h Q := go_lo (E := (.istore 4, 0, 0, 0)) rfl rfl rfl
theorem s_134_91 : Go d 134 91 [o0, o1, o2, o3, some (.int x)] (st) h Q = Go d 134 93 [o0, o1, o2, o3, some (.int x)] (.int x :: st) h Q := go_lo (E := (.iload 4, 0, 0, 0)) rfl rfl rfl
theorem s_134_93 {a0 : Int32} : Go (d + 1) 134 93 L [.int a0] h Q = Go d 117 0 [some (.int a0)] [] h (fun v h2 => Go (d + 1) 134 96 L (ap v []) h2 Q) := go_cx (E := (.invokestatic 98, 117, 0, 0)) (k' := 117) (as := [.int a0]) rfl rfl rfl rfl rfl rfl rfl rfl
theorem s_134_96 : Go d 134 96 L (.int x :: st) h Q = (if x = 0 then Go d 134 99 L st h Q else Go d 134 101 L st h Q) := go_ifne rfl
theorem s_134_99 : Go d 134 99 L (st) h Q = Go d 134 100 L (.int (nI 0) :: st) h Q := go_ic rfl ci_i0
theorem s_134_100_0 : Go d 134 100 L [.int (nI 0)] h Q = Q (some (.int (nI 0))) h := go_rz rfl rfl (by decide)
theorem s_134_100_1 : Go d 134 100 L [.int (nI 1)] h Q = Q (some (.int (nI 1))) h := go_rz rfl rfl (by decide)
theorem s_134_101 : Go d 134 101 [some (.ref r), o1, o2, o3, o4] (st) h Q = Go d 134 102 [some (.ref r), o1, o2, o3, o4] (.ref r :: st) h Q := go_lo (E := (.aload_n 0, 0, 0, 0)) rfl rfl rfl
theorem s_134_102 : Go d 134 102 L (.ref r :: st) h Q = Go d 134 103 L (.ref r :: .ref r :: st) h Q := go_op (E := (.dup, 0, 0, 0)) rfl rfl
theorem s_134_103 : Go d 134 103 L (.ref 53 :: st) (HP lx xs M) Q = Go d 134 106 L (.int (M 53 11) :: st) (HP lx xs M) Q := go_gf rfl rfl (by decide) rfl
theorem s_134_106 : Go d 134 106 L (st) h Q = Go d 134 107 L (.int (nI 1) :: st) h Q := go_ic rfl ci_i1
theorem s_134_107 : Go d 134 107 L (.int y :: .int x :: st) h Q = Go d 134 108 L (.int (x + y) :: st) h Q := go_op (E := (.iadd, 0, 0, 0)) rfl rfl
theorem s_134_108 : Go d 134 108 L (.int x :: .ref 53 :: st) (HP lx xs M) Q = Go d 134 111 L (st) (HP lx xs (up M 53 11 x)) Q := go_pf rfl rfl (by decide) (Nat.le_of_ble_eq_true rfl) rfl hf_53_11
theorem s_134_111 : Go d 134 111 [some (.ref r), o1, o2, o3, o4] (st) h Q = Go d 134 112 [some (.ref r), o1, o2, o3, o4] (.ref r :: st) h Q := go_lo (E := (.aload_n 0, 0, 0, 0)) rfl rfl rfl
theorem s_134_112 : Go d 134 112 L (.ref 53 :: st) (HP lx xs M) Q = Go d 134 115 L (.ref 60 :: st) (HP lx xs M) Q := go_gf rfl rfl (by decide) rfl
theorem s_134_115 : Go d 134 115 [o0, some (.int x), o2, o3, o4] (st) h Q = Go d 134 116 [o0, some (.int x), o2, o3, o4] (.int x :: st) h Q := go_lo (E := (.iload_n 1, 0, 0, 0)) rfl rfl rfl
theorem s_134_116 : Go d 134 116 [o0, o1, some (.int x), o3, o4] (st) h Q = Go d 134 117 [o0, o1, some (.int x), o3, o4] (.int x :: st) h Q := go_lo (E := (.iload_n 2, 0, 0, 0)) rfl rfl rfl
theorem s_134_117 : Go d 134 117 L (.int y :: .int x :: .ref 60 :: st) (HP lx xs M) Q = (ex_in x 96 = true ∧ Go d 134 118 L (st) (HP lx xs (up M 60 x.toNatClampNeg y)) Q) := go_as rfl rfl (by decide) hs_60
theorem s_134_118 : Go d 134 118 [some (.ref r), o1, o2, o3, o4] (st) h Q = Go d 134 119 [some (.ref r), o1, o2, o3, o4] (.ref r :: st) h Q := go_lo (E := (.aload_n 0, 0, 0, 0)) rfl rfl rfl
theorem s_134_119 : Go d 134 119 L (.ref 53 :: st) (HP lx xs M) Q = Go d 134 122 L (.ref 60 :: st) (HP lx xs M) Q := go_gf rfl rfl (by decide) rfl
theorem s_134_122 : Go d 134 122 [o0, some (.int x), o2, o3, o4] (st) h Q = Go d 134 123 [o0, some (.int x), o2, o3, o4] (.int x :: st) h Q := go_lo (E := (.iload_n 1, 0, 0, 0)) rfl rfl rfl
theorem s_134_123 : Go d 134 123 L (st) h Q = Go d 134 124 L (.int (nI 1) :: st) h Q := go_ic rfl ci_i1
theorem s_134_124 : Go d 134 124 L (.int y :: .int x :: st) h Q = Go d 134 125 L (.int (x + y) :: st) h Q := go_op (E := (.iadd, 0, 0, 0)) rfl rfl
theorem s_134_125 : Go d 134 125 [o0, o1, o2, some (.int x), o4] (st) h Q = Go d 134 126 [o0, o1, o2, some (.int x), o4] (.int x :: st) h Q := go_lo (E := (.iload_n 3, 0, 0, 0)) rfl rfl rfl
theorem s_134_126 : Go d 134 126 L (.int y :: .int x :: .ref 60 :: st) (HP lx xs M) Q = (ex_in x 96 = true ∧ Go d 134 127 L (st) (HP lx xs (up M 60 x.toNatClampNeg y)) Q) := go_as rfl rfl (by decide) hs_60
theorem s_134_127 : Go d 134 127 [some (.ref r), o1, o2, o3, o4] (st) h Q = Go d 134 128 [some (.ref r), o1, o2, o3, o4] (.ref r :: st) h Q := go_lo (E := (.aload_n 0, 0, 0, 0)) rfl rfl rfl
theorem s_134_128 : Go d 134 128 L (.ref 53 :: st) (HP lx xs M) Q = Go d 134 131 L (.ref 60 :: st) (HP lx xs M) Q := go_gf rfl rfl (by decide) rfl
theorem s_134_131 : Go d 134 131 [o0, some (.int x), o2, o3, o4] (st) h Q = Go d 134 132 [o0, some (.int x), o2, o3, o4] (.int x :: st) h Q := go_lo (E := (.iload_n 1, 0, 0, 0)) rfl rfl rfl
theorem s_134_132 : Go d 134 132 L (st) h Q = Go d 134 133 L (.int (nI 2) :: st) h Q := go_ic rfl ci_i2
theorem s_134_133 : Go d 134 133 L (.int y :: .int x :: st) h Q = Go d 134 134 L (.int (x + y) :: st) h Q := go_op (E := (.iadd, 0, 0, 0)) rfl rfl
theorem s_134_134 : Go d 134 134 [o0, o1, o2, o3, some (.int x)] (st) h Q = Go d 134 136 [o0, o1, o2, o3, some (.int x)] (.int x :: st) h Q := go_lo (E := (.iload 4, 0, 0, 0)) rfl rfl rfl
theorem s_134_136 : Go d 134 136 L (.int y :: .int x :: .ref 60 :: st) (HP lx xs M) Q = (ex_in x 96 = true ∧ Go d 134 137 L (st) (HP lx xs (up M 60 x.toNatClampNeg y)) Q) := go_as rfl rfl (by decide) hs_60
theorem s_134_137 : Go d 134 137 L (st) h Q = Go d 134 138 L (.int (nI 1) :: st) h Q := go_ic rfl ci_i1
theorem s_134_138_0 : Go d 134 138 L [.int (nI 0)] h Q = Q (some (.int (nI 0))) h := go_rz rfl rfl (by decide)
theorem s_134_138_1 : Go d 134 138 L [.int (nI 1)] h Q = Q (some (.int (nI 1))) h := go_rz rfl rfl (by decide)
theorem s_135_0 : Go d 135 0 [some (.ref r), o1, o2, o3] (st) h Q = Go d 135 1 [some (.ref r), o1, o2, o3] (.ref r :: st) h Q := go_lo (E := (.aload_n 0, 0, 0, 0)) rfl rfl rfl
theorem s_135_1 : Go d 135 1 L (st) h Q = Go d 135 2 L (.int (nI 0) :: st) h Q := go_ic rfl ci_i0
theorem s_135_2 : Go d 135 2 L (.int x :: .ref 53 :: st) (HP lx xs M) Q = Go d 135 5 L (st) (HP lx xs (up M 53 11 x)) Q := go_pf rfl rfl (by decide) (Nat.le_of_ble_eq_true rfl) rfl hf_53_11
theorem s_135_5 : Go d 135 5 L (st) h Q = Go d 135 6 L (.int (nI 0) :: st) h Q := go_ic rfl ci_i0
theorem s_135_6 : Go d 135 6 [o0, o1, o2, o3] (.int x :: st) h Q = Go d 135 7 [o0, some (.int x), o2, o3] (st) h Q := go_lo (E := (.istore_n 1, 0, 0, 0)) rfl rfl rfl
theorem s_135_7 : Go d 135 7 L (st) h Q = Go d 135 8 L (.int (nI 0) :: st) h Q := go_ic rfl ci_i0
theorem s_135_8 : Go d 135 8 [o0, o1, o2, o3] (.int x :: st) h Q = Go d 135 9 [o0, o1, some (.int x), o3] (st) h Q := go_lo (E := (.istore_n 2, 0, 0, 0)) rfl rfl rfl
theorem s_135_9 : Go d 135 9 [o0, o1, some (.int x), o3] (st) h Q = Go d 135 10 [o0, o1, some (.int x), o3] (.int x :: st) h Q := go_lo (E := (.iload_n 2, 0, 0, 0)) rfl rfl rfl
theorem s_135_10 : Go d 135 10 L (st) h Q = Go d 135 12 L (.int (nI 24) :: st) h Q := go_bi rfl ci_b24
theorem s_135_12 : Go d 135 12 L (.int y :: .int x :: st) h Q = (if x < y then Go d 135 15 L st h Q else Go d 135 106 L st h Q) := go_icge rfl
theorem s_135_15 : Go d 135 15 [some (.ref r), o1, o2, o3] (st) h Q = Go d 135 16 [some (.ref r), o1, o2, o3] (.ref r :: st) h Q := go_lo (E := (.aload_n 0, 0, 0, 0)) rfl rfl rfl
theorem s_135_16 : Go d 135 16 L (st) h Q = Go d 135 17 L (.int (nI 4) :: st) h Q := go_ic rfl ci_i4
theorem s_135_17 : Go d 135 17 [o0, o1, some (.int x), o3] (st) h Q = Go d 135 18 [o0, o1, some (.int x), o3] (.int x :: st) h Q := go_lo (E := (.iload_n 2, 0, 0, 0)) rfl rfl rfl
theorem s_135_18 : Go d 135 18 L (.int y :: .int x :: st) h Q = Go d 135 19 L (.int (x * y) :: st) h Q := go_op (E := (.imul, 0, 0, 0)) rfl rfl
theorem s_135_19 {a1 : Int32} : Go (d + 1) 135 19 L [.int a1, .ref 53] (HP lx xs M) Q = Go d 134 0 [some (.ref 53), some (.int a1), none, none, none] [] (HP lx xs M) (fun v h2 => Go (d + 1) 135 22 L (ap v []) h2 Q) := go_cx (E := (.invokevirtual 162, 134, 0, 7)) (k' := 134) (as := [.ref 53, .int a1]) rfl rfl rfl rfl rfl rfl rfl rfl
theorem s_135_22 : Go d 135 22 L (.int x :: st) h Q = (if x = 0 then Go d 135 25 L st h Q else Go d 135 27 L st h Q) := go_ifne rfl
theorem s_135_25 : Go d 135 25 L (st) h Q = Go d 135 26 L (.int (nI 0) :: st) h Q := go_ic rfl ci_i0
theorem s_135_26_0 : Go d 135 26 L [.int (nI 0)] h Q = Q (some (.int (nI 0))) h := go_rz rfl rfl (by decide)
theorem s_135_26_1 : Go d 135 26 L [.int (nI 1)] h Q = Q (some (.int (nI 1))) h := go_rz rfl rfl (by decide)
theorem s_135_27 : Go d 135 27 [some (.ref r), o1, o2, o3] (st) h Q = Go d 135 28 [some (.ref r), o1, o2, o3] (.ref r :: st) h Q := go_lo (E := (.aload_n 0, 0, 0, 0)) rfl rfl rfl
theorem s_135_28 : Go d 135 28 L (.ref 53 :: st) (HP lx xs M) Q = Go d 135 31 L (.ref 60 :: st) (HP lx xs M) Q := go_gf rfl rfl (by decide) rfl
theorem s_135_31 : Go d 135 31 L (st) h Q = Go d 135 32 L (.int (nI 4) :: st) h Q := go_ic rfl ci_i4
theorem s_135_32 : Go d 135 32 [o0, o1, some (.int x), o3] (st) h Q = Go d 135 33 [o0, o1, some (.int x), o3] (.int x :: st) h Q := go_lo (E := (.iload_n 2, 0, 0, 0)) rfl rfl rfl
theorem s_135_33 : Go d 135 33 L (.int y :: .int x :: st) h Q = Go d 135 34 L (.int (x * y) :: st) h Q := go_op (E := (.imul, 0, 0, 0)) rfl rfl
theorem s_135_34 : Go d 135 34 L (st) h Q = Go d 135 35 L (.int (nI 3) :: st) h Q := go_ic rfl ci_i3
theorem s_135_35 : Go d 135 35 L (.int y :: .int x :: st) h Q = Go d 135 36 L (.int (x + y) :: st) h Q := go_op (E := (.iadd, 0, 0, 0)) rfl rfl
theorem s_135_36 : Go d 135 36 [o0, some (.int x), o2, o3] (st) h Q = Go d 135 37 [o0, some (.int x), o2, o3] (.int x :: st) h Q := go_lo (E := (.iload_n 1, 0, 0, 0)) rfl rfl rfl
theorem s_135_37 : Go d 135 37 L (.int y :: .int x :: .ref 60 :: st) (HP lx xs M) Q = (ex_in x 96 = true ∧ Go d 135 38 L (st) (HP lx xs (up M 60 x.toNatClampNeg y)) Q) := go_as rfl rfl (by decide) hs_60
theorem s_135_38 : Go d 135 38 [some (.ref r), o1, o2, o3] (st) h Q = Go d 135 39 [some (.ref r), o1, o2, o3] (.ref r :: st) h Q := go_lo (E := (.aload_n 0, 0, 0, 0)) rfl rfl rfl
theorem s_135_39 : Go d 135 39 [o0, o1, some (.int x), o3] (st) h Q = Go d 135 40 [o0, o1, some (.int x), o3] (.int x :: st) h Q := go_lo (E := (.iload_n 2, 0, 0, 0)) rfl rfl rfl
theorem s_135_40 : Go d 135 40 L (st) h Q = Go d 135 41 L (.int (nI 1) :: st) h Q := go_ic rfl ci_i1
theorem s_135_41 : Go d 135 41 L (.int y :: .int x :: st) h Q = Go d 135 42 L (.int (x + y) :: st) h Q := go_op (E := (.iadd, 0, 0, 0)) rfl rfl
theorem s_135_42 : Go d 135 42 L (.int x :: .ref 53 :: st) (HP lx xs M) Q = Go d 135 45 L (st) (HP lx xs (up M 53 12 x)) Q := go_pf rfl rfl (by decide) (Nat.le_of_ble_eq_true rfl) rfl hf_53_12
theorem s_135_45 : Go d 135 45 [some (.ref r), o1, o2, o3] (st) h Q = Go d 135 46 [some (.ref r), o1, o2, o3] (.ref r :: st) h Q := go_lo (E := (.aload_n 0, 0, 0, 0)) rfl rfl rfl
theorem s_135_46  : Go (d + 1) 135 46 L [.ref 53] (HP lx xs M) Q = Go d 130 0 [some (.ref 53)] [] (HP lx xs M) (fun v h2 => Go (d + 1) 135 49 L (ap v []) h2 Q) := go_cx (E := (.invokevirtual 144, 130, 0, 7)) (k' := 130) (as := [.ref 53]) rfl rfl rfl rfl rfl rfl rfl rfl
theorem s_135_49 : Go d 135 49 [o0, o1, o2, o3] (.int x :: st) h Q = Go d 135 50 [o0, o1, o2, some (.int x)] (st) h Q := go_lo (E := (.istore_n 3, 0, 0, 0)) rfl rfl rfl
theorem s_135_50 : Go d 135 50 [o0, o1, o2, some (.int x)] (st) h Q = Go d 135 51 [o0, o1, o2, some (.int x)] (.int x :: st) h Q := go_lo (E := (.iload_n 3, 0, 0, 0)) rfl rfl rfl
theorem s_135_51 : Go d 135 51 L (.int x :: st) h Q = (if x < 0 then Go d 135 54 L st h Q else Go d 135 56 L st h Q) := go_ifge rfl
theorem s_135_54 : Go d 135 54 L (st) h Q = Go d 135 55 L (.int (nI 1) :: st) h Q := go_ic rfl ci_i1
theorem s_135_55_0 : Go d 135 55 L [.int (nI 0)] h Q = Q (some (.int (nI 0))) h := go_rz rfl rfl (by decide)
theorem s_135_55_1 : Go d 135 55 L [.int (nI 1)] h Q = Q (some (.int (nI 1))) h := go_rz rfl rfl (by decide)
theorem s_135_56 : Go d 135 56 [o0, o1, o2, some (.int x)] (st) h Q = Go d 135 57 [o0, o1, o2, some (.int x)] (.int x :: st) h Q := go_lo (E := (.iload_n 3, 0, 0, 0)) rfl rfl rfl
theorem s_135_57 : Go d 135 57 L (st) h Q = Go d 135 59 L (.int (nI 44) :: st) h Q := go_bi rfl ci_b44
theorem s_135_59 : Go d 135 59 L (.int y :: .int x :: st) h Q = (if x = y then Go d 135 68 L st h Q else Go d 135 62 L st h Q) := go_iceq rfl
theorem s_135_62 : Go d 135 62 [o0, o1, o2, some (.int x)] (st) h Q = Go d 135 63 [o0, o1, o2, some (.int x)] (.int x :: st) h Q := go_lo (E := (.iload_n 3, 0, 0, 0)) rfl rfl rfl
theorem s_135_63 : Go d 135 63 L (st) h Q = Go d 135 65 L (.int (nI 59) :: st) h Q := go_bi rfl ci_b59
theorem s_135_65 : Go d 135 65 L (.int y :: .int x :: st) h Q = (if x = y then Go d 135 68 L st h Q else Go d 135 74 L st h Q) := go_icne rfl
theorem s_135_68 : Go d 135 68 [o0, o1, some (.int x), o3] (st) h Q = Go d 135 69 [o0, o1, some (.int x), o3] (.int x :: st) h Q := go_lo (E := (.iload_n 2, 0, 0, 0)) rfl rfl rfl
theorem s_135_69 : Go d 135 69 L (st) h Q = Go d 135 71 L (.int (nI 23) :: st) h Q := go_bi rfl ci_b23
theorem s_135_71 : Go d 135 71 L (.int y :: .int x :: st) h Q = (if x = y then Go d 135 74 L st h Q else Go d 135 76 L st h Q) := go_icne rfl
theorem s_135_74 : Go d 135 74 L (st) h Q = Go d 135 75 L (.int (nI 0) :: st) h Q := go_ic rfl ci_i0
theorem s_135_75_0 : Go d 135 75 L [.int (nI 0)] h Q = Q (some (.int (nI 0))) h := go_rz rfl rfl (by decide)
theorem s_135_75_1 : Go d 135 75 L [.int (nI 1)] h Q = Q (some (.int (nI 1))) h := go_rz rfl rfl (by decide)
theorem s_135_76 : Go d 135 76 [o0, some (.int x), o2, o3] (st) h Q = Go d 135 77 [o0, some (.int x), o2, o3] (.int x :: st) h Q := go_lo (E := (.iload_n 1, 0, 0, 0)) rfl rfl rfl
theorem s_135_77 : Go d 135 77 [o0, o1, o2, some (.int x)] (st) h Q = Go d 135 78 [o0, o1, o2, some (.int x)] (.int x :: st) h Q := go_lo (E := (.iload_n 3, 0, 0, 0)) rfl rfl rfl
theorem s_135_78 : Go d 135 78 L (st) h Q = Go d 135 80 L (.int (nI 59) :: st) h Q := go_bi rfl ci_b59
theorem s_135_80 : Go d 135 80 L (.int y :: .int x :: st) h Q = (if x = y then Go d 135 83 L st h Q else Go d 135 87 L st h Q) := go_icne rfl
theorem s_135_83 : Go d 135 83 L (st) h Q = Go d 135 84 L (.int (nI 1) :: st) h Q := go_ic rfl ci_i1
theorem s_135_84 : Go d 135 84 L (st) h Q = Go d 135 88 L (st) h Q := go_goto rfl
theorem s_135_87 : Go d 135 87 L (st) h Q = Go d 135 88 L (.int (nI 0) :: st) h Q := go_ic rfl ci_i0
theorem s_135_88 : Go d 135 88 L (.int y :: .int x :: st) h Q = Go d 135 89 L (.int (x + y) :: st) h Q := go_op (E := (.iadd, 0, 0, 0)) rfl rfl
theorem s_135_89 : Go d 135 89 [o0, o1, o2, o3] (.int x :: st) h Q = Go d 135 90 [o0, some (.int x), o2, o3] (st) h Q := go_lo (E := (.istore_n 1, 0, 0, 0)) rfl rfl rfl
theorem s_135_90 : Go d 135 90 [some (.ref r), o1, o2, o3] (st) h Q = Go d 135 91 [some (.ref r), o1, o2, o3] (.ref r :: st) h Q := go_lo (E := (.aload_n 0, 0, 0, 0)) rfl rfl rfl
theorem s_135_91 : Go d 135 91 L (.ref r :: st) h Q = Go d 135 92 L (.ref r :: .ref r :: st) h Q := go_op (E := (.dup, 0, 0, 0)) rfl rfl
theorem s_135_92 : Go d 135 92 L (.ref 53 :: st) (HP lx xs M) Q = Go d 135 95 L (.int (M 53 11) :: st) (HP lx xs M) Q := go_gf rfl rfl (by decide) rfl
theorem s_135_95 : Go d 135 95 L (st) h Q = Go d 135 96 L (.int (nI 1) :: st) h Q := go_ic rfl ci_i1
theorem s_135_96 : Go d 135 96 L (.int y :: .int x :: st) h Q = Go d 135 97 L (.int (x + y) :: st) h Q := go_op (E := (.iadd, 0, 0, 0)) rfl rfl
theorem s_135_97 : Go d 135 97 L (.int x :: .ref 53 :: st) (HP lx xs M) Q = Go d 135 100 L (st) (HP lx xs (up M 53 11 x)) Q := go_pf rfl rfl (by decide) (Nat.le_of_ble_eq_true rfl) rfl hf_53_11
theorem s_135_100 : Go d 135 100 [o0, o1, some (.int x), o3] (st) h Q = Go d 135 103 [o0, o1, some (.int (x + nI 1)), o3] (st) h Q := (ci_i1 ▸ go_lo (E := (.iinc 2 1, 0, 0, 0)) rfl rfl rfl : _ = Go d 135 103 [o0, o1, some (.int (x + nI 1)), o3] (st) h Q)
theorem s_135_103 : Go d 135 103 L (st) h Q = Go d 135 9 L (st) h Q := go_goto rfl
theorem s_135_106 : Go d 135 106 L (st) h Q = Go d 135 107 L (.int (nI 0) :: st) h Q := go_ic rfl ci_i0
theorem s_135_107_0 : Go d 135 107 L [.int (nI 0)] h Q = Q (some (.int (nI 0))) h := go_rz rfl rfl (by decide)
theorem s_135_107_1 : Go d 135 107 L [.int (nI 1)] h Q = Q (some (.int (nI 1))) h := go_rz rfl rfl (by decide)
theorem s_136_0 : Go d 136 0 [some (.ref r), o1, o2] (st) h Q = Go d 136 1 [some (.ref r), o1, o2] (.ref r :: st) h Q := go_lo (E := (.aload_n 0, 0, 0, 0)) rfl rfl rfl
theorem s_136_1  : Go (d + 1) 136 1 L [.ref 53] (HP lx xs M) Q = Go d 135 0 [some (.ref 53), none, none, none] [] (HP lx xs M) (fun v h2 => Go (d + 1) 136 4 L (ap v []) h2 Q) := go_cx (E := (.invokevirtual 165, 135, 0, 7)) (k' := 135) (as := [.ref 53]) rfl rfl rfl rfl rfl rfl rfl rfl
theorem s_136_4 : Go d 136 4 [o0, o1, o2] (.int x :: st) h Q = Go d 136 5 [o0, some (.int x), o2] (st) h Q := go_lo (E := (.istore_n 1, 0, 0, 0)) rfl rfl rfl
theorem s_136_5 : Go d 136 5 [o0, some (.int x), o2] (st) h Q = Go d 136 6 [o0, some (.int x), o2] (.int x :: st) h Q := go_lo (E := (.iload_n 1, 0, 0, 0)) rfl rfl rfl
theorem s_136_6 : Go d 136 6 L (.int x :: st) h Q = (if x = 0 then Go d 136 9 L st h Q else Go d 136 14 L st h Q) := go_ifne rfl
theorem s_136_9 : Go d 136 9 [some (.ref r), o1, o2] (st) h Q = Go d 136 10 [some (.ref r), o1, o2] (.ref r :: st) h Q := go_lo (E := (.aload_n 0, 0, 0, 0)) rfl rfl rfl
theorem s_136_10  : Go (d + 1) 136 10 L [.ref 53] (HP lx xs M) Q = Go d 130 0 [some (.ref 53)] [] (HP lx xs M) (fun v h2 => Go (d + 1) 136 13 L (ap v []) h2 Q) := go_cx (E := (.invokevirtual 144, 130, 0, 7)) (k' := 130) (as := [.ref 53]) rfl rfl rfl rfl rfl rfl rfl rfl
theorem s_136_13 : Go d 136 13 L (.int x :: st) h Q = Go d 136 14 L (st) h Q := go_op (E := (.pop, 0, 0, 0)) rfl rfl
theorem s_136_14 : Go d 136 14 [some (.ref r), o1, o2] (st) h Q = Go d 136 15 [some (.ref r), o1, o2] (.ref r :: st) h Q := go_lo (E := (.aload_n 0, 0, 0, 0)) rfl rfl rfl
theorem s_136_15 : Go d 136 15 L (st) h Q = Go d 136 16 L (.int (nI 0) :: st) h Q := go_ic rfl ci_i0
theorem s_136_16 : Go d 136 16 L (.int x :: .ref 53 :: st) (HP lx xs M) Q = Go d 136 19 L (st) (HP lx xs (up M 53 10 x)) Q := go_pf rfl rfl (by decide) (Nat.le_of_ble_eq_true rfl) rfl hf_53_10
theorem s_136_19 : Go d 136 19 [o0, some (.int x), o2] (st) h Q = Go d 136 20 [o0, some (.int x), o2] (.int x :: st) h Q := go_lo (E := (.iload_n 1, 0, 0, 0)) rfl rfl rfl
theorem s_136_20 : Go d 136 20 L (.int x :: st) h Q = (if x = 0 then Go d 136 23 L st h Q else Go d 136 31 L st h Q) := go_ifne rfl
theorem s_136_23 : Go d 136 23 L (st) h Q = Go d 136 25 L (.int (-20) :: st) h Q := go_bi rfl ci_bm20
theorem s_136_25 : Go d 136 25 [some (.ref r), o1, o2] (st) h Q = Go d 136 26 [some (.ref r), o1, o2] (.ref r :: st) h Q := go_lo (E := (.aload_n 0, 0, 0, 0)) rfl rfl rfl
theorem s_136_26 : Go d 136 26 L (.ref 53 :: st) (HP lx xs M) Q = Go d 136 29 L (.int (M 53 11) :: st) (HP lx xs M) Q := go_gf rfl rfl (by decide) rfl
theorem s_136_29 : Go d 136 29 L (.int y :: .int x :: st) h Q = Go d 136 30 L (.int (x - y) :: st) h Q := go_op (E := (.isub, 0, 0, 0)) rfl rfl
theorem s_136_30 : Go d 136 30 L [.int x] h Q = Q (some (.int x)) h := go_ri rfl rfl
theorem s_136_31 : Go d 136 31 [some (.ref r), o1, o2] (st) h Q = Go d 136 32 [some (.ref r), o1, o2] (.ref r :: st) h Q := go_lo (E := (.aload_n 0, 0, 0, 0)) rfl rfl rfl
theorem s_136_32 : Go d 136 32 [some (.ref r), o1, o2] (st) h Q = Go d 136 33 [some (.ref r), o1, o2] (.ref r :: st) h Q := go_lo (E := (.aload_n 0, 0, 0, 0)) rfl rfl rfl
theorem s_136_33 : Go d 136 33 L (.ref 53 :: st) (HP lx xs M) Q = Go d 136 36 L (.int (M 53 12) :: st) (HP lx xs M) Q := go_gf rfl rfl (by decide) rfl
theorem s_136_36 : Go d 136 36 L (.int x :: .ref 53 :: st) (HP lx xs M) Q = Go d 136 39 L (st) (HP lx xs (up M 53 6 x)) Q := go_pf rfl rfl (by decide) (Nat.le_of_ble_eq_true rfl) rfl hf_53_6
theorem s_136_39 : Go d 136 39 L (st) h Q = Go d 136 40 L (.int (nI 0) :: st) h Q := go_ic rfl ci_i0
theorem s_136_40 : Go d 136 40 [o0, o1, o2] (.int x :: st) h Q = Go d 136 41 [o0, o1, some (.int x)] (st) h Q := go_lo (E := (.istore_n 2, 0, 0, 0)) rfl rfl rfl
theorem s_136_41 : Go d 136 41 [o0, o1, some (.int x)] (st) h Q = Go d 136 42 [o0, o1, some (.int x)] (.int x :: st) h Q := go_lo (E := (.iload_n 2, 0, 0, 0)) rfl rfl rfl
theorem s_136_42 : Go d 136 42 L (st) h Q = Go d 136 43 L (.int (nI 4) :: st) h Q := go_ic rfl ci_i4
theorem s_136_43 : Go d 136 43 [some (.ref r), o1, o2] (st) h Q = Go d 136 44 [some (.ref r), o1, o2] (.ref r :: st) h Q := go_lo (E := (.aload_n 0, 0, 0, 0)) rfl rfl rfl
theorem s_136_44 : Go d 136 44 L (.ref 53 :: st) (HP lx xs M) Q = Go d 136 47 L (.int (M 53 12) :: st) (HP lx xs M) Q := go_gf rfl rfl (by decide) rfl
theorem s_136_47 : Go d 136 47 L (.int y :: .int x :: st) h Q = Go d 136 48 L (.int (x * y) :: st) h Q := go_op (E := (.imul, 0, 0, 0)) rfl rfl
theorem s_136_48 : Go d 136 48 L (.int y :: .int x :: st) h Q = (if x < y then Go d 136 51 L st h Q else Go d 136 69 L st h Q) := go_icge rfl
theorem s_136_51 : Go d 136 51 [some (.ref r), o1, o2] (st) h Q = Go d 136 52 [some (.ref r), o1, o2] (.ref r :: st) h Q := go_lo (E := (.aload_n 0, 0, 0, 0)) rfl rfl rfl
theorem s_136_52 : Go d 136 52 L (.ref 53 :: st) (HP lx xs M) Q = Go d 136 55 L (.ref 58 :: st) (HP lx xs M) Q := go_gf rfl rfl (by decide) rfl
theorem s_136_55 : Go d 136 55 [o0, o1, some (.int x)] (st) h Q = Go d 136 56 [o0, o1, some (.int x)] (.int x :: st) h Q := go_lo (E := (.iload_n 2, 0, 0, 0)) rfl rfl rfl
theorem s_136_56 : Go d 136 56 [some (.ref r), o1, o2] (st) h Q = Go d 136 57 [some (.ref r), o1, o2] (.ref r :: st) h Q := go_lo (E := (.aload_n 0, 0, 0, 0)) rfl rfl rfl
theorem s_136_57 : Go d 136 57 L (.ref 53 :: st) (HP lx xs M) Q = Go d 136 60 L (.ref 60 :: st) (HP lx xs M) Q := go_gf rfl rfl (by decide) rfl
theorem s_136_60 : Go d 136 60 [o0, o1, some (.int x)] (st) h Q = Go d 136 61 [o0, o1, some (.int x)] (.int x :: st) h Q := go_lo (E := (.iload_n 2, 0, 0, 0)) rfl rfl rfl
theorem s_136_61 : Go d 136 61 L (.int x :: .ref 60 :: st) (HP lx xs M) Q = (ex_in x 96 = true ∧ Go d 136 62 L (.int (M 60 x.toNatClampNeg) :: st) (HP lx xs M) Q) := go_al rfl rfl
theorem s_136_62 : Go d 136 62 L (.int y :: .int x :: .ref 58 :: st) (HP lx xs M) Q = (ex_in x 96 = true ∧ Go d 136 63 L (st) (HP lx xs (up M 58 x.toNatClampNeg y)) Q) := go_as rfl rfl (by decide) hs_58
theorem s_136_63 : Go d 136 63 [o0, o1, some (.int x)] (st) h Q = Go d 136 66 [o0, o1, some (.int (x + nI 1))] (st) h Q := (ci_i1 ▸ go_lo (E := (.iinc 2 1, 0, 0, 0)) rfl rfl rfl : _ = Go d 136 66 [o0, o1, some (.int (x + nI 1))] (st) h Q)
theorem s_136_66 : Go d 136 66 L (st) h Q = Go d 136 41 L (st) h Q := go_goto rfl
theorem s_136_69 : Go d 136 69 [some (.ref r), o1, o2] (st) h Q = Go d 136 70 [some (.ref r), o1, o2] (.ref r :: st) h Q := go_lo (E := (.aload_n 0, 0, 0, 0)) rfl rfl rfl
theorem s_136_70 : Go d 136 70 L (.ref 53 :: st) (HP lx xs M) Q = Go d 136 73 L (.int (M 53 6) :: st) (HP lx xs M) Q := go_gf rfl rfl (by decide) rfl
theorem s_136_73 : Go d 136 73 L [.int x] h Q = Q (some (.int x)) h := go_ri rfl rfl
theorem s_137_0 : Go d 137 0 [some (.ref r), o1, o2, o3] (st) h Q = Go d 137 1 [some (.ref r), o1, o2, o3] (.ref r :: st) h Q := go_lo (E := (.aload_n 0, 0, 0, 0)) rfl rfl rfl
theorem s_137_1 : Go d 137 1 L (.ref 53 :: st) (HP lx xs M) Q = Go d 137 4 L (.ref 56 :: st) (HP lx xs M) Q := go_gf rfl rfl (by decide) rfl
theorem s_137_4 : Go d 137 4 L (st) h Q = Go d 137 5 L (.int (nI 4) :: st) h Q := go_ic rfl ci_i4
theorem s_137_5 : Go d 137 5 [o0, some (.int x), o2, o3] (st) h Q = Go d 137 6 [o0, some (.int x), o2, o3] (.int x :: st) h Q := go_lo (E := (.iload_n 1, 0, 0, 0)) rfl rfl rfl
theorem s_137_6 : Go d 137 6 L (.int y :: .int x :: st) h Q = Go d 137 7 L (.int (x * y) :: st) h Q := go_op (E := (.imul, 0, 0, 0)) rfl rfl
theorem s_137_7 : Go d 137 7 [o0, o1, o2, some (.int x)] (st) h Q = Go d 137 8 [o0, o1, o2, some (.int x)] (.int x :: st) h Q := go_lo (E := (.iload_n 3, 0, 0, 0)) rfl rfl rfl
theorem s_137_8 : Go d 137 8 L (.int y :: .int x :: st) h Q = Go d 137 9 L (.int (x + y) :: st) h Q := go_op (E := (.iadd, 0, 0, 0)) rfl rfl
theorem s_137_9 : Go d 137 9 L (.int x :: .ref 56 :: st) (HP lx xs M) Q = (ex_in x 24 = true ∧ Go d 137 10 L (.int (M 56 x.toNatClampNeg) :: st) (HP lx xs M) Q) := go_al rfl rfl
theorem s_137_10 : Go d 137 10 L (st) h Q = Go d 137 12 L (.int (nI 97) :: st) h Q := go_bi rfl ci_b97
theorem s_137_12 : Go d 137 12 L (.int y :: .int x :: st) h Q = (if x < y then Go d 137 15 L st h Q else Go d 137 64 L st h Q) := go_icge rfl
theorem s_137_15 : Go d 137 15 [some (.ref r), o1, o2, o3] (st) h Q = Go d 137 16 [some (.ref r), o1, o2, o3] (.ref r :: st) h Q := go_lo (E := (.aload_n 0, 0, 0, 0)) rfl rfl rfl
theorem s_137_16 : Go d 137 16 L (.ref 53 :: st) (HP lx xs M) Q = Go d 137 19 L (.ref 56 :: st) (HP lx xs M) Q := go_gf rfl rfl (by decide) rfl
theorem s_137_19 : Go d 137 19 L (st) h Q = Go d 137 20 L (.int (nI 4) :: st) h Q := go_ic rfl ci_i4
theorem s_137_20 : Go d 137 20 [o0, o1, some (.int x), o3] (st) h Q = Go d 137 21 [o0, o1, some (.int x), o3] (.int x :: st) h Q := go_lo (E := (.iload_n 2, 0, 0, 0)) rfl rfl rfl
theorem s_137_21 : Go d 137 21 L (.int y :: .int x :: st) h Q = Go d 137 22 L (.int (x * y) :: st) h Q := go_op (E := (.imul, 0, 0, 0)) rfl rfl
theorem s_137_22 : Go d 137 22 [o0, o1, o2, some (.int x)] (st) h Q = Go d 137 23 [o0, o1, o2, some (.int x)] (.int x :: st) h Q := go_lo (E := (.iload_n 3, 0, 0, 0)) rfl rfl rfl
theorem s_137_23 : Go d 137 23 L (.int y :: .int x :: st) h Q = Go d 137 24 L (.int (x + y) :: st) h Q := go_op (E := (.iadd, 0, 0, 0)) rfl rfl
theorem s_137_24 : Go d 137 24 L (.int x :: .ref 56 :: st) (HP lx xs M) Q = (ex_in x 24 = true ∧ Go d 137 25 L (.int (M 56 x.toNatClampNeg) :: st) (HP lx xs M) Q) := go_al rfl rfl
theorem s_137_25 : Go d 137 25 L (st) h Q = Go d 137 27 L (.int (nI 97) :: st) h Q := go_bi rfl ci_b97
theorem s_137_27 : Go d 137 27 L (.int y :: .int x :: st) h Q = (if x = y then Go d 137 30 L st h Q else Go d 137 64 L st h Q) := go_icne rfl
theorem s_137_30 : Go d 137 30 [some (.ref r), o1, o2, o3] (st) h Q = Go d 137 31 [some (.ref r), o1, o2, o3] (.ref r :: st) h Q := go_lo (E := (.aload_n 0, 0, 0, 0)) rfl rfl rfl
theorem s_137_31 : Go d 137 31 L (.ref 53 :: st) (HP lx xs M) Q = Go d 137 34 L (.ref 55 :: st) (HP lx xs M) Q := go_gf rfl rfl (by decide) rfl
theorem s_137_34 : Go d 137 34 [o0, o1, some (.int x), o3] (st) h Q = Go d 137 35 [o0, o1, some (.int x), o3] (.int x :: st) h Q := go_lo (E := (.iload_n 2, 0, 0, 0)) rfl rfl rfl
theorem s_137_35 : Go d 137 35 L (.int x :: .ref 55 :: st) (HP lx xs M) Q = (ex_in x 6 = true ∧ Go d 137 36 L (.int (M 55 x.toNatClampNeg) :: st) (HP lx xs M) Q) := go_al rfl rfl
theorem s_137_36 : Go d 137 36 [o0, some (.int x), o2, o3] (st) h Q = Go d 137 37 [o0, some (.int x), o2, o3] (.int x :: st) h Q := go_lo (E := (.iload_n 1, 0, 0, 0)) rfl rfl rfl
theorem s_137_37 {a0 : Int32} {a1 : Int32} : Go (d + 1) 137 37 L [.int a1, .int a0] h Q = Go d 115 0 [some (.int a0), some (.int a1)] [] h (fun v h2 => Go (d + 1) 137 40 L (ap v []) h2 Q) := go_cx (E := (.invokestatic 107, 115, 0, 0)) (k' := 115) (as := [.int a0, .int a1]) rfl rfl rfl rfl rfl rfl rfl rfl
theorem s_137_40 : Go d 137 40 L (.int x :: st) h Q = (if x = 0 then Go d 137 64 L st h Q else Go d 137 43 L st h Q) := go_ifeq rfl
theorem s_137_43 : Go d 137 43 [some (.ref r), o1, o2, o3] (st) h Q = Go d 137 44 [some (.ref r), o1, o2, o3] (.ref r :: st) h Q := go_lo (E := (.aload_n 0, 0, 0, 0)) rfl rfl rfl
theorem s_137_44 : Go d 137 44 L (.ref 53 :: st) (HP lx xs M) Q = Go d 137 47 L (.ref 57 :: st) (HP lx xs M) Q := go_gf rfl rfl (by decide) rfl
theorem s_137_47 : Go d 137 47 [o0, o1, o2, some (.int x)] (st) h Q = Go d 137 48 [o0, o1, o2, some (.int x)] (.int x :: st) h Q := go_lo (E := (.iload_n 3, 0, 0, 0)) rfl rfl rfl
theorem s_137_48 : Go d 137 48 L (.int x :: .ref 57 :: st) (HP lx xs M) Q = (ex_in x 4 = true ∧ Go d 137 49 L (.int (M 57 x.toNatClampNeg) :: st) (HP lx xs M) Q) := go_al rfl rfl
theorem s_137_49 : Go d 137 49 [some (.ref r), o1, o2, o3] (st) h Q = Go d 137 50 [some (.ref r), o1, o2, o3] (.ref r :: st) h Q := go_lo (E := (.aload_n 0, 0, 0, 0)) rfl rfl rfl
theorem s_137_50 : Go d 137 50 [o0, o1, some (.int x), o3] (st) h Q = Go d 137 51 [o0, o1, some (.int x), o3] (.int x :: st) h Q := go_lo (E := (.iload_n 2, 0, 0, 0)) rfl rfl rfl
theorem s_137_51 {a1 : Int32} {z0 : Int32} : Go (d + 1) 137 51 L [.int a1, .ref 53, .int z0] (HP lx xs M) Q = Go d 124 0 [some (.ref 53), some (.int a1), none, none] [] (HP lx xs M) (fun v h2 => Go (d + 1) 137 54 L (ap v [.int z0]) h2 Q) := go_cx (E := (.invokevirtual 116, 124, 0, 7)) (k' := 124) (as := [.ref 53, .int a1]) rfl rfl rfl rfl rfl rfl rfl rfl
theorem s_137_54 : Go d 137 54 L (st) h Q = Go d 137 55 L (.int (-1) :: st) h Q := go_ic rfl ci_im1
theorem s_137_55 : Go d 137 55 L (.int y :: .int x :: st) h Q = Go d 137 56 L (.int (x ^^^ y) :: st) h Q := go_op (E := (.ixor, 0, 0, 0)) rfl rfl
theorem s_137_56 : Go d 137 56 L (.int y :: .int x :: st) h Q = Go d 137 57 L (.int (x &&& y) :: st) h Q := go_op (E := (.iand, 0, 0, 0)) rfl rfl
theorem s_137_57 : Go d 137 57 L (.int x :: st) h Q = (if x = 0 then Go d 137 60 L st h Q else Go d 137 64 L st h Q) := go_ifne rfl
theorem s_137_60 : Go d 137 60 L (st) h Q = Go d 137 61 L (.int (nI 1) :: st) h Q := go_ic rfl ci_i1
theorem s_137_61 : Go d 137 61 L (st) h Q = Go d 137 65 L (st) h Q := go_goto rfl
theorem s_137_64 : Go d 137 64 L (st) h Q = Go d 137 65 L (.int (nI 0) :: st) h Q := go_ic rfl ci_i0
theorem s_137_65_0 : Go d 137 65 L [.int (nI 0)] h Q = Q (some (.int (nI 0))) h := go_rz rfl rfl (by decide)
theorem s_137_65_1 : Go d 137 65 L [.int (nI 1)] h Q = Q (some (.int (nI 1))) h := go_rz rfl rfl (by decide)
theorem s_138_0 : Go d 138 0 [some (.ref r), o1, o2, o3] (st) h Q = Go d 138 1 [some (.ref r), o1, o2, o3] (.ref r :: st) h Q := go_lo (E := (.aload_n 0, 0, 0, 0)) rfl rfl rfl
theorem s_138_1 : Go d 138 1 L (.ref 53 :: st) (HP lx xs M) Q = Go d 138 4 L (.ref 56 :: st) (HP lx xs M) Q := go_gf rfl rfl (by decide) rfl
theorem s_138_4 : Go d 138 4 L (st) h Q = Go d 138 5 L (.int (nI 4) :: st) h Q := go_ic rfl ci_i4
theorem s_138_5 : Go d 138 5 [o0, o1, some (.int x), o3] (st) h Q = Go d 138 6 [o0, o1, some (.int x), o3] (.int x :: st) h Q := go_lo (E := (.iload_n 2, 0, 0, 0)) rfl rfl rfl
theorem s_138_6 : Go d 138 6 L (.int y :: .int x :: st) h Q = Go d 138 7 L (.int (x * y) :: st) h Q := go_op (E := (.imul, 0, 0, 0)) rfl rfl
theorem s_138_7 : Go d 138 7 [o0, o1, o2, some (.int x)] (st) h Q = Go d 138 8 [o0, o1, o2, some (.int x)] (.int x :: st) h Q := go_lo (E := (.iload_n 3, 0, 0, 0)) rfl rfl rfl
theorem s_138_8 : Go d 138 8 L (.int y :: .int x :: st) h Q = Go d 138 9 L (.int (x + y) :: st) h Q := go_op (E := (.iadd, 0, 0, 0)) rfl rfl
theorem s_138_9 : Go d 138 9 [some (.ref r), o1, o2, o3] (st) h Q = Go d 138 10 [some (.ref r), o1, o2, o3] (.ref r :: st) h Q := go_lo (E := (.aload_n 0, 0, 0, 0)) rfl rfl rfl
theorem s_138_10 : Go d 138 10 L (.ref 53 :: st) (HP lx xs M) Q = Go d 138 13 L (.ref 54 :: st) (HP lx xs M) Q := go_gf rfl rfl (by decide) rfl
theorem s_138_13 : Go d 138 13 [o0, some (.int x), o2, o3] (st) h Q = Go d 138 14 [o0, some (.int x), o2, o3] (.int x :: st) h Q := go_lo (E := (.iload_n 1, 0, 0, 0)) rfl rfl rfl
theorem s_138_14 : Go d 138 14 L (.int x :: .ref 54 :: st) (HP lx xs M) Q = (ex_in x 6 = true ∧ Go d 138 15 L (.int (M 54 x.toNatClampNeg) :: st) (HP lx xs M) Q) := go_al rfl rfl
theorem s_138_15 : Go d 138 15 [some (.ref r), o1, o2, o3] (st) h Q = Go d 138 16 [some (.ref r), o1, o2, o3] (.ref r :: st) h Q := go_lo (E := (.aload_n 0, 0, 0, 0)) rfl rfl rfl
theorem s_138_16 : Go d 138 16 L (.ref 53 :: st) (HP lx xs M) Q = Go d 138 19 L (.ref 56 :: st) (HP lx xs M) Q := go_gf rfl rfl (by decide) rfl
theorem s_138_19 : Go d 138 19 L (st) h Q = Go d 138 20 L (.int (nI 4) :: st) h Q := go_ic rfl ci_i4
theorem s_138_20 : Go d 138 20 [o0, some (.int x), o2, o3] (st) h Q = Go d 138 21 [o0, some (.int x), o2, o3] (.int x :: st) h Q := go_lo (E := (.iload_n 1, 0, 0, 0)) rfl rfl rfl
theorem s_138_21 : Go d 138 21 L (.int y :: .int x :: st) h Q = Go d 138 22 L (.int (x * y) :: st) h Q := go_op (E := (.imul, 0, 0, 0)) rfl rfl
theorem s_138_22 : Go d 138 22 [o0, o1, o2, some (.int x)] (st) h Q = Go d 138 23 [o0, o1, o2, some (.int x)] (.int x :: st) h Q := go_lo (E := (.iload_n 3, 0, 0, 0)) rfl rfl rfl
theorem s_138_23 : Go d 138 23 L (.int y :: .int x :: st) h Q = Go d 138 24 L (.int (x + y) :: st) h Q := go_op (E := (.iadd, 0, 0, 0)) rfl rfl
theorem s_138_24 : Go d 138 24 L (.int x :: .ref 56 :: st) (HP lx xs M) Q = (ex_in x 24 = true ∧ Go d 138 25 L (.int (M 56 x.toNatClampNeg) :: st) (HP lx xs M) Q) := go_al rfl rfl
theorem s_138_25 {a0 : Int32} {a1 : Int32} {z1 : Int32} {zr0 : Nat} : Go (d + 1) 138 25 L [.int a1, .int a0, .int z1, .ref zr0] h Q = Go d 126 0 [some (.int a0), some (.int a1), none] [] h (fun v h2 => Go (d + 1) 138 28 L (ap v [.int z1, .ref zr0]) h2 Q) := go_cx (E := (.invokestatic 120, 126, 0, 0)) (k' := 126) (as := [.int a0, .int a1]) rfl rfl rfl rfl rfl rfl rfl rfl
theorem s_138_28 : Go d 138 28 L (.int y :: .int x :: .ref 56 :: st) (HP lx xs M) Q = (ex_in x 24 = true ∧ Go d 138 29 L (st) (HP lx xs (up M 56 x.toNatClampNeg y)) Q) := go_as rfl rfl (by decide) hs_56
theorem s_138_29 : Go d 138 29 [some (.ref r), o1, o2, o3] (st) h Q = Go d 138 30 [some (.ref r), o1, o2, o3] (.ref r :: st) h Q := go_lo (E := (.aload_n 0, 0, 0, 0)) rfl rfl rfl
theorem s_138_30 : Go d 138 30 [some (.ref r), o1, o2, o3] (st) h Q = Go d 138 31 [some (.ref r), o1, o2, o3] (.ref r :: st) h Q := go_lo (E := (.aload_n 0, 0, 0, 0)) rfl rfl rfl
theorem s_138_31 : Go d 138 31 L (.ref 53 :: st) (HP lx xs M) Q = Go d 138 34 L (.int (M 53 7) :: st) (HP lx xs M) Q := go_gf rfl rfl (by decide) rfl
theorem s_138_34 : Go d 138 34 L (st) h Q = Go d 138 36 L (.int (nI 1000000) :: st) h Q := go_ld rfl ci_i1000000
theorem s_138_36 : Go d 138 36 L (.int y :: .int x :: st) h Q = (if x = y then Go d 138 39 L st h Q else Go d 138 44 L st h Q) := go_icne rfl
theorem s_138_39 : Go d 138 39 L (st) h Q = Go d 138 41 L (.int (nI 1000000) :: st) h Q := go_ld rfl ci_i1000000
theorem s_138_41 : Go d 138 41 L (st) h Q = Go d 138 50 L (st) h Q := go_goto rfl
theorem s_138_44 : Go d 138 44 [some (.ref r), o1, o2, o3] (st) h Q = Go d 138 45 [some (.ref r), o1, o2, o3] (.ref r :: st) h Q := go_lo (E := (.aload_n 0, 0, 0, 0)) rfl rfl rfl
theorem s_138_45 : Go d 138 45 L (.ref 53 :: st) (HP lx xs M) Q = Go d 138 48 L (.int (M 53 7) :: st) (HP lx xs M) Q := go_gf rfl rfl (by decide) rfl
theorem s_138_48 : Go d 138 48 L (st) h Q = Go d 138 49 L (.int (nI 1) :: st) h Q := go_ic rfl ci_i1
theorem s_138_49 : Go d 138 49 L (.int y :: .int x :: st) h Q = Go d 138 50 L (.int (x + y) :: st) h Q := go_op (E := (.iadd, 0, 0, 0)) rfl rfl
theorem s_138_50 : Go d 138 50 L (.int x :: .ref 53 :: st) (HP lx xs M) Q = Go d 138 53 L (st) (HP lx xs (up M 53 7 x)) Q := go_pf rfl rfl (by decide) (Nat.le_of_ble_eq_true rfl) rfl hf_53_7
theorem s_138_53 : Go d 138 53 L [] h Q = Q none h := go_rv rfl rfl
theorem s_139_0 : Go d 139 0 [some (.ref r), o1, o2, o3] (st) h Q = Go d 139 1 [some (.ref r), o1, o2, o3] (.ref r :: st) h Q := go_lo (E := (.aload_n 0, 0, 0, 0)) rfl rfl rfl
theorem s_139_1 : Go d 139 1 [o0, some (.int x), o2, o3] (st) h Q = Go d 139 2 [o0, some (.int x), o2, o3] (.int x :: st) h Q := go_lo (E := (.iload_n 1, 0, 0, 0)) rfl rfl rfl
theorem s_139_2 : Go d 139 2 [o0, o1, some (.int x), o3] (st) h Q = Go d 139 3 [o0, o1, some (.int x), o3] (.int x :: st) h Q := go_lo (E := (.iload_n 2, 0, 0, 0)) rfl rfl rfl
theorem s_139_3 {a1 : Int32} {a2 : Int32} : Go (d + 1) 139 3 L [.int a2, .int a1, .ref 53] (HP lx xs M) Q = Go d 118 0 [some (.ref 53), some (.int a1), some (.int a2)] [] (HP lx xs M) (fun v h2 => Go (d + 1) 139 6 L (ap v []) h2 Q) := go_cx (E := (.invokevirtual 111, 118, 0, 7)) (k' := 118) (as := [.ref 53, .int a1, .int a2]) rfl rfl rfl rfl rfl rfl rfl rfl
theorem s_139_6 : Go d 139 6 L (.int x :: st) h Q = (if x = 0 then Go d 139 16 L st h Q else Go d 139 9 L st h Q) := go_ifeq rfl
theorem s_139_9 : Go d 139 9 [o0, o1, o2, some (.int x)] (st) h Q = Go d 139 10 [o0, o1, o2, some (.int x)] (.int x :: st) h Q := go_lo (E := (.iload_n 3, 0, 0, 0)) rfl rfl rfl
theorem s_139_10 {a0 : Int32} : Go (d + 1) 139 10 L [.int a0] h Q = Go d 117 0 [some (.int a0)] [] h (fun v h2 => Go (d + 1) 139 13 L (ap v []) h2 Q) := go_cx (E := (.invokestatic 98, 117, 0, 0)) (k' := 117) (as := [.int a0]) rfl rfl rfl rfl rfl rfl rfl rfl
theorem s_139_13 : Go d 139 13 L (.int x :: st) h Q = (if x = 0 then Go d 139 16 L st h Q else Go d 139 20 L st h Q) := go_ifne rfl
theorem s_139_16 : Go d 139 16 L (st) h Q = Go d 139 17 L (.int (-1) :: st) h Q := go_ic rfl ci_im1
theorem s_139_17 : Go d 139 17 L (st) h Q = Go d 139 35 L (st) h Q := go_goto rfl
theorem s_139_20 : Go d 139 20 [some (.ref r), o1, o2, o3] (st) h Q = Go d 139 21 [some (.ref r), o1, o2, o3] (.ref r :: st) h Q := go_lo (E := (.aload_n 0, 0, 0, 0)) rfl rfl rfl
theorem s_139_21 : Go d 139 21 [o0, some (.int x), o2, o3] (st) h Q = Go d 139 22 [o0, some (.int x), o2, o3] (.int x :: st) h Q := go_lo (E := (.iload_n 1, 0, 0, 0)) rfl rfl rfl
theorem s_139_22 : Go d 139 22 [o0, o1, some (.int x), o3] (st) h Q = Go d 139 23 [o0, o1, some (.int x), o3] (.int x :: st) h Q := go_lo (E := (.iload_n 2, 0, 0, 0)) rfl rfl rfl
theorem s_139_23 : Go d 139 23 [o0, o1, o2, some (.int x)] (st) h Q = Go d 139 24 [o0, o1, o2, some (.int x)] (.int x :: st) h Q := go_lo (E := (.iload_n 3, 0, 0, 0)) rfl rfl rfl
theorem s_139_24 {a1 : Int32} {a2 : Int32} {a3 : Int32} : Go (d + 1) 139 24 L [.int a3, .int a2, .int a1, .ref 53] (HP lx xs M) Q = Go d 137 0 [some (.ref 53), some (.int a1), some (.int a2), some (.int a3)] [] (HP lx xs M) (fun v h2 => Go (d + 1) 139 27 L (ap v []) h2 Q) := go_cx (E := (.invokevirtual 169, 137, 0, 7)) (k' := 137) (as := [.ref 53, .int a1, .int a2, .int a3]) rfl rfl rfl rfl rfl rfl rfl rfl
theorem s_139_27 : Go d 139 27 L (.int x :: st) h Q = (if x = 0 then Go d 139 34 L st h Q else Go d 139 30 L st h Q) := go_ifeq rfl
theorem s_139_30 : Go d 139 30 L (st) h Q = Go d 139 31 L (.int (nI 1) :: st) h Q := go_ic rfl ci_i1
theorem s_139_31 : Go d 139 31 L (st) h Q = Go d 139 35 L (st) h Q := go_goto rfl
theorem s_139_34 : Go d 139 34 L (st) h Q = Go d 139 35 L (.int (nI 0) :: st) h Q := go_ic rfl ci_i0
theorem s_139_35 : Go d 139 35 L [.int x] h Q = Q (some (.int x)) h := go_ri rfl rfl
theorem s_140_0 : Go d 140 0 [some (.ref r), o1, o2, o3] (st) h Q = Go d 140 1 [some (.ref r), o1, o2, o3] (.ref r :: st) h Q := go_lo (E := (.aload_n 0, 0, 0, 0)) rfl rfl rfl
theorem s_140_1 : Go d 140 1 [o0, some (.int x), o2, o3] (st) h Q = Go d 140 2 [o0, some (.int x), o2, o3] (.int x :: st) h Q := go_lo (E := (.iload_n 1, 0, 0, 0)) rfl rfl rfl
theorem s_140_2 : Go d 140 2 [o0, o1, some (.int x), o3] (st) h Q = Go d 140 3 [o0, o1, some (.int x), o3] (.int x :: st) h Q := go_lo (E := (.iload_n 2, 0, 0, 0)) rfl rfl rfl
theorem s_140_3 {a1 : Int32} {a2 : Int32} : Go (d + 1) 140 3 L [.int a2, .int a1, .ref 53] (HP lx xs M) Q = Go d 118 0 [some (.ref 53), some (.int a1), some (.int a2)] [] (HP lx xs M) (fun v h2 => Go (d + 1) 140 6 L (ap v []) h2 Q) := go_cx (E := (.invokevirtual 111, 118, 0, 7)) (k' := 118) (as := [.ref 53, .int a1, .int a2]) rfl rfl rfl rfl rfl rfl rfl rfl
theorem s_140_6 : Go d 140 6 L (.int x :: st) h Q = (if x = 0 then Go d 140 16 L st h Q else Go d 140 9 L st h Q) := go_ifeq rfl
theorem s_140_9 : Go d 140 9 [o0, o1, o2, some (.int x)] (st) h Q = Go d 140 10 [o0, o1, o2, some (.int x)] (.int x :: st) h Q := go_lo (E := (.iload_n 3, 0, 0, 0)) rfl rfl rfl
theorem s_140_10 {a0 : Int32} : Go (d + 1) 140 10 L [.int a0] h Q = Go d 117 0 [some (.int a0)] [] h (fun v h2 => Go (d + 1) 140 13 L (ap v []) h2 Q) := go_cx (E := (.invokestatic 98, 117, 0, 0)) (k' := 117) (as := [.int a0]) rfl rfl rfl rfl rfl rfl rfl rfl
theorem s_140_13 : Go d 140 13 L (.int x :: st) h Q = (if x = 0 then Go d 140 16 L st h Q else Go d 140 18 L st h Q) := go_ifne rfl
theorem s_140_16 : Go d 140 16 L (st) h Q = Go d 140 17 L (.int (-1) :: st) h Q := go_ic rfl ci_im1
theorem s_140_17 : Go d 140 17 L [.int x] h Q = Q (some (.int x)) h := go_ri rfl rfl
theorem s_140_18 : Go d 140 18 [some (.ref r), o1, o2, o3] (st) h Q = Go d 140 19 [some (.ref r), o1, o2, o3] (.ref r :: st) h Q := go_lo (E := (.aload_n 0, 0, 0, 0)) rfl rfl rfl
theorem s_140_19 : Go d 140 19 [o0, some (.int x), o2, o3] (st) h Q = Go d 140 20 [o0, some (.int x), o2, o3] (.int x :: st) h Q := go_lo (E := (.iload_n 1, 0, 0, 0)) rfl rfl rfl
theorem s_140_20 : Go d 140 20 [o0, o1, some (.int x), o3] (st) h Q = Go d 140 21 [o0, o1, some (.int x), o3] (.int x :: st) h Q := go_lo (E := (.iload_n 2, 0, 0, 0)) rfl rfl rfl
theorem s_140_21 : Go d 140 21 [o0, o1, o2, some (.int x)] (st) h Q = Go d 140 22 [o0, o1, o2, some (.int x)] (.int x :: st) h Q := go_lo (E := (.iload_n 3, 0, 0, 0)) rfl rfl rfl
theorem s_140_22 {a1 : Int32} {a2 : Int32} {a3 : Int32} : Go (d + 1) 140 22 L [.int a3, .int a2, .int a1, .ref 53] (HP lx xs M) Q = Go d 137 0 [some (.ref 53), some (.int a1), some (.int a2), some (.int a3)] [] (HP lx xs M) (fun v h2 => Go (d + 1) 140 25 L (ap v []) h2 Q) := go_cx (E := (.invokevirtual 169, 137, 0, 7)) (k' := 137) (as := [.ref 53, .int a1, .int a2, .int a3]) rfl rfl rfl rfl rfl rfl rfl rfl
theorem s_140_25 : Go d 140 25 L (.int x :: st) h Q = (if x = 0 then Go d 140 28 L st h Q else Go d 140 31 L st h Q) := go_ifne rfl
theorem s_140_28 : Go d 140 28 L (st) h Q = Go d 140 30 L (.int (-2) :: st) h Q := go_bi rfl ci_bm2
theorem s_140_30 : Go d 140 30 L [.int x] h Q = Q (some (.int x)) h := go_ri rfl rfl
theorem s_140_31 : Go d 140 31 [some (.ref r), o1, o2, o3] (st) h Q = Go d 140 32 [some (.ref r), o1, o2, o3] (.ref r :: st) h Q := go_lo (E := (.aload_n 0, 0, 0, 0)) rfl rfl rfl
theorem s_140_32 : Go d 140 32 [o0, some (.int x), o2, o3] (st) h Q = Go d 140 33 [o0, some (.int x), o2, o3] (.int x :: st) h Q := go_lo (E := (.iload_n 1, 0, 0, 0)) rfl rfl rfl
theorem s_140_33 : Go d 140 33 [o0, o1, some (.int x), o3] (st) h Q = Go d 140 34 [o0, o1, some (.int x), o3] (.int x :: st) h Q := go_lo (E := (.iload_n 2, 0, 0, 0)) rfl rfl rfl
theorem s_140_34 : Go d 140 34 [o0, o1, o2, some (.int x)] (st) h Q = Go d 140 35 [o0, o1, o2, some (.int x)] (.int x :: st) h Q := go_lo (E := (.iload_n 3, 0, 0, 0)) rfl rfl rfl
theorem s_140_35 {a1 : Int32} {a2 : Int32} {a3 : Int32} : Go (d + 1) 140 35 L [.int a3, .int a2, .int a1, .ref 53] (HP lx xs M) Q = Go d 138 0 [some (.ref 53), some (.int a1), some (.int a2), some (.int a3)] [] (HP lx xs M) (fun v h2 => Go (d + 1) 140 38 L (ap v []) h2 Q) := go_cx (E := (.invokevirtual 173, 138, 0, 7)) (k' := 138) (as := [.ref 53, .int a1, .int a2, .int a3]) rfl rfl rfl rfl rfl rfl rfl rfl
theorem s_140_38 : Go d 140 38 [some (.ref r), o1, o2, o3] (st) h Q = Go d 140 39 [some (.ref r), o1, o2, o3] (.ref r :: st) h Q := go_lo (E := (.aload_n 0, 0, 0, 0)) rfl rfl rfl
theorem s_140_39 : Go d 140 39 L (.ref 53 :: st) (HP lx xs M) Q = Go d 140 42 L (.ref 56 :: st) (HP lx xs M) Q := go_gf rfl rfl (by decide) rfl
theorem s_140_42 : Go d 140 42 L (st) h Q = Go d 140 43 L (.int (nI 4) :: st) h Q := go_ic rfl ci_i4
theorem s_140_43 : Go d 140 43 [o0, o1, some (.int x), o3] (st) h Q = Go d 140 44 [o0, o1, some (.int x), o3] (.int x :: st) h Q := go_lo (E := (.iload_n 2, 0, 0, 0)) rfl rfl rfl
theorem s_140_44 : Go d 140 44 L (.int y :: .int x :: st) h Q = Go d 140 45 L (.int (x * y) :: st) h Q := go_op (E := (.imul, 0, 0, 0)) rfl rfl
theorem s_140_45 : Go d 140 45 [o0, o1, o2, some (.int x)] (st) h Q = Go d 140 46 [o0, o1, o2, some (.int x)] (.int x :: st) h Q := go_lo (E := (.iload_n 3, 0, 0, 0)) rfl rfl rfl
theorem s_140_46 : Go d 140 46 L (.int y :: .int x :: st) h Q = Go d 140 47 L (.int (x + y) :: st) h Q := go_op (E := (.iadd, 0, 0, 0)) rfl rfl
theorem s_140_47 : Go d 140 47 L (.int x :: .ref 56 :: st) (HP lx xs M) Q = (ex_in x 24 = true ∧ Go d 140 48 L (.int (M 56 x.toNatClampNeg) :: st) (HP lx xs M) Q) := go_al rfl rfl
theorem s_140_48 : Go d 140 48 L [.int x] h Q = Q (some (.int x)) h := go_ri rfl rfl
theorem s_141_0 : Go d 141 0 L (st) h Q = Go d 141 1 L (.int (nI 0) :: st) h Q := go_ic rfl ci_i0
theorem s_141_1 : Go d 141 1 [o0, o1, o2, o3] (.int x :: st) h Q = Go d 141 2 [o0, some (.int x), o2, o3] (st) h Q := go_lo (E := (.istore_n 1, 0, 0, 0)) rfl rfl rfl
theorem s_141_2 : Go d 141 2 L (st) h Q = Go d 141 3 L (.int (nI 0) :: st) h Q := go_ic rfl ci_i0
theorem s_141_3 : Go d 141 3 [o0, o1, o2, o3] (.int x :: st) h Q = Go d 141 4 [o0, o1, some (.int x), o3] (st) h Q := go_lo (E := (.istore_n 2, 0, 0, 0)) rfl rfl rfl
theorem s_141_4 : Go d 141 4 [o0, o1, some (.int x), o3] (st) h Q = Go d 141 5 [o0, o1, some (.int x), o3] (.int x :: st) h Q := go_lo (E := (.iload_n 2, 0, 0, 0)) rfl rfl rfl
theorem s_141_5 : Go d 141 5 [some (.ref r), o1, o2, o3] (st) h Q = Go d 141 6 [some (.ref r), o1, o2, o3] (.ref r :: st) h Q := go_lo (E := (.aload_n 0, 0, 0, 0)) rfl rfl rfl
theorem s_141_6 : Go d 141 6 L (.ref 53 :: st) (HP lx xs M) Q = Go d 141 9 L (.int (M 53 6) :: st) (HP lx xs M) Q := go_gf rfl rfl (by decide) rfl
theorem s_141_9 : Go d 141 9 L (.int y :: .int x :: st) h Q = (if x < y then Go d 141 12 L st h Q else Go d 141 154 L st h Q) := go_icge rfl
theorem s_141_12 : Go d 141 12 [o0, o1, some (.int x), o3] (st) h Q = Go d 141 13 [o0, o1, some (.int x), o3] (.int x :: st) h Q := go_lo (E := (.iload_n 2, 0, 0, 0)) rfl rfl rfl
theorem s_141_13 : Go d 141 13 L (.int x :: st) h Q = (if 0 < x then Go d 141 16 L st h Q else Go d 141 43 L st h Q) := go_ifle rfl
theorem s_141_16 : Go d 141 16 [some (.ref r), o1, o2, o3] (st) h Q = Go d 141 17 [some (.ref r), o1, o2, o3] (.ref r :: st) h Q := go_lo (E := (.aload_n 0, 0, 0, 0)) rfl rfl rfl
theorem s_141_17 : Go d 141 17 L (.ref 53 :: st) (HP lx xs M) Q = Go d 141 20 L (.ref 58 :: st) (HP lx xs M) Q := go_gf rfl rfl (by decide) rfl
theorem s_141_20 : Go d 141 20 L (st) h Q = Go d 141 21 L (.int (nI 4) :: st) h Q := go_ic rfl ci_i4
theorem s_141_21 : Go d 141 21 [o0, o1, some (.int x), o3] (st) h Q = Go d 141 22 [o0, o1, some (.int x), o3] (.int x :: st) h Q := go_lo (E := (.iload_n 2, 0, 0, 0)) rfl rfl rfl
theorem s_141_22 : Go d 141 22 L (.int y :: .int x :: st) h Q = Go d 141 23 L (.int (x * y) :: st) h Q := go_op (E := (.imul, 0, 0, 0)) rfl rfl
theorem s_141_23 : Go d 141 23 L (st) h Q = Go d 141 24 L (.int (nI 3) :: st) h Q := go_ic rfl ci_i3
theorem s_141_24 : Go d 141 24 L (.int y :: .int x :: st) h Q = Go d 141 25 L (.int (x + y) :: st) h Q := go_op (E := (.iadd, 0, 0, 0)) rfl rfl
theorem s_141_25 : Go d 141 25 L (.int x :: .ref 58 :: st) (HP lx xs M) Q = (ex_in x 96 = true ∧ Go d 141 26 L (.int (M 58 x.toNatClampNeg) :: st) (HP lx xs M) Q) := go_al rfl rfl
theorem s_141_26 : Go d 141 26 [some (.ref r), o1, o2, o3] (st) h Q = Go d 141 27 [some (.ref r), o1, o2, o3] (.ref r :: st) h Q := go_lo (E := (.aload_n 0, 0, 0, 0)) rfl rfl rfl
theorem s_141_27 : Go d 141 27 L (.ref 53 :: st) (HP lx xs M) Q = Go d 141 30 L (.ref 58 :: st) (HP lx xs M) Q := go_gf rfl rfl (by decide) rfl
theorem s_141_30 : Go d 141 30 L (st) h Q = Go d 141 31 L (.int (nI 4) :: st) h Q := go_ic rfl ci_i4
theorem s_141_31 : Go d 141 31 [o0, o1, some (.int x), o3] (st) h Q = Go d 141 32 [o0, o1, some (.int x), o3] (.int x :: st) h Q := go_lo (E := (.iload_n 2, 0, 0, 0)) rfl rfl rfl
theorem s_141_32 : Go d 141 32 L (.int y :: .int x :: st) h Q = Go d 141 33 L (.int (x * y) :: st) h Q := go_op (E := (.imul, 0, 0, 0)) rfl rfl
theorem s_141_33 : Go d 141 33 L (st) h Q = Go d 141 34 L (.int (nI 1) :: st) h Q := go_ic rfl ci_i1
theorem s_141_34 : Go d 141 34 L (.int y :: .int x :: st) h Q = Go d 141 35 L (.int (x - y) :: st) h Q := go_op (E := (.isub, 0, 0, 0)) rfl rfl
theorem s_141_35 : Go d 141 35 L (.int x :: .ref 58 :: st) (HP lx xs M) Q = (ex_in x 96 = true ∧ Go d 141 36 L (.int (M 58 x.toNatClampNeg) :: st) (HP lx xs M) Q) := go_al rfl rfl
theorem s_141_36 : Go d 141 36 L (.int y :: .int x :: st) h Q = (if x = y then Go d 141 39 L st h Q else Go d 141 43 L st h Q) := go_icne rfl
theorem s_141_39 : Go d 141 39 [o0, some (.int x), o2, o3] (st) h Q = Go d 141 40 [o0, some (.int x), o2, o3] (.int x :: st) h Q := go_lo (E := (.iload_n 1, 0, 0, 0)) rfl rfl rfl
theorem s_141_40 : Go d 141 40 L (st) h Q = Go d 141 44 L (st) h Q := go_goto rfl
theorem s_141_43 : Go d 141 43 L (st) h Q = Go d 141 44 L (.int (nI 0) :: st) h Q := go_ic rfl ci_i0
theorem s_141_44 : Go d 141 44 [o0, o1, o2, o3] (.int x :: st) h Q = Go d 141 45 [o0, some (.int x), o2, o3] (st) h Q := go_lo (E := (.istore_n 1, 0, 0, 0)) rfl rfl rfl
theorem s_141_45 : Go d 141 45 L (st) h Q = Go d 141 46 L (.int (nI 1) :: st) h Q := go_ic rfl ci_i1
theorem s_141_46 : Go d 141 46 [some (.ref r), o1, o2, o3] (st) h Q = Go d 141 47 [some (.ref r), o1, o2, o3] (.ref r :: st) h Q := go_lo (E := (.aload_n 0, 0, 0, 0)) rfl rfl rfl
theorem s_141_47 : Go d 141 47 L (.ref 53 :: st) (HP lx xs M) Q = Go d 141 50 L (.ref 58 :: st) (HP lx xs M) Q := go_gf rfl rfl (by decide) rfl
theorem s_141_50 : Go d 141 50 L (st) h Q = Go d 141 51 L (.int (nI 4) :: st) h Q := go_ic rfl ci_i4
theorem s_141_51 : Go d 141 51 [o0, o1, some (.int x), o3] (st) h Q = Go d 141 52 [o0, o1, some (.int x), o3] (.int x :: st) h Q := go_lo (E := (.iload_n 2, 0, 0, 0)) rfl rfl rfl
theorem s_141_52 : Go d 141 52 L (.int y :: .int x :: st) h Q = Go d 141 53 L (.int (x * y) :: st) h Q := go_op (E := (.imul, 0, 0, 0)) rfl rfl
theorem s_141_53 : Go d 141 53 L (.int x :: .ref 58 :: st) (HP lx xs M) Q = (ex_in x 96 = true ∧ Go d 141 54 L (.int (M 58 x.toNatClampNeg) :: st) (HP lx xs M) Q) := go_al rfl rfl
theorem s_141_54 : Go d 141 54 L (.int y :: .int x :: st) h Q = Go d 141 55 L (.int (x <<< (y &&& 31)) :: st) h Q := go_op (E := (.ishl, 0, 0, 0)) rfl rfl
theorem s_141_55 : Go d 141 55 L (st) h Q = Go d 141 56 L (.int (nI 1) :: st) h Q := go_ic rfl ci_i1
theorem s_141_56 : Go d 141 56 [some (.ref r), o1, o2, o3] (st) h Q = Go d 141 57 [some (.ref r), o1, o2, o3] (.ref r :: st) h Q := go_lo (E := (.aload_n 0, 0, 0, 0)) rfl rfl rfl
theorem s_141_57 : Go d 141 57 L (.ref 53 :: st) (HP lx xs M) Q = Go d 141 60 L (.ref 58 :: st) (HP lx xs M) Q := go_gf rfl rfl (by decide) rfl
theorem s_141_60 : Go d 141 60 L (st) h Q = Go d 141 61 L (.int (nI 4) :: st) h Q := go_ic rfl ci_i4
theorem s_141_61 : Go d 141 61 [o0, o1, some (.int x), o3] (st) h Q = Go d 141 62 [o0, o1, some (.int x), o3] (.int x :: st) h Q := go_lo (E := (.iload_n 2, 0, 0, 0)) rfl rfl rfl
theorem s_141_62 : Go d 141 62 L (.int y :: .int x :: st) h Q = Go d 141 63 L (.int (x * y) :: st) h Q := go_op (E := (.imul, 0, 0, 0)) rfl rfl
theorem s_141_63 : Go d 141 63 L (st) h Q = Go d 141 64 L (.int (nI 1) :: st) h Q := go_ic rfl ci_i1
theorem s_141_64 : Go d 141 64 L (.int y :: .int x :: st) h Q = Go d 141 65 L (.int (x + y) :: st) h Q := go_op (E := (.iadd, 0, 0, 0)) rfl rfl
theorem s_141_65 : Go d 141 65 L (.int x :: .ref 58 :: st) (HP lx xs M) Q = (ex_in x 96 = true ∧ Go d 141 66 L (.int (M 58 x.toNatClampNeg) :: st) (HP lx xs M) Q) := go_al rfl rfl
theorem s_141_66 : Go d 141 66 L (.int y :: .int x :: st) h Q = Go d 141 67 L (.int (x <<< (y &&& 31)) :: st) h Q := go_op (E := (.ishl, 0, 0, 0)) rfl rfl
theorem s_141_67 : Go d 141 67 L (.int y :: .int x :: st) h Q = Go d 141 68 L (.int (x ||| y) :: st) h Q := go_op (E := (.ior, 0, 0, 0)) rfl rfl
theorem s_141_68 : Go d 141 68 [o0, o1, o2, o3] (.int x :: st) h Q = Go d 141 69 [o0, o1, o2, some (.int x)] (st) h Q := go_lo (E := (.istore_n 3, 0, 0, 0)) rfl rfl rfl
theorem s_141_69 : Go d 141 69 [o0, some (.int x), o2, o3] (st) h Q = Go d 141 70 [o0, some (.int x), o2, o3] (.int x :: st) h Q := go_lo (E := (.iload_n 1, 0, 0, 0)) rfl rfl rfl
theorem s_141_70 : Go d 141 70 [o0, o1, o2, some (.int x)] (st) h Q = Go d 141 71 [o0, o1, o2, some (.int x)] (.int x :: st) h Q := go_lo (E := (.iload_n 3, 0, 0, 0)) rfl rfl rfl
theorem s_141_71 : Go d 141 71 L (.int y :: .int x :: st) h Q = Go d 141 72 L (.int (x &&& y) :: st) h Q := go_op (E := (.iand, 0, 0, 0)) rfl rfl
theorem s_141_72 : Go d 141 72 L (.int x :: st) h Q = (if x = 0 then Go d 141 75 L st h Q else Go d 141 110 L st h Q) := go_ifne rfl
theorem s_141_75 : Go d 141 75 [some (.ref r), o1, o2, o3] (st) h Q = Go d 141 76 [some (.ref r), o1, o2, o3] (.ref r :: st) h Q := go_lo (E := (.aload_n 0, 0, 0, 0)) rfl rfl rfl
theorem s_141_76 : Go d 141 76 [some (.ref r), o1, o2, o3] (st) h Q = Go d 141 77 [some (.ref r), o1, o2, o3] (.ref r :: st) h Q := go_lo (E := (.aload_n 0, 0, 0, 0)) rfl rfl rfl
theorem s_141_77 : Go d 141 77 L (.ref 53 :: st) (HP lx xs M) Q = Go d 141 80 L (.ref 58 :: st) (HP lx xs M) Q := go_gf rfl rfl (by decide) rfl
theorem s_141_80 : Go d 141 80 L (st) h Q = Go d 141 81 L (.int (nI 4) :: st) h Q := go_ic rfl ci_i4
theorem s_141_81 : Go d 141 81 [o0, o1, some (.int x), o3] (st) h Q = Go d 141 82 [o0, o1, some (.int x), o3] (.int x :: st) h Q := go_lo (E := (.iload_n 2, 0, 0, 0)) rfl rfl rfl
theorem s_141_82 : Go d 141 82 L (.int y :: .int x :: st) h Q = Go d 141 83 L (.int (x * y) :: st) h Q := go_op (E := (.imul, 0, 0, 0)) rfl rfl
theorem s_141_83 : Go d 141 83 L (.int x :: .ref 58 :: st) (HP lx xs M) Q = (ex_in x 96 = true ∧ Go d 141 84 L (.int (M 58 x.toNatClampNeg) :: st) (HP lx xs M) Q) := go_al rfl rfl
theorem s_141_84 : Go d 141 84 [some (.ref r), o1, o2, o3] (st) h Q = Go d 141 85 [some (.ref r), o1, o2, o3] (.ref r :: st) h Q := go_lo (E := (.aload_n 0, 0, 0, 0)) rfl rfl rfl
theorem s_141_85 : Go d 141 85 L (.ref 53 :: st) (HP lx xs M) Q = Go d 141 88 L (.ref 58 :: st) (HP lx xs M) Q := go_gf rfl rfl (by decide) rfl
theorem s_141_88 : Go d 141 88 L (st) h Q = Go d 141 89 L (.int (nI 4) :: st) h Q := go_ic rfl ci_i4
theorem s_141_89 : Go d 141 89 [o0, o1, some (.int x), o3] (st) h Q = Go d 141 90 [o0, o1, some (.int x), o3] (.int x :: st) h Q := go_lo (E := (.iload_n 2, 0, 0, 0)) rfl rfl rfl
theorem s_141_90 : Go d 141 90 L (.int y :: .int x :: st) h Q = Go d 141 91 L (.int (x * y) :: st) h Q := go_op (E := (.imul, 0, 0, 0)) rfl rfl
theorem s_141_91 : Go d 141 91 L (st) h Q = Go d 141 92 L (.int (nI 1) :: st) h Q := go_ic rfl ci_i1
theorem s_141_92 : Go d 141 92 L (.int y :: .int x :: st) h Q = Go d 141 93 L (.int (x + y) :: st) h Q := go_op (E := (.iadd, 0, 0, 0)) rfl rfl
theorem s_141_93 : Go d 141 93 L (.int x :: .ref 58 :: st) (HP lx xs M) Q = (ex_in x 96 = true ∧ Go d 141 94 L (.int (M 58 x.toNatClampNeg) :: st) (HP lx xs M) Q) := go_al rfl rfl
theorem s_141_94 : Go d 141 94 [some (.ref r), o1, o2, o3] (st) h Q = Go d 141 95 [some (.ref r), o1, o2, o3] (.ref r :: st) h Q := go_lo (E := (.aload_n 0, 0, 0, 0)) rfl rfl rfl
theorem s_141_95 : Go d 141 95 L (.ref 53 :: st) (HP lx xs M) Q = Go d 141 98 L (.ref 58 :: st) (HP lx xs M) Q := go_gf rfl rfl (by decide) rfl
theorem s_141_98 : Go d 141 98 L (st) h Q = Go d 141 99 L (.int (nI 4) :: st) h Q := go_ic rfl ci_i4
theorem s_141_99 : Go d 141 99 [o0, o1, some (.int x), o3] (st) h Q = Go d 141 100 [o0, o1, some (.int x), o3] (.int x :: st) h Q := go_lo (E := (.iload_n 2, 0, 0, 0)) rfl rfl rfl
theorem s_141_100 : Go d 141 100 L (.int y :: .int x :: st) h Q = Go d 141 101 L (.int (x * y) :: st) h Q := go_op (E := (.imul, 0, 0, 0)) rfl rfl
theorem s_141_101 : Go d 141 101 L (st) h Q = Go d 141 102 L (.int (nI 2) :: st) h Q := go_ic rfl ci_i2
theorem s_141_102 : Go d 141 102 L (.int y :: .int x :: st) h Q = Go d 141 103 L (.int (x + y) :: st) h Q := go_op (E := (.iadd, 0, 0, 0)) rfl rfl
theorem s_141_103 : Go d 141 103 L (.int x :: .ref 58 :: st) (HP lx xs M) Q = (ex_in x 96 = true ∧ Go d 141 104 L (.int (M 58 x.toNatClampNeg) :: st) (HP lx xs M) Q) := go_al rfl rfl
theorem s_141_104 {a1 : Int32} {a2 : Int32} {a3 : Int32} : Go (d + 1) 141 104 L [.int a3, .int a2, .int a1, .ref 53] (HP lx xs M) Q = Go d 137 0 [some (.ref 53), some (.int a1), some (.int a2), some (.int a3)] [] (HP lx xs M) (fun v h2 => Go (d + 1) 141 107 L (ap v []) h2 Q) := go_cx (E := (.invokevirtual 169, 137, 0, 7)) (k' := 137) (as := [.ref 53, .int a1, .int a2, .int a3]) rfl rfl rfl rfl rfl rfl rfl rfl
theorem s_141_107 : Go d 141 107 L (.int x :: st) h Q = (if x = 0 then Go d 141 110 L st h Q else Go d 141 112 L st h Q) := go_ifne rfl
theorem s_141_110 : Go d 141 110 [o0, o1, some (.int x), o3] (st) h Q = Go d 141 111 [o0, o1, some (.int x), o3] (.int x :: st) h Q := go_lo (E := (.iload_n 2, 0, 0, 0)) rfl rfl rfl
theorem s_141_111 : Go d 141 111 L [.int x] h Q = Q (some (.int x)) h := go_ri rfl rfl
theorem s_141_112 : Go d 141 112 [o0, some (.int x), o2, o3] (st) h Q = Go d 141 113 [o0, some (.int x), o2, o3] (.int x :: st) h Q := go_lo (E := (.iload_n 1, 0, 0, 0)) rfl rfl rfl
theorem s_141_113 : Go d 141 113 [o0, o1, o2, some (.int x)] (st) h Q = Go d 141 114 [o0, o1, o2, some (.int x)] (.int x :: st) h Q := go_lo (E := (.iload_n 3, 0, 0, 0)) rfl rfl rfl
theorem s_141_114 : Go d 141 114 L (.int y :: .int x :: st) h Q = Go d 141 115 L (.int (x ||| y) :: st) h Q := go_op (E := (.ior, 0, 0, 0)) rfl rfl
theorem s_141_115 : Go d 141 115 [o0, o1, o2, o3] (.int x :: st) h Q = Go d 141 116 [o0, some (.int x), o2, o3] (st) h Q := go_lo (E := (.istore_n 1, 0, 0, 0)) rfl rfl rfl
theorem s_141_116 : Go d 141 116 [some (.ref r), o1, o2, o3] (st) h Q = Go d 141 117 [some (.ref r), o1, o2, o3] (.ref r :: st) h Q := go_lo (E := (.aload_n 0, 0, 0, 0)) rfl rfl rfl
theorem s_141_117 : Go d 141 117 [some (.ref r), o1, o2, o3] (st) h Q = Go d 141 118 [some (.ref r), o1, o2, o3] (.ref r :: st) h Q := go_lo (E := (.aload_n 0, 0, 0, 0)) rfl rfl rfl
theorem s_141_118 : Go d 141 118 L (.ref 53 :: st) (HP lx xs M) Q = Go d 141 121 L (.ref 58 :: st) (HP lx xs M) Q := go_gf rfl rfl (by decide) rfl
theorem s_141_121 : Go d 141 121 L (st) h Q = Go d 141 122 L (.int (nI 4) :: st) h Q := go_ic rfl ci_i4
theorem s_141_122 : Go d 141 122 [o0, o1, some (.int x), o3] (st) h Q = Go d 141 123 [o0, o1, some (.int x), o3] (.int x :: st) h Q := go_lo (E := (.iload_n 2, 0, 0, 0)) rfl rfl rfl
set_option maxRecDepth 30000 in
theorem s_141_123 : Go d 141 123 L (.int y :: .int x :: st) h Q = Go d 141 124 L (.int (x * y) :: st) h Q := go_op (E := (.imul, 0, 0, 0)) rfl rfl
set_option maxRecDepth 30000 in
theorem s_141_124 : Go d 141 124 L (.int x :: .ref 58 :: st) (HP lx xs M) Q = (ex_in x 96 = true ∧ Go d 141 125 L (.int (M 58 x.toNatClampNeg) :: st) (HP lx xs M) Q) := go_al rfl rfl
set_option maxRecDepth 30000 in
theorem s_141_125 : Go d 141 125 [some (.ref r), o1, o2, o3] (st) h Q = Go d 141 126 [some (.ref r), o1, o2, o3] (.ref r :: st) h Q := go_lo (E := (.aload_n 0, 0, 0, 0)) rfl rfl rfl
set_option maxRecDepth 30000 in
theorem s_141_126 : Go d 141 126 L (.ref 53 :: st) (HP lx xs M) Q = Go d 141 129 L (.ref 58 :: st) (HP lx xs M) Q := go_gf rfl rfl (by decide) rfl
set_option maxRecDepth 30000 in
theorem s_141_129 : Go d 141 129 L (st) h Q = Go d 141 130 L (.int (nI 4) :: st) h Q := go_ic rfl ci_i4
set_option maxRecDepth 30000 in
theorem s_141_130 : Go d 141 130 [o0, o1, some (.int x), o3] (st) h Q = Go d 141 131 [o0, o1, some (.int x), o3] (.int x :: st) h Q := go_lo (E := (.iload_n 2, 0, 0, 0)) rfl rfl rfl
set_option maxRecDepth 30000 in
theorem s_141_131 : Go d 141 131 L (.int y :: .int x :: st) h Q = Go d 141 132 L (.int (x * y) :: st) h Q := go_op (E := (.imul, 0, 0, 0)) rfl rfl
set_option maxRecDepth 30000 in
theorem s_141_132 : Go d 141 132 L (st) h Q = Go d 141 133 L (.int (nI 1) :: st) h Q := go_ic rfl ci_i1
set_option maxRecDepth 30000 in
theorem s_141_133 : Go d 141 133 L (.int y :: .int x :: st) h Q = Go d 141 134 L (.int (x + y) :: st) h Q := go_op (E := (.iadd, 0, 0, 0)) rfl rfl
set_option maxRecDepth 30000 in
theorem s_141_134 : Go d 141 134 L (.int x :: .ref 58 :: st) (HP lx xs M) Q = (ex_in x 96 = true ∧ Go d 141 135 L (.int (M 58 x.toNatClampNeg) :: st) (HP lx xs M) Q) := go_al rfl rfl
set_option maxRecDepth 30000 in
theorem s_141_135 : Go d 141 135 [some (.ref r), o1, o2, o3] (st) h Q = Go d 141 136 [some (.ref r), o1, o2, o3] (.ref r :: st) h Q := go_lo (E := (.aload_n 0, 0, 0, 0)) rfl rfl rfl
set_option maxRecDepth 30000 in
theorem s_141_136 : Go d 141 136 L (.ref 53 :: st) (HP lx xs M) Q = Go d 141 139 L (.ref 58 :: st) (HP lx xs M) Q := go_gf rfl rfl (by decide) rfl
set_option maxRecDepth 30000 in
theorem s_141_139 : Go d 141 139 L (st) h Q = Go d 141 140 L (.int (nI 4) :: st) h Q := go_ic rfl ci_i4
set_option maxRecDepth 30000 in
theorem s_141_140 : Go d 141 140 [o0, o1, some (.int x), o3] (st) h Q = Go d 141 141 [o0, o1, some (.int x), o3] (.int x :: st) h Q := go_lo (E := (.iload_n 2, 0, 0, 0)) rfl rfl rfl
set_option maxRecDepth 30000 in
theorem s_141_141 : Go d 141 141 L (.int y :: .int x :: st) h Q = Go d 141 142 L (.int (x * y) :: st) h Q := go_op (E := (.imul, 0, 0, 0)) rfl rfl
set_option maxRecDepth 30000 in
theorem s_141_142 : Go d 141 142 L (st) h Q = Go d 141 143 L (.int (nI 2) :: st) h Q := go_ic rfl ci_i2
set_option maxRecDepth 30000 in
theorem s_141_143 : Go d 141 143 L (.int y :: .int x :: st) h Q = Go d 141 144 L (.int (x + y) :: st) h Q := go_op (E := (.iadd, 0, 0, 0)) rfl rfl
set_option maxRecDepth 30000 in
theorem s_141_144 : Go d 141 144 L (.int x :: .ref 58 :: st) (HP lx xs M) Q = (ex_in x 96 = true ∧ Go d 141 145 L (.int (M 58 x.toNatClampNeg) :: st) (HP lx xs M) Q) := go_al rfl rfl
set_option maxRecDepth 30000 in
theorem s_141_145 {a1 : Int32} {a2 : Int32} {a3 : Int32} : Go (d + 1) 141 145 L [.int a3, .int a2, .int a1, .ref 53] (HP lx xs M) Q = Go d 138 0 [some (.ref 53), some (.int a1), some (.int a2), some (.int a3)] [] (HP lx xs M) (fun v h2 => Go (d + 1) 141 148 L (ap v []) h2 Q) := go_cx (E := (.invokevirtual 173, 138, 0, 7)) (k' := 138) (as := [.ref 53, .int a1, .int a2, .int a3]) rfl rfl rfl rfl rfl rfl rfl rfl
set_option maxRecDepth 30000 in
theorem s_141_148 : Go d 141 148 [o0, o1, some (.int x), o3] (st) h Q = Go d 141 151 [o0, o1, some (.int (x + nI 1)), o3] (st) h Q := (ci_i1 ▸ go_lo (E := (.iinc 2 1, 0, 0, 0)) rfl rfl rfl : _ = Go d 141 151 [o0, o1, some (.int (x + nI 1)), o3] (st) h Q)
set_option maxRecDepth 30000 in
theorem s_141_151 : Go d 141 151 L (st) h Q = Go d 141 4 L (st) h Q := go_goto rfl
set_option maxRecDepth 30000 in
theorem s_141_154 : Go d 141 154 [some (.ref r), o1, o2, o3] (st) h Q = Go d 141 155 [some (.ref r), o1, o2, o3] (.ref r :: st) h Q := go_lo (E := (.aload_n 0, 0, 0, 0)) rfl rfl rfl
set_option maxRecDepth 30000 in
theorem s_141_155 : Go d 141 155 L (.ref 53 :: st) (HP lx xs M) Q = Go d 141 158 L (.int (M 53 6) :: st) (HP lx xs M) Q := go_gf rfl rfl (by decide) rfl
set_option maxRecDepth 30000 in
theorem s_141_158 : Go d 141 158 L [.int x] h Q = Q (some (.int x)) h := go_ri rfl rfl
theorem s_142_0 : Go d 142 0 L (st) h Q = Go d 142 1 L (.int (nI 0) :: st) h Q := go_ic rfl ci_i0
theorem s_142_1 : Go d 142 1 [o0, o1, o2] (.int x :: st) h Q = Go d 142 2 [o0, some (.int x), o2] (st) h Q := go_lo (E := (.istore_n 1, 0, 0, 0)) rfl rfl rfl
theorem s_142_2 : Go d 142 2 [some (.int x), o1, o2] (st) h Q = Go d 142 3 [some (.int x), o1, o2] (.int x :: st) h Q := go_lo (E := (.iload_n 0, 0, 0, 0)) rfl rfl rfl
theorem s_142_3 : Go d 142 3 [o0, o1, o2] (.int x :: st) h Q = Go d 142 4 [o0, o1, some (.int x)] (st) h Q := go_lo (E := (.istore_n 2, 0, 0, 0)) rfl rfl rfl
theorem s_142_4 : Go d 142 4 [o0, o1, some (.int x)] (st) h Q = Go d 142 5 [o0, o1, some (.int x)] (.int x :: st) h Q := go_lo (E := (.iload_n 2, 0, 0, 0)) rfl rfl rfl
theorem s_142_5 : Go d 142 5 L (.int x :: st) h Q = (if x = 0 then Go d 142 20 L st h Q else Go d 142 8 L st h Q) := go_ifeq rfl
theorem s_142_8 : Go d 142 8 [o0, some (.int x), o2] (st) h Q = Go d 142 11 [o0, some (.int (x + nI 1)), o2] (st) h Q := (ci_i1 ▸ go_lo (E := (.iinc 1 1, 0, 0, 0)) rfl rfl rfl : _ = Go d 142 11 [o0, some (.int (x + nI 1)), o2] (st) h Q)
theorem s_142_11 : Go d 142 11 [o0, o1, some (.int x)] (st) h Q = Go d 142 12 [o0, o1, some (.int x)] (.int x :: st) h Q := go_lo (E := (.iload_n 2, 0, 0, 0)) rfl rfl rfl
theorem s_142_12 : Go d 142 12 [o0, o1, some (.int x)] (st) h Q = Go d 142 13 [o0, o1, some (.int x)] (.int x :: st) h Q := go_lo (E := (.iload_n 2, 0, 0, 0)) rfl rfl rfl
theorem s_142_13 : Go d 142 13 L (st) h Q = Go d 142 14 L (.int (nI 1) :: st) h Q := go_ic rfl ci_i1
theorem s_142_14 : Go d 142 14 L (.int y :: .int x :: st) h Q = Go d 142 15 L (.int (x - y) :: st) h Q := go_op (E := (.isub, 0, 0, 0)) rfl rfl
theorem s_142_15 : Go d 142 15 L (.int y :: .int x :: st) h Q = Go d 142 16 L (.int (x &&& y) :: st) h Q := go_op (E := (.iand, 0, 0, 0)) rfl rfl
theorem s_142_16 : Go d 142 16 [o0, o1, o2] (.int x :: st) h Q = Go d 142 17 [o0, o1, some (.int x)] (st) h Q := go_lo (E := (.istore_n 2, 0, 0, 0)) rfl rfl rfl
theorem s_142_17 : Go d 142 17 L (st) h Q = Go d 142 4 L (st) h Q := go_goto rfl
theorem s_142_20 : Go d 142 20 [o0, some (.int x), o2] (st) h Q = Go d 142 21 [o0, some (.int x), o2] (.int x :: st) h Q := go_lo (E := (.iload_n 1, 0, 0, 0)) rfl rfl rfl
theorem s_142_21 : Go d 142 21 L [.int x] h Q = Q (some (.int x)) h := go_ri rfl rfl
theorem s_143_0 : Go d 143 0 [some (.ref r), o1, o2, o3, o4, o5, o6, o7] (st) h Q = Go d 143 1 [some (.ref r), o1, o2, o3, o4, o5, o6, o7] (.ref r :: st) h Q := go_lo (E := (.aload_n 0, 0, 0, 0)) rfl rfl rfl
theorem s_143_1 : Go d 143 1 L (.ref 53 :: st) (HP lx xs M) Q = Go d 143 4 L (.ref 63 :: st) (HP lx xs M) Q := go_gf rfl rfl (by decide) rfl
theorem s_143_4 : Go d 143 4 [o0, o1, o2, o3, some (.int x), o5, o6, o7] (st) h Q = Go d 143 6 [o0, o1, o2, o3, some (.int x), o5, o6, o7] (.int x :: st) h Q := go_lo (E := (.iload 4, 0, 0, 0)) rfl rfl rfl
theorem s_143_6 : Go d 143 6 L (.int x :: .ref 63 :: st) (HP lx xs M) Q = (ex_in x 4 = true ∧ Go d 143 7 L (.int (M 63 x.toNatClampNeg) :: st) (HP lx xs M) Q) := go_al rfl rfl
theorem s_143_7 : Go d 143 7 [o0, o1, o2, o3, o4, o5, o6, o7] (.int x :: st) h Q = Go d 143 9 [o0, o1, o2, o3, o4, some (.int x), o6, o7] (st) h Q := go_lo (E := (.istore 5, 0, 0, 0)) rfl rfl rfl
theorem s_143_9 : Go d 143 9 [o0, some (.int x), o2, o3, o4, o5, o6, o7] (st) h Q = Go d 143 10 [o0, some (.int x), o2, o3, o4, o5, o6, o7] (.int x :: st) h Q := go_lo (E := (.iload_n 1, 0, 0, 0)) rfl rfl rfl
theorem s_143_10 : Go d 143 10 [some (.ref r), o1, o2, o3, o4, o5, o6, o7] (st) h Q = Go d 143 11 [some (.ref r), o1, o2, o3, o4, o5, o6, o7] (.ref r :: st) h Q := go_lo (E := (.aload_n 0, 0, 0, 0)) rfl rfl rfl
theorem s_143_11 : Go d 143 11 L (.ref 53 :: st) (HP lx xs M) Q = Go d 143 14 L (.int (M 53 17) :: st) (HP lx xs M) Q := go_gf rfl rfl (by decide) rfl
theorem s_143_14 : Go d 143 14 [o0, o1, some (.int x), o3, o4, o5, o6, o7] (st) h Q = Go d 143 15 [o0, o1, some (.int x), o3, o4, o5, o6, o7] (.int x :: st) h Q := go_lo (E := (.iload_n 2, 0, 0, 0)) rfl rfl rfl
theorem s_143_15 : Go d 143 15 L (.int y :: .int x :: st) h Q = Go d 143 16 L (.int (x * y) :: st) h Q := go_op (E := (.imul, 0, 0, 0)) rfl rfl
theorem s_143_16 : Go d 143 16 [o0, o1, o2, o3, some (.int x), o5, o6, o7] (st) h Q = Go d 143 18 [o0, o1, o2, o3, some (.int x), o5, o6, o7] (.int x :: st) h Q := go_lo (E := (.iload 4, 0, 0, 0)) rfl rfl rfl
theorem s_143_18 : Go d 143 18 L (.int y :: .int x :: st) h Q = Go d 143 19 L (.int (x + y) :: st) h Q := go_op (E := (.iadd, 0, 0, 0)) rfl rfl
theorem s_143_19 {a0 : Int32} {a1 : Int32} : Go (d + 1) 143 19 L [.int a1, .int a0] h Q = Go d 115 0 [some (.int a0), some (.int a1)] [] h (fun v h2 => Go (d + 1) 143 22 L (ap v []) h2 Q) := go_cx (E := (.invokestatic 107, 115, 0, 0)) (k' := 115) (as := [.int a0, .int a1]) rfl rfl rfl rfl rfl rfl rfl rfl
theorem s_143_22 : Go d 143 22 L (.int x :: st) h Q = (if x = 0 then Go d 143 54 L st h Q else Go d 143 25 L st h Q) := go_ifeq rfl
theorem s_143_25 : Go d 143 25 [o0, some (.int x), o2, o3, o4, o5, o6, o7] (st) h Q = Go d 143 26 [o0, some (.int x), o2, o3, o4, o5, o6, o7] (.int x :: st) h Q := go_lo (E := (.iload_n 1, 0, 0, 0)) rfl rfl rfl
theorem s_143_26 : Go d 143 26 [some (.ref r), o1, o2, o3, o4, o5, o6, o7] (st) h Q = Go d 143 27 [some (.ref r), o1, o2, o3, o4, o5, o6, o7] (.ref r :: st) h Q := go_lo (E := (.aload_n 0, 0, 0, 0)) rfl rfl rfl
theorem s_143_27 : Go d 143 27 L (.ref 53 :: st) (HP lx xs M) Q = Go d 143 30 L (.int (M 53 17) :: st) (HP lx xs M) Q := go_gf rfl rfl (by decide) rfl
theorem s_143_30 : Go d 143 30 [o0, o1, o2, some (.int x), o4, o5, o6, o7] (st) h Q = Go d 143 31 [o0, o1, o2, some (.int x), o4, o5, o6, o7] (.int x :: st) h Q := go_lo (E := (.iload_n 3, 0, 0, 0)) rfl rfl rfl
theorem s_143_31 : Go d 143 31 L (.int y :: .int x :: st) h Q = Go d 143 32 L (.int (x * y) :: st) h Q := go_op (E := (.imul, 0, 0, 0)) rfl rfl
theorem s_143_32 : Go d 143 32 [o0, o1, o2, o3, some (.int x), o5, o6, o7] (st) h Q = Go d 143 34 [o0, o1, o2, o3, some (.int x), o5, o6, o7] (.int x :: st) h Q := go_lo (E := (.iload 4, 0, 0, 0)) rfl rfl rfl
theorem s_143_34 : Go d 143 34 L (.int y :: .int x :: st) h Q = Go d 143 35 L (.int (x + y) :: st) h Q := go_op (E := (.iadd, 0, 0, 0)) rfl rfl
theorem s_143_35 {a0 : Int32} {a1 : Int32} : Go (d + 1) 143 35 L [.int a1, .int a0] h Q = Go d 115 0 [some (.int a0), some (.int a1)] [] h (fun v h2 => Go (d + 1) 143 38 L (ap v []) h2 Q) := go_cx (E := (.invokestatic 107, 115, 0, 0)) (k' := 115) (as := [.int a0, .int a1]) rfl rfl rfl rfl rfl rfl rfl rfl
theorem s_143_38 : Go d 143 38 L (.int x :: st) h Q = (if x = 0 then Go d 143 41 L st h Q else Go d 143 54 L st h Q) := go_ifne rfl
theorem s_143_41 : Go d 143 41 [some (.ref r), o1, o2, o3, o4, o5, o6, o7] (st) h Q = Go d 143 42 [some (.ref r), o1, o2, o3, o4, o5, o6, o7] (.ref r :: st) h Q := go_lo (E := (.aload_n 0, 0, 0, 0)) rfl rfl rfl
theorem s_143_42 : Go d 143 42 L (.ref 53 :: st) (HP lx xs M) Q = Go d 143 45 L (.ref 55 :: st) (HP lx xs M) Q := go_gf rfl rfl (by decide) rfl
theorem s_143_45 : Go d 143 45 [o0, o1, o2, some (.int x), o4, o5, o6, o7] (st) h Q = Go d 143 46 [o0, o1, o2, some (.int x), o4, o5, o6, o7] (.int x :: st) h Q := go_lo (E := (.iload_n 3, 0, 0, 0)) rfl rfl rfl
theorem s_143_46 : Go d 143 46 L (.int x :: .ref 55 :: st) (HP lx xs M) Q = (ex_in x 6 = true ∧ Go d 143 47 L (.int (M 55 x.toNatClampNeg) :: st) (HP lx xs M) Q) := go_al rfl rfl
theorem s_143_47 : Go d 143 47 [o0, o1, some (.int x), o3, o4, o5, o6, o7] (st) h Q = Go d 143 48 [o0, o1, some (.int x), o3, o4, o5, o6, o7] (.int x :: st) h Q := go_lo (E := (.iload_n 2, 0, 0, 0)) rfl rfl rfl
theorem s_143_48 {a0 : Int32} {a1 : Int32} : Go (d + 1) 143 48 L [.int a1, .int a0] h Q = Go d 115 0 [some (.int a0), some (.int a1)] [] h (fun v h2 => Go (d + 1) 143 51 L (ap v []) h2 Q) := go_cx (E := (.invokestatic 107, 115, 0, 0)) (k' := 115) (as := [.int a0, .int a1]) rfl rfl rfl rfl rfl rfl rfl rfl
theorem s_143_51 : Go d 143 51 L (.int x :: st) h Q = (if x = 0 then Go d 143 54 L st h Q else Go d 143 56 L st h Q) := go_ifne rfl
theorem s_143_54 : Go d 143 54 L (st) h Q = Go d 143 55 L (.int (nI 0) :: st) h Q := go_ic rfl ci_i0
theorem s_143_55_0 : Go d 143 55 L [.int (nI 0)] h Q = Q (some (.int (nI 0))) h := go_rz rfl rfl (by decide)
theorem s_143_55_1 : Go d 143 55 L [.int (nI 1)] h Q = Q (some (.int (nI 1))) h := go_rz rfl rfl (by decide)
theorem s_143_56 : Go d 143 56 [some (.ref r), o1, o2, o3, o4, o5, o6, o7] (st) h Q = Go d 143 57 [some (.ref r), o1, o2, o3, o4, o5, o6, o7] (.ref r :: st) h Q := go_lo (E := (.aload_n 0, 0, 0, 0)) rfl rfl rfl
theorem s_143_57 : Go d 143 57 [o0, o1, o2, some (.int x), o4, o5, o6, o7] (st) h Q = Go d 143 58 [o0, o1, o2, some (.int x), o4, o5, o6, o7] (.int x :: st) h Q := go_lo (E := (.iload_n 3, 0, 0, 0)) rfl rfl rfl
theorem s_143_58 {a1 : Int32} : Go (d + 1) 143 58 L [.int a1, .ref 53] (HP lx xs M) Q = Go d 124 0 [some (.ref 53), some (.int a1), none, none] [] (HP lx xs M) (fun v h2 => Go (d + 1) 143 61 L (ap v []) h2 Q) := go_cx (E := (.invokevirtual 116, 124, 0, 7)) (k' := 124) (as := [.ref 53, .int a1]) rfl rfl rfl rfl rfl rfl rfl rfl
theorem s_143_61 : Go d 143 61 [o0, o1, o2, o3, o4, o5, o6, o7] (.int x :: st) h Q = Go d 143 63 [o0, o1, o2, o3, o4, o5, some (.int x), o7] (st) h Q := go_lo (E := (.istore 6, 0, 0, 0)) rfl rfl rfl
theorem s_143_63 : Go d 143 63 L (st) h Q = Go d 143 64 L (.int (nI 0) :: st) h Q := go_ic rfl ci_i0
theorem s_143_64 : Go d 143 64 [o0, o1, o2, o3, o4, o5, o6, o7] (.int x :: st) h Q = Go d 143 66 [o0, o1, o2, o3, o4, o5, o6, some (.int x)] (st) h Q := go_lo (E := (.istore 7, 0, 0, 0)) rfl rfl rfl
theorem s_143_66 : Go d 143 66 [o0, o1, o2, o3, o4, o5, o6, some (.int x)] (st) h Q = Go d 143 68 [o0, o1, o2, o3, o4, o5, o6, some (.int x)] (.int x :: st) h Q := go_lo (E := (.iload 7, 0, 0, 0)) rfl rfl rfl
theorem s_143_68 : Go d 143 68 [some (.ref r), o1, o2, o3, o4, o5, o6, o7] (st) h Q = Go d 143 69 [some (.ref r), o1, o2, o3, o4, o5, o6, o7] (.ref r :: st) h Q := go_lo (E := (.aload_n 0, 0, 0, 0)) rfl rfl rfl
theorem s_143_69 : Go d 143 69 L (.ref 53 :: st) (HP lx xs M) Q = Go d 143 72 L (.int (M 53 17) :: st) (HP lx xs M) Q := go_gf rfl rfl (by decide) rfl
theorem s_143_72 : Go d 143 72 L (.int y :: .int x :: st) h Q = (if x < y then Go d 143 75 L st h Q else Go d 143 116 L st h Q) := go_icge rfl
theorem s_143_75 : Go d 143 75 [o0, some (.int x), o2, o3, o4, o5, o6, o7] (st) h Q = Go d 143 76 [o0, some (.int x), o2, o3, o4, o5, o6, o7] (.int x :: st) h Q := go_lo (E := (.iload_n 1, 0, 0, 0)) rfl rfl rfl
theorem s_143_76 : Go d 143 76 [some (.ref r), o1, o2, o3, o4, o5, o6, o7] (st) h Q = Go d 143 77 [some (.ref r), o1, o2, o3, o4, o5, o6, o7] (.ref r :: st) h Q := go_lo (E := (.aload_n 0, 0, 0, 0)) rfl rfl rfl
theorem s_143_77 : Go d 143 77 L (.ref 53 :: st) (HP lx xs M) Q = Go d 143 80 L (.int (M 53 17) :: st) (HP lx xs M) Q := go_gf rfl rfl (by decide) rfl
theorem s_143_80 : Go d 143 80 [o0, o1, o2, some (.int x), o4, o5, o6, o7] (st) h Q = Go d 143 81 [o0, o1, o2, some (.int x), o4, o5, o6, o7] (.int x :: st) h Q := go_lo (E := (.iload_n 3, 0, 0, 0)) rfl rfl rfl
theorem s_143_81 : Go d 143 81 L (.int y :: .int x :: st) h Q = Go d 143 82 L (.int (x * y) :: st) h Q := go_op (E := (.imul, 0, 0, 0)) rfl rfl
theorem s_143_82 : Go d 143 82 [o0, o1, o2, o3, o4, o5, o6, some (.int x)] (st) h Q = Go d 143 84 [o0, o1, o2, o3, o4, o5, o6, some (.int x)] (.int x :: st) h Q := go_lo (E := (.iload 7, 0, 0, 0)) rfl rfl rfl
theorem s_143_84 : Go d 143 84 L (.int y :: .int x :: st) h Q = Go d 143 85 L (.int (x + y) :: st) h Q := go_op (E := (.iadd, 0, 0, 0)) rfl rfl
theorem s_143_85 {a0 : Int32} {a1 : Int32} : Go (d + 1) 143 85 L [.int a1, .int a0] h Q = Go d 115 0 [some (.int a0), some (.int a1)] [] h (fun v h2 => Go (d + 1) 143 88 L (ap v []) h2 Q) := go_cx (E := (.invokestatic 107, 115, 0, 0)) (k' := 115) (as := [.int a0, .int a1]) rfl rfl rfl rfl rfl rfl rfl rfl
theorem s_143_88 : Go d 143 88 L (.int x :: st) h Q = (if x = 0 then Go d 143 106 L st h Q else Go d 143 91 L st h Q) := go_ifeq rfl
theorem s_143_91 : Go d 143 91 [o0, o1, o2, o3, o4, o5, some (.int x), o7] (st) h Q = Go d 143 93 [o0, o1, o2, o3, o4, o5, some (.int x), o7] (.int x :: st) h Q := go_lo (E := (.iload 6, 0, 0, 0)) rfl rfl rfl
theorem s_143_93 : Go d 143 93 L (st) h Q = Go d 143 94 L (.int (nI 1) :: st) h Q := go_ic rfl ci_i1
theorem s_143_94 : Go d 143 94 [some (.ref r), o1, o2, o3, o4, o5, o6, o7] (st) h Q = Go d 143 95 [some (.ref r), o1, o2, o3, o4, o5, o6, o7] (.ref r :: st) h Q := go_lo (E := (.aload_n 0, 0, 0, 0)) rfl rfl rfl
theorem s_143_95 : Go d 143 95 L (.ref 53 :: st) (HP lx xs M) Q = Go d 143 98 L (.ref 63 :: st) (HP lx xs M) Q := go_gf rfl rfl (by decide) rfl
theorem s_143_98 : Go d 143 98 [o0, o1, o2, o3, o4, o5, o6, some (.int x)] (st) h Q = Go d 143 100 [o0, o1, o2, o3, o4, o5, o6, some (.int x)] (.int x :: st) h Q := go_lo (E := (.iload 7, 0, 0, 0)) rfl rfl rfl
theorem s_143_100 : Go d 143 100 L (.int x :: .ref 63 :: st) (HP lx xs M) Q = (ex_in x 4 = true ∧ Go d 143 101 L (.int (M 63 x.toNatClampNeg) :: st) (HP lx xs M) Q) := go_al rfl rfl
theorem s_143_101 : Go d 143 101 L (.int y :: .int x :: st) h Q = Go d 143 102 L (.int (x <<< (y &&& 31)) :: st) h Q := go_op (E := (.ishl, 0, 0, 0)) rfl rfl
theorem s_143_102 : Go d 143 102 L (.int y :: .int x :: st) h Q = Go d 143 103 L (.int (x ||| y) :: st) h Q := go_op (E := (.ior, 0, 0, 0)) rfl rfl
theorem s_143_103 : Go d 143 103 L (st) h Q = Go d 143 108 L (st) h Q := go_goto rfl
theorem s_143_106 : Go d 143 106 [o0, o1, o2, o3, o4, o5, some (.int x), o7] (st) h Q = Go d 143 108 [o0, o1, o2, o3, o4, o5, some (.int x), o7] (.int x :: st) h Q := go_lo (E := (.iload 6, 0, 0, 0)) rfl rfl rfl
theorem s_143_108 : Go d 143 108 [o0, o1, o2, o3, o4, o5, o6, o7] (.int x :: st) h Q = Go d 143 110 [o0, o1, o2, o3, o4, o5, some (.int x), o7] (st) h Q := go_lo (E := (.istore 6, 0, 0, 0)) rfl rfl rfl
theorem s_143_110 : Go d 143 110 [o0, o1, o2, o3, o4, o5, o6, some (.int x)] (st) h Q = Go d 143 113 [o0, o1, o2, o3, o4, o5, o6, some (.int (x + nI 1))] (st) h Q := (ci_i1 ▸ go_lo (E := (.iinc 7 1, 0, 0, 0)) rfl rfl rfl : _ = Go d 143 113 [o0, o1, o2, o3, o4, o5, o6, some (.int (x + nI 1))] (st) h Q)
theorem s_143_113 : Go d 143 113 L (st) h Q = Go d 143 66 L (st) h Q := go_goto rfl
theorem s_143_116 : Go d 143 116 [some (.ref r), o1, o2, o3, o4, o5, o6, o7] (st) h Q = Go d 143 117 [some (.ref r), o1, o2, o3, o4, o5, o6, o7] (.ref r :: st) h Q := go_lo (E := (.aload_n 0, 0, 0, 0)) rfl rfl rfl
theorem s_143_117 : Go d 143 117 L (.ref 53 :: st) (HP lx xs M) Q = Go d 143 120 L (.ref 57 :: st) (HP lx xs M) Q := go_gf rfl rfl (by decide) rfl
theorem s_143_120 : Go d 143 120 [o0, o1, o2, o3, o4, some (.int x), o6, o7] (st) h Q = Go d 143 122 [o0, o1, o2, o3, o4, some (.int x), o6, o7] (.int x :: st) h Q := go_lo (E := (.iload 5, 0, 0, 0)) rfl rfl rfl
theorem s_143_122 : Go d 143 122 L (.int x :: .ref 57 :: st) (HP lx xs M) Q = (ex_in x 4 = true ∧ Go d 143 123 L (.int (M 57 x.toNatClampNeg) :: st) (HP lx xs M) Q) := go_al rfl rfl
theorem s_143_123 : Go d 143 123 [o0, o1, o2, o3, o4, o5, some (.int x), o7] (st) h Q = Go d 143 125 [o0, o1, o2, o3, o4, o5, some (.int x), o7] (.int x :: st) h Q := go_lo (E := (.iload 6, 0, 0, 0)) rfl rfl rfl
theorem s_143_125 : Go d 143 125 L (st) h Q = Go d 143 126 L (.int (-1) :: st) h Q := go_ic rfl ci_im1
theorem s_143_126 : Go d 143 126 L (.int y :: .int x :: st) h Q = Go d 143 127 L (.int (x ^^^ y) :: st) h Q := go_op (E := (.ixor, 0, 0, 0)) rfl rfl
theorem s_143_127 : Go d 143 127 L (.int y :: .int x :: st) h Q = Go d 143 128 L (.int (x &&& y) :: st) h Q := go_op (E := (.iand, 0, 0, 0)) rfl rfl
theorem s_143_128 : Go d 143 128 L (.int x :: st) h Q = (if x = 0 then Go d 143 131 L st h Q else Go d 143 135 L st h Q) := go_ifne rfl
theorem s_143_131 : Go d 143 131 L (st) h Q = Go d 143 132 L (.int (nI 1) :: st) h Q := go_ic rfl ci_i1
theorem s_143_132 : Go d 143 132 L (st) h Q = Go d 143 136 L (st) h Q := go_goto rfl
theorem s_143_135 : Go d 143 135 L (st) h Q = Go d 143 136 L (.int (nI 0) :: st) h Q := go_ic rfl ci_i0
theorem s_143_136_0 : Go d 143 136 L [.int (nI 0)] h Q = Q (some (.int (nI 0))) h := go_rz rfl rfl (by decide)
theorem s_143_136_1 : Go d 143 136 L [.int (nI 1)] h Q = Q (some (.int (nI 1))) h := go_rz rfl rfl (by decide)
theorem s_144_0 : Go d 144 0 L (st) h Q = Go d 144 1 L (.int (nI 1) :: st) h Q := go_ic rfl ci_i1
theorem s_144_1 : Go d 144 1 [o0, o1, o2, o3, o4, o5, o6, o7, o8, o9, o10] (.int x :: st) h Q = Go d 144 2 [o0, o1, some (.int x), o3, o4, o5, o6, o7, o8, o9, o10] (st) h Q := go_lo (E := (.istore_n 2, 0, 0, 0)) rfl rfl rfl
theorem s_144_2 : Go d 144 2 [some (.ref r), o1, o2, o3, o4, o5, o6, o7, o8, o9, o10] (st) h Q = Go d 144 3 [some (.ref r), o1, o2, o3, o4, o5, o6, o7, o8, o9, o10] (.ref r :: st) h Q := go_lo (E := (.aload_n 0, 0, 0, 0)) rfl rfl rfl
theorem s_144_3 : Go d 144 3 L (.ref 53 :: st) (HP lx xs M) Q = Go d 144 6 L (.ref 64 :: st) (HP lx xs M) Q := go_gf rfl rfl (by decide) rfl
theorem s_144_6 : Go d 144 6 L (st) h Q = Go d 144 7 L (.int (nI 0) :: st) h Q := go_ic rfl ci_i0
theorem s_144_7 : Go d 144 7 L (st) h Q = Go d 144 8 L (.int (nI 1) :: st) h Q := go_ic rfl ci_i1
theorem s_144_8 : Go d 144 8 [some (.ref r), o1, o2, o3, o4, o5, o6, o7, o8, o9, o10] (st) h Q = Go d 144 9 [some (.ref r), o1, o2, o3, o4, o5, o6, o7, o8, o9, o10] (.ref r :: st) h Q := go_lo (E := (.aload_n 0, 0, 0, 0)) rfl rfl rfl
theorem s_144_9 : Go d 144 9 L (.ref 53 :: st) (HP lx xs M) Q = Go d 144 12 L (.int (M 53 4) :: st) (HP lx xs M) Q := go_gf rfl rfl (by decide) rfl
theorem s_144_12 : Go d 144 12 L (.int y :: .int x :: st) h Q = Go d 144 13 L (.int (x <<< (y &&& 31)) :: st) h Q := go_op (E := (.ishl, 0, 0, 0)) rfl rfl
theorem s_144_13 : Go d 144 13 L (st) h Q = Go d 144 14 L (.int (nI 1) :: st) h Q := go_ic rfl ci_i1
theorem s_144_14 : Go d 144 14 L (.int y :: .int x :: st) h Q = Go d 144 15 L (.int (x - y) :: st) h Q := go_op (E := (.isub, 0, 0, 0)) rfl rfl
theorem s_144_15 : Go d 144 15 L (.int y :: .int x :: .ref 64 :: st) (HP lx xs M) Q = (ex_in x 4096 = true ∧ Go d 144 16 L (st) (HP lx xs (up M 64 x.toNatClampNeg y)) Q) := go_as rfl rfl (by decide) hs_64
theorem s_144_16 : Go d 144 16 [some (.ref r), o1, o2, o3, o4, o5, o6, o7, o8, o9, o10] (st) h Q = Go d 144 17 [some (.ref r), o1, o2, o3, o4, o5, o6, o7, o8, o9, o10] (.ref r :: st) h Q := go_lo (E := (.aload_n 0, 0, 0, 0)) rfl rfl rfl
theorem s_144_17 : Go d 144 17 L (.ref 53 :: st) (HP lx xs M) Q = Go d 144 20 L (.ref 65 :: st) (HP lx xs M) Q := go_gf rfl rfl (by decide) rfl
theorem s_144_20 : Go d 144 20 L (st) h Q = Go d 144 21 L (.int (nI 0) :: st) h Q := go_ic rfl ci_i0
theorem s_144_21 : Go d 144 21 [o0, some (.int x), o2, o3, o4, o5, o6, o7, o8, o9, o10] (st) h Q = Go d 144 22 [o0, some (.int x), o2, o3, o4, o5, o6, o7, o8, o9, o10] (.int x :: st) h Q := go_lo (E := (.iload_n 1, 0, 0, 0)) rfl rfl rfl
theorem s_144_22 : Go d 144 22 L (.int y :: .int x :: .ref 65 :: st) (HP lx xs M) Q = (ex_in x 4096 = true ∧ Go d 144 23 L (st) (HP lx xs (up M 65 x.toNatClampNeg y)) Q) := go_as rfl rfl (by decide) hs_65
theorem s_144_23 : Go d 144 23 [o0, o1, some (.int x), o3, o4, o5, o6, o7, o8, o9, o10] (st) h Q = Go d 144 24 [o0, o1, some (.int x), o3, o4, o5, o6, o7, o8, o9, o10] (.int x :: st) h Q := go_lo (E := (.iload_n 2, 0, 0, 0)) rfl rfl rfl
theorem s_144_24 : Go d 144 24 L (.int x :: st) h Q = (if 0 < x then Go d 144 27 L st h Q else Go d 144 250 L st h Q) := go_ifle rfl
theorem s_144_27 : Go d 144 27 [o0, o1, some (.int x), o3, o4, o5, o6, o7, o8, o9, o10] (st) h Q = Go d 144 30 [o0, o1, some (.int (x + -1)), o3, o4, o5, o6, o7, o8, o9, o10] (st) h Q := (ci_im1 ▸ go_lo (E := (.iinc 2 (-1), 0, 0, 0)) rfl rfl rfl : _ = Go d 144 30 [o0, o1, some (.int (x + -1)), o3, o4, o5, o6, o7, o8, o9, o10] (st) h Q)
theorem s_144_30 : Go d 144 30 [some (.ref r), o1, o2, o3, o4, o5, o6, o7, o8, o9, o10] (st) h Q = Go d 144 31 [some (.ref r), o1, o2, o3, o4, o5, o6, o7, o8, o9, o10] (.ref r :: st) h Q := go_lo (E := (.aload_n 0, 0, 0, 0)) rfl rfl rfl
theorem s_144_31 : Go d 144 31 L (.ref 53 :: st) (HP lx xs M) Q = Go d 144 34 L (.ref 64 :: st) (HP lx xs M) Q := go_gf rfl rfl (by decide) rfl
theorem s_144_34 : Go d 144 34 [o0, o1, some (.int x), o3, o4, o5, o6, o7, o8, o9, o10] (st) h Q = Go d 144 35 [o0, o1, some (.int x), o3, o4, o5, o6, o7, o8, o9, o10] (.int x :: st) h Q := go_lo (E := (.iload_n 2, 0, 0, 0)) rfl rfl rfl
theorem s_144_35 : Go d 144 35 L (.int x :: .ref 64 :: st) (HP lx xs M) Q = (ex_in x 4096 = true ∧ Go d 144 36 L (.int (M 64 x.toNatClampNeg) :: st) (HP lx xs M) Q) := go_al rfl rfl
theorem s_144_36 : Go d 144 36 [o0, o1, o2, o3, o4, o5, o6, o7, o8, o9, o10] (.int x :: st) h Q = Go d 144 37 [o0, o1, o2, some (.int x), o4, o5, o6, o7, o8, o9, o10] (st) h Q := go_lo (E := (.istore_n 3, 0, 0, 0)) rfl rfl rfl
theorem s_144_37 : Go d 144 37 [some (.ref r), o1, o2, o3, o4, o5, o6, o7, o8, o9, o10] (st) h Q = Go d 144 38 [some (.ref r), o1, o2, o3, o4, o5, o6, o7, o8, o9, o10] (.ref r :: st) h Q := go_lo (E := (.aload_n 0, 0, 0, 0)) rfl rfl rfl
theorem s_144_38 : Go d 144 38 L (.ref 53 :: st) (HP lx xs M) Q = Go d 144 41 L (.ref 65 :: st) (HP lx xs M) Q := go_gf rfl rfl (by decide) rfl
theorem s_144_41 : Go d 144 41 [o0, o1, some (.int x), o3, o4, o5, o6, o7, o8, o9, o10] (st) h Q = Go d 144 42 [o0, o1, some (.int x), o3, o4, o5, o6, o7, o8, o9, o10] (.int x :: st) h Q := go_lo (E := (.iload_n 2, 0, 0, 0)) rfl rfl rfl
theorem s_144_42 : Go d 144 42 L (.int x :: .ref 65 :: st) (HP lx xs M) Q = (ex_in x 4096 = true ∧ Go d 144 43 L (.int (M 65 x.toNatClampNeg) :: st) (HP lx xs M) Q) := go_al rfl rfl
theorem s_144_43 : Go d 144 43 [o0, o1, o2, o3, o4, o5, o6, o7, o8, o9, o10] (.int x :: st) h Q = Go d 144 45 [o0, o1, o2, o3, some (.int x), o5, o6, o7, o8, o9, o10] (st) h Q := go_lo (E := (.istore 4, 0, 0, 0)) rfl rfl rfl
theorem s_144_45 : Go d 144 45 [o0, o1, o2, some (.int x), o4, o5, o6, o7, o8, o9, o10] (st) h Q = Go d 144 46 [o0, o1, o2, some (.int x), o4, o5, o6, o7, o8, o9, o10] (.int x :: st) h Q := go_lo (E := (.iload_n 3, 0, 0, 0)) rfl rfl rfl
theorem s_144_46 : Go d 144 46 L (.int x :: st) h Q = (if x = 0 then Go d 144 49 L st h Q else Go d 144 60 L st h Q) := go_ifne rfl
theorem s_144_49 : Go d 144 49 [some (.ref r), o1, o2, o3, o4, o5, o6, o7, o8, o9, o10] (st) h Q = Go d 144 50 [some (.ref r), o1, o2, o3, o4, o5, o6, o7, o8, o9, o10] (.ref r :: st) h Q := go_lo (E := (.aload_n 0, 0, 0, 0)) rfl rfl rfl
theorem s_144_50 : Go d 144 50 L (.ref 53 :: st) (HP lx xs M) Q = Go d 144 53 L (.ref 62 :: st) (HP lx xs M) Q := go_gf rfl rfl (by decide) rfl
theorem s_144_53 : Go d 144 53 [o0, o1, o2, o3, some (.int x), o5, o6, o7, o8, o9, o10] (st) h Q = Go d 144 55 [o0, o1, o2, o3, some (.int x), o5, o6, o7, o8, o9, o10] (.int x :: st) h Q := go_lo (E := (.iload 4, 0, 0, 0)) rfl rfl rfl
theorem s_144_55 : Go d 144 55 L (st) h Q = Go d 144 56 L (.int (nI 1) :: st) h Q := go_ic rfl ci_i1
theorem s_144_56 : Go d 144 56 L (.int y :: .int x :: .ref 62 :: st) (HP lx xs M) Q = (ex_in x 4096 = true ∧ Go d 144 57 L (st) (HP lx xs (up M 62 x.toNatClampNeg (vp_nar .boolean y))) Q) := go_bs2 rfl rfl (by decide) hs_62
theorem s_144_57 : Go d 144 57 L (st) h Q = Go d 144 247 L (st) h Q := go_goto rfl
theorem s_144_60 : Go d 144 60 L (st) h Q = Go d 144 61 L (.int (nI 0) :: st) h Q := go_ic rfl ci_i0
theorem s_144_61 : Go d 144 61 [o0, o1, o2, o3, o4, o5, o6, o7, o8, o9, o10] (.int x :: st) h Q = Go d 144 63 [o0, o1, o2, o3, o4, some (.int x), o6, o7, o8, o9, o10] (st) h Q := go_lo (E := (.istore 5, 0, 0, 0)) rfl rfl rfl
theorem s_144_63 : Go d 144 63 [o0, o1, o2, some (.int x), o4, o5, o6, o7, o8, o9, o10] (st) h Q = Go d 144 64 [o0, o1, o2, some (.int x), o4, o5, o6, o7, o8, o9, o10] (.int x :: st) h Q := go_lo (E := (.iload_n 3, 0, 0, 0)) rfl rfl rfl
theorem s_144_64 : Go d 144 64 [o0, o1, o2, o3, o4, some (.int x), o6, o7, o8, o9, o10] (st) h Q = Go d 144 66 [o0, o1, o2, o3, o4, some (.int x), o6, o7, o8, o9, o10] (.int x :: st) h Q := go_lo (E := (.iload 5, 0, 0, 0)) rfl rfl rfl
theorem s_144_66 {a0 : Int32} {a1 : Int32} : Go (d + 1) 144 66 L [.int a1, .int a0] h Q = Go d 115 0 [some (.int a0), some (.int a1)] [] h (fun v h2 => Go (d + 1) 144 69 L (ap v []) h2 Q) := go_cx (E := (.invokestatic 107, 115, 0, 0)) (k' := 115) (as := [.int a0, .int a1]) rfl rfl rfl rfl rfl rfl rfl rfl
theorem s_144_69 : Go d 144 69 L (.int x :: st) h Q = (if x = 0 then Go d 144 72 L st h Q else Go d 144 78 L st h Q) := go_ifne rfl
theorem s_144_72 : Go d 144 72 [o0, o1, o2, o3, o4, some (.int x), o6, o7, o8, o9, o10] (st) h Q = Go d 144 75 [o0, o1, o2, o3, o4, some (.int (x + nI 1)), o6, o7, o8, o9, o10] (st) h Q := (ci_i1 ▸ go_lo (E := (.iinc 5 1, 0, 0, 0)) rfl rfl rfl : _ = Go d 144 75 [o0, o1, o2, o3, o4, some (.int (x + nI 1)), o6, o7, o8, o9, o10] (st) h Q)
theorem s_144_75 : Go d 144 75 L (st) h Q = Go d 144 63 L (st) h Q := go_goto rfl
theorem s_144_78 : Go d 144 78 [o0, o1, o2, some (.int x), o4, o5, o6, o7, o8, o9, o10] (st) h Q = Go d 144 79 [o0, o1, o2, some (.int x), o4, o5, o6, o7, o8, o9, o10] (.int x :: st) h Q := go_lo (E := (.iload_n 3, 0, 0, 0)) rfl rfl rfl
theorem s_144_79 : Go d 144 79 L (st) h Q = Go d 144 80 L (.int (nI 1) :: st) h Q := go_ic rfl ci_i1
theorem s_144_80 : Go d 144 80 [o0, o1, o2, o3, o4, some (.int x), o6, o7, o8, o9, o10] (st) h Q = Go d 144 82 [o0, o1, o2, o3, o4, some (.int x), o6, o7, o8, o9, o10] (.int x :: st) h Q := go_lo (E := (.iload 5, 0, 0, 0)) rfl rfl rfl
theorem s_144_82 : Go d 144 82 L (.int y :: .int x :: st) h Q = Go d 144 83 L (.int (x <<< (y &&& 31)) :: st) h Q := go_op (E := (.ishl, 0, 0, 0)) rfl rfl
theorem s_144_83 : Go d 144 83 L (st) h Q = Go d 144 84 L (.int (-1) :: st) h Q := go_ic rfl ci_im1
theorem s_144_84 : Go d 144 84 L (.int y :: .int x :: st) h Q = Go d 144 85 L (.int (x ^^^ y) :: st) h Q := go_op (E := (.ixor, 0, 0, 0)) rfl rfl
theorem s_144_85 : Go d 144 85 L (.int y :: .int x :: st) h Q = Go d 144 86 L (.int (x &&& y) :: st) h Q := go_op (E := (.iand, 0, 0, 0)) rfl rfl
theorem s_144_86 : Go d 144 86 [o0, o1, o2, o3, o4, o5, o6, o7, o8, o9, o10] (.int x :: st) h Q = Go d 144 88 [o0, o1, o2, o3, o4, o5, some (.int x), o7, o8, o9, o10] (st) h Q := go_lo (E := (.istore 6, 0, 0, 0)) rfl rfl rfl
theorem s_144_88 : Go d 144 88 [some (.ref r), o1, o2, o3, o4, o5, o6, o7, o8, o9, o10] (st) h Q = Go d 144 89 [some (.ref r), o1, o2, o3, o4, o5, o6, o7, o8, o9, o10] (.ref r :: st) h Q := go_lo (E := (.aload_n 0, 0, 0, 0)) rfl rfl rfl
theorem s_144_89 : Go d 144 89 L (.ref 53 :: st) (HP lx xs M) Q = Go d 144 92 L (.ref 64 :: st) (HP lx xs M) Q := go_gf rfl rfl (by decide) rfl
theorem s_144_92 : Go d 144 92 [o0, o1, some (.int x), o3, o4, o5, o6, o7, o8, o9, o10] (st) h Q = Go d 144 93 [o0, o1, some (.int x), o3, o4, o5, o6, o7, o8, o9, o10] (.int x :: st) h Q := go_lo (E := (.iload_n 2, 0, 0, 0)) rfl rfl rfl
theorem s_144_93 : Go d 144 93 [o0, o1, o2, o3, o4, o5, some (.int x), o7, o8, o9, o10] (st) h Q = Go d 144 95 [o0, o1, o2, o3, o4, o5, some (.int x), o7, o8, o9, o10] (.int x :: st) h Q := go_lo (E := (.iload 6, 0, 0, 0)) rfl rfl rfl
theorem s_144_95 : Go d 144 95 L (.int y :: .int x :: .ref 64 :: st) (HP lx xs M) Q = (ex_in x 4096 = true ∧ Go d 144 96 L (st) (HP lx xs (up M 64 x.toNatClampNeg y)) Q) := go_as rfl rfl (by decide) hs_64
theorem s_144_96 : Go d 144 96 [some (.ref r), o1, o2, o3, o4, o5, o6, o7, o8, o9, o10] (st) h Q = Go d 144 97 [some (.ref r), o1, o2, o3, o4, o5, o6, o7, o8, o9, o10] (.ref r :: st) h Q := go_lo (E := (.aload_n 0, 0, 0, 0)) rfl rfl rfl
theorem s_144_97 : Go d 144 97 L (.ref 53 :: st) (HP lx xs M) Q = Go d 144 100 L (.ref 65 :: st) (HP lx xs M) Q := go_gf rfl rfl (by decide) rfl
theorem s_144_100 : Go d 144 100 [o0, o1, some (.int x), o3, o4, o5, o6, o7, o8, o9, o10] (st) h Q = Go d 144 101 [o0, o1, some (.int x), o3, o4, o5, o6, o7, o8, o9, o10] (.int x :: st) h Q := go_lo (E := (.iload_n 2, 0, 0, 0)) rfl rfl rfl
theorem s_144_101 : Go d 144 101 [o0, o1, o2, o3, some (.int x), o5, o6, o7, o8, o9, o10] (st) h Q = Go d 144 103 [o0, o1, o2, o3, some (.int x), o5, o6, o7, o8, o9, o10] (.int x :: st) h Q := go_lo (E := (.iload 4, 0, 0, 0)) rfl rfl rfl
theorem s_144_103 : Go d 144 103 L (.int y :: .int x :: .ref 65 :: st) (HP lx xs M) Q = (ex_in x 4096 = true ∧ Go d 144 104 L (st) (HP lx xs (up M 65 x.toNatClampNeg y)) Q) := go_as rfl rfl (by decide) hs_65
theorem s_144_104 : Go d 144 104 [o0, o1, some (.int x), o3, o4, o5, o6, o7, o8, o9, o10] (st) h Q = Go d 144 107 [o0, o1, some (.int (x + nI 1)), o3, o4, o5, o6, o7, o8, o9, o10] (st) h Q := (ci_i1 ▸ go_lo (E := (.iinc 2 1, 0, 0, 0)) rfl rfl rfl : _ = Go d 144 107 [o0, o1, some (.int (x + nI 1)), o3, o4, o5, o6, o7, o8, o9, o10] (st) h Q)
theorem s_144_107 : Go d 144 107 [o0, o1, o2, o3, o4, some (.int x), o6, o7, o8, o9, o10] (st) h Q = Go d 144 109 [o0, o1, o2, o3, o4, some (.int x), o6, o7, o8, o9, o10] (.int x :: st) h Q := go_lo (E := (.iload 5, 0, 0, 0)) rfl rfl rfl
theorem s_144_109 : Go d 144 109 L (st) h Q = Go d 144 110 L (.int (nI 1) :: st) h Q := go_ic rfl ci_i1
theorem s_144_110 : Go d 144 110 L (.int y :: .int x :: st) h Q = Go d 144 111 L (.int (x + y) :: st) h Q := go_op (E := (.iadd, 0, 0, 0)) rfl rfl
theorem s_144_111 : Go d 144 111 [o0, o1, o2, o3, o4, o5, o6, o7, o8, o9, o10] (.int x :: st) h Q = Go d 144 113 [o0, o1, o2, o3, o4, o5, o6, some (.int x), o8, o9, o10] (st) h Q := go_lo (E := (.istore 7, 0, 0, 0)) rfl rfl rfl
theorem s_144_113 : Go d 144 113 [o0, o1, o2, o3, o4, o5, o6, some (.int x), o8, o9, o10] (st) h Q = Go d 144 115 [o0, o1, o2, o3, o4, o5, o6, some (.int x), o8, o9, o10] (.int x :: st) h Q := go_lo (E := (.iload 7, 0, 0, 0)) rfl rfl rfl
theorem s_144_115 : Go d 144 115 [some (.ref r), o1, o2, o3, o4, o5, o6, o7, o8, o9, o10] (st) h Q = Go d 144 116 [some (.ref r), o1, o2, o3, o4, o5, o6, o7, o8, o9, o10] (.ref r :: st) h Q := go_lo (E := (.aload_n 0, 0, 0, 0)) rfl rfl rfl
theorem s_144_116 : Go d 144 116 L (.ref 53 :: st) (HP lx xs M) Q = Go d 144 119 L (.int (M 53 4) :: st) (HP lx xs M) Q := go_gf rfl rfl (by decide) rfl
theorem s_144_119 : Go d 144 119 L (.int y :: .int x :: st) h Q = (if x < y then Go d 144 122 L st h Q else Go d 144 247 L st h Q) := go_icge rfl
theorem s_144_122 : Go d 144 122 L (st) h Q = Go d 144 123 L (.int (nI 0) :: st) h Q := go_ic rfl ci_i0
theorem s_144_123 : Go d 144 123 [o0, o1, o2, o3, o4, o5, o6, o7, o8, o9, o10] (.int x :: st) h Q = Go d 144 125 [o0, o1, o2, o3, o4, o5, o6, o7, some (.int x), o9, o10] (st) h Q := go_lo (E := (.istore 8, 0, 0, 0)) rfl rfl rfl
theorem s_144_125 : Go d 144 125 [o0, o1, o2, o3, o4, o5, o6, o7, some (.int x), o9, o10] (st) h Q = Go d 144 127 [o0, o1, o2, o3, o4, o5, o6, o7, some (.int x), o9, o10] (.int x :: st) h Q := go_lo (E := (.iload 8, 0, 0, 0)) rfl rfl rfl
theorem s_144_127 : Go d 144 127 L (st) h Q = Go d 144 128 L (.int (nI 2) :: st) h Q := go_ic rfl ci_i2
theorem s_144_128 : Go d 144 128 [some (.ref r), o1, o2, o3, o4, o5, o6, o7, o8, o9, o10] (st) h Q = Go d 144 129 [some (.ref r), o1, o2, o3, o4, o5, o6, o7, o8, o9, o10] (.ref r :: st) h Q := go_lo (E := (.aload_n 0, 0, 0, 0)) rfl rfl rfl
theorem s_144_129 : Go d 144 129 L (.ref 53 :: st) (HP lx xs M) Q = Go d 144 132 L (.int (M 53 17) :: st) (HP lx xs M) Q := go_gf rfl rfl (by decide) rfl
theorem s_144_132 : Go d 144 132 L (.int y :: .int x :: st) h Q = Go d 144 133 L (.int (x * y) :: st) h Q := go_op (E := (.imul, 0, 0, 0)) rfl rfl
theorem s_144_133 : Go d 144 133 L (.int y :: .int x :: st) h Q = (if x < y then Go d 144 136 L st h Q else Go d 144 241 L st h Q) := go_icge rfl
theorem s_144_136 : Go d 144 136 [o0, o1, o2, o3, o4, o5, some (.int x), o7, o8, o9, o10] (st) h Q = Go d 144 138 [o0, o1, o2, o3, o4, o5, some (.int x), o7, o8, o9, o10] (.int x :: st) h Q := go_lo (E := (.iload 6, 0, 0, 0)) rfl rfl rfl
theorem s_144_138 : Go d 144 138 [o0, o1, o2, o3, o4, o5, o6, some (.int x), o8, o9, o10] (st) h Q = Go d 144 140 [o0, o1, o2, o3, o4, o5, o6, some (.int x), o8, o9, o10] (.int x :: st) h Q := go_lo (E := (.iload 7, 0, 0, 0)) rfl rfl rfl
theorem s_144_140 {a0 : Int32} {a1 : Int32} : Go (d + 1) 144 140 L [.int a1, .int a0] h Q = Go d 115 0 [some (.int a0), some (.int a1)] [] h (fun v h2 => Go (d + 1) 144 143 L (ap v []) h2 Q) := go_cx (E := (.invokestatic 107, 115, 0, 0)) (k' := 115) (as := [.int a0, .int a1]) rfl rfl rfl rfl rfl rfl rfl rfl
theorem s_144_143 : Go d 144 143 L (.int x :: st) h Q = (if x = 0 then Go d 144 241 L st h Q else Go d 144 146 L st h Q) := go_ifeq rfl
theorem s_144_146 : Go d 144 146 [o0, o1, o2, o3, o4, o5, o6, o7, some (.int x), o9, o10] (st) h Q = Go d 144 148 [o0, o1, o2, o3, o4, o5, o6, o7, some (.int x), o9, o10] (.int x :: st) h Q := go_lo (E := (.iload 8, 0, 0, 0)) rfl rfl rfl
theorem s_144_148 : Go d 144 148 L (st) h Q = Go d 144 149 L (.int (nI 2) :: st) h Q := go_ic rfl ci_i2
theorem s_144_149 : Go d 144 149 L (.int y :: .int x :: st) h Q = (¬ y = 0 ∧ Go d 144 150 L (.int (x - x / y * y) :: st) h Q) := go_irm rfl
theorem s_144_150 : Go d 144 150 L (.int x :: st) h Q = (if x = 0 then Go d 144 153 L st h Q else Go d 144 158 L st h Q) := go_ifne rfl
theorem s_144_153 : Go d 144 153 [o0, o1, o2, o3, o4, some (.int x), o6, o7, o8, o9, o10] (st) h Q = Go d 144 155 [o0, o1, o2, o3, o4, some (.int x), o6, o7, o8, o9, o10] (.int x :: st) h Q := go_lo (E := (.iload 5, 0, 0, 0)) rfl rfl rfl
theorem s_144_155 : Go d 144 155 L (st) h Q = Go d 144 160 L (st) h Q := go_goto rfl
set_option maxRecDepth 30000 in
theorem s_144_158 : Go d 144 158 [o0, o1, o2, o3, o4, o5, o6, some (.int x), o8, o9, o10] (st) h Q = Go d 144 160 [o0, o1, o2, o3, o4, o5, o6, some (.int x), o8, o9, o10] (.int x :: st) h Q := go_lo (E := (.iload 7, 0, 0, 0)) rfl rfl rfl
set_option maxRecDepth 30000 in
theorem s_144_160 : Go d 144 160 [o0, o1, o2, o3, o4, o5, o6, o7, o8, o9, o10] (.int x :: st) h Q = Go d 144 162 [o0, o1, o2, o3, o4, o5, o6, o7, o8, some (.int x), o10] (st) h Q := go_lo (E := (.istore 9, 0, 0, 0)) rfl rfl rfl
set_option maxRecDepth 30000 in
theorem s_144_162 : Go d 144 162 [o0, o1, o2, o3, o4, o5, o6, o7, some (.int x), o9, o10] (st) h Q = Go d 144 164 [o0, o1, o2, o3, o4, o5, o6, o7, some (.int x), o9, o10] (.int x :: st) h Q := go_lo (E := (.iload 8, 0, 0, 0)) rfl rfl rfl
set_option maxRecDepth 30000 in
theorem s_144_164 : Go d 144 164 L (st) h Q = Go d 144 165 L (.int (nI 2) :: st) h Q := go_ic rfl ci_i2
set_option maxRecDepth 30000 in
theorem s_144_165 : Go d 144 165 L (.int y :: .int x :: st) h Q = (¬ y = 0 ∧ Go d 144 166 L (.int (x - x / y * y) :: st) h Q) := go_irm rfl
set_option maxRecDepth 30000 in
theorem s_144_166 : Go d 144 166 L (.int x :: st) h Q = (if x = 0 then Go d 144 169 L st h Q else Go d 144 174 L st h Q) := go_ifne rfl
set_option maxRecDepth 30000 in
theorem s_144_169 : Go d 144 169 [o0, o1, o2, o3, o4, o5, o6, some (.int x), o8, o9, o10] (st) h Q = Go d 144 171 [o0, o1, o2, o3, o4, o5, o6, some (.int x), o8, o9, o10] (.int x :: st) h Q := go_lo (E := (.iload 7, 0, 0, 0)) rfl rfl rfl
set_option maxRecDepth 30000 in
theorem s_144_171 : Go d 144 171 L (st) h Q = Go d 144 176 L (st) h Q := go_goto rfl
set_option maxRecDepth 30000 in
theorem s_144_174 : Go d 144 174 [o0, o1, o2, o3, o4, some (.int x), o6, o7, o8, o9, o10] (st) h Q = Go d 144 176 [o0, o1, o2, o3, o4, some (.int x), o6, o7, o8, o9, o10] (.int x :: st) h Q := go_lo (E := (.iload 5, 0, 0, 0)) rfl rfl rfl
set_option maxRecDepth 30000 in
theorem s_144_176 : Go d 144 176 [o0, o1, o2, o3, o4, o5, o6, o7, o8, o9, o10] (.int x :: st) h Q = Go d 144 178 [o0, o1, o2, o3, o4, o5, o6, o7, o8, o9, some (.int x)] (st) h Q := go_lo (E := (.istore 10, 0, 0, 0)) rfl rfl rfl
set_option maxRecDepth 30000 in
theorem s_144_178 : Go d 144 178 [some (.ref r), o1, o2, o3, o4, o5, o6, o7, o8, o9, o10] (st) h Q = Go d 144 179 [some (.ref r), o1, o2, o3, o4, o5, o6, o7, o8, o9, o10] (.ref r :: st) h Q := go_lo (E := (.aload_n 0, 0, 0, 0)) rfl rfl rfl
set_option maxRecDepth 30000 in
theorem s_144_179 : Go d 144 179 [o0, some (.int x), o2, o3, o4, o5, o6, o7, o8, o9, o10] (st) h Q = Go d 144 180 [o0, some (.int x), o2, o3, o4, o5, o6, o7, o8, o9, o10] (.int x :: st) h Q := go_lo (E := (.iload_n 1, 0, 0, 0)) rfl rfl rfl
set_option maxRecDepth 30000 in
theorem s_144_180 : Go d 144 180 [o0, o1, o2, o3, o4, o5, o6, o7, o8, some (.int x), o10] (st) h Q = Go d 144 182 [o0, o1, o2, o3, o4, o5, o6, o7, o8, some (.int x), o10] (.int x :: st) h Q := go_lo (E := (.iload 9, 0, 0, 0)) rfl rfl rfl
set_option maxRecDepth 30000 in
theorem s_144_182 : Go d 144 182 [o0, o1, o2, o3, o4, o5, o6, o7, o8, o9, some (.int x)] (st) h Q = Go d 144 184 [o0, o1, o2, o3, o4, o5, o6, o7, o8, o9, some (.int x)] (.int x :: st) h Q := go_lo (E := (.iload 10, 0, 0, 0)) rfl rfl rfl
set_option maxRecDepth 30000 in
theorem s_144_184 : Go d 144 184 [o0, o1, o2, o3, o4, o5, o6, o7, some (.int x), o9, o10] (st) h Q = Go d 144 186 [o0, o1, o2, o3, o4, o5, o6, o7, some (.int x), o9, o10] (.int x :: st) h Q := go_lo (E := (.iload 8, 0, 0, 0)) rfl rfl rfl
set_option maxRecDepth 30000 in
theorem s_144_186 : Go d 144 186 L (st) h Q = Go d 144 187 L (.int (nI 2) :: st) h Q := go_ic rfl ci_i2
set_option maxRecDepth 30000 in
theorem s_144_187 : Go d 144 187 L (.int y :: .int x :: st) h Q = (¬ y = 0 ∧ Go d 144 188 L (.int (x / y) :: st) h Q) := go_idv rfl
set_option maxRecDepth 30000 in
theorem s_144_188 {a1 : Int32} {a2 : Int32} {a3 : Int32} {a4 : Int32} : Go (d + 1) 144 188 L [.int a4, .int a3, .int a2, .int a1, .ref 53] (HP lx xs M) Q = Go d 143 0 [some (.ref 53), some (.int a1), some (.int a2), some (.int a3), some (.int a4), none, none, none] [] (HP lx xs M) (fun v h2 => Go (d + 1) 144 191 L (ap v []) h2 Q) := go_cx (E := (.invokevirtual 180, 143, 0, 7)) (k' := 143) (as := [.ref 53, .int a1, .int a2, .int a3, .int a4]) rfl rfl rfl rfl rfl rfl rfl rfl
set_option maxRecDepth 30000 in
theorem s_144_191 : Go d 144 191 L (.int x :: st) h Q = (if x = 0 then Go d 144 235 L st h Q else Go d 144 194 L st h Q) := go_ifeq rfl
set_option maxRecDepth 30000 in
theorem s_144_194 : Go d 144 194 [some (.ref r), o1, o2, o3, o4, o5, o6, o7, o8, o9, o10] (st) h Q = Go d 144 195 [some (.ref r), o1, o2, o3, o4, o5, o6, o7, o8, o9, o10] (.ref r :: st) h Q := go_lo (E := (.aload_n 0, 0, 0, 0)) rfl rfl rfl
set_option maxRecDepth 30000 in
theorem s_144_195 : Go d 144 195 L (.ref 53 :: st) (HP lx xs M) Q = Go d 144 198 L (.ref 64 :: st) (HP lx xs M) Q := go_gf rfl rfl (by decide) rfl
set_option maxRecDepth 30000 in
theorem s_144_198 : Go d 144 198 [o0, o1, some (.int x), o3, o4, o5, o6, o7, o8, o9, o10] (st) h Q = Go d 144 199 [o0, o1, some (.int x), o3, o4, o5, o6, o7, o8, o9, o10] (.int x :: st) h Q := go_lo (E := (.iload_n 2, 0, 0, 0)) rfl rfl rfl
set_option maxRecDepth 30000 in
theorem s_144_199 : Go d 144 199 [o0, o1, o2, o3, o4, o5, some (.int x), o7, o8, o9, o10] (st) h Q = Go d 144 201 [o0, o1, o2, o3, o4, o5, some (.int x), o7, o8, o9, o10] (.int x :: st) h Q := go_lo (E := (.iload 6, 0, 0, 0)) rfl rfl rfl
set_option maxRecDepth 30000 in
theorem s_144_201 : Go d 144 201 L (st) h Q = Go d 144 202 L (.int (nI 1) :: st) h Q := go_ic rfl ci_i1
set_option maxRecDepth 30000 in
theorem s_144_202 : Go d 144 202 [o0, o1, o2, o3, o4, o5, o6, some (.int x), o8, o9, o10] (st) h Q = Go d 144 204 [o0, o1, o2, o3, o4, o5, o6, some (.int x), o8, o9, o10] (.int x :: st) h Q := go_lo (E := (.iload 7, 0, 0, 0)) rfl rfl rfl
set_option maxRecDepth 30000 in
theorem s_144_204 : Go d 144 204 L (.int y :: .int x :: st) h Q = Go d 144 205 L (.int (x <<< (y &&& 31)) :: st) h Q := go_op (E := (.ishl, 0, 0, 0)) rfl rfl
set_option maxRecDepth 30000 in
theorem s_144_205 : Go d 144 205 L (st) h Q = Go d 144 206 L (.int (-1) :: st) h Q := go_ic rfl ci_im1
set_option maxRecDepth 30000 in
theorem s_144_206 : Go d 144 206 L (.int y :: .int x :: st) h Q = Go d 144 207 L (.int (x ^^^ y) :: st) h Q := go_op (E := (.ixor, 0, 0, 0)) rfl rfl
set_option maxRecDepth 30000 in
theorem s_144_207 : Go d 144 207 L (.int y :: .int x :: st) h Q = Go d 144 208 L (.int (x &&& y) :: st) h Q := go_op (E := (.iand, 0, 0, 0)) rfl rfl
set_option maxRecDepth 30000 in
theorem s_144_208 : Go d 144 208 L (.int y :: .int x :: .ref 64 :: st) (HP lx xs M) Q = (ex_in x 4096 = true ∧ Go d 144 209 L (st) (HP lx xs (up M 64 x.toNatClampNeg y)) Q) := go_as rfl rfl (by decide) hs_64
set_option maxRecDepth 30000 in
theorem s_144_209 : Go d 144 209 [some (.ref r), o1, o2, o3, o4, o5, o6, o7, o8, o9, o10] (st) h Q = Go d 144 210 [some (.ref r), o1, o2, o3, o4, o5, o6, o7, o8, o9, o10] (.ref r :: st) h Q := go_lo (E := (.aload_n 0, 0, 0, 0)) rfl rfl rfl
set_option maxRecDepth 30000 in
theorem s_144_210 : Go d 144 210 L (.ref 53 :: st) (HP lx xs M) Q = Go d 144 213 L (.ref 65 :: st) (HP lx xs M) Q := go_gf rfl rfl (by decide) rfl
set_option maxRecDepth 30000 in
theorem s_144_213 : Go d 144 213 [o0, o1, some (.int x), o3, o4, o5, o6, o7, o8, o9, o10] (st) h Q = Go d 144 214 [o0, o1, some (.int x), o3, o4, o5, o6, o7, o8, o9, o10] (.int x :: st) h Q := go_lo (E := (.iload_n 2, 0, 0, 0)) rfl rfl rfl
set_option maxRecDepth 30000 in
theorem s_144_214 : Go d 144 214 [o0, o1, o2, o3, some (.int x), o5, o6, o7, o8, o9, o10] (st) h Q = Go d 144 216 [o0, o1, o2, o3, some (.int x), o5, o6, o7, o8, o9, o10] (.int x :: st) h Q := go_lo (E := (.iload 4, 0, 0, 0)) rfl rfl rfl
set_option maxRecDepth 30000 in
theorem s_144_216 : Go d 144 216 L (st) h Q = Go d 144 217 L (.int (nI 1) :: st) h Q := go_ic rfl ci_i1
set_option maxRecDepth 30000 in
theorem s_144_217 : Go d 144 217 [some (.ref r), o1, o2, o3, o4, o5, o6, o7, o8, o9, o10] (st) h Q = Go d 144 218 [some (.ref r), o1, o2, o3, o4, o5, o6, o7, o8, o9, o10] (.ref r :: st) h Q := go_lo (E := (.aload_n 0, 0, 0, 0)) rfl rfl rfl
set_option maxRecDepth 30000 in
theorem s_144_218 : Go d 144 218 L (.ref 53 :: st) (HP lx xs M) Q = Go d 144 221 L (.int (M 53 17) :: st) (HP lx xs M) Q := go_gf rfl rfl (by decide) rfl
set_option maxRecDepth 30000 in
theorem s_144_221 : Go d 144 221 [o0, o1, o2, o3, o4, o5, o6, o7, o8, o9, some (.int x)] (st) h Q = Go d 144 223 [o0, o1, o2, o3, o4, o5, o6, o7, o8, o9, some (.int x)] (.int x :: st) h Q := go_lo (E := (.iload 10, 0, 0, 0)) rfl rfl rfl
set_option maxRecDepth 30000 in
theorem s_144_223 : Go d 144 223 L (.int y :: .int x :: st) h Q = Go d 144 224 L (.int (x * y) :: st) h Q := go_op (E := (.imul, 0, 0, 0)) rfl rfl
set_option maxRecDepth 30000 in
theorem s_144_224 : Go d 144 224 [o0, o1, o2, o3, o4, o5, o6, o7, some (.int x), o9, o10] (st) h Q = Go d 144 226 [o0, o1, o2, o3, o4, o5, o6, o7, some (.int x), o9, o10] (.int x :: st) h Q := go_lo (E := (.iload 8, 0, 0, 0)) rfl rfl rfl
set_option maxRecDepth 30000 in
theorem s_144_226 : Go d 144 226 L (st) h Q = Go d 144 227 L (.int (nI 2) :: st) h Q := go_ic rfl ci_i2
set_option maxRecDepth 30000 in
theorem s_144_227 : Go d 144 227 L (.int y :: .int x :: st) h Q = (¬ y = 0 ∧ Go d 144 228 L (.int (x / y) :: st) h Q) := go_idv rfl
set_option maxRecDepth 30000 in
theorem s_144_228 : Go d 144 228 L (.int y :: .int x :: st) h Q = Go d 144 229 L (.int (x + y) :: st) h Q := go_op (E := (.iadd, 0, 0, 0)) rfl rfl
set_option maxRecDepth 30000 in
theorem s_144_229 : Go d 144 229 L (.int y :: .int x :: st) h Q = Go d 144 230 L (.int (x <<< (y &&& 31)) :: st) h Q := go_op (E := (.ishl, 0, 0, 0)) rfl rfl
set_option maxRecDepth 30000 in
theorem s_144_230 : Go d 144 230 L (.int y :: .int x :: st) h Q = Go d 144 231 L (.int (x ||| y) :: st) h Q := go_op (E := (.ior, 0, 0, 0)) rfl rfl
set_option maxRecDepth 30000 in
theorem s_144_231 : Go d 144 231 L (.int y :: .int x :: .ref 65 :: st) (HP lx xs M) Q = (ex_in x 4096 = true ∧ Go d 144 232 L (st) (HP lx xs (up M 65 x.toNatClampNeg y)) Q) := go_as rfl rfl (by decide) hs_65
set_option maxRecDepth 30000 in
theorem s_144_232 : Go d 144 232 [o0, o1, some (.int x), o3, o4, o5, o6, o7, o8, o9, o10] (st) h Q = Go d 144 235 [o0, o1, some (.int (x + nI 1)), o3, o4, o5, o6, o7, o8, o9, o10] (st) h Q := (ci_i1 ▸ go_lo (E := (.iinc 2 1, 0, 0, 0)) rfl rfl rfl : _ = Go d 144 235 [o0, o1, some (.int (x + nI 1)), o3, o4, o5, o6, o7, o8, o9, o10] (st) h Q)
set_option maxRecDepth 30000 in
theorem s_144_235 : Go d 144 235 [o0, o1, o2, o3, o4, o5, o6, o7, some (.int x), o9, o10] (st) h Q = Go d 144 238 [o0, o1, o2, o3, o4, o5, o6, o7, some (.int (x + nI 1)), o9, o10] (st) h Q := (ci_i1 ▸ go_lo (E := (.iinc 8 1, 0, 0, 0)) rfl rfl rfl : _ = Go d 144 238 [o0, o1, o2, o3, o4, o5, o6, o7, some (.int (x + nI 1)), o9, o10] (st) h Q)
set_option maxRecDepth 30000 in
theorem s_144_238 : Go d 144 238 L (st) h Q = Go d 144 125 L (st) h Q := go_goto rfl
set_option maxRecDepth 30000 in
theorem s_144_241 : Go d 144 241 [o0, o1, o2, o3, o4, o5, o6, some (.int x), o8, o9, o10] (st) h Q = Go d 144 244 [o0, o1, o2, o3, o4, o5, o6, some (.int (x + nI 1)), o8, o9, o10] (st) h Q := (ci_i1 ▸ go_lo (E := (.iinc 7 1, 0, 0, 0)) rfl rfl rfl : _ = Go d 144 244 [o0, o1, o2, o3, o4, o5, o6, some (.int (x + nI 1)), o8, o9, o10] (st) h Q)
set_option maxRecDepth 30000 in
theorem s_144_244 : Go d 144 244 L (st) h Q = Go d 144 113 L (st) h Q := go_goto rfl
set_option maxRecDepth 30000 in
theorem s_144_247 : Go d 144 247 L (st) h Q = Go d 144 23 L (st) h Q := go_goto rfl
set_option maxRecDepth 30000 in
theorem s_144_250 : Go d 144 250 L [] h Q = Q none h := go_rv rfl rfl
theorem s_145_0 : Go d 145 0 [o0, some (.int x), o2, o3, o4, o5, o6] (st) h Q = Go d 145 1 [o0, some (.int x), o2, o3, o4, o5, o6] (.int x :: st) h Q := go_lo (E := (.iload_n 1, 0, 0, 0)) rfl rfl rfl
theorem s_145_1 : Go d 145 1 L (.int x :: st) h Q = Go d 145 2 L (.long (x.toInt64) :: st) h Q := go_op (E := (.i2l, 0, 0, 0)) rfl rfl
theorem s_145_2 : Go d 145 2 L (st) h Q = Go d 145 3 L (.long (lN 0) :: st) h Q := go_op (E := (.lconst 0, 0, 0, 0)) rfl rfl
theorem s_145_3 : Go d 145 3 L (st) h Q = Go d 145 6 L (.long (lN 15) :: st) h Q := go_ld2 rfl ci_l15
theorem s_145_6 {al0 : Int64} {al1 : Int64} {al2 : Int64} : Go (d + 1) 145 6 L [.long al2, .long al1, .long al0] h Q = Go d 114 0 [some (.long al0), none, some (.long al1), none, some (.long al2), none] [] h (fun v h2 => Go (d + 1) 145 9 L (ap v []) h2 Q) := go_cx (E := (.invokestatic 84, 114, 0, 0)) (k' := 114) (as := [.long al0, .long al1, .long al2]) rfl rfl rfl rfl rfl rfl rfl rfl
theorem s_145_9 : Go d 145 9 L (.int x :: st) h Q = (if x = 0 then Go d 145 12 L st h Q else Go d 145 14 L st h Q) := go_ifne rfl
theorem s_145_12 : Go d 145 12 L (st) h Q = Go d 145 13 L (.int (-1) :: st) h Q := go_ic rfl ci_im1
theorem s_145_13 : Go d 145 13 L [.int x] h Q = Q (some (.int x)) h := go_ri rfl rfl
theorem s_145_14 : Go d 145 14 [some (.ref r), o1, o2, o3, o4, o5, o6] (st) h Q = Go d 145 15 [some (.ref r), o1, o2, o3, o4, o5, o6] (.ref r :: st) h Q := go_lo (E := (.aload_n 0, 0, 0, 0)) rfl rfl rfl
theorem s_145_15 : Go d 145 15 L (.ref 53 :: st) (HP lx xs M) Q = Go d 145 18 L (.int (M 53 4) :: st) (HP lx xs M) Q := go_gf rfl rfl (by decide) rfl
theorem s_145_18 : Go d 145 18 [o0, some (.int x), o2, o3, o4, o5, o6] (st) h Q = Go d 145 19 [o0, some (.int x), o2, o3, o4, o5, o6] (.int x :: st) h Q := go_lo (E := (.iload_n 1, 0, 0, 0)) rfl rfl rfl
theorem s_145_19 {a0 : Int32} {z0 : Int32} : Go (d + 1) 145 19 L [.int a0, .int z0] h Q = Go d 142 0 [some (.int a0), none, none] [] h (fun v h2 => Go (d + 1) 145 22 L (ap v [.int z0]) h2 Q) := go_cx (E := (.invokestatic 184, 142, 0, 0)) (k' := 142) (as := [.int a0]) rfl rfl rfl rfl rfl rfl rfl rfl
theorem s_145_22 : Go d 145 22 L (.int y :: .int x :: st) h Q = Go d 145 23 L (.int (x * y) :: st) h Q := go_op (E := (.imul, 0, 0, 0)) rfl rfl
theorem s_145_23 : Go d 145 23 L (st) h Q = Go d 145 25 L (.int (nI 12) :: st) h Q := go_bi rfl ci_b12
theorem s_145_25 : Go d 145 25 L (.int y :: .int x :: st) h Q = (if y < x then Go d 145 28 L st h Q else Go d 145 31 L st h Q) := go_icle rfl
theorem s_145_28 : Go d 145 28 L (st) h Q = Go d 145 30 L (.int (-3) :: st) h Q := go_bi rfl ci_bm3
theorem s_145_30 : Go d 145 30 L [.int x] h Q = Q (some (.int x)) h := go_ri rfl rfl
theorem s_145_31 : Go d 145 31 [some (.ref r), o1, o2, o3, o4, o5, o6] (st) h Q = Go d 145 32 [some (.ref r), o1, o2, o3, o4, o5, o6] (.ref r :: st) h Q := go_lo (E := (.aload_n 0, 0, 0, 0)) rfl rfl rfl
theorem s_145_32 : Go d 145 32 L (st) h Q = Go d 145 33 L (.int (nI 0) :: st) h Q := go_ic rfl ci_i0
theorem s_145_33 : Go d 145 33 L (.int x :: .ref 53 :: st) (HP lx xs M) Q = Go d 145 36 L (st) (HP lx xs (up M 53 17 x)) Q := go_pf rfl rfl (by decide) (Nat.le_of_ble_eq_true rfl) rfl hf_53_17
theorem s_145_36 : Go d 145 36 L (st) h Q = Go d 145 37 L (.int (nI 0) :: st) h Q := go_ic rfl ci_i0
theorem s_145_37 : Go d 145 37 [o0, o1, o2, o3, o4, o5, o6] (.int x :: st) h Q = Go d 145 38 [o0, o1, some (.int x), o3, o4, o5, o6] (st) h Q := go_lo (E := (.istore_n 2, 0, 0, 0)) rfl rfl rfl
theorem s_145_38 : Go d 145 38 [o0, o1, some (.int x), o3, o4, o5, o6] (st) h Q = Go d 145 39 [o0, o1, some (.int x), o3, o4, o5, o6] (.int x :: st) h Q := go_lo (E := (.iload_n 2, 0, 0, 0)) rfl rfl rfl
theorem s_145_39 : Go d 145 39 L (st) h Q = Go d 145 40 L (.int (nI 4) :: st) h Q := go_ic rfl ci_i4
theorem s_145_40 : Go d 145 40 L (.int y :: .int x :: st) h Q = (if x < y then Go d 145 43 L st h Q else Go d 145 77 L st h Q) := go_icge rfl
theorem s_145_43 : Go d 145 43 [o0, some (.int x), o2, o3, o4, o5, o6] (st) h Q = Go d 145 44 [o0, some (.int x), o2, o3, o4, o5, o6] (.int x :: st) h Q := go_lo (E := (.iload_n 1, 0, 0, 0)) rfl rfl rfl
theorem s_145_44 : Go d 145 44 [o0, o1, some (.int x), o3, o4, o5, o6] (st) h Q = Go d 145 45 [o0, o1, some (.int x), o3, o4, o5, o6] (.int x :: st) h Q := go_lo (E := (.iload_n 2, 0, 0, 0)) rfl rfl rfl
theorem s_145_45 {a0 : Int32} {a1 : Int32} : Go (d + 1) 145 45 L [.int a1, .int a0] h Q = Go d 115 0 [some (.int a0), some (.int a1)] [] h (fun v h2 => Go (d + 1) 145 48 L (ap v []) h2 Q) := go_cx (E := (.invokestatic 107, 115, 0, 0)) (k' := 115) (as := [.int a0, .int a1]) rfl rfl rfl rfl rfl rfl rfl rfl
theorem s_145_48 : Go d 145 48 L (.int x :: st) h Q = (if x = 0 then Go d 145 71 L st h Q else Go d 145 51 L st h Q) := go_ifeq rfl
theorem s_145_51 : Go d 145 51 [some (.ref r), o1, o2, o3, o4, o5, o6] (st) h Q = Go d 145 52 [some (.ref r), o1, o2, o3, o4, o5, o6] (.ref r :: st) h Q := go_lo (E := (.aload_n 0, 0, 0, 0)) rfl rfl rfl
theorem s_145_52 : Go d 145 52 L (.ref 53 :: st) (HP lx xs M) Q = Go d 145 55 L (.ref 63 :: st) (HP lx xs M) Q := go_gf rfl rfl (by decide) rfl
theorem s_145_55 : Go d 145 55 [some (.ref r), o1, o2, o3, o4, o5, o6] (st) h Q = Go d 145 56 [some (.ref r), o1, o2, o3, o4, o5, o6] (.ref r :: st) h Q := go_lo (E := (.aload_n 0, 0, 0, 0)) rfl rfl rfl
theorem s_145_56 : Go d 145 56 L (.ref 53 :: st) (HP lx xs M) Q = Go d 145 59 L (.int (M 53 17) :: st) (HP lx xs M) Q := go_gf rfl rfl (by decide) rfl
theorem s_145_59 : Go d 145 59 [o0, o1, some (.int x), o3, o4, o5, o6] (st) h Q = Go d 145 60 [o0, o1, some (.int x), o3, o4, o5, o6] (.int x :: st) h Q := go_lo (E := (.iload_n 2, 0, 0, 0)) rfl rfl rfl
theorem s_145_60 : Go d 145 60 L (.int y :: .int x :: .ref 63 :: st) (HP lx xs M) Q = (ex_in x 4 = true ∧ Go d 145 61 L (st) (HP lx xs (up M 63 x.toNatClampNeg y)) Q) := go_as rfl rfl (by decide) hs_63
theorem s_145_61 : Go d 145 61 [some (.ref r), o1, o2, o3, o4, o5, o6] (st) h Q = Go d 145 62 [some (.ref r), o1, o2, o3, o4, o5, o6] (.ref r :: st) h Q := go_lo (E := (.aload_n 0, 0, 0, 0)) rfl rfl rfl
theorem s_145_62 : Go d 145 62 L (.ref r :: st) h Q = Go d 145 63 L (.ref r :: .ref r :: st) h Q := go_op (E := (.dup, 0, 0, 0)) rfl rfl
theorem s_145_63 : Go d 145 63 L (.ref 53 :: st) (HP lx xs M) Q = Go d 145 66 L (.int (M 53 17) :: st) (HP lx xs M) Q := go_gf rfl rfl (by decide) rfl
theorem s_145_66 : Go d 145 66 L (st) h Q = Go d 145 67 L (.int (nI 1) :: st) h Q := go_ic rfl ci_i1
theorem s_145_67 : Go d 145 67 L (.int y :: .int x :: st) h Q = Go d 145 68 L (.int (x + y) :: st) h Q := go_op (E := (.iadd, 0, 0, 0)) rfl rfl
theorem s_145_68 : Go d 145 68 L (.int x :: .ref 53 :: st) (HP lx xs M) Q = Go d 145 71 L (st) (HP lx xs (up M 53 17 x)) Q := go_pf rfl rfl (by decide) (Nat.le_of_ble_eq_true rfl) rfl hf_53_17
theorem s_145_71 : Go d 145 71 [o0, o1, some (.int x), o3, o4, o5, o6] (st) h Q = Go d 145 74 [o0, o1, some (.int (x + nI 1)), o3, o4, o5, o6] (st) h Q := (ci_i1 ▸ go_lo (E := (.iinc 2 1, 0, 0, 0)) rfl rfl rfl : _ = Go d 145 74 [o0, o1, some (.int (x + nI 1)), o3, o4, o5, o6] (st) h Q)
theorem s_145_74 : Go d 145 74 L (st) h Q = Go d 145 38 L (st) h Q := go_goto rfl
theorem s_145_77 : Go d 145 77 L (st) h Q = Go d 145 78 L (.int (nI 0) :: st) h Q := go_ic rfl ci_i0
theorem s_145_78 : Go d 145 78 [o0, o1, o2, o3, o4, o5, o6] (.int x :: st) h Q = Go d 145 79 [o0, o1, some (.int x), o3, o4, o5, o6] (st) h Q := go_lo (E := (.istore_n 2, 0, 0, 0)) rfl rfl rfl
theorem s_145_79 : Go d 145 79 L (st) h Q = Go d 145 80 L (.int (nI 0) :: st) h Q := go_ic rfl ci_i0
theorem s_145_80 : Go d 145 80 [o0, o1, o2, o3, o4, o5, o6] (.int x :: st) h Q = Go d 145 81 [o0, o1, o2, some (.int x), o4, o5, o6] (st) h Q := go_lo (E := (.istore_n 3, 0, 0, 0)) rfl rfl rfl
theorem s_145_81 : Go d 145 81 [o0, o1, o2, some (.int x), o4, o5, o6] (st) h Q = Go d 145 82 [o0, o1, o2, some (.int x), o4, o5, o6] (.int x :: st) h Q := go_lo (E := (.iload_n 3, 0, 0, 0)) rfl rfl rfl
theorem s_145_82 : Go d 145 82 [some (.ref r), o1, o2, o3, o4, o5, o6] (st) h Q = Go d 145 83 [some (.ref r), o1, o2, o3, o4, o5, o6] (.ref r :: st) h Q := go_lo (E := (.aload_n 0, 0, 0, 0)) rfl rfl rfl
theorem s_145_83 : Go d 145 83 L (.ref 53 :: st) (HP lx xs M) Q = Go d 145 86 L (.int (M 53 4) :: st) (HP lx xs M) Q := go_gf rfl rfl (by decide) rfl
theorem s_145_86 : Go d 145 86 L (.int y :: .int x :: st) h Q = (if x < y then Go d 145 89 L st h Q else Go d 145 152 L st h Q) := go_icge rfl
theorem s_145_89 : Go d 145 89 L (st) h Q = Go d 145 90 L (.int (nI 0) :: st) h Q := go_ic rfl ci_i0
theorem s_145_90 : Go d 145 90 [o0, o1, o2, o3, o4, o5, o6] (.int x :: st) h Q = Go d 145 92 [o0, o1, o2, o3, some (.int x), o5, o6] (st) h Q := go_lo (E := (.istore 4, 0, 0, 0)) rfl rfl rfl
theorem s_145_92 : Go d 145 92 [o0, o1, o2, o3, some (.int x), o5, o6] (st) h Q = Go d 145 94 [o0, o1, o2, o3, some (.int x), o5, o6] (.int x :: st) h Q := go_lo (E := (.iload 4, 0, 0, 0)) rfl rfl rfl
theorem s_145_94 : Go d 145 94 [some (.ref r), o1, o2, o3, o4, o5, o6] (st) h Q = Go d 145 95 [some (.ref r), o1, o2, o3, o4, o5, o6] (.ref r :: st) h Q := go_lo (E := (.aload_n 0, 0, 0, 0)) rfl rfl rfl
theorem s_145_95 : Go d 145 95 L (.ref 53 :: st) (HP lx xs M) Q = Go d 145 98 L (.int (M 53 17) :: st) (HP lx xs M) Q := go_gf rfl rfl (by decide) rfl
theorem s_145_98 : Go d 145 98 L (.int y :: .int x :: st) h Q = (if x < y then Go d 145 101 L st h Q else Go d 145 146 L st h Q) := go_icge rfl
theorem s_145_101 : Go d 145 101 [o0, o1, some (.int x), o3, o4, o5, o6] (st) h Q = Go d 145 102 [o0, o1, some (.int x), o3, o4, o5, o6] (.int x :: st) h Q := go_lo (E := (.iload_n 2, 0, 0, 0)) rfl rfl rfl
theorem s_145_102 : Go d 145 102 [some (.ref r), o1, o2, o3, o4, o5, o6] (st) h Q = Go d 145 103 [some (.ref r), o1, o2, o3, o4, o5, o6] (.ref r :: st) h Q := go_lo (E := (.aload_n 0, 0, 0, 0)) rfl rfl rfl
theorem s_145_103 : Go d 145 103 L (.ref 53 :: st) (HP lx xs M) Q = Go d 145 106 L (.ref 56 :: st) (HP lx xs M) Q := go_gf rfl rfl (by decide) rfl
theorem s_145_106 : Go d 145 106 L (st) h Q = Go d 145 107 L (.int (nI 4) :: st) h Q := go_ic rfl ci_i4
theorem s_145_107 : Go d 145 107 [o0, o1, o2, some (.int x), o4, o5, o6] (st) h Q = Go d 145 108 [o0, o1, o2, some (.int x), o4, o5, o6] (.int x :: st) h Q := go_lo (E := (.iload_n 3, 0, 0, 0)) rfl rfl rfl
theorem s_145_108 : Go d 145 108 L (.int y :: .int x :: st) h Q = Go d 145 109 L (.int (x * y) :: st) h Q := go_op (E := (.imul, 0, 0, 0)) rfl rfl
theorem s_145_109 : Go d 145 109 [some (.ref r), o1, o2, o3, o4, o5, o6] (st) h Q = Go d 145 110 [some (.ref r), o1, o2, o3, o4, o5, o6] (.ref r :: st) h Q := go_lo (E := (.aload_n 0, 0, 0, 0)) rfl rfl rfl
theorem s_145_110 : Go d 145 110 L (.ref 53 :: st) (HP lx xs M) Q = Go d 145 113 L (.ref 63 :: st) (HP lx xs M) Q := go_gf rfl rfl (by decide) rfl
theorem s_145_113 : Go d 145 113 [o0, o1, o2, o3, some (.int x), o5, o6] (st) h Q = Go d 145 115 [o0, o1, o2, o3, some (.int x), o5, o6] (.int x :: st) h Q := go_lo (E := (.iload 4, 0, 0, 0)) rfl rfl rfl
theorem s_145_115 : Go d 145 115 L (.int x :: .ref 63 :: st) (HP lx xs M) Q = (ex_in x 4 = true ∧ Go d 145 116 L (.int (M 63 x.toNatClampNeg) :: st) (HP lx xs M) Q) := go_al rfl rfl
theorem s_145_116 : Go d 145 116 L (.int y :: .int x :: st) h Q = Go d 145 117 L (.int (x + y) :: st) h Q := go_op (E := (.iadd, 0, 0, 0)) rfl rfl
theorem s_145_117 : Go d 145 117 L (.int x :: .ref 56 :: st) (HP lx xs M) Q = (ex_in x 24 = true ∧ Go d 145 118 L (.int (M 56 x.toNatClampNeg) :: st) (HP lx xs M) Q) := go_al rfl rfl
theorem s_145_118 : Go d 145 118 L (st) h Q = Go d 145 120 L (.int (nI 97) :: st) h Q := go_bi rfl ci_b97
theorem s_145_120 : Go d 145 120 L (.int y :: .int x :: st) h Q = (if x < y then Go d 145 123 L st h Q else Go d 145 137 L st h Q) := go_icge rfl
theorem s_145_123 : Go d 145 123 L (st) h Q = Go d 145 124 L (.int (nI 1) :: st) h Q := go_ic rfl ci_i1
theorem s_145_124 : Go d 145 124 [some (.ref r), o1, o2, o3, o4, o5, o6] (st) h Q = Go d 145 125 [some (.ref r), o1, o2, o3, o4, o5, o6] (.ref r :: st) h Q := go_lo (E := (.aload_n 0, 0, 0, 0)) rfl rfl rfl
theorem s_145_125 : Go d 145 125 L (.ref 53 :: st) (HP lx xs M) Q = Go d 145 128 L (.int (M 53 17) :: st) (HP lx xs M) Q := go_gf rfl rfl (by decide) rfl
theorem s_145_128 : Go d 145 128 [o0, o1, o2, some (.int x), o4, o5, o6] (st) h Q = Go d 145 129 [o0, o1, o2, some (.int x), o4, o5, o6] (.int x :: st) h Q := go_lo (E := (.iload_n 3, 0, 0, 0)) rfl rfl rfl
theorem s_145_129 : Go d 145 129 L (.int y :: .int x :: st) h Q = Go d 145 130 L (.int (x * y) :: st) h Q := go_op (E := (.imul, 0, 0, 0)) rfl rfl
theorem s_145_130 : Go d 145 130 [o0, o1, o2, o3, some (.int x), o5, o6] (st) h Q = Go d 145 132 [o0, o1, o2, o3, some (.int x), o5, o6] (.int x :: st) h Q := go_lo (E := (.iload 4, 0, 0, 0)) rfl rfl rfl
theorem s_145_132 : Go d 145 132 L (.int y :: .int x :: st) h Q = Go d 145 133 L (.int (x + y) :: st) h Q := go_op (E := (.iadd, 0, 0, 0)) rfl rfl
theorem s_145_133 : Go d 145 133 L (.int y :: .int x :: st) h Q = Go d 145 134 L (.int (x <<< (y &&& 31)) :: st) h Q := go_op (E := (.ishl, 0, 0, 0)) rfl rfl
theorem s_145_134 : Go d 145 134 L (st) h Q = Go d 145 138 L (st) h Q := go_goto rfl
theorem s_145_137 : Go d 145 137 L (st) h Q = Go d 145 138 L (.int (nI 0) :: st) h Q := go_ic rfl ci_i0
theorem s_145_138 : Go d 145 138 L (.int y :: .int x :: st) h Q = Go d 145 139 L (.int (x ||| y) :: st) h Q := go_op (E := (.ior, 0, 0, 0)) rfl rfl
theorem s_145_139 : Go d 145 139 [o0, o1, o2, o3, o4, o5, o6] (.int x :: st) h Q = Go d 145 140 [o0, o1, some (.int x), o3, o4, o5, o6] (st) h Q := go_lo (E := (.istore_n 2, 0, 0, 0)) rfl rfl rfl
theorem s_145_140 : Go d 145 140 [o0, o1, o2, o3, some (.int x), o5, o6] (st) h Q = Go d 145 143 [o0, o1, o2, o3, some (.int (x + nI 1)), o5, o6] (st) h Q := (ci_i1 ▸ go_lo (E := (.iinc 4 1, 0, 0, 0)) rfl rfl rfl : _ = Go d 145 143 [o0, o1, o2, o3, some (.int (x + nI 1)), o5, o6] (st) h Q)
theorem s_145_143 : Go d 145 143 L (st) h Q = Go d 145 92 L (st) h Q := go_goto rfl
theorem s_145_146 : Go d 145 146 [o0, o1, o2, some (.int x), o4, o5, o6] (st) h Q = Go d 145 149 [o0, o1, o2, some (.int (x + nI 1)), o4, o5, o6] (st) h Q := (ci_i1 ▸ go_lo (E := (.iinc 3 1, 0, 0, 0)) rfl rfl rfl : _ = Go d 145 149 [o0, o1, o2, some (.int (x + nI 1)), o4, o5, o6] (st) h Q)
theorem s_145_149 : Go d 145 149 L (st) h Q = Go d 145 81 L (st) h Q := go_goto rfl
theorem s_145_152 : Go d 145 152 L (st) h Q = Go d 145 153 L (.int (nI 1) :: st) h Q := go_ic rfl ci_i1
theorem s_145_153 : Go d 145 153 [some (.ref r), o1, o2, o3, o4, o5, o6] (st) h Q = Go d 145 154 [some (.ref r), o1, o2, o3, o4, o5, o6] (.ref r :: st) h Q := go_lo (E := (.aload_n 0, 0, 0, 0)) rfl rfl rfl
theorem s_145_154 : Go d 145 154 L (.ref 53 :: st) (HP lx xs M) Q = Go d 145 157 L (.int (M 53 4) :: st) (HP lx xs M) Q := go_gf rfl rfl (by decide) rfl
theorem s_145_157 : Go d 145 157 [some (.ref r), o1, o2, o3, o4, o5, o6] (st) h Q = Go d 145 158 [some (.ref r), o1, o2, o3, o4, o5, o6] (.ref r :: st) h Q := go_lo (E := (.aload_n 0, 0, 0, 0)) rfl rfl rfl
set_option maxRecDepth 30000 in
theorem s_145_158 : Go d 145 158 L (.ref 53 :: st) (HP lx xs M) Q = Go d 145 161 L (.int (M 53 17) :: st) (HP lx xs M) Q := go_gf rfl rfl (by decide) rfl
set_option maxRecDepth 30000 in
theorem s_145_161 : Go d 145 161 L (.int y :: .int x :: st) h Q = Go d 145 162 L (.int (x * y) :: st) h Q := go_op (E := (.imul, 0, 0, 0)) rfl rfl
set_option maxRecDepth 30000 in
theorem s_145_162 : Go d 145 162 L (.int y :: .int x :: st) h Q = Go d 145 163 L (.int (x <<< (y &&& 31)) :: st) h Q := go_op (E := (.ishl, 0, 0, 0)) rfl rfl
set_option maxRecDepth 30000 in
theorem s_145_163 : Go d 145 163 L (st) h Q = Go d 145 164 L (.int (nI 1) :: st) h Q := go_ic rfl ci_i1
set_option maxRecDepth 30000 in
theorem s_145_164 : Go d 145 164 L (.int y :: .int x :: st) h Q = Go d 145 165 L (.int (x - y) :: st) h Q := go_op (E := (.isub, 0, 0, 0)) rfl rfl
set_option maxRecDepth 30000 in
theorem s_145_165 : Go d 145 165 [o0, o1, o2, o3, o4, o5, o6] (.int x :: st) h Q = Go d 145 166 [o0, o1, o2, some (.int x), o4, o5, o6] (st) h Q := go_lo (E := (.istore_n 3, 0, 0, 0)) rfl rfl rfl
set_option maxRecDepth 30000 in
theorem s_145_166 : Go d 145 166 L (st) h Q = Go d 145 167 L (.int (nI 0) :: st) h Q := go_ic rfl ci_i0
set_option maxRecDepth 30000 in
theorem s_145_167 : Go d 145 167 [o0, o1, o2, o3, o4, o5, o6] (.int x :: st) h Q = Go d 145 169 [o0, o1, o2, o3, some (.int x), o5, o6] (st) h Q := go_lo (E := (.istore 4, 0, 0, 0)) rfl rfl rfl
set_option maxRecDepth 30000 in
theorem s_145_169 : Go d 145 169 [o0, o1, o2, o3, some (.int x), o5, o6] (st) h Q = Go d 145 171 [o0, o1, o2, o3, some (.int x), o5, o6] (.int x :: st) h Q := go_lo (E := (.iload 4, 0, 0, 0)) rfl rfl rfl
set_option maxRecDepth 30000 in
theorem s_145_171 : Go d 145 171 [o0, o1, o2, some (.int x), o4, o5, o6] (st) h Q = Go d 145 172 [o0, o1, o2, some (.int x), o4, o5, o6] (.int x :: st) h Q := go_lo (E := (.iload_n 3, 0, 0, 0)) rfl rfl rfl
set_option maxRecDepth 30000 in
theorem s_145_172 : Go d 145 172 L (.int y :: .int x :: st) h Q = (if y < x then Go d 145 199 L st h Q else Go d 145 175 L st h Q) := go_icgt rfl
set_option maxRecDepth 30000 in
theorem s_145_175 : Go d 145 175 [some (.ref r), o1, o2, o3, o4, o5, o6] (st) h Q = Go d 145 176 [some (.ref r), o1, o2, o3, o4, o5, o6] (.ref r :: st) h Q := go_lo (E := (.aload_n 0, 0, 0, 0)) rfl rfl rfl
set_option maxRecDepth 30000 in
theorem s_145_176 : Go d 145 176 L (.ref 53 :: st) (HP lx xs M) Q = Go d 145 179 L (.ref 61 :: st) (HP lx xs M) Q := go_gf rfl rfl (by decide) rfl
set_option maxRecDepth 30000 in
theorem s_145_179 : Go d 145 179 [o0, o1, o2, o3, some (.int x), o5, o6] (st) h Q = Go d 145 181 [o0, o1, o2, o3, some (.int x), o5, o6] (.int x :: st) h Q := go_lo (E := (.iload 4, 0, 0, 0)) rfl rfl rfl
set_option maxRecDepth 30000 in
theorem s_145_181 : Go d 145 181 [o0, o1, o2, o3, some (.int x), o5, o6] (st) h Q = Go d 145 183 [o0, o1, o2, o3, some (.int x), o5, o6] (.int x :: st) h Q := go_lo (E := (.iload 4, 0, 0, 0)) rfl rfl rfl
set_option maxRecDepth 30000 in
theorem s_145_183 : Go d 145 183 [o0, o1, some (.int x), o3, o4, o5, o6] (st) h Q = Go d 145 184 [o0, o1, some (.int x), o3, o4, o5, o6] (.int x :: st) h Q := go_lo (E := (.iload_n 2, 0, 0, 0)) rfl rfl rfl
set_option maxRecDepth 30000 in
theorem s_145_184 : Go d 145 184 L (.int y :: .int x :: st) h Q = (if x = y then Go d 145 187 L st h Q else Go d 145 191 L st h Q) := go_icne rfl
set_option maxRecDepth 30000 in
theorem s_145_187 : Go d 145 187 L (st) h Q = Go d 145 188 L (.int (nI 1) :: st) h Q := go_ic rfl ci_i1
set_option maxRecDepth 30000 in
theorem s_145_188 : Go d 145 188 L (st) h Q = Go d 145 192 L (st) h Q := go_goto rfl
set_option maxRecDepth 30000 in
theorem s_145_191 : Go d 145 191 L (st) h Q = Go d 145 192 L (.int (nI 0) :: st) h Q := go_ic rfl ci_i0
set_option maxRecDepth 30000 in
theorem s_145_192 : Go d 145 192 L (.int y :: .int x :: .ref 61 :: st) (HP lx xs M) Q = (ex_in x 4096 = true ∧ Go d 145 193 L (st) (HP lx xs (up M 61 x.toNatClampNeg (vp_nar .boolean y))) Q) := go_bs2 rfl rfl (by decide) hs_61
set_option maxRecDepth 30000 in
theorem s_145_193 : Go d 145 193 [o0, o1, o2, o3, some (.int x), o5, o6] (st) h Q = Go d 145 196 [o0, o1, o2, o3, some (.int (x + nI 1)), o5, o6] (st) h Q := (ci_i1 ▸ go_lo (E := (.iinc 4 1, 0, 0, 0)) rfl rfl rfl : _ = Go d 145 196 [o0, o1, o2, o3, some (.int (x + nI 1)), o5, o6] (st) h Q)
set_option maxRecDepth 30000 in
theorem s_145_196 : Go d 145 196 L (st) h Q = Go d 145 169 L (st) h Q := go_goto rfl
set_option maxRecDepth 30000 in
theorem s_145_199 : Go d 145 199 L (st) h Q = Go d 145 200 L (.int (nI 1) :: st) h Q := go_ic rfl ci_i1
set_option maxRecDepth 30000 in
theorem s_145_200 : Go d 145 200 [o0, o1, o2, o3, o4, o5, o6] (.int x :: st) h Q = Go d 145 202 [o0, o1, o2, o3, some (.int x), o5, o6] (st) h Q := go_lo (E := (.istore 4, 0, 0, 0)) rfl rfl rfl
set_option maxRecDepth 30000 in
theorem s_145_202 : Go d 145 202 L (st) h Q = Go d 145 203 L (.int (nI 0) :: st) h Q := go_ic rfl ci_i0
set_option maxRecDepth 30000 in
theorem s_145_203 : Go d 145 203 [o0, o1, o2, o3, o4, o5, o6] (.int x :: st) h Q = Go d 145 205 [o0, o1, o2, o3, o4, some (.int x), o6] (st) h Q := go_lo (E := (.istore 5, 0, 0, 0)) rfl rfl rfl
set_option maxRecDepth 30000 in
theorem s_145_205 : Go d 145 205 [o0, o1, o2, o3, some (.int x), o5, o6] (st) h Q = Go d 145 207 [o0, o1, o2, o3, some (.int x), o5, o6] (.int x :: st) h Q := go_lo (E := (.iload 4, 0, 0, 0)) rfl rfl rfl
set_option maxRecDepth 30000 in
theorem s_145_207 : Go d 145 207 L (.int x :: st) h Q = (if x = 0 then Go d 145 364 L st h Q else Go d 145 210 L st h Q) := go_ifeq rfl
set_option maxRecDepth 30000 in
theorem s_145_210 : Go d 145 210 [some (.ref r), o1, o2, o3, o4, o5, o6] (st) h Q = Go d 145 211 [some (.ref r), o1, o2, o3, o4, o5, o6] (.ref r :: st) h Q := go_lo (E := (.aload_n 0, 0, 0, 0)) rfl rfl rfl
set_option maxRecDepth 30000 in
theorem s_145_211 : Go d 145 211 L (.ref 53 :: st) (HP lx xs M) Q = Go d 145 214 L (.ref 61 :: st) (HP lx xs M) Q := go_gf rfl rfl (by decide) rfl
set_option maxRecDepth 30000 in
theorem s_145_214 : Go d 145 214 [o0, o1, o2, some (.int x), o4, o5, o6] (st) h Q = Go d 145 215 [o0, o1, o2, some (.int x), o4, o5, o6] (.int x :: st) h Q := go_lo (E := (.iload_n 3, 0, 0, 0)) rfl rfl rfl
set_option maxRecDepth 30000 in
theorem s_145_215 : Go d 145 215 L (.int x :: .ref 61 :: st) (HP lx xs M) Q = (ex_in x 4096 = true ∧ Go d 145 216 L (.int (M 61 x.toNatClampNeg) :: st) (HP lx xs M) Q) := go_bl rfl rfl (by decide) (by decide)
set_option maxRecDepth 30000 in
theorem s_145_216 : Go d 145 216 L (.int x :: st) h Q = (if x = 0 then Go d 145 222 L st h Q else Go d 145 219 L st h Q) := go_ifeq rfl
set_option maxRecDepth 30000 in
theorem s_145_219 : Go d 145 219 [o0, o1, o2, o3, o4, some (.int x), o6] (st) h Q = Go d 145 221 [o0, o1, o2, o3, o4, some (.int x), o6] (.int x :: st) h Q := go_lo (E := (.iload 5, 0, 0, 0)) rfl rfl rfl
set_option maxRecDepth 30000 in
theorem s_145_221 : Go d 145 221 L [.int x] h Q = Q (some (.int x)) h := go_ri rfl rfl
set_option maxRecDepth 30000 in
theorem s_145_222 : Go d 145 222 L (st) h Q = Go d 145 223 L (.int (nI 0) :: st) h Q := go_ic rfl ci_i0
set_option maxRecDepth 30000 in
theorem s_145_223 : Go d 145 223 [o0, o1, o2, o3, o4, o5, o6] (.int x :: st) h Q = Go d 145 225 [o0, o1, o2, o3, o4, o5, some (.int x)] (st) h Q := go_lo (E := (.istore 6, 0, 0, 0)) rfl rfl rfl
set_option maxRecDepth 30000 in
theorem s_145_225 : Go d 145 225 [o0, o1, o2, o3, o4, o5, some (.int x)] (st) h Q = Go d 145 227 [o0, o1, o2, o3, o4, o5, some (.int x)] (.int x :: st) h Q := go_lo (E := (.iload 6, 0, 0, 0)) rfl rfl rfl
set_option maxRecDepth 30000 in
theorem s_145_227 : Go d 145 227 [o0, o1, o2, some (.int x), o4, o5, o6] (st) h Q = Go d 145 228 [o0, o1, o2, some (.int x), o4, o5, o6] (.int x :: st) h Q := go_lo (E := (.iload_n 3, 0, 0, 0)) rfl rfl rfl
set_option maxRecDepth 30000 in
theorem s_145_228 : Go d 145 228 L (.int y :: .int x :: st) h Q = (if y < x then Go d 145 245 L st h Q else Go d 145 231 L st h Q) := go_icgt rfl
set_option maxRecDepth 30000 in
theorem s_145_231 : Go d 145 231 [some (.ref r), o1, o2, o3, o4, o5, o6] (st) h Q = Go d 145 232 [some (.ref r), o1, o2, o3, o4, o5, o6] (.ref r :: st) h Q := go_lo (E := (.aload_n 0, 0, 0, 0)) rfl rfl rfl
set_option maxRecDepth 30000 in
theorem s_145_232 : Go d 145 232 L (.ref 53 :: st) (HP lx xs M) Q = Go d 145 235 L (.ref 62 :: st) (HP lx xs M) Q := go_gf rfl rfl (by decide) rfl
set_option maxRecDepth 30000 in
theorem s_145_235 : Go d 145 235 [o0, o1, o2, o3, o4, o5, some (.int x)] (st) h Q = Go d 145 237 [o0, o1, o2, o3, o4, o5, some (.int x)] (.int x :: st) h Q := go_lo (E := (.iload 6, 0, 0, 0)) rfl rfl rfl
set_option maxRecDepth 30000 in
theorem s_145_237 : Go d 145 237 L (st) h Q = Go d 145 238 L (.int (nI 0) :: st) h Q := go_ic rfl ci_i0
set_option maxRecDepth 30000 in
theorem s_145_238 : Go d 145 238 L (.int y :: .int x :: .ref 62 :: st) (HP lx xs M) Q = (ex_in x 4096 = true ∧ Go d 145 239 L (st) (HP lx xs (up M 62 x.toNatClampNeg (vp_nar .boolean y))) Q) := go_bs2 rfl rfl (by decide) hs_62
set_option maxRecDepth 30000 in
theorem s_145_239 : Go d 145 239 [o0, o1, o2, o3, o4, o5, some (.int x)] (st) h Q = Go d 145 242 [o0, o1, o2, o3, o4, o5, some (.int (x + nI 1))] (st) h Q := (ci_i1 ▸ go_lo (E := (.iinc 6 1, 0, 0, 0)) rfl rfl rfl : _ = Go d 145 242 [o0, o1, o2, o3, o4, o5, some (.int (x + nI 1))] (st) h Q)
set_option maxRecDepth 30000 in
theorem s_145_242 : Go d 145 242 L (st) h Q = Go d 145 225 L (st) h Q := go_goto rfl
set_option maxRecDepth 30000 in
theorem s_145_245 : Go d 145 245 L (st) h Q = Go d 145 246 L (.int (nI 0) :: st) h Q := go_ic rfl ci_i0
set_option maxRecDepth 30000 in
theorem s_145_246 : Go d 145 246 [o0, o1, o2, o3, o4, o5, o6] (.int x :: st) h Q = Go d 145 248 [o0, o1, o2, o3, o4, o5, some (.int x)] (st) h Q := go_lo (E := (.istore 6, 0, 0, 0)) rfl rfl rfl
set_option maxRecDepth 30000 in
theorem s_145_248 : Go d 145 248 [o0, o1, o2, o3, o4, o5, some (.int x)] (st) h Q = Go d 145 250 [o0, o1, o2, o3, o4, o5, some (.int x)] (.int x :: st) h Q := go_lo (E := (.iload 6, 0, 0, 0)) rfl rfl rfl
set_option maxRecDepth 30000 in
theorem s_145_250 : Go d 145 250 [o0, o1, o2, some (.int x), o4, o5, o6] (st) h Q = Go d 145 251 [o0, o1, o2, some (.int x), o4, o5, o6] (.int x :: st) h Q := go_lo (E := (.iload_n 3, 0, 0, 0)) rfl rfl rfl
set_option maxRecDepth 30000 in
theorem s_145_251 : Go d 145 251 L (.int y :: .int x :: st) h Q = (if y < x then Go d 145 276 L st h Q else Go d 145 254 L st h Q) := go_icgt rfl
set_option maxRecDepth 30000 in
theorem s_145_254 : Go d 145 254 [some (.ref r), o1, o2, o3, o4, o5, o6] (st) h Q = Go d 145 255 [some (.ref r), o1, o2, o3, o4, o5, o6] (.ref r :: st) h Q := go_lo (E := (.aload_n 0, 0, 0, 0)) rfl rfl rfl
set_option maxRecDepth 30000 in
theorem s_145_255 : Go d 145 255 L (.ref 53 :: st) (HP lx xs M) Q = Go d 145 258 L (.ref 61 :: st) (HP lx xs M) Q := go_gf rfl rfl (by decide) rfl
set_option maxRecDepth 30000 in
theorem s_145_258 : Go d 145 258 [o0, o1, o2, o3, o4, o5, some (.int x)] (st) h Q = Go d 145 260 [o0, o1, o2, o3, o4, o5, some (.int x)] (.int x :: st) h Q := go_lo (E := (.iload 6, 0, 0, 0)) rfl rfl rfl
set_option maxRecDepth 30000 in
theorem s_145_260 : Go d 145 260 L (.int x :: .ref 61 :: st) (HP lx xs M) Q = (ex_in x 4096 = true ∧ Go d 145 261 L (.int (M 61 x.toNatClampNeg) :: st) (HP lx xs M) Q) := go_bl rfl rfl (by decide) (by decide)
set_option maxRecDepth 30000 in
theorem s_145_261 : Go d 145 261 L (.int x :: st) h Q = (if x = 0 then Go d 145 270 L st h Q else Go d 145 264 L st h Q) := go_ifeq rfl
set_option maxRecDepth 30000 in
theorem s_145_264 : Go d 145 264 [some (.ref r), o1, o2, o3, o4, o5, o6] (st) h Q = Go d 145 265 [some (.ref r), o1, o2, o3, o4, o5, o6] (.ref r :: st) h Q := go_lo (E := (.aload_n 0, 0, 0, 0)) rfl rfl rfl
set_option maxRecDepth 30000 in
theorem s_145_265 : Go d 145 265 [o0, o1, o2, o3, o4, o5, some (.int x)] (st) h Q = Go d 145 267 [o0, o1, o2, o3, o4, o5, some (.int x)] (.int x :: st) h Q := go_lo (E := (.iload 6, 0, 0, 0)) rfl rfl rfl
set_option maxRecDepth 30000 in
theorem s_145_267 {a1 : Int32} : Go (d + 1) 145 267 L [.int a1, .ref 53] (HP lx xs M) Q = Go d 144 0 [some (.ref 53), some (.int a1), none, none, none, none, none, none, none, none, none] [] (HP lx xs M) (fun v h2 => Go (d + 1) 145 270 L (ap v []) h2 Q) := go_cx (E := (.invokevirtual 187, 144, 0, 7)) (k' := 144) (as := [.ref 53, .int a1]) rfl rfl rfl rfl rfl rfl rfl rfl
set_option maxRecDepth 30000 in
theorem s_145_270 : Go d 145 270 [o0, o1, o2, o3, o4, o5, some (.int x)] (st) h Q = Go d 145 273 [o0, o1, o2, o3, o4, o5, some (.int (x + nI 1))] (st) h Q := (ci_i1 ▸ go_lo (E := (.iinc 6 1, 0, 0, 0)) rfl rfl rfl : _ = Go d 145 273 [o0, o1, o2, o3, o4, o5, some (.int (x + nI 1))] (st) h Q)
set_option maxRecDepth 30000 in
theorem s_145_273 : Go d 145 273 L (st) h Q = Go d 145 248 L (st) h Q := go_goto rfl
set_option maxRecDepth 30000 in
theorem s_145_276 : Go d 145 276 L (st) h Q = Go d 145 277 L (.int (nI 0) :: st) h Q := go_ic rfl ci_i0
set_option maxRecDepth 30000 in
theorem s_145_277 : Go d 145 277 [o0, o1, o2, o3, o4, o5, o6] (.int x :: st) h Q = Go d 145 279 [o0, o1, o2, o3, some (.int x), o5, o6] (st) h Q := go_lo (E := (.istore 4, 0, 0, 0)) rfl rfl rfl
set_option maxRecDepth 30000 in
theorem s_145_279 : Go d 145 279 L (st) h Q = Go d 145 280 L (.int (nI 0) :: st) h Q := go_ic rfl ci_i0
set_option maxRecDepth 30000 in
theorem s_145_280 : Go d 145 280 [o0, o1, o2, o3, o4, o5, o6] (.int x :: st) h Q = Go d 145 282 [o0, o1, o2, o3, o4, o5, some (.int x)] (st) h Q := go_lo (E := (.istore 6, 0, 0, 0)) rfl rfl rfl
set_option maxRecDepth 30000 in
theorem s_145_282 : Go d 145 282 [o0, o1, o2, o3, o4, o5, some (.int x)] (st) h Q = Go d 145 284 [o0, o1, o2, o3, o4, o5, some (.int x)] (.int x :: st) h Q := go_lo (E := (.iload 6, 0, 0, 0)) rfl rfl rfl
set_option maxRecDepth 30000 in
theorem s_145_284 : Go d 145 284 [o0, o1, o2, some (.int x), o4, o5, o6] (st) h Q = Go d 145 285 [o0, o1, o2, some (.int x), o4, o5, o6] (.int x :: st) h Q := go_lo (E := (.iload_n 3, 0, 0, 0)) rfl rfl rfl
set_option maxRecDepth 30000 in
theorem s_145_285 : Go d 145 285 L (.int y :: .int x :: st) h Q = (if y < x then Go d 145 358 L st h Q else Go d 145 288 L st h Q) := go_icgt rfl
set_option maxRecDepth 30000 in
theorem s_145_288 : Go d 145 288 [o0, o1, o2, o3, some (.int x), o5, o6] (st) h Q = Go d 145 290 [o0, o1, o2, o3, some (.int x), o5, o6] (.int x :: st) h Q := go_lo (E := (.iload 4, 0, 0, 0)) rfl rfl rfl
set_option maxRecDepth 30000 in
theorem s_145_290 : Go d 145 290 L (.int x :: st) h Q = (if x = 0 then Go d 145 293 L st h Q else Go d 145 313 L st h Q) := go_ifne rfl
set_option maxRecDepth 30000 in
theorem s_145_293 : Go d 145 293 [some (.ref r), o1, o2, o3, o4, o5, o6] (st) h Q = Go d 145 294 [some (.ref r), o1, o2, o3, o4, o5, o6] (.ref r :: st) h Q := go_lo (E := (.aload_n 0, 0, 0, 0)) rfl rfl rfl
set_option maxRecDepth 30000 in
theorem s_145_294 : Go d 145 294 L (.ref 53 :: st) (HP lx xs M) Q = Go d 145 297 L (.ref 62 :: st) (HP lx xs M) Q := go_gf rfl rfl (by decide) rfl
set_option maxRecDepth 30000 in
theorem s_145_297 : Go d 145 297 [o0, o1, o2, o3, o4, o5, some (.int x)] (st) h Q = Go d 145 299 [o0, o1, o2, o3, o4, o5, some (.int x)] (.int x :: st) h Q := go_lo (E := (.iload 6, 0, 0, 0)) rfl rfl rfl
set_option maxRecDepth 30000 in
theorem s_145_299 : Go d 145 299 L (.int x :: .ref 62 :: st) (HP lx xs M) Q = (ex_in x 4096 = true ∧ Go d 145 300 L (.int (M 62 x.toNatClampNeg) :: st) (HP lx xs M) Q) := go_bl rfl rfl (by decide) (by decide)
set_option maxRecDepth 30000 in
theorem s_145_300 : Go d 145 300 L (.int x :: st) h Q = (if x = 0 then Go d 145 317 L st h Q else Go d 145 303 L st h Q) := go_ifeq rfl
set_option maxRecDepth 30000 in
theorem s_145_303 : Go d 145 303 [some (.ref r), o1, o2, o3, o4, o5, o6] (st) h Q = Go d 145 304 [some (.ref r), o1, o2, o3, o4, o5, o6] (.ref r :: st) h Q := go_lo (E := (.aload_n 0, 0, 0, 0)) rfl rfl rfl
set_option maxRecDepth 30000 in
theorem s_145_304 : Go d 145 304 L (.ref 53 :: st) (HP lx xs M) Q = Go d 145 307 L (.ref 61 :: st) (HP lx xs M) Q := go_gf rfl rfl (by decide) rfl
set_option maxRecDepth 30000 in
theorem s_145_307 : Go d 145 307 [o0, o1, o2, o3, o4, o5, some (.int x)] (st) h Q = Go d 145 309 [o0, o1, o2, o3, o4, o5, some (.int x)] (.int x :: st) h Q := go_lo (E := (.iload 6, 0, 0, 0)) rfl rfl rfl
set_option maxRecDepth 30000 in
theorem s_145_309 : Go d 145 309 L (.int x :: .ref 61 :: st) (HP lx xs M) Q = (ex_in x 4096 = true ∧ Go d 145 310 L (.int (M 61 x.toNatClampNeg) :: st) (HP lx xs M) Q) := go_bl rfl rfl (by decide) (by decide)
set_option maxRecDepth 30000 in
theorem s_145_310 : Go d 145 310 L (.int x :: st) h Q = (if x = 0 then Go d 145 313 L st h Q else Go d 145 317 L st h Q) := go_ifne rfl
set_option maxRecDepth 30000 in
theorem s_145_313 : Go d 145 313 L (st) h Q = Go d 145 314 L (.int (nI 1) :: st) h Q := go_ic rfl ci_i1
set_option maxRecDepth 30000 in
theorem s_145_314 : Go d 145 314 L (st) h Q = Go d 145 318 L (st) h Q := go_goto rfl
set_option maxRecDepth 30000 in
theorem s_145_317 : Go d 145 317 L (st) h Q = Go d 145 318 L (.int (nI 0) :: st) h Q := go_ic rfl ci_i0
set_option maxRecDepth 30000 in
theorem s_145_318 : Go d 145 318 [o0, o1, o2, o3, o4, o5, o6] (.int x :: st) h Q = Go d 145 320 [o0, o1, o2, o3, some (.int x), o5, o6] (st) h Q := go_lo (E := (.istore 4, 0, 0, 0)) rfl rfl rfl
set_option maxRecDepth 30000 in
theorem s_145_320 : Go d 145 320 [some (.ref r), o1, o2, o3, o4, o5, o6] (st) h Q = Go d 145 321 [some (.ref r), o1, o2, o3, o4, o5, o6] (.ref r :: st) h Q := go_lo (E := (.aload_n 0, 0, 0, 0)) rfl rfl rfl
set_option maxRecDepth 30000 in
theorem s_145_321 : Go d 145 321 L (.ref 53 :: st) (HP lx xs M) Q = Go d 145 324 L (.ref 61 :: st) (HP lx xs M) Q := go_gf rfl rfl (by decide) rfl
set_option maxRecDepth 30000 in
theorem s_145_324 : Go d 145 324 [o0, o1, o2, o3, o4, o5, some (.int x)] (st) h Q = Go d 145 326 [o0, o1, o2, o3, o4, o5, some (.int x)] (.int x :: st) h Q := go_lo (E := (.iload 6, 0, 0, 0)) rfl rfl rfl
set_option maxRecDepth 30000 in
theorem s_145_326 : Go d 145 326 [some (.ref r), o1, o2, o3, o4, o5, o6] (st) h Q = Go d 145 327 [some (.ref r), o1, o2, o3, o4, o5, o6] (.ref r :: st) h Q := go_lo (E := (.aload_n 0, 0, 0, 0)) rfl rfl rfl
set_option maxRecDepth 30000 in
theorem s_145_327 : Go d 145 327 L (.ref 53 :: st) (HP lx xs M) Q = Go d 145 330 L (.ref 61 :: st) (HP lx xs M) Q := go_gf rfl rfl (by decide) rfl
set_option maxRecDepth 30000 in
theorem s_145_330 : Go d 145 330 [o0, o1, o2, o3, o4, o5, some (.int x)] (st) h Q = Go d 145 332 [o0, o1, o2, o3, o4, o5, some (.int x)] (.int x :: st) h Q := go_lo (E := (.iload 6, 0, 0, 0)) rfl rfl rfl
set_option maxRecDepth 30000 in
theorem s_145_332 : Go d 145 332 L (.int x :: .ref 61 :: st) (HP lx xs M) Q = (ex_in x 4096 = true ∧ Go d 145 333 L (.int (M 61 x.toNatClampNeg) :: st) (HP lx xs M) Q) := go_bl rfl rfl (by decide) (by decide)
set_option maxRecDepth 30000 in
theorem s_145_333 : Go d 145 333 L (.int x :: st) h Q = (if x = 0 then Go d 145 336 L st h Q else Go d 145 346 L st h Q) := go_ifne rfl
set_option maxRecDepth 30000 in
theorem s_145_336 : Go d 145 336 [some (.ref r), o1, o2, o3, o4, o5, o6] (st) h Q = Go d 145 337 [some (.ref r), o1, o2, o3, o4, o5, o6] (.ref r :: st) h Q := go_lo (E := (.aload_n 0, 0, 0, 0)) rfl rfl rfl
set_option maxRecDepth 30000 in
theorem s_145_337 : Go d 145 337 L (.ref 53 :: st) (HP lx xs M) Q = Go d 145 340 L (.ref 62 :: st) (HP lx xs M) Q := go_gf rfl rfl (by decide) rfl
set_option maxRecDepth 30000 in
theorem s_145_340 : Go d 145 340 [o0, o1, o2, o3, o4, o5, some (.int x)] (st) h Q = Go d 145 342 [o0, o1, o2, o3, o4, o5, some (.int x)] (.int x :: st) h Q := go_lo (E := (.iload 6, 0, 0, 0)) rfl rfl rfl
set_option maxRecDepth 30000 in
theorem s_145_342 : Go d 145 342 L (.int x :: .ref 62 :: st) (HP lx xs M) Q = (ex_in x 4096 = true ∧ Go d 145 343 L (.int (M 62 x.toNatClampNeg) :: st) (HP lx xs M) Q) := go_bl rfl rfl (by decide) (by decide)
set_option maxRecDepth 30000 in
theorem s_145_343 : Go d 145 343 L (.int x :: st) h Q = (if x = 0 then Go d 145 350 L st h Q else Go d 145 346 L st h Q) := go_ifeq rfl
set_option maxRecDepth 30000 in
theorem s_145_346 : Go d 145 346 L (st) h Q = Go d 145 347 L (.int (nI 1) :: st) h Q := go_ic rfl ci_i1
set_option maxRecDepth 30000 in
theorem s_145_347 : Go d 145 347 L (st) h Q = Go d 145 351 L (st) h Q := go_goto rfl
set_option maxRecDepth 30000 in
theorem s_145_350 : Go d 145 350 L (st) h Q = Go d 145 351 L (.int (nI 0) :: st) h Q := go_ic rfl ci_i0
set_option maxRecDepth 30000 in
theorem s_145_351 : Go d 145 351 L (.int y :: .int x :: .ref 61 :: st) (HP lx xs M) Q = (ex_in x 4096 = true ∧ Go d 145 352 L (st) (HP lx xs (up M 61 x.toNatClampNeg (vp_nar .boolean y))) Q) := go_bs2 rfl rfl (by decide) hs_61
set_option maxRecDepth 30000 in
theorem s_145_352 : Go d 145 352 [o0, o1, o2, o3, o4, o5, some (.int x)] (st) h Q = Go d 145 355 [o0, o1, o2, o3, o4, o5, some (.int (x + nI 1))] (st) h Q := (ci_i1 ▸ go_lo (E := (.iinc 6 1, 0, 0, 0)) rfl rfl rfl : _ = Go d 145 355 [o0, o1, o2, o3, o4, o5, some (.int (x + nI 1))] (st) h Q)
set_option maxRecDepth 30000 in
theorem s_145_355 : Go d 145 355 L (st) h Q = Go d 145 282 L (st) h Q := go_goto rfl
set_option maxRecDepth 30000 in
theorem s_145_358 : Go d 145 358 [o0, o1, o2, o3, o4, some (.int x), o6] (st) h Q = Go d 145 361 [o0, o1, o2, o3, o4, some (.int (x + nI 1)), o6] (st) h Q := (ci_i1 ▸ go_lo (E := (.iinc 5 1, 0, 0, 0)) rfl rfl rfl : _ = Go d 145 361 [o0, o1, o2, o3, o4, some (.int (x + nI 1)), o6] (st) h Q)
set_option maxRecDepth 30000 in
theorem s_145_361 : Go d 145 361 L (st) h Q = Go d 145 205 L (st) h Q := go_goto rfl
set_option maxRecDepth 30000 in
theorem s_145_364 : Go d 145 364 L (st) h Q = Go d 145 366 L (.int (-4) :: st) h Q := go_bi rfl ci_bm4
set_option maxRecDepth 30000 in
theorem s_145_366 : Go d 145 366 L [.int x] h Q = Q (some (.int x)) h := go_ri rfl rfl
theorem s_146_0 : Go d 146 0 [o0, some (.int x), o2, o3] (st) h Q = Go d 146 1 [o0, some (.int x), o2, o3] (.int x :: st) h Q := go_lo (E := (.iload_n 1, 0, 0, 0)) rfl rfl rfl
theorem s_146_1 : Go d 146 1 L (.int x :: st) h Q = Go d 146 2 L (.long (x.toInt64) :: st) h Q := go_op (E := (.i2l, 0, 0, 0)) rfl rfl
theorem s_146_2 : Go d 146 2 L (st) h Q = Go d 146 3 L (.long (lN 0) :: st) h Q := go_op (E := (.lconst 0, 0, 0, 0)) rfl rfl
theorem s_146_3 : Go d 146 3 L (st) h Q = Go d 146 6 L (.long (lN 15) :: st) h Q := go_ld2 rfl ci_l15
theorem s_146_6 {al0 : Int64} {al1 : Int64} {al2 : Int64} : Go (d + 1) 146 6 L [.long al2, .long al1, .long al0] h Q = Go d 114 0 [some (.long al0), none, some (.long al1), none, some (.long al2), none] [] h (fun v h2 => Go (d + 1) 146 9 L (ap v []) h2 Q) := go_cx (E := (.invokestatic 84, 114, 0, 0)) (k' := 114) (as := [.long al0, .long al1, .long al2]) rfl rfl rfl rfl rfl rfl rfl rfl
theorem s_146_9 : Go d 146 9 L (.int x :: st) h Q = (if x = 0 then Go d 146 12 L st h Q else Go d 146 14 L st h Q) := go_ifne rfl
theorem s_146_12 : Go d 146 12 L (st) h Q = Go d 146 13 L (.int (-1) :: st) h Q := go_ic rfl ci_im1
theorem s_146_13 : Go d 146 13 L [.int x] h Q = Q (some (.int x)) h := go_ri rfl rfl
theorem s_146_14 : Go d 146 14 L (st) h Q = Go d 146 15 L (.int (nI 0) :: st) h Q := go_ic rfl ci_i0
theorem s_146_15 : Go d 146 15 [o0, o1, o2, o3] (.int x :: st) h Q = Go d 146 16 [o0, o1, some (.int x), o3] (st) h Q := go_lo (E := (.istore_n 2, 0, 0, 0)) rfl rfl rfl
theorem s_146_16 : Go d 146 16 L (st) h Q = Go d 146 17 L (.int (nI 0) :: st) h Q := go_ic rfl ci_i0
theorem s_146_17 : Go d 146 17 [o0, o1, o2, o3] (.int x :: st) h Q = Go d 146 18 [o0, o1, o2, some (.int x)] (st) h Q := go_lo (E := (.istore_n 3, 0, 0, 0)) rfl rfl rfl
theorem s_146_18 : Go d 146 18 [o0, o1, o2, some (.int x)] (st) h Q = Go d 146 19 [o0, o1, o2, some (.int x)] (.int x :: st) h Q := go_lo (E := (.iload_n 3, 0, 0, 0)) rfl rfl rfl
theorem s_146_19 : Go d 146 19 [some (.ref r), o1, o2, o3] (st) h Q = Go d 146 20 [some (.ref r), o1, o2, o3] (.ref r :: st) h Q := go_lo (E := (.aload_n 0, 0, 0, 0)) rfl rfl rfl
theorem s_146_20 : Go d 146 20 L (.ref 53 :: st) (HP lx xs M) Q = Go d 146 23 L (.int (M 53 4) :: st) (HP lx xs M) Q := go_gf rfl rfl (by decide) rfl
theorem s_146_23 : Go d 146 23 L (.int y :: .int x :: st) h Q = (if x < y then Go d 146 26 L st h Q else Go d 146 47 L st h Q) := go_icge rfl
theorem s_146_26 : Go d 146 26 [o0, o1, some (.int x), o3] (st) h Q = Go d 146 27 [o0, o1, some (.int x), o3] (.int x :: st) h Q := go_lo (E := (.iload_n 2, 0, 0, 0)) rfl rfl rfl
theorem s_146_27 : Go d 146 27 [o0, some (.int x), o2, o3] (st) h Q = Go d 146 28 [o0, some (.int x), o2, o3] (.int x :: st) h Q := go_lo (E := (.iload_n 1, 0, 0, 0)) rfl rfl rfl
theorem s_146_28 : Go d 146 28 [some (.ref r), o1, o2, o3] (st) h Q = Go d 146 29 [some (.ref r), o1, o2, o3] (.ref r :: st) h Q := go_lo (E := (.aload_n 0, 0, 0, 0)) rfl rfl rfl
theorem s_146_29 : Go d 146 29 [o0, o1, o2, some (.int x)] (st) h Q = Go d 146 30 [o0, o1, o2, some (.int x)] (.int x :: st) h Q := go_lo (E := (.iload_n 3, 0, 0, 0)) rfl rfl rfl
theorem s_146_30 {a1 : Int32} {z0 : Int32} {z1 : Int32} : Go (d + 1) 146 30 L [.int a1, .ref 53, .int z1, .int z0] (HP lx xs M) Q = Go d 124 0 [some (.ref 53), some (.int a1), none, none] [] (HP lx xs M) (fun v h2 => Go (d + 1) 146 33 L (ap v [.int z1, .int z0]) h2 Q) := go_cx (E := (.invokevirtual 116, 124, 0, 7)) (k' := 124) (as := [.ref 53, .int a1]) rfl rfl rfl rfl rfl rfl rfl rfl
theorem s_146_33 : Go d 146 33 L (st) h Q = Go d 146 34 L (.int (-1) :: st) h Q := go_ic rfl ci_im1
theorem s_146_34 : Go d 146 34 L (.int y :: .int x :: st) h Q = Go d 146 35 L (.int (x ^^^ y) :: st) h Q := go_op (E := (.ixor, 0, 0, 0)) rfl rfl
theorem s_146_35 : Go d 146 35 L (.int y :: .int x :: st) h Q = Go d 146 36 L (.int (x &&& y) :: st) h Q := go_op (E := (.iand, 0, 0, 0)) rfl rfl
theorem s_146_36 {a0 : Int32} {z0 : Int32} : Go (d + 1) 146 36 L [.int a0, .int z0] h Q = Go d 142 0 [some (.int a0), none, none] [] h (fun v h2 => Go (d + 1) 146 39 L (ap v [.int z0]) h2 Q) := go_cx (E := (.invokestatic 184, 142, 0, 0)) (k' := 142) (as := [.int a0]) rfl rfl rfl rfl rfl rfl rfl rfl
theorem s_146_39 : Go d 146 39 L (.int y :: .int x :: st) h Q = Go d 146 40 L (.int (x + y) :: st) h Q := go_op (E := (.iadd, 0, 0, 0)) rfl rfl
theorem s_146_40 : Go d 146 40 [o0, o1, o2, o3] (.int x :: st) h Q = Go d 146 41 [o0, o1, some (.int x), o3] (st) h Q := go_lo (E := (.istore_n 2, 0, 0, 0)) rfl rfl rfl
theorem s_146_41 : Go d 146 41 [o0, o1, o2, some (.int x)] (st) h Q = Go d 146 44 [o0, o1, o2, some (.int (x + nI 1))] (st) h Q := (ci_i1 ▸ go_lo (E := (.iinc 3 1, 0, 0, 0)) rfl rfl rfl : _ = Go d 146 44 [o0, o1, o2, some (.int (x + nI 1))] (st) h Q)
theorem s_146_44 : Go d 146 44 L (st) h Q = Go d 146 18 L (st) h Q := go_goto rfl
theorem s_146_47 : Go d 146 47 [some (.ref r), o1, o2, o3] (st) h Q = Go d 146 48 [some (.ref r), o1, o2, o3] (.ref r :: st) h Q := go_lo (E := (.aload_n 0, 0, 0, 0)) rfl rfl rfl
theorem s_146_48 : Go d 146 48 L (.ref 53 :: st) (HP lx xs M) Q = Go d 146 51 L (.int (M 53 4) :: st) (HP lx xs M) Q := go_gf rfl rfl (by decide) rfl
theorem s_146_51 : Go d 146 51 L (st) h Q = Go d 146 52 L (.int (nI 2) :: st) h Q := go_ic rfl ci_i2
theorem s_146_52 : Go d 146 52 L (.int y :: .int x :: st) h Q = (¬ y = 0 ∧ Go d 146 53 L (.int (x / y) :: st) h Q) := go_idv rfl
theorem s_146_53 : Go d 146 53 [o0, o1, o2, o3] (.int x :: st) h Q = Go d 146 54 [o0, o1, o2, some (.int x)] (st) h Q := go_lo (E := (.istore_n 3, 0, 0, 0)) rfl rfl rfl
theorem s_146_54 : Go d 146 54 [o0, o1, some (.int x), o3] (st) h Q = Go d 146 55 [o0, o1, some (.int x), o3] (.int x :: st) h Q := go_lo (E := (.iload_n 2, 0, 0, 0)) rfl rfl rfl
theorem s_146_55 : Go d 146 55 L (.int x :: st) h Q = (if x = 0 then Go d 146 58 L st h Q else Go d 146 62 L st h Q) := go_ifne rfl
theorem s_146_58 : Go d 146 58 L (st) h Q = Go d 146 59 L (.int (nI 0) :: st) h Q := go_ic rfl ci_i0
theorem s_146_59 : Go d 146 59 L (st) h Q = Go d 146 78 L (st) h Q := go_goto rfl
theorem s_146_62 : Go d 146 62 [o0, o1, o2, some (.int x)] (st) h Q = Go d 146 63 [o0, o1, o2, some (.int x)] (.int x :: st) h Q := go_lo (E := (.iload_n 3, 0, 0, 0)) rfl rfl rfl
theorem s_146_63 : Go d 146 63 L (.int x :: st) h Q = (if x = 0 then Go d 146 66 L st h Q else Go d 146 71 L st h Q) := go_ifne rfl
theorem s_146_66 : Go d 146 66 L (st) h Q = Go d 146 68 L (.int (-4) :: st) h Q := go_bi rfl ci_bm4
theorem s_146_68 : Go d 146 68 L (st) h Q = Go d 146 78 L (st) h Q := go_goto rfl
theorem s_146_71 : Go d 146 71 [o0, o1, some (.int x), o3] (st) h Q = Go d 146 72 [o0, o1, some (.int x), o3] (.int x :: st) h Q := go_lo (E := (.iload_n 2, 0, 0, 0)) rfl rfl rfl
theorem s_146_72 : Go d 146 72 [o0, o1, o2, some (.int x)] (st) h Q = Go d 146 73 [o0, o1, o2, some (.int x)] (.int x :: st) h Q := go_lo (E := (.iload_n 3, 0, 0, 0)) rfl rfl rfl
theorem s_146_73 : Go d 146 73 L (.int y :: .int x :: st) h Q = Go d 146 74 L (.int (x + y) :: st) h Q := go_op (E := (.iadd, 0, 0, 0)) rfl rfl
theorem s_146_74 : Go d 146 74 L (st) h Q = Go d 146 75 L (.int (nI 1) :: st) h Q := go_ic rfl ci_i1
theorem s_146_75 : Go d 146 75 L (.int y :: .int x :: st) h Q = Go d 146 76 L (.int (x - y) :: st) h Q := go_op (E := (.isub, 0, 0, 0)) rfl rfl
theorem s_146_76 : Go d 146 76 [o0, o1, o2, some (.int x)] (st) h Q = Go d 146 77 [o0, o1, o2, some (.int x)] (.int x :: st) h Q := go_lo (E := (.iload_n 3, 0, 0, 0)) rfl rfl rfl
theorem s_146_77 : Go d 146 77 L (.int y :: .int x :: st) h Q = (¬ y = 0 ∧ Go d 146 78 L (.int (x / y) :: st) h Q) := go_idv rfl
theorem s_146_78 : Go d 146 78 L [.int x] h Q = Q (some (.int x)) h := go_ri rfl rfl
theorem s_147_0 : Go d 147 0 L (st) h Q = Go d 147 1 L (.int (nI 0) :: st) h Q := go_ic rfl ci_i0
theorem s_147_1 : Go d 147 1 [o0, o1, o2, o3, o4, o5, o6] (.int x :: st) h Q = Go d 147 2 [o0, o1, some (.int x), o3, o4, o5, o6] (st) h Q := go_lo (E := (.istore_n 2, 0, 0, 0)) rfl rfl rfl
theorem s_147_2 : Go d 147 2 L (st) h Q = Go d 147 3 L (.int (nI 0) :: st) h Q := go_ic rfl ci_i0
theorem s_147_3 : Go d 147 3 [o0, o1, o2, o3, o4, o5, o6] (.int x :: st) h Q = Go d 147 4 [o0, o1, o2, some (.int x), o4, o5, o6] (st) h Q := go_lo (E := (.istore_n 3, 0, 0, 0)) rfl rfl rfl
theorem s_147_4 : Go d 147 4 [o0, o1, o2, some (.int x), o4, o5, o6] (st) h Q = Go d 147 5 [o0, o1, o2, some (.int x), o4, o5, o6] (.int x :: st) h Q := go_lo (E := (.iload_n 3, 0, 0, 0)) rfl rfl rfl
theorem s_147_5 : Go d 147 5 [some (.ref r), o1, o2, o3, o4, o5, o6] (st) h Q = Go d 147 6 [some (.ref r), o1, o2, o3, o4, o5, o6] (.ref r :: st) h Q := go_lo (E := (.aload_n 0, 0, 0, 0)) rfl rfl rfl
theorem s_147_6 : Go d 147 6 L (.ref 53 :: st) (HP lx xs M) Q = Go d 147 9 L (.int (M 53 6) :: st) (HP lx xs M) Q := go_gf rfl rfl (by decide) rfl
theorem s_147_9 : Go d 147 9 L (.int y :: .int x :: st) h Q = (if x < y then Go d 147 12 L st h Q else Go d 147 150 L st h Q) := go_icge rfl
theorem s_147_12 : Go d 147 12 [o0, o1, o2, some (.int x), o4, o5, o6] (st) h Q = Go d 147 13 [o0, o1, o2, some (.int x), o4, o5, o6] (.int x :: st) h Q := go_lo (E := (.iload_n 3, 0, 0, 0)) rfl rfl rfl
theorem s_147_13 : Go d 147 13 L (.int x :: st) h Q = (if 0 < x then Go d 147 16 L st h Q else Go d 147 43 L st h Q) := go_ifle rfl
theorem s_147_16 : Go d 147 16 [some (.ref r), o1, o2, o3, o4, o5, o6] (st) h Q = Go d 147 17 [some (.ref r), o1, o2, o3, o4, o5, o6] (.ref r :: st) h Q := go_lo (E := (.aload_n 0, 0, 0, 0)) rfl rfl rfl
theorem s_147_17 : Go d 147 17 L (.ref 53 :: st) (HP lx xs M) Q = Go d 147 20 L (.ref 58 :: st) (HP lx xs M) Q := go_gf rfl rfl (by decide) rfl
theorem s_147_20 : Go d 147 20 L (st) h Q = Go d 147 21 L (.int (nI 4) :: st) h Q := go_ic rfl ci_i4
theorem s_147_21 : Go d 147 21 [o0, o1, o2, some (.int x), o4, o5, o6] (st) h Q = Go d 147 22 [o0, o1, o2, some (.int x), o4, o5, o6] (.int x :: st) h Q := go_lo (E := (.iload_n 3, 0, 0, 0)) rfl rfl rfl
theorem s_147_22 : Go d 147 22 L (.int y :: .int x :: st) h Q = Go d 147 23 L (.int (x * y) :: st) h Q := go_op (E := (.imul, 0, 0, 0)) rfl rfl
theorem s_147_23 : Go d 147 23 L (st) h Q = Go d 147 24 L (.int (nI 3) :: st) h Q := go_ic rfl ci_i3
theorem s_147_24 : Go d 147 24 L (.int y :: .int x :: st) h Q = Go d 147 25 L (.int (x + y) :: st) h Q := go_op (E := (.iadd, 0, 0, 0)) rfl rfl
theorem s_147_25 : Go d 147 25 L (.int x :: .ref 58 :: st) (HP lx xs M) Q = (ex_in x 96 = true ∧ Go d 147 26 L (.int (M 58 x.toNatClampNeg) :: st) (HP lx xs M) Q) := go_al rfl rfl
theorem s_147_26 : Go d 147 26 [some (.ref r), o1, o2, o3, o4, o5, o6] (st) h Q = Go d 147 27 [some (.ref r), o1, o2, o3, o4, o5, o6] (.ref r :: st) h Q := go_lo (E := (.aload_n 0, 0, 0, 0)) rfl rfl rfl
theorem s_147_27 : Go d 147 27 L (.ref 53 :: st) (HP lx xs M) Q = Go d 147 30 L (.ref 58 :: st) (HP lx xs M) Q := go_gf rfl rfl (by decide) rfl
theorem s_147_30 : Go d 147 30 L (st) h Q = Go d 147 31 L (.int (nI 4) :: st) h Q := go_ic rfl ci_i4
theorem s_147_31 : Go d 147 31 [o0, o1, o2, some (.int x), o4, o5, o6] (st) h Q = Go d 147 32 [o0, o1, o2, some (.int x), o4, o5, o6] (.int x :: st) h Q := go_lo (E := (.iload_n 3, 0, 0, 0)) rfl rfl rfl
theorem s_147_32 : Go d 147 32 L (.int y :: .int x :: st) h Q = Go d 147 33 L (.int (x * y) :: st) h Q := go_op (E := (.imul, 0, 0, 0)) rfl rfl
theorem s_147_33 : Go d 147 33 L (st) h Q = Go d 147 34 L (.int (nI 1) :: st) h Q := go_ic rfl ci_i1
theorem s_147_34 : Go d 147 34 L (.int y :: .int x :: st) h Q = Go d 147 35 L (.int (x - y) :: st) h Q := go_op (E := (.isub, 0, 0, 0)) rfl rfl
theorem s_147_35 : Go d 147 35 L (.int x :: .ref 58 :: st) (HP lx xs M) Q = (ex_in x 96 = true ∧ Go d 147 36 L (.int (M 58 x.toNatClampNeg) :: st) (HP lx xs M) Q) := go_al rfl rfl
theorem s_147_36 : Go d 147 36 L (.int y :: .int x :: st) h Q = (if x = y then Go d 147 39 L st h Q else Go d 147 43 L st h Q) := go_icne rfl
theorem s_147_39 : Go d 147 39 [o0, o1, some (.int x), o3, o4, o5, o6] (st) h Q = Go d 147 40 [o0, o1, some (.int x), o3, o4, o5, o6] (.int x :: st) h Q := go_lo (E := (.iload_n 2, 0, 0, 0)) rfl rfl rfl
theorem s_147_40 : Go d 147 40 L (st) h Q = Go d 147 44 L (st) h Q := go_goto rfl
theorem s_147_43 : Go d 147 43 L (st) h Q = Go d 147 44 L (.int (nI 0) :: st) h Q := go_ic rfl ci_i0
theorem s_147_44 : Go d 147 44 [o0, o1, o2, o3, o4, o5, o6] (.int x :: st) h Q = Go d 147 45 [o0, o1, some (.int x), o3, o4, o5, o6] (st) h Q := go_lo (E := (.istore_n 2, 0, 0, 0)) rfl rfl rfl
theorem s_147_45 : Go d 147 45 [some (.ref r), o1, o2, o3, o4, o5, o6] (st) h Q = Go d 147 46 [some (.ref r), o1, o2, o3, o4, o5, o6] (.ref r :: st) h Q := go_lo (E := (.aload_n 0, 0, 0, 0)) rfl rfl rfl
theorem s_147_46 : Go d 147 46 L (.ref 53 :: st) (HP lx xs M) Q = Go d 147 49 L (.ref 58 :: st) (HP lx xs M) Q := go_gf rfl rfl (by decide) rfl
theorem s_147_49 : Go d 147 49 L (st) h Q = Go d 147 50 L (.int (nI 4) :: st) h Q := go_ic rfl ci_i4
theorem s_147_50 : Go d 147 50 [o0, o1, o2, some (.int x), o4, o5, o6] (st) h Q = Go d 147 51 [o0, o1, o2, some (.int x), o4, o5, o6] (.int x :: st) h Q := go_lo (E := (.iload_n 3, 0, 0, 0)) rfl rfl rfl
theorem s_147_51 : Go d 147 51 L (.int y :: .int x :: st) h Q = Go d 147 52 L (.int (x * y) :: st) h Q := go_op (E := (.imul, 0, 0, 0)) rfl rfl
theorem s_147_52 : Go d 147 52 L (.int x :: .ref 58 :: st) (HP lx xs M) Q = (ex_in x 96 = true ∧ Go d 147 53 L (.int (M 58 x.toNatClampNeg) :: st) (HP lx xs M) Q) := go_al rfl rfl
theorem s_147_53 : Go d 147 53 [o0, o1, o2, o3, o4, o5, o6] (.int x :: st) h Q = Go d 147 55 [o0, o1, o2, o3, some (.int x), o5, o6] (st) h Q := go_lo (E := (.istore 4, 0, 0, 0)) rfl rfl rfl
theorem s_147_55 : Go d 147 55 [some (.ref r), o1, o2, o3, o4, o5, o6] (st) h Q = Go d 147 56 [some (.ref r), o1, o2, o3, o4, o5, o6] (.ref r :: st) h Q := go_lo (E := (.aload_n 0, 0, 0, 0)) rfl rfl rfl
theorem s_147_56 : Go d 147 56 L (.ref 53 :: st) (HP lx xs M) Q = Go d 147 59 L (.ref 58 :: st) (HP lx xs M) Q := go_gf rfl rfl (by decide) rfl
theorem s_147_59 : Go d 147 59 L (st) h Q = Go d 147 60 L (.int (nI 4) :: st) h Q := go_ic rfl ci_i4
theorem s_147_60 : Go d 147 60 [o0, o1, o2, some (.int x), o4, o5, o6] (st) h Q = Go d 147 61 [o0, o1, o2, some (.int x), o4, o5, o6] (.int x :: st) h Q := go_lo (E := (.iload_n 3, 0, 0, 0)) rfl rfl rfl
theorem s_147_61 : Go d 147 61 L (.int y :: .int x :: st) h Q = Go d 147 62 L (.int (x * y) :: st) h Q := go_op (E := (.imul, 0, 0, 0)) rfl rfl
theorem s_147_62 : Go d 147 62 L (st) h Q = Go d 147 63 L (.int (nI 1) :: st) h Q := go_ic rfl ci_i1
theorem s_147_63 : Go d 147 63 L (.int y :: .int x :: st) h Q = Go d 147 64 L (.int (x + y) :: st) h Q := go_op (E := (.iadd, 0, 0, 0)) rfl rfl
theorem s_147_64 : Go d 147 64 L (.int x :: .ref 58 :: st) (HP lx xs M) Q = (ex_in x 96 = true ∧ Go d 147 65 L (.int (M 58 x.toNatClampNeg) :: st) (HP lx xs M) Q) := go_al rfl rfl
theorem s_147_65 : Go d 147 65 [o0, o1, o2, o3, o4, o5, o6] (.int x :: st) h Q = Go d 147 67 [o0, o1, o2, o3, o4, some (.int x), o6] (st) h Q := go_lo (E := (.istore 5, 0, 0, 0)) rfl rfl rfl
theorem s_147_67 : Go d 147 67 L (st) h Q = Go d 147 68 L (.int (nI 1) :: st) h Q := go_ic rfl ci_i1
theorem s_147_68 : Go d 147 68 [o0, o1, o2, o3, some (.int x), o5, o6] (st) h Q = Go d 147 70 [o0, o1, o2, o3, some (.int x), o5, o6] (.int x :: st) h Q := go_lo (E := (.iload 4, 0, 0, 0)) rfl rfl rfl
theorem s_147_70 : Go d 147 70 L (.int y :: .int x :: st) h Q = Go d 147 71 L (.int (x <<< (y &&& 31)) :: st) h Q := go_op (E := (.ishl, 0, 0, 0)) rfl rfl
theorem s_147_71 : Go d 147 71 L (st) h Q = Go d 147 72 L (.int (nI 1) :: st) h Q := go_ic rfl ci_i1
theorem s_147_72 : Go d 147 72 [o0, o1, o2, o3, o4, some (.int x), o6] (st) h Q = Go d 147 74 [o0, o1, o2, o3, o4, some (.int x), o6] (.int x :: st) h Q := go_lo (E := (.iload 5, 0, 0, 0)) rfl rfl rfl
theorem s_147_74 : Go d 147 74 L (.int y :: .int x :: st) h Q = Go d 147 75 L (.int (x <<< (y &&& 31)) :: st) h Q := go_op (E := (.ishl, 0, 0, 0)) rfl rfl
theorem s_147_75 : Go d 147 75 L (.int y :: .int x :: st) h Q = Go d 147 76 L (.int (x ||| y) :: st) h Q := go_op (E := (.ior, 0, 0, 0)) rfl rfl
theorem s_147_76 : Go d 147 76 [o0, o1, o2, o3, o4, o5, o6] (.int x :: st) h Q = Go d 147 78 [o0, o1, o2, o3, o4, o5, some (.int x)] (st) h Q := go_lo (E := (.istore 6, 0, 0, 0)) rfl rfl rfl
theorem s_147_78 : Go d 147 78 [o0, o1, some (.int x), o3, o4, o5, o6] (st) h Q = Go d 147 79 [o0, o1, some (.int x), o3, o4, o5, o6] (.int x :: st) h Q := go_lo (E := (.iload_n 2, 0, 0, 0)) rfl rfl rfl
theorem s_147_79 : Go d 147 79 [o0, o1, o2, o3, o4, o5, some (.int x)] (st) h Q = Go d 147 81 [o0, o1, o2, o3, o4, o5, some (.int x)] (.int x :: st) h Q := go_lo (E := (.iload 6, 0, 0, 0)) rfl rfl rfl
theorem s_147_81 : Go d 147 81 L (.int y :: .int x :: st) h Q = Go d 147 82 L (.int (x &&& y) :: st) h Q := go_op (E := (.iand, 0, 0, 0)) rfl rfl
theorem s_147_82 : Go d 147 82 L (.int x :: st) h Q = (if x = 0 then Go d 147 85 L st h Q else Go d 147 144 L st h Q) := go_ifne rfl
theorem s_147_85 : Go d 147 85 [o0, o1, o2, o3, some (.int x), o5, o6] (st) h Q = Go d 147 87 [o0, o1, o2, o3, some (.int x), o5, o6] (.int x :: st) h Q := go_lo (E := (.iload 4, 0, 0, 0)) rfl rfl rfl
theorem s_147_87 : Go d 147 87 [o0, some (.int x), o2, o3, o4, o5, o6] (st) h Q = Go d 147 88 [o0, some (.int x), o2, o3, o4, o5, o6] (.int x :: st) h Q := go_lo (E := (.iload_n 1, 0, 0, 0)) rfl rfl rfl
theorem s_147_88 : Go d 147 88 L (.int y :: .int x :: st) h Q = (if x = y then Go d 147 144 L st h Q else Go d 147 91 L st h Q) := go_iceq rfl
theorem s_147_91 : Go d 147 91 [o0, o1, o2, o3, o4, some (.int x), o6] (st) h Q = Go d 147 93 [o0, o1, o2, o3, o4, some (.int x), o6] (.int x :: st) h Q := go_lo (E := (.iload 5, 0, 0, 0)) rfl rfl rfl
theorem s_147_93 : Go d 147 93 [o0, some (.int x), o2, o3, o4, o5, o6] (st) h Q = Go d 147 94 [o0, some (.int x), o2, o3, o4, o5, o6] (.int x :: st) h Q := go_lo (E := (.iload_n 1, 0, 0, 0)) rfl rfl rfl
theorem s_147_94 : Go d 147 94 L (.int y :: .int x :: st) h Q = (if x = y then Go d 147 144 L st h Q else Go d 147 97 L st h Q) := go_iceq rfl
theorem s_147_97 : Go d 147 97 [some (.ref r), o1, o2, o3, o4, o5, o6] (st) h Q = Go d 147 98 [some (.ref r), o1, o2, o3, o4, o5, o6] (.ref r :: st) h Q := go_lo (E := (.aload_n 0, 0, 0, 0)) rfl rfl rfl
theorem s_147_98 : Go d 147 98 [o0, o1, o2, o3, some (.int x), o5, o6] (st) h Q = Go d 147 100 [o0, o1, o2, o3, some (.int x), o5, o6] (.int x :: st) h Q := go_lo (E := (.iload 4, 0, 0, 0)) rfl rfl rfl
theorem s_147_100 : Go d 147 100 [o0, o1, o2, o3, o4, some (.int x), o6] (st) h Q = Go d 147 102 [o0, o1, o2, o3, o4, some (.int x), o6] (.int x :: st) h Q := go_lo (E := (.iload 5, 0, 0, 0)) rfl rfl rfl
theorem s_147_102 : Go d 147 102 [some (.ref r), o1, o2, o3, o4, o5, o6] (st) h Q = Go d 147 103 [some (.ref r), o1, o2, o3, o4, o5, o6] (.ref r :: st) h Q := go_lo (E := (.aload_n 0, 0, 0, 0)) rfl rfl rfl
theorem s_147_103 : Go d 147 103 L (.ref 53 :: st) (HP lx xs M) Q = Go d 147 106 L (.ref 58 :: st) (HP lx xs M) Q := go_gf rfl rfl (by decide) rfl
theorem s_147_106 : Go d 147 106 L (st) h Q = Go d 147 107 L (.int (nI 4) :: st) h Q := go_ic rfl ci_i4
theorem s_147_107 : Go d 147 107 [o0, o1, o2, some (.int x), o4, o5, o6] (st) h Q = Go d 147 108 [o0, o1, o2, some (.int x), o4, o5, o6] (.int x :: st) h Q := go_lo (E := (.iload_n 3, 0, 0, 0)) rfl rfl rfl
theorem s_147_108 : Go d 147 108 L (.int y :: .int x :: st) h Q = Go d 147 109 L (.int (x * y) :: st) h Q := go_op (E := (.imul, 0, 0, 0)) rfl rfl
theorem s_147_109 : Go d 147 109 L (st) h Q = Go d 147 110 L (.int (nI 2) :: st) h Q := go_ic rfl ci_i2
theorem s_147_110 : Go d 147 110 L (.int y :: .int x :: st) h Q = Go d 147 111 L (.int (x + y) :: st) h Q := go_op (E := (.iadd, 0, 0, 0)) rfl rfl
theorem s_147_111 : Go d 147 111 L (.int x :: .ref 58 :: st) (HP lx xs M) Q = (ex_in x 96 = true ∧ Go d 147 112 L (.int (M 58 x.toNatClampNeg) :: st) (HP lx xs M) Q) := go_al rfl rfl
theorem s_147_112 {a1 : Int32} {a2 : Int32} {a3 : Int32} : Go (d + 1) 147 112 L [.int a3, .int a2, .int a1, .ref 53] (HP lx xs M) Q = Go d 137 0 [some (.ref 53), some (.int a1), some (.int a2), some (.int a3)] [] (HP lx xs M) (fun v h2 => Go (d + 1) 147 115 L (ap v []) h2 Q) := go_cx (E := (.invokevirtual 169, 137, 0, 7)) (k' := 137) (as := [.ref 53, .int a1, .int a2, .int a3]) rfl rfl rfl rfl rfl rfl rfl rfl
theorem s_147_115 : Go d 147 115 L (.int x :: st) h Q = (if x = 0 then Go d 147 144 L st h Q else Go d 147 118 L st h Q) := go_ifeq rfl
theorem s_147_118 : Go d 147 118 [o0, o1, some (.int x), o3, o4, o5, o6] (st) h Q = Go d 147 119 [o0, o1, some (.int x), o3, o4, o5, o6] (.int x :: st) h Q := go_lo (E := (.iload_n 2, 0, 0, 0)) rfl rfl rfl
theorem s_147_119 : Go d 147 119 [o0, o1, o2, o3, o4, o5, some (.int x)] (st) h Q = Go d 147 121 [o0, o1, o2, o3, o4, o5, some (.int x)] (.int x :: st) h Q := go_lo (E := (.iload 6, 0, 0, 0)) rfl rfl rfl
theorem s_147_121 : Go d 147 121 L (.int y :: .int x :: st) h Q = Go d 147 122 L (.int (x ||| y) :: st) h Q := go_op (E := (.ior, 0, 0, 0)) rfl rfl
theorem s_147_122 : Go d 147 122 [o0, o1, o2, o3, o4, o5, o6] (.int x :: st) h Q = Go d 147 123 [o0, o1, some (.int x), o3, o4, o5, o6] (st) h Q := go_lo (E := (.istore_n 2, 0, 0, 0)) rfl rfl rfl
theorem s_147_123 : Go d 147 123 [some (.ref r), o1, o2, o3, o4, o5, o6] (st) h Q = Go d 147 124 [some (.ref r), o1, o2, o3, o4, o5, o6] (.ref r :: st) h Q := go_lo (E := (.aload_n 0, 0, 0, 0)) rfl rfl rfl
theorem s_147_124 : Go d 147 124 L (.ref 53 :: st) (HP lx xs M) Q = Go d 147 127 L (.ref 56 :: st) (HP lx xs M) Q := go_gf rfl rfl (by decide) rfl
theorem s_147_127 : Go d 147 127 L (st) h Q = Go d 147 128 L (.int (nI 4) :: st) h Q := go_ic rfl ci_i4
theorem s_147_128 : Go d 147 128 [o0, o1, o2, o3, o4, some (.int x), o6] (st) h Q = Go d 147 130 [o0, o1, o2, o3, o4, some (.int x), o6] (.int x :: st) h Q := go_lo (E := (.iload 5, 0, 0, 0)) rfl rfl rfl
theorem s_147_130 : Go d 147 130 L (.int y :: .int x :: st) h Q = Go d 147 131 L (.int (x * y) :: st) h Q := go_op (E := (.imul, 0, 0, 0)) rfl rfl
theorem s_147_131 : Go d 147 131 [some (.ref r), o1, o2, o3, o4, o5, o6] (st) h Q = Go d 147 132 [some (.ref r), o1, o2, o3, o4, o5, o6] (.ref r :: st) h Q := go_lo (E := (.aload_n 0, 0, 0, 0)) rfl rfl rfl
theorem s_147_132 : Go d 147 132 L (.ref 53 :: st) (HP lx xs M) Q = Go d 147 135 L (.ref 58 :: st) (HP lx xs M) Q := go_gf rfl rfl (by decide) rfl
theorem s_147_135 : Go d 147 135 L (st) h Q = Go d 147 136 L (.int (nI 4) :: st) h Q := go_ic rfl ci_i4
theorem s_147_136 : Go d 147 136 [o0, o1, o2, some (.int x), o4, o5, o6] (st) h Q = Go d 147 137 [o0, o1, o2, some (.int x), o4, o5, o6] (.int x :: st) h Q := go_lo (E := (.iload_n 3, 0, 0, 0)) rfl rfl rfl
set_option maxRecDepth 30000 in
theorem s_147_137 : Go d 147 137 L (.int y :: .int x :: st) h Q = Go d 147 138 L (.int (x * y) :: st) h Q := go_op (E := (.imul, 0, 0, 0)) rfl rfl
set_option maxRecDepth 30000 in
theorem s_147_138 : Go d 147 138 L (st) h Q = Go d 147 139 L (.int (nI 2) :: st) h Q := go_ic rfl ci_i2
set_option maxRecDepth 30000 in
theorem s_147_139 : Go d 147 139 L (.int y :: .int x :: st) h Q = Go d 147 140 L (.int (x + y) :: st) h Q := go_op (E := (.iadd, 0, 0, 0)) rfl rfl
set_option maxRecDepth 30000 in
theorem s_147_140 : Go d 147 140 L (.int x :: .ref 58 :: st) (HP lx xs M) Q = (ex_in x 96 = true ∧ Go d 147 141 L (.int (M 58 x.toNatClampNeg) :: st) (HP lx xs M) Q) := go_al rfl rfl
set_option maxRecDepth 30000 in
theorem s_147_141 : Go d 147 141 L (.int y :: .int x :: st) h Q = Go d 147 142 L (.int (x + y) :: st) h Q := go_op (E := (.iadd, 0, 0, 0)) rfl rfl
set_option maxRecDepth 30000 in
theorem s_147_142 : Go d 147 142 L (st) h Q = Go d 147 143 L (.int (nI 0) :: st) h Q := go_ic rfl ci_i0
set_option maxRecDepth 30000 in
theorem s_147_143 : Go d 147 143 L (.int y :: .int x :: .ref 56 :: st) (HP lx xs M) Q = (ex_in x 24 = true ∧ Go d 147 144 L (st) (HP lx xs (up M 56 x.toNatClampNeg y)) Q) := go_as rfl rfl (by decide) hs_56
set_option maxRecDepth 30000 in
theorem s_147_144 : Go d 147 144 [o0, o1, o2, some (.int x), o4, o5, o6] (st) h Q = Go d 147 147 [o0, o1, o2, some (.int (x + nI 1)), o4, o5, o6] (st) h Q := (ci_i1 ▸ go_lo (E := (.iinc 3 1, 0, 0, 0)) rfl rfl rfl : _ = Go d 147 147 [o0, o1, o2, some (.int (x + nI 1)), o4, o5, o6] (st) h Q)
set_option maxRecDepth 30000 in
theorem s_147_147 : Go d 147 147 L (st) h Q = Go d 147 4 L (st) h Q := go_goto rfl
set_option maxRecDepth 30000 in
theorem s_147_150 : Go d 147 150 L [] h Q = Q none h := go_rv rfl rfl
theorem s_148_0 : Go d 148 0 L (st) h Q = Go d 148 1 L (.int (nI 0) :: st) h Q := go_ic rfl ci_i0
theorem s_148_1 : Go d 148 1 [o0, o1] (.int x :: st) h Q = Go d 148 2 [o0, some (.int x)] (st) h Q := go_lo (E := (.istore_n 1, 0, 0, 0)) rfl rfl rfl
theorem s_148_2 : Go d 148 2 [o0, some (.int x)] (st) h Q = Go d 148 3 [o0, some (.int x)] (.int x :: st) h Q := go_lo (E := (.iload_n 1, 0, 0, 0)) rfl rfl rfl
theorem s_148_3 : Go d 148 3 L (st) h Q = Go d 148 5 L (.int (nI 24) :: st) h Q := go_bi rfl ci_b24
theorem s_148_5 : Go d 148 5 L (.int y :: .int x :: st) h Q = (if x < y then Go d 148 8 L st h Q else Go d 148 26 L st h Q) := go_icge rfl
theorem s_148_8 : Go d 148 8 [some (.ref r), o1] (st) h Q = Go d 148 9 [some (.ref r), o1] (.ref r :: st) h Q := go_lo (E := (.aload_n 0, 0, 0, 0)) rfl rfl rfl
theorem s_148_9 : Go d 148 9 L (.ref 53 :: st) (HP lx xs M) Q = Go d 148 12 L (.ref 56 :: st) (HP lx xs M) Q := go_gf rfl rfl (by decide) rfl
theorem s_148_12 : Go d 148 12 [o0, some (.int x)] (st) h Q = Go d 148 13 [o0, some (.int x)] (.int x :: st) h Q := go_lo (E := (.iload_n 1, 0, 0, 0)) rfl rfl rfl
theorem s_148_13 : Go d 148 13 [some (.ref r), o1] (st) h Q = Go d 148 14 [some (.ref r), o1] (.ref r :: st) h Q := go_lo (E := (.aload_n 0, 0, 0, 0)) rfl rfl rfl
theorem s_148_14 : Go d 148 14 L (.ref 53 :: st) (HP lx xs M) Q = Go d 148 17 L (.ref 66 :: st) (HP lx xs M) Q := go_gf rfl rfl (by decide) rfl
theorem s_148_17 : Go d 148 17 [o0, some (.int x)] (st) h Q = Go d 148 18 [o0, some (.int x)] (.int x :: st) h Q := go_lo (E := (.iload_n 1, 0, 0, 0)) rfl rfl rfl
theorem s_148_18 : Go d 148 18 L (.int x :: .ref 66 :: st) (HP lx xs M) Q = (ex_in x 24 = true ∧ Go d 148 19 L (.int (M 66 x.toNatClampNeg) :: st) (HP lx xs M) Q) := go_al rfl rfl
theorem s_148_19 : Go d 148 19 L (.int y :: .int x :: .ref 56 :: st) (HP lx xs M) Q = (ex_in x 24 = true ∧ Go d 148 20 L (st) (HP lx xs (up M 56 x.toNatClampNeg y)) Q) := go_as rfl rfl (by decide) hs_56
theorem s_148_20 : Go d 148 20 [o0, some (.int x)] (st) h Q = Go d 148 23 [o0, some (.int (x + nI 1))] (st) h Q := (ci_i1 ▸ go_lo (E := (.iinc 1 1, 0, 0, 0)) rfl rfl rfl : _ = Go d 148 23 [o0, some (.int (x + nI 1))] (st) h Q)
theorem s_148_23 : Go d 148 23 L (st) h Q = Go d 148 2 L (st) h Q := go_goto rfl
theorem s_148_26 : Go d 148 26 L [] h Q = Q none h := go_rv rfl rfl
theorem s_149_0 : Go d 149 0 L (st) h Q = Go d 149 1 L (.int (nI 0) :: st) h Q := go_ic rfl ci_i0
theorem s_149_1 : Go d 149 1 [o0, o1, o2, o3, o4] (.int x :: st) h Q = Go d 149 2 [o0, some (.int x), o2, o3, o4] (st) h Q := go_lo (E := (.istore_n 1, 0, 0, 0)) rfl rfl rfl
theorem s_149_2 : Go d 149 2 [o0, some (.int x), o2, o3, o4] (st) h Q = Go d 149 3 [o0, some (.int x), o2, o3, o4] (.int x :: st) h Q := go_lo (E := (.iload_n 1, 0, 0, 0)) rfl rfl rfl
theorem s_149_3 : Go d 149 3 L (st) h Q = Go d 149 5 L (.int (nI 24) :: st) h Q := go_bi rfl ci_b24
theorem s_149_5 : Go d 149 5 L (.int y :: .int x :: st) h Q = (if x < y then Go d 149 8 L st h Q else Go d 149 26 L st h Q) := go_icge rfl
theorem s_149_8 : Go d 149 8 [some (.ref r), o1, o2, o3, o4] (st) h Q = Go d 149 9 [some (.ref r), o1, o2, o3, o4] (.ref r :: st) h Q := go_lo (E := (.aload_n 0, 0, 0, 0)) rfl rfl rfl
theorem s_149_9 : Go d 149 9 L (.ref 53 :: st) (HP lx xs M) Q = Go d 149 12 L (.ref 66 :: st) (HP lx xs M) Q := go_gf rfl rfl (by decide) rfl
theorem s_149_12 : Go d 149 12 [o0, some (.int x), o2, o3, o4] (st) h Q = Go d 149 13 [o0, some (.int x), o2, o3, o4] (.int x :: st) h Q := go_lo (E := (.iload_n 1, 0, 0, 0)) rfl rfl rfl
theorem s_149_13 : Go d 149 13 [some (.ref r), o1, o2, o3, o4] (st) h Q = Go d 149 14 [some (.ref r), o1, o2, o3, o4] (.ref r :: st) h Q := go_lo (E := (.aload_n 0, 0, 0, 0)) rfl rfl rfl
theorem s_149_14 : Go d 149 14 L (.ref 53 :: st) (HP lx xs M) Q = Go d 149 17 L (.ref 56 :: st) (HP lx xs M) Q := go_gf rfl rfl (by decide) rfl
theorem s_149_17 : Go d 149 17 [o0, some (.int x), o2, o3, o4] (st) h Q = Go d 149 18 [o0, some (.int x), o2, o3, o4] (.int x :: st) h Q := go_lo (E := (.iload_n 1, 0, 0, 0)) rfl rfl rfl
theorem s_149_18 : Go d 149 18 L (.int x :: .ref 56 :: st) (HP lx xs M) Q = (ex_in x 24 = true ∧ Go d 149 19 L (.int (M 56 x.toNatClampNeg) :: st) (HP lx xs M) Q) := go_al rfl rfl
theorem s_149_19 : Go d 149 19 L (.int y :: .int x :: .ref 66 :: st) (HP lx xs M) Q = (ex_in x 24 = true ∧ Go d 149 20 L (st) (HP lx xs (up M 66 x.toNatClampNeg y)) Q) := go_as rfl rfl (by decide) hs_66
theorem s_149_20 : Go d 149 20 [o0, some (.int x), o2, o3, o4] (st) h Q = Go d 149 23 [o0, some (.int (x + nI 1)), o2, o3, o4] (st) h Q := (ci_i1 ▸ go_lo (E := (.iinc 1 1, 0, 0, 0)) rfl rfl rfl : _ = Go d 149 23 [o0, some (.int (x + nI 1)), o2, o3, o4] (st) h Q)
theorem s_149_23 : Go d 149 23 L (st) h Q = Go d 149 2 L (st) h Q := go_goto rfl
theorem s_149_26 : Go d 149 26 [some (.ref r), o1, o2, o3, o4] (st) h Q = Go d 149 27 [some (.ref r), o1, o2, o3, o4] (.ref r :: st) h Q := go_lo (E := (.aload_n 0, 0, 0, 0)) rfl rfl rfl
theorem s_149_27 : Go d 149 27 L (st) h Q = Go d 149 28 L (.int (-1) :: st) h Q := go_ic rfl ci_im1
theorem s_149_28 {a1 : Int32} : Go (d + 1) 149 28 L [.int a1, .ref 53] (HP lx xs M) Q = Go d 147 0 [some (.ref 53), some (.int a1), none, none, none, none, none] [] (HP lx xs M) (fun v h2 => Go (d + 1) 149 31 L (ap v []) h2 Q) := go_cx (E := (.invokevirtual 190, 147, 0, 7)) (k' := 147) (as := [.ref 53, .int a1]) rfl rfl rfl rfl rfl rfl rfl rfl
theorem s_149_31 : Go d 149 31 L (st) h Q = Go d 149 32 L (.int (nI 0) :: st) h Q := go_ic rfl ci_i0
theorem s_149_32 : Go d 149 32 [o0, o1, o2, o3, o4] (.int x :: st) h Q = Go d 149 33 [o0, some (.int x), o2, o3, o4] (st) h Q := go_lo (E := (.istore_n 1, 0, 0, 0)) rfl rfl rfl
theorem s_149_33 : Go d 149 33 [o0, some (.int x), o2, o3, o4] (st) h Q = Go d 149 34 [o0, some (.int x), o2, o3, o4] (.int x :: st) h Q := go_lo (E := (.iload_n 1, 0, 0, 0)) rfl rfl rfl
theorem s_149_34 : Go d 149 34 [some (.ref r), o1, o2, o3, o4] (st) h Q = Go d 149 35 [some (.ref r), o1, o2, o3, o4] (.ref r :: st) h Q := go_lo (E := (.aload_n 0, 0, 0, 0)) rfl rfl rfl
theorem s_149_35 : Go d 149 35 L (.ref 53 :: st) (HP lx xs M) Q = Go d 149 38 L (.int (M 53 4) :: st) (HP lx xs M) Q := go_gf rfl rfl (by decide) rfl
theorem s_149_38 : Go d 149 38 L (.int y :: .int x :: st) h Q = (if x < y then Go d 149 41 L st h Q else Go d 149 58 L st h Q) := go_icge rfl
theorem s_149_41 : Go d 149 41 [some (.ref r), o1, o2, o3, o4] (st) h Q = Go d 149 42 [some (.ref r), o1, o2, o3, o4] (.ref r :: st) h Q := go_lo (E := (.aload_n 0, 0, 0, 0)) rfl rfl rfl
theorem s_149_42 : Go d 149 42 L (.ref 53 :: st) (HP lx xs M) Q = Go d 149 45 L (.ref 67 :: st) (HP lx xs M) Q := go_gf rfl rfl (by decide) rfl
theorem s_149_45 : Go d 149 45 [o0, some (.int x), o2, o3, o4] (st) h Q = Go d 149 46 [o0, some (.int x), o2, o3, o4] (.int x :: st) h Q := go_lo (E := (.iload_n 1, 0, 0, 0)) rfl rfl rfl
theorem s_149_46 : Go d 149 46 [some (.ref r), o1, o2, o3, o4] (st) h Q = Go d 149 47 [some (.ref r), o1, o2, o3, o4] (.ref r :: st) h Q := go_lo (E := (.aload_n 0, 0, 0, 0)) rfl rfl rfl
theorem s_149_47 : Go d 149 47 [o0, some (.int x), o2, o3, o4] (st) h Q = Go d 149 48 [o0, some (.int x), o2, o3, o4] (.int x :: st) h Q := go_lo (E := (.iload_n 1, 0, 0, 0)) rfl rfl rfl
theorem s_149_48 {a1 : Int32} {z1 : Int32} {zr0 : Nat} : Go (d + 1) 149 48 L [.int a1, .ref 53, .int z1, .ref zr0] (HP lx xs M) Q = Go d 124 0 [some (.ref 53), some (.int a1), none, none] [] (HP lx xs M) (fun v h2 => Go (d + 1) 149 51 L (ap v [.int z1, .ref zr0]) h2 Q) := go_cx (E := (.invokevirtual 116, 124, 0, 7)) (k' := 124) (as := [.ref 53, .int a1]) rfl rfl rfl rfl rfl rfl rfl rfl
theorem s_149_51 : Go d 149 51 L (.int y :: .int x :: .ref 67 :: st) (HP lx xs M) Q = (ex_in x 6 = true ∧ Go d 149 52 L (st) (HP lx xs (up M 67 x.toNatClampNeg y)) Q) := go_as rfl rfl (by decide) hs_67
theorem s_149_52 : Go d 149 52 [o0, some (.int x), o2, o3, o4] (st) h Q = Go d 149 55 [o0, some (.int (x + nI 1)), o2, o3, o4] (st) h Q := (ci_i1 ▸ go_lo (E := (.iinc 1 1, 0, 0, 0)) rfl rfl rfl : _ = Go d 149 55 [o0, some (.int (x + nI 1)), o2, o3, o4] (st) h Q)
theorem s_149_55 : Go d 149 55 L (st) h Q = Go d 149 33 L (st) h Q := go_goto rfl
theorem s_149_58 : Go d 149 58 [some (.ref r), o1, o2, o3, o4] (st) h Q = Go d 149 59 [some (.ref r), o1, o2, o3, o4] (.ref r :: st) h Q := go_lo (E := (.aload_n 0, 0, 0, 0)) rfl rfl rfl
theorem s_149_59  : Go (d + 1) 149 59 L [.ref 53] (HP lx xs M) Q = Go d 148 0 [some (.ref 53), none] [] (HP lx xs M) (fun v h2 => Go (d + 1) 149 62 L (ap v []) h2 Q) := go_cx (E := (.invokevirtual 193, 148, 0, 7)) (k' := 148) (as := [.ref 53]) rfl rfl rfl rfl rfl rfl rfl rfl
theorem s_149_62 : Go d 149 62 L (st) h Q = Go d 149 63 L (.int (nI 0) :: st) h Q := go_ic rfl ci_i0
theorem s_149_63 : Go d 149 63 [o0, o1, o2, o3, o4] (.int x :: st) h Q = Go d 149 64 [o0, some (.int x), o2, o3, o4] (st) h Q := go_lo (E := (.istore_n 1, 0, 0, 0)) rfl rfl rfl
theorem s_149_64 : Go d 149 64 L (st) h Q = Go d 149 65 L (.int (nI 0) :: st) h Q := go_ic rfl ci_i0
theorem s_149_65 : Go d 149 65 [o0, o1, o2, o3, o4] (.int x :: st) h Q = Go d 149 66 [o0, o1, some (.int x), o3, o4] (st) h Q := go_lo (E := (.istore_n 2, 0, 0, 0)) rfl rfl rfl
theorem s_149_66 : Go d 149 66 [o0, o1, some (.int x), o3, o4] (st) h Q = Go d 149 67 [o0, o1, some (.int x), o3, o4] (.int x :: st) h Q := go_lo (E := (.iload_n 2, 0, 0, 0)) rfl rfl rfl
theorem s_149_67 : Go d 149 67 [some (.ref r), o1, o2, o3, o4] (st) h Q = Go d 149 68 [some (.ref r), o1, o2, o3, o4] (.ref r :: st) h Q := go_lo (E := (.aload_n 0, 0, 0, 0)) rfl rfl rfl
theorem s_149_68 : Go d 149 68 L (.ref 53 :: st) (HP lx xs M) Q = Go d 149 71 L (.int (M 53 4) :: st) (HP lx xs M) Q := go_gf rfl rfl (by decide) rfl
theorem s_149_71 : Go d 149 71 L (.int y :: .int x :: st) h Q = (if x < y then Go d 149 74 L st h Q else Go d 149 158 L st h Q) := go_icge rfl
theorem s_149_74 : Go d 149 74 [some (.ref r), o1, o2, o3, o4] (st) h Q = Go d 149 75 [some (.ref r), o1, o2, o3, o4] (.ref r :: st) h Q := go_lo (E := (.aload_n 0, 0, 0, 0)) rfl rfl rfl
theorem s_149_75 : Go d 149 75 [o0, o1, some (.int x), o3, o4] (st) h Q = Go d 149 76 [o0, o1, some (.int x), o3, o4] (.int x :: st) h Q := go_lo (E := (.iload_n 2, 0, 0, 0)) rfl rfl rfl
theorem s_149_76 {a1 : Int32} : Go (d + 1) 149 76 L [.int a1, .ref 53] (HP lx xs M) Q = Go d 147 0 [some (.ref 53), some (.int a1), none, none, none, none, none] [] (HP lx xs M) (fun v h2 => Go (d + 1) 149 79 L (ap v []) h2 Q) := go_cx (E := (.invokevirtual 190, 147, 0, 7)) (k' := 147) (as := [.ref 53, .int a1]) rfl rfl rfl rfl rfl rfl rfl rfl
theorem s_149_79 : Go d 149 79 L (st) h Q = Go d 149 80 L (.int (nI 1) :: st) h Q := go_ic rfl ci_i1
theorem s_149_80 : Go d 149 80 [o0, o1, o2, o3, o4] (.int x :: st) h Q = Go d 149 81 [o0, o1, o2, some (.int x), o4] (st) h Q := go_lo (E := (.istore_n 3, 0, 0, 0)) rfl rfl rfl
theorem s_149_81 : Go d 149 81 L (st) h Q = Go d 149 82 L (.int (nI 0) :: st) h Q := go_ic rfl ci_i0
theorem s_149_82 : Go d 149 82 [o0, o1, o2, o3, o4] (.int x :: st) h Q = Go d 149 84 [o0, o1, o2, o3, some (.int x)] (st) h Q := go_lo (E := (.istore 4, 0, 0, 0)) rfl rfl rfl
theorem s_149_84 : Go d 149 84 [o0, o1, o2, o3, some (.int x)] (st) h Q = Go d 149 86 [o0, o1, o2, o3, some (.int x)] (.int x :: st) h Q := go_lo (E := (.iload 4, 0, 0, 0)) rfl rfl rfl
theorem s_149_86 : Go d 149 86 [some (.ref r), o1, o2, o3, o4] (st) h Q = Go d 149 87 [some (.ref r), o1, o2, o3, o4] (.ref r :: st) h Q := go_lo (E := (.aload_n 0, 0, 0, 0)) rfl rfl rfl
theorem s_149_87 : Go d 149 87 L (.ref 53 :: st) (HP lx xs M) Q = Go d 149 90 L (.int (M 53 4) :: st) (HP lx xs M) Q := go_gf rfl rfl (by decide) rfl
theorem s_149_90 : Go d 149 90 L (.int y :: .int x :: st) h Q = (if x < y then Go d 149 93 L st h Q else Go d 149 134 L st h Q) := go_icge rfl
theorem s_149_93 : Go d 149 93 [o0, o1, o2, some (.int x), o4] (st) h Q = Go d 149 94 [o0, o1, o2, some (.int x), o4] (.int x :: st) h Q := go_lo (E := (.iload_n 3, 0, 0, 0)) rfl rfl rfl
theorem s_149_94 : Go d 149 94 L (.int x :: st) h Q = (if x = 0 then Go d 149 126 L st h Q else Go d 149 97 L st h Q) := go_ifeq rfl
theorem s_149_97 : Go d 149 97 [o0, o1, o2, o3, some (.int x)] (st) h Q = Go d 149 99 [o0, o1, o2, o3, some (.int x)] (.int x :: st) h Q := go_lo (E := (.iload 4, 0, 0, 0)) rfl rfl rfl
theorem s_149_99 : Go d 149 99 [o0, o1, some (.int x), o3, o4] (st) h Q = Go d 149 100 [o0, o1, some (.int x), o3, o4] (.int x :: st) h Q := go_lo (E := (.iload_n 2, 0, 0, 0)) rfl rfl rfl
theorem s_149_100 : Go d 149 100 L (.int y :: .int x :: st) h Q = (if x = y then Go d 149 122 L st h Q else Go d 149 103 L st h Q) := go_iceq rfl
theorem s_149_103 : Go d 149 103 [some (.ref r), o1, o2, o3, o4] (st) h Q = Go d 149 104 [some (.ref r), o1, o2, o3, o4] (.ref r :: st) h Q := go_lo (E := (.aload_n 0, 0, 0, 0)) rfl rfl rfl
theorem s_149_104 : Go d 149 104 L (.ref 53 :: st) (HP lx xs M) Q = Go d 149 107 L (.ref 67 :: st) (HP lx xs M) Q := go_gf rfl rfl (by decide) rfl
theorem s_149_107 : Go d 149 107 [o0, o1, o2, o3, some (.int x)] (st) h Q = Go d 149 109 [o0, o1, o2, o3, some (.int x)] (.int x :: st) h Q := go_lo (E := (.iload 4, 0, 0, 0)) rfl rfl rfl
theorem s_149_109 : Go d 149 109 L (.int x :: .ref 67 :: st) (HP lx xs M) Q = (ex_in x 6 = true ∧ Go d 149 110 L (.int (M 67 x.toNatClampNeg) :: st) (HP lx xs M) Q) := go_al rfl rfl
theorem s_149_110 : Go d 149 110 [some (.ref r), o1, o2, o3, o4] (st) h Q = Go d 149 111 [some (.ref r), o1, o2, o3, o4] (.ref r :: st) h Q := go_lo (E := (.aload_n 0, 0, 0, 0)) rfl rfl rfl
theorem s_149_111 : Go d 149 111 [o0, o1, o2, o3, some (.int x)] (st) h Q = Go d 149 113 [o0, o1, o2, o3, some (.int x)] (.int x :: st) h Q := go_lo (E := (.iload 4, 0, 0, 0)) rfl rfl rfl
theorem s_149_113 {a1 : Int32} {z0 : Int32} : Go (d + 1) 149 113 L [.int a1, .ref 53, .int z0] (HP lx xs M) Q = Go d 124 0 [some (.ref 53), some (.int a1), none, none] [] (HP lx xs M) (fun v h2 => Go (d + 1) 149 116 L (ap v [.int z0]) h2 Q) := go_cx (E := (.invokevirtual 116, 124, 0, 7)) (k' := 124) (as := [.ref 53, .int a1]) rfl rfl rfl rfl rfl rfl rfl rfl
theorem s_149_116 : Go d 149 116 L (st) h Q = Go d 149 117 L (.int (-1) :: st) h Q := go_ic rfl ci_im1
theorem s_149_117 : Go d 149 117 L (.int y :: .int x :: st) h Q = Go d 149 118 L (.int (x ^^^ y) :: st) h Q := go_op (E := (.ixor, 0, 0, 0)) rfl rfl
theorem s_149_118 : Go d 149 118 L (.int y :: .int x :: st) h Q = Go d 149 119 L (.int (x &&& y) :: st) h Q := go_op (E := (.iand, 0, 0, 0)) rfl rfl
theorem s_149_119 : Go d 149 119 L (.int x :: st) h Q = (if x = 0 then Go d 149 122 L st h Q else Go d 149 126 L st h Q) := go_ifne rfl
theorem s_149_122 : Go d 149 122 L (st) h Q = Go d 149 123 L (.int (nI 1) :: st) h Q := go_ic rfl ci_i1
theorem s_149_123 : Go d 149 123 L (st) h Q = Go d 149 127 L (st) h Q := go_goto rfl
theorem s_149_126 : Go d 149 126 L (st) h Q = Go d 149 127 L (.int (nI 0) :: st) h Q := go_ic rfl ci_i0
theorem s_149_127 : Go d 149 127 [o0, o1, o2, o3, o4] (.int x :: st) h Q = Go d 149 128 [o0, o1, o2, some (.int x), o4] (st) h Q := go_lo (E := (.istore_n 3, 0, 0, 0)) rfl rfl rfl
theorem s_149_128 : Go d 149 128 [o0, o1, o2, o3, some (.int x)] (st) h Q = Go d 149 131 [o0, o1, o2, o3, some (.int (x + nI 1))] (st) h Q := (ci_i1 ▸ go_lo (E := (.iinc 4 1, 0, 0, 0)) rfl rfl rfl : _ = Go d 149 131 [o0, o1, o2, o3, some (.int (x + nI 1))] (st) h Q)
theorem s_149_131 : Go d 149 131 L (st) h Q = Go d 149 84 L (st) h Q := go_goto rfl
theorem s_149_134 : Go d 149 134 [some (.ref r), o1, o2, o3, o4] (st) h Q = Go d 149 135 [some (.ref r), o1, o2, o3, o4] (.ref r :: st) h Q := go_lo (E := (.aload_n 0, 0, 0, 0)) rfl rfl rfl
theorem s_149_135  : Go (d + 1) 149 135 L [.ref 53] (HP lx xs M) Q = Go d 148 0 [some (.ref 53), none] [] (HP lx xs M) (fun v h2 => Go (d + 1) 149 138 L (ap v []) h2 Q) := go_cx (E := (.invokevirtual 193, 148, 0, 7)) (k' := 148) (as := [.ref 53]) rfl rfl rfl rfl rfl rfl rfl rfl
theorem s_149_138 : Go d 149 138 [o0, some (.int x), o2, o3, o4] (st) h Q = Go d 149 139 [o0, some (.int x), o2, o3, o4] (.int x :: st) h Q := go_lo (E := (.iload_n 1, 0, 0, 0)) rfl rfl rfl
theorem s_149_139 : Go d 149 139 [o0, o1, o2, some (.int x), o4] (st) h Q = Go d 149 140 [o0, o1, o2, some (.int x), o4] (.int x :: st) h Q := go_lo (E := (.iload_n 3, 0, 0, 0)) rfl rfl rfl
theorem s_149_140 : Go d 149 140 L (.int x :: st) h Q = (if x = 0 then Go d 149 149 L st h Q else Go d 149 143 L st h Q) := go_ifeq rfl
theorem s_149_143 : Go d 149 143 L (st) h Q = Go d 149 144 L (.int (nI 1) :: st) h Q := go_ic rfl ci_i1
theorem s_149_144 : Go d 149 144 [o0, o1, some (.int x), o3, o4] (st) h Q = Go d 149 145 [o0, o1, some (.int x), o3, o4] (.int x :: st) h Q := go_lo (E := (.iload_n 2, 0, 0, 0)) rfl rfl rfl
theorem s_149_145 : Go d 149 145 L (.int y :: .int x :: st) h Q = Go d 149 146 L (.int (x <<< (y &&& 31)) :: st) h Q := go_op (E := (.ishl, 0, 0, 0)) rfl rfl
theorem s_149_146 : Go d 149 146 L (st) h Q = Go d 149 150 L (st) h Q := go_goto rfl
theorem s_149_149 : Go d 149 149 L (st) h Q = Go d 149 150 L (.int (nI 0) :: st) h Q := go_ic rfl ci_i0
theorem s_149_150 : Go d 149 150 L (.int y :: .int x :: st) h Q = Go d 149 151 L (.int (x ||| y) :: st) h Q := go_op (E := (.ior, 0, 0, 0)) rfl rfl
theorem s_149_151 : Go d 149 151 [o0, o1, o2, o3, o4] (.int x :: st) h Q = Go d 149 152 [o0, some (.int x), o2, o3, o4] (st) h Q := go_lo (E := (.istore_n 1, 0, 0, 0)) rfl rfl rfl
theorem s_149_152 : Go d 149 152 [o0, o1, some (.int x), o3, o4] (st) h Q = Go d 149 155 [o0, o1, some (.int (x + nI 1)), o3, o4] (st) h Q := (ci_i1 ▸ go_lo (E := (.iinc 2 1, 0, 0, 0)) rfl rfl rfl : _ = Go d 149 155 [o0, o1, some (.int (x + nI 1)), o3, o4] (st) h Q)
theorem s_149_155 : Go d 149 155 L (st) h Q = Go d 149 66 L (st) h Q := go_goto rfl
theorem s_149_158 : Go d 149 158 [o0, some (.int x), o2, o3, o4] (st) h Q = Go d 149 159 [o0, some (.int x), o2, o3, o4] (.int x :: st) h Q := go_lo (E := (.iload_n 1, 0, 0, 0)) rfl rfl rfl
set_option maxRecDepth 30000 in
theorem s_149_159 : Go d 149 159 L [.int x] h Q = Q (some (.int x)) h := go_ri rfl rfl
theorem s_150_0 : Go d 150 0 [o0, some (.int x), o2, o3, o4, o5, o6] (st) h Q = Go d 150 1 [o0, some (.int x), o2, o3, o4, o5, o6] (.int x :: st) h Q := go_lo (E := (.iload_n 1, 0, 0, 0)) rfl rfl rfl
theorem s_150_1 : Go d 150 1 L (.int x :: st) h Q = Go d 150 2 L (.long (x.toInt64) :: st) h Q := go_op (E := (.i2l, 0, 0, 0)) rfl rfl
theorem s_150_2 : Go d 150 2 L (st) h Q = Go d 150 3 L (.long (lN 0) :: st) h Q := go_op (E := (.lconst 0, 0, 0, 0)) rfl rfl
theorem s_150_3 : Go d 150 3 L (st) h Q = Go d 150 6 L (.long (lN 15) :: st) h Q := go_ld2 rfl ci_l15
theorem s_150_6 {al0 : Int64} {al1 : Int64} {al2 : Int64} : Go (d + 1) 150 6 L [.long al2, .long al1, .long al0] h Q = Go d 114 0 [some (.long al0), none, some (.long al1), none, some (.long al2), none] [] h (fun v h2 => Go (d + 1) 150 9 L (ap v []) h2 Q) := go_cx (E := (.invokestatic 84, 114, 0, 0)) (k' := 114) (as := [.long al0, .long al1, .long al2]) rfl rfl rfl rfl rfl rfl rfl rfl
theorem s_150_9 : Go d 150 9 L (.int x :: st) h Q = (if x = 0 then Go d 150 24 L st h Q else Go d 150 12 L st h Q) := go_ifeq rfl
theorem s_150_12 : Go d 150 12 [o0, o1, some (.int x), o3, o4, o5, o6] (st) h Q = Go d 150 13 [o0, o1, some (.int x), o3, o4, o5, o6] (.int x :: st) h Q := go_lo (E := (.iload_n 2, 0, 0, 0)) rfl rfl rfl
theorem s_150_13 : Go d 150 13 L (.int x :: st) h Q = Go d 150 14 L (.long (x.toInt64) :: st) h Q := go_op (E := (.i2l, 0, 0, 0)) rfl rfl
theorem s_150_14 : Go d 150 14 L (st) h Q = Go d 150 15 L (.long (lN 0) :: st) h Q := go_op (E := (.lconst 0, 0, 0, 0)) rfl rfl
theorem s_150_15 : Go d 150 15 L (st) h Q = Go d 150 18 L (.long (lN 3) :: st) h Q := go_ld2 rfl ci_l3
theorem s_150_18 {al0 : Int64} {al1 : Int64} {al2 : Int64} : Go (d + 1) 150 18 L [.long al2, .long al1, .long al0] h Q = Go d 114 0 [some (.long al0), none, some (.long al1), none, some (.long al2), none] [] h (fun v h2 => Go (d + 1) 150 21 L (ap v []) h2 Q) := go_cx (E := (.invokestatic 84, 114, 0, 0)) (k' := 114) (as := [.long al0, .long al1, .long al2]) rfl rfl rfl rfl rfl rfl rfl rfl
theorem s_150_21 : Go d 150 21 L (.int x :: st) h Q = (if x = 0 then Go d 150 24 L st h Q else Go d 150 26 L st h Q) := go_ifne rfl
theorem s_150_24 : Go d 150 24 L (st) h Q = Go d 150 25 L (.int (-1) :: st) h Q := go_ic rfl ci_im1
theorem s_150_25 : Go d 150 25 L [.int x] h Q = Q (some (.int x)) h := go_ri rfl rfl
theorem s_150_26 : Go d 150 26 [o0, some (.int x), o2, o3, o4, o5, o6] (st) h Q = Go d 150 27 [o0, some (.int x), o2, o3, o4, o5, o6] (.int x :: st) h Q := go_lo (E := (.iload_n 1, 0, 0, 0)) rfl rfl rfl
theorem s_150_27 : Go d 150 27 [o0, o1, o2, o3, o4, o5, o6] (.int x :: st) h Q = Go d 150 28 [o0, o1, o2, some (.int x), o4, o5, o6] (st) h Q := go_lo (E := (.istore_n 3, 0, 0, 0)) rfl rfl rfl
theorem s_150_28 : Go d 150 28 L (st) h Q = Go d 150 29 L (.int (nI 0) :: st) h Q := go_ic rfl ci_i0
theorem s_150_29 : Go d 150 29 [o0, o1, o2, o3, o4, o5, o6] (.int x :: st) h Q = Go d 150 31 [o0, o1, o2, o3, some (.int x), o5, o6] (st) h Q := go_lo (E := (.istore 4, 0, 0, 0)) rfl rfl rfl
theorem s_150_31 : Go d 150 31 [o0, o1, o2, some (.int x), o4, o5, o6] (st) h Q = Go d 150 32 [o0, o1, o2, some (.int x), o4, o5, o6] (.int x :: st) h Q := go_lo (E := (.iload_n 3, 0, 0, 0)) rfl rfl rfl
theorem s_150_32 : Go d 150 32 L (.int x :: st) h Q = (if x = 0 then Go d 150 114 L st h Q else Go d 150 35 L st h Q) := go_ifeq rfl
theorem s_150_35 : Go d 150 35 L (st) h Q = Go d 150 36 L (.int (-1) :: st) h Q := go_ic rfl ci_im1
theorem s_150_36 : Go d 150 36 [o0, o1, o2, o3, o4, o5, o6] (.int x :: st) h Q = Go d 150 38 [o0, o1, o2, o3, o4, some (.int x), o6] (st) h Q := go_lo (E := (.istore 5, 0, 0, 0)) rfl rfl rfl
theorem s_150_38 : Go d 150 38 L (st) h Q = Go d 150 39 L (.int (nI 3) :: st) h Q := go_ic rfl ci_i3
theorem s_150_39 : Go d 150 39 [o0, o1, o2, o3, o4, o5, o6] (.int x :: st) h Q = Go d 150 41 [o0, o1, o2, o3, o4, o5, some (.int x)] (st) h Q := go_lo (E := (.istore 6, 0, 0, 0)) rfl rfl rfl
theorem s_150_41 : Go d 150 41 [o0, o1, o2, o3, o4, o5, some (.int x)] (st) h Q = Go d 150 43 [o0, o1, o2, o3, o4, o5, some (.int x)] (.int x :: st) h Q := go_lo (E := (.iload 6, 0, 0, 0)) rfl rfl rfl
theorem s_150_43 : Go d 150 43 L (.int x :: st) h Q = (if x < 0 then Go d 150 82 L st h Q else Go d 150 46 L st h Q) := go_iflt rfl
theorem s_150_46 : Go d 150 46 [o0, o1, o2, some (.int x), o4, o5, o6] (st) h Q = Go d 150 47 [o0, o1, o2, some (.int x), o4, o5, o6] (.int x :: st) h Q := go_lo (E := (.iload_n 3, 0, 0, 0)) rfl rfl rfl
theorem s_150_47 : Go d 150 47 [o0, o1, o2, o3, o4, o5, some (.int x)] (st) h Q = Go d 150 49 [o0, o1, o2, o3, o4, o5, some (.int x)] (.int x :: st) h Q := go_lo (E := (.iload 6, 0, 0, 0)) rfl rfl rfl
theorem s_150_49 {a0 : Int32} {a1 : Int32} : Go (d + 1) 150 49 L [.int a1, .int a0] h Q = Go d 115 0 [some (.int a0), some (.int a1)] [] h (fun v h2 => Go (d + 1) 150 52 L (ap v []) h2 Q) := go_cx (E := (.invokestatic 107, 115, 0, 0)) (k' := 115) (as := [.int a0, .int a1]) rfl rfl rfl rfl rfl rfl rfl rfl
theorem s_150_52 : Go d 150 52 L (.int x :: st) h Q = (if x = 0 then Go d 150 72 L st h Q else Go d 150 55 L st h Q) := go_ifeq rfl
theorem s_150_55 : Go d 150 55 [some (.ref r), o1, o2, o3, o4, o5, o6] (st) h Q = Go d 150 56 [some (.ref r), o1, o2, o3, o4, o5, o6] (.ref r :: st) h Q := go_lo (E := (.aload_n 0, 0, 0, 0)) rfl rfl rfl
theorem s_150_56 : Go d 150 56 L (.ref 53 :: st) (HP lx xs M) Q = Go d 150 59 L (.ref 57 :: st) (HP lx xs M) Q := go_gf rfl rfl (by decide) rfl
theorem s_150_59 : Go d 150 59 [o0, o1, o2, o3, o4, o5, some (.int x)] (st) h Q = Go d 150 61 [o0, o1, o2, o3, o4, o5, some (.int x)] (.int x :: st) h Q := go_lo (E := (.iload 6, 0, 0, 0)) rfl rfl rfl
theorem s_150_61 : Go d 150 61 L (.int x :: .ref 57 :: st) (HP lx xs M) Q = (ex_in x 4 = true ∧ Go d 150 62 L (.int (M 57 x.toNatClampNeg) :: st) (HP lx xs M) Q) := go_al rfl rfl
theorem s_150_62 : Go d 150 62 [o0, o1, o2, some (.int x), o4, o5, o6] (st) h Q = Go d 150 63 [o0, o1, o2, some (.int x), o4, o5, o6] (.int x :: st) h Q := go_lo (E := (.iload_n 3, 0, 0, 0)) rfl rfl rfl
theorem s_150_63 : Go d 150 63 L (.int y :: .int x :: st) h Q = Go d 150 64 L (.int (x &&& y) :: st) h Q := go_op (E := (.iand, 0, 0, 0)) rfl rfl
theorem s_150_64 : Go d 150 64 L (.int x :: st) h Q = (if x = 0 then Go d 150 67 L st h Q else Go d 150 72 L st h Q) := go_ifne rfl
theorem s_150_67 : Go d 150 67 [o0, o1, o2, o3, o4, o5, some (.int x)] (st) h Q = Go d 150 69 [o0, o1, o2, o3, o4, o5, some (.int x)] (.int x :: st) h Q := go_lo (E := (.iload 6, 0, 0, 0)) rfl rfl rfl
theorem s_150_69 : Go d 150 69 L (st) h Q = Go d 150 74 L (st) h Q := go_goto rfl
theorem s_150_72 : Go d 150 72 [o0, o1, o2, o3, o4, some (.int x), o6] (st) h Q = Go d 150 74 [o0, o1, o2, o3, o4, some (.int x), o6] (.int x :: st) h Q := go_lo (E := (.iload 5, 0, 0, 0)) rfl rfl rfl
theorem s_150_74 : Go d 150 74 [o0, o1, o2, o3, o4, o5, o6] (.int x :: st) h Q = Go d 150 76 [o0, o1, o2, o3, o4, some (.int x), o6] (st) h Q := go_lo (E := (.istore 5, 0, 0, 0)) rfl rfl rfl
theorem s_150_76 : Go d 150 76 [o0, o1, o2, o3, o4, o5, some (.int x)] (st) h Q = Go d 150 79 [o0, o1, o2, o3, o4, o5, some (.int (x + -1))] (st) h Q := (ci_im1 ▸ go_lo (E := (.iinc 6 (-1), 0, 0, 0)) rfl rfl rfl : _ = Go d 150 79 [o0, o1, o2, o3, o4, o5, some (.int (x + -1))] (st) h Q)
theorem s_150_79 : Go d 150 79 L (st) h Q = Go d 150 41 L (st) h Q := go_goto rfl
theorem s_150_82 : Go d 150 82 [o0, o1, o2, o3, o4, some (.int x), o6] (st) h Q = Go d 150 84 [o0, o1, o2, o3, o4, some (.int x), o6] (.int x :: st) h Q := go_lo (E := (.iload 5, 0, 0, 0)) rfl rfl rfl
theorem s_150_84 : Go d 150 84 L (.int x :: st) h Q = (if x < 0 then Go d 150 87 L st h Q else Go d 150 90 L st h Q) := go_ifge rfl
theorem s_150_87 : Go d 150 87 L (st) h Q = Go d 150 89 L (.int (-4) :: st) h Q := go_bi rfl ci_bm4
theorem s_150_89 : Go d 150 89 L [.int x] h Q = Q (some (.int x)) h := go_ri rfl rfl
theorem s_150_90 : Go d 150 90 [some (.ref r), o1, o2, o3, o4, o5, o6] (st) h Q = Go d 150 91 [some (.ref r), o1, o2, o3, o4, o5, o6] (.ref r :: st) h Q := go_lo (E := (.aload_n 0, 0, 0, 0)) rfl rfl rfl
theorem s_150_91 : Go d 150 91 L (.ref 53 :: st) (HP lx xs M) Q = Go d 150 94 L (.ref 68 :: st) (HP lx xs M) Q := go_gf rfl rfl (by decide) rfl
theorem s_150_94 : Go d 150 94 [o0, o1, o2, o3, some (.int x), o5, o6] (st) h Q = Go d 150 96 [o0, o1, o2, o3, some (.int x), o5, o6] (.int x :: st) h Q := go_lo (E := (.iload 4, 0, 0, 0)) rfl rfl rfl
theorem s_150_96 : Go d 150 96 [o0, o1, o2, o3, o4, some (.int x), o6] (st) h Q = Go d 150 98 [o0, o1, o2, o3, o4, some (.int x), o6] (.int x :: st) h Q := go_lo (E := (.iload 5, 0, 0, 0)) rfl rfl rfl
theorem s_150_98 : Go d 150 98 L (.int y :: .int x :: .ref 68 :: st) (HP lx xs M) Q = (ex_in x 6 = true ∧ Go d 150 99 L (st) (HP lx xs (up M 68 x.toNatClampNeg y)) Q) := go_as rfl rfl (by decide) hs_68
theorem s_150_99 : Go d 150 99 [o0, o1, o2, o3, some (.int x), o5, o6] (st) h Q = Go d 150 102 [o0, o1, o2, o3, some (.int (x + nI 1)), o5, o6] (st) h Q := (ci_i1 ▸ go_lo (E := (.iinc 4 1, 0, 0, 0)) rfl rfl rfl : _ = Go d 150 102 [o0, o1, o2, o3, some (.int (x + nI 1)), o5, o6] (st) h Q)
theorem s_150_102 : Go d 150 102 [o0, o1, o2, some (.int x), o4, o5, o6] (st) h Q = Go d 150 103 [o0, o1, o2, some (.int x), o4, o5, o6] (.int x :: st) h Q := go_lo (E := (.iload_n 3, 0, 0, 0)) rfl rfl rfl
theorem s_150_103 : Go d 150 103 L (st) h Q = Go d 150 104 L (.int (nI 1) :: st) h Q := go_ic rfl ci_i1
theorem s_150_104 : Go d 150 104 [o0, o1, o2, o3, o4, some (.int x), o6] (st) h Q = Go d 150 106 [o0, o1, o2, o3, o4, some (.int x), o6] (.int x :: st) h Q := go_lo (E := (.iload 5, 0, 0, 0)) rfl rfl rfl
theorem s_150_106 : Go d 150 106 L (.int y :: .int x :: st) h Q = Go d 150 107 L (.int (x <<< (y &&& 31)) :: st) h Q := go_op (E := (.ishl, 0, 0, 0)) rfl rfl
theorem s_150_107 : Go d 150 107 L (st) h Q = Go d 150 108 L (.int (-1) :: st) h Q := go_ic rfl ci_im1
theorem s_150_108 : Go d 150 108 L (.int y :: .int x :: st) h Q = Go d 150 109 L (.int (x ^^^ y) :: st) h Q := go_op (E := (.ixor, 0, 0, 0)) rfl rfl
theorem s_150_109 : Go d 150 109 L (.int y :: .int x :: st) h Q = Go d 150 110 L (.int (x &&& y) :: st) h Q := go_op (E := (.iand, 0, 0, 0)) rfl rfl
theorem s_150_110 : Go d 150 110 [o0, o1, o2, o3, o4, o5, o6] (.int x :: st) h Q = Go d 150 111 [o0, o1, o2, some (.int x), o4, o5, o6] (st) h Q := go_lo (E := (.istore_n 3, 0, 0, 0)) rfl rfl rfl
theorem s_150_111 : Go d 150 111 L (st) h Q = Go d 150 31 L (st) h Q := go_goto rfl
theorem s_150_114 : Go d 150 114 [o0, o1, some (.int x), o3, o4, o5, o6] (st) h Q = Go d 150 115 [o0, o1, some (.int x), o3, o4, o5, o6] (.int x :: st) h Q := go_lo (E := (.iload_n 2, 0, 0, 0)) rfl rfl rfl
theorem s_150_115 : Go d 150 115 [o0, o1, o2, o3, some (.int x), o5, o6] (st) h Q = Go d 150 117 [o0, o1, o2, o3, some (.int x), o5, o6] (.int x :: st) h Q := go_lo (E := (.iload 4, 0, 0, 0)) rfl rfl rfl
theorem s_150_117 : Go d 150 117 L (.int y :: .int x :: st) h Q = (if x < y then Go d 150 120 L st h Q else Go d 150 129 L st h Q) := go_icge rfl
theorem s_150_120 : Go d 150 120 [some (.ref r), o1, o2, o3, o4, o5, o6] (st) h Q = Go d 150 121 [some (.ref r), o1, o2, o3, o4, o5, o6] (.ref r :: st) h Q := go_lo (E := (.aload_n 0, 0, 0, 0)) rfl rfl rfl
theorem s_150_121 : Go d 150 121 L (.ref 53 :: st) (HP lx xs M) Q = Go d 150 124 L (.ref 68 :: st) (HP lx xs M) Q := go_gf rfl rfl (by decide) rfl
theorem s_150_124 : Go d 150 124 [o0, o1, some (.int x), o3, o4, o5, o6] (st) h Q = Go d 150 125 [o0, o1, some (.int x), o3, o4, o5, o6] (.int x :: st) h Q := go_lo (E := (.iload_n 2, 0, 0, 0)) rfl rfl rfl
theorem s_150_125 : Go d 150 125 L (.int x :: .ref 68 :: st) (HP lx xs M) Q = (ex_in x 6 = true ∧ Go d 150 126 L (.int (M 68 x.toNatClampNeg) :: st) (HP lx xs M) Q) := go_al rfl rfl
theorem s_150_126 : Go d 150 126 L (st) h Q = Go d 150 131 L (st) h Q := go_goto rfl
theorem s_150_129 : Go d 150 129 L (st) h Q = Go d 150 131 L (.int (-4) :: st) h Q := go_bi rfl ci_bm4
theorem s_150_131 : Go d 150 131 L [.int x] h Q = Q (some (.int x)) h := go_ri rfl rfl
end SL
